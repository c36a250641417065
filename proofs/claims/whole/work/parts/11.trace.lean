abbrev S_Trace : Type := (((Nat → Int32) × Int32) × Int64)
def w_Trace (h : Nat) (t : Nat → Nat) (g : GG) (σ : S_Trace) : va_W := [(h, .inr (6, [.ref (t 0), .long σ.2])), (t 0, .inr (5, [.ref (t 1), .int σ.1.2])), (t 1, .inl (g.2.1, 5000, .inl σ.1.1))]
def f_X7_clear (size : Int32) (sum : Int64) : (Int32 × Int64) := bd (f_X6_clear size) (fun o1 => ((o1, (0 : Int64))))
def rb_X7_clear (σ : S_Trace) (o : (Int32 × Int64)) : S_Trace := ((σ.1.1, o.1), o.2)
set_option maxHeartbeats 4000000 in
set_option maxRecDepth 100000 in
theorem c_X7_clear (l : Launch) (g : GG) (h : Nat) (t : Nat → Nat) (kept : Nat → Int32) (size : Int32) (sum : Int64) : CV l g yX7_clear cX7_clear 1 none (rmN 1) (w_Trace h t g) [.ref h] ((kept, size), sum) (rb_X7_clear ((kept, size), sum) (f_X7_clear size sum)) := by
  refine CV.mk (by decide) (Nat.le_of_ble_eq_true rfl) ?_
  intro p e s m below meth c A ls hI hw hl
  have hx := hI.1
  have hb := hI.2.1
  obtain ⟨r, hr⟩ : ∃ r, r = rb_X7_clear ((kept, size), sum) (f_X7_clear size sum) := ⟨_, rfl⟩
  rw [← hr]
  have hl : lv_has ls 1 [(0, .ref h)] := hl
  refine lv_aload_n hx hb dX7_clear_0 rfl (lv_at hl 0 rfl) ?_
  refine hI.get (v := .ref (t 0)) hw fg_X7_14 0 rfl rfl dX7_clear_1 ?_
  obtain ⟨o1, ho1⟩ : ∃ o, o = f_X6_clear size := ⟨_, rfl⟩
  refine hI.callV (wl := w_Tape t 5000 g) (a := (kept, size)) (wr := [(h, .inr (6, [.ref (t 0), .long sum]))]) (ws1 := w_Trace h t g ((kept, o1), sum)) (r := rb_X6_clear (kept, size) o1) (As := []) (rest := []) hw (by rw [ho1]; exact c_X6_clear l g t 5000 kept size ) ok_yX6_clear ml_X7_20 (rm_ok (by decide) (by decide)) [1, 2] [0] [0, 1, 2] rfl rfl rfl rfl rfl 0 rfl rfl rfl rfl hl.1 (Nat.le_of_ble_eq_true rfl) dX7_clear_4 ⟨Nat.zero_le _, Nat.zero_le _⟩ (fun H locs hw => ?_)
  have hw : Wd g A s (w_Trace h t g ((kept, o1), sum)) H locs := hw
  refine W.eq (g2 := F0 m 7 ls []) rfl ?_
  refine lv_aload_n hx hb dX7_clear_7 rfl (lv_at hl 0 rfl) ?_
  refine lv_lconst (v := (0 : Int64)) hx hb dX7_clear_8 (by decide) ?_
  refine hI.put hw fp_X7_23 rfl 0 rfl rfl rfl (Nat.le_of_ble_eq_true rfl) dX7_clear_9 (fun H locs hw => ?_)
  have hw : Wd g A s (w_Trace h t g ((kept, o1), (0 : Int64))) H locs := hw
  exact hI.retV (u := ((kept, o1), (0 : Int64))) hw (hr.trans (congrArg (rb_X7_clear ((kept, size), sum)) ((show f_X7_clear size sum = ((o1, (0 : Int64))) from bd_of ho1 (rfl))))) dX7_clear_12
def f_X7_add (kept : Nat → Int32) (size : Int32) (sum : Int64) (x1 : Int32) : (((Nat → Int32) × Int32) × Int64) := bd (f_X6_add 5000 kept size x1) (fun o1 => (((o1.1, o1.2), ((31 : Int64) * sum) + x1.toInt64)))
def rb_X7_add (σ : S_Trace) (o : (((Nat → Int32) × Int32) × Int64)) : S_Trace := ((o.1.1, o.1.2), o.2)
set_option maxHeartbeats 4000000 in
set_option maxRecDepth 100000 in
theorem c_X7_add (l : Launch) (g : GG) (h : Nat) (t : Nat → Nat) (kept : Nat → Int32) (size : Int32) (sum : Int64) (x1 : Int32) : CV l g yX7_add cX7_add 2 none (rmN 1) (w_Trace h t g) [.ref h, .int x1] ((kept, size), sum) (rb_X7_add ((kept, size), sum) (f_X7_add kept size sum x1)) := by
  refine CV.mk (by decide) (Nat.le_of_ble_eq_true rfl) ?_
  intro p e s m below meth c A ls hI hw hl
  have hx := hI.1
  have hb := hI.2.1
  obtain ⟨r, hr⟩ : ∃ r, r = rb_X7_add ((kept, size), sum) (f_X7_add kept size sum x1) := ⟨_, rfl⟩
  rw [← hr]
  have hl : lv_has ls 2 [(0, .ref h), (1, .int x1)] := hl
  refine lv_aload_n hx hb dX7_add_0 rfl (lv_at hl 0 rfl) ?_
  refine hI.get (v := .ref (t 0)) hw fg_X7_14 0 rfl rfl dX7_add_1 ?_
  refine lv_iload_n hx hb dX7_add_4 rfl (lv_at hl 1 rfl) ?_
  obtain ⟨o1, ho1⟩ : ∃ o, o = f_X6_add 5000 kept size x1 := ⟨_, rfl⟩
  refine hI.callV (wl := w_Tape t 5000 g) (a := (kept, size)) (wr := [(h, .inr (6, [.ref (t 0), .long sum]))]) (ws1 := w_Trace h t g ((o1.1, o1.2), sum)) (r := rb_X6_add (kept, size) o1) (As := [.int x1]) (rest := []) hw (by rw [ho1]; exact c_X6_add l g t 5000 kept size x1 (by decide)) ok_yX6_add ml_X7_27 (rm_ok (by decide) (by decide)) [1, 2] [0] [0, 1, 2] rfl rfl rfl rfl rfl 0 rfl rfl rfl rfl hl.1 (Nat.le_of_ble_eq_true rfl) dX7_add_5 ⟨Nat.zero_le _, Nat.zero_le _⟩ (fun H locs hw => ?_)
  have hw : Wd g A s (w_Trace h t g ((o1.1, o1.2), sum)) H locs := hw
  refine W.eq (g2 := F0 m 8 ls []) rfl ?_
  refine lv_aload_n hx hb dX7_add_8 rfl (lv_at hl 0 rfl) ?_
  refine lv_ldc2 (v := (31 : Int64)) hx hb hI.2.2.2.1 (hI.2.2.2.2.1 _ mcon_X7_30) dX7_add_9 ?_
  refine lv_aload_n hx hb dX7_add_12 rfl (lv_at hl 0 rfl) ?_
  refine hI.get (v := .long sum) hw fg_X7_23 0 rfl rfl dX7_add_13 ?_
  refine lv_lmul hx hb dX7_add_16 ?_
  refine lv_iload_n hx hb dX7_add_17 rfl (lv_at hl 1 rfl) ?_
  refine lv_i2l (v := x1.toInt64) hx hb dX7_add_18 rfl ?_
  refine lv_ladd hx hb dX7_add_19 ?_
  refine hI.put hw fp_X7_23 rfl 0 rfl rfl rfl (Nat.le_of_ble_eq_true rfl) dX7_add_20 (fun H locs hw => ?_)
  have hw : Wd g A s (w_Trace h t g ((o1.1, o1.2), ((31 : Int64) * sum) + x1.toInt64)) H locs := hw
  exact hI.retV (u := ((o1.1, o1.2), ((31 : Int64) * sum) + x1.toInt64)) hw (hr.trans (congrArg (rb_X7_add ((kept, size), sum)) ((show f_X7_add kept size sum x1 = (((o1.1, o1.2), ((31 : Int64) * sum) + x1.toInt64)) from bd_of ho1 (rfl))))) dX7_add_23
def f_X7_read (kept : Nat → Int32) (size : Int32) (x1 : Int32) : Int32 := bd (f_X6_read 5000 kept size x1 (-1 : Int32)) (fun o1 => (o1))
def rb_X7_read (σ : S_Trace) (o : Int32) : Int32 × S_Trace := (o, σ)
set_option maxHeartbeats 4000000 in
set_option maxRecDepth 100000 in
theorem c_X7_read (l : Launch) (g : GG) (h : Nat) (t : Nat → Nat) (kept : Nat → Int32) (size : Int32) (sum : Int64) (x1 : Int32) : CI l g yX7_read cX7_read 2 (some .int) (rmN 1) (w_Trace h t g) [.ref h, .int x1] ((kept, size), sum) (rb_X7_read ((kept, size), sum) (f_X7_read kept size x1)) := by
  refine CI.mk (by decide) (Nat.le_of_ble_eq_true rfl) ?_
  intro p e s m below meth c A ls hI hw hl
  have hx := hI.1
  have hb := hI.2.1
  obtain ⟨r, hr⟩ : ∃ r, r = rb_X7_read ((kept, size), sum) (f_X7_read kept size x1) := ⟨_, rfl⟩
  rw [← hr]
  have hl : lv_has ls 2 [(0, .ref h), (1, .int x1)] := hl
  refine lv_aload_n hx hb dX7_read_0 rfl (lv_at hl 0 rfl) ?_
  refine hI.get (v := .ref (t 0)) hw fg_X7_14 0 rfl rfl dX7_read_1 ?_
  refine lv_iload_n hx hb dX7_read_4 rfl (lv_at hl 1 rfl) ?_
  refine lv_iconst (v := (-1 : Int32)) hx hb dX7_read_5 (by decide) ?_
  obtain ⟨o1, ho1⟩ : ∃ o, o = f_X6_read 5000 kept size x1 (-1 : Int32) := ⟨_, rfl⟩
  refine hI.callI (wl := w_Tape t 5000 g) (a := (kept, size)) (wr := [(h, .inr (6, [.ref (t 0), .long sum]))]) (ws1 := w_Trace h t g ((kept, size), sum)) (r := rb_X6_read (kept, size) o1) (As := [.int x1, .int (-1 : Int32)]) (rest := []) hw (by rw [ho1]; exact c_X6_read l g t 5000 kept size x1 (-1 : Int32) (by decide)) ok_yX6_read ml_X7_32 (rm_ok (by decide) (by decide)) [1, 2] [0] [0, 1, 2] rfl rfl rfl rfl rfl 0 rfl rfl rfl rfl hl.1 (Nat.le_of_ble_eq_true rfl) dX7_read_6 ⟨Nat.zero_le _, Nat.zero_le _⟩ (fun H locs hw => ?_)
  have hw : Wd g A s (w_Trace h t g ((kept, size), sum)) H locs := hw
  refine W.eq (g2 := F0 m 9 ls [.int o1]) rfl ?_
  exact hI.retI (u := ((kept, size), sum)) hw (hr.trans (congrArg (rb_X7_read ((kept, size), sum)) ((show f_X7_read kept size x1 = (o1) from bd_of ho1 (rfl))))) dX7_read_9
def f_X7_sum (sum : Int64) : Int64 := (sum)
def rb_X7_sum (σ : S_Trace) (o : Int64) : Int64 × S_Trace := (o, σ)
set_option maxHeartbeats 4000000 in
set_option maxRecDepth 100000 in
theorem c_X7_sum (l : Launch) (g : GG) (h : Nat) (t : Nat → Nat) (kept : Nat → Int32) (size : Int32) (sum : Int64) : CL l g yX7_sum cX7_sum 1 (some .long) (rmN 0) (w_Trace h t g) [.ref h] ((kept, size), sum) (rb_X7_sum ((kept, size), sum) (f_X7_sum sum)) := by
  refine CL.mk (by decide) (Nat.le_of_ble_eq_true rfl) ?_
  intro p e s m below meth c A ls hI hw hl
  have hx := hI.1
  have hb := hI.2.1
  obtain ⟨r, hr⟩ : ∃ r, r = rb_X7_sum ((kept, size), sum) (f_X7_sum sum) := ⟨_, rfl⟩
  rw [← hr]
  have hl : lv_has ls 1 [(0, .ref h)] := hl
  refine lv_aload_n hx hb dX7_sum_0 rfl (lv_at hl 0 rfl) ?_
  refine hI.get (v := .long sum) hw fg_X7_23 0 rfl rfl dX7_sum_1 ?_
  exact hI.retL (u := ((kept, size), sum)) hw (hr.trans (congrArg (rb_X7_sum ((kept, size), sum)) ((show f_X7_sum sum = (sum) from rfl)))) dX7_sum_4
def f_X7_size (size : Int32) : Int32 := bd (f_X6_size size) (fun o1 => (o1))
def rb_X7_size (σ : S_Trace) (o : Int32) : Int32 × S_Trace := (o, σ)
set_option maxHeartbeats 4000000 in
set_option maxRecDepth 100000 in
theorem c_X7_size (l : Launch) (g : GG) (h : Nat) (t : Nat → Nat) (kept : Nat → Int32) (size : Int32) (sum : Int64) : CI l g yX7_size cX7_size 1 (some .int) (rmN 1) (w_Trace h t g) [.ref h] ((kept, size), sum) (rb_X7_size ((kept, size), sum) (f_X7_size size)) := by
  refine CI.mk (by decide) (Nat.le_of_ble_eq_true rfl) ?_
  intro p e s m below meth c A ls hI hw hl
  have hx := hI.1
  have hb := hI.2.1
  obtain ⟨r, hr⟩ : ∃ r, r = rb_X7_size ((kept, size), sum) (f_X7_size size) := ⟨_, rfl⟩
  rw [← hr]
  have hl : lv_has ls 1 [(0, .ref h)] := hl
  refine lv_aload_n hx hb dX7_size_0 rfl (lv_at hl 0 rfl) ?_
  refine hI.get (v := .ref (t 0)) hw fg_X7_14 0 rfl rfl dX7_size_1 ?_
  obtain ⟨o1, ho1⟩ : ∃ o, o = f_X6_size size := ⟨_, rfl⟩
  refine hI.callI (wl := w_Tape t 5000 g) (a := (kept, size)) (wr := [(h, .inr (6, [.ref (t 0), .long sum]))]) (ws1 := w_Trace h t g ((kept, size), sum)) (r := rb_X6_size (kept, size) o1) (As := []) (rest := []) hw (by rw [ho1]; exact c_X6_size l g t 5000 kept size ) ok_yX6_size ml_X7_36 (rm_ok (by decide) (by decide)) [1, 2] [0] [0, 1, 2] rfl rfl rfl rfl rfl 0 rfl rfl rfl rfl hl.1 (Nat.le_of_ble_eq_true rfl) dX7_size_4 ⟨Nat.zero_le _, Nat.zero_le _⟩ (fun H locs hw => ?_)
  have hw : Wd g A s (w_Trace h t g ((kept, size), sum)) H locs := hw
  refine W.eq (g2 := F0 m 7 ls [.int o1]) rfl ?_
  exact hI.retI (u := ((kept, size), sum)) hw (hr.trans (congrArg (rb_X7_size ((kept, size), sum)) ((show f_X7_size size = (o1) from bd_of ho1 (rfl))))) dX7_size_7
