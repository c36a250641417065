abbrev S_Tape : Type := ((Nat → Int32) × Int32)
def w_Tape (t : Nat → Nat) (n : Nat) (g : GG) (σ : S_Tape) : va_W := [(t 0, .inr (5, [.ref (t 1), .int σ.2])), (t 1, .inl (g.2.1, n, .inl σ.1))]
def f_X6_clear (size : Int32) : Int32 := ((0 : Int32))
def rb_X6_clear (σ : S_Tape) (o : Int32) : S_Tape := (σ.1, o)
set_option maxHeartbeats 4000000 in
set_option maxRecDepth 100000 in
theorem c_X6_clear (l : Launch) (g : GG) (t : Nat → Nat) (n : Nat) (kept : Nat → Int32) (size : Int32) : CV l g yX6_clear cX6_clear 1 none (rmN 0) (w_Tape t n g) [.ref (t 0)] (kept, size) (rb_X6_clear (kept, size) (f_X6_clear size)) := by
  refine CV.mk (by decide) (Nat.le_of_ble_eq_true rfl) ?_
  intro p e s m below meth c A ls hI hw hl
  have hx := hI.1
  have hb := hI.2.1
  obtain ⟨r, hr⟩ : ∃ r, r = rb_X6_clear (kept, size) (f_X6_clear size) := ⟨_, rfl⟩
  rw [← hr]
  have hl : lv_has ls 1 [(0, .ref (t 0))] := hl
  refine lv_aload_n hx hb dX6_clear_0 rfl (lv_at hl 0 rfl) ?_
  refine lv_iconst (v := (0 : Int32)) hx hb dX6_clear_1 (by decide) ?_
  refine hI.put hw fp_X6_19 rfl 0 rfl rfl rfl (Nat.le_of_ble_eq_true rfl) dX6_clear_2 (fun H locs hw => ?_)
  have hw : Wd g A s (w_Tape t n g (kept, (0 : Int32))) H locs := hw
  exact hI.retV (u := (kept, (0 : Int32))) hw (hr.trans (congrArg (rb_X6_clear (kept, size)) ((show f_X6_clear size = ((0 : Int32)) from rfl)))) dX6_clear_5
def f_X6_add (n : Nat) (kept : Nat → Int32) (size : Int32) (x1 : Int32) : ((Nat → Int32) × Int32) := if size < 0 then ((kept, size + (1 : Int32))) else if (nI n) ≤ size then ((kept, size + (1 : Int32))) else ((upd kept size.toNatClampNeg x1, size + (1 : Int32)))
def rb_X6_add (σ : S_Tape) (o : ((Nat → Int32) × Int32)) : S_Tape := (o.1, o.2)
set_option maxHeartbeats 4000000 in
set_option maxRecDepth 100000 in
theorem c_X6_add (l : Launch) (g : GG) (t : Nat → Nat) (n : Nat) (kept : Nat → Int32) (size : Int32) (x1 : Int32) (hn : n < 2 ^ 31) : CV l g yX6_add cX6_add 2 none (rmN 0) (w_Tape t n g) [.ref (t 0), .int x1] (kept, size) (rb_X6_add (kept, size) (f_X6_add n kept size x1)) := by
  refine CV.mk (by decide) (Nat.le_of_ble_eq_true rfl) ?_
  intro p e s m below meth c A ls hI hw hl
  have hx := hI.1
  have hb := hI.2.1
  obtain ⟨r, hr⟩ : ∃ r, r = rb_X6_add (kept, size) (f_X6_add n kept size x1) := ⟨_, rfl⟩
  rw [← hr]
  have hl : lv_has ls 2 [(0, .ref (t 0)), (1, .int x1)] := hl
  refine lv_aload_n hx hb dX6_add_0 rfl (lv_at hl 0 rfl) ?_
  refine hI.get (v := .int size) hw fg_X6_19 0 rfl rfl dX6_add_1 ?_
  refine lv_if_lt (tgt := 29) hx hb dX6_add_4 (by decide) (fun c1 => ?_) (fun c1 => ?_)
  · refine lv_aload_n hx hb dX6_add_29 rfl (lv_at hl 0 rfl) ?_
    refine lv_dup hx hb dX6_add_30 rfl ?_
    refine hI.get (v := .int size) hw fg_X6_19 0 rfl rfl dX6_add_31 ?_
    refine lv_iconst (v := (1 : Int32)) hx hb dX6_add_34 (by decide) ?_
    refine lv_iadd hx hb dX6_add_35 ?_
    refine hI.put hw fp_X6_19 rfl 0 rfl rfl rfl (Nat.le_of_ble_eq_true rfl) dX6_add_36 (fun H locs hw => ?_)
    have hw : Wd g A s (w_Tape t n g (kept, size + (1 : Int32))) H locs := hw
    exact hI.retV (u := (kept, size + (1 : Int32))) hw (hr.trans (congrArg (rb_X6_add (kept, size)) ((show f_X6_add n kept size x1 = ((kept, size + (1 : Int32))) from it_t c1 (rfl))))) dX6_add_39
  · refine lv_aload_n hx hb dX6_add_7 rfl (lv_at hl 0 rfl) ?_
    refine hI.get (v := .int size) hw fg_X6_19 0 rfl rfl dX6_add_8 ?_
    refine lv_aload_n hx hb dX6_add_11 rfl (lv_at hl 0 rfl) ?_
    refine hI.get (v := .ref (t 1)) hw fg_X6_13 0 rfl rfl dX6_add_12 ?_
    refine hI.alenI hw 1 rfl dX6_add_15 ?_
    refine lv_icmp_ge (tgt := 29) hx hb dX6_add_16 (by decide) (fun c2 => ?_) (fun c2 => ?_)
    · refine lv_aload_n hx hb dX6_add_29 rfl (lv_at hl 0 rfl) ?_
      refine lv_dup hx hb dX6_add_30 rfl ?_
      refine hI.get (v := .int size) hw fg_X6_19 0 rfl rfl dX6_add_31 ?_
      refine lv_iconst (v := (1 : Int32)) hx hb dX6_add_34 (by decide) ?_
      refine lv_iadd hx hb dX6_add_35 ?_
      refine hI.put hw fp_X6_19 rfl 0 rfl rfl rfl (Nat.le_of_ble_eq_true rfl) dX6_add_36 (fun H locs hw => ?_)
      have hw : Wd g A s (w_Tape t n g (kept, size + (1 : Int32))) H locs := hw
      exact hI.retV (u := (kept, size + (1 : Int32))) hw (hr.trans (congrArg (rb_X6_add (kept, size)) ((show f_X6_add n kept size x1 = ((kept, size + (1 : Int32))) from it_f c1 (it_t c2 (rfl)))))) dX6_add_39
    · refine lv_aload_n hx hb dX6_add_19 rfl (lv_at hl 0 rfl) ?_
      refine hI.get (v := .ref (t 1)) hw fg_X6_13 0 rfl rfl dX6_add_20 ?_
      refine lv_aload_n hx hb dX6_add_23 rfl (lv_at hl 0 rfl) ?_
      refine hI.get (v := .int size) hw fg_X6_19 0 rfl rfl dX6_add_24 ?_
      refine lv_iload_n hx hb dX6_add_27 rfl (lv_at hl 1 rfl) ?_
      refine hI.iast hw 1 rfl (vin_c (n := n) c1 c2 hn) dX6_add_28 (fun H locs hw => ?_)
      have hw : Wd g A s (w_Tape t n g (upd kept size.toNatClampNeg x1, size)) H locs := hw
      refine lv_aload_n hx hb dX6_add_29 rfl (lv_at hl 0 rfl) ?_
      refine lv_dup hx hb dX6_add_30 rfl ?_
      refine hI.get (v := .int size) hw fg_X6_19 0 rfl rfl dX6_add_31 ?_
      refine lv_iconst (v := (1 : Int32)) hx hb dX6_add_34 (by decide) ?_
      refine lv_iadd hx hb dX6_add_35 ?_
      refine hI.put hw fp_X6_19 rfl 0 rfl rfl rfl (Nat.le_of_ble_eq_true rfl) dX6_add_36 (fun H locs hw => ?_)
      have hw : Wd g A s (w_Tape t n g (upd kept size.toNatClampNeg x1, size + (1 : Int32))) H locs := hw
      exact hI.retV (u := (upd kept size.toNatClampNeg x1, size + (1 : Int32))) hw (hr.trans (congrArg (rb_X6_add (kept, size)) ((show f_X6_add n kept size x1 = ((upd kept size.toNatClampNeg x1, size + (1 : Int32))) from it_f c1 (it_f c2 (rfl)))))) dX6_add_39
def f_X6_read (n : Nat) (kept : Nat → Int32) (size : Int32) (x1 : Int32) (x2 : Int32) : Int32 := if x1 < 0 then (x2) else if size ≤ x1 then (x2) else if (nI n) ≤ x1 then (x2) else (kept x1.toNatClampNeg)
def rb_X6_read (σ : S_Tape) (o : Int32) : Int32 × S_Tape := (o, σ)
set_option maxHeartbeats 4000000 in
set_option maxRecDepth 100000 in
theorem c_X6_read (l : Launch) (g : GG) (t : Nat → Nat) (n : Nat) (kept : Nat → Int32) (size : Int32) (x1 : Int32) (x2 : Int32) (hn : n < 2 ^ 31) : CI l g yX6_read cX6_read 3 (some .int) (rmN 0) (w_Tape t n g) [.ref (t 0), .int x1, .int x2] (kept, size) (rb_X6_read (kept, size) (f_X6_read n kept size x1 x2)) := by
  refine CI.mk (by decide) (Nat.le_of_ble_eq_true rfl) ?_
  intro p e s m below meth c A ls hI hw hl
  have hx := hI.1
  have hb := hI.2.1
  obtain ⟨r, hr⟩ : ∃ r, r = rb_X6_read (kept, size) (f_X6_read n kept size x1 x2) := ⟨_, rfl⟩
  rw [← hr]
  have hl : lv_has ls 3 [(0, .ref (t 0)), (1, .int x1), (2, .int x2)] := hl
  refine lv_iload_n hx hb dX6_read_0 rfl (lv_at hl 1 rfl) ?_
  refine lv_if_lt (tgt := 30) hx hb dX6_read_1 (by decide) (fun c1 => ?_) (fun c1 => ?_)
  · refine lv_iload_n hx hb dX6_read_30 rfl (lv_at hl 2 rfl) ?_
    exact hI.retI (u := (kept, size)) hw (hr.trans (congrArg (rb_X6_read (kept, size)) ((show f_X6_read n kept size x1 x2 = (x2) from it_t c1 (rfl))))) dX6_read_31
  · refine lv_iload_n hx hb dX6_read_4 rfl (lv_at hl 1 rfl) ?_
    refine lv_aload_n hx hb dX6_read_5 rfl (lv_at hl 0 rfl) ?_
    refine hI.get (v := .int size) hw fg_X6_19 0 rfl rfl dX6_read_6 ?_
    refine lv_icmp_ge (tgt := 30) hx hb dX6_read_9 (by decide) (fun c2 => ?_) (fun c2 => ?_)
    · refine lv_iload_n hx hb dX6_read_30 rfl (lv_at hl 2 rfl) ?_
      exact hI.retI (u := (kept, size)) hw (hr.trans (congrArg (rb_X6_read (kept, size)) ((show f_X6_read n kept size x1 x2 = (x2) from it_f c1 (it_t c2 (rfl)))))) dX6_read_31
    · refine lv_iload_n hx hb dX6_read_12 rfl (lv_at hl 1 rfl) ?_
      refine lv_aload_n hx hb dX6_read_13 rfl (lv_at hl 0 rfl) ?_
      refine hI.get (v := .ref (t 1)) hw fg_X6_13 0 rfl rfl dX6_read_14 ?_
      refine hI.alenI hw 1 rfl dX6_read_17 ?_
      refine lv_icmp_ge (tgt := 30) hx hb dX6_read_18 (by decide) (fun c3 => ?_) (fun c3 => ?_)
      · refine lv_iload_n hx hb dX6_read_30 rfl (lv_at hl 2 rfl) ?_
        exact hI.retI (u := (kept, size)) hw (hr.trans (congrArg (rb_X6_read (kept, size)) ((show f_X6_read n kept size x1 x2 = (x2) from it_f c1 (it_f c2 (it_t c3 (rfl))))))) dX6_read_31
      · refine lv_aload_n hx hb dX6_read_21 rfl (lv_at hl 0 rfl) ?_
        refine hI.get (v := .ref (t 1)) hw fg_X6_13 0 rfl rfl dX6_read_22 ?_
        refine lv_iload_n hx hb dX6_read_25 rfl (lv_at hl 1 rfl) ?_
        refine hI.iald hw 1 rfl (vin_c (n := n) c1 c3 hn) dX6_read_26 ?_
        refine lv_goto (tgt := 31) hx hb dX6_read_27 (by decide) ?_
        exact hI.retI (u := (kept, size)) hw (hr.trans (congrArg (rb_X6_read (kept, size)) ((show f_X6_read n kept size x1 x2 = (kept x1.toNatClampNeg) from it_f c1 (it_f c2 (it_f c3 (rfl))))))) dX6_read_31
def f_X6_write (n : Nat) (kept : Nat → Int32) (size : Int32) (x1 : Int32) (x2 : Int32) : (Nat → Int32) := if x1 < 0 then (kept) else if size ≤ x1 then (kept) else if (nI n) ≤ x1 then (kept) else (upd kept x1.toNatClampNeg x2)
def rb_X6_write (σ : S_Tape) (o : (Nat → Int32)) : S_Tape := (o, σ.2)
set_option maxHeartbeats 4000000 in
set_option maxRecDepth 100000 in
theorem c_X6_write (l : Launch) (g : GG) (t : Nat → Nat) (n : Nat) (kept : Nat → Int32) (size : Int32) (x1 : Int32) (x2 : Int32) (hn : n < 2 ^ 31) : CV l g yX6_write cX6_write 3 none (rmN 0) (w_Tape t n g) [.ref (t 0), .int x1, .int x2] (kept, size) (rb_X6_write (kept, size) (f_X6_write n kept size x1 x2)) := by
  refine CV.mk (by decide) (Nat.le_of_ble_eq_true rfl) ?_
  intro p e s m below meth c A ls hI hw hl
  have hx := hI.1
  have hb := hI.2.1
  obtain ⟨r, hr⟩ : ∃ r, r = rb_X6_write (kept, size) (f_X6_write n kept size x1 x2) := ⟨_, rfl⟩
  rw [← hr]
  have hl : lv_has ls 3 [(0, .ref (t 0)), (1, .int x1), (2, .int x2)] := hl
  refine lv_iload_n hx hb dX6_write_0 rfl (lv_at hl 1 rfl) ?_
  refine lv_if_lt (tgt := 28) hx hb dX6_write_1 (by decide) (fun c1 => ?_) (fun c1 => ?_)
  · exact hI.retV (u := (kept, size)) hw (hr.trans (congrArg (rb_X6_write (kept, size)) ((show f_X6_write n kept size x1 x2 = (kept) from it_t c1 (rfl))))) dX6_write_28
  · refine lv_iload_n hx hb dX6_write_4 rfl (lv_at hl 1 rfl) ?_
    refine lv_aload_n hx hb dX6_write_5 rfl (lv_at hl 0 rfl) ?_
    refine hI.get (v := .int size) hw fg_X6_19 0 rfl rfl dX6_write_6 ?_
    refine lv_icmp_ge (tgt := 28) hx hb dX6_write_9 (by decide) (fun c2 => ?_) (fun c2 => ?_)
    · exact hI.retV (u := (kept, size)) hw (hr.trans (congrArg (rb_X6_write (kept, size)) ((show f_X6_write n kept size x1 x2 = (kept) from it_f c1 (it_t c2 (rfl)))))) dX6_write_28
    · refine lv_iload_n hx hb dX6_write_12 rfl (lv_at hl 1 rfl) ?_
      refine lv_aload_n hx hb dX6_write_13 rfl (lv_at hl 0 rfl) ?_
      refine hI.get (v := .ref (t 1)) hw fg_X6_13 0 rfl rfl dX6_write_14 ?_
      refine hI.alenI hw 1 rfl dX6_write_17 ?_
      refine lv_icmp_ge (tgt := 28) hx hb dX6_write_18 (by decide) (fun c3 => ?_) (fun c3 => ?_)
      · exact hI.retV (u := (kept, size)) hw (hr.trans (congrArg (rb_X6_write (kept, size)) ((show f_X6_write n kept size x1 x2 = (kept) from it_f c1 (it_f c2 (it_t c3 (rfl))))))) dX6_write_28
      · refine lv_aload_n hx hb dX6_write_21 rfl (lv_at hl 0 rfl) ?_
        refine hI.get (v := .ref (t 1)) hw fg_X6_13 0 rfl rfl dX6_write_22 ?_
        refine lv_iload_n hx hb dX6_write_25 rfl (lv_at hl 1 rfl) ?_
        refine lv_iload_n hx hb dX6_write_26 rfl (lv_at hl 2 rfl) ?_
        refine hI.iast hw 1 rfl (vin_c (n := n) c1 c3 hn) dX6_write_27 (fun H locs hw => ?_)
        have hw : Wd g A s (w_Tape t n g (upd kept x1.toNatClampNeg x2, size)) H locs := hw
        exact hI.retV (u := (upd kept x1.toNatClampNeg x2, size)) hw (hr.trans (congrArg (rb_X6_write (kept, size)) ((show f_X6_write n kept size x1 x2 = (upd kept x1.toNatClampNeg x2) from it_f c1 (it_f c2 (it_f c3 (rfl))))))) dX6_write_28
def f_X6_size (size : Int32) : Int32 := (size)
def rb_X6_size (σ : S_Tape) (o : Int32) : Int32 × S_Tape := (o, σ)
set_option maxHeartbeats 4000000 in
set_option maxRecDepth 100000 in
theorem c_X6_size (l : Launch) (g : GG) (t : Nat → Nat) (n : Nat) (kept : Nat → Int32) (size : Int32) : CI l g yX6_size cX6_size 1 (some .int) (rmN 0) (w_Tape t n g) [.ref (t 0)] (kept, size) (rb_X6_size (kept, size) (f_X6_size size)) := by
  refine CI.mk (by decide) (Nat.le_of_ble_eq_true rfl) ?_
  intro p e s m below meth c A ls hI hw hl
  have hx := hI.1
  have hb := hI.2.1
  obtain ⟨r, hr⟩ : ∃ r, r = rb_X6_size (kept, size) (f_X6_size size) := ⟨_, rfl⟩
  rw [← hr]
  have hl : lv_has ls 1 [(0, .ref (t 0))] := hl
  refine lv_aload_n hx hb dX6_size_0 rfl (lv_at hl 0 rfl) ?_
  refine hI.get (v := .int size) hw fg_X6_19 0 rfl rfl dX6_size_1 ?_
  exact hI.retI (u := (kept, size)) hw (hr.trans (congrArg (rb_X6_size (kept, size)) ((show f_X6_size size = (size) from rfl)))) dX6_size_4
