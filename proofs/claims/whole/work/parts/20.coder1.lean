abbrev S_Coder : Type := ((((Nat → Int32) × (Nat → Int32)) × ((Nat → Int32) × (Nat → Int32))) × ((Int32 × (Nat → Int32)) × Int32))
def w_Coder (h : Nat) (x : Nat → Nat) (t : Nat → Nat) (g : GG) (σ : S_Coder) : va_W := [(h, .inr (0, [.ref (x 0), .ref (t 0)])), (x 0, .inr (2, [.ref (x 1), .ref (x 2), .ref (x 3), .ref (x 4), .int σ.2.1.1])), (x 1, .inl (g.2.1, 400, .inl σ.1.1.1)), (x 2, .inl (g.2.1, 400, .inl σ.1.1.2)), (x 3, .inl (g.2.1, 400, .inl σ.1.2.1)), (x 4, .inl (g.2.2, 400, .inl σ.1.2.2)), (t 0, .inr (5, [.ref (t 1), .int σ.2.2])), (t 1, .inl (g.2.1, 2048, .inl σ.2.1.2))]
def f_X0_write (kept : Nat → Int32) (size : Int32) (x1 : Int32) (x2 : Int32) : ((Nat → Int32) × Int32) := bd (f_X6_add 2048 kept size x1) (fun o1 => bd (f_X6_add 2048 o1.1 o1.2 x2) (fun o2 => ((o2.1, o2.2))))
def rb_X0_write (σ : S_Coder) (o : ((Nat → Int32) × Int32)) : S_Coder := (((σ.1.1.1, σ.1.1.2), (σ.1.2.1, σ.1.2.2)), ((σ.2.1.1, o.1), o.2))
set_option maxHeartbeats 4000000 in
set_option maxRecDepth 100000 in
theorem c_X0_write (l : Launch) (g : GG) (h : Nat) (x : Nat → Nat) (t : Nat → Nat) (tok : Nat → Int32) (beh : Nat → Int32) (msk : Nat → Int32) (sec : Nat → Int32) (siz : Int32) (kept : Nat → Int32) (size : Int32) (x1 : Int32) (x2 : Int32) : CV l g yX0_write cX0_write 3 none (rmN 1) (w_Coder h x t g) [.ref h, .int x1, .int x2] (((tok, beh), (msk, sec)), ((siz, kept), size)) (rb_X0_write (((tok, beh), (msk, sec)), ((siz, kept), size)) (f_X0_write kept size x1 x2)) := by
  refine CV.mk (by decide) (Nat.le_of_ble_eq_true rfl) ?_
  intro p e s m below meth c A ls hI hw hl
  have hx := hI.1
  have hb := hI.2.1
  obtain ⟨r, hr⟩ : ∃ r, r = rb_X0_write (((tok, beh), (msk, sec)), ((siz, kept), size)) (f_X0_write kept size x1 x2) := ⟨_, rfl⟩
  rw [← hr]
  have hl : lv_has ls 3 [(0, .ref h), (1, .int x1), (2, .int x2)] := hl
  refine lv_aload_n hx hb dX0_write_0 rfl (lv_at hl 0 rfl) ?_
  refine hI.get (v := .ref (t 0)) hw fg_X0_15 0 rfl rfl dX0_write_1 ?_
  refine lv_iload_n hx hb dX0_write_4 rfl (lv_at hl 1 rfl) ?_
  obtain ⟨o1, ho1⟩ : ∃ o, o = f_X6_add 2048 kept size x1 := ⟨_, rfl⟩
  refine hI.callV (wl := w_Tape t 2048 g) (a := (kept, size)) (wr := [(h, .inr (0, [.ref (x 0), .ref (t 0)])), (x 0, .inr (2, [.ref (x 1), .ref (x 2), .ref (x 3), .ref (x 4), .int siz])), (x 1, .inl (g.2.1, 400, .inl tok)), (x 2, .inl (g.2.1, 400, .inl beh)), (x 3, .inl (g.2.1, 400, .inl msk)), (x 4, .inl (g.2.2, 400, .inl sec))]) (ws1 := w_Coder h x t g (((tok, beh), (msk, sec)), ((siz, o1.1), o1.2))) (r := rb_X6_add (kept, size) o1) (As := [.int x1]) (rest := []) hw (by rw [ho1]; exact c_X6_add l g t 2048 kept size x1 (by decide)) ok_yX6_add ml_X0_28 (rm_ok (by decide) (by decide)) [6, 7] [0, 1, 2, 3, 4, 5] [0, 1, 2, 3, 4, 5, 6, 7] rfl rfl rfl rfl rfl 0 rfl rfl rfl rfl hl.1 (Nat.le_of_ble_eq_true rfl) dX0_write_5 ⟨Nat.zero_le _, Nat.zero_le _⟩ (fun H locs hw => ?_)
  have hw : Wd g A s (w_Coder h x t g (((tok, beh), (msk, sec)), ((siz, o1.1), o1.2))) H locs := hw
  refine W.eq (g2 := F0 m 8 ls []) rfl ?_
  refine lv_aload_n hx hb dX0_write_8 rfl (lv_at hl 0 rfl) ?_
  refine hI.get (v := .ref (t 0)) hw fg_X0_15 0 rfl rfl dX0_write_9 ?_
  refine lv_iload_n hx hb dX0_write_12 rfl (lv_at hl 2 rfl) ?_
  obtain ⟨o2, ho2⟩ : ∃ o, o = f_X6_add 2048 o1.1 o1.2 x2 := ⟨_, rfl⟩
  refine hI.callV (wl := w_Tape t 2048 g) (a := (o1.1, o1.2)) (wr := [(h, .inr (0, [.ref (x 0), .ref (t 0)])), (x 0, .inr (2, [.ref (x 1), .ref (x 2), .ref (x 3), .ref (x 4), .int siz])), (x 1, .inl (g.2.1, 400, .inl tok)), (x 2, .inl (g.2.1, 400, .inl beh)), (x 3, .inl (g.2.1, 400, .inl msk)), (x 4, .inl (g.2.2, 400, .inl sec))]) (ws1 := w_Coder h x t g (((tok, beh), (msk, sec)), ((siz, o2.1), o2.2))) (r := rb_X6_add (o1.1, o1.2) o2) (As := [.int x2]) (rest := []) hw (by rw [ho2]; exact c_X6_add l g t 2048 o1.1 o1.2 x2 (by decide)) ok_yX6_add ml_X0_28 (rm_ok (by decide) (by decide)) [6, 7] [0, 1, 2, 3, 4, 5] [0, 1, 2, 3, 4, 5, 6, 7] rfl rfl rfl rfl rfl 0 rfl rfl rfl rfl hl.1 (Nat.le_of_ble_eq_true rfl) dX0_write_13 ⟨Nat.zero_le _, Nat.zero_le _⟩ (fun H locs hw => ?_)
  have hw : Wd g A s (w_Coder h x t g (((tok, beh), (msk, sec)), ((siz, o2.1), o2.2))) H locs := hw
  refine W.eq (g2 := F0 m 16 ls []) rfl ?_
  exact hI.retV (u := (((tok, beh), (msk, sec)), ((siz, o2.1), o2.2))) hw (hr.trans (congrArg (rb_X0_write (((tok, beh), (msk, sec)), ((siz, kept), size))) ((show f_X0_write kept size x1 x2 = ((o2.1, o2.2)) from bd_of ho1 (bd_of ho2 (rfl)))))) dX0_write_16
def f_X0_writeMasked (kept : Nat → Int32) (size : Int32) (x1 : Int32) (x2 : Int32) (x3 : Int32) : ((Nat → Int32) × Int32) := bd (f_X6_add 2048 kept size x1) (fun o1 => bd (f_X6_add 2048 o1.1 o1.2 x2) (fun o2 => bd (f_X6_add 2048 o2.1 o2.2 x3) (fun o3 => ((o3.1, o3.2)))))
def rb_X0_writeMasked (σ : S_Coder) (o : ((Nat → Int32) × Int32)) : S_Coder := (((σ.1.1.1, σ.1.1.2), (σ.1.2.1, σ.1.2.2)), ((σ.2.1.1, o.1), o.2))
set_option maxHeartbeats 4000000 in
set_option maxRecDepth 100000 in
theorem c_X0_writeMasked (l : Launch) (g : GG) (h : Nat) (x : Nat → Nat) (t : Nat → Nat) (tok : Nat → Int32) (beh : Nat → Int32) (msk : Nat → Int32) (sec : Nat → Int32) (siz : Int32) (kept : Nat → Int32) (size : Int32) (x1 : Int32) (x2 : Int32) (x3 : Int32) : CV l g yX0_writeMasked cX0_writeMasked 4 none (rmN 1) (w_Coder h x t g) [.ref h, .int x1, .int x2, .int x3] (((tok, beh), (msk, sec)), ((siz, kept), size)) (rb_X0_writeMasked (((tok, beh), (msk, sec)), ((siz, kept), size)) (f_X0_writeMasked kept size x1 x2 x3)) := by
  refine CV.mk (by decide) (Nat.le_of_ble_eq_true rfl) ?_
  intro p e s m below meth c A ls hI hw hl
  have hx := hI.1
  have hb := hI.2.1
  obtain ⟨r, hr⟩ : ∃ r, r = rb_X0_writeMasked (((tok, beh), (msk, sec)), ((siz, kept), size)) (f_X0_writeMasked kept size x1 x2 x3) := ⟨_, rfl⟩
  rw [← hr]
  have hl : lv_has ls 4 [(0, .ref h), (1, .int x1), (2, .int x2), (3, .int x3)] := hl
  refine lv_aload_n hx hb dX0_writeMasked_0 rfl (lv_at hl 0 rfl) ?_
  refine hI.get (v := .ref (t 0)) hw fg_X0_15 0 rfl rfl dX0_writeMasked_1 ?_
  refine lv_iload_n hx hb dX0_writeMasked_4 rfl (lv_at hl 1 rfl) ?_
  obtain ⟨o1, ho1⟩ : ∃ o, o = f_X6_add 2048 kept size x1 := ⟨_, rfl⟩
  refine hI.callV (wl := w_Tape t 2048 g) (a := (kept, size)) (wr := [(h, .inr (0, [.ref (x 0), .ref (t 0)])), (x 0, .inr (2, [.ref (x 1), .ref (x 2), .ref (x 3), .ref (x 4), .int siz])), (x 1, .inl (g.2.1, 400, .inl tok)), (x 2, .inl (g.2.1, 400, .inl beh)), (x 3, .inl (g.2.1, 400, .inl msk)), (x 4, .inl (g.2.2, 400, .inl sec))]) (ws1 := w_Coder h x t g (((tok, beh), (msk, sec)), ((siz, o1.1), o1.2))) (r := rb_X6_add (kept, size) o1) (As := [.int x1]) (rest := []) hw (by rw [ho1]; exact c_X6_add l g t 2048 kept size x1 (by decide)) ok_yX6_add ml_X0_28 (rm_ok (by decide) (by decide)) [6, 7] [0, 1, 2, 3, 4, 5] [0, 1, 2, 3, 4, 5, 6, 7] rfl rfl rfl rfl rfl 0 rfl rfl rfl rfl hl.1 (Nat.le_of_ble_eq_true rfl) dX0_writeMasked_5 ⟨Nat.zero_le _, Nat.zero_le _⟩ (fun H locs hw => ?_)
  have hw : Wd g A s (w_Coder h x t g (((tok, beh), (msk, sec)), ((siz, o1.1), o1.2))) H locs := hw
  refine W.eq (g2 := F0 m 8 ls []) rfl ?_
  refine lv_aload_n hx hb dX0_writeMasked_8 rfl (lv_at hl 0 rfl) ?_
  refine hI.get (v := .ref (t 0)) hw fg_X0_15 0 rfl rfl dX0_writeMasked_9 ?_
  refine lv_iload_n hx hb dX0_writeMasked_12 rfl (lv_at hl 2 rfl) ?_
  obtain ⟨o2, ho2⟩ : ∃ o, o = f_X6_add 2048 o1.1 o1.2 x2 := ⟨_, rfl⟩
  refine hI.callV (wl := w_Tape t 2048 g) (a := (o1.1, o1.2)) (wr := [(h, .inr (0, [.ref (x 0), .ref (t 0)])), (x 0, .inr (2, [.ref (x 1), .ref (x 2), .ref (x 3), .ref (x 4), .int siz])), (x 1, .inl (g.2.1, 400, .inl tok)), (x 2, .inl (g.2.1, 400, .inl beh)), (x 3, .inl (g.2.1, 400, .inl msk)), (x 4, .inl (g.2.2, 400, .inl sec))]) (ws1 := w_Coder h x t g (((tok, beh), (msk, sec)), ((siz, o2.1), o2.2))) (r := rb_X6_add (o1.1, o1.2) o2) (As := [.int x2]) (rest := []) hw (by rw [ho2]; exact c_X6_add l g t 2048 o1.1 o1.2 x2 (by decide)) ok_yX6_add ml_X0_28 (rm_ok (by decide) (by decide)) [6, 7] [0, 1, 2, 3, 4, 5] [0, 1, 2, 3, 4, 5, 6, 7] rfl rfl rfl rfl rfl 0 rfl rfl rfl rfl hl.1 (Nat.le_of_ble_eq_true rfl) dX0_writeMasked_13 ⟨Nat.zero_le _, Nat.zero_le _⟩ (fun H locs hw => ?_)
  have hw : Wd g A s (w_Coder h x t g (((tok, beh), (msk, sec)), ((siz, o2.1), o2.2))) H locs := hw
  refine W.eq (g2 := F0 m 16 ls []) rfl ?_
  refine lv_aload_n hx hb dX0_writeMasked_16 rfl (lv_at hl 0 rfl) ?_
  refine hI.get (v := .ref (t 0)) hw fg_X0_15 0 rfl rfl dX0_writeMasked_17 ?_
  refine lv_iload_n hx hb dX0_writeMasked_20 rfl (lv_at hl 3 rfl) ?_
  obtain ⟨o3, ho3⟩ : ∃ o, o = f_X6_add 2048 o2.1 o2.2 x3 := ⟨_, rfl⟩
  refine hI.callV (wl := w_Tape t 2048 g) (a := (o2.1, o2.2)) (wr := [(h, .inr (0, [.ref (x 0), .ref (t 0)])), (x 0, .inr (2, [.ref (x 1), .ref (x 2), .ref (x 3), .ref (x 4), .int siz])), (x 1, .inl (g.2.1, 400, .inl tok)), (x 2, .inl (g.2.1, 400, .inl beh)), (x 3, .inl (g.2.1, 400, .inl msk)), (x 4, .inl (g.2.2, 400, .inl sec))]) (ws1 := w_Coder h x t g (((tok, beh), (msk, sec)), ((siz, o3.1), o3.2))) (r := rb_X6_add (o2.1, o2.2) o3) (As := [.int x3]) (rest := []) hw (by rw [ho3]; exact c_X6_add l g t 2048 o2.1 o2.2 x3 (by decide)) ok_yX6_add ml_X0_28 (rm_ok (by decide) (by decide)) [6, 7] [0, 1, 2, 3, 4, 5] [0, 1, 2, 3, 4, 5, 6, 7] rfl rfl rfl rfl rfl 0 rfl rfl rfl rfl hl.1 (Nat.le_of_ble_eq_true rfl) dX0_writeMasked_21 ⟨Nat.zero_le _, Nat.zero_le _⟩ (fun H locs hw => ?_)
  have hw : Wd g A s (w_Coder h x t g (((tok, beh), (msk, sec)), ((siz, o3.1), o3.2))) H locs := hw
  refine W.eq (g2 := F0 m 24 ls []) rfl ?_
  exact hI.retV (u := (((tok, beh), (msk, sec)), ((siz, o3.1), o3.2))) hw (hr.trans (congrArg (rb_X0_writeMasked (((tok, beh), (msk, sec)), ((siz, kept), size))) ((show f_X0_writeMasked kept size x1 x2 x3 = ((o3.1, o3.2)) from bd_of ho1 (bd_of ho2 (bd_of ho3 (rfl))))))) dX0_writeMasked_24
def f_X0_writeJump (kept : Nat → Int32) (size : Int32) (x1 : Int32) : Int32 × ((Nat → Int32) × Int32) := bd (f_X0_write kept size x1 (0 : Int32)) (fun o1 => bd (f_X6_size o1.2) (fun o2 => (o2 - (1 : Int32), (o1.1, o1.2))))
def rb_X0_writeJump (σ : S_Coder) (o : Int32 × ((Nat → Int32) × Int32)) : Int32 × S_Coder := (o.1, (((σ.1.1.1, σ.1.1.2), (σ.1.2.1, σ.1.2.2)), ((σ.2.1.1, o.2.1), o.2.2)))
set_option maxHeartbeats 4000000 in
set_option maxRecDepth 100000 in
theorem c_X0_writeJump (l : Launch) (g : GG) (h : Nat) (x : Nat → Nat) (t : Nat → Nat) (tok : Nat → Int32) (beh : Nat → Int32) (msk : Nat → Int32) (sec : Nat → Int32) (siz : Int32) (kept : Nat → Int32) (size : Int32) (x1 : Int32) : CI l g yX0_writeJump cX0_writeJump 2 (some .int) (rmN 2) (w_Coder h x t g) [.ref h, .int x1] (((tok, beh), (msk, sec)), ((siz, kept), size)) (rb_X0_writeJump (((tok, beh), (msk, sec)), ((siz, kept), size)) (f_X0_writeJump kept size x1)) := by
  refine CI.mk (by decide) (Nat.le_of_ble_eq_true rfl) ?_
  intro p e s m below meth c A ls hI hw hl
  have hx := hI.1
  have hb := hI.2.1
  obtain ⟨r, hr⟩ : ∃ r, r = rb_X0_writeJump (((tok, beh), (msk, sec)), ((siz, kept), size)) (f_X0_writeJump kept size x1) := ⟨_, rfl⟩
  rw [← hr]
  have hl : lv_has ls 2 [(0, .ref h), (1, .int x1)] := hl
  refine lv_aload_n hx hb dX0_writeJump_0 rfl (lv_at hl 0 rfl) ?_
  refine lv_iload_n hx hb dX0_writeJump_1 rfl (lv_at hl 1 rfl) ?_
  refine lv_iconst (v := (0 : Int32)) hx hb dX0_writeJump_2 (by decide) ?_
  obtain ⟨o1, ho1⟩ : ∃ o, o = f_X0_write kept size x1 (0 : Int32) := ⟨_, rfl⟩
  refine hI.callV0 (wl := w_Coder h x t g) (a := (((tok, beh), (msk, sec)), ((siz, kept), size))) (r := rb_X0_write (((tok, beh), (msk, sec)), ((siz, kept), size)) o1) (As := [.int x1, .int (0 : Int32)]) (rest := []) hw (by rw [ho1]; exact c_X0_write l g h x t tok beh msk sec siz kept size x1 (0 : Int32) ) ok_yX0_write ml_X0_76 (rm_ok (by decide) (by decide)) 0 rfl rfl rfl rfl hl.1 (Nat.le_of_ble_eq_true rfl) dX0_writeJump_3 ⟨Nat.zero_le _, Nat.zero_le _⟩ (fun H locs hw => ?_)
  have hw : Wd g A s (w_Coder h x t g (((tok, beh), (msk, sec)), ((siz, o1.1), o1.2))) H locs := hw
  refine W.eq (g2 := F0 m 6 ls []) rfl ?_
  refine lv_aload_n hx hb dX0_writeJump_6 rfl (lv_at hl 0 rfl) ?_
  refine hI.get (v := .ref (t 0)) hw fg_X0_15 0 rfl rfl dX0_writeJump_7 ?_
  obtain ⟨o2, ho2⟩ : ∃ o, o = f_X6_size o1.2 := ⟨_, rfl⟩
  refine hI.callI (wl := w_Tape t 2048 g) (a := (o1.1, o1.2)) (wr := [(h, .inr (0, [.ref (x 0), .ref (t 0)])), (x 0, .inr (2, [.ref (x 1), .ref (x 2), .ref (x 3), .ref (x 4), .int siz])), (x 1, .inl (g.2.1, 400, .inl tok)), (x 2, .inl (g.2.1, 400, .inl beh)), (x 3, .inl (g.2.1, 400, .inl msk)), (x 4, .inl (g.2.2, 400, .inl sec))]) (ws1 := w_Coder h x t g (((tok, beh), (msk, sec)), ((siz, o1.1), o1.2))) (r := rb_X6_size (o1.1, o1.2) o2) (As := []) (rest := []) hw (by rw [ho2]; exact c_X6_size l g t 2048 o1.1 o1.2 ) ok_yX6_size ml_X0_91 (rm_ok (by decide) (by decide)) [6, 7] [0, 1, 2, 3, 4, 5] [0, 1, 2, 3, 4, 5, 6, 7] rfl rfl rfl rfl rfl 0 rfl rfl rfl rfl hl.1 (Nat.le_of_ble_eq_true rfl) dX0_writeJump_10 ⟨Nat.zero_le _, Nat.zero_le _⟩ (fun H locs hw => ?_)
  have hw : Wd g A s (w_Coder h x t g (((tok, beh), (msk, sec)), ((siz, o1.1), o1.2))) H locs := hw
  refine W.eq (g2 := F0 m 13 ls [.int o2]) rfl ?_
  refine lv_iconst (v := (1 : Int32)) hx hb dX0_writeJump_13 (by decide) ?_
  refine lv_isub hx hb dX0_writeJump_14 ?_
  exact hI.retI (u := (((tok, beh), (msk, sec)), ((siz, o1.1), o1.2))) hw (hr.trans (congrArg (rb_X0_writeJump (((tok, beh), (msk, sec)), ((siz, kept), size))) ((show f_X0_writeJump kept size x1 = (o2 - (1 : Int32), (o1.1, o1.2)) from bd_of ho1 (bd_of ho2 (rfl)))))) dX0_writeJump_15
def f_X0_land (kept : Nat → Int32) (size : Int32) (x1 : Int32) : (Nat → Int32) := bd (f_X6_size size) (fun o1 => bd (f_X6_write 2048 kept size x1 o1) (fun o2 => (o2)))
def rb_X0_land (σ : S_Coder) (o : (Nat → Int32)) : S_Coder := (((σ.1.1.1, σ.1.1.2), (σ.1.2.1, σ.1.2.2)), ((σ.2.1.1, o), σ.2.2))
set_option maxHeartbeats 4000000 in
set_option maxRecDepth 100000 in
theorem c_X0_land (l : Launch) (g : GG) (h : Nat) (x : Nat → Nat) (t : Nat → Nat) (tok : Nat → Int32) (beh : Nat → Int32) (msk : Nat → Int32) (sec : Nat → Int32) (siz : Int32) (kept : Nat → Int32) (size : Int32) (x1 : Int32) : CV l g yX0_land cX0_land 2 none (rmN 1) (w_Coder h x t g) [.ref h, .int x1] (((tok, beh), (msk, sec)), ((siz, kept), size)) (rb_X0_land (((tok, beh), (msk, sec)), ((siz, kept), size)) (f_X0_land kept size x1)) := by
  refine CV.mk (by decide) (Nat.le_of_ble_eq_true rfl) ?_
  intro p e s m below meth c A ls hI hw hl
  have hx := hI.1
  have hb := hI.2.1
  obtain ⟨r, hr⟩ : ∃ r, r = rb_X0_land (((tok, beh), (msk, sec)), ((siz, kept), size)) (f_X0_land kept size x1) := ⟨_, rfl⟩
  rw [← hr]
  have hl : lv_has ls 2 [(0, .ref h), (1, .int x1)] := hl
  refine lv_aload_n hx hb dX0_land_0 rfl (lv_at hl 0 rfl) ?_
  refine hI.get (v := .ref (t 0)) hw fg_X0_15 0 rfl rfl dX0_land_1 ?_
  refine lv_iload_n hx hb dX0_land_4 rfl (lv_at hl 1 rfl) ?_
  refine lv_aload_n hx hb dX0_land_5 rfl (lv_at hl 0 rfl) ?_
  refine hI.get (v := .ref (t 0)) hw fg_X0_15 0 rfl rfl dX0_land_6 ?_
  obtain ⟨o1, ho1⟩ : ∃ o, o = f_X6_size size := ⟨_, rfl⟩
  refine hI.callI (wl := w_Tape t 2048 g) (a := (kept, size)) (wr := [(h, .inr (0, [.ref (x 0), .ref (t 0)])), (x 0, .inr (2, [.ref (x 1), .ref (x 2), .ref (x 3), .ref (x 4), .int siz])), (x 1, .inl (g.2.1, 400, .inl tok)), (x 2, .inl (g.2.1, 400, .inl beh)), (x 3, .inl (g.2.1, 400, .inl msk)), (x 4, .inl (g.2.2, 400, .inl sec))]) (ws1 := w_Coder h x t g (((tok, beh), (msk, sec)), ((siz, kept), size))) (r := rb_X6_size (kept, size) o1) (As := []) (rest := [.int x1, .ref (t 0)]) hw (by rw [ho1]; exact c_X6_size l g t 2048 kept size ) ok_yX6_size ml_X0_91 (rm_ok (by decide) (by decide)) [6, 7] [0, 1, 2, 3, 4, 5] [0, 1, 2, 3, 4, 5, 6, 7] rfl rfl rfl rfl rfl 0 rfl rfl rfl rfl hl.1 (Nat.le_of_ble_eq_true rfl) dX0_land_9 ⟨Nat.zero_le _, Nat.zero_le _⟩ (fun H locs hw => ?_)
  have hw : Wd g A s (w_Coder h x t g (((tok, beh), (msk, sec)), ((siz, kept), size))) H locs := hw
  refine W.eq (g2 := F0 m 12 ls [.int o1, .int x1, .ref (t 0)]) rfl ?_
  obtain ⟨o2, ho2⟩ : ∃ o, o = f_X6_write 2048 kept size x1 o1 := ⟨_, rfl⟩
  refine hI.callV (wl := w_Tape t 2048 g) (a := (kept, size)) (wr := [(h, .inr (0, [.ref (x 0), .ref (t 0)])), (x 0, .inr (2, [.ref (x 1), .ref (x 2), .ref (x 3), .ref (x 4), .int siz])), (x 1, .inl (g.2.1, 400, .inl tok)), (x 2, .inl (g.2.1, 400, .inl beh)), (x 3, .inl (g.2.1, 400, .inl msk)), (x 4, .inl (g.2.2, 400, .inl sec))]) (ws1 := w_Coder h x t g (((tok, beh), (msk, sec)), ((siz, o2), size))) (r := rb_X6_write (kept, size) o2) (As := [.int x1, .int o1]) (rest := []) hw (by rw [ho2]; exact c_X6_write l g t 2048 kept size x1 o1 (by decide)) ok_yX6_write ml_X0_100 (rm_ok (by decide) (by decide)) [6, 7] [0, 1, 2, 3, 4, 5] [0, 1, 2, 3, 4, 5, 6, 7] rfl rfl rfl rfl rfl 0 rfl rfl rfl rfl hl.1 (Nat.le_of_ble_eq_true rfl) dX0_land_12 ⟨Nat.zero_le _, Nat.zero_le _⟩ (fun H locs hw => ?_)
  have hw : Wd g A s (w_Coder h x t g (((tok, beh), (msk, sec)), ((siz, o2), size))) H locs := hw
  refine W.eq (g2 := F0 m 15 ls []) rfl ?_
  exact hI.retV (u := (((tok, beh), (msk, sec)), ((siz, o2), size))) hw (hr.trans (congrArg (rb_X0_land (((tok, beh), (msk, sec)), ((siz, kept), size))) ((show f_X0_land kept size x1 = (o2) from bd_of ho1 (bd_of ho2 (rfl)))))) dX0_land_15
def f_X0_writeExpression_39 (wE : (Nat → Int32) → (Nat → Int32) → (Nat → Int32) → (Nat → Int32) → Int32 → (Nat → Int32) → Int32 → Int32 → Int32 → ((Nat → Int32) × Int32)) (tok : Nat → Int32) (beh : Nat → Int32) (msk : Nat → Int32) (sec : Nat → Int32) (siz : Int32) : Nat → (Nat → Int32) → Int32 → Int32 → Int32 → Int32 → Int32 → Int32 → Int32 → Int32 → ((Nat → Int32) × Int32)
  | 0, kept, size, y1, y2, y3, y4, y5, y6, y7 => ((kept, size))
  | k + 1, kept, size, y1, y2, y3, y4, y5, y6, y7 => if y5 ≤ y7 then if y3 = (20 : Int32) then bd (f_X2_tokenAt tok siz (y1 + (1 : Int32))) (fun o7 => bd (f_X0_write kept size (1 : Int32) o7) (fun o8 => ((o8.1, o8.2)))) else if y3 = (21 : Int32) then bd (f_X2_tokenAt tok siz (y1 + (1 : Int32))) (fun o10 => bd (f_X0_write kept size (2 : Int32) o10) (fun o11 => ((o11.1, o11.2)))) else if y3 = (35 : Int32) then bd (f_X2_isSecret sec siz y4) (fun o13 => if o13 = 0 then bd (f_X2_tokenAt tok siz (y1 + (1 : Int32))) (fun o15 => bd (f_X0_write kept size (21 : Int32) o15) (fun o16 => ((o16.1, o16.2)))) else bd (f_X2_tokenAt tok siz (y1 + (1 : Int32))) (fun o17 => bd (f_X0_write kept size (27 : Int32) o17) (fun o18 => ((o18.1, o18.2))))) else if y3 = (36 : Int32) then bd (f_X6_add 2048 kept size (17 : Int32)) (fun o20 => ((o20.1, o20.2))) else bd (f_X6_add 2048 kept size (y3 - (18 : Int32))) (fun o21 => ((o21.1, o21.2))) else bd (wE tok beh msk sec siz kept size y6 (y2 + (1 : Int32))) (fun o22 => bd (f_X2_behind beh siz y6) (fun o23 => f_X0_writeExpression_39 wE tok beh msk sec siz k o22.1 o22.2 y1 y2 y3 y4 y5 o23 (y7 + (1 : Int32))))
def f_X0_writeExpression (wE : (Nat → Int32) → (Nat → Int32) → (Nat → Int32) → (Nat → Int32) → Int32 → (Nat → Int32) → Int32 → Int32 → Int32 → ((Nat → Int32) × Int32)) (tok : Nat → Int32) (beh : Nat → Int32) (msk : Nat → Int32) (sec : Nat → Int32) (siz : Int32) (kept : Nat → Int32) (size : Int32) (x1 : Int32) (x2 : Int32) : ((Nat → Int32) × Int32) := if x2 < (12 : Int32) then bd (f_X2_tokenAt tok siz x1) (fun o2 => bd (f_X2_inside tok siz x1) (fun o3 => bd (f_X4_partsOf o2) (fun o4 => f_X0_writeExpression_39 wE tok beh msk sec siz 4 kept size x1 x2 o2 o3 o4 o3 (0 : Int32)))) else ((kept, size))
def rb_X0_writeExpression (σ : S_Coder) (o : ((Nat → Int32) × Int32)) : S_Coder := (((σ.1.1.1, σ.1.1.2), (σ.1.2.1, σ.1.2.2)), ((σ.2.1.1, o.1), o.2))
set_option maxHeartbeats 4000000 in
set_option maxRecDepth 100000 in
theorem lp_X0_writeExpression_39 (l : Launch) (g : GG) (h : Nat) (x : Nat → Nat) (t : Nat → Nat) (tok : Nat → Int32) (beh : Nat → Int32) (msk : Nat → Int32) (sec : Nat → Int32) (siz : Int32) (kept₀ : Nat → Int32) (size₀ : Int32) (wE : (Nat → Int32) → (Nat → Int32) → (Nat → Int32) → (Nat → Int32) → Int32 → (Nat → Int32) → Int32 → Int32 → Int32 → ((Nat → Int32) × Int32)) (PE : Int32 → Prop) (kM : Nat) (kE : Nat) (hk : kE + 1 ≤ kM ∧ 6 ≤ kM) (hE : ∀ (tok : Nat → Int32) (beh : Nat → Int32) (msk : Nat → Int32) (sec : Nat → Int32) (siz : Int32) (kept : Nat → Int32) (size : Int32) (y1 y2 : Int32), PE y2 → CV l g yX0_writeExpression cX0_writeExpression 8 none (rmN kE) (w_Coder h x t g) [.ref h, .int y1, .int y2] (((tok, beh), (msk, sec)), ((siz, kept), size)) (rb_X0_writeExpression (((tok, beh), (msk, sec)), ((siz, kept), size)) (wE tok beh msk sec siz kept size y1 y2)))  {p : Program} {e : Env} {s : State} {m : MethodId} {args : Array Value} {below : List Frame} {meth : Method} {c : Code} {A : Nat → Prop} (hI : InM p s m args meth c RX0 cX0_writeExpression 8 none g A) : ∀ (k : Nat) (kept : Nat → Int32) (size : Int32) (y1 : Int32) (y2 : Int32) (y3 : Int32) (y4 : Int32) (y5 : Int32) (y6 : Int32) (y7 : Int32), (cnt 3 k y7 ∧ y5 ≤ nI 3 ∧ PE (y2 + (1 : Int32))) → ∀ (r : S_Coder), r = rb_X0_writeExpression (((tok, beh), (msk, sec)), ((siz, kept₀), size₀)) (f_X0_writeExpression_39 wE tok beh msk sec siz k kept size y1 y2 y3 y4 y5 y6 y7) → ∀ (H : Heap) (locs : List Loc), Wd g A s (w_Coder h x t g (((tok, beh), (msk, sec)), ((siz, kept), size))) H locs → ∀ (ls : Array Slot), lv_has ls 8 [(0, .ref h), (1, .int y1), (2, .int y2), (3, .int y3), (4, .int y4), (5, .int y5), (6, .int y6), (7, .int y7)] → W p l e (rmN kM) s m args below meth c H locs 0 0 (QV g (w_Coder h x t g) A r below args s) (F0 m 39 ls []) := by
  have hx := hI.1
  have hb := hI.2.1
  intro k
  induction k with
  | zero =>
    intro kept size y1 y2 y3 y4 y5 y6 y7 hc
    exact absurd hc.1 cnt_n
  | succ k ih =>
    intro kept size y1 y2 y3 y4 y5 y6 y7 hc r hr H locs hw ls hl
    refine lv_iload hx hb dX0_writeExpression_39 (lv_at hl 7 rfl) ?_
    refine lv_iload hx hb dX0_writeExpression_41 (lv_at hl 5 rfl) ?_
    refine lv_icmp_ge (tgt := 72) hx hb dX0_writeExpression_43 (by decide) (fun c5 => ?_) (fun c5 => ?_)
    · refine lv_iload_n hx hb dX0_writeExpression_72 rfl (lv_at hl 3 rfl) ?_
      by_cases c6 : y3 = (20 : Int32)
      · refine lv_lookup (off := 43) (tgt := 116) hx hb dX0_writeExpression_73 (by decide) (by rw [c6]; rfl) (by decide) ?_
        refine lv_aload_n hx hb dX0_writeExpression_116 rfl (lv_at hl 0 rfl) ?_
        refine lv_iconst (v := (1 : Int32)) hx hb dX0_writeExpression_117 (by decide) ?_
        refine lv_aload_n hx hb dX0_writeExpression_118 rfl (lv_at hl 0 rfl) ?_
        refine hI.get (v := .ref (x 0)) hw fg_X0_9 0 rfl rfl dX0_writeExpression_119 ?_
        refine lv_iload_n hx hb dX0_writeExpression_122 rfl (lv_at hl 1 rfl) ?_
        refine lv_iconst (v := (1 : Int32)) hx hb dX0_writeExpression_123 (by decide) ?_
        refine lv_iadd hx hb dX0_writeExpression_124 ?_
        obtain ⟨o7, ho7⟩ : ∃ o, o = f_X2_tokenAt tok siz (y1 + (1 : Int32)) := ⟨_, rfl⟩
        refine hI.callI (wl := w_Prog x g) (a := (((tok, beh), msk), (sec, siz))) (wr := [(h, .inr (0, [.ref (x 0), .ref (t 0)])), (t 0, .inr (5, [.ref (t 1), .int size])), (t 1, .inl (g.2.1, 2048, .inl kept))]) (ws1 := w_Coder h x t g (((tok, beh), (msk, sec)), ((siz, kept), size))) (r := rb_X2_tokenAt (((tok, beh), msk), (sec, siz)) o7) (As := [.int (y1 + (1 : Int32))]) (rest := [.int (1 : Int32), .ref h]) hw (by rw [ho7]; exact c_X2_tokenAt l g x tok beh msk sec siz (y1 + (1 : Int32)) ) ok_yX2_tokenAt ml_X0_45 (rm_ok (by omega) (by decide)) [1, 2, 3, 4, 5] [0, 6, 7] [0, 3, 4, 5, 6, 7, 1, 2] rfl rfl rfl rfl rfl 0 rfl rfl rfl rfl hl.1 (Nat.le_of_ble_eq_true rfl) dX0_writeExpression_125 ⟨Nat.zero_le _, Nat.zero_le _⟩ (fun H locs hw => ?_)
        have hw : Wd g A s (w_Coder h x t g (((tok, beh), (msk, sec)), ((siz, kept), size))) H locs := hw
        refine W.eq (g2 := F0 m 128 ls [.int o7, .int (1 : Int32), .ref h]) rfl ?_
        obtain ⟨o8, ho8⟩ : ∃ o, o = f_X0_write kept size (1 : Int32) o7 := ⟨_, rfl⟩
        refine hI.callV0 (wl := w_Coder h x t g) (a := (((tok, beh), (msk, sec)), ((siz, kept), size))) (r := rb_X0_write (((tok, beh), (msk, sec)), ((siz, kept), size)) o8) (As := [.int (1 : Int32), .int o7]) (rest := []) hw (by rw [ho8]; exact c_X0_write l g h x t tok beh msk sec siz kept size (1 : Int32) o7 ) ok_yX0_write ml_X0_76 (rm_ok (by omega) (by decide)) 0 rfl rfl rfl rfl hl.1 (Nat.le_of_ble_eq_true rfl) dX0_writeExpression_128 ⟨Nat.zero_le _, Nat.zero_le _⟩ (fun H locs hw => ?_)
        have hw : Wd g A s (w_Coder h x t g (((tok, beh), (msk, sec)), ((siz, o8.1), o8.2))) H locs := hw
        refine W.eq (g2 := F0 m 131 ls []) rfl ?_
        refine lv_goto (tgt := 211) hx hb dX0_writeExpression_131 (by decide) ?_
        exact hI.retV (u := (((tok, beh), (msk, sec)), ((siz, o8.1), o8.2))) hw (hr.trans (congrArg (rb_X0_writeExpression (((tok, beh), (msk, sec)), ((siz, kept₀), size₀))) ((show f_X0_writeExpression_39 wE tok beh msk sec siz (k + 1) kept size y1 y2 y3 y4 y5 y6 y7 = ((o8.1, o8.2)) from it_t c5 (it_t c6 (bd_of ho7 (bd_of ho8 (rfl)))))))) dX0_writeExpression_211
      by_cases c9 : y3 = (21 : Int32)
      · refine lv_lookup (off := 61) (tgt := 134) hx hb dX0_writeExpression_73 (by decide) (by rw [c9]; rfl) (by decide) ?_
        refine lv_aload_n hx hb dX0_writeExpression_134 rfl (lv_at hl 0 rfl) ?_
        refine lv_iconst (v := (2 : Int32)) hx hb dX0_writeExpression_135 (by decide) ?_
        refine lv_aload_n hx hb dX0_writeExpression_136 rfl (lv_at hl 0 rfl) ?_
        refine hI.get (v := .ref (x 0)) hw fg_X0_9 0 rfl rfl dX0_writeExpression_137 ?_
        refine lv_iload_n hx hb dX0_writeExpression_140 rfl (lv_at hl 1 rfl) ?_
        refine lv_iconst (v := (1 : Int32)) hx hb dX0_writeExpression_141 (by decide) ?_
        refine lv_iadd hx hb dX0_writeExpression_142 ?_
        obtain ⟨o10, ho10⟩ : ∃ o, o = f_X2_tokenAt tok siz (y1 + (1 : Int32)) := ⟨_, rfl⟩
        refine hI.callI (wl := w_Prog x g) (a := (((tok, beh), msk), (sec, siz))) (wr := [(h, .inr (0, [.ref (x 0), .ref (t 0)])), (t 0, .inr (5, [.ref (t 1), .int size])), (t 1, .inl (g.2.1, 2048, .inl kept))]) (ws1 := w_Coder h x t g (((tok, beh), (msk, sec)), ((siz, kept), size))) (r := rb_X2_tokenAt (((tok, beh), msk), (sec, siz)) o10) (As := [.int (y1 + (1 : Int32))]) (rest := [.int (2 : Int32), .ref h]) hw (by rw [ho10]; exact c_X2_tokenAt l g x tok beh msk sec siz (y1 + (1 : Int32)) ) ok_yX2_tokenAt ml_X0_45 (rm_ok (by omega) (by decide)) [1, 2, 3, 4, 5] [0, 6, 7] [0, 3, 4, 5, 6, 7, 1, 2] rfl rfl rfl rfl rfl 0 rfl rfl rfl rfl hl.1 (Nat.le_of_ble_eq_true rfl) dX0_writeExpression_143 ⟨Nat.zero_le _, Nat.zero_le _⟩ (fun H locs hw => ?_)
        have hw : Wd g A s (w_Coder h x t g (((tok, beh), (msk, sec)), ((siz, kept), size))) H locs := hw
        refine W.eq (g2 := F0 m 146 ls [.int o10, .int (2 : Int32), .ref h]) rfl ?_
        obtain ⟨o11, ho11⟩ : ∃ o, o = f_X0_write kept size (2 : Int32) o10 := ⟨_, rfl⟩
        refine hI.callV0 (wl := w_Coder h x t g) (a := (((tok, beh), (msk, sec)), ((siz, kept), size))) (r := rb_X0_write (((tok, beh), (msk, sec)), ((siz, kept), size)) o11) (As := [.int (2 : Int32), .int o10]) (rest := []) hw (by rw [ho11]; exact c_X0_write l g h x t tok beh msk sec siz kept size (2 : Int32) o10 ) ok_yX0_write ml_X0_76 (rm_ok (by omega) (by decide)) 0 rfl rfl rfl rfl hl.1 (Nat.le_of_ble_eq_true rfl) dX0_writeExpression_146 ⟨Nat.zero_le _, Nat.zero_le _⟩ (fun H locs hw => ?_)
        have hw : Wd g A s (w_Coder h x t g (((tok, beh), (msk, sec)), ((siz, o11.1), o11.2))) H locs := hw
        refine W.eq (g2 := F0 m 149 ls []) rfl ?_
        refine lv_goto (tgt := 211) hx hb dX0_writeExpression_149 (by decide) ?_
        exact hI.retV (u := (((tok, beh), (msk, sec)), ((siz, o11.1), o11.2))) hw (hr.trans (congrArg (rb_X0_writeExpression (((tok, beh), (msk, sec)), ((siz, kept₀), size₀))) ((show f_X0_writeExpression_39 wE tok beh msk sec siz (k + 1) kept size y1 y2 y3 y4 y5 y6 y7 = ((o11.1, o11.2)) from it_t c5 (it_f c6 (it_t c9 (bd_of ho10 (bd_of ho11 (rfl))))))))) dX0_writeExpression_211
      by_cases c12 : y3 = (35 : Int32)
      · refine lv_lookup (off := 79) (tgt := 152) hx hb dX0_writeExpression_73 (by decide) (by rw [c12]; rfl) (by decide) ?_
        refine lv_aload_n hx hb dX0_writeExpression_152 rfl (lv_at hl 0 rfl) ?_
        refine lv_aload_n hx hb dX0_writeExpression_153 rfl (lv_at hl 0 rfl) ?_
        refine hI.get (v := .ref (x 0)) hw fg_X0_9 0 rfl rfl dX0_writeExpression_154 ?_
        refine lv_iload hx hb dX0_writeExpression_157 (lv_at hl 4 rfl) ?_
        obtain ⟨o13, ho13⟩ : ∃ o, o = f_X2_isSecret sec siz y4 := ⟨_, rfl⟩
        refine hI.callI (wl := w_Prog x g) (a := (((tok, beh), msk), (sec, siz))) (wr := [(h, .inr (0, [.ref (x 0), .ref (t 0)])), (t 0, .inr (5, [.ref (t 1), .int size])), (t 1, .inl (g.2.1, 2048, .inl kept))]) (ws1 := w_Coder h x t g (((tok, beh), (msk, sec)), ((siz, kept), size))) (r := rb_X2_isSecret (((tok, beh), msk), (sec, siz)) o13) (As := [.int y4]) (rest := [.ref h]) hw (by rw [ho13]; exact c_X2_isSecret l g x tok beh msk sec siz y4 ) ok_yX2_isSecret ml_X0_79 (rm_ok (by omega) (by decide)) [1, 2, 3, 4, 5] [0, 6, 7] [0, 3, 4, 5, 6, 7, 1, 2] rfl rfl rfl rfl rfl 0 rfl rfl rfl rfl hl.1 (Nat.le_of_ble_eq_true rfl) dX0_writeExpression_159 ⟨Nat.zero_le _, Nat.zero_le _⟩ (fun H locs hw => ?_)
        have hw : Wd g A s (w_Coder h x t g (((tok, beh), (msk, sec)), ((siz, kept), size))) H locs := hw
        refine W.eq (g2 := F0 m 162 ls [.int o13, .ref h]) rfl ?_
        refine lv_if_eq (tgt := 170) hx hb dX0_writeExpression_162 (by decide) (fun c14 => ?_) (fun c14 => ?_)
        · refine lv_bipush (v := (21 : Int32)) hx hb dX0_writeExpression_170 (by decide) ?_
          refine lv_aload_n hx hb dX0_writeExpression_172 rfl (lv_at hl 0 rfl) ?_
          refine hI.get (v := .ref (x 0)) hw fg_X0_9 0 rfl rfl dX0_writeExpression_173 ?_
          refine lv_iload_n hx hb dX0_writeExpression_176 rfl (lv_at hl 1 rfl) ?_
          refine lv_iconst (v := (1 : Int32)) hx hb dX0_writeExpression_177 (by decide) ?_
          refine lv_iadd hx hb dX0_writeExpression_178 ?_
          obtain ⟨o15, ho15⟩ : ∃ o, o = f_X2_tokenAt tok siz (y1 + (1 : Int32)) := ⟨_, rfl⟩
          refine hI.callI (wl := w_Prog x g) (a := (((tok, beh), msk), (sec, siz))) (wr := [(h, .inr (0, [.ref (x 0), .ref (t 0)])), (t 0, .inr (5, [.ref (t 1), .int size])), (t 1, .inl (g.2.1, 2048, .inl kept))]) (ws1 := w_Coder h x t g (((tok, beh), (msk, sec)), ((siz, kept), size))) (r := rb_X2_tokenAt (((tok, beh), msk), (sec, siz)) o15) (As := [.int (y1 + (1 : Int32))]) (rest := [.int (21 : Int32), .ref h]) hw (by rw [ho15]; exact c_X2_tokenAt l g x tok beh msk sec siz (y1 + (1 : Int32)) ) ok_yX2_tokenAt ml_X0_45 (rm_ok (by omega) (by decide)) [1, 2, 3, 4, 5] [0, 6, 7] [0, 3, 4, 5, 6, 7, 1, 2] rfl rfl rfl rfl rfl 0 rfl rfl rfl rfl hl.1 (Nat.le_of_ble_eq_true rfl) dX0_writeExpression_179 ⟨Nat.zero_le _, Nat.zero_le _⟩ (fun H locs hw => ?_)
          have hw : Wd g A s (w_Coder h x t g (((tok, beh), (msk, sec)), ((siz, kept), size))) H locs := hw
          refine W.eq (g2 := F0 m 182 ls [.int o15, .int (21 : Int32), .ref h]) rfl ?_
          obtain ⟨o16, ho16⟩ : ∃ o, o = f_X0_write kept size (21 : Int32) o15 := ⟨_, rfl⟩
          refine hI.callV0 (wl := w_Coder h x t g) (a := (((tok, beh), (msk, sec)), ((siz, kept), size))) (r := rb_X0_write (((tok, beh), (msk, sec)), ((siz, kept), size)) o16) (As := [.int (21 : Int32), .int o15]) (rest := []) hw (by rw [ho16]; exact c_X0_write l g h x t tok beh msk sec siz kept size (21 : Int32) o15 ) ok_yX0_write ml_X0_76 (rm_ok (by omega) (by decide)) 0 rfl rfl rfl rfl hl.1 (Nat.le_of_ble_eq_true rfl) dX0_writeExpression_182 ⟨Nat.zero_le _, Nat.zero_le _⟩ (fun H locs hw => ?_)
          have hw : Wd g A s (w_Coder h x t g (((tok, beh), (msk, sec)), ((siz, o16.1), o16.2))) H locs := hw
          refine W.eq (g2 := F0 m 185 ls []) rfl ?_
          refine lv_goto (tgt := 211) hx hb dX0_writeExpression_185 (by decide) ?_
          exact hI.retV (u := (((tok, beh), (msk, sec)), ((siz, o16.1), o16.2))) hw (hr.trans (congrArg (rb_X0_writeExpression (((tok, beh), (msk, sec)), ((siz, kept₀), size₀))) ((show f_X0_writeExpression_39 wE tok beh msk sec siz (k + 1) kept size y1 y2 y3 y4 y5 y6 y7 = ((o16.1, o16.2)) from it_t c5 (it_f c6 (it_f c9 (it_t c12 (bd_of ho13 (it_t c14 (bd_of ho15 (bd_of ho16 (rfl)))))))))))) dX0_writeExpression_211
        · refine lv_bipush (v := (27 : Int32)) hx hb dX0_writeExpression_165 (by decide) ?_
          refine lv_goto (tgt := 172) hx hb dX0_writeExpression_167 (by decide) ?_
          refine lv_aload_n hx hb dX0_writeExpression_172 rfl (lv_at hl 0 rfl) ?_
          refine hI.get (v := .ref (x 0)) hw fg_X0_9 0 rfl rfl dX0_writeExpression_173 ?_
          refine lv_iload_n hx hb dX0_writeExpression_176 rfl (lv_at hl 1 rfl) ?_
          refine lv_iconst (v := (1 : Int32)) hx hb dX0_writeExpression_177 (by decide) ?_
          refine lv_iadd hx hb dX0_writeExpression_178 ?_
          obtain ⟨o17, ho17⟩ : ∃ o, o = f_X2_tokenAt tok siz (y1 + (1 : Int32)) := ⟨_, rfl⟩
          refine hI.callI (wl := w_Prog x g) (a := (((tok, beh), msk), (sec, siz))) (wr := [(h, .inr (0, [.ref (x 0), .ref (t 0)])), (t 0, .inr (5, [.ref (t 1), .int size])), (t 1, .inl (g.2.1, 2048, .inl kept))]) (ws1 := w_Coder h x t g (((tok, beh), (msk, sec)), ((siz, kept), size))) (r := rb_X2_tokenAt (((tok, beh), msk), (sec, siz)) o17) (As := [.int (y1 + (1 : Int32))]) (rest := [.int (27 : Int32), .ref h]) hw (by rw [ho17]; exact c_X2_tokenAt l g x tok beh msk sec siz (y1 + (1 : Int32)) ) ok_yX2_tokenAt ml_X0_45 (rm_ok (by omega) (by decide)) [1, 2, 3, 4, 5] [0, 6, 7] [0, 3, 4, 5, 6, 7, 1, 2] rfl rfl rfl rfl rfl 0 rfl rfl rfl rfl hl.1 (Nat.le_of_ble_eq_true rfl) dX0_writeExpression_179 ⟨Nat.zero_le _, Nat.zero_le _⟩ (fun H locs hw => ?_)
          have hw : Wd g A s (w_Coder h x t g (((tok, beh), (msk, sec)), ((siz, kept), size))) H locs := hw
          refine W.eq (g2 := F0 m 182 ls [.int o17, .int (27 : Int32), .ref h]) rfl ?_
          obtain ⟨o18, ho18⟩ : ∃ o, o = f_X0_write kept size (27 : Int32) o17 := ⟨_, rfl⟩
          refine hI.callV0 (wl := w_Coder h x t g) (a := (((tok, beh), (msk, sec)), ((siz, kept), size))) (r := rb_X0_write (((tok, beh), (msk, sec)), ((siz, kept), size)) o18) (As := [.int (27 : Int32), .int o17]) (rest := []) hw (by rw [ho18]; exact c_X0_write l g h x t tok beh msk sec siz kept size (27 : Int32) o17 ) ok_yX0_write ml_X0_76 (rm_ok (by omega) (by decide)) 0 rfl rfl rfl rfl hl.1 (Nat.le_of_ble_eq_true rfl) dX0_writeExpression_182 ⟨Nat.zero_le _, Nat.zero_le _⟩ (fun H locs hw => ?_)
          have hw : Wd g A s (w_Coder h x t g (((tok, beh), (msk, sec)), ((siz, o18.1), o18.2))) H locs := hw
          refine W.eq (g2 := F0 m 185 ls []) rfl ?_
          refine lv_goto (tgt := 211) hx hb dX0_writeExpression_185 (by decide) ?_
          exact hI.retV (u := (((tok, beh), (msk, sec)), ((siz, o18.1), o18.2))) hw (hr.trans (congrArg (rb_X0_writeExpression (((tok, beh), (msk, sec)), ((siz, kept₀), size₀))) ((show f_X0_writeExpression_39 wE tok beh msk sec siz (k + 1) kept size y1 y2 y3 y4 y5 y6 y7 = ((o18.1, o18.2)) from it_t c5 (it_f c6 (it_f c9 (it_t c12 (bd_of ho13 (it_f c14 (bd_of ho17 (bd_of ho18 (rfl)))))))))))) dX0_writeExpression_211
      by_cases c19 : y3 = (36 : Int32)
      · refine lv_lookup (off := 115) (tgt := 188) hx hb dX0_writeExpression_73 (by decide) (by rw [c19]; rfl) (by decide) ?_
        refine lv_aload_n hx hb dX0_writeExpression_188 rfl (lv_at hl 0 rfl) ?_
        refine hI.get (v := .ref (t 0)) hw fg_X0_15 0 rfl rfl dX0_writeExpression_189 ?_
        refine lv_bipush (v := (17 : Int32)) hx hb dX0_writeExpression_192 (by decide) ?_
        obtain ⟨o20, ho20⟩ : ∃ o, o = f_X6_add 2048 kept size (17 : Int32) := ⟨_, rfl⟩
        refine hI.callV (wl := w_Tape t 2048 g) (a := (kept, size)) (wr := [(h, .inr (0, [.ref (x 0), .ref (t 0)])), (x 0, .inr (2, [.ref (x 1), .ref (x 2), .ref (x 3), .ref (x 4), .int siz])), (x 1, .inl (g.2.1, 400, .inl tok)), (x 2, .inl (g.2.1, 400, .inl beh)), (x 3, .inl (g.2.1, 400, .inl msk)), (x 4, .inl (g.2.2, 400, .inl sec))]) (ws1 := w_Coder h x t g (((tok, beh), (msk, sec)), ((siz, o20.1), o20.2))) (r := rb_X6_add (kept, size) o20) (As := [.int (17 : Int32)]) (rest := []) hw (by rw [ho20]; exact c_X6_add l g t 2048 kept size (17 : Int32) (by decide)) ok_yX6_add ml_X0_28 (rm_ok (by omega) (by decide)) [6, 7] [0, 1, 2, 3, 4, 5] [0, 1, 2, 3, 4, 5, 6, 7] rfl rfl rfl rfl rfl 0 rfl rfl rfl rfl hl.1 (Nat.le_of_ble_eq_true rfl) dX0_writeExpression_194 ⟨Nat.zero_le _, Nat.zero_le _⟩ (fun H locs hw => ?_)
        have hw : Wd g A s (w_Coder h x t g (((tok, beh), (msk, sec)), ((siz, o20.1), o20.2))) H locs := hw
        refine W.eq (g2 := F0 m 197 ls []) rfl ?_
        refine lv_goto (tgt := 211) hx hb dX0_writeExpression_197 (by decide) ?_
        exact hI.retV (u := (((tok, beh), (msk, sec)), ((siz, o20.1), o20.2))) hw (hr.trans (congrArg (rb_X0_writeExpression (((tok, beh), (msk, sec)), ((siz, kept₀), size₀))) ((show f_X0_writeExpression_39 wE tok beh msk sec siz (k + 1) kept size y1 y2 y3 y4 y5 y6 y7 = ((o20.1, o20.2)) from it_t c5 (it_f c6 (it_f c9 (it_f c12 (it_t c19 (bd_of ho20 (rfl)))))))))) dX0_writeExpression_211
      refine lv_lookup (off := 127) (tgt := 200) hx hb dX0_writeExpression_73 (by decide) (by rw [lv_osw c6 (show ((20 : Int32)).toInt = 20 by decide)]; rw [lv_osw c9 (show ((21 : Int32)).toInt = 21 by decide)]; rw [lv_osw c12 (show ((35 : Int32)).toInt = 35 by decide)]; rw [lv_osw c19 (show ((36 : Int32)).toInt = 36 by decide)]; rfl) (by decide) ?_
      refine lv_aload_n hx hb dX0_writeExpression_200 rfl (lv_at hl 0 rfl) ?_
      refine hI.get (v := .ref (t 0)) hw fg_X0_15 0 rfl rfl dX0_writeExpression_201 ?_
      refine lv_iload_n hx hb dX0_writeExpression_204 rfl (lv_at hl 3 rfl) ?_
      refine lv_bipush (v := (18 : Int32)) hx hb dX0_writeExpression_205 (by decide) ?_
      refine lv_isub hx hb dX0_writeExpression_207 ?_
      obtain ⟨o21, ho21⟩ : ∃ o, o = f_X6_add 2048 kept size (y3 - (18 : Int32)) := ⟨_, rfl⟩
      refine hI.callV (wl := w_Tape t 2048 g) (a := (kept, size)) (wr := [(h, .inr (0, [.ref (x 0), .ref (t 0)])), (x 0, .inr (2, [.ref (x 1), .ref (x 2), .ref (x 3), .ref (x 4), .int siz])), (x 1, .inl (g.2.1, 400, .inl tok)), (x 2, .inl (g.2.1, 400, .inl beh)), (x 3, .inl (g.2.1, 400, .inl msk)), (x 4, .inl (g.2.2, 400, .inl sec))]) (ws1 := w_Coder h x t g (((tok, beh), (msk, sec)), ((siz, o21.1), o21.2))) (r := rb_X6_add (kept, size) o21) (As := [.int (y3 - (18 : Int32))]) (rest := []) hw (by rw [ho21]; exact c_X6_add l g t 2048 kept size (y3 - (18 : Int32)) (by decide)) ok_yX6_add ml_X0_28 (rm_ok (by omega) (by decide)) [6, 7] [0, 1, 2, 3, 4, 5] [0, 1, 2, 3, 4, 5, 6, 7] rfl rfl rfl rfl rfl 0 rfl rfl rfl rfl hl.1 (Nat.le_of_ble_eq_true rfl) dX0_writeExpression_208 ⟨Nat.zero_le _, Nat.zero_le _⟩ (fun H locs hw => ?_)
      have hw : Wd g A s (w_Coder h x t g (((tok, beh), (msk, sec)), ((siz, o21.1), o21.2))) H locs := hw
      refine W.eq (g2 := F0 m 211 ls []) rfl ?_
      exact hI.retV (u := (((tok, beh), (msk, sec)), ((siz, o21.1), o21.2))) hw (hr.trans (congrArg (rb_X0_writeExpression (((tok, beh), (msk, sec)), ((siz, kept₀), size₀))) ((show f_X0_writeExpression_39 wE tok beh msk sec siz (k + 1) kept size y1 y2 y3 y4 y5 y6 y7 = ((o21.1, o21.2)) from it_t c5 (it_f c6 (it_f c9 (it_f c12 (it_f c19 (bd_of ho21 (rfl)))))))))) dX0_writeExpression_211
    · refine lv_aload_n hx hb dX0_writeExpression_46 rfl (lv_at hl 0 rfl) ?_
      refine lv_iload hx hb dX0_writeExpression_47 (lv_at hl 6 rfl) ?_
      refine lv_iload_n hx hb dX0_writeExpression_49 rfl (lv_at hl 2 rfl) ?_
      refine lv_iconst (v := (1 : Int32)) hx hb dX0_writeExpression_50 (by decide) ?_
      refine lv_iadd hx hb dX0_writeExpression_51 ?_
      obtain ⟨o22, ho22⟩ : ∃ o, o = wE tok beh msk sec siz kept size y6 (y2 + (1 : Int32)) := ⟨_, rfl⟩
      refine hI.callV0 (wl := w_Coder h x t g) (a := (((tok, beh), (msk, sec)), ((siz, kept), size))) (r := rb_X0_writeExpression (((tok, beh), (msk, sec)), ((siz, kept), size)) o22) (As := [.int y6, .int (y2 + (1 : Int32))]) (rest := []) hw (by rw [ho22]; exact hE tok beh msk sec siz kept size y6 (y2 + (1 : Int32)) hc.2.2) ok_yX0_writeExpression ml_X0_67 (rm_ok (by omega) (by decide)) 0 rfl rfl rfl rfl hl.1 (Nat.le_of_ble_eq_true rfl) dX0_writeExpression_52 ⟨Nat.zero_le _, Nat.zero_le _⟩ (fun H locs hw => ?_)
      have hw : Wd g A s (w_Coder h x t g (((tok, beh), (msk, sec)), ((siz, o22.1), o22.2))) H locs := hw
      refine W.eq (g2 := F0 m 55 ls []) rfl ?_
      refine lv_aload_n hx hb dX0_writeExpression_55 rfl (lv_at hl 0 rfl) ?_
      refine hI.get (v := .ref (x 0)) hw fg_X0_9 0 rfl rfl dX0_writeExpression_56 ?_
      refine lv_iload hx hb dX0_writeExpression_59 (lv_at hl 6 rfl) ?_
      obtain ⟨o23, ho23⟩ : ∃ o, o = f_X2_behind beh siz y6 := ⟨_, rfl⟩
      refine hI.callI (wl := w_Prog x g) (a := (((tok, beh), msk), (sec, siz))) (wr := [(h, .inr (0, [.ref (x 0), .ref (t 0)])), (t 0, .inr (5, [.ref (t 1), .int o22.2])), (t 1, .inl (g.2.1, 2048, .inl o22.1))]) (ws1 := w_Coder h x t g (((tok, beh), (msk, sec)), ((siz, o22.1), o22.2))) (r := rb_X2_behind (((tok, beh), msk), (sec, siz)) o23) (As := [.int y6]) (rest := []) hw (by rw [ho23]; exact c_X2_behind l g x tok beh msk sec siz y6 ) ok_yX2_behind ml_X0_41 (rm_ok (by omega) (by decide)) [1, 2, 3, 4, 5] [0, 6, 7] [0, 3, 4, 5, 6, 7, 1, 2] rfl rfl rfl rfl rfl 0 rfl rfl rfl rfl hl.1 (Nat.le_of_ble_eq_true rfl) dX0_writeExpression_61 ⟨Nat.zero_le _, Nat.zero_le _⟩ (fun H locs hw => ?_)
      have hw : Wd g A s (w_Coder h x t g (((tok, beh), (msk, sec)), ((siz, o22.1), o22.2))) H locs := hw
      refine W.eq (g2 := F0 m 64 ls [.int o23]) rfl ?_
      refine lv_istore (lv' := [(6, .int o23), (0, .ref h), (1, .int y1), (2, .int y2), (3, .int y3), (4, .int y4), (5, .int y5), (7, .int y7)]) hx hb dX0_writeExpression_64 hl (by decide) rfl (fun ls hl => ?_)
      refine lv_iinc (v := y7 + (1 : Int32)) (lv' := [(7, .int (y7 + (1 : Int32))), (6, .int o23), (0, .ref h), (1, .int y1), (2, .int y2), (3, .int y3), (4, .int y4), (5, .int y5)]) hx hb dX0_writeExpression_66 hl (k := 7) rfl rfl (by decide) rfl (fun ls hl => ?_)
      refine lv_goto (tgt := 39) hx hb dX0_writeExpression_69 (by decide) ?_
      exact ih o22.1 o22.2 y1 y2 y3 y4 y5 o23 (y7 + (1 : Int32)) ⟨cnt_s (by decide) hc.1 (fun z => c5 (Int32.le_trans hc.2.1 z)), hc.2.1, hc.2.2⟩ r (hr.trans (congrArg (rb_X0_writeExpression (((tok, beh), (msk, sec)), ((siz, kept₀), size₀))) ((show f_X0_writeExpression_39 wE tok beh msk sec siz (k + 1) kept size y1 y2 y3 y4 y5 y6 y7 = f_X0_writeExpression_39 wE tok beh msk sec siz k o22.1 o22.2 y1 y2 y3 y4 y5 o23 (y7 + (1 : Int32)) from it_f c5 (bd_of ho22 (bd_of ho23 (rfl))))))) _ _ hw _ (lv_sub hl [2, 3, 4, 5, 6, 7, 1, 0] rfl)
set_option maxHeartbeats 4000000 in
set_option maxRecDepth 100000 in
theorem c_X0_writeExpression (l : Launch) (g : GG) (h : Nat) (x : Nat → Nat) (t : Nat → Nat) (tok : Nat → Int32) (beh : Nat → Int32) (msk : Nat → Int32) (sec : Nat → Int32) (siz : Int32) (kept : Nat → Int32) (size : Int32) (wE : (Nat → Int32) → (Nat → Int32) → (Nat → Int32) → (Nat → Int32) → Int32 → (Nat → Int32) → Int32 → Int32 → Int32 → ((Nat → Int32) × Int32)) (x1 : Int32) (x2 : Int32) (PE : Int32 → Prop) (kM : Nat) (kE : Nat) (hk : kE + 1 ≤ kM ∧ 6 ≤ kM) (hE : ∀ (tok : Nat → Int32) (beh : Nat → Int32) (msk : Nat → Int32) (sec : Nat → Int32) (siz : Int32) (kept : Nat → Int32) (size : Int32) (y1 y2 : Int32), PE y2 → CV l g yX0_writeExpression cX0_writeExpression 8 none (rmN kE) (w_Coder h x t g) [.ref h, .int y1, .int y2] (((tok, beh), (msk, sec)), ((siz, kept), size)) (rb_X0_writeExpression (((tok, beh), (msk, sec)), ((siz, kept), size)) (wE tok beh msk sec siz kept size y1 y2))) (hP : x2 < (12 : Int32) → PE (x2 + (1 : Int32))) : CV l g yX0_writeExpression cX0_writeExpression 8 none (rmN kM) (w_Coder h x t g) [.ref h, .int x1, .int x2] (((tok, beh), (msk, sec)), ((siz, kept), size)) (rb_X0_writeExpression (((tok, beh), (msk, sec)), ((siz, kept), size)) (f_X0_writeExpression wE tok beh msk sec siz kept size x1 x2)) := by
  refine CV.mk (by decide) (Nat.le_of_ble_eq_true rfl) ?_
  intro p e s m below meth c A ls hI hw hl
  have hx := hI.1
  have hb := hI.2.1
  obtain ⟨r, hr⟩ : ∃ r, r = rb_X0_writeExpression (((tok, beh), (msk, sec)), ((siz, kept), size)) (f_X0_writeExpression wE tok beh msk sec siz kept size x1 x2) := ⟨_, rfl⟩
  rw [← hr]
  have hl : lv_has ls 8 [(0, .ref h), (1, .int x1), (2, .int x2)] := hl
  refine lv_iload_n hx hb dX0_writeExpression_0 rfl (lv_at hl 2 rfl) ?_
  refine lv_bipush (v := (12 : Int32)) hx hb dX0_writeExpression_1 (by decide) ?_
  refine lv_icmp_lt (tgt := 7) hx hb dX0_writeExpression_3 (by decide) (fun c1 => ?_) (fun c1 => ?_)
  · refine lv_aload_n hx hb dX0_writeExpression_7 rfl (lv_at hl 0 rfl) ?_
    refine hI.get (v := .ref (x 0)) hw fg_X0_9 0 rfl rfl dX0_writeExpression_8 ?_
    refine lv_iload_n hx hb dX0_writeExpression_11 rfl (lv_at hl 1 rfl) ?_
    obtain ⟨o2, ho2⟩ : ∃ o, o = f_X2_tokenAt tok siz x1 := ⟨_, rfl⟩
    refine hI.callI (wl := w_Prog x g) (a := (((tok, beh), msk), (sec, siz))) (wr := [(h, .inr (0, [.ref (x 0), .ref (t 0)])), (t 0, .inr (5, [.ref (t 1), .int size])), (t 1, .inl (g.2.1, 2048, .inl kept))]) (ws1 := w_Coder h x t g (((tok, beh), (msk, sec)), ((siz, kept), size))) (r := rb_X2_tokenAt (((tok, beh), msk), (sec, siz)) o2) (As := [.int x1]) (rest := []) hw (by rw [ho2]; exact c_X2_tokenAt l g x tok beh msk sec siz x1 ) ok_yX2_tokenAt ml_X0_45 (rm_ok (by omega) (by decide)) [1, 2, 3, 4, 5] [0, 6, 7] [0, 3, 4, 5, 6, 7, 1, 2] rfl rfl rfl rfl rfl 0 rfl rfl rfl rfl hl.1 (Nat.le_of_ble_eq_true rfl) dX0_writeExpression_12 ⟨Nat.zero_le _, Nat.zero_le _⟩ (fun H locs hw => ?_)
    have hw : Wd g A s (w_Coder h x t g (((tok, beh), (msk, sec)), ((siz, kept), size))) H locs := hw
    refine W.eq (g2 := F0 m 15 ls [.int o2]) rfl ?_
    refine lv_istore_n (lv' := [(3, .int o2), (0, .ref h), (1, .int x1), (2, .int x2)]) hx hb dX0_writeExpression_15 rfl hl (by decide) rfl (fun ls hl => ?_)
    refine lv_aload_n hx hb dX0_writeExpression_16 rfl (lv_at hl 1 rfl) ?_
    refine hI.get (v := .ref (x 0)) hw fg_X0_9 0 rfl rfl dX0_writeExpression_17 ?_
    refine lv_iload_n hx hb dX0_writeExpression_20 rfl (lv_at hl 2 rfl) ?_
    obtain ⟨o3, ho3⟩ : ∃ o, o = f_X2_inside tok siz x1 := ⟨_, rfl⟩
    refine hI.callI (wl := w_Prog x g) (a := (((tok, beh), msk), (sec, siz))) (wr := [(h, .inr (0, [.ref (x 0), .ref (t 0)])), (t 0, .inr (5, [.ref (t 1), .int size])), (t 1, .inl (g.2.1, 2048, .inl kept))]) (ws1 := w_Coder h x t g (((tok, beh), (msk, sec)), ((siz, kept), size))) (r := rb_X2_inside (((tok, beh), msk), (sec, siz)) o3) (As := [.int x1]) (rest := []) hw (by rw [ho3]; exact c_X2_inside l g x tok beh msk sec siz x1 ) ok_yX2_inside ml_X0_64 (rm_ok (by omega) (by decide)) [1, 2, 3, 4, 5] [0, 6, 7] [0, 3, 4, 5, 6, 7, 1, 2] rfl rfl rfl rfl rfl 0 rfl rfl rfl rfl hl.1 (Nat.le_of_ble_eq_true rfl) dX0_writeExpression_21 ⟨Nat.zero_le _, Nat.zero_le _⟩ (fun H locs hw => ?_)
    have hw : Wd g A s (w_Coder h x t g (((tok, beh), (msk, sec)), ((siz, kept), size))) H locs := hw
    refine W.eq (g2 := F0 m 24 ls [.int o3]) rfl ?_
    refine lv_istore (lv' := [(4, .int o3), (3, .int o2), (0, .ref h), (1, .int x1), (2, .int x2)]) hx hb dX0_writeExpression_24 hl (by decide) rfl (fun ls hl => ?_)
    refine lv_iload_n hx hb dX0_writeExpression_26 rfl (lv_at hl 1 rfl) ?_
    obtain ⟨o4, ho4⟩ : ∃ o, o = f_X4_partsOf o2 := ⟨_, rfl⟩
    refine hI.callSI (r := o4) (As := [.int o2]) (rest := []) hw (by rw [ho4]; exact c_X4_partsOf l g o2) ok_yX4_partsOf ml_X0_95 (rm_ok (by omega) (by decide)) rfl rfl hl.1 (Nat.le_of_ble_eq_true rfl) dX0_writeExpression_27 ⟨Nat.zero_le _, Nat.zero_le _⟩ (fun H locs hw => ?_)
    refine lv_istore (lv' := [(5, .int o4), (4, .int o3), (3, .int o2), (0, .ref h), (1, .int x1), (2, .int x2)]) hx hb dX0_writeExpression_30 hl (by decide) rfl (fun ls hl => ?_)
    refine lv_iload hx hb dX0_writeExpression_32 (lv_at hl 1 rfl) ?_
    refine lv_istore (lv' := [(6, .int o3), (5, .int o4), (4, .int o3), (3, .int o2), (0, .ref h), (1, .int x1), (2, .int x2)]) hx hb dX0_writeExpression_34 hl (by decide) rfl (fun ls hl => ?_)
    refine lv_iconst (v := (0 : Int32)) hx hb dX0_writeExpression_36 (by decide) ?_
    refine lv_istore (lv' := [(7, .int (0 : Int32)), (6, .int o3), (5, .int o4), (4, .int o3), (3, .int o2), (0, .ref h), (1, .int x1), (2, .int x2)]) hx hb dX0_writeExpression_37 hl (by decide) rfl (fun ls hl => ?_)
    exact lp_X0_writeExpression_39 l g h x t tok beh msk sec siz kept size wE PE kM kE hk hE hI 4 kept size x1 x2 o2 o3 o4 o3 (0 : Int32) ⟨cnt_0 3, (by rw [ho4]; exact parts_le ..), hP c1⟩ r (hr.trans (congrArg (rb_X0_writeExpression (((tok, beh), (msk, sec)), ((siz, kept), size))) ((show f_X0_writeExpression wE tok beh msk sec siz kept size x1 x2 = f_X0_writeExpression_39 wE tok beh msk sec siz 4 kept size x1 x2 o2 o3 o4 o3 (0 : Int32) from it_t c1 (bd_of ho2 (bd_of ho3 (bd_of ho4 (rfl)))))))) _ _ hw _ (lv_sub hl [5, 6, 7, 4, 3, 2, 1, 0] rfl)
  · exact hI.retV (u := (((tok, beh), (msk, sec)), ((siz, kept), size))) hw (hr.trans (congrArg (rb_X0_writeExpression (((tok, beh), (msk, sec)), ((siz, kept), size))) ((show f_X0_writeExpression wE tok beh msk sec siz kept size x1 x2 = ((kept, size)) from it_f c1 (rfl))))) dX0_writeExpression_6
