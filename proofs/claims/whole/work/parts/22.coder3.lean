def wrE : Nat → (Nat → Int32) → (Nat → Int32) → (Nat → Int32) → (Nat → Int32) → Int32 → (Nat → Int32) → Int32 → Int32 → Int32 → ((Nat → Int32) × Int32)
  | 0 => f_X0_writeExpression (fun tok beh msk sec siz kept size _ _ => (kept, size))
  | d + 1 => f_X0_writeExpression (wrE d)
def wrS : Nat → (Nat → Int32) → (Nat → Int32) → (Nat → Int32) → (Nat → Int32) → Int32 → (Nat → Int32) → Int32 → Int32 → Int32 → Int32 → ((Nat → Int32) × Int32)
  | 0 => f_X0_writeStatement (fun tok beh msk sec siz kept size _ _ => (kept, size)) (fun tok beh msk sec siz kept size _ _ _ => (kept, size))
  | d + 1 => f_X0_writeStatement (wrE d) (f_X0_writeStatements (wrS d))
def wrSs (d : Nat) : (Nat → Int32) → (Nat → Int32) → (Nat → Int32) → (Nat → Int32) → Int32 → (Nat → Int32) → Int32 → Int32 → Int32 → Int32 → ((Nat → Int32) × Int32) := f_X0_writeStatements (wrS d)
theorem dep_0n {y : Int32} (hy : y = nI (12 - 0)) (h : y < (12 : Int32)) : False := by subst hy; exact absurd h (by decide)
theorem k_wrE (l : Launch) (g : GG) (h : Nat) (x : Nat → Nat) (t : Nat → Nat) : ∀ (d : Nat), d ≤ 12 → ∀ (tok : Nat → Int32) (beh : Nat → Int32) (msk : Nat → Int32) (sec : Nat → Int32) (siz : Int32) (kept : Nat → Int32) (size : Int32) (y1 y2 : Int32), y2 = nI (12 - d) → CV l g yX0_writeExpression cX0_writeExpression 8 none (rmN (d + 6)) (w_Coder h x t g) [.ref h, .int y1, .int y2] (((tok, beh), (msk, sec)), ((siz, kept), size)) (rb_X0_writeExpression (((tok, beh), (msk, sec)), ((siz, kept), size)) (wrE d tok beh msk sec siz kept size y1 y2)) := by
  intro d
  induction d with
  | zero =>
    intro _ tok beh msk sec siz kept size y1 y2 hy
    exact c_X0_writeExpression l g h x t tok beh msk sec siz kept size _ y1 y2 (fun _ => False) 6 0 (by omega) (fun tok beh msk sec siz kept size y1 y2 hf => hf.elim) (fun hn => dep_0n hy hn)
  | succ d ih =>
    intro hd tok beh msk sec siz kept size y1 y2 hy
    exact c_X0_writeExpression l g h x t tok beh msk sec siz kept size (wrE d) y1 y2 (fun z => z = nI (12 - d)) (d + 1 + 6) (d + 6) (by omega) (fun tok beh msk sec siz kept size y1 y2 hz => ih (by omega) tok beh msk sec siz kept size y1 y2 hz) (fun _ => dep_s hd hy)
theorem k_wrS (l : Launch) (g : GG) (h : Nat) (x : Nat → Nat) (t : Nat → Nat) : ∀ (d : Nat), d ≤ 12 → ∀ (tok : Nat → Int32) (beh : Nat → Int32) (msk : Nat → Int32) (sec : Nat → Int32) (siz : Int32) (kept : Nat → Int32) (size : Int32) (y1 y2 y3 : Int32), y2 = nI (12 - d) → CV l g yX0_writeStatement cX0_writeStatement 4 none (rmN (3 * d + 11)) (w_Coder h x t g) [.ref h, .int y1, .int y2, .int y3] (((tok, beh), (msk, sec)), ((siz, kept), size)) (rb_X0_writeStatement (((tok, beh), (msk, sec)), ((siz, kept), size)) (wrS d tok beh msk sec siz kept size y1 y2 y3)) := by
  intro d
  induction d with
  | zero =>
    intro _ tok beh msk sec siz kept size y1 y2 y3 hy
    exact c_X0_writeStatement l g h x t tok beh msk sec siz kept size _ _ y1 y2 y3 (fun _ => False) (fun _ => False) 11 10 0 0 (by omega) (fun tok beh msk sec siz kept size y1 y2 hf => hf.elim) (fun tok beh msk sec siz kept size y1 y2 y3 hf => hf.elim) (fun hn => (dep_0n hy hn).elim)
  | succ d ih =>
    intro hd tok beh msk sec siz kept size y1 y2 y3 hy
    exact c_X0_writeStatement l g h x t tok beh msk sec siz kept size (wrE d) (wrSs d) y1 y2 y3 (fun z => z = nI (12 - d)) (fun z => z = nI (12 - d)) (3 * (d + 1) + 11) (3 * d + 13) (d + 6) (3 * d + 12) (by omega) (fun tok beh msk sec siz kept size y1 y2 hz => k_wrE l g h x t d (by omega) tok beh msk sec siz kept size y1 y2 hz) (fun tok beh msk sec siz kept size y1 y2 y3 hz => c_X0_writeStatements l g h x t tok beh msk sec siz kept size (wrS d) y1 y2 y3 (fun z => z = nI (12 - d)) (3 * d + 12) (3 * d + 11) (by omega) (fun tok beh msk sec siz kept size y1 y2 y3 hz => ih (by omega) tok beh msk sec siz kept size y1 y2 y3 hz) hz) (fun _ => ⟨dep_s hd hy, dep_s hd hy⟩)
theorem k_wrSs (l : Launch) (g : GG) (h : Nat) (x : Nat → Nat) (t : Nat → Nat) : ∀ (d : Nat), d ≤ 12 → ∀ (tok : Nat → Int32) (beh : Nat → Int32) (msk : Nat → Int32) (sec : Nat → Int32) (siz : Int32) (kept : Nat → Int32) (size : Int32) (y1 y2 y3 : Int32), y2 = nI (12 - d) → CV l g yX0_writeStatements cX0_writeStatements 6 none (rmN (3 * d + 12)) (w_Coder h x t g) [.ref h, .int y1, .int y2, .int y3] (((tok, beh), (msk, sec)), ((siz, kept), size)) (rb_X0_writeStatements (((tok, beh), (msk, sec)), ((siz, kept), size)) (wrSs d tok beh msk sec siz kept size y1 y2 y3)) := by
  intro d hd tok beh msk sec siz kept size y1 y2 y3 hy
  exact c_X0_writeStatements l g h x t tok beh msk sec siz kept size (wrS d) y1 y2 y3 (fun z => z = nI (12 - d)) (3 * d + 12) (3 * d + 11) (by omega) (fun tok beh msk sec siz kept size y1 y2 y3 hz => k_wrS l g h x t d hd tok beh msk sec siz kept size y1 y2 y3 hz) hy
def f_X0_writeCode (tok : Nat → Int32) (beh : Nat → Int32) (msk : Nat → Int32) (sec : Nat → Int32) (siz : Int32) (kept : Nat → Int32) (size : Int32) : ((Nat → Int32) × Int32) := bd (f_X6_clear size) (fun o1 => bd (wrSs 12 tok beh msk sec siz kept o1 (0 : Int32) (0 : Int32) (0 : Int32)) (fun o2 => bd (f_X6_add 2048 o2.1 o2.2 (0 : Int32)) (fun o3 => ((o3.1, o3.2)))))
def rb_X0_writeCode (σ : S_Coder) (o : ((Nat → Int32) × Int32)) : S_Coder := (((σ.1.1.1, σ.1.1.2), (σ.1.2.1, σ.1.2.2)), ((σ.2.1.1, o.1), o.2))
set_option maxHeartbeats 4000000 in
set_option maxRecDepth 100000 in
theorem c_X0_writeCode (l : Launch) (g : GG) (h : Nat) (x : Nat → Nat) (t : Nat → Nat) (tok : Nat → Int32) (beh : Nat → Int32) (msk : Nat → Int32) (sec : Nat → Int32) (siz : Int32) (kept : Nat → Int32) (size : Int32) : CV l g yX0_writeCode cX0_writeCode 1 none (rmN 49) (w_Coder h x t g) [.ref h] (((tok, beh), (msk, sec)), ((siz, kept), size)) (rb_X0_writeCode (((tok, beh), (msk, sec)), ((siz, kept), size)) (f_X0_writeCode tok beh msk sec siz kept size)) := by
  refine CV.mk (by decide) (Nat.le_of_ble_eq_true rfl) ?_
  intro p e s m below meth c A ls hI hw hl
  have hx := hI.1
  have hb := hI.2.1
  obtain ⟨r, hr⟩ : ∃ r, r = rb_X0_writeCode (((tok, beh), (msk, sec)), ((siz, kept), size)) (f_X0_writeCode tok beh msk sec siz kept size) := ⟨_, rfl⟩
  rw [← hr]
  have hl : lv_has ls 1 [(0, .ref h)] := hl
  refine lv_aload_n hx hb dX0_writeCode_0 rfl (lv_at hl 0 rfl) ?_
  refine hI.get (v := .ref (t 0)) hw fg_X0_15 0 rfl rfl dX0_writeCode_1 ?_
  obtain ⟨o1, ho1⟩ : ∃ o, o = f_X6_clear size := ⟨_, rfl⟩
  refine hI.callV (wl := w_Tape t 2048 g) (a := (kept, size)) (wr := [(h, .inr (0, [.ref (x 0), .ref (t 0)])), (x 0, .inr (2, [.ref (x 1), .ref (x 2), .ref (x 3), .ref (x 4), .int siz])), (x 1, .inl (g.2.1, 400, .inl tok)), (x 2, .inl (g.2.1, 400, .inl beh)), (x 3, .inl (g.2.1, 400, .inl msk)), (x 4, .inl (g.2.2, 400, .inl sec))]) (ws1 := w_Coder h x t g (((tok, beh), (msk, sec)), ((siz, kept), o1))) (r := rb_X6_clear (kept, size) o1) (As := []) (rest := []) hw (by rw [ho1]; exact c_X6_clear l g t 2048 kept size ) ok_yX6_clear ml_X0_19 (rm_ok (by decide) (by decide)) [6, 7] [0, 1, 2, 3, 4, 5] [0, 1, 2, 3, 4, 5, 6, 7] rfl rfl rfl rfl rfl 0 rfl rfl rfl rfl hl.1 (Nat.le_of_ble_eq_true rfl) dX0_writeCode_4 ⟨Nat.zero_le _, Nat.zero_le _⟩ (fun H locs hw => ?_)
  have hw : Wd g A s (w_Coder h x t g (((tok, beh), (msk, sec)), ((siz, kept), o1))) H locs := hw
  refine W.eq (g2 := F0 m 7 ls []) rfl ?_
  refine lv_aload_n hx hb dX0_writeCode_7 rfl (lv_at hl 0 rfl) ?_
  refine lv_iconst (v := (0 : Int32)) hx hb dX0_writeCode_8 (by decide) ?_
  refine lv_iconst (v := (0 : Int32)) hx hb dX0_writeCode_9 (by decide) ?_
  refine lv_iconst (v := (0 : Int32)) hx hb dX0_writeCode_10 (by decide) ?_
  obtain ⟨o2, ho2⟩ : ∃ o, o = wrSs 12 tok beh msk sec siz kept o1 (0 : Int32) (0 : Int32) (0 : Int32) := ⟨_, rfl⟩
  refine hI.callV0 (wl := w_Coder h x t g) (a := (((tok, beh), (msk, sec)), ((siz, kept), o1))) (r := rb_X0_writeStatements (((tok, beh), (msk, sec)), ((siz, kept), o1)) o2) (As := [.int (0 : Int32), .int (0 : Int32), .int (0 : Int32)]) (rest := []) hw (by rw [ho2]; exact k_wrSs l g h x t 12 (by decide) tok beh msk sec siz kept o1 (0 : Int32) (0 : Int32) (0 : Int32) rfl) ok_yX0_writeStatements ml_X0_24 (rm_ok (by decide) (by decide)) 0 rfl rfl rfl rfl hl.1 (Nat.le_of_ble_eq_true rfl) dX0_writeCode_11 ⟨Nat.zero_le _, Nat.zero_le _⟩ (fun H locs hw => ?_)
  have hw : Wd g A s (w_Coder h x t g (((tok, beh), (msk, sec)), ((siz, o2.1), o2.2))) H locs := hw
  refine W.eq (g2 := F0 m 14 ls []) rfl ?_
  refine lv_aload_n hx hb dX0_writeCode_14 rfl (lv_at hl 0 rfl) ?_
  refine hI.get (v := .ref (t 0)) hw fg_X0_15 0 rfl rfl dX0_writeCode_15 ?_
  refine lv_iconst (v := (0 : Int32)) hx hb dX0_writeCode_18 (by decide) ?_
  obtain ⟨o3, ho3⟩ : ∃ o, o = f_X6_add 2048 o2.1 o2.2 (0 : Int32) := ⟨_, rfl⟩
  refine hI.callV (wl := w_Tape t 2048 g) (a := (o2.1, o2.2)) (wr := [(h, .inr (0, [.ref (x 0), .ref (t 0)])), (x 0, .inr (2, [.ref (x 1), .ref (x 2), .ref (x 3), .ref (x 4), .int siz])), (x 1, .inl (g.2.1, 400, .inl tok)), (x 2, .inl (g.2.1, 400, .inl beh)), (x 3, .inl (g.2.1, 400, .inl msk)), (x 4, .inl (g.2.2, 400, .inl sec))]) (ws1 := w_Coder h x t g (((tok, beh), (msk, sec)), ((siz, o3.1), o3.2))) (r := rb_X6_add (o2.1, o2.2) o3) (As := [.int (0 : Int32)]) (rest := []) hw (by rw [ho3]; exact c_X6_add l g t 2048 o2.1 o2.2 (0 : Int32) (by decide)) ok_yX6_add ml_X0_28 (rm_ok (by decide) (by decide)) [6, 7] [0, 1, 2, 3, 4, 5] [0, 1, 2, 3, 4, 5, 6, 7] rfl rfl rfl rfl rfl 0 rfl rfl rfl rfl hl.1 (Nat.le_of_ble_eq_true rfl) dX0_writeCode_19 ⟨Nat.zero_le _, Nat.zero_le _⟩ (fun H locs hw => ?_)
  have hw : Wd g A s (w_Coder h x t g (((tok, beh), (msk, sec)), ((siz, o3.1), o3.2))) H locs := hw
  refine W.eq (g2 := F0 m 22 ls []) rfl ?_
  exact hI.retV (u := (((tok, beh), (msk, sec)), ((siz, o3.1), o3.2))) hw (hr.trans (congrArg (rb_X0_writeCode (((tok, beh), (msk, sec)), ((siz, kept), size))) ((show f_X0_writeCode tok beh msk sec siz kept size = ((o3.1, o3.2)) from bd_of ho1 (bd_of ho2 (bd_of ho3 (rfl))))))) dX0_writeCode_22
