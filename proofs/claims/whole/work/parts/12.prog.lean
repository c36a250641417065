abbrev S_IArr : Type := (Nat → Int32)
def w_IArr (a : Nat) (n : Nat) (g : GG) (σ : S_IArr) : va_W := [(a, .inl (g.2.1, n, .inl σ))]
def f_J7_fill_53178_5 (n : Nat) : Nat → (Nat → Int32) → Int32 → Int32 → Int32 → (Nat → Int32)
  | 0, f, y1, y2, y3 => (f)
  | k + 1, f, y1, y2, y3 => if y3 ≤ y2 then (f) else f_J7_fill_53178_5 n k (upd f y2.toNatClampNeg y1) y1 (y2 + (1 : Int32)) y3
def f_J7_fill_53178 (n : Nat) (f : Nat → Int32) (x2 : Int32) : (Nat → Int32) := f_J7_fill_53178_5 n (n + 1) f x2 (0 : Int32) (nI n)
def rb_J7_fill_53178 (σ : S_IArr) (o : (Nat → Int32)) : S_IArr := o
set_option maxHeartbeats 4000000 in
set_option maxRecDepth 100000 in
theorem lp_J7_fill_53178_5 (l : Launch) (g : GG) (a : Nat) (n : Nat) (f₀ : Nat → Int32) (hn : n < 2 ^ 31)  {p : Program} {e : Env} {s : State} {m : MethodId} {args : Array Value} {below : List Frame} {meth : Method} {c : Code} {A : Nat → Prop} (hI : InM p s m args meth c RJ7 cJ7_fill_53178 4 none g A) : ∀ (k : Nat) (f : Nat → Int32) (y1 : Int32) (y2 : Int32) (y3 : Int32), (cnt n k y2 ∧ y3 = nI n) → ∀ (r : S_IArr), r = rb_J7_fill_53178 (f₀) (f_J7_fill_53178_5 n k f y1 y2 y3) → ∀ (H : Heap) (locs : List Loc), Wd g A s (w_IArr a n g f) H locs → ∀ (ls : Array Slot), lv_has ls 4 [(0, .ref a), (1, .int y1), (2, .int y2), (3, .int y3)] → W p l e (rmN 0) s m args below meth c H locs 0 0 (QV g (w_IArr a n g) A r below args s) (F0 m 5 ls []) := by
  have hx := hI.1
  have hb := hI.2.1
  intro k
  induction k with
  | zero =>
    intro f y1 y2 y3 hc
    exact absurd hc.1 cnt_n
  | succ k ih =>
    intro f y1 y2 y3 hc r hr H locs hw ls hl
    refine lv_iload_n hx hb dJ7_fill_53178_5 rfl (lv_at hl 2 rfl) ?_
    refine lv_iload_n hx hb dJ7_fill_53178_6 rfl (lv_at hl 3 rfl) ?_
    refine lv_icmp_ge (tgt := 20) hx hb dJ7_fill_53178_7 (by decide) (fun c1 => ?_) (fun c1 => ?_)
    · exact hI.retV (u := f) hw (hr.trans (congrArg (rb_J7_fill_53178 (f₀)) ((show f_J7_fill_53178_5 n (k + 1) f y1 y2 y3 = (f) from it_t c1 (rfl))))) dJ7_fill_53178_20
    · refine lv_aload_n hx hb dJ7_fill_53178_10 rfl (lv_at hl 0 rfl) ?_
      refine lv_iload_n hx hb dJ7_fill_53178_11 rfl (lv_at hl 2 rfl) ?_
      refine lv_iload_n hx hb dJ7_fill_53178_12 rfl (lv_at hl 1 rfl) ?_
      refine hI.iast hw 0 rfl (cnt_in hn hc.1 (hc.2 ▸ c1)) dJ7_fill_53178_13 (fun H locs hw => ?_)
      have hw : Wd g A s (w_IArr a n g (upd f y2.toNatClampNeg y1)) H locs := hw
      refine lv_iinc (v := y2 + (1 : Int32)) (lv' := [(2, .int (y2 + (1 : Int32))), (0, .ref a), (1, .int y1), (3, .int y3)]) hx hb dJ7_fill_53178_14 hl (k := 2) rfl rfl (by decide) rfl (fun ls hl => ?_)
      refine lv_goto (tgt := 5) hx hb dJ7_fill_53178_17 (by decide) ?_
      exact ih (upd f y2.toNatClampNeg y1) y1 (y2 + (1 : Int32)) y3 ⟨cnt_s hn hc.1 (hc.2 ▸ c1), hc.2⟩ r (hr.trans (congrArg (rb_J7_fill_53178 (f₀)) ((show f_J7_fill_53178_5 n (k + 1) f y1 y2 y3 = f_J7_fill_53178_5 n k (upd f y2.toNatClampNeg y1) y1 (y2 + (1 : Int32)) y3 from it_f c1 (rfl))))) _ _ hw _ (lv_sub hl [1, 2, 0, 3] rfl)
set_option maxHeartbeats 4000000 in
set_option maxRecDepth 100000 in
theorem c_J7_fill_53178 (l : Launch) (g : GG) (a : Nat) (n : Nat) (f : Nat → Int32) (x2 : Int32) (hn : n < 2 ^ 31) : CV l g yJ7_fill_53178 cJ7_fill_53178 4 none (rmN 0) (w_IArr a n g) [.ref a, .int x2] f (rb_J7_fill_53178 f (f_J7_fill_53178 n f x2)) := by
  refine CV.mk (by decide) (Nat.le_of_ble_eq_true rfl) ?_
  intro p e s m below meth c A ls hI hw hl
  have hx := hI.1
  have hb := hI.2.1
  obtain ⟨r, hr⟩ : ∃ r, r = rb_J7_fill_53178 f (f_J7_fill_53178 n f x2) := ⟨_, rfl⟩
  rw [← hr]
  have hl : lv_has ls 4 [(0, .ref a), (1, .int x2)] := hl
  refine lv_iconst (v := (0 : Int32)) hx hb dJ7_fill_53178_0 (by decide) ?_
  refine lv_istore_n (lv' := [(2, .int (0 : Int32)), (0, .ref a), (1, .int x2)]) hx hb dJ7_fill_53178_1 rfl hl (by decide) rfl (fun ls hl => ?_)
  refine lv_aload_n hx hb dJ7_fill_53178_2 rfl (lv_at hl 1 rfl) ?_
  refine hI.alenI hw 0 rfl dJ7_fill_53178_3 ?_
  refine lv_istore_n (lv' := [(3, .int (nI n)), (2, .int (0 : Int32)), (0, .ref a), (1, .int x2)]) hx hb dJ7_fill_53178_4 rfl hl (by decide) rfl (fun ls hl => ?_)
  exact lp_J7_fill_53178_5 l g a n f hn hI (n + 1) f x2 (0 : Int32) (nI n) ⟨cnt_0 n, rfl⟩ r (hr.trans (congrArg (rb_J7_fill_53178 f) ((show f_J7_fill_53178 n f x2 = f_J7_fill_53178_5 n (n + 1) f x2 (0 : Int32) (nI n) from rfl)))) _ _ hw _ (lv_sub hl [2, 3, 1, 0] rfl)
abbrev S_Prog : Type := ((((Nat → Int32) × (Nat → Int32)) × (Nat → Int32)) × ((Nat → Int32) × Int32))
def w_Prog (x : Nat → Nat) (g : GG) (σ : S_Prog) : va_W := [(x 0, .inr (2, [.ref (x 1), .ref (x 2), .ref (x 3), .ref (x 4), .int σ.2.2])), (x 1, .inl (g.2.1, 400, .inl σ.1.1.1)), (x 2, .inl (g.2.1, 400, .inl σ.1.1.2)), (x 3, .inl (g.2.1, 400, .inl σ.1.2)), (x 4, .inl (g.2.2, 400, .inl σ.2.1))]
def f_X2_clear (beh : Nat → Int32) (siz : Int32) : ((Nat → Int32) × Int32) := bd (f_J7_fill_53178 400 beh (0 : Int32)) (fun o1 => ((o1, (0 : Int32))))
def rb_X2_clear (σ : S_Prog) (o : ((Nat → Int32) × Int32)) : S_Prog := (((σ.1.1.1, o.1), σ.1.2), (σ.2.1, o.2))
set_option maxHeartbeats 4000000 in
set_option maxRecDepth 100000 in
theorem c_X2_clear (l : Launch) (g : GG) (x : Nat → Nat) (tok : Nat → Int32) (beh : Nat → Int32) (msk : Nat → Int32) (sec : Nat → Int32) (siz : Int32) : CV l g yX2_clear cX2_clear 1 none (rmN 1) (w_Prog x g) [.ref (x 0)] (((tok, beh), msk), (sec, siz)) (rb_X2_clear (((tok, beh), msk), (sec, siz)) (f_X2_clear beh siz)) := by
  refine CV.mk (by decide) (Nat.le_of_ble_eq_true rfl) ?_
  intro p e s m below meth c A ls hI hw hl
  have hx := hI.1
  have hb := hI.2.1
  obtain ⟨r, hr⟩ : ∃ r, r = rb_X2_clear (((tok, beh), msk), (sec, siz)) (f_X2_clear beh siz) := ⟨_, rfl⟩
  rw [← hr]
  have hl : lv_has ls 1 [(0, .ref (x 0))] := hl
  refine lv_aload_n hx hb dX2_clear_0 rfl (lv_at hl 0 rfl) ?_
  refine lv_iconst (v := (0 : Int32)) hx hb dX2_clear_1 (by decide) ?_
  refine hI.put hw fp_X2_25 rfl 0 rfl rfl rfl (Nat.le_of_ble_eq_true rfl) dX2_clear_2 (fun H locs hw => ?_)
  have hw : Wd g A s (w_Prog x g (((tok, beh), msk), (sec, (0 : Int32)))) H locs := hw
  refine lv_aload_n hx hb dX2_clear_5 rfl (lv_at hl 0 rfl) ?_
  refine hI.get (v := .ref (x 2)) hw fg_X2_15 0 rfl rfl dX2_clear_6 ?_
  refine lv_iconst (v := (0 : Int32)) hx hb dX2_clear_9 (by decide) ?_
  obtain ⟨o1, ho1⟩ : ∃ o, o = f_J7_fill_53178 400 beh (0 : Int32) := ⟨_, rfl⟩
  refine hI.callSV (wl := w_IArr (x 2) 400 g) (a := beh) (wr := [(x 0, .inr (2, [.ref (x 1), .ref (x 2), .ref (x 3), .ref (x 4), .int (0 : Int32)])), (x 1, .inl (g.2.1, 400, .inl tok)), (x 3, .inl (g.2.1, 400, .inl msk)), (x 4, .inl (g.2.2, 400, .inl sec))]) (ws1 := w_Prog x g (((tok, o1), msk), (sec, (0 : Int32)))) (r := rb_J7_fill_53178 beh o1) (As := [.ref (x 2), .int (0 : Int32)]) (rest := []) hw (by rw [ho1]; exact c_J7_fill_53178 l g (x 2) 400 beh (0 : Int32) (by decide)) ok_yJ7_fill_53178 ml_X2_29 (rm_ok (by decide) (by decide)) [2] [0, 1, 3, 4] [0, 1, 4, 2, 3] rfl rfl rfl rfl rfl rfl rfl hl.1 (Nat.le_of_ble_eq_true rfl) dX2_clear_10 ⟨Nat.zero_le _, Nat.zero_le _⟩ (fun H locs hw => ?_)
  have hw : Wd g A s (w_Prog x g (((tok, o1), msk), (sec, (0 : Int32)))) H locs := hw
  exact hI.retV (u := (((tok, o1), msk), (sec, (0 : Int32)))) hw (hr.trans (congrArg (rb_X2_clear (((tok, beh), msk), (sec, siz))) ((show f_X2_clear beh siz = ((o1, (0 : Int32))) from bd_of ho1 (rfl))))) dX2_clear_13
def f_X2_add (tok : Nat → Int32) (siz : Int32) (x1 : Int32) : Int32 × ((Nat → Int32) × Int32) := if siz < 0 then ((0 : Int32), (tok, siz)) else if siz < (400 : Int32) then ((1 : Int32), (upd tok siz.toNatClampNeg x1, siz + (1 : Int32))) else ((0 : Int32), (tok, siz))
def rb_X2_add (σ : S_Prog) (o : Int32 × ((Nat → Int32) × Int32)) : Int32 × S_Prog := (o.1, (((o.2.1, σ.1.1.2), σ.1.2), (σ.2.1, o.2.2)))
set_option maxHeartbeats 4000000 in
set_option maxRecDepth 100000 in
theorem c_X2_add (l : Launch) (g : GG) (x : Nat → Nat) (tok : Nat → Int32) (beh : Nat → Int32) (msk : Nat → Int32) (sec : Nat → Int32) (siz : Int32) (x1 : Int32) : CI l g yX2_add cX2_add 2 (some .boolean) (rmN 0) (w_Prog x g) [.ref (x 0), .int x1] (((tok, beh), msk), (sec, siz)) (rb_X2_add (((tok, beh), msk), (sec, siz)) (f_X2_add tok siz x1)) := by
  refine CI.mk (by decide) (Nat.le_of_ble_eq_true rfl) ?_
  intro p e s m below meth c A ls hI hw hl
  have hx := hI.1
  have hb := hI.2.1
  obtain ⟨r, hr⟩ : ∃ r, r = rb_X2_add (((tok, beh), msk), (sec, siz)) (f_X2_add tok siz x1) := ⟨_, rfl⟩
  rw [← hr]
  have hl : lv_has ls 2 [(0, .ref (x 0)), (1, .int x1)] := hl
  refine lv_aload_n hx hb dX2_add_0 rfl (lv_at hl 0 rfl) ?_
  refine hI.get (v := .int siz) hw fg_X2_25 0 rfl rfl dX2_add_1 ?_
  refine lv_if_lt (tgt := 17) hx hb dX2_add_4 (by decide) (fun c1 => ?_) (fun c1 => ?_)
  · refine lv_iconst (v := (0 : Int32)) hx hb dX2_add_17 (by decide) ?_
    exact hI.retZ (u := (((tok, beh), msk), (sec, siz))) hw rfl (hr.trans (congrArg (rb_X2_add (((tok, beh), msk), (sec, siz))) ((show f_X2_add tok siz x1 = ((0 : Int32), (tok, siz)) from it_t c1 (rfl))))) dX2_add_18
  · refine lv_aload_n hx hb dX2_add_7 rfl (lv_at hl 0 rfl) ?_
    refine hI.get (v := .int siz) hw fg_X2_25 0 rfl rfl dX2_add_8 ?_
    refine lv_sipush (v := (400 : Int32)) hx hb dX2_add_11 (by decide) ?_
    refine lv_icmp_lt (tgt := 19) hx hb dX2_add_14 (by decide) (fun c2 => ?_) (fun c2 => ?_)
    · refine lv_aload_n hx hb dX2_add_19 rfl (lv_at hl 0 rfl) ?_
      refine hI.get (v := .ref (x 1)) hw fg_X2_9 0 rfl rfl dX2_add_20 ?_
      refine lv_aload_n hx hb dX2_add_23 rfl (lv_at hl 0 rfl) ?_
      refine hI.get (v := .int siz) hw fg_X2_25 0 rfl rfl dX2_add_24 ?_
      refine lv_iload_n hx hb dX2_add_27 rfl (lv_at hl 1 rfl) ?_
      refine hI.iast hw 1 rfl (vin_c (n := 400) c1 (Int32.not_le.mpr c2) (by decide)) dX2_add_28 (fun H locs hw => ?_)
      have hw : Wd g A s (w_Prog x g (((upd tok siz.toNatClampNeg x1, beh), msk), (sec, siz))) H locs := hw
      refine lv_aload_n hx hb dX2_add_29 rfl (lv_at hl 0 rfl) ?_
      refine lv_dup hx hb dX2_add_30 rfl ?_
      refine hI.get (v := .int siz) hw fg_X2_25 0 rfl rfl dX2_add_31 ?_
      refine lv_iconst (v := (1 : Int32)) hx hb dX2_add_34 (by decide) ?_
      refine lv_iadd hx hb dX2_add_35 ?_
      refine hI.put hw fp_X2_25 rfl 0 rfl rfl rfl (Nat.le_of_ble_eq_true rfl) dX2_add_36 (fun H locs hw => ?_)
      have hw : Wd g A s (w_Prog x g (((upd tok siz.toNatClampNeg x1, beh), msk), (sec, siz + (1 : Int32)))) H locs := hw
      refine lv_iconst (v := (1 : Int32)) hx hb dX2_add_39 (by decide) ?_
      exact hI.retZ (u := (((upd tok siz.toNatClampNeg x1, beh), msk), (sec, siz + (1 : Int32)))) hw rfl (hr.trans (congrArg (rb_X2_add (((tok, beh), msk), (sec, siz))) ((show f_X2_add tok siz x1 = ((1 : Int32), (upd tok siz.toNatClampNeg x1, siz + (1 : Int32))) from it_f c1 (it_t c2 (rfl)))))) dX2_add_40
    · refine lv_iconst (v := (0 : Int32)) hx hb dX2_add_17 (by decide) ?_
      exact hI.retZ (u := (((tok, beh), msk), (sec, siz))) hw rfl (hr.trans (congrArg (rb_X2_add (((tok, beh), msk), (sec, siz))) ((show f_X2_add tok siz x1 = ((0 : Int32), (tok, siz)) from it_f c1 (it_f c2 (rfl)))))) dX2_add_18
def f_X2_has (siz : Int32) (x1 : Int32) : Int32 := if x1 < 0 then ((0 : Int32)) else if siz ≤ x1 then ((0 : Int32)) else if (400 : Int32) ≤ x1 then ((0 : Int32)) else ((1 : Int32))
def rb_X2_has (σ : S_Prog) (o : Int32) : Int32 × S_Prog := (o, σ)
set_option maxHeartbeats 4000000 in
set_option maxRecDepth 100000 in
theorem c_X2_has (l : Launch) (g : GG) (x : Nat → Nat) (tok : Nat → Int32) (beh : Nat → Int32) (msk : Nat → Int32) (sec : Nat → Int32) (siz : Int32) (x1 : Int32) : CI l g yX2_has cX2_has 2 (some .boolean) (rmN 0) (w_Prog x g) [.ref (x 0), .int x1] (((tok, beh), msk), (sec, siz)) (rb_X2_has (((tok, beh), msk), (sec, siz)) (f_X2_has siz x1)) := by
  refine CI.mk (by decide) (Nat.le_of_ble_eq_true rfl) ?_
  intro p e s m below meth c A ls hI hw hl
  have hx := hI.1
  have hb := hI.2.1
  obtain ⟨r, hr⟩ : ∃ r, r = rb_X2_has (((tok, beh), msk), (sec, siz)) (f_X2_has siz x1) := ⟨_, rfl⟩
  rw [← hr]
  have hl : lv_has ls 2 [(0, .ref (x 0)), (1, .int x1)] := hl
  refine lv_iload_n hx hb dX2_has_0 rfl (lv_at hl 1 rfl) ?_
  refine lv_if_lt (tgt := 23) hx hb dX2_has_1 (by decide) (fun c1 => ?_) (fun c1 => ?_)
  · refine lv_iconst (v := (0 : Int32)) hx hb dX2_has_23 (by decide) ?_
    exact hI.retZ (u := (((tok, beh), msk), (sec, siz))) hw rfl (hr.trans (congrArg (rb_X2_has (((tok, beh), msk), (sec, siz))) ((show f_X2_has siz x1 = ((0 : Int32)) from it_t c1 (rfl))))) dX2_has_24
  · refine lv_iload_n hx hb dX2_has_4 rfl (lv_at hl 1 rfl) ?_
    refine lv_aload_n hx hb dX2_has_5 rfl (lv_at hl 0 rfl) ?_
    refine hI.get (v := .int siz) hw fg_X2_25 0 rfl rfl dX2_has_6 ?_
    refine lv_icmp_ge (tgt := 23) hx hb dX2_has_9 (by decide) (fun c2 => ?_) (fun c2 => ?_)
    · refine lv_iconst (v := (0 : Int32)) hx hb dX2_has_23 (by decide) ?_
      exact hI.retZ (u := (((tok, beh), msk), (sec, siz))) hw rfl (hr.trans (congrArg (rb_X2_has (((tok, beh), msk), (sec, siz))) ((show f_X2_has siz x1 = ((0 : Int32)) from it_f c1 (it_t c2 (rfl)))))) dX2_has_24
    · refine lv_iload_n hx hb dX2_has_12 rfl (lv_at hl 1 rfl) ?_
      refine lv_sipush (v := (400 : Int32)) hx hb dX2_has_13 (by decide) ?_
      refine lv_icmp_ge (tgt := 23) hx hb dX2_has_16 (by decide) (fun c3 => ?_) (fun c3 => ?_)
      · refine lv_iconst (v := (0 : Int32)) hx hb dX2_has_23 (by decide) ?_
        exact hI.retZ (u := (((tok, beh), msk), (sec, siz))) hw rfl (hr.trans (congrArg (rb_X2_has (((tok, beh), msk), (sec, siz))) ((show f_X2_has siz x1 = ((0 : Int32)) from it_f c1 (it_f c2 (it_t c3 (rfl))))))) dX2_has_24
      · refine lv_iconst (v := (1 : Int32)) hx hb dX2_has_19 (by decide) ?_
        refine lv_goto (tgt := 24) hx hb dX2_has_20 (by decide) ?_
        exact hI.retZ (u := (((tok, beh), msk), (sec, siz))) hw rfl (hr.trans (congrArg (rb_X2_has (((tok, beh), msk), (sec, siz))) ((show f_X2_has siz x1 = ((1 : Int32)) from it_f c1 (it_f c2 (it_f c3 (rfl))))))) dX2_has_24
theorem in_X2_has {siz x : Int32} (h : ¬ f_X2_has siz x = 0) : vp_in x 400 := by
  unfold f_X2_has at h
  split at h
  · exact absurd rfl h
  · split at h
    · exact absurd rfl h
    · split at h
      · exact absurd rfl h
      · exact vin_c (by assumption) (by assumption) (by decide)
def f_X2_note (beh : Nat → Int32) (msk : Nat → Int32) (sec : Nat → Int32) (siz : Int32) (x1 : Int32) (x2 : Int32) (x3 : Int32) (x4 : Int32) : (((Nat → Int32) × (Nat → Int32)) × (Nat → Int32)) := bd (f_X2_has siz x1) (fun o1 => if o1 = 0 then (((beh, msk), sec)) else (((upd beh x1.toNatClampNeg x2, upd msk x1.toNatClampNeg x3), upd sec x1.toNatClampNeg (vp_nar .boolean x4))))
def rb_X2_note (σ : S_Prog) (o : (((Nat → Int32) × (Nat → Int32)) × (Nat → Int32))) : S_Prog := (((σ.1.1.1, o.1.1), o.1.2), (o.2, σ.2.2))
set_option maxHeartbeats 4000000 in
set_option maxRecDepth 100000 in
theorem c_X2_note (l : Launch) (g : GG) (x : Nat → Nat) (tok : Nat → Int32) (beh : Nat → Int32) (msk : Nat → Int32) (sec : Nat → Int32) (siz : Int32) (x1 : Int32) (x2 : Int32) (x3 : Int32) (x4 : Int32) : CV l g yX2_note cX2_note 5 none (rmN 1) (w_Prog x g) [.ref (x 0), .int x1, .int x2, .int x3, .int x4] (((tok, beh), msk), (sec, siz)) (rb_X2_note (((tok, beh), msk), (sec, siz)) (f_X2_note beh msk sec siz x1 x2 x3 x4)) := by
  refine CV.mk (by decide) (Nat.le_of_ble_eq_true rfl) ?_
  intro p e s m below meth c A ls hI hw hl
  have hx := hI.1
  have hb := hI.2.1
  obtain ⟨r, hr⟩ : ∃ r, r = rb_X2_note (((tok, beh), msk), (sec, siz)) (f_X2_note beh msk sec siz x1 x2 x3 x4) := ⟨_, rfl⟩
  rw [← hr]
  have hl : lv_has ls 5 [(0, .ref (x 0)), (1, .int x1), (2, .int x2), (3, .int x3), (4, .int x4)] := hl
  refine lv_aload_n hx hb dX2_note_0 rfl (lv_at hl 0 rfl) ?_
  refine lv_iload_n hx hb dX2_note_1 rfl (lv_at hl 1 rfl) ?_
  obtain ⟨o1, ho1⟩ : ∃ o, o = f_X2_has siz x1 := ⟨_, rfl⟩
  refine hI.callI0 (wl := w_Prog x g) (a := (((tok, beh), msk), (sec, siz))) (r := rb_X2_has (((tok, beh), msk), (sec, siz)) o1) (As := [.int x1]) (rest := []) hw (by rw [ho1]; exact c_X2_has l g x tok beh msk sec siz x1 ) ok_yX2_has ml_X2_35 (rm_ok (by decide) (by decide)) 0 rfl rfl rfl rfl hl.1 (Nat.le_of_ble_eq_true rfl) dX2_note_2 ⟨Nat.zero_le _, Nat.zero_le _⟩ (fun H locs hw => ?_)
  have hw : Wd g A s (w_Prog x g (((tok, beh), msk), (sec, siz))) H locs := hw
  refine W.eq (g2 := F0 m 5 ls [.int o1]) rfl ?_
  refine lv_if_eq (tgt := 30) hx hb dX2_note_5 (by decide) (fun c2 => ?_) (fun c2 => ?_)
  · exact hI.retV (u := (((tok, beh), msk), (sec, siz))) hw (hr.trans (congrArg (rb_X2_note (((tok, beh), msk), (sec, siz))) ((show f_X2_note beh msk sec siz x1 x2 x3 x4 = (((beh, msk), sec)) from bd_of ho1 (it_t c2 (rfl)))))) dX2_note_30
  · refine lv_aload_n hx hb dX2_note_8 rfl (lv_at hl 0 rfl) ?_
    refine hI.get (v := .ref (x 2)) hw fg_X2_15 0 rfl rfl dX2_note_9 ?_
    refine lv_iload_n hx hb dX2_note_12 rfl (lv_at hl 1 rfl) ?_
    refine lv_iload_n hx hb dX2_note_13 rfl (lv_at hl 2 rfl) ?_
    refine hI.iast hw 2 rfl (in_X2_has (by rw [← ho1]; exact c2)) dX2_note_14 (fun H locs hw => ?_)
    have hw : Wd g A s (w_Prog x g (((tok, upd beh x1.toNatClampNeg x2), msk), (sec, siz))) H locs := hw
    refine lv_aload_n hx hb dX2_note_15 rfl (lv_at hl 0 rfl) ?_
    refine hI.get (v := .ref (x 3)) hw fg_X2_18 0 rfl rfl dX2_note_16 ?_
    refine lv_iload_n hx hb dX2_note_19 rfl (lv_at hl 1 rfl) ?_
    refine lv_iload_n hx hb dX2_note_20 rfl (lv_at hl 3 rfl) ?_
    refine hI.iast hw 3 rfl (in_X2_has (by rw [← ho1]; exact c2)) dX2_note_21 (fun H locs hw => ?_)
    have hw : Wd g A s (w_Prog x g (((tok, upd beh x1.toNatClampNeg x2), upd msk x1.toNatClampNeg x3), (sec, siz))) H locs := hw
    refine lv_aload_n hx hb dX2_note_22 rfl (lv_at hl 0 rfl) ?_
    refine hI.get (v := .ref (x 4)) hw fg_X2_21 0 rfl rfl dX2_note_23 ?_
    refine lv_iload_n hx hb dX2_note_26 rfl (lv_at hl 1 rfl) ?_
    refine lv_iload hx hb dX2_note_27 (lv_at hl 4 rfl) ?_
    refine hI.zast hw 4 rfl (in_X2_has (by rw [← ho1]; exact c2)) dX2_note_29 (fun H locs hw => ?_)
    have hw : Wd g A s (w_Prog x g (((tok, upd beh x1.toNatClampNeg x2), upd msk x1.toNatClampNeg x3), (upd sec x1.toNatClampNeg (vp_nar .boolean x4), siz))) H locs := hw
    exact hI.retV (u := (((tok, upd beh x1.toNatClampNeg x2), upd msk x1.toNatClampNeg x3), (upd sec x1.toNatClampNeg (vp_nar .boolean x4), siz))) hw (hr.trans (congrArg (rb_X2_note (((tok, beh), msk), (sec, siz))) ((show f_X2_note beh msk sec siz x1 x2 x3 x4 = (((upd beh x1.toNatClampNeg x2, upd msk x1.toNatClampNeg x3), upd sec x1.toNatClampNeg (vp_nar .boolean x4))) from bd_of ho1 (it_f c2 (rfl)))))) dX2_note_30
def f_X2_size (siz : Int32) : Int32 := (siz)
def rb_X2_size (σ : S_Prog) (o : Int32) : Int32 × S_Prog := (o, σ)
set_option maxHeartbeats 4000000 in
set_option maxRecDepth 100000 in
theorem c_X2_size (l : Launch) (g : GG) (x : Nat → Nat) (tok : Nat → Int32) (beh : Nat → Int32) (msk : Nat → Int32) (sec : Nat → Int32) (siz : Int32) : CI l g yX2_size cX2_size 1 (some .int) (rmN 0) (w_Prog x g) [.ref (x 0)] (((tok, beh), msk), (sec, siz)) (rb_X2_size (((tok, beh), msk), (sec, siz)) (f_X2_size siz)) := by
  refine CI.mk (by decide) (Nat.le_of_ble_eq_true rfl) ?_
  intro p e s m below meth c A ls hI hw hl
  have hx := hI.1
  have hb := hI.2.1
  obtain ⟨r, hr⟩ : ∃ r, r = rb_X2_size (((tok, beh), msk), (sec, siz)) (f_X2_size siz) := ⟨_, rfl⟩
  rw [← hr]
  have hl : lv_has ls 1 [(0, .ref (x 0))] := hl
  refine lv_aload_n hx hb dX2_size_0 rfl (lv_at hl 0 rfl) ?_
  refine hI.get (v := .int siz) hw fg_X2_25 0 rfl rfl dX2_size_1 ?_
  exact hI.retI (u := (((tok, beh), msk), (sec, siz))) hw (hr.trans (congrArg (rb_X2_size (((tok, beh), msk), (sec, siz))) ((show f_X2_size siz = (siz) from rfl)))) dX2_size_4
def f_X2_tokenAt (tok : Nat → Int32) (siz : Int32) (x1 : Int32) : Int32 := if x1 < 0 then ((0 : Int32)) else if siz ≤ x1 then ((0 : Int32)) else if (400 : Int32) ≤ x1 then ((0 : Int32)) else (tok x1.toNatClampNeg)
def rb_X2_tokenAt (σ : S_Prog) (o : Int32) : Int32 × S_Prog := (o, σ)
set_option maxHeartbeats 4000000 in
set_option maxRecDepth 100000 in
theorem c_X2_tokenAt (l : Launch) (g : GG) (x : Nat → Nat) (tok : Nat → Int32) (beh : Nat → Int32) (msk : Nat → Int32) (sec : Nat → Int32) (siz : Int32) (x1 : Int32) : CI l g yX2_tokenAt cX2_tokenAt 2 (some .int) (rmN 0) (w_Prog x g) [.ref (x 0), .int x1] (((tok, beh), msk), (sec, siz)) (rb_X2_tokenAt (((tok, beh), msk), (sec, siz)) (f_X2_tokenAt tok siz x1)) := by
  refine CI.mk (by decide) (Nat.le_of_ble_eq_true rfl) ?_
  intro p e s m below meth c A ls hI hw hl
  have hx := hI.1
  have hb := hI.2.1
  obtain ⟨r, hr⟩ : ∃ r, r = rb_X2_tokenAt (((tok, beh), msk), (sec, siz)) (f_X2_tokenAt tok siz x1) := ⟨_, rfl⟩
  rw [← hr]
  have hl : lv_has ls 2 [(0, .ref (x 0)), (1, .int x1)] := hl
  refine lv_iload_n hx hb dX2_tokenAt_0 rfl (lv_at hl 1 rfl) ?_
  refine lv_if_lt (tgt := 28) hx hb dX2_tokenAt_1 (by decide) (fun c1 => ?_) (fun c1 => ?_)
  · refine lv_iconst (v := (0 : Int32)) hx hb dX2_tokenAt_28 (by decide) ?_
    exact hI.retI (u := (((tok, beh), msk), (sec, siz))) hw (hr.trans (congrArg (rb_X2_tokenAt (((tok, beh), msk), (sec, siz))) ((show f_X2_tokenAt tok siz x1 = ((0 : Int32)) from it_t c1 (rfl))))) dX2_tokenAt_29
  · refine lv_iload_n hx hb dX2_tokenAt_4 rfl (lv_at hl 1 rfl) ?_
    refine lv_aload_n hx hb dX2_tokenAt_5 rfl (lv_at hl 0 rfl) ?_
    refine hI.get (v := .int siz) hw fg_X2_25 0 rfl rfl dX2_tokenAt_6 ?_
    refine lv_icmp_ge (tgt := 28) hx hb dX2_tokenAt_9 (by decide) (fun c2 => ?_) (fun c2 => ?_)
    · refine lv_iconst (v := (0 : Int32)) hx hb dX2_tokenAt_28 (by decide) ?_
      exact hI.retI (u := (((tok, beh), msk), (sec, siz))) hw (hr.trans (congrArg (rb_X2_tokenAt (((tok, beh), msk), (sec, siz))) ((show f_X2_tokenAt tok siz x1 = ((0 : Int32)) from it_f c1 (it_t c2 (rfl)))))) dX2_tokenAt_29
    · refine lv_iload_n hx hb dX2_tokenAt_12 rfl (lv_at hl 1 rfl) ?_
      refine lv_sipush (v := (400 : Int32)) hx hb dX2_tokenAt_13 (by decide) ?_
      refine lv_icmp_ge (tgt := 28) hx hb dX2_tokenAt_16 (by decide) (fun c3 => ?_) (fun c3 => ?_)
      · refine lv_iconst (v := (0 : Int32)) hx hb dX2_tokenAt_28 (by decide) ?_
        exact hI.retI (u := (((tok, beh), msk), (sec, siz))) hw (hr.trans (congrArg (rb_X2_tokenAt (((tok, beh), msk), (sec, siz))) ((show f_X2_tokenAt tok siz x1 = ((0 : Int32)) from it_f c1 (it_f c2 (it_t c3 (rfl))))))) dX2_tokenAt_29
      · refine lv_aload_n hx hb dX2_tokenAt_19 rfl (lv_at hl 0 rfl) ?_
        refine hI.get (v := .ref (x 1)) hw fg_X2_9 0 rfl rfl dX2_tokenAt_20 ?_
        refine lv_iload_n hx hb dX2_tokenAt_23 rfl (lv_at hl 1 rfl) ?_
        refine hI.iald hw 1 rfl (vin_c (n := 400) c1 c3 (by decide)) dX2_tokenAt_24 ?_
        refine lv_goto (tgt := 29) hx hb dX2_tokenAt_25 (by decide) ?_
        exact hI.retI (u := (((tok, beh), msk), (sec, siz))) hw (hr.trans (congrArg (rb_X2_tokenAt (((tok, beh), msk), (sec, siz))) ((show f_X2_tokenAt tok siz x1 = (tok x1.toNatClampNeg) from it_f c1 (it_f c2 (it_f c3 (rfl))))))) dX2_tokenAt_29
def f_X2_begins (beh : Nat → Int32) (siz : Int32) (x1 : Int32) : Int32 := bd (f_X2_has siz x1) (fun o1 => if o1 = 0 then ((0 : Int32)) else if (beh x1.toNatClampNeg) ≤ 0 then ((0 : Int32)) else ((1 : Int32)))
def rb_X2_begins (σ : S_Prog) (o : Int32) : Int32 × S_Prog := (o, σ)
set_option maxHeartbeats 4000000 in
set_option maxRecDepth 100000 in
theorem c_X2_begins (l : Launch) (g : GG) (x : Nat → Nat) (tok : Nat → Int32) (beh : Nat → Int32) (msk : Nat → Int32) (sec : Nat → Int32) (siz : Int32) (x1 : Int32) : CI l g yX2_begins cX2_begins 2 (some .boolean) (rmN 1) (w_Prog x g) [.ref (x 0), .int x1] (((tok, beh), msk), (sec, siz)) (rb_X2_begins (((tok, beh), msk), (sec, siz)) (f_X2_begins beh siz x1)) := by
  refine CI.mk (by decide) (Nat.le_of_ble_eq_true rfl) ?_
  intro p e s m below meth c A ls hI hw hl
  have hx := hI.1
  have hb := hI.2.1
  obtain ⟨r, hr⟩ : ∃ r, r = rb_X2_begins (((tok, beh), msk), (sec, siz)) (f_X2_begins beh siz x1) := ⟨_, rfl⟩
  rw [← hr]
  have hl : lv_has ls 2 [(0, .ref (x 0)), (1, .int x1)] := hl
  refine lv_aload_n hx hb dX2_begins_0 rfl (lv_at hl 0 rfl) ?_
  refine lv_iload_n hx hb dX2_begins_1 rfl (lv_at hl 1 rfl) ?_
  obtain ⟨o1, ho1⟩ : ∃ o, o = f_X2_has siz x1 := ⟨_, rfl⟩
  refine hI.callI0 (wl := w_Prog x g) (a := (((tok, beh), msk), (sec, siz))) (r := rb_X2_has (((tok, beh), msk), (sec, siz)) o1) (As := [.int x1]) (rest := []) hw (by rw [ho1]; exact c_X2_has l g x tok beh msk sec siz x1 ) ok_yX2_has ml_X2_35 (rm_ok (by decide) (by decide)) 0 rfl rfl rfl rfl hl.1 (Nat.le_of_ble_eq_true rfl) dX2_begins_2 ⟨Nat.zero_le _, Nat.zero_le _⟩ (fun H locs hw => ?_)
  have hw : Wd g A s (w_Prog x g (((tok, beh), msk), (sec, siz))) H locs := hw
  refine W.eq (g2 := F0 m 5 ls [.int o1]) rfl ?_
  refine lv_if_eq (tgt := 21) hx hb dX2_begins_5 (by decide) (fun c2 => ?_) (fun c2 => ?_)
  · refine lv_iconst (v := (0 : Int32)) hx hb dX2_begins_21 (by decide) ?_
    exact hI.retZ (u := (((tok, beh), msk), (sec, siz))) hw rfl (hr.trans (congrArg (rb_X2_begins (((tok, beh), msk), (sec, siz))) ((show f_X2_begins beh siz x1 = ((0 : Int32)) from bd_of ho1 (it_t c2 (rfl)))))) dX2_begins_22
  · refine lv_aload_n hx hb dX2_begins_8 rfl (lv_at hl 0 rfl) ?_
    refine hI.get (v := .ref (x 2)) hw fg_X2_15 0 rfl rfl dX2_begins_9 ?_
    refine lv_iload_n hx hb dX2_begins_12 rfl (lv_at hl 1 rfl) ?_
    refine hI.iald hw 2 rfl (in_X2_has (by rw [← ho1]; exact c2)) dX2_begins_13 ?_
    refine lv_if_le (tgt := 21) hx hb dX2_begins_14 (by decide) (fun c3 => ?_) (fun c3 => ?_)
    · refine lv_iconst (v := (0 : Int32)) hx hb dX2_begins_21 (by decide) ?_
      exact hI.retZ (u := (((tok, beh), msk), (sec, siz))) hw rfl (hr.trans (congrArg (rb_X2_begins (((tok, beh), msk), (sec, siz))) ((show f_X2_begins beh siz x1 = ((0 : Int32)) from bd_of ho1 (it_f c2 (it_t c3 (rfl))))))) dX2_begins_22
    · refine lv_iconst (v := (1 : Int32)) hx hb dX2_begins_17 (by decide) ?_
      refine lv_goto (tgt := 22) hx hb dX2_begins_18 (by decide) ?_
      exact hI.retZ (u := (((tok, beh), msk), (sec, siz))) hw rfl (hr.trans (congrArg (rb_X2_begins (((tok, beh), msk), (sec, siz))) ((show f_X2_begins beh siz x1 = ((1 : Int32)) from bd_of ho1 (it_f c2 (it_f c3 (rfl))))))) dX2_begins_22
def f_X2_behind (beh : Nat → Int32) (siz : Int32) (x1 : Int32) : Int32 := bd (f_X2_has siz x1) (fun o1 => if o1 = 0 then ((0 : Int32)) else (beh x1.toNatClampNeg))
def rb_X2_behind (σ : S_Prog) (o : Int32) : Int32 × S_Prog := (o, σ)
set_option maxHeartbeats 4000000 in
set_option maxRecDepth 100000 in
theorem c_X2_behind (l : Launch) (g : GG) (x : Nat → Nat) (tok : Nat → Int32) (beh : Nat → Int32) (msk : Nat → Int32) (sec : Nat → Int32) (siz : Int32) (x1 : Int32) : CI l g yX2_behind cX2_behind 2 (some .int) (rmN 1) (w_Prog x g) [.ref (x 0), .int x1] (((tok, beh), msk), (sec, siz)) (rb_X2_behind (((tok, beh), msk), (sec, siz)) (f_X2_behind beh siz x1)) := by
  refine CI.mk (by decide) (Nat.le_of_ble_eq_true rfl) ?_
  intro p e s m below meth c A ls hI hw hl
  have hx := hI.1
  have hb := hI.2.1
  obtain ⟨r, hr⟩ : ∃ r, r = rb_X2_behind (((tok, beh), msk), (sec, siz)) (f_X2_behind beh siz x1) := ⟨_, rfl⟩
  rw [← hr]
  have hl : lv_has ls 2 [(0, .ref (x 0)), (1, .int x1)] := hl
  refine lv_aload_n hx hb dX2_behind_0 rfl (lv_at hl 0 rfl) ?_
  refine lv_iload_n hx hb dX2_behind_1 rfl (lv_at hl 1 rfl) ?_
  obtain ⟨o1, ho1⟩ : ∃ o, o = f_X2_has siz x1 := ⟨_, rfl⟩
  refine hI.callI0 (wl := w_Prog x g) (a := (((tok, beh), msk), (sec, siz))) (r := rb_X2_has (((tok, beh), msk), (sec, siz)) o1) (As := [.int x1]) (rest := []) hw (by rw [ho1]; exact c_X2_has l g x tok beh msk sec siz x1 ) ok_yX2_has ml_X2_35 (rm_ok (by decide) (by decide)) 0 rfl rfl rfl rfl hl.1 (Nat.le_of_ble_eq_true rfl) dX2_behind_2 ⟨Nat.zero_le _, Nat.zero_le _⟩ (fun H locs hw => ?_)
  have hw : Wd g A s (w_Prog x g (((tok, beh), msk), (sec, siz))) H locs := hw
  refine W.eq (g2 := F0 m 5 ls [.int o1]) rfl ?_
  refine lv_if_eq (tgt := 17) hx hb dX2_behind_5 (by decide) (fun c2 => ?_) (fun c2 => ?_)
  · refine lv_iconst (v := (0 : Int32)) hx hb dX2_behind_17 (by decide) ?_
    exact hI.retI (u := (((tok, beh), msk), (sec, siz))) hw (hr.trans (congrArg (rb_X2_behind (((tok, beh), msk), (sec, siz))) ((show f_X2_behind beh siz x1 = ((0 : Int32)) from bd_of ho1 (it_t c2 (rfl)))))) dX2_behind_18
  · refine lv_aload_n hx hb dX2_behind_8 rfl (lv_at hl 0 rfl) ?_
    refine hI.get (v := .ref (x 2)) hw fg_X2_15 0 rfl rfl dX2_behind_9 ?_
    refine lv_iload_n hx hb dX2_behind_12 rfl (lv_at hl 1 rfl) ?_
    refine hI.iald hw 2 rfl (in_X2_has (by rw [← ho1]; exact c2)) dX2_behind_13 ?_
    refine lv_goto (tgt := 18) hx hb dX2_behind_14 (by decide) ?_
    exact hI.retI (u := (((tok, beh), msk), (sec, siz))) hw (hr.trans (congrArg (rb_X2_behind (((tok, beh), msk), (sec, siz))) ((show f_X2_behind beh siz x1 = (beh x1.toNatClampNeg) from bd_of ho1 (it_f c2 (rfl)))))) dX2_behind_18
def f_X2_masksAround (msk : Nat → Int32) (siz : Int32) (x1 : Int32) : Int32 := bd (f_X2_has siz x1) (fun o1 => if o1 = 0 then ((0 : Int32)) else (msk x1.toNatClampNeg))
def rb_X2_masksAround (σ : S_Prog) (o : Int32) : Int32 × S_Prog := (o, σ)
set_option maxHeartbeats 4000000 in
set_option maxRecDepth 100000 in
theorem c_X2_masksAround (l : Launch) (g : GG) (x : Nat → Nat) (tok : Nat → Int32) (beh : Nat → Int32) (msk : Nat → Int32) (sec : Nat → Int32) (siz : Int32) (x1 : Int32) : CI l g yX2_masksAround cX2_masksAround 2 (some .int) (rmN 1) (w_Prog x g) [.ref (x 0), .int x1] (((tok, beh), msk), (sec, siz)) (rb_X2_masksAround (((tok, beh), msk), (sec, siz)) (f_X2_masksAround msk siz x1)) := by
  refine CI.mk (by decide) (Nat.le_of_ble_eq_true rfl) ?_
  intro p e s m below meth c A ls hI hw hl
  have hx := hI.1
  have hb := hI.2.1
  obtain ⟨r, hr⟩ : ∃ r, r = rb_X2_masksAround (((tok, beh), msk), (sec, siz)) (f_X2_masksAround msk siz x1) := ⟨_, rfl⟩
  rw [← hr]
  have hl : lv_has ls 2 [(0, .ref (x 0)), (1, .int x1)] := hl
  refine lv_aload_n hx hb dX2_masksAround_0 rfl (lv_at hl 0 rfl) ?_
  refine lv_iload_n hx hb dX2_masksAround_1 rfl (lv_at hl 1 rfl) ?_
  obtain ⟨o1, ho1⟩ : ∃ o, o = f_X2_has siz x1 := ⟨_, rfl⟩
  refine hI.callI0 (wl := w_Prog x g) (a := (((tok, beh), msk), (sec, siz))) (r := rb_X2_has (((tok, beh), msk), (sec, siz)) o1) (As := [.int x1]) (rest := []) hw (by rw [ho1]; exact c_X2_has l g x tok beh msk sec siz x1 ) ok_yX2_has ml_X2_35 (rm_ok (by decide) (by decide)) 0 rfl rfl rfl rfl hl.1 (Nat.le_of_ble_eq_true rfl) dX2_masksAround_2 ⟨Nat.zero_le _, Nat.zero_le _⟩ (fun H locs hw => ?_)
  have hw : Wd g A s (w_Prog x g (((tok, beh), msk), (sec, siz))) H locs := hw
  refine W.eq (g2 := F0 m 5 ls [.int o1]) rfl ?_
  refine lv_if_eq (tgt := 17) hx hb dX2_masksAround_5 (by decide) (fun c2 => ?_) (fun c2 => ?_)
  · refine lv_iconst (v := (0 : Int32)) hx hb dX2_masksAround_17 (by decide) ?_
    exact hI.retI (u := (((tok, beh), msk), (sec, siz))) hw (hr.trans (congrArg (rb_X2_masksAround (((tok, beh), msk), (sec, siz))) ((show f_X2_masksAround msk siz x1 = ((0 : Int32)) from bd_of ho1 (it_t c2 (rfl)))))) dX2_masksAround_18
  · refine lv_aload_n hx hb dX2_masksAround_8 rfl (lv_at hl 0 rfl) ?_
    refine hI.get (v := .ref (x 3)) hw fg_X2_18 0 rfl rfl dX2_masksAround_9 ?_
    refine lv_iload_n hx hb dX2_masksAround_12 rfl (lv_at hl 1 rfl) ?_
    refine hI.iald hw 3 rfl (in_X2_has (by rw [← ho1]; exact c2)) dX2_masksAround_13 ?_
    refine lv_goto (tgt := 18) hx hb dX2_masksAround_14 (by decide) ?_
    exact hI.retI (u := (((tok, beh), msk), (sec, siz))) hw (hr.trans (congrArg (rb_X2_masksAround (((tok, beh), msk), (sec, siz))) ((show f_X2_masksAround msk siz x1 = (msk x1.toNatClampNeg) from bd_of ho1 (it_f c2 (rfl)))))) dX2_masksAround_18
def f_X2_isSecret (sec : Nat → Int32) (siz : Int32) (x1 : Int32) : Int32 := bd (f_X2_has siz x1) (fun o1 => if o1 = 0 then ((0 : Int32)) else if (sec x1.toNatClampNeg) = 0 then ((0 : Int32)) else ((1 : Int32)))
def rb_X2_isSecret (σ : S_Prog) (o : Int32) : Int32 × S_Prog := (o, σ)
set_option maxHeartbeats 4000000 in
set_option maxRecDepth 100000 in
theorem c_X2_isSecret (l : Launch) (g : GG) (x : Nat → Nat) (tok : Nat → Int32) (beh : Nat → Int32) (msk : Nat → Int32) (sec : Nat → Int32) (siz : Int32) (x1 : Int32) : CI l g yX2_isSecret cX2_isSecret 2 (some .boolean) (rmN 1) (w_Prog x g) [.ref (x 0), .int x1] (((tok, beh), msk), (sec, siz)) (rb_X2_isSecret (((tok, beh), msk), (sec, siz)) (f_X2_isSecret sec siz x1)) := by
  refine CI.mk (by decide) (Nat.le_of_ble_eq_true rfl) ?_
  intro p e s m below meth c A ls hI hw hl
  have hx := hI.1
  have hb := hI.2.1
  obtain ⟨r, hr⟩ : ∃ r, r = rb_X2_isSecret (((tok, beh), msk), (sec, siz)) (f_X2_isSecret sec siz x1) := ⟨_, rfl⟩
  rw [← hr]
  have hl : lv_has ls 2 [(0, .ref (x 0)), (1, .int x1)] := hl
  refine lv_aload_n hx hb dX2_isSecret_0 rfl (lv_at hl 0 rfl) ?_
  refine lv_iload_n hx hb dX2_isSecret_1 rfl (lv_at hl 1 rfl) ?_
  obtain ⟨o1, ho1⟩ : ∃ o, o = f_X2_has siz x1 := ⟨_, rfl⟩
  refine hI.callI0 (wl := w_Prog x g) (a := (((tok, beh), msk), (sec, siz))) (r := rb_X2_has (((tok, beh), msk), (sec, siz)) o1) (As := [.int x1]) (rest := []) hw (by rw [ho1]; exact c_X2_has l g x tok beh msk sec siz x1 ) ok_yX2_has ml_X2_35 (rm_ok (by decide) (by decide)) 0 rfl rfl rfl rfl hl.1 (Nat.le_of_ble_eq_true rfl) dX2_isSecret_2 ⟨Nat.zero_le _, Nat.zero_le _⟩ (fun H locs hw => ?_)
  have hw : Wd g A s (w_Prog x g (((tok, beh), msk), (sec, siz))) H locs := hw
  refine W.eq (g2 := F0 m 5 ls [.int o1]) rfl ?_
  refine lv_if_eq (tgt := 21) hx hb dX2_isSecret_5 (by decide) (fun c2 => ?_) (fun c2 => ?_)
  · refine lv_iconst (v := (0 : Int32)) hx hb dX2_isSecret_21 (by decide) ?_
    exact hI.retZ (u := (((tok, beh), msk), (sec, siz))) hw rfl (hr.trans (congrArg (rb_X2_isSecret (((tok, beh), msk), (sec, siz))) ((show f_X2_isSecret sec siz x1 = ((0 : Int32)) from bd_of ho1 (it_t c2 (rfl)))))) dX2_isSecret_22
  · refine lv_aload_n hx hb dX2_isSecret_8 rfl (lv_at hl 0 rfl) ?_
    refine hI.get (v := .ref (x 4)) hw fg_X2_21 0 rfl rfl dX2_isSecret_9 ?_
    refine lv_iload_n hx hb dX2_isSecret_12 rfl (lv_at hl 1 rfl) ?_
    refine hI.zald hw 4 rfl (in_X2_has (by rw [← ho1]; exact c2)) dX2_isSecret_13 ?_
    refine lv_if_eq (tgt := 21) hx hb dX2_isSecret_14 (by decide) (fun c3 => ?_) (fun c3 => ?_)
    · refine lv_iconst (v := (0 : Int32)) hx hb dX2_isSecret_21 (by decide) ?_
      exact hI.retZ (u := (((tok, beh), msk), (sec, siz))) hw rfl (hr.trans (congrArg (rb_X2_isSecret (((tok, beh), msk), (sec, siz))) ((show f_X2_isSecret sec siz x1 = ((0 : Int32)) from bd_of ho1 (it_f c2 (it_t c3 (rfl))))))) dX2_isSecret_22
    · refine lv_iconst (v := (1 : Int32)) hx hb dX2_isSecret_17 (by decide) ?_
      refine lv_goto (tgt := 22) hx hb dX2_isSecret_18 (by decide) ?_
      exact hI.retZ (u := (((tok, beh), msk), (sec, siz))) hw rfl (hr.trans (congrArg (rb_X2_isSecret (((tok, beh), msk), (sec, siz))) ((show f_X2_isSecret sec siz x1 = ((1 : Int32)) from bd_of ho1 (it_f c2 (it_f c3 (rfl))))))) dX2_isSecret_22
def f_X2_inside (tok : Nat → Int32) (siz : Int32) (x1 : Int32) : Int32 := bd (f_X2_tokenAt tok siz x1) (fun o1 => if o1 = (1 : Int32) then (x1 + (2 : Int32)) else if o1 = (2 : Int32) then (x1 + (2 : Int32)) else if o1 = (6 : Int32) then (x1 + (2 : Int32)) else if o1 = (20 : Int32) then (x1 + (2 : Int32)) else if o1 = (21 : Int32) then (x1 + (2 : Int32)) else if o1 = (35 : Int32) then (x1 + (2 : Int32)) else (x1 + (1 : Int32)))
def rb_X2_inside (σ : S_Prog) (o : Int32) : Int32 × S_Prog := (o, σ)
set_option maxHeartbeats 4000000 in
set_option maxRecDepth 100000 in
theorem c_X2_inside (l : Launch) (g : GG) (x : Nat → Nat) (tok : Nat → Int32) (beh : Nat → Int32) (msk : Nat → Int32) (sec : Nat → Int32) (siz : Int32) (x1 : Int32) : CI l g yX2_inside cX2_inside 2 (some .int) (rmN 1) (w_Prog x g) [.ref (x 0), .int x1] (((tok, beh), msk), (sec, siz)) (rb_X2_inside (((tok, beh), msk), (sec, siz)) (f_X2_inside tok siz x1)) := by
  refine CI.mk (by decide) (Nat.le_of_ble_eq_true rfl) ?_
  intro p e s m below meth c A ls hI hw hl
  have hx := hI.1
  have hb := hI.2.1
  obtain ⟨r, hr⟩ : ∃ r, r = rb_X2_inside (((tok, beh), msk), (sec, siz)) (f_X2_inside tok siz x1) := ⟨_, rfl⟩
  rw [← hr]
  have hl : lv_has ls 2 [(0, .ref (x 0)), (1, .int x1)] := hl
  refine lv_aload_n hx hb dX2_inside_0 rfl (lv_at hl 0 rfl) ?_
  refine lv_iload_n hx hb dX2_inside_1 rfl (lv_at hl 1 rfl) ?_
  obtain ⟨o1, ho1⟩ : ∃ o, o = f_X2_tokenAt tok siz x1 := ⟨_, rfl⟩
  refine hI.callI0 (wl := w_Prog x g) (a := (((tok, beh), msk), (sec, siz))) (r := rb_X2_tokenAt (((tok, beh), msk), (sec, siz)) o1) (As := [.int x1]) (rest := []) hw (by rw [ho1]; exact c_X2_tokenAt l g x tok beh msk sec siz x1 ) ok_yX2_tokenAt ml_X2_39 (rm_ok (by decide) (by decide)) 0 rfl rfl rfl rfl hl.1 (Nat.le_of_ble_eq_true rfl) dX2_inside_2 ⟨Nat.zero_le _, Nat.zero_le _⟩ (fun H locs hw => ?_)
  have hw : Wd g A s (w_Prog x g (((tok, beh), msk), (sec, siz))) H locs := hw
  refine W.eq (g2 := F0 m 5 ls [.int o1]) rfl ?_
  by_cases c2 : o1 = (1 : Int32)
  · refine lv_lookup (off := 59) (tgt := 64) hx hb dX2_inside_5 (by decide) (by rw [c2]; rfl) (by decide) ?_
    refine lv_iload_n hx hb dX2_inside_64 rfl (lv_at hl 1 rfl) ?_
    refine lv_iconst (v := (2 : Int32)) hx hb dX2_inside_65 (by decide) ?_
    refine lv_iadd hx hb dX2_inside_66 ?_
    exact hI.retI (u := (((tok, beh), msk), (sec, siz))) hw (hr.trans (congrArg (rb_X2_inside (((tok, beh), msk), (sec, siz))) ((show f_X2_inside tok siz x1 = (x1 + (2 : Int32)) from bd_of ho1 (it_t c2 (rfl)))))) dX2_inside_67
  by_cases c3 : o1 = (2 : Int32)
  · refine lv_lookup (off := 59) (tgt := 64) hx hb dX2_inside_5 (by decide) (by rw [c3]; rfl) (by decide) ?_
    refine lv_iload_n hx hb dX2_inside_64 rfl (lv_at hl 1 rfl) ?_
    refine lv_iconst (v := (2 : Int32)) hx hb dX2_inside_65 (by decide) ?_
    refine lv_iadd hx hb dX2_inside_66 ?_
    exact hI.retI (u := (((tok, beh), msk), (sec, siz))) hw (hr.trans (congrArg (rb_X2_inside (((tok, beh), msk), (sec, siz))) ((show f_X2_inside tok siz x1 = (x1 + (2 : Int32)) from bd_of ho1 (it_f c2 (it_t c3 (rfl))))))) dX2_inside_67
  by_cases c4 : o1 = (6 : Int32)
  · refine lv_lookup (off := 59) (tgt := 64) hx hb dX2_inside_5 (by decide) (by rw [c4]; rfl) (by decide) ?_
    refine lv_iload_n hx hb dX2_inside_64 rfl (lv_at hl 1 rfl) ?_
    refine lv_iconst (v := (2 : Int32)) hx hb dX2_inside_65 (by decide) ?_
    refine lv_iadd hx hb dX2_inside_66 ?_
    exact hI.retI (u := (((tok, beh), msk), (sec, siz))) hw (hr.trans (congrArg (rb_X2_inside (((tok, beh), msk), (sec, siz))) ((show f_X2_inside tok siz x1 = (x1 + (2 : Int32)) from bd_of ho1 (it_f c2 (it_f c3 (it_t c4 (rfl)))))))) dX2_inside_67
  by_cases c5 : o1 = (20 : Int32)
  · refine lv_lookup (off := 59) (tgt := 64) hx hb dX2_inside_5 (by decide) (by rw [c5]; rfl) (by decide) ?_
    refine lv_iload_n hx hb dX2_inside_64 rfl (lv_at hl 1 rfl) ?_
    refine lv_iconst (v := (2 : Int32)) hx hb dX2_inside_65 (by decide) ?_
    refine lv_iadd hx hb dX2_inside_66 ?_
    exact hI.retI (u := (((tok, beh), msk), (sec, siz))) hw (hr.trans (congrArg (rb_X2_inside (((tok, beh), msk), (sec, siz))) ((show f_X2_inside tok siz x1 = (x1 + (2 : Int32)) from bd_of ho1 (it_f c2 (it_f c3 (it_f c4 (it_t c5 (rfl))))))))) dX2_inside_67
  by_cases c6 : o1 = (21 : Int32)
  · refine lv_lookup (off := 59) (tgt := 64) hx hb dX2_inside_5 (by decide) (by rw [c6]; rfl) (by decide) ?_
    refine lv_iload_n hx hb dX2_inside_64 rfl (lv_at hl 1 rfl) ?_
    refine lv_iconst (v := (2 : Int32)) hx hb dX2_inside_65 (by decide) ?_
    refine lv_iadd hx hb dX2_inside_66 ?_
    exact hI.retI (u := (((tok, beh), msk), (sec, siz))) hw (hr.trans (congrArg (rb_X2_inside (((tok, beh), msk), (sec, siz))) ((show f_X2_inside tok siz x1 = (x1 + (2 : Int32)) from bd_of ho1 (it_f c2 (it_f c3 (it_f c4 (it_f c5 (it_t c6 (rfl)))))))))) dX2_inside_67
  by_cases c7 : o1 = (35 : Int32)
  · refine lv_lookup (off := 59) (tgt := 64) hx hb dX2_inside_5 (by decide) (by rw [c7]; rfl) (by decide) ?_
    refine lv_iload_n hx hb dX2_inside_64 rfl (lv_at hl 1 rfl) ?_
    refine lv_iconst (v := (2 : Int32)) hx hb dX2_inside_65 (by decide) ?_
    refine lv_iadd hx hb dX2_inside_66 ?_
    exact hI.retI (u := (((tok, beh), msk), (sec, siz))) hw (hr.trans (congrArg (rb_X2_inside (((tok, beh), msk), (sec, siz))) ((show f_X2_inside tok siz x1 = (x1 + (2 : Int32)) from bd_of ho1 (it_f c2 (it_f c3 (it_f c4 (it_f c5 (it_f c6 (it_t c7 (rfl))))))))))) dX2_inside_67
  refine lv_lookup (off := 63) (tgt := 68) hx hb dX2_inside_5 (by decide) (by rw [lv_osw c2 (show ((1 : Int32)).toInt = 1 by decide)]; rw [lv_osw c3 (show ((2 : Int32)).toInt = 2 by decide)]; rw [lv_osw c4 (show ((6 : Int32)).toInt = 6 by decide)]; rw [lv_osw c5 (show ((20 : Int32)).toInt = 20 by decide)]; rw [lv_osw c6 (show ((21 : Int32)).toInt = 21 by decide)]; rw [lv_osw c7 (show ((35 : Int32)).toInt = 35 by decide)]; rfl) (by decide) ?_
  refine lv_iload_n hx hb dX2_inside_68 rfl (lv_at hl 1 rfl) ?_
  refine lv_iconst (v := (1 : Int32)) hx hb dX2_inside_69 (by decide) ?_
  refine lv_iadd hx hb dX2_inside_70 ?_
  exact hI.retI (u := (((tok, beh), msk), (sec, siz))) hw (hr.trans (congrArg (rb_X2_inside (((tok, beh), msk), (sec, siz))) ((show f_X2_inside tok siz x1 = (x1 + (1 : Int32)) from bd_of ho1 (it_f c2 (it_f c3 (it_f c4 (it_f c5 (it_f c6 (it_f c7 (rfl))))))))))) dX2_inside_71
def f_X2_endOf_4 (beh : Nat → Int32) (siz : Int32) : Nat → Int32 → Int32 → Int32
  | 0, y2, y3 => (0)
  | k + 1, y2, y3 => if (400 : Int32) ≤ y3 then (y2) else bd (f_X2_begins beh siz y2) (fun o2 => if o2 = 0 then (y2) else bd (f_X2_behind beh siz y2) (fun o4 => f_X2_endOf_4 beh siz k o4 (y3 + (1 : Int32))))
def f_X2_endOf (beh : Nat → Int32) (siz : Int32) (x1 : Int32) : Int32 := f_X2_endOf_4 beh siz 401 x1 (0 : Int32)
def rb_X2_endOf (σ : S_Prog) (o : Int32) : Int32 × S_Prog := (o, σ)
set_option maxHeartbeats 4000000 in
set_option maxRecDepth 100000 in
theorem lp_X2_endOf_4 (l : Launch) (g : GG) (x : Nat → Nat) (tok : Nat → Int32) (beh : Nat → Int32) (msk : Nat → Int32) (sec : Nat → Int32) (siz : Int32)  {p : Program} {e : Env} {s : State} {m : MethodId} {args : Array Value} {below : List Frame} {meth : Method} {c : Code} {A : Nat → Prop} (hI : InM p s m args meth c RX2 cX2_endOf 4 (some .int) g A) : ∀ (k : Nat) (y2 : Int32) (y3 : Int32), (cnt 400 k y3) → ∀ (r : Int32 × S_Prog), r = rb_X2_endOf (((tok, beh), msk), (sec, siz)) (f_X2_endOf_4 beh siz k y2 y3) → ∀ (H : Heap) (locs : List Loc), Wd g A s (w_Prog x g (((tok, beh), msk), (sec, siz))) H locs → ∀ (ls : Array Slot), lv_has ls 4 [(0, .ref (x 0)), (2, .int y2), (3, .int y3)] → W p l e (rmN 2) s m args below meth c H locs 0 0 (QI g (w_Prog x g) A r below args s) (F0 m 4 ls []) := by
  have hx := hI.1
  have hb := hI.2.1
  intro k
  induction k with
  | zero =>
    intro y2 y3 hc
    exact absurd hc cnt_n
  | succ k ih =>
    intro y2 y3 hc r hr H locs hw ls hl
    refine lv_iload_n hx hb dX2_endOf_4 rfl (lv_at hl 2 rfl) ?_
    refine lv_sipush (v := (400 : Int32)) hx hb dX2_endOf_5 (by decide) ?_
    refine lv_icmp_ge (tgt := 31) hx hb dX2_endOf_8 (by decide) (fun c1 => ?_) (fun c1 => ?_)
    · refine lv_iload_n hx hb dX2_endOf_31 rfl (lv_at hl 1 rfl) ?_
      exact hI.retI (u := (((tok, beh), msk), (sec, siz))) hw (hr.trans (congrArg (rb_X2_endOf (((tok, beh), msk), (sec, siz))) ((show f_X2_endOf_4 beh siz (k + 1) y2 y3 = (y2) from it_t c1 (rfl))))) dX2_endOf_32
    · refine lv_aload_n hx hb dX2_endOf_11 rfl (lv_at hl 0 rfl) ?_
      refine lv_iload_n hx hb dX2_endOf_12 rfl (lv_at hl 1 rfl) ?_
      obtain ⟨o2, ho2⟩ : ∃ o, o = f_X2_begins beh siz y2 := ⟨_, rfl⟩
      refine hI.callI0 (wl := w_Prog x g) (a := (((tok, beh), msk), (sec, siz))) (r := rb_X2_begins (((tok, beh), msk), (sec, siz)) o2) (As := [.int y2]) (rest := []) hw (by rw [ho2]; exact c_X2_begins l g x tok beh msk sec siz y2 ) ok_yX2_begins ml_X2_43 (rm_ok (by decide) (by decide)) 0 rfl rfl rfl rfl hl.1 (Nat.le_of_ble_eq_true rfl) dX2_endOf_13 ⟨Nat.zero_le _, Nat.zero_le _⟩ (fun H locs hw => ?_)
      have hw : Wd g A s (w_Prog x g (((tok, beh), msk), (sec, siz))) H locs := hw
      refine W.eq (g2 := F0 m 16 ls [.int o2]) rfl ?_
      refine lv_if_eq (tgt := 31) hx hb dX2_endOf_16 (by decide) (fun c3 => ?_) (fun c3 => ?_)
      · refine lv_iload_n hx hb dX2_endOf_31 rfl (lv_at hl 1 rfl) ?_
        exact hI.retI (u := (((tok, beh), msk), (sec, siz))) hw (hr.trans (congrArg (rb_X2_endOf (((tok, beh), msk), (sec, siz))) ((show f_X2_endOf_4 beh siz (k + 1) y2 y3 = (y2) from it_f c1 (bd_of ho2 (it_t c3 (rfl))))))) dX2_endOf_32
      · refine lv_aload_n hx hb dX2_endOf_19 rfl (lv_at hl 0 rfl) ?_
        refine lv_iload_n hx hb dX2_endOf_20 rfl (lv_at hl 1 rfl) ?_
        obtain ⟨o4, ho4⟩ : ∃ o, o = f_X2_behind beh siz y2 := ⟨_, rfl⟩
        refine hI.callI0 (wl := w_Prog x g) (a := (((tok, beh), msk), (sec, siz))) (r := rb_X2_behind (((tok, beh), msk), (sec, siz)) o4) (As := [.int y2]) (rest := []) hw (by rw [ho4]; exact c_X2_behind l g x tok beh msk sec siz y2 ) ok_yX2_behind ml_X2_46 (rm_ok (by decide) (by decide)) 0 rfl rfl rfl rfl hl.1 (Nat.le_of_ble_eq_true rfl) dX2_endOf_21 ⟨Nat.zero_le _, Nat.zero_le _⟩ (fun H locs hw => ?_)
        have hw : Wd g A s (w_Prog x g (((tok, beh), msk), (sec, siz))) H locs := hw
        refine W.eq (g2 := F0 m 24 ls [.int o4]) rfl ?_
        refine lv_istore_n (lv' := [(2, .int o4), (0, .ref (x 0)), (3, .int y3)]) hx hb dX2_endOf_24 rfl hl (by decide) rfl (fun ls hl => ?_)
        refine lv_iinc (v := y3 + (1 : Int32)) (lv' := [(3, .int (y3 + (1 : Int32))), (2, .int o4), (0, .ref (x 0))]) hx hb dX2_endOf_25 hl (k := 2) rfl rfl (by decide) rfl (fun ls hl => ?_)
        refine lv_goto (tgt := 4) hx hb dX2_endOf_28 (by decide) ?_
        exact ih o4 (y3 + (1 : Int32)) (cnt_s (by decide) hc c1) r (hr.trans (congrArg (rb_X2_endOf (((tok, beh), msk), (sec, siz))) ((show f_X2_endOf_4 beh siz (k + 1) y2 y3 = f_X2_endOf_4 beh siz k o4 (y3 + (1 : Int32)) from it_f c1 (bd_of ho2 (it_f c3 (bd_of ho4 (rfl)))))))) _ _ hw _ (lv_sub hl [2, 1, 0] rfl)
set_option maxHeartbeats 4000000 in
set_option maxRecDepth 100000 in
theorem c_X2_endOf (l : Launch) (g : GG) (x : Nat → Nat) (tok : Nat → Int32) (beh : Nat → Int32) (msk : Nat → Int32) (sec : Nat → Int32) (siz : Int32) (x1 : Int32) : CI l g yX2_endOf cX2_endOf 4 (some .int) (rmN 2) (w_Prog x g) [.ref (x 0), .int x1] (((tok, beh), msk), (sec, siz)) (rb_X2_endOf (((tok, beh), msk), (sec, siz)) (f_X2_endOf beh siz x1)) := by
  refine CI.mk (by decide) (Nat.le_of_ble_eq_true rfl) ?_
  intro p e s m below meth c A ls hI hw hl
  have hx := hI.1
  have hb := hI.2.1
  obtain ⟨r, hr⟩ : ∃ r, r = rb_X2_endOf (((tok, beh), msk), (sec, siz)) (f_X2_endOf beh siz x1) := ⟨_, rfl⟩
  rw [← hr]
  have hl : lv_has ls 4 [(0, .ref (x 0)), (1, .int x1)] := hl
  refine lv_iload_n hx hb dX2_endOf_0 rfl (lv_at hl 1 rfl) ?_
  refine lv_istore_n (lv' := [(2, .int x1), (0, .ref (x 0)), (1, .int x1)]) hx hb dX2_endOf_1 rfl hl (by decide) rfl (fun ls hl => ?_)
  refine lv_iconst (v := (0 : Int32)) hx hb dX2_endOf_2 (by decide) ?_
  refine lv_istore_n (lv' := [(3, .int (0 : Int32)), (2, .int x1), (0, .ref (x 0)), (1, .int x1)]) hx hb dX2_endOf_3 rfl hl (by decide) rfl (fun ls hl => ?_)
  exact lp_X2_endOf_4 l g x tok beh msk sec siz hI 401 x1 (0 : Int32) (cnt_0 400) r (hr.trans (congrArg (rb_X2_endOf (((tok, beh), msk), (sec, siz))) ((show f_X2_endOf beh siz x1 = f_X2_endOf_4 beh siz 401 x1 (0 : Int32) from rfl)))) _ _ hw _ (lv_sub hl [2, 1, 0] rfl)
