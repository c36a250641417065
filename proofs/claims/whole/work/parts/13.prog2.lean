abbrev S_Prog2 : Type := (((((Nat → Int32) × (Nat → Int32)) × (Nat → Int32)) × ((Nat → Int32) × Int32)) × ((((Nat → Int32) × (Nat → Int32)) × (Nat → Int32)) × ((Nat → Int32) × Int32)))
def w_Prog2 (x : Nat → Nat) (z : Nat → Nat) (g : GG) (σ : S_Prog2) : va_W := [(x 0, .inr (2, [.ref (x 1), .ref (x 2), .ref (x 3), .ref (x 4), .int σ.1.2.2])), (x 1, .inl (g.2.1, 400, .inl σ.1.1.1.1)), (x 2, .inl (g.2.1, 400, .inl σ.1.1.1.2)), (x 3, .inl (g.2.1, 400, .inl σ.1.1.2)), (x 4, .inl (g.2.2, 400, .inl σ.1.2.1)), (z 0, .inr (2, [.ref (z 1), .ref (z 2), .ref (z 3), .ref (z 4), .int σ.2.2.2])), (z 1, .inl (g.2.1, 400, .inl σ.2.1.1.1)), (z 2, .inl (g.2.1, 400, .inl σ.2.1.1.2)), (z 3, .inl (g.2.1, 400, .inl σ.2.1.2)), (z 4, .inl (g.2.2, 400, .inl σ.2.2.1))]
def f_X2_copyFrom_2 (b_tok : Nat → Int32) (b_beh : Nat → Int32) (b_msk : Nat → Int32) (b_sec : Nat → Int32) (b_siz : Int32) : Nat → (Nat → Int32) → (Nat → Int32) → (Nat → Int32) → (Nat → Int32) → Int32 → Int32 → ((((Nat → Int32) × (Nat → Int32)) × (Nat → Int32)) × ((Nat → Int32) × Int32))
  | 0, tok, beh, msk, sec, siz, y2 => ((((tok, beh), msk), (sec, siz)))
  | k + 1, tok, beh, msk, sec, siz, y2 => if (400 : Int32) ≤ y2 then ((((tok, beh), msk), (sec, b_siz))) else f_X2_copyFrom_2 b_tok b_beh b_msk b_sec b_siz k (upd tok y2.toNatClampNeg (b_tok y2.toNatClampNeg)) (upd beh y2.toNatClampNeg (b_beh y2.toNatClampNeg)) (upd msk y2.toNatClampNeg (b_msk y2.toNatClampNeg)) (upd sec y2.toNatClampNeg (vp_nar .boolean (b_sec y2.toNatClampNeg))) siz (y2 + (1 : Int32))
def f_X2_copyFrom (tok : Nat → Int32) (beh : Nat → Int32) (msk : Nat → Int32) (sec : Nat → Int32) (siz : Int32) (b_tok : Nat → Int32) (b_beh : Nat → Int32) (b_msk : Nat → Int32) (b_sec : Nat → Int32) (b_siz : Int32) : ((((Nat → Int32) × (Nat → Int32)) × (Nat → Int32)) × ((Nat → Int32) × Int32)) := f_X2_copyFrom_2 b_tok b_beh b_msk b_sec b_siz 401 tok beh msk sec siz (0 : Int32)
def rb_X2_copyFrom (σ : S_Prog2) (o : ((((Nat → Int32) × (Nat → Int32)) × (Nat → Int32)) × ((Nat → Int32) × Int32))) : S_Prog2 := ((((o.1.1.1, o.1.1.2), o.1.2), (o.2.1, o.2.2)), (((σ.2.1.1.1, σ.2.1.1.2), σ.2.1.2), (σ.2.2.1, σ.2.2.2)))
set_option maxHeartbeats 4000000 in
set_option maxRecDepth 100000 in
theorem lp_X2_copyFrom_2 (l : Launch) (g : GG) (x : Nat → Nat) (z : Nat → Nat) (tok₀ : Nat → Int32) (beh₀ : Nat → Int32) (msk₀ : Nat → Int32) (sec₀ : Nat → Int32) (siz₀ : Int32) (b_tok : Nat → Int32) (b_beh : Nat → Int32) (b_msk : Nat → Int32) (b_sec : Nat → Int32) (b_siz : Int32)  {p : Program} {e : Env} {s : State} {m : MethodId} {args : Array Value} {below : List Frame} {meth : Method} {c : Code} {A : Nat → Prop} (hI : InM p s m args meth c RX2 cX2_copyFrom 3 none g A) : ∀ (k : Nat) (tok : Nat → Int32) (beh : Nat → Int32) (msk : Nat → Int32) (sec : Nat → Int32) (siz : Int32) (y2 : Int32), (cnt 400 k y2) → ∀ (r : S_Prog2), r = rb_X2_copyFrom ((((tok₀, beh₀), msk₀), (sec₀, siz₀)), (((b_tok, b_beh), b_msk), (b_sec, b_siz))) (f_X2_copyFrom_2 b_tok b_beh b_msk b_sec b_siz k tok beh msk sec siz y2) → ∀ (H : Heap) (locs : List Loc), Wd g A s (w_Prog2 x z g ((((tok, beh), msk), (sec, siz)), (((b_tok, b_beh), b_msk), (b_sec, b_siz)))) H locs → ∀ (ls : Array Slot), lv_has ls 3 [(0, .ref (x 0)), (1, .ref (z 0)), (2, .int y2)] → W p l e (rmN 0) s m args below meth c H locs 0 0 (QV g (w_Prog2 x z g) A r below args s) (F0 m 2 ls []) := by
  have hx := hI.1
  have hb := hI.2.1
  intro k
  induction k with
  | zero =>
    intro tok beh msk sec siz y2 hc
    exact absurd hc cnt_n
  | succ k ih =>
    intro tok beh msk sec siz y2 hc r hr H locs hw ls hl
    refine lv_iload_n hx hb dX2_copyFrom_2 rfl (lv_at hl 2 rfl) ?_
    refine lv_sipush (v := (400 : Int32)) hx hb dX2_copyFrom_3 (by decide) ?_
    refine lv_icmp_ge (tgt := 63) hx hb dX2_copyFrom_6 (by decide) (fun c1 => ?_) (fun c1 => ?_)
    · refine lv_aload_n hx hb dX2_copyFrom_63 rfl (lv_at hl 0 rfl) ?_
      refine lv_aload_n hx hb dX2_copyFrom_64 rfl (lv_at hl 1 rfl) ?_
      refine hI.get (v := .int b_siz) hw fg_X2_25 5 rfl rfl dX2_copyFrom_65 ?_
      refine hI.put hw fp_X2_25 rfl 0 rfl rfl rfl (Nat.le_of_ble_eq_true rfl) dX2_copyFrom_68 (fun H locs hw => ?_)
      have hw : Wd g A s (w_Prog2 x z g ((((tok, beh), msk), (sec, b_siz)), (((b_tok, b_beh), b_msk), (b_sec, b_siz)))) H locs := hw
      exact hI.retV (u := ((((tok, beh), msk), (sec, b_siz)), (((b_tok, b_beh), b_msk), (b_sec, b_siz)))) hw (hr.trans (congrArg (rb_X2_copyFrom ((((tok₀, beh₀), msk₀), (sec₀, siz₀)), (((b_tok, b_beh), b_msk), (b_sec, b_siz)))) ((show f_X2_copyFrom_2 b_tok b_beh b_msk b_sec b_siz (k + 1) tok beh msk sec siz y2 = ((((tok, beh), msk), (sec, b_siz))) from it_t c1 (rfl))))) dX2_copyFrom_71
    · refine lv_aload_n hx hb dX2_copyFrom_9 rfl (lv_at hl 0 rfl) ?_
      refine hI.get (v := .ref (x 1)) hw fg_X2_9 0 rfl rfl dX2_copyFrom_10 ?_
      refine lv_iload_n hx hb dX2_copyFrom_13 rfl (lv_at hl 2 rfl) ?_
      refine lv_aload_n hx hb dX2_copyFrom_14 rfl (lv_at hl 1 rfl) ?_
      refine hI.get (v := .ref (z 1)) hw fg_X2_9 5 rfl rfl dX2_copyFrom_15 ?_
      refine lv_iload_n hx hb dX2_copyFrom_18 rfl (lv_at hl 2 rfl) ?_
      refine hI.iald hw 6 rfl (cnt_in (by decide) hc c1) dX2_copyFrom_19 ?_
      refine hI.iast hw 1 rfl (cnt_in (by decide) hc c1) dX2_copyFrom_20 (fun H locs hw => ?_)
      have hw : Wd g A s (w_Prog2 x z g ((((upd tok y2.toNatClampNeg (b_tok y2.toNatClampNeg), beh), msk), (sec, siz)), (((b_tok, b_beh), b_msk), (b_sec, b_siz)))) H locs := hw
      refine lv_aload_n hx hb dX2_copyFrom_21 rfl (lv_at hl 0 rfl) ?_
      refine hI.get (v := .ref (x 2)) hw fg_X2_15 0 rfl rfl dX2_copyFrom_22 ?_
      refine lv_iload_n hx hb dX2_copyFrom_25 rfl (lv_at hl 2 rfl) ?_
      refine lv_aload_n hx hb dX2_copyFrom_26 rfl (lv_at hl 1 rfl) ?_
      refine hI.get (v := .ref (z 2)) hw fg_X2_15 5 rfl rfl dX2_copyFrom_27 ?_
      refine lv_iload_n hx hb dX2_copyFrom_30 rfl (lv_at hl 2 rfl) ?_
      refine hI.iald hw 7 rfl (cnt_in (by decide) hc c1) dX2_copyFrom_31 ?_
      refine hI.iast hw 2 rfl (cnt_in (by decide) hc c1) dX2_copyFrom_32 (fun H locs hw => ?_)
      have hw : Wd g A s (w_Prog2 x z g ((((upd tok y2.toNatClampNeg (b_tok y2.toNatClampNeg), upd beh y2.toNatClampNeg (b_beh y2.toNatClampNeg)), msk), (sec, siz)), (((b_tok, b_beh), b_msk), (b_sec, b_siz)))) H locs := hw
      refine lv_aload_n hx hb dX2_copyFrom_33 rfl (lv_at hl 0 rfl) ?_
      refine hI.get (v := .ref (x 3)) hw fg_X2_18 0 rfl rfl dX2_copyFrom_34 ?_
      refine lv_iload_n hx hb dX2_copyFrom_37 rfl (lv_at hl 2 rfl) ?_
      refine lv_aload_n hx hb dX2_copyFrom_38 rfl (lv_at hl 1 rfl) ?_
      refine hI.get (v := .ref (z 3)) hw fg_X2_18 5 rfl rfl dX2_copyFrom_39 ?_
      refine lv_iload_n hx hb dX2_copyFrom_42 rfl (lv_at hl 2 rfl) ?_
      refine hI.iald hw 8 rfl (cnt_in (by decide) hc c1) dX2_copyFrom_43 ?_
      refine hI.iast hw 3 rfl (cnt_in (by decide) hc c1) dX2_copyFrom_44 (fun H locs hw => ?_)
      have hw : Wd g A s (w_Prog2 x z g ((((upd tok y2.toNatClampNeg (b_tok y2.toNatClampNeg), upd beh y2.toNatClampNeg (b_beh y2.toNatClampNeg)), upd msk y2.toNatClampNeg (b_msk y2.toNatClampNeg)), (sec, siz)), (((b_tok, b_beh), b_msk), (b_sec, b_siz)))) H locs := hw
      refine lv_aload_n hx hb dX2_copyFrom_45 rfl (lv_at hl 0 rfl) ?_
      refine hI.get (v := .ref (x 4)) hw fg_X2_21 0 rfl rfl dX2_copyFrom_46 ?_
      refine lv_iload_n hx hb dX2_copyFrom_49 rfl (lv_at hl 2 rfl) ?_
      refine lv_aload_n hx hb dX2_copyFrom_50 rfl (lv_at hl 1 rfl) ?_
      refine hI.get (v := .ref (z 4)) hw fg_X2_21 5 rfl rfl dX2_copyFrom_51 ?_
      refine lv_iload_n hx hb dX2_copyFrom_54 rfl (lv_at hl 2 rfl) ?_
      refine hI.zald hw 9 rfl (cnt_in (by decide) hc c1) dX2_copyFrom_55 ?_
      refine hI.zast hw 4 rfl (cnt_in (by decide) hc c1) dX2_copyFrom_56 (fun H locs hw => ?_)
      have hw : Wd g A s (w_Prog2 x z g ((((upd tok y2.toNatClampNeg (b_tok y2.toNatClampNeg), upd beh y2.toNatClampNeg (b_beh y2.toNatClampNeg)), upd msk y2.toNatClampNeg (b_msk y2.toNatClampNeg)), (upd sec y2.toNatClampNeg (vp_nar .boolean (b_sec y2.toNatClampNeg)), siz)), (((b_tok, b_beh), b_msk), (b_sec, b_siz)))) H locs := hw
      refine lv_iinc (v := y2 + (1 : Int32)) (lv' := [(2, .int (y2 + (1 : Int32))), (0, .ref (x 0)), (1, .ref (z 0))]) hx hb dX2_copyFrom_57 hl (k := 2) rfl rfl (by decide) rfl (fun ls hl => ?_)
      refine lv_goto (tgt := 2) hx hb dX2_copyFrom_60 (by decide) ?_
      exact ih (upd tok y2.toNatClampNeg (b_tok y2.toNatClampNeg)) (upd beh y2.toNatClampNeg (b_beh y2.toNatClampNeg)) (upd msk y2.toNatClampNeg (b_msk y2.toNatClampNeg)) (upd sec y2.toNatClampNeg (vp_nar .boolean (b_sec y2.toNatClampNeg))) siz (y2 + (1 : Int32)) (cnt_s (by decide) hc c1) r (hr.trans (congrArg (rb_X2_copyFrom ((((tok₀, beh₀), msk₀), (sec₀, siz₀)), (((b_tok, b_beh), b_msk), (b_sec, b_siz)))) ((show f_X2_copyFrom_2 b_tok b_beh b_msk b_sec b_siz (k + 1) tok beh msk sec siz y2 = f_X2_copyFrom_2 b_tok b_beh b_msk b_sec b_siz k (upd tok y2.toNatClampNeg (b_tok y2.toNatClampNeg)) (upd beh y2.toNatClampNeg (b_beh y2.toNatClampNeg)) (upd msk y2.toNatClampNeg (b_msk y2.toNatClampNeg)) (upd sec y2.toNatClampNeg (vp_nar .boolean (b_sec y2.toNatClampNeg))) siz (y2 + (1 : Int32)) from it_f c1 (rfl))))) _ _ hw _ (lv_sub hl [1, 2, 0] rfl)
set_option maxHeartbeats 4000000 in
set_option maxRecDepth 100000 in
theorem c_X2_copyFrom (l : Launch) (g : GG) (x : Nat → Nat) (z : Nat → Nat) (tok : Nat → Int32) (beh : Nat → Int32) (msk : Nat → Int32) (sec : Nat → Int32) (siz : Int32) (b_tok : Nat → Int32) (b_beh : Nat → Int32) (b_msk : Nat → Int32) (b_sec : Nat → Int32) (b_siz : Int32) : CV l g yX2_copyFrom cX2_copyFrom 3 none (rmN 0) (w_Prog2 x z g) [.ref (x 0), .ref (z 0)] ((((tok, beh), msk), (sec, siz)), (((b_tok, b_beh), b_msk), (b_sec, b_siz))) (rb_X2_copyFrom ((((tok, beh), msk), (sec, siz)), (((b_tok, b_beh), b_msk), (b_sec, b_siz))) (f_X2_copyFrom tok beh msk sec siz b_tok b_beh b_msk b_sec b_siz)) := by
  refine CV.mk (by decide) (Nat.le_of_ble_eq_true rfl) ?_
  intro p e s m below meth c A ls hI hw hl
  have hx := hI.1
  have hb := hI.2.1
  obtain ⟨r, hr⟩ : ∃ r, r = rb_X2_copyFrom ((((tok, beh), msk), (sec, siz)), (((b_tok, b_beh), b_msk), (b_sec, b_siz))) (f_X2_copyFrom tok beh msk sec siz b_tok b_beh b_msk b_sec b_siz) := ⟨_, rfl⟩
  rw [← hr]
  have hl : lv_has ls 3 [(0, .ref (x 0)), (1, .ref (z 0))] := hl
  refine lv_iconst (v := (0 : Int32)) hx hb dX2_copyFrom_0 (by decide) ?_
  refine lv_istore_n (lv' := [(2, .int (0 : Int32)), (0, .ref (x 0)), (1, .ref (z 0))]) hx hb dX2_copyFrom_1 rfl hl (by decide) rfl (fun ls hl => ?_)
  exact lp_X2_copyFrom_2 l g x z tok beh msk sec siz b_tok b_beh b_msk b_sec b_siz hI 401 tok beh msk sec siz (0 : Int32) (cnt_0 400) r (hr.trans (congrArg (rb_X2_copyFrom ((((tok, beh), msk), (sec, siz)), (((b_tok, b_beh), b_msk), (b_sec, b_siz)))) ((show f_X2_copyFrom tok beh msk sec siz b_tok b_beh b_msk b_sec b_siz = f_X2_copyFrom_2 b_tok b_beh b_msk b_sec b_siz 401 tok beh msk sec siz (0 : Int32) from rfl)))) _ _ hw _ (lv_sub hl [1, 2, 0] rfl)
