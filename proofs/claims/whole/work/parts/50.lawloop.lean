theorem Wd.perm {g : GG} {A : Nat → Prop} {s : State} {ws ws' : va_W} {H : Heap} {locs : List Loc} (hw : Wd g A s ws H locs) (is : List Nat) (hn : va_nd is = true) (h : is.map (fun i => ws[i]?) = ws'.map some) : Wd g A s ws' H locs := ⟨hw.1.perm is h, hw.2.1.sub is hn h, hw.2.2⟩
def adL (l : List Nat) (i : Nat) : Nat := l.getD i 0
def GoodR (Rel : S_SC → S_Mdl → Prop) : Prop := ∀ (σ : S_SC) (μ : S_Mdl), Rel σ μ → (∀ x1 x2 : Int32, Ag Rel (mK_variable μ x1 x2) (cS_variable σ x1 x2) (mS_variable μ x1 x2)) ∧ (∀ x1 x2 x3 : Int32, Ag Rel (mK_table μ x1 x2 x3) (cS_table σ x1 x2 x3) (mS_table μ x1 x2 x3)) ∧ (∀ x1 : Int32, Ag Rel (mK_token μ x1) (cS_token σ x1) (mS_token μ x1)) ∧ (Ag Rel (mK_check μ ) (cS_check σ ) (mS_check μ )) ∧ (Ag Rel (mK_place μ ) (cS_place σ ) (mS_place μ )) ∧ (∀ x1 : Int32, Ag Rel (mK_code μ x1) (cS_code σ x1) (mS_code μ x1)) ∧ (∀ x1 x2 : Int32, Ag Rel (mK_set μ x1 x2) (cS_set σ x1 x2) (mS_set μ x1 x2)) ∧ (∀ x1 x2 x3 : Int32, Ag Rel (mK_put μ x1 x2 x3) (cS_put σ x1 x2 x3) (mS_put μ x1 x2 x3)) ∧ (∀ x1 : Int32, Ag Rel (mK_get μ x1) (cS_get σ x1) (mS_get μ x1)) ∧ (∀ x1 x2 : Int32, Ag Rel (mK_at μ x1 x2) (cS_at σ x1 x2) (mS_at μ x1 x2)) ∧ (Ag Rel (mK_run μ ) (cS_run σ ) (mS_run μ )) ∧ (Ag Rel (mK_plain μ ) (cS_plain σ ) (mS_plain μ )) ∧ (∀ x1 : Int32, Ag Rel (mK_told μ x1) (cS_told σ x1) (mS_told μ x1)) ∧ (∀ x1 : Int32, Ag Rel (mK_trace μ x1) (cS_trace σ x1) (mS_trace μ x1)) ∧ (Ag Rel (mK_mark μ ) (cS_mark σ ) (mS_mark μ )) ∧ (∀ x1 : Int32, Ag Rel (mK_count μ x1) (cS_count σ x1) (mS_count μ x1))
theorem cmp_exit {L i : Nat} (hL : L ≤ 2048) (hi : i ≤ 4096) (h : ¬ (nI L - 4 : Int32) < nI i) : i + 4 ≤ L := by
  have h1 := Int32.not_lt.mp h
  have h2 := Int32.le_iff_toInt_le.mp h1
  have e4 : (4 : Int32) = nI 4 := rfl
  rw [e4, pk_sub_toInt (by omega) (by decide), nI_toInt (by omega)] at h2
  omega
theorem idx_in {L i : Nat} (t : Nat) {y : Int32} (hy : y = nI i) (ht : t < 4) (h : i + 4 ≤ L) (hL : L ≤ 2048) : vp_in (y + nI t) L := by
  subst hy
  rw [nI_add]
  exact vp_in_nI (by omega) (by omega)
set_option maxHeartbeats 4000000 in
set_option maxRecDepth 100000 in
theorem law_loop (l : Launch) {p : Program} {e : Env} {s : State} {m : MethodId} {below : List Frame} {meth : Method} {c : Code} {g : GG} {A : Nat → Prop} {b L : Nat} {xs : Nat → Int32} (Rel : S_SC → S_Mdl → Prop) (hG : GoodR Rel) (h : Nat) (q : Nat → Nat) (xa : Nat → Nat) (xb : Nat → Nat) (tc : Nat → Nat) (tt : Nat → Nat) (z : Nat) (tr : Nat → Nat) (ar : Nat) (ac : Nat) (u : Nat → Nat) (aw : Nat) (a : Nat → Nat) (hL : L ≤ 2048) (hI : InM p s m #[Value.ref b] meth c RL cL_law 4 ret g A) (hA2 : ∀ q, A q → s.heap.size ≤ q) (hX : va_X b L xs s s.heap) (hbl : b < s.heap.size) (hbA : ¬ A b) : ∀ (n i : Nat) (y3 : Int32), i ≤ L → L + 1 ≤ i + n → y3 = nI i → ∀ (σ : S_SC) (μ : S_Mdl), Rel σ μ → ∀ (H : Heap) (locs : List Loc), Wd g A s (wL h q xa xb tc tt z tr ar ac u aw a g σ μ) H locs → ∀ (ls : Array Slot), lv_has ls 4 [(3, .int y3), (2, .ref (a 0)), (1, .ref h), (0, .ref b)] → W p l e room_1 s m #[Value.ref b] below meth c H locs 600000 7302250 (lw_Z below #[Value.ref b] s) (F0 m 18 ls []) := by
  have hx := hI.1
  have hb := hI.2.1
  intro n
  induction n with
  | zero =>
    intro i y3 h1 h2
    exact absurd h2 (by omega)
  | succ n ih =>
    intro i y3 hi hin ey σ μ hR H locs hw ls hl
    refine lv_iload_n hx hb dL_law_18 rfl (lv_at hl 0 rfl) ?_
    refine lv_aload_n hx hb dL_law_19 rfl (lv_at hl 3 rfl) ?_
    refine va_slen hx hb hX hbl hbA hw.2.2 dL_law_20 ?_
    refine lv_iconst (v := (4 : Int32)) hx hb dL_law_21 (by decide) ?_
    refine lv_isub hx hb dL_law_22 ?_
    refine lv_icmp_gt (tgt := 539) hx hb dL_law_23 (by decide) (fun c0 => ?_) (fun c0 => ?_)
    · refine lv_iconst (v := 1) hx hb dL_law_539 (by decide) ?_
      refine va_forget (fun q hq => hA2 _ (hw.2.2.2.2 q hq)) ?_
      exact lw_ret hx hb hI.2.2.2.2.2.1 hI.2.2.2.2.2.2.1 dL_law_540
    · have h4 : i + 4 ≤ L := cmp_exit hL (by omega) (by rw [← ey]; exact c0)
      have k0 : vp_in y3 L := by have := idx_in 0 ey (by decide) h4 hL; rwa [show y3 + nI 0 = y3 from Int32.add_zero y3] at this
      have k1 : vp_in (y3 + (1 : Int32)) L := idx_in 1 ey (by decide) h4 hL
      have k2 : vp_in (y3 + (2 : Int32)) L := idx_in 2 ey (by decide) h4 hL
      have k3 : vp_in (y3 + (3 : Int32)) L := idx_in 3 ey (by decide) h4 hL
      have next : ∀ (σ : S_SC) (μ : S_Mdl) (H : Heap) (locs : List Loc), Wd g A s (wL h q xa xb tc tt z tr ar ac u aw a g σ μ) H locs → Rel σ μ → W p l e room_1 s m #[Value.ref b] below meth c H locs 600000 7302250 (lw_Z below #[Value.ref b] s) (F0 m 533 ls []) := by
        intro σ μ H locs hw hR
        refine lv_iinc (v := y3 + (4 : Int32)) (lv' := [(3, .int (y3 + (4 : Int32))), (2, .ref (a 0)), (1, .ref h), (0, .ref b)]) hx hb dL_law_533 hl (k := 0) rfl rfl (by decide) rfl (fun ls hl => ?_)
        refine lv_goto (tgt := 18) hx hb dL_law_536 (by decide) ?_
        exact ih (i + 4) (y3 + (4 : Int32)) h4 (by omega) (by rw [ey]; exact nI_add i 4) σ μ hR H locs hw ls hl
      refine lv_aload_n hx hb dL_law_26 rfl (lv_at hl 3 rfl) ?_
      refine lv_iload_n hx hb dL_law_27 rfl (lv_at hl 0 rfl) ?_
      refine va_sld hx hb hX hbl hbA hw.2.2 k0 dL_law_28 ?_
      refine lv_bipush (v := (15 : Int32)) hx hb dL_law_29 (by decide) ?_
      refine lv_iand hx hb dL_law_31 ?_
      refine lv_topi (fun v hv => ?_)
      obtain ⟨j, hj, ej⟩ := pk_andE (xs y3.toNatClampNeg) (m := 15) 4 (by decide)
      rw [ej] at hv
      obtain ⟨g0, g1, g2, g3, g4, g5, g6, g7, g8, g9, g10, g11, g12, g13, g14, g15⟩ := hG σ μ hR
      have hj : j < 16 := hj
      rcases (show j = 0 ∨ j = 1 ∨ j = 2 ∨ j = 3 ∨ j = 4 ∨ j = 5 ∨ j = 6 ∨ j = 7 ∨ j = 8 ∨ j = 9 ∨ j = 10 ∨ j = 11 ∨ j = 12 ∨ j = 13 ∨ j = 14 ∨ j = 15 by omega) with rfl | rfl | rfl | rfl | rfl | rfl | rfl | rfl | rfl | rfl | rfl | rfl | rfl | rfl | rfl | rfl
      · refine lv_tableIn (tgt := 112) hx hb dL_law_32 (by rw [hv]; decide) (by rw [hv]; decide) (by rw [hv]; rfl) (by decide) ?_
        exact lc_variable l Rel h q xa xb tc tt z tr ar ac u aw a hI hX hbl hbA σ μ g0 hw hl k1 k2 k3 next
      · refine lv_tableIn (tgt := 161) hx hb dL_law_32 (by rw [hv]; decide) (by rw [hv]; decide) (by rw [hv]; rfl) (by decide) ?_
        exact lc_table l Rel h q xa xb tc tt z tr ar ac u aw a hI hX hbl hbA σ μ g1 hw hl k1 k2 k3 next
      · refine lv_tableIn (tgt := 220) hx hb dL_law_32 (by rw [hv]; decide) (by rw [hv]; decide) (by rw [hv]; rfl) (by decide) ?_
        exact lc_token l Rel h q xa xb tc tt z tr ar ac u aw a hI hX hbl hbA σ μ g2 hw hl k1 k2 k3 next
      · refine lv_tableIn (tgt := 243) hx hb dL_law_32 (by rw [hv]; decide) (by rw [hv]; decide) (by rw [hv]; rfl) (by decide) ?_
        exact lc_check l Rel h q xa xb tc tt z tr ar ac u aw a hI hX hbl hbA σ μ g3 hw hl k1 k2 k3 next
      · refine lv_tableIn (tgt := 256) hx hb dL_law_32 (by rw [hv]; decide) (by rw [hv]; decide) (by rw [hv]; rfl) (by decide) ?_
        exact lc_place l Rel h q xa xb tc tt z tr ar ac u aw a hI hX hbl hbA σ μ g4 hw hl k1 k2 k3 next
      · refine lv_tableIn (tgt := 269) hx hb dL_law_32 (by rw [hv]; decide) (by rw [hv]; decide) (by rw [hv]; rfl) (by decide) ?_
        exact lc_code l Rel h q xa xb tc tt z tr ar ac u aw a hI hX hbl hbA σ μ g5 hw hl k1 k2 k3 next
      · refine lv_tableIn (tgt := 292) hx hb dL_law_32 (by rw [hv]; decide) (by rw [hv]; decide) (by rw [hv]; rfl) (by decide) ?_
        exact lc_set l Rel h q xa xb tc tt z tr ar ac u aw a hI hX hbl hbA σ μ g6 hw hl k1 k2 k3 next
      · refine lv_tableIn (tgt := 325) hx hb dL_law_32 (by rw [hv]; decide) (by rw [hv]; decide) (by rw [hv]; rfl) (by decide) ?_
        exact lc_put l Rel h q xa xb tc tt z tr ar ac u aw a hI hX hbl hbA σ μ g7 hw hl k1 k2 k3 next
      · refine lv_tableIn (tgt := 368) hx hb dL_law_32 (by rw [hv]; decide) (by rw [hv]; decide) (by rw [hv]; rfl) (by decide) ?_
        exact lc_get l Rel h q xa xb tc tt z tr ar ac u aw a hI hX hbl hbA σ μ g8 hw hl k1 k2 k3 next
      · refine lv_tableIn (tgt := 391) hx hb dL_law_32 (by rw [hv]; decide) (by rw [hv]; decide) (by rw [hv]; rfl) (by decide) ?_
        exact lc_at l Rel h q xa xb tc tt z tr ar ac u aw a hI hX hbl hbA σ μ g9 hw hl k1 k2 k3 next
      · refine lv_tableIn (tgt := 424) hx hb dL_law_32 (by rw [hv]; decide) (by rw [hv]; decide) (by rw [hv]; rfl) (by decide) ?_
        exact lc_run l Rel h q xa xb tc tt z tr ar ac u aw a hI hX hbl hbA σ μ g10 hw hl k1 k2 k3 next
      · refine lv_tableIn (tgt := 437) hx hb dL_law_32 (by rw [hv]; decide) (by rw [hv]; decide) (by rw [hv]; rfl) (by decide) ?_
        exact lc_plain l Rel h q xa xb tc tt z tr ar ac u aw a hI hX hbl hbA σ μ g11 hw hl k1 k2 k3 next
      · refine lv_tableIn (tgt := 450) hx hb dL_law_32 (by rw [hv]; decide) (by rw [hv]; decide) (by rw [hv]; rfl) (by decide) ?_
        exact lc_told l Rel h q xa xb tc tt z tr ar ac u aw a hI hX hbl hbA σ μ g12 hw hl k1 k2 k3 next
      · refine lv_tableIn (tgt := 473) hx hb dL_law_32 (by rw [hv]; decide) (by rw [hv]; decide) (by rw [hv]; rfl) (by decide) ?_
        exact lc_trace l Rel h q xa xb tc tt z tr ar ac u aw a hI hX hbl hbA σ μ g13 hw hl k1 k2 k3 next
      · refine lv_tableIn (tgt := 496) hx hb dL_law_32 (by rw [hv]; decide) (by rw [hv]; decide) (by rw [hv]; rfl) (by decide) ?_
        exact lc_mark l Rel h q xa xb tc tt z tr ar ac u aw a hI hX hbl hbA σ μ g14 hw hl k1 k2 k3 next
      · refine lv_tableIn (tgt := 510) hx hb dL_law_32 (by rw [hv]; decide) (by rw [hv]; decide) (by rw [hv]; rfl) (by decide) ?_
        exact lc_count l Rel h q xa xb tc tt z tr ar ac u aw a hI hX hbl hbA σ μ g15 hw hl k1 k2 k3 next
