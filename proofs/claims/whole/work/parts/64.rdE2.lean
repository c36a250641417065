section RDE2
variable {tok sn stb : Nat → Int32} {n : Nat}
abbrev TrE : Type := (Nat → Int32) → (Nat → Int32) → (Nat → Int32) → (Nat → Int32) → Int32 → (Nat → Int32) → (Nat → Int32) → Int32 → Int32 → Int32 → Int32 → Int32 → Int32 × (NT × ((Int32 × Int32) × Int32))
theorem rE_bad (rE : TrE) (rM : TRd) {a : Nat} (hn : n ≤ 400) (ha : a ≤ n) (h : a < n → tok a < 20 ∨ 36 < tok a) (N : NT) (fp y1 y2 z1 : Int32) : f_X3_readExpression rE tok N.1.1 N.1.2 N.2 (nI n) sn stb (nI a) 0 fp y1 y2 = (0, (N, ((nI a, -11), nI a))) ∧ f_X10_readE rM tok (nI n) (nI a) 0 fp z1 = ((nI a, -11), nI a) := by
  have h42 : ∀ t, f_X3_readExpression_42 rE tok (nI n) sn stb N.1.1 N.1.2 N.2 (nI a) 0 fp y1 y2 (nI a) t 0 = (0, (N, ((nI a, -11), nI a))) := fun t => rfl
  unfold f_X3_readExpression f_X10_readE f_X10_fail
  simp only [bd, if_true]
  by_cases han : a = n
  · subst han
    rw [tokAt_ge (Nat.le_refl _) (by omega), if_pos (show (0 : Int32) < 20 by decide), h42]
    simp only [if_true]
    exact ⟨trivial, trivial⟩
  · rw [tokAt_lt (show a < n by omega) hn, if_neg (fun z => han ((nI_eq (by omega) (by omega)).mp z)), cl_nI (show a < 2 ^ 31 by omega)]
    unfold f_X10_isIn
    rcases h (by omega) with h | h
    · simp only [if_pos h, h42, if_true]
      exact ⟨trivial, trivial⟩
    · by_cases h1 : tok a < 20
      · simp only [if_pos h1, h42, if_true]
        exact ⟨trivial, trivial⟩
      · simp only [if_neg h1, if_pos h, h42, if_true]
        exact ⟨trivial, trivial⟩
theorem rE_deep (rE : TrE) (rM : TRd) {a : Nat} (hn : n ≤ 400) (ha : a < n) (h1 : ¬ tok a < 20) (h2 : ¬ 36 < tok a) (N : NT) (fp y2 : Int32) : f_X3_readExpression rE tok N.1.1 N.1.2 N.2 (nI n) sn stb (nI a) 0 fp (nI 12) y2 = (0, (N, ((nI a, -13), nI a))) ∧ f_X10_readE rM tok (nI n) (nI a) 0 fp (nI 13) = ((nI a, -13), nI a) := by
  unfold f_X3_readExpression f_X10_readE f_X10_fail f_X3_readExpression_42 f_X3_mayBegin f_X3_blame f_X10_isIn
  simp only [bd, if_true]
  rw [tokAt_lt ha hn, if_neg (fun z => absurd ((nI_eq (by omega) (by omega)).mp z) (by omega)), cl_nI (show a < 2 ^ 31 by omega), has_lt ha hn]
  simp only [if_neg h1, if_neg h2, if_neg (show ¬ (1 : Int32) = 0 by decide), if_neg (show ¬ (-13 : Int32) = 0 by decide), if_neg (show ¬ nI 12 < (12 : Int32) by decide), if_neg (show ¬ nI 13 ≤ (12 : Int32) by decide), if_true]
  exact ⟨trivial, trivial⟩
theorem rE_good (rE : TrE) {a d : Nat} (hn : n ≤ 400) (ha : a < n) (hd : d + 1 ≤ 12) (h1 : ¬ tok a < 20) (h2 : ¬ 36 < tok a) (N : NT) (fp y2 : Int32) : f_X3_readExpression rE tok N.1.1 N.1.2 N.2 (nI n) sn stb (nI a) 0 fp (nI (12 - (d + 1))) y2 = bd (f_X3_readOwnWord tok (nI n) sn stb (nI (a + 1)) 0 fp (tok a)) (fun o7 => f_X3_readExpression_69 rE tok (nI n) sn stb 4 N.1.1 N.1.2 N.2 o7.2.1.1 o7.2.1.2 o7.2.2 (nI (12 - (d + 1))) y2 (nI a) o7.1 (f_X4_partsOf (tok a)) 0) := by
  unfold f_X3_readExpression f_X3_readExpression_42 f_X3_mayBegin
  simp only [bd, if_true]
  rw [tokAt_lt ha hn, has_lt ha hn]
  simp only [if_neg h1, if_neg h2, if_neg (show ¬ (1 : Int32) = 0 by decide), if_pos (show nI (12 - (d + 1)) < (12 : Int32) from nI_lt (b := 12) (by omega) (by decide)), show nI a + (1 : Int32) = nI (a + 1) from nI_1 a]
theorem note_fr {N N' : NT} {a b c : Nat} (h : FR N N' c b) (hac : a < c) (hcb : c ≤ b) (x y z : Int32) (hz : z = 0 ∨ z = 1) : FR N ((upd N'.1.1 a x, upd N'.1.2 a y), upd N'.2 a z) a b := by
  refine ⟨?_, ?_⟩
  · intro i hi
    obtain ⟨h1, h2, h3⟩ := h.1 i (by omega)
    have hne : ¬ i = a := by omega
    exact ⟨(upd_ne _ _ hne).trans h1, (upd_ne _ _ hne).trans h2, (upd_ne _ _ hne).trans h3⟩
  · intro i q
    show ¬ upd N'.1.1 a x i = 0 → upd N'.2 a z i = 0 ∨ upd N'.2 a z i = 1
    by_cases z' : i = a
    · subst z'
      intro _
      rw [upd_eq]; exact hz
    · rw [upd_ne _ _ z', upd_ne _ _ z']
      exact h.2 i q
theorem note_agr {N : NT} {a b c : Nat} (hac : a < c) (x y z : Int32) : Agr N ((upd N.1.1 a x, upd N.1.2 a y), upd N.2 a z) c b := by
  intro i hi _
  have hne : ¬ i = a := by omega
  exact ⟨upd_ne _ _ hne, upd_ne _ _ hne, upd_ne _ _ hne⟩
theorem aE_be {w sv stb : Nat → Int32} {N : NT} {m d a b : Nat} (h : aE w sv stb N m d a b) : N.1.1 a = nI b := by
  cases d with
  | zero => exact h.elim
  | succ d => exact h.1
set_option maxHeartbeats 1000000 in
theorem rdE_eq (hn : n ≤ 400) : ∀ d, d ≤ 12 → RdE tok sn stb n d := by
  intro d
  induction d with
  | zero =>
    intro _ a m N fp ha hz
    right
    by_cases hb : a < n → tok a < 20 ∨ 36 < tok a
    · obtain ⟨e1, e2⟩ := rE_bad (sn := sn) (stb := stb) rE0 (fun _ _ pos fault plc _ => ((pos, fault), plc)) hn ha hb N fp (nI (12 - 0)) (nI m) (nI (13 - 0))
      exact ⟨0, N, nI a, nI a, -11, nI a, by decide, e1, e2⟩
    · have han : a < n := Classical.byContradiction fun z => hb (fun y => absurd y z)
      have h1 : ¬ tok a < 20 := fun z => hb fun _ => Or.inl z
      have h2 : ¬ 36 < tok a := fun z => hb fun _ => Or.inr z
      obtain ⟨e1, e2⟩ := rE_deep (sn := sn) (stb := stb) rE0 (fun _ _ pos fault plc _ => ((pos, fault), plc)) hn han h1 h2 N fp (nI m)
      exact ⟨0, N, nI a, nI a, -13, nI a, by decide, e1, e2⟩
  | succ d ih =>
    intro hd a m N fp ha hz
    have ihd := ih (by omega)
    by_cases hb : a < n → tok a < 20 ∨ 36 < tok a
    · right
      obtain ⟨e1, e2⟩ := rE_bad (sn := sn) (stb := stb) (rdE d) (mE d) hn ha hb N fp (nI (12 - (d + 1))) (nI m) (nI (13 - (d + 1)))
      exact ⟨0, N, nI a, nI a, -11, nI a, by decide, e1, e2⟩
    · have han : a < n := Classical.byContradiction fun z => hb (fun y => absurd y z)
      have h1 : ¬ tok a < 20 := fun z => hb fun _ => Or.inl z
      have h2 : ¬ 36 < tok a := fun z => hb fun _ => Or.inr z
      have hcl := rE_good (sn := sn) (stb := stb) (rdE d) hn han hd h1 h2 N fp (nI m)
      rw [show rdE (d + 1) = f_X3_readExpression (rdE d) from rfl, show mE (d + 1) = f_X10_readE (mE d) from rfl, hcl]
      unfold f_X10_readE f_X10_isIn
      simp only [bd, if_true, if_neg h1, if_neg h2, if_neg (show ¬ (1 : Int32) = 0 by decide), if_neg (show ¬ nI a = nI n from fun z => absurd ((nI_eq (by omega) (by omega)).mp z) (by omega)), cl_nI (show a < 2 ^ 31 by omega), if_pos (show nI (13 - (d + 1)) ≤ (12 : Int32) from nI_le (b := 12) (by omega) (by decide)), show nI a + (1 : Int32) = nI (a + 1) from nI_1 a, dep13 hd]
      have hz1 : ZB N (a + 1) := fun i i1 i2 => hz i (by omega) i2
      have hbe1 : a + 1 < 400 → N.1.1 (a + 1) = 0 := fun z => hz (a + 1) (by omega) z
      rcases tok_cases h1 h2 with t | t | t | t | t | t
      · have hw : f_X3_readOwnWord tok (nI n) sn stb (nI (a + 1)) 0 fp (tok a) = if f_X2_has (nI n) (nI (a + 1)) = 0 then (0, ((nI (a + 1), -11), nI (a + 1))) else (0, ((nI (a + 2), 0), fp)) := by
          unfold f_X3_readOwnWord f_X3_blame
          simp only [bd, if_pos t, if_true, show nI (a + 1) + (1 : Int32) = nI (a + 2) from nI_1 (a + 1)]
        have hp : f_X4_partsOf (tok a) = nI (0 + 0) := by rw [t]; rfl
        rw [hw, hp, if_pos t]
        by_cases hl : a + 1 < n
        · rw [has_lt hl hn, if_neg (show ¬ (1 : Int32) = 0 by decide), if_neg (show ¬ nI (a + 1) = nI n from fun z => absurd ((nI_eq (by omega) (by omega)).mp z) (by omega)), show nI (a + 1) + (1 : Int32) = nI (a + 2) from nI_1 (a + 1)]
          left
          rcases rd_parts (m := m) hn hd ihd han 0 0 4 (a + 2) N fp 0 (by omega) (by omega) (fun i i1 i2 => hz i (by omega) i2) (Or.inl rfl) (by omega) (by omega) with ⟨N', b, S', e1, e2, hc, hb2, hf, hL, hS, hS'⟩ | ⟨S', N', nx, po, f, q, hf, e1, e2⟩
          · have hbe : a + 2 = b := hL
            subst hbe
            refine ⟨_, a + 2, S', e1, rfl, hb2, note_fr hf (by omega) (by omega) _ _ _ hS, ?_, hS, upd_eq _ _ _⟩
            have hS0 : S' = 0 := hS'.mpr ⟨rfl, trivial⟩
            exact ⟨upd_eq _ _ _, upd_eq _ _ _, Or.inl ⟨t, rfl, ((upd_ne _ _ (by omega)).trans ((hf.1 (a + 1) (Or.inl (by omega))).1)).trans (hbe1 (by omega)), (upd_eq _ _ _).trans hS0⟩⟩
          · exact absurd (show (nI (a + 2), (0 : Int32)) = (po, f) from congrArg Prod.fst e2) (fun z => hf (congrArg Prod.snd z).symm)
        · have hl' : a + 1 = n := by omega
          rw [has_ge (show n ≤ a + 1 by omega) (by omega), if_pos rfl, if_pos (show nI (a + 1) = nI n by rw [hl'])]
          right
          obtain ⟨S', N', g⟩ := p69_stop d tok (nI n) sn stb 4 N.1.1 N.1.2 N.2 (nI (a + 1)) (-11) (nI (a + 1)) (nI (12 - (d + 1))) (nI m) (nI a) 0 (nI (0 + 0)) 0 (by decide)
          exact ⟨S', N', nI (a + 1), nI (a + 1), -11, nI (a + 1), by decide, g, rfl⟩
      · have n20 : ¬ tok a = 20 := by rw [t]; decide
        have hw : f_X3_readOwnWord tok (nI n) sn stb (nI (a + 1)) 0 fp (tok a) = bd (f_X3_readBelow tok (nI n) (nI (a + 1)) 0 fp 10) (fun o6 => (f_X5_isSecretVariable sn o6.1, ((o6.2.1.1, o6.2.1.2), o6.2.2))) := by
          rw [t]; rfl
        have hp : f_X4_partsOf (tok a) = nI (0 + 0) := by rw [t]; rfl
        rw [hw, hp, if_neg n20, if_pos t]
        simp only [bd]
        rcases below_eq (tok := tok) (c := a + 1) (k := 9) hn (by omega) (by decide) 10 9 rfl rfl fp with ⟨hl, hv, w1, w2⟩ | ⟨v, f, p, hf, w1, w2⟩
        · rw [w1, w2]
          left
          rcases rd_parts (m := m) hn hd ihd han 0 0 4 (a + 2) N fp (f_X5_isSecretVariable sn (tok (a + 1))) (by omega) (by omega) (fun i i1 i2 => hz i (by omega) i2) (isSV01 _ _) (by omega) (by omega) with ⟨N', b, S', e1, e2, hc, hb2, hf, hL, hS, hS'⟩ | ⟨S', N', nx, po, f, q, hf, e1, e2⟩
          · have hbe : a + 2 = b := hL
            subst hbe
            refine ⟨_, a + 2, S', e1, rfl, hb2, note_fr hf (by omega) (by omega) _ _ _ hS, ?_, hS, upd_eq _ _ _⟩
            refine ⟨upd_eq _ _ _, upd_eq _ _ _, Or.inr (Or.inl ⟨t, hv, rfl, ((upd_ne _ _ (by omega)).trans ((hf.1 (a + 1) (Or.inl (by omega))).1)).trans (hbe1 (by omega)), ?_⟩)⟩
            simp only
            rw [upd_eq, hS', isSV_iff hv]
            exact ⟨fun z => z.1, fun z => ⟨z, trivial⟩⟩
          · exact absurd (show (nI (a + 2), (0 : Int32)) = (po, f) from congrArg Prod.fst e2) (fun z => hf (congrArg Prod.snd z).symm)
        · rw [w1, w2]
          right
          obtain ⟨S', N', g⟩ := p69_stop d tok (nI n) sn stb 4 N.1.1 N.1.2 N.2 (nI (a + 1)) f p (nI (12 - (d + 1))) (nI m) (nI a) (f_X5_isSecretVariable sn v) (nI (0 + 0)) 0 hf
          exact ⟨S', N', nI (a + 1), nI (a + 1), f, p, hf, g, rfl⟩
      · have n20 : ¬ tok a = 20 := by rw [t]; decide
        have n21 : ¬ tok a = 21 := by rw [t]; decide
        have hw : f_X3_readOwnWord tok (nI n) sn stb (nI (a + 1)) 0 fp (tok a) = bd (f_X3_readBelow tok (nI n) (nI (a + 1)) 0 fp 4) (fun o6 => (f_X5_isSecretTable stb o6.1, ((o6.2.1.1, o6.2.1.2), o6.2.2))) := by
          rw [t]; rfl
        have hp : f_X4_partsOf (tok a) = nI (0 + 1) := by rw [t]; rfl
        rw [hw, hp, if_neg n20, if_neg n21, if_pos t]
        simp only [bd]
        rcases below_eq (tok := tok) (c := a + 1) (k := 3) hn (by omega) (by decide) 4 3 rfl rfl fp with ⟨hl, hv, w1, w2⟩ | ⟨v, f, p, hf, w1, w2⟩
        · rw [w1, w2]
          rcases rd_parts (m := m) hn hd ihd han 1 0 4 (a + 2) N fp (f_X5_isSecretTable stb (tok (a + 1))) (by omega) (by omega) (fun i i1 i2 => hz i (by omega) i2) (isST01 _ _) (by omega) (by omega) with ⟨N', b, S', e1, e2, hc, hb2, hf, hL, hS, hS'⟩ | ⟨S', N', nx, po, f, q, hf, e1, e2⟩
          · left
            obtain ⟨b', hE, hbb⟩ := hL
            have hbb' : b' = b := hbb
            subst hbb'
            refine ⟨_, b', S', e1, e2, hb2, note_fr hf (by omega) (by omega) _ _ _ hS, ?_, hS, upd_eq _ _ _⟩
            refine ⟨upd_eq _ _ _, upd_eq _ _ _, Or.inr (Or.inr (Or.inl ⟨t, hv, aE_congr hE (note_agr (by omega) _ _ _), ((upd_ne _ _ (by omega)).trans ((hf.1 (a + 1) (Or.inl (by omega))).1)).trans (hbe1 (by omega)), ?_⟩))⟩
            simp only
            rw [upd_eq, hS', isST_iff hv, upd_ne _ _ (show ¬ a + 2 = a by omega)]
            exact ⟨fun z => ⟨z.1, z.2.1⟩, fun z => ⟨z.1, z.2, trivial⟩⟩
          · exact Or.inr ⟨S', N', nx, po, f, q, hf, e1, e2⟩
        · rw [w1, w2]
          simp only
          rw [mE_stop d tok (nI n) (nI (a + 1)) p _ hf]
          right
          obtain ⟨S', N', g⟩ := p69_stop d tok (nI n) sn stb 4 N.1.1 N.1.2 N.2 (nI (a + 1)) f p (nI (12 - (d + 1))) (nI m) (nI a) (f_X5_isSecretTable stb v) (nI (0 + 1)) 0 hf
          exact ⟨S', N', nI (a + 1), nI (a + 1), f, p, hf, g, rfl⟩
      · have n20 : ¬ tok a = 20 := by rw [t]; decide
        have n21 : ¬ tok a = 21 := by rw [t]; decide
        have n35 : ¬ tok a = 35 := by rw [t]; decide
        have hw : f_X3_readOwnWord tok (nI n) sn stb (nI (a + 1)) 0 fp (tok a) = (0, ((nI (a + 1), 0), fp)) := by rw [t]; rfl
        have hp : f_X4_partsOf (tok a) = nI (0 + 1) := by rw [t]; rfl
        have ho : f_X10_operands (tok a) = nI (0 + 1) := by rw [t]; rfl
        rw [hw, hp, if_neg n20, if_neg n21, if_neg n35, show (0 : Int32) = nI 0 from rfl, it170 d tok (nI n) _ (tok a) 1 0 4 (nI (a + 1)) (nI 0) fp ho (by omega) (by omega), dep13 hd]
        simp only
        rcases rd_parts (m := m) hn hd ihd han 1 0 4 (a + 1) N fp 0 (by omega) (by omega) hz1 (Or.inl rfl) (by omega) (by omega) with ⟨N', b, S', e1, e2, hc, hb2, hf, hL, hS, hS'⟩ | ⟨S', N', nx, po, f, q, hf, e1, e2⟩
        · left
          obtain ⟨b', hE, hbb⟩ := hL
          have hbb' : b' = b := hbb
          subst hbb'
          refine ⟨_, b', S', e1, e2, hb2, note_fr hf (by omega) (by omega) _ _ _ hS, ?_, hS, upd_eq _ _ _⟩
          refine ⟨upd_eq _ _ _, upd_eq _ _ _, Or.inr (Or.inr (Or.inr (Or.inl ⟨t, aE_congr hE (note_agr (by omega) _ _ _), ?_⟩)))⟩
          simp only
          rw [upd_eq, hS', upd_ne _ _ (show ¬ a + 1 = a by omega)]
          exact ⟨fun z => z.2.1, fun z => ⟨rfl, z, trivial⟩⟩
        · exact Or.inr ⟨S', N', nx, po, f, q, hf, e1, e2⟩
      · have n20 : ¬ tok a = 20 := by rw [t]; decide
        have n21 : ¬ tok a = 21 := by rw [t]; decide
        have n35 : ¬ tok a = 35 := by rw [t]; decide
        have hw : f_X3_readOwnWord tok (nI n) sn stb (nI (a + 1)) 0 fp (tok a) = (0, ((nI (a + 1), 0), fp)) := by rw [t]; rfl
        have hp : f_X4_partsOf (tok a) = nI (0 + 3) := by rw [t]; rfl
        have ho : f_X10_operands (tok a) = nI (0 + 3) := by rw [t]; rfl
        rw [hw, hp, if_neg n20, if_neg n21, if_neg n35, show (0 : Int32) = nI 0 from rfl, it170 d tok (nI n) _ (tok a) 3 0 4 (nI (a + 1)) (nI 0) fp ho (by omega) (by omega), dep13 hd]
        simp only
        rcases rd_parts (m := m) hn hd ihd han 3 0 4 (a + 1) N fp 0 (by omega) (by omega) hz1 (Or.inl rfl) (by omega) (by omega) with ⟨N', b, S', e1, e2, hc, hb2, hf, hL, hS, hS'⟩ | ⟨S', N', nx, po, f, q, hf, e1, e2⟩
        · left
          obtain ⟨c, hE1, e, hE2, b', hE3, hbb⟩ := hL
          have hbb' : b' = b := hbb
          subst hbb'
          have l1 := aE_lt hE1
          have l2 := aE_lt hE2
          have l3 := aE_lt hE3
          refine ⟨_, b', S', e1, e2, hb2, note_fr hf (by omega) (by omega) _ _ _ hS, ?_, hS, upd_eq _ _ _⟩
          refine ⟨upd_eq _ _ _, upd_eq _ _ _, Or.inr (Or.inr (Or.inr (Or.inr (Or.inl ⟨t, c, e, aE_congr hE1 (note_agr (by omega) _ _ _), aE_congr hE2 (note_agr (by omega) _ _ _), aE_congr hE3 (note_agr (by omega) _ _ _), ?_⟩))))⟩
          simp only
          rw [upd_eq, hS', upd_ne _ _ (show ¬ a + 1 = a by omega), upd_ne _ _ (show ¬ c = a by omega), upd_ne _ _ (show ¬ e = a by omega)]
          show 0 = 0 ∧ N'.2 (a + 1) = 0 ∧ N'.2 (N'.1.1 (a + 1)).toNatClampNeg = 0 ∧ N'.2 (N'.1.1 (N'.1.1 (a + 1)).toNatClampNeg).toNatClampNeg = 0 ∧ True ↔ _
          rw [aE_be hE1, cl_nI (show c < 2 ^ 31 by omega), aE_be hE2, cl_nI (show e < 2 ^ 31 by omega)]
          exact ⟨fun z => ⟨z.2.1, z.2.2.1, z.2.2.2.1⟩, fun z => ⟨rfl, z.1, z.2.1, z.2.2, trivial⟩⟩
        · exact Or.inr ⟨S', N', nx, po, f, q, hf, e1, e2⟩
      · obtain ⟨⟨n20, n21, n35, n32, n36⟩, -⟩ := id t
        have hw : f_X3_readOwnWord tok (nI n) sn stb (nI (a + 1)) 0 fp (tok a) = (0, ((nI (a + 1), 0), fp)) := by
          unfold f_X3_readOwnWord
          rw [if_neg n20, if_neg n21, if_neg n35]
        have hp : f_X4_partsOf (tok a) = nI (0 + 2) := by
          unfold f_X4_partsOf
          rw [if_neg n20, if_neg n21, if_neg n32, if_neg n35, if_neg n36]
          rfl
        have ho : f_X10_operands (tok a) = nI (0 + 2) := opn_bin t
        rw [hw, hp, if_neg n20, if_neg n21, if_neg n35, show (0 : Int32) = nI 0 from rfl, it170 d tok (nI n) _ (tok a) 2 0 4 (nI (a + 1)) (nI 0) fp ho (by omega) (by omega), dep13 hd]
        simp only
        rcases rd_parts (m := m) hn hd ihd han 2 0 4 (a + 1) N fp 0 (by omega) (by omega) hz1 (Or.inl rfl) (by omega) (by omega) with ⟨N', b, S', e1, e2, hc, hb2, hf, hL, hS, hS'⟩ | ⟨S', N', nx, po, f, q, hf, e1, e2⟩
        · left
          obtain ⟨c, hE1, b', hE2, hbb⟩ := hL
          have hbb' : b' = b := hbb
          subst hbb'
          have l1 := aE_lt hE1
          have l2 := aE_lt hE2
          refine ⟨_, b', S', e1, e2, hb2, note_fr hf (by omega) (by omega) _ _ _ hS, ?_, hS, upd_eq _ _ _⟩
          refine ⟨upd_eq _ _ _, upd_eq _ _ _, Or.inr (Or.inr (Or.inr (Or.inr (Or.inr ⟨t, c, aE_congr hE1 (note_agr (by omega) _ _ _), aE_congr hE2 (note_agr (by omega) _ _ _), ?_⟩))))⟩
          simp only
          rw [upd_eq, hS', upd_ne _ _ (show ¬ a + 1 = a by omega), upd_ne _ _ (show ¬ c = a by omega)]
          show 0 = 0 ∧ N'.2 (a + 1) = 0 ∧ N'.2 (N'.1.1 (a + 1)).toNatClampNeg = 0 ∧ True ↔ _
          rw [aE_be hE1, cl_nI (show c < 2 ^ 31 by omega)]
          exact ⟨fun z => ⟨z.2.1, z.2.2.1⟩, fun z => ⟨rfl, z.1, z.2, trivial⟩⟩
        · exact Or.inr ⟨S', N', nx, po, f, q, hf, e1, e2⟩
end RDE2
