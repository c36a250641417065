theorem eq_variable (sn : Nat → Int32) (cs has x1 x2 : Int32) : (f_X9_variable sn cs x1 x2).1 = (f_X10_variable sn has x1 x2).1 ∧ (f_X9_variable sn cs x1 x2).2.1 = (f_X10_variable sn has x1 x2).2.1 ∧ (((f_X9_variable sn cs x1 x2).2.2 = cs ∧ (f_X10_variable sn has x1 x2).2.2 = has) ∨ ((f_X9_variable sn cs x1 x2).2.2 = 0 ∧ (f_X10_variable sn has x1 x2).2.2 = 0)) := by
  unfold f_X9_variable f_X10_variable f_X5_isSecretVariable f_X5_declareVariable f_X9_dropProgram f_X6_clear
  simp only [bd, isin_var]
  by_cases h1 : f_X5_hasVariable x1 = 0
  · simp only [if_pos h1]
    exact ⟨trivial, trivial, Or.inl ⟨trivial, trivial⟩⟩
  · simp only [if_neg h1]
    by_cases h2 : sn x1.toNatClampNeg = 0
    · simp only [if_pos h2]
      refine ⟨?_, ?_, Or.inr ⟨?_, ?_⟩⟩ <;> first | trivial | rfl
    · simp only [if_neg h2]
      refine ⟨?_, ?_, Or.inr ⟨?_, ?_⟩⟩ <;> first | trivial | rfl
theorem CO.drop {PI : PIt} {a_beh : Nat → Int32} {a_siz t_size r_size : Int32} {szs mks b_tok b_beh : Nat → Int32} {b_siz : Int32} {c_kept : Nat → Int32} {c_size : Int32} {prg cod : Nat → Int32} {words has : Int32} (h : CO PI a_beh a_siz t_size r_size szs mks b_tok b_beh b_siz c_kept c_size prg cod words has) {cs' has' : Int32} (hd : (cs' = c_size ∧ has' = has) ∨ (cs' = 0 ∧ has' = 0)) : CO PI a_beh a_siz t_size r_size szs mks b_tok b_beh b_siz c_kept cs' prg cod words has' := by
  rcases hd with ⟨rfl, rfl⟩ | ⟨rfl, rfl⟩
  · exact h
  · exact ⟨h.1, h.2.1, h.2.2.1, h.2.2.2.1, h.2.2.2.2.1, h.2.2.2.2.2.1, h.2.2.2.2.2.2.1, PR.drop⟩
theorem CO.szs {PI : PIt} {a_beh : Nat → Int32} {a_siz t_size r_size : Int32} {szs szs' mks b_tok b_beh : Nat → Int32} {b_siz : Int32} {c_kept : Nat → Int32} {c_size : Int32} {prg cod : Nat → Int32} {words has : Int32} (h : CO PI a_beh a_siz t_size r_size szs mks b_tok b_beh b_siz c_kept c_size prg cod words has) (hz : SZ szs') : CO PI a_beh a_siz t_size r_size szs' mks b_tok b_beh b_siz c_kept c_size prg cod words has := ⟨h.1, hz, h.2.2⟩
theorem g_variable (PI : PIt) (σ : S_SC) (μ : S_Mdl) (h : RelP PI σ μ) (x1 x2 : Int32) : Ag (RelP PI) (mK_variable μ x1 x2) (cS_variable σ x1 x2) (mS_variable μ x1 x2) := by
  obtain ⟨num, sn, cel, szs, stb, a_tok, a_beh, a_msk, a_sec, a_siz, b_tok, b_beh, b_msk, b_sec, b_siz, c_kept, c_size, t_kept, t_size, r_kept, r_size, sum, next, fault, fplace, pile, mks, cts, hgt, nxt, turns, outc, fpl, prg, cod, words, has, pos, mfault, plc, pil, pmany, mmks, mcts, mturns, stop, rfl, rfl, hc⟩ := h
  obtain ⟨e1, e2, e3⟩ := eq_variable sn c_size has x1 x2
  refine ⟨trivial, e1, ?_⟩
  obtain ⟨sn', h1⟩ : ∃ z, z = (f_X9_variable sn c_size x1 x2).2.1 := ⟨_, rfl⟩
  obtain ⟨cs', h2⟩ : ∃ z, z = (f_X9_variable sn c_size x1 x2).2.2 := ⟨_, rfl⟩
  obtain ⟨has', h3⟩ : ∃ z, z = (f_X10_variable sn has x1 x2).2.2 := ⟨_, rfl⟩
  rw [← h2, ← h3] at e3
  refine ⟨num, sn', cel, szs, stb, a_tok, a_beh, a_msk, a_sec, a_siz, b_tok, b_beh, b_msk, b_sec, b_siz, c_kept, cs', t_kept, t_size, r_kept, r_size, sum, next, fault, fplace, pile, mks, cts, hgt, nxt, turns, outc, fpl, prg, cod, words, has', pos, mfault, plc, pil, pmany, mmks, mcts, mturns, stop, by rw [h1, h2]; rfl, by rw [h1, e2, h3]; rfl, hc.drop e3⟩
theorem tab_loop : ∀ (k : Nat) (cel szs stb : Nat → Int32) (has y1 y4 y5 : Int32), cnt 16 k y5 → (f_X10_table_47 k stb cel szs has y1 y4 y5).1 = y4 ∧ (f_X10_table_47 k stb cel szs has y1 y4 y5).2.1.1 = (f_X5_declareTable_37 k cel szs stb y1 y5).2 ∧ (f_X10_table_47 k stb cel szs has y1 y4 y5).2.1.2 = (f_X5_declareTable_37 k cel szs stb y1 y5).1.1 ∧ (f_X10_table_47 k stb cel szs has y1 y4 y5).2.2.1 = (f_X5_declareTable_37 k cel szs stb y1 y5).1.2 ∧ (f_X10_table_47 k stb cel szs has y1 y4 y5).2.2.2 = 0 ∧ (f_X5_declareTable_37 k cel szs stb y1 y5).1.2 = szs := by
  intro k
  induction k with
  | zero => intro cel szs stb has y1 y4 y5 h; exact (cnt_n h).elim
  | succ k ih =>
    intro cel szs stb has y1 y4 y5 h
    unfold f_X10_table_47 f_X5_declareTable_37
    by_cases h1 : (16 : Int32) ≤ y5
    · simp only [if_pos h1]
      exact ⟨trivial, trivial, trivial, trivial, trivial, trivial⟩
    · simp only [if_neg h1]
      exact ih _ _ _ _ _ _ _ (cnt_s (by decide) h h1)
theorem SZ.upd {szs : Nat → Int32} (h : SZ szs) {t x : Int32} (h1 : ¬ x < 1) (h2 : x ≤ 16) : SZ (upd szs t.toNatClampNeg x) := by
  intro j hj
  by_cases e : j = t.toNatClampNeg
  · subst e
    rw [pk_us]
    obtain ⟨k, hk, rfl⟩ := nI_of (x := x) (fun z => h1 (Int32.lt_trans z (by decide)))
    refine ⟨k, ?_, ?_, rfl⟩
    · rcases Nat.lt_or_ge k 1 with z | z
      · exact absurd (nI_lt z (by decide)) h1
      · exact z
    · exact (nI_leI hk (by decide)).mp h2
  · rw [pk_un e]
    exact h j hj
theorem eq_table {szs : Nat → Int32} (hz : SZ szs) (cel stb : Nat → Int32) (cs has x1 x2 x3 : Int32) : (f_X9_table cel szs stb cs x1 x2 x3).1 = (f_X10_table stb cel szs has x1 x2 x3).1 ∧ (f_X9_table cel szs stb cs x1 x2 x3).2.1.1 = (f_X10_table stb cel szs has x1 x2 x3).2.1.2 ∧ (f_X9_table cel szs stb cs x1 x2 x3).2.1.2 = (f_X10_table stb cel szs has x1 x2 x3).2.2.1 ∧ (f_X9_table cel szs stb cs x1 x2 x3).2.2.1 = (f_X10_table stb cel szs has x1 x2 x3).2.1.1 ∧ (((f_X9_table cel szs stb cs x1 x2 x3).2.2.2 = cs ∧ (f_X10_table stb cel szs has x1 x2 x3).2.2.2 = has) ∨ ((f_X9_table cel szs stb cs x1 x2 x3).2.2.2 = 0 ∧ (f_X10_table stb cel szs has x1 x2 x3).2.2.2 = 0)) ∧ SZ (f_X10_table stb cel szs has x1 x2 x3).2.2.1 := by
  unfold f_X9_table f_X10_table f_X5_sizeOf f_X5_declareTable f_X9_dropProgram f_X6_clear
  simp only [bd, isin_tab]
  by_cases h1 : f_X5_hasTable x1 = 0
  · simp only [if_pos h1]
    exact ⟨trivial, trivial, trivial, trivial, Or.inl ⟨trivial, trivial⟩, hz⟩
  · simp only [if_neg h1]
    unfold f_X10_isIn
    by_cases h2 : x3 < 1
    · simp only [if_pos h2, ↓reduceIte]
      exact ⟨trivial, trivial, trivial, trivial, Or.inl ⟨trivial, trivial⟩, hz⟩
    · simp only [if_neg h2]
      by_cases h3 : x3 ≤ 16
      · have h4 : ¬ (16 : Int32) < x3 := Int32.not_lt.mpr h3
        simp only [if_pos h3, if_neg h4, if_neg (show ¬ (1 : Int32) = 0 by decide)]
        obtain ⟨k1, k2, k3, k4, k5, k6⟩ := tab_loop 17 cel (upd szs x1.toNatClampNeg x3) (upd stb x1.toNatClampNeg (vp_nar .boolean x2)) has x1 (szs x1.toNatClampNeg) 0 (cnt_0 16)
        refine ⟨k1.symm, k3.symm, k4.symm, k2.symm, Or.inr ⟨by first | trivial | rfl, k5⟩, ?_⟩
        rw [k4, k6]
        exact hz.upd h2 h3
      · have h4 : (16 : Int32) < x3 := Int32.not_le.mp h3
        simp only [if_neg h3, if_pos h4, ↓reduceIte]
        exact ⟨trivial, trivial, trivial, trivial, Or.inl ⟨trivial, trivial⟩, hz⟩
theorem g_table (PI : PIt) (σ : S_SC) (μ : S_Mdl) (h : RelP PI σ μ) (x1 x2 x3 : Int32) : Ag (RelP PI) (mK_table μ x1 x2 x3) (cS_table σ x1 x2 x3) (mS_table μ x1 x2 x3) := by
  obtain ⟨num, sn, cel, szs, stb, a_tok, a_beh, a_msk, a_sec, a_siz, b_tok, b_beh, b_msk, b_sec, b_siz, c_kept, c_size, t_kept, t_size, r_kept, r_size, sum, next, fault, fplace, pile, mks, cts, hgt, nxt, turns, outc, fpl, prg, cod, words, has, pos, mfault, plc, pil, pmany, mmks, mcts, mturns, stop, rfl, rfl, hc⟩ := h
  obtain ⟨e1, e2, e3, e4, e5, e6⟩ := eq_table hc.2.1 cel stb c_size has x1 x2 x3
  refine ⟨trivial, e1, ?_⟩
  obtain ⟨cel', h1⟩ : ∃ z, z = (f_X9_table cel szs stb c_size x1 x2 x3).2.1.1 := ⟨_, rfl⟩
  obtain ⟨szs', h2⟩ : ∃ z, z = (f_X9_table cel szs stb c_size x1 x2 x3).2.1.2 := ⟨_, rfl⟩
  obtain ⟨stb', h3⟩ : ∃ z, z = (f_X9_table cel szs stb c_size x1 x2 x3).2.2.1 := ⟨_, rfl⟩
  obtain ⟨cs', h4⟩ : ∃ z, z = (f_X9_table cel szs stb c_size x1 x2 x3).2.2.2 := ⟨_, rfl⟩
  obtain ⟨has', h5⟩ : ∃ z, z = (f_X10_table stb cel szs has x1 x2 x3).2.2.2 := ⟨_, rfl⟩
  rw [← h4, ← h5] at e5
  rw [← e3, ← h2] at e6
  refine ⟨num, sn, cel', szs', stb', a_tok, a_beh, a_msk, a_sec, a_siz, b_tok, b_beh, b_msk, b_sec, b_siz, c_kept, cs', t_kept, t_size, r_kept, r_size, sum, next, fault, fplace, pile, mks, cts, hgt, nxt, turns, outc, fpl, prg, cod, words, has', pos, mfault, plc, pil, pmany, mmks, mcts, mturns, stop, by rw [h1, h2, h3, h4]; rfl, by rw [h1, h2, h3, e2, e3, e4, h5]; rfl, (hc.szs e6).drop e5⟩
