theorem g_code (PI : PIt) (σ : S_SC) (μ : S_Mdl) (h : RelP PI σ μ) (x1 : Int32) : Ag (RelP PI) (mK_code μ x1) (cS_code σ x1) (mS_code μ x1) := by
  refine ⟨?_, ?_, h⟩
  · obtain ⟨num, sn, cel, szs, stb, a_tok, a_beh, a_msk, a_sec, a_siz, b_tok, b_beh, b_msk, b_sec, b_siz, c_kept, c_size, t_kept, t_size, r_kept, r_size, sum, next, fault, fplace, pile, mks, cts, hgt, nxt, turns, outc, fpl, prg, cod, words, has, pos, mfault, plc, pil, pmany, mmks, mcts, mturns, stop, rfl, rfl, hc⟩ := h
    exact hc.2.2.2.2.2.2.1
  · obtain ⟨num, sn, cel, szs, stb, a_tok, a_beh, a_msk, a_sec, a_siz, b_tok, b_beh, b_msk, b_sec, b_siz, c_kept, c_size, t_kept, t_size, r_kept, r_size, sum, next, fault, fplace, pile, mks, cts, hgt, nxt, turns, outc, fpl, prg, cod, words, has, pos, mfault, plc, pil, pmany, mmks, mcts, mturns, stop, rfl, rfl, hc⟩ := h
    show f_X9_code c_kept c_size x1 = f_X10_code cod words has x1
    unfold f_X9_code f_X10_code f_X6_read
    simp only [bd]
    rcases hc.2.2.2.2.2.2.2 with ⟨h1, h2⟩ | ⟨h1, h2, h0, h3, h4, -⟩
    · subst h1; subst h2
      rw [if_pos rfl]
      split
      · rfl
      · rw [if_pos (Int32.not_lt.mp ‹_›)]
    · subst h1; subst h2
      rw [if_neg (show ¬ (1 : Int32) = 0 by decide)]
      obtain ⟨k, hk, rfl⟩ := h4
      rw [isin_n (by omega)]
      by_cases h5 : x1 < 0
      · rw [if_pos h5, if_pos h5]; rfl
      · rw [if_neg h5, if_neg h5]
        by_cases h6 : nI k ≤ x1
        · rw [if_pos h6, if_pos h6]; rfl
        · rw [if_neg h6, if_neg h6]
          obtain ⟨j, hj, rfl⟩ := nI_of h5
          have hjk : j < k := Nat.lt_of_not_le fun z => h6 (nI_le z hj)
          rw [if_neg (fun z => absurd ((nI_leI (by decide) hj).mp z) (by omega)), nI_clamp hj, h3 j (nI_lt hjk (by omega)) hj]
          rfl
theorem PR.drop {PI : PIt} {b_tok b_beh : Nat → Int32} {b_siz : Int32} {c_kept : Nat → Int32} {prg cod : Nat → Int32} {words : Int32} : PR PI b_tok b_beh b_siz c_kept 0 prg cod words 0 := Or.inl ⟨rfl, rfl⟩
theorem g_set (PI : PIt) (σ : S_SC) (μ : S_Mdl) (h : RelP PI σ μ) (x1 x2 : Int32) : Ag (RelP PI) (mK_set μ x1 x2) (cS_set σ x1 x2) (mS_set μ x1 x2) := by
  refine ⟨trivial, ?_⟩
  obtain ⟨num, sn, cel, szs, stb, a_tok, a_beh, a_msk, a_sec, a_siz, b_tok, b_beh, b_msk, b_sec, b_siz, c_kept, c_size, t_kept, t_size, r_kept, r_size, sum, next, fault, fplace, pile, mks, cts, hgt, nxt, turns, outc, fpl, prg, cod, words, has, pos, mfault, plc, pil, pmany, mmks, mcts, mturns, stop, rfl, rfl, hc⟩ := h
  have e : f_X9_set num x1 x2 = f_X10_set num x1 x2 := by
    unfold f_X9_set f_X10_set f_X5_numberOf f_X5_assign
    simp only [bd, isin_var]
    split
    · rfl
    · rfl
  refine ⟨congrArg Prod.fst e, ?_⟩
  obtain ⟨num', hn⟩ : ∃ z, z = (f_X9_set num x1 x2).2 := ⟨_, rfl⟩
  refine ⟨num', sn, cel, szs, stb, a_tok, a_beh, a_msk, a_sec, a_siz, b_tok, b_beh, b_msk, b_sec, b_siz, c_kept, c_size, t_kept, t_size, r_kept, r_size, sum, next, fault, fplace, pile, mks, cts, hgt, nxt, turns, outc, fpl, prg, cod, words, has, pos, mfault, plc, pil, pmany, mmks, mcts, mturns, stop, by rw [hn]; rfl, by rw [hn, e]; rfl, hc⟩
theorem g_put (PI : PIt) (σ : S_SC) (μ : S_Mdl) (h : RelP PI σ μ) (x1 x2 x3 : Int32) : Ag (RelP PI) (mK_put μ x1 x2 x3) (cS_put σ x1 x2 x3) (mS_put μ x1 x2 x3) := by
  obtain ⟨num, sn, cel, szs, stb, a_tok, a_beh, a_msk, a_sec, a_siz, b_tok, b_beh, b_msk, b_sec, b_siz, c_kept, c_size, t_kept, t_size, r_kept, r_size, sum, next, fault, fplace, pile, mks, cts, hgt, nxt, turns, outc, fpl, prg, cod, words, has, pos, mfault, plc, pil, pmany, mmks, mcts, mturns, stop, rfl, rfl, hc⟩ := h
  have e : f_X9_put cel szs x1 x2 x3 = f_X10_put cel szs x1 x2 x3 := by
    unfold f_X9_put f_X10_put f_X5_cell f_X5_lay
    simp only [bd, isin_tab, hascell_eq hc.2.1]
    by_cases h1 : f_X5_hasTable x1 = 0
    · simp only [if_pos h1]; rfl
    · simp only [if_neg h1]
      split
      · rfl
      · rfl
  refine ⟨hc.2.1, congrArg Prod.fst e, ?_⟩
  obtain ⟨cel', hn⟩ : ∃ z, z = (f_X9_put cel szs x1 x2 x3).2 := ⟨_, rfl⟩
  refine ⟨num, sn, cel', szs, stb, a_tok, a_beh, a_msk, a_sec, a_siz, b_tok, b_beh, b_msk, b_sec, b_siz, c_kept, c_size, t_kept, t_size, r_kept, r_size, sum, next, fault, fplace, pile, mks, cts, hgt, nxt, turns, outc, fpl, prg, cod, words, has, pos, mfault, plc, pil, pmany, mmks, mcts, mturns, stop, by rw [hn]; rfl, by rw [hn, e]; rfl, hc⟩
theorem g_token (PI : PIt) (σ : S_SC) (μ : S_Mdl) (h : RelP PI σ μ) (x1 : Int32) : Ag (RelP PI) (mK_token μ x1) (cS_token σ x1) (mS_token μ x1) := by
  obtain ⟨num, sn, cel, szs, stb, a_tok, a_beh, a_msk, a_sec, a_siz, b_tok, b_beh, b_msk, b_sec, b_siz, c_kept, c_size, t_kept, t_size, r_kept, r_size, sum, next, fault, fplace, pile, mks, cts, hgt, nxt, turns, outc, fpl, prg, cod, words, has, pos, mfault, plc, pil, pmany, mmks, mcts, mturns, stop, rfl, rfl, hc⟩ := h
  obtain ⟨k, hk, hk2⟩ := id hc.1
  have e400 : (400 : Int32) = nI 400 := rfl
  have e : f_X9_token a_tok a_siz x1 = f_X10_token a_tok a_siz x1 := by
    unfold f_X9_token f_X10_token f_X2_add f_X2_size
    simp only [bd]
    rw [hk2, if_neg (nI_pos (by omega)), e400]
    by_cases h1 : k = 400
    · subst h1
      rw [if_neg (show ¬ nI 400 < nI 400 by decide), if_pos rfl]
      rfl
    · rw [if_pos (nI_lt (by omega) (by decide)), if_neg (fun z => h1 ((nI_eq (by omega) (by decide)).mp z))]
      rfl
  refine ⟨hc.1, congrArg Prod.fst e, ?_⟩
  have hup : UpTo 400 (f_X10_token a_tok a_siz x1).2.2 := by
    unfold f_X10_token
    rw [hk2, e400]
    by_cases h1 : k = 400
    · subst h1
      rw [if_pos rfl]
      exact ⟨400, Nat.le_refl _, rfl⟩
    · rw [if_neg (fun z => h1 ((nI_eq (by omega) (by decide)).mp z))]
      exact ⟨k + 1, by omega, nI_1 k⟩
  obtain ⟨tok', hn⟩ : ∃ z, z = (f_X9_token a_tok a_siz x1).2.1 := ⟨_, rfl⟩
  obtain ⟨siz', hm⟩ : ∃ z, z = (f_X9_token a_tok a_siz x1).2.2 := ⟨_, rfl⟩
  refine ⟨num, sn, cel, szs, stb, tok', a_beh, a_msk, a_sec, siz', b_tok, b_beh, b_msk, b_sec, b_siz, c_kept, c_size, t_kept, t_size, r_kept, r_size, sum, next, fault, fplace, pile, mks, cts, hgt, nxt, turns, outc, fpl, prg, cod, words, has, pos, mfault, plc, pil, pmany, mmks, mcts, mturns, stop, by rw [hn, hm]; rfl, by rw [hn, hm, e]; rfl, ?_⟩
  refine ⟨?_, hc.2⟩
  rw [hm, e]
  exact hup
