/-! the two states: what they share is said by one name -/
def PIt : Type := (Nat → Int32) → (Nat → Int32) → Int32 → (Nat → Int32) → (Nat → Int32) → (Nat → Int32) → Int32 → Prop
/-- with a program, or without -/
def PR (PI : PIt) (b_tok b_beh : Nat → Int32) (b_siz : Int32) (c_kept : Nat → Int32) (c_size : Int32) (prg cod : Nat → Int32) (words has : Int32) : Prop := (has = 0 ∧ c_size = 0) ∨ (has = 1 ∧ c_size = words ∧ 0 < words ∧ (∀ i : Nat, nI i < words → i < 2 ^ 31 → c_kept i = cod i) ∧ UpTo 2048 words ∧ PI b_tok b_beh b_siz c_kept prg cod words)
def CO (PI : PIt) (a_beh : Nat → Int32) (a_siz t_size r_size : Int32) (szs mks : Nat → Int32) (b_tok b_beh : Nat → Int32) (b_siz : Int32) (c_kept : Nat → Int32) (c_size : Int32) (prg cod : Nat → Int32) (words has : Int32) : Prop :=
  UpTo 400 a_siz ∧ SZ szs ∧ UpTo 1000000 t_size ∧ UpTo 1000000 r_size ∧ (∀ i : Nat, i < 400 → a_beh i = 0) ∧ mks 0 = -1 ∧ UpTo 4000 words ∧ PR PI b_tok b_beh b_siz c_kept c_size prg cod words has
def RelP (PI : PIt) (σ : S_SC) (μ : S_Mdl) : Prop := ∃ (num : Nat → Int32) (sn : Nat → Int32) (cel : Nat → Int32) (szs : Nat → Int32) (stb : Nat → Int32) (a_tok : Nat → Int32) (a_beh : Nat → Int32) (a_msk : Nat → Int32) (a_sec : Nat → Int32) (a_siz : Int32) (b_tok : Nat → Int32) (b_beh : Nat → Int32) (b_msk : Nat → Int32) (b_sec : Nat → Int32) (b_siz : Int32) (c_kept : Nat → Int32) (c_size : Int32) (t_kept : Nat → Int32) (t_size : Int32) (r_kept : Nat → Int32) (r_size : Int32) (sum : Int64) (next : Int32) (fault : Int32) (fplace : Int32) (pile : Nat → Int32) (mks : Nat → Int32) (cts : Nat → Int32) (hgt : Int32) (nxt : Int32) (turns : Int32) (outc : Int32) (fpl : Int32) (prg : Nat → Int32) (cod : Nat → Int32) (words : Int32) (has : Int32) (pos : Int32) (mfault : Int32) (plc : Int32) (pil : Nat → Int32) (pmany : Int32) (mmks : Nat → Int32) (mcts : Nat → Int32) (mturns : Int32) (stop : Int32), σ = ((((((num, sn), cel), (szs, stb)), ((a_tok, a_beh), (a_msk, a_sec))), (((a_siz, b_tok), (b_beh, b_msk)), ((b_sec, b_siz), (c_kept, c_size)))), ((((t_kept, t_size), (r_kept, r_size)), ((sum, next), (fault, fplace))), (((pile, mks), (cts, hgt)), ((nxt, turns), (outc, fpl))))) ∧ μ = (((((a_tok, a_siz), (sn, stb)), ((num, cel), szs)), (((prg, cod), words), ((has, fpl), pos))), ((((mfault, plc), (t_kept, t_size)), ((r_kept, r_size), sum)), (((pil, pmany), mmks), ((mcts, mturns), stop)))) ∧ CO PI a_beh a_siz t_size r_size szs mks b_tok b_beh b_siz c_kept c_size prg cod words has
theorem isin_tab (x : Int32) : f_X10_isIn x 0 3 = f_X5_hasTable x := by
  have e3 : (3 : Int32).toInt = 3 := by decide
  have e4 : (4 : Int32).toInt = 4 := by decide
  unfold f_X10_isIn f_X5_hasTable
  by_cases h : x < 0
  · rw [if_pos h, if_pos h]
  · rw [if_neg h, if_neg h]
    by_cases h2 : (4 : Int32) ≤ x
    · rw [if_pos h2, if_pos]
      rw [Int32.le_iff_toInt_le] at h2
      rw [Int32.lt_iff_toInt_lt]
      omega
    · rw [if_neg h2, if_neg]
      rw [Int32.le_iff_toInt_le] at h2
      rw [Int32.lt_iff_toInt_lt]
      omega
theorem isin_var (x : Int32) : f_X10_isIn x 0 9 = f_X5_hasVariable x := by
  have e3 : (9 : Int32).toInt = 9 := by decide
  have e4 : (10 : Int32).toInt = 10 := by decide
  unfold f_X10_isIn f_X5_hasVariable
  by_cases h : x < 0
  · rw [if_pos h, if_pos h]
  · rw [if_neg h, if_neg h]
    by_cases h2 : (10 : Int32) ≤ x
    · rw [if_pos h2, if_pos]
      rw [Int32.le_iff_toInt_le] at h2
      rw [Int32.lt_iff_toInt_lt]
      omega
    · rw [if_neg h2, if_neg]
      rw [Int32.le_iff_toInt_le] at h2
      rw [Int32.lt_iff_toInt_lt]
      omega
/-- isIn from 0 up to below n -/
theorem isin_n {n : Nat} (hn : n < 2 ^ 30) (x : Int32) : f_X10_isIn x 0 (nI n - 1) = if x < 0 then 0 else if nI n ≤ x then 0 else 1 := by
  unfold f_X10_isIn
  by_cases h : x < 0
  · rw [if_pos h, if_pos h]
  · rw [if_neg h, if_neg h]
    have e : (nI n - 1 : Int32).toInt = (n : Int) - 1 := pk_sub_toInt (a := n) (b := 1) (by omega) (by decide)
    have e2 := nI_toInt (n := n) (by omega)
    by_cases h2 : nI n ≤ x
    · rw [if_pos h2, if_pos]
      rw [Int32.le_iff_toInt_le] at h2
      rw [Int32.lt_iff_toInt_lt]
      omega
    · rw [if_neg h2, if_neg]
      rw [Int32.le_iff_toInt_le] at h2
      rw [Int32.lt_iff_toInt_lt]
      omega
theorem hascell_eq {szs : Nat → Int32} (hz : SZ szs) (t i : Int32) : f_X5_hasCell szs t i = if f_X5_hasTable t = 0 then 0 else f_X10_isIn i 0 (szs t.toNatClampNeg - 1) := by
  unfold f_X5_hasCell
  by_cases h1 : t < 0
  · rw [if_pos h1, if_pos]; unfold f_X5_hasTable; rw [if_pos h1]
  · by_cases h2 : (4 : Int32) ≤ t
    · rw [if_neg h1, if_pos h2, if_pos]; unfold f_X5_hasTable; rw [if_neg h1, if_pos h2]
    · have h3 : ¬ f_X5_hasTable t = 0 := by unfold f_X5_hasTable; rw [if_neg h1, if_neg h2]; decide
      rw [if_neg h1, if_neg h2, if_neg h3]
      obtain ⟨k, k1, k2, k3⟩ := hz.at (in_X5_hasTable h3)
      rw [k3, isin_n (by omega)]
      by_cases h4 : i < 0
      · rw [if_pos h4, if_pos h4]
      · rw [if_neg h4, if_neg h4]
        by_cases h5 : (16 : Int32) ≤ i
        · rw [if_pos h5, if_pos (Int32.le_trans (nI_le k2 (by decide)) h5)]
        · rw [if_neg h5]
theorem g_place (PI : PIt) (σ : S_SC) (μ : S_Mdl) (h : RelP PI σ μ) : Ag (RelP PI) (mK_place μ) (cS_place σ) (mS_place μ) := by
  refine ⟨trivial, ?_, h⟩
  obtain ⟨num, sn, cel, szs, stb, a_tok, a_beh, a_msk, a_sec, a_siz, b_tok, b_beh, b_msk, b_sec, b_siz, c_kept, c_size, t_kept, t_size, r_kept, r_size, sum, next, fault, fplace, pile, mks, cts, hgt, nxt, turns, outc, fpl, prg, cod, words, has, pos, mfault, plc, pil, pmany, mmks, mcts, mturns, stop, rfl, rfl, hc⟩ := h
  rfl
theorem g_mark (PI : PIt) (σ : S_SC) (μ : S_Mdl) (h : RelP PI σ μ) : Ag (RelP PI) (mK_mark μ) (cS_mark σ) (mS_mark μ) := by
  refine ⟨trivial, ?_, h⟩
  obtain ⟨num, sn, cel, szs, stb, a_tok, a_beh, a_msk, a_sec, a_siz, b_tok, b_beh, b_msk, b_sec, b_siz, c_kept, c_size, t_kept, t_size, r_kept, r_size, sum, next, fault, fplace, pile, mks, cts, hgt, nxt, turns, outc, fpl, prg, cod, words, has, pos, mfault, plc, pil, pmany, mmks, mcts, mturns, stop, rfl, rfl, hc⟩ := h
  rfl
theorem g_get (PI : PIt) (σ : S_SC) (μ : S_Mdl) (h : RelP PI σ μ) (x1 : Int32) : Ag (RelP PI) (mK_get μ x1) (cS_get σ x1) (mS_get μ x1) := by
  refine ⟨trivial, ?_, h⟩
  obtain ⟨num, sn, cel, szs, stb, a_tok, a_beh, a_msk, a_sec, a_siz, b_tok, b_beh, b_msk, b_sec, b_siz, c_kept, c_size, t_kept, t_size, r_kept, r_size, sum, next, fault, fplace, pile, mks, cts, hgt, nxt, turns, outc, fpl, prg, cod, words, has, pos, mfault, plc, pil, pmany, mmks, mcts, mturns, stop, rfl, rfl, hc⟩ := h
  show f_X9_get num x1 = f_X10_get num x1
  unfold f_X9_get f_X10_get f_X5_numberOf
  simp only [bd, isin_var]
  split
  · rfl
  · rfl
theorem g_at (PI : PIt) (σ : S_SC) (μ : S_Mdl) (h : RelP PI σ μ) (x1 x2 : Int32) : Ag (RelP PI) (mK_at μ x1 x2) (cS_at σ x1 x2) (mS_at μ x1 x2) := by
  refine ⟨?_, ?_, h⟩
  · obtain ⟨num, sn, cel, szs, stb, a_tok, a_beh, a_msk, a_sec, a_siz, b_tok, b_beh, b_msk, b_sec, b_siz, c_kept, c_size, t_kept, t_size, r_kept, r_size, sum, next, fault, fplace, pile, mks, cts, hgt, nxt, turns, outc, fpl, prg, cod, words, has, pos, mfault, plc, pil, pmany, mmks, mcts, mturns, stop, rfl, rfl, hc⟩ := h
    exact hc.2.1
  · obtain ⟨num, sn, cel, szs, stb, a_tok, a_beh, a_msk, a_sec, a_siz, b_tok, b_beh, b_msk, b_sec, b_siz, c_kept, c_size, t_kept, t_size, r_kept, r_size, sum, next, fault, fplace, pile, mks, cts, hgt, nxt, turns, outc, fpl, prg, cod, words, has, pos, mfault, plc, pil, pmany, mmks, mcts, mturns, stop, rfl, rfl, hc⟩ := h
    show f_X9_at cel szs x1 x2 = f_X10_at cel szs x1 x2
    unfold f_X9_at f_X10_at f_X5_cell
    simp only [bd, isin_tab, hascell_eq hc.2.1]
    by_cases h1 : f_X5_hasTable x1 = 0
    · simp only [if_pos h1]; rfl
    · simp only [if_neg h1]
      split
      · rfl
      · rfl
theorem g_count (PI : PIt) (σ : S_SC) (μ : S_Mdl) (h : RelP PI σ μ) (x1 : Int32) : Ag (RelP PI) (mK_count μ x1) (cS_count σ x1) (mS_count μ x1) := by
  refine ⟨trivial, ?_, h⟩
  obtain ⟨num, sn, cel, szs, stb, a_tok, a_beh, a_msk, a_sec, a_siz, b_tok, b_beh, b_msk, b_sec, b_siz, c_kept, c_size, t_kept, t_size, r_kept, r_size, sum, next, fault, fplace, pile, mks, cts, hgt, nxt, turns, outc, fpl, prg, cod, words, has, pos, mfault, plc, pil, pmany, mmks, mcts, mturns, stop, rfl, rfl, hc⟩ := h
  show f_X9_count a_siz c_size t_size r_size x1 = f_X10_count a_siz words has t_size r_size x1
  unfold f_X9_count f_X10_count f_X7_size f_X6_size f_X2_size
  simp only [bd]
  rcases hc.2.2.2.2.2.2.2 with ⟨h1, h2⟩ | ⟨h1, h2, -⟩
  · subst h1; subst h2; rfl
  · subst h1; subst h2; rfl
theorem g_told (PI : PIt) (σ : S_SC) (μ : S_Mdl) (h : RelP PI σ μ) (x1 : Int32) : Ag (RelP PI) (mK_told μ x1) (cS_told σ x1) (mS_told μ x1) := by
  refine ⟨?_, ?_, h⟩
  · obtain ⟨num, sn, cel, szs, stb, a_tok, a_beh, a_msk, a_sec, a_siz, b_tok, b_beh, b_msk, b_sec, b_siz, c_kept, c_size, t_kept, t_size, r_kept, r_size, sum, next, fault, fplace, pile, mks, cts, hgt, nxt, turns, outc, fpl, prg, cod, words, has, pos, mfault, plc, pil, pmany, mmks, mcts, mturns, stop, rfl, rfl, hc⟩ := h
    exact hc.2.2.1
  · obtain ⟨num, sn, cel, szs, stb, a_tok, a_beh, a_msk, a_sec, a_siz, b_tok, b_beh, b_msk, b_sec, b_siz, c_kept, c_size, t_kept, t_size, r_kept, r_size, sum, next, fault, fplace, pile, mks, cts, hgt, nxt, turns, outc, fpl, prg, cod, words, has, pos, mfault, plc, pil, pmany, mmks, mcts, mturns, stop, rfl, rfl, hc⟩ := h
    show f_X9_told t_kept t_size x1 = f_X10_told t_kept t_size x1
    obtain ⟨k, hk, hk2⟩ := hc.2.2.1
    have e300 : (300 : Int32) = nI 300 := rfl
    unfold f_X9_told f_X10_told f_X6_read f_J9_min
    simp only [bd]
    rw [hk2, e300]
    by_cases h1 : nI 300 < nI k
    · rw [if_pos h1, isin_n (by decide)]
      by_cases h2 : x1 < 0
      · rw [if_pos h2, if_pos h2]; rfl
      · rw [if_neg h2, if_neg h2]
        by_cases h3 : nI 300 ≤ x1
        · rw [if_pos h3, if_pos h3]
          split <;> rfl
        · rw [if_neg h3, if_neg h3, if_neg]
          · rfl
          · intro z; exact h3 (Int32.le_trans (Int32.le_of_lt h1) z)
    · rw [if_neg h1, isin_n (by omega)]
      by_cases h2 : x1 < 0
      · rw [if_pos h2, if_pos h2]; rfl
      · rw [if_neg h2, if_neg h2]
        by_cases h3 : nI k ≤ x1
        · rw [if_pos h3, if_pos h3]; rfl
        · rw [if_neg h3, if_neg h3, if_neg]
          · rfl
          · intro z; exact h3 (Int32.le_trans (Int32.not_lt.mp h1) z)
theorem g_trace (PI : PIt) (σ : S_SC) (μ : S_Mdl) (h : RelP PI σ μ) (x1 : Int32) : Ag (RelP PI) (mK_trace μ x1) (cS_trace σ x1) (mS_trace μ x1) := by
  refine ⟨?_, ?_, h⟩
  · obtain ⟨num, sn, cel, szs, stb, a_tok, a_beh, a_msk, a_sec, a_siz, b_tok, b_beh, b_msk, b_sec, b_siz, c_kept, c_size, t_kept, t_size, r_kept, r_size, sum, next, fault, fplace, pile, mks, cts, hgt, nxt, turns, outc, fpl, prg, cod, words, has, pos, mfault, plc, pil, pmany, mmks, mcts, mturns, stop, rfl, rfl, hc⟩ := h
    exact hc.2.2.2.1
  · obtain ⟨num, sn, cel, szs, stb, a_tok, a_beh, a_msk, a_sec, a_siz, b_tok, b_beh, b_msk, b_sec, b_siz, c_kept, c_size, t_kept, t_size, r_kept, r_size, sum, next, fault, fplace, pile, mks, cts, hgt, nxt, turns, outc, fpl, prg, cod, words, has, pos, mfault, plc, pil, pmany, mmks, mcts, mturns, stop, rfl, rfl, hc⟩ := h
    show f_X9_trace r_kept r_size x1 = f_X10_trace r_kept r_size x1
    obtain ⟨k, hk, hk2⟩ := hc.2.2.2.1
    have e300 : (5000 : Int32) = nI 5000 := rfl
    unfold f_X9_trace f_X10_trace f_X7_read f_X6_read f_J9_min
    simp only [bd]
    rw [hk2, e300]
    by_cases h1 : nI 5000 < nI k
    · rw [if_pos h1, isin_n (by decide)]
      by_cases h2 : x1 < 0
      · rw [if_pos h2, if_pos h2]; rfl
      · rw [if_neg h2, if_neg h2]
        by_cases h3 : nI 5000 ≤ x1
        · rw [if_pos h3, if_pos h3]
          split <;> rfl
        · rw [if_neg h3, if_neg h3, if_neg]
          · rfl
          · intro z; exact h3 (Int32.le_trans (Int32.le_of_lt h1) z)
    · rw [if_neg h1, isin_n (by omega)]
      by_cases h2 : x1 < 0
      · rw [if_pos h2, if_pos h2]; rfl
      · rw [if_neg h2, if_neg h2]
        by_cases h3 : nI k ≤ x1
        · rw [if_pos h3, if_pos h3]; rfl
        · rw [if_neg h3, if_neg h3, if_neg]
          · rfl
          · intro z; exact h3 (Int32.le_trans (Int32.not_lt.mp h1) z)
