theorem pf_andw (x : Int64) : ∃ m, m < 2 ^ 32 ∧ x &&& 4294967295 = lN m := ⟨x.toBitVec.toNat % 2 ^ 32, Nat.mod_lt _ (by decide), Int64.toBitVec_inj.mp (BitVec.eq_of_toNat_eq (by
  show (x.toBitVec &&& 4294967295#64).toNat = (BitVec.ofNat 64 (x.toBitVec.toNat % 2 ^ 32)).toNat
  rw [BitVec.toNat_and, show (4294967295#64).toNat = 2 ^ 32 - 1 from by decide, Nat.and_two_pow_sub_one_eq_mod, BitVec.toNat_ofNat]
  omega))⟩
theorem div_m1 (a : Int32) : a / (-1) = -a := by
  apply Int32.toInt_inj.mp
  have e : (-1 : Int32).toInt = -1 := by decide
  have h1 : (a / (-1)).toInt = (a.toInt.tdiv (-1)).bmod (2 ^ 32) := by rw [Int32.toInt_div, e]
  rw [h1, Int32.toInt_neg, Int.tdiv_neg, Int.tdiv_one]
theorem rem_m1 (a : Int32) : a - a / (-1) * (-1) = 0 := by
  rw [div_m1, Int32.neg_mul, Int32.mul_neg, Int32.neg_neg, Int32.mul_one, Int32.sub_self]
theorem make_eq {t : Int32} (h : isBin t) (a b : Int32) : (f_X10_make 0 t a b).2 = (if f_X4_traps t b = 0 then 0 else -5) ∧ ((f_X10_make 0 t a b).2 = 0 → f_X4_reckon t a b = (f_X10_make 0 t a b).1) := by
  obtain ⟨-, h | h | h | h | h | h | h | h | h | h | h | h⟩ := h
  · subst h; exact ⟨rfl, fun _ => rfl⟩
  · subst h; exact ⟨rfl, fun _ => rfl⟩
  · subst h; exact ⟨rfl, fun _ => rfl⟩
  · subst h; exact ⟨rfl, fun _ => rfl⟩
  · subst h; exact ⟨rfl, fun _ => rfl⟩
  · subst h; exact ⟨rfl, fun _ => rfl⟩
  · subst h; exact ⟨rfl, fun _ => rfl⟩
  · subst h; exact ⟨rfl, fun _ => rfl⟩
  · subst h
    have e1 : f_X10_make 0 30 a b = (if b ≤ a then (0, 0) else (1, 0)) := rfl
    have e2 : f_X4_reckon 30 a b = (if b ≤ a then 0 else 1) := rfl
    have e3 : f_X4_traps 30 b = 0 := rfl
    rw [e1, e2, e3]
    split <;> exact ⟨rfl, fun _ => rfl⟩
  · subst h
    have e1 : f_X10_make 0 31 a b = (if a = b then (1, 0) else (0, 0)) := rfl
    have e2 : f_X4_reckon 31 a b = (if a = b then 1 else 0) := rfl
    have e3 : f_X4_traps 31 b = 0 := rfl
    rw [e1, e2, e3]
    split <;> exact ⟨rfl, fun _ => rfl⟩
  · subst h
    have e1 : f_X10_make 0 33 a b = (if b = 0 then (0, -5) else if b = -1 then (-a, 0) else (a / b, 0)) := rfl
    have e2 : f_X4_reckon 33 a b = (if b = 0 then 0 else a / b) := rfl
    have e3 : f_X4_traps 33 b = (if b = 0 then 1 else 0) := rfl
    rw [e1, e2, e3]
    by_cases h0 : b = 0
    · simp only [if_pos h0]
      exact ⟨rfl, fun z => absurd z (by decide)⟩
    · simp only [if_neg h0]
      by_cases h1 : b = -1
      · subst h1
        exact ⟨rfl, fun _ => div_m1 a⟩
      · simp only [if_neg h1]
        exact ⟨rfl, fun _ => trivial⟩
  · subst h
    have e1 : f_X10_make 0 34 a b = (if b = 0 then (0, -5) else if b = -1 then (0, 0) else (a - a / b * b, 0)) := rfl
    have e2 : f_X4_reckon 34 a b = (if b = 0 then 0 else a - a / b * b) := rfl
    have e3 : f_X4_traps 34 b = (if b = 0 then 1 else 0) := rfl
    rw [e1, e2, e3]
    by_cases h0 : b = 0
    · simp only [if_pos h0]
      exact ⟨rfl, fun z => absurd z (by decide)⟩
    · simp only [if_neg h0]
      by_cases h1 : b = -1
      · subst h1
        exact ⟨rfl, fun _ => rem_m1 a⟩
      · simp only [if_neg h1]
        exact ⟨rfl, fun _ => trivial⟩
/-- a place in a table, the same on both sides, and in it -/
theorem place_eq {szs : Nat → Int32} (hz : SZ szs) {t : Int32} (ht : vp_in t 4) (v : Int32) : f_X5_placeIn szs t v = f_X10_placeOf szs t v ∧ ∃ j k : Nat, j < k ∧ k ≤ 16 ∧ szs t.toNatClampNeg = nI k ∧ f_X10_placeOf szs t v = nI j := by
  obtain ⟨k, h1, h2, h3⟩ := hz.at ht
  have hh : ¬ f_X5_hasTable t = 0 := by
    obtain ⟨j, hj, rfl⟩ := vp_in_of ht (by decide)
    unfold f_X5_hasTable
    rw [if_neg (nI_pos (by omega)), if_neg (show ¬ (4 : Int32) ≤ nI j from nI_ge (b := 4) hj (by decide))]
    decide
  refine ⟨?_, ?_⟩
  · unfold f_X5_placeIn f_X10_placeOf
    simp only [bd]
    rw [if_neg hh, h3, if_pos (show (1 : Int32) ≤ nI k from nI_le (a := 1) h1 (by omega))]
  · unfold f_X10_placeOf
    rw [h3]
    obtain ⟨m, hm, em⟩ := pf_andw v.toInt64
    rw [em, nI_l (by omega), pk_lRem (by omega) (by omega) (by omega), lN_i]
    exact ⟨m % k, k, Nat.mod_lt _ (by omega), h2, rfl, rfl⟩
theorem hasT_in {t : Int32} (ht : vp_in t 4) : ¬ f_X5_hasTable t = 0 := by
  obtain ⟨j, hj, rfl⟩ := vp_in_of ht (by decide)
  unfold f_X5_hasTable
  rw [if_neg (nI_pos (by omega)), if_neg (show ¬ (4 : Int32) ≤ nI j from nI_ge (b := 4) hj (by decide))]
  decide
theorem hasV_in {t : Int32} (ht : vp_in t 10) : ¬ f_X5_hasVariable t = 0 := by
  obtain ⟨j, hj, rfl⟩ := vp_in_of ht (by decide)
  unfold f_X5_hasVariable
  rw [if_neg (nI_pos (by omega)), if_neg (show ¬ (10 : Int32) ≤ nI j from nI_ge (b := 10) hj (by decide))]
  decide
/-- a cell at such a place -/
theorem cell_ok {szs : Nat → Int32} (hz : SZ szs) {t : Int32} (ht : vp_in t 4) {j k : Nat} (hj : j < k) (hk : k ≤ 16) (hs : szs t.toNatClampNeg = nI k) : ¬ f_X5_hasCell szs t (nI j) = 0 ∧ vp_in (16 * t + nI j) 64 := by
  have h : ¬ f_X5_hasCell szs t (nI j) = 0 := by
    rw [hascell_eq hz, if_neg (hasT_in ht), hs, isin_n (by omega), if_neg (nI_pos (by omega)), if_neg (nI_ge hj (by omega))]
    decide
  exact ⟨h, in_X5_hasCell h⟩
