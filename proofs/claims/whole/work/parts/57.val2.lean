theorem vaE_stop (d : Nat) (tok beh : Nat → Int32) (siz : Int32) (num cel szs : Nat → Int32) {outc : Int32} (x1 x2 : Int32) (h : ¬ outc = 0) : vaE d tok beh siz num cel szs outc x1 x2 = (0, outc) := by
  cases d with
  | zero =>
    unfold vaE f_X8_valueOf
    by_cases h1 : (12 : Int32) ≤ x2
    · rw [if_pos h1]
    · rw [if_neg h1, if_neg h]
  | succ d =>
    unfold vaE f_X8_valueOf
    by_cases h1 : (12 : Int32) ≤ x2
    · rw [if_pos h1]
    · rw [if_neg h1, if_neg h]
theorem dep_lt {d : Nat} (h : d + 1 ≤ 12) : ¬ (12 : Int32) ≤ nI (12 - (d + 1)) := nI_ge (b := 12) (by omega) (by decide)
theorem dep_1 {d : Nat} (h : d + 1 ≤ 12) : nI (12 - (d + 1)) + (1 : Int32) = nI (12 - d) := dep_s h rfl
theorem ins_1 {tok : Nat → Int32} {n a : Nat} (h : a < n) (hn : n ≤ 400) (n1 : ¬ tok a = 1) (n2 : ¬ tok a = 2) (n6 : ¬ tok a = 6) (n20 : ¬ tok a = 20) (n21 : ¬ tok a = 21) (n35 : ¬ tok a = 35) : f_X2_inside tok (nI n) (nI a) = nI (a + 1) := by
  unfold f_X2_inside
  rw [tokAt_lt h hn]
  simp only [bd]
  rw [if_neg n1, if_neg n2, if_neg n6, if_neg n20, if_neg n21, if_neg n35]
  exact nI_1 a
theorem ins_2 {tok : Nat → Int32} {n a : Nat} (h : a < n) (hn : n ≤ 400) (ht : tok a = 1 ∨ tok a = 2 ∨ tok a = 6 ∨ tok a = 20 ∨ tok a = 21 ∨ tok a = 35) : f_X2_inside tok (nI n) (nI a) = nI (a + 2) := by
  unfold f_X2_inside
  rw [tokAt_lt h hn]
  simp only [bd]
  rcases ht with e | e | e | e | e | e <;> rw [e] <;> exact nI_add a 2
theorem bin_ns {t : Int32} (h : isBin t) : ¬ t = 1 ∧ ¬ t = 2 ∧ ¬ t = 6 := by
  obtain ⟨-, h | h | h | h | h | h | h | h | h | h | h | h⟩ := h <;> subst h <;> decide
abbrev TVc : Type := (Nat → Int32) → (Nat → Int32) → Int32 → (Nat → Int32) → (Nat → Int32) → (Nat → Int32) → Int32 → Int32 → Int32 → Int32 × Int32
/-- what the two sides say of an expression -/
def VR (c m : Int32 × Int32) : Prop := c.2 = m.2 ∧ (m.2 = 0 → c.1 = m.1) ∧ (m.2 = 0 ∨ m.2 = -5)
set_option maxHeartbeats 4000000 in
theorem val_eq {w be tok : Nat → Int32} {n : Nat} (hn : n ≤ 400) (hw : ∀ i, i < n → tok i = w i) {szs : Nat → Int32} (hz : SZ szs) (num cel : Nat → Int32) : ∀ (d a b : Nat), d ≤ 12 → nE w be d a b → b ≤ n → ∀ k, d ≤ k → vlEk k num cel szs w 0 (nI a) ∧ VR (vaE d tok be (nI n) num cel szs 0 (nI a) (nI (12 - d))) (vlE k num cel szs w 0 (nI a)) := by
  intro d
  induction d with
  | zero => intro a b _ h; exact h.elim
  | succ d ih =>
    intro a b hd h hb k hk
    cases k with
    | zero => omega
    | succ k =>
      have hlt := nE_lt h
      have hA : vp_in (nI a) 400 := vp_in_nI (by omega) (by decide)
      have hA1 : vp_in (nI (a + 1)) 400 := vp_in_nI (by omega) (by decide)
      have t0 : f_X2_tokenAt tok (nI n) (nI a) = w a := by rw [tokAt_lt (by omega) hn, hw a (by omega)]
      have t1 : f_X2_tokenAt tok (nI n) (nI (a + 1)) = w (a + 1) := by rw [tokAt_lt (by omega) hn, hw (a + 1) (by omega)]
      have hta : tok a = w a := hw a (by omega)
      rw [show vlEk (k + 1) = ok_X10_valueOf (vlE k) (vlEk k) from rfl, show vlE (k + 1) = f_X10_valueOf (vlE k) from rfl, show vaE (d + 1) = f_X8_valueOf (vaE d) from rfl]
      unfold f_X8_valueOf f_X10_valueOf ok_X10_valueOf
      rw [if_neg (dep_lt hd), if_pos rfl]
      simp only [bd, bdP, show nI a + (1 : Int32) = nI (a + 1) from nI_1 a, show nI a + (2 : Int32) = nI (a + 2) from nI_add a 2, cl_nI (show a < 2 ^ 31 by omega), cl_nI (show a + 1 < 2 ^ 31 by omega), t0, t1, dep_1 hd]
      obtain ⟨hbe, h | h | h | h | h | h⟩ := h
      · simp only [if_pos h.1]
        exact ⟨⟨hA, hA1, trivial⟩, rfl, fun _ => rfl, Or.inl rfl⟩
      · have n1 : ¬ w a = 20 := by rw [h.1]; decide
        simp only [if_neg n1, if_pos h.1]
        refine ⟨⟨hA, hA1, h.2.1, trivial⟩, rfl, fun _ => ?_, Or.inl rfl⟩
        show f_X5_numberOf num (w (a + 1)) = _
        unfold f_X5_numberOf
        simp only [bd]
        rw [if_neg (hasV_in h.2.1)]
      · have n1 : ¬ w a = 20 := by rw [h.1]; decide
        have n2 : ¬ w a = 21 := by rw [h.1]; decide
        simp only [if_neg n1, if_neg n2, if_pos h.1, ins_2 (tok := tok) (n := n) (a := a) (by omega) hn (by rw [hta, h.1]; simp)]
        obtain ⟨i1, i2, i3, i4⟩ := ih (a + 2) b (by omega) h.2.2 hb k (by omega)
        obtain ⟨p1, j, kk, q1, q2, q3, q4⟩ := place_eq hz h.2.1 (vlE k num cel szs w 0 (nI (a + 2))).1
        obtain ⟨r1, r2⟩ := cell_ok hz h.2.1 q1 q2 q3
        refine ⟨⟨hA, hA1, i1, hz, h.2.1, ?_, trivial⟩, i2, fun z => ?_, i4⟩
        · rw [q4]; exact r2
        · show f_X5_cell cel szs _ _ = _
          rw [i3 z, p1, q4]
          unfold f_X5_cell
          simp only [bd]
          rw [if_neg r1]
      · have n1 : ¬ w a = 20 := by rw [h.1]; decide
        have n2 : ¬ w a = 21 := by rw [h.1]; decide
        have n3 : ¬ w a = 35 := by rw [h.1]; decide
        simp only [if_neg n1, if_neg n2, if_neg n3, if_pos h.1, ins_1 (tok := tok) (n := n) (a := a) (by omega) hn (by rw [hta, h.1]; decide) (by rw [hta, h.1]; decide) (by rw [hta, h.1]; decide) (by rw [hta]; exact n1) (by rw [hta]; exact n2) (by rw [hta]; exact n3)]
        obtain ⟨i1, i2, i3, i4⟩ := ih (a + 1) b (by omega) h.2 hb k (by omega)
        by_cases hs : (vlE k num cel szs w 0 (nI (a + 1))).2 = 0
        · simp only [if_pos hs, if_true]
          refine ⟨⟨hA, i1, trivial⟩, ?_, fun z => ?_, ?_⟩
          · rw [i2, hs]
            show (0 : Int32) = (if _ = 0 then ((1 : Int32), (0 : Int32)) else (0, 0)).2
            split <;> rfl
          · rw [i3 hs, h.1, hs]
            show (if _ = 0 then (1 : Int32) else 0) = (if _ = 0 then ((1 : Int32), (0 : Int32)) else (0, 0)).1
            split <;> rfl
          · rw [hs]
            left
            show (if _ = 0 then ((1 : Int32), (0 : Int32)) else (0, 0)).2 = 0
            split <;> rfl
        · simp only [if_neg hs]
          have e5 : (vlE k num cel szs w 0 (nI (a + 1))).2 = -5 := i4.resolve_left hs
          have em : ∀ x : Int32, (f_X10_make (-5) 32 x 0).2 = -5 := by
            intro x
            show (if x = 0 then ((1 : Int32), (-5 : Int32)) else (0, -5)).2 = -5
            split <;> rfl
          refine ⟨⟨hA, i1, trivial⟩, ?_, fun z => ?_, ?_⟩
          · rw [i2, e5, em]
          · rw [e5, em] at z
            exact absurd z (by decide)
          · rw [e5, em]
            exact Or.inr rfl
      · have n1 : ¬ w a = 20 := by rw [h.1]; decide
        have n2 : ¬ w a = 21 := by rw [h.1]; decide
        have n3 : ¬ w a = 35 := by rw [h.1]; decide
        have n4 : ¬ w a = 32 := by rw [h.1]; decide
        obtain ⟨h36, c, e, k1, k2, k3⟩ := h
        have lt1 := nE_lt k1
        have lt2 := nE_lt k2
        have lt3 := nE_lt k3
        have b1 : f_X2_behind be (nI n) (nI (a + 1)) = nI c := by rw [beh_lt (by omega) hn]; cases d with | zero => exact k1.elim | succ d => exact k1.1
        have b2 : f_X2_behind be (nI n) (nI c) = nI e := by rw [beh_lt (by omega) hn]; cases d with | zero => exact k2.elim | succ d => exact k2.1
        obtain ⟨m1, o1⟩ := behind_eq k1 (by omega)
        obtain ⟨m2, o2⟩ := behind_eq k2 (by omega)
        simp only [if_neg n1, if_neg n2, if_neg n3, if_neg n4, if_pos h36, b1, b2, m1, m2, ins_1 (tok := tok) (n := n) (a := a) (by omega) hn (by rw [hta, h36]; decide) (by rw [hta, h36]; decide) (by rw [hta, h36]; decide) (by rw [hta]; exact n1) (by rw [hta]; exact n2) (by rw [hta]; exact n3)]
        obtain ⟨i1, i2, i3, i4⟩ := ih (a + 1) c (by omega) k1 (by omega) k (by omega)
        by_cases hs : (vlE k num cel szs w 0 (nI (a + 1))).2 = 0
        · simp only [if_pos hs, hs, i2, i3 hs]
          obtain ⟨j1, j2, j3, j4⟩ := ih c e (by omega) k2 (by omega) k (by omega)
          by_cases hs2 : (vlE k num cel szs w 0 (nI c)).2 = 0
          · simp only [if_pos hs2, hs2, j2, j3 hs2]
            obtain ⟨l1, l2, l3, l4⟩ := ih e b (by omega) k3 (by omega) k (by omega)
            refine ⟨⟨hA, i1, o1, j1, o2, l1, by split <;> trivial⟩, ?_⟩
            by_cases hv : (vlE k num cel szs w 0 (nI (a + 1))).1 = 0
            · simp only [if_pos hv]
              exact ⟨l2, l3, l4⟩
            · simp only [if_neg hv]
              exact ⟨l2, fun _ => rfl, l4⟩
          · have e5 : (vlE k num cel szs w 0 (nI c)).2 = -5 := j4.resolve_left hs2
            simp only [if_neg hs2, j2, e5, vaE_stop d tok be (nI n) num cel szs (nI e) (nI (12 - d)) (show ¬ (-5 : Int32) = 0 by decide)]
            refine ⟨⟨hA, i1, o1, j1, trivial⟩, ?_, fun z => absurd (show (-5 : Int32) = 0 from z) (by decide), Or.inr rfl⟩
            split <;> rfl
        · have e5 : (vlE k num cel szs w 0 (nI (a + 1))).2 = -5 := i4.resolve_left hs
          have em : ∀ x : Int32, (f_X10_make (-5) 32 x 0).2 = -5 := by
            intro x
            show (if x = 0 then ((1 : Int32), (-5 : Int32)) else (0, -5)).2 = -5
            split <;> rfl
          simp only [if_neg hs, i2, e5, vaE_stop d tok be (nI n) num cel szs (nI c) (nI (12 - d)) (show ¬ (-5 : Int32) = 0 by decide), vaE_stop d tok be (nI n) num cel szs (nI e) (nI (12 - d)) (show ¬ (-5 : Int32) = 0 by decide)]
          refine ⟨⟨hA, i1, trivial⟩, ?_, fun z => ?_, ?_⟩
          · rw [em]; split <;> rfl
          · rw [em] at z; exact absurd (show (-5 : Int32) = 0 from z) (by decide)
          · rw [em]; exact Or.inr rfl
      · obtain ⟨hbin, c, k1, k2⟩ := h
        obtain ⟨⟨n1, n2, n3, n4, n5⟩, -⟩ := id hbin
        obtain ⟨s1, s2, s6⟩ := bin_ns hbin
        have lt1 := nE_lt k1
        have lt2 := nE_lt k2
        have b1 : f_X2_behind be (nI n) (nI (a + 1)) = nI c := by rw [beh_lt (by omega) hn]; cases d with | zero => exact k1.elim | succ d => exact k1.1
        obtain ⟨m1, o1⟩ := behind_eq k1 (by omega)
        simp only [if_neg n1, if_neg n2, if_neg n3, if_neg n4, if_neg n5, b1, m1, ins_1 (tok := tok) (n := n) (a := a) (by omega) hn (by rw [hta]; exact s1) (by rw [hta]; exact s2) (by rw [hta]; exact s6) (by rw [hta]; exact n1) (by rw [hta]; exact n2) (by rw [hta]; exact n3)]
        obtain ⟨i1, i2, i3, i4⟩ := ih (a + 1) c (by omega) k1 (by omega) k (by omega)
        by_cases hs : (vlE k num cel szs w 0 (nI (a + 1))).2 = 0
        · simp only [if_pos hs, hs, i2, i3 hs]
          obtain ⟨j1, j2, j3, j4⟩ := ih c b (by omega) k2 (by omega) k (by omega)
          by_cases hs2 : (vlE k num cel szs w 0 (nI c)).2 = 0
          · simp only [if_pos hs2, hs2, j2, j3 hs2]
            refine ⟨⟨hA, i1, o1, j1, trivial⟩, ?_⟩
            obtain ⟨q1, q2⟩ := make_eq hbin (vlE k num cel szs w 0 (nI (a + 1))).1 (vlE k num cel szs w 0 (nI c)).1
            by_cases ht : f_X4_traps (w a) (vlE k num cel szs w 0 (nI c)).1 = 0
            · rw [if_pos ht] at q1
              simp only [if_pos ht]
              exact ⟨q1.symm, q2, Or.inl q1⟩
            · rw [if_neg ht] at q1
              simp only [if_neg ht]
              exact ⟨q1.symm, q2, Or.inr q1⟩
          · have e5 : (vlE k num cel szs w 0 (nI c)).2 = -5 := j4.resolve_left hs2
            simp only [if_neg hs2, j2, e5]
            refine ⟨⟨hA, i1, o1, j1, trivial⟩, ?_, fun z => absurd (show (-5 : Int32) = 0 from z) (by decide), Or.inr rfl⟩
            split <;> rfl
        · have e5 : (vlE k num cel szs w 0 (nI (a + 1))).2 = -5 := i4.resolve_left hs
          have em : ∀ x : Int32, (f_X10_make (-5) 32 x 0).2 = -5 := by
            intro x
            show (if x = 0 then ((1 : Int32), (-5 : Int32)) else (0, -5)).2 = -5
            split <;> rfl
          simp only [if_neg hs, i2, e5, vaE_stop d tok be (nI n) num cel szs (nI c) (nI (12 - d)) (show ¬ (-5 : Int32) = 0 by decide)]
          refine ⟨⟨hA, i1, trivial⟩, ?_, fun z => ?_, ?_⟩
          · rw [em]; split <;> rfl
          · rw [em] at z; exact absurd (show (-5 : Int32) = 0 from z) (by decide)
          · rw [em]; exact Or.inr rfl
