/-! well-formed statements -/
def nL (P : Nat → Nat → Prop) : Nat → Nat → Nat → Prop
  | 0, a, b => a = b
  | j + 1, a, b => ∃ c, P a c ∧ nL P j c b
def nS (w be : Nat → Int32) : Nat → Nat → Nat → Prop
  | 0, _, _ => False
  | d + 1, a, b => be a = nI b ∧ ((w a = 1 ∧ vp_in (w (a + 1)) 10 ∧ nE w be d (a + 2) b) ∨ (w a = 2 ∧ vp_in (w (a + 1)) 4 ∧ ∃ c, nE w be d (a + 2) c ∧ nE w be d c b)
      ∨ (w a = 3 ∧ ∃ c e, nE w be d (a + 1) c ∧ (∃ j, nL (nS w be d) j c e) ∧ be e = 0 ∧ ((w e = 0 ∧ b = e + 1) ∨ (w e = 4 ∧ ∃ f, (∃ j, nL (nS w be d) j (e + 1) f) ∧ be f = 0 ∧ w f = 0 ∧ b = f + 1)))
      ∨ (w a = 5 ∧ ∃ c e, nE w be d (a + 1) c ∧ (∃ j, nL (nS w be d) j c e) ∧ be e = 0 ∧ w e = 0 ∧ b = e + 1)
      ∨ (w a = 6 ∧ vp_in (w (a + 1)) 21 ∧ ∃ e, (∃ j, nL (nS w be d) j (a + 2) e) ∧ be e = 0 ∧ w e = 0 ∧ b = e + 1)
      ∨ (w a = 7 ∧ nE w be d (a + 1) b))
theorem nL_le {P : Nat → Nat → Prop} (hP : ∀ a b, P a b → a + 2 ≤ b) : ∀ {j a b : Nat}, nL P j a b → a + 2 * j ≤ b := by
  intro j
  induction j with
  | zero => intro a b h; exact Nat.le_of_eq h
  | succ j ih =>
    intro a b h
    obtain ⟨c, h1, h2⟩ := h
    have := hP _ _ h1; have := ih h2; omega
theorem nS_lt {w be : Nat → Int32} : ∀ {d a b : Nat}, nS w be d a b → a + 2 ≤ b := by
  intro d
  induction d with
  | zero => intro a b h; exact h.elim
  | succ d ih =>
    intro a b h
    have hL : ∀ {j a b : Nat}, nL (nS w be d) j a b → a + 2 * j ≤ b := nL_le (fun _ _ h => ih h)
    obtain ⟨-, h | h | h | h | h | h⟩ := h
    · have := nE_lt h.2.2; omega
    · obtain ⟨-, -, c, h1, h2⟩ := h
      have := nE_lt h1; have := nE_lt h2; omega
    · obtain ⟨-, c, e, h1, ⟨j, h2⟩, -, h3⟩ := h
      have := nE_lt h1; have := hL h2
      rcases h3 with h3 | ⟨-, f, ⟨j', h4⟩, -, -, h5⟩
      · omega
      · have := hL h4; omega
    · obtain ⟨-, c, e, h1, ⟨j, h2⟩, -, -, h3⟩ := h
      have := nE_lt h1; have := hL h2; omega
    · obtain ⟨-, -, e, ⟨j, h2⟩, -, -, h3⟩ := h
      have := hL h2; omega
    · have := nE_lt h.2; omega
theorem nSL_le {w be : Nat → Int32} {d j a b : Nat} (h : nL (nS w be d) j a b) : a + 2 * j ≤ b := nL_le (fun _ _ h => nS_lt h) h
theorem nS_tok {w be : Nat → Int32} {d a b : Nat} (h : nS w be d a b) : ¬ w a = 0 ∧ ¬ w a = 4 ∧ be a = nI b := by
  cases d with
  | zero => exact h.elim
  | succ d =>
    obtain ⟨hb, h | h | h | h | h | h⟩ := h
    all_goals exact ⟨by rw [h.1]; decide, by rw [h.1]; decide, hb⟩
theorem skA_loop {w be : Nat → Int32} {d k : Nat} (ih : ∀ a b, nS w be d a b → b ≤ 400 → skS k w (nI a) = nI b ∧ skSk k w (nI a)) : ∀ (f j a e : Nat), nL (nS w be d) j a e → (w e = 0 ∨ w e = 4) → e < 400 → e - a + 1 ≤ f → f_X10_skipAll_2 (skS k) w f (nI a) = nI e ∧ ok_X10_skipAll_2 (skS k) (skSk k) w f (nI a) := by
  intro f
  induction f with
  | zero => intro j a e h he h4 hf; omega
  | succ f ihf =>
    intro j a e h he h4 hf
    have hle := nSL_le h
    have hin : vp_in (nI a) 400 := vp_in_nI (by omega) (by decide)
    unfold f_X10_skipAll_2 ok_X10_skipAll_2
    simp only [bd, bdP, cl_nI (show a < 2 ^ 31 by omega)]
    cases j with
    | zero =>
      have e1 : a = e := h
      subst e1
      rcases he with he | he
      · simp only [if_pos he]
        exact ⟨trivial, hin, trivial⟩
      · have n0 : ¬ w a = 0 := by rw [he]; decide
        simp only [if_neg n0, if_pos he]
        exact ⟨trivial, hin, hin, trivial⟩
    | succ j =>
      obtain ⟨c, h1, h2⟩ := h
      have lt1 := nS_lt h1
      have lt2 := nSL_le h2
      obtain ⟨n0, n4, -⟩ := nS_tok h1
      obtain ⟨s1, s2⟩ := ih a c h1 (by omega)
      simp only [if_neg n0, if_neg n4, s1]
      obtain ⟨r1, r2⟩ := ihf j c e h2 he h4 (by omega)
      exact ⟨r1, hin, hin, s2, r2⟩
theorem skip_eq {w be : Nat → Int32} : ∀ (d a b : Nat), nS w be d a b → b ≤ 400 → ∀ k, d ≤ k → skS k w (nI a) = nI b ∧ skSk k w (nI a) := by
  intro d
  induction d with
  | zero => intro a b h; exact h.elim
  | succ d ih =>
    intro a b h hb k hk
    cases k with
    | zero => omega
    | succ k =>
      have hlt := nS_lt h
      have hA : vp_in (nI a) 400 := vp_in_nI (by omega) (by decide)
      have hk' : d ≤ k := by omega
      have hal : ∀ j c e, nL (nS w be d) j c e → (w e = 0 ∨ w e = 4) → e < 400 → skA k w (nI c) = nI e ∧ skAk k w (nI c) := fun j c e h1 h2 h3 => skA_loop (fun a b h hb => ih a b h hb k hk') 402 j c e h1 h2 h3 (by omega)
      rw [show skS (k + 1) = f_X10_skipS (skA k) from rfl, show skSk (k + 1) = ok_X10_skipS (skA k) (skAk k) from rfl]
      unfold f_X10_skipS ok_X10_skipS
      simp only [bd, bdP, show nI a + (1 : Int32) = nI (a + 1) from nI_1 a, show nI a + (2 : Int32) = nI (a + 2) from nI_add a 2, cl_nI (show a < 2 ^ 31 by omega)]
      obtain ⟨-, h | h | h | h | h | h⟩ := h
      · have g3 : ¬ (3 : Int32) ≤ w a := by rw [h.1]; decide
        have n6 : ¬ w a = 6 := by rw [h.1]; decide
        have n2 : ¬ w a = 2 := by rw [h.1]; decide
        have n3 : ¬ w a = 3 := by rw [h.1]; decide
        have n5 : ¬ w a = 5 := by rw [h.1]; decide
        obtain ⟨m1, o1⟩ := behind_eq h.2.2 hb
        simp only [if_neg n6, if_neg g3, if_neg n2, if_neg n3, if_neg n5, m1]
        exact ⟨trivial, hA, o1, trivial⟩
      · have g3 : ¬ (3 : Int32) ≤ w a := by rw [h.1]; decide
        have n6 : ¬ w a = 6 := by rw [h.1]; decide
        obtain ⟨h1, -, c, k1, k2⟩ := h
        have l2 := nE_lt k2
        obtain ⟨m1, o1⟩ := behind_eq k1 (by omega)
        obtain ⟨m2, o2⟩ := behind_eq k2 hb
        simp only [if_neg n6, if_neg g3, if_pos h1, m1, m2]
        exact ⟨trivial, hA, o1, o2, trivial⟩
      · have g3 : (3 : Int32) ≤ w a := by rw [h.1]; decide
        have n6 : ¬ w a = 6 := by rw [h.1]; decide
        have n2 : ¬ w a = 2 := by rw [h.1]; decide
        obtain ⟨h1, c, e, k1, ⟨j, k2⟩, -, k3⟩ := h
        have l1 := nE_lt k1
        have l2 := nSL_le k2
        rcases k3 with ⟨w0, rfl⟩ | ⟨w4, f, ⟨j', k4⟩, -, w0, rfl⟩
        · obtain ⟨m1, o1⟩ := behind_eq k1 (by omega)
          obtain ⟨s1, s2⟩ := hal j c e k2 (Or.inl w0) (by omega)
          have n4 : ¬ w e = 4 := by rw [w0]; decide
          simp only [if_neg n6, if_pos g3, if_neg n2, if_pos h1, m1, s1, cl_nI (show e < 2 ^ 31 by omega), if_neg n4]
          exact ⟨nI_1 e, hA, o1, s2, vp_in_nI (by omega) (by decide), trivial⟩
        · have l4 := nSL_le k4
          obtain ⟨m1, o1⟩ := behind_eq k1 (by omega)
          obtain ⟨s1, s2⟩ := hal j c e k2 (Or.inr w4) (by omega)
          obtain ⟨s3, s4⟩ := hal j' (e + 1) f k4 (Or.inl w0) (by omega)
          simp only [if_neg n6, if_pos g3, if_neg n2, if_pos h1, m1, s1, cl_nI (show e < 2 ^ 31 by omega), if_pos w4, show nI e + (1 : Int32) = nI (e + 1) from nI_1 e, s3]
          exact ⟨nI_1 f, hA, o1, s2, vp_in_nI (by omega) (by decide), s4, trivial⟩
      · have g3 : (3 : Int32) ≤ w a := by rw [h.1]; decide
        have n6 : ¬ w a = 6 := by rw [h.1]; decide
        have n2 : ¬ w a = 2 := by rw [h.1]; decide
        have n3 : ¬ w a = 3 := by rw [h.1]; decide
        obtain ⟨h1, c, e, k1, ⟨j, k2⟩, -, w0, rfl⟩ := h
        have l1 := nE_lt k1
        have l2 := nSL_le k2
        obtain ⟨m1, o1⟩ := behind_eq k1 (by omega)
        obtain ⟨s1, s2⟩ := hal j c e k2 (Or.inl w0) (by omega)
        simp only [if_neg n6, if_pos g3, if_neg n2, if_neg n3, if_pos h1, m1, s1]
        exact ⟨nI_1 e, hA, o1, s2, trivial⟩
      · obtain ⟨h1, -, e, ⟨j, k2⟩, -, w0, rfl⟩ := h
        have l2 := nSL_le k2
        obtain ⟨s1, s2⟩ := hal j (a + 2) e k2 (Or.inl w0) (by omega)
        simp only [if_pos h1, s1]
        exact ⟨nI_1 e, hA, s2, trivial⟩
      · have g3 : (3 : Int32) ≤ w a := by rw [h.1]; decide
        have n6 : ¬ w a = 6 := by rw [h.1]; decide
        have n2 : ¬ w a = 2 := by rw [h.1]; decide
        have n3 : ¬ w a = 3 := by rw [h.1]; decide
        have n5 : ¬ w a = 5 := by rw [h.1]; decide
        obtain ⟨m1, o1⟩ := behind_eq h.2 hb
        simp only [if_neg n6, if_pos g3, if_neg n2, if_neg n3, if_neg n5, m1]
        exact ⟨trivial, hA, o1, trivial⟩
theorem skipA_eq {w be : Nat → Int32} {d k j a e : Nat} (hk : d ≤ k) (h : nL (nS w be d) j a e) (he : w e = 0 ∨ w e = 4) (h4 : e < 400) : skA k w (nI a) = nI e ∧ skAk k w (nI a) := skA_loop (fun a b h hb => skip_eq d a b h hb k hk) 402 j a e h he h4 (by omega)
