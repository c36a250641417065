/-! well-formed expressions, with the class's notes of where they end -/
theorem n400 {a : Nat} (h : a < 400) : ¬ (400 : Int32) ≤ nI a := nI_ge (b := 400) h (by decide)
theorem tokAt_lt {tok : Nat → Int32} {n a : Nat} (h : a < n) (hn : n ≤ 400) : f_X2_tokenAt tok (nI n) (nI a) = tok a := by
  unfold f_X2_tokenAt
  rw [if_neg (nI_pos (by omega)), if_neg (nI_ge h (by omega)), if_neg (n400 (by omega)), nI_clamp (by omega)]
theorem tokAt_ge {tok : Nat → Int32} {n a : Nat} (h : n ≤ a) (ha : a < 2 ^ 31) : f_X2_tokenAt tok (nI n) (nI a) = 0 := by
  unfold f_X2_tokenAt
  rw [if_neg (nI_pos ha), if_pos (nI_le h ha)]
theorem has_lt {n a : Nat} (h : a < n) (hn : n ≤ 400) : f_X2_has (nI n) (nI a) = 1 := by
  unfold f_X2_has
  rw [if_neg (nI_pos (by omega)), if_neg (nI_ge h (by omega)), if_neg (n400 (by omega))]
theorem has_ge {n a : Nat} (h : n ≤ a) (ha : a < 2 ^ 31) : f_X2_has (nI n) (nI a) = 0 := by
  unfold f_X2_has
  rw [if_neg (nI_pos ha), if_pos (nI_le h ha)]
theorem beh_lt {be : Nat → Int32} {n a : Nat} (h : a < n) (hn : n ≤ 400) : f_X2_behind be (nI n) (nI a) = be a := by
  unfold f_X2_behind
  rw [has_lt h hn]
  simp only [bd]
  rw [if_neg (by decide), nI_clamp (by omega)]
theorem beg_lt {be : Nat → Int32} {n a : Nat} (h : a < n) (hn : n ≤ 400) : f_X2_begins be (nI n) (nI a) = if be a ≤ 0 then 0 else 1 := by
  unfold f_X2_begins
  rw [has_lt h hn]
  simp only [bd]
  rw [if_neg (by decide), nI_clamp (by omega)]
def isBin (t : Int32) : Prop := (¬ t = 20 ∧ ¬ t = 21 ∧ ¬ t = 35 ∧ ¬ t = 32 ∧ ¬ t = 36) ∧ (t = 22 ∨ t = 23 ∨ t = 24 ∨ t = 25 ∨ t = 26 ∨ t = 27 ∨ t = 28 ∨ t = 29 ∨ t = 30 ∨ t = 31 ∨ t = 33 ∨ t = 34)
def nE (w be : Nat → Int32) : Nat → Nat → Nat → Prop
  | 0, _, _ => False
  | d + 1, a, b => be a = nI b ∧ ((w a = 20 ∧ b = a + 2) ∨ (w a = 21 ∧ vp_in (w (a + 1)) 10 ∧ b = a + 2) ∨ (w a = 35 ∧ vp_in (w (a + 1)) 4 ∧ nE w be d (a + 2) b) ∨ (w a = 32 ∧ nE w be d (a + 1) b) ∨ (w a = 36 ∧ ∃ c e, nE w be d (a + 1) c ∧ nE w be d c e ∧ nE w be d e b) ∨ (isBin (w a) ∧ ∃ c, nE w be d (a + 1) c ∧ nE w be d c b))
theorem nE_lt {w be : Nat → Int32} : ∀ {d a b : Nat}, nE w be d a b → a + 2 ≤ b := by
  intro d
  induction d with
  | zero => intro a b h; exact h.elim
  | succ d ih =>
    intro a b h
    obtain ⟨-, h | h | h | h | h | h⟩ := h
    · omega
    · omega
    · have := ih h.2.2; omega
    · have := ih h.2; omega
    · obtain ⟨-, c, e, h1, h2, h3⟩ := h
      have := ih h1; have := ih h2; have := ih h3; omega
    · obtain ⟨-, c, h1, h2⟩ := h
      have := ih h1; have := ih h2; omega
/-- j expressions in a row -/
def ch (w be : Nat → Int32) : Nat → Nat → Nat → Prop
  | 0, k, b => k = b
  | j + 1, k, b => ∃ d c, nE w be d k c ∧ ch w be j c b
theorem ch_le {w be : Nat → Int32} : ∀ {j k b : Nat}, ch w be j k b → k + 2 * j ≤ b := by
  intro j
  induction j with
  | zero => intro k b h; exact Nat.le_of_eq h
  | succ j ih =>
    intro k b h
    obtain ⟨d, c, h1, h2⟩ := h
    have := nE_lt h1; have := ih h2; omega
theorem cl_nI {n : Nat} (h : n < 2 ^ 31) : (nI n).toNatClampNeg = n := nI_clamp h
theorem opn_bin {t : Int32} (h : isBin t) : f_X10_operands t = 2 := by
  unfold f_X10_operands
  rw [if_neg h.1.2.2.2.1, if_neg h.1.2.2.2.2]
theorem behind_loop {w be : Nat → Int32} : ∀ (f j k b : Nat), ch w be j k b → b ≤ 400 → b - k + 1 ≤ f → f_X10_behind_5 w f (nI j) (nI k) = nI b ∧ ok_X10_behind_5 w f (nI j) (nI k) := by
  intro f
  induction f with
  | zero => intro j k b h hb hf; omega
  | succ f ih =>
    intro j k b h hb hf
    cases j with
    | zero =>
      have e : k = b := h
      subst e
      unfold f_X10_behind_5 ok_X10_behind_5
      rw [if_pos (by decide), if_pos (by decide)]
      exact ⟨rfl, trivial⟩
    | succ j =>
      have hle := ch_le h
      obtain ⟨d, c, h1, h2⟩ := h
      have hlt := nE_lt h1
      have hle2 := ch_le h2
      cases d with
      | zero => exact h1.elim
      | succ d =>
        have hm : nI (j + 1) + (-1) = nI j := pk_m1 j
        have hk2 : nI k + (2 : Int32) = nI (k + 2) := nI_add k 2
        have hk1 : nI k + (1 : Int32) = nI (k + 1) := nI_1 k
        have hin : vp_in (nI k) 400 := vp_in_nI (by omega) (by decide)
        unfold f_X10_behind_5 ok_X10_behind_5
        rw [if_neg (nI_nle (by omega) (by omega)), if_neg (nI_nle (by omega) (by omega))]
        simp only [bd, bdP, cl_nI (show k < 2 ^ 31 by omega), hm, hk1, hk2]
        obtain ⟨-, h | h | h | h | h | h⟩ := h1
        · rw [if_pos h.1, if_pos h.1]
          have e : c = k + 2 := h.2
          subst e
          have := ih j (k + 2) b h2 hb (by omega)
          exact ⟨this.1, hin, this.2⟩
        · have n1 : ¬ w k = 20 := by rw [h.1]; decide
          rw [if_neg n1, if_pos h.1, if_neg n1, if_pos h.1]
          have e : c = k + 2 := h.2.2
          subst e
          have := ih j (k + 2) b h2 hb (by omega)
          exact ⟨this.1, hin, this.2⟩
        · have n1 : ¬ w k = 20 := by rw [h.1]; decide
          have n2 : ¬ w k = 21 := by rw [h.1]; decide
          rw [if_neg n1, if_neg n2, if_pos h.1, if_neg n1, if_neg n2, if_pos h.1]
          have e1 : nI j + 1 = nI (j + 1) := nI_1 j
          rw [e1]
          have := ih (j + 1) (k + 2) b ⟨d, c, h.2.2, h2⟩ hb (by omega)
          exact ⟨this.1, hin, this.2⟩
        · have n1 : ¬ w k = 20 := by rw [h.1]; decide
          have n2 : ¬ w k = 21 := by rw [h.1]; decide
          have n3 : ¬ w k = 35 := by rw [h.1]; decide
          rw [if_neg n1, if_neg n2, if_neg n3, if_neg n1, if_neg n2, if_neg n3]
          have eo : f_X10_operands (w k) = nI 1 := by rw [h.1]; rfl
          rw [eo, nI_add]
          have := ih (j + 1) (k + 1) b ⟨d, c, h.2, h2⟩ hb (by omega)
          exact ⟨this.1, hin, this.2⟩
        · have n1 : ¬ w k = 20 := by rw [h.1]; decide
          have n2 : ¬ w k = 21 := by rw [h.1]; decide
          have n3 : ¬ w k = 35 := by rw [h.1]; decide
          rw [if_neg n1, if_neg n2, if_neg n3, if_neg n1, if_neg n2, if_neg n3]
          have eo : f_X10_operands (w k) = nI 3 := by rw [h.1]; rfl
          rw [eo, nI_add]
          obtain ⟨-, c1, c2, k1, k2, k3⟩ := h
          have := ih (j + 3) (k + 1) b ⟨d, c1, k1, d, c2, k2, d, c, k3, h2⟩ hb (by omega)
          exact ⟨this.1, hin, this.2⟩
        · rw [if_neg h.1.1.1, if_neg h.1.1.2.1, if_neg h.1.1.2.2.1, if_neg h.1.1.1, if_neg h.1.1.2.1, if_neg h.1.1.2.2.1]
          have eo : f_X10_operands (w k) = nI 2 := opn_bin h.1
          rw [eo, nI_add]
          obtain ⟨-, c1, k1, k2⟩ := h
          have := ih (j + 2) (k + 1) b ⟨d, c1, k1, d, c, k2, h2⟩ hb (by omega)
          exact ⟨this.1, hin, this.2⟩
theorem behind_eq {w be : Nat → Int32} {d a b : Nat} (h : nE w be d a b) (hb : b ≤ 400) : f_X10_behind w (nI a) = nI b ∧ ok_X10_behind w (nI a) :=
  behind_loop 402 1 a b ⟨d, b, h, rfl⟩ hb (by omega)
