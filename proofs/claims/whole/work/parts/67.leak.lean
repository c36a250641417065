/-! leaks: the first place that leaks -/
def Lab (L : Nat → Prop) (a b : Nat) (s s' : Int32 × Int32) : Prop := (¬ s.1 = 0 → s' = s) ∧ (s.1 = 0 → ((∀ i, a ≤ i → i < b → ¬ L i) ∧ s' = s) ∨ ∃ i, a ≤ i ∧ i < b ∧ L i ∧ (∀ j, a ≤ j → j < i → ¬ L j) ∧ s' = (-14, nI i))
theorem Lab.trans {L : Nat → Prop} {a b c : Nat} {s s1 s2 : Int32 × Int32} (h : Lab L a b s s1) (k : Lab L b c s1 s2) (hab : a ≤ b) (hbc : b ≤ c) : Lab L a c s s2 := by
  refine ⟨fun z => ?_, fun z => ?_⟩
  · have e := h.1 z
    rw [e] at k
    exact k.1 z
  · rcases h.2 z with ⟨h1, e⟩ | ⟨i, h1, h2, h3, h4, e⟩
    · rw [e] at k
      rcases k.2 z with ⟨k1, e'⟩ | ⟨i, k1, k2, k3, k4, e'⟩
      · left
        refine ⟨fun i i1 i2 => ?_, e'⟩
        by_cases hi : i < b
        · exact h1 i i1 hi
        · exact k1 i (by omega) i2
      · right
        refine ⟨i, by omega, k2, k3, fun j j1 j2 => ?_, e'⟩
        by_cases hj : j < b
        · exact h1 j j1 hj
        · exact k4 j (by omega) j2
    · right
      have hn : ¬ s1.1 = 0 := by rw [e]; show ¬ (-14 : Int32) = 0; decide
      exact ⟨i, h1, by omega, h3, h4, (k.1 hn).trans e⟩
theorem Lab.none {L : Nat → Prop} {a b : Nat} (s : Int32 × Int32) (h : ∀ i, a ≤ i → i < b → ¬ L i) : Lab L a b s s := ⟨fun _ => rfl, fun _ => Or.inl ⟨h, rfl⟩⟩
theorem Lab.fail {L : Nat → Prop} {a : Nat} (s : Int32 × Int32) (h : L a) : Lab L a (a + 1) s (f_X10_fail s.1 s.2 (-14) (nI a)).2 := by
  unfold f_X10_fail
  refine ⟨fun z => ?_, fun z => Or.inr ⟨a, Nat.le_refl _, by omega, h, fun j j1 j2 => by omega, ?_⟩⟩
  · rw [if_neg z]
  · rw [if_pos z]
def opn (w sv stb : Nat → Int32) (i : Nat) : Prop := (w i = 1 ∧ sv (w (i + 1)).toNatClampNeg = 0) ∨ (w i = 2 ∧ stb (w (i + 1)).toNatClampNeg = 0) ∨ w i = 5 ∨ w i = 7 ∨ w i = 33 ∨ w i = 34
def Lk (w sv stb : Nat → Int32) (N : NT) (i : Nat) : Prop := ¬ N.1.1 i ≤ 0 ∧ opn w sv stb i ∧ (¬ N.2 i = 0 ∨ ¬ N.1.2 i ≤ 0)
section LEAK
variable {w sv stb : Nat → Int32} {N : NT}
theorem Lk_be {i : Nat} (h : N.1.1 i = 0) : ¬ Lk w sv stb N i := fun z => z.1 (by rw [h]; decide)
theorem Lk_tok {i : Nat} (h : ¬ (w i = 1 ∨ w i = 2 ∨ w i = 5 ∨ w i = 7 ∨ w i = 33 ∨ w i = 34)) : ¬ Lk w sv stb N i := by
  intro z
  obtain ⟨-, z, -⟩ := z
  apply h
  rcases z with z | z | z | z | z | z
  · exact Or.inl z.1
  · exact Or.inr (Or.inl z.1)
  · exact Or.inr (Or.inr (Or.inl z))
  · exact Or.inr (Or.inr (Or.inr (Or.inl z)))
  · exact Or.inr (Or.inr (Or.inr (Or.inr (Or.inl z))))
  · exact Or.inr (Or.inr (Or.inr (Or.inr (Or.inr z))))
/-- j expressions in a row, of masks m -/
def chA (w sv stb : Nat → Int32) (N : NT) (m : Nat) : Nat → Nat → Nat → Prop
  | 0, k, b => k = b
  | j + 1, k, b => ∃ d c, aE w sv stb N m d k c ∧ chA w sv stb N m j c b
theorem chA_le {m : Nat} : ∀ {j k b : Nat}, chA w sv stb N m j k b → k + 2 * j ≤ b := by
  intro j
  induction j with
  | zero => intro k b h; exact Nat.le_of_eq h
  | succ j ih =>
    intro k b h
    obtain ⟨d, c, h1, h2⟩ := h
    have := aE_lt h1; have := ih h2; omega
theorem isS_loop {m : Nat} : ∀ (f j k b : Nat) (y5 : Int32), chA w sv stb N m j k b → b ≤ 400 → b - k + 1 ≤ f → (y5 = 0 ∨ y5 = 1) → (f_X10_isSecret_13 w sv stb f (nI b) (nI k) y5 = 0 ↔ y5 = 0 ∧ z0 N j k) ∧ ok_X10_isSecret_13 w sv stb f (nI b) (nI k) y5 ∧ (f_X10_isSecret_13 w sv stb f (nI b) (nI k) y5 = 0 ∨ f_X10_isSecret_13 w sv stb f (nI b) (nI k) y5 = 1) := by
  intro f
  induction f with
  | zero => intro j k b y5 h hb hf; omega
  | succ f ih =>
    intro j k b y5 h hb hf hy
    cases j with
    | zero =>
      have e : k = b := h
      subst e
      unfold f_X10_isSecret_13 ok_X10_isSecret_13
      rw [if_pos (nI_le (Nat.le_refl _) (by omega)), if_pos (nI_le (Nat.le_refl _) (by omega))]
      exact ⟨⟨fun z => ⟨z, trivial⟩, fun z => z.1⟩, ⟨hy, trivial⟩, hy⟩
    | succ j =>
      have hle := chA_le h
      obtain ⟨d, c, h1, h2⟩ := h
      have hlt := aE_lt h1
      have hle2 := chA_le h2
      have hbe : N.1.1 k = nI c := aE_be h1
      have hz : z0 N (j + 1) k ↔ N.2 k = 0 ∧ z0 N j c := by
        show N.2 k = 0 ∧ z0 N j (N.1.1 k).toNatClampNeg ↔ _
        rw [hbe, cl_nI (by omega)]
      rw [hz]
      cases d with
      | zero => exact h1.elim
      | succ d =>
        have hk2 : nI k + (2 : Int32) = nI (k + 2) := nI_add k 2
        have hk1 : nI k + (1 : Int32) = nI (k + 1) := nI_1 k
        have hin : vp_in (nI k) 400 := vp_in_nI (by omega) (by decide)
        have hin1 : vp_in (nI (k + 1)) 400 := vp_in_nI (by omega) (by decide)
        unfold f_X10_isSecret_13 ok_X10_isSecret_13
        rw [if_neg (nI_ge (by omega) (by omega)), if_neg (nI_ge (by omega) (by omega))]
        simp only [bd, bdP, cl_nI (show k < 2 ^ 31 by omega), cl_nI (show k + 1 < 2 ^ 31 by omega), hk1, hk2]
        obtain ⟨-, -, h | h | h | h | h | h⟩ := h1
        · obtain ⟨t, rfl, -, hs⟩ := h
          have n1 : ¬ w k = 21 := by rw [t]; decide
          have n2 : ¬ w k = 35 := by rw [t]; decide
          simp only [if_neg n1, if_neg n2, if_pos t]
          obtain ⟨q1, q2, q3⟩ := ih j (k + 2) b y5 h2 hb (by omega) hy
          exact ⟨q1.trans ⟨fun z => ⟨z.1, hs, z.2⟩, fun z => ⟨z.1, z.2.2⟩⟩, ⟨hin, q2⟩, q3⟩
        · obtain ⟨t, hv, rfl, -, hs⟩ := h
          simp only [if_pos t]
          by_cases hy0 : y5 = 0
          · simp only [if_pos hy0]
            by_cases hs0 : sv (w (k + 1)).toNatClampNeg = 0
            · simp only [if_pos hs0]
              obtain ⟨q1, q2, q3⟩ := ih j (k + 2) b 0 h2 hb (by omega) (Or.inl rfl)
              exact ⟨q1.trans ⟨fun z => ⟨hy0, hs.mpr hs0, z.2⟩, fun z => ⟨rfl, z.2.2⟩⟩, ⟨hin, hin1, hv, q2⟩, q3⟩
            · simp only [if_neg hs0]
              obtain ⟨q1, q2, q3⟩ := ih j (k + 2) b 1 h2 hb (by omega) (Or.inr rfl)
              exact ⟨q1.trans ⟨fun z => absurd z.1 (by decide), fun z => absurd (hs.mp z.2.1) hs0⟩, ⟨hin, hin1, hv, q2⟩, q3⟩
          · simp only [if_neg hy0]
            obtain ⟨q1, q2, q3⟩ := ih j (k + 2) b 1 h2 hb (by omega) (Or.inr rfl)
            exact ⟨q1.trans ⟨fun z => absurd z.1 (by decide), fun z => absurd z.1 hy0⟩, ⟨hin, q2⟩, q3⟩
        · obtain ⟨t, hv, hE, -, hs⟩ := h
          have n1 : ¬ w k = 21 := by rw [t]; decide
          simp only [if_neg n1, if_pos t]
          have hch : chA w sv stb N m (j + 1) (k + 2) b := ⟨d, c, hE, h2⟩
          have hz2 : z0 N (j + 1) (k + 2) ↔ N.2 (k + 2) = 0 ∧ z0 N j c := by
            show N.2 (k + 2) = 0 ∧ z0 N j (N.1.1 (k + 2)).toNatClampNeg ↔ _
            rw [aE_be hE, cl_nI (by omega)]
          by_cases hy0 : y5 = 0
          · simp only [if_pos hy0]
            by_cases hs0 : stb (w (k + 1)).toNatClampNeg = 0
            · simp only [if_pos hs0]
              obtain ⟨q1, q2, q3⟩ := ih (j + 1) (k + 2) b 0 hch hb (by omega) (Or.inl rfl)
              rw [hz2] at q1
              exact ⟨q1.trans ⟨fun z => ⟨hy0, hs.mpr ⟨hs0, z.2.1⟩, z.2.2⟩, fun z => ⟨rfl, (hs.mp z.2.1).2, z.2.2⟩⟩, ⟨hin, hin1, hv, q2⟩, q3⟩
            · simp only [if_neg hs0]
              obtain ⟨q1, q2, q3⟩ := ih (j + 1) (k + 2) b 1 hch hb (by omega) (Or.inr rfl)
              exact ⟨q1.trans ⟨fun z => absurd z.1 (by decide), fun z => absurd (hs.mp z.2.1).1 hs0⟩, ⟨hin, hin1, hv, q2⟩, q3⟩
          · simp only [if_neg hy0]
            obtain ⟨q1, q2, q3⟩ := ih (j + 1) (k + 2) b 1 hch hb (by omega) (Or.inr rfl)
            exact ⟨q1.trans ⟨fun z => absurd z.1 (by decide), fun z => absurd z.1 hy0⟩, ⟨hin, q2⟩, q3⟩
        · obtain ⟨t, hE, hs⟩ := h
          have n1 : ¬ w k = 21 := by rw [t]; decide
          have n2 : ¬ w k = 35 := by rw [t]; decide
          have n3 : ¬ w k = 20 := by rw [t]; decide
          simp only [if_neg n1, if_neg n2, if_neg n3]
          obtain ⟨q1, q2, q3⟩ := ih (j + 1) (k + 1) b y5 ⟨d, c, hE, h2⟩ hb (by omega) hy
          have hz2 : z0 N (j + 1) (k + 1) ↔ N.2 (k + 1) = 0 ∧ z0 N j c := by
            show N.2 (k + 1) = 0 ∧ z0 N j (N.1.1 (k + 1)).toNatClampNeg ↔ _
            rw [aE_be hE, cl_nI (by omega)]
          rw [hz2, ← hs] at q1
          exact ⟨q1, ⟨hin, q2⟩, q3⟩
        · obtain ⟨t, c1, c2, hE1, hE2, hE3, hs⟩ := h
          have l1 := aE_lt hE1
          have l2 := aE_lt hE2
          have l3 := aE_lt hE3
          have n1 : ¬ w k = 21 := by rw [t]; decide
          have n2 : ¬ w k = 35 := by rw [t]; decide
          have n3 : ¬ w k = 20 := by rw [t]; decide
          simp only [if_neg n1, if_neg n2, if_neg n3]
          obtain ⟨q1, q2, q3⟩ := ih (j + 3) (k + 1) b y5 ⟨d, c1, hE1, d, c2, hE2, d, c, hE3, h2⟩ hb (by omega) hy
          have hz2 : z0 N (j + 3) (k + 1) ↔ (N.2 (k + 1) = 0 ∧ N.2 c1 = 0 ∧ N.2 c2 = 0) ∧ z0 N j c := by
            show N.2 (k + 1) = 0 ∧ N.2 (N.1.1 (k + 1)).toNatClampNeg = 0 ∧ N.2 (N.1.1 (N.1.1 (k + 1)).toNatClampNeg).toNatClampNeg = 0 ∧ z0 N j (N.1.1 (N.1.1 (N.1.1 (k + 1)).toNatClampNeg).toNatClampNeg).toNatClampNeg ↔ _
            rw [aE_be hE1, cl_nI (show c1 < 2 ^ 31 by omega), aE_be hE2, cl_nI (show c2 < 2 ^ 31 by omega), aE_be hE3, cl_nI (show c < 2 ^ 31 by omega)]
            exact ⟨fun z => ⟨⟨z.1, z.2.1, z.2.2.1⟩, z.2.2.2⟩, fun z => ⟨z.1.1, z.1.2.1, z.1.2.2, z.2⟩⟩
          rw [hz2, ← hs] at q1
          exact ⟨q1, ⟨hin, q2⟩, q3⟩
        · obtain ⟨t, c1, hE1, hE2, hs⟩ := h
          obtain ⟨⟨n3, n1, n2, n4, n5⟩, -⟩ := id t
          have l1 := aE_lt hE1
          have l2 := aE_lt hE2
          simp only [if_neg n1, if_neg n2, if_neg n3]
          obtain ⟨q1, q2, q3⟩ := ih (j + 2) (k + 1) b y5 ⟨d, c1, hE1, d, c, hE2, h2⟩ hb (by omega) hy
          have hz2 : z0 N (j + 2) (k + 1) ↔ (N.2 (k + 1) = 0 ∧ N.2 c1 = 0) ∧ z0 N j c := by
            show N.2 (k + 1) = 0 ∧ N.2 (N.1.1 (k + 1)).toNatClampNeg = 0 ∧ z0 N j (N.1.1 (N.1.1 (k + 1)).toNatClampNeg).toNatClampNeg ↔ _
            rw [aE_be hE1, cl_nI (show c1 < 2 ^ 31 by omega), aE_be hE2, cl_nI (show c < 2 ^ 31 by omega)]
            exact ⟨fun z => ⟨⟨z.1, z.2.1⟩, z.2.2⟩, fun z => ⟨z.1.1, z.1.2, z.2⟩⟩
          rw [hz2, ← hs] at q1
          exact ⟨q1, ⟨hin, q2⟩, q3⟩
theorem isS_eq {m d a b : Nat} (h : aE w sv stb N m d a b) (hb : b ≤ 400) : (f_X10_isSecret w sv stb (nI a) = 0 ↔ N.2 a = 0) ∧ ok_X10_isSecret w sv stb (nI a) ∧ (f_X10_isSecret w sv stb (nI a) = 0 ∨ f_X10_isSecret w sv stb (nI a) = 1) := by
  have lt := aE_lt h
  obtain ⟨m1, o1⟩ := behind_eq (aE_nE h) hb
  obtain ⟨q1, q2, q3⟩ := isS_loop 402 1 a b 0 ⟨d, b, h, rfl⟩ hb (by omega) (Or.inl rfl)
  unfold f_X10_isSecret ok_X10_isSecret
  simp only [bd, bdP, m1]
  exact ⟨q1.trans ⟨fun z => z.2.1, fun z => ⟨rfl, z, trivial⟩⟩, ⟨o1, q2⟩, q3⟩
theorem labE_loop {m : Nat} {hid : Int32} (hm : m < 400) (hh : hid = 0 ↔ m = 0) (y1 : Int32) : ∀ (f j k b : Nat) (s : Int32 × Int32), chA w sv stb N m j k b → b ≤ 400 → b - k + 1 ≤ f → Lab (Lk w sv stb N) k b s (f_X10_labelE_13 w sv stb f s.1 s.2 y1 hid (nI b) (nI k)) ∧ ok_X10_labelE_13 w sv stb f s.1 s.2 y1 hid (nI b) (nI k) := by
  intro f
  induction f with
  | zero => intro j k b s h hb hf; omega
  | succ f ih =>
    intro j k b s h hb hf
    cases j with
    | zero =>
      have e : k = b := h
      subst e
      unfold f_X10_labelE_13 ok_X10_labelE_13
      rw [if_pos (nI_le (Nat.le_refl _) (by omega)), if_pos (nI_le (Nat.le_refl _) (by omega))]
      exact ⟨Lab.none s (fun i i1 i2 => by omega), trivial⟩
    | succ j =>
      have hle := chA_le h
      obtain ⟨d, c, h1, h2⟩ := h
      have hlt := aE_lt h1
      have hle2 := chA_le h2
      have hbe : N.1.1 k = nI c := aE_be h1
      cases d with
      | zero => exact h1.elim
      | succ d =>
        have hk2 : nI k + (2 : Int32) = nI (k + 2) := nI_add k 2
        have hk1 : nI k + (1 : Int32) = nI (k + 1) := nI_1 k
        have hin : vp_in (nI k) 400 := vp_in_nI (by omega) (by decide)
        unfold f_X10_labelE_13 ok_X10_labelE_13
        rw [if_neg (nI_ge (by omega) (by omega)), if_neg (nI_ge (by omega) (by omega))]
        simp only [bd, bdP, cl_nI (show k < 2 ^ 31 by omega), hk1, hk2]
        obtain ⟨-, hmk, h | h | h | h | h | h⟩ := h1
        · obtain ⟨t, rfl, h0, hs⟩ := h
          have n1 : ¬ w k = 33 := by rw [t]; decide
          have n2 : ¬ w k = 34 := by rw [t]; decide
          simp only [if_neg n1, if_neg n2, if_pos t]
          obtain ⟨q1, q2⟩ := ih j (k + 2) b s h2 hb (by omega)
          refine ⟨Lab.trans (Lab.none s ?_) q1 (by omega) (by omega), hin, q2⟩
          intro i i1 i2
          rcases (show i = k ∨ i = k + 1 by omega) with rfl | rfl
          · exact Lk_tok (by rw [t]; decide)
          · exact Lk_be h0
        · obtain ⟨t, hv, rfl, h0, hs⟩ := h
          have n1 : ¬ w k = 33 := by rw [t]; decide
          have n2 : ¬ w k = 34 := by rw [t]; decide
          have n3 : ¬ w k = 20 := by rw [t]; decide
          simp only [if_neg n1, if_neg n2, if_neg n3, if_pos t]
          obtain ⟨q1, q2⟩ := ih j (k + 2) b s h2 hb (by omega)
          refine ⟨Lab.trans (Lab.none s ?_) q1 (by omega) (by omega), hin, q2⟩
          intro i i1 i2
          rcases (show i = k ∨ i = k + 1 by omega) with rfl | rfl
          · exact Lk_tok (by rw [t]; decide)
          · exact Lk_be h0
        · obtain ⟨t, hv, hE, h0, hs⟩ := h
          have n1 : ¬ w k = 33 := by rw [t]; decide
          have n2 : ¬ w k = 34 := by rw [t]; decide
          have n3 : ¬ w k = 20 := by rw [t]; decide
          have n4 : ¬ w k = 21 := by rw [t]; decide
          have lE := aE_lt hE
          simp only [if_neg n1, if_neg n2, if_neg n3, if_neg n4, if_pos t]
          obtain ⟨q1, q2⟩ := ih (j + 1) (k + 2) b s ⟨d, c, hE, h2⟩ hb (by omega)
          refine ⟨Lab.trans (Lab.none s ?_) q1 (by omega) (by omega), hin, q2⟩
          intro i i1 i2
          rcases (show i = k ∨ i = k + 1 by omega) with rfl | rfl
          · exact Lk_tok (by rw [t]; decide)
          · exact Lk_be h0
        · obtain ⟨t, hE, hs⟩ := h
          have n1 : ¬ w k = 33 := by rw [t]; decide
          have n2 : ¬ w k = 34 := by rw [t]; decide
          have n3 : ¬ w k = 20 := by rw [t]; decide
          have n4 : ¬ w k = 21 := by rw [t]; decide
          have n5 : ¬ w k = 35 := by rw [t]; decide
          simp only [if_neg n1, if_neg n2, if_neg n3, if_neg n4, if_neg n5]
          obtain ⟨q1, q2⟩ := ih (j + 1) (k + 1) b s ⟨d, c, hE, h2⟩ hb (by omega)
          refine ⟨Lab.trans (Lab.none s ?_) q1 (by omega) (by omega), hin, q2⟩
          intro i i1 i2
          rcases (show i = k by omega) with rfl
          exact Lk_tok (by rw [t]; decide)
        · obtain ⟨t, c1, c2, hE1, hE2, hE3, hs⟩ := h
          have n1 : ¬ w k = 33 := by rw [t]; decide
          have n2 : ¬ w k = 34 := by rw [t]; decide
          have n3 : ¬ w k = 20 := by rw [t]; decide
          have n4 : ¬ w k = 21 := by rw [t]; decide
          have n5 : ¬ w k = 35 := by rw [t]; decide
          simp only [if_neg n1, if_neg n2, if_neg n3, if_neg n4, if_neg n5]
          obtain ⟨q1, q2⟩ := ih (j + 3) (k + 1) b s ⟨d, c1, hE1, d, c2, hE2, d, c, hE3, h2⟩ hb (by omega)
          refine ⟨Lab.trans (Lab.none s ?_) q1 (by omega) (by omega), hin, q2⟩
          intro i i1 i2
          rcases (show i = k by omega) with rfl
          exact Lk_tok (by rw [t]; decide)
        · obtain ⟨t, c1, hE1, hE2, hs⟩ := h
          obtain ⟨⟨n3, n4, n5, n6, n7⟩, -⟩ := id t
          have l1 := aE_lt hE1
          have l2 := aE_lt hE2
          have hch : chA w sv stb N m (j + 2) (k + 1) b := ⟨d, c1, hE1, d, c, hE2, h2⟩
          have q := fun s => ih (j + 2) (k + 1) b s hch hb (by omega)
          by_cases hdv : w k = 33 ∨ w k = 34
          · obtain ⟨i1, i2, -⟩ := isS_eq hE1 (by omega)
            obtain ⟨j1, j2, -⟩ := isS_eq hE2 (by omega)
            obtain ⟨m1, o1⟩ := behind_eq (aE_nE hE1) (by omega)
            have hop : opn w sv stb k := by
              rcases hdv with z | z
              · exact Or.inr (Or.inr (Or.inr (Or.inr (Or.inl z))))
              · exact Or.inr (Or.inr (Or.inr (Or.inr (Or.inr z))))
            have hbeg : ¬ N.1.1 k ≤ 0 := by rw [hbe]; exact nI_nle (by omega) (by omega)
            have hyes : (¬ N.2 (k + 1) = 0 ∨ ¬ N.2 c1 = 0 ∨ ¬ hid = 0) → Lk w sv stb N k := by
              intro z
              refine ⟨hbeg, hop, ?_⟩
              rcases z with z | z | z
              · exact Or.inl fun y => z (hs.mp y).1
              · exact Or.inl fun y => z (hs.mp y).2
              · refine Or.inr ?_
                rw [hmk]
                exact nI_nle (Nat.pos_of_ne_zero fun y => z (hh.mpr y)) (by omega)
            have hno : N.2 (k + 1) = 0 → N.2 c1 = 0 → hid = 0 → ¬ Lk w sv stb N k := by
              intro z1 z2 z3 z
              rcases z.2.2 with y | y
              · exact y (hs.mpr ⟨z1, z2⟩)
              · apply y
                rw [hmk, hh.mp z3]
                decide
            have qf := fun (hL : Lk w sv stb N k) => Lab.trans (Lab.fail s hL) (q (f_X10_fail s.1 s.2 (-14) (nI k)).2).1 (by omega) (by omega)
            have main : ∀ (P : Prop) (r : Int32 × Int32), True := fun _ _ => trivial
            rcases hdv with t3 | t3
            · simp only [if_pos t3, m1]
              by_cases x1 : N.2 (k + 1) = 0
              · simp only [if_pos (i1.mpr x1)]
                by_cases x2 : N.2 c1 = 0
                · simp only [if_pos (j1.mpr x2)]
                  by_cases x3 : hid = 0
                  · simp only [if_pos x3]
                    refine ⟨Lab.trans (Lab.none s ?_) (q s).1 (by omega) (by omega), hin, i2, o1, j2, (q s).2⟩
                    intro i i1' i2'
                    rcases (show i = k by omega) with rfl
                    exact hno x1 x2 x3
                  · simp only [if_neg x3]
                    exact ⟨qf (hyes (Or.inr (Or.inr x3))), hin, i2, o1, j2, (q _).2⟩
                · simp only [if_neg (fun z => x2 (j1.mp z))]
                  exact ⟨qf (hyes (Or.inr (Or.inl x2))), hin, i2, o1, j2, (q _).2⟩
              · simp only [if_neg (fun z => x1 (i1.mp z))]
                exact ⟨qf (hyes (Or.inl x1)), hin, i2, (q _).2⟩
            · have t33 : ¬ w k = 33 := by rw [t3]; decide
              simp only [if_neg t33, if_pos t3, m1]
              by_cases x1 : N.2 (k + 1) = 0
              · simp only [if_pos (i1.mpr x1)]
                by_cases x2 : N.2 c1 = 0
                · simp only [if_pos (j1.mpr x2)]
                  by_cases x3 : hid = 0
                  · simp only [if_pos x3]
                    refine ⟨Lab.trans (Lab.none s ?_) (q s).1 (by omega) (by omega), hin, i2, o1, j2, (q s).2⟩
                    intro i i1' i2'
                    rcases (show i = k by omega) with rfl
                    exact hno x1 x2 x3
                  · simp only [if_neg x3]
                    exact ⟨qf (hyes (Or.inr (Or.inr x3))), hin, i2, o1, j2, (q _).2⟩
                · simp only [if_neg (fun z => x2 (j1.mp z))]
                  exact ⟨qf (hyes (Or.inr (Or.inl x2))), hin, i2, o1, j2, (q _).2⟩
              · simp only [if_neg (fun z => x1 (i1.mp z))]
                exact ⟨qf (hyes (Or.inl x1)), hin, i2, (q _).2⟩
          · have n1 : ¬ w k = 33 := fun z => hdv (Or.inl z)
            have n2 : ¬ w k = 34 := fun z => hdv (Or.inr z)
            simp only [if_neg n1, if_neg n2, if_neg n3, if_neg n4, if_neg n5]
            refine ⟨Lab.trans (Lab.none s ?_) (q s).1 (by omega) (by omega), hin, (q s).2⟩
            intro i i1 i2
            rcases (show i = k by omega) with rfl
            apply Lk_tok
            obtain ⟨-, t⟩ := t
            rcases t with t | t | t | t | t | t | t | t | t | t | t | t
            all_goals first | (rw [t]; decide) | exact absurd t n1 | exact absurd t n2
theorem labE_eq {m d a b : Nat} {hid : Int32} (hm : m < 400) (hh : hid = 0 ↔ m = 0) (h : aE w sv stb N m d a b) (hb : b ≤ 400) (s : Int32 × Int32) : Lab (Lk w sv stb N) a b s (f_X10_labelE w sv stb s.1 s.2 (nI a) hid) ∧ ok_X10_labelE w sv stb s.1 s.2 (nI a) hid := by
  have lt := aE_lt h
  obtain ⟨m1, o1⟩ := behind_eq (aE_nE h) hb
  obtain ⟨q1, q2⟩ := labE_loop hm hh (nI a) 402 1 a b s ⟨d, b, h, rfl⟩ hb (by omega)
  unfold f_X10_labelE ok_X10_labelE
  simp only [bd, bdP, m1]
  exact ⟨q1, o1, q2⟩
end LEAK
