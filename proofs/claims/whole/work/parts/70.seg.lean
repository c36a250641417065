/-! what is known of the code: heights of the pile, masks and counts that are set -/
abbrev TT : Type := Nat → Nat → Nat → Nat → Prop
def SO (cod : Nat → Int32) (T : TT) (q pc h m r : Nat) : Prop :=
  (cod pc = 1 ∧ h < 63 ∧ T (pc + 2) (h + 1) m r)
  ∨ (cod pc = 2 ∧ h < 63 ∧ vp_in (cod (pc + 1)) 10 ∧ T (pc + 2) (h + 1) m r)
  ∨ (cod pc = 3 ∧ (∃ k, h = k + 1 ∧ T (pc + 2) k m r) ∧ vp_in (cod (pc + 1)) 10)
  ∨ (isBin (cod pc + 18) ∧ ∃ k, h = k + 2 ∧ T (pc + 1) (k + 1) m r)
  ∨ (cod pc = 14 ∧ ∃ k, h = k + 1 ∧ T (pc + 1) (k + 1) m r)
  ∨ (cod pc = 17 ∧ ∃ k, h = k + 3 ∧ T (pc + 1) (k + 1) m r)
  ∨ (cod pc = 18 ∧ pc + 2 ≤ q ∧ ∃ t, cod (pc + 1) = nI t ∧ T t h m r)
  ∨ (cod pc = 19 ∧ ∃ k t, h = k + 1 ∧ T (pc + 2) k m r ∧ cod (pc + 1) = nI t ∧ T t k m r)
  ∨ (cod pc = 20 ∧ ∃ k, h = k + 1 ∧ T (pc + 1) k m r)
  ∨ ((cod pc = 21 ∨ cod pc = 27) ∧ (∃ k, h = k + 1 ∧ T (pc + 2) (k + 1) m r) ∧ vp_in (cod (pc + 1)) 4)
  ∨ (cod pc = 22 ∧ (∃ k, h = k + 2 ∧ T (pc + 2) k m r) ∧ vp_in (cod (pc + 1)) 4)
  ∨ ((cod pc = 26 ∨ cod pc = 28) ∧ (∃ k, h = k + 2 ∧ T (pc + 3) k m r) ∧ (∃ x, cod (pc + 1) = nI x ∧ x ≤ m) ∧ vp_in (cod (pc + 2)) 4)
  ∨ (cod pc = 25 ∧ (∃ k, h = k + 1 ∧ T (pc + 3) k m r) ∧ (∃ x, cod (pc + 1) = nI x ∧ x ≤ m) ∧ vp_in (cod (pc + 2)) 10)
  ∨ (cod pc = 23 ∧ ∃ k x, h = k + 1 ∧ cod (pc + 1) = nI (x + 1) ∧ x ≤ m ∧ x < 12 ∧ T (pc + 2) k (x + 1) r)
  ∨ (cod pc = 24 ∧ ∃ x, cod (pc + 1) = nI (x + 1) ∧ x + 1 ≤ m ∧ x < 12 ∧ T (pc + 2) h (x + 1) r)
  ∨ (cod pc = 29 ∧ ∃ x, cod (pc + 1) = nI x ∧ x ≤ r ∧ x < 12 ∧ T (pc + 2) h m (x + 1))
  ∨ (cod pc = 30 ∧ h < 63 ∧ ∃ x, cod (pc + 1) = nI x ∧ x < r ∧ x < 12 ∧ T (pc + 2) (h + 1) m r)
  ∨ (cod pc = 31 ∧ ∃ x, cod (pc + 1) = nI x ∧ x < r ∧ x < 12 ∧ T (pc + 2) h m r)
theorem SO.imp {cod cod' : Nat → Int32} {T T' : TT} {q q' pc h m r : Nat} (s : SO cod T q pc h m r) (hq : q ≤ q') (hT : ∀ x k m r, T x k m r → T' x k m r) (hTq : ∀ x k m r, T x k m r → x ≤ q) (hpc : pc < q) (hc : ∀ i, pc ≤ i → i < q → cod' i = cod i) : SO cod' T' q' pc h m r := by
  have c0 : cod' pc = cod pc := hc pc (Nat.le_refl _) hpc
  have c1 : pc + 2 ≤ q → cod' (pc + 1) = cod (pc + 1) := fun z => hc (pc + 1) (by omega) (by omega)
  have c2 : pc + 3 ≤ q → cod' (pc + 2) = cod (pc + 2) := fun z => hc (pc + 2) (by omega) (by omega)
  unfold SO at s ⊢
  rw [c0]
  rcases s with s | s | s | s | s | s | s | s | s | s | s | s | s | s | s | s | s | s
  · exact Or.inl ⟨s.1, s.2.1, hT _ _ _ _ s.2.2⟩
  · obtain ⟨s1, s2, s3, s4⟩ := s
    rw [c1 (hTq _ _ _ _ s4)]
    exact Or.inr (Or.inl ⟨s1, s2, s3, hT _ _ _ _ s4⟩)
  · obtain ⟨s1, ⟨k, s2, s3⟩, s4⟩ := s
    rw [c1 (hTq _ _ _ _ s3)]
    exact Or.inr (Or.inr (Or.inl ⟨s1, ⟨k, s2, hT _ _ _ _ s3⟩, s4⟩))
  · obtain ⟨s1, k, s2, s3⟩ := s
    exact Or.inr (Or.inr (Or.inr (Or.inl ⟨s1, k, s2, hT _ _ _ _ s3⟩)))
  · obtain ⟨s1, k, s2, s3⟩ := s
    exact Or.inr (Or.inr (Or.inr (Or.inr (Or.inl ⟨s1, k, s2, hT _ _ _ _ s3⟩))))
  · obtain ⟨s1, k, s2, s3⟩ := s
    exact Or.inr (Or.inr (Or.inr (Or.inr (Or.inr (Or.inl ⟨s1, k, s2, hT _ _ _ _ s3⟩)))))
  · obtain ⟨s1, s2, t, s3, s4⟩ := s
    rw [c1 s2]
    exact Or.inr (Or.inr (Or.inr (Or.inr (Or.inr (Or.inr (Or.inl ⟨s1, by omega, t, s3, hT _ _ _ _ s4⟩))))))
  · obtain ⟨s1, k, t, s2, s3, s4, s5⟩ := s
    rw [c1 (hTq _ _ _ _ s3)]
    exact Or.inr (Or.inr (Or.inr (Or.inr (Or.inr (Or.inr (Or.inr (Or.inl ⟨s1, k, t, s2, hT _ _ _ _ s3, s4, hT _ _ _ _ s5⟩)))))))
  · obtain ⟨s1, k, s2, s3⟩ := s
    exact Or.inr (Or.inr (Or.inr (Or.inr (Or.inr (Or.inr (Or.inr (Or.inr (Or.inl ⟨s1, k, s2, hT _ _ _ _ s3⟩))))))))
  · obtain ⟨s1, ⟨k, s2, s3⟩, s4⟩ := s
    rw [c1 (hTq _ _ _ _ s3)]
    exact Or.inr (Or.inr (Or.inr (Or.inr (Or.inr (Or.inr (Or.inr (Or.inr (Or.inr (Or.inl ⟨s1, ⟨k, s2, hT _ _ _ _ s3⟩, s4⟩)))))))))
  · obtain ⟨s1, ⟨k, s2, s3⟩, s4⟩ := s
    rw [c1 (hTq _ _ _ _ s3)]
    exact Or.inr (Or.inr (Or.inr (Or.inr (Or.inr (Or.inr (Or.inr (Or.inr (Or.inr (Or.inr (Or.inl ⟨s1, ⟨k, s2, hT _ _ _ _ s3⟩, s4⟩))))))))))
  · obtain ⟨s1, ⟨k, s2, s3⟩, s4, s5⟩ := s
    have := hTq _ _ _ _ s3
    rw [c1 (by omega), c2 this]
    exact Or.inr (Or.inr (Or.inr (Or.inr (Or.inr (Or.inr (Or.inr (Or.inr (Or.inr (Or.inr (Or.inr (Or.inl ⟨s1, ⟨k, s2, hT _ _ _ _ s3⟩, s4, s5⟩)))))))))))
  · obtain ⟨s1, ⟨k, s2, s3⟩, s4, s5⟩ := s
    have := hTq _ _ _ _ s3
    rw [c1 (by omega), c2 this]
    exact Or.inr (Or.inr (Or.inr (Or.inr (Or.inr (Or.inr (Or.inr (Or.inr (Or.inr (Or.inr (Or.inr (Or.inr (Or.inl ⟨s1, ⟨k, s2, hT _ _ _ _ s3⟩, s4, s5⟩))))))))))))
  · obtain ⟨s1, k, x, s2, s3, s4, s5, s6⟩ := s
    rw [c1 (hTq _ _ _ _ s6)]
    exact Or.inr (Or.inr (Or.inr (Or.inr (Or.inr (Or.inr (Or.inr (Or.inr (Or.inr (Or.inr (Or.inr (Or.inr (Or.inr (Or.inl ⟨s1, k, x, s2, s3, s4, s5, hT _ _ _ _ s6⟩)))))))))))))
  · obtain ⟨s1, x, s3, s4, s5, s6⟩ := s
    rw [c1 (hTq _ _ _ _ s6)]
    exact Or.inr (Or.inr (Or.inr (Or.inr (Or.inr (Or.inr (Or.inr (Or.inr (Or.inr (Or.inr (Or.inr (Or.inr (Or.inr (Or.inr (Or.inl ⟨s1, x, s3, s4, s5, hT _ _ _ _ s6⟩))))))))))))))
  · obtain ⟨s1, x, s3, s4, s5, s6⟩ := s
    rw [c1 (hTq _ _ _ _ s6)]
    exact Or.inr (Or.inr (Or.inr (Or.inr (Or.inr (Or.inr (Or.inr (Or.inr (Or.inr (Or.inr (Or.inr (Or.inr (Or.inr (Or.inr (Or.inr (Or.inl ⟨s1, x, s3, s4, s5, hT _ _ _ _ s6⟩)))))))))))))))
  · obtain ⟨s1, s2, x, s3, s4, s5, s6⟩ := s
    rw [c1 (hTq _ _ _ _ s6)]
    exact Or.inr (Or.inr (Or.inr (Or.inr (Or.inr (Or.inr (Or.inr (Or.inr (Or.inr (Or.inr (Or.inr (Or.inr (Or.inr (Or.inr (Or.inr (Or.inr (Or.inl ⟨s1, s2, x, s3, s4, s5, hT _ _ _ _ s6⟩))))))))))))))))
  · obtain ⟨s1, x, s3, s4, s5, s6⟩ := s
    rw [c1 (hTq _ _ _ _ s6)]
    exact Or.inr (Or.inr (Or.inr (Or.inr (Or.inr (Or.inr (Or.inr (Or.inr (Or.inr (Or.inr (Or.inr (Or.inr (Or.inr (Or.inr (Or.inr (Or.inr (Or.inr ⟨s1, x, s3, s4, s5, hT _ _ _ _ s6⟩))))))))))))))))
def Tw (T : TT) : TT := fun pc h m r => ∃ m' r', m' ≤ m ∧ r' ≤ r ∧ T pc h m' r'
theorem Tw.of {T : TT} {pc h m r : Nat} (h1 : T pc h m r) : Tw T pc h m r := ⟨m, r, Nat.le_refl _, Nat.le_refl _, h1⟩
def Seg (cod : Nat → Int32) (p q h h' m r m1 r1 : Nat) : Prop := p ≤ q ∧ ∃ T : TT, Tw T p h m r ∧ ∀ pc k m' r', T pc k m' r' → p ≤ pc ∧ pc ≤ q ∧ (pc = q → k = h' ∧ m1 ≤ m' ∧ r1 ≤ r') ∧ (pc < q → m' ≤ 12 ∧ r' ≤ 12 ∧ SO cod (Tw T) q pc k m' r')
theorem Seg.congr {cod cod' : Nat → Int32} {p q h h' m r m1 r1 : Nat} (s : Seg cod p q h h' m r m1 r1) (hc : ∀ i, p ≤ i → i < q → cod' i = cod i) : Seg cod' p q h h' m r m1 r1 := by
  obtain ⟨hpq, T, t0, t⟩ := s
  refine ⟨hpq, T, t0, fun pc k m' r' z => ?_⟩
  obtain ⟨a1, a2, a3, a4⟩ := t pc k m' r' z
  refine ⟨a1, a2, a3, fun y => ?_⟩
  obtain ⟨b1, b2, b3⟩ := a4 y
  refine ⟨b1, b2, b3.imp (Nat.le_refl _) (fun _ _ _ _ z => z) ?_ y (fun i i1 i2 => hc i (by omega) i2)⟩
  rintro x k' m'' r'' ⟨m3, r3, -, -, z3⟩
  exact (t _ _ _ _ z3).2.1
theorem Seg.nil {cod : Nat → Int32} (p h m r : Nat) : Seg cod p p h h m r m r := by
  refine ⟨Nat.le_refl _, fun pc k m' r' => pc = p ∧ k = h ∧ m' = m ∧ r' = r, Tw.of ⟨rfl, rfl, rfl, rfl⟩, ?_⟩
  rintro pc k m' r' ⟨rfl, rfl, rfl, rfl⟩
  exact ⟨Nat.le_refl _, Nat.le_refl _, fun _ => ⟨rfl, Nat.le_refl _, Nat.le_refl _⟩, fun z => absurd z (Nat.lt_irrefl _)⟩
theorem Seg.weak {cod : Nat → Int32} {p q h h' m r m1 r1 m2 r2 : Nat} (s : Seg cod p q h h' m r m1 r1) (hm : m2 ≤ m1) (hr : r2 ≤ r1) : Seg cod p q h h' m r m2 r2 := by
  obtain ⟨hpq, T, t0, t⟩ := s
  refine ⟨hpq, T, t0, fun pc k m' r' z => ?_⟩
  obtain ⟨a1, a2, a3, a4⟩ := t pc k m' r' z
  refine ⟨a1, a2, fun y => ?_, a4⟩
  obtain ⟨b1, b2, b3⟩ := a3 y
  exact ⟨b1, by omega, by omega⟩
theorem Seg.one {cod : Nat → Int32} {p q h h' m r m1 r1 : Nat} (hpq : p < q) (hm : m ≤ 12) (hr : r ≤ 12) (s : SO cod (fun pc k m' r' => pc = q ∧ k = h' ∧ m1 ≤ m' ∧ r1 ≤ r') q p h m r) : Seg cod p q h h' m r m1 r1 := by
  refine ⟨Nat.le_of_lt hpq, fun pc k m' r' => (pc = p ∧ k = h ∧ m' = m ∧ r' = r) ∨ (pc = q ∧ k = h' ∧ m1 ≤ m' ∧ r1 ≤ r'), Tw.of (Or.inl ⟨rfl, rfl, rfl, rfl⟩), ?_⟩
  rintro pc k m' r' (⟨rfl, rfl, rfl, rfl⟩ | ⟨rfl, rfl, h1, h2⟩)
  · refine ⟨Nat.le_refl _, Nat.le_of_lt hpq, fun z => absurd z (Nat.ne_of_lt hpq), fun _ => ⟨hm, hr, ?_⟩⟩
    refine s.imp (Nat.le_refl _) (fun x k m r z => Tw.of (Or.inr z)) (fun x k m r z => Nat.le_of_eq z.1) hpq (fun _ _ _ => rfl)
  · exact ⟨Nat.le_of_lt hpq, Nat.le_refl _, fun _ => ⟨rfl, h1, h2⟩, fun z => absurd z (Nat.lt_irrefl _)⟩
/-- a segment that ends where another set of places goes on -/
theorem seg_in {cod : Nat → Int32} {T T' : TT} {q q' pc k m' r' h1 m1 r1 : Nat} (s : SO cod (Tw T) q pc k m' r') (hq : q ≤ q') (hpc : pc < q) (hT : ∀ pc k m' r', T pc k m' r' → pc ≤ q ∧ (pc = q → k = h1 ∧ m1 ≤ m' ∧ r1 ≤ r')) (hin : ∀ pc k m' r', pc < q → T pc k m' r' → T' pc k m' r') (hend : Tw T' q h1 m1 r1) : SO cod (Tw T') q' pc k m' r' := by
  refine s.imp hq ?_ ?_ hpc (fun _ _ _ => rfl)
  · rintro x k m r ⟨m2, r2, a1, a2, a3⟩
    obtain ⟨b1, b2⟩ := hT _ _ _ _ a3
    by_cases hx : x = q
    · obtain ⟨c1, c2, c3⟩ := b2 hx
      subst hx; subst c1
      obtain ⟨m3, r3, d1, d2, d3⟩ := hend
      exact ⟨m3, r3, by omega, by omega, d3⟩
    · exact ⟨m2, r2, a1, a2, hin _ _ _ _ (by omega) a3⟩
  · rintro x k m r ⟨m2, r2, a1, a2, a3⟩
    exact (hT _ _ _ _ a3).1
theorem Seg.trans {cod : Nat → Int32} {p q s h h1 h2 m r m1 r1 m2 r2 : Nat} (a : Seg cod p q h h1 m r m1 r1) (b : Seg cod q s h1 h2 m1 r1 m2 r2) : Seg cod p s h h2 m r m2 r2 := by
  obtain ⟨hpq, T1, ⟨m0, r0, e1, e2, t0⟩, t⟩ := a
  obtain ⟨hqs, T2, ⟨m3, r3, f1, f2, u0⟩, u⟩ := b
  refine ⟨Nat.le_trans hpq hqs, fun pc k m' r' => (pc < q ∧ T1 pc k m' r') ∨ T2 pc k m' r', ?_, ?_⟩
  · by_cases hp : p = q
    · obtain ⟨-, -, a3, -⟩ := t p h m0 r0 t0
      obtain ⟨c1, c2, c3⟩ := a3 hp
      subst hp; subst c1
      exact ⟨m3, r3, by omega, by omega, Or.inr u0⟩
    · exact ⟨m0, r0, e1, e2, Or.inl ⟨by omega, t0⟩⟩
  · rintro pc k m' r' (⟨hlt, z⟩ | z)
    · obtain ⟨a1, a2, a3, a4⟩ := t pc k m' r' z
      refine ⟨a1, by omega, fun y => by omega, fun _ => ?_⟩
      obtain ⟨b1, b2, b3⟩ := a4 hlt
      exact ⟨b1, b2, seg_in b3 hqs hlt (fun pc k m' r' z => ⟨(t pc k m' r' z).2.1, (t pc k m' r' z).2.2.1⟩) (fun pc k m' r' z1 z2 => Or.inl ⟨z1, z2⟩) ⟨m3, r3, f1, f2, Or.inr u0⟩⟩
    · obtain ⟨a1, a2, a3, a4⟩ := u pc k m' r' z
      refine ⟨by omega, a2, a3, fun y => ?_⟩
      obtain ⟨b1, b2, b3⟩ := a4 y
      refine ⟨b1, b2, b3.imp (Nat.le_refl _) ?_ ?_ y (fun _ _ _ => rfl)⟩
      · rintro x k m r ⟨m2, r2, c1, c2, c3⟩
        exact ⟨m2, r2, c1, c2, Or.inr c3⟩
      · rintro x k m r ⟨m2, r2, c1, c2, c3⟩
        exact (u _ _ _ _ c3).2.1
/-- a branch over a block -/
theorem Seg.br {cod : Nat → Int32} {p q h m r : Nat} (hm : m ≤ 12) (hr : r ≤ 12) (c0 : cod p = 19) (c1 : cod (p + 1) = nI q) (b : Seg cod (p + 2) q h h m r m r) : Seg cod p q (h + 1) h m r m r := by
  obtain ⟨hpq, T, ⟨m0, r0, e1, e2, t0⟩, t⟩ := b
  refine ⟨by omega, fun pc k m' r' => (pc = p ∧ k = h + 1 ∧ m' = m ∧ r' = r) ∨ T pc k m' r' ∨ (pc = q ∧ k = h ∧ m' = m ∧ r' = r), Tw.of (Or.inl ⟨rfl, rfl, rfl, rfl⟩), ?_⟩
  rintro pc k m' r' (⟨rfl, rfl, rfl, rfl⟩ | z | ⟨rfl, rfl, rfl, rfl⟩)
  · refine ⟨Nat.le_refl _, by omega, fun z => by omega, fun _ => ⟨hm, hr, ?_⟩⟩
    exact Or.inr (Or.inr (Or.inr (Or.inr (Or.inr (Or.inr (Or.inr (Or.inl ⟨c0, h, q, rfl, ⟨m0, r0, e1, e2, Or.inr (Or.inl t0)⟩, c1, Tw.of (Or.inr (Or.inr ⟨rfl, rfl, rfl, rfl⟩))⟩)))))))
  · obtain ⟨a1, a2, a3, a4⟩ := t pc k m' r' z
    refine ⟨by omega, a2, a3, fun y => ?_⟩
    obtain ⟨b1, b2, b3⟩ := a4 y
    refine ⟨b1, b2, b3.imp (Nat.le_refl _) ?_ ?_ y (fun _ _ _ => rfl)⟩
    · rintro x k m r ⟨m2, r2, c1, c2, c3⟩
      exact ⟨m2, r2, c1, c2, Or.inr (Or.inl c3)⟩
    · rintro x k m r ⟨m2, r2, c1, c2, c3⟩
      exact (t _ _ _ _ c3).2.1
  · exact ⟨by omega, Nat.le_refl _, fun _ => ⟨rfl, Nat.le_refl _, Nat.le_refl _⟩, fun z => absurd z (Nat.lt_irrefl _)⟩
/-- a branch with two blocks -/
theorem Seg.br2 {cod : Nat → Int32} {p p2 q h m r : Nat} (hm : m ≤ 12) (hr : r ≤ 12) (c0 : cod p = 19) (c1 : cod (p + 1) = nI (p2 + 2)) (b : Seg cod (p + 2) p2 h h m r m r) (d0 : cod p2 = 18) (d1 : cod (p2 + 1) = nI q) (b2 : Seg cod (p2 + 2) q h h m r m r) : Seg cod p q (h + 1) h m r m r := by
  obtain ⟨hpq, T, ⟨m0, r0, e1, e2, t0⟩, t⟩ := b
  obtain ⟨hpq2, U, ⟨m3, r3, f1, f2, u0⟩, u⟩ := b2
  refine ⟨by omega, fun pc k m' r' => (pc = p ∧ k = h + 1 ∧ m' = m ∧ r' = r) ∨ (pc < p2 ∧ T pc k m' r') ∨ (pc = p2 ∧ k = h ∧ m' = m ∧ r' = r) ∨ U pc k m' r' ∨ (pc = q ∧ k = h ∧ m' = m ∧ r' = r), Tw.of (Or.inl ⟨rfl, rfl, rfl, rfl⟩), ?_⟩
  rintro pc k m' r' (⟨rfl, rfl, rfl, rfl⟩ | ⟨hlt, z⟩ | ⟨rfl, rfl, rfl, rfl⟩ | z | ⟨rfl, rfl, rfl, rfl⟩)
  · refine ⟨Nat.le_refl _, by omega, fun z => by omega, fun _ => ⟨hm, hr, ?_⟩⟩
    refine Or.inr (Or.inr (Or.inr (Or.inr (Or.inr (Or.inr (Or.inr (Or.inl ⟨c0, h, p2 + 2, rfl, ?_, c1, ⟨m3, r3, f1, f2, Or.inr (Or.inr (Or.inr (Or.inl u0)))⟩⟩)))))))
    by_cases hp : pc + 2 = p2
    · exact Tw.of (Or.inr (Or.inr (Or.inl ⟨hp, rfl, rfl, rfl⟩)))
    · exact ⟨m0, r0, e1, e2, Or.inr (Or.inl ⟨by omega, t0⟩)⟩
  · obtain ⟨a1, a2, a3, a4⟩ := t pc k m' r' z
    refine ⟨by omega, by omega, fun y => by omega, fun _ => ?_⟩
    obtain ⟨b1, b2, b3⟩ := a4 hlt
    exact ⟨b1, b2, seg_in b3 (by omega) hlt (fun pc k m' r' z => ⟨(t pc k m' r' z).2.1, (t pc k m' r' z).2.2.1⟩) (fun pc k m' r' z1 z2 => Or.inr (Or.inl ⟨z1, z2⟩)) (Tw.of (Or.inr (Or.inr (Or.inl ⟨rfl, rfl, rfl, rfl⟩))))⟩
  · refine ⟨by omega, by omega, fun y => by omega, fun _ => ⟨hm, hr, ?_⟩⟩
    exact Or.inr (Or.inr (Or.inr (Or.inr (Or.inr (Or.inr (Or.inl ⟨d0, by omega, q, d1, Tw.of (Or.inr (Or.inr (Or.inr (Or.inr ⟨rfl, rfl, rfl, rfl⟩))))⟩))))))
  · obtain ⟨a1, a2, a3, a4⟩ := u pc k m' r' z
    refine ⟨by omega, a2, a3, fun y => ?_⟩
    obtain ⟨b1, b2, b3⟩ := a4 y
    refine ⟨b1, b2, b3.imp (Nat.le_refl _) ?_ ?_ y (fun _ _ _ => rfl)⟩
    · rintro x k m r ⟨m2, r2, c1, c2, c3⟩
      exact ⟨m2, r2, c1, c2, Or.inr (Or.inr (Or.inr (Or.inl c3)))⟩
    · rintro x k m r ⟨m2, r2, c1, c2, c3⟩
      exact (u _ _ _ _ c3).2.1
  · exact ⟨by omega, Nat.le_refl _, fun _ => ⟨rfl, Nat.le_refl _, Nat.le_refl _⟩, fun z => absurd z (Nat.lt_irrefl _)⟩
/-- a loop -/
theorem Seg.loop {cod : Nat → Int32} {p p1 p2 h m r : Nat} (hm : m ≤ 12) (hr : r ≤ 12) (a : Seg cod p p1 h (h + 1) m r m r) (hp1 : p < p1) (c0 : cod p1 = 19) (c1 : cod (p1 + 1) = nI (p2 + 2)) (b : Seg cod (p1 + 2) p2 h h m r m r) (d0 : cod p2 = 18) (d1 : cod (p2 + 1) = nI p) : Seg cod p (p2 + 2) h h m r m r := by
  obtain ⟨-, S, ⟨m4, r4, g1, g2, s0⟩, s⟩ := a
  obtain ⟨hpq, T, ⟨m0, r0, e1, e2, t0⟩, t⟩ := b
  refine ⟨by omega, fun pc k m' r' => (pc < p1 ∧ S pc k m' r') ∨ (pc = p1 ∧ k = h + 1 ∧ m' = m ∧ r' = r) ∨ (pc < p2 ∧ T pc k m' r') ∨ (pc = p2 ∧ k = h ∧ m' = m ∧ r' = r) ∨ (pc = p2 + 2 ∧ k = h ∧ m' = m ∧ r' = r), ⟨m4, r4, g1, g2, Or.inl ⟨hp1, s0⟩⟩, ?_⟩
  rintro pc k m' r' (⟨hlt, z⟩ | ⟨rfl, rfl, rfl, rfl⟩ | ⟨hlt, z⟩ | ⟨rfl, rfl, rfl, rfl⟩ | ⟨rfl, rfl, rfl, rfl⟩)
  · obtain ⟨a1, a2, a3, a4⟩ := s pc k m' r' z
    refine ⟨by omega, by omega, fun y => by omega, fun _ => ?_⟩
    obtain ⟨b1, b2, b3⟩ := a4 hlt
    exact ⟨b1, b2, seg_in b3 (by omega) hlt (fun pc k m' r' z => ⟨(s pc k m' r' z).2.1, (s pc k m' r' z).2.2.1⟩) (fun pc k m' r' z1 z2 => Or.inl ⟨z1, z2⟩) (Tw.of (Or.inr (Or.inl ⟨rfl, rfl, rfl, rfl⟩)))⟩
  · refine ⟨by omega, by omega, fun z => by omega, fun _ => ⟨hm, hr, ?_⟩⟩
    refine Or.inr (Or.inr (Or.inr (Or.inr (Or.inr (Or.inr (Or.inr (Or.inl ⟨c0, h, p2 + 2, rfl, ?_, c1, Tw.of (Or.inr (Or.inr (Or.inr (Or.inr ⟨rfl, rfl, rfl, rfl⟩))))⟩)))))))
    by_cases hp : pc + 2 = p2
    · exact Tw.of (Or.inr (Or.inr (Or.inr (Or.inl ⟨hp, rfl, rfl, rfl⟩))))
    · exact ⟨m0, r0, e1, e2, Or.inr (Or.inr (Or.inl ⟨by omega, t0⟩))⟩
  · obtain ⟨a1, a2, a3, a4⟩ := t pc k m' r' z
    refine ⟨by omega, by omega, fun y => by omega, fun _ => ?_⟩
    obtain ⟨b1, b2, b3⟩ := a4 hlt
    exact ⟨b1, b2, seg_in b3 (by omega) hlt (fun pc k m' r' z => ⟨(t pc k m' r' z).2.1, (t pc k m' r' z).2.2.1⟩) (fun pc k m' r' z1 z2 => Or.inr (Or.inr (Or.inl ⟨z1, z2⟩))) (Tw.of (Or.inr (Or.inr (Or.inr (Or.inl ⟨rfl, rfl, rfl, rfl⟩)))))⟩
  · refine ⟨by omega, by omega, fun y => by omega, fun _ => ⟨hm, hr, ?_⟩⟩
    exact Or.inr (Or.inr (Or.inr (Or.inr (Or.inr (Or.inr (Or.inl ⟨d0, by omega, p, d1, ⟨m4, r4, g1, g2, Or.inl ⟨hp1, s0⟩⟩⟩))))))
  · exact ⟨by omega, Nat.le_refl _, fun _ => ⟨rfl, Nat.le_refl _, Nat.le_refl _⟩, fun z => absurd z (Nat.lt_irrefl _)⟩
