/-! well-formed, with all of the class's notes: where it ends, the masks around, whether it is secret -/
abbrev NT : Type := ((Nat → Int32) × (Nat → Int32)) × (Nat → Int32)
theorem upd_eq (f : Nat → Int32) (k : Nat) (x : Int32) : upd f k x k = x := by unfold upd; rw [if_pos rfl]
theorem upd_ne (f : Nat → Int32) {k j : Nat} (x : Int32) (h : ¬ j = k) : upd f k x j = f j := by unfold upd; rw [if_neg h]
def Agr (N N' : NT) (a b : Nat) : Prop := ∀ i, a ≤ i → i < b → N'.1.1 i = N.1.1 i ∧ N'.1.2 i = N.1.2 i ∧ N'.2 i = N.2 i
def QB (N : NT) (i : Nat) : Prop := ¬ N.1.1 i = 0 → N.2 i = 0 ∨ N.2 i = 1
def FR (N N' : NT) (a b : Nat) : Prop := (∀ i, (i < a ∨ b ≤ i) → N'.1.1 i = N.1.1 i ∧ N'.1.2 i = N.1.2 i ∧ N'.2 i = N.2 i) ∧ ∀ i, QB N i → QB N' i
def ZB (N : NT) (a : Nat) : Prop := ∀ i, a ≤ i → i < 400 → N.1.1 i = 0
theorem FR.refl (N : NT) (a b : Nat) : FR N N a b := ⟨fun _ _ => ⟨rfl, rfl, rfl⟩, fun _ z => z⟩
theorem FR.trans {N N' N'' : NT} {a b c : Nat} (h : FR N N' a b) (k : FR N' N'' b c) (hab : a ≤ b) (hbc : b ≤ c) : FR N N'' a c := by
  refine ⟨?_, fun i z => k.2 i (h.2 i z)⟩
  intro i hi
  obtain ⟨h1, h2, h3⟩ := h.1 i (by omega)
  obtain ⟨k1, k2, k3⟩ := k.1 i (by omega)
  exact ⟨k1.trans h1, k2.trans h2, k3.trans h3⟩
theorem FR.wide {N N' : NT} {a b a' b' : Nat} (h : FR N N' a b) (ha : a' ≤ a) (hb : b ≤ b') : FR N N' a' b' := ⟨fun i hi => h.1 i (by omega), h.2⟩
theorem FR.agr {N N' : NT} {a b c d : Nat} (h : FR N N' c d) (hs : b ≤ c ∨ d ≤ a) : Agr N N' a b := fun i h1 h2 => h.1 i (by omega)
theorem FR.zb {N N' : NT} {a b : Nat} (h : FR N N' a b) (hab : a ≤ b) (z : ZB N a) : ZB N' b := fun i h1 h2 => ((h.1 i (Or.inr h1)).1).trans (z i (by omega) h2)
theorem Agr.sub {N N' : NT} {a b a' b' : Nat} (h : Agr N N' a b) (ha : a ≤ a') (hb : b' ≤ b) : Agr N N' a' b' := fun i h1 h2 => h i (by omega) (by omega)
section NOTES
variable (w sv stb : Nat → Int32)
def aE (N : NT) (m : Nat) : Nat → Nat → Nat → Prop
  | 0, _, _ => False
  | d + 1, a, b => N.1.1 a = nI b ∧ N.1.2 a = nI m ∧ ((w a = 20 ∧ b = a + 2 ∧ N.1.1 (a + 1) = 0 ∧ N.2 a = 0)
      ∨ (w a = 21 ∧ vp_in (w (a + 1)) 10 ∧ b = a + 2 ∧ N.1.1 (a + 1) = 0 ∧ (N.2 a = 0 ↔ sv (w (a + 1)).toNatClampNeg = 0))
      ∨ (w a = 35 ∧ vp_in (w (a + 1)) 4 ∧ aE N m d (a + 2) b ∧ N.1.1 (a + 1) = 0 ∧ (N.2 a = 0 ↔ stb (w (a + 1)).toNatClampNeg = 0 ∧ N.2 (a + 2) = 0))
      ∨ (w a = 32 ∧ aE N m d (a + 1) b ∧ (N.2 a = 0 ↔ N.2 (a + 1) = 0))
      ∨ (w a = 36 ∧ ∃ c e, aE N m d (a + 1) c ∧ aE N m d c e ∧ aE N m d e b ∧ (N.2 a = 0 ↔ N.2 (a + 1) = 0 ∧ N.2 c = 0 ∧ N.2 e = 0))
      ∨ (isBin (w a) ∧ ∃ c, aE N m d (a + 1) c ∧ aE N m d c b ∧ (N.2 a = 0 ↔ N.2 (a + 1) = 0 ∧ N.2 c = 0)))
def aS (N : NT) : Nat → Nat → Nat → Nat → Prop
  | 0, _, _, _ => False
  | d + 1, m, a, b => N.1.1 a = nI b ∧ N.1.2 a = nI m ∧ ((w a = 1 ∧ vp_in (w (a + 1)) 10 ∧ N.1.1 (a + 1) = 0 ∧ aE w sv stb N m d (a + 2) b ∧ (N.2 a = 0 ↔ N.2 (a + 2) = 0))
      ∨ (w a = 2 ∧ vp_in (w (a + 1)) 4 ∧ N.1.1 (a + 1) = 0 ∧ ∃ c, aE w sv stb N m d (a + 2) c ∧ aE w sv stb N m d c b ∧ (N.2 a = 0 ↔ N.2 (a + 2) = 0 ∧ N.2 c = 0))
      ∨ (w a = 3 ∧ ∃ c e m', aE w sv stb N m d (a + 1) c ∧ (m' = if N.2 (a + 1) = 0 then m else m + 1) ∧ (∃ j, nL (aS N d m') j c e) ∧ N.1.1 e = 0 ∧ ((w e = 0 ∧ b = e + 1) ∨ (w e = 4 ∧ ∃ f, (∃ j, nL (aS N d m') j (e + 1) f) ∧ N.1.1 f = 0 ∧ w f = 0 ∧ b = f + 1)))
      ∨ (w a = 5 ∧ ∃ c e, aE w sv stb N m d (a + 1) c ∧ (N.2 a = 0 ↔ N.2 (a + 1) = 0) ∧ (∃ j, nL (aS N d m) j c e) ∧ N.1.1 e = 0 ∧ w e = 0 ∧ b = e + 1)
      ∨ (w a = 6 ∧ vp_in (w (a + 1)) 21 ∧ N.1.1 (a + 1) = 0 ∧ ∃ e, (∃ j, nL (aS N d m) j (a + 2) e) ∧ N.1.1 e = 0 ∧ w e = 0 ∧ b = e + 1)
      ∨ (w a = 7 ∧ aE w sv stb N m d (a + 1) b ∧ (N.2 a = 0 ↔ N.2 (a + 1) = 0)))
end NOTES
section WF2
variable {w sv stb : Nat → Int32}
theorem aE_nE {N : NT} {m : Nat} : ∀ {d a b : Nat}, aE w sv stb N m d a b → nE w N.1.1 d a b := by
  intro d
  induction d with
  | zero => intro a b h; exact h.elim
  | succ d ih =>
    intro a b h
    obtain ⟨h0, -, h | h | h | h | h | h⟩ := h
    · exact ⟨h0, Or.inl ⟨h.1, h.2.1⟩⟩
    · exact ⟨h0, Or.inr (Or.inl ⟨h.1, h.2.1, h.2.2.1⟩)⟩
    · exact ⟨h0, Or.inr (Or.inr (Or.inl ⟨h.1, h.2.1, ih h.2.2.1⟩))⟩
    · exact ⟨h0, Or.inr (Or.inr (Or.inr (Or.inl ⟨h.1, ih h.2.1⟩)))⟩
    · obtain ⟨h1, c, e, k1, k2, k3, -⟩ := h
      exact ⟨h0, Or.inr (Or.inr (Or.inr (Or.inr (Or.inl ⟨h1, c, e, ih k1, ih k2, ih k3⟩))))⟩
    · obtain ⟨h1, c, k1, k2, -⟩ := h
      exact ⟨h0, Or.inr (Or.inr (Or.inr (Or.inr (Or.inr ⟨h1, c, ih k1, ih k2⟩))))⟩
theorem nL_mono {P Q : Nat → Nat → Prop} (h : ∀ a b, P a b → Q a b) : ∀ {j a b : Nat}, nL P j a b → nL Q j a b := by
  intro j
  induction j with
  | zero => intro a b k; exact k
  | succ j ih =>
    intro a b k
    obtain ⟨c, k1, k2⟩ := k
    exact ⟨c, h _ _ k1, ih k2⟩
theorem aS_nS {N : NT} : ∀ {d m a b : Nat}, aS w sv stb N d m a b → nS w N.1.1 d a b := by
  intro d
  induction d with
  | zero => intro m a b h; exact h.elim
  | succ d ih =>
    intro m a b h
    obtain ⟨h0, -, h | h | h | h | h | h⟩ := h
    · exact ⟨h0, Or.inl ⟨h.1, h.2.1, aE_nE h.2.2.2.1⟩⟩
    · obtain ⟨h1, h2, -, c, k1, k2, -⟩ := h
      exact ⟨h0, Or.inr (Or.inl ⟨h1, h2, c, aE_nE k1, aE_nE k2⟩)⟩
    · obtain ⟨h1, c, e, m', k1, -, ⟨j, k2⟩, k3, k4⟩ := h
      refine ⟨h0, Or.inr (Or.inr (Or.inl ⟨h1, c, e, aE_nE k1, ⟨j, nL_mono (fun _ _ => ih) k2⟩, k3, ?_⟩))⟩
      rcases k4 with k4 | ⟨k4, f, ⟨j', k5⟩, k6⟩
      · exact Or.inl k4
      · exact Or.inr ⟨k4, f, ⟨j', nL_mono (fun _ _ => ih) k5⟩, k6⟩
    · obtain ⟨h1, c, e, k1, -, ⟨j, k2⟩, k3⟩ := h
      exact ⟨h0, Or.inr (Or.inr (Or.inr (Or.inl ⟨h1, c, e, aE_nE k1, ⟨j, nL_mono (fun _ _ => ih) k2⟩, k3⟩)))⟩
    · obtain ⟨h1, h2, -, e, ⟨j, k2⟩, k3⟩ := h
      exact ⟨h0, Or.inr (Or.inr (Or.inr (Or.inr (Or.inl ⟨h1, h2, e, ⟨j, nL_mono (fun _ _ => ih) k2⟩, k3⟩))))⟩
    · exact ⟨h0, Or.inr (Or.inr (Or.inr (Or.inr (Or.inr ⟨h.1, aE_nE h.2.1⟩))))⟩
theorem aE_lt {N : NT} {m d a b : Nat} (h : aE w sv stb N m d a b) : a + 2 ≤ b := nE_lt (aE_nE h)
theorem aS_lt {N : NT} {m d a b : Nat} (h : aS w sv stb N d m a b) : a + 2 ≤ b := nS_lt (aS_nS h)
theorem aSL_le {N : NT} {m d j a b : Nat} (h : nL (aS w sv stb N d m) j a b) : a + 2 * j ≤ b := nL_le (fun _ _ h => aS_lt h) h
theorem aE_congr {N N' : NT} {m : Nat} : ∀ {d a b : Nat}, aE w sv stb N m d a b → Agr N N' a b → aE w sv stb N' m d a b := by
  intro d
  induction d with
  | zero => intro a b h; exact h.elim
  | succ d ih =>
    intro a b h g
    have hlt := aE_lt h
    obtain ⟨ga1, ga2, ga3⟩ := g a (Nat.le_refl _) (by omega)
    obtain ⟨gb1, gb2, gb3⟩ := g (a + 1) (by omega) (by omega)
    obtain ⟨h0, h0', h | h | h | h | h | h⟩ := h
    · refine ⟨ga1.trans h0, ga2.trans h0', Or.inl ⟨h.1, h.2.1, ?_, ?_⟩⟩
      · rw [gb1]; exact h.2.2.1
      · rw [ga3]; exact h.2.2.2
    · refine ⟨ga1.trans h0, ga2.trans h0', Or.inr (Or.inl ⟨h.1, h.2.1, h.2.2.1, ?_, ?_⟩)⟩
      · rw [gb1]; exact h.2.2.2.1
      · rw [ga3]; exact h.2.2.2.2
    · obtain ⟨h1, h2, k1, k2, k3⟩ := h
      have l1 := aE_lt k1
      refine ⟨ga1.trans h0, ga2.trans h0', Or.inr (Or.inr (Or.inl ⟨h1, h2, ih k1 (g.sub (by omega) (by omega)), ?_, ?_⟩))⟩
      · rw [gb1]; exact k2
      · rw [ga3, (g (a + 2) (by omega) (by omega)).2.2]; exact k3
    · obtain ⟨h1, k1, k3⟩ := h
      have l1 := aE_lt k1
      refine ⟨ga1.trans h0, ga2.trans h0', Or.inr (Or.inr (Or.inr (Or.inl ⟨h1, ih k1 (g.sub (by omega) (by omega)), ?_⟩)))⟩
      rw [ga3, gb3]; exact k3
    · obtain ⟨h1, c, e, k1, k2, k3, k4⟩ := h
      have l1 := aE_lt k1
      have l2 := aE_lt k2
      have l3 := aE_lt k3
      refine ⟨ga1.trans h0, ga2.trans h0', Or.inr (Or.inr (Or.inr (Or.inr (Or.inl ⟨h1, c, e, ih k1 (g.sub (by omega) (by omega)), ih k2 (g.sub (by omega) (by omega)), ih k3 (g.sub (by omega) (by omega)), ?_⟩))))⟩
      rw [ga3, gb3, (g c (by omega) (by omega)).2.2, (g e (by omega) (by omega)).2.2]; exact k4
    · obtain ⟨h1, c, k1, k2, k4⟩ := h
      have l1 := aE_lt k1
      have l2 := aE_lt k2
      refine ⟨ga1.trans h0, ga2.trans h0', Or.inr (Or.inr (Or.inr (Or.inr (Or.inr ⟨h1, c, ih k1 (g.sub (by omega) (by omega)), ih k2 (g.sub (by omega) (by omega)), ?_⟩))))⟩
      rw [ga3, gb3, (g c (by omega) (by omega)).2.2]; exact k4
theorem nL_congr {P Q : Nat → Nat → Prop} (hP : ∀ a b, P a b → a + 2 ≤ b) {N N' : NT} (h : ∀ a b, P a b → Agr N N' a b → Q a b) : ∀ {j a b : Nat}, nL P j a b → Agr N N' a b → nL Q j a b := by
  intro j
  induction j with
  | zero => intro a b k _; exact k
  | succ j ih =>
    intro a b k g
    obtain ⟨c, k1, k2⟩ := k
    have l1 := hP _ _ k1
    have l2 := nL_le hP k2
    exact ⟨c, h _ _ k1 (g.sub (by omega) (by omega)), ih k2 (g.sub (by omega) (by omega))⟩
theorem aS_congr {N N' : NT} : ∀ {d m a b : Nat}, aS w sv stb N d m a b → Agr N N' a b → aS w sv stb N' d m a b := by
  intro d
  induction d with
  | zero => intro m a b h; exact h.elim
  | succ d ih =>
    intro m a b h g
    have hlt := aS_lt h
    have hL : ∀ {m j a b : Nat}, nL (aS w sv stb N d m) j a b → Agr N N' a b → nL (aS w sv stb N' d m) j a b := fun k q => nL_congr (fun _ _ h => aS_lt h) (fun _ _ => ih) k q
    obtain ⟨ga1, ga2, ga3⟩ := g a (Nat.le_refl _) (by omega)
    obtain ⟨gb1, gb2, gb3⟩ := g (a + 1) (by omega) (by omega)
    obtain ⟨h0, h0', h | h | h | h | h | h⟩ := h
    · obtain ⟨h1, h2, h3, k1, k2⟩ := h
      have l1 := aE_lt k1
      refine ⟨ga1.trans h0, ga2.trans h0', Or.inl ⟨h1, h2, gb1.trans h3, aE_congr k1 (g.sub (by omega) (by omega)), ?_⟩⟩
      rw [ga3, (g (a + 2) (by omega) (by omega)).2.2]; exact k2
    · obtain ⟨h1, h2, h3, c, k1, k2, k3⟩ := h
      have l1 := aE_lt k1
      have l2 := aE_lt k2
      refine ⟨ga1.trans h0, ga2.trans h0', Or.inr (Or.inl ⟨h1, h2, gb1.trans h3, c, aE_congr k1 (g.sub (by omega) (by omega)), aE_congr k2 (g.sub (by omega) (by omega)), ?_⟩)⟩
      rw [ga3, (g (a + 2) (by omega) (by omega)).2.2, (g c (by omega) (by omega)).2.2]; exact k3
    · obtain ⟨h1, c, e, m', k1, k2, ⟨j, k3⟩, k4, k5⟩ := h
      have l1 := aE_lt k1
      have l2 := aSL_le k3
      have heb : e < b := by
        rcases k5 with k5 | ⟨-, f, ⟨j', k6⟩, -, -, k7⟩
        · omega
        · have := aSL_le k6; omega
      refine ⟨ga1.trans h0, ga2.trans h0', Or.inr (Or.inr (Or.inl ⟨h1, c, e, m', aE_congr k1 (g.sub (by omega) (by omega)), ?_, ⟨j, hL k3 (g.sub (by omega) (by omega))⟩, ((g e (by omega) (by omega)).1).trans k4, ?_⟩))⟩
      · rw [gb3]; exact k2
      · rcases k5 with k5 | ⟨k5, f, ⟨j', k6⟩, k7, k8, k9⟩
        · exact Or.inl k5
        · have l3 := aSL_le k6
          exact Or.inr ⟨k5, f, ⟨j', hL k6 (g.sub (by omega) (by omega))⟩, ((g f (by omega) (by omega)).1).trans k7, k8, k9⟩
    · obtain ⟨h1, c, e, k1, k2, ⟨j, k3⟩, k4, k5, k6⟩ := h
      have l1 := aE_lt k1
      have l2 := aSL_le k3
      refine ⟨ga1.trans h0, ga2.trans h0', Or.inr (Or.inr (Or.inr (Or.inl ⟨h1, c, e, aE_congr k1 (g.sub (by omega) (by omega)), ?_, ⟨j, hL k3 (g.sub (by omega) (by omega))⟩, ((g e (by omega) (by omega)).1).trans k4, k5, k6⟩)))⟩
      rw [ga3, gb3]; exact k2
    · obtain ⟨h1, h2, h3, e, ⟨j, k3⟩, k4, k5, k6⟩ := h
      have l2 := aSL_le k3
      exact ⟨ga1.trans h0, ga2.trans h0', Or.inr (Or.inr (Or.inr (Or.inr (Or.inl ⟨h1, h2, gb1.trans h3, e, ⟨j, hL k3 (g.sub (by omega) (by omega))⟩, ((g e (by omega) (by omega)).1).trans k4, k5, k6⟩))))⟩
    · obtain ⟨h1, k1, k2⟩ := h
      have l1 := aE_lt k1
      refine ⟨ga1.trans h0, ga2.trans h0', Or.inr (Or.inr (Or.inr (Or.inr (Or.inr ⟨h1, aE_congr k1 (g.sub (by omega) (by omega)), ?_⟩))))⟩
      rw [ga3, gb3]; exact k2
end WF2
