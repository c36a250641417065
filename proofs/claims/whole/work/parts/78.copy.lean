/-! copies: of the words and of the notes that count -/
def AgW (w w' : Nat → Int32) (N N' : NT) (a b : Nat) : Prop := ∀ i, a ≤ i → i < b → w' i = w i ∧ N'.1.1 i = N.1.1 i ∧ N'.1.2 i = N.1.2 i ∧ (¬ N.1.1 i = 0 → N'.2 i = N.2 i)
theorem AgW.sub {w w' : Nat → Int32} {N N' : NT} {a b a' b' : Nat} (h : AgW w w' N N' a b) (ha : a ≤ a') (hb : b' ≤ b) : AgW w w' N N' a' b' := fun i h1 h2 => h i (by omega) (by omega)
theorem nI_nz {b : Nat} (h : 0 < b) (hb : b ≤ 400) : ¬ nI b = 0 := fun z => absurd ((nI_eq (b := 0) (by omega) (by decide)).mp z) (by omega)
section CG
variable {w w' sv stb : Nat → Int32} {N N' : NT}
theorem node_s {m d p q a b : Nat} (k : aE w sv stb N m d p q) (g : AgW w w' N N' a b) (h1 : a ≤ p) (h2 : q ≤ b) (hb : b ≤ 400) : N'.2 p = N.2 p := by
  have := aE_lt k
  refine (g p h1 (by omega)).2.2.2 ?_
  rw [aE_be k]
  exact nI_nz (by omega) (by omega)
theorem aE_cg {m : Nat} : ∀ {d a b : Nat}, aE w sv stb N m d a b → b ≤ 400 → AgW w w' N N' a b → aE w' sv stb N' m d a b := by
  intro d
  induction d with
  | zero => intro a b h; exact h.elim
  | succ d ih =>
    intro a b h hb g
    have hlt := aE_lt h
    have hs := node_s h g (Nat.le_refl _) (Nat.le_refl _) hb
    obtain ⟨gw, ga1, ga2, -⟩ := g a (Nat.le_refl _) (by omega)
    obtain ⟨gx, gb1, gb2, -⟩ := g (a + 1) (by omega) (by omega)
    obtain ⟨h0, h0', h | h | h | h | h | h⟩ := h
    · refine ⟨ga1.trans h0, ga2.trans h0', Or.inl ?_⟩
      rw [gw, hs, gb1]; exact h
    · refine ⟨ga1.trans h0, ga2.trans h0', Or.inr (Or.inl ?_)⟩
      rw [gw, gx, hs, gb1]; exact h
    · obtain ⟨h1, h2, k1, k2, k3⟩ := h
      have l1 := aE_lt k1
      refine ⟨ga1.trans h0, ga2.trans h0', Or.inr (Or.inr (Or.inl ?_))⟩
      rw [gw, gx, hs, gb1, node_s k1 g (by omega) (by omega) hb]
      exact ⟨h1, h2, ih k1 (by omega) (g.sub (by omega) (by omega)), k2, k3⟩
    · obtain ⟨h1, k1, k3⟩ := h
      have l1 := aE_lt k1
      refine ⟨ga1.trans h0, ga2.trans h0', Or.inr (Or.inr (Or.inr (Or.inl ⟨gw.trans h1, ih k1 (by omega) (g.sub (by omega) (by omega)), ?_⟩)))⟩
      rw [hs, node_s k1 g (by omega) (by omega) hb]; exact k3
    · obtain ⟨h1, c, e, k1, k2, k3, k4⟩ := h
      have l1 := aE_lt k1
      have l2 := aE_lt k2
      have l3 := aE_lt k3
      refine ⟨ga1.trans h0, ga2.trans h0', Or.inr (Or.inr (Or.inr (Or.inr (Or.inl ⟨gw.trans h1, c, e, ih k1 (by omega) (g.sub (by omega) (by omega)), ih k2 (by omega) (g.sub (by omega) (by omega)), ih k3 (by omega) (g.sub (by omega) (by omega)), ?_⟩))))⟩
      rw [hs, node_s k1 g (by omega) (by omega) hb, node_s k2 g (by omega) (by omega) hb, node_s k3 g (by omega) (by omega) hb]; exact k4
    · obtain ⟨h1, c, k1, k2, k4⟩ := h
      have l1 := aE_lt k1
      have l2 := aE_lt k2
      refine ⟨ga1.trans h0, ga2.trans h0', Or.inr (Or.inr (Or.inr (Or.inr (Or.inr ⟨by rw [gw]; exact h1, c, ih k1 (by omega) (g.sub (by omega) (by omega)), ih k2 (by omega) (g.sub (by omega) (by omega)), ?_⟩))))⟩
      rw [hs, node_s k1 g (by omega) (by omega) hb, node_s k2 g (by omega) (by omega) hb]; exact k4
theorem nL_cg {P Q : Nat → Nat → Prop} (hP : ∀ a b, P a b → a + 2 ≤ b) (h : ∀ a b, P a b → b ≤ 400 → AgW w w' N N' a b → Q a b) : ∀ {j a b : Nat}, nL P j a b → b ≤ 400 → AgW w w' N N' a b → nL Q j a b := by
  intro j
  induction j with
  | zero => intro a b k _ _; exact k
  | succ j ih =>
    intro a b k hb g
    obtain ⟨c, k1, k2⟩ := k
    have l1 := hP _ _ k1
    have l2 := nL_le hP k2
    exact ⟨c, h _ _ k1 (by omega) (g.sub (by omega) (by omega)), ih k2 hb (g.sub (by omega) (by omega))⟩
theorem aS_be {m d a b : Nat} (h : aS w sv stb N d m a b) : N.1.1 a = nI b := by
  cases d with
  | zero => exact h.elim
  | succ d => exact h.1
theorem aS_cg : ∀ {d m a b : Nat}, aS w sv stb N d m a b → b ≤ 400 → AgW w w' N N' a b → aS w' sv stb N' d m a b := by
  intro d
  induction d with
  | zero => intro m a b h; exact h.elim
  | succ d ih =>
    intro m a b h hb g
    have hlt := aS_lt h
    have hL : ∀ {m j a b : Nat}, nL (aS w sv stb N d m) j a b → b ≤ 400 → AgW w w' N N' a b → nL (aS w' sv stb N' d m) j a b := fun k q1 q2 => nL_cg (fun _ _ h => aS_lt h) (fun _ _ => ih) k q1 q2
    obtain ⟨gw, ga1, ga2, ga3⟩ := g a (Nat.le_refl _) (by omega)
    have hs : N'.2 a = N.2 a := ga3 (by rw [aS_be h]; exact nI_nz (by omega) (by omega))
    obtain ⟨gx, gb1, gb2, -⟩ := g (a + 1) (by omega) (by omega)
    obtain ⟨h0, h0', h | h | h | h | h | h⟩ := h
    · obtain ⟨h1, h2, h3, k1, k2⟩ := h
      have l1 := aE_lt k1
      refine ⟨ga1.trans h0, ga2.trans h0', Or.inl ⟨gw.trans h1, by rw [gx]; exact h2, gb1.trans h3, aE_cg k1 (by omega) (g.sub (by omega) (by omega)), ?_⟩⟩
      rw [hs, node_s k1 g (by omega) (by omega) hb]; exact k2
    · obtain ⟨h1, h2, h3, c, k1, k2, k3⟩ := h
      have l1 := aE_lt k1
      have l2 := aE_lt k2
      refine ⟨ga1.trans h0, ga2.trans h0', Or.inr (Or.inl ⟨gw.trans h1, by rw [gx]; exact h2, gb1.trans h3, c, aE_cg k1 (by omega) (g.sub (by omega) (by omega)), aE_cg k2 (by omega) (g.sub (by omega) (by omega)), ?_⟩)⟩
      rw [hs, node_s k1 g (by omega) (by omega) hb, node_s k2 g (by omega) (by omega) hb]; exact k3
    · obtain ⟨h1, c, e, m', k1, k2, ⟨j, k3⟩, k4, k5⟩ := h
      have l1 := aE_lt k1
      have l2 := aSL_le k3
      have heb : e < b := by
        rcases k5 with k5 | ⟨-, f, ⟨j', k6⟩, -, -, k7⟩
        · omega
        · have := aSL_le k6; omega
      obtain ⟨ge0, ge1, -, -⟩ := g e (by omega) heb
      refine ⟨ga1.trans h0, ga2.trans h0', Or.inr (Or.inr (Or.inl ⟨gw.trans h1, c, e, m', aE_cg k1 (by omega) (g.sub (by omega) (by omega)), ?_, ⟨j, hL k3 (by omega) (g.sub (by omega) (by omega))⟩, ge1.trans k4, ?_⟩))⟩
      · rw [node_s k1 g (by omega) (by omega) hb]; exact k2
      · rcases k5 with k5 | ⟨k5, f, ⟨j', k6⟩, k7, k8, k9⟩
        · exact Or.inl ⟨ge0.trans k5.1, k5.2⟩
        · have l3 := aSL_le k6
          obtain ⟨gf0, gf1, -, -⟩ := g f (by omega) (by omega)
          exact Or.inr ⟨ge0.trans k5, f, ⟨j', hL k6 (by omega) (g.sub (by omega) (by omega))⟩, gf1.trans k7, gf0.trans k8, k9⟩
    · obtain ⟨h1, c, e, k1, k2, ⟨j, k3⟩, k4, k5, k6⟩ := h
      have l1 := aE_lt k1
      have l2 := aSL_le k3
      obtain ⟨ge0, ge1, -, -⟩ := g e (by omega) (by omega)
      refine ⟨ga1.trans h0, ga2.trans h0', Or.inr (Or.inr (Or.inr (Or.inl ⟨gw.trans h1, c, e, aE_cg k1 (by omega) (g.sub (by omega) (by omega)), ?_, ⟨j, hL k3 (by omega) (g.sub (by omega) (by omega))⟩, ge1.trans k4, ge0.trans k5, k6⟩)))⟩
      rw [hs, node_s k1 g (by omega) (by omega) hb]; exact k2
    · obtain ⟨h1, h2, h3, e, ⟨j, k3⟩, k4, k5, k6⟩ := h
      have l2 := aSL_le k3
      obtain ⟨ge0, ge1, -, -⟩ := g e (by omega) (by omega)
      exact ⟨ga1.trans h0, ga2.trans h0', Or.inr (Or.inr (Or.inr (Or.inr (Or.inl ⟨gw.trans h1, by rw [gx]; exact h2, gb1.trans h3, e, ⟨j, hL k3 (by omega) (g.sub (by omega) (by omega))⟩, ge1.trans k4, ge0.trans k5, k6⟩))))⟩
    · obtain ⟨h1, k1, k2⟩ := h
      have l1 := aE_lt k1
      refine ⟨ga1.trans h0, ga2.trans h0', Or.inr (Or.inr (Or.inr (Or.inr (Or.inr ⟨gw.trans h1, aE_cg k1 (by omega) (g.sub (by omega) (by omega)), ?_⟩))))⟩
      rw [hs, node_s k1 g (by omega) (by omega) hb]; exact k2
theorem aSL_cg {m d j a b : Nat} (h : nL (aS w sv stb N d m) j a b) (hb : b ≤ 400) (g : AgW w w' N N' a b) : nL (aS w' sv stb N' d m) j a b := nL_cg (fun _ _ h => aS_lt h) (fun _ _ h q1 q2 => aS_cg h q1 q2) h hb g
end CG
theorem narB {v : Int32} (h : v = 0 ∨ v = 1) : vp_nar .boolean v = v := by
  rcases h with rfl | rfl <;> rfl
theorem copy_loop (bt bb bm bs : Nat → Int32) (bz : Int32) : ∀ (q y f : Nat) (tok beh msk sec : Nat → Int32) (siz : Int32), y + q = 400 → q + 1 ≤ f → (∀ i, i < y → tok i = bt i ∧ beh i = bb i ∧ msk i = bm i ∧ sec i = vp_nar .boolean (bs i)) → ∃ tok' beh' msk' sec' : Nat → Int32, f_X2_copyFrom_2 bt bb bm bs bz f tok beh msk sec siz (nI y) = (((tok', beh'), msk'), (sec', bz)) ∧ ∀ i, i < 400 → tok' i = bt i ∧ beh' i = bb i ∧ msk' i = bm i ∧ sec' i = vp_nar .boolean (bs i) := by
  intro q
  induction q with
  | zero =>
    intro y f tok beh msk sec siz hy hf h
    obtain ⟨f, rfl⟩ : ∃ f', f = f' + 1 := ⟨f - 1, by omega⟩
    have ey : y = 400 := by omega
    subst ey
    refine ⟨tok, beh, msk, sec, ?_, h⟩
    rw [f_X2_copyFrom_2, if_pos (show (400 : Int32) ≤ nI 400 by decide)]
  | succ q ih =>
    intro y f tok beh msk sec siz hy hf h
    obtain ⟨f, rfl⟩ : ∃ f', f = f' + 1 := ⟨f - 1, by omega⟩
    rw [f_X2_copyFrom_2, if_neg (show ¬ (400 : Int32) ≤ nI y from nI_ge (b := 400) (by omega) (by decide)), cl_nI (by omega), nI_p1]
    refine ih (y + 1) f _ _ _ _ _ (by omega) (by omega) ?_
    intro i hi
    by_cases z : i = y
    · subst z
      rw [upd_eq, upd_eq, upd_eq, upd_eq]
      exact ⟨rfl, rfl, rfl, rfl⟩
    · rw [upd_ne _ _ z, upd_ne _ _ z, upd_ne _ _ z, upd_ne _ _ z]
      exact h i (by omega)
theorem fill_loop (x : Int32) : ∀ (q y f : Nat) (beh : Nat → Int32), y + q = 400 → q + 1 ≤ f → (∀ i, i < y → beh i = x) → ∀ i, i < 400 → f_J7_fill_53178_5 400 f beh x (nI y) (nI 400) i = x := by
  intro q
  induction q with
  | zero =>
    intro y f beh hy hf h
    obtain ⟨f, rfl⟩ : ∃ f', f = f' + 1 := ⟨f - 1, by omega⟩
    have ey : y = 400 := by omega
    subst ey
    rw [f_J7_fill_53178_5, if_pos (show nI 400 ≤ nI 400 by decide)]
    exact h
  | succ q ih =>
    intro y f beh hy hf h
    obtain ⟨f, rfl⟩ : ∃ f', f = f' + 1 := ⟨f - 1, by omega⟩
    rw [f_J7_fill_53178_5, if_neg (nI_ge (a := y) (b := 400) (by omega) (by decide)), cl_nI (by omega), nI_p1]
    refine ih (y + 1) f _ (by omega) (by omega) ?_
    intro i hi
    by_cases z : i = y
    · subst z
      rw [upd_eq]
    · rw [upd_ne _ _ z]
      exact h i (by omega)
theorem clear_eq (beh : Nat → Int32) (siz : Int32) : ∃ beh' : Nat → Int32, f_X2_clear beh siz = (beh', 0) ∧ ∀ i, i < 400 → beh' i = 0 := by
  refine ⟨f_J7_fill_53178_5 400 401 beh 0 (nI 0) (nI 400), ?_, fill_loop 0 400 0 401 beh (by omega) (by omega) (fun i hi => absurd hi (Nat.not_lt_zero _))⟩
  unfold f_X2_clear f_J7_fill_53178
  rw [bd_d]
  rfl
theorem c114 {n : Nat} (hn : n ≤ 400) (text sv stb cod : Nat → Int32) (words has fpl pos fault plc : Int32) : ∀ (q y f : Nat) (prg : Nat → Int32), y + q = n → q + 1 ≤ f → (∀ i, i < y → prg i = text i) → ∃ prg' : Nat → Int32, (∀ i, i < n → prg' i = text i) ∧ f_X10_check_114 text sv stb f (nI n) prg cod words has fpl pos fault plc (nI y) = f_X10_check_114 text sv stb 1 (nI n) prg' cod words has fpl pos fault plc (nI n) ∧ (ok_X10_check_114 text sv stb 1 (nI n) prg' cod words has fpl pos fault plc (nI n) → ok_X10_check_114 text sv stb f (nI n) prg cod words has fpl pos fault plc (nI y)) := by
  intro q
  induction q with
  | zero =>
    intro y f prg hy hf h
    obtain ⟨f, rfl⟩ : ∃ f', f = f' + 1 := ⟨f - 1, by omega⟩
    have ey : y = n := by omega
    subst ey
    have c : nI y ≤ nI y := nI_le (Nat.le_refl _) (by omega)
    refine ⟨prg, h, ?_, ?_⟩
    · rw [f_X10_check_114, if_pos c, f_X10_check_114, if_pos c]
    · rw [ok_X10_check_114, if_pos c, ok_X10_check_114, if_pos c]
      exact fun z => z
  | succ q ih =>
    intro y f prg hy hf h
    obtain ⟨f, rfl⟩ : ∃ f', f = f' + 1 := ⟨f - 1, by omega⟩
    have c : ¬ nI n ≤ nI y := nI_ge (by omega) (by omega)
    have hv : vp_in (nI y) 400 := vp_in_nI (by omega) (by decide)
    obtain ⟨prg', r1, r2, r3⟩ := ih (y + 1) f (upd prg y (text y)) (by omega) (by omega) (by
      intro i hi
      by_cases z : i = y
      · subst z
        rw [upd_eq]
      · rw [upd_ne _ _ z]
        exact h i (by omega))
    refine ⟨prg', r1, ?_, ?_⟩
    · rw [f_X10_check_114, if_neg c, cl_nI (by omega), nI_p1]
      exact r2
    · intro z
      rw [ok_X10_check_114, if_neg c, cl_nI (by omega), nI_p1]
      exact ⟨hv, hv, r3 z⟩
