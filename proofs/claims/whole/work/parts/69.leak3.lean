theorem sec_lt {sec : Nat → Int32} {n a : Nat} (h : a < n) (hn : n ≤ 400) : f_X2_isSecret sec (nI n) (nI a) = if sec a = 0 then 0 else 1 := by
  unfold f_X2_isSecret
  rw [has_lt h hn]
  simp only [bd]
  rw [if_neg (by decide), cl_nI (by omega)]
theorem msk_lt {msk : Nat → Int32} {n a : Nat} (h : a < n) (hn : n ≤ 400) : f_X2_masksAround msk (nI n) (nI a) = msk a := by
  unfold f_X2_masksAround
  rw [has_lt h hn]
  simp only [bd]
  rw [if_neg (by decide), cl_nI (by omega)]
section LEAK3
variable {w sv stb : Nat → Int32} {N : NT}
theorem aE_Q {n m : Nat} : ∀ {d a b : Nat}, aE w sv stb N m d a b → b ≤ n → ∀ i, a ≤ i → i < b → ¬ N.1.1 i ≤ 0 → i + 1 < n ∧ ¬ w i = 1 ∧ ¬ w i = 2 := by
  intro d
  induction d with
  | zero => intro a b h; exact h.elim
  | succ d ih =>
    intro a b h hb i i1 i2 hi
    have hlt := aE_lt h
    have z1 : N.1.1 (a + 1) = 0 → ¬ i = a + 1 := fun z y => hi (by rw [y, z]; decide)
    obtain ⟨-, -, h | h | h | h | h | h⟩ := h
    · obtain ⟨t, rfl, h0, -⟩ := h
      have := z1 h0
      rcases (show i = a by omega) with rfl
      exact ⟨by omega, by rw [t]; decide, by rw [t]; decide⟩
    · obtain ⟨t, -, rfl, h0, -⟩ := h
      have := z1 h0
      rcases (show i = a by omega) with rfl
      exact ⟨by omega, by rw [t]; decide, by rw [t]; decide⟩
    · obtain ⟨t, -, hE, h0, -⟩ := h
      have := z1 h0
      by_cases hia : i = a
      · subst hia
        exact ⟨by omega, by rw [t]; decide, by rw [t]; decide⟩
      · exact ih hE hb i (by omega) i2 hi
    · obtain ⟨t, hE, -⟩ := h
      by_cases hia : i = a
      · subst hia
        exact ⟨by omega, by rw [t]; decide, by rw [t]; decide⟩
      · exact ih hE hb i (by omega) i2 hi
    · obtain ⟨t, c, e, h1, h2, h3, -⟩ := h
      have l1 := aE_lt h1
      have l2 := aE_lt h2
      have l3 := aE_lt h3
      by_cases hia : i = a
      · subst hia
        exact ⟨by omega, by rw [t]; decide, by rw [t]; decide⟩
      · by_cases k1 : i < c
        · exact ih h1 (by omega) i (by omega) k1 hi
        · by_cases k2 : i < e
          · exact ih h2 (by omega) i (by omega) k2 hi
          · exact ih h3 hb i (by omega) i2 hi
    · obtain ⟨t, c, h1, h2, -⟩ := h
      have l1 := aE_lt h1
      have l2 := aE_lt h2
      by_cases hia : i = a
      · subst hia
        obtain ⟨n1, n2, -⟩ := bin_ns t
        exact ⟨by omega, n1, n2⟩
      · by_cases k1 : i < c
        · exact ih h1 (by omega) i (by omega) k1 hi
        · exact ih h2 hb i (by omega) i2 hi
def QS (w : Nat → Int32) (n i : Nat) : Prop := i + 1 < n ∧ (w i = 1 → vp_in (w (i + 1)) 10) ∧ (w i = 2 → vp_in (w (i + 1)) 4)
theorem aE_QS {n m d a b : Nat} (h : aE w sv stb N m d a b) (hb : b ≤ n) (i : Nat) (i1 : a ≤ i) (i2 : i < b) (hi : ¬ N.1.1 i ≤ 0) : QS w n i := by
  obtain ⟨q1, q2, q3⟩ := aE_Q h hb i i1 i2 hi
  exact ⟨q1, fun z => absurd z q2, fun z => absurd z q3⟩
theorem nL_Q {P : Nat → Nat → Prop} {Q : Nat → Prop} (hP : ∀ a b, P a b → a + 2 ≤ b) {n : Nat} (h : ∀ a b, P a b → b ≤ n → ∀ i, a ≤ i → i < b → Q i) : ∀ {j a b : Nat}, nL P j a b → b ≤ n → ∀ i, a ≤ i → i < b → Q i := by
  intro j
  induction j with
  | zero => intro a b k _ i i1 i2; have e : a = b := k; omega
  | succ j ih =>
    intro a b k hb i i1 i2
    obtain ⟨c, k1, k2⟩ := k
    have l1 := hP _ _ k1
    have l2 := nL_le hP k2
    by_cases hc : i < c
    · exact h a c k1 (by omega) i i1 hc
    · exact ih k2 hb i (by omega) i2
theorem aS_Q {n : Nat} : ∀ {d m a b : Nat}, aS w sv stb N d m a b → b ≤ n → ∀ i, a ≤ i → i < b → ¬ N.1.1 i ≤ 0 → QS w n i := by
  intro d
  induction d with
  | zero => intro m a b h; exact h.elim
  | succ d ih =>
    intro m a b h hb i i1 i2 hi
    have hlt := aS_lt h
    have zz : ∀ c, N.1.1 c = 0 → ¬ i = c := fun c z y => hi (by rw [y, z]; decide)
    have hL : ∀ {m j a b : Nat}, nL (aS w sv stb N d m) j a b → b ≤ n → a ≤ i → i < b → QS w n i := fun k kb k1 k2 => nL_Q (Q := fun i => ¬ N.1.1 i ≤ 0 → QS w n i) (fun _ _ h => aS_lt h) (fun a b h hb i i1 i2 => ih h hb i i1 i2) k kb i k1 k2 hi
    obtain ⟨-, -, h | h | h | h | h | h⟩ := h
    · obtain ⟨t, hv, h0, hE, -⟩ := h
      have := zz _ h0
      by_cases hia : i = a
      · subst hia
        exact ⟨by omega, fun _ => hv, fun z => absurd z (by rw [t]; decide)⟩
      · exact aE_QS hE hb i (by omega) i2 hi
    · obtain ⟨t, hv, h0, c, hE, hE2, -⟩ := h
      have := zz _ h0
      have l1 := aE_lt hE
      have l2 := aE_lt hE2
      by_cases hia : i = a
      · subst hia
        exact ⟨by omega, fun z => absurd z (by rw [t]; decide), fun _ => hv⟩
      · by_cases hc : i < c
        · exact aE_QS hE (by omega) i (by omega) hc hi
        · exact aE_QS hE2 hb i (by omega) i2 hi
    · obtain ⟨t, c, e, m', hE, -, ⟨j, k1⟩, h0, k2⟩ := h
      have := zz _ h0
      have l1 := aE_lt hE
      have l2 := aSL_le k1
      by_cases hia : i = a
      · subst hia
        exact ⟨by omega, fun z => absurd z (by rw [t]; decide), fun z => absurd z (by rw [t]; decide)⟩
      · by_cases hc : i < c
        · rcases k2 with ⟨-, k2⟩ | ⟨-, f, ⟨j', k3⟩, -, -, k4⟩
          · exact aE_QS hE (by omega) i (by omega) hc hi
          · have := aSL_le k3
            exact aE_QS hE (by omega) i (by omega) hc hi
        · rcases k2 with ⟨-, k2⟩ | ⟨-, f, ⟨j', k3⟩, hf, -, k4⟩
          · exact hL k1 (by omega) (by omega) (by omega)
          · have l3 := aSL_le k3
            have := zz _ hf
            by_cases he : i < e
            · exact hL k1 (by omega) (by omega) he
            · exact hL k3 (by omega) (by omega) (by omega)
    · obtain ⟨t, c, e, hE, -, ⟨j, k1⟩, h0, -, k2⟩ := h
      have := zz _ h0
      have l1 := aE_lt hE
      have l2 := aSL_le k1
      by_cases hia : i = a
      · subst hia
        exact ⟨by omega, fun z => absurd z (by rw [t]; decide), fun z => absurd z (by rw [t]; decide)⟩
      · by_cases hc : i < c
        · exact aE_QS hE (by omega) i (by omega) hc hi
        · exact hL k1 (by omega) (by omega) (by omega)
    · obtain ⟨t, hv, h0', e, ⟨j, k1⟩, h0, -, k2⟩ := h
      have := zz _ h0
      have := zz _ h0'
      have l2 := aSL_le k1
      by_cases hia : i = a
      · subst hia
        exact ⟨by omega, fun z => absurd z (by rw [t]; decide), fun z => absurd z (by rw [t]; decide)⟩
      · exact hL k1 (by omega) (by omega) (by omega)
    · obtain ⟨t, hE, -⟩ := h
      by_cases hia : i = a
      · subst hia
        exact ⟨by omega, fun z => absurd z (by rw [t]; decide), fun z => absurd z (by rw [t]; decide)⟩
      · exact aE_QS hE hb i (by omega) i2 hi
theorem isOpen_iff {n i : Nat} (hn : n ≤ 400) (hi : i < n) (hq : QS w n i) : ¬ f_X3_isOpen w (nI n) sv stb (nI i) = 0 ↔ opn w sv stb i := by
  obtain ⟨q1, q2, q3⟩ := hq
  unfold f_X3_isOpen
  simp only [bd]
  rw [tokAt_lt hi hn, show nI i + (1 : Int32) = nI (i + 1) from nI_1 i, tokAt_lt q1 hn]
  unfold opn
  by_cases h1 : w i = 1
  · rw [if_pos h1]
    have n2 : ¬ w i = 2 := by rw [h1]; decide
    have iv := isSV_iff (sn := sv) (q2 h1)
    by_cases hs : f_X5_isSecretVariable sv (w (i + 1)) = 0
    · rw [if_pos hs]
      exact ⟨fun _ => Or.inl ⟨h1, iv.mp hs⟩, fun _ => by decide⟩
    · rw [if_neg hs]
      refine ⟨fun z => absurd rfl z, fun z => ?_⟩
      exfalso
      rcases z with z | z | z | z | z | z
      · exact hs (iv.mpr z.2)
      · exact n2 z.1
      all_goals (rw [h1] at z; exact absurd z (by decide))
  · rw [if_neg h1]
    by_cases h2 : w i = 2
    · rw [if_pos h2]
      have iv := isST_iff (sn := stb) (q3 h2)
      by_cases hs : f_X5_isSecretTable stb (w (i + 1)) = 0
      · rw [if_pos hs]
        exact ⟨fun _ => Or.inr (Or.inl ⟨h2, iv.mp hs⟩), fun _ => by decide⟩
      · rw [if_neg hs]
        refine ⟨fun z => absurd rfl z, fun z => ?_⟩
        exfalso
        rcases z with z | z | z | z | z | z
        · exact h1 z.1
        · exact hs (iv.mpr z.2)
        all_goals (rw [h2] at z; exact absurd z (by decide))
    · rw [if_neg h2]
      by_cases h5 : w i = 5
      · rw [if_pos h5]
        exact ⟨fun _ => Or.inr (Or.inr (Or.inl h5)), fun _ => by decide⟩
      · rw [if_neg h5]
        by_cases h7 : w i = 7
        · rw [if_pos h7]
          exact ⟨fun _ => Or.inr (Or.inr (Or.inr (Or.inl h7))), fun _ => by decide⟩
        · rw [if_neg h7]
          by_cases h33 : w i = 33
          · rw [if_pos h33]
            exact ⟨fun _ => Or.inr (Or.inr (Or.inr (Or.inr (Or.inl h33)))), fun _ => by decide⟩
          · rw [if_neg h33]
            by_cases h34 : w i = 34
            · rw [if_pos h34]
              exact ⟨fun _ => Or.inr (Or.inr (Or.inr (Or.inr (Or.inr h34)))), fun _ => by decide⟩
            · rw [if_neg h34]
              refine ⟨fun z => absurd rfl z, fun z => ?_⟩
              exfalso
              rcases z with z | z | z | z | z | z
              · exact h1 z.1
              · exact h2 z.1
              · exact h5 z
              · exact h7 z
              · exact h33 z
              · exact h34 z
theorem findLeak_loop {n : Nat} (hn : n ≤ 400) (hQ : ∀ i, i < n → ¬ N.1.1 i ≤ 0 → QS w n i) : ∀ (f y : Nat) (s : Int32 × Int32), y ≤ n → n - y + 1 ≤ f → Lab (Lk w sv stb N) y n s (f_X3_findLeak_2 w N.1.1 N.1.2 N.2 (nI n) sv stb f s.1 s.2 (nI y)) := by
  intro f
  induction f with
  | zero => intro y s hy hf; omega
  | succ f ih =>
    intro y s hy hf
    unfold f_X3_findLeak_2 f_X2_size
    simp only [bd]
    by_cases hyn : y = n
    · subst hyn
      have : Lab (Lk w sv stb N) y y s s := Lab.none s (fun i i1 i2 => by omega)
      rw [if_pos (nI_le (Nat.le_refl _) (by omega))]
      split <;> exact this
    · have hlt : y < n := by omega
      rw [if_neg (n400 (by omega)), if_neg (nI_ge hlt (by omega)), show nI y + (1 : Int32) = nI (y + 1) from nI_1 y]
      have non : ¬ Lk w sv stb N y → Lab (Lk w sv stb N) y n s (f_X3_findLeak_2 w N.1.1 N.1.2 N.2 (nI n) sv stb f s.1 s.2 (nI (y + 1))) := fun z => Lab.trans (Lab.none s (fun i i1 i2 => by rcases (show i = y by omega) with rfl; exact z)) (ih (y + 1) s (by omega) (by omega)) (by omega) (by omega)
      by_cases h0 : s.1 = 0
      · rw [if_pos h0, beg_lt hlt hn]
        by_cases hb : N.1.1 y ≤ 0
        · rw [if_pos hb, if_pos rfl]
          exact non fun z => z.1 hb
        · rw [if_neg hb, if_neg (show ¬ (1 : Int32) = 0 by decide)]
          have io := isOpen_iff (sv := sv) (stb := stb) hn hlt (hQ y hlt hb)
          by_cases ho : f_X3_isOpen w (nI n) sv stb (nI y) = 0
          · rw [if_pos ho]
            exact non fun z => io.mpr z.2.1 ho
          · rw [if_neg ho]
            have hbl : ∀ fp : Int32, f_X3_blame s.1 fp (-14) (nI y) = (-14, nI y) := by
              intro fp
              unfold f_X3_blame
              rw [if_pos h0]
            have yes : Lk w sv stb N y → Lab (Lk w sv stb N) y n s (f_X3_findLeak_2 w N.1.1 N.1.2 N.2 (nI n) sv stb f (-14) (nI y) (nI (y + 1))) := by
              intro hL
              have q := ih (y + 1) (-14, nI y) (by omega) (by omega)
              have e := q.1 (show ¬ (-14 : Int32) = 0 by decide)
              simp only at e
              rw [e]
              exact ⟨fun z => absurd h0 z, fun _ => Or.inr ⟨y, Nat.le_refl _, hlt, hL, fun j j1 j2 => by omega, rfl⟩⟩
            rw [sec_lt hlt hn, msk_lt hlt hn, hbl]
            by_cases hs : N.2 y = 0
            · rw [if_pos hs, if_pos rfl]
              by_cases hm : N.1.2 y ≤ 0
              · rw [if_pos hm]
                exact non fun z => z.2.2.elim (fun q => q hs) (fun q => q hm)
              · rw [if_neg hm]
                exact yes ⟨hb, io.mp ho, Or.inr hm⟩
            · rw [if_neg hs, if_neg (show ¬ (1 : Int32) = 0 by decide)]
              exact yes ⟨hb, io.mp ho, Or.inl hs⟩
      · rw [if_neg h0]
        exact ⟨fun _ => rfl, fun z => absurd z h0⟩
theorem Lab.uniq {L : Nat → Prop} {a b : Nat} {s s1 s2 : Int32 × Int32} (h : Lab L a b s s1) (k : Lab L a b s s2) : s1 = s2 := by
  by_cases z : s.1 = 0
  · rcases h.2 z with ⟨h1, e⟩ | ⟨i, h1, h2, h3, h4, e⟩
    · rcases k.2 z with ⟨k1, e'⟩ | ⟨i', k1, k2, k3, k4, e'⟩
      · rw [e, e']
      · exact absurd k3 (h1 i' k1 k2)
    · rcases k.2 z with ⟨k1, e'⟩ | ⟨i', k1, k2, k3, k4, e'⟩
      · exact absurd h3 (k1 i h1 h2)
      · rcases Nat.lt_trichotomy i i' with q | q | q
        · exact absurd h3 (k4 i h1 q)
        · rw [e, e', q]
        · exact absurd k3 (h4 i' k1 q)
  · rw [h.1 z, k.1 z]
end LEAK3
