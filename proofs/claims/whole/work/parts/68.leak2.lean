section LEAK2
variable {w sv stb : Nat → Int32} {N : NT}
abbrev TlA : Type := (Nat → Int32) → (Nat → Int32) → (Nat → Int32) → Int32 → Int32 → Int32 → Int32 → (Int32 × (Int32 × Int32))
abbrev TlAk : Type := (Nat → Int32) → (Nat → Int32) → (Nat → Int32) → Int32 → Int32 → Int32 → Int32 → Prop
theorem lab208 (lA : TlA) (lAk : TlAk) {m : Nat} {hid : Int32} (hm : m < 400) (hh : hid = 0 ↔ m = 0) (y1 y3 y5 : Int32) {c : Nat} (hc : c ≤ 400) : ∀ (f j k : Nat) (s : Int32 × Int32), chA w sv stb N m j k c → c - k + 1 ≤ f → ∃ s', f_X10_labelS_208 lA w sv stb f s.1 s.2 y1 hid y3 y5 (nI c) (nI k) = f_X10_labelS_208 lA w sv stb 1 s'.1 s'.2 y1 hid y3 y5 (nI c) (nI c) ∧ Lab (Lk w sv stb N) k c s s' ∧ (ok_X10_labelS_208 lA lAk w sv stb 1 s'.1 s'.2 y1 hid y3 y5 (nI c) (nI c) → ok_X10_labelS_208 lA lAk w sv stb f s.1 s.2 y1 hid y3 y5 (nI c) (nI k)) := by
  intro f
  induction f with
  | zero => intro j k s h hf; omega
  | succ f ih =>
    intro j k s h hf
    have hcc : nI c ≤ nI c := nI_le (Nat.le_refl _) (by omega)
    cases j with
    | zero =>
      have e : k = c := h
      subst e
      refine ⟨s, ?_, Lab.none s (fun i i1 i2 => by omega), ?_⟩
      · unfold f_X10_labelS_208
        rw [if_pos hcc, if_pos hcc]
      · unfold ok_X10_labelS_208
        rw [if_pos hcc, if_pos hcc]
        exact id
    | succ j =>
      have hle := chA_le h
      obtain ⟨d, c1, h1, h2⟩ := h
      have hlt := aE_lt h1
      have hle2 := chA_le h2
      obtain ⟨m1, o1⟩ := behind_eq (aE_nE h1) (by omega)
      obtain ⟨l1, l2⟩ := labE_eq hm hh h1 (by omega) s
      obtain ⟨s', g1, g2, g3⟩ := ih j c1 (f_X10_labelE w sv stb s.1 s.2 (nI k) hid) h2 (by omega)
      refine ⟨s', ?_, l1.trans g2 (by omega) (by omega), fun z => ?_⟩
      · rw [f_X10_labelS_208, if_neg (nI_ge (by omega) (by omega))]
        simp only [bd, m1]
        exact g1
      · rw [ok_X10_labelS_208, if_neg (nI_ge (by omega) (by omega))]
        simp only [bdP, m1]
        exact ⟨l2, o1, g3 z⟩
theorem lab184 (lA : TlA) (lAk : TlAk) {hid : Int32} (y3 y5 y6 y7 z0 : Int32) {a : Nat} (hL : Lk w sv stb N a ↔ ¬ z0 = 0 ∧ (¬ y5 = 0 ∨ ¬ hid = 0)) (s : Int32 × Int32) : ∃ s', Lab (Lk w sv stb N) a (a + 1) s s' ∧ f_X10_labelS_184 lA w sv stb s.1 s.2 (nI a) hid y3 y5 y6 y7 z0 = f_X10_labelS_208 lA w sv stb 402 s'.1 s'.2 (nI a) hid y3 y5 y6 y7 ∧ (ok_X10_labelS_208 lA lAk w sv stb 402 s'.1 s'.2 (nI a) hid y3 y5 y6 y7 → ok_X10_labelS_184 lA lAk w sv stb s.1 s.2 (nI a) hid y3 y5 y6 y7 z0) := by
  have non : ¬ Lk w sv stb N a → Lab (Lk w sv stb N) a (a + 1) s s := fun z => Lab.none s (fun i i1 i2 => by rcases (show i = a by omega) with rfl; exact z)
  unfold f_X10_labelS_184 ok_X10_labelS_184
  by_cases h0 : z0 = 0
  · rw [if_pos h0, if_pos h0]
    exact ⟨s, non (fun z => (hL.mp z).1 h0), rfl, id⟩
  · rw [if_neg h0, if_neg h0]
    by_cases h5 : y5 = 0
    · rw [if_pos h5, if_pos h5]
      by_cases hh : hid = 0
      · rw [if_pos hh, if_pos hh]
        exact ⟨s, non (fun z => (hL.mp z).2.elim (fun y => y h5) (fun y => y hh)), rfl, id⟩
      · rw [if_neg hh, if_neg hh]
        exact ⟨_, Lab.fail s (hL.mpr ⟨h0, Or.inr hh⟩), rfl, id⟩
    · rw [if_neg h5, if_neg h5]
      exact ⟨_, Lab.fail s (hL.mpr ⟨h0, Or.inl h5⟩), rfl, id⟩
def LbA (w sv stb : Nat → Int32) (N : NT) (k : Nat) (a e m : Nat) : Prop := ∀ (hid : Int32) (s : Int32 × Int32), (hid = 0 ↔ m = 0) → ∃ s', lbA k w sv stb s.1 s.2 (nI a) hid = (nI e, s') ∧ Lab (Lk w sv stb N) a e s s' ∧ lbAk k w sv stb s.1 s.2 (nI a) hid
def LbS (w sv stb : Nat → Int32) (N : NT) (d k : Nat) : Prop := ∀ (m a b : Nat), m + d ≤ 12 → aS w sv stb N d m a b → b ≤ 400 → ∀ (hid : Int32) (s : Int32 × Int32), (hid = 0 ↔ m = 0) → ∃ s', lbS k w sv stb s.1 s.2 (nI a) hid = (nI b, s') ∧ Lab (Lk w sv stb N) a b s s' ∧ lbSk k w sv stb s.1 s.2 (nI a) hid
theorem lbA_loop {d k m : Nat} (ih : LbS w sv stb N d k) (hmd : m + d ≤ 12) {hid : Int32} (hh : hid = 0 ↔ m = 0) : ∀ (q f a e : Nat) (s : Int32 × Int32), nL (aS w sv stb N d m) q a e → (w e = 0 ∨ w e = 4) → e < 400 → q + 1 ≤ f → ∃ s', f_X10_labelAll_2 (lbS k) w sv stb f s.1 s.2 hid (nI a) = (nI e, s') ∧ Lab (Lk w sv stb N) a e s s' ∧ ok_X10_labelAll_2 (lbS k) (lbSk k) w sv stb f s.1 s.2 hid (nI a) := by
  intro q
  induction q with
  | zero =>
    intro f a e s h he h4 hf
    obtain ⟨f, rfl⟩ : ∃ f', f = f' + 1 := ⟨f - 1, by omega⟩
    have e1 : a = e := h
    subst e1
    have hin : vp_in (nI a) 400 := vp_in_nI (by omega) (by decide)
    refine ⟨s, ?_, Lab.none s (fun i i1 i2 => by omega), ?_⟩
    · unfold f_X10_labelAll_2
      rw [cl_nI (by omega)]
      rcases he with he | he
      · rw [if_pos he]
      · rw [if_neg (show ¬ w a = 0 by rw [he]; decide), if_pos he]
    · unfold ok_X10_labelAll_2
      rw [cl_nI (by omega)]
      rcases he with he | he
      · rw [if_pos he]; exact ⟨hin, trivial⟩
      · rw [if_neg (show ¬ w a = 0 by rw [he]; decide), if_pos he]; exact ⟨hin, hin, trivial⟩
  | succ q ihq =>
    intro f a e s h he h4 hf
    obtain ⟨f, rfl⟩ : ∃ f', f = f' + 1 := ⟨f - 1, by omega⟩
    obtain ⟨c, h1, h2⟩ := h
    have lt1 := aS_lt h1
    have lt2 := aSL_le h2
    have hin : vp_in (nI a) 400 := vp_in_nI (by omega) (by decide)
    obtain ⟨n0, n4, -⟩ := nS_tok (aS_nS h1)
    obtain ⟨s1, g1, g2, g3⟩ := ih m a c hmd h1 (by omega) hid s hh
    obtain ⟨s2, k1, k2, k3⟩ := ihq f c e s1 h2 he h4 (by omega)
    refine ⟨s2, ?_, g2.trans k2 (by omega) (by omega), ?_⟩
    · unfold f_X10_labelAll_2
      rw [cl_nI (by omega), if_neg n0, if_neg n4]
      simp only [bd, g1]
      exact k1
    · unfold ok_X10_labelAll_2
      rw [cl_nI (by omega), if_neg n0, if_neg n4]
      simp only [bdP, g1]
      exact ⟨hin, hin, g3, k3⟩
theorem lbA_eq {d k m q a e : Nat} (ih : LbS w sv stb N d k) (hmd : m + d ≤ 12) (h : nL (aS w sv stb N d m) q a e) (he : w e = 0 ∨ w e = 4) (h4 : e < 400) : LbA w sv stb N k a e m := by
  intro hid s hh
  have := aSL_le h
  exact lbA_loop ih hmd hh q 402 a e s h he h4 (by omega)
theorem lbS_s (k : Nat) : lbS (k + 1) = f_X10_labelS (lbA k) := rfl
theorem lbSk_s (k : Nat) : lbSk (k + 1) = ok_X10_labelS (lbA k) (lbAk k) := rfl
set_option maxHeartbeats 2000000 in
theorem lbS_eq : ∀ (d k : Nat), d ≤ k → LbS w sv stb N d k := by
  intro d
  induction d with
  | zero => intro k _ m a b _ h; exact h.elim
  | succ d ih =>
    intro k hk m a b hmd h hb hid s hh
    obtain ⟨k, rfl⟩ : ∃ k', k = k' + 1 := ⟨k - 1, by omega⟩
    have ihk := ih k (by omega)
    have hlt := aS_lt h
    have hm4 : m < 400 := by omega
    have hA : vp_in (nI a) 400 := vp_in_nI (by omega) (by decide)
    have hA1 : vp_in (nI (a + 1)) 400 := vp_in_nI (by omega) (by decide)
    rw [lbS_s, lbSk_s]
    unfold f_X10_labelS ok_X10_labelS
    simp only [bd, bdP, cl_nI (show a < 2 ^ 31 by omega), show nI a + (1 : Int32) = nI (a + 1) from nI_1 a, show nI a + (2 : Int32) = nI (a + 2) from nI_add a 2]
    obtain ⟨hbe, hmk, h⟩ := h
    have hbeg : ¬ N.1.1 a ≤ 0 := by rw [hbe]; exact nI_nle (by omega) (by omega)
    have hmz : ¬ N.1.2 a ≤ 0 ↔ ¬ hid = 0 := by
      rw [hmk]
      by_cases h0 : m = 0
      · subst h0
        exact ⟨fun z => absurd (show nI 0 ≤ 0 by decide) z, fun z => absurd (hh.mpr rfl) z⟩
      · exact ⟨fun _ z => h0 (hh.mp z), fun _ => nI_nle (by omega) (by omega)⟩
    rcases h with h | h | h | h | h | h
    · obtain ⟨t, hv, h0, hE, hs⟩ := h
      have g3 : ¬ (3 : Int32) ≤ w a := by rw [t]; decide
      have n6 : ¬ w a = 6 := by rw [t]; decide
      have n2 : ¬ w a = 2 := by rw [t]; decide
      have n3 : ¬ w a = 3 := by rw [t]; decide
      have n5 : ¬ w a = 5 := by rw [t]; decide
      have lE := aE_lt hE
      obtain ⟨i1, i2, -⟩ := isS_eq hE hb
      obtain ⟨m1, o1⟩ := behind_eq (aE_nE hE) hb
      have hLk : ∀ z0 : Int32, (¬ z0 = 0 ↔ sv (w (a + 1)).toNatClampNeg = 0) → (Lk w sv stb N a ↔ ¬ z0 = 0 ∧ (¬ f_X10_isSecret w sv stb (nI (a + 2)) = 0 ∨ ¬ hid = 0)) := by
        intro z0 hz
        constructor
        · rintro ⟨-, ho, hs'⟩
          have ho' : sv (w (a + 1)).toNatClampNeg = 0 := by
            rcases ho with z | z | z | z | z | z
            · exact z.2
            · rw [t] at z; exact absurd z.1 (by decide)
            all_goals (rw [t] at z; exact absurd z (by decide))
          refine ⟨hz.mpr ho', hs'.elim (fun y => Or.inl fun x => y (hs.mpr (i1.mp x))) (fun y => Or.inr (hmz.mp y))⟩
        · rintro ⟨z1, z2⟩
          exact ⟨hbeg, Or.inl ⟨t, hz.mp z1⟩, z2.elim (fun y => Or.inl fun x => y (i1.mpr (hs.mp x))) (fun y => Or.inr (hmz.mpr y))⟩
      unfold f_X10_labelS_38 ok_X10_labelS_38 f_X10_labelS_110 ok_X10_labelS_110
      simp only [bd, bdP, if_neg n6, if_neg g3, if_neg n2, if_pos t, m1, cl_nI (show a + 1 < 2 ^ 31 by omega), show nI a + (1 : Int32) = nI (a + 1) from nI_1 a]
      have fin : ∀ z0 : Int32, (¬ z0 = 0 ↔ sv (w (a + 1)).toNatClampNeg = 0) → ∃ s', f_X10_labelS_184 (lbA k) w sv stb s.1 s.2 (nI a) hid (w a) (f_X10_isSecret w sv stb (nI (a + 2))) (nI b) (nI (a + 2)) z0 = (nI b, s') ∧ Lab (Lk w sv stb N) a b s s' ∧ ok_X10_labelS_184 (lbA k) (lbAk k) w sv stb s.1 s.2 (nI a) hid (w a) (f_X10_isSecret w sv stb (nI (a + 2))) (nI b) (nI (a + 2)) z0 := by
        intro z0 hz
        obtain ⟨s1, u1, u2, u3⟩ := lab184 (lbA k) (lbAk k) (w a) (f_X10_isSecret w sv stb (nI (a + 2))) (nI b) (nI (a + 2)) z0 (hLk z0 hz) s
        obtain ⟨s2, v1, v2, v3⟩ := lab208 (lbA k) (lbAk k) hm4 hh (nI a) (w a) (f_X10_isSecret w sv stb (nI (a + 2))) hb 402 1 (a + 2) s1 ⟨d, b, hE, rfl⟩ (by omega)
        refine ⟨s2, ?_, (u1.trans (Lab.none s1 (b := a + 2) (fun i i1 i2 => ?_)) (by omega) (by omega)).trans v2 (by omega) (by omega), u3 (v3 ?_)⟩
        · rw [u2, v1, f_X10_labelS_208, if_pos (nI_le (Nat.le_refl _) (by omega)), if_neg n3, if_neg n5]
        · rcases (show i = a + 1 by omega) with rfl
          exact Lk_be h0
        · rw [ok_X10_labelS_208, if_pos (nI_le (Nat.le_refl _) (by omega)), if_neg n3, if_neg n5]
          trivial
      by_cases hsv : sv (w (a + 1)).toNatClampNeg = 0
      · simp only [if_pos hsv]
        obtain ⟨s', y1, y2, y3⟩ := fin 1 ⟨fun _ => hsv, fun _ => by decide⟩
        exact ⟨s', y1, y2, hA, i2, o1, hA1, hv, y3⟩
      · simp only [if_neg hsv]
        obtain ⟨s', y1, y2, y3⟩ := fin 0 ⟨fun z => absurd rfl z, fun z => absurd z hsv⟩
        exact ⟨s', y1, y2, hA, i2, o1, hA1, hv, y3⟩
    · obtain ⟨t, hv, h0, c, hE, hE2, hs⟩ := h
      have g3 : ¬ (3 : Int32) ≤ w a := by rw [t]; decide
      have n6 : ¬ w a = 6 := by rw [t]; decide
      have n1 : ¬ w a = 1 := by rw [t]; decide
      have n3 : ¬ w a = 3 := by rw [t]; decide
      have n5 : ¬ w a = 5 := by rw [t]; decide
      have lE := aE_lt hE
      have lE2 := aE_lt hE2
      obtain ⟨i1, i2, -⟩ := isS_eq hE (by omega)
      obtain ⟨j1, j2, -⟩ := isS_eq hE2 hb
      obtain ⟨m1, o1⟩ := behind_eq (aE_nE hE) (by omega)
      obtain ⟨m2, o2⟩ := behind_eq (aE_nE hE2) hb
      unfold f_X10_labelS_38 ok_X10_labelS_38 f_X10_labelS_110 ok_X10_labelS_110
      simp only [bd, bdP, if_neg n6, if_neg g3, if_neg n1, if_pos t, m1, m2, cl_nI (show a + 1 < 2 ^ 31 by omega), show nI a + (1 : Int32) = nI (a + 1) from nI_1 a]
      have fin : ∀ y5 z0 : Int32, (y5 = 0 ↔ N.2 a = 0) → (¬ z0 = 0 ↔ stb (w (a + 1)).toNatClampNeg = 0) → ∃ s', f_X10_labelS_184 (lbA k) w sv stb s.1 s.2 (nI a) hid (w a) y5 (nI b) (nI (a + 2)) z0 = (nI b, s') ∧ Lab (Lk w sv stb N) a b s s' ∧ ok_X10_labelS_184 (lbA k) (lbAk k) w sv stb s.1 s.2 (nI a) hid (w a) y5 (nI b) (nI (a + 2)) z0 := by
        intro y5 z0 hy hz
        have hLk : Lk w sv stb N a ↔ ¬ z0 = 0 ∧ (¬ y5 = 0 ∨ ¬ hid = 0) := by
          constructor
          · rintro ⟨-, ho, hs'⟩
            have ho' : stb (w (a + 1)).toNatClampNeg = 0 := by
              rcases ho with z | z | z | z | z | z
              · rw [t] at z; exact absurd z.1 (by decide)
              · exact z.2
              all_goals (rw [t] at z; exact absurd z (by decide))
            exact ⟨hz.mpr ho', hs'.elim (fun y => Or.inl fun x => y (hy.mp x)) (fun y => Or.inr (hmz.mp y))⟩
          · rintro ⟨z1, z2⟩
            exact ⟨hbeg, Or.inr (Or.inl ⟨t, hz.mp z1⟩), z2.elim (fun y => Or.inl fun x => y (hy.mpr x)) (fun y => Or.inr (hmz.mpr y))⟩
        obtain ⟨s1, u1, u2, u3⟩ := lab184 (lbA k) (lbAk k) (w a) y5 (nI b) (nI (a + 2)) z0 hLk s
        obtain ⟨s2, v1, v2, v3⟩ := lab208 (lbA k) (lbAk k) hm4 hh (nI a) (w a) y5 hb 402 2 (a + 2) s1 ⟨d, c, hE, d, b, hE2, rfl⟩ (by omega)
        refine ⟨s2, ?_, (u1.trans (Lab.none s1 (b := a + 2) (fun i i1 i2 => ?_)) (by omega) (by omega)).trans v2 (by omega) (by omega), u3 (v3 ?_)⟩
        · rw [u2, v1, f_X10_labelS_208, if_pos (nI_le (Nat.le_refl _) (by omega)), if_neg n3, if_neg n5]
        · rcases (show i = a + 1 by omega) with rfl
          exact Lk_be h0
        · rw [ok_X10_labelS_208, if_pos (nI_le (Nat.le_refl _) (by omega)), if_neg n3, if_neg n5]
          trivial
      by_cases x1 : N.2 (a + 2) = 0
      · simp only [if_pos (i1.mpr x1)]
        by_cases x2 : N.2 c = 0
        · simp only [if_pos (j1.mpr x2)]
          have hy : (0 : Int32) = 0 ↔ N.2 a = 0 := ⟨fun _ => hs.mpr ⟨x1, x2⟩, fun _ => rfl⟩
          by_cases hsv : stb (w (a + 1)).toNatClampNeg = 0
          · simp only [if_pos hsv]
            obtain ⟨s', y1, y2, y3⟩ := fin 0 1 hy ⟨fun _ => hsv, fun _ => by decide⟩
            exact ⟨s', y1, y2, hA, i2, o1, j2, o2, hA1, hv, y3⟩
          · simp only [if_neg hsv]
            obtain ⟨s', y1, y2, y3⟩ := fin 0 0 hy ⟨fun z => absurd rfl z, fun z => absurd z hsv⟩
            exact ⟨s', y1, y2, hA, i2, o1, j2, o2, hA1, hv, y3⟩
        · simp only [if_neg (fun z => x2 (j1.mp z))]
          have hy : (1 : Int32) = 0 ↔ N.2 a = 0 := ⟨fun z => absurd z (by decide), fun z => absurd (hs.mp z).2 x2⟩
          by_cases hsv : stb (w (a + 1)).toNatClampNeg = 0
          · simp only [if_pos hsv]
            obtain ⟨s', y1, y2, y3⟩ := fin 1 1 hy ⟨fun _ => hsv, fun _ => by decide⟩
            exact ⟨s', y1, y2, hA, i2, o1, j2, o2, hA1, hv, y3⟩
          · simp only [if_neg hsv]
            obtain ⟨s', y1, y2, y3⟩ := fin 1 0 hy ⟨fun z => absurd rfl z, fun z => absurd z hsv⟩
            exact ⟨s', y1, y2, hA, i2, o1, j2, o2, hA1, hv, y3⟩
      · simp only [if_neg (fun z => x1 (i1.mp z))]
        have hy : (1 : Int32) = 0 ↔ N.2 a = 0 := ⟨fun z => absurd z (by decide), fun z => absurd (hs.mp z).1 x1⟩
        by_cases hsv : stb (w (a + 1)).toNatClampNeg = 0
        · simp only [if_pos hsv]
          obtain ⟨s', y1, y2, y3⟩ := fin 1 1 hy ⟨fun _ => hsv, fun _ => by decide⟩
          exact ⟨s', y1, y2, hA, i2, o1, o2, hA1, hv, y3⟩
        · simp only [if_neg hsv]
          obtain ⟨s', y1, y2, y3⟩ := fin 1 0 hy ⟨fun z => absurd rfl z, fun z => absurd z hsv⟩
          exact ⟨s', y1, y2, hA, i2, o1, o2, hA1, hv, y3⟩
    · obtain ⟨t, c, e, m', hE, hm', ⟨q, hL⟩, h0, hT⟩ := h
      have g3 : (3 : Int32) ≤ w a := by rw [t]; decide
      have n6 : ¬ w a = 6 := by rw [t]; decide
      have n1 : ¬ w a = 1 := by rw [t]; decide
      have n2 : ¬ w a = 2 := by rw [t]; decide
      have n5 : ¬ w a = 5 := by rw [t]; decide
      have n7 : ¬ w a = 7 := by rw [t]; decide
      have lE := aE_lt hE
      have lL := aSL_le hL
      have heb : e < b := by
        rcases hT with hT | ⟨-, f, ⟨q', hL'⟩, -, -, hT⟩
        · omega
        · have := aSL_le hL'; omega
      have he04 : w e = 0 ∨ w e = 4 := hT.elim (fun h => Or.inl h.1) (fun h => Or.inr h.1)
      have hm'2 : m' + d ≤ 12 := by rw [hm']; split <;> omega
      obtain ⟨i1, i2, -⟩ := isS_eq hE (by omega)
      obtain ⟨m1, o1⟩ := behind_eq (aE_nE hE) (by omega)
      have hB1 : LbA w sv stb N k c e m' := lbA_eq ihk hm'2 hL he04 (by omega)
      have hnl : Lk w sv stb N a ↔ ¬ (0 : Int32) = 0 ∧ (¬ f_X10_isSecret w sv stb (nI (a + 1)) = 0 ∨ ¬ hid = 0) := ⟨fun z => absurd z (Lk_tok (by rw [t]; decide)), fun z => absurd rfl z.1⟩
      unfold f_X10_labelS_38 ok_X10_labelS_38 f_X10_labelS_110 ok_X10_labelS_110
      simp only [bd, bdP, if_neg n6, if_pos g3, if_neg n1, if_neg n2, if_neg n5, if_neg n7, m1]
      obtain ⟨s1, u1, u2, u3⟩ := lab184 (lbA k) (lbAk k) (w a) (f_X10_isSecret w sv stb (nI (a + 1))) (nI c) (nI (a + 1)) 0 hnl s
      obtain ⟨s2, v1, v2, v3⟩ := lab208 (lbA k) (lbAk k) hm4 hh (nI a) (w a) (f_X10_isSecret w sv stb (nI (a + 1))) (show c ≤ 400 by omega) 402 1 (a + 1) s1 ⟨d, c, hE, rfl⟩ (by omega)
      have hcc : nI c ≤ nI c := nI_le (Nat.le_refl _) (by omega)
      have fin : ∀ hd : Int32, (hd = 0 ↔ m' = 0) → ∃ s' : Int32 × Int32, (if w (lbA k w sv stb s2.1 s2.2 (nI c) hd).1.toNatClampNeg = 4 then ((lbA k w sv stb (lbA k w sv stb s2.1 s2.2 (nI c) hd).2.1 (lbA k w sv stb s2.1 s2.2 (nI c) hd).2.2 ((lbA k w sv stb s2.1 s2.2 (nI c) hd).1 + 1) hd).1 + 1, ((lbA k w sv stb (lbA k w sv stb s2.1 s2.2 (nI c) hd).2.1 (lbA k w sv stb s2.1 s2.2 (nI c) hd).2.2 ((lbA k w sv stb s2.1 s2.2 (nI c) hd).1 + 1) hd).2.1, (lbA k w sv stb (lbA k w sv stb s2.1 s2.2 (nI c) hd).2.1 (lbA k w sv stb s2.1 s2.2 (nI c) hd).2.2 ((lbA k w sv stb s2.1 s2.2 (nI c) hd).1 + 1) hd).2.2)) else ((lbA k w sv stb s2.1 s2.2 (nI c) hd).1 + 1, ((lbA k w sv stb s2.1 s2.2 (nI c) hd).2.1, (lbA k w sv stb s2.1 s2.2 (nI c) hd).2.2))) = (nI b, s') ∧ Lab (Lk w sv stb N) c b s2 s' ∧ (lbAk k w sv stb s2.1 s2.2 (nI c) hd ∧ vp_in (lbA k w sv stb s2.1 s2.2 (nI c) hd).1 400 ∧ (if w (lbA k w sv stb s2.1 s2.2 (nI c) hd).1.toNatClampNeg = 4 then lbAk k w sv stb (lbA k w sv stb s2.1 s2.2 (nI c) hd).2.1 (lbA k w sv stb s2.1 s2.2 (nI c) hd).2.2 ((lbA k w sv stb s2.1 s2.2 (nI c) hd).1 + 1) hd ∧ True else True)) := by
        intro hd hhd
        obtain ⟨s3, x1, x2, x3⟩ := hB1 hd s2 hhd
        rw [x1]
        simp only [cl_nI (show e < 2 ^ 31 by omega), show nI e + (1 : Int32) = nI (e + 1) from nI_1 e]
        have hin : vp_in (nI e) 400 := vp_in_nI (by omega) (by decide)
        rcases hT with ⟨w0, hbe1⟩ | ⟨w4, f, ⟨q', hL'⟩, hf0, wf, hbf⟩
        · have n4 : ¬ w e = 4 := by rw [w0]; decide
          rw [if_neg n4, if_neg n4]
          subst hbe1
          refine ⟨s3, rfl, x2.trans (Lab.none s3 (fun i i1 i2 => ?_)) (by omega) (by omega), x3, hin, trivial⟩
          rcases (show i = e by omega) with rfl
          exact Lk_be h0
        · have lL' := aSL_le hL'
          subst hbf
          have hB2 : LbA w sv stb N k (e + 1) f m' := lbA_eq ihk hm'2 hL' (Or.inl wf) (by omega)
          obtain ⟨s4, z1, z2, z3⟩ := hB2 hd s3 hhd
          rw [if_pos w4, if_pos w4, z1]
          simp only [show nI f + (1 : Int32) = nI (f + 1) from nI_1 f]
          refine ⟨s4, rfl, ((x2.trans (Lab.none s3 (b := e + 1) (fun i i1 i2 => ?_)) (by omega) (by omega)).trans z2 (by omega) (by omega)).trans (Lab.none s4 (fun i i1 i2 => ?_)) (by omega) (by omega), x3, hin, z3, trivial⟩
          · rcases (show i = e by omega) with rfl
            exact Lk_be h0
          · rcases (show i = f by omega) with rfl
            exact Lk_be hf0
      have lab0 : ∀ s', Lab (Lk w sv stb N) c b s2 s' → Lab (Lk w sv stb N) a b s s' := fun s' z => (u1.trans v2 (by omega) (by omega)).trans z (by omega) (by omega)
      by_cases x1 : hid = 0
      · by_cases x2 : f_X10_isSecret w sv stb (nI (a + 1)) = 0
        · have hm0 : m' = m := by rw [hm', if_pos (i1.mp x2)]
          obtain ⟨s', y1, y2, y3⟩ := fin 0 ⟨fun _ => by rw [hm0]; exact hh.mp x1, fun _ => rfl⟩
          refine ⟨s', ?_, lab0 s' y2, hA, i2, o1, u3 (v3 ?_)⟩
          · rw [u2, v1, f_X10_labelS_208, if_pos hcc, if_pos t, if_pos x1, if_pos x2]
            exact y1
          · rw [ok_X10_labelS_208, if_pos hcc, if_pos t, if_pos x1, if_pos x2]
            exact y3
        · have hm0 : m' = m + 1 := by rw [hm', if_neg (fun z => x2 (i1.mpr z))]
          obtain ⟨s', y1, y2, y3⟩ := fin 1 ⟨fun z => absurd z (by decide), fun z => by omega⟩
          refine ⟨s', ?_, lab0 s' y2, hA, i2, o1, u3 (v3 ?_)⟩
          · rw [u2, v1, f_X10_labelS_208, if_pos hcc, if_pos t, if_pos x1, if_neg x2]
            exact y1
          · rw [ok_X10_labelS_208, if_pos hcc, if_pos t, if_pos x1, if_neg x2]
            exact y3
      · have hm0 : ¬ m' = 0 := by
          have : ¬ m = 0 := fun z => x1 (hh.mpr z)
          rw [hm']; split <;> omega
        obtain ⟨s', y1, y2, y3⟩ := fin 1 ⟨fun z => absurd z (by decide), fun z => absurd z hm0⟩
        refine ⟨s', ?_, lab0 s' y2, hA, i2, o1, u3 (v3 ?_)⟩
        · rw [u2, v1, f_X10_labelS_208, if_pos hcc, if_pos t, if_neg x1]
          exact y1
        · rw [ok_X10_labelS_208, if_pos hcc, if_pos t, if_neg x1]
          exact y3
    · obtain ⟨t, c, e, hE, hs, ⟨q, hL⟩, h0, w0, rfl⟩ := h
      have g3 : (3 : Int32) ≤ w a := by rw [t]; decide
      have n6 : ¬ w a = 6 := by rw [t]; decide
      have n1 : ¬ w a = 1 := by rw [t]; decide
      have n2 : ¬ w a = 2 := by rw [t]; decide
      have n3 : ¬ w a = 3 := by rw [t]; decide
      have lE := aE_lt hE
      have lL := aSL_le hL
      obtain ⟨i1, i2, -⟩ := isS_eq hE (by omega)
      obtain ⟨m1, o1⟩ := behind_eq (aE_nE hE) (by omega)
      have hB1 : LbA w sv stb N k c e m := lbA_eq ihk (by omega) hL (Or.inl w0) (by omega)
      have hLk : Lk w sv stb N a ↔ ¬ (1 : Int32) = 0 ∧ (¬ f_X10_isSecret w sv stb (nI (a + 1)) = 0 ∨ ¬ hid = 0) := by
        constructor
        · rintro ⟨-, -, hs'⟩
          exact ⟨by decide, hs'.elim (fun y => Or.inl fun x => y (hs.mpr (i1.mp x))) (fun y => Or.inr (hmz.mp y))⟩
        · rintro ⟨-, z2⟩
          exact ⟨hbeg, Or.inr (Or.inr (Or.inl t)), z2.elim (fun y => Or.inl fun x => y (i1.mpr (hs.mp x))) (fun y => Or.inr (hmz.mpr y))⟩
      unfold f_X10_labelS_38 ok_X10_labelS_38 f_X10_labelS_110 ok_X10_labelS_110
      simp only [bd, bdP, if_neg n6, if_pos g3, if_neg n1, if_neg n2, if_pos t, m1]
      obtain ⟨s1, u1, u2, u3⟩ := lab184 (lbA k) (lbAk k) (w a) (f_X10_isSecret w sv stb (nI (a + 1))) (nI c) (nI (a + 1)) 1 hLk s
      obtain ⟨s2, v1, v2, v3⟩ := lab208 (lbA k) (lbAk k) hm4 hh (nI a) (w a) (f_X10_isSecret w sv stb (nI (a + 1))) (show c ≤ 400 by omega) 402 1 (a + 1) s1 ⟨d, c, hE, rfl⟩ (by omega)
      have hcc : nI c ≤ nI c := nI_le (Nat.le_refl _) (by omega)
      obtain ⟨s3, x1, x2, x3⟩ := hB1 hid s2 hh
      refine ⟨s3, ?_, ((u1.trans v2 (by omega) (by omega)).trans x2 (by omega) (by omega)).trans (Lab.none s3 (fun i i1 i2 => ?_)) (by omega) (by omega), hA, i2, o1, u3 (v3 ?_)⟩
      · rw [u2, v1, f_X10_labelS_208, if_pos hcc, if_neg n3, if_pos t]
        simp only [bd, x1]
        rw [show nI e + (1 : Int32) = nI (e + 1) from nI_1 e]
      · rcases (show i = e by omega) with rfl
        exact Lk_be h0
      · rw [ok_X10_labelS_208, if_pos hcc, if_neg n3, if_pos t]
        exact ⟨x3, trivial⟩
    · obtain ⟨t, hv, h0', e, ⟨q, hL⟩, h0, w0, rfl⟩ := h
      have lL := aSL_le hL
      have hB1 : LbA w sv stb N k (a + 2) e m := lbA_eq ihk (by omega) hL (Or.inl w0) (by omega)
      obtain ⟨s3, x1, x2, x3⟩ := hB1 hid s hh
      simp only [if_pos t, x1, show nI e + (1 : Int32) = nI (e + 1) from nI_1 e]
      refine ⟨s3, rfl, ((Lab.none s (b := a + 2) (fun i i1 i2 => ?_)).trans x2 (by omega) (by omega)).trans (Lab.none s3 (fun i i1 i2 => ?_)) (by omega) (by omega), hA, x3, trivial⟩
      · rcases (show i = a ∨ i = a + 1 by omega) with rfl | rfl
        · exact Lk_tok (by rw [t]; decide)
        · exact Lk_be h0'
      · rcases (show i = e by omega) with rfl
        exact Lk_be h0
    · obtain ⟨t, hE, hs⟩ := h
      have g3 : (3 : Int32) ≤ w a := by rw [t]; decide
      have n6 : ¬ w a = 6 := by rw [t]; decide
      have n1 : ¬ w a = 1 := by rw [t]; decide
      have n2 : ¬ w a = 2 := by rw [t]; decide
      have n3 : ¬ w a = 3 := by rw [t]; decide
      have n5 : ¬ w a = 5 := by rw [t]; decide
      have lE := aE_lt hE
      obtain ⟨i1, i2, -⟩ := isS_eq hE hb
      obtain ⟨m1, o1⟩ := behind_eq (aE_nE hE) hb
      have hLk : Lk w sv stb N a ↔ ¬ (1 : Int32) = 0 ∧ (¬ f_X10_isSecret w sv stb (nI (a + 1)) = 0 ∨ ¬ hid = 0) := by
        constructor
        · rintro ⟨-, -, hs'⟩
          exact ⟨by decide, hs'.elim (fun y => Or.inl fun x => y (hs.mpr (i1.mp x))) (fun y => Or.inr (hmz.mp y))⟩
        · rintro ⟨-, z2⟩
          exact ⟨hbeg, Or.inr (Or.inr (Or.inr (Or.inl t))), z2.elim (fun y => Or.inl fun x => y (i1.mpr (hs.mp x))) (fun y => Or.inr (hmz.mpr y))⟩
      unfold f_X10_labelS_38 ok_X10_labelS_38 f_X10_labelS_110 ok_X10_labelS_110
      simp only [bd, bdP, if_neg n6, if_pos g3, if_neg n1, if_neg n2, if_neg n5, if_pos t, m1]
      obtain ⟨s1, u1, u2, u3⟩ := lab184 (lbA k) (lbAk k) (w a) (f_X10_isSecret w sv stb (nI (a + 1))) (nI b) (nI (a + 1)) 1 hLk s
      obtain ⟨s2, v1, v2, v3⟩ := lab208 (lbA k) (lbAk k) hm4 hh (nI a) (w a) (f_X10_isSecret w sv stb (nI (a + 1))) hb 402 1 (a + 1) s1 ⟨d, b, hE, rfl⟩ (by omega)
      have hcc : nI b ≤ nI b := nI_le (Nat.le_refl _) (by omega)
      refine ⟨s2, ?_, u1.trans v2 (by omega) (by omega), hA, i2, o1, u3 (v3 ?_)⟩
      · rw [u2, v1, f_X10_labelS_208, if_pos hcc, if_neg n3, if_neg n5]
      · rw [ok_X10_labelS_208, if_pos hcc, if_neg n3, if_neg n5]
        trivial
end LEAK2
