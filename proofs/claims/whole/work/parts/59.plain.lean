/-! what a program does, on both sides -/
abbrev ST : Type := ((((Nat → Int32) × (Nat → Int32)) × (Nat → Int32)) × ((Int32 × Int32) × Int32))
def TM (r : ST) (j : Nat) : Prop := ∃ i' j' : Nat, r.2.1.1 = nI i' ∧ r.2.1.2 = nI j' ∧ i' ≤ j' ∧ j ≤ j' ∧ j' ≤ 5000
theorem turn_lt {j : Nat} (h : j < 5000) : f_X8_takeTurn (nI j) 0 = (1, (nI (j + 1), 0)) ∧ f_X10_turn (nI j) 0 = (1, (nI (j + 1), 0)) := by
  unfold f_X8_takeTurn f_X10_turn
  rw [if_pos (show nI j < (5000 : Int32) from nI_lt (b := 5000) h (by decide)), if_neg (show ¬ nI j = (5000 : Int32) from fun z => absurd ((nI_eq (b := 5000) (by omega) (by decide)).mp z) (by omega)), show nI j + (1 : Int32) = nI (j + 1) from nI_1 j]
  exact ⟨rfl, rfl⟩
theorem turn_ge : f_X8_takeTurn (nI 5000) 0 = (0, (nI 5000, -4)) ∧ f_X10_turn (nI 5000) 0 = (0, (nI 5000, -4)) := ⟨by decide, by decide⟩
theorem tell_eq {i : Nat} (h : i ≤ 1000000) (tk : Nat → Int32) (v : Int32) : f_X6_add 300 tk (nI i) v = f_X10_tell tk (nI i) v ∧ (f_X10_tell tk (nI i) v).2 = nI (i + 1) := by
  unfold f_X6_add f_X10_tell
  rw [if_neg (nI_pos (by omega)), show nI i + (1 : Int32) = nI (i + 1) from nI_1 i]
  by_cases h1 : nI 300 ≤ nI i
  · rw [if_pos h1, if_pos (show (300 : Int32) ≤ nI i from h1)]
    exact ⟨rfl, rfl⟩
  · rw [if_neg h1, if_neg (show ¬ (300 : Int32) ≤ nI i from h1)]
    exact ⟨rfl, rfl⟩
/-- the two sides agree on the block that begins at c -/
def BR (w be tok szs : Nat → Int32) (n d k c : Nat) : Prop := ∀ (num cel tk : Nat → Int32) (i j : Nat) (oc : Int32), i ≤ j → j ≤ 5000 → dsAk k num cel szs w tk (nI i) (nI j) oc (nI c) ∧ doSs d tok be (nI n) num cel szs tk (nI i) (nI j) oc (nI c) (nI (12 - d)) = dsA k num cel szs w tk (nI i) (nI j) oc (nI c) ∧ TM (dsA k num cel szs w tk (nI i) (nI j) oc (nI c)) j ∧ (¬ oc = 0 → dsA k num cel szs w tk (nI i) (nI j) oc (nI c) = (((num, cel), tk), ((nI i, nI j), oc)))
def PS (w be tok szs : Nat → Int32) (n d k : Nat) : Prop := ∀ (a b : Nat), nS w be d a b → b ≤ n → ∀ (num cel tk : Nat → Int32) (i j : Nat), i ≤ j → j ≤ 5000 → dsSk k num cel szs w tk (nI i) (nI j) 0 (nI a) ∧ doS d tok be (nI n) num cel szs tk (nI i) (nI j) 0 (nI a) (nI (12 - d)) = dsS k num cel szs w tk (nI i) (nI j) 0 (nI a) ∧ TM (dsS k num cel szs w tk (nI i) (nI j) 0 (nI a)) j
theorem block_loop {w be tok szs : Nat → Int32} {n d k : Nat} (hn : n ≤ 400) (hd : d ≤ 12) (ih : PS w be tok szs n d k) : ∀ (q : Nat) (f g y a e : Nat), nL (nS w be d) q a e → (w e = 0 ∨ w e = 4) → be e = 0 → e < n → q + 1 ≤ f → q + 1 ≤ g → y + q ≤ 300 → ∀ (num cel tk : Nat → Int32) (i j : Nat) (oc : Int32), i ≤ j → j ≤ 5000 → ok_X10_doAll_2 (dsS k) (dsSk k) szs w g num cel tk (nI i) (nI j) oc (nI a) ∧ f_X8_doStatements_5 (doS d) tok be (nI n) szs f num cel tk (nI i) (nI j) oc (nI (12 - d)) (nI a) (nI y) = f_X10_doAll_2 (dsS k) szs w g num cel tk (nI i) (nI j) oc (nI a) ∧ TM (f_X10_doAll_2 (dsS k) szs w g num cel tk (nI i) (nI j) oc (nI a)) j ∧ (¬ oc = 0 → f_X10_doAll_2 (dsS k) szs w g num cel tk (nI i) (nI j) oc (nI a) = (((num, cel), tk), ((nI i, nI j), oc))) := by
  intro q
  induction q with
  | zero =>
    intro f g y a e h he hbe hen hf hg hy num cel tk i j oc hij hj
    have e1 : a = e := h
    subst e1
    obtain ⟨f, rfl⟩ : ∃ f', f = f' + 1 := ⟨f - 1, by omega⟩
    obtain ⟨g, rfl⟩ : ∃ f', g = f' + 1 := ⟨g - 1, by omega⟩
    have hin : vp_in (nI a) 400 := vp_in_nI (by omega) (by decide)
    have hb0 : f_X2_begins be (nI n) (nI a) = 0 := by rw [beg_lt hen hn, hbe]; rfl
    have hm : f_X10_doAll_2 (dsS k) szs w (g + 1) num cel tk (nI i) (nI j) oc (nI a) = (((num, cel), tk), ((nI i, nI j), oc)) := by
      unfold f_X10_doAll_2
      rw [cl_nI (show a < 2 ^ 31 by omega)]
      by_cases h0 : oc = 0
      · rw [if_pos h0]
        rcases he with he | he
        · rw [if_pos he]
        · rw [if_neg (show ¬ w a = 0 by rw [he]; decide), if_pos he]
      · rw [if_neg h0]
    have hc : f_X8_doStatements_5 (doS d) tok be (nI n) szs (f + 1) num cel tk (nI i) (nI j) oc (nI (12 - d)) (nI a) (nI y) = (((num, cel), tk), ((nI i, nI j), oc)) := by
      unfold f_X8_doStatements_5
      rw [if_neg (n400 (by omega)), hb0]
      simp only [bd, if_true]
      split <;> rfl
    rw [hm, hc]
    refine ⟨?_, rfl, ⟨i, j, rfl, rfl, hij, Nat.le_refl _, hj⟩, fun _ => rfl⟩
    unfold ok_X10_doAll_2
    rw [cl_nI (show a < 2 ^ 31 by omega)]
    by_cases h0 : oc = 0
    · rw [if_pos h0]
      refine ⟨hin, ?_⟩
      rcases he with he | he
      · rw [if_pos he]; trivial
      · rw [if_neg (show ¬ w a = 0 by rw [he]; decide), if_pos he]; exact ⟨hin, trivial⟩
    · rw [if_neg h0]; trivial
  | succ q ihq =>
    intro f g y a e h he hbe hen hf hg hy num cel tk i j oc hij hj
    obtain ⟨f, rfl⟩ : ∃ f', f = f' + 1 := ⟨f - 1, by omega⟩
    obtain ⟨g, rfl⟩ : ∃ f', g = f' + 1 := ⟨g - 1, by omega⟩
    obtain ⟨c, h1, h2⟩ := h
    have lt1 := nS_lt h1
    have lt2 := nSL_le h2
    have hin : vp_in (nI a) 400 := vp_in_nI (by omega) (by decide)
    by_cases h0 : oc = 0
    · subst h0
      obtain ⟨n0, n4, hba⟩ := nS_tok h1
      obtain ⟨s1, s2⟩ := skip_eq d a c h1 (by omega) 13 (by omega)
      have hb1 : ¬ f_X2_begins be (nI n) (nI a) = 0 := by
        rw [beg_lt (by omega) hn, hba, if_neg (show ¬ nI c ≤ 0 from nI_nle (by omega) (by omega))]; decide
      have hb2 : f_X2_behind be (nI n) (nI a) = nI c := by rw [beh_lt (by omega) hn, hba]
      obtain ⟨p1, p2, p3⟩ := ih a c h1 (by omega) num cel tk i j hij hj
      unfold f_X8_doStatements_5 f_X10_doAll_2 ok_X10_doAll_2
      simp only [bd, bdP, if_true, if_neg (n400 (show y < 400 by omega)), cl_nI (show a < 2 ^ 31 by omega), if_neg n0, if_neg n4, if_neg hb1, hb2, s1, p2, show nI y + (1 : Int32) = nI (y + 1) from nI_1 y]
      generalize dsS k num cel szs w tk (nI i) (nI j) 0 (nI a) = r at p3
      obtain ⟨⟨⟨num', cel'⟩, tk'⟩, ⟨⟨ts', tu'⟩, oc'⟩⟩ := r
      obtain ⟨i', j', e1, e2, hij', hjj, hj'⟩ := p3
      simp only at e1 e2
      subst e1; subst e2
      obtain ⟨r1, r2, ⟨i2, j2, q1, q2, q3, q4, q5⟩, r4⟩ := ihq f g (y + 1) c e h2 he hbe hen (by omega) (by omega) (by omega) num' cel' tk' i' j' oc' hij' hj'
      exact ⟨⟨hin, hin, p1, s2, r1⟩, r2, ⟨i2, j2, q1, q2, q3, by omega, q5⟩, fun z => absurd trivial z⟩
    · have hm : f_X10_doAll_2 (dsS k) szs w (g + 1) num cel tk (nI i) (nI j) oc (nI a) = (((num, cel), tk), ((nI i, nI j), oc)) := by
        unfold f_X10_doAll_2
        rw [if_neg h0]
      have hc : f_X8_doStatements_5 (doS d) tok be (nI n) szs (f + 1) num cel tk (nI i) (nI j) oc (nI (12 - d)) (nI a) (nI y) = (((num, cel), tk), ((nI i, nI j), oc)) := by
        unfold f_X8_doStatements_5
        rw [if_neg (n400 (by omega)), if_neg h0]
      rw [hm, hc]
      refine ⟨?_, rfl, ⟨i, j, rfl, rfl, hij, Nat.le_refl _, hj⟩, fun _ => rfl⟩
      unfold ok_X10_doAll_2
      rw [if_neg h0]; trivial
theorem block_eq {w be tok szs : Nat → Int32} {n d k q a e : Nat} (hn : n ≤ 400) (hd : d ≤ 12) (ih : PS w be tok szs n d k) (h : nL (nS w be d) q a e) (he : w e = 0 ∨ w e = 4) (hbe : be e = 0) (hen : e < n) : BR w be tok szs n d k a := by
  intro num cel tk i j oc hij hj
  have := nSL_le h
  exact block_loop hn hd ih q 401 402 0 a e h he hbe hen (by omega) (by omega) (by omega) num cel tk i j oc hij hj
theorem endOf_eq {w be : Nat → Int32} {n d : Nat} (hn : n ≤ 400) : ∀ (q f y a e : Nat), nL (nS w be d) q a e → be e = 0 → e < n → q + 1 ≤ f → y + q ≤ 300 → f_X2_endOf_4 be (nI n) f (nI a) (nI y) = nI e := by
  intro q
  induction q with
  | zero =>
    intro f y a e h hbe hen hf hy
    have e1 : a = e := h
    subst e1
    obtain ⟨f, rfl⟩ : ∃ f', f = f' + 1 := ⟨f - 1, by omega⟩
    unfold f_X2_endOf_4
    rw [if_neg (n400 (by omega)), beg_lt hen hn, hbe]
    rfl
  | succ q ih =>
    intro f y a e h hbe hen hf hy
    obtain ⟨f, rfl⟩ : ∃ f', f = f' + 1 := ⟨f - 1, by omega⟩
    obtain ⟨c, h1, h2⟩ := h
    have lt1 := nS_lt h1
    have lt2 := nSL_le h2
    obtain ⟨-, -, hba⟩ := nS_tok h1
    have hb1 : ¬ f_X2_begins be (nI n) (nI a) = 0 := by
      rw [beg_lt (by omega) hn, hba, if_neg (show ¬ nI c ≤ 0 from nI_nle (by omega) (by omega))]; decide
    have hb2 : f_X2_behind be (nI n) (nI a) = nI c := by rw [beh_lt (by omega) hn, hba]
    unfold f_X2_endOf_4
    simp only [bd]
    rw [if_neg (n400 (by omega)), if_neg hb1, hb2, show nI y + (1 : Int32) = nI (y + 1) from nI_1 y]
    exact ih f (y + 1) c e h2 hbe hen (by omega) (by omega)
theorem while_eq {w be tok szs : Nat → Int32} {n d k e0 c : Nat} (hn : n ≤ 400) (hw : ∀ i, i < n → tok i = w i) (hz : SZ szs) (hd : d + 1 ≤ 12) (hE : nE w be d e0 c) (hc : c ≤ n) (hB : BR w be tok szs n d k c) : ∀ (f r : Nat) (num cel tk : Nat → Int32) (i j : Nat), i ≤ j → r + 1 ≤ j → j ≤ 5000 → 5002 ≤ r + f → vlEk 13 num cel szs w 0 (nI e0) ∧ ok_X10_doS_266 (dsA k) (dsAk k) szs w f num cel tk (nI i) (nI j) (vlE 13 num cel szs w 0 (nI e0)).2 (nI e0) (vlE 13 num cel szs w 0 (nI e0)).1 (nI c) ∧ f_X8_doWhile_22 (vaE d) (doSs d) tok be (nI n) szs f num cel tk (nI i) (nI j) 0 (nI (12 - (d + 1))) (nI e0) (nI c) (nI r) = f_X10_doS_266 (dsA k) szs w f num cel tk (nI i) (nI j) (vlE 13 num cel szs w 0 (nI e0)).2 (nI e0) (vlE 13 num cel szs w 0 (nI e0)).1 (nI c) ∧ TM (f_X10_doS_266 (dsA k) szs w f num cel tk (nI i) (nI j) (vlE 13 num cel szs w 0 (nI e0)).2 (nI e0) (vlE 13 num cel szs w 0 (nI e0)).1 (nI c)) j := by
  have hex : ∀ (f : Nat) (num cel tk : Nat → Int32) (ts tu st v : Int32), ¬ st = 0 → f_X10_doS_266 (dsA k) szs w (f + 1) num cel tk ts tu st (nI e0) v (nI c) = (((num, cel), tk), ((ts, tu), st)) ∧ ok_X10_doS_266 (dsA k) (dsAk k) szs w (f + 1) num cel tk ts tu st (nI e0) v (nI c) := by
    intro f num cel tk ts tu st v h
    unfold f_X10_doS_266 ok_X10_doS_266
    rw [if_neg h, if_neg h]
    by_cases hv : v = 0
    · rw [if_pos hv, if_pos hv]; exact ⟨rfl, trivial⟩
    · rw [if_neg hv, if_neg hv]; exact ⟨rfl, trivial⟩
  intro f
  induction f with
  | zero => intro r num cel tk i j _ _ _ _; omega
  | succ f ih =>
    intro r num cel tk i j hij hrj hj hf
    obtain ⟨v1, v2, v3, v4⟩ := val_eq hn hw hz num cel d e0 c (by omega) hE hc 13 (by omega)
    refine ⟨v1, ?_⟩
    obtain ⟨⟨ov, os⟩, ho⟩ : ∃ o, o = vlE 13 num cel szs w 0 (nI e0) := ⟨_, rfl⟩
    obtain ⟨⟨cv, cs⟩, hco⟩ : ∃ o, o = vaE d tok be (nI n) num cel szs 0 (nI e0) (nI (12 - d)) := ⟨_, rfl⟩
    rw [← ho] at v2 v3 v4 ⊢
    rw [← hco] at v2 v3
    simp only at v2 v3 v4 ⊢
    subst v2
    have h5 : ¬ (5000 : Int32) < nI r := fun z => absurd ((nI_ltI (a := 5000) (by decide) (by omega)).mp z) (by omega)
    by_cases hs : cs = 0
    · subst hs
      have e1 : cv = ov := v3 rfl
      subst e1
      unfold f_X8_doWhile_22 f_X10_doS_266 ok_X10_doS_266
      simp only [bd, bdP]
      rw [if_neg h5, dep_1 hd, ← hco]
      by_cases hv : cv = 0
      · simp only [if_pos hv]
        exact ⟨trivial, trivial, ⟨i, j, rfl, rfl, hij, Nat.le_refl _, hj⟩⟩
      · simp only [if_neg hv, if_true]
        obtain ⟨b1, b2, b3, -⟩ := hB num cel tk i j 0 hij hj
        rw [b2]
        generalize dsA k num cel szs w tk (nI i) (nI j) 0 (nI c) = rr at b3
        obtain ⟨⟨⟨num', cel'⟩, tk'⟩, ⟨⟨ts', tu'⟩, oc'⟩⟩ := rr
        obtain ⟨i', j', e1, e2, hij', hjj, hj'⟩ := b3
        simp only at e1 e2
        subst e1; subst e2
        by_cases ho' : oc' = 0
        · subst ho'
          simp only [if_true]
          by_cases h50 : j' = 5000
          · subst h50
            rw [turn_ge.1, turn_ge.2]
            simp only [if_true]
            obtain ⟨f, rfl⟩ : ∃ f', f = f' + 1 := ⟨f - 1, by omega⟩
            obtain ⟨x1, x2⟩ := hex f num' cel' tk' (nI i') (nI 5000) (-4) cv (by decide)
            rw [x1]
            exact ⟨⟨b1, x2⟩, rfl, ⟨i', 5000, rfl, rfl, hij', hj, Nat.le_refl _⟩⟩
          · obtain ⟨t1, t2⟩ := turn_lt (j := j') (by omega)
            rw [t1, t2]
            simp only [if_neg (show ¬ (1 : Int32) = 0 by decide), show nI r + (1 : Int32) = nI (r + 1) from nI_1 r]
            obtain ⟨y1, y2, y3, ⟨i2, j2, q1, q2, q3, q4, q5⟩⟩ := ih (r + 1) num' cel' tk' i' (j' + 1) (by omega) (by omega) (by omega) (by omega)
            exact ⟨⟨b1, y1, y2⟩, y3, ⟨i2, j2, q1, q2, q3, by omega, q5⟩⟩
        · simp only [if_neg ho']
          obtain ⟨f, rfl⟩ : ∃ f', f = f' + 1 := ⟨f - 1, by omega⟩
          obtain ⟨x1, x2⟩ := hex f num' cel' tk' (nI i') (nI j') oc' cv ho'
          rw [x1]
          exact ⟨⟨b1, x2⟩, rfl, ⟨i', j', rfl, rfl, hij', hjj, hj'⟩⟩
    · obtain ⟨x1, x2⟩ := hex f num cel tk (nI i) (nI j) cs ov hs
      rw [x1]
      refine ⟨x2, ?_, ⟨i, j, rfl, rfl, hij, Nat.le_refl _, hj⟩⟩
      unfold f_X8_doWhile_22
      simp only [bd]
      rw [if_neg h5, dep_1 hd, ← hco]
      simp only [if_neg hs]
      split <;> rfl
theorem times_eq {w be tok szs : Nat → Int32} {n d k a T : Nat} (hn : n ≤ 400) (hw : ∀ i, i < n → tok i = w i) (hd : d + 1 ≤ 12) (ha : a + 1 < n) (h6 : w a = 6) (hT : w (a + 1) = nI T) (hT2 : T ≤ 20) (hB : BR w be tok szs n d k (a + 2)) : ∀ (q f g y : Nat) (num cel tk : Nat → Int32) (i j : Nat), T ≤ y + q → y ≤ 20 → q + 1 ≤ f → q + 2 ≤ g → i ≤ j → j ≤ 5000 → ok_X10_doS_23 (dsA k) (dsAk k) szs w g num cel tk (nI i) (nI j) 0 (nI a) (nI y) ∧ f_X8_doTimes_14 (doSs d) tok be (nI n) szs f num cel tk (nI i) (nI j) 0 (nI a) (nI (12 - (d + 1))) (nI T) (nI y) = f_X10_doS_23 (dsA k) szs w g num cel tk (nI i) (nI j) 0 (nI a) (nI y) ∧ TM (f_X10_doS_23 (dsA k) szs w g num cel tk (nI i) (nI j) 0 (nI a) (nI y)) j := by
  have hin : vp_in (nI (a + 1)) 400 := vp_in_nI (by omega) (by decide)
  have hex : ∀ (f : Nat) (num cel tk : Nat → Int32) (ts tu st v : Int32), ¬ st = 0 → f_X10_doS_23 (dsA k) szs w (f + 1) num cel tk ts tu st (nI a) v = (((num, cel), tk), ((ts, tu), st)) ∧ ok_X10_doS_23 (dsA k) (dsAk k) szs w (f + 1) num cel tk ts tu st (nI a) v := by
    intro f num cel tk ts tu st v h
    unfold f_X10_doS_23 ok_X10_doS_23
    rw [if_neg h, if_neg h, show nI a + (1 : Int32) = nI (a + 1) from nI_1 a]
    by_cases hv : w (nI (a + 1)).toNatClampNeg ≤ v
    · rw [if_pos hv, if_pos hv]; exact ⟨rfl, hin, trivial⟩
    · rw [if_neg hv, if_neg hv]; exact ⟨rfl, hin, trivial⟩
  have hend : ∀ (f g y : Nat) (num cel tk : Nat → Int32) (i j : Nat), T ≤ y → y ≤ 20 → i ≤ j → j ≤ 5000 → ok_X10_doS_23 (dsA k) (dsAk k) szs w (g + 1) num cel tk (nI i) (nI j) 0 (nI a) (nI y) ∧ f_X8_doTimes_14 (doSs d) tok be (nI n) szs (f + 1) num cel tk (nI i) (nI j) 0 (nI a) (nI (12 - (d + 1))) (nI T) (nI y) = f_X10_doS_23 (dsA k) szs w (g + 1) num cel tk (nI i) (nI j) 0 (nI a) (nI y) ∧ TM (f_X10_doS_23 (dsA k) szs w (g + 1) num cel tk (nI i) (nI j) 0 (nI a) (nI y)) j := by
    intro f g y num cel tk i j hTy hy hij hj
    have hle : nI T ≤ nI y := nI_le hTy (by omega)
    unfold f_X8_doTimes_14 f_X10_doS_23 ok_X10_doS_23
    rw [show nI a + (1 : Int32) = nI (a + 1) from nI_1 a, cl_nI (show a + 1 < 2 ^ 31 by omega), hT, if_pos hle, if_pos hle, if_pos hle]
    exact ⟨⟨hin, trivial⟩, by split <;> rfl, ⟨i, j, rfl, rfl, hij, Nat.le_refl _, hj⟩⟩
  intro q
  induction q with
  | zero =>
    intro f g y num cel tk i j hq hy hf hg hij hj
    obtain ⟨f, rfl⟩ : ∃ f', f = f' + 1 := ⟨f - 1, by omega⟩
    obtain ⟨g, rfl⟩ : ∃ f', g = f' + 1 := ⟨g - 1, by omega⟩
    exact hend f g y num cel tk i j (by omega) hy hij hj
  | succ q ih =>
    intro f g y num cel tk i j hq hy hf hg hij hj
    obtain ⟨f, rfl⟩ : ∃ f', f = f' + 1 := ⟨f - 1, by omega⟩
    obtain ⟨g, rfl⟩ : ∃ f', g = f' + 1 := ⟨g - 1, by omega⟩
    by_cases hTy : T ≤ y
    · exact hend f g y num cel tk i j hTy hy hij hj
    · have hle : ¬ nI T ≤ nI y := nI_ge (by omega) (by omega)
      have h20 : ¬ (20 : Int32) ≤ nI y := nI_ge (b := 20) (by omega) (by decide)
      obtain ⟨b1, b2, b3, -⟩ := hB num cel tk i j 0 hij hj
      unfold f_X8_doTimes_14 f_X10_doS_23 ok_X10_doS_23
      simp only [bd, bdP]
      rw [show nI a + (1 : Int32) = nI (a + 1) from nI_1 a, show nI a + (2 : Int32) = nI (a + 2) from nI_add a 2, cl_nI (show a + 1 < 2 ^ 31 by omega), hT, if_neg hle, if_neg hle, if_neg hle, if_neg h20, dep_1 hd, ins_2 (tok := tok) (n := n) (a := a) (by omega) hn (by rw [hw a (by omega), h6]; decide), b2, show nI y + (1 : Int32) = nI (y + 1) from nI_1 y]
      generalize dsA k num cel szs w tk (nI i) (nI j) 0 (nI (a + 2)) = rr at b3
      obtain ⟨⟨⟨num', cel'⟩, tk'⟩, ⟨⟨ts', tu'⟩, oc'⟩⟩ := rr
      obtain ⟨i', j', e1, e2, hij', hjj, hj'⟩ := b3
      simp only at e1 e2
      subst e1; subst e2
      by_cases ho' : oc' = 0
      · subst ho'
        simp only [if_true]
        by_cases h50 : j' = 5000
        · subst h50
          rw [turn_ge.1, turn_ge.2]
          simp only [if_true]
          obtain ⟨g, rfl⟩ : ∃ f', g = f' + 1 := ⟨g - 1, by omega⟩
          obtain ⟨x1, x2⟩ := hex g num' cel' tk' (nI i') (nI 5000) (-4) (nI (y + 1)) (by decide)
          rw [x1]
          exact ⟨⟨hin, b1, x2⟩, rfl, ⟨i', 5000, rfl, rfl, hij', hj, Nat.le_refl _⟩⟩
        · obtain ⟨t1, t2⟩ := turn_lt (j := j') (by omega)
          rw [t1, t2]
          simp only [if_neg (show ¬ (1 : Int32) = 0 by decide)]
          obtain ⟨y2, y3, ⟨i2, j2, q1, q2, q3, q4, q5⟩⟩ := ih f g (y + 1) num' cel' tk' i' (j' + 1) (by omega) (by omega) (by omega) (by omega) (by omega) (by omega)
          exact ⟨⟨hin, b1, y2⟩, y3, ⟨i2, j2, q1, q2, q3, by omega, q5⟩⟩
      · simp only [if_neg ho']
        obtain ⟨g, rfl⟩ : ∃ f', g = f' + 1 := ⟨g - 1, by omega⟩
        obtain ⟨x1, x2⟩ := hex g num' cel' tk' (nI i') (nI j') oc' (nI (y + 1)) ho'
        rw [x1]
        exact ⟨⟨hin, b1, x2⟩, rfl, ⟨i', j', rfl, rfl, hij', hjj, hj'⟩⟩
