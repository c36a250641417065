theorem st_eta (r : ST) : ((((r.1.1.1, r.1.1.2), r.1.2), ((r.2.1.1, r.2.1.2), r.2.2)) : ST) = r := rfl
theorem ex266 {dA : (Nat → Int32) → (Nat → Int32) → (Nat → Int32) → (Nat → Int32) → (Nat → Int32) → Int32 → Int32 → Int32 → Int32 → ST} {szs w : Nat → Int32} (f : Nat) (hf : 0 < f) (num cel tk : Nat → Int32) (ts tu st y3 v y5 : Int32) (h : ¬ st = 0) : f_X10_doS_266 dA szs w f num cel tk ts tu st y3 v y5 = (((num, cel), tk), ((ts, tu), st)) := by
  obtain ⟨f, rfl⟩ : ∃ f', f = f' + 1 := ⟨f - 1, by omega⟩
  unfold f_X10_doS_266
  rw [if_neg h]
  by_cases hv : v = 0
  · rw [if_pos hv]
  · rw [if_neg hv]
set_option maxHeartbeats 4000000 in
theorem stmt_eq {w be tok szs : Nat → Int32} {n : Nat} (hn : n ≤ 400) (hw : ∀ i, i < n → tok i = w i) (hz : SZ szs) : ∀ (d k : Nat), d ≤ 12 → d ≤ k → PS w be tok szs n d k := by
  intro d
  induction d with
  | zero => intro k _ _ a b h; exact h.elim
  | succ d ih =>
    intro k hd hk a b h hb num cel tk i j hij hj
    obtain ⟨k, rfl⟩ : ∃ k', k = k' + 1 := ⟨k - 1, by omega⟩
    have ihk := ih k (by omega) (by omega)
    have hlt := nS_lt h
    have hA : vp_in (nI a) 400 := vp_in_nI (by omega) (by decide)
    have hA1 : vp_in (nI (a + 1)) 400 := vp_in_nI (by omega) (by decide)
    have t0 : f_X2_tokenAt tok (nI n) (nI a) = w a := by rw [tokAt_lt (by omega) hn, hw a (by omega)]
    have t1 : f_X2_tokenAt tok (nI n) (nI (a + 1)) = w (a + 1) := by rw [tokAt_lt (by omega) hn, hw (a + 1) (by omega)]
    have hta : tok a = w a := hw a (by omega)
    rw [show dsSk (k + 1) = ok_X10_doS (dsA k) (dsAk k) from rfl, show dsS (k + 1) = f_X10_doS (dsA k) from rfl, show doS (d + 1) = f_X8_doStatement (vaE d) (doSs d) from rfl]
    unfold ok_X10_doS f_X10_doS f_X8_doStatement
    simp only [bd, bdP, if_neg (dep_lt hd), cl_nI (show a < 2 ^ 31 by omega), t0]
    by_cases h50 : j = 5000
    · subst h50
      rw [turn_ge.1, turn_ge.2]
      simp only [if_true]
      exact ⟨trivial, trivial, ⟨i, 5000, rfl, rfl, hij, Nat.le_refl _, Nat.le_refl _⟩⟩
    · obtain ⟨u1, u2⟩ := turn_lt (j := j) (by omega)
      rw [u1, u2]
      have hTM : ∀ (x y z : Nat → Int32) (o : Int32), TM (((x, y), z), ((nI i, nI (j + 1)), o)) j := fun x y z o => ⟨i, j + 1, rfl, rfl, by omega, by omega, by omega⟩
      simp only [if_neg (show ¬ (1 : Int32) = 0 by decide), show nI a + (1 : Int32) = nI (a + 1) from nI_1 a, show nI a + (2 : Int32) = nI (a + 2) from nI_add a 2]
      obtain ⟨-, h | h | h | h | h | h⟩ := h
      · obtain ⟨h1, hv, hE⟩ := h
        have g3 : ¬ (3 : Int32) ≤ w a := by rw [h1]; decide
        have n6 : ¬ w a = 6 := by rw [h1]; decide
        obtain ⟨m1, o1⟩ := behind_eq hE (by omega)
        obtain ⟨v1, v2, v3, v4⟩ := val_eq hn hw hz num cel d (a + 2) b (by omega) hE hb 13 (by omega)
        unfold f_X8_doLet f_X10_doS_98 ok_X10_doS_98 f_X5_assign
        simp only [bd, bdP, if_neg n6, if_neg g3, if_pos h1, ins_2 (tok := tok) (n := n) (a := a) (by omega) hn (by rw [hta, h1]; decide), dep_1 hd, m1, show nI a + (1 : Int32) = nI (a + 1) from nI_1 a, cl_nI (show a + 1 < 2 ^ 31 by omega), t1, if_neg (hasV_in hv)]
        by_cases hs : (vlE 13 num cel szs w 0 (nI (a + 2))).2 = 0
        · rw [v3 hs, v2]
          simp only [if_pos hs]
          exact ⟨⟨hA, v1, o1, hA1, hv, trivial⟩, trivial, hTM _ _ _ _⟩
        · rw [v2]
          simp only [if_neg hs]
          exact ⟨⟨hA, v1, o1, trivial⟩, trivial, hTM _ _ _ _⟩
      · obtain ⟨h1, hv, c, hE, hE2⟩ := h
        have g3 : ¬ (3 : Int32) ≤ w a := by rw [h1]; decide
        have n6 : ¬ w a = 6 := by rw [h1]; decide
        have n1 : ¬ w a = 1 := by rw [h1]; decide
        have lt2 := nE_lt hE2
        have lt1 := nE_lt hE
        obtain ⟨m1, o1⟩ := behind_eq hE (by omega)
        have b1 : f_X2_behind be (nI n) (nI (a + 2)) = nI c := by rw [beh_lt (by omega) hn]; cases d with | zero => exact hE.elim | succ d => exact hE.1
        obtain ⟨v1, v2, v3, v4⟩ := val_eq hn hw hz num cel d (a + 2) c (by omega) hE (by omega) 13 (by omega)
        obtain ⟨z1, z2, z3, z4⟩ := val_eq hn hw hz num cel d c b (by omega) hE2 hb 13 (by omega)
        unfold f_X8_doLay f_X10_doS_98 ok_X10_doS_98 f_X5_lay
        simp only [bd, bdP, if_neg n6, if_neg g3, if_neg n1, if_pos h1, ins_2 (tok := tok) (n := n) (a := a) (by omega) hn (by rw [hta, h1]; decide), dep_1 hd, m1, b1, show nI a + (1 : Int32) = nI (a + 1) from nI_1 a, cl_nI (show a + 1 < 2 ^ 31 by omega), t1]
        by_cases hs : (vlE 13 num cel szs w 0 (nI (a + 2))).2 = 0
        · rw [v3 hs, v2]
          simp only [if_pos hs, hs]
          obtain ⟨pe, pj, pk, pjk, pk16, psz, ppl⟩ := place_eq hz hv (vlE 13 num cel szs w 0 (nI (a + 2))).1
          obtain ⟨hc1, hc2⟩ := cell_ok hz hv pjk pk16 psz
          rw [pe, ppl]
          simp only [if_neg hc1]
          by_cases hs2 : (vlE 13 num cel szs w 0 (nI c)).2 = 0
          · rw [z3 hs2, z2]
            simp only [if_pos hs2]
            exact ⟨⟨hA, v1, o1, hA1, z1, hz, hv, hc2, trivial⟩, rfl, hTM _ _ _ _⟩
          · rw [z2]
            simp only [if_neg hs2]
            exact ⟨⟨hA, v1, o1, hA1, z1, trivial⟩, rfl, hTM _ _ _ _⟩
        · rw [v2]
          simp only [if_neg hs, vaE_stop d tok be (nI n) num cel szs (nI c) (nI (12 - d)) hs]
          exact ⟨⟨hA, v1, o1, trivial⟩, trivial, hTM _ _ _ _⟩
      · obtain ⟨h1, c, e, hE, ⟨q, hL⟩, hbe, hT⟩ := h
        have g3 : (3 : Int32) ≤ w a := by rw [h1]; decide
        have n6 : ¬ w a = 6 := by rw [h1]; decide
        have n1 : ¬ w a = 1 := by rw [h1]; decide
        have n2 : ¬ w a = 2 := by rw [h1]; decide
        have n7 : ¬ w a = 7 := by rw [h1]; decide
        have lt1 := nE_lt hE
        have lt2 := nSL_le hL
        have heb : e < b := by
          rcases hT with hT | ⟨-, f, ⟨q', hL'⟩, -, -, hT⟩
          · omega
          · have := nSL_le hL'; omega
        have he04 : w e = 0 ∨ w e = 4 := hT.elim (fun h => Or.inl h.1) (fun h => Or.inr h.1)
        have hB1 : BR w be tok szs n d k c := block_eq hn (by omega) ihk hL he04 hbe (by omega)
        obtain ⟨s1, s2⟩ := skipA_eq (k := 13) (by omega) hL he04 (by omega)
        have hend : f_X2_endOf be (nI n) (nI c) = nI e := endOf_eq hn q 401 0 c e hL hbe (by omega) (by omega) (by omega)
        obtain ⟨m1, o1⟩ := behind_eq hE (by omega)
        have b1 : f_X2_behind be (nI n) (nI (a + 1)) = nI c := by rw [beh_lt (by omega) hn]; cases d with | zero => exact hE.elim | succ d => exact hE.1
        have te : f_X2_tokenAt tok (nI n) (nI e) = w e := by rw [tokAt_lt (by omega) hn, hw e (by omega)]
        have hB2 : w e = 4 → BR w be tok szs n d k (e + 1) := by
          intro h4
          rcases hT with hT | ⟨-, f, ⟨q', hL'⟩, hbf, hwf, hT⟩
          · rw [h4] at hT; exact absurd hT.1 (by decide)
          · exact block_eq hn (by omega) ihk hL' (Or.inl hwf) hbf (by omega)
        obtain ⟨v1, v2, v3, v4⟩ := val_eq hn hw hz num cel d (a + 1) c (by omega) hE (by omega) 13 (by omega)
        unfold f_X8_doIf f_X10_doS_98 ok_X10_doS_98
        simp only [bd, bdP, if_neg n6, if_pos g3, if_neg n1, if_neg n2, if_neg n7, if_pos h1, ins_1 (tok := tok) (n := n) (a := a) (by omega) hn (by rw [hta, h1]; decide) (by rw [hta, h1]; decide) (by rw [hta, h1]; decide) (by rw [hta, h1]; decide) (by rw [hta, h1]; decide) (by rw [hta, h1]; decide), dep_1 hd, m1, b1, hend, te, s1, show nI a + (1 : Int32) = nI (a + 1) from nI_1 a, show nI e + (1 : Int32) = nI (e + 1) from nI_1 e, cl_nI (show e < 2 ^ 31 by omega)]
        have hij1 : i ≤ j + 1 := by omega
        have hj1 : j + 1 ≤ 5000 := by omega
        have hTM2 : ∀ r : ST, TM r (j + 1) → TM r j := fun r ⟨i2, j2, q1, q2, q3, q4, q5⟩ => ⟨i2, j2, q1, q2, q3, by omega, q5⟩
        by_cases hs : (vlE 13 num cel szs w 0 (nI (a + 1))).2 = 0
        · rw [v3 hs, v2]
          simp only [if_pos hs, hs]
          by_cases hv : (vlE 13 num cel szs w 0 (nI (a + 1))).1 = 0
          · simp only [if_pos hv]
            by_cases h4 : w e = 4
            · simp only [if_pos h4]
              obtain ⟨x1, x2, x3, -⟩ := hB2 h4 num cel tk i (j + 1) 0 hij1 hj1
              rw [x2]
              exact ⟨⟨hA, v1, o1, s2, vp_in_nI (by omega) (by decide), x1, trivial⟩, rfl, hTM2 _ x3⟩
            · simp only [if_neg h4]
              exact ⟨⟨hA, v1, o1, s2, vp_in_nI (by omega) (by decide), trivial⟩, rfl, hTM _ _ _ _⟩
          · simp only [if_neg hv]
            obtain ⟨x1, x2, x3, -⟩ := hB1 num cel tk i (j + 1) 0 hij1 hj1
            rw [x2]
            exact ⟨⟨hA, v1, o1, x1, trivial⟩, rfl, hTM2 _ x3⟩
        · rw [v2]
          simp only [if_neg hs]
          refine ⟨⟨hA, v1, o1, trivial⟩, ?_, hTM _ _ _ _⟩
          obtain ⟨-, x2, -, x4⟩ := hB1 num cel tk i (j + 1) (vlE 13 num cel szs w 0 (nI (a + 1))).2 hij1 hj1
          rw [x2, x4 hs]
          split
          · by_cases h4 : w e = 4
            · obtain ⟨-, y2, -, y4⟩ := hB2 h4 num cel tk i (j + 1) (vlE 13 num cel szs w 0 (nI (a + 1))).2 hij1 hj1
              rw [if_pos h4, y2, y4 hs]
            · rw [if_neg h4]
          · rfl
      · obtain ⟨h1, c, e, hE, ⟨q, hL⟩, hbe, hwe, hT⟩ := h
        have g3 : (3 : Int32) ≤ w a := by rw [h1]; decide
        have n6 : ¬ w a = 6 := by rw [h1]; decide
        have n1 : ¬ w a = 1 := by rw [h1]; decide
        have n2 : ¬ w a = 2 := by rw [h1]; decide
        have n3 : ¬ w a = 3 := by rw [h1]; decide
        have n4 : ¬ w a = 4 := by rw [h1]; decide
        have n7 : ¬ w a = 7 := by rw [h1]; decide
        have lt1 := nE_lt hE
        have lt2 := nSL_le hL
        have hB1 : BR w be tok szs n d k c := block_eq hn (by omega) ihk hL (Or.inl hwe) hbe (by omega)
        obtain ⟨m1, o1⟩ := behind_eq hE (by omega)
        have b1 : f_X2_behind be (nI n) (nI (a + 1)) = nI c := by rw [beh_lt (by omega) hn]; cases d with | zero => exact hE.elim | succ d => exact hE.1
        obtain ⟨x1, x2, x3, x4⟩ := while_eq hn hw hz hd hE (by omega) hB1 5002 0 num cel tk i (j + 1) (by omega) (by omega) (by omega) (by omega)
        have hTM2 : ∀ r : ST, TM r (j + 1) → TM r j := fun r ⟨i2, j2, q1, q2, q3, q4, q5⟩ => ⟨i2, j2, q1, q2, q3, by omega, q5⟩
        unfold f_X8_doWhile f_X10_doS_98 ok_X10_doS_98
        simp only [st_eta, bd, bdP, if_neg n6, if_pos g3, if_neg n1, if_neg n2, if_neg n3, if_neg n4, if_neg n7, if_pos h1, ins_1 (tok := tok) (n := n) (a := a) (by omega) hn (by rw [hta, h1]; decide) (by rw [hta, h1]; decide) (by rw [hta, h1]; decide) (by rw [hta, h1]; decide) (by rw [hta, h1]; decide) (by rw [hta, h1]; decide), m1, b1]
        rw [show f_X8_doWhile_22 (vaE d) (doSs d) tok be (nI n) szs 5002 num cel tk (nI i) (nI (j + 1)) 0 (nI (12 - (d + 1))) (nI (a + 1)) (nI c) 0 = _ from x3]
        by_cases hs : (vlE 13 num cel szs w 0 (nI (a + 1))).2 = 0
        · simp only [if_pos hs]
          exact ⟨⟨hA, x1, o1, x2⟩, trivial, hTM2 _ x4⟩
        · simp only [if_neg hs]
          refine ⟨⟨hA, x1, o1, trivial⟩, ?_, hTM _ _ _ _⟩
          exact (ex266 5002 (by decide) num cel tk (nI i) (nI (j + 1)) _ _ _ _ hs)
      · obtain ⟨h1, hv, e, ⟨q, hL⟩, hbe, hwe, hT⟩ := h
        have n1 : ¬ w a = 1 := by rw [h1]; decide
        have n2 : ¬ w a = 2 := by rw [h1]; decide
        have n3 : ¬ w a = 3 := by rw [h1]; decide
        have n4 : ¬ w a = 4 := by rw [h1]; decide
        have n5 : ¬ w a = 5 := by rw [h1]; decide
        have lt2 := nSL_le hL
        have hB1 : BR w be tok szs n d k (a + 2) := block_eq hn (by omega) ihk hL (Or.inl hwe) hbe (by omega)
        obtain ⟨T, hT1, hT2⟩ := vp_in_of hv (by decide)
        obtain ⟨x1, x2, x3⟩ := times_eq hn hw hd (by omega) h1 hT2 (by omega) hB1 20 21 22 0 num cel tk i (j + 1) (by omega) (by omega) (by omega) (by omega) (by omega) (by omega)
        have hTM2 : ∀ r : ST, TM r (j + 1) → TM r j := fun r ⟨i2, j2, q1, q2, q3, q4, q5⟩ => ⟨i2, j2, q1, q2, q3, by omega, q5⟩
        unfold f_X8_doTimes
        simp only [st_eta, bd, bdP, if_pos h1, if_neg n1, if_neg n2, if_neg n3, if_neg n4, if_neg n5, show nI a + (1 : Int32) = nI (a + 1) from nI_1 a, t1, hT2]
        exact ⟨⟨hA, x1⟩, x2, hTM2 _ x3⟩
      · obtain ⟨h1, hE⟩ := h
        have g3 : (3 : Int32) ≤ w a := by rw [h1]; decide
        have n6 : ¬ w a = 6 := by rw [h1]; decide
        have n1 : ¬ w a = 1 := by rw [h1]; decide
        have n2 : ¬ w a = 2 := by rw [h1]; decide
        have n3 : ¬ w a = 3 := by rw [h1]; decide
        have n4 : ¬ w a = 4 := by rw [h1]; decide
        have n5 : ¬ w a = 5 := by rw [h1]; decide
        obtain ⟨m1, o1⟩ := behind_eq hE (by omega)
        obtain ⟨v1, v2, v3, v4⟩ := val_eq hn hw hz num cel d (a + 1) b (by omega) hE hb 13 (by omega)
        unfold f_X8_doTell f_X10_doS_98 ok_X10_doS_98
        simp only [bd, bdP, if_neg n6, if_pos g3, if_neg n1, if_neg n2, if_neg n3, if_neg n4, if_neg n5, if_pos h1, ins_1 (tok := tok) (n := n) (a := a) (by omega) hn (by rw [hta, h1]; decide) (by rw [hta, h1]; decide) (by rw [hta, h1]; decide) (by rw [hta, h1]; decide) (by rw [hta, h1]; decide) (by rw [hta, h1]; decide), dep_1 hd, m1]
        by_cases hs : (vlE 13 num cel szs w 0 (nI (a + 1))).2 = 0
        · rw [v3 hs, v2]
          simp only [if_pos hs]
          obtain ⟨te1, te2⟩ := tell_eq (i := i) (by omega) tk (vlE 13 num cel szs w 0 (nI (a + 1))).1
          rw [te1]
          exact ⟨⟨hA, v1, o1, ⟨i, by omega, rfl⟩, trivial⟩, rfl, ⟨i + 1, j + 1, te2, rfl, by omega, by omega, by omega⟩⟩
        · rw [v2]
          simp only [if_neg hs]
          exact ⟨⟨hA, v1, o1, trivial⟩, trivial, hTM _ _ _ _⟩
