/-- what is known of a program -/
def PP (b_tok b_beh : Nat → Int32) (b_siz : Int32) (prg : Nat → Int32) : Prop := ∃ n e q : Nat, n ≤ 400 ∧ b_siz = nI n ∧ (∀ i, i < n → b_tok i = prg i) ∧ nL (nS prg b_beh 12) q 0 e ∧ prg e = 0 ∧ b_beh e = 0 ∧ e < n
theorem hasP {c : Int32} (h : 0 < c) : f_X9_hasProgram c = 1 := by
  show (if c ≤ 0 then (0 : Int32) else 1) = 1
  rw [if_neg (fun z => absurd h (Int32.not_lt.mpr z))]
theorem g_plain (PI : PIt) (hPI : ∀ bt bb bs ck pr co wo, PI bt bb bs ck pr co wo → PP bt bb bs pr) (σ : S_SC) (μ : S_Mdl) (h : RelP PI σ μ) : Ag (RelP PI) (mK_plain μ) (cS_plain σ) (mS_plain μ) := by
  obtain ⟨num, sn, cel, szs, stb, a_tok, a_beh, a_msk, a_sec, a_siz, b_tok, b_beh, b_msk, b_sec, b_siz, c_kept, c_size, t_kept, t_size, r_kept, r_size, sum, next, fault, fplace, pile, mks, cts, hgt, nxt, turns, outc, fpl, prg, cod, words, has, pos, mfault, plc, pil, pmany, mmks, mcts, mturns, stop, rfl, rfl, hc⟩ := h
  have key : ok_X10_plain num cel szs prg has t_kept t_size mturns stop ∧ ∃ (v : Int32) (num' cel' tk' : Nat → Int32) (ts' tu' oc' mt' st' : Int32), f_X9_plain num cel szs b_tok b_beh b_siz c_size t_kept t_size turns outc = (v, (((num', cel'), tk'), ((ts', tu'), oc'))) ∧ f_X10_plain num cel szs prg has t_kept t_size mturns stop = (v, (((num', cel'), tk'), ((ts', mt'), st'))) ∧ UpTo 1000000 ts' := by
    unfold ok_X10_plain f_X9_plain f_X10_plain
    simp only [bd, bdP]
    rcases hc.2.2.2.2.2.2.2 with ⟨h1, h2⟩ | ⟨h1, h2, h3, -, -, hp⟩
    · subst h1; subst h2
      exact ⟨trivial, -2, num, cel, t_kept, t_size, turns, outc, mturns, stop, rfl, rfl, hc.2.2.1⟩
    · subst h1; subst h2
      obtain ⟨n, e, q, hn, hs, hw, hL, hwe, hbe, hen⟩ := hPI _ _ _ _ _ _ _ hp
      subst hs
      obtain ⟨x1, x2, ⟨i', j', x3, x4, x5, x6, x7⟩, -⟩ := block_eq hn (Nat.le_refl 12) (stmt_eq hn hw hc.2.1 12 13 (by decide) (by decide)) hL (Or.inl hwe) hbe hen num cel t_kept 0 0 0 (Nat.le_refl _) (by decide)
      rw [if_neg (show ¬ (1 : Int32) = 0 by decide), if_neg (show ¬ (1 : Int32) = 0 by decide), hasP h3, if_neg (show ¬ (1 : Int32) = 0 by decide)]
      refine ⟨⟨x1, by split <;> trivial⟩, ?_⟩
      unfold f_X8_walk f_X6_clear
      simp only [bd]
      rw [show doSs 12 b_tok b_beh (nI n) num cel szs t_kept 0 0 0 0 0 = _ from x2]
      rw [show dsA 13 num cel szs prg t_kept 0 0 0 0 = dsA 13 num cel szs prg t_kept (nI 0) (nI 0) 0 (nI 0) from rfl]
      generalize dsA 13 num cel szs prg t_kept (nI 0) (nI 0) 0 (nI 0) = r at x3 x4
      obtain ⟨⟨⟨num', cel'⟩, tk'⟩, ⟨⟨ts', tu'⟩, oc'⟩⟩ := r
      simp only at x3 x4
      subst x3; subst x4
      by_cases ho : oc' = 0
      · simp only [if_pos ho]
        exact ⟨_, num', cel', tk', _, _, oc', _, oc', rfl, rfl, i', by omega, rfl⟩
      · simp only [if_neg ho]
        exact ⟨_, num', cel', tk', _, _, oc', _, oc', rfl, rfl, i', by omega, rfl⟩
  obtain ⟨k1, v, num', cel', tk', ts', tu', oc', mt', st', e1, e2, hts⟩ := key
  refine ⟨k1, ?_, ?_⟩
  · show (rb_X9_plain _ (f_X9_plain num cel szs b_tok b_beh b_siz c_size t_kept t_size turns outc)).1 = (rb_X10_plain _ (f_X10_plain num cel szs prg has t_kept t_size mturns stop)).1
    rw [e1, e2]; rfl
  · refine ⟨num', sn, cel', szs, stb, a_tok, a_beh, a_msk, a_sec, a_siz, b_tok, b_beh, b_msk, b_sec, b_siz, c_kept, c_size, tk', ts', r_kept, r_size, sum, next, fault, fplace, pile, mks, cts, hgt, nxt, tu', oc', fpl, prg, cod, words, has, pos, mfault, plc, pil, pmany, mmks, mcts, mt', st', ?_, ?_, ?_⟩
    · show (rb_X9_plain _ (f_X9_plain num cel szs b_tok b_beh b_siz c_size t_kept t_size turns outc)).2 = _
      rw [e1]; rfl
    · show (rb_X10_plain _ (f_X10_plain num cel szs prg has t_kept t_size mturns stop)).2 = _
      rw [e2]; rfl
    · exact ⟨hc.1, hc.2.1, hts, hc.2.2.2⟩
