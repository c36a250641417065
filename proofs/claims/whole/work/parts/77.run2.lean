theorem g_run (PI : PIt) (hPI : ∀ bt bb bs ck pr co wo, PI bt bb bs ck pr co wo → ∃ e : Nat, wo = nI (e + 1) ∧ e + 1 ≤ 2048 ∧ co e = 0 ∧ Seg co 0 e 0 0 0 0 0 0) (σ : S_SC) (μ : S_Mdl) (h : RelP PI σ μ) : Ag (RelP PI) (mK_run μ) (cS_run σ) (mS_run μ) := by
  obtain ⟨num, sn, cel, szs, stb, a_tok, a_beh, a_msk, a_sec, a_siz, b_tok, b_beh, b_msk, b_sec, b_siz, c_kept, c_size, t_kept, t_size, r_kept, r_size, sum, next, fault, fplace, pile, mks, cts, hgt, nxt, turns, outc, fpl, prg, cod, words, has, pos, mfault, plc, pil, pmany, mmks, mcts, mturns, stop, rfl, rfl, hc⟩ := h
  have key : ok_X10_run num cel szs cod has t_kept t_size r_kept r_size sum pil pmany mmks mcts stop ∧ ∃ (v : Int32) (num' cel' tk' rk' cp' cm' cc' mp' mm' mc' : Nat → Int32) (ts' rs' hg' nx' pm' st' : Int32) (sum' : Int64), f_X9_run num cel szs c_kept c_size t_kept t_size r_kept r_size sum pile mks cts hgt nxt = (v, ((((num', cel'), tk'), ((ts', rk'), rs')), (((sum', cp'), cm'), ((cc', hg'), nx')))) ∧ f_X10_run num cel szs cod has t_kept t_size r_kept r_size sum pil pmany mmks mcts stop = (v, ((((num', cel'), tk'), ((ts', rk'), rs')), (((sum', mp'), pm'), ((mm', mc'), st')))) ∧ UpTo 1000000 ts' ∧ UpTo 1000000 rs' ∧ cm' 0 = -1 := by
    rcases hc.2.2.2.2.2.2.2 with ⟨h1, h2⟩ | ⟨h1, h2, h3, hck, -, hp⟩
    · subst h1; subst h2
      refine ⟨?_, -2, num, cel, t_kept, r_kept, pile, mks, cts, pil, mmks, mcts, t_size, r_size, hgt, nxt, pmany, stop, sum, rfl, ?_, hc.2.2.1, hc.2.2.2.1, hc.2.2.2.2.2.1⟩
      · unfold ok_X10_run
        rw [if_pos rfl]; trivial
      · unfold f_X10_run
        rw [if_pos rfl]
    · subst h1; subst h2
      obtain ⟨e, he, hW, he0, hS⟩ := hPI _ _ _ _ _ _ _ hp
      subst he
      obtain ⟨v, hc', hm', xc', st', cp', mp', cm', mm', cc', mc', num', cel', tk', rk', i', j', sum', r1, r2, r3, r4, r5, r6⟩ := run_eq hW (fun x hx => hck x (nI_lt hx (by omega)) (by omega)) hc.2.1 he0 hS pile pil mks mmks cts mcts num cel t_kept r_kept hgt nxt t_size r_size t_size r_size pmany stop sum sum hc.2.2.2.2.2.1
      refine ⟨r3, v, num', cel', tk', rk', cp', cm', cc', mp', mm', mc', nI i', nI j', hc', xc', hm', st', sum', ?_, r2, ⟨i', by omega, rfl⟩, ⟨j', by omega, rfl⟩, r6⟩
      unfold f_X9_run
      rw [bd_d, hasP h3, if_neg (show ¬ (1 : Int32) = 0 by decide), bd_d, r1]
  obtain ⟨k1, v, num', cel', tk', rk', cp', cm', cc', mp', mm', mc', ts', rs', hg', nx', pm', st', sum', e1, e2, hts, hrs, hm0⟩ := key
  refine ⟨k1, ?_, ?_⟩
  · show (rb_X9_run _ (f_X9_run num cel szs c_kept c_size t_kept t_size r_kept r_size sum pile mks cts hgt nxt)).1 = (rb_X10_run _ (f_X10_run num cel szs cod has t_kept t_size r_kept r_size sum pil pmany mmks mcts stop)).1
    rw [e1, e2]; rfl
  · refine ⟨num', sn, cel', szs, stb, a_tok, a_beh, a_msk, a_sec, a_siz, b_tok, b_beh, b_msk, b_sec, b_siz, c_kept, c_size, tk', ts', rk', rs', sum', next, fault, fplace, cp', cm', cc', hg', nx', turns, outc, fpl, prg, cod, words, has, pos, mfault, plc, mp', pm', mm', mc', mturns, st', ?_, ?_, ?_⟩
    · show (rb_X9_run _ (f_X9_run num cel szs c_kept c_size t_kept t_size r_kept r_size sum pile mks cts hgt nxt)).2 = _
      rw [e1]; rfl
    · show (rb_X10_run _ (f_X10_run num cel szs cod has t_kept t_size r_kept r_size sum pil pmany mmks mcts stop)).2 = _
      rw [e2]; rfl
    · exact ⟨hc.1, hc.2.1, hts, hrs, hc.2.2.2.2.1, hm0, hc.2.2.2.2.2.2⟩
