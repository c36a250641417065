/-- what is known of a program that was taken -/
def PI1 : PIt := fun bt bb bs _ pr co wo => PP bt bb bs pr ∧ ∃ e : Nat, wo = nI (e + 1) ∧ e + 1 ≤ 2048 ∧ co e = 0 ∧ Seg co 0 e 0 0 0 0 0 0
theorem g_check (σ : S_SC) (μ : S_Mdl) (h : RelP PI1 σ μ) : Ag (RelP PI1) (mK_check μ) (cS_check σ) (mS_check μ) := by
  obtain ⟨num, sn, cel, szs, stb, a_tok, a_beh, a_msk, a_sec, a_siz, b_tok, b_beh, b_msk, b_sec, b_siz, c_kept, c_size, t_kept, t_size, r_kept, r_size, sum, next, fault, fplace, pile, mks, cts, hgt, nxt, turns, outc, fpl, prg, cod, words, has, pos, mfault, plc, pil, pmany, mmks, mcts, mturns, stop, rfl, rfl, hc⟩ := h
  obtain ⟨n, hn, hs⟩ := id hc.1
  subst hs
  obtain ⟨k1, v, ab', am', as', bt', bb', bm', bs', ck', prg', cod', bz', cs', nx', fa', fp', fpl', wo', has', pos', mf', plc', e1, e2, hz, hr⟩ : CKE sn stb a_tok a_beh a_msk a_sec b_tok b_beh b_msk b_sec b_siz c_kept c_size next fault fplace fpl prg cod words has pos mfault plc n := chk_eq hn hc.2.2.2.2.1
  refine ⟨k1, ?_, ?_⟩
  · show (rb_X9_check _ (f_X9_check sn stb a_tok a_beh a_msk a_sec (nI n) b_tok b_beh b_msk b_sec b_siz c_kept c_size next fault fplace fpl)).1 = (rb_X10_check _ (f_X10_check a_tok (nI n) sn stb prg cod words has fpl pos mfault plc)).1
    rw [e1, e2]; rfl
  · refine ⟨num, sn, cel, szs, stb, a_tok, ab', am', as', 0, bt', bb', bm', bs', bz', ck', cs', t_kept, t_size, r_kept, r_size, sum, nx', fa', fp', pile, mks, cts, hgt, nxt, turns, outc, fpl', prg', cod', wo', has', pos', mf', plc', pil, pmany, mmks, mcts, mturns, stop, ?_, ?_, ?_⟩
    · show (rb_X9_check _ (f_X9_check sn stb a_tok a_beh a_msk a_sec (nI n) b_tok b_beh b_msk b_sec b_siz c_kept c_size next fault fplace fpl)).2 = _
      rw [e1]; rfl
    · show (rb_X10_check _ (f_X10_check a_tok (nI n) sn stb prg cod words has fpl pos mfault plc)).2 = _
      rw [e2]; rfl
    · rcases hr with ⟨rfl, rfl, rfl, rfl, rfl, rfl, rfl, rfl, rfl⟩ | ⟨rfl, rfl, hp, e, rfl, h1, h2, h3, h4⟩
      · exact ⟨⟨0, by omega, rfl⟩, hc.2.1, hc.2.2.1, hc.2.2.2.1, hz, hc.2.2.2.2.2⟩
      · refine ⟨⟨0, by omega, rfl⟩, hc.2.1, hc.2.2.1, hc.2.2.2.1, hz, hc.2.2.2.2.2.1, ⟨e + 1, by omega, rfl⟩, Or.inr ⟨rfl, rfl, ?_, ?_, ⟨e + 1, h1, rfl⟩, hp, e, rfl, h1, h3, h4⟩⟩
        · exact nI_lt (a := 0) (by omega) (by omega)
        · intro i hi hi2
          exact h2 i (Nat.lt_of_not_le fun z => absurd (nI_le z (by omega)) (Int32.not_le.mpr hi))
def S4 : Nat → Int32 := upd (upd (upd (upd (fun _ => 0) (0 : Int32).toNatClampNeg (4 : Int32)) (1 : Int32).toNatClampNeg (4 : Int32)) (2 : Int32).toNatClampNeg (4 : Int32)) (3 : Int32).toNatClampNeg (4 : Int32)
theorem szs0 : f_J7_fill_53178 4 (fun _ => 0) (4 : Int32) = S4 := by
  unfold f_J7_fill_53178 S4
  rw [f_J7_fill_53178_5, if_neg (by decide), f_J7_fill_53178_5, if_neg (by decide), f_J7_fill_53178_5, if_neg (by decide), f_J7_fill_53178_5, if_neg (by decide), f_J7_fill_53178_5, if_pos (by decide)]
  rfl
theorem SZ_S4 : SZ S4 := by
  intro j hj
  refine ⟨4, by omega, by omega, ?_⟩
  rcases (show j = 0 ∨ j = 1 ∨ j = 2 ∨ j = 3 by omega) with rfl | rfl | rfl | rfl <;> rfl
theorem rel0 : RelP PI1 σ0 μ0 := by
  refine ⟨(fun _ => 0), (fun _ => 0), (fun _ => 0), S4, (fun _ => 0), (fun _ => 0), (fun _ => 0), (fun _ => 0), (fun _ => 0), (0 : Int32), (fun _ => 0), (fun _ => 0), (fun _ => 0), (fun _ => 0), (0 : Int32), (fun _ => 0), (0 : Int32), (fun _ => 0), (0 : Int32), (fun _ => 0), (0 : Int32), (0 : Int64), (0 : Int32), (0 : Int32), (-1 : Int32), (fun _ => 0), (upd (fun _ => 0) (0 : Int32).toNatClampNeg (-1 : Int32)), (fun _ => 0), (0 : Int32), (0 : Int32), (0 : Int32), (0 : Int32), (-1 : Int32), (fun _ => 0), (fun _ => 0), (0 : Int32), (0 : Int32), (0 : Int32), (0 : Int32), (0 : Int32), (fun _ => 0), (0 : Int32), (fun _ => 0), (fun _ => 0), (0 : Int32), (0 : Int32), ?_, ?_, ?_⟩
  · unfold σ0
    rw [szs0]
  · rfl
  · exact ⟨⟨0, by omega, rfl⟩, SZ_S4, ⟨0, by omega, rfl⟩, ⟨0, by omega, rfl⟩, fun _ _ => rfl, rfl, ⟨0, by omega, rfl⟩, Or.inl ⟨rfl, rfl⟩⟩
theorem good1 : GoodR (RelP PI1) := fun σ μ h => ⟨g_variable PI1 σ μ h, g_table PI1 σ μ h, g_token PI1 σ μ h, g_check σ μ h, g_place PI1 σ μ h, g_code PI1 σ μ h, g_set PI1 σ μ h, g_put PI1 σ μ h, g_get PI1 σ μ h, g_at PI1 σ μ h, g_run PI1 (fun _ _ _ _ _ _ _ z => z.2) σ μ h, g_plain PI1 (fun _ _ _ _ _ _ _ z => z.1) σ μ h, g_told PI1 σ μ h, g_trace PI1 σ μ h, g_mark PI1 σ μ h, g_count PI1 σ μ h⟩
