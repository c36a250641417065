/-! runs of the code, on both sides -/
section RN
variable {szs ck cod : Nat → Int32} {e : Nat} {T : TT}
theorem run_loop (hW : e + 1 ≤ 2048) (hck : ∀ x, x < e + 1 → ck x = cod x) (hz : SZ szs) (hT : ∀ pc k m' r', T pc k m' r' → pc ≤ e ∧ (pc < e → m' ≤ 12 ∧ r' ≤ 12 ∧ SO cod (Tw T) e pc k m' r')) (he : cod e = 0) (has : Int32) : ∀ (q y f g : Nat) (cp mp cm mm cc mc num cel tk rk : Nat → Int32) (sum : Int64) (pc h i j : Nat), y + q = 20000 → q + 1 ≤ f → q + 1 ≤ g → IV T cp mp cm mm cc mc pc h → i ≤ y → j ≤ 17 * y → ∃ (v hc hm xc st : Int32) (cp' mp' cm' mm' cc' mc' num' cel' tk' rk' : Nat → Int32) (i' j' : Nat) (sum' : Int64), f_X1_runCode_26 ck (nI (e + 1)) szs f cp cm cc (nI h) (nI pc) num cel tk (nI i) rk (nI j) sum (nI (y + 1)) = (v, ((((cp', cm'), cc'), ((hc, xc), num')), (((cel', tk'), nI i'), ((rk', nI j'), sum')))) ∧ f_X10_run_75 szs cod has g num cel tk (nI i) rk (nI j) sum mp (nI h) mm mc 0 (nI y) (nI pc) = (v, ((((num', cel'), tk'), ((nI i', rk'), nI j')), (((sum', mp'), hm), ((mm', mc'), st)))) ∧ ok_X10_run_75 szs cod has g num cel tk (nI i) rk (nI j) sum mp (nI h) mm mc 0 (nI y) (nI pc) ∧ i' ≤ 20000 ∧ j' ≤ 340000 ∧ cm' 0 = -1 := by
  intro q
  induction q with
  | zero =>
    intro y f g cp mp cm mm cc mc num cel tk rk sum pc h i j hy hf hg hI hi hj
    obtain ⟨f, rfl⟩ : ∃ f', f = f' + 1 := ⟨f - 1, by omega⟩
    obtain ⟨g, rfl⟩ : ∃ f', g = f' + 1 := ⟨g - 1, by omega⟩
    obtain ⟨m, r, -, -, -, -, -, h0⟩ := hI
    have ey : y = 20000 := by omega
    subst ey
    refine ⟨-4, nI h, nI h, nI pc, 0, cp, mp, cm, mm, cc, mc, num, cel, tk, rk, i, j, sum, ?_, ?_, ?_, by omega, by omega, h0⟩
    · rw [f_X1_runCode_26, if_pos (show (20000 : Int32) < nI (20000 + 1) by decide)]
    · rw [f_X10_run_75, if_pos (show nI 20000 = (20000 : Int32) from rfl)]
    · rw [ok_X10_run_75, if_pos (show nI 20000 = (20000 : Int32) from rfl)]
      trivial
  | succ q ih =>
    intro y f g cp mp cm mm cc mc num cel tk rk sum pc h i j hy hf hg hI hi hj
    obtain ⟨f, rfl⟩ : ∃ f', f = f' + 1 := ⟨f - 1, by omega⟩
    obtain ⟨g, rfl⟩ : ∃ f', g = f' + 1 := ⟨g - 1, by omega⟩
    have hTe : ∀ x k m r, Tw T x k m r → x ≤ e := by
      rintro x k m r ⟨m', r', -, -, z⟩
      exact (hT _ _ _ _ z).1
    obtain ⟨m, r, t, hh, hA, hm, hr, h0⟩ := hI
    obtain ⟨hpe, hso⟩ := hT _ _ _ _ t
    have c1 : ¬ (20000 : Int32) < nI (y + 1) := Int32.not_lt.mpr (show nI (y + 1) ≤ (20000 : Int32) from nI_le (b := 20000) (by omega) (by decide))
    have c2 : ¬ nI y = (20000 : Int32) := fun z => absurd ((nI_eq (b := 20000) (by omega) (by decide)).mp z) (by omega)
    have hrd : f_X6_read 2048 ck (nI (e + 1)) (nI pc) 0 = cod pc := rd_eq hW hck (by omega)
    have hcl : (nI pc).toNatClampNeg = pc := cl_nI (by omega)
    have hvp : vp_in (nI pc) 4000 := vp_in_nI (by omega) (by decide)
    obtain ⟨rk1, sum1, s1, s2⟩ := see_eq (j := j) (by omega) rk sum (nI pc)
    by_cases hpc : pc = e
    · subst hpc
      refine ⟨nI (y + 1), nI h, nI h, nI pc, 0, cp, mp, cm, mm, cc, mc, num, cel, tk, rk1, i, j + 1, sum1, ?_, ?_, ?_, by omega, by omega, h0⟩
      · rw [f_X1_runCode_26, if_neg c1, bd_d, bd_d, hrd, s1, if_pos he]
      · rw [f_X10_run_75, if_neg c2, bd_d, s2, bd_d, hcl, if_pos he, nI_p1]
      · rw [ok_X10_run_75, if_neg c2, bdP_d, s2, bdP_d, hcl, if_pos he]
        exact ⟨⟨j, by omega, rfl⟩, hvp, trivial⟩
    · obtain ⟨m12, r12, so⟩ := hso (by omega)
      have HH : HB szs ck cod e T cp mp cm mm cc mc pc h m r i (j + 1) := ⟨hW, hck, hTe, by omega, hh, hA, hm, hr, h0, by omega, by omega, hz, m12, r12⟩
      obtain ⟨n0, ⟨fl, st, hc, hm1, xc, xm, cp1, mp1, cm1, mm1, cc1, mc1, num1, cel1, tk1, rk2, i1, j1, sum2, e1, e2, hi1, hj1, hcase⟩, kk⟩ := sg_all (num := num) (cel := cel) (tk := tk) (rk := rk1) (sum := sum1) HH so
      rcases hcase with ⟨rfl, rfl, pc1, h1, rfl, rfl, rfl, rfl, hI1⟩ | ⟨rfl, rfl, h01⟩
      · obtain ⟨v, hc', hm', xc', st', cp', mp', cm', mm', cc', mc', num', cel', tk', rk', i', j', sum', r1, r2, r3, r4, r5, r6⟩ := ih (y + 1) f g cp1 mp1 cm1 mm1 cc1 mc1 num1 cel1 tk1 rk2 sum2 pc1 h1 i1 j1 (by omega) (by omega) (by omega) hI1 (by omega) (by omega)
        refine ⟨v, hc', hm', xc', st', cp', mp', cm', mm', cc', mc', num', cel', tk', rk', i', j', sum', ?_, ?_, ?_, r4, r5, r6⟩
        · rw [f_X1_runCode_26, if_neg c1, bd_d, bd_d, hrd, s1, if_neg n0, bd_d]
          simp only
          rw [e1, if_neg (show ¬ (1 : Int32) = 0 by decide), nI_p1]
          exact r1
        · rw [f_X10_run_75, if_neg c2, bd_d, s2, bd_d, hcl, if_neg n0, bd_d]
          simp only
          rw [e2, if_pos rfl, nI_p1]
          exact r2
        · rw [ok_X10_run_75, if_neg c2, bdP_d, s2, bdP_d, hcl, if_neg n0, bdP_d]
          simp only
          refine ⟨⟨j, by omega, rfl⟩, hvp, kk, ?_⟩
          rw [e2, if_pos rfl, nI_p1]
          exact r3
      · refine ⟨-5, hc, hm1, xc, -5, cp1, mp1, cm1, mm1, cc1, mc1, num1, cel1, tk1, rk2, i1, j1, sum2, ?_, ?_, ?_, by omega, by omega, h01⟩
        · rw [f_X1_runCode_26, if_neg c1, bd_d, bd_d, hrd, s1, if_neg n0, bd_d]
          simp only
          rw [e1, if_pos rfl]
        · rw [f_X10_run_75, if_neg c2, bd_d, s2, bd_d, hcl, if_neg n0, bd_d]
          simp only
          rw [e2, if_neg (show ¬ (-5 : Int32) = 0 by decide)]
        · rw [ok_X10_run_75, if_neg c2, bdP_d, s2, bdP_d, hcl, if_neg n0, bdP_d]
          simp only
          refine ⟨⟨j, by omega, rfl⟩, hvp, kk, ?_⟩
          rw [e2, if_neg (show ¬ (-5 : Int32) = 0 by decide)]
          trivial
theorem run_init (has : Int32) (var tab tol trc pil : Nat → Int32) (tm rm : Int32) (mark : Int64) (pm stop : Int32) : ∀ (q y f : Nat) (mm mc : Nat → Int32), y + q = 14 → q + 1 ≤ f → (y = 0 ∨ mm 0 = -1) → ∃ mm' mc' : Nat → Int32, mm' 0 = -1 ∧ f_X10_run_32 szs cod has f var tab tol tm trc rm mark pil pm mm mc stop (nI y) = f_X10_run_75 szs cod has 20001 var tab tol tm trc rm mark pil pm mm' mc' 0 0 0 ∧ (ok_X10_run_75 szs cod has 20001 var tab tol tm trc rm mark pil pm mm' mc' 0 0 0 → ok_X10_run_32 szs cod has f var tab tol tm trc rm mark pil pm mm mc stop (nI y)) := by
  intro q
  induction q with
  | zero =>
    intro y f mm mc hy hf h0
    obtain ⟨f, rfl⟩ : ∃ f', f = f' + 1 := ⟨f - 1, by omega⟩
    have ey : y = 14 := by omega
    subst ey
    refine ⟨mm, mc, h0.resolve_left (by omega), ?_, ?_⟩
    · rw [f_X10_run_32, if_pos (show (14 : Int32) ≤ nI 14 by decide)]
    · rw [ok_X10_run_32, if_pos (show (14 : Int32) ≤ nI 14 by decide)]
      exact fun z => z
  | succ q ih =>
    intro y f mm mc hy hf h0
    obtain ⟨f, rfl⟩ : ∃ f', f = f' + 1 := ⟨f - 1, by omega⟩
    have c1 : ¬ (14 : Int32) ≤ nI y := nI_ge (b := 14) (by omega) (by decide)
    have hv : vp_in (nI y) 14 := vp_in_nI (by omega) (by decide)
    have hcl : (nI y).toNatClampNeg = y := cl_nI (by omega)
    by_cases hy0 : nI y = 0
    · have : y = 0 := (nI_eq (b := 0) (by omega) (by decide)).mp hy0
      subst this
      obtain ⟨mm', mc', r1, r2, r3⟩ := ih 1 f (upd mm 0 (-1)) (upd mc 0 0) (by omega) (by omega) (Or.inr (upd_eq _ _ _))
      refine ⟨mm', mc', r1, ?_, ?_⟩
      · rw [f_X10_run_32, if_neg c1, if_pos hy0, hcl, nI_p1]
        exact r2
      · intro z
        rw [ok_X10_run_32, if_neg c1, if_pos hy0, hcl, nI_p1]
        exact ⟨hv, hv, r3 z⟩
    · have hy1 : ¬ y = 0 := fun z => hy0 (by rw [z]; rfl)
      obtain ⟨mm', mc', r1, r2, r3⟩ := ih (y + 1) f (upd mm y 0) (upd mc y 0) (by omega) (by omega) (Or.inr (by rw [upd_ne _ _ (fun z => hy1 z.symm)]; exact h0.resolve_left hy1))
      refine ⟨mm', mc', r1, ?_, ?_⟩
      · rw [f_X10_run_32, if_neg c1, if_neg hy0, hcl, nI_p1]
        exact r2
      · intro z
        rw [ok_X10_run_32, if_neg c1, if_neg hy0, hcl, nI_p1]
        exact ⟨hv, hv, r3 z⟩
theorem run_eq (hW : e + 1 ≤ 2048) (hck : ∀ x, x < e + 1 → ck x = cod x) (hz : SZ szs) (he : cod e = 0) (hS : Seg cod 0 e 0 0 0 0 0 0) (cp mp cm mm cc mc num cel tk rk : Nat → Int32) (hg nx ts rs tm rm pm stop : Int32) (sum mark : Int64) (h0 : cm 0 = -1) : ∃ (v hc hm xc st : Int32) (cp' mp' cm' mm' cc' mc' num' cel' tk' rk' : Nat → Int32) (i' j' : Nat) (sum' : Int64), f_X1_runCode cp cm cc hg nx ck (nI (e + 1)) num cel szs tk ts rk rs sum = (v, ((((cp', cm'), cc'), ((hc, xc), num')), (((cel', tk'), nI i'), ((rk', nI j'), sum')))) ∧ f_X10_run num cel szs cod 1 tk tm rk rm mark mp pm mm mc stop = (v, ((((num', cel'), tk'), ((nI i', rk'), nI j')), (((sum', mp'), hm), ((mm', mc'), st)))) ∧ ok_X10_run num cel szs cod 1 tk tm rk rm mark mp pm mm mc stop ∧ i' ≤ 20000 ∧ j' ≤ 340000 ∧ cm' 0 = -1 := by
  obtain ⟨-, T, t0, t⟩ := hS
  obtain ⟨mm1, mc1, q1, q2, q3⟩ := run_init (szs := szs) (cod := cod) 1 num cel tk rk mp 0 0 0 0 stop 14 0 15 mm mc (by omega) (by omega) (Or.inl rfl)
  have hI : IV T cp mp cm mm1 cc mc1 0 0 := IV.of t0 (by omega) (fun i hi => absurd hi (Nat.not_lt_zero _)) (fun i hi => by rw [Nat.le_zero.mp hi, h0, q1]) (fun i hi => absurd hi (Nat.not_lt_zero _)) h0
  obtain ⟨v, hc', hm', xc', st', cp', mp', cm', mm', cc', mc', num', cel', tk', rk', i', j', sum', r1, r2, r3, r4, r5, r6⟩ := run_loop hW hck hz (fun pc k m' r' z => ⟨(t pc k m' r' z).2.1, (t pc k m' r' z).2.2.2⟩) he 1 20000 0 20001 20001 cp mp cm mm1 cc mc1 num cel tk rk 0 0 0 0 0 (by omega) (by omega) (by omega) hI (by omega) (by omega)
  refine ⟨v, hc', hm', xc', st', cp', mp', cm', mm', cc', mc', num', cel', tk', rk', i', j', sum', ?_, ?_, ?_, r4, r5, r6⟩
  · unfold f_X1_runCode f_X7_clear f_X6_clear
    rw [bd_d, bd_d, bd_d]
    exact r1
  · unfold f_X10_run
    rw [if_neg (show ¬ (1 : Int32) = 0 by decide)]
    exact Eq.trans q2 r2
  · unfold ok_X10_run
    rw [if_neg (show ¬ (1 : Int32) = 0 by decide)]
    exact q3 r3
end RN
