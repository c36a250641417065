/-! the check of a program: both sides agree -/
section CK2
variable {sn stb tk ab am asx bt bb bm bs ck prg cod : Nat → Int32} {bz cs nx fa fp fpl words has pos mf plc : Int32} {n : Nat}
theorem wc_eq {t' b' m' s' kept' : Nat → Int32} {p : Nat} (hw : wrSs 12 t' b' m' s' (nI n) ck 0 0 0 0 = (kept', nI p)) (hp : p < 2048) : f_X0_writeCode t' b' m' s' (nI n) ck cs = (upd kept' p 0, nI (p + 1)) := by
  unfold f_X0_writeCode f_X6_clear
  rw [bd_d, hw, bd_d]
  simp only
  rw [add_eq hp, bd_d]
theorem ck_ok {N' : NT} {nx' : Int32} {t' b' m' s' kept' : Nat → Int32} {p : Nat} (h : f_X3_findFault tk ab am asx (nI n) sn stb nx fa fp = (0, (N', ((nx', 0), -1)))) (hc : f_X2_copyFrom_2 tk N'.1.1 N'.1.2 N'.2 (nI n) 401 bt bb bm bs bz 0 = (((t', b'), m'), (s', nI n))) (hw : wrSs 12 t' b' m' s' (nI n) ck 0 0 0 0 = (kept', nI p)) (hp : p < 2048) : ∃ ab' : Nat → Int32, f_X9_check sn stb tk ab am asx (nI n) bt bb bm bs bz ck cs nx fa fp fpl = (nI (p + 1), ((((ab', N'.1.2), (N'.2, 0)), ((t', b'), (m', s'))), (((nI n, upd kept' p 0), (nI (p + 1), nx')), ((0, -1), -1)))) ∧ ∀ i, i < 400 → ab' i = 0 := by
  obtain ⟨ab', c1, c2⟩ := clear_eq N'.1.1 (nI n)
  refine ⟨ab', ?_, c2⟩
  unfold f_X9_check f_X3_faultPlace f_X2_copyFrom f_X6_size
  rw [bd_d, h]
  simp only
  rw [bd_d, if_pos trivial, bd_d, hc]
  simp only
  rw [bd_d, wc_eq hw hp, bd_d, c1, bd_d]
def CKR (bt bb : Nat → Int32) (bz : Int32) (ck : Nat → Int32) (cs : Int32) (prg cod : Nat → Int32) (words has : Int32) (bt' bb' : Nat → Int32) (bz' : Int32) (ck' : Nat → Int32) (cs' : Int32) (prg' cod' : Nat → Int32) (wo' has' : Int32) : Prop := (bt' = bt ∧ bb' = bb ∧ bz' = bz ∧ ck' = ck ∧ cs' = cs ∧ prg' = prg ∧ cod' = cod ∧ wo' = words ∧ has' = has) ∨ (has' = 1 ∧ cs' = wo' ∧ PP bt' bb' bz' prg' ∧ ∃ e : Nat, wo' = nI (e + 1) ∧ e + 1 ≤ 2048 ∧ AG ck' cod' (e + 1) ∧ cod' e = 0 ∧ Seg cod' 0 e 0 0 0 0 0 0)
def CKE (sn stb tk ab am asx bt bb bm bs : Nat → Int32) (bz : Int32) (ck : Nat → Int32) (cs nx fa fp fpl : Int32) (prg cod : Nat → Int32) (words has pos mf plc : Int32) (n : Nat) : Prop := ok_X10_check tk (nI n) sn stb prg cod words has fpl pos mf plc ∧ ∃ (v : Int32) (ab' am' as' bt' bb' bm' bs' ck' prg' cod' : Nat → Int32) (bz' cs' nx' fa' fp' fpl' wo' has' pos' mf' plc' : Int32), f_X9_check sn stb tk ab am asx (nI n) bt bb bm bs bz ck cs nx fa fp fpl = (v, ((((ab', am'), (as', 0)), ((bt', bb'), (bm', bs'))), (((bz', ck'), (cs', nx')), ((fa', fp'), fpl')))) ∧ f_X10_check tk (nI n) sn stb prg cod words has fpl pos mf plc = (v, ((((0, prg'), cod'), (wo', has')), ((fpl', pos'), (mf', plc')))) ∧ (∀ i, i < 400 → ab' i = 0) ∧ CKR bt bb bz ck cs prg cod words has bt' bb' bz' ck' cs' prg' cod' wo' has'
theorem cke_bad {v p nx' po : Int32} {N' : NT} (hv : ¬ v = 0) (h1 : f_X3_findFault tk ab am asx (nI n) sn stb nx fa fp = (v, (N', ((nx', v), p)))) (h2 : f_X10_check tk (nI n) sn stb prg cod words has fpl pos mf plc = (v, ((((0, prg), cod), (words, has)), ((p, po), (v, p))))) (h3 : ok_X10_check tk (nI n) sn stb prg cod words has fpl pos mf plc) : CKE sn stb tk ab am asx bt bb bm bs bz ck cs nx fa fp fpl prg cod words has pos mf plc n := by
  obtain ⟨ab', c1, c2⟩ := ck_bad (bt := bt) (bb := bb) (bm := bm) (bs := bs) (bz := bz) (ck := ck) (cs := cs) (fpl := fpl) h1 hv
  exact ⟨h3, v, ab', N'.1.2, N'.2, bt, bb, bm, bs, ck, prg, cod, bz, cs, nx', v, p, p, words, has, po, v, p, c1, h2, c2, Or.inl ⟨rfl, rfl, rfl, rfl, rfl, rfl, rfl, rfl, rfl⟩⟩
theorem cke_ok {N' : NT} {e j : Nat} (hn : n ≤ 400) (hen : e + 1 = n) (hb : ∀ i, i < 400 → ab i = 0) (h1 : f_X3_findFault tk ab am asx (nI n) sn stb nx fa fp = (0, (N', ((nI n, 0), -1)))) (hf : FR ((ab, am), asx) N' 0 e) (hL : nL (aS tk sn stb N' 12 0) j 0 e) (ht : tk e = 0) (h2 : f_X10_check tk (nI n) sn stb prg cod words has fpl pos mf plc = f_X10_check_114 tk sn stb 402 (nI n) prg cod words has (-1) (nI n) 0 (-1) 0) (h3 : ok_X10_check_114 tk sn stb 402 (nI n) prg cod words has (-1) (nI n) 0 (-1) 0 → ok_X10_check tk (nI n) sn stb prg cod words has fpl pos mf plc) : CKE sn stb tk ab am asx bt bb bm bs bz ck cs nx fa fp fpl prg cod words has pos mf plc n := by
  obtain ⟨t', b', m', s', c1, c2⟩ := copy_loop tk N'.1.1 N'.1.2 N'.2 (nI n) 400 0 401 bt bb bm bs bz (by omega) (by omega) (fun i hi => absurd hi (Nat.not_lt_zero _))
  obtain ⟨prg', p1, p2, p3⟩ := c114 hn tk sn stb cod words has (-1) (nI n) 0 (-1) n 0 402 prg (by omega) (by omega) (fun i hi => absurd hi (Nat.not_lt_zero _))
  have hbe : N'.1.1 e = 0 := ((hf.1 e (Or.inr (Nat.le_refl _))).1).trans (hb e (by omega))
  have hg : AgW tk prg' N' ((b', m'), s') 0 e := by
    intro i _ hi
    obtain ⟨q1, q2, q3, q4⟩ := c2 i (by omega)
    refine ⟨p1 i (by omega), q2, q3, fun z => q4.trans (narB (hf.2 i (fun z' => absurd (hb i (by omega)) z') z))⟩
  have hL' : nL (aS prg' sn stb ((b', m'), s') 12 0) j 0 e := aSL_cg hL (by omega) hg
  have hpe : prg' e = 0 := (p1 e (by omega)).trans ht
  have hbe' : b' e = 0 := ((c2 e (by omega)).2.1).trans hbe
  have hw : ∀ i, i < n → t' i = prg' i := fun i hi => ((c2 i (by omega)).1).trans (p1 i hi).symm
  obtain ⟨kept', cod', p', w1, w2, w3, w4, -, w6, -, w8⟩ := gB_eq (N := ((b', m'), s')) (m := 0) (r := 0) hn (gS_eq (tok := t') (w := prg') (sv := sn) (stb := stb) (N := ((b', m'), s')) hn hw 12 13 (by omega) (by omega)) (by omega) (by omega) hL' (Or.inl hpe) hbe' (by omega) ck cod 0 (by omega) (fun i hi => absurd hi (Nat.not_lt_zero _))
  have hp' : p' + 1 ≤ 2048 := by omega
  obtain ⟨ab', d1, d2⟩ := ck_ok (ck := ck) (cs := cs) (fpl := fpl) h1 c1 w1 (by omega)
  obtain ⟨f1, f2⟩ := mk_end (tk := tk) (words := words) (has := has) (pos := nI n) (n := n) w2 w3 (by omega) (show p' < 2048 by omega) hn
  refine ⟨h3 (p3 f2), nI (p' + 1), ab', N'.1.2, N'.2, t', b', m', s', upd kept' p' 0, prg', upd cod' p' 0, nI n, nI (p' + 1), nI n, 0, -1, -1, nI (p' + 1), 1, nI n, 0, -1, d1, h2.trans (p2.trans f1), d2, Or.inr ⟨rfl, rfl, ?_, p', rfl, hp', w4.up 0, upd_eq _ _ _, ?_⟩⟩
  · exact ⟨n, e, j, hn, rfl, hw, nL_mono (fun a b h => aS_nS h) hL', hpe, hbe', by omega⟩
  · exact w8.congr (fun i _ hi => upd_ne _ _ (by omega))
theorem chk_eq (hn : n ≤ 400) (hb : ∀ i, i < 400 → ab i = 0) : CKE sn stb tk ab am asx bt bb bm bs bz ck cs nx fa fp fpl prg cod words has pos mf plc n := by
  have hz : ZB ((ab, am), asx) 0 := fun i _ h2 => hb i h2
  rcases rdA_of hn (rdS_eq (sn := sn) (stb := stb) (tok := tk) hn 12 (Nat.le_refl _)) 0 0 ((ab, am), asx) (-1) 0 (Nat.zero_le _) hz with ⟨N', e, j, r1, r2, hen, hf, hL, ht⟩ | ⟨N', nx', po, f, p, hf0, r1, r2⟩
  · have ht0 : tk e = 0 := by
      rcases ht with h | h
      · exact h
      · exact absurd rfl h.2
    by_cases hl : e + 1 = n
    · have hbe : N'.1.1 e = 0 := ((hf.1 e (Or.inr (Nat.le_refl _))).1).trans (hb e (by omega))
      have hQ : ∀ i, i < n → ¬ N'.1.1 i ≤ 0 → QS tk n i := by
        intro i hi hne
        by_cases hie : i = e
        · subst hie
          exact absurd (by rw [hbe]; decide) hne
        · exact nL_Q (Q := fun i => ¬ N'.1.1 i ≤ 0 → QS tk n i) (fun _ _ h => aS_lt h) (fun a b h hb => aS_Q h hb) hL (by omega) i (Nat.zero_le _) (by omega) hne
      have l1 := findLeak_loop (N := N') (w := tk) (sv := sn) (stb := stb) hn hQ 401 0 (0, -1) (Nat.zero_le _) (by omega)
      obtain ⟨s, q1, q2, q3⟩ := lbA_eq (lbS_eq (w := tk) (sv := sn) (stb := stb) (N := N') 12 13 (by omega)) (by omega) hL (Or.inl ht0) (by omega) 0 (0, -1) ⟨fun _ => rfl, fun _ => rfl⟩
      have hu : f_X3_findLeak_2 tk N'.1.1 N'.1.2 N'.2 (nI n) sn stb 401 0 (-1) (nI 0) = s := by
        refine Lab.uniq (Lab.cut (b := e) ?_ (fun z => z.1 (by rw [hbe]; decide))) q2
        rw [hl]; exact l1
      rw [hl] at r1
      have ff := ff_leak (nx := nx) (fa := fa) (fp := fp) r1 hn hu
      obtain ⟨g1, g2⟩ := mk_go (sn := sn) (stb := stb) (prg := prg) (cod := cod) (words := words) (has := has) (fpl := fpl) (pos := pos) (mf := mf) (plc := plc) r2 hn hl
      by_cases hs : s.1 = 0
      · have hs' : s = (0, -1) := by
          rcases q2.2 rfl with ⟨-, h⟩ | ⟨i, -, -, -, -, h⟩
          · exact h
          · rw [h] at hs
            exact absurd hs (show ¬ (-14 : Int32) = 0 by decide)
        subst hs'
        obtain ⟨k1, k2⟩ := mk_ok (n := n) (prg := prg) (cod := cod) (words := words) (has := has) (fpl := fpl) (pos := nI n) q1 q3 (by omega)
        exact cke_ok hn hl hb ff hf hL ht0 (g1.trans k1) (fun z => g2 (k2 z))
      · obtain ⟨k1, k2⟩ := mk_leak (n := n) (prg := prg) (cod := cod) (words := words) (has := has) (fpl := fpl) (pos := nI n) q1 q3 hs
        exact cke_bad hs ff (g1.trans k1) (g2 k2)
    · obtain ⟨k1, k2⟩ := mk_more (sn := sn) (stb := stb) (prg := prg) (cod := cod) (words := words) (has := has) (fpl := fpl) (pos := pos) (mf := mf) (plc := plc) r2 hn (by omega)
      exact cke_bad (by decide) (ff_more r1 hn (by omega)) k1 k2
  · obtain ⟨k1, k2⟩ := mk_bad (sn := sn) (stb := stb) (prg := prg) (cod := cod) (words := words) (has := has) (fpl := fpl) (pos := pos) (mf := mf) (plc := plc) r2 hn hf0
    exact cke_bad hf0 (ff_bad r1 hf0) k1 k2
end CK2
