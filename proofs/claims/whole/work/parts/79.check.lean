/-! the check of a program, on both sides -/
theorem Lab.cut {L : Nat → Prop} {a b : Nat} {s s' : Int32 × Int32} (h : Lab L a (b + 1) s s') (hL : ¬ L b) : Lab L a b s s' := by
  refine ⟨h.1, fun z => ?_⟩
  rcases h.2 z with ⟨h1, h2⟩ | ⟨i, i1, i2, i3, i4, i5⟩
  · exact Or.inl ⟨fun i a1 a2 => h1 i a1 (by omega), h2⟩
  · by_cases hi : i = b
    · subst hi; exact absurd i3 hL
    · exact Or.inr ⟨i, i1, by omega, i3, i4, i5⟩
section CK
variable {sn stb tk ab am asx bt bb bm bs ck prg cod : Nat → Int32} {bz cs nx fa fp fpl words has pos mf plc : Int32} {n : Nat}
theorem ff_bad {N' : NT} {nx' f p : Int32} (h : rdSs 12 tk ab am asx (nI n) sn stb 0 0 (-1) 0 0 0 = (0, (N', ((nx', f), p)))) (hf : ¬ f = 0) : f_X3_findFault tk ab am asx (nI n) sn stb nx fa fp = (f, (N', ((nx', f), p))) := by
  unfold f_X3_findFault
  rw [bd_d, h]
  simp only
  rw [if_neg hf]
theorem ff_more {N' : NT} {e : Nat} {v : Int32} (h : rdSs 12 tk ab am asx (nI n) sn stb 0 0 (-1) 0 0 0 = (v, (N', ((nI (e + 1), 0), -1)))) (hn : n ≤ 400) (he : e + 1 < n) : f_X3_findFault tk ab am asx (nI n) sn stb nx fa fp = (-11, (N', ((nI (e + 1), -11), nI (e + 1)))) := by
  unfold f_X3_findFault
  rw [bd_d, h]
  simp only
  rw [if_pos trivial, bd_d, has_lt he hn, if_neg (show ¬ (1 : Int32) = 0 by decide), bd_d]
  unfold f_X3_blame
  rw [if_pos rfl]
  simp only
  rw [if_neg (show ¬ (-11 : Int32) = 0 by decide)]
theorem ff_leak {N' : NT} {v : Int32} {s : Int32 × Int32} (h : rdSs 12 tk ab am asx (nI n) sn stb 0 0 (-1) 0 0 0 = (v, (N', ((nI n, 0), -1)))) (hn : n ≤ 400) (hl : f_X3_findLeak_2 tk N'.1.1 N'.1.2 N'.2 (nI n) sn stb 401 0 (-1) 0 = s) : f_X3_findFault tk ab am asx (nI n) sn stb nx fa fp = (s.1, (N', ((nI n, s.1), s.2))) := by
  unfold f_X3_findFault
  rw [bd_d, h]
  simp only
  rw [if_pos trivial, bd_d, has_ge (Nat.le_refl _) (by omega), if_pos rfl, bd_d]
  unfold f_X3_findLeak
  rw [hl]
theorem ck_bad {N' : NT} {v nx' p : Int32} (h : f_X3_findFault tk ab am asx (nI n) sn stb nx fa fp = (v, (N', ((nx', v), p)))) (hv : ¬ v = 0) : ∃ ab' : Nat → Int32, f_X9_check sn stb tk ab am asx (nI n) bt bb bm bs bz ck cs nx fa fp fpl = (v, ((((ab', N'.1.2), (N'.2, 0)), ((bt, bb), (bm, bs))), (((bz, ck), (cs, nx')), ((v, p), p)))) ∧ ∀ i, i < 400 → ab' i = 0 := by
  obtain ⟨ab', c1, c2⟩ := clear_eq N'.1.1 (nI n)
  refine ⟨ab', ?_, c2⟩
  unfold f_X9_check f_X3_faultPlace
  rw [bd_d, h]
  simp only
  rw [bd_d, if_neg hv, bd_d, c1]
theorem mk_60 {text : Nat → Int32} {f p : Int32} (hf : ¬ f = 0) : f_X10_check_60 text sn stb (nI n) prg cod words has fpl pos f p = (f, ((((0, prg), cod), (words, has)), ((p, pos), (f, p)))) ∧ ok_X10_check_60 text sn stb (nI n) prg cod words has fpl pos f p := by
  unfold f_X10_check_60 ok_X10_check_60 f_X10_check_97 ok_X10_check_97
  rw [if_neg hf, if_neg hf, if_neg hf, if_neg hf]
  exact ⟨rfl, trivial⟩
theorem mk_bad {po f p : Int32} (h : mA 12 tk (nI n) 0 0 (-1) 1 0 = ((po, f), p)) (hn : n ≤ 400) (hf : ¬ f = 0) : f_X10_check tk (nI n) sn stb prg cod words has fpl pos mf plc = (f, ((((0, prg), cod), (words, has)), ((p, po), (f, p)))) ∧ ok_X10_check tk (nI n) sn stb prg cod words has fpl pos mf plc := by
  obtain ⟨q1, q2⟩ := mk_60 (sn := sn) (stb := stb) (prg := prg) (cod := cod) (words := words) (has := has) (fpl := fpl) (pos := po) (n := n) (text := tk) (p := p) hf
  constructor
  · unfold f_X10_check
    rw [bd_d, h]
    simp only
    rw [if_neg hf]
    exact q1
  · unfold ok_X10_check
    rw [bdP_d, h]
    simp only
    rw [if_neg hf]
    exact ⟨⟨0, n, rfl, rfl, Nat.zero_le _, hn⟩, q2⟩
theorem mk_more {e : Nat} (h : mA 12 tk (nI n) 0 0 (-1) 1 0 = ((nI e, 0), -1)) (hn : n ≤ 400) (he : e + 1 < n) : f_X10_check tk (nI n) sn stb prg cod words has fpl pos mf plc = (-11, ((((0, prg), cod), (words, has)), ((nI (e + 1), nI (e + 1)), (-11, nI (e + 1))))) ∧ ok_X10_check tk (nI n) sn stb prg cod words has fpl pos mf plc := by
  obtain ⟨q1, q2⟩ := mk_60 (sn := sn) (stb := stb) (prg := prg) (cod := cod) (words := words) (has := has) (fpl := fpl) (pos := nI (e + 1)) (n := n) (text := tk) (p := nI (e + 1)) (show ¬ (-11 : Int32) = 0 by decide)
  have hle : ¬ nI n ≤ nI (e + 1) := nI_ge he (by omega)
  have hfl : f_X10_fail 0 (-1) (-11) (nI (e + 1)) = (0, (-11, nI (e + 1))) := by
    unfold f_X10_fail
    rw [if_pos rfl]
  constructor
  · unfold f_X10_check
    rw [bd_d, h]
    simp only
    rw [if_pos trivial, nI_p1, if_neg hle, bd_d, hfl]
    exact q1
  · unfold ok_X10_check
    rw [bdP_d, h]
    simp only
    rw [if_pos trivial, nI_p1, if_neg hle, bdP_d, hfl]
    exact ⟨⟨0, n, rfl, rfl, Nat.zero_le _, hn⟩, q2⟩
theorem mk_go {e : Nat} (h : mA 12 tk (nI n) 0 0 (-1) 1 0 = ((nI e, 0), -1)) (hn : n ≤ 400) (he : e + 1 = n) : f_X10_check tk (nI n) sn stb prg cod words has fpl pos mf plc = f_X10_check_60 tk sn stb (nI n) prg cod words has fpl (nI n) 0 (-1) ∧ (ok_X10_check_60 tk sn stb (nI n) prg cod words has fpl (nI n) 0 (-1) → ok_X10_check tk (nI n) sn stb prg cod words has fpl pos mf plc) := by
  have hle : nI n ≤ nI n := nI_le (Nat.le_refl _) (by omega)
  constructor
  · unfold f_X10_check
    rw [bd_d, h]
    simp only
    rw [if_pos trivial, nI_p1, he, if_pos hle]
  · unfold ok_X10_check
    rw [bdP_d, h]
    simp only
    rw [if_pos trivial, nI_p1, he, if_pos hle]
    exact fun z => ⟨⟨0, n, rfl, rfl, Nat.zero_le _, hn⟩, z⟩
theorem mk_leak {e : Nat} {s : Int32 × Int32} (h : lbA 13 tk sn stb 0 (-1) 0 0 = (nI e, s)) (hk : lbAk 13 tk sn stb 0 (-1) 0 0) (hs : ¬ s.1 = 0) : f_X10_check_60 tk sn stb (nI n) prg cod words has fpl pos 0 (-1) = (s.1, ((((0, prg), cod), (words, has)), ((s.2, pos), (s.1, s.2)))) ∧ ok_X10_check_60 tk sn stb (nI n) prg cod words has fpl pos 0 (-1) := by
  constructor
  · unfold f_X10_check_60 f_X10_check_97
    rw [if_pos rfl, bd_d, h]
    simp only
    rw [if_neg hs, if_neg hs]
  · unfold ok_X10_check_60 ok_X10_check_97
    rw [if_pos rfl, bdP_d, h]
    simp only
    rw [if_neg hs, if_neg hs]
    exact ⟨hk, trivial⟩
theorem mk_ok {e : Nat} (h : lbA 13 tk sn stb 0 (-1) 0 0 = (nI e, (0, -1))) (hk : lbAk 13 tk sn stb 0 (-1) 0 0) (he : e < 400) : f_X10_check_60 tk sn stb (nI n) prg cod words has fpl pos 0 (-1) = f_X10_check_114 tk sn stb 402 (nI n) prg cod words has (-1) pos 0 (-1) 0 ∧ (ok_X10_check_114 tk sn stb 402 (nI n) prg cod words has (-1) pos 0 (-1) 0 → ok_X10_check_60 tk sn stb (nI n) prg cod words has fpl pos 0 (-1)) := by
  constructor
  · unfold f_X10_check_60 f_X10_check_97
    rw [if_pos rfl, bd_d, h]
    simp only
    rw [if_pos trivial, if_neg (nI_pos (by omega)), if_pos trivial]
  · unfold ok_X10_check_60 ok_X10_check_97
    rw [if_pos rfl, bdP_d, h]
    simp only
    rw [if_pos trivial, if_neg (nI_pos (by omega)), if_pos trivial]
    exact fun z => ⟨hk, z⟩
theorem mk_end {e p : Nat} {cod' : Nat → Int32} (h : cdA 13 sn stb prg cod 0 0 0 0 = (nI e, (cod', nI p))) (hk : cdAk 13 sn stb prg cod 0 0 0 0) (he : e < 400) (hp : p < 2048) (hn : n ≤ 400) : f_X10_check_114 tk sn stb 1 (nI n) prg cod words has (-1) pos 0 (-1) (nI n) = (nI (p + 1), ((((0, prg), upd cod' p 0), (nI (p + 1), 1)), ((-1, pos), (0, -1)))) ∧ ok_X10_check_114 tk sn stb 1 (nI n) prg cod words has (-1) pos 0 (-1) (nI n) := by
  have hle : nI n ≤ nI n := nI_le (Nat.le_refl _) (by omega)
  constructor
  · rw [f_X10_check_114, if_pos hle, bd_d, h]
    simp only
    rw [bd_d, word_eq hp, if_neg (nI_pos (by omega)), if_pos trivial]
  · rw [ok_X10_check_114, if_pos hle, bdP_d, h]
    simp only
    rw [bdP_d, if_neg (nI_pos (by omega)), if_pos trivial]
    exact ⟨hk, word_ok hp _ _, trivial⟩
end CK
