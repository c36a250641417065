/-! code of statements, on both sides -/
section CODE2
variable {w tok sv stb : Nat → Int32} {N : NT} {n : Nat}
def GSR (kept' cod cod' : Nat → Int32) (p p' a b m r : Nat) : Prop := AG kept' cod' p' ∧ p ≤ p' ∧ p' ≤ p + 5 * (b - a) ∧ Fr cod cod' p ∧ Seg cod' p p' 0 0 m r m r
def GS (w tok sv stb : Nat → Int32) (N : NT) (n d k : Nat) : Prop := ∀ (m r a b : Nat), m + d ≤ 12 → r + d ≤ 12 → aS w sv stb N d m a b → b ≤ n → ∀ (kept cod : Nat → Int32) (p : Nat), p ≤ 5 * a → AG kept cod p → ∃ (kept' cod' : Nat → Int32) (p' : Nat), wrS d tok N.1.1 N.1.2 N.2 (nI n) kept (nI p) (nI a) (nI (12 - d)) (nI r) = (kept', nI p') ∧ cdS k sv stb w cod (nI p) (nI a) (nI m) (nI r) = (nI b, (cod', nI p')) ∧ cdSk k sv stb w cod (nI p) (nI a) (nI m) (nI r) ∧ GSR kept' cod cod' p p' a b m r
def GB (w tok sv stb : Nat → Int32) (N : NT) (n d k a e m r : Nat) : Prop := ∀ (kept cod : Nat → Int32) (p : Nat), p ≤ 5 * a → AG kept cod p → ∃ (kept' cod' : Nat → Int32) (p' : Nat), wrSs d tok N.1.1 N.1.2 N.2 (nI n) kept (nI p) (nI a) (nI (12 - d)) (nI r) = (kept', nI p') ∧ cdA k sv stb w cod (nI p) (nI a) (nI m) (nI r) = (nI e, (cod', nI p')) ∧ cdAk k sv stb w cod (nI p) (nI a) (nI m) (nI r) ∧ GSR kept' cod cod' p p' a e m r
theorem gblock {d k m r : Nat} (hn : n ≤ 400) (ih : GS w tok sv stb N n d k) (hm : m + d ≤ 12) (hr : r + d ≤ 12) : ∀ (q f g y a e : Nat) (kept cod : Nat → Int32) (p : Nat), nL (aS w sv stb N d m) q a e → (w e = 0 ∨ w e = 4) → N.1.1 e = 0 → e < n → q + 1 ≤ f → q + 1 ≤ g → y + q ≤ 300 → p ≤ 5 * a → AG kept cod p → ∃ (kept' cod' : Nat → Int32) (p' : Nat), f_X0_writeStatements_6 (wrS d) tok N.1.1 N.1.2 N.2 (nI n) f kept (nI p) (nI (12 - d)) (nI r) (nI a) (nI y) = (kept', nI p') ∧ f_X10_codeAll_3 (cdS k) sv stb w g cod (nI p) (nI m) (nI r) (nI a) = (nI e, (cod', nI p')) ∧ ok_X10_codeAll_3 (cdS k) (cdSk k) sv stb w g cod (nI p) (nI m) (nI r) (nI a) ∧ GSR kept' cod cod' p p' a e m r := by
  intro q
  induction q with
  | zero =>
    intro f g y a e kept cod p h he hbe hen hf hg hy hp hA
    obtain ⟨f, rfl⟩ : ∃ f', f = f' + 1 := ⟨f - 1, by omega⟩
    obtain ⟨g, rfl⟩ : ∃ f', g = f' + 1 := ⟨g - 1, by omega⟩
    have e1 : a = e := h
    subst e1
    have hin : vp_in (nI a) 400 := vp_in_nI (by omega) (by decide)
    have hb0 : f_X2_begins N.1.1 (nI n) (nI a) = 0 := by rw [beg_lt hen hn, hbe]; rfl
    refine ⟨kept, cod, p, ?_, ?_, ?_, hA, Nat.le_refl _, by omega, Fr.refl _ _, Seg.nil p 0 m r⟩
    · rw [f_X0_writeStatements_6, if_neg (n400 (by omega)), hb0]
      rfl
    · rw [f_X10_codeAll_3, cl_nI (by omega)]
      rcases he with he | he
      · rw [if_pos he]
      · rw [if_neg (show ¬ w a = 0 by rw [he]; decide), if_pos he]
    · rw [ok_X10_codeAll_3, cl_nI (by omega)]
      rcases he with he | he
      · rw [if_pos he]; exact ⟨hin, trivial⟩
      · rw [if_neg (show ¬ w a = 0 by rw [he]; decide), if_pos he]; exact ⟨hin, hin, trivial⟩
  | succ q ihq =>
    intro f g y a e kept cod p h he hbe hen hf hg hy hp hA
    obtain ⟨f, rfl⟩ : ∃ f', f = f' + 1 := ⟨f - 1, by omega⟩
    obtain ⟨g, rfl⟩ : ∃ f', g = f' + 1 := ⟨g - 1, by omega⟩
    obtain ⟨c, h1, h2⟩ := h
    have lt1 := aS_lt h1
    have lt2 := aSL_le h2
    have hin : vp_in (nI a) 400 := vp_in_nI (by omega) (by decide)
    obtain ⟨n0, n4, hba⟩ := nS_tok (aS_nS h1)
    have hb1 : ¬ f_X2_begins N.1.1 (nI n) (nI a) = 0 := by
      rw [beg_lt (by omega) hn, hba, if_neg (show ¬ nI c ≤ 0 from nI_nle (by omega) (by omega))]; decide
    have hb2 : f_X2_behind N.1.1 (nI n) (nI a) = nI c := by rw [beh_lt (by omega) hn, hba]
    obtain ⟨kept1, cod1, p1, e1, e2, e3, hA1, hp1, hq1, hF1, hS1⟩ := ih m r a c hm hr h1 (by omega) kept cod p hp hA
    obtain ⟨kept2, cod2, p2, g1, g2, g3, hA2, hp2, hq2, hF2, hS2⟩ := ihq f g (y + 1) c e kept1 cod1 p1 h2 he hbe hen (by omega) (by omega) (by omega) (by omega) hA1
    refine ⟨kept2, cod2, p2, ?_, ?_, ?_, hA2, by omega, by omega, hF1.trans hF2 (by omega), (hS1.congr (fun i i1 i2 => hF2 i i2)).trans hS2⟩
    · rw [f_X0_writeStatements_6, if_neg (n400 (by omega)), bd_d, if_neg hb1, bd_d, bd_d, e1, hb2, show nI y + (1 : Int32) = nI (y + 1) from nI_1 y]
      exact g1
    · rw [f_X10_codeAll_3, cl_nI (by omega), if_neg n0, if_neg n4, bd_d, e2]
      exact g2
    · rw [ok_X10_codeAll_3, cl_nI (by omega), if_neg n0, if_neg n4, bdP_d, e2]
      exact ⟨hin, hin, e3, g3⟩
theorem gB_eq {d k m r q a e : Nat} (hn : n ≤ 400) (ih : GS w tok sv stb N n d k) (hm : m + d ≤ 12) (hr : r + d ≤ 12) (h : nL (aS w sv stb N d m) q a e) (he : w e = 0 ∨ w e = 4) (hbe : N.1.1 e = 0) (hen : e < n) : GB w tok sv stb N n d k a e m r := by
  intro kept cod p hp hA
  have := aSL_le h
  exact gblock hn ih hm hr q 401 402 0 a e kept cod p h he hbe hen (by omega) (by omega) (by omega) hp hA
def GSc (w tok sv stb : Nat → Int32) (N : NT) (n d k a b m r : Nat) (kept cod : Nat → Int32) (p : Nat) : Prop := ∃ (kept' cod' : Nat → Int32) (p' : Nat), f_X0_writeStatement (wrE d) (wrSs d) tok N.1.1 N.1.2 N.2 (nI n) kept (nI p) (nI a) (nI (12 - (d + 1))) (nI r) = (kept', nI p') ∧ f_X10_codeS (cdA k) sv stb w cod (nI p) (nI a) (nI m) (nI r) = (nI b, (cod', nI p')) ∧ ok_X10_codeS (cdA k) (cdAk k) sv stb w cod (nI p) (nI a) (nI m) (nI r) ∧ GSR kept' cod cod' p p' a b m r
theorem upd3_0 (c : Nat → Int32) (p : Nat) (x y z : Int32) : upd (upd (upd c p x) (p + 1) y) (p + 2) z p = x := by rw [upd_ne _ _ (by omega), upd2_0]
theorem upd3_1 (c : Nat → Int32) (p : Nat) (x y z : Int32) : upd (upd (upd c p x) (p + 1) y) (p + 2) z (p + 1) = y := by rw [upd_ne _ _ (by omega), upd2_1]
theorem upd3_2 (c : Nat → Int32) (p : Nat) (x y z : Int32) : upd (upd (upd c p x) (p + 1) y) (p + 2) z (p + 2) = z := upd_eq _ _ _
theorem word2_eq {p : Nat} (hp : p + 1 < 2048) (c : Nat → Int32) (x y : Int32) : f_X10_word (f_X10_word c (nI p) x).1 (f_X10_word c (nI p) x).2 y = (upd (upd c p x) (p + 1) y, nI (p + 2)) := by
  rw [word_eq (show p < 2048 by omega)]
  exact word_eq hp _ _
theorem word2_ok {p : Nat} (hp : p + 1 < 2048) (c : Nat → Int32) (x y : Int32) : ok_X10_word (f_X10_word c (nI p) x).1 (f_X10_word c (nI p) x).2 y := by
  rw [word_eq (show p < 2048 by omega)]
  exact word_ok hp _ _
theorem word3_eq {p : Nat} (hp : p + 2 < 2048) (c : Nat → Int32) (x y z : Int32) : f_X10_word (f_X10_word (f_X10_word c (nI p) x).1 (f_X10_word c (nI p) x).2 y).1 (f_X10_word (f_X10_word c (nI p) x).1 (f_X10_word c (nI p) x).2 y).2 z = (upd (upd (upd c p x) (p + 1) y) (p + 2) z, nI (p + 3)) := by
  rw [word2_eq (show p + 1 < 2048 by omega)]
  exact word_eq hp _ _
theorem word3_ok {p : Nat} (hp : p + 2 < 2048) (c : Nat → Int32) (x y z : Int32) : ok_X10_word (f_X10_word (f_X10_word c (nI p) x).1 (f_X10_word c (nI p) x).2 y).1 (f_X10_word (f_X10_word c (nI p) x).1 (f_X10_word c (nI p) x).2 y).2 z := by
  rw [word2_eq (show p + 1 < 2048 by omega)]
  exact word_ok hp _ _
theorem mz_iff {m : Nat} (hm : m ≤ 12) : nI m ≤ 0 ↔ m = 0 := by
  constructor
  · intro h
    exact Classical.byContradiction fun z => nI_nle (by omega) (by omega) h
  · intro h
    subst h
    decide
theorem gs_1 (hn : n ≤ 400) (hw : ∀ i, i < n → tok i = w i) {d k : Nat} (hd : d + 1 ≤ 12) {m r a b : Nat} (hm : m + (d + 1) ≤ 12) (hr : r + (d + 1) ≤ 12) (hlt : a + 2 ≤ b) (hb : b ≤ n) {kept cod : Nat → Int32} {p : Nat} (hp : p ≤ 5 * a) (hA : AG kept cod p) (hmk : N.1.2 a = nI m) (h : w a = 1 ∧ vp_in (w (a + 1)) 10 ∧ N.1.1 (a + 1) = 0 ∧ aE w sv stb N m d (a + 2) b ∧ (N.2 a = 0 ↔ N.2 (a + 2) = 0)) : GSc w tok sv stb N n d k a b m r kept cod p := by
  obtain ⟨t, hv, -, hE, -⟩ := h
  have lE := aE_lt hE
  have hIA : vp_in (nI a) 400 := vp_in_nI (by omega) (by decide)
  have hIA1 : vp_in (nI (a + 1)) 400 := vp_in_nI (by omega) (by decide)
  have t0 : f_X2_tokenAt tok (nI n) (nI a) = w a := by rw [tokAt_lt (by omega) hn, hw a (by omega)]
  have t1 : f_X2_tokenAt tok (nI n) (nI (a + 1)) = w (a + 1) := by rw [tokAt_lt (by omega) hn, hw (a + 1) (by omega)]
  have hta : tok a = w a := hw a (by omega)
  have hins : f_X2_inside tok (nI n) (nI a) = nI (a + 2) := ins_2 (by omega) hn (by rw [hta, t]; decide)
  obtain ⟨kept1, cod1, p1, e1, e2, e3, hA1, hp1, hb1, hF1, hS1⟩ := gE_eq (sv := sv) (stb := stb) (N := N) hn hw d 13 (by omega) (by omega) m (a + 2) b hE hb kept cod p (by omega) hA
  have hl := mz_iff (m := m) (by omega)
  unfold GSc f_X0_writeStatement f_X10_codeS ok_X10_codeS f_X0_writeLet
  simp only [bd_d, bdP_d, if_pos (show nI (12 - (d + 1)) < (12 : Int32) from nI_lt (b := 12) (by omega) (by decide)), t0, t1, hins, msk_lt (show a < n by omega) hn, hmk, dep_1 hd, cl_nI (show a < 2 ^ 31 by omega), cl_nI (show a + 1 < 2 ^ 31 by omega), show nI a + (1 : Int32) = nI (a + 1) from nI_1 a, show nI a + (2 : Int32) = nI (a + 2) from nI_add a 2, if_pos t, e1, e2]
  by_cases hm0 : m = 0
  · simp only [if_pos (hl.mpr hm0)]
    rw [write_eq (show p1 + 1 < 2048 by omega), word2_eq (show p1 + 1 < 2048 by omega)]
    refine ⟨_, _, p1 + 2, rfl, rfl, ⟨hIA, hIA1, e3, word_ok (by omega) _ _, word2_ok (by omega) _ _ _, trivial⟩, (hA1.up _).up _, by omega, by omega, (hF1.up (by omega) _).up (by omega) _, ?_⟩
    refine ((hS1 0 m r (by omega) (by omega) (by omega)).congr (fun i i1 i2 => ?_)).trans (Seg.one (by omega) (by omega) (by omega) (Or.inr (Or.inr (Or.inl ⟨upd2_0 _ _ _ _, ⟨0, rfl, rfl, rfl, Nat.le_refl _, Nat.le_refl _⟩, ?_⟩))))
    · show upd (upd cod1 p1 3) (p1 + 1) (w (a + 1)) i = cod1 i
      rw [upd_ne _ _ (by omega), upd_ne _ _ (by omega)]
    · show vp_in (upd (upd cod1 p1 3) (p1 + 1) (w (a + 1)) (p1 + 1)) 10
      rw [upd2_1]; exact hv
  · simp only [if_neg (fun z => hm0 (hl.mp z))]
    rw [writeM_eq (show p1 + 2 < 2048 by omega), word3_eq (show p1 + 2 < 2048 by omega)]
    refine ⟨_, _, p1 + 3, rfl, rfl, ⟨hIA, hIA1, e3, word_ok (by omega) _ _, word2_ok (by omega) _ _ _, word3_ok (by omega) _ _ _ _, trivial⟩, ((hA1.up _).up _).up _, by omega, by omega, ((hF1.up (by omega) _).up (by omega) _).up (by omega) _, ?_⟩
    refine ((hS1 0 m r (by omega) (by omega) (by omega)).congr (fun i i1 i2 => ?_)).trans (Seg.one (by omega) (by omega) (by omega) (Or.inr (Or.inr (Or.inr (Or.inr (Or.inr (Or.inr (Or.inr (Or.inr (Or.inr (Or.inr (Or.inr (Or.inr (Or.inl ⟨upd3_0 _ _ _ _ _, ⟨0, rfl, rfl, rfl, Nat.le_refl _, Nat.le_refl _⟩, ⟨m, upd3_1 _ _ _ _ _, Nat.le_refl _⟩, ?_⟩))))))))))))))
    · show upd (upd (upd cod1 p1 25) (p1 + 1) (nI m)) (p1 + 2) (w (a + 1)) i = cod1 i
      rw [upd_ne _ _ (by omega), upd_ne _ _ (by omega), upd_ne _ _ (by omega)]
    · show vp_in (upd (upd (upd cod1 p1 25) (p1 + 1) (nI m)) (p1 + 2) (w (a + 1)) (p1 + 2)) 10
      rw [upd3_2]; exact hv
theorem gs_2 (hn : n ≤ 400) (hw : ∀ i, i < n → tok i = w i) {d k : Nat} (hd : d + 1 ≤ 12) {m r a b : Nat} (hm : m + (d + 1) ≤ 12) (hr : r + (d + 1) ≤ 12) (hlt : a + 2 ≤ b) (hb : b ≤ n) {kept cod : Nat → Int32} {p : Nat} (hp : p ≤ 5 * a) (hA : AG kept cod p) (hmk : N.1.2 a = nI m) (h : w a = 2 ∧ vp_in (w (a + 1)) 4 ∧ N.1.1 (a + 1) = 0 ∧ ∃ c, aE w sv stb N m d (a + 2) c ∧ aE w sv stb N m d c b ∧ (N.2 a = 0 ↔ N.2 (a + 2) = 0 ∧ N.2 c = 0)) : GSc w tok sv stb N n d k a b m r kept cod p := by
  obtain ⟨t, hv, -, c, hE, hE2, -⟩ := h
  have lE := aE_lt hE
  have lE2 := aE_lt hE2
  have n1 : ¬ w a = 1 := by rw [t]; decide
  have hIA : vp_in (nI a) 400 := vp_in_nI (by omega) (by decide)
  have hIA1 : vp_in (nI (a + 1)) 400 := vp_in_nI (by omega) (by decide)
  have t0 : f_X2_tokenAt tok (nI n) (nI a) = w a := by rw [tokAt_lt (by omega) hn, hw a (by omega)]
  have t1 : f_X2_tokenAt tok (nI n) (nI (a + 1)) = w (a + 1) := by rw [tokAt_lt (by omega) hn, hw (a + 1) (by omega)]
  have hta : tok a = w a := hw a (by omega)
  have hins : f_X2_inside tok (nI n) (nI a) = nI (a + 2) := ins_2 (by omega) hn (by rw [hta, t]; decide)
  have hbh : f_X2_behind N.1.1 (nI n) (nI (a + 2)) = nI c := by rw [beh_lt (by omega) hn]; exact aE_be hE
  obtain ⟨i1, i2, -⟩ := isS_eq hE (by omega)
  obtain ⟨kept1, cod1, p1, e1, e2, e3, hA1, hp1, hb1, hF1, hS1⟩ := gE_eq (sv := sv) (stb := stb) (N := N) hn hw d 13 (by omega) (by omega) m (a + 2) c hE (by omega) kept cod p (by omega) hA
  obtain ⟨kept2, cod2, p2, g1, g2, g3, hA2, hp2, hb2, hF2, hS2⟩ := gE_eq (sv := sv) (stb := stb) (N := N) hn hw d 13 (by omega) (by omega) m c b hE2 hb kept1 cod1 p1 (by omega) hA1
  have hl := mz_iff (m := m) (by omega)
  have s12 : Seg cod2 p p2 0 2 m r m r := ((hS1 0 m r (by omega) (by omega) (by omega)).congr (fun i i1 i2 => hF2 i i2)).trans (hS2 1 m r (by omega) (by omega) (by omega))
  have hF12 : Fr cod cod2 p := hF1.trans hF2 (by omega)
  unfold GSc f_X0_writeStatement f_X10_codeS ok_X10_codeS f_X0_writeLay
  simp only [bd_d, bdP_d, if_pos (show nI (12 - (d + 1)) < (12 : Int32) from nI_lt (b := 12) (by omega) (by decide)), t0, t1, hins, hbh, msk_lt (show a < n by omega) hn, sec_lt (show a + 2 < n by omega) hn, hmk, dep_1 hd, cl_nI (show a < 2 ^ 31 by omega), cl_nI (show a + 1 < 2 ^ 31 by omega), show nI a + (1 : Int32) = nI (a + 1) from nI_1 a, show nI a + (2 : Int32) = nI (a + 2) from nI_add a 2, if_pos t, if_neg n1, e1, e2, g1, g2]
  by_cases hs : N.2 (a + 2) = 0
  · simp only [if_pos hs, if_pos (i1.mpr hs), if_true]
    by_cases hm0 : m = 0
    · simp only [if_pos (hl.mpr hm0)]
      rw [write_eq (show p2 + 1 < 2048 by omega), word2_eq (show p2 + 1 < 2048 by omega)]
      refine ⟨_, _, p2 + 2, rfl, rfl, ⟨hIA, hIA1, e3, g3, i2, word_ok (by omega) _ _, word2_ok (by omega) _ _ _, trivial⟩, (hA2.up _).up _, by omega, by omega, (hF12.up (by omega) _).up (by omega) _, ?_⟩
      refine (s12.congr (fun i i1 i2 => ?_)).trans (Seg.one (by omega) (by omega) (by omega) (Or.inr (Or.inr (Or.inr (Or.inr (Or.inr (Or.inr (Or.inr (Or.inr (Or.inr (Or.inr (Or.inl ⟨upd2_0 _ _ _ _, ⟨0, rfl, rfl, rfl, Nat.le_refl _, Nat.le_refl _⟩, ?_⟩))))))))))))
      · show upd (upd cod2 p2 22) (p2 + 1) (w (a + 1)) i = cod2 i
        rw [upd_ne _ _ (by omega), upd_ne _ _ (by omega)]
      · show vp_in (upd (upd cod2 p2 22) (p2 + 1) (w (a + 1)) (p2 + 1)) 4
        rw [upd2_1]; exact hv
    · simp only [if_neg (fun z => hm0 (hl.mp z))]
      rw [writeM_eq (show p2 + 2 < 2048 by omega), word3_eq (show p2 + 2 < 2048 by omega)]
      refine ⟨_, _, p2 + 3, rfl, rfl, ⟨hIA, hIA1, e3, g3, i2, word_ok (by omega) _ _, word2_ok (by omega) _ _ _, word3_ok (by omega) _ _ _ _, trivial⟩, ((hA2.up _).up _).up _, by omega, by omega, ((hF12.up (by omega) _).up (by omega) _).up (by omega) _, ?_⟩
      refine (s12.congr (fun i i1 i2 => ?_)).trans (Seg.one (by omega) (by omega) (by omega) (Or.inr (Or.inr (Or.inr (Or.inr (Or.inr (Or.inr (Or.inr (Or.inr (Or.inr (Or.inr (Or.inr (Or.inl ⟨Or.inl (upd3_0 _ _ _ _ _), ⟨0, rfl, rfl, rfl, Nat.le_refl _, Nat.le_refl _⟩, ⟨m, upd3_1 _ _ _ _ _, Nat.le_refl _⟩, ?_⟩)))))))))))))
      · show upd (upd (upd cod2 p2 26) (p2 + 1) (nI m)) (p2 + 2) (w (a + 1)) i = cod2 i
        rw [upd_ne _ _ (by omega), upd_ne _ _ (by omega), upd_ne _ _ (by omega)]
      · show vp_in (upd (upd (upd cod2 p2 26) (p2 + 1) (nI m)) (p2 + 2) (w (a + 1)) (p2 + 2)) 4
        rw [upd3_2]; exact hv
  · simp only [if_neg hs, if_neg (fun z => hs (i1.mp z)), if_neg (show ¬ (1 : Int32) = 0 by decide)]
    rw [writeM_eq (show p2 + 2 < 2048 by omega), word3_eq (show p2 + 2 < 2048 by omega)]
    refine ⟨_, _, p2 + 3, rfl, rfl, ⟨hIA, hIA1, e3, g3, i2, word_ok (by omega) _ _, word2_ok (by omega) _ _ _, word3_ok (by omega) _ _ _ _, trivial⟩, ((hA2.up _).up _).up _, by omega, by omega, ((hF12.up (by omega) _).up (by omega) _).up (by omega) _, ?_⟩
    refine (s12.congr (fun i i1 i2 => ?_)).trans (Seg.one (by omega) (by omega) (by omega) (Or.inr (Or.inr (Or.inr (Or.inr (Or.inr (Or.inr (Or.inr (Or.inr (Or.inr (Or.inr (Or.inr (Or.inl ⟨Or.inr (upd3_0 _ _ _ _ _), ⟨0, rfl, rfl, rfl, Nat.le_refl _, Nat.le_refl _⟩, ⟨m, upd3_1 _ _ _ _ _, Nat.le_refl _⟩, ?_⟩)))))))))))))
    · show upd (upd (upd cod2 p2 28) (p2 + 1) (nI m)) (p2 + 2) (w (a + 1)) i = cod2 i
      rw [upd_ne _ _ (by omega), upd_ne _ _ (by omega), upd_ne _ _ (by omega)]
    · show vp_in (upd (upd (upd cod2 p2 28) (p2 + 1) (nI m)) (p2 + 2) (w (a + 1)) (p2 + 2)) 4
      rw [upd3_2]; exact hv
theorem gs_7 (hn : n ≤ 400) (hw : ∀ i, i < n → tok i = w i) {d k : Nat} (hd : d + 1 ≤ 12) {m r a b : Nat} (hm : m + (d + 1) ≤ 12) (hr : r + (d + 1) ≤ 12) (hlt : a + 2 ≤ b) (hb : b ≤ n) {kept cod : Nat → Int32} {p : Nat} (hp : p ≤ 5 * a) (hA : AG kept cod p) (h : w a = 7 ∧ aE w sv stb N m d (a + 1) b ∧ (N.2 a = 0 ↔ N.2 (a + 1) = 0)) : GSc w tok sv stb N n d k a b m r kept cod p := by
  obtain ⟨t, hE, -⟩ := h
  have lE := aE_lt hE
  have n1 : ¬ w a = 1 := by rw [t]; decide
  have n2 : ¬ w a = 2 := by rw [t]; decide
  have n3 : ¬ w a = 3 := by rw [t]; decide
  have n4 : ¬ w a = 4 := by rw [t]; decide
  have n5 : ¬ w a = 5 := by rw [t]; decide
  have n6 : ¬ w a = 6 := by rw [t]; decide
  have hIA : vp_in (nI a) 400 := vp_in_nI (by omega) (by decide)
  have hIA1 : vp_in (nI (a + 1)) 400 := vp_in_nI (by omega) (by decide)
  have t0 : f_X2_tokenAt tok (nI n) (nI a) = w a := by rw [tokAt_lt (by omega) hn, hw a (by omega)]
  have hta : tok a = w a := hw a (by omega)
  have hins : f_X2_inside tok (nI n) (nI a) = nI (a + 1) := ins_1 (by omega) hn (by rw [hta, t]; decide) (by rw [hta, t]; decide) (by rw [hta, t]; decide) (by rw [hta, t]; decide) (by rw [hta, t]; decide) (by rw [hta, t]; decide)
  obtain ⟨kept1, cod1, p1, e1, e2, e3, hA1, hp1, hb1, hF1, hS1⟩ := gE_eq (sv := sv) (stb := stb) (N := N) hn hw d 13 (by omega) (by omega) m (a + 1) b hE hb kept cod p (by omega) hA
  unfold GSc f_X0_writeStatement f_X10_codeS ok_X10_codeS
  simp only [bd_d, bdP_d, if_pos (show nI (12 - (d + 1)) < (12 : Int32) from nI_lt (b := 12) (by omega) (by decide)), t0, hins, dep_1 hd, cl_nI (show a < 2 ^ 31 by omega), show nI a + (1 : Int32) = nI (a + 1) from nI_1 a, if_pos t, if_neg n1, if_neg n2, if_neg n3, if_neg n4, if_neg n5, if_neg n6, e1, e2]
  rw [add_eq (show p1 < 2048 by omega), word_eq (show p1 < 2048 by omega)]
  refine ⟨_, _, p1 + 1, rfl, rfl, ⟨hIA, hIA1, e3, word_ok (by omega) _ _, trivial⟩, hA1.up _, by omega, by omega, hF1.up (by omega) _, ?_⟩
  refine ((hS1 0 m r (by omega) (by omega) (by omega)).congr (fun i i1 i2 => ?_)).trans (Seg.one (by omega) (by omega) (by omega) (Or.inr (Or.inr (Or.inr (Or.inr (Or.inr (Or.inr (Or.inr (Or.inr (Or.inl ⟨upd_eq _ _ _, 0, rfl, rfl, rfl, Nat.le_refl _, Nat.le_refl _⟩))))))))))
  exact upd_ne _ _ (by omega)
theorem gs_5 (hn : n ≤ 400) (hw : ∀ i, i < n → tok i = w i) {d k : Nat} (hd : d + 1 ≤ 12) (ih : GS w tok sv stb N n d k) {m r a b : Nat} (hm : m + (d + 1) ≤ 12) (hr : r + (d + 1) ≤ 12) (hlt : a + 2 ≤ b) (hb : b ≤ n) {kept cod : Nat → Int32} {p : Nat} (hp : p ≤ 5 * a) (hA : AG kept cod p) (h : w a = 5 ∧ ∃ c e, aE w sv stb N m d (a + 1) c ∧ (N.2 a = 0 ↔ N.2 (a + 1) = 0) ∧ (∃ j, nL (aS w sv stb N d m) j c e) ∧ N.1.1 e = 0 ∧ w e = 0 ∧ b = e + 1) : GSc w tok sv stb N n d k a b m r kept cod p := by
  obtain ⟨t, c, e, hE, -, ⟨q, hL⟩, hbe, hwe, rfl⟩ := h
  have lE := aE_lt hE
  have lL := aSL_le hL
  have n1 : ¬ w a = 1 := by rw [t]; decide
  have n2 : ¬ w a = 2 := by rw [t]; decide
  have n3 : ¬ w a = 3 := by rw [t]; decide
  have n4 : ¬ w a = 4 := by rw [t]; decide
  have n7 : ¬ w a = 7 := by rw [t]; decide
  have hIA : vp_in (nI a) 400 := vp_in_nI (by omega) (by decide)
  have hIA1 : vp_in (nI (a + 1)) 400 := vp_in_nI (by omega) (by decide)
  have t0 : f_X2_tokenAt tok (nI n) (nI a) = w a := by rw [tokAt_lt (by omega) hn, hw a (by omega)]
  have hta : tok a = w a := hw a (by omega)
  have hins : f_X2_inside tok (nI n) (nI a) = nI (a + 1) := ins_1 (by omega) hn (by rw [hta, t]; decide) (by rw [hta, t]; decide) (by rw [hta, t]; decide) (by rw [hta, t]; decide) (by rw [hta, t]; decide) (by rw [hta, t]; decide)
  have hbh : f_X2_behind N.1.1 (nI n) (nI (a + 1)) = nI c := by rw [beh_lt (by omega) hn]; exact aE_be hE
  obtain ⟨kept1, cod1, p1, e1, e2, e3, hA1, hp1, hb1, hF1, hS1⟩ := gE_eq (sv := sv) (stb := stb) (N := N) hn hw d 13 (by omega) (by omega) m (a + 1) c hE (by omega) kept cod p (by omega) hA
  obtain ⟨kept2, cod2, p2, g1, g2, g3, hA2, hp2, hb2, hF2, hS2⟩ := gB_eq hn ih (show m + d ≤ 12 by omega) (show r + d ≤ 12 by omega) hL (Or.inl hwe) hbe (by omega) (upd (upd kept1 p1 19) (p1 + 1) 0) (upd (upd cod1 p1 19) (p1 + 1) 0) (p1 + 2) (by omega) ((hA1.up _).up _)
  unfold GSc f_X0_writeStatement f_X10_codeS ok_X10_codeS f_X0_writeWhile f_X6_size
  simp only [bd_d, bdP_d, if_pos (show nI (12 - (d + 1)) < (12 : Int32) from nI_lt (b := 12) (by omega) (by decide)), t0, hins, hbh, dep_1 hd, cl_nI (show a < 2 ^ 31 by omega), show nI a + (1 : Int32) = nI (a + 1) from nI_1 a, if_pos t, if_neg n1, if_neg n2, if_neg n3, if_neg n4, if_neg n7, e1, e2, writeJ_eq (show p1 + 1 < 2048 by omega), word_eq (show p1 < 2048 by omega), word_eq (show p1 + 1 < 2048 by omega), show p1 + 1 + 1 = p1 + 2 from rfl, g1, g2, write_eq (show p2 + 1 < 2048 by omega), word_eq (show p2 < 2048 by omega), word_eq (show p2 + 1 < 2048 by omega), show p2 + 1 + 1 = p2 + 2 from rfl, land_eq (show p1 + 1 < p2 + 2 by omega) (show p2 + 2 < 2048 by omega), cl_nI (show p1 + 1 < 2 ^ 31 by omega), show nI e + (1 : Int32) = nI (e + 1) from nI_1 e]
  refine ⟨_, _, p2 + 2, rfl, rfl, ⟨hIA, hIA1, e3, word_ok (by omega) _ _, word_ok (by omega) _ _, g3, word_ok (by omega) _ _, word_ok (by omega) _ _, vp_in_nI (by omega) (by decide), trivial⟩, ((hA2.up _).up _).upin _ _, by omega, by omega, ?_, ?_⟩
  · refine ((Fr.trans hF1 (q := p1) ?_ (by omega)).up (by omega) _)
    exact Fr.trans ((Fr.refl cod1 p1).up (Nat.le_refl _) _ |>.up (by omega) _) ((hF2.up (by omega) _).up (by omega) _) (by omega)
  · have cf : ∀ i, i < p1 + 1 → upd (upd (upd cod2 p2 18) (p2 + 1) (nI p)) (p1 + 1) (nI (p2 + 2)) i = upd (upd cod1 p1 19) (p1 + 1) 0 i := by
      intro i hi
      rw [upd_ne _ _ (show ¬ i = p1 + 1 by omega), upd_ne _ _ (show ¬ i = p2 + 1 by omega), upd_ne _ _ (show ¬ i = p2 by omega)]
      exact hF2 i (by omega)
    refine Seg.loop (p1 := p1) (p2 := p2) (by omega) (by omega) ((hS1 0 m r (by omega) (by omega) (by omega)).congr (fun i i1 i2 => ?_)) hp1 ?_ (upd_eq _ _ _) (hS2.congr (fun i i1 i2 => ?_)) ?_ ?_
    · rw [cf i (by omega), upd_ne _ _ (by omega), upd_ne _ _ (by omega)]
    · rw [cf p1 (by omega), upd2_0]
    · rw [upd_ne _ _ (show ¬ i = p1 + 1 by omega), upd_ne _ _ (show ¬ i = p2 + 1 by omega), upd_ne _ _ (show ¬ i = p2 by omega)]
    · rw [upd_ne _ _ (show ¬ p2 = p1 + 1 by omega), upd2_0]
    · rw [upd_ne _ _ (show ¬ p2 + 1 = p1 + 1 by omega), upd2_1]
theorem gs_6 (hn : n ≤ 400) (hw : ∀ i, i < n → tok i = w i) {d k : Nat} (hd : d + 1 ≤ 12) (ih : GS w tok sv stb N n d k) {m r a b : Nat} (hm : m + (d + 1) ≤ 12) (hr : r + (d + 1) ≤ 12) (hlt : a + 2 ≤ b) (hb : b ≤ n) {kept cod : Nat → Int32} {p : Nat} (hp : p ≤ 5 * a) (hA : AG kept cod p) (h : w a = 6 ∧ vp_in (w (a + 1)) 21 ∧ N.1.1 (a + 1) = 0 ∧ ∃ e, (∃ j, nL (aS w sv stb N d m) j (a + 2) e) ∧ N.1.1 e = 0 ∧ w e = 0 ∧ b = e + 1) : GSc w tok sv stb N n d k a b m r kept cod p := by
  obtain ⟨t, hv, -, e, ⟨q, hL⟩, hbe, hwe, rfl⟩ := h
  have lL := aSL_le hL
  have n1 : ¬ w a = 1 := by rw [t]; decide
  have n2 : ¬ w a = 2 := by rw [t]; decide
  have n3 : ¬ w a = 3 := by rw [t]; decide
  have n4 : ¬ w a = 4 := by rw [t]; decide
  have n5 : ¬ w a = 5 := by rw [t]; decide
  have n7 : ¬ w a = 7 := by rw [t]; decide
  have hIA : vp_in (nI a) 400 := vp_in_nI (by omega) (by decide)
  have hIA1 : vp_in (nI (a + 1)) 400 := vp_in_nI (by omega) (by decide)
  have t0 : f_X2_tokenAt tok (nI n) (nI a) = w a := by rw [tokAt_lt (by omega) hn, hw a (by omega)]
  have t1 : f_X2_tokenAt tok (nI n) (nI (a + 1)) = w (a + 1) := by rw [tokAt_lt (by omega) hn, hw (a + 1) (by omega)]
  have hta : tok a = w a := hw a (by omega)
  have hins : f_X2_inside tok (nI n) (nI a) = nI (a + 2) := ins_2 (by omega) hn (by rw [hta, t]; decide)
  obtain ⟨kA, hkA⟩ : ∃ z, z = upd (upd (upd (upd (upd (upd (upd (upd (upd kept p 29) (p + 1) (nI r)) (p + 2) 30) (p + 3) (nI r)) (p + 4) 1) (p + 5) (w (a + 1))) (p + 6) 12) (p + 7) 19) (p + 8) 0 := ⟨_, rfl⟩
  obtain ⟨cA, hcA⟩ : ∃ z, z = upd (upd (upd (upd (upd (upd (upd (upd (upd cod p 29) (p + 1) (nI r)) (p + 2) 30) (p + 3) (nI r)) (p + 4) 1) (p + 5) (w (a + 1))) (p + 6) 12) (p + 7) 19) (p + 8) 0 := ⟨_, rfl⟩
  have hAA : AG kA cA (p + 9) := by
    rw [hkA, hcA]
    exact ((((((((hA.up _).up _).up _).up _).up _).up _).up _).up _).up _
  have hFA : Fr cod cA p := by
    rw [hcA]
    exact (((((((((Fr.refl _ _).up (by omega) _).up (by omega) _).up (by omega) _).up (by omega) _).up (by omega) _).up (by omega) _).up (by omega) _).up (by omega) _).up (by omega) _
  obtain ⟨kept2, cod2, p2, g1, g2, g3, hA2, hp2, hb2, hF2, hS2⟩ := gB_eq hn ih (show m + d ≤ 12 by omega) (show r + 1 + d ≤ 12 by omega) hL (Or.inl hwe) hbe (by omega) kA cA (p + 9) (by omega) hAA
  unfold GSc f_X0_writeStatement f_X10_codeS ok_X10_codeS f_X0_writeTimes f_X6_size
  simp only [bd_d, bdP_d, if_pos (show nI (12 - (d + 1)) < (12 : Int32) from nI_lt (b := 12) (by omega) (by decide)), t0, t1, hins, dep_1 hd, cl_nI (show a < 2 ^ 31 by omega), cl_nI (show a + 1 < 2 ^ 31 by omega), show nI a + (1 : Int32) = nI (a + 1) from nI_1 a, show nI a + (2 : Int32) = nI (a + 2) from nI_add a 2, show nI r + (1 : Int32) = nI (r + 1) from nI_1 r, if_pos t, if_neg n1, if_neg n2, if_neg n3, if_neg n4, if_neg n5, if_neg n7, write_eq (show p + 1 < 2048 by omega), write_eq (show p + 2 + 1 < 2048 by omega), show p + 2 + 1 = p + 3 from rfl, show p + 2 + 2 = p + 4 from rfl, write_eq (show p + 4 + 1 < 2048 by omega), show p + 4 + 1 = p + 5 from rfl, show p + 4 + 2 = p + 6 from rfl, add_eq (show p + 6 < 2048 by omega), show p + 6 + 1 = p + 7 from rfl, writeJ_eq (show p + 7 + 1 < 2048 by omega), show p + 7 + 1 = p + 8 from rfl, show p + 7 + 2 = p + 9 from rfl, ← hkA, g1,
    word_eq (show p < 2048 by omega), word_eq (show p + 1 < 2048 by omega), show p + 1 + 1 = p + 2 from rfl, word_eq (show p + 2 < 2048 by omega), word_eq (show p + 3 < 2048 by omega), show p + 3 + 1 = p + 4 from rfl, word_eq (show p + 4 < 2048 by omega), word_eq (show p + 5 < 2048 by omega), show p + 5 + 1 = p + 6 from rfl, word_eq (show p + 6 < 2048 by omega), word_eq (show p + 7 < 2048 by omega), word_eq (show p + 8 < 2048 by omega), show p + 8 + 1 = p + 9 from rfl, ← hcA, g2,
    write_eq (show p2 + 1 < 2048 by omega), write_eq (show p2 + 2 + 1 < 2048 by omega), show p2 + 2 + 1 = p2 + 3 from rfl, show p2 + 2 + 2 = p2 + 4 from rfl, land_eq (show p + 8 < p2 + 4 by omega) (show p2 + 4 < 2048 by omega), word_eq (show p2 < 2048 by omega), word_eq (show p2 + 1 < 2048 by omega), show p2 + 1 + 1 = p2 + 2 from rfl, word_eq (show p2 + 2 < 2048 by omega), word_eq (show p2 + 3 < 2048 by omega), show p2 + 3 + 1 = p2 + 4 from rfl, cl_nI (show p + 8 < 2 ^ 31 by omega), show nI e + (1 : Int32) = nI (e + 1) from nI_1 e]
  refine ⟨_, _, p2 + 4, rfl, rfl, ⟨hIA, hIA1, word_ok (by omega) _ _, word_ok (by omega) _ _, word_ok (by omega) _ _, word_ok (by omega) _ _, word_ok (by omega) _ _, word_ok (by omega) _ _, word_ok (by omega) _ _, word_ok (by omega) _ _, word_ok (by omega) _ _, g3, word_ok (by omega) _ _, word_ok (by omega) _ _, word_ok (by omega) _ _, word_ok (by omega) _ _, vp_in_nI (by omega) (by decide), trivial⟩, ((((hA2.up _).up _).up _).up _).upin _ _, by omega, by omega, ?_, ?_⟩
  · exact (hFA.trans ((((hF2.up (by omega) _).up (by omega) _).up (by omega) _).up (by omega) _) (by omega)).up (by omega) _
  · have cf : ∀ i, i < p + 9 → ¬ i = p + 8 → upd (upd (upd (upd (upd cod2 p2 31) (p2 + 1) (nI r)) (p2 + 2) 18) (p2 + 3) (nI (p + 2))) (p + 8) (nI (p2 + 4)) i = cA i := by
      intro i hi h8
      rw [upd_ne _ _ h8, upd_ne _ _ (show ¬ i = p2 + 3 by omega), upd_ne _ _ (show ¬ i = p2 + 2 by omega), upd_ne _ _ (show ¬ i = p2 + 1 by omega), upd_ne _ _ (show ¬ i = p2 by omega)]
      exact hF2 i hi
    have cf2 : ∀ i, p + 9 ≤ i → upd (upd (upd (upd (upd cod2 p2 31) (p2 + 1) (nI r)) (p2 + 2) 18) (p2 + 3) (nI (p + 2))) (p + 8) (nI (p2 + 4)) i = upd (upd (upd (upd cod2 p2 31) (p2 + 1) (nI r)) (p2 + 2) 18) (p2 + 3) (nI (p + 2)) i := fun i hi => upd_ne _ _ (by omega)
    have v0 : cA p = 29 := by rw [hcA]; rw [upd_ne _ _ (by omega), upd_ne _ _ (by omega), upd_ne _ _ (by omega), upd_ne _ _ (by omega), upd_ne _ _ (by omega), upd_ne _ _ (by omega), upd_ne _ _ (by omega), upd_ne _ _ (by omega)]; exact upd_eq _ _ _
    have v1 : cA (p + 1) = nI r := by rw [hcA]; rw [upd_ne _ _ (by omega), upd_ne _ _ (by omega), upd_ne _ _ (by omega), upd_ne _ _ (by omega), upd_ne _ _ (by omega), upd_ne _ _ (by omega), upd_ne _ _ (by omega)]; exact upd_eq _ _ _
    have v2 : cA (p + 2) = 30 := by rw [hcA]; rw [upd_ne _ _ (by omega), upd_ne _ _ (by omega), upd_ne _ _ (by omega), upd_ne _ _ (by omega), upd_ne _ _ (by omega), upd_ne _ _ (by omega)]; exact upd_eq _ _ _
    have v3 : cA (p + 3) = nI r := by rw [hcA]; rw [upd_ne _ _ (by omega), upd_ne _ _ (by omega), upd_ne _ _ (by omega), upd_ne _ _ (by omega), upd_ne _ _ (by omega)]; exact upd_eq _ _ _
    have v4 : cA (p + 4) = 1 := by rw [hcA]; rw [upd_ne _ _ (by omega), upd_ne _ _ (by omega), upd_ne _ _ (by omega), upd_ne _ _ (by omega)]; exact upd_eq _ _ _
    have v6 : cA (p + 6) = 12 := by rw [hcA]; rw [upd_ne _ _ (by omega), upd_ne _ _ (by omega)]; exact upd_eq _ _ _
    have v7 : cA (p + 7) = 19 := by rw [hcA]; rw [upd_ne _ _ (by omega)]; exact upd_eq _ _ _
    have x0 : upd (upd (upd (upd cod2 p2 31) (p2 + 1) (nI r)) (p2 + 2) 18) (p2 + 3) (nI (p + 2)) p2 = 31 := by rw [upd_ne _ _ (by omega), upd_ne _ _ (by omega), upd2_0]
    have x1 : upd (upd (upd (upd cod2 p2 31) (p2 + 1) (nI r)) (p2 + 2) 18) (p2 + 3) (nI (p + 2)) (p2 + 1) = nI r := by rw [upd_ne _ _ (by omega), upd_ne _ _ (by omega), upd2_1]
    have x2 : upd (upd (upd (upd cod2 p2 31) (p2 + 1) (nI r)) (p2 + 2) 18) (p2 + 3) (nI (p + 2)) (p2 + 2) = 18 := by rw [upd_ne _ _ (by omega), upd_eq]
    have x3 : upd (upd (upd (upd cod2 p2 31) (p2 + 1) (nI r)) (p2 + 2) 18) (p2 + 3) (nI (p + 2)) (p2 + 3) = nI (p + 2) := upd_eq _ _ _
    generalize hcc : upd (upd (upd (upd (upd cod2 p2 31) (p2 + 1) (nI r)) (p2 + 2) 18) (p2 + 3) (nI (p + 2))) (p + 8) (nI (p2 + 4)) = cc at cf cf2 ⊢
    have hc8 : cc (p + 8) = nI (p2 + 4) := by rw [← hcc]; exact upd_eq _ _ _
    have hbody : Seg cc (p + 9) p2 0 0 m (r + 1) m (r + 1) := hS2.congr (fun i i1 i2 => by rw [cf2 i i1, upd_ne _ _ (show ¬ i = p2 + 3 by omega), upd_ne _ _ (show ¬ i = p2 + 2 by omega), upd_ne _ _ (show ¬ i = p2 + 1 by omega), upd_ne _ _ (show ¬ i = p2 by omega)])
    have s31 : Seg cc p2 (p2 + 2) 0 0 m (r + 1) m (r + 1) := by
      refine Seg.one (by omega) (by omega) (by omega) (Or.inr (Or.inr (Or.inr (Or.inr (Or.inr (Or.inr (Or.inr (Or.inr (Or.inr (Or.inr (Or.inr (Or.inr (Or.inr (Or.inr (Or.inr (Or.inr (Or.inr ⟨?_, r, ?_, by omega, by omega, rfl, rfl, Nat.le_refl _, Nat.le_refl _⟩)))))))))))))))))
      · rw [cf2 p2 (by omega), x0]
      · rw [cf2 (p2 + 1) (by omega), x1]
    have s29 : Seg cc p (p + 2) 0 0 m r m (r + 1) := by
      refine Seg.one (by omega) (by omega) (by omega) (Or.inr (Or.inr (Or.inr (Or.inr (Or.inr (Or.inr (Or.inr (Or.inr (Or.inr (Or.inr (Or.inr (Or.inr (Or.inr (Or.inr (Or.inr (Or.inl ⟨?_, r, ?_, Nat.le_refl _, by omega, rfl, rfl, Nat.le_refl _, Nat.le_refl _⟩))))))))))))))))
      · rw [cf p (by omega) (by omega), v0]
      · rw [cf (p + 1) (by omega) (by omega), v1]
    have s30 : Seg cc (p + 2) (p + 4) 0 1 m (r + 1) m (r + 1) := by
      refine Seg.one (by omega) (by omega) (by omega) (Or.inr (Or.inr (Or.inr (Or.inr (Or.inr (Or.inr (Or.inr (Or.inr (Or.inr (Or.inr (Or.inr (Or.inr (Or.inr (Or.inr (Or.inr (Or.inr (Or.inl ⟨?_, by omega, r, ?_, by omega, by omega, rfl, rfl, Nat.le_refl _, Nat.le_refl _⟩)))))))))))))))))
      · rw [cf (p + 2) (by omega) (by omega), v2]
      · rw [cf (p + 2 + 1) (by omega) (by omega)]; exact v3
    have s1 : Seg cc (p + 4) (p + 6) 1 2 m (r + 1) m (r + 1) := by
      refine Seg.one (by omega) (by omega) (by omega) (Or.inl ⟨?_, by omega, rfl, rfl, Nat.le_refl _, Nat.le_refl _⟩)
      rw [cf (p + 4) (by omega) (by omega), v4]
    have s12 : Seg cc (p + 6) (p + 7) 2 1 m (r + 1) m (r + 1) := by
      refine Seg.one (by omega) (by omega) (by omega) (Or.inr (Or.inr (Or.inr (Or.inl ⟨?_, 0, rfl, rfl, rfl, Nat.le_refl _, Nat.le_refl _⟩))))
      rw [cf (p + 6) (by omega) (by omega), v6]
      exact ⟨by decide, by decide⟩
    have lp : Seg cc (p + 2) (p2 + 2 + 2) 0 0 m (r + 1) m (r + 1) := by
      refine Seg.loop (p1 := p + 7) (p2 := p2 + 2) (by omega) (by omega) ((s30.trans s1).trans s12) (by omega) ?_ hc8 (hbody.trans s31) ?_ ?_
      · rw [cf (p + 7) (by omega) (by omega), v7]
      · rw [cf2 (p2 + 2) (by omega), x2]
      · rw [cf2 (p2 + 2 + 1) (by omega)]; exact x3
    exact (s29.trans lp).weak (Nat.le_refl _) (by omega)
theorem gs_3 (hn : n ≤ 400) (hw : ∀ i, i < n → tok i = w i) {d k : Nat} (hd : d + 1 ≤ 12) (ih : GS w tok sv stb N n d k) {m r a b : Nat} (hm : m + (d + 1) ≤ 12) (hr : r + (d + 1) ≤ 12) (hlt : a + 2 ≤ b) (hb : b ≤ n) {kept cod : Nat → Int32} {p : Nat} (hp : p ≤ 5 * a) (hA : AG kept cod p) (hmk : N.1.2 a = nI m) (h : w a = 3 ∧ ∃ c e m', aE w sv stb N m d (a + 1) c ∧ (m' = if N.2 (a + 1) = 0 then m else m + 1) ∧ (∃ j, nL (aS w sv stb N d m') j c e) ∧ N.1.1 e = 0 ∧ ((w e = 0 ∧ b = e + 1) ∨ (w e = 4 ∧ ∃ f, (∃ j, nL (aS w sv stb N d m') j (e + 1) f) ∧ N.1.1 f = 0 ∧ w f = 0 ∧ b = f + 1))) : GSc w tok sv stb N n d k a b m r kept cod p := by
  obtain ⟨t, c, e, m', hE, hm', ⟨q, hL⟩, hbe, hT⟩ := h
  have lE := aE_lt hE
  have lL := aSL_le hL
  have heb : e < b := by
    rcases hT with hT | ⟨-, f, ⟨q', hL'⟩, -, -, hT⟩
    · omega
    · have := aSL_le hL'; omega
  have he04 : w e = 0 ∨ w e = 4 := hT.elim (fun h => Or.inl h.1) (fun h => Or.inr h.1)
  have n1 : ¬ w a = 1 := by rw [t]; decide
  have n2 : ¬ w a = 2 := by rw [t]; decide
  have n7 : ¬ w a = 7 := by rw [t]; decide
  have hIA : vp_in (nI a) 400 := vp_in_nI (by omega) (by decide)
  have hIA1 : vp_in (nI (a + 1)) 400 := vp_in_nI (by omega) (by decide)
  have hIe : vp_in (nI e) 400 := vp_in_nI (by omega) (by decide)
  have t0 : f_X2_tokenAt tok (nI n) (nI a) = w a := by rw [tokAt_lt (by omega) hn, hw a (by omega)]
  have te : f_X2_tokenAt tok (nI n) (nI e) = w e := by rw [tokAt_lt (by omega) hn, hw e (by omega)]
  have hta : tok a = w a := hw a (by omega)
  have hins : f_X2_inside tok (nI n) (nI a) = nI (a + 1) := ins_1 (by omega) hn (by rw [hta, t]; decide) (by rw [hta, t]; decide) (by rw [hta, t]; decide) (by rw [hta, t]; decide) (by rw [hta, t]; decide) (by rw [hta, t]; decide)
  have hbh : f_X2_behind N.1.1 (nI n) (nI (a + 1)) = nI c := by rw [beh_lt (by omega) hn]; exact aE_be hE
  have hend : f_X2_endOf N.1.1 (nI n) (nI c) = nI e := endOf_eq (w := w) (d := d) hn q 401 0 c e (nL_mono (fun _ _ => aS_nS) hL) hbe (by omega) (by omega) (by omega)
  obtain ⟨i1, i2, -⟩ := isS_eq hE (by omega)
  have hm2 : m' + d ≤ 12 := by rw [hm']; split <;> omega
  have hB1 : GB w tok sv stb N n d k c e m' r := gB_eq hn ih hm2 (show r + d ≤ 12 by omega) hL he04 hbe (by omega)
  obtain ⟨kept1, cod1, p1, e1, e2, e3, hA1, hp1, hb1, hF1, hS1⟩ := gE_eq (sv := sv) (stb := stb) (N := N) hn hw d 13 (by omega) (by omega) m (a + 1) c hE (by omega) kept cod p (by omega) hA
  have sE := hS1 0 m r (by omega) (by omega) (by omega)
  have hm1 : nI m + (1 : Int32) = nI (m + 1) := nI_1 m
  unfold GSc f_X0_writeStatement f_X10_codeS ok_X10_codeS f_X0_writeIf f_X10_codeIf ok_X10_codeIf
  simp only [bd_d, bdP_d, if_pos (show nI (12 - (d + 1)) < (12 : Int32) from nI_lt (b := 12) (by omega) (by decide)), t0, te, hins, hbh, hend, dep_1 hd, msk_lt (show a < n by omega) hn, sec_lt (show a + 1 < n by omega) hn, hmk, hm1, cl_nI (show a < 2 ^ 31 by omega), show nI a + (1 : Int32) = nI (a + 1) from nI_1 a, show nI e + (1 : Int32) = nI (e + 1) from nI_1 e, if_pos t, if_neg n1, if_neg n2, if_neg n7, e1, e2]
  by_cases hs : N.2 (a + 1) = 0
  · have hmm : m' = m := by rw [hm', if_pos hs]
    subst hmm
    obtain ⟨kept2, cod2, p2, g1, g2, g3, hA2, hp2, hb2, hF2, hS2⟩ := hB1 (upd (upd kept1 p1 19) (p1 + 1) 0) (upd (upd cod1 p1 19) (p1 + 1) 0) (p1 + 2) (by omega) ((hA1.up _).up _)
    simp only [if_pos hs, if_pos (i1.mpr hs), if_true, writeJ_eq (show p1 + 1 < 2048 by omega), word_eq (show p1 < 2048 by omega), word_eq (show p1 + 1 < 2048 by omega), show p1 + 1 + 1 = p1 + 2 from rfl, g1, g2, cl_nI (show e < 2 ^ 31 by omega), show nI e + (1 : Int32) = nI (e + 1) from nI_1 e, cl_nI (show p1 + 1 < 2 ^ 31 by omega)]
    have hF1' : Fr cod (upd (upd cod1 p1 19) (p1 + 1) 0) p := (hF1.up (by omega) _).up (by omega) _
    rcases hT with ⟨w0, rfl⟩ | ⟨w4, f, ⟨q', hL'⟩, hbf, hwf, rfl⟩
    · have n4 : ¬ w e = 4 := by rw [w0]; decide
      simp only [if_neg n4, land_eq (show p1 + 1 < p2 by omega) (show p2 < 2048 by omega)]
      refine ⟨_, _, p2, rfl, rfl, ⟨hIA, hIA1, ⟨e3, i2, word_ok (by omega) _ _, word_ok (by omega) _ _, g3, hIe, vp_in_nI (by omega) (by decide), trivial⟩, trivial⟩, hA2.upin _ _, by omega, by omega, (hF1'.trans hF2 (by omega)).up (by omega) _, ?_⟩
      have cf : ∀ i, i < p1 + 1 → upd cod2 (p1 + 1) (nI p2) i = upd (upd cod1 p1 19) (p1 + 1) 0 i := by
        intro i hi
        rw [upd_ne _ _ (show ¬ i = p1 + 1 by omega)]
        exact hF2 i (by omega)
      refine (sE.congr (fun i i1 i2 => ?_)).trans (Seg.br (by omega) (by omega) ?_ (upd_eq _ _ _) (hS2.congr (fun i i1 i2 => upd_ne _ _ (by omega))))
      · rw [cf i (by omega), upd_ne _ _ (by omega), upd_ne _ _ (by omega)]
      · rw [cf p1 (by omega), upd2_0]
    · have lL' := aSL_le hL'
      have hB2 : GB w tok sv stb N n d k (e + 1) f m' r := gB_eq hn ih hm2 (show r + d ≤ 12 by omega) hL' (Or.inl hwf) hbf (by omega)
      obtain ⟨kept3, cod3, p3, k1, k2, k3, hA3, hp3, hb3, hF3, hS3⟩ := hB2 (upd (upd (upd kept2 p2 18) (p2 + 1) 0) (p1 + 1) (nI (p2 + 2))) (upd (upd (upd cod2 p2 18) (p2 + 1) 0) (p1 + 1) (nI (p2 + 2))) (p2 + 2) (by omega) (((hA2.up _).up _).upin _ _)
      simp only [if_pos w4, writeJ_eq (show p2 + 1 < 2048 by omega), word_eq (show p2 < 2048 by omega), word_eq (show p2 + 1 < 2048 by omega), show p2 + 1 + 1 = p2 + 2 from rfl, land_eq (show p1 + 1 < p2 + 2 by omega) (show p2 + 2 < 2048 by omega), k1, k2, land_eq (show p2 + 1 < p3 by omega) (show p3 < 2048 by omega), cl_nI (show p2 + 1 < 2 ^ 31 by omega), show nI f + (1 : Int32) = nI (f + 1) from nI_1 f]
      refine ⟨_, _, p3, rfl, rfl, ⟨hIA, hIA1, ⟨e3, i2, word_ok (by omega) _ _, word_ok (by omega) _ _, g3, hIe, word_ok (by omega) _ _, word_ok (by omega) _ _, vp_in_nI (by omega) (by decide), k3, vp_in_nI (by omega) (by decide), trivial⟩, trivial⟩, hA3.upin _ _, by omega, by omega, ?_, ?_⟩
      · exact ((((hF1'.trans hF2 (by omega)).up (by omega) _).up (by omega) _).up (by omega) _ |>.trans hF3 (by omega)).up (by omega) _
      · have cf3 : ∀ i, i < p2 + 1 → upd cod3 (p2 + 1) (nI p3) i = upd (upd (upd cod2 p2 18) (p2 + 1) 0) (p1 + 1) (nI (p2 + 2)) i := by
          intro i hi
          rw [upd_ne _ _ (show ¬ i = p2 + 1 by omega)]
          exact hF3 i (by omega)
        have cf2 : ∀ i, i < p2 → ¬ i = p1 + 1 → upd cod3 (p2 + 1) (nI p3) i = cod2 i := by
          intro i hi h1
          rw [cf3 i (by omega), upd_ne _ _ h1, upd_ne _ _ (by omega), upd_ne _ _ (by omega)]
        have cf1 : ∀ i, i < p1 + 1 → upd cod3 (p2 + 1) (nI p3) i = upd (upd cod1 p1 19) (p1 + 1) 0 i := by
          intro i hi
          rw [cf2 i (by omega) (by omega)]
          exact hF2 i (by omega)
        refine (sE.congr (fun i i1 i2 => ?_)).trans (Seg.br2 (p2 := p2) (by omega) (by omega) ?_ ?_ (hS2.congr (fun i i1 i2 => cf2 i i2 (by omega))) ?_ (upd_eq _ _ _) (hS3.congr (fun i i1 i2 => upd_ne _ _ (by omega))))
        · rw [cf1 i (by omega), upd_ne _ _ (by omega), upd_ne _ _ (by omega)]
        · rw [cf1 p1 (by omega), upd2_0]
        · rw [cf3 (p1 + 1) (by omega), upd_eq]
        · rw [cf3 p2 (by omega), upd_ne _ _ (by omega), upd2_0]
  · have hmm : m' = m + 1 := by rw [hm', if_neg hs]
    subst hmm
    obtain ⟨kept2, cod2, p2, g1, g2, g3, hA2, hp2, hb2, hF2, hS2⟩ := hB1 (upd (upd kept1 p1 23) (p1 + 1) (nI (m + 1))) (upd (upd cod1 p1 23) (p1 + 1) (nI (m + 1))) (p1 + 2) (by omega) ((hA1.up _).up _)
    simp only [if_neg hs, if_neg (fun z => hs (i1.mp z)), if_neg (show ¬ (1 : Int32) = 0 by decide), write_eq (show p1 + 1 < 2048 by omega), word_eq (show p1 < 2048 by omega), word_eq (show p1 + 1 < 2048 by omega), show p1 + 1 + 1 = p1 + 2 from rfl, g1, g2, cl_nI (show e < 2 ^ 31 by omega), show nI e + (1 : Int32) = nI (e + 1) from nI_1 e]
    have hF1' : Fr cod (upd (upd cod1 p1 23) (p1 + 1) (nI (m + 1))) p := (hF1.up (by omega) _).up (by omega) _
    have s23 : ∀ cc : Nat → Int32, cc p1 = 23 → cc (p1 + 1) = nI (m + 1) → Seg cc p1 (p1 + 2) 1 0 m r (m + 1) r := fun cc c0 c1 => Seg.one (by omega) (by omega) (by omega) (Or.inr (Or.inr (Or.inr (Or.inr (Or.inr (Or.inr (Or.inr (Or.inr (Or.inr (Or.inr (Or.inr (Or.inr (Or.inr (Or.inl ⟨c0, 0, m, rfl, c1, Nat.le_refl _, by omega, rfl, rfl, Nat.le_refl _, Nat.le_refl _⟩))))))))))))))
    rcases hT with ⟨w0, rfl⟩ | ⟨w4, f, ⟨q', hL'⟩, hbf, hwf, rfl⟩
    · have n4 : ¬ w e = 4 := by rw [w0]; decide
      simp only [if_neg n4]
      refine ⟨_, _, p2, rfl, rfl, ⟨hIA, hIA1, ⟨e3, i2, word_ok (by omega) _ _, word_ok (by omega) _ _, g3, hIe, trivial⟩, trivial⟩, hA2, by omega, by omega, hF1'.trans hF2 (by omega), ?_⟩
      refine (((sE.congr (fun i i1 i2 => ?_)).trans (s23 cod2 ?_ ?_)).trans hS2).weak (by omega) (Nat.le_refl _)
      · rw [hF2 i (by omega), upd_ne _ _ (by omega), upd_ne _ _ (by omega)]
      · rw [hF2 p1 (by omega), upd2_0]
      · rw [hF2 (p1 + 1) (by omega), upd2_1]
    · have lL' := aSL_le hL'
      have hB2 : GB w tok sv stb N n d k (e + 1) f (m + 1) r := gB_eq hn ih hm2 (show r + d ≤ 12 by omega) hL' (Or.inl hwf) hbf (by omega)
      obtain ⟨kept3, cod3, p3, k1, k2, k3, hA3, hp3, hb3, hF3, hS3⟩ := hB2 (upd (upd kept2 p2 24) (p2 + 1) (nI (m + 1))) (upd (upd cod2 p2 24) (p2 + 1) (nI (m + 1))) (p2 + 2) (by omega) ((hA2.up _).up _)
      simp only [if_pos w4, write_eq (show p2 + 1 < 2048 by omega), word_eq (show p2 < 2048 by omega), word_eq (show p2 + 1 < 2048 by omega), show p2 + 1 + 1 = p2 + 2 from rfl, k1, k2, show nI f + (1 : Int32) = nI (f + 1) from nI_1 f]
      refine ⟨_, _, p3, rfl, rfl, ⟨hIA, hIA1, ⟨e3, i2, word_ok (by omega) _ _, word_ok (by omega) _ _, g3, hIe, word_ok (by omega) _ _, word_ok (by omega) _ _, k3, trivial⟩, trivial⟩, hA3, by omega, by omega, ?_, ?_⟩
      · exact (((hF1'.trans hF2 (by omega)).up (by omega) _).up (by omega) _).trans hF3 (by omega)
      · have cf2 : ∀ i, i < p2 → cod3 i = cod2 i := by
          intro i hi
          rw [hF3 i (by omega), upd_ne _ _ (by omega), upd_ne _ _ (by omega)]
        have s24 : Seg cod3 p2 (p2 + 2) 0 0 (m + 1) r (m + 1) r := by
          refine Seg.one (by omega) (by omega) (by omega) (Or.inr (Or.inr (Or.inr (Or.inr (Or.inr (Or.inr (Or.inr (Or.inr (Or.inr (Or.inr (Or.inr (Or.inr (Or.inr (Or.inr (Or.inl ⟨?_, m, ?_, Nat.le_refl _, by omega, rfl, rfl, Nat.le_refl _, Nat.le_refl _⟩)))))))))))))))
          · rw [hF3 p2 (by omega), upd2_0]
          · rw [hF3 (p2 + 1) (by omega), upd2_1]
        refine (((((sE.congr (fun i i1 i2 => ?_)).trans (s23 cod3 ?_ ?_)).trans (hS2.congr (fun i i1 i2 => cf2 i i2))).trans s24).trans hS3).weak (by omega) (Nat.le_refl _)
        · rw [cf2 i (by omega), hF2 i (by omega), upd_ne _ _ (by omega), upd_ne _ _ (by omega)]
        · rw [cf2 p1 (by omega), hF2 p1 (by omega), upd2_0]
        · rw [cf2 (p1 + 1) (by omega), hF2 (p1 + 1) (by omega), upd2_1]
theorem wrS_s (d : Nat) : wrS (d + 1) = f_X0_writeStatement (wrE d) (wrSs d) := rfl
theorem cdS_s (k : Nat) : cdS (k + 1) = f_X10_codeS (cdA k) := rfl
theorem cdSk_s (k : Nat) : cdSk (k + 1) = ok_X10_codeS (cdA k) (cdAk k) := rfl
theorem gS_eq (hn : n ≤ 400) (hw : ∀ i, i < n → tok i = w i) : ∀ d k, d ≤ 12 → d ≤ k → GS w tok sv stb N n d k := by
  intro d
  induction d with
  | zero => intro k _ _ m r a b _ _ h; exact h.elim
  | succ d ih =>
    intro k hd hk m r a b hm hr h hb kept cod p hp hA
    obtain ⟨k, rfl⟩ : ∃ k', k = k' + 1 := ⟨k - 1, by omega⟩
    have ihk := ih k (by omega) (by omega)
    have hlt := aS_lt h
    rw [wrS_s, cdS_s, cdSk_s]
    obtain ⟨-, hmk, h | h | h | h | h | h⟩ := h
    · exact gs_1 hn hw hd hm hr hlt hb hp hA hmk h
    · exact gs_2 hn hw hd hm hr hlt hb hp hA hmk h
    · exact gs_3 hn hw hd ihk hm hr hlt hb hp hA hmk h
    · exact gs_5 hn hw hd ihk hm hr hlt hb hp hA h
    · exact gs_6 hn hw hd ihk hm hr hlt hb hp hA h
    · exact gs_7 hn hw hd hm hr hlt hb hp hA h
end CODE2
