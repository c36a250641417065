/-! writing code, on both sides -/
def AG (kept cod : Nat → Int32) (p : Nat) : Prop := ∀ i, i < p → kept i = cod i
def Fr (cod cod' : Nat → Int32) (p : Nat) : Prop := ∀ i, i < p → cod' i = cod i
theorem Fr.refl (cod : Nat → Int32) (p : Nat) : Fr cod cod p := fun _ _ => rfl
theorem Fr.trans {c1 c2 c3 : Nat → Int32} {p q : Nat} (h : Fr c1 c2 p) (k : Fr c2 c3 q) (hpq : p ≤ q) : Fr c1 c3 p := fun i hi => (k i (by omega)).trans (h i hi)
theorem Fr.up {c1 c2 : Nat → Int32} {p j : Nat} (h : Fr c1 c2 p) (hj : p ≤ j) (x : Int32) : Fr c1 (upd c2 j x) p := fun i hi => (upd_ne _ _ (by omega)).trans (h i hi)
theorem AG.up {kept cod : Nat → Int32} {p : Nat} (h : AG kept cod p) (x : Int32) : AG (upd kept p x) (upd cod p x) (p + 1) := by
  intro i hi
  by_cases z : i = p
  · subst z; rw [upd_eq, upd_eq]
  · rw [upd_ne _ _ z, upd_ne _ _ z]; exact h i (by omega)
theorem AG.upin {kept cod : Nat → Int32} {p : Nat} (h : AG kept cod p) (j : Nat) (x : Int32) : AG (upd kept j x) (upd cod j x) p := by
  intro i hi
  by_cases z : i = j
  · subst z; rw [upd_eq, upd_eq]
  · rw [upd_ne _ _ z, upd_ne _ _ z]; exact h i hi
theorem add_eq {p : Nat} (hp : p < 2048) (kept : Nat → Int32) (x : Int32) : f_X6_add 2048 kept (nI p) x = (upd kept p x, nI (p + 1)) := by
  unfold f_X6_add
  rw [if_neg (nI_pos (by omega)), if_neg (nI_ge hp (by decide)), cl_nI (by omega), show nI p + (1 : Int32) = nI (p + 1) from nI_1 p]
theorem word_eq {p : Nat} (hp : p < 2048) (cod : Nat → Int32) (x : Int32) : f_X10_word cod (nI p) x = (upd cod p x, nI (p + 1)) := by
  unfold f_X10_word
  rw [cl_nI (by omega), show nI p + (1 : Int32) = nI (p + 1) from nI_1 p]
theorem word_ok {p : Nat} (hp : p < 2048) (cod : Nat → Int32) (x : Int32) : ok_X10_word cod (nI p) x := ⟨vp_in_nI (by omega) (by decide), trivial⟩
theorem write_eq {p : Nat} (hp : p + 1 < 2048) (kept : Nat → Int32) (x y : Int32) : f_X0_write kept (nI p) x y = (upd (upd kept p x) (p + 1) y, nI (p + 2)) := by
  unfold f_X0_write
  simp only [bd]
  rw [add_eq (show p < 2048 by omega)]
  simp only
  rw [add_eq hp]
theorem writeM_eq {p : Nat} (hp : p + 2 < 2048) (kept : Nat → Int32) (x y z : Int32) : f_X0_writeMasked kept (nI p) x y z = (upd (upd (upd kept p x) (p + 1) y) (p + 2) z, nI (p + 3)) := by
  unfold f_X0_writeMasked
  simp only [bd]
  rw [add_eq (show p < 2048 by omega)]
  simp only
  rw [add_eq (show p + 1 < 2048 by omega)]
  simp only
  rw [add_eq (show p + 1 + 1 < 2048 by omega)]
theorem writeJ_eq {p : Nat} (hp : p + 1 < 2048) (kept : Nat → Int32) (x : Int32) : f_X0_writeJump kept (nI p) x = (nI (p + 1), (upd (upd kept p x) (p + 1) 0, nI (p + 2))) := by
  unfold f_X0_writeJump f_X6_size
  simp only [bd]
  rw [write_eq hp]
  simp only
  rw [show nI (p + 2) - 1 = nI (p + 1) from nI_pred (p + 1)]
theorem land_eq {s j : Nat} (hj : j < s) (hs : s < 2048) (kept : Nat → Int32) : f_X0_land kept (nI s) (nI j) = upd kept j (nI s) := by
  unfold f_X0_land f_X6_size f_X6_write
  simp only [bd]
  rw [if_neg (nI_pos (by omega)), if_neg (nI_ge hj (by omega)), if_neg (nI_ge (show j < 2048 by omega) (by decide)), cl_nI (by omega)]
/-- some expressions in a row, on the reference's side -/
def itC (k : Nat) (sv stb w : Nat → Int32) : Nat → (Nat → Int32) → Int32 → Int32 → (Int32 × ((Nat → Int32) × Int32))
  | 0, cod, words, c => (c, (cod, words))
  | j + 1, cod, words, c => itC k sv stb w j (cdE k sv stb w cod words c).2.1 (cdE k sv stb w cod words c).2.2 (cdE k sv stb w cod words c).1
def itCk (k : Nat) (sv stb w : Nat → Int32) : Nat → (Nat → Int32) → Int32 → Int32 → Prop
  | 0, _, _, _ => True
  | j + 1, cod, words, c => cdEk k sv stb w cod words c ∧ itCk k sv stb w j (cdE k sv stb w cod words c).2.1 (cdE k sv stb w cod words c).2.2 (cdE k sv stb w cod words c).1
theorem it103 (k : Nat) (sv stb w : Nat → Int32) (t : Int32) : ∀ (j y f : Nat) (cod : Nat → Int32) (words c : Int32), f_X10_operands t = nI (y + j) → y + j ≤ 3 → j + 1 ≤ f → f_X10_codeE_103 (cdE k) sv stb w f cod words t c (nI y) = f_X10_codeE_103 (cdE k) sv stb w 1 (itC k sv stb w j cod words c).2.1 (itC k sv stb w j cod words c).2.2 t (itC k sv stb w j cod words c).1 (nI (y + j)) ∧ (itCk k sv stb w j cod words c → ok_X10_codeE_103 (cdE k) (cdEk k) sv stb w 1 (itC k sv stb w j cod words c).2.1 (itC k sv stb w j cod words c).2.2 t (itC k sv stb w j cod words c).1 (nI (y + j)) → ok_X10_codeE_103 (cdE k) (cdEk k) sv stb w f cod words t c (nI y)) := by
  intro j
  induction j with
  | zero =>
    intro y f cod words c ho hy hf
    obtain ⟨f, rfl⟩ : ∃ f', f = f' + 1 := ⟨f - 1, by omega⟩
    have hle : nI (y + 0) ≤ nI y := nI_le (by omega) (by omega)
    have hle2 : nI (y + 0) ≤ nI (y + 0) := nI_le (by omega) (by omega)
    refine ⟨?_, fun _ => ?_⟩
    · unfold f_X10_codeE_103
      simp only [bd, ho]
      rw [if_pos hle, if_pos hle2]
      rfl
    · unfold ok_X10_codeE_103
      simp only [bdP, ho]
      rw [if_pos hle, if_pos hle2]
      exact id
  | succ j ih =>
    intro y f cod words c ho hy hf
    obtain ⟨f, rfl⟩ : ∃ f', f = f' + 1 := ⟨f - 1, by omega⟩
    have hnl : ¬ nI (y + (j + 1)) ≤ nI y := nI_ge (by omega) (by omega)
    have e1 : y + (j + 1) = y + 1 + j := by omega
    obtain ⟨g1, g2⟩ := ih (y + 1) f (cdE k sv stb w cod words c).2.1 (cdE k sv stb w cod words c).2.2 (cdE k sv stb w cod words c).1 (by rw [ho, e1]) (by omega) (by omega)
    refine ⟨?_, fun z1 z2 => ?_⟩
    · rw [f_X10_codeE_103]
      simp only [bd, ho]
      rw [if_neg hnl, show nI y + (1 : Int32) = nI (y + 1) from nI_1 y, g1, e1]
      rfl
    · rw [ok_X10_codeE_103]
      simp only [bdP, ho]
      rw [if_neg hnl, show nI y + (1 : Int32) = nI (y + 1) from nI_1 y]
      rw [e1] at z2
      exact ⟨z1.1, g2 z1.2 z2⟩
theorem bd_d {α β : Type} (x : α) (f : α → β) : bd x f = f x := by
  have h : bd x f = bd x f := rfl
  exact h.trans (of_eq_true (eq_self (f x)))
theorem bdP_d {α : Type} (x : α) (f : α → Prop) : bdP x f = f x := by
  have h : bdP x f = bdP x f := rfl
  exact h.trans (of_eq_true (eq_self (f x)))
section CODE
variable {w tok sv stb : Nat → Int32} {N : NT} {n : Nat}
def GER (kept' cod cod' : Nat → Int32) (p p' a b d : Nat) : Prop := AG kept' cod' p' ∧ p < p' ∧ p' ≤ p + 5 * (b - a) ∧ Fr cod cod' p ∧ ∀ h M R, h + 2 * d ≤ 62 → M ≤ 12 → R ≤ 12 → Seg cod' p p' h (h + 1) M R M R
def GE (w tok sv stb : Nat → Int32) (N : NT) (n d k : Nat) : Prop := ∀ (m a b : Nat), aE w sv stb N m d a b → b ≤ n → ∀ (kept cod : Nat → Int32) (p : Nat), p ≤ 5 * a → AG kept cod p → ∃ (kept' cod' : Nat → Int32) (p' : Nat), wrE d tok N.1.1 N.1.2 N.2 (nI n) kept (nI p) (nI a) (nI (12 - d)) = (kept', nI p') ∧ cdE k sv stb w cod (nI p) (nI a) = (nI b, (cod', nI p')) ∧ cdEk k sv stb w cod (nI p) (nI a) ∧ GER kept' cod cod' p p' a b d
theorem gparts {d k : Nat} (hn : n ≤ 400) (hd : d + 1 ≤ 12) (ih : GE w tok sv stb N n d k) {m : Nat} (y1 y3 y4 : Int32) : ∀ (j y f c b : Nat) (kept cod : Nat → Int32) (p : Nat), nL (aE w sv stb N m d) j c b → b ≤ n → p ≤ 5 * c → AG kept cod p → y + j ≤ 3 → j + 1 ≤ f → ∃ (kept' cod' : Nat → Int32) (p' : Nat), f_X0_writeExpression_39 (wrE d) tok N.1.1 N.1.2 N.2 (nI n) f kept (nI p) y1 (nI (12 - (d + 1))) y3 y4 (nI (y + j)) (nI c) (nI y) = f_X0_writeExpression_39 (wrE d) tok N.1.1 N.1.2 N.2 (nI n) 1 kept' (nI p') y1 (nI (12 - (d + 1))) y3 y4 (nI (y + j)) (nI b) (nI (y + j)) ∧ itC k sv stb w j cod (nI p) (nI c) = (nI b, (cod', nI p')) ∧ itCk k sv stb w j cod (nI p) (nI c) ∧ AG kept' cod' p' ∧ p + j ≤ p' ∧ p' ≤ p + 5 * (b - c) ∧ Fr cod cod' p ∧ ∀ h M R, h + 2 * d + j ≤ 63 → M ≤ 12 → R ≤ 12 → Seg cod' p p' h (h + j) M R M R := by
  intro j
  induction j with
  | zero =>
    intro y f c b kept cod p hL hb hp hA hy hf
    obtain ⟨f, rfl⟩ : ∃ f', f = f' + 1 := ⟨f - 1, by omega⟩
    have e : c = b := hL
    subst e
    refine ⟨kept, cod, p, ?_, rfl, trivial, hA, Nat.le_refl _, by omega, Fr.refl _ _, fun h M R _ _ _ => Seg.nil p h M R⟩
    have hle : nI (y + 0) ≤ nI y := nI_le (by omega) (by omega)
    have hle2 : nI (y + 0) ≤ nI (y + 0) := nI_le (by omega) (by omega)
    unfold f_X0_writeExpression_39
    rw [if_pos hle, if_pos hle2]
  | succ j ihj =>
    intro y f c b kept cod p hL hb hp hA hy hf
    obtain ⟨f, rfl⟩ : ∃ f', f = f' + 1 := ⟨f - 1, by omega⟩
    obtain ⟨c1, hE, hL1⟩ := hL
    have l1 := aE_lt hE
    have l2 := nL_le (fun _ _ h => aE_lt h) hL1
    obtain ⟨kept1, cod1, p1, e1, e2, e3, hA1, hp1, hb1, hF1, hS1⟩ := ih m c c1 hE (by omega) kept cod p hp hA
    obtain ⟨kept2, cod2, p2, g1, g2, g3, hA2, hp2, hb2, hF2, hS2⟩ := ihj (y + 1) f c1 b kept1 cod1 p1 hL1 hb (by omega) hA1 (by omega) (by omega)
    have ey : y + (j + 1) = y + 1 + j := by omega
    have hnl : ¬ nI (y + (j + 1)) ≤ nI y := nI_ge (by omega) (by omega)
    have hbh : f_X2_behind N.1.1 (nI n) (nI c) = nI c1 := by rw [beh_lt (by omega) hn]; exact aE_be hE
    refine ⟨kept2, cod2, p2, ?_, ?_, ?_, hA2, by omega, by omega, hF1.trans hF2 (by omega), fun h M R hh hM hR => ?_⟩
    · rw [f_X0_writeExpression_39, if_neg hnl]
      simp only [bd]
      rw [dep_1 hd, e1, hbh, show nI y + (1 : Int32) = nI (y + 1) from nI_1 y, ey]
      exact g1
    · rw [itC, e2]
      exact g2
    · refine ⟨e3, ?_⟩
      rw [e2]
      exact g3
    · have s1 := (hS1 h M R (by omega) hM hR).congr (cod' := cod2) (fun i i1 i2 => hF2 i i2)
      have s2 := hS2 (h + 1) M R (by omega) hM hR
      rw [show h + (j + 1) = h + 1 + j by omega]
      exact s1.trans s2
theorem cdE_s (k : Nat) : cdE (k + 1) = f_X10_codeE (cdE k) := rfl
theorem cdEk_s (k : Nat) : cdEk (k + 1) = ok_X10_codeE (cdE k) (cdEk k) := rfl
theorem wrE_s (d : Nat) : wrE (d + 1) = f_X0_writeExpression (wrE d) := rfl
theorem upd2_0 (c : Nat → Int32) (p : Nat) (x y : Int32) : upd (upd c p x) (p + 1) y p = x := by rw [upd_ne _ _ (by omega), upd_eq]
theorem upd2_1 (c : Nat → Int32) (p : Nat) (x y : Int32) : upd (upd c p x) (p + 1) y (p + 1) = y := upd_eq _ _ _
theorem bin18 {t : Int32} (h : isBin t) : isBin (t - 18 + 18) := by
  obtain ⟨-, h | h | h | h | h | h | h | h | h | h | h | h⟩ := h <;> subst h <;> exact ⟨by decide, by decide⟩
def GEc (w tok sv stb : Nat → Int32) (N : NT) (n d k a b : Nat) (kept cod : Nat → Int32) (p : Nat) : Prop := ∃ (kept' cod' : Nat → Int32) (p' : Nat), wrE (d + 1) tok N.1.1 N.1.2 N.2 (nI n) kept (nI p) (nI a) (nI (12 - (d + 1))) = (kept', nI p') ∧ cdE (k + 1) sv stb w cod (nI p) (nI a) = (nI b, (cod', nI p')) ∧ cdEk (k + 1) sv stb w cod (nI p) (nI a) ∧ GER kept' cod cod' p p' a b (d + 1)
theorem ge_0 (hn : n ≤ 400) (hw : ∀ i, i < n → tok i = w i) {d k : Nat} (hd : d + 1 ≤ 12) (ihk : GE w tok sv stb N n d k) {m a b : Nat} (hlt : a + 2 ≤ b) (hb : b ≤ n) {kept cod : Nat → Int32} {p : Nat} (hp : p ≤ 5 * a) (hA : AG kept cod p) (h : w a = 20 ∧ b = a + 2 ∧ N.1.1 (a + 1) = 0 ∧ N.2 a = 0) : GEc w tok sv stb N n d k a b kept cod p := by
  unfold GEc
  have hIA : vp_in (nI a) 400 := vp_in_nI (by omega) (by decide)
  have hIA1 : vp_in (nI (a + 1)) 400 := vp_in_nI (by omega) (by decide)
  have t0 : f_X2_tokenAt tok (nI n) (nI a) = w a := by rw [tokAt_lt (by omega) hn, hw a (by omega)]
  have t1 : f_X2_tokenAt tok (nI n) (nI (a + 1)) = w (a + 1) := by rw [tokAt_lt (by omega) hn, hw (a + 1) (by omega)]
  have hta : tok a = w a := hw a (by omega)
  rw [cdE_s, cdEk_s, wrE_s]
  unfold f_X0_writeExpression f_X10_codeE ok_X10_codeE
  simp only [bd_d, bdP_d, if_pos (show nI (12 - (d + 1)) < (12 : Int32) from nI_lt (b := 12) (by omega) (by decide)), t0, cl_nI (show a < 2 ^ 31 by omega), cl_nI (show a + 1 < 2 ^ 31 by omega), show nI a + (1 : Int32) = nI (a + 1) from nI_1 a, show nI a + (2 : Int32) = nI (a + 2) from nI_add a 2]
  have w2 : ∀ (p1 : Nat) (c : Nat → Int32) (x y : Int32), p1 + 1 < 2048 → f_X10_word (f_X10_word c (nI p1) x).1 (f_X10_word c (nI p1) x).2 y = (upd (upd c p1 x) (p1 + 1) y, nI (p1 + 2)) := by
    intro p1 c x y h
    rw [word_eq (by omega)]
    exact word_eq h _ _
  obtain ⟨t, rfl, -, -⟩ := h
  have hp0 : f_X4_partsOf (w a) = nI (0 + 0) := by rw [t]; rfl
  simp only [if_pos t, hp0]
  have e39 : f_X0_writeExpression_39 (wrE d) tok N.1.1 N.1.2 N.2 (nI n) 4 kept (nI p) (nI a) (nI (12 - (d + 1))) (w a) (f_X2_inside tok (nI n) (nI a)) (nI (0 + 0)) (f_X2_inside tok (nI n) (nI a)) 0 = (upd (upd kept p 1) (p + 1) (w (a + 1)), nI (p + 2)) := by
    rw [f_X0_writeExpression_39, if_pos (by decide), if_pos t]
    simp only [bd]
    rw [show nI a + (1 : Int32) = nI (a + 1) from nI_1 a, t1, write_eq (by omega)]
  rw [e39, show w a - 19 = (1 : Int32) by rw [t]; rfl, w2 p cod 1 _ (by omega)]
  refine ⟨_, _, p + 2, rfl, rfl, ⟨hIA, word_ok (by omega) _ _, hIA1, ?_, trivial⟩, (hA.up _).up _, by omega, by omega, ((Fr.refl _ _).up (Nat.le_refl _) _).up (by omega) _, fun h M R hh hM hR => Seg.one (by omega) hM hR (Or.inl ⟨upd2_0 _ _ _ _, by omega, rfl, rfl, Nat.le_refl _, Nat.le_refl _⟩)⟩
  rw [word_eq (by omega)]
  exact word_ok (by omega) _ _
theorem ge_1 (hn : n ≤ 400) (hw : ∀ i, i < n → tok i = w i) {d k : Nat} (hd : d + 1 ≤ 12) (ihk : GE w tok sv stb N n d k) {m a b : Nat} (hlt : a + 2 ≤ b) (hb : b ≤ n) {kept cod : Nat → Int32} {p : Nat} (hp : p ≤ 5 * a) (hA : AG kept cod p) (h : w a = 21 ∧ vp_in (w (a + 1)) 10 ∧ b = a + 2 ∧ N.1.1 (a + 1) = 0 ∧ (N.2 a = 0 ↔ sv (w (a + 1)).toNatClampNeg = 0)) : GEc w tok sv stb N n d k a b kept cod p := by
  unfold GEc
  have hIA : vp_in (nI a) 400 := vp_in_nI (by omega) (by decide)
  have hIA1 : vp_in (nI (a + 1)) 400 := vp_in_nI (by omega) (by decide)
  have t0 : f_X2_tokenAt tok (nI n) (nI a) = w a := by rw [tokAt_lt (by omega) hn, hw a (by omega)]
  have t1 : f_X2_tokenAt tok (nI n) (nI (a + 1)) = w (a + 1) := by rw [tokAt_lt (by omega) hn, hw (a + 1) (by omega)]
  have hta : tok a = w a := hw a (by omega)
  rw [cdE_s, cdEk_s, wrE_s]
  unfold f_X0_writeExpression f_X10_codeE ok_X10_codeE
  simp only [bd_d, bdP_d, if_pos (show nI (12 - (d + 1)) < (12 : Int32) from nI_lt (b := 12) (by omega) (by decide)), t0, cl_nI (show a < 2 ^ 31 by omega), cl_nI (show a + 1 < 2 ^ 31 by omega), show nI a + (1 : Int32) = nI (a + 1) from nI_1 a, show nI a + (2 : Int32) = nI (a + 2) from nI_add a 2]
  have w2 : ∀ (p1 : Nat) (c : Nat → Int32) (x y : Int32), p1 + 1 < 2048 → f_X10_word (f_X10_word c (nI p1) x).1 (f_X10_word c (nI p1) x).2 y = (upd (upd c p1 x) (p1 + 1) y, nI (p1 + 2)) := by
    intro p1 c x y h
    rw [word_eq (by omega)]
    exact word_eq h _ _
  obtain ⟨t, hv, rfl, -, -⟩ := h
  have n20 : ¬ w a = 20 := by rw [t]; decide
  have hp0 : f_X4_partsOf (w a) = nI (0 + 0) := by rw [t]; rfl
  simp only [if_pos t, if_neg n20, hp0]
  have e39 : f_X0_writeExpression_39 (wrE d) tok N.1.1 N.1.2 N.2 (nI n) 4 kept (nI p) (nI a) (nI (12 - (d + 1))) (w a) (f_X2_inside tok (nI n) (nI a)) (nI (0 + 0)) (f_X2_inside tok (nI n) (nI a)) 0 = (upd (upd kept p 2) (p + 1) (w (a + 1)), nI (p + 2)) := by
    rw [f_X0_writeExpression_39, if_pos (by decide), if_neg n20, if_pos t]
    simp only [bd]
    rw [show nI a + (1 : Int32) = nI (a + 1) from nI_1 a, t1, write_eq (by omega)]
  rw [e39, show w a - 19 = (2 : Int32) by rw [t]; rfl, w2 p cod 2 _ (by omega)]
  refine ⟨_, _, p + 2, rfl, rfl, ⟨hIA, word_ok (by omega) _ _, hIA1, ?_, trivial⟩, (hA.up _).up _, by omega, by omega, ((Fr.refl _ _).up (Nat.le_refl _) _).up (by omega) _, fun h M R hh hM hR => Seg.one (by omega) hM hR (Or.inr (Or.inl ⟨upd2_0 _ _ _ _, by omega, ?_, rfl, rfl, Nat.le_refl _, Nat.le_refl _⟩))⟩
  · rw [word_eq (by omega)]
    exact word_ok (by omega) _ _
  · show vp_in (upd (upd cod p 2) (p + 1) (w (a + 1)) (p + 1)) 10
    rw [upd2_1]; exact hv
theorem ge_2 (hn : n ≤ 400) (hw : ∀ i, i < n → tok i = w i) {d k : Nat} (hd : d + 1 ≤ 12) (ihk : GE w tok sv stb N n d k) {m a b : Nat} (hlt : a + 2 ≤ b) (hb : b ≤ n) {kept cod : Nat → Int32} {p : Nat} (hp : p ≤ 5 * a) (hA : AG kept cod p) (h : w a = 35 ∧ vp_in (w (a + 1)) 4 ∧ aE w sv stb N m d (a + 2) b ∧ N.1.1 (a + 1) = 0 ∧ (N.2 a = 0 ↔ stb (w (a + 1)).toNatClampNeg = 0 ∧ N.2 (a + 2) = 0)) : GEc w tok sv stb N n d k a b kept cod p := by
  unfold GEc
  have hIA : vp_in (nI a) 400 := vp_in_nI (by omega) (by decide)
  have hIA1 : vp_in (nI (a + 1)) 400 := vp_in_nI (by omega) (by decide)
  have t0 : f_X2_tokenAt tok (nI n) (nI a) = w a := by rw [tokAt_lt (by omega) hn, hw a (by omega)]
  have t1 : f_X2_tokenAt tok (nI n) (nI (a + 1)) = w (a + 1) := by rw [tokAt_lt (by omega) hn, hw (a + 1) (by omega)]
  have hta : tok a = w a := hw a (by omega)
  rw [cdE_s, cdEk_s, wrE_s]
  unfold f_X0_writeExpression f_X10_codeE ok_X10_codeE
  simp only [bd_d, bdP_d, if_pos (show nI (12 - (d + 1)) < (12 : Int32) from nI_lt (b := 12) (by omega) (by decide)), t0, cl_nI (show a < 2 ^ 31 by omega), cl_nI (show a + 1 < 2 ^ 31 by omega), show nI a + (1 : Int32) = nI (a + 1) from nI_1 a, show nI a + (2 : Int32) = nI (a + 2) from nI_add a 2]
  have w2 : ∀ (p1 : Nat) (c : Nat → Int32) (x y : Int32), p1 + 1 < 2048 → f_X10_word (f_X10_word c (nI p1) x).1 (f_X10_word c (nI p1) x).2 y = (upd (upd c p1 x) (p1 + 1) y, nI (p1 + 2)) := by
    intro p1 c x y h
    rw [word_eq (by omega)]
    exact word_eq h _ _
  obtain ⟨t, hv, hE, -, -⟩ := h
  have n20 : ¬ w a = 20 := by rw [t]; decide
  have n21 : ¬ w a = 21 := by rw [t]; decide
  have hp0 : f_X4_partsOf (w a) = nI (0 + 1) := by rw [t]; rfl
  have lE := aE_lt hE
  have hins : f_X2_inside tok (nI n) (nI a) = nI (a + 2) := ins_2 (by omega) hn (by rw [hta, t]; decide)
  obtain ⟨i1, i2, -⟩ := isS_eq hE (by omega)
  obtain ⟨kept1, cod1, p1, g1, g2, g3, hA1, hp1, hb1, hF1, hS1⟩ := gparts hn hd ihk (m := m) (nI a) (w a) (nI (a + 2)) 1 0 4 (a + 2) b kept cod p ⟨b, hE, rfl⟩ hb (by omega) hA (by omega) (by omega)
  have g2' : cdE k sv stb w cod (nI p) (nI (a + 2)) = (nI b, (cod1, nI p1)) := g2
  have g3' : cdEk k sv stb w cod (nI p) (nI (a + 2)) := g3.1
  simp only [if_pos t, if_neg n20, if_neg n21, hp0, hins, g2']
  rw [show f_X0_writeExpression_39 (wrE d) tok N.1.1 N.1.2 N.2 (nI n) 4 kept (nI p) (nI a) (nI (12 - (d + 1))) (w a) (nI (a + 2)) (nI (0 + 1)) (nI (a + 2)) 0 = _ from g1, f_X0_writeExpression_39, if_pos (show nI (0 + 1) ≤ nI (0 + 1) by decide), if_neg n20, if_neg n21, if_pos t]
  simp only [bd]
  rw [sec_lt (show a + 2 < n by omega) hn, show nI a + (1 : Int32) = nI (a + 1) from nI_1 a, t1]
  have fin : ∀ op : Int32, (op = 21 ∨ op = 27) → GER (upd (upd kept1 p1 op) (p1 + 1) (w (a + 1))) cod (upd (upd cod1 p1 op) (p1 + 1) (w (a + 1))) p (p1 + 2) a b (d + 1) := by
    intro op hop
    refine ⟨(hA1.up _).up _, by omega, by omega, (hF1.up (by omega) _).up (by omega) _, fun h M R hh hM hR => ?_⟩
    have s1 := (hS1 h M R (by omega) hM hR).congr (cod' := upd (upd cod1 p1 op) (p1 + 1) (w (a + 1))) (fun i i1 i2 => by rw [upd_ne _ _ (by omega), upd_ne _ _ (by omega)])
    refine s1.trans (Seg.one (by omega) hM hR (Or.inr (Or.inr (Or.inr (Or.inr (Or.inr (Or.inr (Or.inr (Or.inr (Or.inr (Or.inl ⟨?_, ⟨h, rfl, rfl, rfl, Nat.le_refl _, Nat.le_refl _⟩, ?_⟩)))))))))))
    · rw [upd2_0]; exact hop
    · rw [upd2_1]; exact hv
  by_cases hs : N.2 (a + 2) = 0
  · simp only [if_pos hs, if_pos (i1.mpr hs), if_true]
    rw [write_eq (by omega), w2 p1 cod1 21 _ (by omega)]
    refine ⟨_, _, p1 + 2, rfl, rfl, ⟨hIA, g3', i2, word_ok (by omega) _ _, hIA1, ?_, trivial⟩, fin 21 (Or.inl rfl)⟩
    rw [word_eq (by omega)]
    exact word_ok (by omega) _ _
  · simp only [if_neg hs, if_neg (fun z => hs (i1.mp z)), if_neg (show ¬ (1 : Int32) = 0 by decide)]
    rw [write_eq (by omega), w2 p1 cod1 27 _ (by omega)]
    refine ⟨_, _, p1 + 2, rfl, rfl, ⟨hIA, g3', i2, word_ok (by omega) _ _, hIA1, ?_, trivial⟩, fin 27 (Or.inr rfl)⟩
    rw [word_eq (by omega)]
    exact word_ok (by omega) _ _
theorem ge_3 (hn : n ≤ 400) (hw : ∀ i, i < n → tok i = w i) {d k : Nat} (hd : d + 1 ≤ 12) (ihk : GE w tok sv stb N n d k) {m a b : Nat} (hlt : a + 2 ≤ b) (hb : b ≤ n) {kept cod : Nat → Int32} {p : Nat} (hp : p ≤ 5 * a) (hA : AG kept cod p) (h : w a = 32 ∧ aE w sv stb N m d (a + 1) b ∧ (N.2 a = 0 ↔ N.2 (a + 1) = 0)) : GEc w tok sv stb N n d k a b kept cod p := by
  unfold GEc
  have hIA : vp_in (nI a) 400 := vp_in_nI (by omega) (by decide)
  have hIA1 : vp_in (nI (a + 1)) 400 := vp_in_nI (by omega) (by decide)
  have t0 : f_X2_tokenAt tok (nI n) (nI a) = w a := by rw [tokAt_lt (by omega) hn, hw a (by omega)]
  have t1 : f_X2_tokenAt tok (nI n) (nI (a + 1)) = w (a + 1) := by rw [tokAt_lt (by omega) hn, hw (a + 1) (by omega)]
  have hta : tok a = w a := hw a (by omega)
  rw [cdE_s, cdEk_s, wrE_s]
  unfold f_X0_writeExpression f_X10_codeE ok_X10_codeE
  simp only [bd_d, bdP_d, if_pos (show nI (12 - (d + 1)) < (12 : Int32) from nI_lt (b := 12) (by omega) (by decide)), t0, cl_nI (show a < 2 ^ 31 by omega), cl_nI (show a + 1 < 2 ^ 31 by omega), show nI a + (1 : Int32) = nI (a + 1) from nI_1 a, show nI a + (2 : Int32) = nI (a + 2) from nI_add a 2]
  have w2 : ∀ (p1 : Nat) (c : Nat → Int32) (x y : Int32), p1 + 1 < 2048 → f_X10_word (f_X10_word c (nI p1) x).1 (f_X10_word c (nI p1) x).2 y = (upd (upd c p1 x) (p1 + 1) y, nI (p1 + 2)) := by
    intro p1 c x y h
    rw [word_eq (by omega)]
    exact word_eq h _ _
  obtain ⟨t, hE, -⟩ := h
  have n20 : ¬ w a = 20 := by rw [t]; decide
  have n21 : ¬ w a = 21 := by rw [t]; decide
  have n35 : ¬ w a = 35 := by rw [t]; decide
  have n36 : ¬ w a = 36 := by rw [t]; decide
  have hp0 : f_X4_partsOf (w a) = nI (0 + 1) := by rw [t]; rfl
  have ho : f_X10_operands (w a) = nI (0 + 1) := by rw [t]; rfl
  have hins : f_X2_inside tok (nI n) (nI a) = nI (a + 1) := ins_1 (by omega) hn (by rw [hta, t]; decide) (by rw [hta, t]; decide) (by rw [hta, t]; decide) (by rw [hta]; exact n20) (by rw [hta]; exact n21) (by rw [hta]; exact n35)
  have lE := aE_lt hE
  obtain ⟨kept1, cod1, p1, g1, g2, g3, hA1, hp1, hb1, hF1, hS1⟩ := gparts hn hd ihk (m := m) (nI a) (w a) (nI (a + 1)) 1 0 4 (a + 1) b kept cod p ⟨b, hE, rfl⟩ hb (by omega) hA (by omega) (by omega)
  obtain ⟨q1, q2⟩ := it103 k sv stb w (w a) 1 0 5 cod (nI p) (nI (a + 1)) ho (by omega) (by omega)
  rw [g2] at q1 q2
  simp only [if_neg n20, if_neg n21, if_neg n35, hp0, hins]
  rw [show f_X0_writeExpression_39 (wrE d) tok N.1.1 N.1.2 N.2 (nI n) 4 kept (nI p) (nI a) (nI (12 - (d + 1))) (w a) (nI (a + 1)) (nI (0 + 1)) (nI (a + 1)) 0 = _ from g1, f_X0_writeExpression_39, if_pos (show nI (0 + 1) ≤ nI (0 + 1) by decide), if_neg n20, if_neg n21, if_neg n35, if_neg n36, show f_X10_codeE_103 (cdE k) sv stb w 5 cod (nI p) (w a) (nI (a + 1)) 0 = _ from q1]
  have hle : nI (0 + 1) ≤ nI (0 + 1) := by decide
  rw [f_X10_codeE_103]
  simp only [bd, ho, if_pos hle, if_neg n36]
  rw [add_eq (by omega), word_eq (by omega)]
  refine ⟨_, _, p1 + 1, rfl, rfl, ⟨hIA, q2 g3 ?_⟩, hA1.up _, by omega, by omega, hF1.up (by omega) _, fun h M R hh hM hR => ?_⟩
  · rw [ok_X10_codeE_103]
    simp only [bdP, ho, if_pos hle, if_neg n36]
    exact ⟨word_ok (by omega) _ _, trivial⟩
  · have s1 := (hS1 h M R (by omega) hM hR).congr (cod' := upd cod1 p1 (w a - 18)) (fun i i1 i2 => upd_ne _ _ (by omega))
    refine s1.trans (Seg.one (by omega) hM hR (Or.inr (Or.inr (Or.inr (Or.inr (Or.inl ⟨?_, h, rfl, rfl, rfl, Nat.le_refl _, Nat.le_refl _⟩))))))
    rw [upd_eq, t]; rfl
theorem ge_4 (hn : n ≤ 400) (hw : ∀ i, i < n → tok i = w i) {d k : Nat} (hd : d + 1 ≤ 12) (ihk : GE w tok sv stb N n d k) {m a b : Nat} (hlt : a + 2 ≤ b) (hb : b ≤ n) {kept cod : Nat → Int32} {p : Nat} (hp : p ≤ 5 * a) (hA : AG kept cod p) (h : w a = 36 ∧ ∃ c e, aE w sv stb N m d (a + 1) c ∧ aE w sv stb N m d c e ∧ aE w sv stb N m d e b ∧ (N.2 a = 0 ↔ N.2 (a + 1) = 0 ∧ N.2 c = 0 ∧ N.2 e = 0)) : GEc w tok sv stb N n d k a b kept cod p := by
  unfold GEc
  have hIA : vp_in (nI a) 400 := vp_in_nI (by omega) (by decide)
  have hIA1 : vp_in (nI (a + 1)) 400 := vp_in_nI (by omega) (by decide)
  have t0 : f_X2_tokenAt tok (nI n) (nI a) = w a := by rw [tokAt_lt (by omega) hn, hw a (by omega)]
  have t1 : f_X2_tokenAt tok (nI n) (nI (a + 1)) = w (a + 1) := by rw [tokAt_lt (by omega) hn, hw (a + 1) (by omega)]
  have hta : tok a = w a := hw a (by omega)
  rw [cdE_s, cdEk_s, wrE_s]
  unfold f_X0_writeExpression f_X10_codeE ok_X10_codeE
  simp only [bd_d, bdP_d, if_pos (show nI (12 - (d + 1)) < (12 : Int32) from nI_lt (b := 12) (by omega) (by decide)), t0, cl_nI (show a < 2 ^ 31 by omega), cl_nI (show a + 1 < 2 ^ 31 by omega), show nI a + (1 : Int32) = nI (a + 1) from nI_1 a, show nI a + (2 : Int32) = nI (a + 2) from nI_add a 2]
  have w2 : ∀ (p1 : Nat) (c : Nat → Int32) (x y : Int32), p1 + 1 < 2048 → f_X10_word (f_X10_word c (nI p1) x).1 (f_X10_word c (nI p1) x).2 y = (upd (upd c p1 x) (p1 + 1) y, nI (p1 + 2)) := by
    intro p1 c x y h
    rw [word_eq (by omega)]
    exact word_eq h _ _
  obtain ⟨t, c, e, hE1, hE2, hE3, -⟩ := h
  have n20 : ¬ w a = 20 := by rw [t]; decide
  have n21 : ¬ w a = 21 := by rw [t]; decide
  have n35 : ¬ w a = 35 := by rw [t]; decide
  have hp0 : f_X4_partsOf (w a) = nI (0 + 3) := by rw [t]; rfl
  have ho : f_X10_operands (w a) = nI (0 + 3) := by rw [t]; rfl
  have hins : f_X2_inside tok (nI n) (nI a) = nI (a + 1) := ins_1 (by omega) hn (by rw [hta, t]; decide) (by rw [hta, t]; decide) (by rw [hta, t]; decide) (by rw [hta]; exact n20) (by rw [hta]; exact n21) (by rw [hta]; exact n35)
  have l1 := aE_lt hE1
  have l2 := aE_lt hE2
  have l3 := aE_lt hE3
  obtain ⟨kept1, cod1, p1, g1, g2, g3, hA1, hp1, hb1, hF1, hS1⟩ := gparts hn hd ihk (m := m) (nI a) (w a) (nI (a + 1)) 3 0 4 (a + 1) b kept cod p ⟨c, hE1, e, hE2, b, hE3, rfl⟩ hb (by omega) hA (by omega) (by omega)
  obtain ⟨q1, q2⟩ := it103 k sv stb w (w a) 3 0 5 cod (nI p) (nI (a + 1)) ho (by omega) (by omega)
  rw [g2] at q1 q2
  simp only [if_neg n20, if_neg n21, if_neg n35, hp0, hins]
  rw [show f_X0_writeExpression_39 (wrE d) tok N.1.1 N.1.2 N.2 (nI n) 4 kept (nI p) (nI a) (nI (12 - (d + 1))) (w a) (nI (a + 1)) (nI (0 + 3)) (nI (a + 1)) 0 = _ from g1, f_X0_writeExpression_39, if_pos (show nI (0 + 3) ≤ nI (0 + 3) by decide), if_neg n20, if_neg n21, if_neg n35, if_pos t, show f_X10_codeE_103 (cdE k) sv stb w 5 cod (nI p) (w a) (nI (a + 1)) 0 = _ from q1]
  have hle : nI (0 + 3) ≤ nI (0 + 3) := by decide
  rw [f_X10_codeE_103]
  simp only [bd, ho, if_pos hle, if_pos t]
  rw [add_eq (by omega), word_eq (by omega)]
  refine ⟨_, _, p1 + 1, rfl, rfl, ⟨hIA, q2 g3 ?_⟩, hA1.up _, by omega, by omega, hF1.up (by omega) _, fun h M R hh hM hR => ?_⟩
  · rw [ok_X10_codeE_103]
    simp only [bdP, ho, if_pos hle, if_pos t]
    exact ⟨word_ok (by omega) _ _, trivial⟩
  · have s1 := (hS1 h M R (by omega) hM hR).congr (cod' := upd cod1 p1 17) (fun i i1 i2 => upd_ne _ _ (by omega))
    exact s1.trans (Seg.one (by omega) hM hR (Or.inr (Or.inr (Or.inr (Or.inr (Or.inr (Or.inl ⟨upd_eq _ _ _, h, rfl, rfl, rfl, Nat.le_refl _, Nat.le_refl _⟩)))))))
theorem ge_5 (hn : n ≤ 400) (hw : ∀ i, i < n → tok i = w i) {d k : Nat} (hd : d + 1 ≤ 12) (ihk : GE w tok sv stb N n d k) {m a b : Nat} (hlt : a + 2 ≤ b) (hb : b ≤ n) {kept cod : Nat → Int32} {p : Nat} (hp : p ≤ 5 * a) (hA : AG kept cod p) (h : isBin (w a) ∧ ∃ c, aE w sv stb N m d (a + 1) c ∧ aE w sv stb N m d c b ∧ (N.2 a = 0 ↔ N.2 (a + 1) = 0 ∧ N.2 c = 0)) : GEc w tok sv stb N n d k a b kept cod p := by
  unfold GEc
  have hIA : vp_in (nI a) 400 := vp_in_nI (by omega) (by decide)
  have hIA1 : vp_in (nI (a + 1)) 400 := vp_in_nI (by omega) (by decide)
  have t0 : f_X2_tokenAt tok (nI n) (nI a) = w a := by rw [tokAt_lt (by omega) hn, hw a (by omega)]
  have t1 : f_X2_tokenAt tok (nI n) (nI (a + 1)) = w (a + 1) := by rw [tokAt_lt (by omega) hn, hw (a + 1) (by omega)]
  have hta : tok a = w a := hw a (by omega)
  rw [cdE_s, cdEk_s, wrE_s]
  unfold f_X0_writeExpression f_X10_codeE ok_X10_codeE
  simp only [bd_d, bdP_d, if_pos (show nI (12 - (d + 1)) < (12 : Int32) from nI_lt (b := 12) (by omega) (by decide)), t0, cl_nI (show a < 2 ^ 31 by omega), cl_nI (show a + 1 < 2 ^ 31 by omega), show nI a + (1 : Int32) = nI (a + 1) from nI_1 a, show nI a + (2 : Int32) = nI (a + 2) from nI_add a 2]
  have w2 : ∀ (p1 : Nat) (c : Nat → Int32) (x y : Int32), p1 + 1 < 2048 → f_X10_word (f_X10_word c (nI p1) x).1 (f_X10_word c (nI p1) x).2 y = (upd (upd c p1 x) (p1 + 1) y, nI (p1 + 2)) := by
    intro p1 c x y h
    rw [word_eq (by omega)]
    exact word_eq h _ _
  obtain ⟨t, c, hE1, hE2, -⟩ := h
  obtain ⟨⟨n20, n21, n35, n32, n36⟩, -⟩ := id t
  obtain ⟨s1, s2, s6⟩ := bin_ns t
  have hp0 : f_X4_partsOf (w a) = nI (0 + 2) := by
    unfold f_X4_partsOf
    rw [if_neg n20, if_neg n21, if_neg n32, if_neg n35, if_neg n36]
    rfl
  have ho : f_X10_operands (w a) = nI (0 + 2) := opn_bin t
  have hins : f_X2_inside tok (nI n) (nI a) = nI (a + 1) := ins_1 (by omega) hn (by rw [hta]; exact s1) (by rw [hta]; exact s2) (by rw [hta]; exact s6) (by rw [hta]; exact n20) (by rw [hta]; exact n21) (by rw [hta]; exact n35)
  have l1 := aE_lt hE1
  have l2 := aE_lt hE2
  obtain ⟨kept1, cod1, p1, g1, g2, g3, hA1, hp1, hb1, hF1, hS1⟩ := gparts hn hd ihk (m := m) (nI a) (w a) (nI (a + 1)) 2 0 4 (a + 1) b kept cod p ⟨c, hE1, b, hE2, rfl⟩ hb (by omega) hA (by omega) (by omega)
  obtain ⟨q1, q2⟩ := it103 k sv stb w (w a) 2 0 5 cod (nI p) (nI (a + 1)) ho (by omega) (by omega)
  rw [g2] at q1 q2
  simp only [if_neg n20, if_neg n21, if_neg n35, hp0, hins]
  rw [show f_X0_writeExpression_39 (wrE d) tok N.1.1 N.1.2 N.2 (nI n) 4 kept (nI p) (nI a) (nI (12 - (d + 1))) (w a) (nI (a + 1)) (nI (0 + 2)) (nI (a + 1)) 0 = _ from g1, f_X0_writeExpression_39, if_pos (show nI (0 + 2) ≤ nI (0 + 2) by decide), if_neg n20, if_neg n21, if_neg n35, if_neg n36, show f_X10_codeE_103 (cdE k) sv stb w 5 cod (nI p) (w a) (nI (a + 1)) 0 = _ from q1]
  have hle : nI (0 + 2) ≤ nI (0 + 2) := by decide
  rw [f_X10_codeE_103]
  simp only [bd, ho, if_pos hle, if_neg n36]
  rw [add_eq (by omega), word_eq (by omega)]
  refine ⟨_, _, p1 + 1, rfl, rfl, ⟨hIA, q2 g3 ?_⟩, hA1.up _, by omega, by omega, hF1.up (by omega) _, fun h M R hh hM hR => ?_⟩
  · rw [ok_X10_codeE_103]
    simp only [bdP, ho, if_pos hle, if_neg n36]
    exact ⟨word_ok (by omega) _ _, trivial⟩
  · have s1 := (hS1 h M R (by omega) hM hR).congr (cod' := upd cod1 p1 (w a - 18)) (fun i i1 i2 => upd_ne _ _ (by omega))
    refine s1.trans (Seg.one (by omega) hM hR (Or.inr (Or.inr (Or.inr (Or.inl ⟨?_, h, rfl, rfl, rfl, Nat.le_refl _, Nat.le_refl _⟩)))))
    rw [upd_eq]
    exact bin18 t
theorem gE_eq (hn : n ≤ 400) (hw : ∀ i, i < n → tok i = w i) : ∀ d k, d ≤ 12 → d ≤ k → GE w tok sv stb N n d k := by
  intro d
  induction d with
  | zero => intro k _ _ m a b h; exact h.elim
  | succ d ih =>
    intro k hd hk m a b h hb kept cod p hp hA
    obtain ⟨k, rfl⟩ : ∃ k', k = k' + 1 := ⟨k - 1, by omega⟩
    have ihk := ih k (by omega) (by omega)
    have hlt := aE_lt h
    obtain ⟨-, -, h | h | h | h | h | h⟩ := h
    · exact ge_0 (m := m) hn hw hd ihk hlt hb hp hA h
    · exact ge_1 (m := m) hn hw hd ihk hlt hb hp hA h
    · exact ge_2 (m := m) hn hw hd ihk hlt hb hp hA h
    · exact ge_3 (m := m) hn hw hd ihk hlt hb hp hA h
    · exact ge_4 (m := m) hn hw hd ihk hlt hb hp hA h
    · exact ge_5 (m := m) hn hw hd ihk hlt hb hp hA h
end CODE
