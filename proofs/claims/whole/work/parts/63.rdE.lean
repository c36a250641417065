/-! reading an expression, on both sides -/
theorem tok_cases {t : Int32} (h1 : ¬ t < 20) (h2 : ¬ 36 < t) : t = 20 ∨ t = 21 ∨ t = 35 ∨ t = 32 ∨ t = 36 ∨ isBin t := by
  have h0 : ¬ t < 0 := fun z => h1 (Int32.lt_trans z (by decide))
  obtain ⟨j, hj, rfl⟩ := nI_of h0
  have a1 : 20 ≤ j := Nat.le_of_not_lt fun z => h1 (nI_lt (b := 20) z (by decide))
  have a2 : j ≤ 36 := Nat.le_of_not_lt fun z => h2 (nI_lt (a := 36) z hj)
  have : j = 20 ∨ j = 21 ∨ j = 35 ∨ j = 32 ∨ j = 36 ∨ j = 22 ∨ j = 23 ∨ j = 24 ∨ j = 25 ∨ j = 26 ∨ j = 27 ∨ j = 28 ∨ j = 29 ∨ j = 30 ∨ j = 31 ∨ j = 33 ∨ j = 34 := by omega
  rcases this with rfl | rfl | rfl | rfl | rfl | h
  · exact Or.inl rfl
  · exact Or.inr (Or.inl rfl)
  · exact Or.inr (Or.inr (Or.inl rfl))
  · exact Or.inr (Or.inr (Or.inr (Or.inl rfl)))
  · exact Or.inr (Or.inr (Or.inr (Or.inr (Or.inl rfl))))
  · refine Or.inr (Or.inr (Or.inr (Or.inr (Or.inr ?_))))
    rcases h with rfl | rfl | rfl | rfl | rfl | rfl | rfl | rfl | rfl | rfl | rfl | rfl <;> exact ⟨by decide, by decide⟩
def rE0 : (Nat → Int32) → (Nat → Int32) → (Nat → Int32) → (Nat → Int32) → Int32 → (Nat → Int32) → (Nat → Int32) → Int32 → Int32 → Int32 → Int32 → Int32 → Int32 × (NT × ((Int32 × Int32) × Int32)) := fun _ beh msk sec _ _ _ next fault fplace _ _ => (0, (((beh, msk), sec), ((next, fault), fplace)))
theorem rdE_stop (d : Nat) (tok beh msk sec : Nat → Int32) (siz : Int32) (sn stb : Nat → Int32) (next : Int32) {fault : Int32} (fp x1 x2 : Int32) (h : ¬ fault = 0) : rdE d tok beh msk sec siz sn stb next fault fp x1 x2 = (0, (((beh, msk), sec), ((next, fault), fp))) := by
  cases d with
  | zero => unfold rdE f_X3_readExpression; simp only [bd]; rw [if_neg h]
  | succ d => unfold rdE f_X3_readExpression; simp only [bd]; rw [if_neg h]
theorem mE_stop (d : Nat) (tok : Nat → Int32) (siz next : Int32) {fault : Int32} (fp x1 : Int32) (h : ¬ fault = 0) : mE d tok siz next fault fp x1 = ((next, fault), fp) := by
  cases d with
  | zero => unfold mE f_X10_readE; rw [if_neg h]
  | succ d => unfold mE f_X10_readE; rw [if_neg h]
theorem p69_stop (d : Nat) (tok : Nat → Int32) (siz : Int32) (sn stb : Nat → Int32) : ∀ (k : Nat) (beh msk sec : Nat → Int32) (next fault fp y1 y2 y3 y5 y6 y7 : Int32), ¬ fault = 0 → ∃ (S : Int32) (N' : NT), f_X3_readExpression_69 (rdE d) tok siz sn stb k beh msk sec next fault fp y1 y2 y3 y5 y6 y7 = (S, (N', ((next, fault), fp))) := by
  intro k
  induction k with
  | zero => intro beh msk sec next fault fp y1 y2 y3 y5 y6 y7 _; exact ⟨0, ((beh, msk), sec), rfl⟩
  | succ k ih =>
    intro beh msk sec next fault fp y1 y2 y3 y5 y6 y7 h
    unfold f_X3_readExpression_69
    simp only [bd, rdE_stop d tok beh msk sec siz sn stb next fp (y1 + 1) y2 h, if_true]
    by_cases h1 : y6 ≤ y7
    · rw [if_pos h1]; exact ⟨y5, f_X2_note beh msk sec siz y3 next y2 y5, rfl⟩
    · rw [if_neg h1]; exact ih beh msk sec next fault fp y1 y2 y3 y5 y6 (y7 + 1) h
/-- the reference's reading of some expressions in a row -/
def itE (d : Nat) (tok : Nat → Int32) (siz y : Int32) : Nat → Int32 → Int32 → Int32 → ((Int32 × Int32) × Int32)
  | 0, pos, fault, plc => ((pos, fault), plc)
  | j + 1, pos, fault, plc => itE d tok siz y j (mE d tok siz pos fault plc y).1.1 (mE d tok siz pos fault plc y).1.2 (mE d tok siz pos fault plc y).2
theorem itE_stop (d : Nat) (tok : Nat → Int32) (siz y : Int32) : ∀ (j : Nat) (pos fault plc : Int32), ¬ fault = 0 → itE d tok siz y j pos fault plc = ((pos, fault), plc) := by
  intro j
  induction j with
  | zero => intro pos fault plc _; rfl
  | succ j ih =>
    intro pos fault plc h
    unfold itE
    rw [mE_stop d tok siz pos plc y h]
    exact ih pos fault plc h
theorem it170 (d : Nat) (tok : Nat → Int32) (siz y1 t : Int32) : ∀ (j y k : Nat) (pos fault plc : Int32), f_X10_operands t = nI (y + j) → y + j ≤ 3 → j + 1 ≤ k → f_X10_readE_170 (mE d) tok siz k pos fault plc y1 t (nI y) = itE d tok siz (y1 + 1) j pos fault plc := by
  intro j
  induction j with
  | zero =>
    intro y k pos fault plc ho hy hk
    obtain ⟨k, rfl⟩ : ∃ k', k = k' + 1 := ⟨k - 1, by omega⟩
    unfold f_X10_readE_170
    simp only [bd, ho]
    rw [if_pos (nI_le (by omega) (by omega))]
    rfl
  | succ j ih =>
    intro y k pos fault plc ho hy hk
    obtain ⟨k, rfl⟩ : ∃ k', k = k' + 1 := ⟨k - 1, by omega⟩
    unfold f_X10_readE_170
    simp only [bd, ho]
    rw [if_neg (nI_ge (by omega) (by omega)), show nI y + (1 : Int32) = nI (y + 1) from nI_1 y]
    exact ih (y + 1) k _ _ _ (by rw [ho]; congr 1; omega) (by omega) (by omega)
/-- all of some expressions in a row are open -/
def z0 (N : NT) : Nat → Nat → Prop
  | 0, _ => True
  | j + 1, c => N.2 c = 0 ∧ z0 N j (N.1.1 c).toNatClampNeg
section RDE
variable {tok sn stb : Nat → Int32} {n : Nat}
def RdE (tok sn stb : Nat → Int32) (n d : Nat) : Prop := ∀ (a m : Nat) (N : NT) (fp : Int32), a ≤ n → ZB N a →
  (∃ (N' : NT) (b : Nat) (S : Int32), rdE d tok N.1.1 N.1.2 N.2 (nI n) sn stb (nI a) 0 fp (nI (12 - d)) (nI m) = (S, (N', ((nI b, 0), fp))) ∧ mE d tok (nI n) (nI a) 0 fp (nI (13 - d)) = ((nI b, 0), fp) ∧ b ≤ n ∧ FR N N' a b ∧ aE tok sn stb N' m d a b ∧ (S = 0 ∨ S = 1) ∧ N'.2 a = S)
  ∨ (∃ (S : Int32) (N' : NT) (nx po f p : Int32), ¬ f = 0 ∧ rdE d tok N.1.1 N.1.2 N.2 (nI n) sn stb (nI a) 0 fp (nI (12 - d)) (nI m) = (S, (N', ((nx, f), p))) ∧ mE d tok (nI n) (nI a) 0 fp (nI (13 - d)) = ((po, f), p))
theorem note_in {N : NT} {a : Nat} (ha : a < n) (hn : n ≤ 400) (x y z : Int32) (hz : z = 0 ∨ z = 1) : f_X2_note N.1.1 N.1.2 N.2 (nI n) (nI a) x y z = ((upd N.1.1 a x, upd N.1.2 a y), upd N.2 a z) := by
  unfold f_X2_note
  simp only [bd]
  rw [has_lt ha hn, if_neg (by decide), cl_nI (by omega)]
  rcases hz with rfl | rfl <;> rfl
theorem dep13 {d : Nat} (h : d + 1 ≤ 12) : nI (13 - (d + 1)) + (1 : Int32) = nI (13 - d) := by
  rw [show nI (13 - (d + 1)) + (1 : Int32) = nI (13 - (d + 1) + 1) from nI_1 _]
  congr 1
  omega
theorem rd_parts {d : Nat} (hn : n ≤ 400) (hd : d + 1 ≤ 12) (ih : RdE tok sn stb n d) {a m : Nat} (ha : a < n) : ∀ (p y k c : Nat) (N : NT) (fp S : Int32), a < c → c ≤ n → ZB N c → (S = 0 ∨ S = 1) → y + p ≤ 3 → p + 1 ≤ k →
    (∃ (N' : NT) (b : Nat) (S' : Int32), f_X3_readExpression_69 (rdE d) tok (nI n) sn stb k N.1.1 N.1.2 N.2 (nI c) 0 fp (nI (12 - (d + 1))) (nI m) (nI a) S (nI (y + p)) (nI y) = (S', (((upd N'.1.1 a (nI b), upd N'.1.2 a (nI m)), upd N'.2 a S'), ((nI b, 0), fp))) ∧ itE d tok (nI n) (nI (13 - d)) p (nI c) 0 fp = ((nI b, 0), fp) ∧ c ≤ b ∧ b ≤ n ∧ FR N N' c b ∧ nL (aE tok sn stb N' m d) p c b ∧ (S' = 0 ∨ S' = 1) ∧ (S' = 0 ↔ S = 0 ∧ z0 N' p c))
    ∨ (∃ (S' : Int32) (N' : NT) (nx po f q : Int32), ¬ f = 0 ∧ f_X3_readExpression_69 (rdE d) tok (nI n) sn stb k N.1.1 N.1.2 N.2 (nI c) 0 fp (nI (12 - (d + 1))) (nI m) (nI a) S (nI (y + p)) (nI y) = (S', (N', ((nx, f), q))) ∧ itE d tok (nI n) (nI (13 - d)) p (nI c) 0 fp = ((po, f), q)) := by
  intro p
  induction p with
  | zero =>
    intro y k c N fp S hac hc hz hS hy hk
    obtain ⟨k, rfl⟩ : ∃ k', k = k' + 1 := ⟨k - 1, by omega⟩
    left
    refine ⟨N, c, S, ?_, rfl, Nat.le_refl _, hc, FR.refl N c c, rfl, hS, ⟨fun h => ⟨h, trivial⟩, fun h => h.1⟩⟩
    unfold f_X3_readExpression_69
    simp only [bd]
    rw [if_pos (nI_le (by omega) (by omega)), note_in ha hn _ _ _ hS]
  | succ p ihp =>
    intro y k c N fp S hac hc hz hS hy hk
    obtain ⟨k, rfl⟩ : ∃ k', k = k' + 1 := ⟨k - 1, by omega⟩
    have hnl : ¬ nI (y + (p + 1)) ≤ nI y := nI_ge (by omega) (by omega)
    have hy1 : nI y + (1 : Int32) = nI (y + 1) := nI_1 y
    have hyp : y + (p + 1) = y + 1 + p := by omega
    unfold f_X3_readExpression_69 itE
    simp only [bd]
    rw [if_neg hnl, dep_1 hd, hy1, hyp]
    rcases ih c m N fp hc hz with ⟨N1, b1, S1, e1, e2, hb1, hf1, ha1, hs1, hs2⟩ | ⟨S1, N1, nx, po, f, q, hf, e1, e2⟩
    · rw [e1, e2]
      have lt1 := aE_lt ha1
      have hz1 : ZB N1 b1 := hf1.zb (by omega) hz
      have hbe : N1.1.1 c = nI b1 := by
        cases d with
        | zero => exact ha1.elim
        | succ d => exact ha1.1
      by_cases h1 : S1 = 0
      · simp only [if_pos h1]
        rcases ihp (y + 1) k b1 N1 fp S (by omega) hb1 hz1 hS (by omega) (by omega) with ⟨N2, b2, S2, g1, g2, gc, hb2, hf2, hl2, hs3, hs4⟩ | ⟨S2, N2, nx, po, f, q, hf, g1, g2⟩
        · left
          refine ⟨N2, b2, S2, g1, g2, by omega, hb2, hf1.trans hf2 (by omega) (by omega), ⟨b1, aE_congr ha1 (hf2.agr (Or.inl (Nat.le_refl _))), hl2⟩, hs3, ?_⟩
          rw [hs4]
          obtain ⟨q1, q2, q3⟩ := hf2.1 c (Or.inl (by omega))
          show _ ↔ S = 0 ∧ N2.2 c = 0 ∧ z0 N2 p (N2.1.1 c).toNatClampNeg
          rw [q1, q3, hbe, cl_nI (by omega), hs2]
          exact ⟨fun h => ⟨h.1, h1, h.2⟩, fun h => ⟨h.1, h.2.2⟩⟩
        · exact Or.inr ⟨S2, N2, nx, po, f, q, hf, g1, g2⟩
      · simp only [if_neg h1]
        rcases ihp (y + 1) k b1 N1 fp 1 (by omega) hb1 hz1 (Or.inr rfl) (by omega) (by omega) with ⟨N2, b2, S2, g1, g2, gc, hb2, hf2, hl2, hs3, hs4⟩ | ⟨S2, N2, nx, po, f, q, hf, g1, g2⟩
        · left
          refine ⟨N2, b2, S2, g1, g2, by omega, hb2, hf1.trans hf2 (by omega) (by omega), ⟨b1, aE_congr ha1 (hf2.agr (Or.inl (Nat.le_refl _))), hl2⟩, hs3, ?_⟩
          rw [hs4]
          obtain ⟨q1, q2, q3⟩ := hf2.1 c (Or.inl (by omega))
          show _ ↔ S = 0 ∧ N2.2 c = 0 ∧ z0 N2 p (N2.1.1 c).toNatClampNeg
          rw [q3, hs2]
          exact ⟨fun h => absurd h.1 (by decide), fun h => absurd h.2.1 h1⟩
        · exact Or.inr ⟨S2, N2, nx, po, f, q, hf, g1, g2⟩
    · rw [e1, e2]
      simp only
      right
      rw [itE_stop d tok (nI n) _ p po f q hf]
      by_cases h1 : S1 = 0
      · simp only [if_pos h1]
        obtain ⟨S', N', g⟩ := p69_stop d tok (nI n) sn stb k N1.1.1 N1.1.2 N1.2 nx f q (nI (12 - (d + 1))) (nI m) (nI a) S (nI (y + 1 + p)) (nI (y + 1)) hf
        exact ⟨S', N', nx, po, f, q, hf, g, rfl⟩
      · simp only [if_neg h1]
        obtain ⟨S', N', g⟩ := p69_stop d tok (nI n) sn stb k N1.1.1 N1.1.2 N1.2 nx f q (nI (12 - (d + 1))) (nI m) (nI a) 1 (nI (y + 1 + p)) (nI (y + 1)) hf
        exact ⟨S', N', nx, po, f, q, hf, g, rfl⟩
/-- a word below a bound -/
theorem below_eq {c k : Nat} (hn : n ≤ 400) (hc : c ≤ n) (hk : k ≤ 100) (K K1 : Int32) (hK : K = nI (k + 1)) (hK1 : K1 = nI k) (fp : Int32) : (c < n ∧ vp_in (tok c) (k + 1) ∧ f_X3_readBelow tok (nI n) (nI c) 0 fp K = (tok c, ((nI (c + 1), 0), fp)) ∧ f_X10_number tok (nI n) (nI c) 0 fp K1 = ((nI (c + 1), 0), fp)) ∨ ∃ v f p, ¬ f = 0 ∧ f_X3_readBelow tok (nI n) (nI c) 0 fp K = (v, ((nI c, f), p)) ∧ f_X10_number tok (nI n) (nI c) 0 fp K1 = ((nI c, f), p) := by
  subst hK; subst hK1
  unfold f_X3_readBelow f_X10_number f_X3_blame f_X10_fail
  simp only [bd, if_true]
  by_cases h : c = n
  · subst h
    right
    rw [has_ge (Nat.le_refl _) (by omega)]
    simp only [if_true]
    exact ⟨_, -11, nI c, by decide, rfl, rfl⟩
  · rw [has_lt (show c < n by omega) hn, tokAt_lt (show c < n by omega) hn, if_neg (fun z => h ((nI_eq (by omega) (by omega)).mp z)), if_neg (show ¬ (1 : Int32) = 0 by decide), cl_nI (show c < 2 ^ 31 by omega)]
    unfold f_X10_isIn
    by_cases h0 : tok c < 0
    · simp only [if_pos h0, if_true]
      exact Or.inr ⟨_, -12, nI c, by decide, rfl, rfl⟩
    · simp only [if_neg h0]
      obtain ⟨j, hj, ej⟩ := nI_of h0
      rw [ej]
      by_cases h1 : j < k + 1
      · rw [if_pos (nI_lt h1 (by omega)), if_neg (show ¬ nI k < nI j from nI_nlt (by omega) (by omega)), if_neg (show ¬ (1 : Int32) = 0 by decide), show nI c + (1 : Int32) = nI (c + 1) from nI_1 c]
        exact Or.inl ⟨by omega, vp_in_nI h1 (by omega), rfl, rfl⟩
      · rw [if_neg (nI_nlt (by omega) hj), if_pos (show nI k < nI j from nI_lt (by omega) hj), if_pos rfl]
        exact Or.inr ⟨_, -12, nI c, by decide, rfl, rfl⟩
theorem isSV01 (sn : Nat → Int32) (v : Int32) : f_X5_isSecretVariable sn v = 0 ∨ f_X5_isSecretVariable sn v = 1 := by
  unfold f_X5_isSecretVariable
  simp only [bd]
  repeat' split
  all_goals first | exact Or.inl rfl | exact Or.inr rfl
theorem isST01 (sn : Nat → Int32) (v : Int32) : f_X5_isSecretTable sn v = 0 ∨ f_X5_isSecretTable sn v = 1 := by
  unfold f_X5_isSecretTable
  simp only [bd]
  repeat' split
  all_goals first | exact Or.inl rfl | exact Or.inr rfl
theorem isSV_iff {sn : Nat → Int32} {v : Int32} (h : vp_in v 10) : f_X5_isSecretVariable sn v = 0 ↔ sn v.toNatClampNeg = 0 := by
  unfold f_X5_isSecretVariable
  simp only [bd]
  rw [if_neg (hasV_in h)]
  by_cases h1 : sn v.toNatClampNeg = 0
  · rw [if_pos h1]; exact ⟨fun _ => h1, fun _ => rfl⟩
  · rw [if_neg h1]; exact ⟨fun z => absurd z (by decide), fun z => absurd z h1⟩
theorem isST_iff {sn : Nat → Int32} {v : Int32} (h : vp_in v 4) : f_X5_isSecretTable sn v = 0 ↔ sn v.toNatClampNeg = 0 := by
  unfold f_X5_isSecretTable
  simp only [bd]
  rw [if_neg (hasT_in h)]
  by_cases h1 : sn v.toNatClampNeg = 0
  · rw [if_pos h1]; exact ⟨fun _ => h1, fun _ => rfl⟩
  · rw [if_neg h1]; exact ⟨fun z => absurd z (by decide), fun z => absurd z h1⟩
end RDE
