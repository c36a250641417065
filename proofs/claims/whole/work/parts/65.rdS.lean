/-! reading statements, on both sides -/
section RDS
variable {tok sn stb : Nat → Int32} {n : Nat}
abbrev TrA : Type := (Nat → Int32) → (Nat → Int32) → (Nat → Int32) → (Nat → Int32) → Int32 → (Nat → Int32) → (Nat → Int32) → Int32 → Int32 → Int32 → Int32 → Int32 → Int32 → Int32 × (NT × ((Int32 × Int32) × Int32))
def RdS (tok sn stb : Nat → Int32) (n d : Nat) : Prop := ∀ (a m : Nat) (N : NT) (fp : Int32), a ≤ n → ZB N a →
  (∃ (N' : NT) (b : Nat), rdS d tok N.1.1 N.1.2 N.2 (nI n) sn stb (nI a) 0 fp (nI (12 - d)) (nI m) = (N', ((nI b, 0), fp)) ∧ mS d tok (nI n) (nI a) 0 fp (nI (13 - d)) = ((nI b, 0), fp) ∧ b ≤ n ∧ FR N N' a b ∧ aS tok sn stb N' d m a b)
  ∨ (∃ (N' : NT) (nx po f p : Int32), ¬ f = 0 ∧ rdS d tok N.1.1 N.1.2 N.2 (nI n) sn stb (nI a) 0 fp (nI (12 - d)) (nI m) = (N', ((nx, f), p)) ∧ mS d tok (nI n) (nI a) 0 fp (nI (13 - d)) = ((po, f), p))
def RdA (tok sn stb : Nat → Int32) (n d : Nat) : Prop := ∀ (a m : Nat) (N : NT) (fp z : Int32), a ≤ n → ZB N a →
  (∃ (N' : NT) (e j : Nat), rdSs d tok N.1.1 N.1.2 N.2 (nI n) sn stb (nI a) 0 fp z (nI (12 - d)) (nI m) = (tok e, (N', ((nI (e + 1), 0), fp))) ∧ mA d tok (nI n) (nI a) 0 fp (nI (13 - d)) z = ((nI e, 0), fp) ∧ e < n ∧ FR N N' a e ∧ nL (aS tok sn stb N' d m) j a e ∧ (tok e = 0 ∨ (tok e = 4 ∧ ¬ z = 0)))
  ∨ (∃ (N' : NT) (nx po f p : Int32), ¬ f = 0 ∧ rdSs d tok N.1.1 N.1.2 N.2 (nI n) sn stb (nI a) 0 fp z (nI (12 - d)) (nI m) = (0, (N', ((nx, f), p))) ∧ mA d tok (nI n) (nI a) 0 fp (nI (13 - d)) z = ((po, f), p))
theorem rdSs_stop (d : Nat) (beh msk sec : Nat → Int32) (siz next : Int32) {fault : Int32} (fp x1 x2 x3 : Int32) (h : ¬ fault = 0) : rdSs d tok beh msk sec siz sn stb next fault fp x1 x2 x3 = (0, (((beh, msk), sec), ((next, fault), fp))) := by
  unfold rdSs f_X3_readStatements f_X3_readStatements_3
  rw [if_neg (by decide), if_neg h]
theorem mA_stop (d : Nat) (siz next : Int32) {fault : Int32} (fp x1 x2 : Int32) (h : ¬ fault = 0) : mA d tok siz next fault fp x1 x2 = ((next, fault), fp) := by
  unfold mA f_X10_readAll f_X10_readAll_0
  rw [if_neg h]
theorem end_stop (siz pos : Int32) {fault : Int32} (h : ¬ fault = 0) : f_X10_end tok siz pos fault = pos := by
  unfold f_X10_end
  rw [if_neg h]
theorem isHere_lt {c : Nat} (hn : n ≤ 400) (hc : c < n) (t : Int32) : f_X10_isHere tok (nI n) (nI c) t = if tok c = t then 1 else 0 := by
  unfold f_X10_isHere
  rw [if_neg (nI_ge hc (by omega)), cl_nI (by omega)]
theorem end_0 {c : Nat} (hn : n ≤ 400) (hc : c < n) (h0 : tok c = 0) : f_X10_end tok (nI n) (nI c) 0 = nI (c + 1) := by
  unfold f_X10_end
  rw [isHere_lt hn hc, if_pos rfl, if_pos h0]
  exact nI_1 c
theorem rS_bad (rE : TrE) (rSs : TrA) (qE : TRd) (qA : TRa) {a : Nat} (hn : n ≤ 400) (ha : a ≤ n) (h : a < n → ¬ (tok a = 1 ∨ tok a = 2 ∨ tok a = 3 ∨ tok a = 5 ∨ tok a = 6 ∨ tok a = 7)) (N : NT) (fp y1 y2 z1 : Int32) : f_X3_readStatement rE rSs tok N.1.1 N.1.2 N.2 (nI n) sn stb (nI a) 0 fp y1 y2 = (N, ((nI a, -11), nI a)) ∧ f_X10_readS qE qA tok (nI n) (nI a) 0 fp z1 = ((nI a, -11), nI a) := by
  have h40 : ∀ t, f_X3_readStatement_40 rE rSs tok (nI n) sn stb N.1.1 N.1.2 N.2 (nI a) 0 fp y1 y2 (nI a) t 0 = (N, ((nI a, -11), nI a)) := fun t => rfl
  unfold f_X3_readStatement f_X10_readS f_X10_fail
  simp only [bd, if_true]
  by_cases han : a = n
  · subst han
    rw [tokAt_ge (Nat.le_refl _) (by omega), if_pos (show (0 : Int32) < 1 by decide), h40]
    simp only [if_true]
    exact ⟨trivial, trivial⟩
  · have hlt : a < n := by omega
    have hh : f_X10_here tok (nI n) (nI a) = tok a := by
      unfold f_X10_here
      rw [if_neg (nI_ge hlt (by omega)), cl_nI (by omega)]
    rw [tokAt_lt hlt hn, if_neg (fun z => han ((nI_eq (by omega) (by omega)).mp z)), hh]
    have hno := h hlt
    have key : (tok a < 1 ∨ 7 < tok a ∨ tok a = 4) ∧ f_X10_isIn (tok a) 1 3 = 0 ∧ f_X10_isIn (tok a) 5 7 = 0 := by
      unfold f_X10_isIn
      by_cases k0 : tok a < 0
      · have k1 : tok a < 1 := Int32.lt_trans k0 (by decide)
        have k5 : tok a < 5 := Int32.lt_trans k0 (by decide)
        rw [if_pos k1, if_pos k5]
        exact ⟨Or.inl k1, rfl, rfl⟩
      · obtain ⟨j, hj, ej⟩ := nI_of k0
        rw [ej] at hno ⊢
        have q : ∀ c : Nat, c < 2 ^ 31 → nI j = nI c → j = c := fun c hc z => (nI_eq hj hc).mp z
        have hj' : j = 0 ∨ j = 4 ∨ 8 ≤ j := by
          have r1 : ¬ j = 1 := fun z => hno (Or.inl (by rw [z]; rfl))
          have r2 : ¬ j = 2 := fun z => hno (Or.inr (Or.inl (by rw [z]; rfl)))
          have r3 : ¬ j = 3 := fun z => hno (Or.inr (Or.inr (Or.inl (by rw [z]; rfl))))
          have r5 : ¬ j = 5 := fun z => hno (Or.inr (Or.inr (Or.inr (Or.inl (by rw [z]; rfl)))))
          have r6 : ¬ j = 6 := fun z => hno (Or.inr (Or.inr (Or.inr (Or.inr (Or.inl (by rw [z]; rfl))))))
          have r7 : ¬ j = 7 := fun z => hno (Or.inr (Or.inr (Or.inr (Or.inr (Or.inr (by rw [z]; rfl))))))
          omega
        rcases hj' with rfl | rfl | h8
        · exact ⟨by decide, by decide, by decide⟩
        · exact ⟨by decide, by decide, by decide⟩
        · have g1 : ¬ nI j < 1 := nI_nlt (b := 1) (by omega) hj
          have g3 : 3 < nI j := nI_lt (a := 3) (by omega) hj
          have g5 : ¬ nI j < 5 := nI_nlt (b := 5) (by omega) hj
          have g7 : 7 < nI j := nI_lt (a := 7) (by omega) hj
          rw [if_neg g1, if_pos g3, if_neg g5, if_pos g7]
          exact ⟨Or.inr (Or.inl g7), rfl, rfl⟩
    obtain ⟨k1, k2, k3⟩ := key
    rw [k2, k3]
    simp only [h40, if_true, and_true]
    by_cases g1 : tok a < 1
    · rw [if_pos g1]
    · by_cases g2 : 7 < tok a
      · rw [if_neg g1, if_pos g2]
      · have g3 : tok a = 4 := (k1.resolve_left g1).resolve_left g2
        rw [if_neg g1, if_neg g2, if_pos g3]
theorem sT_ok {t : Int32} (h : t = 1 ∨ t = 2 ∨ t = 3 ∨ t = 5 ∨ t = 6 ∨ t = 7) : ¬ t < 1 ∧ ¬ 7 < t ∧ ¬ t = 4 ∧ (¬ f_X10_isIn t 1 3 = 0 ∨ ¬ f_X10_isIn t 5 7 = 0) := by
  rcases h with rfl | rfl | rfl | rfl | rfl | rfl <;> decide
theorem rS_head (rE : TrE) (rSs : TrA) (qE : TRd) (qA : TRa) {a : Nat} (hn : n ≤ 400) (ha : a < n) (h : tok a = 1 ∨ tok a = 2 ∨ tok a = 3 ∨ tok a = 5 ∨ tok a = 6 ∨ tok a = 7) (N : NT) (fp y1 y2 z1 : Int32) : f_X3_readStatement rE rSs tok N.1.1 N.1.2 N.2 (nI n) sn stb (nI a) 0 fp y1 y2 = f_X3_readStatement_40 rE rSs tok (nI n) sn stb N.1.1 N.1.2 N.2 (nI a) 0 fp y1 y2 (nI a) (tok a) 1 ∧ f_X10_readS qE qA tok (nI n) (nI a) 0 fp z1 = f_X10_readS_47 qE qA tok (nI n) (nI a) 0 fp z1 (tok a) := by
  obtain ⟨h1, h2, h3, h4⟩ := sT_ok h
  have hh : f_X10_here tok (nI n) (nI a) = tok a := by
    unfold f_X10_here
    rw [if_neg (nI_ge ha (by omega)), cl_nI (by omega)]
  unfold f_X3_readStatement f_X10_readS
  simp only [bd]
  rw [tokAt_lt ha hn, if_neg h1, if_neg h2, if_neg h3, hh, if_neg (fun z => absurd ((nI_eq (by omega) (by omega)).mp z) (by omega))]
  refine ⟨rfl, ?_⟩
  by_cases k : f_X10_isIn (tok a) 1 3 = 0
  · rw [if_pos k, if_neg (h4.resolve_left (fun z => z k))]
  · rw [if_neg k]
theorem mb_good {a d : Nat} (hn : n ≤ 400) (ha : a < n) (hd : d + 1 ≤ 12) (fp : Int32) : f_X3_mayBegin (nI n) (nI a) 0 fp 1 (nI (12 - (d + 1))) = (1, ((nI (a + 1), 0), fp)) := by
  unfold f_X3_mayBegin
  simp only [bd]
  rw [has_lt ha hn]
  simp only [if_neg (show ¬ (1 : Int32) = 0 by decide), if_pos (show nI (12 - (d + 1)) < (12 : Int32) from nI_lt (b := 12) (by omega) (by decide)), if_true, show nI a + (1 : Int32) = nI (a + 1) from nI_1 a]
theorem rd_block {d : Nat} (hn : n ≤ 400) (ih : RdS tok sn stb n d) (m : Nat) (z : Int32) : ∀ (g k k' y a : Nat) (N : NT) (fp : Int32), a ≤ n → ZB N a → n - a ≤ g → g + 2 ≤ k → g + 2 ≤ k' → y + g ≤ 400 →
    (∃ (N' : NT) (e j : Nat), f_X3_readStatements_3 (rdS d) tok (nI n) sn stb k N.1.1 N.1.2 N.2 (nI a) 0 fp z (nI (12 - d)) (nI m) (nI y) = (tok e, (N', ((nI (e + 1), 0), fp))) ∧ f_X10_readAll_0 (mS d) tok (nI n) k' (nI a) 0 fp (nI (13 - d)) z = ((nI e, 0), fp) ∧ e < n ∧ FR N N' a e ∧ nL (aS tok sn stb N' d m) j a e ∧ (tok e = 0 ∨ (tok e = 4 ∧ ¬ z = 0)))
    ∨ (∃ (N' : NT) (nx po f p : Int32), ¬ f = 0 ∧ f_X3_readStatements_3 (rdS d) tok (nI n) sn stb k N.1.1 N.1.2 N.2 (nI a) 0 fp z (nI (12 - d)) (nI m) (nI y) = (0, (N', ((nx, f), p))) ∧ f_X10_readAll_0 (mS d) tok (nI n) k' (nI a) 0 fp (nI (13 - d)) z = ((po, f), p)) := by
  intro g
  induction g using Nat.strongRecOn with
  | _ g ihg =>
  intro k k' y a N fp ha hz hg hk hk' hy
  obtain ⟨k, rfl⟩ : ∃ q, k = q + 2 := ⟨k - 2, by omega⟩
  obtain ⟨k', rfl⟩ : ∃ q, k' = q + 2 := ⟨k' - 2, by omega⟩
  have h400 : ¬ (400 : Int32) < nI y := nI_nlt (a := 400) (by omega) (by decide)
  -- after a fault both loops end
  have stopC : ∀ (N' : NT) (nx f p : Int32) (y' : Int32), ¬ f = 0 → f_X3_readStatements_3 (rdS d) tok (nI n) sn stb (k + 1) N'.1.1 N'.1.2 N'.2 nx f p z (nI (12 - d)) (nI m) y' = (0, (N', ((nx, f), p))) := by
    intro N' nx f p y' hf
    unfold f_X3_readStatements_3
    rw [if_neg hf]
    by_cases h : (400 : Int32) < y'
    · rw [if_pos h]
    · rw [if_neg h]
  have stopM : ∀ (po f p : Int32), ¬ f = 0 → f_X10_readAll_0 (mS d) tok (nI n) (k' + 1) po f p (nI (13 - d)) z = ((po, f), p) := by
    intro po f p hf
    unfold f_X10_readAll_0
    rw [if_neg hf]
  have step : ((∃ (N' : NT) (e j : Nat), (bd (rdS d tok N.1.1 N.1.2 N.2 (nI n) sn stb (nI a) 0 fp (nI (12 - d)) (nI m)) fun o6 => f_X3_readStatements_3 (rdS d) tok (nI n) sn stb (k + 1) o6.1.1.1 o6.1.1.2 o6.1.2 o6.2.1.1 o6.2.1.2 o6.2.2 z (nI (12 - d)) (nI m) (nI y + 1)) = (tok e, (N', ((nI (e + 1), 0), fp))) ∧ (bd (mS d tok (nI n) (nI a) 0 fp (nI (13 - d))) fun o5 => f_X10_readAll_0 (mS d) tok (nI n) (k' + 1) o5.1.1 o5.1.2 o5.2 (nI (13 - d)) z) = ((nI e, 0), fp) ∧ e < n ∧ FR N N' a e ∧ nL (aS tok sn stb N' d m) j a e ∧ (tok e = 0 ∨ (tok e = 4 ∧ ¬ z = 0)))
      ∨ (∃ (N' : NT) (nx po f p : Int32), ¬ f = 0 ∧ (bd (rdS d tok N.1.1 N.1.2 N.2 (nI n) sn stb (nI a) 0 fp (nI (12 - d)) (nI m)) fun o6 => f_X3_readStatements_3 (rdS d) tok (nI n) sn stb (k + 1) o6.1.1.1 o6.1.1.2 o6.1.2 o6.2.1.1 o6.2.1.2 o6.2.2 z (nI (12 - d)) (nI m) (nI y + 1)) = (0, (N', ((nx, f), p))) ∧ (bd (mS d tok (nI n) (nI a) 0 fp (nI (13 - d))) fun o5 => f_X10_readAll_0 (mS d) tok (nI n) (k' + 1) o5.1.1 o5.1.2 o5.2 (nI (13 - d)) z) = ((po, f), p))) := by
    simp only [bd]
    rcases ih a m N fp ha hz with ⟨N1, b, e1, e2, hb, hf1, ha1⟩ | ⟨N1, nx, po, f, p, hf, e1, e2⟩
    · rw [e1, e2, show nI y + (1 : Int32) = nI (y + 1) from nI_1 y]
      have lt1 := aS_lt ha1
      rcases ihg (n - b) (by omega) (k + 1) (k' + 1) (y + 1) b N1 fp hb (hf1.zb (by omega) hz) (Nat.le_refl _) (by omega) (by omega) (by omega) with ⟨N2, e, j, g1, g2, he, hf2, hl, ht⟩ | ⟨N2, nx, po, f, p, hf, g1, g2⟩
      · left
        have lt2 := aSL_le hl
        exact ⟨N2, e, j + 1, g1, g2, he, hf1.trans hf2 (by omega) (by omega), ⟨b, aS_congr ha1 (hf2.agr (Or.inl (Nat.le_refl _))), hl⟩, ht⟩
      · exact Or.inr ⟨N2, nx, po, f, p, hf, g1, g2⟩
    · rw [e1, e2]
      right
      exact ⟨N1, nx, po, f, p, hf, stopC N1 nx f p _ hf, stopM po f p hf⟩
  unfold f_X3_readStatements_3 f_X10_readAll_0
  rw [if_neg h400, if_pos rfl, if_pos rfl]
  by_cases han : a = n
  · subst han
    rw [has_ge (Nat.le_refl _) (by omega)]
    have hh : ∀ t, f_X10_isHere tok (nI a) (nI a) t = 0 := by
      intro t
      unfold f_X10_isHere
      rw [if_pos (nI_le (Nat.le_refl _) (by omega))]
    rw [hh, hh]
    rw [show (bd (f_X2_tokenAt tok (nI a) (nI a)) fun o3 => bd (0 : Int32) fun o4 => if o4 = 0 then bd (rdS d tok N.1.1 N.1.2 N.2 (nI a) sn stb (nI a) 0 fp (nI (12 - d)) (nI m)) (fun o6 => f_X3_readStatements_3 (rdS d) tok (nI a) sn stb (k + 1) o6.1.1.1 o6.1.1.2 o6.1.2 o6.2.1.1 o6.2.1.2 o6.2.2 z (nI (12 - d)) (nI m) (nI y + 1)) else if o3 = 0 then (o3, (((N.1.1, N.1.2), N.2), ((nI a + 1, 0), fp))) else if o3 = 4 then if z = 0 then bd (rdS d tok N.1.1 N.1.2 N.2 (nI a) sn stb (nI a) 0 fp (nI (12 - d)) (nI m)) (fun o11 => f_X3_readStatements_3 (rdS d) tok (nI a) sn stb (k + 1) o11.1.1.1 o11.1.1.2 o11.1.2 o11.2.1.1 o11.2.1.2 o11.2.2 z (nI (12 - d)) (nI m) (nI y + 1)) else (o3, (((N.1.1, N.1.2), N.2), ((nI a + 1, 0), fp))) else bd (rdS d tok N.1.1 N.1.2 N.2 (nI a) sn stb (nI a) 0 fp (nI (12 - d)) (nI m)) (fun o9 => f_X3_readStatements_3 (rdS d) tok (nI a) sn stb (k + 1) o9.1.1.1 o9.1.1.2 o9.1.2 o9.2.1.1 o9.2.1.2 o9.2.2 z (nI (12 - d)) (nI m) (nI y + 1))) = bd (rdS d tok N.1.1 N.1.2 N.2 (nI a) sn stb (nI a) 0 fp (nI (12 - d)) (nI m)) (fun o6 => f_X3_readStatements_3 (rdS d) tok (nI a) sn stb (k + 1) o6.1.1.1 o6.1.1.2 o6.1.2 o6.2.1.1 o6.2.1.2 o6.2.2 z (nI (12 - d)) (nI m) (nI y + 1)) from rfl]
    rw [show (bd (0 : Int32) fun o2 => if o2 = 0 then if z = 0 then bd (mS d tok (nI a) (nI a) 0 fp (nI (13 - d))) (fun o5 => f_X10_readAll_0 (mS d) tok (nI a) (k' + 1) o5.1.1 o5.1.2 o5.2 (nI (13 - d)) z) else bd (0 : Int32) (fun o6 => if o6 = 0 then bd (mS d tok (nI a) (nI a) 0 fp (nI (13 - d))) (fun o8 => f_X10_readAll_0 (mS d) tok (nI a) (k' + 1) o8.1.1 o8.1.2 o8.2 (nI (13 - d)) z) else (((nI a, 0), fp))) else (((nI a, 0), fp))) = bd (mS d tok (nI a) (nI a) 0 fp (nI (13 - d))) (fun o5 => f_X10_readAll_0 (mS d) tok (nI a) (k' + 1) o5.1.1 o5.1.2 o5.2 (nI (13 - d)) z) from by
      show (if z = 0 then _ else _) = _
      split <;> rfl]
    exact step
  · have hlt : a < n := by omega
    rw [tokAt_lt hlt hn, has_lt hlt hn, isHere_lt hn hlt, isHere_lt hn hlt]
    simp only [bd, if_neg (show ¬ (1 : Int32) = 0 by decide)] at step ⊢
    by_cases h0 : tok a = 0
    · left
      simp only [if_pos h0, if_neg (show ¬ (1 : Int32) = 0 by decide)]
      exact ⟨N, a, 0, by rw [show nI a + (1 : Int32) = nI (a + 1) from nI_1 a], rfl, hlt, FR.refl _ _ _, rfl, Or.inl h0⟩
    · simp only [if_neg h0, if_true]
      by_cases h4 : tok a = 4
      · by_cases hz0 : z = 0
        · simp only [if_pos h4, if_pos hz0]
          exact step
        · simp only [if_pos h4, if_neg hz0, if_neg (show ¬ (1 : Int32) = 0 by decide)]
          left
          exact ⟨N, a, 0, by rw [show nI a + (1 : Int32) = nI (a + 1) from nI_1 a], rfl, hlt, FR.refl _ _ _, rfl, Or.inr ⟨h4, hz0⟩⟩
      · simp only [if_neg h4, if_true]
        by_cases hz0 : z = 0
        · simp only [if_pos hz0]
          exact step
        · simp only [if_neg hz0]
          exact step
theorem rdA_of {d : Nat} (hn : n ≤ 400) (ih : RdS tok sn stb n d) : RdA tok sn stb n d := fun a m N fp z ha hz => rd_block hn ih m z (n - a) 402 402 0 a N fp ha hz (Nat.le_refl _) (by omega) (by omega) (by omega)
end RDS
