section RDS2
variable {tok sn stb : Nat → Int32} {n : Nat}
theorem nt_eta (N : NT) : (((N.1.1, N.1.2), N.2) : NT) = N := rfl
theorem aSL_congr {w sv stb : Nat → Int32} {N N' : NT} {d m j a b : Nat} (h : nL (aS w sv stb N d m) j a b) (g : Agr N N' a b) : nL (aS w sv stb N' d m) j a b := nL_congr (fun _ _ h => aS_lt h) (fun _ _ h g => aS_congr h g) h g
theorem ifm_of {x y : Int32} {m m' : Nat} (h : x = y) (k : m' = if y = 0 then m else m + 1) : m' = if x = 0 then m else m + 1 := by
  subst h
  exact k
def CcS (tok sn stb : Nat → Int32) (n d a m : Nat) (N : NT) (fp : Int32) : Prop :=
  (∃ (N' : NT) (b : Nat), f_X3_readStatement_40 (rdE d) (rdSs d) tok (nI n) sn stb N.1.1 N.1.2 N.2 (nI a) 0 fp (nI (12 - (d + 1))) (nI m) (nI a) (tok a) 1 = (N', ((nI b, 0), fp)) ∧ f_X10_readS_47 (mE d) (mA d) tok (nI n) (nI a) 0 fp (nI (13 - (d + 1))) (tok a) = ((nI b, 0), fp) ∧ b ≤ n ∧ FR N N' a b ∧ aS tok sn stb N' (d + 1) m a b)
  ∨ (∃ (N' : NT) (nx po f p : Int32), ¬ f = 0 ∧ f_X3_readStatement_40 (rdE d) (rdSs d) tok (nI n) sn stb N.1.1 N.1.2 N.2 (nI a) 0 fp (nI (12 - (d + 1))) (nI m) (nI a) (tok a) 1 = (N', ((nx, f), p)) ∧ f_X10_readS_47 (mE d) (mA d) tok (nI n) (nI a) 0 fp (nI (13 - (d + 1))) (tok a) = ((po, f), p))
set_option maxHeartbeats 1000000 in
theorem rs_1 (hn : n ≤ 400) {d : Nat} (hd : d + 1 ≤ 12) (ihE : RdE tok sn stb n d) (ihA : RdA tok sn stb n d) {a m : Nat} {N : NT} {fp : Int32} (han : a < n) (hz : ZB N a) (t : tok a = 1) : CcS tok sn stb n d a m N fp := by
  unfold CcS
  unfold f_X3_readStatement_40 f_X10_readS_47 f_X3_readStatement_263
  simp only [bd, nt_eta, mb_good hn han hd fp, if_neg (show ¬ (1 : Int32) = 0 by decide), if_pos (show nI (13 - (d + 1)) ≤ (12 : Int32) from nI_le (b := 12) (by omega) (by decide)), show nI a + (1 : Int32) = nI (a + 1) from nI_1 a, dep13 hd, dep_1 hd]
  have hz1 : ZB N (a + 1) := fun i i1 i2 => hz i (by omega) i2
  have hz2 : ZB N (a + 2) := fun i i1 i2 => hz i (by omega) i2
  have hbe1 : a + 1 < 400 → N.1.1 (a + 1) = 0 := fun z => hz (a + 1) (by omega) z
  simp only [if_pos t]
  rcases below_eq (tok := tok) (c := a + 1) (k := 9) hn (by omega) (by decide) 10 9 rfl rfl fp with ⟨hl, hv, w1, w2⟩ | ⟨v, f, p, hf, w1, w2⟩
  · rw [w1, w2]
    simp only
    rcases ihE (a + 2) m N fp (by omega) hz2 with ⟨N', b, S, e1, e2, hb2, hf, hE, hS, hS'⟩ | ⟨S, N', nx, po, f, p, hf, e1, e2⟩
    · left
      have lE := aE_lt hE
      rw [show nI (a + 1 + 1) = nI (a + 2) from rfl, e1, e2]
      simp only
      rw [note_in (N := N') han hn _ _ _ hS]
      refine ⟨_, b, rfl, rfl, hb2, note_fr hf (by omega) (by omega) _ _ _ hS, ?_⟩
      refine ⟨upd_eq _ _ _, upd_eq _ _ _, Or.inl ⟨t, hv, ((upd_ne _ _ (by omega)).trans ((hf.1 (a + 1) (Or.inl (by omega))).1)).trans (hbe1 (by omega)), aE_congr hE (note_agr (by omega) _ _ _), ?_⟩⟩
      simp only
      rw [upd_eq, upd_ne _ _ (show ¬ a + 2 = a by omega), hS']
    · right
      rw [show nI (a + 1 + 1) = nI (a + 2) from rfl, e1, e2]
      exact ⟨_, nx, po, f, p, hf, rfl, rfl⟩
  · rw [w1, w2]
    right
    simp only
    rw [rdE_stop d tok N.1.1 N.1.2 N.2 (nI n) sn stb (nI (a + 1)) p (nI (12 - d)) (nI m) hf, mE_stop d tok (nI n) (nI (a + 1)) p (nI (13 - d)) hf]
    exact ⟨_, _, _, f, p, hf, rfl, rfl⟩
set_option maxHeartbeats 1000000 in
theorem rs_2 (hn : n ≤ 400) {d : Nat} (hd : d + 1 ≤ 12) (ihE : RdE tok sn stb n d) (ihA : RdA tok sn stb n d) {a m : Nat} {N : NT} {fp : Int32} (han : a < n) (hz : ZB N a) (t : tok a = 2) : CcS tok sn stb n d a m N fp := by
  unfold CcS
  unfold f_X3_readStatement_40 f_X10_readS_47 f_X3_readStatement_263
  simp only [bd, nt_eta, mb_good hn han hd fp, if_neg (show ¬ (1 : Int32) = 0 by decide), if_pos (show nI (13 - (d + 1)) ≤ (12 : Int32) from nI_le (b := 12) (by omega) (by decide)), show nI a + (1 : Int32) = nI (a + 1) from nI_1 a, dep13 hd, dep_1 hd]
  have hz1 : ZB N (a + 1) := fun i i1 i2 => hz i (by omega) i2
  have hz2 : ZB N (a + 2) := fun i i1 i2 => hz i (by omega) i2
  have hbe1 : a + 1 < 400 → N.1.1 (a + 1) = 0 := fun z => hz (a + 1) (by omega) z
  have n1 : ¬ tok a = 1 := by rw [t]; decide
  simp only [if_pos t, if_neg n1]
  rcases below_eq (tok := tok) (c := a + 1) (k := 3) hn (by omega) (by decide) 4 3 rfl rfl fp with ⟨hl, hv, w1, w2⟩ | ⟨v, f, p, hf, w1, w2⟩
  · rw [w1, w2]
    simp only
    rw [show nI (a + 1 + 1) = nI (a + 2) from rfl]
    rcases ihE (a + 2) m N fp (by omega) hz2 with ⟨N1, c, S1, e1, e2, hc, hf1, hE1, hS1, hS1'⟩ | ⟨S, N', nx, po, f, p, hf, e1, e2⟩
    · rw [e1, e2]
      simp only
      have l1 := aE_lt hE1
      rcases ihE c m N1 fp hc (hf1.zb (by omega) hz2) with ⟨N', b, S2, e1, e2, hb2, hf, hE, hS2, hS2'⟩ | ⟨S, N', nx, po, f, p, hf, e1, e2⟩
      · left
        have lE := aE_lt hE
        rw [e1, e2]
        simp only
        have hfr : FR N N' (a + 2) b := hf1.trans hf (by omega) (by omega)
        have hE1' : aE tok sn stb N' m d (a + 2) c := aE_congr hE1 (hf.agr (Or.inl (Nat.le_refl _)))
        have hs12 : N'.2 (a + 2) = S1 := ((hf.1 (a + 2) (Or.inl (by omega))).2.2).trans hS1'
        have fin : ∀ S : Int32, (S = 0 ∨ S = 1) → (S = 0 ↔ S1 = 0 ∧ S2 = 0) → ∃ (N'' : NT) (b' : Nat), (f_X2_note N'.1.1 N'.1.2 N'.2 (nI n) (nI a) (nI b) (nI m) S, ((nI b, (0 : Int32)), fp)) = (N'', ((nI b', 0), fp)) ∧ ((nI b, (0 : Int32)), fp) = ((nI b', 0), fp) ∧ b' ≤ n ∧ FR N N'' a b' ∧ aS tok sn stb N'' (d + 1) m a b' := by
          intro S hS hiff
          rw [note_in (N := N') han hn _ _ _ hS]
          refine ⟨_, b, rfl, rfl, hb2, note_fr hfr (by omega) (by omega) _ _ _ hS, ?_⟩
          refine ⟨upd_eq _ _ _, upd_eq _ _ _, Or.inr (Or.inl ⟨t, hv, ((upd_ne _ _ (by omega)).trans ((hfr.1 (a + 1) (Or.inl (by omega))).1)).trans (hbe1 (by omega)), c, aE_congr hE1' (note_agr (by omega) _ _ _), aE_congr hE (note_agr (by omega) _ _ _), ?_⟩)⟩
          simp only
          rw [upd_eq, upd_ne _ _ (show ¬ a + 2 = a by omega), upd_ne _ _ (show ¬ c = a by omega), hs12, hS2']
          exact hiff
        by_cases k1 : S1 = 0
        · by_cases k2 : S2 = 0
          · simp only [if_pos k1, if_pos k2]
            exact fin 0 (Or.inl rfl) ⟨fun _ => ⟨k1, k2⟩, fun _ => rfl⟩
          · simp only [if_pos k1, if_neg k2]
            exact fin 1 (Or.inr rfl) ⟨fun z => absurd z (by decide), fun z => absurd z.2 k2⟩
        · simp only [if_neg k1]
          exact fin 1 (Or.inr rfl) ⟨fun z => absurd z (by decide), fun z => absurd z.1 k1⟩
      · right
        rw [e1, e2]
        simp only
        repeat' split
        all_goals exact ⟨_, nx, po, f, p, hf, rfl, rfl⟩
    · right
      rw [e1, e2]
      simp only
      rw [rdE_stop d tok N'.1.1 N'.1.2 N'.2 (nI n) sn stb nx p (nI (12 - d)) (nI m) hf, mE_stop d tok (nI n) po p (nI (13 - d)) hf]
      simp only
      repeat' split
      all_goals exact ⟨_, nx, po, f, p, hf, rfl, rfl⟩
  · rw [w1, w2]
    right
    simp only
    rw [rdE_stop d tok N.1.1 N.1.2 N.2 (nI n) sn stb (nI (a + 1)) p (nI (12 - d)) (nI m) hf, mE_stop d tok (nI n) (nI (a + 1)) p (nI (13 - d)) hf]
    simp only
    rw [rdE_stop d tok N.1.1 N.1.2 N.2 (nI n) sn stb (nI (a + 1)) p (nI (12 - d)) (nI m) hf, mE_stop d tok (nI n) (nI (a + 1)) p (nI (13 - d)) hf]
    simp only
    repeat' split
    all_goals exact ⟨_, _, _, f, p, hf, rfl, rfl⟩
set_option maxHeartbeats 1000000 in
theorem rs_3 (hn : n ≤ 400) {d : Nat} (hd : d + 1 ≤ 12) (ihE : RdE tok sn stb n d) (ihA : RdA tok sn stb n d) {a m : Nat} {N : NT} {fp : Int32} (han : a < n) (hz : ZB N a) (t : tok a = 3) : CcS tok sn stb n d a m N fp := by
  unfold CcS
  unfold f_X3_readStatement_40 f_X10_readS_47 f_X3_readStatement_263
  simp only [bd, nt_eta, mb_good hn han hd fp, if_neg (show ¬ (1 : Int32) = 0 by decide), if_pos (show nI (13 - (d + 1)) ≤ (12 : Int32) from nI_le (b := 12) (by omega) (by decide)), show nI a + (1 : Int32) = nI (a + 1) from nI_1 a, dep13 hd, dep_1 hd]
  have hz1 : ZB N (a + 1) := fun i i1 i2 => hz i (by omega) i2
  have hz2 : ZB N (a + 2) := fun i i1 i2 => hz i (by omega) i2
  have hbe1 : a + 1 < 400 → N.1.1 (a + 1) = 0 := fun z => hz (a + 1) (by omega) z
  have n1 : ¬ tok a = 1 := by rw [t]; decide
  have n2 : ¬ tok a = 2 := by rw [t]; decide
  have n6 : ¬ tok a = 6 := by rw [t]; decide
  simp only [if_pos t, if_neg n1, if_neg n2, if_neg n6]
  rcases ihE (a + 1) m N fp (by omega) hz1 with ⟨N1, c, S1, e1, e2, hc, hf1, hE1, hS1, hS1'⟩ | ⟨S, N', nx, po, f, p, hf, e1, e2⟩
  · rw [e1, e2]
    simp only
    have l1 := aE_lt hE1
    have hm1 : nI m + (1 : Int32) = nI (m + 1) := nI_1 m
    -- the block, with the masks that hold inside
    have fin : ∀ m' : Nat, m' = (if S1 = 0 then m else m + 1) →
        (∃ (N' : NT) (b : Nat), (if (rdSs d tok N1.1.1 N1.1.2 N1.2 (nI n) sn stb (nI c) 0 fp 1 (nI (12 - d)) (nI m')).1 = 4 then ((fun o21 : Int32 × (NT × ((Int32 × Int32) × Int32)) => ((f_X2_note o21.2.1.1.1 o21.2.1.1.2 o21.2.1.2 (nI n) (nI a) o21.2.2.1.1 (nI m) S1, ((o21.2.2.1.1, o21.2.2.1.2), o21.2.2.2)) : NT × ((Int32 × Int32) × Int32))) (rdSs d tok (rdSs d tok N1.1.1 N1.1.2 N1.2 (nI n) sn stb (nI c) 0 fp 1 (nI (12 - d)) (nI m')).2.1.1.1 (rdSs d tok N1.1.1 N1.1.2 N1.2 (nI n) sn stb (nI c) 0 fp 1 (nI (12 - d)) (nI m')).2.1.1.2 (rdSs d tok N1.1.1 N1.1.2 N1.2 (nI n) sn stb (nI c) 0 fp 1 (nI (12 - d)) (nI m')).2.1.2 (nI n) sn stb (rdSs d tok N1.1.1 N1.1.2 N1.2 (nI n) sn stb (nI c) 0 fp 1 (nI (12 - d)) (nI m')).2.2.1.1 (rdSs d tok N1.1.1 N1.1.2 N1.2 (nI n) sn stb (nI c) 0 fp 1 (nI (12 - d)) (nI m')).2.2.1.2 (rdSs d tok N1.1.1 N1.1.2 N1.2 (nI n) sn stb (nI c) 0 fp 1 (nI (12 - d)) (nI m')).2.2.2 0 (nI (12 - d)) (nI m'))) else ((fun o19 : Int32 × (NT × ((Int32 × Int32) × Int32)) => ((f_X2_note o19.2.1.1.1 o19.2.1.1.2 o19.2.1.2 (nI n) (nI a) o19.2.2.1.1 (nI m) S1, ((o19.2.2.1.1, o19.2.2.1.2), o19.2.2.2)) : NT × ((Int32 × Int32) × Int32))) (rdSs d tok N1.1.1 N1.1.2 N1.2 (nI n) sn stb (nI c) 0 fp 1 (nI (12 - d)) (nI m')))) = (N', ((nI b, 0), fp)) ∧ (if (mA d tok (nI n) (nI c) 0 fp (nI (13 - d)) 1).1.2 = 0 then (if f_X10_isHere tok (nI n) (mA d tok (nI n) (nI c) 0 fp (nI (13 - d)) 1).1.1 4 = 0 then (((f_X10_end tok (nI n) (mA d tok (nI n) (nI c) 0 fp (nI (13 - d)) 1).1.1 (mA d tok (nI n) (nI c) 0 fp (nI (13 - d)) 1).1.2, (mA d tok (nI n) (nI c) 0 fp (nI (13 - d)) 1).1.2), (mA d tok (nI n) (nI c) 0 fp (nI (13 - d)) 1).2) : (Int32 × Int32) × Int32) else ((fun o25 : (Int32 × Int32) × Int32 => (((f_X10_end tok (nI n) o25.1.1 o25.1.2, o25.1.2), o25.2) : (Int32 × Int32) × Int32)) (mA d tok (nI n) ((mA d tok (nI n) (nI c) 0 fp (nI (13 - d)) 1).1.1 + 1) (mA d tok (nI n) (nI c) 0 fp (nI (13 - d)) 1).1.2 (mA d tok (nI n) (nI c) 0 fp (nI (13 - d)) 1).2 (nI (13 - d)) 0))) else (((f_X10_end tok (nI n) (mA d tok (nI n) (nI c) 0 fp (nI (13 - d)) 1).1.1 (mA d tok (nI n) (nI c) 0 fp (nI (13 - d)) 1).1.2, (mA d tok (nI n) (nI c) 0 fp (nI (13 - d)) 1).1.2), (mA d tok (nI n) (nI c) 0 fp (nI (13 - d)) 1).2))) = ((nI b, 0), fp) ∧ b ≤ n ∧ FR N N' a b ∧ aS tok sn stb N' (d + 1) m a b)
        ∨ (∃ (N' : NT) (nx po f p : Int32), ¬ f = 0 ∧ (if (rdSs d tok N1.1.1 N1.1.2 N1.2 (nI n) sn stb (nI c) 0 fp 1 (nI (12 - d)) (nI m')).1 = 4 then ((fun o21 : Int32 × (NT × ((Int32 × Int32) × Int32)) => ((f_X2_note o21.2.1.1.1 o21.2.1.1.2 o21.2.1.2 (nI n) (nI a) o21.2.2.1.1 (nI m) S1, ((o21.2.2.1.1, o21.2.2.1.2), o21.2.2.2)) : NT × ((Int32 × Int32) × Int32))) (rdSs d tok (rdSs d tok N1.1.1 N1.1.2 N1.2 (nI n) sn stb (nI c) 0 fp 1 (nI (12 - d)) (nI m')).2.1.1.1 (rdSs d tok N1.1.1 N1.1.2 N1.2 (nI n) sn stb (nI c) 0 fp 1 (nI (12 - d)) (nI m')).2.1.1.2 (rdSs d tok N1.1.1 N1.1.2 N1.2 (nI n) sn stb (nI c) 0 fp 1 (nI (12 - d)) (nI m')).2.1.2 (nI n) sn stb (rdSs d tok N1.1.1 N1.1.2 N1.2 (nI n) sn stb (nI c) 0 fp 1 (nI (12 - d)) (nI m')).2.2.1.1 (rdSs d tok N1.1.1 N1.1.2 N1.2 (nI n) sn stb (nI c) 0 fp 1 (nI (12 - d)) (nI m')).2.2.1.2 (rdSs d tok N1.1.1 N1.1.2 N1.2 (nI n) sn stb (nI c) 0 fp 1 (nI (12 - d)) (nI m')).2.2.2 0 (nI (12 - d)) (nI m'))) else ((fun o19 : Int32 × (NT × ((Int32 × Int32) × Int32)) => ((f_X2_note o19.2.1.1.1 o19.2.1.1.2 o19.2.1.2 (nI n) (nI a) o19.2.2.1.1 (nI m) S1, ((o19.2.2.1.1, o19.2.2.1.2), o19.2.2.2)) : NT × ((Int32 × Int32) × Int32))) (rdSs d tok N1.1.1 N1.1.2 N1.2 (nI n) sn stb (nI c) 0 fp 1 (nI (12 - d)) (nI m')))) = (N', ((nx, f), p)) ∧ (if (mA d tok (nI n) (nI c) 0 fp (nI (13 - d)) 1).1.2 = 0 then (if f_X10_isHere tok (nI n) (mA d tok (nI n) (nI c) 0 fp (nI (13 - d)) 1).1.1 4 = 0 then (((f_X10_end tok (nI n) (mA d tok (nI n) (nI c) 0 fp (nI (13 - d)) 1).1.1 (mA d tok (nI n) (nI c) 0 fp (nI (13 - d)) 1).1.2, (mA d tok (nI n) (nI c) 0 fp (nI (13 - d)) 1).1.2), (mA d tok (nI n) (nI c) 0 fp (nI (13 - d)) 1).2) : (Int32 × Int32) × Int32) else ((fun o25 : (Int32 × Int32) × Int32 => (((f_X10_end tok (nI n) o25.1.1 o25.1.2, o25.1.2), o25.2) : (Int32 × Int32) × Int32)) (mA d tok (nI n) ((mA d tok (nI n) (nI c) 0 fp (nI (13 - d)) 1).1.1 + 1) (mA d tok (nI n) (nI c) 0 fp (nI (13 - d)) 1).1.2 (mA d tok (nI n) (nI c) 0 fp (nI (13 - d)) 1).2 (nI (13 - d)) 0))) else (((f_X10_end tok (nI n) (mA d tok (nI n) (nI c) 0 fp (nI (13 - d)) 1).1.1 (mA d tok (nI n) (nI c) 0 fp (nI (13 - d)) 1).1.2, (mA d tok (nI n) (nI c) 0 fp (nI (13 - d)) 1).1.2), (mA d tok (nI n) (nI c) 0 fp (nI (13 - d)) 1).2))) = ((po, f), p)) := by
      intro m' hm'
      rcases ihA c m' N1 fp 1 hc (hf1.zb (by omega) hz1) with ⟨N2, e, j, g1, g2, he, hf2, hL, ht⟩ | ⟨N2, nx, po, f, p, hf, g1, g2⟩
      · rw [g1, g2]
        simp only
        have l2 := aSL_le hL
        have hz2' : ZB N2 e := hf2.zb (by omega) (hf1.zb (by omega) hz1)
        rw [isHere_lt hn he]
        simp only [if_true]
        have hE2 : aE tok sn stb N2 m d (a + 1) c := aE_congr hE1 (hf2.agr (Or.inl (Nat.le_refl _)))
        have hS2 : N2.2 (a + 1) = S1 := ((hf2.1 (a + 1) (Or.inl (by omega))).2.2).trans hS1'
        rcases ht with ht | ⟨ht, -⟩
        · have n4 : ¬ tok e = 4 := by rw [ht]; decide
          simp only [if_neg n4, if_true, end_0 hn he ht]
          left
          rw [note_in (N := N2) han hn _ _ _ hS1]
          refine ⟨_, e + 1, rfl, rfl, by omega, note_fr ((hf1.trans hf2 (by omega) (by omega)).wide (Nat.le_refl _) (show e ≤ e + 1 by omega)) (by omega) (by omega) _ _ _ hS1, ?_⟩
          refine ⟨upd_eq _ _ _, upd_eq _ _ _, Or.inr (Or.inr (Or.inl ⟨t, c, e, m', aE_congr hE2 (note_agr (by omega) _ _ _), ?_, ⟨j, aSL_congr hL (note_agr (by omega) _ _ _)⟩, (upd_ne _ _ (by omega)).trans (hz2' e (Nat.le_refl _) (by omega)), Or.inl ⟨ht, rfl⟩⟩))⟩
          exact ifm_of ((upd_ne _ _ (by omega)).trans hS2) hm'
        · simp only [if_pos ht, if_neg (show ¬ (1 : Int32) = 0 by decide), show nI e + (1 : Int32) = nI (e + 1) from nI_1 e]
          rcases ihA (e + 1) m' N2 fp 0 (by omega) (fun i i1 i2 => hz2' i (by omega) i2) with ⟨N3, f, j', q1, q2, hfn, hf3, hL3, ht3⟩ | ⟨N3, nx, po, f, p, hf, q1, q2⟩
          · rw [q1, q2]
            simp only
            have l3 := aSL_le hL3
            have ht0 : tok f = 0 := ht3.elim id (fun z => absurd rfl z.2)
            have hz3 : ZB N3 f := hf3.zb (by omega) (fun i i1 i2 => hz2' i (by omega) i2)
            left
            rw [end_0 hn hfn ht0, note_in (N := N3) han hn _ _ _ hS1]
            have hf3' : FR N2 N3 e f := hf3.wide (by omega) (Nat.le_refl _)
            refine ⟨_, f + 1, rfl, rfl, by omega, note_fr (((hf1.trans hf2 (by omega) (by omega)).trans hf3' (by omega) (by omega)).wide (Nat.le_refl _) (show f ≤ f + 1 by omega)) (by omega) (by omega) _ _ _ hS1, ?_⟩
            refine ⟨upd_eq _ _ _, upd_eq _ _ _, Or.inr (Or.inr (Or.inl ⟨t, c, e, m', aE_congr (aE_congr hE2 (hf3.agr (Or.inl (by omega)))) (note_agr (by omega) _ _ _), ?_, ⟨j, aSL_congr (aSL_congr hL (hf3.agr (Or.inl (by omega)))) (note_agr (by omega) _ _ _)⟩, ((upd_ne _ _ (by omega)).trans ((hf3.1 e (Or.inl (by omega))).1)).trans (hz2' e (Nat.le_refl _) (by omega)), Or.inr ⟨ht, f, ⟨j', aSL_congr hL3 (note_agr (by omega) _ _ _)⟩, (upd_ne _ _ (by omega)).trans (hz3 f (Nat.le_refl _) (by omega)), ht0, rfl⟩⟩))⟩
            exact ifm_of (((upd_ne _ _ (by omega)).trans (hf3.1 (a + 1) (Or.inl (by omega))).2.2).trans hS2) hm'
          · rw [q1, q2]
            simp only [end_stop (nI n) po hf]
            right
            exact ⟨_, nx, po, f, p, hf, rfl, rfl⟩
      · rw [g1, g2]
        simp only [if_neg (show ¬ (0 : Int32) = 4 by decide), if_neg hf, end_stop (nI n) po hf]
        right
        exact ⟨_, nx, po, f, p, hf, rfl, rfl⟩
    by_cases k1 : S1 = 0
    · simp only [if_pos k1]
      exact fin m (by rw [if_pos k1])
    · simp only [if_neg k1, hm1]
      exact fin (m + 1) (by rw [if_neg k1])
  · right
    rw [e1, e2]
    simp only
    rw [mA_stop d (nI n) po p (nI (13 - d)) 1 hf]
    simp only [rdSs_stop d N'.1.1 N'.1.2 N'.2 (nI n) nx p 1 (nI (12 - d)) _ hf, if_neg hf, end_stop (nI n) po hf, if_neg (show ¬ (0 : Int32) = 4 by decide)]
    split
    all_goals exact ⟨_, nx, po, f, p, hf, rfl, rfl⟩
set_option maxHeartbeats 1000000 in
theorem rs_5 (hn : n ≤ 400) {d : Nat} (hd : d + 1 ≤ 12) (ihE : RdE tok sn stb n d) (ihA : RdA tok sn stb n d) {a m : Nat} {N : NT} {fp : Int32} (han : a < n) (hz : ZB N a) (t : tok a = 5) : CcS tok sn stb n d a m N fp := by
  unfold CcS
  unfold f_X3_readStatement_40 f_X10_readS_47 f_X3_readStatement_263
  simp only [bd, nt_eta, mb_good hn han hd fp, if_neg (show ¬ (1 : Int32) = 0 by decide), if_pos (show nI (13 - (d + 1)) ≤ (12 : Int32) from nI_le (b := 12) (by omega) (by decide)), show nI a + (1 : Int32) = nI (a + 1) from nI_1 a, dep13 hd, dep_1 hd]
  have hz1 : ZB N (a + 1) := fun i i1 i2 => hz i (by omega) i2
  have hz2 : ZB N (a + 2) := fun i i1 i2 => hz i (by omega) i2
  have hbe1 : a + 1 < 400 → N.1.1 (a + 1) = 0 := fun z => hz (a + 1) (by omega) z
  have n1 : ¬ tok a = 1 := by rw [t]; decide
  have n2 : ¬ tok a = 2 := by rw [t]; decide
  have n3 : ¬ tok a = 3 := by rw [t]; decide
  have n4 : ¬ tok a = 4 := by rw [t]; decide
  have n6 : ¬ tok a = 6 := by rw [t]; decide
  simp only [if_pos t, if_neg n1, if_neg n2, if_neg n3, if_neg n4, if_neg n6]
  rcases ihE (a + 1) m N fp (by omega) hz1 with ⟨N1, c, S1, e1, e2, hc, hf1, hE1, hS1, hS1'⟩ | ⟨S, N', nx, po, f, p, hf, e1, e2⟩
  · rw [e1, e2]
    simp only
    have l1 := aE_lt hE1
    rcases ihA c m N1 fp 0 hc (hf1.zb (by omega) hz1) with ⟨N2, e, j, g1, g2, he, hf2, hL, ht⟩ | ⟨N2, nx, po, f, p, hf, g1, g2⟩
    · rw [g1, g2]
      simp only
      have l2 := aSL_le hL
      have hz2' : ZB N2 e := hf2.zb (by omega) (hf1.zb (by omega) hz1)
      have ht0 : tok e = 0 := ht.elim id (fun z => absurd rfl z.2)
      have hS2 : N2.2 (a + 1) = S1 := ((hf2.1 (a + 1) (Or.inl (by omega))).2.2).trans hS1'
      left
      rw [end_0 hn he ht0, note_in (N := N2) han hn _ _ _ hS1]
      refine ⟨_, e + 1, rfl, rfl, by omega, note_fr ((hf1.trans hf2 (by omega) (by omega)).wide (Nat.le_refl _) (show e ≤ e + 1 by omega)) (by omega) (by omega) _ _ _ hS1, ?_⟩
      refine ⟨upd_eq _ _ _, upd_eq _ _ _, Or.inr (Or.inr (Or.inr (Or.inl ⟨t, c, e, aE_congr (aE_congr hE1 (hf2.agr (Or.inl (Nat.le_refl _)))) (note_agr (by omega) _ _ _), ?_, ⟨j, aSL_congr hL (note_agr (by omega) _ _ _)⟩, (upd_ne _ _ (by omega)).trans (hz2' e (Nat.le_refl _) (by omega)), ht0, rfl⟩)))⟩
      simp only
      rw [upd_eq, upd_ne _ _ (show ¬ a + 1 = a by omega), hS2]
    · rw [g1, g2]
      simp only [end_stop (nI n) po hf]
      right
      exact ⟨_, nx, po, f, p, hf, rfl, rfl⟩
  · right
    rw [e1, e2]
    simp only
    rw [mA_stop d (nI n) po p (nI (13 - d)) 0 hf]
    simp only [rdSs_stop d N'.1.1 N'.1.2 N'.2 (nI n) nx p 0 (nI (12 - d)) _ hf, end_stop (nI n) po hf]
    exact ⟨_, nx, po, f, p, hf, rfl, rfl⟩
set_option maxHeartbeats 1000000 in
theorem rs_6 (hn : n ≤ 400) {d : Nat} (hd : d + 1 ≤ 12) (ihE : RdE tok sn stb n d) (ihA : RdA tok sn stb n d) {a m : Nat} {N : NT} {fp : Int32} (han : a < n) (hz : ZB N a) (t : tok a = 6) : CcS tok sn stb n d a m N fp := by
  unfold CcS
  unfold f_X3_readStatement_40 f_X10_readS_47 f_X3_readStatement_263
  simp only [bd, nt_eta, mb_good hn han hd fp, if_neg (show ¬ (1 : Int32) = 0 by decide), if_pos (show nI (13 - (d + 1)) ≤ (12 : Int32) from nI_le (b := 12) (by omega) (by decide)), show nI a + (1 : Int32) = nI (a + 1) from nI_1 a, dep13 hd, dep_1 hd]
  have hz1 : ZB N (a + 1) := fun i i1 i2 => hz i (by omega) i2
  have hz2 : ZB N (a + 2) := fun i i1 i2 => hz i (by omega) i2
  have hbe1 : a + 1 < 400 → N.1.1 (a + 1) = 0 := fun z => hz (a + 1) (by omega) z
  have n1 : ¬ tok a = 1 := by rw [t]; decide
  have n2 : ¬ tok a = 2 := by rw [t]; decide
  have n3 : ¬ tok a = 3 := by rw [t]; decide
  have n4 : ¬ tok a = 4 := by rw [t]; decide
  have n5 : ¬ tok a = 5 := by rw [t]; decide
  simp only [if_pos t, if_neg n1, if_neg n2, if_neg n3, if_neg n4, if_neg n5]
  rcases below_eq (tok := tok) (c := a + 1) (k := 20) hn (by omega) (by decide) 21 20 rfl rfl fp with ⟨hl, hv, w1, w2⟩ | ⟨v, f, p, hf, w1, w2⟩
  · rw [w1, w2]
    simp only
    rw [show nI (a + 1 + 1) = nI (a + 2) from rfl]
    rcases ihA (a + 2) m N fp 0 (by omega) hz2 with ⟨N2, e, j, g1, g2, he, hf2, hL, ht⟩ | ⟨N2, nx, po, f, p, hf, g1, g2⟩
    · rw [g1, g2]
      simp only
      have l2 := aSL_le hL
      have hz2' : ZB N2 e := hf2.zb (by omega) hz2
      have ht0 : tok e = 0 := ht.elim id (fun z => absurd rfl z.2)
      left
      rw [end_0 hn he ht0, note_in (N := N2) han hn _ _ _ (Or.inl rfl)]
      refine ⟨_, e + 1, rfl, rfl, by omega, note_fr (hf2.wide (Nat.le_refl _) (show e ≤ e + 1 by omega)) (by omega) (by omega) _ _ _ (Or.inl rfl), ?_⟩
      exact ⟨upd_eq _ _ _, upd_eq _ _ _, Or.inr (Or.inr (Or.inr (Or.inr (Or.inl ⟨t, hv, ((upd_ne _ _ (by omega)).trans ((hf2.1 (a + 1) (Or.inl (by omega))).1)).trans (hbe1 (by omega)), e, ⟨j, aSL_congr hL (note_agr (by omega) _ _ _)⟩, (upd_ne _ _ (by omega)).trans (hz2' e (Nat.le_refl _) (by omega)), ht0, rfl⟩))))⟩
    · rw [g1, g2]
      simp only [end_stop (nI n) po hf]
      right
      exact ⟨_, nx, po, f, p, hf, rfl, rfl⟩
  · rw [w1, w2]
    right
    simp only
    rw [mA_stop d (nI n) (nI (a + 1)) p (nI (13 - d)) 0 hf]
    simp only [rdSs_stop d N.1.1 N.1.2 N.2 (nI n) (nI (a + 1)) p 0 (nI (12 - d)) _ hf, end_stop (nI n) (nI (a + 1)) hf]
    exact ⟨_, _, _, f, p, hf, rfl, rfl⟩
set_option maxHeartbeats 1000000 in
theorem rs_7 (hn : n ≤ 400) {d : Nat} (hd : d + 1 ≤ 12) (ihE : RdE tok sn stb n d) (ihA : RdA tok sn stb n d) {a m : Nat} {N : NT} {fp : Int32} (han : a < n) (hz : ZB N a) (t : tok a = 7) : CcS tok sn stb n d a m N fp := by
  unfold CcS
  unfold f_X3_readStatement_40 f_X10_readS_47 f_X3_readStatement_263
  simp only [bd, nt_eta, mb_good hn han hd fp, if_neg (show ¬ (1 : Int32) = 0 by decide), if_pos (show nI (13 - (d + 1)) ≤ (12 : Int32) from nI_le (b := 12) (by omega) (by decide)), show nI a + (1 : Int32) = nI (a + 1) from nI_1 a, dep13 hd, dep_1 hd]
  have hz1 : ZB N (a + 1) := fun i i1 i2 => hz i (by omega) i2
  have hz2 : ZB N (a + 2) := fun i i1 i2 => hz i (by omega) i2
  have hbe1 : a + 1 < 400 → N.1.1 (a + 1) = 0 := fun z => hz (a + 1) (by omega) z
  have n1 : ¬ tok a = 1 := by rw [t]; decide
  have n2 : ¬ tok a = 2 := by rw [t]; decide
  have n3 : ¬ tok a = 3 := by rw [t]; decide
  have n4 : ¬ tok a = 4 := by rw [t]; decide
  have n5 : ¬ tok a = 5 := by rw [t]; decide
  have n6 : ¬ tok a = 6 := by rw [t]; decide
  simp only [if_neg n1, if_neg n2, if_neg n3, if_neg n4, if_neg n5, if_neg n6]
  rcases ihE (a + 1) m N fp (by omega) hz1 with ⟨N', b, S, e1, e2, hb2, hf, hE, hS, hS'⟩ | ⟨S, N', nx, po, f, p, hf, e1, e2⟩
  · left
    have lE := aE_lt hE
    rw [e1, e2]
    simp only
    rw [note_in (N := N') han hn _ _ _ hS]
    refine ⟨_, b, rfl, rfl, hb2, note_fr hf (by omega) (by omega) _ _ _ hS, ?_⟩
    refine ⟨upd_eq _ _ _, upd_eq _ _ _, Or.inr (Or.inr (Or.inr (Or.inr (Or.inr ⟨t, aE_congr hE (note_agr (by omega) _ _ _), ?_⟩))))⟩
    simp only
    rw [upd_eq, upd_ne _ _ (show ¬ a + 1 = a by omega), hS']
  · right
    rw [e1, e2]
    exact ⟨_, nx, po, f, p, hf, rfl, rfl⟩
def rA0 : TrA := fun _ beh msk sec _ _ _ next fault fplace _ _ _ => (0, (((beh, msk), sec), ((next, fault), fplace)))
def qE0 : TRd := fun _ _ pos fault plc _ => ((pos, fault), plc)
def qA0 : TRa := fun _ _ pos fault plc _ _ => ((pos, fault), plc)
theorem rdS_z : rdS 0 = f_X3_readStatement rE0 rA0 := rfl
theorem mS_z : mS 0 = f_X10_readS qE0 qA0 := rfl
theorem rdS_s (d : Nat) : rdS (d + 1) = f_X3_readStatement (rdE d) (rdSs d) := rfl
theorem mS_s (d : Nat) : mS (d + 1) = f_X10_readS (mE d) (mA d) := rfl
theorem rdS_bad (rE : TrE) (rSs : TrA) (qE : TRd) (qA : TRa) {a : Nat} (hn : n ≤ 400) (ha : a ≤ n) (h : a < n → ¬ (tok a = 1 ∨ tok a = 2 ∨ tok a = 3 ∨ tok a = 5 ∨ tok a = 6 ∨ tok a = 7)) (N : NT) (fp y1 y2 z1 : Int32) : ∃ (N' : NT) (nx po f p : Int32), ¬ f = 0 ∧ f_X3_readStatement rE rSs tok N.1.1 N.1.2 N.2 (nI n) sn stb (nI a) 0 fp y1 y2 = (N', ((nx, f), p)) ∧ f_X10_readS qE qA tok (nI n) (nI a) 0 fp z1 = ((po, f), p) := by
  obtain ⟨e1, e2⟩ := rS_bad (sn := sn) (stb := stb) rE rSs qE qA hn ha h N fp y1 y2 z1
  exact ⟨N, nI a, nI a, -11, nI a, by decide, e1, e2⟩
theorem rdS_deep (rE : TrE) (rSs : TrA) (qE : TRd) (qA : TRa) {a : Nat} (hn : n ≤ 400) (ha : a < n) (h : tok a = 1 ∨ tok a = 2 ∨ tok a = 3 ∨ tok a = 5 ∨ tok a = 6 ∨ tok a = 7) (N : NT) (fp y2 : Int32) : ∃ (N' : NT) (nx po f p : Int32), ¬ f = 0 ∧ f_X3_readStatement rE rSs tok N.1.1 N.1.2 N.2 (nI n) sn stb (nI a) 0 fp (nI 12) y2 = (N', ((nx, f), p)) ∧ f_X10_readS qE qA tok (nI n) (nI a) 0 fp (nI 13) = ((po, f), p) := by
  obtain ⟨e1, e2⟩ := rS_head (sn := sn) (stb := stb) rE rSs qE qA hn ha h N fp (nI 12) y2 (nI 13)
  refine ⟨N, nI a, nI a, -13, nI a, by decide, Eq.trans e1 ?_, Eq.trans e2 ?_⟩
  · unfold f_X3_readStatement_40 f_X3_mayBegin f_X3_blame
    simp only [bd]
    rw [has_lt ha hn]
    simp only [if_neg (show ¬ (1 : Int32) = 0 by decide), if_neg (show ¬ nI 12 < (12 : Int32) by decide), if_true, if_neg (show ¬ (-13 : Int32) = 0 by decide)]
  · unfold f_X10_readS_47 f_X10_fail
    simp only [bd, if_true, if_neg (show ¬ nI 13 ≤ (12 : Int32) by decide)]
theorem rdS_0 (hn : n ≤ 400) : RdS tok sn stb n 0 := by
  intro a m N fp ha hz
  right
  rw [rdS_z, mS_z]
  by_cases hb : a < n → ¬ (tok a = 1 ∨ tok a = 2 ∨ tok a = 3 ∨ tok a = 5 ∨ tok a = 6 ∨ tok a = 7)
  · exact rdS_bad _ _ _ _ hn ha hb N fp _ _ _
  · have han : a < n := Classical.byContradiction fun z => hb (fun y => absurd y z)
    have ht := Classical.byContradiction fun z => hb fun _ => z
    exact rdS_deep _ _ _ _ hn han ht N fp _
theorem rdS_1 (hn : n ≤ 400) {d : Nat} (hd : d + 1 ≤ 12) (ihE : RdE tok sn stb n d) (ihA : RdA tok sn stb n d) : RdS tok sn stb n (d + 1) := by
  intro a m N fp ha hz
  rw [rdS_s, mS_s]
  by_cases hb : a < n → ¬ (tok a = 1 ∨ tok a = 2 ∨ tok a = 3 ∨ tok a = 5 ∨ tok a = 6 ∨ tok a = 7)
  · exact Or.inr (rdS_bad _ _ _ _ hn ha hb N fp _ _ _)
  · have han : a < n := Classical.byContradiction fun z => hb (fun y => absurd y z)
    have ht := Classical.byContradiction fun z => hb fun _ => z
    obtain ⟨e1, e2⟩ := rS_head (sn := sn) (stb := stb) (rdE d) (rdSs d) (mE d) (mA d) hn han ht N fp (nI (12 - (d + 1))) (nI m) (nI (13 - (d + 1)))
    rw [e1, e2]
    rcases ht with t | t | t | t | t | t
    · exact rs_1 hn hd ihE ihA han hz t
    · exact rs_2 hn hd ihE ihA han hz t
    · exact rs_3 hn hd ihE ihA han hz t
    · exact rs_5 hn hd ihE ihA han hz t
    · exact rs_6 hn hd ihE ihA han hz t
    · exact rs_7 hn hd ihE ihA han hz t
theorem rdS_eq (hn : n ≤ 400) : ∀ d, d ≤ 12 → RdS tok sn stb n d := by
  intro d
  induction d with
  | zero => intro _; exact rdS_0 hn
  | succ d ih => intro hd; exact rdS_1 hn hd (rdE_eq hn d (by omega)) (rdA_of hn (ih (by omega)))
end RDS2
