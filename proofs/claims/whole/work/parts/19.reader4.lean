def rdE : Nat → (Nat → Int32) → (Nat → Int32) → (Nat → Int32) → (Nat → Int32) → Int32 → (Nat → Int32) → (Nat → Int32) → Int32 → Int32 → Int32 → Int32 → Int32 → Int32 × ((((Nat → Int32) × (Nat → Int32)) × (Nat → Int32)) × ((Int32 × Int32) × Int32))
  | 0 => f_X3_readExpression (fun tok beh msk sec siz sn stb next fault fplace _ _ => (0, (((beh, msk), sec), ((next, fault), fplace))))
  | d + 1 => f_X3_readExpression (rdE d)
def rdS : Nat → (Nat → Int32) → (Nat → Int32) → (Nat → Int32) → (Nat → Int32) → Int32 → (Nat → Int32) → (Nat → Int32) → Int32 → Int32 → Int32 → Int32 → Int32 → ((((Nat → Int32) × (Nat → Int32)) × (Nat → Int32)) × ((Int32 × Int32) × Int32))
  | 0 => f_X3_readStatement (fun tok beh msk sec siz sn stb next fault fplace _ _ => (0, (((beh, msk), sec), ((next, fault), fplace)))) (fun tok beh msk sec siz sn stb next fault fplace _ _ _ => (0, (((beh, msk), sec), ((next, fault), fplace))))
  | d + 1 => f_X3_readStatement (rdE d) (f_X3_readStatements (rdS d))
def rdSs (d : Nat) : (Nat → Int32) → (Nat → Int32) → (Nat → Int32) → (Nat → Int32) → Int32 → (Nat → Int32) → (Nat → Int32) → Int32 → Int32 → Int32 → Int32 → Int32 → Int32 → Int32 × ((((Nat → Int32) × (Nat → Int32)) × (Nat → Int32)) × ((Int32 × Int32) × Int32)) := f_X3_readStatements (rdS d)
theorem dep_s {d : Nat} (h : d + 1 ≤ 12) {y : Int32} (hy : y = nI (12 - (d + 1))) : y + (1 : Int32) = nI (12 - d) := by
  subst hy
  rw [nI_1]
  congr 1
  omega
theorem dep_0 {y : Int32} (hy : y = nI (12 - 0)) : (12 : Int32) ≤ y := by subst hy; decide
theorem k_rdE (l : Launch) (g : GG) (h : Nat) (x : Nat → Nat) (q : Nat → Nat) : ∀ (d : Nat), d ≤ 12 → ∀ (tok : Nat → Int32) (beh : Nat → Int32) (msk : Nat → Int32) (sec : Nat → Int32) (siz : Int32) (num : Nat → Int32) (sn : Nat → Int32) (cel : Nat → Int32) (szs : Nat → Int32) (stb : Nat → Int32) (next : Int32) (fault : Int32) (fplace : Int32) (y1 y2 : Int32), y1 = nI (12 - d) → CI l g yX3_readExpression cX3_readExpression 8 (some .boolean) (rmN (d + 6)) (w_Reader h x q g) [.ref h, .int y1, .int y2] ((((tok, beh), (msk, sec)), ((siz, num), sn)), (((cel, szs), stb), ((next, fault), fplace))) (rb_X3_readExpression ((((tok, beh), (msk, sec)), ((siz, num), sn)), (((cel, szs), stb), ((next, fault), fplace))) (rdE d tok beh msk sec siz sn stb next fault fplace y1 y2)) := by
  intro d
  induction d with
  | zero =>
    intro _ tok beh msk sec siz num sn cel szs stb next fault fplace y1 y2 hy
    exact c_X3_readExpression l g h x q tok beh msk sec siz num sn cel szs stb next fault fplace _ y1 y2 (fun _ => False) 6 0 (by omega) (fun tok beh msk sec siz num sn cel szs stb next fault fplace y1 y2 hf => hf.elim) (fun hn => hn (dep_0 hy))
  | succ d ih =>
    intro hd tok beh msk sec siz num sn cel szs stb next fault fplace y1 y2 hy
    exact c_X3_readExpression l g h x q tok beh msk sec siz num sn cel szs stb next fault fplace (rdE d) y1 y2 (fun z => z = nI (12 - d)) (d + 1 + 6) (d + 6) (by omega) (fun tok beh msk sec siz num sn cel szs stb next fault fplace y1 y2 hz => ih (by omega) tok beh msk sec siz num sn cel szs stb next fault fplace y1 y2 hz) (fun _ => dep_s hd hy)
theorem k_rdS (l : Launch) (g : GG) (h : Nat) (x : Nat → Nat) (q : Nat → Nat) : ∀ (d : Nat), d ≤ 12 → ∀ (tok : Nat → Int32) (beh : Nat → Int32) (msk : Nat → Int32) (sec : Nat → Int32) (siz : Int32) (num : Nat → Int32) (sn : Nat → Int32) (cel : Nat → Int32) (szs : Nat → Int32) (stb : Nat → Int32) (next : Int32) (fault : Int32) (fplace : Int32) (y1 y2 : Int32), y1 = nI (12 - d) → CV l g yX3_readStatement cX3_readStatement 9 none (rmN (2 * d + 8)) (w_Reader h x q g) [.ref h, .int y1, .int y2] ((((tok, beh), (msk, sec)), ((siz, num), sn)), (((cel, szs), stb), ((next, fault), fplace))) (rb_X3_readStatement ((((tok, beh), (msk, sec)), ((siz, num), sn)), (((cel, szs), stb), ((next, fault), fplace))) (rdS d tok beh msk sec siz sn stb next fault fplace y1 y2)) := by
  intro d
  induction d with
  | zero =>
    intro _ tok beh msk sec siz num sn cel szs stb next fault fplace y1 y2 hy
    exact c_X3_readStatement l g h x q tok beh msk sec siz num sn cel szs stb next fault fplace _ _ y1 y2 (fun _ => False) (fun _ => False) 8 0 0 (by omega) (fun tok beh msk sec siz num sn cel szs stb next fault fplace y1 y2 hf => hf.elim) (fun tok beh msk sec siz num sn cel szs stb next fault fplace y1 y2 y3 hf => hf.elim) (fun hn => absurd (dep_0 hy) hn)
  | succ d ih =>
    intro hd tok beh msk sec siz num sn cel szs stb next fault fplace y1 y2 hy
    exact c_X3_readStatement l g h x q tok beh msk sec siz num sn cel szs stb next fault fplace (rdE d) (rdSs d) y1 y2 (fun z => z = nI (12 - d)) (fun z => z = nI (12 - d)) (2 * (d + 1) + 8) (d + 6) (2 * d + 9) (by omega) (fun tok beh msk sec siz num sn cel szs stb next fault fplace y1 y2 hz => k_rdE l g h x q d (by omega) tok beh msk sec siz num sn cel szs stb next fault fplace y1 y2 hz) (fun tok beh msk sec siz num sn cel szs stb next fault fplace y1 y2 y3 hz => c_X3_readStatements l g h x q tok beh msk sec siz num sn cel szs stb next fault fplace (rdS d) y1 y2 y3 (fun z => z = nI (12 - d)) (2 * d + 9) (2 * d + 8) (by omega) (fun tok beh msk sec siz num sn cel szs stb next fault fplace y1 y2 hz => ih (by omega) tok beh msk sec siz num sn cel szs stb next fault fplace y1 y2 hz) hz) (fun _ => ⟨dep_s hd hy, dep_s hd hy⟩)
theorem k_rdSs (l : Launch) (g : GG) (h : Nat) (x : Nat → Nat) (q : Nat → Nat) : ∀ (d : Nat), d ≤ 12 → ∀ (tok : Nat → Int32) (beh : Nat → Int32) (msk : Nat → Int32) (sec : Nat → Int32) (siz : Int32) (num : Nat → Int32) (sn : Nat → Int32) (cel : Nat → Int32) (szs : Nat → Int32) (stb : Nat → Int32) (next : Int32) (fault : Int32) (fplace : Int32) (y1 y2 y3 : Int32), y2 = nI (12 - d) → CI l g yX3_readStatements cX3_readStatements 6 (some .int) (rmN (2 * d + 9)) (w_Reader h x q g) [.ref h, .int y1, .int y2, .int y3] ((((tok, beh), (msk, sec)), ((siz, num), sn)), (((cel, szs), stb), ((next, fault), fplace))) (rb_X3_readStatements ((((tok, beh), (msk, sec)), ((siz, num), sn)), (((cel, szs), stb), ((next, fault), fplace))) (rdSs d tok beh msk sec siz sn stb next fault fplace y1 y2 y3)) := by
  intro d hd tok beh msk sec siz num sn cel szs stb next fault fplace y1 y2 y3 hy
  exact c_X3_readStatements l g h x q tok beh msk sec siz num sn cel szs stb next fault fplace (rdS d) y1 y2 y3 (fun z => z = nI (12 - d)) (2 * d + 9) (2 * d + 8) (by omega) (fun tok beh msk sec siz num sn cel szs stb next fault fplace y1 y2 hz => k_rdS l g h x q d hd tok beh msk sec siz num sn cel szs stb next fault fplace y1 y2 hz) hy
def f_X3_findFault (tok : Nat → Int32) (beh : Nat → Int32) (msk : Nat → Int32) (sec : Nat → Int32) (siz : Int32) (sn : Nat → Int32) (stb : Nat → Int32) (next : Int32) (fault : Int32) (fplace : Int32) : Int32 × ((((Nat → Int32) × (Nat → Int32)) × (Nat → Int32)) × ((Int32 × Int32) × Int32)) := bd (rdSs 12 tok beh msk sec siz sn stb (0 : Int32) (0 : Int32) (-1 : Int32) (0 : Int32) (0 : Int32) (0 : Int32)) (fun o1 => if o1.2.2.1.2 = 0 then bd (f_X2_has siz o1.2.2.1.1) (fun o4 => if o4 = 0 then bd (f_X3_findLeak tok o1.2.1.1.1 o1.2.1.1.2 o1.2.1.2 siz sn stb o1.2.2.1.2 o1.2.2.2) (fun o7 => (o7.1, (((o1.2.1.1.1, o1.2.1.1.2), o1.2.1.2), ((o1.2.2.1.1, o7.1), o7.2)))) else bd (f_X3_blame o1.2.2.1.2 o1.2.2.2 (-11 : Int32) o1.2.2.1.1) (fun o8 => if o8.1 = 0 then bd (f_X3_findLeak tok o1.2.1.1.1 o1.2.1.1.2 o1.2.1.2 siz sn stb o8.1 o8.2) (fun o10 => (o10.1, (((o1.2.1.1.1, o1.2.1.1.2), o1.2.1.2), ((o1.2.2.1.1, o10.1), o10.2)))) else (o8.1, (((o1.2.1.1.1, o1.2.1.1.2), o1.2.1.2), ((o1.2.2.1.1, o8.1), o8.2))))) else (o1.2.2.1.2, (((o1.2.1.1.1, o1.2.1.1.2), o1.2.1.2), ((o1.2.2.1.1, o1.2.2.1.2), o1.2.2.2))))
def rb_X3_findFault (σ : S_Reader) (o : Int32 × ((((Nat → Int32) × (Nat → Int32)) × (Nat → Int32)) × ((Int32 × Int32) × Int32))) : Int32 × S_Reader := (o.1, ((((σ.1.1.1.1, o.2.1.1.1), (o.2.1.1.2, o.2.1.2)), ((σ.1.2.1.1, σ.1.2.1.2), σ.1.2.2)), (((σ.2.1.1.1, σ.2.1.1.2), σ.2.1.2), ((o.2.2.1.1, o.2.2.1.2), o.2.2.2))))
set_option maxHeartbeats 4000000 in
set_option maxRecDepth 100000 in
theorem c_X3_findFault (l : Launch) (g : GG) (h : Nat) (x : Nat → Nat) (q : Nat → Nat) (tok : Nat → Int32) (beh : Nat → Int32) (msk : Nat → Int32) (sec : Nat → Int32) (siz : Int32) (num : Nat → Int32) (sn : Nat → Int32) (cel : Nat → Int32) (szs : Nat → Int32) (stb : Nat → Int32) (next : Int32) (fault : Int32) (fplace : Int32) : CI l g yX3_findFault cX3_findFault 1 (some .int) (rmN 34) (w_Reader h x q g) [.ref h] ((((tok, beh), (msk, sec)), ((siz, num), sn)), (((cel, szs), stb), ((next, fault), fplace))) (rb_X3_findFault ((((tok, beh), (msk, sec)), ((siz, num), sn)), (((cel, szs), stb), ((next, fault), fplace))) (f_X3_findFault tok beh msk sec siz sn stb next fault fplace)) := by
  refine CI.mk (by decide) (Nat.le_of_ble_eq_true rfl) ?_
  intro p e s m below meth c A ls hI hw hl
  have hx := hI.1
  have hb := hI.2.1
  obtain ⟨r, hr⟩ : ∃ r, r = rb_X3_findFault ((((tok, beh), (msk, sec)), ((siz, num), sn)), (((cel, szs), stb), ((next, fault), fplace))) (f_X3_findFault tok beh msk sec siz sn stb next fault fplace) := ⟨_, rfl⟩
  rw [← hr]
  have hl : lv_has ls 1 [(0, .ref h)] := hl
  refine lv_aload_n hx hb dX3_findFault_0 rfl (lv_at hl 0 rfl) ?_
  refine lv_iconst (v := (0 : Int32)) hx hb dX3_findFault_1 (by decide) ?_
  refine hI.put hw fp_X3_23 rfl 0 rfl rfl rfl (Nat.le_of_ble_eq_true rfl) dX3_findFault_2 (fun H locs hw => ?_)
  have hw : Wd g A s (w_Reader h x q g ((((tok, beh), (msk, sec)), ((siz, num), sn)), (((cel, szs), stb), (((0 : Int32), fault), fplace)))) H locs := hw
  refine lv_aload_n hx hb dX3_findFault_5 rfl (lv_at hl 0 rfl) ?_
  refine lv_iconst (v := (0 : Int32)) hx hb dX3_findFault_6 (by decide) ?_
  refine hI.put hw fp_X3_26 rfl 0 rfl rfl rfl (Nat.le_of_ble_eq_true rfl) dX3_findFault_7 (fun H locs hw => ?_)
  have hw : Wd g A s (w_Reader h x q g ((((tok, beh), (msk, sec)), ((siz, num), sn)), (((cel, szs), stb), (((0 : Int32), (0 : Int32)), fplace)))) H locs := hw
  refine lv_aload_n hx hb dX3_findFault_10 rfl (lv_at hl 0 rfl) ?_
  refine lv_iconst (v := (-1 : Int32)) hx hb dX3_findFault_11 (by decide) ?_
  refine hI.put hw fp_X3_19 rfl 0 rfl rfl rfl (Nat.le_of_ble_eq_true rfl) dX3_findFault_12 (fun H locs hw => ?_)
  have hw : Wd g A s (w_Reader h x q g ((((tok, beh), (msk, sec)), ((siz, num), sn)), (((cel, szs), stb), (((0 : Int32), (0 : Int32)), (-1 : Int32))))) H locs := hw
  refine lv_aload_n hx hb dX3_findFault_15 rfl (lv_at hl 0 rfl) ?_
  refine lv_iconst (v := (0 : Int32)) hx hb dX3_findFault_16 (by decide) ?_
  refine lv_iconst (v := (0 : Int32)) hx hb dX3_findFault_17 (by decide) ?_
  refine lv_iconst (v := (0 : Int32)) hx hb dX3_findFault_18 (by decide) ?_
  obtain ⟨o1, ho1⟩ : ∃ o, o = rdSs 12 tok beh msk sec siz sn stb (0 : Int32) (0 : Int32) (-1 : Int32) (0 : Int32) (0 : Int32) (0 : Int32) := ⟨_, rfl⟩
  refine hI.callI0 (wl := w_Reader h x q g) (a := ((((tok, beh), (msk, sec)), ((siz, num), sn)), (((cel, szs), stb), (((0 : Int32), (0 : Int32)), (-1 : Int32))))) (r := rb_X3_readStatements ((((tok, beh), (msk, sec)), ((siz, num), sn)), (((cel, szs), stb), (((0 : Int32), (0 : Int32)), (-1 : Int32)))) o1) (As := [.int (0 : Int32), .int (0 : Int32), .int (0 : Int32)]) (rest := []) hw (by rw [ho1]; exact k_rdSs l g h x q 12 (by decide) tok beh msk sec siz num sn cel szs stb (0 : Int32) (0 : Int32) (-1 : Int32) (0 : Int32) (0 : Int32) (0 : Int32) rfl) ok_yX3_readStatements ml_X3_29 (rm_ok (by decide) (by decide)) 0 rfl rfl rfl rfl hl.1 (Nat.le_of_ble_eq_true rfl) dX3_findFault_19 ⟨Nat.zero_le _, Nat.zero_le _⟩ (fun H locs hw => ?_)
  have hw : Wd g A s (w_Reader h x q g ((((tok, o1.2.1.1.1), (o1.2.1.1.2, o1.2.1.2)), ((siz, num), sn)), (((cel, szs), stb), ((o1.2.2.1.1, o1.2.2.1.2), o1.2.2.2)))) H locs := hw
  refine W.eq (g2 := F0 m 22 ls [.int o1.1]) rfl ?_
  refine lv_pop hx hb dX3_findFault_22 rfl ?_
  refine lv_aload_n hx hb dX3_findFault_23 rfl (lv_at hl 0 rfl) ?_
  refine hI.get (v := .int o1.2.2.1.2) hw fg_X3_26 0 rfl rfl dX3_findFault_24 ?_
  refine lv_if_ne (tgt := 54) hx hb dX3_findFault_27 (by decide) (fun c2 => ?_) (fun c2 => ?_)
  · refine lv_aload_n hx hb dX3_findFault_54 rfl (lv_at hl 0 rfl) ?_
    refine hI.get (v := .int o1.2.2.1.2) hw fg_X3_26 0 rfl rfl dX3_findFault_55 ?_
    refine lv_if_ne (tgt := 65) hx hb dX3_findFault_58 (by decide) (fun c3 => ?_) (fun c3 => ?_)
    rotate_left
    · exact absurd c3 c2
    refine lv_aload_n hx hb dX3_findFault_65 rfl (lv_at hl 0 rfl) ?_
    refine hI.get (v := .int o1.2.2.1.2) hw fg_X3_26 0 rfl rfl dX3_findFault_66 ?_
    exact hI.retI (u := ((((tok, o1.2.1.1.1), (o1.2.1.1.2, o1.2.1.2)), ((siz, num), sn)), (((cel, szs), stb), ((o1.2.2.1.1, o1.2.2.1.2), o1.2.2.2)))) hw (hr.trans (congrArg (rb_X3_findFault ((((tok, beh), (msk, sec)), ((siz, num), sn)), (((cel, szs), stb), ((next, fault), fplace)))) ((show f_X3_findFault tok beh msk sec siz sn stb next fault fplace = (o1.2.2.1.2, (((o1.2.1.1.1, o1.2.1.1.2), o1.2.1.2), ((o1.2.2.1.1, o1.2.2.1.2), o1.2.2.2))) from bd_of ho1 (it_f c2 (rfl)))))) dX3_findFault_69
  · refine lv_aload_n hx hb dX3_findFault_30 rfl (lv_at hl 0 rfl) ?_
    refine hI.get (v := .ref (x 0)) hw fg_X3_9 0 rfl rfl dX3_findFault_31 ?_
    refine lv_aload_n hx hb dX3_findFault_34 rfl (lv_at hl 0 rfl) ?_
    refine hI.get (v := .int o1.2.2.1.1) hw fg_X3_23 0 rfl rfl dX3_findFault_35 ?_
    obtain ⟨o4, ho4⟩ : ∃ o, o = f_X2_has siz o1.2.2.1.1 := ⟨_, rfl⟩
    refine hI.callI (wl := w_Prog x g) (a := (((tok, o1.2.1.1.1), o1.2.1.1.2), (o1.2.1.2, siz))) (wr := [(h, .inr (3, [.ref (x 0), .ref (q 0), .int o1.2.2.1.1, .int o1.2.2.1.2, .int o1.2.2.2])), (q 0, .inr (4, [.ref (q 1), .ref (q 2), .ref (q 3), .ref (q 4), .ref (q 5)])), (q 1, .inl (g.2.1, 10, .inl num)), (q 2, .inl (g.2.2, 10, .inl sn)), (q 3, .inl (g.2.1, 64, .inl cel)), (q 4, .inl (g.2.1, 4, .inl szs)), (q 5, .inl (g.2.2, 4, .inl stb))]) (ws1 := w_Reader h x q g ((((tok, o1.2.1.1.1), (o1.2.1.1.2, o1.2.1.2)), ((siz, num), sn)), (((cel, szs), stb), ((o1.2.2.1.1, o1.2.2.1.2), o1.2.2.2)))) (r := rb_X2_has (((tok, o1.2.1.1.1), o1.2.1.1.2), (o1.2.1.2, siz)) o4) (As := [.int o1.2.2.1.1]) (rest := []) hw (by rw [ho4]; exact c_X2_has l g x tok o1.2.1.1.1 o1.2.1.1.2 o1.2.1.2 siz o1.2.2.1.1 ) ok_yX2_has ml_X3_33 (rm_ok (by decide) (by decide)) [1, 2, 3, 4, 5] [0, 6, 7, 8, 9, 10, 11] [0, 7, 8, 9, 10, 11, 1, 2, 3, 4, 5, 6] rfl rfl rfl rfl rfl 0 rfl rfl rfl rfl hl.1 (Nat.le_of_ble_eq_true rfl) dX3_findFault_38 ⟨Nat.zero_le _, Nat.zero_le _⟩ (fun H locs hw => ?_)
    have hw : Wd g A s (w_Reader h x q g ((((tok, o1.2.1.1.1), (o1.2.1.1.2, o1.2.1.2)), ((siz, num), sn)), (((cel, szs), stb), ((o1.2.2.1.1, o1.2.2.1.2), o1.2.2.2)))) H locs := hw
    refine W.eq (g2 := F0 m 41 ls [.int o4]) rfl ?_
    refine lv_if_eq (tgt := 54) hx hb dX3_findFault_41 (by decide) (fun c5 => ?_) (fun c5 => ?_)
    · refine lv_aload_n hx hb dX3_findFault_54 rfl (lv_at hl 0 rfl) ?_
      refine hI.get (v := .int o1.2.2.1.2) hw fg_X3_26 0 rfl rfl dX3_findFault_55 ?_
      refine lv_if_ne (tgt := 65) hx hb dX3_findFault_58 (by decide) (fun c6 => ?_) (fun c6 => ?_)
      · exact absurd c2 c6
      refine lv_aload_n hx hb dX3_findFault_61 rfl (lv_at hl 0 rfl) ?_
      obtain ⟨o7, ho7⟩ : ∃ o, o = f_X3_findLeak tok o1.2.1.1.1 o1.2.1.1.2 o1.2.1.2 siz sn stb o1.2.2.1.2 o1.2.2.2 := ⟨_, rfl⟩
      refine hI.callV0 (wl := w_Reader h x q g) (a := ((((tok, o1.2.1.1.1), (o1.2.1.1.2, o1.2.1.2)), ((siz, num), sn)), (((cel, szs), stb), ((o1.2.2.1.1, o1.2.2.1.2), o1.2.2.2)))) (r := rb_X3_findLeak ((((tok, o1.2.1.1.1), (o1.2.1.1.2, o1.2.1.2)), ((siz, num), sn)), (((cel, szs), stb), ((o1.2.2.1.1, o1.2.2.1.2), o1.2.2.2))) o7) (As := []) (rest := []) hw (by rw [ho7]; exact c_X3_findLeak l g h x q tok o1.2.1.1.1 o1.2.1.1.2 o1.2.1.2 siz num sn cel szs stb o1.2.2.1.1 o1.2.2.1.2 o1.2.2.2 ) ok_yX3_findLeak ml_X3_43 (rm_ok (by decide) (by decide)) 0 rfl rfl rfl rfl hl.1 (Nat.le_of_ble_eq_true rfl) dX3_findFault_62 ⟨Nat.zero_le _, Nat.zero_le _⟩ (fun H locs hw => ?_)
      have hw : Wd g A s (w_Reader h x q g ((((tok, o1.2.1.1.1), (o1.2.1.1.2, o1.2.1.2)), ((siz, num), sn)), (((cel, szs), stb), ((o1.2.2.1.1, o7.1), o7.2)))) H locs := hw
      refine W.eq (g2 := F0 m 65 ls []) rfl ?_
      refine lv_aload_n hx hb dX3_findFault_65 rfl (lv_at hl 0 rfl) ?_
      refine hI.get (v := .int o7.1) hw fg_X3_26 0 rfl rfl dX3_findFault_66 ?_
      exact hI.retI (u := ((((tok, o1.2.1.1.1), (o1.2.1.1.2, o1.2.1.2)), ((siz, num), sn)), (((cel, szs), stb), ((o1.2.2.1.1, o7.1), o7.2)))) hw (hr.trans (congrArg (rb_X3_findFault ((((tok, beh), (msk, sec)), ((siz, num), sn)), (((cel, szs), stb), ((next, fault), fplace)))) ((show f_X3_findFault tok beh msk sec siz sn stb next fault fplace = (o7.1, (((o1.2.1.1.1, o1.2.1.1.2), o1.2.1.2), ((o1.2.2.1.1, o7.1), o7.2))) from bd_of ho1 (it_t c2 (bd_of ho4 (it_t c5 (bd_of ho7 (rfl))))))))) dX3_findFault_69
    · refine lv_aload_n hx hb dX3_findFault_44 rfl (lv_at hl 0 rfl) ?_
      refine lv_bipush (v := (-11 : Int32)) hx hb dX3_findFault_45 (by decide) ?_
      refine lv_aload_n hx hb dX3_findFault_47 rfl (lv_at hl 0 rfl) ?_
      refine hI.get (v := .int o1.2.2.1.1) hw fg_X3_23 0 rfl rfl dX3_findFault_48 ?_
      obtain ⟨o8, ho8⟩ : ∃ o, o = f_X3_blame o1.2.2.1.2 o1.2.2.2 (-11 : Int32) o1.2.2.1.1 := ⟨_, rfl⟩
      refine hI.callV0 (wl := w_Reader h x q g) (a := ((((tok, o1.2.1.1.1), (o1.2.1.1.2, o1.2.1.2)), ((siz, num), sn)), (((cel, szs), stb), ((o1.2.2.1.1, o1.2.2.1.2), o1.2.2.2)))) (r := rb_X3_blame ((((tok, o1.2.1.1.1), (o1.2.1.1.2, o1.2.1.2)), ((siz, num), sn)), (((cel, szs), stb), ((o1.2.2.1.1, o1.2.2.1.2), o1.2.2.2))) o8) (As := [.int (-11 : Int32), .int o1.2.2.1.1]) (rest := []) hw (by rw [ho8]; exact c_X3_blame l g h x q tok o1.2.1.1.1 o1.2.1.1.2 o1.2.1.2 siz num sn cel szs stb o1.2.2.1.1 o1.2.2.1.2 o1.2.2.2 (-11 : Int32) o1.2.2.1.1 ) ok_yX3_blame ml_X3_39 (rm_ok (by decide) (by decide)) 0 rfl rfl rfl rfl hl.1 (Nat.le_of_ble_eq_true rfl) dX3_findFault_51 ⟨Nat.zero_le _, Nat.zero_le _⟩ (fun H locs hw => ?_)
      have hw : Wd g A s (w_Reader h x q g ((((tok, o1.2.1.1.1), (o1.2.1.1.2, o1.2.1.2)), ((siz, num), sn)), (((cel, szs), stb), ((o1.2.2.1.1, o8.1), o8.2)))) H locs := hw
      refine W.eq (g2 := F0 m 54 ls []) rfl ?_
      refine lv_aload_n hx hb dX3_findFault_54 rfl (lv_at hl 0 rfl) ?_
      refine hI.get (v := .int o8.1) hw fg_X3_26 0 rfl rfl dX3_findFault_55 ?_
      refine lv_if_ne (tgt := 65) hx hb dX3_findFault_58 (by decide) (fun c9 => ?_) (fun c9 => ?_)
      · refine lv_aload_n hx hb dX3_findFault_65 rfl (lv_at hl 0 rfl) ?_
        refine hI.get (v := .int o8.1) hw fg_X3_26 0 rfl rfl dX3_findFault_66 ?_
        exact hI.retI (u := ((((tok, o1.2.1.1.1), (o1.2.1.1.2, o1.2.1.2)), ((siz, num), sn)), (((cel, szs), stb), ((o1.2.2.1.1, o8.1), o8.2)))) hw (hr.trans (congrArg (rb_X3_findFault ((((tok, beh), (msk, sec)), ((siz, num), sn)), (((cel, szs), stb), ((next, fault), fplace)))) ((show f_X3_findFault tok beh msk sec siz sn stb next fault fplace = (o8.1, (((o1.2.1.1.1, o1.2.1.1.2), o1.2.1.2), ((o1.2.2.1.1, o8.1), o8.2))) from bd_of ho1 (it_t c2 (bd_of ho4 (it_f c5 (bd_of ho8 (it_f c9 (rfl)))))))))) dX3_findFault_69
      · refine lv_aload_n hx hb dX3_findFault_61 rfl (lv_at hl 0 rfl) ?_
        obtain ⟨o10, ho10⟩ : ∃ o, o = f_X3_findLeak tok o1.2.1.1.1 o1.2.1.1.2 o1.2.1.2 siz sn stb o8.1 o8.2 := ⟨_, rfl⟩
        refine hI.callV0 (wl := w_Reader h x q g) (a := ((((tok, o1.2.1.1.1), (o1.2.1.1.2, o1.2.1.2)), ((siz, num), sn)), (((cel, szs), stb), ((o1.2.2.1.1, o8.1), o8.2)))) (r := rb_X3_findLeak ((((tok, o1.2.1.1.1), (o1.2.1.1.2, o1.2.1.2)), ((siz, num), sn)), (((cel, szs), stb), ((o1.2.2.1.1, o8.1), o8.2))) o10) (As := []) (rest := []) hw (by rw [ho10]; exact c_X3_findLeak l g h x q tok o1.2.1.1.1 o1.2.1.1.2 o1.2.1.2 siz num sn cel szs stb o1.2.2.1.1 o8.1 o8.2 ) ok_yX3_findLeak ml_X3_43 (rm_ok (by decide) (by decide)) 0 rfl rfl rfl rfl hl.1 (Nat.le_of_ble_eq_true rfl) dX3_findFault_62 ⟨Nat.zero_le _, Nat.zero_le _⟩ (fun H locs hw => ?_)
        have hw : Wd g A s (w_Reader h x q g ((((tok, o1.2.1.1.1), (o1.2.1.1.2, o1.2.1.2)), ((siz, num), sn)), (((cel, szs), stb), ((o1.2.2.1.1, o10.1), o10.2)))) H locs := hw
        refine W.eq (g2 := F0 m 65 ls []) rfl ?_
        refine lv_aload_n hx hb dX3_findFault_65 rfl (lv_at hl 0 rfl) ?_
        refine hI.get (v := .int o10.1) hw fg_X3_26 0 rfl rfl dX3_findFault_66 ?_
        exact hI.retI (u := ((((tok, o1.2.1.1.1), (o1.2.1.1.2, o1.2.1.2)), ((siz, num), sn)), (((cel, szs), stb), ((o1.2.2.1.1, o10.1), o10.2)))) hw (hr.trans (congrArg (rb_X3_findFault ((((tok, beh), (msk, sec)), ((siz, num), sn)), (((cel, szs), stb), ((next, fault), fplace)))) ((show f_X3_findFault tok beh msk sec siz sn stb next fault fplace = (o10.1, (((o1.2.1.1.1, o1.2.1.1.2), o1.2.1.2), ((o1.2.2.1.1, o10.1), o10.2))) from bd_of ho1 (it_t c2 (bd_of ho4 (it_f c5 (bd_of ho8 (it_t c9 (bd_of ho10 (rfl))))))))))) dX3_findFault_69
