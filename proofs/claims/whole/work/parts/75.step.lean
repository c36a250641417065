/-! one step of the machine: every word -/
theorem nI_p1 (n : Nat) : nI n + (1 : Int32) = nI (n + 1) := nI_1 n
theorem nI_p2 (n : Nat) : nI n + (2 : Int32) = nI (n + 2) := by
  show nI n + nI 2 = nI (n + 2)
  rw [nI_add]
theorem nI_p3 (n : Nat) : nI n + (3 : Int32) = nI (n + 3) := by
  show nI n + nI 3 = nI (n + 3)
  rw [nI_add]
theorem cl1 {n : Nat} (h : n + 1 < 2 ^ 31) : (nI n + (1 : Int32)).toNatClampNeg = n + 1 := by rw [nI_p1, cl_nI h]
theorem cl2 {n : Nat} (h : n + 2 < 2 ^ 31) : (nI n + (2 : Int32)).toNatClampNeg = n + 2 := by rw [nI_p2, cl_nI h]
theorem rd1 {ck cod : Nat → Int32} {e pc : Nat} (hW : e + 1 ≤ 2048) (hc : ∀ i, i < e + 1 → ck i = cod i) (h : pc + 1 < e + 1) : f_X6_read 2048 ck (nI (e + 1)) (nI pc + 1) 0 = cod (pc + 1) := by
  rw [nI_p1]; exact rd_eq hW hc h
theorem rd2 {ck cod : Nat → Int32} {e pc : Nat} (hW : e + 1 ≤ 2048) (hc : ∀ i, i < e + 1 → ck i = cod i) (h : pc + 2 < e + 1) : f_X6_read 2048 ck (nI (e + 1)) (nI pc + 2) 0 = cod (pc + 2) := by
  rw [nI_p2]; exact rd_eq hW hc h
theorem numOf {t : Int32} (ht : vp_in t 10) (num : Nat → Int32) : f_X5_numberOf num t = num t.toNatClampNeg := by
  unfold f_X5_numberOf
  rw [bd_d, if_neg (hasV_in ht)]
theorem asgn {t : Int32} (ht : vp_in t 10) (num : Nat → Int32) (x : Int32) : f_X5_assign num t x = upd num t.toNatClampNeg x := by
  unfold f_X5_assign
  rw [bd_d, if_neg (hasV_in ht)]
theorem mskAt {x : Nat} (hx : x ≤ 12) (mks : Nat → Int32) : f_X1_maskAt mks (nI x) = mks x := by
  unfold f_X1_maskAt
  rw [if_neg (nI_pos (by omega)), if_neg (show ¬ (13 : Int32) ≤ nI x from nI_ge (b := 13) (by omega) (by decide)), cl_nI (by omega)]
theorem setMk {x : Nat} (hx : x < 12) (mks : Nat → Int32) (v : Int32) : f_X1_setMask mks (nI (x + 1)) v = upd mks (x + 1) v := by
  unfold f_X1_setMask
  rw [if_neg (nI_nle (by omega) (by omega)), if_neg (show ¬ (13 : Int32) ≤ nI (x + 1) from nI_ge (b := 13) (by omega) (by decide)), cl_nI (by omega)]
theorem tellB {i : Nat} (hi : i ≤ 1000000) (tk : Nat → Int32) (x : Int32) : ∃ tk', f_X6_add 300 tk (nI i) x = (tk', nI (i + 1)) ∧ f_X10_tell tk (nI i) x = (tk', nI (i + 1)) := by
  unfold f_X6_add f_X10_tell
  rw [if_neg (nI_pos (by omega)), nI_p1]
  by_cases h1 : nI 300 ≤ nI i
  · rw [if_pos h1, if_pos (show (300 : Int32) ≤ nI i from h1)]
    exact ⟨_, rfl, rfl⟩
  · rw [if_neg h1, if_neg (show ¬ (300 : Int32) ≤ nI i from h1)]
    exact ⟨_, rfl, rfl⟩
theorem bin_op {x : Int32} (h : isBin (x + 18)) : x = 4 ∨ x = 5 ∨ x = 6 ∨ x = 7 ∨ x = 8 ∨ x = 9 ∨ x = 10 ∨ x = 11 ∨ x = 12 ∨ x = 13 ∨ x = 15 ∨ x = 16 := by
  have hc : ∀ c : Int32, x + 18 = c → x = c - 18 := by
    intro c hc
    rw [← hc]
    exact (Int32.add_sub_cancel x 18).symm
  obtain ⟨-, h | h | h | h | h | h | h | h | h | h | h | h⟩ := h
  · exact Or.inl (hc _ h)
  · exact Or.inr (Or.inl (hc _ h))
  · exact Or.inr (Or.inr (Or.inl (hc _ h)))
  · exact Or.inr (Or.inr (Or.inr (Or.inl (hc _ h))))
  · exact Or.inr (Or.inr (Or.inr (Or.inr (Or.inl (hc _ h)))))
  · exact Or.inr (Or.inr (Or.inr (Or.inr (Or.inr (Or.inl (hc _ h))))))
  · exact Or.inr (Or.inr (Or.inr (Or.inr (Or.inr (Or.inr (Or.inl (hc _ h)))))))
  · exact Or.inr (Or.inr (Or.inr (Or.inr (Or.inr (Or.inr (Or.inr (Or.inl (hc _ h))))))))
  · exact Or.inr (Or.inr (Or.inr (Or.inr (Or.inr (Or.inr (Or.inr (Or.inr (Or.inl (hc _ h)))))))))
  · exact Or.inr (Or.inr (Or.inr (Or.inr (Or.inr (Or.inr (Or.inr (Or.inr (Or.inr (Or.inl (hc _ h))))))))))
  · exact Or.inr (Or.inr (Or.inr (Or.inr (Or.inr (Or.inr (Or.inr (Or.inr (Or.inr (Or.inr (Or.inl (hc _ h)))))))))))
  · exact Or.inr (Or.inr (Or.inr (Or.inr (Or.inr (Or.inr (Or.inr (Or.inr (Or.inr (Or.inr (Or.inr (hc _ h)))))))))))
theorem bin_ne {x : Int32} (h : isBin (x + 18)) : (¬ x < 0 ∧ ¬ (32 : Int32) ≤ x ∧ wdI x.toNatClampNeg = 1 ∧ ¬ x < 4 ∧ ¬ 16 < x) ∧ ¬ x = 1 ∧ ¬ x = 2 ∧ ¬ x = 30 ∧ ¬ x = 3 ∧ ¬ (17 : Int32) ≤ x ∧ ¬ x = 14 ∧ ¬ x = 0 := by
  rcases bin_op h with rfl | rfl | rfl | rfl | rfl | rfl | rfl | rfl | rfl | rfl | rfl | rfl <;> exact ⟨⟨by decide, by decide, rfl, by decide, by decide⟩, by decide, by decide, by decide, by decide, by decide, by decide, by decide⟩
def IV (T : TT) (cp mp cm mm cc mc : Nat → Int32) (pc h : Nat) : Prop := ∃ m r, T pc h m r ∧ h ≤ 63 ∧ AgP cp mp h ∧ (∀ i, i ≤ m → cm i = mm i) ∧ (∀ i, i < r → cc i = mc i) ∧ cm 0 = -1
theorem IV.of {T : TT} {cp mp cm mm cc mc : Nat → Int32} {pc h m r : Nat} (t : Tw T pc h m r) (hh : h ≤ 63) (hA : AgP cp mp h) (hm : ∀ i, i ≤ m → cm i = mm i) (hr : ∀ i, i < r → cc i = mc i) (h0 : cm 0 = -1) : IV T cp mp cm mm cc mc pc h := by
  obtain ⟨m', r', a1, a2, a3⟩ := t
  exact ⟨m', r', a3, hh, hA, fun i hi => hm i (by omega), fun i hi => hr i (by omega), h0⟩
abbrev CSt : Type := Int32 × (((((Nat → Int32) × (Nat → Int32)) × (Nat → Int32)) × ((Int32 × Int32) × (Nat → Int32))) × ((((Nat → Int32) × (Nat → Int32)) × Int32) × (((Nat → Int32) × Int32) × Int64)))
abbrev MSt : Type := Int32 × (((((Nat → Int32) × (Nat → Int32)) × (Nat → Int32)) × ((Int32 × (Nat → Int32)) × Int32)) × (((Int64 × (Nat → Int32)) × Int32) × (((Nat → Int32) × (Nat → Int32)) × Int32)))
def SP (T : TT) (i j : Nat) (X : CSt) (Y : MSt) : Prop := ∃ (fl st hc hm xc xm : Int32) (cp mp cm mm cc mc num cel tk rk : Nat → Int32) (i' j' : Nat) (sum : Int64), X = (fl, ((((cp, cm), cc), ((hc, xc), num)), (((cel, tk), nI i'), ((rk, nI j'), sum)))) ∧ Y = (xm, ((((num, cel), tk), ((nI i', rk), nI j')), (((sum, mp), hm), ((mm, mc), st)))) ∧ i' ≤ i + 1 ∧ j' ≤ j + 16 ∧ ((fl = 1 ∧ st = 0 ∧ ∃ pc h, hc = nI h ∧ hm = nI h ∧ xc = nI pc ∧ xm = nI pc ∧ IV T cp mp cm mm cc mc pc h) ∨ (fl = 0 ∧ st = -5 ∧ cm 0 = -1))
theorem SP.ok {T : TT} {i j : Nat} {X : CSt} {Y : MSt} {cp mp cm mm cc mc num cel tk rk : Nat → Int32} {i' j' pc h : Nat} {sum : Int64} (hX : X = (1, ((((cp, cm), cc), ((nI h, nI pc), num)), (((cel, tk), nI i'), ((rk, nI j'), sum))))) (hY : Y = (nI pc, ((((num, cel), tk), ((nI i', rk), nI j')), (((sum, mp), nI h), ((mm, mc), 0))))) (hi : i' ≤ i + 1) (hj : j' ≤ j + 16) (hI : IV T cp mp cm mm cc mc pc h) : SP T i j X Y :=
  ⟨1, 0, nI h, nI h, nI pc, nI pc, cp, mp, cm, mm, cc, mc, num, cel, tk, rk, i', j', sum, hX, hY, hi, hj, Or.inl ⟨rfl, rfl, pc, h, rfl, rfl, rfl, rfl, hI⟩⟩
theorem step_of {cp cm cc : Nat → Int32} {hg nx : Int32} {ck : Nat → Int32} {cs : Int32} {num cel szs tk : Nat → Int32} {ts : Int32} {rk : Nat → Int32} {rs : Int32} {sum : Int64} {op wd : Int32} (h0 : ¬ op < 0) (h1 : ¬ (32 : Int32) ≤ op) (hw : wdI op.toNatClampNeg = wd) : f_X1_step cp cm cc hg nx ck cs num cel szs tk ts rk rs sum op = f_X1_step_60 ck cs szs cp cm cc hg (nx + wd) num cel tk ts rk rs sum op (f_X6_read 2048 ck cs (nx + 1) 0) (f_X6_read 2048 ck cs (nx + 2) 0) := by
  unfold f_X1_step
  rw [bd_d, bd_d, if_neg h0, if_neg h1, hw]
theorem s60_O {cp cm cc : Nat → Int32} {hg nx : Int32} {ck : Nat → Int32} {cs : Int32} {num cel szs tk : Nat → Int32} {ts : Int32} {rk : Nat → Int32} {rs : Int32} {sum : Int64} {op y2 y3 : Int32} (h : op < 4 ∨ 16 < op) (h20 : ¬ 20 < op) : f_X1_step_60 ck cs szs cp cm cc hg nx num cel tk ts rk rs sum op y2 y3 = bd (f_X1_stepOpenly cp hg nx num tk ts op y2) (fun o12 => ((1 : Int32), ((((o12.1.1.1, cm), cc), ((o12.1.1.2, o12.1.2), o12.2.1.1)), (((cel, o12.2.1.2), o12.2.2), ((rk, rs), sum))))) := by
  unfold f_X1_step_60
  by_cases h4 : op < 4
  · rw [if_pos h4, if_neg h20]
  · rw [if_neg h4, if_pos (h.resolve_left h4), if_neg h20]
theorem s60_C {cp cm cc : Nat → Int32} {hg nx : Int32} {ck : Nat → Int32} {cs : Int32} {num cel szs tk : Nat → Int32} {ts : Int32} {rk : Nat → Int32} {rs : Int32} {sum : Int64} {op y2 y3 : Int32} (h4 : ¬ op < 4) (h16 : 16 < op) (h20 : 20 < op) (h29 : (29 : Int32) ≤ op) : f_X1_step_60 ck cs szs cp cm cc hg nx num cel tk ts rk rs sum op y2 y3 = bd (f_X1_stepCount cp cc hg op y2) (fun o16 => ((1 : Int32), ((((o16.1.1, cm), o16.1.2), ((o16.2, nx), num)), (((cel, tk), ts), ((rk, rs), sum))))) := by
  unfold f_X1_step_60
  rw [if_neg h4, if_pos h16, if_pos h20, if_pos h29]
theorem s60_I {cp cm cc : Nat → Int32} {hg nx : Int32} {ck : Nat → Int32} {cs : Int32} {num cel szs tk : Nat → Int32} {ts : Int32} {rk : Nat → Int32} {rs : Int32} {sum : Int64} {op y2 y3 : Int32} (h4 : ¬ op < 4) (h16 : 16 < op) (h20 : 20 < op) (h29 : ¬ (29 : Int32) ≤ op) : f_X1_step_60 ck cs szs cp cm cc hg nx num cel tk ts rk rs sum op y2 y3 = bd (f_X1_stepInStore cp cm hg num cel szs rk rs sum op y2 y3) (fun o17 => ((1 : Int32), ((((o17.1.1.1, o17.1.1.2), cc), ((o17.1.2.1, nx), o17.1.2.2)), (((o17.2.1.1, tk), ts), ((o17.2.1.2, o17.2.2.1), o17.2.2.2))))) := by
  unfold f_X1_step_60
  rw [if_neg h4, if_pos h16, if_pos h20, if_neg h29]
theorem s60_R {cp cm cc : Nat → Int32} {hg nx : Int32} {ck : Nat → Int32} {cs : Int32} {num cel szs tk : Nat → Int32} {ts : Int32} {rk : Nat → Int32} {rs : Int32} {sum : Int64} {op y2 y3 : Int32} (h4 : ¬ op < 4) (h16 : ¬ 16 < op) : f_X1_step_60 ck cs szs cp cm cc hg nx num cel tk ts rk rs sum op y2 y3 = bd (f_X1_reckonTop cp hg op) (fun o19 => (o19.1, ((((o19.2.1, cm), cc), ((o19.2.2, nx), num)), (((cel, tk), ts), ((rk, rs), sum))))) := by
  unfold f_X1_step_60
  rw [if_neg h4, if_neg h16]
theorem rT_b {x1 : Int32} (h14 : ¬ x1 = 14) {k : Nat} (hk : k + 1 < 64) (cp : Nat → Int32) : f_X1_reckonTop cp (nI (k + 2)) x1 = if f_X4_traps (x1 + 18) (cp (k + 1)) = 0 then ((1 : Int32), (upd cp k (f_X4_reckon (x1 + 18) (cp k) (cp (k + 1))), nI (k + 1))) else ((0 : Int32), (cp, nI k)) := by
  unfold f_X1_reckonTop
  rw [if_neg h14]
  simp only [bd_d, popC (show k + 1 < 64 by omega), popC (show k < 64 by omega), pushC (show k < 64 by omega)]
theorem rT_14 {k : Nat} (hk : k < 64) (cp : Nat → Int32) : f_X1_reckonTop cp (nI (k + 1)) 14 = ((1 : Int32), (upd cp k (if cp k = 0 then 1 else 0), nI (k + 1))) := by
  unfold f_X1_reckonTop
  rw [if_pos rfl]
  simp only [bd_d, popC hk, pushC hk]
  rfl
theorem mk_14 (a : Int32) : f_X10_make 0 ((14 : Int32) + 18) a 0 = ((if a = 0 then 1 else 0), 0) := by
  show (if a = 0 then ((1 : Int32), (0 : Int32)) else (0, 0)) = _
  by_cases h : a = 0
  · rw [if_pos h, if_pos h]
  · rw [if_neg h, if_neg h]
/-- what one step may count on -/
def HB (szs ck cod : Nat → Int32) (e : Nat) (T : TT) (cp mp cm mm cc mc : Nat → Int32) (pc h m r i j : Nat) : Prop := e + 1 ≤ 2048 ∧ (∀ x, x < e + 1 → ck x = cod x) ∧ (∀ x k m r, Tw T x k m r → x ≤ e) ∧ pc < e ∧ h ≤ 63 ∧ AgP cp mp h ∧ (∀ x, x ≤ m → cm x = mm x) ∧ (∀ x, x < r → cc x = mc x) ∧ cm 0 = -1 ∧ i ≤ 1000000 ∧ j + 16 ≤ 1000000 ∧ SZ szs ∧ m ≤ 12 ∧ r ≤ 12
def SG (szs ck cod : Nat → Int32) (e : Nat) (T : TT) (cp mp cm mm cc mc num cel tk rk : Nat → Int32) (sum : Int64) (pc h i j : Nat) (op : Int32) : Prop := SP T i j (f_X1_step cp cm cc (nI h) (nI pc) ck (nI (e + 1)) num cel szs tk (nI i) rk (nI j) sum op) (f_X10_step num cel szs cod tk (nI i) rk (nI j) sum mp (nI h) mm mc 0 op (nI pc)) ∧ ok_X10_step num cel szs cod tk (nI i) rk (nI j) sum mp (nI h) mm mc 0 op (nI pc)
section ST
variable {szs ck cod : Nat → Int32} {e : Nat} {T : TT} {cp mp cm mm cc mc num cel tk rk : Nat → Int32} {sum : Int64} {pc h m r i j : Nat}
theorem sg_1 (H : HB szs ck cod e T cp mp cm mm cc mc pc h m r i j) (hlt : h < 63) (t : Tw T (pc + 2) (h + 1) m r) : SG szs ck cod e T cp mp cm mm cc mc num cel tk rk sum pc h i j 1 := by
  obtain ⟨hW, hck, hTe, hpc, hh, hA, hm, hr, h0, hi, hj, hz, m12, r12⟩ := H
  have hp2 := hTe _ _ _ _ t
  have eX : f_X1_step cp cm cc (nI h) (nI pc) ck (nI (e + 1)) num cel szs tk (nI i) rk (nI j) sum 1 = (1, ((((upd cp h (cod (pc + 1)), cm), cc), ((nI (h + 1), nI (pc + 2)), num)), (((cel, tk), nI i), ((rk, nI j), sum)))) := by
    rw [step_of (wd := 2) (by decide) (by decide) rfl, s60_O (by decide) (by decide), rd1 hW hck (by omega), cO_1, pushC (by omega), nI_p2]
    simp only [bd_d]
  have eY : f_X10_step num cel szs cod tk (nI i) rk (nI j) sum mp (nI h) mm mc 0 1 (nI pc) = (nI (pc + 2), ((((num, cel), tk), ((nI i, rk), nI j)), (((sum, upd mp h (cod (pc + 1))), nI (h + 1)), ((mm, mc), 0)))) := by
    rw [mS_1, cl1 (by omega), nI_p2]
    simp only [bd_d, pushM (show h < 64 by omega)]
  refine ⟨SP.ok eX eY (by omega) (by omega) (IV.of t (by omega) (hA.up _) hm hr h0), ?_⟩
  rw [mK_1]
  simp only [bdP_d]
  exact ⟨by rw [nI_p1]; exact vp_in_nI (by omega) (by decide), pin0 (by omega), trivial⟩
theorem sg_2 (H : HB szs ck cod e T cp mp cm mm cc mc pc h m r i j) (hlt : h < 63) (hv : vp_in (cod (pc + 1)) 10) (t : Tw T (pc + 2) (h + 1) m r) : SG szs ck cod e T cp mp cm mm cc mc num cel tk rk sum pc h i j 2 := by
  obtain ⟨hW, hck, hTe, hpc, hh, hA, hm, hr, h0, hi, hj, hz, m12, r12⟩ := H
  have hp2 := hTe _ _ _ _ t
  have eX : f_X1_step cp cm cc (nI h) (nI pc) ck (nI (e + 1)) num cel szs tk (nI i) rk (nI j) sum 2 = (1, ((((upd cp h (num (cod (pc + 1)).toNatClampNeg), cm), cc), ((nI (h + 1), nI (pc + 2)), num)), (((cel, tk), nI i), ((rk, nI j), sum)))) := by
    rw [step_of (wd := 2) (by decide) (by decide) rfl, s60_O (by decide) (by decide), rd1 hW hck (by omega), cO_2, numOf hv, nI_p2]
    simp only [bd_d, pushC (show h < 64 by omega)]
  have eY : f_X10_step num cel szs cod tk (nI i) rk (nI j) sum mp (nI h) mm mc 0 2 (nI pc) = (nI (pc + 2), ((((num, cel), tk), ((nI i, rk), nI j)), (((sum, upd mp h (num (cod (pc + 1)).toNatClampNeg)), nI (h + 1)), ((mm, mc), 0)))) := by
    rw [mS_2, cl1 (by omega), nI_p2]
    simp only [bd_d, pushM (show h < 64 by omega)]
  refine ⟨SP.ok eX eY (by omega) (by omega) (IV.of t (by omega) (hA.up _) hm hr h0), ?_⟩
  rw [mK_2, cl1 (by omega)]
  simp only [bdP_d]
  exact ⟨by rw [nI_p1]; exact vp_in_nI (by omega) (by decide), hv, pin0 (by omega), trivial⟩
theorem sg_30 (H : HB szs ck cod e T cp mp cm mm cc mc pc h m r i j) (hlt : h < 63) {x : Nat} (hx : cod (pc + 1) = nI x) (hxr : x < r) (hx12 : x < 12) (t : Tw T (pc + 2) (h + 1) m r) : SG szs ck cod e T cp mp cm mm cc mc num cel tk rk sum pc h i j 30 := by
  obtain ⟨hW, hck, hTe, hpc, hh, hA, hm, hr, h0, hi, hj, hz, m12, r12⟩ := H
  have hp2 := hTe _ _ _ _ t
  have eX : f_X1_step cp cm cc (nI h) (nI pc) ck (nI (e + 1)) num cel szs tk (nI i) rk (nI j) sum 30 = (1, ((((upd cp h (mc x), cm), cc), ((nI (h + 1), nI (pc + 2)), num)), (((cel, tk), nI i), ((rk, nI j), sum)))) := by
    rw [step_of (wd := 2) (by decide) (by decide) rfl, s60_C (by decide) (by decide) (by decide) (by decide), rd1 hW hck (by omega), hx, nI_p2]
    unfold f_X1_stepCount
    rw [if_neg (nI_pos (by omega)), if_pos (show nI x < (12 : Int32) from nI_lt (b := 12) (by omega) (by decide)), if_neg (show ¬ (30 : Int32) = 29 by decide), if_pos rfl, cl_nI (by omega), pushC (by omega), hr x hxr]
    simp only [bd_d]
  have eY : f_X10_step num cel szs cod tk (nI i) rk (nI j) sum mp (nI h) mm mc 0 30 (nI pc) = (nI (pc + 2), ((((num, cel), tk), ((nI i, rk), nI j)), (((sum, upd mp h (mc x)), nI (h + 1)), ((mm, mc), 0)))) := by
    rw [mS_30, cl1 (by omega), nI_p2, hx]
    simp only [bd_d, pushM (show h < 64 by omega), cl_nI (show x < 2 ^ 31 by omega)]
  refine ⟨SP.ok eX eY (by omega) (by omega) (IV.of t (by omega) (hA.up _) hm hr h0), ?_⟩
  rw [mK_30, cl1 (by omega), hx]
  simp only [bdP_d]
  exact ⟨by rw [nI_p1]; exact vp_in_nI (by omega) (by decide), vp_in_nI (by omega) (by decide), pin0 (by omega), trivial⟩
theorem sg_3 {k : Nat} (H : HB szs ck cod e T cp mp cm mm cc mc pc (k + 1) m r i j) (hv : vp_in (cod (pc + 1)) 10) (t : Tw T (pc + 2) k m r) : SG szs ck cod e T cp mp cm mm cc mc num cel tk rk sum pc (k + 1) i j 3 := by
  obtain ⟨hW, hck, hTe, hpc, hh, hA, hm, hr, h0, hi, hj, hz, m12, r12⟩ := H
  have hp2 := hTe _ _ _ _ t
  have a0 : cp k = mp k := hA k (by omega)
  have eX : f_X1_step cp cm cc (nI (k + 1)) (nI pc) ck (nI (e + 1)) num cel szs tk (nI i) rk (nI j) sum 3 = (1, ((((cp, cm), cc), ((nI k, nI (pc + 2)), upd num (cod (pc + 1)).toNatClampNeg (mp k))), (((cel, tk), nI i), ((rk, nI j), sum)))) := by
    rw [step_of (wd := 2) (by decide) (by decide) rfl, s60_O (by decide) (by decide), rd1 hW hck (by omega), cO_3, popC (by omega), nI_p2]
    simp only [bd_d, asgn hv, a0]
  have eY : f_X10_step num cel szs cod tk (nI i) rk (nI j) sum mp (nI (k + 1)) mm mc 0 3 (nI pc) = (nI (pc + 2), ((((upd num (cod (pc + 1)).toNatClampNeg (mp k), cel), tk), ((nI i, rk), nI j)), (((sum, mp), nI k), ((mm, mc), 0)))) := by
    rw [mS_3, cl1 (by omega), nI_p2]
    simp only [bd_d, popM (show k < 64 by omega)]
  refine ⟨SP.ok eX eY (by omega) (by omega) (IV.of t (by omega) (hA.sub (by omega)) hm hr h0), ?_⟩
  rw [mK_3, cl1 (by omega)]
  simp only [bdP_d]
  exact ⟨by rw [nI_p1]; exact vp_in_nI (by omega) (by decide), pin (by omega), hv, trivial⟩
theorem sg_b {k : Nat} {op : Int32} (H : HB szs ck cod e T cp mp cm mm cc mc pc (k + 2) m r i j) (hb : isBin (op + 18)) (t : Tw T (pc + 1) (k + 1) m r) : SG szs ck cod e T cp mp cm mm cc mc num cel tk rk sum pc (k + 2) i j op := by
  obtain ⟨hW, hck, hTe, hpc, hh, hA, hm, hr, h0, hi, hj, hz, m12, r12⟩ := H
  obtain ⟨⟨b1, b2, b3, b4, b5⟩, d1, d2, d30, d3, d17, d14, -⟩ := bin_ne hb
  have a0 : cp k = mp k := hA k (by omega)
  have a1 : cp (k + 1) = mp (k + 1) := hA (k + 1) (by omega)
  have eX : f_X1_step cp cm cc (nI (k + 2)) (nI pc) ck (nI (e + 1)) num cel szs tk (nI i) rk (nI j) sum op = bd (if f_X4_traps (op + 18) (mp (k + 1)) = 0 then ((1 : Int32), (upd cp k (f_X4_reckon (op + 18) (mp k) (mp (k + 1))), nI (k + 1))) else ((0 : Int32), (cp, nI k))) (fun o19 => (o19.1, ((((o19.2.1, cm), cc), ((o19.2.2, nI (pc + 1)), num)), (((cel, tk), nI i), ((rk, nI j), sum))))) := by
    rw [step_of b1 b2 b3, s60_R b4 b5, rT_b d14 (by omega), nI_p1, a0, a1]
  have eY : f_X10_step num cel szs cod tk (nI i) rk (nI j) sum mp (nI (k + 2)) mm mc 0 op (nI pc) = (nI (pc + 1), ((((num, cel), tk), ((nI i, rk), nI j)), (((sum, upd mp k (f_X10_make 0 (op + 18) (mp k) (mp (k + 1))).1), nI (k + 1)), ((mm, mc), (f_X10_make 0 (op + 18) (mp k) (mp (k + 1))).2)))) := by
    rw [mS_b _ _ _ _ _ _ _ _ _ _ _ _ _ _ _ d1 d2 d30 d3 d17 d14, nI_p1]
    simp only [bd_d, popM (show k + 1 < 64 by omega), popM (show k < 64 by omega), pushM (show k < 64 by omega)]
  obtain ⟨q1, q2⟩ := make_eq hb (mp k) (mp (k + 1))
  refine ⟨?_, ?_⟩
  · by_cases htr : f_X4_traps (op + 18) (mp (k + 1)) = 0
    · rw [if_pos htr] at q1 eX
      rw [q1] at eY
      rw [q2 q1] at eX
      exact SP.ok eX eY (by omega) (by omega) (IV.of t (by omega) ((hA.sub (show k ≤ k + 2 by omega)).up _) hm hr h0)
    · rw [if_neg htr] at q1 eX
      rw [q1] at eY
      exact ⟨0, -5, nI k, nI (k + 1), nI (pc + 1), nI (pc + 1), cp, _, cm, mm, cc, mc, num, cel, tk, rk, i, j, sum, eX, eY, by omega, by omega, Or.inr ⟨rfl, rfl, h0⟩⟩
  · rw [mK_b _ _ _ _ _ _ _ _ _ _ _ _ _ _ _ d1 d2 d30 d3 d17 d14]
    simp only [bdP_d, popM (show k + 1 < 64 by omega), popM (show k < 64 by omega)]
    exact ⟨by rw [nI_p1]; exact vp_in_nI (by omega) (by decide), pin (by omega), pin (by omega), pin0 (by omega), trivial⟩
theorem sg_14 {k : Nat} (H : HB szs ck cod e T cp mp cm mm cc mc pc (k + 1) m r i j) (t : Tw T (pc + 1) (k + 1) m r) : SG szs ck cod e T cp mp cm mm cc mc num cel tk rk sum pc (k + 1) i j 14 := by
  obtain ⟨hW, hck, hTe, hpc, hh, hA, hm, hr, h0, hi, hj, hz, m12, r12⟩ := H
  have a0 : cp k = mp k := hA k (by omega)
  have eX : f_X1_step cp cm cc (nI (k + 1)) (nI pc) ck (nI (e + 1)) num cel szs tk (nI i) rk (nI j) sum 14 = (1, ((((upd cp k (if mp k = 0 then 1 else 0), cm), cc), ((nI (k + 1), nI (pc + 1)), num)), (((cel, tk), nI i), ((rk, nI j), sum)))) := by
    rw [step_of (wd := 1) (by decide) (by decide) rfl, s60_R (by decide) (by decide), rT_14 (by omega), nI_p1, a0]
    simp only [bd_d]
  have eY : f_X10_step num cel szs cod tk (nI i) rk (nI j) sum mp (nI (k + 1)) mm mc 0 14 (nI pc) = (nI (pc + 1), ((((num, cel), tk), ((nI i, rk), nI j)), (((sum, upd mp k (if mp k = 0 then 1 else 0)), nI (k + 1)), ((mm, mc), 0)))) := by
    rw [mS_14, nI_p1]
    simp only [bd_d, popM (show k < 64 by omega), mk_14, pushM (show k < 64 by omega)]
  refine ⟨SP.ok eX eY (by omega) (by omega) (IV.of t (by omega) ((hA.sub (show k ≤ k + 1 by omega)).up _) hm hr h0), ?_⟩
  rw [mK_14]
  simp only [bdP_d, popM (show k < 64 by omega)]
  exact ⟨by rw [nI_p1]; exact vp_in_nI (by omega) (by decide), pin (by omega), pin0 (by omega), trivial⟩
theorem sg_17 {k : Nat} (H : HB szs ck cod e T cp mp cm mm cc mc pc (k + 3) m r i j) (t : Tw T (pc + 1) (k + 1) m r) : SG szs ck cod e T cp mp cm mm cc mc num cel tk rk sum pc (k + 3) i j 17 := by
  obtain ⟨hW, hck, hTe, hpc, hh, hA, hm, hr, h0, hi, hj, hz, m12, r12⟩ := H
  have a0 : cp k = mp k := hA k (by omega)
  have a1 : cp (k + 1) = mp (k + 1) := hA (k + 1) (by omega)
  have a2 : cp (k + 2) = mp (k + 2) := hA (k + 2) (by omega)
  have eX : f_X1_step cp cm cc (nI (k + 3)) (nI pc) ck (nI (e + 1)) num cel szs tk (nI i) rk (nI j) sum 17 = (1, ((((upd cp k (if mp k = 0 then mp (k + 2) else mp (k + 1)), cm), cc), ((nI (k + 1), nI (pc + 1)), num)), (((cel, tk), nI i), ((rk, nI j), sum)))) := by
    rw [step_of (wd := 1) (by decide) (by decide) rfl, s60_O (by decide) (by decide), cO_17, nI_p1]
    unfold f_X1_choose
    simp only [bd_d, popC (show k + 2 < 64 by omega), popC (show k + 1 < 64 by omega), popC (show k < 64 by omega), pushC (show k < 64 by omega), a0, a1, a2]
    by_cases hc : mp k = 0
    · simp only [if_pos hc]
    · simp only [if_neg hc]
  have eY : f_X10_step num cel szs cod tk (nI i) rk (nI j) sum mp (nI (k + 3)) mm mc 0 17 (nI pc) = (nI (pc + 1), ((((num, cel), tk), ((nI i, rk), nI j)), (((sum, upd mp k (if mp k = 0 then mp (k + 2) else mp (k + 1))), nI (k + 1)), ((mm, mc), 0)))) := by
    rw [mS_17, nI_p1]
    simp only [bd_d, popM (show k + 2 < 64 by omega), popM (show k + 1 < 64 by omega), popM (show k < 64 by omega), pushM (show k < 64 by omega)]
    by_cases hc : mp k = 0
    · simp only [if_pos hc]
    · simp only [if_neg hc]
  refine ⟨SP.ok eX eY (by omega) (by omega) (IV.of t (by omega) ((hA.sub (show k ≤ k + 3 by omega)).up _) hm hr h0), ?_⟩
  rw [mK_17]
  simp only [bdP_d, popM (show k + 2 < 64 by omega), popM (show k + 1 < 64 by omega), popM (show k < 64 by omega)]
  refine ⟨by rw [nI_p1]; exact vp_in_nI (by omega) (by decide), pin (by omega), pin (by omega), pin (by omega), ?_⟩
  split
  · exact ⟨pin0 (by omega), trivial⟩
  · exact ⟨pin0 (by omega), trivial⟩
theorem sg_18 (H : HB szs ck cod e T cp mp cm mm cc mc pc h m r i j) (hq : pc + 2 ≤ e) {x : Nat} (hx : cod (pc + 1) = nI x) (t : Tw T x h m r) : SG szs ck cod e T cp mp cm mm cc mc num cel tk rk sum pc h i j 18 := by
  obtain ⟨hW, hck, hTe, hpc, hh, hA, hm, hr, h0, hi, hj, hz, m12, r12⟩ := H
  have eX : f_X1_step cp cm cc (nI h) (nI pc) ck (nI (e + 1)) num cel szs tk (nI i) rk (nI j) sum 18 = (1, ((((cp, cm), cc), ((nI h, nI x), num)), (((cel, tk), nI i), ((rk, nI j), sum)))) := by
    rw [step_of (wd := 2) (by decide) (by decide) rfl, s60_O (by decide) (by decide), rd1 hW hck (by omega), cO_18, hx]
    simp only [bd_d]
  have eY : f_X10_step num cel szs cod tk (nI i) rk (nI j) sum mp (nI h) mm mc 0 18 (nI pc) = (nI x, ((((num, cel), tk), ((nI i, rk), nI j)), (((sum, mp), nI h), ((mm, mc), 0)))) := by
    rw [mS_18, cl1 (by omega), hx]
    simp only [bd_d]
  refine ⟨SP.ok eX eY (by omega) (by omega) (IV.of t (by omega) hA hm hr h0), ?_⟩
  rw [mK_18]
  simp only [bdP_d]
  exact ⟨by rw [nI_p1]; exact vp_in_nI (by omega) (by decide), trivial⟩
theorem sg_19 {k : Nat} (H : HB szs ck cod e T cp mp cm mm cc mc pc (k + 1) m r i j) {x : Nat} (hx : cod (pc + 1) = nI x) (t2 : Tw T (pc + 2) k m r) (t : Tw T x k m r) : SG szs ck cod e T cp mp cm mm cc mc num cel tk rk sum pc (k + 1) i j 19 := by
  obtain ⟨hW, hck, hTe, hpc, hh, hA, hm, hr, h0, hi, hj, hz, m12, r12⟩ := H
  have hp2 := hTe _ _ _ _ t2
  have a0 : cp k = mp k := hA k (by omega)
  have tt : Tw T (if mp k = 0 then x else pc + 2) k m r := by
    by_cases hc : mp k = 0
    · rw [if_pos hc]; exact t
    · rw [if_neg hc]; exact t2
  have eX : f_X1_step cp cm cc (nI (k + 1)) (nI pc) ck (nI (e + 1)) num cel szs tk (nI i) rk (nI j) sum 19 = (1, ((((cp, cm), cc), ((nI k, nI (if mp k = 0 then x else pc + 2)), num)), (((cel, tk), nI i), ((rk, nI j), sum)))) := by
    rw [step_of (wd := 2) (by decide) (by decide) rfl, s60_O (by decide) (by decide), rd1 hW hck (by omega), cO_19, hx, nI_p2]
    simp only [bd_d, popC (show k < 64 by omega), a0]
    by_cases hc : mp k = 0
    · simp only [if_pos hc]
    · simp only [if_neg hc]
  have eY : f_X10_step num cel szs cod tk (nI i) rk (nI j) sum mp (nI (k + 1)) mm mc 0 19 (nI pc) = (nI (if mp k = 0 then x else pc + 2), ((((num, cel), tk), ((nI i, rk), nI j)), (((sum, mp), nI k), ((mm, mc), 0)))) := by
    rw [mS_19, cl1 (by omega), hx, nI_p2]
    simp only [bd_d, popM (show k < 64 by omega)]
    by_cases hc : mp k = 0
    · simp only [if_pos hc]
    · simp only [if_neg hc]
  refine ⟨SP.ok eX eY (by omega) (by omega) (IV.of tt (by omega) (hA.sub (by omega)) hm hr h0), ?_⟩
  rw [mK_19]
  simp only [bdP_d]
  refine ⟨by rw [nI_p1]; exact vp_in_nI (by omega) (by decide), pin (by omega), ?_⟩
  split <;> trivial
theorem sg_20 {k : Nat} (H : HB szs ck cod e T cp mp cm mm cc mc pc (k + 1) m r i j) (t : Tw T (pc + 1) k m r) : SG szs ck cod e T cp mp cm mm cc mc num cel tk rk sum pc (k + 1) i j 20 := by
  obtain ⟨hW, hck, hTe, hpc, hh, hA, hm, hr, h0, hi, hj, hz, m12, r12⟩ := H
  have a0 : cp k = mp k := hA k (by omega)
  obtain ⟨tk', s1, s2⟩ := tellB hi tk (mp k)
  have eX : f_X1_step cp cm cc (nI (k + 1)) (nI pc) ck (nI (e + 1)) num cel szs tk (nI i) rk (nI j) sum 20 = (1, ((((cp, cm), cc), ((nI k, nI (pc + 1)), num)), (((cel, tk'), nI (i + 1)), ((rk, nI j), sum)))) := by
    rw [step_of (wd := 1) (by decide) (by decide) rfl, s60_O (by decide) (by decide), cO_20, nI_p1]
    simp only [bd_d, popC (show k < 64 by omega), a0, s1]
  have eY : f_X10_step num cel szs cod tk (nI i) rk (nI j) sum mp (nI (k + 1)) mm mc 0 20 (nI pc) = (nI (pc + 1), ((((num, cel), tk'), ((nI (i + 1), rk), nI j)), (((sum, mp), nI k), ((mm, mc), 0)))) := by
    rw [mS_20, nI_p1]
    simp only [bd_d, popM (show k < 64 by omega), s2]
  refine ⟨SP.ok eX eY (by omega) (by omega) (IV.of t (by omega) (hA.sub (by omega)) hm hr h0), ?_⟩
  rw [mK_20]
  simp only [bdP_d]
  exact ⟨by rw [nI_p1]; exact vp_in_nI (by omega) (by decide), pin (by omega), ⟨i, hi, rfl⟩, trivial⟩
theorem sg_21 {k : Nat} (H : HB szs ck cod e T cp mp cm mm cc mc pc (k + 1) m r i j) (hv : vp_in (cod (pc + 1)) 4) (t : Tw T (pc + 2) (k + 1) m r) : SG szs ck cod e T cp mp cm mm cc mc num cel tk rk sum pc (k + 1) i j 21 := by
  obtain ⟨hW, hck, hTe, hpc, hh, hA, hm, hr, h0, hi, hj, hz, m12, r12⟩ := H
  have hp2 := hTe _ _ _ _ t
  obtain ⟨⟨rk', sum', s1, s2⟩, -, s3⟩ := rt_eq hz hv mp (show k < 64 by omega) hA cel rk hj sum
  have eX : f_X1_step cp cm cc (nI (k + 1)) (nI pc) ck (nI (e + 1)) num cel szs tk (nI i) rk (nI j) sum 21 = (1, ((((upd cp k (cel ((16 : Int32) * cod (pc + 1) + f_X10_placeOf szs (cod (pc + 1)) (mp k)).toNatClampNeg), cm), cc), ((nI (k + 1), nI (pc + 2)), num)), (((cel, tk), nI i), ((rk', nI (j + 1)), sum')))) := by
    rw [step_of (wd := 2) (by decide) (by decide) rfl, s60_I (by decide) (by decide) (by decide) (by decide), rd1 hW hck (by omega), cI_21, s1, nI_p2]
    simp only [bd_d]
  have eY : f_X10_step num cel szs cod tk (nI i) rk (nI j) sum mp (nI (k + 1)) mm mc 0 21 (nI pc) = (nI (pc + 2), ((((num, cel), tk), ((nI i, rk'), nI (j + 1))), (((sum', upd mp k (cel ((16 : Int32) * cod (pc + 1) + f_X10_placeOf szs (cod (pc + 1)) (mp k)).toNatClampNeg)), nI (k + 1)), ((mm, mc), 0)))) := by
    rw [mS_21, cl1 (by omega), nI_p2]
    simp only [bd_d, popM (show k < 64 by omega), s2, pushM (show k < 64 by omega)]
  refine ⟨SP.ok eX eY (by omega) (by omega) (IV.of t (by omega) ((hA.sub (show k ≤ k + 1 by omega)).up _) hm hr h0), ?_⟩
  rw [mK_21, cl1 (by omega)]
  simp only [bdP_d, popM (show k < 64 by omega)]
  exact ⟨by rw [nI_p1]; exact vp_in_nI (by omega) (by decide), pin (by omega), hz, hv, ⟨j, by omega, rfl⟩, s3, pin0 (by omega), trivial⟩
theorem sg_27 {k : Nat} (H : HB szs ck cod e T cp mp cm mm cc mc pc (k + 1) m r i j) (hv : vp_in (cod (pc + 1)) 4) (t : Tw T (pc + 2) (k + 1) m r) : SG szs ck cod e T cp mp cm mm cc mc num cel tk rk sum pc (k + 1) i j 27 := by
  obtain ⟨hW, hck, hTe, hpc, hh, hA, hm, hr, h0, hi, hj, hz, m12, r12⟩ := H
  have hp2 := hTe _ _ _ _ t
  obtain ⟨-, ⟨rk', sum', j', hj', s1, s2, s4⟩, s3⟩ := rt_eq hz hv mp (show k < 64 by omega) hA cel rk hj sum
  have eX : f_X1_step cp cm cc (nI (k + 1)) (nI pc) ck (nI (e + 1)) num cel szs tk (nI i) rk (nI j) sum 27 = (1, ((((upd cp k (cel ((16 : Int32) * cod (pc + 1) + f_X10_placeOf szs (cod (pc + 1)) (mp k)).toNatClampNeg), cm), cc), ((nI (k + 1), nI (pc + 2)), num)), (((cel, tk), nI i), ((rk', nI j'), sum')))) := by
    rw [step_of (wd := 2) (by decide) (by decide) rfl, s60_I (by decide) (by decide) (by decide) (by decide), rd1 hW hck (by omega), cI_27, s1, nI_p2]
    simp only [bd_d]
  have eY : f_X10_step num cel szs cod tk (nI i) rk (nI j) sum mp (nI (k + 1)) mm mc 0 27 (nI pc) = (nI (pc + 2), ((((num, cel), tk), ((nI i, rk'), nI j')), (((sum', upd mp k (cel ((16 : Int32) * cod (pc + 1) + f_X10_placeOf szs (cod (pc + 1)) (mp k)).toNatClampNeg)), nI (k + 1)), ((mm, mc), 0)))) := by
    rw [mS_27, cl1 (by omega), nI_p2]
    simp only [bd_d, popM (show k < 64 by omega), s2, pushM (show k < 64 by omega)]
  refine ⟨SP.ok eX eY (by omega) (by omega) (IV.of t (by omega) ((hA.sub (show k ≤ k + 1 by omega)).up _) hm hr h0), ?_⟩
  rw [mK_27, cl1 (by omega)]
  simp only [bdP_d, popM (show k < 64 by omega)]
  exact ⟨by rw [nI_p1]; exact vp_in_nI (by omega) (by decide), pin (by omega), hz, hv, s4, s3, pin0 (by omega), trivial⟩
theorem sg_22 {k : Nat} (H : HB szs ck cod e T cp mp cm mm cc mc pc (k + 2) m r i j) (hv : vp_in (cod (pc + 1)) 4) (t : Tw T (pc + 2) k m r) : SG szs ck cod e T cp mp cm mm cc mc num cel tk rk sum pc (k + 2) i j 22 := by
  obtain ⟨hW, hck, hTe, hpc, hh, hA, hm, hr, h0, hi, hj, hz, m12, r12⟩ := H
  have hp2 := hTe _ _ _ _ t
  obtain ⟨cel', rk', sum', j', hj', s1, s2, s3⟩ := wt_eq hz hv (show k + 1 < 64 by omega) hA cel rk hj sum (-1) 0 (Or.inl rfl)
  have eX : f_X1_step cp cm cc (nI (k + 2)) (nI pc) ck (nI (e + 1)) num cel szs tk (nI i) rk (nI j) sum 22 = (1, ((((cp, cm), cc), ((nI k, nI (pc + 2)), num)), (((cel', tk), nI i), ((rk', nI j'), sum')))) := by
    rw [step_of (wd := 2) (by decide) (by decide) rfl, s60_I (by decide) (by decide) (by decide) (by decide), rd1 hW hck (by omega), cI_22, s1, nI_p2]
    simp only [bd_d]
  have eY : f_X10_step num cel szs cod tk (nI i) rk (nI j) sum mp (nI (k + 2)) mm mc 0 22 (nI pc) = (nI (pc + 2), ((((num, cel'), tk), ((nI i, rk'), nI j')), (((sum', mp), nI k), ((mm, mc), 0)))) := by
    rw [mS_22, cl1 (by omega), nI_p2]
    simp only [bd_d, s2]
  refine ⟨SP.ok eX eY (by omega) (by omega) (IV.of t (by omega) (hA.sub (by omega)) hm hr h0), ?_⟩
  rw [mK_22, cl1 (by omega)]
  simp only [bdP_d]
  exact ⟨by rw [nI_p1]; exact vp_in_nI (by omega) (by decide), s3, trivial⟩
theorem sg_26 {k : Nat} (H : HB szs ck cod e T cp mp cm mm cc mc pc (k + 2) m r i j) {x : Nat} (hx : cod (pc + 1) = nI x) (hxm : x ≤ m) (hv : vp_in (cod (pc + 2)) 4) (t : Tw T (pc + 3) k m r) : SG szs ck cod e T cp mp cm mm cc mc num cel tk rk sum pc (k + 2) i j 26 := by
  obtain ⟨hW, hck, hTe, hpc, hh, hA, hm, hr, h0, hi, hj, hz, m12, r12⟩ := H
  have hp2 := hTe _ _ _ _ t
  obtain ⟨cel', rk', sum', j', hj', s1, s2, s3⟩ := wt_eq hz hv (show k + 1 < 64 by omega) hA cel rk hj sum (mm x) 0 (Or.inl rfl)
  have eX : f_X1_step cp cm cc (nI (k + 2)) (nI pc) ck (nI (e + 1)) num cel szs tk (nI i) rk (nI j) sum 26 = (1, ((((cp, cm), cc), ((nI k, nI (pc + 3)), num)), (((cel', tk), nI i), ((rk', nI j'), sum')))) := by
    rw [step_of (wd := 3) (by decide) (by decide) rfl, s60_I (by decide) (by decide) (by decide) (by decide), rd1 hW hck (by omega), rd2 hW hck (by omega), cI_26, hx, mskAt (by omega), hm x hxm, nI_p3]
    simp only [bd_d, s1]
  have eY : f_X10_step num cel szs cod tk (nI i) rk (nI j) sum mp (nI (k + 2)) mm mc 0 26 (nI pc) = (nI (pc + 3), ((((num, cel'), tk), ((nI i, rk'), nI j')), (((sum', mp), nI k), ((mm, mc), 0)))) := by
    rw [mS_26, cl1 (by omega), hx, nI_p3]
    simp only [bd_d, cl_nI (show x < 2 ^ 31 by omega), cl2 (show pc + 2 < 2 ^ 31 by omega), s2]
  refine ⟨SP.ok eX eY (by omega) (by omega) (IV.of t (by omega) (hA.sub (by omega)) hm hr h0), ?_⟩
  rw [mK_26, cl1 (by omega), hx]
  simp only [bdP_d, cl_nI (show x < 2 ^ 31 by omega), cl2 (show pc + 2 < 2 ^ 31 by omega)]
  exact ⟨by rw [nI_p1]; exact vp_in_nI (by omega) (by decide), vp_in_nI (by omega) (by decide), by rw [nI_p2]; exact vp_in_nI (by omega) (by decide), s3, trivial⟩
theorem sg_28 {k : Nat} (H : HB szs ck cod e T cp mp cm mm cc mc pc (k + 2) m r i j) {x : Nat} (hx : cod (pc + 1) = nI x) (hxm : x ≤ m) (hv : vp_in (cod (pc + 2)) 4) (t : Tw T (pc + 3) k m r) : SG szs ck cod e T cp mp cm mm cc mc num cel tk rk sum pc (k + 2) i j 28 := by
  obtain ⟨hW, hck, hTe, hpc, hh, hA, hm, hr, h0, hi, hj, hz, m12, r12⟩ := H
  have hp2 := hTe _ _ _ _ t
  obtain ⟨cel', rk', sum', j', hj', s1, s2, s3⟩ := wt_eq hz hv (show k + 1 < 64 by omega) hA cel rk hj sum (mm x) 1 (Or.inr rfl)
  have eX : f_X1_step cp cm cc (nI (k + 2)) (nI pc) ck (nI (e + 1)) num cel szs tk (nI i) rk (nI j) sum 28 = (1, ((((cp, cm), cc), ((nI k, nI (pc + 3)), num)), (((cel', tk), nI i), ((rk', nI j'), sum')))) := by
    rw [step_of (wd := 3) (by decide) (by decide) rfl, s60_I (by decide) (by decide) (by decide) (by decide), rd1 hW hck (by omega), rd2 hW hck (by omega), cI_28, hx, mskAt (by omega), hm x hxm, nI_p3]
    simp only [bd_d, s1]
  have eY : f_X10_step num cel szs cod tk (nI i) rk (nI j) sum mp (nI (k + 2)) mm mc 0 28 (nI pc) = (nI (pc + 3), ((((num, cel'), tk), ((nI i, rk'), nI j')), (((sum', mp), nI k), ((mm, mc), 0)))) := by
    rw [mS_28, cl1 (by omega), hx, nI_p3]
    simp only [bd_d, cl_nI (show x < 2 ^ 31 by omega), cl2 (show pc + 2 < 2 ^ 31 by omega), s2]
  refine ⟨SP.ok eX eY (by omega) (by omega) (IV.of t (by omega) (hA.sub (by omega)) hm hr h0), ?_⟩
  rw [mK_28, cl1 (by omega), hx]
  simp only [bdP_d, cl_nI (show x < 2 ^ 31 by omega), cl2 (show pc + 2 < 2 ^ 31 by omega)]
  exact ⟨by rw [nI_p1]; exact vp_in_nI (by omega) (by decide), vp_in_nI (by omega) (by decide), by rw [nI_p2]; exact vp_in_nI (by omega) (by decide), s3, trivial⟩
theorem sg_25 {k : Nat} (H : HB szs ck cod e T cp mp cm mm cc mc pc (k + 1) m r i j) {x : Nat} (hx : cod (pc + 1) = nI x) (hxm : x ≤ m) (hv : vp_in (cod (pc + 2)) 10) (t : Tw T (pc + 3) k m r) : SG szs ck cod e T cp mp cm mm cc mc num cel tk rk sum pc (k + 1) i j 25 := by
  obtain ⟨hW, hck, hTe, hpc, hh, hA, hm, hr, h0, hi, hj, hz, m12, r12⟩ := H
  have hp2 := hTe _ _ _ _ t
  have a0 : cp k = mp k := hA k (by omega)
  have eX : f_X1_step cp cm cc (nI (k + 1)) (nI pc) ck (nI (e + 1)) num cel szs tk (nI i) rk (nI j) sum 25 = (1, ((((cp, cm), cc), ((nI k, nI (pc + 3)), upd num (cod (pc + 2)).toNatClampNeg ((num (cod (pc + 2)).toNatClampNeg &&& (mm x ^^^ (-1 : Int32))) ||| (mp k &&& mm x)))), (((cel, tk), nI i), ((rk, nI j), sum)))) := by
    rw [step_of (wd := 3) (by decide) (by decide) rfl, s60_I (by decide) (by decide) (by decide) (by decide), rd1 hW hck (by omega), rd2 hW hck (by omega), cI_25, hx, mskAt (by omega), hm x hxm, nI_p3]
    unfold f_X1_blend
    simp only [bd_d, popC (show k < 64 by omega), a0, numOf hv, asgn hv]
  have eY : f_X10_step num cel szs cod tk (nI i) rk (nI j) sum mp (nI (k + 1)) mm mc 0 25 (nI pc) = (nI (pc + 3), ((((upd num (cod (pc + 2)).toNatClampNeg ((num (cod (pc + 2)).toNatClampNeg &&& (mm x ^^^ (-1 : Int32))) ||| (mp k &&& mm x)), cel), tk), ((nI i, rk), nI j)), (((sum, mp), nI k), ((mm, mc), 0)))) := by
    rw [mS_25, cl1 (by omega), hx, nI_p3]
    simp only [bd_d, cl_nI (show x < 2 ^ 31 by omega), cl2 (show pc + 2 < 2 ^ 31 by omega), popM (show k < 64 by omega)]
  refine ⟨SP.ok eX eY (by omega) (by omega) (IV.of t (by omega) (hA.sub (by omega)) hm hr h0), ?_⟩
  rw [mK_25, cl1 (by omega), hx]
  simp only [bdP_d, cl2 (show pc + 2 < 2 ^ 31 by omega)]
  exact ⟨by rw [nI_p1]; exact vp_in_nI (by omega) (by decide), by rw [nI_p2]; exact vp_in_nI (by omega) (by decide), hv, vp_in_nI (by omega) (by decide), pin (by omega), vp_in_nI (by omega) (by decide), hv, trivial⟩
theorem mup {x m : Nat} (hm : ∀ i, i ≤ m → cm i = mm i) (hx : x ≤ m) (v : Int32) : ∀ i, i ≤ x + 1 → upd cm (x + 1) v i = upd mm (x + 1) v i := by
  intro i hi
  by_cases z : i = x + 1
  · subst z; rw [upd_eq, upd_eq]
  · rw [upd_ne _ _ z, upd_ne _ _ z]; exact hm i (by omega)
theorem sg_23 {k : Nat} (H : HB szs ck cod e T cp mp cm mm cc mc pc (k + 1) m r i j) {x : Nat} (hx : cod (pc + 1) = nI (x + 1)) (hxm : x ≤ m) (hx12 : x < 12) (t : Tw T (pc + 2) k (x + 1) r) : SG szs ck cod e T cp mp cm mm cc mc num cel tk rk sum pc (k + 1) i j 23 := by
  obtain ⟨hW, hck, hTe, hpc, hh, hA, hm, hr, h0, hi, hj, hz, m12, r12⟩ := H
  have hp2 := hTe _ _ _ _ t
  have a0 : cp k = mp k := hA k (by omega)
  have eX : f_X1_step cp cm cc (nI (k + 1)) (nI pc) ck (nI (e + 1)) num cel szs tk (nI i) rk (nI j) sum 23 = (1, ((((cp, upd cm (x + 1) (if mp k = 0 then 0 else mm x)), cc), ((nI k, nI (pc + 2)), num)), (((cel, tk), nI i), ((rk, nI j), sum)))) := by
    rw [step_of (wd := 2) (by decide) (by decide) rfl, s60_I (by decide) (by decide) (by decide) (by decide), rd1 hW hck (by omega), cI_23, hx, nI_p2, nI_pred]
    simp only [bd_d, popC (show k < 64 by omega), a0, setMk hx12, mskAt (show x ≤ 12 by omega), hm x hxm]
    by_cases hc : mp k = 0
    · simp only [if_pos hc]
    · simp only [if_neg hc]
  have eY : f_X10_step num cel szs cod tk (nI i) rk (nI j) sum mp (nI (k + 1)) mm mc 0 23 (nI pc) = (nI (pc + 2), ((((num, cel), tk), ((nI i, rk), nI j)), (((sum, mp), nI k), ((upd mm (x + 1) (if mp k = 0 then 0 else mm x), mc), 0)))) := by
    rw [mS_23, cl1 (by omega), hx, nI_p2]
    simp only [bd_d, popM (show k < 64 by omega), nI_pred, cl_nI (show x + 1 < 2 ^ 31 by omega), cl_nI (show x < 2 ^ 31 by omega)]
    by_cases hc : mp k = 0
    · simp only [if_pos hc]
    · simp only [if_neg hc]
  refine ⟨SP.ok eX eY (by omega) (by omega) (IV.of t (by omega) (hA.sub (by omega)) (mup hm hxm _) hr (by rw [upd_ne _ _ (by omega)]; exact h0)), ?_⟩
  rw [mK_23, cl1 (by omega), hx]
  simp only [bdP_d, nI_pred, popM (show k < 64 by omega)]
  have v0 : vp_in (nI x) 14 := vp_in_nI (by omega) (by decide)
  have v1 : vp_in (nI (x + 1)) 14 := vp_in_nI (by omega) (by decide)
  have v2 : vp_in (nI pc + 1) 4000 := by rw [nI_p1]; exact vp_in_nI (by omega) (by decide)
  have v3 : vp_in (nI k) 200 := pin0 (by omega)
  refine ⟨v2, v3, ?_⟩
  by_cases hc : mp k = 0
  · rw [if_pos hc]
    exact ⟨v1, trivial⟩
  · rw [if_neg hc]
    exact ⟨v0, v1, trivial⟩
theorem sg_24 (H : HB szs ck cod e T cp mp cm mm cc mc pc h m r i j) {x : Nat} (hx : cod (pc + 1) = nI (x + 1)) (hxm : x + 1 ≤ m) (hx12 : x < 12) (t : Tw T (pc + 2) h (x + 1) r) : SG szs ck cod e T cp mp cm mm cc mc num cel tk rk sum pc h i j 24 := by
  obtain ⟨hW, hck, hTe, hpc, hh, hA, hm, hr, h0, hi, hj, hz, m12, r12⟩ := H
  have hp2 := hTe _ _ _ _ t
  have eX : f_X1_step cp cm cc (nI h) (nI pc) ck (nI (e + 1)) num cel szs tk (nI i) rk (nI j) sum 24 = (1, ((((cp, upd cm (x + 1) (mm x &&& (mm (x + 1) ^^^ (-1 : Int32)))), cc), ((nI h, nI (pc + 2)), num)), (((cel, tk), nI i), ((rk, nI j), sum)))) := by
    rw [step_of (wd := 2) (by decide) (by decide) rfl, s60_I (by decide) (by decide) (by decide) (by decide), rd1 hW hck (by omega), cI_24, hx, nI_p2, nI_pred]
    simp only [bd_d, setMk hx12, mskAt (show x ≤ 12 by omega), mskAt (show x + 1 ≤ 12 by omega), hm x (by omega), hm (x + 1) hxm]
  have eY : f_X10_step num cel szs cod tk (nI i) rk (nI j) sum mp (nI h) mm mc 0 24 (nI pc) = (nI (pc + 2), ((((num, cel), tk), ((nI i, rk), nI j)), (((sum, mp), nI h), ((upd mm (x + 1) (mm x &&& (mm (x + 1) ^^^ (-1 : Int32))), mc), 0)))) := by
    rw [mS_24, cl1 (by omega), hx, nI_p2]
    simp only [bd_d, nI_pred, cl_nI (show x + 1 < 2 ^ 31 by omega), cl_nI (show x < 2 ^ 31 by omega)]
  refine ⟨SP.ok eX eY (by omega) (by omega) (IV.of t (by omega) hA (mup hm (show x ≤ m by omega) _) hr (by rw [upd_ne _ _ (by omega)]; exact h0)), ?_⟩
  rw [mK_24, cl1 (by omega), hx]
  simp only [bdP_d, nI_pred]
  exact ⟨by rw [nI_p1]; exact vp_in_nI (by omega) (by decide), vp_in_nI (by omega) (by decide), vp_in_nI (by omega) (by decide), vp_in_nI (by omega) (by decide), trivial⟩
theorem sg_29 (H : HB szs ck cod e T cp mp cm mm cc mc pc h m r i j) {x : Nat} (hx : cod (pc + 1) = nI x) (hxr : x ≤ r) (hx12 : x < 12) (t : Tw T (pc + 2) h m (x + 1)) : SG szs ck cod e T cp mp cm mm cc mc num cel tk rk sum pc h i j 29 := by
  obtain ⟨hW, hck, hTe, hpc, hh, hA, hm, hr, h0, hi, hj, hz, m12, r12⟩ := H
  have hp2 := hTe _ _ _ _ t
  have eX : f_X1_step cp cm cc (nI h) (nI pc) ck (nI (e + 1)) num cel szs tk (nI i) rk (nI j) sum 29 = (1, ((((cp, cm), upd cc x 0), ((nI h, nI (pc + 2)), num)), (((cel, tk), nI i), ((rk, nI j), sum)))) := by
    rw [step_of (wd := 2) (by decide) (by decide) rfl, s60_C (by decide) (by decide) (by decide) (by decide), rd1 hW hck (by omega), hx, nI_p2]
    unfold f_X1_stepCount
    rw [if_neg (nI_pos (by omega)), if_pos (show nI x < (12 : Int32) from nI_lt (b := 12) (by omega) (by decide)), if_pos rfl, cl_nI (by omega)]
    simp only [bd_d]
  have eY : f_X10_step num cel szs cod tk (nI i) rk (nI j) sum mp (nI h) mm mc 0 29 (nI pc) = (nI (pc + 2), ((((num, cel), tk), ((nI i, rk), nI j)), (((sum, mp), nI h), ((mm, upd mc x 0), 0)))) := by
    rw [mS_29, cl1 (by omega), nI_p2, hx]
    simp only [bd_d, cl_nI (show x < 2 ^ 31 by omega)]
  have hr' : ∀ y, y < x + 1 → upd cc x 0 y = upd mc x 0 y := by
    intro y hy
    by_cases z : y = x
    · subst z; rw [upd_eq, upd_eq]
    · rw [upd_ne _ _ z, upd_ne _ _ z]; exact hr y (by omega)
  refine ⟨SP.ok eX eY (by omega) (by omega) (IV.of t (by omega) hA hm hr' h0), ?_⟩
  rw [mK_29, cl1 (by omega), hx]
  simp only [bdP_d]
  exact ⟨by rw [nI_p1]; exact vp_in_nI (by omega) (by decide), vp_in_nI (by omega) (by decide), trivial⟩
theorem sg_31 (H : HB szs ck cod e T cp mp cm mm cc mc pc h m r i j) {x : Nat} (hx : cod (pc + 1) = nI x) (hxr : x < r) (hx12 : x < 12) (t : Tw T (pc + 2) h m r) : SG szs ck cod e T cp mp cm mm cc mc num cel tk rk sum pc h i j 31 := by
  obtain ⟨hW, hck, hTe, hpc, hh, hA, hm, hr, h0, hi, hj, hz, m12, r12⟩ := H
  have hp2 := hTe _ _ _ _ t
  have eX : f_X1_step cp cm cc (nI h) (nI pc) ck (nI (e + 1)) num cel szs tk (nI i) rk (nI j) sum 31 = (1, ((((cp, cm), upd cc x (mc x + 1)), ((nI h, nI (pc + 2)), num)), (((cel, tk), nI i), ((rk, nI j), sum)))) := by
    rw [step_of (wd := 2) (by decide) (by decide) rfl, s60_C (by decide) (by decide) (by decide) (by decide), rd1 hW hck (by omega), hx, nI_p2]
    unfold f_X1_stepCount
    rw [if_neg (nI_pos (by omega)), if_pos (show nI x < (12 : Int32) from nI_lt (b := 12) (by omega) (by decide)), if_neg (show ¬ (31 : Int32) = 29 by decide), if_neg (show ¬ (31 : Int32) = 30 by decide), if_pos rfl, cl_nI (by omega), hr x hxr]
    simp only [bd_d]
  have eY : f_X10_step num cel szs cod tk (nI i) rk (nI j) sum mp (nI h) mm mc 0 31 (nI pc) = (nI (pc + 2), ((((num, cel), tk), ((nI i, rk), nI j)), (((sum, mp), nI h), ((mm, upd mc x (mc x + 1)), 0)))) := by
    rw [mS_31, cl1 (by omega), nI_p2, hx]
    simp only [bd_d, cl_nI (show x < 2 ^ 31 by omega)]
  have hr' : ∀ y, y < r → upd cc x (mc x + 1) y = upd mc x (mc x + 1) y := by
    intro y hy
    by_cases z : y = x
    · subst z; rw [upd_eq, upd_eq]
    · rw [upd_ne _ _ z, upd_ne _ _ z]; exact hr y (by omega)
  refine ⟨SP.ok eX eY (by omega) (by omega) (IV.of t (by omega) hA hm hr' h0), ?_⟩
  rw [mK_31, cl1 (by omega), hx]
  simp only [bdP_d]
  exact ⟨by rw [nI_p1]; exact vp_in_nI (by omega) (by decide), vp_in_nI (by omega) (by decide), vp_in_nI (by omega) (by decide), trivial⟩
theorem sg_all (H : HB szs ck cod e T cp mp cm mm cc mc pc h m r i j) (s : SO cod (Tw T) e pc h m r) : ¬ cod pc = 0 ∧ SG szs ck cod e T cp mp cm mm cc mc num cel tk rk sum pc h i j (cod pc) := by
  unfold SO at s
  rcases s with s | s | s | s | s | s | s | s | s | s | s | s | s | s | s | s | s | s
  · obtain ⟨o, s1, s2⟩ := s
    rw [o]; exact ⟨by decide, sg_1 H s1 s2⟩
  · obtain ⟨o, s1, s2, s3⟩ := s
    rw [o]; exact ⟨by decide, sg_2 H s1 s2 s3⟩
  · obtain ⟨o, ⟨k, rfl, s1⟩, s2⟩ := s
    rw [o]; exact ⟨by decide, sg_3 H s2 s1⟩
  · obtain ⟨o, k, rfl, s1⟩ := s
    exact ⟨(bin_ne o).2.2.2.2.2.2.2, sg_b H o s1⟩
  · obtain ⟨o, k, rfl, s1⟩ := s
    rw [o]; exact ⟨by decide, sg_14 H s1⟩
  · obtain ⟨o, k, rfl, s1⟩ := s
    rw [o]; exact ⟨by decide, sg_17 H s1⟩
  · obtain ⟨o, s1, x, s2, s3⟩ := s
    rw [o]; exact ⟨by decide, sg_18 H s1 s2 s3⟩
  · obtain ⟨o, k, x, rfl, s1, s2, s3⟩ := s
    rw [o]; exact ⟨by decide, sg_19 H s2 s1 s3⟩
  · obtain ⟨o, k, rfl, s1⟩ := s
    rw [o]; exact ⟨by decide, sg_20 H s1⟩
  · obtain ⟨o, ⟨k, rfl, s1⟩, s2⟩ := s
    rcases o with o | o
    · rw [o]; exact ⟨by decide, sg_21 H s2 s1⟩
    · rw [o]; exact ⟨by decide, sg_27 H s2 s1⟩
  · obtain ⟨o, ⟨k, rfl, s1⟩, s2⟩ := s
    rw [o]; exact ⟨by decide, sg_22 H s2 s1⟩
  · obtain ⟨o, ⟨k, rfl, s1⟩, ⟨x, s2, s3⟩, s4⟩ := s
    rcases o with o | o
    · rw [o]; exact ⟨by decide, sg_26 H s2 s3 s4 s1⟩
    · rw [o]; exact ⟨by decide, sg_28 H s2 s3 s4 s1⟩
  · obtain ⟨o, ⟨k, rfl, s1⟩, ⟨x, s2, s3⟩, s4⟩ := s
    rw [o]; exact ⟨by decide, sg_25 H s2 s3 s4 s1⟩
  · obtain ⟨o, k, x, rfl, s2, s3, s4, s5⟩ := s
    rw [o]; exact ⟨by decide, sg_23 H s2 s3 s4 s5⟩
  · obtain ⟨o, x, s2, s3, s4, s5⟩ := s
    rw [o]; exact ⟨by decide, sg_24 H s2 s3 s4 s5⟩
  · obtain ⟨o, x, s2, s3, s4, s5⟩ := s
    rw [o]; exact ⟨by decide, sg_29 H s2 s3 s4 s5⟩
  · obtain ⟨o, s1, x, s2, s3, s4, s5⟩ := s
    rw [o]; exact ⟨by decide, sg_30 H s1 s2 s3 s4 s5⟩
  · obtain ⟨o, x, s2, s3, s4, s5⟩ := s
    rw [o]; exact ⟨by decide, sg_31 H s2 s3 s4 s5⟩
end ST
