abbrev S_Mdl : Type := ((((((Nat → Int32) × Int32) × ((Nat → Int32) × (Nat → Int32))) × (((Nat → Int32) × (Nat → Int32)) × (Nat → Int32))) × ((((Nat → Int32) × (Nat → Int32)) × Int32) × ((Int32 × Int32) × Int32))) × ((((Int32 × Int32) × ((Nat → Int32) × Int32)) × (((Nat → Int32) × Int32) × Int64)) × ((((Nat → Int32) × Int32) × (Nat → Int32)) × (((Nat → Int32) × Int32) × Int32))))
def w_Mdl (a : Nat → Nat) (g : GG) (σ : S_Mdl) : va_W := [(a 0, .inr (9, [.ref (a 1), .int σ.1.1.1.1.2, .ref (a 2), .ref (a 3), .ref (a 4), .ref (a 5), .ref (a 6), .ref (a 7), .ref (a 8), .int σ.1.2.1.2, .int σ.1.2.2.1.1, .int σ.1.2.2.1.2, .int σ.1.2.2.2, .int σ.2.1.1.1.1, .int σ.2.1.1.1.2, .ref (a 9), .int σ.2.1.1.2.2, .ref (a 10), .int σ.2.1.2.1.2, .long σ.2.1.2.2, .ref (a 11), .int σ.2.2.1.1.2, .ref (a 12), .ref (a 13), .int σ.2.2.2.1.2, .int σ.2.2.2.2])), (a 1, .inl (g.2.1, 400, .inl σ.1.1.1.1.1)), (a 2, .inl (g.2.2, 10, .inl σ.1.1.1.2.1)), (a 3, .inl (g.2.2, 4, .inl σ.1.1.1.2.2)), (a 4, .inl (g.2.1, 10, .inl σ.1.1.2.1.1)), (a 5, .inl (g.2.1, 64, .inl σ.1.1.2.1.2)), (a 6, .inl (g.2.1, 4, .inl σ.1.1.2.2)), (a 7, .inl (g.2.1, 400, .inl σ.1.2.1.1.1)), (a 8, .inl (g.2.1, 4000, .inl σ.1.2.1.1.2)), (a 9, .inl (g.2.1, 300, .inl σ.2.1.1.2.1)), (a 10, .inl (g.2.1, 5000, .inl σ.2.1.2.1.1)), (a 11, .inl (g.2.1, 200, .inl σ.2.2.1.1.1)), (a 12, .inl (g.2.1, 14, .inl σ.2.2.1.2)), (a 13, .inl (g.2.1, 14, .inl σ.2.2.2.1.1))]
def f_X10_isIn (x1 : Int32) (x2 : Int32) (x3 : Int32) : Int32 := if x1 < x2 then ((0 : Int32)) else if x3 < x1 then ((0 : Int32)) else ((1 : Int32))
def rb_X10_isIn (σ : Unit) (o : Int32) : Int32 × Unit := (o, ())
set_option maxHeartbeats 4000000 in
set_option maxRecDepth 100000 in
theorem c_X10_isIn (l : Launch) (g : GG) (x1 : Int32) (x2 : Int32) (x3 : Int32) : CI l g yX10_isIn cX10_isIn 3 (some .boolean) (rmN 0) (fun _ : Unit => []) [.int x1, .int x2, .int x3] () (rb_X10_isIn () (f_X10_isIn x1 x2 x3)) := by
  refine CI.mk (by decide) (Nat.le_of_ble_eq_true rfl) ?_
  intro p e s m below meth c A ls hI hw hl
  have hx := hI.1
  have hb := hI.2.1
  obtain ⟨r, hr⟩ : ∃ r, r = rb_X10_isIn () (f_X10_isIn x1 x2 x3) := ⟨_, rfl⟩
  rw [← hr]
  have hl : lv_has ls 3 [(0, .int x1), (1, .int x2), (2, .int x3)] := hl
  refine lv_iload_n hx hb dX10_isIn_0 rfl (lv_at hl 0 rfl) ?_
  refine lv_iload_n hx hb dX10_isIn_1 rfl (lv_at hl 1 rfl) ?_
  refine lv_icmp_lt (tgt := 14) hx hb dX10_isIn_2 (by decide) (fun c1 => ?_) (fun c1 => ?_)
  · refine lv_iconst (v := (0 : Int32)) hx hb dX10_isIn_14 (by decide) ?_
    exact hI.retZ (u := ()) hw rfl (hr.trans (congrArg (rb_X10_isIn ()) ((show f_X10_isIn x1 x2 x3 = ((0 : Int32)) from it_t c1 (rfl))))) dX10_isIn_15
  · refine lv_iload_n hx hb dX10_isIn_5 rfl (lv_at hl 0 rfl) ?_
    refine lv_iload_n hx hb dX10_isIn_6 rfl (lv_at hl 2 rfl) ?_
    refine lv_icmp_gt (tgt := 14) hx hb dX10_isIn_7 (by decide) (fun c2 => ?_) (fun c2 => ?_)
    · refine lv_iconst (v := (0 : Int32)) hx hb dX10_isIn_14 (by decide) ?_
      exact hI.retZ (u := ()) hw rfl (hr.trans (congrArg (rb_X10_isIn ()) ((show f_X10_isIn x1 x2 x3 = ((0 : Int32)) from it_f c1 (it_t c2 (rfl)))))) dX10_isIn_15
    · refine lv_iconst (v := (1 : Int32)) hx hb dX10_isIn_10 (by decide) ?_
      refine lv_goto (tgt := 15) hx hb dX10_isIn_11 (by decide) ?_
      exact hI.retZ (u := ()) hw rfl (hr.trans (congrArg (rb_X10_isIn ()) ((show f_X10_isIn x1 x2 x3 = ((1 : Int32)) from it_f c1 (it_f c2 (rfl)))))) dX10_isIn_15
def f_X10_operands (x1 : Int32) : Int32 := if x1 = (32 : Int32) then ((1 : Int32)) else if x1 = (36 : Int32) then ((3 : Int32)) else ((2 : Int32))
def rb_X10_operands (σ : Unit) (o : Int32) : Int32 × Unit := (o, ())
set_option maxHeartbeats 4000000 in
set_option maxRecDepth 100000 in
theorem c_X10_operands (l : Launch) (g : GG) (x1 : Int32) : CI l g yX10_operands cX10_operands 1 (some .int) (rmN 0) (fun _ : Unit => []) [.int x1] () (rb_X10_operands () (f_X10_operands x1)) := by
  refine CI.mk (by decide) (Nat.le_of_ble_eq_true rfl) ?_
  intro p e s m below meth c A ls hI hw hl
  have hx := hI.1
  have hb := hI.2.1
  obtain ⟨r, hr⟩ : ∃ r, r = rb_X10_operands () (f_X10_operands x1) := ⟨_, rfl⟩
  rw [← hr]
  have hl : lv_has ls 1 [(0, .int x1)] := hl
  refine lv_iload_n hx hb dX10_operands_0 rfl (lv_at hl 0 rfl) ?_
  refine lv_bipush (v := (32 : Int32)) hx hb dX10_operands_1 (by decide) ?_
  refine lv_icmp_ne (tgt := 10) hx hb dX10_operands_3 (by decide) (fun c1 => ?_) (fun c1 => ?_)
  · refine lv_iload_n hx hb dX10_operands_10 rfl (lv_at hl 0 rfl) ?_
    refine lv_bipush (v := (36 : Int32)) hx hb dX10_operands_11 (by decide) ?_
    refine lv_icmp_ne (tgt := 20) hx hb dX10_operands_13 (by decide) (fun c2 => ?_) (fun c2 => ?_)
    · refine lv_iconst (v := (2 : Int32)) hx hb dX10_operands_20 (by decide) ?_
      exact hI.retI (u := ()) hw (hr.trans (congrArg (rb_X10_operands ()) ((show f_X10_operands x1 = ((2 : Int32)) from it_f c1 (it_f c2 (rfl)))))) dX10_operands_21
    · refine lv_iconst (v := (3 : Int32)) hx hb dX10_operands_16 (by decide) ?_
      refine lv_goto (tgt := 21) hx hb dX10_operands_17 (by decide) ?_
      exact hI.retI (u := ()) hw (hr.trans (congrArg (rb_X10_operands ()) ((show f_X10_operands x1 = ((3 : Int32)) from it_f c1 (it_t c2 (rfl)))))) dX10_operands_21
  · refine lv_iconst (v := (1 : Int32)) hx hb dX10_operands_6 (by decide) ?_
    refine lv_goto (tgt := 21) hx hb dX10_operands_7 (by decide) ?_
    exact hI.retI (u := ()) hw (hr.trans (congrArg (rb_X10_operands ()) ((show f_X10_operands x1 = ((1 : Int32)) from it_t c1 (rfl))))) dX10_operands_21
def f_J9_min (x1 x2 : Int32) : Int32 := if x2 < x1 then x2 else x1
def f_J9_max (x1 x2 : Int32) : Int32 := if x1 < x2 then x2 else x1
theorem in_isIn {v lo hi : Int32} (h : ¬ f_X10_isIn v lo hi = 0) : ¬ v < lo ∧ ¬ hi < v := by
  unfold f_X10_isIn at h
  split at h
  · exact absurd rfl h
  · split at h
    · exact absurd rfl h
    · exact ⟨‹_›, ‹_›⟩
theorem isin_in {v hi : Int32} {N : Nat} (hN : hi < nI N) (hN2 : N < 2 ^ 31) (h : ¬ f_X10_isIn v 0 hi = 0) : vp_in v N := by
  obtain ⟨h1, h2⟩ := in_isIn h
  exact vin_c h1 (fun z => h2 (Int32.lt_of_lt_of_le hN z)) hN2
/-- a number that is not negative, and at most n -/
def UpTo (n : Nat) (x : Int32) : Prop := ∃ k : Nat, k ≤ n ∧ x = nI k
/-- the sizes of the tables -/
def SZ (szs : Nat → Int32) : Prop := ∀ j : Nat, j < 4 → ∃ k : Nat, 1 ≤ k ∧ k ≤ 16 ∧ szs j = nI k
theorem SZ.at {szs : Nat → Int32} (h : SZ szs) {t : Int32} (ht : vp_in t 4) : ∃ k : Nat, 1 ≤ k ∧ k ≤ 16 ∧ szs t.toNatClampNeg = nI k := by
  obtain ⟨j, hj, rfl⟩ := vp_in_of ht (by decide)
  rw [nI_clamp (by omega)]
  exact h j hj
theorem SZ.in {szs : Nat → Int32} (h : SZ szs) {t i : Int32} (ht : ¬ f_X10_isIn t 0 3 = 0) (hi : ¬ f_X10_isIn i 0 (szs t.toNatClampNeg - 1) = 0) : vp_in (16 * t + i) 64 := by
  have ht' : vp_in t 4 := isin_in (by decide) (by decide) ht
  obtain ⟨k, h1, h2, h3⟩ := h.at ht'
  rw [h3] at hi
  obtain ⟨j, rfl⟩ : ∃ j, k = j + 1 := ⟨k - 1, by omega⟩
  rw [show (1 : Int32) = 1 from rfl, nI_pred] at hi
  exact cell_in ht' (isin_in (nI_lt (by omega) (by decide)) (by decide) hi)
theorem upto_in {n N : Nat} {x : Int32} (h : UpTo n x) (hne : ¬ x = nI n) (hn : n ≤ N) (hN : N < 2 ^ 31) : vp_in x N := by
  obtain ⟨k, hk, rfl⟩ := h
  have : k ≠ n := fun e => hne (by rw [e])
  exact vp_in_nI (by omega) hN
theorem upto_is {n N : Nat} {w i : Int32} (h : UpTo n w) (hn : n ≤ N) (hN : N < 2 ^ 31) (hi : ¬ f_X10_isIn i 0 (w - 1) = 0) : vp_in i N := by
  obtain ⟨k, hk, rfl⟩ := h
  cases k with
  | zero =>
    obtain ⟨h1, h2⟩ := in_isIn hi
    refine absurd ?_ h2
    have : (nI 0 - 1 : Int32) = -1 := by decide
    rw [this]
    refine Int32.lt_iff_toInt_lt.mpr ?_
    have h3 := Int32.not_lt.mp h1
    have h4 := Int32.le_iff_toInt_le.mp h3
    have e0 : (0 : Int32).toInt = 0 := by decide
    have e1 : (-1 : Int32).toInt = -1 := by decide
    omega
  | succ j =>
    rw [show (1 : Int32) = 1 from rfl, nI_pred] at hi
    exact isin_in (nI_lt (by omega) hN) hN hi
theorem min_upto {x y : Int32} {n N : Nat} (h : UpTo N x) (hy : y = nI n) (hn : n < 2 ^ 31) (hN : N < 2 ^ 31) : UpTo n (f_J9_min x y) := by
  obtain ⟨k, hk, rfl⟩ := h
  subst hy
  unfold f_J9_min
  split
  · exact ⟨n, Nat.le_refl _, rfl⟩
  · exact ⟨k, by
      rcases Nat.lt_or_ge n k with z | z
      · exact absurd (nI_lt z (by omega)) ‹_›
      · exact z, rfl⟩
theorem upto_lt {n N : Nat} {x : Int32} (h : UpTo n x) (hlt : ¬ nI N ≤ x) (hn : n < 2 ^ 31) (hN : N < 2 ^ 31) : vp_in x N := by
  obtain ⟨k, hk, rfl⟩ := h
  exact vp_in_nI (Nat.lt_of_not_le fun z => hlt (nI_le z (by omega))) hN
def f_X10_variable (sv : Nat → Int32) (has : Int32) (x1 : Int32) (x2 : Int32) : Int32 × ((Nat → Int32) × Int32) := bd (f_X10_isIn x1 (0 : Int32) (9 : Int32)) (fun o1 => if o1 = 0 then ((-2 : Int32), (sv, has)) else if (sv x1.toNatClampNeg) = 0 then ((0 : Int32), (upd sv x1.toNatClampNeg (vp_nar .boolean x2), (0 : Int32))) else ((1 : Int32), (upd sv x1.toNatClampNeg (vp_nar .boolean x2), (0 : Int32))))
def rb_X10_variable (σ : S_Mdl) (o : Int32 × ((Nat → Int32) × Int32)) : Int32 × S_Mdl := (o.1, (((((σ.1.1.1.1.1, σ.1.1.1.1.2), (o.2.1, σ.1.1.1.2.2)), ((σ.1.1.2.1.1, σ.1.1.2.1.2), σ.1.1.2.2)), (((σ.1.2.1.1.1, σ.1.2.1.1.2), σ.1.2.1.2), ((o.2.2, σ.1.2.2.1.2), σ.1.2.2.2))), ((((σ.2.1.1.1.1, σ.2.1.1.1.2), (σ.2.1.1.2.1, σ.2.1.1.2.2)), ((σ.2.1.2.1.1, σ.2.1.2.1.2), σ.2.1.2.2)), (((σ.2.2.1.1.1, σ.2.2.1.1.2), σ.2.2.1.2), ((σ.2.2.2.1.1, σ.2.2.2.1.2), σ.2.2.2.2)))))
set_option maxHeartbeats 4000000 in
set_option maxRecDepth 100000 in
theorem c_X10_variable (l : Launch) (g : GG) (a : Nat → Nat) (text : Nat → Int32) (size : Int32) (sv : Nat → Int32) (stb : Nat → Int32) (var : Nat → Int32) (tab : Nat → Int32) (szs : Nat → Int32) (prg : Nat → Int32) (cod : Nat → Int32) (words : Int32) (has : Int32) (fpl : Int32) (pos : Int32) (fault : Int32) (plc : Int32) (tol : Nat → Int32) (tmany : Int32) (trc : Nat → Int32) (rmany : Int32) (mark : Int64) (pil : Nat → Int32) (pmany : Int32) (mks : Nat → Int32) (cts : Nat → Int32) (turns : Int32) (stop : Int32) (x1 : Int32) (x2 : Int32) : CI l g yX10_variable cX10_variable 4 (some .int) (rmN 1) (w_Mdl a g) [.ref (a 0), .int x1, .int x2] (((((text, size), (sv, stb)), ((var, tab), szs)), (((prg, cod), words), ((has, fpl), pos))), ((((fault, plc), (tol, tmany)), ((trc, rmany), mark)), (((pil, pmany), mks), ((cts, turns), stop)))) (rb_X10_variable (((((text, size), (sv, stb)), ((var, tab), szs)), (((prg, cod), words), ((has, fpl), pos))), ((((fault, plc), (tol, tmany)), ((trc, rmany), mark)), (((pil, pmany), mks), ((cts, turns), stop)))) (f_X10_variable sv has x1 x2)) := by
  refine CI.mk (by decide) (Nat.le_of_ble_eq_true rfl) ?_
  intro p e s m below meth c A ls hI hw hl
  have hx := hI.1
  have hb := hI.2.1
  obtain ⟨r, hr⟩ : ∃ r, r = rb_X10_variable (((((text, size), (sv, stb)), ((var, tab), szs)), (((prg, cod), words), ((has, fpl), pos))), ((((fault, plc), (tol, tmany)), ((trc, rmany), mark)), (((pil, pmany), mks), ((cts, turns), stop)))) (f_X10_variable sv has x1 x2) := ⟨_, rfl⟩
  rw [← hr]
  have hl : lv_has ls 4 [(0, .ref (a 0)), (1, .int x1), (2, .int x2)] := hl
  refine lv_iload_n hx hb dX10_variable_0 rfl (lv_at hl 1 rfl) ?_
  refine lv_iconst (v := (0 : Int32)) hx hb dX10_variable_1 (by decide) ?_
  refine lv_bipush (v := (9 : Int32)) hx hb dX10_variable_2 (by decide) ?_
  obtain ⟨o1, ho1⟩ : ∃ o, o = f_X10_isIn x1 (0 : Int32) (9 : Int32) := ⟨_, rfl⟩
  refine hI.callSI (r := o1) (As := [.int x1, .int (0 : Int32), .int (9 : Int32)]) (rest := []) hw (by rw [ho1]; exact c_X10_isIn l g x1 (0 : Int32) (9 : Int32)) ok_yX10_isIn ml_X10_54 (rm_ok (by decide) (by decide)) rfl rfl hl.1 (Nat.le_of_ble_eq_true rfl) dX10_variable_4 ⟨Nat.zero_le _, Nat.zero_le _⟩ (fun H locs hw => ?_)
  refine lv_if_ne (tgt := 13) hx hb dX10_variable_7 (by decide) (fun c2 => ?_) (fun c2 => ?_)
  · refine lv_aload_n hx hb dX10_variable_13 rfl (lv_at hl 0 rfl) ?_
    refine hI.get (v := .ref (a 2)) hw fg_X10_13 0 rfl rfl dX10_variable_14 ?_
    refine lv_iload_n hx hb dX10_variable_17 rfl (lv_at hl 1 rfl) ?_
    refine hI.zald hw 2 rfl (isin_in (hi := (9 : Int32)) (by decide) (by decide) (by rw [← ho1]; exact c2)) dX10_variable_18 ?_
    refine lv_istore_n (lv' := [(3, .int (sv x1.toNatClampNeg)), (0, .ref (a 0)), (1, .int x1), (2, .int x2)]) hx hb dX10_variable_19 rfl hl (by decide) rfl (fun ls hl => ?_)
    refine lv_aload_n hx hb dX10_variable_20 rfl (lv_at hl 1 rfl) ?_
    refine hI.get (v := .ref (a 2)) hw fg_X10_13 0 rfl rfl dX10_variable_21 ?_
    refine lv_iload_n hx hb dX10_variable_24 rfl (lv_at hl 2 rfl) ?_
    refine lv_iload_n hx hb dX10_variable_25 rfl (lv_at hl 3 rfl) ?_
    refine hI.zast hw 2 rfl (isin_in (hi := (9 : Int32)) (by decide) (by decide) (by rw [← ho1]; exact c2)) dX10_variable_26 (fun H locs hw => ?_)
    have hw : Wd g A s (w_Mdl a g (((((text, size), (upd sv x1.toNatClampNeg (vp_nar .boolean x2), stb)), ((var, tab), szs)), (((prg, cod), words), ((has, fpl), pos))), ((((fault, plc), (tol, tmany)), ((trc, rmany), mark)), (((pil, pmany), mks), ((cts, turns), stop))))) H locs := hw
    refine lv_aload_n hx hb dX10_variable_27 rfl (lv_at hl 1 rfl) ?_
    refine lv_iconst (v := (0 : Int32)) hx hb dX10_variable_28 (by decide) ?_
    refine hI.put hw fp_X10_58 rfl 0 rfl rfl rfl (Nat.le_of_ble_eq_true rfl) dX10_variable_29 (fun H locs hw => ?_)
    have hw : Wd g A s (w_Mdl a g (((((text, size), (upd sv x1.toNatClampNeg (vp_nar .boolean x2), stb)), ((var, tab), szs)), (((prg, cod), words), (((0 : Int32), fpl), pos))), ((((fault, plc), (tol, tmany)), ((trc, rmany), mark)), (((pil, pmany), mks), ((cts, turns), stop))))) H locs := hw
    refine lv_iload_n hx hb dX10_variable_32 rfl (lv_at hl 0 rfl) ?_
    refine lv_if_eq (tgt := 40) hx hb dX10_variable_33 (by decide) (fun c3 => ?_) (fun c3 => ?_)
    · refine lv_iconst (v := (0 : Int32)) hx hb dX10_variable_40 (by decide) ?_
      exact hI.retI (u := (((((text, size), (upd sv x1.toNatClampNeg (vp_nar .boolean x2), stb)), ((var, tab), szs)), (((prg, cod), words), (((0 : Int32), fpl), pos))), ((((fault, plc), (tol, tmany)), ((trc, rmany), mark)), (((pil, pmany), mks), ((cts, turns), stop))))) hw (hr.trans (congrArg (rb_X10_variable (((((text, size), (sv, stb)), ((var, tab), szs)), (((prg, cod), words), ((has, fpl), pos))), ((((fault, plc), (tol, tmany)), ((trc, rmany), mark)), (((pil, pmany), mks), ((cts, turns), stop))))) ((show f_X10_variable sv has x1 x2 = ((0 : Int32), (upd sv x1.toNatClampNeg (vp_nar .boolean x2), (0 : Int32))) from bd_of ho1 (it_f c2 (it_t c3 (rfl))))))) dX10_variable_41
    · refine lv_iconst (v := (1 : Int32)) hx hb dX10_variable_36 (by decide) ?_
      refine lv_goto (tgt := 41) hx hb dX10_variable_37 (by decide) ?_
      exact hI.retI (u := (((((text, size), (upd sv x1.toNatClampNeg (vp_nar .boolean x2), stb)), ((var, tab), szs)), (((prg, cod), words), (((0 : Int32), fpl), pos))), ((((fault, plc), (tol, tmany)), ((trc, rmany), mark)), (((pil, pmany), mks), ((cts, turns), stop))))) hw (hr.trans (congrArg (rb_X10_variable (((((text, size), (sv, stb)), ((var, tab), szs)), (((prg, cod), words), ((has, fpl), pos))), ((((fault, plc), (tol, tmany)), ((trc, rmany), mark)), (((pil, pmany), mks), ((cts, turns), stop))))) ((show f_X10_variable sv has x1 x2 = ((1 : Int32), (upd sv x1.toNatClampNeg (vp_nar .boolean x2), (0 : Int32))) from bd_of ho1 (it_f c2 (it_f c3 (rfl))))))) dX10_variable_41
  · refine lv_bipush (v := (-2 : Int32)) hx hb dX10_variable_10 (by decide) ?_
    exact hI.retI (u := (((((text, size), (sv, stb)), ((var, tab), szs)), (((prg, cod), words), ((has, fpl), pos))), ((((fault, plc), (tol, tmany)), ((trc, rmany), mark)), (((pil, pmany), mks), ((cts, turns), stop))))) hw (hr.trans (congrArg (rb_X10_variable (((((text, size), (sv, stb)), ((var, tab), szs)), (((prg, cod), words), ((has, fpl), pos))), ((((fault, plc), (tol, tmany)), ((trc, rmany), mark)), (((pil, pmany), mks), ((cts, turns), stop))))) ((show f_X10_variable sv has x1 x2 = ((-2 : Int32), (sv, has)) from bd_of ho1 (it_t c2 (rfl)))))) dX10_variable_12
def f_X10_table_47  : Nat → (Nat → Int32) → (Nat → Int32) → (Nat → Int32) → Int32 → Int32 → Int32 → Int32 → (Int32 × (((Nat → Int32) × (Nat → Int32)) × ((Nat → Int32) × Int32)))
  | 0, stb, tab, szs, has, y1, y4, y5 => (0, ((stb, tab), (szs, has)))
  | k + 1, stb, tab, szs, has, y1, y4, y5 => if (16 : Int32) ≤ y5 then (y4, ((stb, tab), (szs, (0 : Int32)))) else f_X10_table_47 k stb (upd tab (((16 : Int32) * y1) + y5).toNatClampNeg (0 : Int32)) szs has y1 y4 (y5 + (1 : Int32))
def f_X10_table (stb : Nat → Int32) (tab : Nat → Int32) (szs : Nat → Int32) (has : Int32) (x1 : Int32) (x2 : Int32) (x3 : Int32) : Int32 × (((Nat → Int32) × (Nat → Int32)) × ((Nat → Int32) × Int32)) := bd (f_X10_isIn x1 (0 : Int32) (3 : Int32)) (fun o1 => if o1 = 0 then ((-2 : Int32), ((stb, tab), (szs, has))) else bd (f_X10_isIn x3 (1 : Int32) (16 : Int32)) (fun o3 => if o3 = 0 then ((-2 : Int32), ((stb, tab), (szs, has))) else f_X10_table_47 17 (upd stb x1.toNatClampNeg (vp_nar .boolean x2)) tab (upd szs x1.toNatClampNeg x3) has x1 (szs x1.toNatClampNeg) (0 : Int32)))
def rb_X10_table (σ : S_Mdl) (o : Int32 × (((Nat → Int32) × (Nat → Int32)) × ((Nat → Int32) × Int32))) : Int32 × S_Mdl := (o.1, (((((σ.1.1.1.1.1, σ.1.1.1.1.2), (σ.1.1.1.2.1, o.2.1.1)), ((σ.1.1.2.1.1, o.2.1.2), o.2.2.1)), (((σ.1.2.1.1.1, σ.1.2.1.1.2), σ.1.2.1.2), ((o.2.2.2, σ.1.2.2.1.2), σ.1.2.2.2))), ((((σ.2.1.1.1.1, σ.2.1.1.1.2), (σ.2.1.1.2.1, σ.2.1.1.2.2)), ((σ.2.1.2.1.1, σ.2.1.2.1.2), σ.2.1.2.2)), (((σ.2.2.1.1.1, σ.2.2.1.1.2), σ.2.2.1.2), ((σ.2.2.2.1.1, σ.2.2.2.1.2), σ.2.2.2.2)))))
set_option maxHeartbeats 4000000 in
set_option maxRecDepth 100000 in
theorem lp_X10_table_47 (l : Launch) (g : GG) (a : Nat → Nat) (text : Nat → Int32) (size : Int32) (sv : Nat → Int32) (stb₀ : Nat → Int32) (var : Nat → Int32) (tab₀ : Nat → Int32) (szs₀ : Nat → Int32) (prg : Nat → Int32) (cod : Nat → Int32) (words : Int32) (has₀ : Int32) (fpl : Int32) (pos : Int32) (fault : Int32) (plc : Int32) (tol : Nat → Int32) (tmany : Int32) (trc : Nat → Int32) (rmany : Int32) (mark : Int64) (pil : Nat → Int32) (pmany : Int32) (mks : Nat → Int32) (cts : Nat → Int32) (turns : Int32) (stop : Int32)  {p : Program} {e : Env} {s : State} {m : MethodId} {args : Array Value} {below : List Frame} {meth : Method} {c : Code} {A : Nat → Prop} (hI : InM p s m args meth c RX10 cX10_table 6 (some .int) g A) : ∀ (k : Nat) (stb : Nat → Int32) (tab : Nat → Int32) (szs : Nat → Int32) (has : Int32) (y1 : Int32) (y4 : Int32) (y5 : Int32), (cnt 16 k y5 ∧ vp_in y1 4) → ∀ (r : Int32 × S_Mdl), r = rb_X10_table (((((text, size), (sv, stb₀)), ((var, tab₀), szs₀)), (((prg, cod), words), ((has₀, fpl), pos))), ((((fault, plc), (tol, tmany)), ((trc, rmany), mark)), (((pil, pmany), mks), ((cts, turns), stop)))) (f_X10_table_47 k stb tab szs has y1 y4 y5) → ∀ (H : Heap) (locs : List Loc), Wd g A s (w_Mdl a g (((((text, size), (sv, stb)), ((var, tab), szs)), (((prg, cod), words), ((has, fpl), pos))), ((((fault, plc), (tol, tmany)), ((trc, rmany), mark)), (((pil, pmany), mks), ((cts, turns), stop))))) H locs → ∀ (ls : Array Slot), lv_has ls 6 [(0, .ref (a 0)), (1, .int y1), (4, .int y4), (5, .int y5)] → W p l e (rmN 1) s m args below meth c H locs 0 0 (QI g (w_Mdl a g) A r below args s) (F0 m 47 ls []) := by
  have hx := hI.1
  have hb := hI.2.1
  intro k
  induction k with
  | zero =>
    intro stb tab szs has y1 y4 y5 hc
    exact absurd hc.1 cnt_n
  | succ k ih =>
    intro stb tab szs has y1 y4 y5 hc r hr H locs hw ls hl
    refine lv_iload hx hb dX10_table_47 (lv_at hl 3 rfl) ?_
    refine lv_bipush (v := (16 : Int32)) hx hb dX10_table_49 (by decide) ?_
    refine lv_icmp_ge (tgt := 73) hx hb dX10_table_51 (by decide) (fun c5 => ?_) (fun c5 => ?_)
    · refine lv_aload_n hx hb dX10_table_73 rfl (lv_at hl 0 rfl) ?_
      refine lv_iconst (v := (0 : Int32)) hx hb dX10_table_74 (by decide) ?_
      refine hI.put hw fp_X10_58 rfl 0 rfl rfl rfl (Nat.le_of_ble_eq_true rfl) dX10_table_75 (fun H locs hw => ?_)
      have hw : Wd g A s (w_Mdl a g (((((text, size), (sv, stb)), ((var, tab), szs)), (((prg, cod), words), (((0 : Int32), fpl), pos))), ((((fault, plc), (tol, tmany)), ((trc, rmany), mark)), (((pil, pmany), mks), ((cts, turns), stop))))) H locs := hw
      refine lv_iload hx hb dX10_table_78 (lv_at hl 2 rfl) ?_
      exact hI.retI (u := (((((text, size), (sv, stb)), ((var, tab), szs)), (((prg, cod), words), (((0 : Int32), fpl), pos))), ((((fault, plc), (tol, tmany)), ((trc, rmany), mark)), (((pil, pmany), mks), ((cts, turns), stop))))) hw (hr.trans (congrArg (rb_X10_table (((((text, size), (sv, stb₀)), ((var, tab₀), szs₀)), (((prg, cod), words), ((has₀, fpl), pos))), ((((fault, plc), (tol, tmany)), ((trc, rmany), mark)), (((pil, pmany), mks), ((cts, turns), stop))))) ((show f_X10_table_47 (k + 1) stb tab szs has y1 y4 y5 = (y4, ((stb, tab), (szs, (0 : Int32)))) from it_t c5 (rfl))))) dX10_table_80
    · refine lv_aload_n hx hb dX10_table_54 rfl (lv_at hl 0 rfl) ?_
      refine hI.get (v := .ref (a 5)) hw fg_X10_23 0 rfl rfl dX10_table_55 ?_
      refine lv_bipush (v := (16 : Int32)) hx hb dX10_table_58 (by decide) ?_
      refine lv_iload_n hx hb dX10_table_60 rfl (lv_at hl 1 rfl) ?_
      refine lv_imul hx hb dX10_table_61 ?_
      refine lv_iload hx hb dX10_table_62 (lv_at hl 3 rfl) ?_
      refine lv_iadd hx hb dX10_table_64 ?_
      refine lv_iconst (v := (0 : Int32)) hx hb dX10_table_65 (by decide) ?_
      refine hI.iast hw 5 rfl (cell_in hc.2 (cnt_in (by decide) hc.1 c5)) dX10_table_66 (fun H locs hw => ?_)
      have hw : Wd g A s (w_Mdl a g (((((text, size), (sv, stb)), ((var, upd tab (((16 : Int32) * y1) + y5).toNatClampNeg (0 : Int32)), szs)), (((prg, cod), words), ((has, fpl), pos))), ((((fault, plc), (tol, tmany)), ((trc, rmany), mark)), (((pil, pmany), mks), ((cts, turns), stop))))) H locs := hw
      refine lv_iinc (v := y5 + (1 : Int32)) (lv' := [(5, .int (y5 + (1 : Int32))), (0, .ref (a 0)), (1, .int y1), (4, .int y4)]) hx hb dX10_table_67 hl (k := 3) rfl rfl (by decide) rfl (fun ls hl => ?_)
      refine lv_goto (tgt := 47) hx hb dX10_table_70 (by decide) ?_
      exact ih stb (upd tab (((16 : Int32) * y1) + y5).toNatClampNeg (0 : Int32)) szs has y1 y4 (y5 + (1 : Int32)) ⟨cnt_s (by decide) hc.1 c5, hc.2⟩ r (hr.trans (congrArg (rb_X10_table (((((text, size), (sv, stb₀)), ((var, tab₀), szs₀)), (((prg, cod), words), ((has₀, fpl), pos))), ((((fault, plc), (tol, tmany)), ((trc, rmany), mark)), (((pil, pmany), mks), ((cts, turns), stop))))) ((show f_X10_table_47 (k + 1) stb tab szs has y1 y4 y5 = f_X10_table_47 k stb (upd tab (((16 : Int32) * y1) + y5).toNatClampNeg (0 : Int32)) szs has y1 y4 (y5 + (1 : Int32)) from it_f c5 (rfl))))) _ _ hw _ (lv_sub hl [1, 2, 3, 0] rfl)
set_option maxHeartbeats 4000000 in
set_option maxRecDepth 100000 in
theorem c_X10_table (l : Launch) (g : GG) (a : Nat → Nat) (text : Nat → Int32) (size : Int32) (sv : Nat → Int32) (stb : Nat → Int32) (var : Nat → Int32) (tab : Nat → Int32) (szs : Nat → Int32) (prg : Nat → Int32) (cod : Nat → Int32) (words : Int32) (has : Int32) (fpl : Int32) (pos : Int32) (fault : Int32) (plc : Int32) (tol : Nat → Int32) (tmany : Int32) (trc : Nat → Int32) (rmany : Int32) (mark : Int64) (pil : Nat → Int32) (pmany : Int32) (mks : Nat → Int32) (cts : Nat → Int32) (turns : Int32) (stop : Int32) (x1 : Int32) (x2 : Int32) (x3 : Int32) : CI l g yX10_table cX10_table 6 (some .int) (rmN 1) (w_Mdl a g) [.ref (a 0), .int x1, .int x2, .int x3] (((((text, size), (sv, stb)), ((var, tab), szs)), (((prg, cod), words), ((has, fpl), pos))), ((((fault, plc), (tol, tmany)), ((trc, rmany), mark)), (((pil, pmany), mks), ((cts, turns), stop)))) (rb_X10_table (((((text, size), (sv, stb)), ((var, tab), szs)), (((prg, cod), words), ((has, fpl), pos))), ((((fault, plc), (tol, tmany)), ((trc, rmany), mark)), (((pil, pmany), mks), ((cts, turns), stop)))) (f_X10_table stb tab szs has x1 x2 x3)) := by
  refine CI.mk (by decide) (Nat.le_of_ble_eq_true rfl) ?_
  intro p e s m below meth c A ls hI hw hl
  have hx := hI.1
  have hb := hI.2.1
  obtain ⟨r, hr⟩ : ∃ r, r = rb_X10_table (((((text, size), (sv, stb)), ((var, tab), szs)), (((prg, cod), words), ((has, fpl), pos))), ((((fault, plc), (tol, tmany)), ((trc, rmany), mark)), (((pil, pmany), mks), ((cts, turns), stop)))) (f_X10_table stb tab szs has x1 x2 x3) := ⟨_, rfl⟩
  rw [← hr]
  have hl : lv_has ls 6 [(0, .ref (a 0)), (1, .int x1), (2, .int x2), (3, .int x3)] := hl
  refine lv_iload_n hx hb dX10_table_0 rfl (lv_at hl 1 rfl) ?_
  refine lv_iconst (v := (0 : Int32)) hx hb dX10_table_1 (by decide) ?_
  refine lv_iconst (v := (3 : Int32)) hx hb dX10_table_2 (by decide) ?_
  obtain ⟨o1, ho1⟩ : ∃ o, o = f_X10_isIn x1 (0 : Int32) (3 : Int32) := ⟨_, rfl⟩
  refine hI.callSI (r := o1) (As := [.int x1, .int (0 : Int32), .int (3 : Int32)]) (rest := []) hw (by rw [ho1]; exact c_X10_isIn l g x1 (0 : Int32) (3 : Int32)) ok_yX10_isIn ml_X10_54 (rm_ok (by decide) (by decide)) rfl rfl hl.1 (Nat.le_of_ble_eq_true rfl) dX10_table_3 ⟨Nat.zero_le _, Nat.zero_le _⟩ (fun H locs hw => ?_)
  refine lv_if_eq (tgt := 19) hx hb dX10_table_6 (by decide) (fun c2 => ?_) (fun c2 => ?_)
  · refine lv_bipush (v := (-2 : Int32)) hx hb dX10_table_19 (by decide) ?_
    exact hI.retI (u := (((((text, size), (sv, stb)), ((var, tab), szs)), (((prg, cod), words), ((has, fpl), pos))), ((((fault, plc), (tol, tmany)), ((trc, rmany), mark)), (((pil, pmany), mks), ((cts, turns), stop))))) hw (hr.trans (congrArg (rb_X10_table (((((text, size), (sv, stb)), ((var, tab), szs)), (((prg, cod), words), ((has, fpl), pos))), ((((fault, plc), (tol, tmany)), ((trc, rmany), mark)), (((pil, pmany), mks), ((cts, turns), stop))))) ((show f_X10_table stb tab szs has x1 x2 x3 = ((-2 : Int32), ((stb, tab), (szs, has))) from bd_of ho1 (it_t c2 (rfl)))))) dX10_table_21
  · refine lv_iload_n hx hb dX10_table_9 rfl (lv_at hl 3 rfl) ?_
    refine lv_iconst (v := (1 : Int32)) hx hb dX10_table_10 (by decide) ?_
    refine lv_bipush (v := (16 : Int32)) hx hb dX10_table_11 (by decide) ?_
    obtain ⟨o3, ho3⟩ : ∃ o, o = f_X10_isIn x3 (1 : Int32) (16 : Int32) := ⟨_, rfl⟩
    refine hI.callSI (r := o3) (As := [.int x3, .int (1 : Int32), .int (16 : Int32)]) (rest := []) hw (by rw [ho3]; exact c_X10_isIn l g x3 (1 : Int32) (16 : Int32)) ok_yX10_isIn ml_X10_54 (rm_ok (by decide) (by decide)) rfl rfl hl.1 (Nat.le_of_ble_eq_true rfl) dX10_table_13 ⟨Nat.zero_le _, Nat.zero_le _⟩ (fun H locs hw => ?_)
    refine lv_if_ne (tgt := 22) hx hb dX10_table_16 (by decide) (fun c4 => ?_) (fun c4 => ?_)
    · refine lv_aload_n hx hb dX10_table_22 rfl (lv_at hl 0 rfl) ?_
      refine hI.get (v := .ref (a 6)) hw fg_X10_26 0 rfl rfl dX10_table_23 ?_
      refine lv_iload_n hx hb dX10_table_26 rfl (lv_at hl 1 rfl) ?_
      refine hI.iald hw 6 rfl (isin_in (hi := (3 : Int32)) (by decide) (by decide) (by rw [← ho1]; exact c2)) dX10_table_27 ?_
      refine lv_istore (lv' := [(4, .int (szs x1.toNatClampNeg)), (0, .ref (a 0)), (1, .int x1), (2, .int x2), (3, .int x3)]) hx hb dX10_table_28 hl (by decide) rfl (fun ls hl => ?_)
      refine lv_aload_n hx hb dX10_table_30 rfl (lv_at hl 1 rfl) ?_
      refine hI.get (v := .ref (a 3)) hw fg_X10_17 0 rfl rfl dX10_table_31 ?_
      refine lv_iload_n hx hb dX10_table_34 rfl (lv_at hl 2 rfl) ?_
      refine lv_iload_n hx hb dX10_table_35 rfl (lv_at hl 3 rfl) ?_
      refine hI.zast hw 3 rfl (isin_in (hi := (3 : Int32)) (by decide) (by decide) (by rw [← ho1]; exact c2)) dX10_table_36 (fun H locs hw => ?_)
      have hw : Wd g A s (w_Mdl a g (((((text, size), (sv, upd stb x1.toNatClampNeg (vp_nar .boolean x2))), ((var, tab), szs)), (((prg, cod), words), ((has, fpl), pos))), ((((fault, plc), (tol, tmany)), ((trc, rmany), mark)), (((pil, pmany), mks), ((cts, turns), stop))))) H locs := hw
      refine lv_aload_n hx hb dX10_table_37 rfl (lv_at hl 1 rfl) ?_
      refine hI.get (v := .ref (a 6)) hw fg_X10_26 0 rfl rfl dX10_table_38 ?_
      refine lv_iload_n hx hb dX10_table_41 rfl (lv_at hl 2 rfl) ?_
      refine lv_iload_n hx hb dX10_table_42 rfl (lv_at hl 4 rfl) ?_
      refine hI.iast hw 6 rfl (isin_in (hi := (3 : Int32)) (by decide) (by decide) (by rw [← ho1]; exact c2)) dX10_table_43 (fun H locs hw => ?_)
      have hw : Wd g A s (w_Mdl a g (((((text, size), (sv, upd stb x1.toNatClampNeg (vp_nar .boolean x2))), ((var, tab), upd szs x1.toNatClampNeg x3)), (((prg, cod), words), ((has, fpl), pos))), ((((fault, plc), (tol, tmany)), ((trc, rmany), mark)), (((pil, pmany), mks), ((cts, turns), stop))))) H locs := hw
      refine lv_iconst (v := (0 : Int32)) hx hb dX10_table_44 (by decide) ?_
      refine lv_istore (lv' := [(5, .int (0 : Int32)), (4, .int (szs x1.toNatClampNeg)), (0, .ref (a 0)), (1, .int x1), (2, .int x2), (3, .int x3)]) hx hb dX10_table_45 hl (by decide) rfl (fun ls hl => ?_)
      exact lp_X10_table_47 l g a text size sv stb var tab szs prg cod words has fpl pos fault plc tol tmany trc rmany mark pil pmany mks cts turns stop hI 17 (upd stb x1.toNatClampNeg (vp_nar .boolean x2)) tab (upd szs x1.toNatClampNeg x3) has x1 (szs x1.toNatClampNeg) (0 : Int32) ⟨cnt_0 16, (isin_in (N := 4) (hi := (3 : Int32)) (by decide) (by decide) (by rw [← ho1]; exact c2))⟩ r (hr.trans (congrArg (rb_X10_table (((((text, size), (sv, stb)), ((var, tab), szs)), (((prg, cod), words), ((has, fpl), pos))), ((((fault, plc), (tol, tmany)), ((trc, rmany), mark)), (((pil, pmany), mks), ((cts, turns), stop))))) ((show f_X10_table stb tab szs has x1 x2 x3 = f_X10_table_47 17 (upd stb x1.toNatClampNeg (vp_nar .boolean x2)) tab (upd szs x1.toNatClampNeg x3) has x1 (szs x1.toNatClampNeg) (0 : Int32) from bd_of ho1 (it_f c2 (bd_of ho3 (it_f c4 (rfl)))))))) _ _ hw _ (lv_sub hl [2, 3, 1, 0] rfl)
    · refine lv_bipush (v := (-2 : Int32)) hx hb dX10_table_19 (by decide) ?_
      exact hI.retI (u := (((((text, size), (sv, stb)), ((var, tab), szs)), (((prg, cod), words), ((has, fpl), pos))), ((((fault, plc), (tol, tmany)), ((trc, rmany), mark)), (((pil, pmany), mks), ((cts, turns), stop))))) hw (hr.trans (congrArg (rb_X10_table (((((text, size), (sv, stb)), ((var, tab), szs)), (((prg, cod), words), ((has, fpl), pos))), ((((fault, plc), (tol, tmany)), ((trc, rmany), mark)), (((pil, pmany), mks), ((cts, turns), stop))))) ((show f_X10_table stb tab szs has x1 x2 x3 = ((-2 : Int32), ((stb, tab), (szs, has))) from bd_of ho1 (it_f c2 (bd_of ho3 (it_t c4 (rfl)))))))) dX10_table_21
def f_X10_token (text : Nat → Int32) (size : Int32) (x1 : Int32) : Int32 × ((Nat → Int32) × Int32) := if size = (400 : Int32) then ((-3 : Int32), (text, size)) else (size + (1 : Int32), (upd text size.toNatClampNeg x1, size + (1 : Int32)))
def rb_X10_token (σ : S_Mdl) (o : Int32 × ((Nat → Int32) × Int32)) : Int32 × S_Mdl := (o.1, (((((o.2.1, o.2.2), (σ.1.1.1.2.1, σ.1.1.1.2.2)), ((σ.1.1.2.1.1, σ.1.1.2.1.2), σ.1.1.2.2)), (((σ.1.2.1.1.1, σ.1.2.1.1.2), σ.1.2.1.2), ((σ.1.2.2.1.1, σ.1.2.2.1.2), σ.1.2.2.2))), ((((σ.2.1.1.1.1, σ.2.1.1.1.2), (σ.2.1.1.2.1, σ.2.1.1.2.2)), ((σ.2.1.2.1.1, σ.2.1.2.1.2), σ.2.1.2.2)), (((σ.2.2.1.1.1, σ.2.2.1.1.2), σ.2.2.1.2), ((σ.2.2.2.1.1, σ.2.2.2.1.2), σ.2.2.2.2)))))
set_option maxHeartbeats 4000000 in
set_option maxRecDepth 100000 in
theorem c_X10_token (l : Launch) (g : GG) (a : Nat → Nat) (text : Nat → Int32) (size : Int32) (sv : Nat → Int32) (stb : Nat → Int32) (var : Nat → Int32) (tab : Nat → Int32) (szs : Nat → Int32) (prg : Nat → Int32) (cod : Nat → Int32) (words : Int32) (has : Int32) (fpl : Int32) (pos : Int32) (fault : Int32) (plc : Int32) (tol : Nat → Int32) (tmany : Int32) (trc : Nat → Int32) (rmany : Int32) (mark : Int64) (pil : Nat → Int32) (pmany : Int32) (mks : Nat → Int32) (cts : Nat → Int32) (turns : Int32) (stop : Int32) (x1 : Int32) (hz : UpTo 400 size) : CI l g yX10_token cX10_token 2 (some .int) (rmN 0) (w_Mdl a g) [.ref (a 0), .int x1] (((((text, size), (sv, stb)), ((var, tab), szs)), (((prg, cod), words), ((has, fpl), pos))), ((((fault, plc), (tol, tmany)), ((trc, rmany), mark)), (((pil, pmany), mks), ((cts, turns), stop)))) (rb_X10_token (((((text, size), (sv, stb)), ((var, tab), szs)), (((prg, cod), words), ((has, fpl), pos))), ((((fault, plc), (tol, tmany)), ((trc, rmany), mark)), (((pil, pmany), mks), ((cts, turns), stop)))) (f_X10_token text size x1)) := by
  refine CI.mk (by decide) (Nat.le_of_ble_eq_true rfl) ?_
  intro p e s m below meth c A ls hI hw hl
  have hx := hI.1
  have hb := hI.2.1
  obtain ⟨r, hr⟩ : ∃ r, r = rb_X10_token (((((text, size), (sv, stb)), ((var, tab), szs)), (((prg, cod), words), ((has, fpl), pos))), ((((fault, plc), (tol, tmany)), ((trc, rmany), mark)), (((pil, pmany), mks), ((cts, turns), stop)))) (f_X10_token text size x1) := ⟨_, rfl⟩
  rw [← hr]
  have hl : lv_has ls 2 [(0, .ref (a 0)), (1, .int x1)] := hl
  refine lv_aload_n hx hb dX10_token_0 rfl (lv_at hl 0 rfl) ?_
  refine hI.get (v := .int size) hw fg_X10_62 0 rfl rfl dX10_token_1 ?_
  refine lv_sipush (v := (400 : Int32)) hx hb dX10_token_4 (by decide) ?_
  refine lv_icmp_ne (tgt := 13) hx hb dX10_token_7 (by decide) (fun c1 => ?_) (fun c1 => ?_)
  · refine lv_aload_n hx hb dX10_token_13 rfl (lv_at hl 0 rfl) ?_
    refine hI.get (v := .ref (a 1)) hw fg_X10_7 0 rfl rfl dX10_token_14 ?_
    refine lv_aload_n hx hb dX10_token_17 rfl (lv_at hl 0 rfl) ?_
    refine hI.get (v := .int size) hw fg_X10_62 0 rfl rfl dX10_token_18 ?_
    refine lv_iload_n hx hb dX10_token_21 rfl (lv_at hl 1 rfl) ?_
    refine hI.iast hw 1 rfl (upto_in hz c1 (by decide) (by decide)) dX10_token_22 (fun H locs hw => ?_)
    have hw : Wd g A s (w_Mdl a g (((((upd text size.toNatClampNeg x1, size), (sv, stb)), ((var, tab), szs)), (((prg, cod), words), ((has, fpl), pos))), ((((fault, plc), (tol, tmany)), ((trc, rmany), mark)), (((pil, pmany), mks), ((cts, turns), stop))))) H locs := hw
    refine lv_aload_n hx hb dX10_token_23 rfl (lv_at hl 0 rfl) ?_
    refine lv_dup hx hb dX10_token_24 rfl ?_
    refine hI.get (v := .int size) hw fg_X10_62 0 rfl rfl dX10_token_25 ?_
    refine lv_iconst (v := (1 : Int32)) hx hb dX10_token_28 (by decide) ?_
    refine lv_iadd hx hb dX10_token_29 ?_
    refine hI.put hw fp_X10_62 rfl 0 rfl rfl rfl (Nat.le_of_ble_eq_true rfl) dX10_token_30 (fun H locs hw => ?_)
    have hw : Wd g A s (w_Mdl a g (((((upd text size.toNatClampNeg x1, size + (1 : Int32)), (sv, stb)), ((var, tab), szs)), (((prg, cod), words), ((has, fpl), pos))), ((((fault, plc), (tol, tmany)), ((trc, rmany), mark)), (((pil, pmany), mks), ((cts, turns), stop))))) H locs := hw
    refine lv_aload_n hx hb dX10_token_33 rfl (lv_at hl 0 rfl) ?_
    refine hI.get (v := .int (size + (1 : Int32))) hw fg_X10_62 0 rfl rfl dX10_token_34 ?_
    exact hI.retI (u := (((((upd text size.toNatClampNeg x1, size + (1 : Int32)), (sv, stb)), ((var, tab), szs)), (((prg, cod), words), ((has, fpl), pos))), ((((fault, plc), (tol, tmany)), ((trc, rmany), mark)), (((pil, pmany), mks), ((cts, turns), stop))))) hw (hr.trans (congrArg (rb_X10_token (((((text, size), (sv, stb)), ((var, tab), szs)), (((prg, cod), words), ((has, fpl), pos))), ((((fault, plc), (tol, tmany)), ((trc, rmany), mark)), (((pil, pmany), mks), ((cts, turns), stop))))) ((show f_X10_token text size x1 = (size + (1 : Int32), (upd text size.toNatClampNeg x1, size + (1 : Int32))) from it_f c1 (rfl))))) dX10_token_37
  · refine lv_bipush (v := (-3 : Int32)) hx hb dX10_token_10 (by decide) ?_
    exact hI.retI (u := (((((text, size), (sv, stb)), ((var, tab), szs)), (((prg, cod), words), ((has, fpl), pos))), ((((fault, plc), (tol, tmany)), ((trc, rmany), mark)), (((pil, pmany), mks), ((cts, turns), stop))))) hw (hr.trans (congrArg (rb_X10_token (((((text, size), (sv, stb)), ((var, tab), szs)), (((prg, cod), words), ((has, fpl), pos))), ((((fault, plc), (tol, tmany)), ((trc, rmany), mark)), (((pil, pmany), mks), ((cts, turns), stop))))) ((show f_X10_token text size x1 = ((-3 : Int32), (text, size)) from it_t c1 (rfl))))) dX10_token_12
def f_X10_place (fpl : Int32) : Int32 := (fpl)
def rb_X10_place (σ : S_Mdl) (o : Int32) : Int32 × S_Mdl := (o, σ)
set_option maxHeartbeats 4000000 in
set_option maxRecDepth 100000 in
theorem c_X10_place (l : Launch) (g : GG) (a : Nat → Nat) (text : Nat → Int32) (size : Int32) (sv : Nat → Int32) (stb : Nat → Int32) (var : Nat → Int32) (tab : Nat → Int32) (szs : Nat → Int32) (prg : Nat → Int32) (cod : Nat → Int32) (words : Int32) (has : Int32) (fpl : Int32) (pos : Int32) (fault : Int32) (plc : Int32) (tol : Nat → Int32) (tmany : Int32) (trc : Nat → Int32) (rmany : Int32) (mark : Int64) (pil : Nat → Int32) (pmany : Int32) (mks : Nat → Int32) (cts : Nat → Int32) (turns : Int32) (stop : Int32) : CI l g yX10_place cX10_place 1 (some .int) (rmN 0) (w_Mdl a g) [.ref (a 0)] (((((text, size), (sv, stb)), ((var, tab), szs)), (((prg, cod), words), ((has, fpl), pos))), ((((fault, plc), (tol, tmany)), ((trc, rmany), mark)), (((pil, pmany), mks), ((cts, turns), stop)))) (rb_X10_place (((((text, size), (sv, stb)), ((var, tab), szs)), (((prg, cod), words), ((has, fpl), pos))), ((((fault, plc), (tol, tmany)), ((trc, rmany), mark)), (((pil, pmany), mks), ((cts, turns), stop)))) (f_X10_place fpl)) := by
  refine CI.mk (by decide) (Nat.le_of_ble_eq_true rfl) ?_
  intro p e s m below meth c A ls hI hw hl
  have hx := hI.1
  have hb := hI.2.1
  obtain ⟨r, hr⟩ : ∃ r, r = rb_X10_place (((((text, size), (sv, stb)), ((var, tab), szs)), (((prg, cod), words), ((has, fpl), pos))), ((((fault, plc), (tol, tmany)), ((trc, rmany), mark)), (((pil, pmany), mks), ((cts, turns), stop)))) (f_X10_place fpl) := ⟨_, rfl⟩
  rw [← hr]
  have hl : lv_has ls 1 [(0, .ref (a 0))] := hl
  refine lv_aload_n hx hb dX10_place_0 rfl (lv_at hl 0 rfl) ?_
  refine hI.get (v := .int fpl) hw fg_X10_35 0 rfl rfl dX10_place_1 ?_
  exact hI.retI (u := (((((text, size), (sv, stb)), ((var, tab), szs)), (((prg, cod), words), ((has, fpl), pos))), ((((fault, plc), (tol, tmany)), ((trc, rmany), mark)), (((pil, pmany), mks), ((cts, turns), stop))))) hw (hr.trans (congrArg (rb_X10_place (((((text, size), (sv, stb)), ((var, tab), szs)), (((prg, cod), words), ((has, fpl), pos))), ((((fault, plc), (tol, tmany)), ((trc, rmany), mark)), (((pil, pmany), mks), ((cts, turns), stop))))) ((show f_X10_place fpl = (fpl) from rfl)))) dX10_place_4
def f_X10_set (var : Nat → Int32) (x1 : Int32) (x2 : Int32) : Int32 × (Nat → Int32) := bd (f_X10_isIn x1 (0 : Int32) (9 : Int32)) (fun o1 => if o1 = 0 then ((-2 : Int32), var) else (var x1.toNatClampNeg, upd var x1.toNatClampNeg x2))
def rb_X10_set (σ : S_Mdl) (o : Int32 × (Nat → Int32)) : Int32 × S_Mdl := (o.1, (((((σ.1.1.1.1.1, σ.1.1.1.1.2), (σ.1.1.1.2.1, σ.1.1.1.2.2)), ((o.2, σ.1.1.2.1.2), σ.1.1.2.2)), (((σ.1.2.1.1.1, σ.1.2.1.1.2), σ.1.2.1.2), ((σ.1.2.2.1.1, σ.1.2.2.1.2), σ.1.2.2.2))), ((((σ.2.1.1.1.1, σ.2.1.1.1.2), (σ.2.1.1.2.1, σ.2.1.1.2.2)), ((σ.2.1.2.1.1, σ.2.1.2.1.2), σ.2.1.2.2)), (((σ.2.2.1.1.1, σ.2.2.1.1.2), σ.2.2.1.2), ((σ.2.2.2.1.1, σ.2.2.2.1.2), σ.2.2.2.2)))))
set_option maxHeartbeats 4000000 in
set_option maxRecDepth 100000 in
theorem c_X10_set (l : Launch) (g : GG) (a : Nat → Nat) (text : Nat → Int32) (size : Int32) (sv : Nat → Int32) (stb : Nat → Int32) (var : Nat → Int32) (tab : Nat → Int32) (szs : Nat → Int32) (prg : Nat → Int32) (cod : Nat → Int32) (words : Int32) (has : Int32) (fpl : Int32) (pos : Int32) (fault : Int32) (plc : Int32) (tol : Nat → Int32) (tmany : Int32) (trc : Nat → Int32) (rmany : Int32) (mark : Int64) (pil : Nat → Int32) (pmany : Int32) (mks : Nat → Int32) (cts : Nat → Int32) (turns : Int32) (stop : Int32) (x1 : Int32) (x2 : Int32) : CI l g yX10_set cX10_set 4 (some .int) (rmN 1) (w_Mdl a g) [.ref (a 0), .int x1, .int x2] (((((text, size), (sv, stb)), ((var, tab), szs)), (((prg, cod), words), ((has, fpl), pos))), ((((fault, plc), (tol, tmany)), ((trc, rmany), mark)), (((pil, pmany), mks), ((cts, turns), stop)))) (rb_X10_set (((((text, size), (sv, stb)), ((var, tab), szs)), (((prg, cod), words), ((has, fpl), pos))), ((((fault, plc), (tol, tmany)), ((trc, rmany), mark)), (((pil, pmany), mks), ((cts, turns), stop)))) (f_X10_set var x1 x2)) := by
  refine CI.mk (by decide) (Nat.le_of_ble_eq_true rfl) ?_
  intro p e s m below meth c A ls hI hw hl
  have hx := hI.1
  have hb := hI.2.1
  obtain ⟨r, hr⟩ : ∃ r, r = rb_X10_set (((((text, size), (sv, stb)), ((var, tab), szs)), (((prg, cod), words), ((has, fpl), pos))), ((((fault, plc), (tol, tmany)), ((trc, rmany), mark)), (((pil, pmany), mks), ((cts, turns), stop)))) (f_X10_set var x1 x2) := ⟨_, rfl⟩
  rw [← hr]
  have hl : lv_has ls 4 [(0, .ref (a 0)), (1, .int x1), (2, .int x2)] := hl
  refine lv_iload_n hx hb dX10_set_0 rfl (lv_at hl 1 rfl) ?_
  refine lv_iconst (v := (0 : Int32)) hx hb dX10_set_1 (by decide) ?_
  refine lv_bipush (v := (9 : Int32)) hx hb dX10_set_2 (by decide) ?_
  obtain ⟨o1, ho1⟩ : ∃ o, o = f_X10_isIn x1 (0 : Int32) (9 : Int32) := ⟨_, rfl⟩
  refine hI.callSI (r := o1) (As := [.int x1, .int (0 : Int32), .int (9 : Int32)]) (rest := []) hw (by rw [ho1]; exact c_X10_isIn l g x1 (0 : Int32) (9 : Int32)) ok_yX10_isIn ml_X10_54 (rm_ok (by decide) (by decide)) rfl rfl hl.1 (Nat.le_of_ble_eq_true rfl) dX10_set_4 ⟨Nat.zero_le _, Nat.zero_le _⟩ (fun H locs hw => ?_)
  refine lv_if_ne (tgt := 13) hx hb dX10_set_7 (by decide) (fun c2 => ?_) (fun c2 => ?_)
  · refine lv_aload_n hx hb dX10_set_13 rfl (lv_at hl 0 rfl) ?_
    refine hI.get (v := .ref (a 4)) hw fg_X10_20 0 rfl rfl dX10_set_14 ?_
    refine lv_iload_n hx hb dX10_set_17 rfl (lv_at hl 1 rfl) ?_
    refine hI.iald hw 4 rfl (isin_in (hi := (9 : Int32)) (by decide) (by decide) (by rw [← ho1]; exact c2)) dX10_set_18 ?_
    refine lv_istore_n (lv' := [(3, .int (var x1.toNatClampNeg)), (0, .ref (a 0)), (1, .int x1), (2, .int x2)]) hx hb dX10_set_19 rfl hl (by decide) rfl (fun ls hl => ?_)
    refine lv_aload_n hx hb dX10_set_20 rfl (lv_at hl 1 rfl) ?_
    refine hI.get (v := .ref (a 4)) hw fg_X10_20 0 rfl rfl dX10_set_21 ?_
    refine lv_iload_n hx hb dX10_set_24 rfl (lv_at hl 2 rfl) ?_
    refine lv_iload_n hx hb dX10_set_25 rfl (lv_at hl 3 rfl) ?_
    refine hI.iast hw 4 rfl (isin_in (hi := (9 : Int32)) (by decide) (by decide) (by rw [← ho1]; exact c2)) dX10_set_26 (fun H locs hw => ?_)
    have hw : Wd g A s (w_Mdl a g (((((text, size), (sv, stb)), ((upd var x1.toNatClampNeg x2, tab), szs)), (((prg, cod), words), ((has, fpl), pos))), ((((fault, plc), (tol, tmany)), ((trc, rmany), mark)), (((pil, pmany), mks), ((cts, turns), stop))))) H locs := hw
    refine lv_iload_n hx hb dX10_set_27 rfl (lv_at hl 0 rfl) ?_
    exact hI.retI (u := (((((text, size), (sv, stb)), ((upd var x1.toNatClampNeg x2, tab), szs)), (((prg, cod), words), ((has, fpl), pos))), ((((fault, plc), (tol, tmany)), ((trc, rmany), mark)), (((pil, pmany), mks), ((cts, turns), stop))))) hw (hr.trans (congrArg (rb_X10_set (((((text, size), (sv, stb)), ((var, tab), szs)), (((prg, cod), words), ((has, fpl), pos))), ((((fault, plc), (tol, tmany)), ((trc, rmany), mark)), (((pil, pmany), mks), ((cts, turns), stop))))) ((show f_X10_set var x1 x2 = (var x1.toNatClampNeg, upd var x1.toNatClampNeg x2) from bd_of ho1 (it_f c2 (rfl)))))) dX10_set_28
  · refine lv_bipush (v := (-2 : Int32)) hx hb dX10_set_10 (by decide) ?_
    exact hI.retI (u := (((((text, size), (sv, stb)), ((var, tab), szs)), (((prg, cod), words), ((has, fpl), pos))), ((((fault, plc), (tol, tmany)), ((trc, rmany), mark)), (((pil, pmany), mks), ((cts, turns), stop))))) hw (hr.trans (congrArg (rb_X10_set (((((text, size), (sv, stb)), ((var, tab), szs)), (((prg, cod), words), ((has, fpl), pos))), ((((fault, plc), (tol, tmany)), ((trc, rmany), mark)), (((pil, pmany), mks), ((cts, turns), stop))))) ((show f_X10_set var x1 x2 = ((-2 : Int32), var) from bd_of ho1 (it_t c2 (rfl)))))) dX10_set_12
def f_X10_get (var : Nat → Int32) (x1 : Int32) : Int32 := bd (f_X10_isIn x1 (0 : Int32) (9 : Int32)) (fun o1 => if o1 = 0 then ((-2 : Int32)) else (var x1.toNatClampNeg))
def rb_X10_get (σ : S_Mdl) (o : Int32) : Int32 × S_Mdl := (o, σ)
set_option maxHeartbeats 4000000 in
set_option maxRecDepth 100000 in
theorem c_X10_get (l : Launch) (g : GG) (a : Nat → Nat) (text : Nat → Int32) (size : Int32) (sv : Nat → Int32) (stb : Nat → Int32) (var : Nat → Int32) (tab : Nat → Int32) (szs : Nat → Int32) (prg : Nat → Int32) (cod : Nat → Int32) (words : Int32) (has : Int32) (fpl : Int32) (pos : Int32) (fault : Int32) (plc : Int32) (tol : Nat → Int32) (tmany : Int32) (trc : Nat → Int32) (rmany : Int32) (mark : Int64) (pil : Nat → Int32) (pmany : Int32) (mks : Nat → Int32) (cts : Nat → Int32) (turns : Int32) (stop : Int32) (x1 : Int32) : CI l g yX10_get cX10_get 2 (some .int) (rmN 1) (w_Mdl a g) [.ref (a 0), .int x1] (((((text, size), (sv, stb)), ((var, tab), szs)), (((prg, cod), words), ((has, fpl), pos))), ((((fault, plc), (tol, tmany)), ((trc, rmany), mark)), (((pil, pmany), mks), ((cts, turns), stop)))) (rb_X10_get (((((text, size), (sv, stb)), ((var, tab), szs)), (((prg, cod), words), ((has, fpl), pos))), ((((fault, plc), (tol, tmany)), ((trc, rmany), mark)), (((pil, pmany), mks), ((cts, turns), stop)))) (f_X10_get var x1)) := by
  refine CI.mk (by decide) (Nat.le_of_ble_eq_true rfl) ?_
  intro p e s m below meth c A ls hI hw hl
  have hx := hI.1
  have hb := hI.2.1
  obtain ⟨r, hr⟩ : ∃ r, r = rb_X10_get (((((text, size), (sv, stb)), ((var, tab), szs)), (((prg, cod), words), ((has, fpl), pos))), ((((fault, plc), (tol, tmany)), ((trc, rmany), mark)), (((pil, pmany), mks), ((cts, turns), stop)))) (f_X10_get var x1) := ⟨_, rfl⟩
  rw [← hr]
  have hl : lv_has ls 2 [(0, .ref (a 0)), (1, .int x1)] := hl
  refine lv_iload_n hx hb dX10_get_0 rfl (lv_at hl 1 rfl) ?_
  refine lv_iconst (v := (0 : Int32)) hx hb dX10_get_1 (by decide) ?_
  refine lv_bipush (v := (9 : Int32)) hx hb dX10_get_2 (by decide) ?_
  obtain ⟨o1, ho1⟩ : ∃ o, o = f_X10_isIn x1 (0 : Int32) (9 : Int32) := ⟨_, rfl⟩
  refine hI.callSI (r := o1) (As := [.int x1, .int (0 : Int32), .int (9 : Int32)]) (rest := []) hw (by rw [ho1]; exact c_X10_isIn l g x1 (0 : Int32) (9 : Int32)) ok_yX10_isIn ml_X10_54 (rm_ok (by decide) (by decide)) rfl rfl hl.1 (Nat.le_of_ble_eq_true rfl) dX10_get_4 ⟨Nat.zero_le _, Nat.zero_le _⟩ (fun H locs hw => ?_)
  refine lv_if_eq (tgt := 19) hx hb dX10_get_7 (by decide) (fun c2 => ?_) (fun c2 => ?_)
  · refine lv_bipush (v := (-2 : Int32)) hx hb dX10_get_19 (by decide) ?_
    exact hI.retI (u := (((((text, size), (sv, stb)), ((var, tab), szs)), (((prg, cod), words), ((has, fpl), pos))), ((((fault, plc), (tol, tmany)), ((trc, rmany), mark)), (((pil, pmany), mks), ((cts, turns), stop))))) hw (hr.trans (congrArg (rb_X10_get (((((text, size), (sv, stb)), ((var, tab), szs)), (((prg, cod), words), ((has, fpl), pos))), ((((fault, plc), (tol, tmany)), ((trc, rmany), mark)), (((pil, pmany), mks), ((cts, turns), stop))))) ((show f_X10_get var x1 = ((-2 : Int32)) from bd_of ho1 (it_t c2 (rfl)))))) dX10_get_21
  · refine lv_aload_n hx hb dX10_get_10 rfl (lv_at hl 0 rfl) ?_
    refine hI.get (v := .ref (a 4)) hw fg_X10_20 0 rfl rfl dX10_get_11 ?_
    refine lv_iload_n hx hb dX10_get_14 rfl (lv_at hl 1 rfl) ?_
    refine hI.iald hw 4 rfl (isin_in (hi := (9 : Int32)) (by decide) (by decide) (by rw [← ho1]; exact c2)) dX10_get_15 ?_
    refine lv_goto (tgt := 21) hx hb dX10_get_16 (by decide) ?_
    exact hI.retI (u := (((((text, size), (sv, stb)), ((var, tab), szs)), (((prg, cod), words), ((has, fpl), pos))), ((((fault, plc), (tol, tmany)), ((trc, rmany), mark)), (((pil, pmany), mks), ((cts, turns), stop))))) hw (hr.trans (congrArg (rb_X10_get (((((text, size), (sv, stb)), ((var, tab), szs)), (((prg, cod), words), ((has, fpl), pos))), ((((fault, plc), (tol, tmany)), ((trc, rmany), mark)), (((pil, pmany), mks), ((cts, turns), stop))))) ((show f_X10_get var x1 = (var x1.toNatClampNeg) from bd_of ho1 (it_f c2 (rfl)))))) dX10_get_21
def f_X10_mark (mark : Int64) : Int64 := (mark)
def rb_X10_mark (σ : S_Mdl) (o : Int64) : Int64 × S_Mdl := (o, σ)
set_option maxHeartbeats 4000000 in
set_option maxRecDepth 100000 in
theorem c_X10_mark (l : Launch) (g : GG) (a : Nat → Nat) (text : Nat → Int32) (size : Int32) (sv : Nat → Int32) (stb : Nat → Int32) (var : Nat → Int32) (tab : Nat → Int32) (szs : Nat → Int32) (prg : Nat → Int32) (cod : Nat → Int32) (words : Int32) (has : Int32) (fpl : Int32) (pos : Int32) (fault : Int32) (plc : Int32) (tol : Nat → Int32) (tmany : Int32) (trc : Nat → Int32) (rmany : Int32) (mark : Int64) (pil : Nat → Int32) (pmany : Int32) (mks : Nat → Int32) (cts : Nat → Int32) (turns : Int32) (stop : Int32) : CL l g yX10_mark cX10_mark 1 (some .long) (rmN 0) (w_Mdl a g) [.ref (a 0)] (((((text, size), (sv, stb)), ((var, tab), szs)), (((prg, cod), words), ((has, fpl), pos))), ((((fault, plc), (tol, tmany)), ((trc, rmany), mark)), (((pil, pmany), mks), ((cts, turns), stop)))) (rb_X10_mark (((((text, size), (sv, stb)), ((var, tab), szs)), (((prg, cod), words), ((has, fpl), pos))), ((((fault, plc), (tol, tmany)), ((trc, rmany), mark)), (((pil, pmany), mks), ((cts, turns), stop)))) (f_X10_mark mark)) := by
  refine CL.mk (by decide) (Nat.le_of_ble_eq_true rfl) ?_
  intro p e s m below meth c A ls hI hw hl
  have hx := hI.1
  have hb := hI.2.1
  obtain ⟨r, hr⟩ : ∃ r, r = rb_X10_mark (((((text, size), (sv, stb)), ((var, tab), szs)), (((prg, cod), words), ((has, fpl), pos))), ((((fault, plc), (tol, tmany)), ((trc, rmany), mark)), (((pil, pmany), mks), ((cts, turns), stop)))) (f_X10_mark mark) := ⟨_, rfl⟩
  rw [← hr]
  have hl : lv_has ls 1 [(0, .ref (a 0))] := hl
  refine lv_aload_n hx hb dX10_mark_0 rfl (lv_at hl 0 rfl) ?_
  refine hI.get (v := .long mark) hw fg_X10_157 0 rfl rfl dX10_mark_1 ?_
  exact hI.retL (u := (((((text, size), (sv, stb)), ((var, tab), szs)), (((prg, cod), words), ((has, fpl), pos))), ((((fault, plc), (tol, tmany)), ((trc, rmany), mark)), (((pil, pmany), mks), ((cts, turns), stop))))) hw (hr.trans (congrArg (rb_X10_mark (((((text, size), (sv, stb)), ((var, tab), szs)), (((prg, cod), words), ((has, fpl), pos))), ((((fault, plc), (tol, tmany)), ((trc, rmany), mark)), (((pil, pmany), mks), ((cts, turns), stop))))) ((show f_X10_mark mark = (mark) from rfl)))) dX10_mark_4
def f_X10_count (size : Int32) (words : Int32) (has : Int32) (tmany : Int32) (rmany : Int32) (x1 : Int32) : Int32 := if x1 = (0 : Int32) then (size) else if x1 = (1 : Int32) then if has = 0 then ((0 : Int32)) else (words) else if x1 = (2 : Int32) then (tmany) else if x1 = (3 : Int32) then (rmany) else ((-2 : Int32))
def rb_X10_count (σ : S_Mdl) (o : Int32) : Int32 × S_Mdl := (o, σ)
set_option maxHeartbeats 4000000 in
set_option maxRecDepth 100000 in
theorem c_X10_count (l : Launch) (g : GG) (a : Nat → Nat) (text : Nat → Int32) (size : Int32) (sv : Nat → Int32) (stb : Nat → Int32) (var : Nat → Int32) (tab : Nat → Int32) (szs : Nat → Int32) (prg : Nat → Int32) (cod : Nat → Int32) (words : Int32) (has : Int32) (fpl : Int32) (pos : Int32) (fault : Int32) (plc : Int32) (tol : Nat → Int32) (tmany : Int32) (trc : Nat → Int32) (rmany : Int32) (mark : Int64) (pil : Nat → Int32) (pmany : Int32) (mks : Nat → Int32) (cts : Nat → Int32) (turns : Int32) (stop : Int32) (x1 : Int32) : CI l g yX10_count cX10_count 2 (some .int) (rmN 0) (w_Mdl a g) [.ref (a 0), .int x1] (((((text, size), (sv, stb)), ((var, tab), szs)), (((prg, cod), words), ((has, fpl), pos))), ((((fault, plc), (tol, tmany)), ((trc, rmany), mark)), (((pil, pmany), mks), ((cts, turns), stop)))) (rb_X10_count (((((text, size), (sv, stb)), ((var, tab), szs)), (((prg, cod), words), ((has, fpl), pos))), ((((fault, plc), (tol, tmany)), ((trc, rmany), mark)), (((pil, pmany), mks), ((cts, turns), stop)))) (f_X10_count size words has tmany rmany x1)) := by
  refine CI.mk (by decide) (Nat.le_of_ble_eq_true rfl) ?_
  intro p e s m below meth c A ls hI hw hl
  have hx := hI.1
  have hb := hI.2.1
  obtain ⟨r, hr⟩ : ∃ r, r = rb_X10_count (((((text, size), (sv, stb)), ((var, tab), szs)), (((prg, cod), words), ((has, fpl), pos))), ((((fault, plc), (tol, tmany)), ((trc, rmany), mark)), (((pil, pmany), mks), ((cts, turns), stop)))) (f_X10_count size words has tmany rmany x1) := ⟨_, rfl⟩
  rw [← hr]
  have hl : lv_has ls 2 [(0, .ref (a 0)), (1, .int x1)] := hl
  refine lv_iload_n hx hb dX10_count_0 rfl (lv_at hl 1 rfl) ?_
  by_cases c1 : x1 = (0 : Int32)
  · refine lv_tableIn (tgt := 32) hx hb dX10_count_1 (by rw [c1]; decide) (by rw [c1]; decide) (by rw [c1]; rfl) (by decide) ?_
    refine lv_aload_n hx hb dX10_count_32 rfl (lv_at hl 0 rfl) ?_
    refine hI.get (v := .int size) hw fg_X10_62 0 rfl rfl dX10_count_33 ?_
    exact hI.retI (u := (((((text, size), (sv, stb)), ((var, tab), szs)), (((prg, cod), words), ((has, fpl), pos))), ((((fault, plc), (tol, tmany)), ((trc, rmany), mark)), (((pil, pmany), mks), ((cts, turns), stop))))) hw (hr.trans (congrArg (rb_X10_count (((((text, size), (sv, stb)), ((var, tab), szs)), (((prg, cod), words), ((has, fpl), pos))), ((((fault, plc), (tol, tmany)), ((trc, rmany), mark)), (((pil, pmany), mks), ((cts, turns), stop))))) ((show f_X10_count size words has tmany rmany x1 = (size) from it_t c1 (rfl))))) dX10_count_36
  by_cases c2 : x1 = (1 : Int32)
  · refine lv_tableIn (tgt := 37) hx hb dX10_count_1 (by rw [c2]; decide) (by rw [c2]; decide) (by rw [c2]; rfl) (by decide) ?_
    refine lv_aload_n hx hb dX10_count_37 rfl (lv_at hl 0 rfl) ?_
    refine hI.get (v := .int has) hw fg_X10_58 0 rfl rfl dX10_count_38 ?_
    refine lv_if_eq (tgt := 51) hx hb dX10_count_41 (by decide) (fun c3 => ?_) (fun c3 => ?_)
    · refine lv_iconst (v := (0 : Int32)) hx hb dX10_count_51 (by decide) ?_
      exact hI.retI (u := (((((text, size), (sv, stb)), ((var, tab), szs)), (((prg, cod), words), ((has, fpl), pos))), ((((fault, plc), (tol, tmany)), ((trc, rmany), mark)), (((pil, pmany), mks), ((cts, turns), stop))))) hw (hr.trans (congrArg (rb_X10_count (((((text, size), (sv, stb)), ((var, tab), szs)), (((prg, cod), words), ((has, fpl), pos))), ((((fault, plc), (tol, tmany)), ((trc, rmany), mark)), (((pil, pmany), mks), ((cts, turns), stop))))) ((show f_X10_count size words has tmany rmany x1 = ((0 : Int32)) from it_f c1 (it_t c2 (it_t c3 (rfl))))))) dX10_count_52
    · refine lv_aload_n hx hb dX10_count_44 rfl (lv_at hl 0 rfl) ?_
      refine hI.get (v := .int words) hw fg_X10_125 0 rfl rfl dX10_count_45 ?_
      refine lv_goto (tgt := 52) hx hb dX10_count_48 (by decide) ?_
      exact hI.retI (u := (((((text, size), (sv, stb)), ((var, tab), szs)), (((prg, cod), words), ((has, fpl), pos))), ((((fault, plc), (tol, tmany)), ((trc, rmany), mark)), (((pil, pmany), mks), ((cts, turns), stop))))) hw (hr.trans (congrArg (rb_X10_count (((((text, size), (sv, stb)), ((var, tab), szs)), (((prg, cod), words), ((has, fpl), pos))), ((((fault, plc), (tol, tmany)), ((trc, rmany), mark)), (((pil, pmany), mks), ((cts, turns), stop))))) ((show f_X10_count size words has tmany rmany x1 = (words) from it_f c1 (it_t c2 (it_f c3 (rfl))))))) dX10_count_52
  by_cases c4 : x1 = (2 : Int32)
  · refine lv_tableIn (tgt := 53) hx hb dX10_count_1 (by rw [c4]; decide) (by rw [c4]; decide) (by rw [c4]; rfl) (by decide) ?_
    refine lv_aload_n hx hb dX10_count_53 rfl (lv_at hl 0 rfl) ?_
    refine hI.get (v := .int tmany) hw fg_X10_149 0 rfl rfl dX10_count_54 ?_
    exact hI.retI (u := (((((text, size), (sv, stb)), ((var, tab), szs)), (((prg, cod), words), ((has, fpl), pos))), ((((fault, plc), (tol, tmany)), ((trc, rmany), mark)), (((pil, pmany), mks), ((cts, turns), stop))))) hw (hr.trans (congrArg (rb_X10_count (((((text, size), (sv, stb)), ((var, tab), szs)), (((prg, cod), words), ((has, fpl), pos))), ((((fault, plc), (tol, tmany)), ((trc, rmany), mark)), (((pil, pmany), mks), ((cts, turns), stop))))) ((show f_X10_count size words has tmany rmany x1 = (tmany) from it_f c1 (it_f c2 (it_t c4 (rfl))))))) dX10_count_57
  by_cases c5 : x1 = (3 : Int32)
  · refine lv_tableIn (tgt := 58) hx hb dX10_count_1 (by rw [c5]; decide) (by rw [c5]; decide) (by rw [c5]; rfl) (by decide) ?_
    refine lv_aload_n hx hb dX10_count_58 rfl (lv_at hl 0 rfl) ?_
    refine hI.get (v := .int rmany) hw fg_X10_152 0 rfl rfl dX10_count_59 ?_
    exact hI.retI (u := (((((text, size), (sv, stb)), ((var, tab), szs)), (((prg, cod), words), ((has, fpl), pos))), ((((fault, plc), (tol, tmany)), ((trc, rmany), mark)), (((pil, pmany), mks), ((cts, turns), stop))))) hw (hr.trans (congrArg (rb_X10_count (((((text, size), (sv, stb)), ((var, tab), szs)), (((prg, cod), words), ((has, fpl), pos))), ((((fault, plc), (tol, tmany)), ((trc, rmany), mark)), (((pil, pmany), mks), ((cts, turns), stop))))) ((show f_X10_count size words has tmany rmany x1 = (rmany) from it_f c1 (it_f c2 (it_f c4 (it_t c5 (rfl)))))))) dX10_count_62
  refine lv_tableOut (tgt := 63) hx hb dX10_count_1 (by have qc1 := lv_neT c1 (show ((0 : Int32)).toInt = 0 by decide); have qc2 := lv_neT c2 (show ((1 : Int32)).toInt = 1 by decide); have qc4 := lv_neT c4 (show ((2 : Int32)).toInt = 2 by decide); have qc5 := lv_neT c5 (show ((3 : Int32)).toInt = 3 by decide); omega) (by decide) ?_
  refine lv_bipush (v := (-2 : Int32)) hx hb dX10_count_63 (by decide) ?_
  exact hI.retI (u := (((((text, size), (sv, stb)), ((var, tab), szs)), (((prg, cod), words), ((has, fpl), pos))), ((((fault, plc), (tol, tmany)), ((trc, rmany), mark)), (((pil, pmany), mks), ((cts, turns), stop))))) hw (hr.trans (congrArg (rb_X10_count (((((text, size), (sv, stb)), ((var, tab), szs)), (((prg, cod), words), ((has, fpl), pos))), ((((fault, plc), (tol, tmany)), ((trc, rmany), mark)), (((pil, pmany), mks), ((cts, turns), stop))))) ((show f_X10_count size words has tmany rmany x1 = ((-2 : Int32)) from it_f c1 (it_f c2 (it_f c4 (it_f c5 (rfl)))))))) dX10_count_65
def f_X10_put (tab : Nat → Int32) (szs : Nat → Int32) (x1 : Int32) (x2 : Int32) (x3 : Int32) : Int32 × (Nat → Int32) := bd (f_X10_isIn x1 (0 : Int32) (3 : Int32)) (fun o1 => if o1 = 0 then ((-2 : Int32), tab) else bd (f_X10_isIn x2 (0 : Int32) ((szs x1.toNatClampNeg) - (1 : Int32))) (fun o3 => if o3 = 0 then ((-2 : Int32), tab) else (tab (((16 : Int32) * x1) + x2).toNatClampNeg, upd tab (((16 : Int32) * x1) + x2).toNatClampNeg x3)))
def rb_X10_put (σ : S_Mdl) (o : Int32 × (Nat → Int32)) : Int32 × S_Mdl := (o.1, (((((σ.1.1.1.1.1, σ.1.1.1.1.2), (σ.1.1.1.2.1, σ.1.1.1.2.2)), ((σ.1.1.2.1.1, o.2), σ.1.1.2.2)), (((σ.1.2.1.1.1, σ.1.2.1.1.2), σ.1.2.1.2), ((σ.1.2.2.1.1, σ.1.2.2.1.2), σ.1.2.2.2))), ((((σ.2.1.1.1.1, σ.2.1.1.1.2), (σ.2.1.1.2.1, σ.2.1.1.2.2)), ((σ.2.1.2.1.1, σ.2.1.2.1.2), σ.2.1.2.2)), (((σ.2.2.1.1.1, σ.2.2.1.1.2), σ.2.2.1.2), ((σ.2.2.2.1.1, σ.2.2.2.1.2), σ.2.2.2.2)))))
set_option maxHeartbeats 4000000 in
set_option maxRecDepth 100000 in
theorem c_X10_put (l : Launch) (g : GG) (a : Nat → Nat) (text : Nat → Int32) (size : Int32) (sv : Nat → Int32) (stb : Nat → Int32) (var : Nat → Int32) (tab : Nat → Int32) (szs : Nat → Int32) (prg : Nat → Int32) (cod : Nat → Int32) (words : Int32) (has : Int32) (fpl : Int32) (pos : Int32) (fault : Int32) (plc : Int32) (tol : Nat → Int32) (tmany : Int32) (trc : Nat → Int32) (rmany : Int32) (mark : Int64) (pil : Nat → Int32) (pmany : Int32) (mks : Nat → Int32) (cts : Nat → Int32) (turns : Int32) (stop : Int32) (x1 : Int32) (x2 : Int32) (x3 : Int32) (hz : SZ szs) : CI l g yX10_put cX10_put 5 (some .int) (rmN 1) (w_Mdl a g) [.ref (a 0), .int x1, .int x2, .int x3] (((((text, size), (sv, stb)), ((var, tab), szs)), (((prg, cod), words), ((has, fpl), pos))), ((((fault, plc), (tol, tmany)), ((trc, rmany), mark)), (((pil, pmany), mks), ((cts, turns), stop)))) (rb_X10_put (((((text, size), (sv, stb)), ((var, tab), szs)), (((prg, cod), words), ((has, fpl), pos))), ((((fault, plc), (tol, tmany)), ((trc, rmany), mark)), (((pil, pmany), mks), ((cts, turns), stop)))) (f_X10_put tab szs x1 x2 x3)) := by
  refine CI.mk (by decide) (Nat.le_of_ble_eq_true rfl) ?_
  intro p e s m below meth c A ls hI hw hl
  have hx := hI.1
  have hb := hI.2.1
  obtain ⟨r, hr⟩ : ∃ r, r = rb_X10_put (((((text, size), (sv, stb)), ((var, tab), szs)), (((prg, cod), words), ((has, fpl), pos))), ((((fault, plc), (tol, tmany)), ((trc, rmany), mark)), (((pil, pmany), mks), ((cts, turns), stop)))) (f_X10_put tab szs x1 x2 x3) := ⟨_, rfl⟩
  rw [← hr]
  have hl : lv_has ls 5 [(0, .ref (a 0)), (1, .int x1), (2, .int x2), (3, .int x3)] := hl
  refine lv_iload_n hx hb dX10_put_0 rfl (lv_at hl 1 rfl) ?_
  refine lv_iconst (v := (0 : Int32)) hx hb dX10_put_1 (by decide) ?_
  refine lv_iconst (v := (3 : Int32)) hx hb dX10_put_2 (by decide) ?_
  obtain ⟨o1, ho1⟩ : ∃ o, o = f_X10_isIn x1 (0 : Int32) (3 : Int32) := ⟨_, rfl⟩
  refine hI.callSI (r := o1) (As := [.int x1, .int (0 : Int32), .int (3 : Int32)]) (rest := []) hw (by rw [ho1]; exact c_X10_isIn l g x1 (0 : Int32) (3 : Int32)) ok_yX10_isIn ml_X10_54 (rm_ok (by decide) (by decide)) rfl rfl hl.1 (Nat.le_of_ble_eq_true rfl) dX10_put_3 ⟨Nat.zero_le _, Nat.zero_le _⟩ (fun H locs hw => ?_)
  refine lv_if_eq (tgt := 25) hx hb dX10_put_6 (by decide) (fun c2 => ?_) (fun c2 => ?_)
  · refine lv_bipush (v := (-2 : Int32)) hx hb dX10_put_25 (by decide) ?_
    exact hI.retI (u := (((((text, size), (sv, stb)), ((var, tab), szs)), (((prg, cod), words), ((has, fpl), pos))), ((((fault, plc), (tol, tmany)), ((trc, rmany), mark)), (((pil, pmany), mks), ((cts, turns), stop))))) hw (hr.trans (congrArg (rb_X10_put (((((text, size), (sv, stb)), ((var, tab), szs)), (((prg, cod), words), ((has, fpl), pos))), ((((fault, plc), (tol, tmany)), ((trc, rmany), mark)), (((pil, pmany), mks), ((cts, turns), stop))))) ((show f_X10_put tab szs x1 x2 x3 = ((-2 : Int32), tab) from bd_of ho1 (it_t c2 (rfl)))))) dX10_put_27
  · refine lv_iload_n hx hb dX10_put_9 rfl (lv_at hl 2 rfl) ?_
    refine lv_iconst (v := (0 : Int32)) hx hb dX10_put_10 (by decide) ?_
    refine lv_aload_n hx hb dX10_put_11 rfl (lv_at hl 0 rfl) ?_
    refine hI.get (v := .ref (a 6)) hw fg_X10_26 0 rfl rfl dX10_put_12 ?_
    refine lv_iload_n hx hb dX10_put_15 rfl (lv_at hl 1 rfl) ?_
    refine hI.iald hw 6 rfl (isin_in (hi := (3 : Int32)) (by decide) (by decide) (by rw [← ho1]; exact c2)) dX10_put_16 ?_
    refine lv_iconst (v := (1 : Int32)) hx hb dX10_put_17 (by decide) ?_
    refine lv_isub hx hb dX10_put_18 ?_
    obtain ⟨o3, ho3⟩ : ∃ o, o = f_X10_isIn x2 (0 : Int32) ((szs x1.toNatClampNeg) - (1 : Int32)) := ⟨_, rfl⟩
    refine hI.callSI (r := o3) (As := [.int x2, .int (0 : Int32), .int ((szs x1.toNatClampNeg) - (1 : Int32))]) (rest := []) hw (by rw [ho3]; exact c_X10_isIn l g x2 (0 : Int32) ((szs x1.toNatClampNeg) - (1 : Int32))) ok_yX10_isIn ml_X10_54 (rm_ok (by decide) (by decide)) rfl rfl hl.1 (Nat.le_of_ble_eq_true rfl) dX10_put_19 ⟨Nat.zero_le _, Nat.zero_le _⟩ (fun H locs hw => ?_)
    refine lv_if_ne (tgt := 28) hx hb dX10_put_22 (by decide) (fun c4 => ?_) (fun c4 => ?_)
    · refine lv_aload_n hx hb dX10_put_28 rfl (lv_at hl 0 rfl) ?_
      refine hI.get (v := .ref (a 5)) hw fg_X10_23 0 rfl rfl dX10_put_29 ?_
      refine lv_bipush (v := (16 : Int32)) hx hb dX10_put_32 (by decide) ?_
      refine lv_iload_n hx hb dX10_put_34 rfl (lv_at hl 1 rfl) ?_
      refine lv_imul hx hb dX10_put_35 ?_
      refine lv_iload_n hx hb dX10_put_36 rfl (lv_at hl 2 rfl) ?_
      refine lv_iadd hx hb dX10_put_37 ?_
      refine hI.iald hw 5 rfl (hz.in (by rw [← ho1]; exact c2) (by rw [← ho3]; exact c4)) dX10_put_38 ?_
      refine lv_istore (lv' := [(4, .int (tab (((16 : Int32) * x1) + x2).toNatClampNeg)), (0, .ref (a 0)), (1, .int x1), (2, .int x2), (3, .int x3)]) hx hb dX10_put_39 hl (by decide) rfl (fun ls hl => ?_)
      refine lv_aload_n hx hb dX10_put_41 rfl (lv_at hl 1 rfl) ?_
      refine hI.get (v := .ref (a 5)) hw fg_X10_23 0 rfl rfl dX10_put_42 ?_
      refine lv_bipush (v := (16 : Int32)) hx hb dX10_put_45 (by decide) ?_
      refine lv_iload_n hx hb dX10_put_47 rfl (lv_at hl 2 rfl) ?_
      refine lv_imul hx hb dX10_put_48 ?_
      refine lv_iload_n hx hb dX10_put_49 rfl (lv_at hl 3 rfl) ?_
      refine lv_iadd hx hb dX10_put_50 ?_
      refine lv_iload_n hx hb dX10_put_51 rfl (lv_at hl 4 rfl) ?_
      refine hI.iast hw 5 rfl (hz.in (by rw [← ho1]; exact c2) (by rw [← ho3]; exact c4)) dX10_put_52 (fun H locs hw => ?_)
      have hw : Wd g A s (w_Mdl a g (((((text, size), (sv, stb)), ((var, upd tab (((16 : Int32) * x1) + x2).toNatClampNeg x3), szs)), (((prg, cod), words), ((has, fpl), pos))), ((((fault, plc), (tol, tmany)), ((trc, rmany), mark)), (((pil, pmany), mks), ((cts, turns), stop))))) H locs := hw
      refine lv_iload hx hb dX10_put_53 (lv_at hl 0 rfl) ?_
      exact hI.retI (u := (((((text, size), (sv, stb)), ((var, upd tab (((16 : Int32) * x1) + x2).toNatClampNeg x3), szs)), (((prg, cod), words), ((has, fpl), pos))), ((((fault, plc), (tol, tmany)), ((trc, rmany), mark)), (((pil, pmany), mks), ((cts, turns), stop))))) hw (hr.trans (congrArg (rb_X10_put (((((text, size), (sv, stb)), ((var, tab), szs)), (((prg, cod), words), ((has, fpl), pos))), ((((fault, plc), (tol, tmany)), ((trc, rmany), mark)), (((pil, pmany), mks), ((cts, turns), stop))))) ((show f_X10_put tab szs x1 x2 x3 = (tab (((16 : Int32) * x1) + x2).toNatClampNeg, upd tab (((16 : Int32) * x1) + x2).toNatClampNeg x3) from bd_of ho1 (it_f c2 (bd_of ho3 (it_f c4 (rfl)))))))) dX10_put_55
    · refine lv_bipush (v := (-2 : Int32)) hx hb dX10_put_25 (by decide) ?_
      exact hI.retI (u := (((((text, size), (sv, stb)), ((var, tab), szs)), (((prg, cod), words), ((has, fpl), pos))), ((((fault, plc), (tol, tmany)), ((trc, rmany), mark)), (((pil, pmany), mks), ((cts, turns), stop))))) hw (hr.trans (congrArg (rb_X10_put (((((text, size), (sv, stb)), ((var, tab), szs)), (((prg, cod), words), ((has, fpl), pos))), ((((fault, plc), (tol, tmany)), ((trc, rmany), mark)), (((pil, pmany), mks), ((cts, turns), stop))))) ((show f_X10_put tab szs x1 x2 x3 = ((-2 : Int32), tab) from bd_of ho1 (it_f c2 (bd_of ho3 (it_t c4 (rfl)))))))) dX10_put_27
def f_X10_at (tab : Nat → Int32) (szs : Nat → Int32) (x1 : Int32) (x2 : Int32) : Int32 := bd (f_X10_isIn x1 (0 : Int32) (3 : Int32)) (fun o1 => if o1 = 0 then ((-2 : Int32)) else bd (f_X10_isIn x2 (0 : Int32) ((szs x1.toNatClampNeg) - (1 : Int32))) (fun o3 => if o3 = 0 then ((-2 : Int32)) else (tab (((16 : Int32) * x1) + x2).toNatClampNeg)))
def rb_X10_at (σ : S_Mdl) (o : Int32) : Int32 × S_Mdl := (o, σ)
set_option maxHeartbeats 4000000 in
set_option maxRecDepth 100000 in
theorem c_X10_at (l : Launch) (g : GG) (a : Nat → Nat) (text : Nat → Int32) (size : Int32) (sv : Nat → Int32) (stb : Nat → Int32) (var : Nat → Int32) (tab : Nat → Int32) (szs : Nat → Int32) (prg : Nat → Int32) (cod : Nat → Int32) (words : Int32) (has : Int32) (fpl : Int32) (pos : Int32) (fault : Int32) (plc : Int32) (tol : Nat → Int32) (tmany : Int32) (trc : Nat → Int32) (rmany : Int32) (mark : Int64) (pil : Nat → Int32) (pmany : Int32) (mks : Nat → Int32) (cts : Nat → Int32) (turns : Int32) (stop : Int32) (x1 : Int32) (x2 : Int32) (hz : SZ szs) : CI l g yX10_at cX10_at 3 (some .int) (rmN 1) (w_Mdl a g) [.ref (a 0), .int x1, .int x2] (((((text, size), (sv, stb)), ((var, tab), szs)), (((prg, cod), words), ((has, fpl), pos))), ((((fault, plc), (tol, tmany)), ((trc, rmany), mark)), (((pil, pmany), mks), ((cts, turns), stop)))) (rb_X10_at (((((text, size), (sv, stb)), ((var, tab), szs)), (((prg, cod), words), ((has, fpl), pos))), ((((fault, plc), (tol, tmany)), ((trc, rmany), mark)), (((pil, pmany), mks), ((cts, turns), stop)))) (f_X10_at tab szs x1 x2)) := by
  refine CI.mk (by decide) (Nat.le_of_ble_eq_true rfl) ?_
  intro p e s m below meth c A ls hI hw hl
  have hx := hI.1
  have hb := hI.2.1
  obtain ⟨r, hr⟩ : ∃ r, r = rb_X10_at (((((text, size), (sv, stb)), ((var, tab), szs)), (((prg, cod), words), ((has, fpl), pos))), ((((fault, plc), (tol, tmany)), ((trc, rmany), mark)), (((pil, pmany), mks), ((cts, turns), stop)))) (f_X10_at tab szs x1 x2) := ⟨_, rfl⟩
  rw [← hr]
  have hl : lv_has ls 3 [(0, .ref (a 0)), (1, .int x1), (2, .int x2)] := hl
  refine lv_iload_n hx hb dX10_at_0 rfl (lv_at hl 1 rfl) ?_
  refine lv_iconst (v := (0 : Int32)) hx hb dX10_at_1 (by decide) ?_
  refine lv_iconst (v := (3 : Int32)) hx hb dX10_at_2 (by decide) ?_
  obtain ⟨o1, ho1⟩ : ∃ o, o = f_X10_isIn x1 (0 : Int32) (3 : Int32) := ⟨_, rfl⟩
  refine hI.callSI (r := o1) (As := [.int x1, .int (0 : Int32), .int (3 : Int32)]) (rest := []) hw (by rw [ho1]; exact c_X10_isIn l g x1 (0 : Int32) (3 : Int32)) ok_yX10_isIn ml_X10_54 (rm_ok (by decide) (by decide)) rfl rfl hl.1 (Nat.le_of_ble_eq_true rfl) dX10_at_3 ⟨Nat.zero_le _, Nat.zero_le _⟩ (fun H locs hw => ?_)
  refine lv_if_eq (tgt := 39) hx hb dX10_at_6 (by decide) (fun c2 => ?_) (fun c2 => ?_)
  · refine lv_bipush (v := (-2 : Int32)) hx hb dX10_at_39 (by decide) ?_
    exact hI.retI (u := (((((text, size), (sv, stb)), ((var, tab), szs)), (((prg, cod), words), ((has, fpl), pos))), ((((fault, plc), (tol, tmany)), ((trc, rmany), mark)), (((pil, pmany), mks), ((cts, turns), stop))))) hw (hr.trans (congrArg (rb_X10_at (((((text, size), (sv, stb)), ((var, tab), szs)), (((prg, cod), words), ((has, fpl), pos))), ((((fault, plc), (tol, tmany)), ((trc, rmany), mark)), (((pil, pmany), mks), ((cts, turns), stop))))) ((show f_X10_at tab szs x1 x2 = ((-2 : Int32)) from bd_of ho1 (it_t c2 (rfl)))))) dX10_at_41
  · refine lv_iload_n hx hb dX10_at_9 rfl (lv_at hl 2 rfl) ?_
    refine lv_iconst (v := (0 : Int32)) hx hb dX10_at_10 (by decide) ?_
    refine lv_aload_n hx hb dX10_at_11 rfl (lv_at hl 0 rfl) ?_
    refine hI.get (v := .ref (a 6)) hw fg_X10_26 0 rfl rfl dX10_at_12 ?_
    refine lv_iload_n hx hb dX10_at_15 rfl (lv_at hl 1 rfl) ?_
    refine hI.iald hw 6 rfl (isin_in (hi := (3 : Int32)) (by decide) (by decide) (by rw [← ho1]; exact c2)) dX10_at_16 ?_
    refine lv_iconst (v := (1 : Int32)) hx hb dX10_at_17 (by decide) ?_
    refine lv_isub hx hb dX10_at_18 ?_
    obtain ⟨o3, ho3⟩ : ∃ o, o = f_X10_isIn x2 (0 : Int32) ((szs x1.toNatClampNeg) - (1 : Int32)) := ⟨_, rfl⟩
    refine hI.callSI (r := o3) (As := [.int x2, .int (0 : Int32), .int ((szs x1.toNatClampNeg) - (1 : Int32))]) (rest := []) hw (by rw [ho3]; exact c_X10_isIn l g x2 (0 : Int32) ((szs x1.toNatClampNeg) - (1 : Int32))) ok_yX10_isIn ml_X10_54 (rm_ok (by decide) (by decide)) rfl rfl hl.1 (Nat.le_of_ble_eq_true rfl) dX10_at_19 ⟨Nat.zero_le _, Nat.zero_le _⟩ (fun H locs hw => ?_)
    refine lv_if_eq (tgt := 39) hx hb dX10_at_22 (by decide) (fun c4 => ?_) (fun c4 => ?_)
    · refine lv_bipush (v := (-2 : Int32)) hx hb dX10_at_39 (by decide) ?_
      exact hI.retI (u := (((((text, size), (sv, stb)), ((var, tab), szs)), (((prg, cod), words), ((has, fpl), pos))), ((((fault, plc), (tol, tmany)), ((trc, rmany), mark)), (((pil, pmany), mks), ((cts, turns), stop))))) hw (hr.trans (congrArg (rb_X10_at (((((text, size), (sv, stb)), ((var, tab), szs)), (((prg, cod), words), ((has, fpl), pos))), ((((fault, plc), (tol, tmany)), ((trc, rmany), mark)), (((pil, pmany), mks), ((cts, turns), stop))))) ((show f_X10_at tab szs x1 x2 = ((-2 : Int32)) from bd_of ho1 (it_f c2 (bd_of ho3 (it_t c4 (rfl)))))))) dX10_at_41
    · refine lv_aload_n hx hb dX10_at_25 rfl (lv_at hl 0 rfl) ?_
      refine hI.get (v := .ref (a 5)) hw fg_X10_23 0 rfl rfl dX10_at_26 ?_
      refine lv_bipush (v := (16 : Int32)) hx hb dX10_at_29 (by decide) ?_
      refine lv_iload_n hx hb dX10_at_31 rfl (lv_at hl 1 rfl) ?_
      refine lv_imul hx hb dX10_at_32 ?_
      refine lv_iload_n hx hb dX10_at_33 rfl (lv_at hl 2 rfl) ?_
      refine lv_iadd hx hb dX10_at_34 ?_
      refine hI.iald hw 5 rfl (hz.in (by rw [← ho1]; exact c2) (by rw [← ho3]; exact c4)) dX10_at_35 ?_
      refine lv_goto (tgt := 41) hx hb dX10_at_36 (by decide) ?_
      exact hI.retI (u := (((((text, size), (sv, stb)), ((var, tab), szs)), (((prg, cod), words), ((has, fpl), pos))), ((((fault, plc), (tol, tmany)), ((trc, rmany), mark)), (((pil, pmany), mks), ((cts, turns), stop))))) hw (hr.trans (congrArg (rb_X10_at (((((text, size), (sv, stb)), ((var, tab), szs)), (((prg, cod), words), ((has, fpl), pos))), ((((fault, plc), (tol, tmany)), ((trc, rmany), mark)), (((pil, pmany), mks), ((cts, turns), stop))))) ((show f_X10_at tab szs x1 x2 = (tab (((16 : Int32) * x1) + x2).toNatClampNeg) from bd_of ho1 (it_f c2 (bd_of ho3 (it_f c4 (rfl)))))))) dX10_at_41
def f_X10_code (cod : Nat → Int32) (words : Int32) (has : Int32) (x1 : Int32) : Int32 := if has = 0 then ((0 : Int32)) else bd (f_X10_isIn x1 (0 : Int32) (words - (1 : Int32))) (fun o2 => if o2 = 0 then ((0 : Int32)) else (cod x1.toNatClampNeg))
def rb_X10_code (σ : S_Mdl) (o : Int32) : Int32 × S_Mdl := (o, σ)
set_option maxHeartbeats 4000000 in
set_option maxRecDepth 100000 in
theorem c_X10_code (l : Launch) (g : GG) (a : Nat → Nat) (text : Nat → Int32) (size : Int32) (sv : Nat → Int32) (stb : Nat → Int32) (var : Nat → Int32) (tab : Nat → Int32) (szs : Nat → Int32) (prg : Nat → Int32) (cod : Nat → Int32) (words : Int32) (has : Int32) (fpl : Int32) (pos : Int32) (fault : Int32) (plc : Int32) (tol : Nat → Int32) (tmany : Int32) (trc : Nat → Int32) (rmany : Int32) (mark : Int64) (pil : Nat → Int32) (pmany : Int32) (mks : Nat → Int32) (cts : Nat → Int32) (turns : Int32) (stop : Int32) (x1 : Int32) (hz : UpTo 4000 words) : CI l g yX10_code cX10_code 2 (some .int) (rmN 1) (w_Mdl a g) [.ref (a 0), .int x1] (((((text, size), (sv, stb)), ((var, tab), szs)), (((prg, cod), words), ((has, fpl), pos))), ((((fault, plc), (tol, tmany)), ((trc, rmany), mark)), (((pil, pmany), mks), ((cts, turns), stop)))) (rb_X10_code (((((text, size), (sv, stb)), ((var, tab), szs)), (((prg, cod), words), ((has, fpl), pos))), ((((fault, plc), (tol, tmany)), ((trc, rmany), mark)), (((pil, pmany), mks), ((cts, turns), stop)))) (f_X10_code cod words has x1)) := by
  refine CI.mk (by decide) (Nat.le_of_ble_eq_true rfl) ?_
  intro p e s m below meth c A ls hI hw hl
  have hx := hI.1
  have hb := hI.2.1
  obtain ⟨r, hr⟩ : ∃ r, r = rb_X10_code (((((text, size), (sv, stb)), ((var, tab), szs)), (((prg, cod), words), ((has, fpl), pos))), ((((fault, plc), (tol, tmany)), ((trc, rmany), mark)), (((pil, pmany), mks), ((cts, turns), stop)))) (f_X10_code cod words has x1) := ⟨_, rfl⟩
  rw [← hr]
  have hl : lv_has ls 2 [(0, .ref (a 0)), (1, .int x1)] := hl
  refine lv_aload_n hx hb dX10_code_0 rfl (lv_at hl 0 rfl) ?_
  refine hI.get (v := .int has) hw fg_X10_58 0 rfl rfl dX10_code_1 ?_
  refine lv_if_eq (tgt := 30) hx hb dX10_code_4 (by decide) (fun c1 => ?_) (fun c1 => ?_)
  · refine lv_iconst (v := (0 : Int32)) hx hb dX10_code_30 (by decide) ?_
    exact hI.retI (u := (((((text, size), (sv, stb)), ((var, tab), szs)), (((prg, cod), words), ((has, fpl), pos))), ((((fault, plc), (tol, tmany)), ((trc, rmany), mark)), (((pil, pmany), mks), ((cts, turns), stop))))) hw (hr.trans (congrArg (rb_X10_code (((((text, size), (sv, stb)), ((var, tab), szs)), (((prg, cod), words), ((has, fpl), pos))), ((((fault, plc), (tol, tmany)), ((trc, rmany), mark)), (((pil, pmany), mks), ((cts, turns), stop))))) ((show f_X10_code cod words has x1 = ((0 : Int32)) from it_t c1 (rfl))))) dX10_code_31
  · refine lv_iload_n hx hb dX10_code_7 rfl (lv_at hl 1 rfl) ?_
    refine lv_iconst (v := (0 : Int32)) hx hb dX10_code_8 (by decide) ?_
    refine lv_aload_n hx hb dX10_code_9 rfl (lv_at hl 0 rfl) ?_
    refine hI.get (v := .int words) hw fg_X10_125 0 rfl rfl dX10_code_10 ?_
    refine lv_iconst (v := (1 : Int32)) hx hb dX10_code_13 (by decide) ?_
    refine lv_isub hx hb dX10_code_14 ?_
    obtain ⟨o2, ho2⟩ : ∃ o, o = f_X10_isIn x1 (0 : Int32) (words - (1 : Int32)) := ⟨_, rfl⟩
    refine hI.callSI (r := o2) (As := [.int x1, .int (0 : Int32), .int (words - (1 : Int32))]) (rest := []) hw (by rw [ho2]; exact c_X10_isIn l g x1 (0 : Int32) (words - (1 : Int32))) ok_yX10_isIn ml_X10_54 (rm_ok (by decide) (by decide)) rfl rfl hl.1 (Nat.le_of_ble_eq_true rfl) dX10_code_15 ⟨Nat.zero_le _, Nat.zero_le _⟩ (fun H locs hw => ?_)
    refine lv_if_eq (tgt := 30) hx hb dX10_code_18 (by decide) (fun c3 => ?_) (fun c3 => ?_)
    · refine lv_iconst (v := (0 : Int32)) hx hb dX10_code_30 (by decide) ?_
      exact hI.retI (u := (((((text, size), (sv, stb)), ((var, tab), szs)), (((prg, cod), words), ((has, fpl), pos))), ((((fault, plc), (tol, tmany)), ((trc, rmany), mark)), (((pil, pmany), mks), ((cts, turns), stop))))) hw (hr.trans (congrArg (rb_X10_code (((((text, size), (sv, stb)), ((var, tab), szs)), (((prg, cod), words), ((has, fpl), pos))), ((((fault, plc), (tol, tmany)), ((trc, rmany), mark)), (((pil, pmany), mks), ((cts, turns), stop))))) ((show f_X10_code cod words has x1 = ((0 : Int32)) from it_f c1 (bd_of ho2 (it_t c3 (rfl))))))) dX10_code_31
    · refine lv_aload_n hx hb dX10_code_21 rfl (lv_at hl 0 rfl) ?_
      refine hI.get (v := .ref (a 8)) hw fg_X10_32 0 rfl rfl dX10_code_22 ?_
      refine lv_iload_n hx hb dX10_code_25 rfl (lv_at hl 1 rfl) ?_
      refine hI.iald hw 8 rfl (upto_is hz (by decide) (by decide) (by rw [← ho2]; exact c3)) dX10_code_26 ?_
      refine lv_goto (tgt := 31) hx hb dX10_code_27 (by decide) ?_
      exact hI.retI (u := (((((text, size), (sv, stb)), ((var, tab), szs)), (((prg, cod), words), ((has, fpl), pos))), ((((fault, plc), (tol, tmany)), ((trc, rmany), mark)), (((pil, pmany), mks), ((cts, turns), stop))))) hw (hr.trans (congrArg (rb_X10_code (((((text, size), (sv, stb)), ((var, tab), szs)), (((prg, cod), words), ((has, fpl), pos))), ((((fault, plc), (tol, tmany)), ((trc, rmany), mark)), (((pil, pmany), mks), ((cts, turns), stop))))) ((show f_X10_code cod words has x1 = (cod x1.toNatClampNeg) from it_f c1 (bd_of ho2 (it_f c3 (rfl))))))) dX10_code_31
def f_X10_told (tol : Nat → Int32) (tmany : Int32) (x1 : Int32) : Int32 := bd (f_J9_min tmany (300 : Int32)) (fun o1 => bd (f_X10_isIn x1 (0 : Int32) (o1 - (1 : Int32))) (fun o2 => if o2 = 0 then ((0 : Int32)) else (tol x1.toNatClampNeg)))
def rb_X10_told (σ : S_Mdl) (o : Int32) : Int32 × S_Mdl := (o, σ)
set_option maxHeartbeats 4000000 in
set_option maxRecDepth 100000 in
theorem c_X10_told (l : Launch) (g : GG) (a : Nat → Nat) (text : Nat → Int32) (size : Int32) (sv : Nat → Int32) (stb : Nat → Int32) (var : Nat → Int32) (tab : Nat → Int32) (szs : Nat → Int32) (prg : Nat → Int32) (cod : Nat → Int32) (words : Int32) (has : Int32) (fpl : Int32) (pos : Int32) (fault : Int32) (plc : Int32) (tol : Nat → Int32) (tmany : Int32) (trc : Nat → Int32) (rmany : Int32) (mark : Int64) (pil : Nat → Int32) (pmany : Int32) (mks : Nat → Int32) (cts : Nat → Int32) (turns : Int32) (stop : Int32) (x1 : Int32) (hz : UpTo 1000000 tmany) : CI l g yX10_told cX10_told 2 (some .int) (rmN 1) (w_Mdl a g) [.ref (a 0), .int x1] (((((text, size), (sv, stb)), ((var, tab), szs)), (((prg, cod), words), ((has, fpl), pos))), ((((fault, plc), (tol, tmany)), ((trc, rmany), mark)), (((pil, pmany), mks), ((cts, turns), stop)))) (rb_X10_told (((((text, size), (sv, stb)), ((var, tab), szs)), (((prg, cod), words), ((has, fpl), pos))), ((((fault, plc), (tol, tmany)), ((trc, rmany), mark)), (((pil, pmany), mks), ((cts, turns), stop)))) (f_X10_told tol tmany x1)) := by
  refine CI.mk (by decide) (Nat.le_of_ble_eq_true rfl) ?_
  intro p e s m below meth c A ls hI hw hl
  have hx := hI.1
  have hb := hI.2.1
  obtain ⟨r, hr⟩ : ∃ r, r = rb_X10_told (((((text, size), (sv, stb)), ((var, tab), szs)), (((prg, cod), words), ((has, fpl), pos))), ((((fault, plc), (tol, tmany)), ((trc, rmany), mark)), (((pil, pmany), mks), ((cts, turns), stop)))) (f_X10_told tol tmany x1) := ⟨_, rfl⟩
  rw [← hr]
  have hl : lv_has ls 2 [(0, .ref (a 0)), (1, .int x1)] := hl
  refine lv_iload_n hx hb dX10_told_0 rfl (lv_at hl 1 rfl) ?_
  refine lv_iconst (v := (0 : Int32)) hx hb dX10_told_1 (by decide) ?_
  refine lv_aload_n hx hb dX10_told_2 rfl (lv_at hl 0 rfl) ?_
  refine hI.get (v := .int tmany) hw fg_X10_149 0 rfl rfl dX10_told_3 ?_
  refine lv_sipush (v := (300 : Int32)) hx hb dX10_told_6 (by decide) ?_
  obtain ⟨o1, ho1⟩ : ∃ o, o = f_J9_min tmany (300 : Int32) := ⟨_, rfl⟩
  refine va_mmin hx hb (hI.2.2.1.trans hl.1.symm) hI.2.2.2.1 (hI.2.2.2.2.1 _ ml_X10_215) (hI.2.2.2.2.1 _ mst_yJ9_min_7cf53) (hI.2.2.2.2.1 _ mini_J9) (hI.2.2.2.2.1 _ mc_yJ9_min_7cf53) (Nat.le_of_ble_eq_true rfl) (Nat.le_of_ble_eq_true rfl) (Nat.zero_le _) (Nat.zero_le _) dX10_told_9 ?_
  refine W.eq (g2 := F0 m 12 ls [.int o1, .int (0 : Int32), .int x1]) (by rw [ho1]; rfl) ?_
  refine lv_iconst (v := (1 : Int32)) hx hb dX10_told_12 (by decide) ?_
  refine lv_isub hx hb dX10_told_13 ?_
  obtain ⟨o2, ho2⟩ : ∃ o, o = f_X10_isIn x1 (0 : Int32) (o1 - (1 : Int32)) := ⟨_, rfl⟩
  refine hI.callSI (r := o2) (As := [.int x1, .int (0 : Int32), .int (o1 - (1 : Int32))]) (rest := []) hw (by rw [ho2]; exact c_X10_isIn l g x1 (0 : Int32) (o1 - (1 : Int32))) ok_yX10_isIn ml_X10_54 (rm_ok (by decide) (by decide)) rfl rfl hl.1 (Nat.le_of_ble_eq_true rfl) dX10_told_14 ⟨Nat.zero_le _, Nat.zero_le _⟩ (fun H locs hw => ?_)
  refine lv_if_eq (tgt := 29) hx hb dX10_told_17 (by decide) (fun c3 => ?_) (fun c3 => ?_)
  · refine lv_iconst (v := (0 : Int32)) hx hb dX10_told_29 (by decide) ?_
    exact hI.retI (u := (((((text, size), (sv, stb)), ((var, tab), szs)), (((prg, cod), words), ((has, fpl), pos))), ((((fault, plc), (tol, tmany)), ((trc, rmany), mark)), (((pil, pmany), mks), ((cts, turns), stop))))) hw (hr.trans (congrArg (rb_X10_told (((((text, size), (sv, stb)), ((var, tab), szs)), (((prg, cod), words), ((has, fpl), pos))), ((((fault, plc), (tol, tmany)), ((trc, rmany), mark)), (((pil, pmany), mks), ((cts, turns), stop))))) ((show f_X10_told tol tmany x1 = ((0 : Int32)) from bd_of ho1 (bd_of ho2 (it_t c3 (rfl))))))) dX10_told_30
  · refine lv_aload_n hx hb dX10_told_20 rfl (lv_at hl 0 rfl) ?_
    refine hI.get (v := .ref (a 9)) hw fg_X10_39 0 rfl rfl dX10_told_21 ?_
    refine lv_iload_n hx hb dX10_told_24 rfl (lv_at hl 1 rfl) ?_
    refine hI.iald hw 9 rfl (upto_is (show UpTo 300 o1 by rw [ho1]; exact min_upto hz rfl (by decide) (by decide)) (by decide) (by decide) (by rw [← ho2]; exact c3)) dX10_told_25 ?_
    refine lv_goto (tgt := 30) hx hb dX10_told_26 (by decide) ?_
    exact hI.retI (u := (((((text, size), (sv, stb)), ((var, tab), szs)), (((prg, cod), words), ((has, fpl), pos))), ((((fault, plc), (tol, tmany)), ((trc, rmany), mark)), (((pil, pmany), mks), ((cts, turns), stop))))) hw (hr.trans (congrArg (rb_X10_told (((((text, size), (sv, stb)), ((var, tab), szs)), (((prg, cod), words), ((has, fpl), pos))), ((((fault, plc), (tol, tmany)), ((trc, rmany), mark)), (((pil, pmany), mks), ((cts, turns), stop))))) ((show f_X10_told tol tmany x1 = (tol x1.toNatClampNeg) from bd_of ho1 (bd_of ho2 (it_f c3 (rfl))))))) dX10_told_30
def f_X10_trace (trc : Nat → Int32) (rmany : Int32) (x1 : Int32) : Int32 := bd (f_J9_min rmany (5000 : Int32)) (fun o1 => bd (f_X10_isIn x1 (0 : Int32) (o1 - (1 : Int32))) (fun o2 => if o2 = 0 then ((-1 : Int32)) else (trc x1.toNatClampNeg)))
def rb_X10_trace (σ : S_Mdl) (o : Int32) : Int32 × S_Mdl := (o, σ)
set_option maxHeartbeats 4000000 in
set_option maxRecDepth 100000 in
theorem c_X10_trace (l : Launch) (g : GG) (a : Nat → Nat) (text : Nat → Int32) (size : Int32) (sv : Nat → Int32) (stb : Nat → Int32) (var : Nat → Int32) (tab : Nat → Int32) (szs : Nat → Int32) (prg : Nat → Int32) (cod : Nat → Int32) (words : Int32) (has : Int32) (fpl : Int32) (pos : Int32) (fault : Int32) (plc : Int32) (tol : Nat → Int32) (tmany : Int32) (trc : Nat → Int32) (rmany : Int32) (mark : Int64) (pil : Nat → Int32) (pmany : Int32) (mks : Nat → Int32) (cts : Nat → Int32) (turns : Int32) (stop : Int32) (x1 : Int32) (hz : UpTo 1000000 rmany) : CI l g yX10_trace cX10_trace 2 (some .int) (rmN 1) (w_Mdl a g) [.ref (a 0), .int x1] (((((text, size), (sv, stb)), ((var, tab), szs)), (((prg, cod), words), ((has, fpl), pos))), ((((fault, plc), (tol, tmany)), ((trc, rmany), mark)), (((pil, pmany), mks), ((cts, turns), stop)))) (rb_X10_trace (((((text, size), (sv, stb)), ((var, tab), szs)), (((prg, cod), words), ((has, fpl), pos))), ((((fault, plc), (tol, tmany)), ((trc, rmany), mark)), (((pil, pmany), mks), ((cts, turns), stop)))) (f_X10_trace trc rmany x1)) := by
  refine CI.mk (by decide) (Nat.le_of_ble_eq_true rfl) ?_
  intro p e s m below meth c A ls hI hw hl
  have hx := hI.1
  have hb := hI.2.1
  obtain ⟨r, hr⟩ : ∃ r, r = rb_X10_trace (((((text, size), (sv, stb)), ((var, tab), szs)), (((prg, cod), words), ((has, fpl), pos))), ((((fault, plc), (tol, tmany)), ((trc, rmany), mark)), (((pil, pmany), mks), ((cts, turns), stop)))) (f_X10_trace trc rmany x1) := ⟨_, rfl⟩
  rw [← hr]
  have hl : lv_has ls 2 [(0, .ref (a 0)), (1, .int x1)] := hl
  refine lv_iload_n hx hb dX10_trace_0 rfl (lv_at hl 1 rfl) ?_
  refine lv_iconst (v := (0 : Int32)) hx hb dX10_trace_1 (by decide) ?_
  refine lv_aload_n hx hb dX10_trace_2 rfl (lv_at hl 0 rfl) ?_
  refine hI.get (v := .int rmany) hw fg_X10_152 0 rfl rfl dX10_trace_3 ?_
  refine lv_sipush (v := (5000 : Int32)) hx hb dX10_trace_6 (by decide) ?_
  obtain ⟨o1, ho1⟩ : ∃ o, o = f_J9_min rmany (5000 : Int32) := ⟨_, rfl⟩
  refine va_mmin hx hb (hI.2.2.1.trans hl.1.symm) hI.2.2.2.1 (hI.2.2.2.2.1 _ ml_X10_215) (hI.2.2.2.2.1 _ mst_yJ9_min_7cf53) (hI.2.2.2.2.1 _ mini_J9) (hI.2.2.2.2.1 _ mc_yJ9_min_7cf53) (Nat.le_of_ble_eq_true rfl) (Nat.le_of_ble_eq_true rfl) (Nat.zero_le _) (Nat.zero_le _) dX10_trace_9 ?_
  refine W.eq (g2 := F0 m 12 ls [.int o1, .int (0 : Int32), .int x1]) (by rw [ho1]; rfl) ?_
  refine lv_iconst (v := (1 : Int32)) hx hb dX10_trace_12 (by decide) ?_
  refine lv_isub hx hb dX10_trace_13 ?_
  obtain ⟨o2, ho2⟩ : ∃ o, o = f_X10_isIn x1 (0 : Int32) (o1 - (1 : Int32)) := ⟨_, rfl⟩
  refine hI.callSI (r := o2) (As := [.int x1, .int (0 : Int32), .int (o1 - (1 : Int32))]) (rest := []) hw (by rw [ho2]; exact c_X10_isIn l g x1 (0 : Int32) (o1 - (1 : Int32))) ok_yX10_isIn ml_X10_54 (rm_ok (by decide) (by decide)) rfl rfl hl.1 (Nat.le_of_ble_eq_true rfl) dX10_trace_14 ⟨Nat.zero_le _, Nat.zero_le _⟩ (fun H locs hw => ?_)
  refine lv_if_eq (tgt := 29) hx hb dX10_trace_17 (by decide) (fun c3 => ?_) (fun c3 => ?_)
  · refine lv_iconst (v := (-1 : Int32)) hx hb dX10_trace_29 (by decide) ?_
    exact hI.retI (u := (((((text, size), (sv, stb)), ((var, tab), szs)), (((prg, cod), words), ((has, fpl), pos))), ((((fault, plc), (tol, tmany)), ((trc, rmany), mark)), (((pil, pmany), mks), ((cts, turns), stop))))) hw (hr.trans (congrArg (rb_X10_trace (((((text, size), (sv, stb)), ((var, tab), szs)), (((prg, cod), words), ((has, fpl), pos))), ((((fault, plc), (tol, tmany)), ((trc, rmany), mark)), (((pil, pmany), mks), ((cts, turns), stop))))) ((show f_X10_trace trc rmany x1 = ((-1 : Int32)) from bd_of ho1 (bd_of ho2 (it_t c3 (rfl))))))) dX10_trace_30
  · refine lv_aload_n hx hb dX10_trace_20 rfl (lv_at hl 0 rfl) ?_
    refine hI.get (v := .ref (a 10)) hw fg_X10_42 0 rfl rfl dX10_trace_21 ?_
    refine lv_iload_n hx hb dX10_trace_24 rfl (lv_at hl 1 rfl) ?_
    refine hI.iald hw 10 rfl (upto_is (show UpTo 5000 o1 by rw [ho1]; exact min_upto hz rfl (by decide) (by decide)) (by decide) (by decide) (by rw [← ho2]; exact c3)) dX10_trace_25 ?_
    refine lv_goto (tgt := 30) hx hb dX10_trace_26 (by decide) ?_
    exact hI.retI (u := (((((text, size), (sv, stb)), ((var, tab), szs)), (((prg, cod), words), ((has, fpl), pos))), ((((fault, plc), (tol, tmany)), ((trc, rmany), mark)), (((pil, pmany), mks), ((cts, turns), stop))))) hw (hr.trans (congrArg (rb_X10_trace (((((text, size), (sv, stb)), ((var, tab), szs)), (((prg, cod), words), ((has, fpl), pos))), ((((fault, plc), (tol, tmany)), ((trc, rmany), mark)), (((pil, pmany), mks), ((cts, turns), stop))))) ((show f_X10_trace trc rmany x1 = (trc x1.toNatClampNeg) from bd_of ho1 (bd_of ho2 (it_f c3 (rfl))))))) dX10_trace_30
def f_X10_tell (tol : Nat → Int32) (tmany : Int32) (x1 : Int32) : ((Nat → Int32) × Int32) := if (300 : Int32) ≤ tmany then ((tol, tmany + (1 : Int32))) else ((upd tol tmany.toNatClampNeg x1, tmany + (1 : Int32)))
def rb_X10_tell (σ : S_Mdl) (o : ((Nat → Int32) × Int32)) : S_Mdl := (((((σ.1.1.1.1.1, σ.1.1.1.1.2), (σ.1.1.1.2.1, σ.1.1.1.2.2)), ((σ.1.1.2.1.1, σ.1.1.2.1.2), σ.1.1.2.2)), (((σ.1.2.1.1.1, σ.1.2.1.1.2), σ.1.2.1.2), ((σ.1.2.2.1.1, σ.1.2.2.1.2), σ.1.2.2.2))), ((((σ.2.1.1.1.1, σ.2.1.1.1.2), (o.1, o.2)), ((σ.2.1.2.1.1, σ.2.1.2.1.2), σ.2.1.2.2)), (((σ.2.2.1.1.1, σ.2.2.1.1.2), σ.2.2.1.2), ((σ.2.2.2.1.1, σ.2.2.2.1.2), σ.2.2.2.2))))
set_option maxHeartbeats 4000000 in
set_option maxRecDepth 100000 in
theorem c_X10_tell (l : Launch) (g : GG) (a : Nat → Nat) (text : Nat → Int32) (size : Int32) (sv : Nat → Int32) (stb : Nat → Int32) (var : Nat → Int32) (tab : Nat → Int32) (szs : Nat → Int32) (prg : Nat → Int32) (cod : Nat → Int32) (words : Int32) (has : Int32) (fpl : Int32) (pos : Int32) (fault : Int32) (plc : Int32) (tol : Nat → Int32) (tmany : Int32) (trc : Nat → Int32) (rmany : Int32) (mark : Int64) (pil : Nat → Int32) (pmany : Int32) (mks : Nat → Int32) (cts : Nat → Int32) (turns : Int32) (stop : Int32) (x1 : Int32) (hz : UpTo 1000000 tmany) : CV l g yX10_tell cX10_tell 2 none (rmN 0) (w_Mdl a g) [.ref (a 0), .int x1] (((((text, size), (sv, stb)), ((var, tab), szs)), (((prg, cod), words), ((has, fpl), pos))), ((((fault, plc), (tol, tmany)), ((trc, rmany), mark)), (((pil, pmany), mks), ((cts, turns), stop)))) (rb_X10_tell (((((text, size), (sv, stb)), ((var, tab), szs)), (((prg, cod), words), ((has, fpl), pos))), ((((fault, plc), (tol, tmany)), ((trc, rmany), mark)), (((pil, pmany), mks), ((cts, turns), stop)))) (f_X10_tell tol tmany x1)) := by
  refine CV.mk (by decide) (Nat.le_of_ble_eq_true rfl) ?_
  intro p e s m below meth c A ls hI hw hl
  have hx := hI.1
  have hb := hI.2.1
  obtain ⟨r, hr⟩ : ∃ r, r = rb_X10_tell (((((text, size), (sv, stb)), ((var, tab), szs)), (((prg, cod), words), ((has, fpl), pos))), ((((fault, plc), (tol, tmany)), ((trc, rmany), mark)), (((pil, pmany), mks), ((cts, turns), stop)))) (f_X10_tell tol tmany x1) := ⟨_, rfl⟩
  rw [← hr]
  have hl : lv_has ls 2 [(0, .ref (a 0)), (1, .int x1)] := hl
  refine lv_aload_n hx hb dX10_tell_0 rfl (lv_at hl 0 rfl) ?_
  refine hI.get (v := .int tmany) hw fg_X10_149 0 rfl rfl dX10_tell_1 ?_
  refine lv_sipush (v := (300 : Int32)) hx hb dX10_tell_4 (by decide) ?_
  refine lv_icmp_ge (tgt := 20) hx hb dX10_tell_7 (by decide) (fun c1 => ?_) (fun c1 => ?_)
  · refine lv_aload_n hx hb dX10_tell_20 rfl (lv_at hl 0 rfl) ?_
    refine lv_dup hx hb dX10_tell_21 rfl ?_
    refine hI.get (v := .int tmany) hw fg_X10_149 0 rfl rfl dX10_tell_22 ?_
    refine lv_iconst (v := (1 : Int32)) hx hb dX10_tell_25 (by decide) ?_
    refine lv_iadd hx hb dX10_tell_26 ?_
    refine hI.put hw fp_X10_149 rfl 0 rfl rfl rfl (Nat.le_of_ble_eq_true rfl) dX10_tell_27 (fun H locs hw => ?_)
    have hw : Wd g A s (w_Mdl a g (((((text, size), (sv, stb)), ((var, tab), szs)), (((prg, cod), words), ((has, fpl), pos))), ((((fault, plc), (tol, tmany + (1 : Int32))), ((trc, rmany), mark)), (((pil, pmany), mks), ((cts, turns), stop))))) H locs := hw
    exact hI.retV (u := (((((text, size), (sv, stb)), ((var, tab), szs)), (((prg, cod), words), ((has, fpl), pos))), ((((fault, plc), (tol, tmany + (1 : Int32))), ((trc, rmany), mark)), (((pil, pmany), mks), ((cts, turns), stop))))) hw (hr.trans (congrArg (rb_X10_tell (((((text, size), (sv, stb)), ((var, tab), szs)), (((prg, cod), words), ((has, fpl), pos))), ((((fault, plc), (tol, tmany)), ((trc, rmany), mark)), (((pil, pmany), mks), ((cts, turns), stop))))) ((show f_X10_tell tol tmany x1 = ((tol, tmany + (1 : Int32))) from it_t c1 (rfl))))) dX10_tell_30
  · refine lv_aload_n hx hb dX10_tell_10 rfl (lv_at hl 0 rfl) ?_
    refine hI.get (v := .ref (a 9)) hw fg_X10_39 0 rfl rfl dX10_tell_11 ?_
    refine lv_aload_n hx hb dX10_tell_14 rfl (lv_at hl 0 rfl) ?_
    refine hI.get (v := .int tmany) hw fg_X10_149 0 rfl rfl dX10_tell_15 ?_
    refine lv_iload_n hx hb dX10_tell_18 rfl (lv_at hl 1 rfl) ?_
    refine hI.iast hw 9 rfl (upto_lt hz c1 (by decide) (by decide)) dX10_tell_19 (fun H locs hw => ?_)
    have hw : Wd g A s (w_Mdl a g (((((text, size), (sv, stb)), ((var, tab), szs)), (((prg, cod), words), ((has, fpl), pos))), ((((fault, plc), (upd tol tmany.toNatClampNeg x1, tmany)), ((trc, rmany), mark)), (((pil, pmany), mks), ((cts, turns), stop))))) H locs := hw
    refine lv_aload_n hx hb dX10_tell_20 rfl (lv_at hl 0 rfl) ?_
    refine lv_dup hx hb dX10_tell_21 rfl ?_
    refine hI.get (v := .int tmany) hw fg_X10_149 0 rfl rfl dX10_tell_22 ?_
    refine lv_iconst (v := (1 : Int32)) hx hb dX10_tell_25 (by decide) ?_
    refine lv_iadd hx hb dX10_tell_26 ?_
    refine hI.put hw fp_X10_149 rfl 0 rfl rfl rfl (Nat.le_of_ble_eq_true rfl) dX10_tell_27 (fun H locs hw => ?_)
    have hw : Wd g A s (w_Mdl a g (((((text, size), (sv, stb)), ((var, tab), szs)), (((prg, cod), words), ((has, fpl), pos))), ((((fault, plc), (upd tol tmany.toNatClampNeg x1, tmany + (1 : Int32))), ((trc, rmany), mark)), (((pil, pmany), mks), ((cts, turns), stop))))) H locs := hw
    exact hI.retV (u := (((((text, size), (sv, stb)), ((var, tab), szs)), (((prg, cod), words), ((has, fpl), pos))), ((((fault, plc), (upd tol tmany.toNatClampNeg x1, tmany + (1 : Int32))), ((trc, rmany), mark)), (((pil, pmany), mks), ((cts, turns), stop))))) hw (hr.trans (congrArg (rb_X10_tell (((((text, size), (sv, stb)), ((var, tab), szs)), (((prg, cod), words), ((has, fpl), pos))), ((((fault, plc), (tol, tmany)), ((trc, rmany), mark)), (((pil, pmany), mks), ((cts, turns), stop))))) ((show f_X10_tell tol tmany x1 = ((upd tol tmany.toNatClampNeg x1, tmany + (1 : Int32))) from it_f c1 (rfl))))) dX10_tell_30
def f_X10_see (trc : Nat → Int32) (rmany : Int32) (mark : Int64) (x1 : Int32) : (((Nat → Int32) × Int32) × Int64) := if (5000 : Int32) ≤ rmany then (((trc, rmany + (1 : Int32)), ((31 : Int64) * mark) + x1.toInt64)) else (((upd trc rmany.toNatClampNeg x1, rmany + (1 : Int32)), ((31 : Int64) * mark) + x1.toInt64))
def rb_X10_see (σ : S_Mdl) (o : (((Nat → Int32) × Int32) × Int64)) : S_Mdl := (((((σ.1.1.1.1.1, σ.1.1.1.1.2), (σ.1.1.1.2.1, σ.1.1.1.2.2)), ((σ.1.1.2.1.1, σ.1.1.2.1.2), σ.1.1.2.2)), (((σ.1.2.1.1.1, σ.1.2.1.1.2), σ.1.2.1.2), ((σ.1.2.2.1.1, σ.1.2.2.1.2), σ.1.2.2.2))), ((((σ.2.1.1.1.1, σ.2.1.1.1.2), (σ.2.1.1.2.1, σ.2.1.1.2.2)), ((o.1.1, o.1.2), o.2)), (((σ.2.2.1.1.1, σ.2.2.1.1.2), σ.2.2.1.2), ((σ.2.2.2.1.1, σ.2.2.2.1.2), σ.2.2.2.2))))
set_option maxHeartbeats 4000000 in
set_option maxRecDepth 100000 in
theorem c_X10_see (l : Launch) (g : GG) (a : Nat → Nat) (text : Nat → Int32) (size : Int32) (sv : Nat → Int32) (stb : Nat → Int32) (var : Nat → Int32) (tab : Nat → Int32) (szs : Nat → Int32) (prg : Nat → Int32) (cod : Nat → Int32) (words : Int32) (has : Int32) (fpl : Int32) (pos : Int32) (fault : Int32) (plc : Int32) (tol : Nat → Int32) (tmany : Int32) (trc : Nat → Int32) (rmany : Int32) (mark : Int64) (pil : Nat → Int32) (pmany : Int32) (mks : Nat → Int32) (cts : Nat → Int32) (turns : Int32) (stop : Int32) (x1 : Int32) (hz : UpTo 1000000 rmany) : CV l g yX10_see cX10_see 2 none (rmN 0) (w_Mdl a g) [.ref (a 0), .int x1] (((((text, size), (sv, stb)), ((var, tab), szs)), (((prg, cod), words), ((has, fpl), pos))), ((((fault, plc), (tol, tmany)), ((trc, rmany), mark)), (((pil, pmany), mks), ((cts, turns), stop)))) (rb_X10_see (((((text, size), (sv, stb)), ((var, tab), szs)), (((prg, cod), words), ((has, fpl), pos))), ((((fault, plc), (tol, tmany)), ((trc, rmany), mark)), (((pil, pmany), mks), ((cts, turns), stop)))) (f_X10_see trc rmany mark x1)) := by
  refine CV.mk (by decide) (Nat.le_of_ble_eq_true rfl) ?_
  intro p e s m below meth c A ls hI hw hl
  have hx := hI.1
  have hb := hI.2.1
  obtain ⟨r, hr⟩ : ∃ r, r = rb_X10_see (((((text, size), (sv, stb)), ((var, tab), szs)), (((prg, cod), words), ((has, fpl), pos))), ((((fault, plc), (tol, tmany)), ((trc, rmany), mark)), (((pil, pmany), mks), ((cts, turns), stop)))) (f_X10_see trc rmany mark x1) := ⟨_, rfl⟩
  rw [← hr]
  have hl : lv_has ls 2 [(0, .ref (a 0)), (1, .int x1)] := hl
  refine lv_aload_n hx hb dX10_see_0 rfl (lv_at hl 0 rfl) ?_
  refine hI.get (v := .int rmany) hw fg_X10_152 0 rfl rfl dX10_see_1 ?_
  refine lv_sipush (v := (5000 : Int32)) hx hb dX10_see_4 (by decide) ?_
  refine lv_icmp_ge (tgt := 20) hx hb dX10_see_7 (by decide) (fun c1 => ?_) (fun c1 => ?_)
  · refine lv_aload_n hx hb dX10_see_20 rfl (lv_at hl 0 rfl) ?_
    refine lv_dup hx hb dX10_see_21 rfl ?_
    refine hI.get (v := .int rmany) hw fg_X10_152 0 rfl rfl dX10_see_22 ?_
    refine lv_iconst (v := (1 : Int32)) hx hb dX10_see_25 (by decide) ?_
    refine lv_iadd hx hb dX10_see_26 ?_
    refine hI.put hw fp_X10_152 rfl 0 rfl rfl rfl (Nat.le_of_ble_eq_true rfl) dX10_see_27 (fun H locs hw => ?_)
    have hw : Wd g A s (w_Mdl a g (((((text, size), (sv, stb)), ((var, tab), szs)), (((prg, cod), words), ((has, fpl), pos))), ((((fault, plc), (tol, tmany)), ((trc, rmany + (1 : Int32)), mark)), (((pil, pmany), mks), ((cts, turns), stop))))) H locs := hw
    refine lv_aload_n hx hb dX10_see_30 rfl (lv_at hl 0 rfl) ?_
    refine lv_ldc2 (v := (31 : Int64)) hx hb hI.2.2.2.1 (hI.2.2.2.2.1 _ mcon_X10_155) dX10_see_31 ?_
    refine lv_aload_n hx hb dX10_see_34 rfl (lv_at hl 0 rfl) ?_
    refine hI.get (v := .long mark) hw fg_X10_157 0 rfl rfl dX10_see_35 ?_
    refine lv_lmul hx hb dX10_see_38 ?_
    refine lv_iload_n hx hb dX10_see_39 rfl (lv_at hl 1 rfl) ?_
    refine lv_i2l (v := x1.toInt64) hx hb dX10_see_40 rfl ?_
    refine lv_ladd hx hb dX10_see_41 ?_
    refine hI.put hw fp_X10_157 rfl 0 rfl rfl rfl (Nat.le_of_ble_eq_true rfl) dX10_see_42 (fun H locs hw => ?_)
    have hw : Wd g A s (w_Mdl a g (((((text, size), (sv, stb)), ((var, tab), szs)), (((prg, cod), words), ((has, fpl), pos))), ((((fault, plc), (tol, tmany)), ((trc, rmany + (1 : Int32)), ((31 : Int64) * mark) + x1.toInt64)), (((pil, pmany), mks), ((cts, turns), stop))))) H locs := hw
    exact hI.retV (u := (((((text, size), (sv, stb)), ((var, tab), szs)), (((prg, cod), words), ((has, fpl), pos))), ((((fault, plc), (tol, tmany)), ((trc, rmany + (1 : Int32)), ((31 : Int64) * mark) + x1.toInt64)), (((pil, pmany), mks), ((cts, turns), stop))))) hw (hr.trans (congrArg (rb_X10_see (((((text, size), (sv, stb)), ((var, tab), szs)), (((prg, cod), words), ((has, fpl), pos))), ((((fault, plc), (tol, tmany)), ((trc, rmany), mark)), (((pil, pmany), mks), ((cts, turns), stop))))) ((show f_X10_see trc rmany mark x1 = (((trc, rmany + (1 : Int32)), ((31 : Int64) * mark) + x1.toInt64)) from it_t c1 (rfl))))) dX10_see_45
  · refine lv_aload_n hx hb dX10_see_10 rfl (lv_at hl 0 rfl) ?_
    refine hI.get (v := .ref (a 10)) hw fg_X10_42 0 rfl rfl dX10_see_11 ?_
    refine lv_aload_n hx hb dX10_see_14 rfl (lv_at hl 0 rfl) ?_
    refine hI.get (v := .int rmany) hw fg_X10_152 0 rfl rfl dX10_see_15 ?_
    refine lv_iload_n hx hb dX10_see_18 rfl (lv_at hl 1 rfl) ?_
    refine hI.iast hw 10 rfl (upto_lt hz c1 (by decide) (by decide)) dX10_see_19 (fun H locs hw => ?_)
    have hw : Wd g A s (w_Mdl a g (((((text, size), (sv, stb)), ((var, tab), szs)), (((prg, cod), words), ((has, fpl), pos))), ((((fault, plc), (tol, tmany)), ((upd trc rmany.toNatClampNeg x1, rmany), mark)), (((pil, pmany), mks), ((cts, turns), stop))))) H locs := hw
    refine lv_aload_n hx hb dX10_see_20 rfl (lv_at hl 0 rfl) ?_
    refine lv_dup hx hb dX10_see_21 rfl ?_
    refine hI.get (v := .int rmany) hw fg_X10_152 0 rfl rfl dX10_see_22 ?_
    refine lv_iconst (v := (1 : Int32)) hx hb dX10_see_25 (by decide) ?_
    refine lv_iadd hx hb dX10_see_26 ?_
    refine hI.put hw fp_X10_152 rfl 0 rfl rfl rfl (Nat.le_of_ble_eq_true rfl) dX10_see_27 (fun H locs hw => ?_)
    have hw : Wd g A s (w_Mdl a g (((((text, size), (sv, stb)), ((var, tab), szs)), (((prg, cod), words), ((has, fpl), pos))), ((((fault, plc), (tol, tmany)), ((upd trc rmany.toNatClampNeg x1, rmany + (1 : Int32)), mark)), (((pil, pmany), mks), ((cts, turns), stop))))) H locs := hw
    refine lv_aload_n hx hb dX10_see_30 rfl (lv_at hl 0 rfl) ?_
    refine lv_ldc2 (v := (31 : Int64)) hx hb hI.2.2.2.1 (hI.2.2.2.2.1 _ mcon_X10_155) dX10_see_31 ?_
    refine lv_aload_n hx hb dX10_see_34 rfl (lv_at hl 0 rfl) ?_
    refine hI.get (v := .long mark) hw fg_X10_157 0 rfl rfl dX10_see_35 ?_
    refine lv_lmul hx hb dX10_see_38 ?_
    refine lv_iload_n hx hb dX10_see_39 rfl (lv_at hl 1 rfl) ?_
    refine lv_i2l (v := x1.toInt64) hx hb dX10_see_40 rfl ?_
    refine lv_ladd hx hb dX10_see_41 ?_
    refine hI.put hw fp_X10_157 rfl 0 rfl rfl rfl (Nat.le_of_ble_eq_true rfl) dX10_see_42 (fun H locs hw => ?_)
    have hw : Wd g A s (w_Mdl a g (((((text, size), (sv, stb)), ((var, tab), szs)), (((prg, cod), words), ((has, fpl), pos))), ((((fault, plc), (tol, tmany)), ((upd trc rmany.toNatClampNeg x1, rmany + (1 : Int32)), ((31 : Int64) * mark) + x1.toInt64)), (((pil, pmany), mks), ((cts, turns), stop))))) H locs := hw
    exact hI.retV (u := (((((text, size), (sv, stb)), ((var, tab), szs)), (((prg, cod), words), ((has, fpl), pos))), ((((fault, plc), (tol, tmany)), ((upd trc rmany.toNatClampNeg x1, rmany + (1 : Int32)), ((31 : Int64) * mark) + x1.toInt64)), (((pil, pmany), mks), ((cts, turns), stop))))) hw (hr.trans (congrArg (rb_X10_see (((((text, size), (sv, stb)), ((var, tab), szs)), (((prg, cod), words), ((has, fpl), pos))), ((((fault, plc), (tol, tmany)), ((trc, rmany), mark)), (((pil, pmany), mks), ((cts, turns), stop))))) ((show f_X10_see trc rmany mark x1 = (((upd trc rmany.toNatClampNeg x1, rmany + (1 : Int32)), ((31 : Int64) * mark) + x1.toInt64)) from it_f c1 (rfl))))) dX10_see_45
def f_X10_push (pil : Nat → Int32) (pmany : Int32) (x1 : Int32) : ((Nat → Int32) × Int32) := ((upd pil pmany.toNatClampNeg x1, pmany + (1 : Int32)))
def rb_X10_push (σ : S_Mdl) (o : ((Nat → Int32) × Int32)) : S_Mdl := (((((σ.1.1.1.1.1, σ.1.1.1.1.2), (σ.1.1.1.2.1, σ.1.1.1.2.2)), ((σ.1.1.2.1.1, σ.1.1.2.1.2), σ.1.1.2.2)), (((σ.1.2.1.1.1, σ.1.2.1.1.2), σ.1.2.1.2), ((σ.1.2.2.1.1, σ.1.2.2.1.2), σ.1.2.2.2))), ((((σ.2.1.1.1.1, σ.2.1.1.1.2), (σ.2.1.1.2.1, σ.2.1.1.2.2)), ((σ.2.1.2.1.1, σ.2.1.2.1.2), σ.2.1.2.2)), (((o.1, o.2), σ.2.2.1.2), ((σ.2.2.2.1.1, σ.2.2.2.1.2), σ.2.2.2.2))))
set_option maxHeartbeats 4000000 in
set_option maxRecDepth 100000 in
theorem c_X10_push (l : Launch) (g : GG) (a : Nat → Nat) (text : Nat → Int32) (size : Int32) (sv : Nat → Int32) (stb : Nat → Int32) (var : Nat → Int32) (tab : Nat → Int32) (szs : Nat → Int32) (prg : Nat → Int32) (cod : Nat → Int32) (words : Int32) (has : Int32) (fpl : Int32) (pos : Int32) (fault : Int32) (plc : Int32) (tol : Nat → Int32) (tmany : Int32) (trc : Nat → Int32) (rmany : Int32) (mark : Int64) (pil : Nat → Int32) (pmany : Int32) (mks : Nat → Int32) (cts : Nat → Int32) (turns : Int32) (stop : Int32) (x1 : Int32) (hz : vp_in pmany 200) : CV l g yX10_push cX10_push 2 none (rmN 0) (w_Mdl a g) [.ref (a 0), .int x1] (((((text, size), (sv, stb)), ((var, tab), szs)), (((prg, cod), words), ((has, fpl), pos))), ((((fault, plc), (tol, tmany)), ((trc, rmany), mark)), (((pil, pmany), mks), ((cts, turns), stop)))) (rb_X10_push (((((text, size), (sv, stb)), ((var, tab), szs)), (((prg, cod), words), ((has, fpl), pos))), ((((fault, plc), (tol, tmany)), ((trc, rmany), mark)), (((pil, pmany), mks), ((cts, turns), stop)))) (f_X10_push pil pmany x1)) := by
  refine CV.mk (by decide) (Nat.le_of_ble_eq_true rfl) ?_
  intro p e s m below meth c A ls hI hw hl
  have hx := hI.1
  have hb := hI.2.1
  obtain ⟨r, hr⟩ : ∃ r, r = rb_X10_push (((((text, size), (sv, stb)), ((var, tab), szs)), (((prg, cod), words), ((has, fpl), pos))), ((((fault, plc), (tol, tmany)), ((trc, rmany), mark)), (((pil, pmany), mks), ((cts, turns), stop)))) (f_X10_push pil pmany x1) := ⟨_, rfl⟩
  rw [← hr]
  have hl : lv_has ls 2 [(0, .ref (a 0)), (1, .int x1)] := hl
  refine lv_aload_n hx hb dX10_push_0 rfl (lv_at hl 0 rfl) ?_
  refine hI.get (v := .ref (a 11)) hw fg_X10_45 0 rfl rfl dX10_push_1 ?_
  refine lv_aload_n hx hb dX10_push_4 rfl (lv_at hl 0 rfl) ?_
  refine hI.get (v := .int pmany) hw fg_X10_161 0 rfl rfl dX10_push_5 ?_
  refine lv_iload_n hx hb dX10_push_8 rfl (lv_at hl 1 rfl) ?_
  refine hI.iast hw 11 rfl hz dX10_push_9 (fun H locs hw => ?_)
  have hw : Wd g A s (w_Mdl a g (((((text, size), (sv, stb)), ((var, tab), szs)), (((prg, cod), words), ((has, fpl), pos))), ((((fault, plc), (tol, tmany)), ((trc, rmany), mark)), (((upd pil pmany.toNatClampNeg x1, pmany), mks), ((cts, turns), stop))))) H locs := hw
  refine lv_aload_n hx hb dX10_push_10 rfl (lv_at hl 0 rfl) ?_
  refine lv_dup hx hb dX10_push_11 rfl ?_
  refine hI.get (v := .int pmany) hw fg_X10_161 0 rfl rfl dX10_push_12 ?_
  refine lv_iconst (v := (1 : Int32)) hx hb dX10_push_15 (by decide) ?_
  refine lv_iadd hx hb dX10_push_16 ?_
  refine hI.put hw fp_X10_161 rfl 0 rfl rfl rfl (Nat.le_of_ble_eq_true rfl) dX10_push_17 (fun H locs hw => ?_)
  have hw : Wd g A s (w_Mdl a g (((((text, size), (sv, stb)), ((var, tab), szs)), (((prg, cod), words), ((has, fpl), pos))), ((((fault, plc), (tol, tmany)), ((trc, rmany), mark)), (((upd pil pmany.toNatClampNeg x1, pmany + (1 : Int32)), mks), ((cts, turns), stop))))) H locs := hw
  exact hI.retV (u := (((((text, size), (sv, stb)), ((var, tab), szs)), (((prg, cod), words), ((has, fpl), pos))), ((((fault, plc), (tol, tmany)), ((trc, rmany), mark)), (((upd pil pmany.toNatClampNeg x1, pmany + (1 : Int32)), mks), ((cts, turns), stop))))) hw (hr.trans (congrArg (rb_X10_push (((((text, size), (sv, stb)), ((var, tab), szs)), (((prg, cod), words), ((has, fpl), pos))), ((((fault, plc), (tol, tmany)), ((trc, rmany), mark)), (((pil, pmany), mks), ((cts, turns), stop))))) ((show f_X10_push pil pmany x1 = ((upd pil pmany.toNatClampNeg x1, pmany + (1 : Int32))) from rfl)))) dX10_push_20
def f_X10_pop (pil : Nat → Int32) (pmany : Int32) : Int32 × Int32 := (pil (pmany - (1 : Int32)).toNatClampNeg, pmany - (1 : Int32))
def rb_X10_pop (σ : S_Mdl) (o : Int32 × Int32) : Int32 × S_Mdl := (o.1, (((((σ.1.1.1.1.1, σ.1.1.1.1.2), (σ.1.1.1.2.1, σ.1.1.1.2.2)), ((σ.1.1.2.1.1, σ.1.1.2.1.2), σ.1.1.2.2)), (((σ.1.2.1.1.1, σ.1.2.1.1.2), σ.1.2.1.2), ((σ.1.2.2.1.1, σ.1.2.2.1.2), σ.1.2.2.2))), ((((σ.2.1.1.1.1, σ.2.1.1.1.2), (σ.2.1.1.2.1, σ.2.1.1.2.2)), ((σ.2.1.2.1.1, σ.2.1.2.1.2), σ.2.1.2.2)), (((σ.2.2.1.1.1, o.2), σ.2.2.1.2), ((σ.2.2.2.1.1, σ.2.2.2.1.2), σ.2.2.2.2)))))
set_option maxHeartbeats 4000000 in
set_option maxRecDepth 100000 in
theorem c_X10_pop (l : Launch) (g : GG) (a : Nat → Nat) (text : Nat → Int32) (size : Int32) (sv : Nat → Int32) (stb : Nat → Int32) (var : Nat → Int32) (tab : Nat → Int32) (szs : Nat → Int32) (prg : Nat → Int32) (cod : Nat → Int32) (words : Int32) (has : Int32) (fpl : Int32) (pos : Int32) (fault : Int32) (plc : Int32) (tol : Nat → Int32) (tmany : Int32) (trc : Nat → Int32) (rmany : Int32) (mark : Int64) (pil : Nat → Int32) (pmany : Int32) (mks : Nat → Int32) (cts : Nat → Int32) (turns : Int32) (stop : Int32) (hz : vp_in (pmany - 1) 200) : CI l g yX10_pop cX10_pop 1 (some .int) (rmN 0) (w_Mdl a g) [.ref (a 0)] (((((text, size), (sv, stb)), ((var, tab), szs)), (((prg, cod), words), ((has, fpl), pos))), ((((fault, plc), (tol, tmany)), ((trc, rmany), mark)), (((pil, pmany), mks), ((cts, turns), stop)))) (rb_X10_pop (((((text, size), (sv, stb)), ((var, tab), szs)), (((prg, cod), words), ((has, fpl), pos))), ((((fault, plc), (tol, tmany)), ((trc, rmany), mark)), (((pil, pmany), mks), ((cts, turns), stop)))) (f_X10_pop pil pmany)) := by
  refine CI.mk (by decide) (Nat.le_of_ble_eq_true rfl) ?_
  intro p e s m below meth c A ls hI hw hl
  have hx := hI.1
  have hb := hI.2.1
  obtain ⟨r, hr⟩ : ∃ r, r = rb_X10_pop (((((text, size), (sv, stb)), ((var, tab), szs)), (((prg, cod), words), ((has, fpl), pos))), ((((fault, plc), (tol, tmany)), ((trc, rmany), mark)), (((pil, pmany), mks), ((cts, turns), stop)))) (f_X10_pop pil pmany) := ⟨_, rfl⟩
  rw [← hr]
  have hl : lv_has ls 1 [(0, .ref (a 0))] := hl
  refine lv_aload_n hx hb dX10_pop_0 rfl (lv_at hl 0 rfl) ?_
  refine lv_dup hx hb dX10_pop_1 rfl ?_
  refine hI.get (v := .int pmany) hw fg_X10_161 0 rfl rfl dX10_pop_2 ?_
  refine lv_iconst (v := (1 : Int32)) hx hb dX10_pop_5 (by decide) ?_
  refine lv_isub hx hb dX10_pop_6 ?_
  refine hI.put hw fp_X10_161 rfl 0 rfl rfl rfl (Nat.le_of_ble_eq_true rfl) dX10_pop_7 (fun H locs hw => ?_)
  have hw : Wd g A s (w_Mdl a g (((((text, size), (sv, stb)), ((var, tab), szs)), (((prg, cod), words), ((has, fpl), pos))), ((((fault, plc), (tol, tmany)), ((trc, rmany), mark)), (((pil, pmany - (1 : Int32)), mks), ((cts, turns), stop))))) H locs := hw
  refine lv_aload_n hx hb dX10_pop_10 rfl (lv_at hl 0 rfl) ?_
  refine hI.get (v := .ref (a 11)) hw fg_X10_45 0 rfl rfl dX10_pop_11 ?_
  refine lv_aload_n hx hb dX10_pop_14 rfl (lv_at hl 0 rfl) ?_
  refine hI.get (v := .int (pmany - (1 : Int32))) hw fg_X10_161 0 rfl rfl dX10_pop_15 ?_
  refine hI.iald hw 11 rfl hz dX10_pop_18 ?_
  exact hI.retI (u := (((((text, size), (sv, stb)), ((var, tab), szs)), (((prg, cod), words), ((has, fpl), pos))), ((((fault, plc), (tol, tmany)), ((trc, rmany), mark)), (((pil, pmany - (1 : Int32)), mks), ((cts, turns), stop))))) hw (hr.trans (congrArg (rb_X10_pop (((((text, size), (sv, stb)), ((var, tab), szs)), (((prg, cod), words), ((has, fpl), pos))), ((((fault, plc), (tol, tmany)), ((trc, rmany), mark)), (((pil, pmany), mks), ((cts, turns), stop))))) ((show f_X10_pop pil pmany = (pil (pmany - (1 : Int32)).toNatClampNeg, pmany - (1 : Int32)) from rfl)))) dX10_pop_19
theorem SZ.nz {szs : Nat → Int32} (h : SZ szs) {t : Int32} (ht : vp_in t 4) : ¬ (szs t.toNatClampNeg).toInt64 = 0 := by
  obtain ⟨k, h1, h2, h3⟩ := h.at ht
  rw [h3]
  exact l_nz (nI_le h1 (by omega))
def f_X10_placeOf (szs : Nat → Int32) (x1 : Int32) (x2 : Int32) : Int32 := (((x2.toInt64 &&& (4294967295 : Int64)) - (x2.toInt64 &&& (4294967295 : Int64)) / ((szs x1.toNatClampNeg).toInt64) * ((szs x1.toNatClampNeg).toInt64)).toInt32)
def rb_X10_placeOf (σ : S_Mdl) (o : Int32) : Int32 × S_Mdl := (o, σ)
set_option maxHeartbeats 4000000 in
set_option maxRecDepth 100000 in
theorem c_X10_placeOf (l : Launch) (g : GG) (a : Nat → Nat) (text : Nat → Int32) (size : Int32) (sv : Nat → Int32) (stb : Nat → Int32) (var : Nat → Int32) (tab : Nat → Int32) (szs : Nat → Int32) (prg : Nat → Int32) (cod : Nat → Int32) (words : Int32) (has : Int32) (fpl : Int32) (pos : Int32) (fault : Int32) (plc : Int32) (tol : Nat → Int32) (tmany : Int32) (trc : Nat → Int32) (rmany : Int32) (mark : Int64) (pil : Nat → Int32) (pmany : Int32) (mks : Nat → Int32) (cts : Nat → Int32) (turns : Int32) (stop : Int32) (x1 : Int32) (x2 : Int32) (hz : SZ szs) (ht : vp_in x1 4) : CI l g yX10_placeOf cX10_placeOf 3 (some .int) (rmN 0) (w_Mdl a g) [.ref (a 0), .int x1, .int x2] (((((text, size), (sv, stb)), ((var, tab), szs)), (((prg, cod), words), ((has, fpl), pos))), ((((fault, plc), (tol, tmany)), ((trc, rmany), mark)), (((pil, pmany), mks), ((cts, turns), stop)))) (rb_X10_placeOf (((((text, size), (sv, stb)), ((var, tab), szs)), (((prg, cod), words), ((has, fpl), pos))), ((((fault, plc), (tol, tmany)), ((trc, rmany), mark)), (((pil, pmany), mks), ((cts, turns), stop)))) (f_X10_placeOf szs x1 x2)) := by
  refine CI.mk (by decide) (Nat.le_of_ble_eq_true rfl) ?_
  intro p e s m below meth c A ls hI hw hl
  have hx := hI.1
  have hb := hI.2.1
  obtain ⟨r, hr⟩ : ∃ r, r = rb_X10_placeOf (((((text, size), (sv, stb)), ((var, tab), szs)), (((prg, cod), words), ((has, fpl), pos))), ((((fault, plc), (tol, tmany)), ((trc, rmany), mark)), (((pil, pmany), mks), ((cts, turns), stop)))) (f_X10_placeOf szs x1 x2) := ⟨_, rfl⟩
  rw [← hr]
  have hl : lv_has ls 3 [(0, .ref (a 0)), (1, .int x1), (2, .int x2)] := hl
  refine lv_iload_n hx hb dX10_placeOf_0 rfl (lv_at hl 2 rfl) ?_
  refine lv_i2l (v := x2.toInt64) hx hb dX10_placeOf_1 rfl ?_
  refine lv_ldc2 (v := (4294967295 : Int64)) hx hb hI.2.2.2.1 (hI.2.2.2.2.1 _ mcon_X10_144) dX10_placeOf_2 ?_
  refine lv_land hx hb dX10_placeOf_5 ?_
  refine lv_aload_n hx hb dX10_placeOf_6 rfl (lv_at hl 0 rfl) ?_
  refine hI.get (v := .ref (a 6)) hw fg_X10_26 0 rfl rfl dX10_placeOf_7 ?_
  refine lv_iload_n hx hb dX10_placeOf_10 rfl (lv_at hl 1 rfl) ?_
  refine hI.iald hw 6 rfl ht dX10_placeOf_11 ?_
  refine lv_i2l (v := (szs x1.toNatClampNeg).toInt64) hx hb dX10_placeOf_12 rfl ?_
  refine lv_lrem hx hb dX10_placeOf_13 (hz.nz ht) ?_
  refine lv_l2i (v := ((x2.toInt64 &&& (4294967295 : Int64)) - (x2.toInt64 &&& (4294967295 : Int64)) / ((szs x1.toNatClampNeg).toInt64) * ((szs x1.toNatClampNeg).toInt64)).toInt32) hx hb dX10_placeOf_14 rfl ?_
  exact hI.retI (u := (((((text, size), (sv, stb)), ((var, tab), szs)), (((prg, cod), words), ((has, fpl), pos))), ((((fault, plc), (tol, tmany)), ((trc, rmany), mark)), (((pil, pmany), mks), ((cts, turns), stop))))) hw (hr.trans (congrArg (rb_X10_placeOf (((((text, size), (sv, stb)), ((var, tab), szs)), (((prg, cod), words), ((has, fpl), pos))), ((((fault, plc), (tol, tmany)), ((trc, rmany), mark)), (((pil, pmany), mks), ((cts, turns), stop))))) ((show f_X10_placeOf szs x1 x2 = (((x2.toInt64 &&& (4294967295 : Int64)) - (x2.toInt64 &&& (4294967295 : Int64)) / ((szs x1.toNatClampNeg).toInt64) * ((szs x1.toNatClampNeg).toInt64)).toInt32) from rfl)))) dX10_placeOf_15
def f_X10_make (stop : Int32) (x1 : Int32) (x2 : Int32) (x3 : Int32) : Int32 × Int32 := if x1 = (22 : Int32) then (x2 + x3, stop) else if x1 = (23 : Int32) then (x2 - x3, stop) else if x1 = (24 : Int32) then (x2 * x3, stop) else if x1 = (25 : Int32) then (x2 &&& x3, stop) else if x1 = (26 : Int32) then (x2 ||| x3, stop) else if x1 = (27 : Int32) then (x2 ^^^ x3, stop) else if x1 = (28 : Int32) then (x2 <<< ((x3 &&& (31 : Int32)) &&& 31), stop) else if x1 = (29 : Int32) then ((x2.toUInt32 >>> ((x3 &&& (31 : Int32)).toUInt32 &&& Int32.toUInt32 31)).toInt32, stop) else if x1 = (30 : Int32) then if x3 ≤ x2 then ((0 : Int32), stop) else ((1 : Int32), stop) else if x1 = (31 : Int32) then if x2 = x3 then ((1 : Int32), stop) else ((0 : Int32), stop) else if x1 = (32 : Int32) then if x2 = 0 then ((1 : Int32), stop) else ((0 : Int32), stop) else if x3 = 0 then ((0 : Int32), (-5 : Int32)) else if x1 = (33 : Int32) then if x3 = (-1 : Int32) then (-x2, stop) else (x2 / x3, stop) else if x3 = (-1 : Int32) then ((0 : Int32), stop) else (x2 - x2 / x3 * x3, stop)
def rb_X10_make (σ : S_Mdl) (o : Int32 × Int32) : Int32 × S_Mdl := (o.1, (((((σ.1.1.1.1.1, σ.1.1.1.1.2), (σ.1.1.1.2.1, σ.1.1.1.2.2)), ((σ.1.1.2.1.1, σ.1.1.2.1.2), σ.1.1.2.2)), (((σ.1.2.1.1.1, σ.1.2.1.1.2), σ.1.2.1.2), ((σ.1.2.2.1.1, σ.1.2.2.1.2), σ.1.2.2.2))), ((((σ.2.1.1.1.1, σ.2.1.1.1.2), (σ.2.1.1.2.1, σ.2.1.1.2.2)), ((σ.2.1.2.1.1, σ.2.1.2.1.2), σ.2.1.2.2)), (((σ.2.2.1.1.1, σ.2.2.1.1.2), σ.2.2.1.2), ((σ.2.2.2.1.1, σ.2.2.2.1.2), o.2)))))
set_option maxHeartbeats 4000000 in
set_option maxRecDepth 100000 in
theorem c_X10_make (l : Launch) (g : GG) (a : Nat → Nat) (text : Nat → Int32) (size : Int32) (sv : Nat → Int32) (stb : Nat → Int32) (var : Nat → Int32) (tab : Nat → Int32) (szs : Nat → Int32) (prg : Nat → Int32) (cod : Nat → Int32) (words : Int32) (has : Int32) (fpl : Int32) (pos : Int32) (fault : Int32) (plc : Int32) (tol : Nat → Int32) (tmany : Int32) (trc : Nat → Int32) (rmany : Int32) (mark : Int64) (pil : Nat → Int32) (pmany : Int32) (mks : Nat → Int32) (cts : Nat → Int32) (turns : Int32) (stop : Int32) (x1 : Int32) (x2 : Int32) (x3 : Int32) : CI l g yX10_make cX10_make 4 (some .int) (rmN 0) (w_Mdl a g) [.ref (a 0), .int x1, .int x2, .int x3] (((((text, size), (sv, stb)), ((var, tab), szs)), (((prg, cod), words), ((has, fpl), pos))), ((((fault, plc), (tol, tmany)), ((trc, rmany), mark)), (((pil, pmany), mks), ((cts, turns), stop)))) (rb_X10_make (((((text, size), (sv, stb)), ((var, tab), szs)), (((prg, cod), words), ((has, fpl), pos))), ((((fault, plc), (tol, tmany)), ((trc, rmany), mark)), (((pil, pmany), mks), ((cts, turns), stop)))) (f_X10_make stop x1 x2 x3)) := by
  refine CI.mk (by decide) (Nat.le_of_ble_eq_true rfl) ?_
  intro p e s m below meth c A ls hI hw hl
  have hx := hI.1
  have hb := hI.2.1
  obtain ⟨r, hr⟩ : ∃ r, r = rb_X10_make (((((text, size), (sv, stb)), ((var, tab), szs)), (((prg, cod), words), ((has, fpl), pos))), ((((fault, plc), (tol, tmany)), ((trc, rmany), mark)), (((pil, pmany), mks), ((cts, turns), stop)))) (f_X10_make stop x1 x2 x3) := ⟨_, rfl⟩
  rw [← hr]
  have hl : lv_has ls 4 [(0, .ref (a 0)), (1, .int x1), (2, .int x2), (3, .int x3)] := hl
  refine lv_iload_n hx hb dX10_make_0 rfl (lv_at hl 1 rfl) ?_
  by_cases c1 : x1 = (22 : Int32)
  · refine lv_tableIn (tgt := 60) hx hb dX10_make_1 (by rw [c1]; decide) (by rw [c1]; decide) (by rw [c1]; rfl) (by decide) ?_
    refine lv_iload_n hx hb dX10_make_60 rfl (lv_at hl 2 rfl) ?_
    refine lv_iload_n hx hb dX10_make_61 rfl (lv_at hl 3 rfl) ?_
    refine lv_iadd hx hb dX10_make_62 ?_
    exact hI.retI (u := (((((text, size), (sv, stb)), ((var, tab), szs)), (((prg, cod), words), ((has, fpl), pos))), ((((fault, plc), (tol, tmany)), ((trc, rmany), mark)), (((pil, pmany), mks), ((cts, turns), stop))))) hw (hr.trans (congrArg (rb_X10_make (((((text, size), (sv, stb)), ((var, tab), szs)), (((prg, cod), words), ((has, fpl), pos))), ((((fault, plc), (tol, tmany)), ((trc, rmany), mark)), (((pil, pmany), mks), ((cts, turns), stop))))) ((show f_X10_make stop x1 x2 x3 = (x2 + x3, stop) from it_t c1 (rfl))))) dX10_make_63
  by_cases c2 : x1 = (23 : Int32)
  · refine lv_tableIn (tgt := 64) hx hb dX10_make_1 (by rw [c2]; decide) (by rw [c2]; decide) (by rw [c2]; rfl) (by decide) ?_
    refine lv_iload_n hx hb dX10_make_64 rfl (lv_at hl 2 rfl) ?_
    refine lv_iload_n hx hb dX10_make_65 rfl (lv_at hl 3 rfl) ?_
    refine lv_isub hx hb dX10_make_66 ?_
    exact hI.retI (u := (((((text, size), (sv, stb)), ((var, tab), szs)), (((prg, cod), words), ((has, fpl), pos))), ((((fault, plc), (tol, tmany)), ((trc, rmany), mark)), (((pil, pmany), mks), ((cts, turns), stop))))) hw (hr.trans (congrArg (rb_X10_make (((((text, size), (sv, stb)), ((var, tab), szs)), (((prg, cod), words), ((has, fpl), pos))), ((((fault, plc), (tol, tmany)), ((trc, rmany), mark)), (((pil, pmany), mks), ((cts, turns), stop))))) ((show f_X10_make stop x1 x2 x3 = (x2 - x3, stop) from it_f c1 (it_t c2 (rfl)))))) dX10_make_67
  by_cases c3 : x1 = (24 : Int32)
  · refine lv_tableIn (tgt := 68) hx hb dX10_make_1 (by rw [c3]; decide) (by rw [c3]; decide) (by rw [c3]; rfl) (by decide) ?_
    refine lv_iload_n hx hb dX10_make_68 rfl (lv_at hl 2 rfl) ?_
    refine lv_iload_n hx hb dX10_make_69 rfl (lv_at hl 3 rfl) ?_
    refine lv_imul hx hb dX10_make_70 ?_
    exact hI.retI (u := (((((text, size), (sv, stb)), ((var, tab), szs)), (((prg, cod), words), ((has, fpl), pos))), ((((fault, plc), (tol, tmany)), ((trc, rmany), mark)), (((pil, pmany), mks), ((cts, turns), stop))))) hw (hr.trans (congrArg (rb_X10_make (((((text, size), (sv, stb)), ((var, tab), szs)), (((prg, cod), words), ((has, fpl), pos))), ((((fault, plc), (tol, tmany)), ((trc, rmany), mark)), (((pil, pmany), mks), ((cts, turns), stop))))) ((show f_X10_make stop x1 x2 x3 = (x2 * x3, stop) from it_f c1 (it_f c2 (it_t c3 (rfl))))))) dX10_make_71
  by_cases c4 : x1 = (25 : Int32)
  · refine lv_tableIn (tgt := 72) hx hb dX10_make_1 (by rw [c4]; decide) (by rw [c4]; decide) (by rw [c4]; rfl) (by decide) ?_
    refine lv_iload_n hx hb dX10_make_72 rfl (lv_at hl 2 rfl) ?_
    refine lv_iload_n hx hb dX10_make_73 rfl (lv_at hl 3 rfl) ?_
    refine lv_iand hx hb dX10_make_74 ?_
    exact hI.retI (u := (((((text, size), (sv, stb)), ((var, tab), szs)), (((prg, cod), words), ((has, fpl), pos))), ((((fault, plc), (tol, tmany)), ((trc, rmany), mark)), (((pil, pmany), mks), ((cts, turns), stop))))) hw (hr.trans (congrArg (rb_X10_make (((((text, size), (sv, stb)), ((var, tab), szs)), (((prg, cod), words), ((has, fpl), pos))), ((((fault, plc), (tol, tmany)), ((trc, rmany), mark)), (((pil, pmany), mks), ((cts, turns), stop))))) ((show f_X10_make stop x1 x2 x3 = (x2 &&& x3, stop) from it_f c1 (it_f c2 (it_f c3 (it_t c4 (rfl)))))))) dX10_make_75
  by_cases c5 : x1 = (26 : Int32)
  · refine lv_tableIn (tgt := 76) hx hb dX10_make_1 (by rw [c5]; decide) (by rw [c5]; decide) (by rw [c5]; rfl) (by decide) ?_
    refine lv_iload_n hx hb dX10_make_76 rfl (lv_at hl 2 rfl) ?_
    refine lv_iload_n hx hb dX10_make_77 rfl (lv_at hl 3 rfl) ?_
    refine lv_ior hx hb dX10_make_78 ?_
    exact hI.retI (u := (((((text, size), (sv, stb)), ((var, tab), szs)), (((prg, cod), words), ((has, fpl), pos))), ((((fault, plc), (tol, tmany)), ((trc, rmany), mark)), (((pil, pmany), mks), ((cts, turns), stop))))) hw (hr.trans (congrArg (rb_X10_make (((((text, size), (sv, stb)), ((var, tab), szs)), (((prg, cod), words), ((has, fpl), pos))), ((((fault, plc), (tol, tmany)), ((trc, rmany), mark)), (((pil, pmany), mks), ((cts, turns), stop))))) ((show f_X10_make stop x1 x2 x3 = (x2 ||| x3, stop) from it_f c1 (it_f c2 (it_f c3 (it_f c4 (it_t c5 (rfl))))))))) dX10_make_79
  by_cases c6 : x1 = (27 : Int32)
  · refine lv_tableIn (tgt := 80) hx hb dX10_make_1 (by rw [c6]; decide) (by rw [c6]; decide) (by rw [c6]; rfl) (by decide) ?_
    refine lv_iload_n hx hb dX10_make_80 rfl (lv_at hl 2 rfl) ?_
    refine lv_iload_n hx hb dX10_make_81 rfl (lv_at hl 3 rfl) ?_
    refine lv_ixor hx hb dX10_make_82 ?_
    exact hI.retI (u := (((((text, size), (sv, stb)), ((var, tab), szs)), (((prg, cod), words), ((has, fpl), pos))), ((((fault, plc), (tol, tmany)), ((trc, rmany), mark)), (((pil, pmany), mks), ((cts, turns), stop))))) hw (hr.trans (congrArg (rb_X10_make (((((text, size), (sv, stb)), ((var, tab), szs)), (((prg, cod), words), ((has, fpl), pos))), ((((fault, plc), (tol, tmany)), ((trc, rmany), mark)), (((pil, pmany), mks), ((cts, turns), stop))))) ((show f_X10_make stop x1 x2 x3 = (x2 ^^^ x3, stop) from it_f c1 (it_f c2 (it_f c3 (it_f c4 (it_f c5 (it_t c6 (rfl)))))))))) dX10_make_83
  by_cases c7 : x1 = (28 : Int32)
  · refine lv_tableIn (tgt := 84) hx hb dX10_make_1 (by rw [c7]; decide) (by rw [c7]; decide) (by rw [c7]; rfl) (by decide) ?_
    refine lv_iload_n hx hb dX10_make_84 rfl (lv_at hl 2 rfl) ?_
    refine lv_iload_n hx hb dX10_make_85 rfl (lv_at hl 3 rfl) ?_
    refine lv_bipush (v := (31 : Int32)) hx hb dX10_make_86 (by decide) ?_
    refine lv_iand hx hb dX10_make_88 ?_
    refine lv_ishl hx hb dX10_make_89 ?_
    exact hI.retI (u := (((((text, size), (sv, stb)), ((var, tab), szs)), (((prg, cod), words), ((has, fpl), pos))), ((((fault, plc), (tol, tmany)), ((trc, rmany), mark)), (((pil, pmany), mks), ((cts, turns), stop))))) hw (hr.trans (congrArg (rb_X10_make (((((text, size), (sv, stb)), ((var, tab), szs)), (((prg, cod), words), ((has, fpl), pos))), ((((fault, plc), (tol, tmany)), ((trc, rmany), mark)), (((pil, pmany), mks), ((cts, turns), stop))))) ((show f_X10_make stop x1 x2 x3 = (x2 <<< ((x3 &&& (31 : Int32)) &&& 31), stop) from it_f c1 (it_f c2 (it_f c3 (it_f c4 (it_f c5 (it_f c6 (it_t c7 (rfl))))))))))) dX10_make_90
  by_cases c8 : x1 = (29 : Int32)
  · refine lv_tableIn (tgt := 91) hx hb dX10_make_1 (by rw [c8]; decide) (by rw [c8]; decide) (by rw [c8]; rfl) (by decide) ?_
    refine lv_iload_n hx hb dX10_make_91 rfl (lv_at hl 2 rfl) ?_
    refine lv_iload_n hx hb dX10_make_92 rfl (lv_at hl 3 rfl) ?_
    refine lv_bipush (v := (31 : Int32)) hx hb dX10_make_93 (by decide) ?_
    refine lv_iand hx hb dX10_make_95 ?_
    refine lv_iushr (v := (x2.toUInt32 >>> ((x3 &&& (31 : Int32)).toUInt32 &&& Int32.toUInt32 31)).toInt32) hx hb dX10_make_96 rfl ?_
    exact hI.retI (u := (((((text, size), (sv, stb)), ((var, tab), szs)), (((prg, cod), words), ((has, fpl), pos))), ((((fault, plc), (tol, tmany)), ((trc, rmany), mark)), (((pil, pmany), mks), ((cts, turns), stop))))) hw (hr.trans (congrArg (rb_X10_make (((((text, size), (sv, stb)), ((var, tab), szs)), (((prg, cod), words), ((has, fpl), pos))), ((((fault, plc), (tol, tmany)), ((trc, rmany), mark)), (((pil, pmany), mks), ((cts, turns), stop))))) ((show f_X10_make stop x1 x2 x3 = ((x2.toUInt32 >>> ((x3 &&& (31 : Int32)).toUInt32 &&& Int32.toUInt32 31)).toInt32, stop) from it_f c1 (it_f c2 (it_f c3 (it_f c4 (it_f c5 (it_f c6 (it_f c7 (it_t c8 (rfl)))))))))))) dX10_make_97
  by_cases c9 : x1 = (30 : Int32)
  · refine lv_tableIn (tgt := 98) hx hb dX10_make_1 (by rw [c9]; decide) (by rw [c9]; decide) (by rw [c9]; rfl) (by decide) ?_
    refine lv_iload_n hx hb dX10_make_98 rfl (lv_at hl 2 rfl) ?_
    refine lv_iload_n hx hb dX10_make_99 rfl (lv_at hl 3 rfl) ?_
    refine lv_icmp_ge (tgt := 107) hx hb dX10_make_100 (by decide) (fun c10 => ?_) (fun c10 => ?_)
    · refine lv_iconst (v := (0 : Int32)) hx hb dX10_make_107 (by decide) ?_
      exact hI.retI (u := (((((text, size), (sv, stb)), ((var, tab), szs)), (((prg, cod), words), ((has, fpl), pos))), ((((fault, plc), (tol, tmany)), ((trc, rmany), mark)), (((pil, pmany), mks), ((cts, turns), stop))))) hw (hr.trans (congrArg (rb_X10_make (((((text, size), (sv, stb)), ((var, tab), szs)), (((prg, cod), words), ((has, fpl), pos))), ((((fault, plc), (tol, tmany)), ((trc, rmany), mark)), (((pil, pmany), mks), ((cts, turns), stop))))) ((show f_X10_make stop x1 x2 x3 = ((0 : Int32), stop) from it_f c1 (it_f c2 (it_f c3 (it_f c4 (it_f c5 (it_f c6 (it_f c7 (it_f c8 (it_t c9 (it_t c10 (rfl)))))))))))))) dX10_make_108
    · refine lv_iconst (v := (1 : Int32)) hx hb dX10_make_103 (by decide) ?_
      refine lv_goto (tgt := 108) hx hb dX10_make_104 (by decide) ?_
      exact hI.retI (u := (((((text, size), (sv, stb)), ((var, tab), szs)), (((prg, cod), words), ((has, fpl), pos))), ((((fault, plc), (tol, tmany)), ((trc, rmany), mark)), (((pil, pmany), mks), ((cts, turns), stop))))) hw (hr.trans (congrArg (rb_X10_make (((((text, size), (sv, stb)), ((var, tab), szs)), (((prg, cod), words), ((has, fpl), pos))), ((((fault, plc), (tol, tmany)), ((trc, rmany), mark)), (((pil, pmany), mks), ((cts, turns), stop))))) ((show f_X10_make stop x1 x2 x3 = ((1 : Int32), stop) from it_f c1 (it_f c2 (it_f c3 (it_f c4 (it_f c5 (it_f c6 (it_f c7 (it_f c8 (it_t c9 (it_f c10 (rfl)))))))))))))) dX10_make_108
  by_cases c11 : x1 = (31 : Int32)
  · refine lv_tableIn (tgt := 109) hx hb dX10_make_1 (by rw [c11]; decide) (by rw [c11]; decide) (by rw [c11]; rfl) (by decide) ?_
    refine lv_iload_n hx hb dX10_make_109 rfl (lv_at hl 2 rfl) ?_
    refine lv_iload_n hx hb dX10_make_110 rfl (lv_at hl 3 rfl) ?_
    refine lv_icmp_ne (tgt := 118) hx hb dX10_make_111 (by decide) (fun c12 => ?_) (fun c12 => ?_)
    · refine lv_iconst (v := (0 : Int32)) hx hb dX10_make_118 (by decide) ?_
      exact hI.retI (u := (((((text, size), (sv, stb)), ((var, tab), szs)), (((prg, cod), words), ((has, fpl), pos))), ((((fault, plc), (tol, tmany)), ((trc, rmany), mark)), (((pil, pmany), mks), ((cts, turns), stop))))) hw (hr.trans (congrArg (rb_X10_make (((((text, size), (sv, stb)), ((var, tab), szs)), (((prg, cod), words), ((has, fpl), pos))), ((((fault, plc), (tol, tmany)), ((trc, rmany), mark)), (((pil, pmany), mks), ((cts, turns), stop))))) ((show f_X10_make stop x1 x2 x3 = ((0 : Int32), stop) from it_f c1 (it_f c2 (it_f c3 (it_f c4 (it_f c5 (it_f c6 (it_f c7 (it_f c8 (it_f c9 (it_t c11 (it_f c12 (rfl))))))))))))))) dX10_make_119
    · refine lv_iconst (v := (1 : Int32)) hx hb dX10_make_114 (by decide) ?_
      refine lv_goto (tgt := 119) hx hb dX10_make_115 (by decide) ?_
      exact hI.retI (u := (((((text, size), (sv, stb)), ((var, tab), szs)), (((prg, cod), words), ((has, fpl), pos))), ((((fault, plc), (tol, tmany)), ((trc, rmany), mark)), (((pil, pmany), mks), ((cts, turns), stop))))) hw (hr.trans (congrArg (rb_X10_make (((((text, size), (sv, stb)), ((var, tab), szs)), (((prg, cod), words), ((has, fpl), pos))), ((((fault, plc), (tol, tmany)), ((trc, rmany), mark)), (((pil, pmany), mks), ((cts, turns), stop))))) ((show f_X10_make stop x1 x2 x3 = ((1 : Int32), stop) from it_f c1 (it_f c2 (it_f c3 (it_f c4 (it_f c5 (it_f c6 (it_f c7 (it_f c8 (it_f c9 (it_t c11 (it_t c12 (rfl))))))))))))))) dX10_make_119
  by_cases c13 : x1 = (32 : Int32)
  · refine lv_tableIn (tgt := 120) hx hb dX10_make_1 (by rw [c13]; decide) (by rw [c13]; decide) (by rw [c13]; rfl) (by decide) ?_
    refine lv_iload_n hx hb dX10_make_120 rfl (lv_at hl 2 rfl) ?_
    refine lv_if_ne (tgt := 128) hx hb dX10_make_121 (by decide) (fun c14 => ?_) (fun c14 => ?_)
    · refine lv_iconst (v := (0 : Int32)) hx hb dX10_make_128 (by decide) ?_
      exact hI.retI (u := (((((text, size), (sv, stb)), ((var, tab), szs)), (((prg, cod), words), ((has, fpl), pos))), ((((fault, plc), (tol, tmany)), ((trc, rmany), mark)), (((pil, pmany), mks), ((cts, turns), stop))))) hw (hr.trans (congrArg (rb_X10_make (((((text, size), (sv, stb)), ((var, tab), szs)), (((prg, cod), words), ((has, fpl), pos))), ((((fault, plc), (tol, tmany)), ((trc, rmany), mark)), (((pil, pmany), mks), ((cts, turns), stop))))) ((show f_X10_make stop x1 x2 x3 = ((0 : Int32), stop) from it_f c1 (it_f c2 (it_f c3 (it_f c4 (it_f c5 (it_f c6 (it_f c7 (it_f c8 (it_f c9 (it_f c11 (it_t c13 (it_f c14 (rfl)))))))))))))))) dX10_make_129
    · refine lv_iconst (v := (1 : Int32)) hx hb dX10_make_124 (by decide) ?_
      refine lv_goto (tgt := 129) hx hb dX10_make_125 (by decide) ?_
      exact hI.retI (u := (((((text, size), (sv, stb)), ((var, tab), szs)), (((prg, cod), words), ((has, fpl), pos))), ((((fault, plc), (tol, tmany)), ((trc, rmany), mark)), (((pil, pmany), mks), ((cts, turns), stop))))) hw (hr.trans (congrArg (rb_X10_make (((((text, size), (sv, stb)), ((var, tab), szs)), (((prg, cod), words), ((has, fpl), pos))), ((((fault, plc), (tol, tmany)), ((trc, rmany), mark)), (((pil, pmany), mks), ((cts, turns), stop))))) ((show f_X10_make stop x1 x2 x3 = ((1 : Int32), stop) from it_f c1 (it_f c2 (it_f c3 (it_f c4 (it_f c5 (it_f c6 (it_f c7 (it_f c8 (it_f c9 (it_f c11 (it_t c13 (it_t c14 (rfl)))))))))))))))) dX10_make_129
  refine lv_tableOut (tgt := 130) hx hb dX10_make_1 (by have qc1 := lv_neT c1 (show ((22 : Int32)).toInt = 22 by decide); have qc2 := lv_neT c2 (show ((23 : Int32)).toInt = 23 by decide); have qc3 := lv_neT c3 (show ((24 : Int32)).toInt = 24 by decide); have qc4 := lv_neT c4 (show ((25 : Int32)).toInt = 25 by decide); have qc5 := lv_neT c5 (show ((26 : Int32)).toInt = 26 by decide); have qc6 := lv_neT c6 (show ((27 : Int32)).toInt = 27 by decide); have qc7 := lv_neT c7 (show ((28 : Int32)).toInt = 28 by decide); have qc8 := lv_neT c8 (show ((29 : Int32)).toInt = 29 by decide); have qc9 := lv_neT c9 (show ((30 : Int32)).toInt = 30 by decide); have qc11 := lv_neT c11 (show ((31 : Int32)).toInt = 31 by decide); have qc13 := lv_neT c13 (show ((32 : Int32)).toInt = 32 by decide); omega) (by decide) ?_
  refine lv_iload_n hx hb dX10_make_130 rfl (lv_at hl 3 rfl) ?_
  refine lv_if_ne (tgt := 142) hx hb dX10_make_131 (by decide) (fun c15 => ?_) (fun c15 => ?_)
  · refine lv_iload_n hx hb dX10_make_142 rfl (lv_at hl 1 rfl) ?_
    refine lv_bipush (v := (33 : Int32)) hx hb dX10_make_143 (by decide) ?_
    refine lv_icmp_ne (tgt := 164) hx hb dX10_make_145 (by decide) (fun c16 => ?_) (fun c16 => ?_)
    · refine lv_iload_n hx hb dX10_make_164 rfl (lv_at hl 3 rfl) ?_
      refine lv_iconst (v := (-1 : Int32)) hx hb dX10_make_165 (by decide) ?_
      refine lv_icmp_ne (tgt := 173) hx hb dX10_make_166 (by decide) (fun c17 => ?_) (fun c17 => ?_)
      · refine lv_iload_n hx hb dX10_make_173 rfl (lv_at hl 2 rfl) ?_
        refine lv_iload_n hx hb dX10_make_174 rfl (lv_at hl 3 rfl) ?_
        refine lv_irem hx hb dX10_make_175 c15 ?_
        exact hI.retI (u := (((((text, size), (sv, stb)), ((var, tab), szs)), (((prg, cod), words), ((has, fpl), pos))), ((((fault, plc), (tol, tmany)), ((trc, rmany), mark)), (((pil, pmany), mks), ((cts, turns), stop))))) hw (hr.trans (congrArg (rb_X10_make (((((text, size), (sv, stb)), ((var, tab), szs)), (((prg, cod), words), ((has, fpl), pos))), ((((fault, plc), (tol, tmany)), ((trc, rmany), mark)), (((pil, pmany), mks), ((cts, turns), stop))))) ((show f_X10_make stop x1 x2 x3 = (x2 - x2 / x3 * x3, stop) from it_f c1 (it_f c2 (it_f c3 (it_f c4 (it_f c5 (it_f c6 (it_f c7 (it_f c8 (it_f c9 (it_f c11 (it_f c13 (it_f c15 (it_f c16 (it_f c17 (rfl)))))))))))))))))) dX10_make_176
      · refine lv_iconst (v := (0 : Int32)) hx hb dX10_make_169 (by decide) ?_
        refine lv_goto (tgt := 176) hx hb dX10_make_170 (by decide) ?_
        exact hI.retI (u := (((((text, size), (sv, stb)), ((var, tab), szs)), (((prg, cod), words), ((has, fpl), pos))), ((((fault, plc), (tol, tmany)), ((trc, rmany), mark)), (((pil, pmany), mks), ((cts, turns), stop))))) hw (hr.trans (congrArg (rb_X10_make (((((text, size), (sv, stb)), ((var, tab), szs)), (((prg, cod), words), ((has, fpl), pos))), ((((fault, plc), (tol, tmany)), ((trc, rmany), mark)), (((pil, pmany), mks), ((cts, turns), stop))))) ((show f_X10_make stop x1 x2 x3 = ((0 : Int32), stop) from it_f c1 (it_f c2 (it_f c3 (it_f c4 (it_f c5 (it_f c6 (it_f c7 (it_f c8 (it_f c9 (it_f c11 (it_f c13 (it_f c15 (it_f c16 (it_t c17 (rfl)))))))))))))))))) dX10_make_176
    · refine lv_iload_n hx hb dX10_make_148 rfl (lv_at hl 3 rfl) ?_
      refine lv_iconst (v := (-1 : Int32)) hx hb dX10_make_149 (by decide) ?_
      refine lv_icmp_ne (tgt := 158) hx hb dX10_make_150 (by decide) (fun c18 => ?_) (fun c18 => ?_)
      · refine lv_iload_n hx hb dX10_make_158 rfl (lv_at hl 2 rfl) ?_
        refine lv_iload_n hx hb dX10_make_159 rfl (lv_at hl 3 rfl) ?_
        refine lv_idiv hx hb dX10_make_160 c15 ?_
        refine lv_goto (tgt := 176) hx hb dX10_make_161 (by decide) ?_
        exact hI.retI (u := (((((text, size), (sv, stb)), ((var, tab), szs)), (((prg, cod), words), ((has, fpl), pos))), ((((fault, plc), (tol, tmany)), ((trc, rmany), mark)), (((pil, pmany), mks), ((cts, turns), stop))))) hw (hr.trans (congrArg (rb_X10_make (((((text, size), (sv, stb)), ((var, tab), szs)), (((prg, cod), words), ((has, fpl), pos))), ((((fault, plc), (tol, tmany)), ((trc, rmany), mark)), (((pil, pmany), mks), ((cts, turns), stop))))) ((show f_X10_make stop x1 x2 x3 = (x2 / x3, stop) from it_f c1 (it_f c2 (it_f c3 (it_f c4 (it_f c5 (it_f c6 (it_f c7 (it_f c8 (it_f c9 (it_f c11 (it_f c13 (it_f c15 (it_t c16 (it_f c18 (rfl)))))))))))))))))) dX10_make_176
      · refine lv_iload_n hx hb dX10_make_153 rfl (lv_at hl 2 rfl) ?_
        refine lv_ineg hx hb dX10_make_154 ?_
        refine lv_goto (tgt := 176) hx hb dX10_make_155 (by decide) ?_
        exact hI.retI (u := (((((text, size), (sv, stb)), ((var, tab), szs)), (((prg, cod), words), ((has, fpl), pos))), ((((fault, plc), (tol, tmany)), ((trc, rmany), mark)), (((pil, pmany), mks), ((cts, turns), stop))))) hw (hr.trans (congrArg (rb_X10_make (((((text, size), (sv, stb)), ((var, tab), szs)), (((prg, cod), words), ((has, fpl), pos))), ((((fault, plc), (tol, tmany)), ((trc, rmany), mark)), (((pil, pmany), mks), ((cts, turns), stop))))) ((show f_X10_make stop x1 x2 x3 = (-x2, stop) from it_f c1 (it_f c2 (it_f c3 (it_f c4 (it_f c5 (it_f c6 (it_f c7 (it_f c8 (it_f c9 (it_f c11 (it_f c13 (it_f c15 (it_t c16 (it_t c18 (rfl)))))))))))))))))) dX10_make_176
  · refine lv_aload_n hx hb dX10_make_134 rfl (lv_at hl 0 rfl) ?_
    refine lv_bipush (v := (-5 : Int32)) hx hb dX10_make_135 (by decide) ?_
    refine hI.put hw fp_X10_146 rfl 0 rfl rfl rfl (Nat.le_of_ble_eq_true rfl) dX10_make_137 (fun H locs hw => ?_)
    have hw : Wd g A s (w_Mdl a g (((((text, size), (sv, stb)), ((var, tab), szs)), (((prg, cod), words), ((has, fpl), pos))), ((((fault, plc), (tol, tmany)), ((trc, rmany), mark)), (((pil, pmany), mks), ((cts, turns), (-5 : Int32)))))) H locs := hw
    refine lv_iconst (v := (0 : Int32)) hx hb dX10_make_140 (by decide) ?_
    exact hI.retI (u := (((((text, size), (sv, stb)), ((var, tab), szs)), (((prg, cod), words), ((has, fpl), pos))), ((((fault, plc), (tol, tmany)), ((trc, rmany), mark)), (((pil, pmany), mks), ((cts, turns), (-5 : Int32)))))) hw (hr.trans (congrArg (rb_X10_make (((((text, size), (sv, stb)), ((var, tab), szs)), (((prg, cod), words), ((has, fpl), pos))), ((((fault, plc), (tol, tmany)), ((trc, rmany), mark)), (((pil, pmany), mks), ((cts, turns), stop))))) ((show f_X10_make stop x1 x2 x3 = ((0 : Int32), (-5 : Int32)) from it_f c1 (it_f c2 (it_f c3 (it_f c4 (it_f c5 (it_f c6 (it_f c7 (it_f c8 (it_f c9 (it_f c11 (it_f c13 (it_t c15 (rfl)))))))))))))))) dX10_make_141
def f_X10_turn (turns : Int32) (stop : Int32) : Int32 × (Int32 × Int32) := if turns = (5000 : Int32) then ((0 : Int32), (turns, (-4 : Int32))) else ((1 : Int32), (turns + (1 : Int32), stop))
def rb_X10_turn (σ : S_Mdl) (o : Int32 × (Int32 × Int32)) : Int32 × S_Mdl := (o.1, (((((σ.1.1.1.1.1, σ.1.1.1.1.2), (σ.1.1.1.2.1, σ.1.1.1.2.2)), ((σ.1.1.2.1.1, σ.1.1.2.1.2), σ.1.1.2.2)), (((σ.1.2.1.1.1, σ.1.2.1.1.2), σ.1.2.1.2), ((σ.1.2.2.1.1, σ.1.2.2.1.2), σ.1.2.2.2))), ((((σ.2.1.1.1.1, σ.2.1.1.1.2), (σ.2.1.1.2.1, σ.2.1.1.2.2)), ((σ.2.1.2.1.1, σ.2.1.2.1.2), σ.2.1.2.2)), (((σ.2.2.1.1.1, σ.2.2.1.1.2), σ.2.2.1.2), ((σ.2.2.2.1.1, o.2.1), o.2.2)))))
set_option maxHeartbeats 4000000 in
set_option maxRecDepth 100000 in
theorem c_X10_turn (l : Launch) (g : GG) (a : Nat → Nat) (text : Nat → Int32) (size : Int32) (sv : Nat → Int32) (stb : Nat → Int32) (var : Nat → Int32) (tab : Nat → Int32) (szs : Nat → Int32) (prg : Nat → Int32) (cod : Nat → Int32) (words : Int32) (has : Int32) (fpl : Int32) (pos : Int32) (fault : Int32) (plc : Int32) (tol : Nat → Int32) (tmany : Int32) (trc : Nat → Int32) (rmany : Int32) (mark : Int64) (pil : Nat → Int32) (pmany : Int32) (mks : Nat → Int32) (cts : Nat → Int32) (turns : Int32) (stop : Int32) : CI l g yX10_turn cX10_turn 1 (some .boolean) (rmN 0) (w_Mdl a g) [.ref (a 0)] (((((text, size), (sv, stb)), ((var, tab), szs)), (((prg, cod), words), ((has, fpl), pos))), ((((fault, plc), (tol, tmany)), ((trc, rmany), mark)), (((pil, pmany), mks), ((cts, turns), stop)))) (rb_X10_turn (((((text, size), (sv, stb)), ((var, tab), szs)), (((prg, cod), words), ((has, fpl), pos))), ((((fault, plc), (tol, tmany)), ((trc, rmany), mark)), (((pil, pmany), mks), ((cts, turns), stop)))) (f_X10_turn turns stop)) := by
  refine CI.mk (by decide) (Nat.le_of_ble_eq_true rfl) ?_
  intro p e s m below meth c A ls hI hw hl
  have hx := hI.1
  have hb := hI.2.1
  obtain ⟨r, hr⟩ : ∃ r, r = rb_X10_turn (((((text, size), (sv, stb)), ((var, tab), szs)), (((prg, cod), words), ((has, fpl), pos))), ((((fault, plc), (tol, tmany)), ((trc, rmany), mark)), (((pil, pmany), mks), ((cts, turns), stop)))) (f_X10_turn turns stop) := ⟨_, rfl⟩
  rw [← hr]
  have hl : lv_has ls 1 [(0, .ref (a 0))] := hl
  refine lv_aload_n hx hb dX10_turn_0 rfl (lv_at hl 0 rfl) ?_
  refine hI.get (v := .int turns) hw fg_X10_196 0 rfl rfl dX10_turn_1 ?_
  refine lv_sipush (v := (5000 : Int32)) hx hb dX10_turn_4 (by decide) ?_
  refine lv_icmp_ne (tgt := 18) hx hb dX10_turn_7 (by decide) (fun c1 => ?_) (fun c1 => ?_)
  · refine lv_aload_n hx hb dX10_turn_18 rfl (lv_at hl 0 rfl) ?_
    refine lv_dup hx hb dX10_turn_19 rfl ?_
    refine hI.get (v := .int turns) hw fg_X10_196 0 rfl rfl dX10_turn_20 ?_
    refine lv_iconst (v := (1 : Int32)) hx hb dX10_turn_23 (by decide) ?_
    refine lv_iadd hx hb dX10_turn_24 ?_
    refine hI.put hw fp_X10_196 rfl 0 rfl rfl rfl (Nat.le_of_ble_eq_true rfl) dX10_turn_25 (fun H locs hw => ?_)
    have hw : Wd g A s (w_Mdl a g (((((text, size), (sv, stb)), ((var, tab), szs)), (((prg, cod), words), ((has, fpl), pos))), ((((fault, plc), (tol, tmany)), ((trc, rmany), mark)), (((pil, pmany), mks), ((cts, turns + (1 : Int32)), stop))))) H locs := hw
    refine lv_iconst (v := (1 : Int32)) hx hb dX10_turn_28 (by decide) ?_
    exact hI.retZ (u := (((((text, size), (sv, stb)), ((var, tab), szs)), (((prg, cod), words), ((has, fpl), pos))), ((((fault, plc), (tol, tmany)), ((trc, rmany), mark)), (((pil, pmany), mks), ((cts, turns + (1 : Int32)), stop))))) hw rfl (hr.trans (congrArg (rb_X10_turn (((((text, size), (sv, stb)), ((var, tab), szs)), (((prg, cod), words), ((has, fpl), pos))), ((((fault, plc), (tol, tmany)), ((trc, rmany), mark)), (((pil, pmany), mks), ((cts, turns), stop))))) ((show f_X10_turn turns stop = ((1 : Int32), (turns + (1 : Int32), stop)) from it_f c1 (rfl))))) dX10_turn_29
  · refine lv_aload_n hx hb dX10_turn_10 rfl (lv_at hl 0 rfl) ?_
    refine lv_bipush (v := (-4 : Int32)) hx hb dX10_turn_11 (by decide) ?_
    refine hI.put hw fp_X10_146 rfl 0 rfl rfl rfl (Nat.le_of_ble_eq_true rfl) dX10_turn_13 (fun H locs hw => ?_)
    have hw : Wd g A s (w_Mdl a g (((((text, size), (sv, stb)), ((var, tab), szs)), (((prg, cod), words), ((has, fpl), pos))), ((((fault, plc), (tol, tmany)), ((trc, rmany), mark)), (((pil, pmany), mks), ((cts, turns), (-4 : Int32)))))) H locs := hw
    refine lv_iconst (v := (0 : Int32)) hx hb dX10_turn_16 (by decide) ?_
    exact hI.retZ (u := (((((text, size), (sv, stb)), ((var, tab), szs)), (((prg, cod), words), ((has, fpl), pos))), ((((fault, plc), (tol, tmany)), ((trc, rmany), mark)), (((pil, pmany), mks), ((cts, turns), (-4 : Int32)))))) hw rfl (hr.trans (congrArg (rb_X10_turn (((((text, size), (sv, stb)), ((var, tab), szs)), (((prg, cod), words), ((has, fpl), pos))), ((((fault, plc), (tol, tmany)), ((trc, rmany), mark)), (((pil, pmany), mks), ((cts, turns), stop))))) ((show f_X10_turn turns stop = ((0 : Int32), (turns, (-4 : Int32))) from it_t c1 (rfl))))) dX10_turn_17
def f_X10_fail (fault : Int32) (plc : Int32) (x1 : Int32) (x2 : Int32) : Int32 × (Int32 × Int32) := if fault = 0 then ((0 : Int32), (x1, x2)) else ((0 : Int32), (fault, plc))
def rb_X10_fail (σ : S_Mdl) (o : Int32 × (Int32 × Int32)) : Int32 × S_Mdl := (o.1, (((((σ.1.1.1.1.1, σ.1.1.1.1.2), (σ.1.1.1.2.1, σ.1.1.1.2.2)), ((σ.1.1.2.1.1, σ.1.1.2.1.2), σ.1.1.2.2)), (((σ.1.2.1.1.1, σ.1.2.1.1.2), σ.1.2.1.2), ((σ.1.2.2.1.1, σ.1.2.2.1.2), σ.1.2.2.2))), ((((o.2.1, o.2.2), (σ.2.1.1.2.1, σ.2.1.1.2.2)), ((σ.2.1.2.1.1, σ.2.1.2.1.2), σ.2.1.2.2)), (((σ.2.2.1.1.1, σ.2.2.1.1.2), σ.2.2.1.2), ((σ.2.2.2.1.1, σ.2.2.2.1.2), σ.2.2.2.2)))))
set_option maxHeartbeats 4000000 in
set_option maxRecDepth 100000 in
theorem c_X10_fail (l : Launch) (g : GG) (a : Nat → Nat) (text : Nat → Int32) (size : Int32) (sv : Nat → Int32) (stb : Nat → Int32) (var : Nat → Int32) (tab : Nat → Int32) (szs : Nat → Int32) (prg : Nat → Int32) (cod : Nat → Int32) (words : Int32) (has : Int32) (fpl : Int32) (pos : Int32) (fault : Int32) (plc : Int32) (tol : Nat → Int32) (tmany : Int32) (trc : Nat → Int32) (rmany : Int32) (mark : Int64) (pil : Nat → Int32) (pmany : Int32) (mks : Nat → Int32) (cts : Nat → Int32) (turns : Int32) (stop : Int32) (x1 : Int32) (x2 : Int32) : CI l g yX10_fail cX10_fail 3 (some .boolean) (rmN 0) (w_Mdl a g) [.ref (a 0), .int x1, .int x2] (((((text, size), (sv, stb)), ((var, tab), szs)), (((prg, cod), words), ((has, fpl), pos))), ((((fault, plc), (tol, tmany)), ((trc, rmany), mark)), (((pil, pmany), mks), ((cts, turns), stop)))) (rb_X10_fail (((((text, size), (sv, stb)), ((var, tab), szs)), (((prg, cod), words), ((has, fpl), pos))), ((((fault, plc), (tol, tmany)), ((trc, rmany), mark)), (((pil, pmany), mks), ((cts, turns), stop)))) (f_X10_fail fault plc x1 x2)) := by
  refine CI.mk (by decide) (Nat.le_of_ble_eq_true rfl) ?_
  intro p e s m below meth c A ls hI hw hl
  have hx := hI.1
  have hb := hI.2.1
  obtain ⟨r, hr⟩ : ∃ r, r = rb_X10_fail (((((text, size), (sv, stb)), ((var, tab), szs)), (((prg, cod), words), ((has, fpl), pos))), ((((fault, plc), (tol, tmany)), ((trc, rmany), mark)), (((pil, pmany), mks), ((cts, turns), stop)))) (f_X10_fail fault plc x1 x2) := ⟨_, rfl⟩
  rw [← hr]
  have hl : lv_has ls 3 [(0, .ref (a 0)), (1, .int x1), (2, .int x2)] := hl
  refine lv_aload_n hx hb dX10_fail_0 rfl (lv_at hl 0 rfl) ?_
  refine hI.get (v := .int fault) hw fg_X10_65 0 rfl rfl dX10_fail_1 ?_
  refine lv_if_ne (tgt := 17) hx hb dX10_fail_4 (by decide) (fun c1 => ?_) (fun c1 => ?_)
  · refine lv_iconst (v := (0 : Int32)) hx hb dX10_fail_17 (by decide) ?_
    exact hI.retZ (u := (((((text, size), (sv, stb)), ((var, tab), szs)), (((prg, cod), words), ((has, fpl), pos))), ((((fault, plc), (tol, tmany)), ((trc, rmany), mark)), (((pil, pmany), mks), ((cts, turns), stop))))) hw rfl (hr.trans (congrArg (rb_X10_fail (((((text, size), (sv, stb)), ((var, tab), szs)), (((prg, cod), words), ((has, fpl), pos))), ((((fault, plc), (tol, tmany)), ((trc, rmany), mark)), (((pil, pmany), mks), ((cts, turns), stop))))) ((show f_X10_fail fault plc x1 x2 = ((0 : Int32), (fault, plc)) from it_f c1 (rfl))))) dX10_fail_18
  · refine lv_aload_n hx hb dX10_fail_7 rfl (lv_at hl 0 rfl) ?_
    refine lv_iload_n hx hb dX10_fail_8 rfl (lv_at hl 1 rfl) ?_
    refine hI.put hw fp_X10_65 rfl 0 rfl rfl rfl (Nat.le_of_ble_eq_true rfl) dX10_fail_9 (fun H locs hw => ?_)
    have hw : Wd g A s (w_Mdl a g (((((text, size), (sv, stb)), ((var, tab), szs)), (((prg, cod), words), ((has, fpl), pos))), ((((x1, plc), (tol, tmany)), ((trc, rmany), mark)), (((pil, pmany), mks), ((cts, turns), stop))))) H locs := hw
    refine lv_aload_n hx hb dX10_fail_12 rfl (lv_at hl 0 rfl) ?_
    refine lv_iload_n hx hb dX10_fail_13 rfl (lv_at hl 2 rfl) ?_
    refine hI.put hw fp_X10_68 rfl 0 rfl rfl rfl (Nat.le_of_ble_eq_true rfl) dX10_fail_14 (fun H locs hw => ?_)
    have hw : Wd g A s (w_Mdl a g (((((text, size), (sv, stb)), ((var, tab), szs)), (((prg, cod), words), ((has, fpl), pos))), ((((x1, x2), (tol, tmany)), ((trc, rmany), mark)), (((pil, pmany), mks), ((cts, turns), stop))))) H locs := hw
    refine lv_iconst (v := (0 : Int32)) hx hb dX10_fail_17 (by decide) ?_
    exact hI.retZ (u := (((((text, size), (sv, stb)), ((var, tab), szs)), (((prg, cod), words), ((has, fpl), pos))), ((((x1, x2), (tol, tmany)), ((trc, rmany), mark)), (((pil, pmany), mks), ((cts, turns), stop))))) hw rfl (hr.trans (congrArg (rb_X10_fail (((((text, size), (sv, stb)), ((var, tab), szs)), (((prg, cod), words), ((has, fpl), pos))), ((((fault, plc), (tol, tmany)), ((trc, rmany), mark)), (((pil, pmany), mks), ((cts, turns), stop))))) ((show f_X10_fail fault plc x1 x2 = ((0 : Int32), (x1, x2)) from it_t c1 (rfl))))) dX10_fail_18
