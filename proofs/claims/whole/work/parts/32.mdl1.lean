/-- the reader's place: in the text, or behind it -/
def RI (size pos : Int32) : Prop := ∃ a n : Nat, pos = nI a ∧ size = nI n ∧ a ≤ n ∧ n ≤ 400
theorem RI.lt2 {size pos : Int32} (h : RI size pos) (hlt : ¬ size ≤ pos) : vp_in pos 400 := by
  obtain ⟨a, n, rfl, rfl, h1, h2⟩ := h
  have : a < n := Nat.lt_of_not_le fun z => hlt (nI_le z (by omega))
  exact vp_in_nI (by omega) (by decide)
theorem RI.ne2 {size pos : Int32} (h : RI size pos) (hne : ¬ pos = size) : ¬ size ≤ pos := by
  obtain ⟨a, n, rfl, rfl, h1, h2⟩ := h
  intro z
  have := (nI_leI (by omega) (by omega)).mp z
  have e : a = n := by omega
  exact hne (by rw [e])
theorem RI.lt {size pos : Int32} (h : RI size pos) (hne : ¬ pos = size) : vp_in pos 400 := h.lt2 (h.ne2 hne)
theorem RI.succ2 {size pos : Int32} (h : RI size pos) (hlt : ¬ size ≤ pos) : RI size (pos + 1) := by
  obtain ⟨a, n, rfl, rfl, h1, h2⟩ := h
  have : a < n := Nat.lt_of_not_le fun z => hlt (nI_le z (by omega))
  exact ⟨a + 1, n, nI_1 a, rfl, by omega, h2⟩
theorem RI.succ {size pos : Int32} (h : RI size pos) (hne : ¬ pos = size) : RI size (pos + 1) := h.succ2 (h.ne2 hne)
/-- the fuel of reading all: enough for what is left of the text -/
def RK (size pos fault : Int32) (k : Nat) : Prop := ∃ a n : Nat, pos = nI a ∧ size = nI n ∧ a ≤ n ∧ n ≤ 400 ∧ 1 ≤ k ∧ (fault = 0 → n - a + 2 ≤ k)
theorem RK.start {size pos fault : Int32} (h : RI size pos) : RK size pos fault 402 := by
  obtain ⟨a, n, h0, h1, h2, h3⟩ := h
  exact ⟨a, n, h0, h1, h2, h3, by omega, fun _ => by omega⟩
theorem RK.ri {size pos fault : Int32} {k : Nat} (h : RK size pos fault k) : RI size pos := by
  obtain ⟨a, n, h0, h1, h2, h3, -⟩ := h
  exact ⟨a, n, h0, h1, h2, h3⟩
theorem RK.step {size pos fault pos' fault' : Int32} {k : Nat} (h : RK size pos fault (k + 1)) (h0 : fault = 0) (hr : RI size pos' ∧ (fault' = 0 → pos < pos')) : RK size pos' fault' k := by
  obtain ⟨a, n, rfl, rfl, h2, h3, h4, h5⟩ := h
  obtain ⟨⟨b, m, rfl, hm, h6, h7⟩, h8⟩ := hr
  have hnm : n = m := (nI_eq (by omega) (by omega)).mp hm
  subst hnm
  have h9 := h5 h0
  refine ⟨b, n, rfl, rfl, h6, h7, by omega, fun z => ?_⟩
  have := (nI_ltI (by omega) (by omega)).mp (h8 z)
  omega
theorem RK.n0 {size pos fault : Int32} (h : RK size pos fault 0) : False := by
  obtain ⟨a, n, h0, h1, h2, h3, h4, -⟩ := h
  omega
def f_X10_here (text : Nat → Int32) (size : Int32) (pos : Int32) : Int32 := if size ≤ pos then ((-1 : Int32)) else (text pos.toNatClampNeg)
def rb_X10_here (σ : S_Mdl) (o : Int32) : Int32 × S_Mdl := (o, σ)
set_option maxHeartbeats 4000000 in
set_option maxRecDepth 100000 in
theorem c_X10_here (l : Launch) (g : GG) (a : Nat → Nat) (text : Nat → Int32) (size : Int32) (sv : Nat → Int32) (stb : Nat → Int32) (var : Nat → Int32) (tab : Nat → Int32) (szs : Nat → Int32) (prg : Nat → Int32) (cod : Nat → Int32) (words : Int32) (has : Int32) (fpl : Int32) (pos : Int32) (fault : Int32) (plc : Int32) (tol : Nat → Int32) (tmany : Int32) (trc : Nat → Int32) (rmany : Int32) (mark : Int64) (pil : Nat → Int32) (pmany : Int32) (mks : Nat → Int32) (cts : Nat → Int32) (turns : Int32) (stop : Int32) (hi : RI size pos) : CI l g yX10_here cX10_here 1 (some .int) (rmN 0) (w_Mdl a g) [.ref (a 0)] (((((text, size), (sv, stb)), ((var, tab), szs)), (((prg, cod), words), ((has, fpl), pos))), ((((fault, plc), (tol, tmany)), ((trc, rmany), mark)), (((pil, pmany), mks), ((cts, turns), stop)))) (rb_X10_here (((((text, size), (sv, stb)), ((var, tab), szs)), (((prg, cod), words), ((has, fpl), pos))), ((((fault, plc), (tol, tmany)), ((trc, rmany), mark)), (((pil, pmany), mks), ((cts, turns), stop)))) (f_X10_here text size pos)) := by
  refine CI.mk (by decide) (Nat.le_of_ble_eq_true rfl) ?_
  intro p e s m below meth c A ls hI hw hl
  have hx := hI.1
  have hb := hI.2.1
  obtain ⟨r, hr⟩ : ∃ r, r = rb_X10_here (((((text, size), (sv, stb)), ((var, tab), szs)), (((prg, cod), words), ((has, fpl), pos))), ((((fault, plc), (tol, tmany)), ((trc, rmany), mark)), (((pil, pmany), mks), ((cts, turns), stop)))) (f_X10_here text size pos) := ⟨_, rfl⟩
  rw [← hr]
  have hl : lv_has ls 1 [(0, .ref (a 0))] := hl
  refine lv_aload_n hx hb dX10_here_0 rfl (lv_at hl 0 rfl) ?_
  refine hI.get (v := .int pos) hw fg_X10_71 0 rfl rfl dX10_here_1 ?_
  refine lv_aload_n hx hb dX10_here_4 rfl (lv_at hl 0 rfl) ?_
  refine hI.get (v := .int size) hw fg_X10_62 0 rfl rfl dX10_here_5 ?_
  refine lv_icmp_ge (tgt := 23) hx hb dX10_here_8 (by decide) (fun c1 => ?_) (fun c1 => ?_)
  · refine lv_iconst (v := (-1 : Int32)) hx hb dX10_here_23 (by decide) ?_
    exact hI.retI (u := (((((text, size), (sv, stb)), ((var, tab), szs)), (((prg, cod), words), ((has, fpl), pos))), ((((fault, plc), (tol, tmany)), ((trc, rmany), mark)), (((pil, pmany), mks), ((cts, turns), stop))))) hw (hr.trans (congrArg (rb_X10_here (((((text, size), (sv, stb)), ((var, tab), szs)), (((prg, cod), words), ((has, fpl), pos))), ((((fault, plc), (tol, tmany)), ((trc, rmany), mark)), (((pil, pmany), mks), ((cts, turns), stop))))) ((show f_X10_here text size pos = ((-1 : Int32)) from it_t c1 (rfl))))) dX10_here_24
  · refine lv_aload_n hx hb dX10_here_11 rfl (lv_at hl 0 rfl) ?_
    refine hI.get (v := .ref (a 1)) hw fg_X10_7 0 rfl rfl dX10_here_12 ?_
    refine lv_aload_n hx hb dX10_here_15 rfl (lv_at hl 0 rfl) ?_
    refine hI.get (v := .int pos) hw fg_X10_71 0 rfl rfl dX10_here_16 ?_
    refine hI.iald hw 1 rfl (hi.lt2 c1) dX10_here_19 ?_
    refine lv_goto (tgt := 24) hx hb dX10_here_20 (by decide) ?_
    exact hI.retI (u := (((((text, size), (sv, stb)), ((var, tab), szs)), (((prg, cod), words), ((has, fpl), pos))), ((((fault, plc), (tol, tmany)), ((trc, rmany), mark)), (((pil, pmany), mks), ((cts, turns), stop))))) hw (hr.trans (congrArg (rb_X10_here (((((text, size), (sv, stb)), ((var, tab), szs)), (((prg, cod), words), ((has, fpl), pos))), ((((fault, plc), (tol, tmany)), ((trc, rmany), mark)), (((pil, pmany), mks), ((cts, turns), stop))))) ((show f_X10_here text size pos = (text pos.toNatClampNeg) from it_f c1 (rfl))))) dX10_here_24
def f_X10_isHere (text : Nat → Int32) (size : Int32) (pos : Int32) (x1 : Int32) : Int32 := if size ≤ pos then ((0 : Int32)) else if (text pos.toNatClampNeg) = x1 then ((1 : Int32)) else ((0 : Int32))
def rb_X10_isHere (σ : S_Mdl) (o : Int32) : Int32 × S_Mdl := (o, σ)
set_option maxHeartbeats 4000000 in
set_option maxRecDepth 100000 in
theorem c_X10_isHere (l : Launch) (g : GG) (a : Nat → Nat) (text : Nat → Int32) (size : Int32) (sv : Nat → Int32) (stb : Nat → Int32) (var : Nat → Int32) (tab : Nat → Int32) (szs : Nat → Int32) (prg : Nat → Int32) (cod : Nat → Int32) (words : Int32) (has : Int32) (fpl : Int32) (pos : Int32) (fault : Int32) (plc : Int32) (tol : Nat → Int32) (tmany : Int32) (trc : Nat → Int32) (rmany : Int32) (mark : Int64) (pil : Nat → Int32) (pmany : Int32) (mks : Nat → Int32) (cts : Nat → Int32) (turns : Int32) (stop : Int32) (x1 : Int32) (hi : RI size pos) : CI l g yX10_isHere cX10_isHere 2 (some .boolean) (rmN 0) (w_Mdl a g) [.ref (a 0), .int x1] (((((text, size), (sv, stb)), ((var, tab), szs)), (((prg, cod), words), ((has, fpl), pos))), ((((fault, plc), (tol, tmany)), ((trc, rmany), mark)), (((pil, pmany), mks), ((cts, turns), stop)))) (rb_X10_isHere (((((text, size), (sv, stb)), ((var, tab), szs)), (((prg, cod), words), ((has, fpl), pos))), ((((fault, plc), (tol, tmany)), ((trc, rmany), mark)), (((pil, pmany), mks), ((cts, turns), stop)))) (f_X10_isHere text size pos x1)) := by
  refine CI.mk (by decide) (Nat.le_of_ble_eq_true rfl) ?_
  intro p e s m below meth c A ls hI hw hl
  have hx := hI.1
  have hb := hI.2.1
  obtain ⟨r, hr⟩ : ∃ r, r = rb_X10_isHere (((((text, size), (sv, stb)), ((var, tab), szs)), (((prg, cod), words), ((has, fpl), pos))), ((((fault, plc), (tol, tmany)), ((trc, rmany), mark)), (((pil, pmany), mks), ((cts, turns), stop)))) (f_X10_isHere text size pos x1) := ⟨_, rfl⟩
  rw [← hr]
  have hl : lv_has ls 2 [(0, .ref (a 0)), (1, .int x1)] := hl
  refine lv_aload_n hx hb dX10_isHere_0 rfl (lv_at hl 0 rfl) ?_
  refine hI.get (v := .int pos) hw fg_X10_71 0 rfl rfl dX10_isHere_1 ?_
  refine lv_aload_n hx hb dX10_isHere_4 rfl (lv_at hl 0 rfl) ?_
  refine hI.get (v := .int size) hw fg_X10_62 0 rfl rfl dX10_isHere_5 ?_
  refine lv_icmp_ge (tgt := 28) hx hb dX10_isHere_8 (by decide) (fun c1 => ?_) (fun c1 => ?_)
  · refine lv_iconst (v := (0 : Int32)) hx hb dX10_isHere_28 (by decide) ?_
    exact hI.retZ (u := (((((text, size), (sv, stb)), ((var, tab), szs)), (((prg, cod), words), ((has, fpl), pos))), ((((fault, plc), (tol, tmany)), ((trc, rmany), mark)), (((pil, pmany), mks), ((cts, turns), stop))))) hw rfl (hr.trans (congrArg (rb_X10_isHere (((((text, size), (sv, stb)), ((var, tab), szs)), (((prg, cod), words), ((has, fpl), pos))), ((((fault, plc), (tol, tmany)), ((trc, rmany), mark)), (((pil, pmany), mks), ((cts, turns), stop))))) ((show f_X10_isHere text size pos x1 = ((0 : Int32)) from it_t c1 (rfl))))) dX10_isHere_29
  · refine lv_aload_n hx hb dX10_isHere_11 rfl (lv_at hl 0 rfl) ?_
    refine hI.get (v := .ref (a 1)) hw fg_X10_7 0 rfl rfl dX10_isHere_12 ?_
    refine lv_aload_n hx hb dX10_isHere_15 rfl (lv_at hl 0 rfl) ?_
    refine hI.get (v := .int pos) hw fg_X10_71 0 rfl rfl dX10_isHere_16 ?_
    refine hI.iald hw 1 rfl (hi.lt2 c1) dX10_isHere_19 ?_
    refine lv_iload_n hx hb dX10_isHere_20 rfl (lv_at hl 1 rfl) ?_
    refine lv_icmp_ne (tgt := 28) hx hb dX10_isHere_21 (by decide) (fun c2 => ?_) (fun c2 => ?_)
    · refine lv_iconst (v := (0 : Int32)) hx hb dX10_isHere_28 (by decide) ?_
      exact hI.retZ (u := (((((text, size), (sv, stb)), ((var, tab), szs)), (((prg, cod), words), ((has, fpl), pos))), ((((fault, plc), (tol, tmany)), ((trc, rmany), mark)), (((pil, pmany), mks), ((cts, turns), stop))))) hw rfl (hr.trans (congrArg (rb_X10_isHere (((((text, size), (sv, stb)), ((var, tab), szs)), (((prg, cod), words), ((has, fpl), pos))), ((((fault, plc), (tol, tmany)), ((trc, rmany), mark)), (((pil, pmany), mks), ((cts, turns), stop))))) ((show f_X10_isHere text size pos x1 = ((0 : Int32)) from it_f c1 (it_f c2 (rfl)))))) dX10_isHere_29
    · refine lv_iconst (v := (1 : Int32)) hx hb dX10_isHere_24 (by decide) ?_
      refine lv_goto (tgt := 29) hx hb dX10_isHere_25 (by decide) ?_
      exact hI.retZ (u := (((((text, size), (sv, stb)), ((var, tab), szs)), (((prg, cod), words), ((has, fpl), pos))), ((((fault, plc), (tol, tmany)), ((trc, rmany), mark)), (((pil, pmany), mks), ((cts, turns), stop))))) hw rfl (hr.trans (congrArg (rb_X10_isHere (((((text, size), (sv, stb)), ((var, tab), szs)), (((prg, cod), words), ((has, fpl), pos))), ((((fault, plc), (tol, tmany)), ((trc, rmany), mark)), (((pil, pmany), mks), ((cts, turns), stop))))) ((show f_X10_isHere text size pos x1 = ((1 : Int32)) from it_f c1 (it_t c2 (rfl)))))) dX10_isHere_29
theorem ish_lt {text : Nat → Int32} {size pos x : Int32} (h : ¬ f_X10_isHere text size pos x = 0) : ¬ size ≤ pos := by
  unfold f_X10_isHere at h
  intro z
  rw [if_pos z] at h
  exact h rfl
def f_X10_number (text : Nat → Int32) (size : Int32) (pos : Int32) (fault : Int32) (plc : Int32) (x1 : Int32) : ((Int32 × Int32) × Int32) := if fault = 0 then if pos = size then bd (f_X10_fail fault plc (-11 : Int32) size) (fun o6 => (((pos, o6.2.1), o6.2.2))) else bd (f_X10_isIn (text pos.toNatClampNeg) (0 : Int32) x1) (fun o3 => if o3 = 0 then bd (f_X10_fail fault plc (-12 : Int32) pos) (fun o5 => (((pos, o5.2.1), o5.2.2))) else (((pos + (1 : Int32), fault), plc))) else (((pos, fault), plc))
def rb_X10_number (σ : S_Mdl) (o : ((Int32 × Int32) × Int32)) : S_Mdl := (((((σ.1.1.1.1.1, σ.1.1.1.1.2), (σ.1.1.1.2.1, σ.1.1.1.2.2)), ((σ.1.1.2.1.1, σ.1.1.2.1.2), σ.1.1.2.2)), (((σ.1.2.1.1.1, σ.1.2.1.1.2), σ.1.2.1.2), ((σ.1.2.2.1.1, σ.1.2.2.1.2), o.1.1))), ((((o.1.2, o.2), (σ.2.1.1.2.1, σ.2.1.1.2.2)), ((σ.2.1.2.1.1, σ.2.1.2.1.2), σ.2.1.2.2)), (((σ.2.2.1.1.1, σ.2.2.1.1.2), σ.2.2.1.2), ((σ.2.2.2.1.1, σ.2.2.2.1.2), σ.2.2.2.2))))
set_option maxHeartbeats 4000000 in
set_option maxRecDepth 100000 in
theorem c_X10_number (l : Launch) (g : GG) (a : Nat → Nat) (text : Nat → Int32) (size : Int32) (sv : Nat → Int32) (stb : Nat → Int32) (var : Nat → Int32) (tab : Nat → Int32) (szs : Nat → Int32) (prg : Nat → Int32) (cod : Nat → Int32) (words : Int32) (has : Int32) (fpl : Int32) (pos : Int32) (fault : Int32) (plc : Int32) (tol : Nat → Int32) (tmany : Int32) (trc : Nat → Int32) (rmany : Int32) (mark : Int64) (pil : Nat → Int32) (pmany : Int32) (mks : Nat → Int32) (cts : Nat → Int32) (turns : Int32) (stop : Int32) (x1 : Int32) (hi : RI size pos) : CV l g yX10_number cX10_number 2 none (rmN 1) (w_Mdl a g) [.ref (a 0), .int x1] (((((text, size), (sv, stb)), ((var, tab), szs)), (((prg, cod), words), ((has, fpl), pos))), ((((fault, plc), (tol, tmany)), ((trc, rmany), mark)), (((pil, pmany), mks), ((cts, turns), stop)))) (rb_X10_number (((((text, size), (sv, stb)), ((var, tab), szs)), (((prg, cod), words), ((has, fpl), pos))), ((((fault, plc), (tol, tmany)), ((trc, rmany), mark)), (((pil, pmany), mks), ((cts, turns), stop)))) (f_X10_number text size pos fault plc x1)) := by
  refine CV.mk (by decide) (Nat.le_of_ble_eq_true rfl) ?_
  intro p e s m below meth c A ls hI hw hl
  have hx := hI.1
  have hb := hI.2.1
  obtain ⟨r, hr⟩ : ∃ r, r = rb_X10_number (((((text, size), (sv, stb)), ((var, tab), szs)), (((prg, cod), words), ((has, fpl), pos))), ((((fault, plc), (tol, tmany)), ((trc, rmany), mark)), (((pil, pmany), mks), ((cts, turns), stop)))) (f_X10_number text size pos fault plc x1) := ⟨_, rfl⟩
  rw [← hr]
  have hl : lv_has ls 2 [(0, .ref (a 0)), (1, .int x1)] := hl
  refine lv_aload_n hx hb dX10_number_0 rfl (lv_at hl 0 rfl) ?_
  refine hI.get (v := .int fault) hw fg_X10_65 0 rfl rfl dX10_number_1 ?_
  refine lv_if_ne (tgt := 73) hx hb dX10_number_4 (by decide) (fun c1 => ?_) (fun c1 => ?_)
  · exact hI.retV (u := (((((text, size), (sv, stb)), ((var, tab), szs)), (((prg, cod), words), ((has, fpl), pos))), ((((fault, plc), (tol, tmany)), ((trc, rmany), mark)), (((pil, pmany), mks), ((cts, turns), stop))))) hw (hr.trans (congrArg (rb_X10_number (((((text, size), (sv, stb)), ((var, tab), szs)), (((prg, cod), words), ((has, fpl), pos))), ((((fault, plc), (tol, tmany)), ((trc, rmany), mark)), (((pil, pmany), mks), ((cts, turns), stop))))) ((show f_X10_number text size pos fault plc x1 = (((pos, fault), plc)) from it_f c1 (rfl))))) dX10_number_73
  · refine lv_aload_n hx hb dX10_number_7 rfl (lv_at hl 0 rfl) ?_
    refine hI.get (v := .int pos) hw fg_X10_71 0 rfl rfl dX10_number_8 ?_
    refine lv_aload_n hx hb dX10_number_11 rfl (lv_at hl 0 rfl) ?_
    refine hI.get (v := .int size) hw fg_X10_62 0 rfl rfl dX10_number_12 ?_
    refine lv_icmp_ne (tgt := 32) hx hb dX10_number_15 (by decide) (fun c2 => ?_) (fun c2 => ?_)
    · refine lv_aload_n hx hb dX10_number_32 rfl (lv_at hl 0 rfl) ?_
      refine hI.get (v := .ref (a 1)) hw fg_X10_7 0 rfl rfl dX10_number_33 ?_
      refine lv_aload_n hx hb dX10_number_36 rfl (lv_at hl 0 rfl) ?_
      refine hI.get (v := .int pos) hw fg_X10_71 0 rfl rfl dX10_number_37 ?_
      refine hI.iald hw 1 rfl (hi.lt c2) dX10_number_40 ?_
      refine lv_iconst (v := (0 : Int32)) hx hb dX10_number_41 (by decide) ?_
      refine lv_iload_n hx hb dX10_number_42 rfl (lv_at hl 1 rfl) ?_
      obtain ⟨o3, ho3⟩ : ∃ o, o = f_X10_isIn (text pos.toNatClampNeg) (0 : Int32) x1 := ⟨_, rfl⟩
      refine hI.callSI (r := o3) (As := [.int (text pos.toNatClampNeg), .int (0 : Int32), .int x1]) (rest := []) hw (by rw [ho3]; exact c_X10_isIn l g (text pos.toNatClampNeg) (0 : Int32) x1) ok_yX10_isIn ml_X10_54 (rm_ok (by decide) (by decide)) rfl rfl hl.1 (Nat.le_of_ble_eq_true rfl) dX10_number_43 ⟨Nat.zero_le _, Nat.zero_le _⟩ (fun H locs hw => ?_)
      refine lv_if_ne (tgt := 63) hx hb dX10_number_46 (by decide) (fun c4 => ?_) (fun c4 => ?_)
      · refine lv_aload_n hx hb dX10_number_63 rfl (lv_at hl 0 rfl) ?_
        refine lv_dup hx hb dX10_number_64 rfl ?_
        refine hI.get (v := .int pos) hw fg_X10_71 0 rfl rfl dX10_number_65 ?_
        refine lv_iconst (v := (1 : Int32)) hx hb dX10_number_68 (by decide) ?_
        refine lv_iadd hx hb dX10_number_69 ?_
        refine hI.put hw fp_X10_71 rfl 0 rfl rfl rfl (Nat.le_of_ble_eq_true rfl) dX10_number_70 (fun H locs hw => ?_)
        have hw : Wd g A s (w_Mdl a g (((((text, size), (sv, stb)), ((var, tab), szs)), (((prg, cod), words), ((has, fpl), pos + (1 : Int32)))), ((((fault, plc), (tol, tmany)), ((trc, rmany), mark)), (((pil, pmany), mks), ((cts, turns), stop))))) H locs := hw
        exact hI.retV (u := (((((text, size), (sv, stb)), ((var, tab), szs)), (((prg, cod), words), ((has, fpl), pos + (1 : Int32)))), ((((fault, plc), (tol, tmany)), ((trc, rmany), mark)), (((pil, pmany), mks), ((cts, turns), stop))))) hw (hr.trans (congrArg (rb_X10_number (((((text, size), (sv, stb)), ((var, tab), szs)), (((prg, cod), words), ((has, fpl), pos))), ((((fault, plc), (tol, tmany)), ((trc, rmany), mark)), (((pil, pmany), mks), ((cts, turns), stop))))) ((show f_X10_number text size pos fault plc x1 = (((pos + (1 : Int32), fault), plc)) from it_t c1 (it_f c2 (bd_of ho3 (it_f c4 (rfl)))))))) dX10_number_73
      · refine lv_aload_n hx hb dX10_number_49 rfl (lv_at hl 0 rfl) ?_
        refine lv_bipush (v := (-12 : Int32)) hx hb dX10_number_50 (by decide) ?_
        refine lv_aload_n hx hb dX10_number_52 rfl (lv_at hl 0 rfl) ?_
        refine hI.get (v := .int pos) hw fg_X10_71 0 rfl rfl dX10_number_53 ?_
        obtain ⟨o5, ho5⟩ : ∃ o, o = f_X10_fail fault plc (-12 : Int32) pos := ⟨_, rfl⟩
        refine hI.callI0 (wl := w_Mdl a g) (a := (((((text, size), (sv, stb)), ((var, tab), szs)), (((prg, cod), words), ((has, fpl), pos))), ((((fault, plc), (tol, tmany)), ((trc, rmany), mark)), (((pil, pmany), mks), ((cts, turns), stop))))) (r := rb_X10_fail (((((text, size), (sv, stb)), ((var, tab), szs)), (((prg, cod), words), ((has, fpl), pos))), ((((fault, plc), (tol, tmany)), ((trc, rmany), mark)), (((pil, pmany), mks), ((cts, turns), stop)))) o5) (As := [.int (-12 : Int32), .int pos]) (rest := []) hw (by rw [ho5]; exact c_X10_fail l g a text size sv stb var tab szs prg cod words has fpl pos fault plc tol tmany trc rmany mark pil pmany mks cts turns stop (-12 : Int32) pos ) ok_yX10_fail ml_X10_74 (rm_ok (by decide) (by decide)) 0 rfl rfl rfl rfl hl.1 (Nat.le_of_ble_eq_true rfl) dX10_number_56 ⟨Nat.zero_le _, Nat.zero_le _⟩ (fun H locs hw => ?_)
        have hw : Wd g A s (w_Mdl a g (((((text, size), (sv, stb)), ((var, tab), szs)), (((prg, cod), words), ((has, fpl), pos))), ((((o5.2.1, o5.2.2), (tol, tmany)), ((trc, rmany), mark)), (((pil, pmany), mks), ((cts, turns), stop))))) H locs := hw
        refine W.eq (g2 := F0 m 59 ls [.int o5.1]) rfl ?_
        refine lv_pop hx hb dX10_number_59 rfl ?_
        refine lv_goto (tgt := 73) hx hb dX10_number_60 (by decide) ?_
        exact hI.retV (u := (((((text, size), (sv, stb)), ((var, tab), szs)), (((prg, cod), words), ((has, fpl), pos))), ((((o5.2.1, o5.2.2), (tol, tmany)), ((trc, rmany), mark)), (((pil, pmany), mks), ((cts, turns), stop))))) hw (hr.trans (congrArg (rb_X10_number (((((text, size), (sv, stb)), ((var, tab), szs)), (((prg, cod), words), ((has, fpl), pos))), ((((fault, plc), (tol, tmany)), ((trc, rmany), mark)), (((pil, pmany), mks), ((cts, turns), stop))))) ((show f_X10_number text size pos fault plc x1 = (((pos, o5.2.1), o5.2.2)) from it_t c1 (it_f c2 (bd_of ho3 (it_t c4 (bd_of ho5 (rfl))))))))) dX10_number_73
    · refine lv_aload_n hx hb dX10_number_18 rfl (lv_at hl 0 rfl) ?_
      refine lv_bipush (v := (-11 : Int32)) hx hb dX10_number_19 (by decide) ?_
      refine lv_aload_n hx hb dX10_number_21 rfl (lv_at hl 0 rfl) ?_
      refine hI.get (v := .int size) hw fg_X10_62 0 rfl rfl dX10_number_22 ?_
      obtain ⟨o6, ho6⟩ : ∃ o, o = f_X10_fail fault plc (-11 : Int32) size := ⟨_, rfl⟩
      refine hI.callI0 (wl := w_Mdl a g) (a := (((((text, size), (sv, stb)), ((var, tab), szs)), (((prg, cod), words), ((has, fpl), pos))), ((((fault, plc), (tol, tmany)), ((trc, rmany), mark)), (((pil, pmany), mks), ((cts, turns), stop))))) (r := rb_X10_fail (((((text, size), (sv, stb)), ((var, tab), szs)), (((prg, cod), words), ((has, fpl), pos))), ((((fault, plc), (tol, tmany)), ((trc, rmany), mark)), (((pil, pmany), mks), ((cts, turns), stop)))) o6) (As := [.int (-11 : Int32), .int size]) (rest := []) hw (by rw [ho6]; exact c_X10_fail l g a text size sv stb var tab szs prg cod words has fpl pos fault plc tol tmany trc rmany mark pil pmany mks cts turns stop (-11 : Int32) size ) ok_yX10_fail ml_X10_74 (rm_ok (by decide) (by decide)) 0 rfl rfl rfl rfl hl.1 (Nat.le_of_ble_eq_true rfl) dX10_number_25 ⟨Nat.zero_le _, Nat.zero_le _⟩ (fun H locs hw => ?_)
      have hw : Wd g A s (w_Mdl a g (((((text, size), (sv, stb)), ((var, tab), szs)), (((prg, cod), words), ((has, fpl), pos))), ((((o6.2.1, o6.2.2), (tol, tmany)), ((trc, rmany), mark)), (((pil, pmany), mks), ((cts, turns), stop))))) H locs := hw
      refine W.eq (g2 := F0 m 28 ls [.int o6.1]) rfl ?_
      refine lv_pop hx hb dX10_number_28 rfl ?_
      refine lv_goto (tgt := 73) hx hb dX10_number_29 (by decide) ?_
      exact hI.retV (u := (((((text, size), (sv, stb)), ((var, tab), szs)), (((prg, cod), words), ((has, fpl), pos))), ((((o6.2.1, o6.2.2), (tol, tmany)), ((trc, rmany), mark)), (((pil, pmany), mks), ((cts, turns), stop))))) hw (hr.trans (congrArg (rb_X10_number (((((text, size), (sv, stb)), ((var, tab), szs)), (((prg, cod), words), ((has, fpl), pos))), ((((fault, plc), (tol, tmany)), ((trc, rmany), mark)), (((pil, pmany), mks), ((cts, turns), stop))))) ((show f_X10_number text size pos fault plc x1 = (((pos, o6.2.1), o6.2.2)) from it_t c1 (it_t c2 (bd_of ho6 (rfl))))))) dX10_number_73
def f_X10_end (text : Nat → Int32) (size : Int32) (pos : Int32) (fault : Int32) : Int32 := if fault = 0 then bd (f_X10_isHere text size pos (0 : Int32)) (fun o2 => if o2 = 0 then (pos) else (pos + (1 : Int32))) else (pos)
def rb_X10_end (σ : S_Mdl) (o : Int32) : S_Mdl := (((((σ.1.1.1.1.1, σ.1.1.1.1.2), (σ.1.1.1.2.1, σ.1.1.1.2.2)), ((σ.1.1.2.1.1, σ.1.1.2.1.2), σ.1.1.2.2)), (((σ.1.2.1.1.1, σ.1.2.1.1.2), σ.1.2.1.2), ((σ.1.2.2.1.1, σ.1.2.2.1.2), o))), ((((σ.2.1.1.1.1, σ.2.1.1.1.2), (σ.2.1.1.2.1, σ.2.1.1.2.2)), ((σ.2.1.2.1.1, σ.2.1.2.1.2), σ.2.1.2.2)), (((σ.2.2.1.1.1, σ.2.2.1.1.2), σ.2.2.1.2), ((σ.2.2.2.1.1, σ.2.2.2.1.2), σ.2.2.2.2))))
set_option maxHeartbeats 4000000 in
set_option maxRecDepth 100000 in
theorem c_X10_end (l : Launch) (g : GG) (a : Nat → Nat) (text : Nat → Int32) (size : Int32) (sv : Nat → Int32) (stb : Nat → Int32) (var : Nat → Int32) (tab : Nat → Int32) (szs : Nat → Int32) (prg : Nat → Int32) (cod : Nat → Int32) (words : Int32) (has : Int32) (fpl : Int32) (pos : Int32) (fault : Int32) (plc : Int32) (tol : Nat → Int32) (tmany : Int32) (trc : Nat → Int32) (rmany : Int32) (mark : Int64) (pil : Nat → Int32) (pmany : Int32) (mks : Nat → Int32) (cts : Nat → Int32) (turns : Int32) (stop : Int32) (hi : RI size pos) : CV l g yX10_end cX10_end 1 none (rmN 1) (w_Mdl a g) [.ref (a 0)] (((((text, size), (sv, stb)), ((var, tab), szs)), (((prg, cod), words), ((has, fpl), pos))), ((((fault, plc), (tol, tmany)), ((trc, rmany), mark)), (((pil, pmany), mks), ((cts, turns), stop)))) (rb_X10_end (((((text, size), (sv, stb)), ((var, tab), szs)), (((prg, cod), words), ((has, fpl), pos))), ((((fault, plc), (tol, tmany)), ((trc, rmany), mark)), (((pil, pmany), mks), ((cts, turns), stop)))) (f_X10_end text size pos fault)) := by
  refine CV.mk (by decide) (Nat.le_of_ble_eq_true rfl) ?_
  intro p e s m below meth c A ls hI hw hl
  have hx := hI.1
  have hb := hI.2.1
  obtain ⟨r, hr⟩ : ∃ r, r = rb_X10_end (((((text, size), (sv, stb)), ((var, tab), szs)), (((prg, cod), words), ((has, fpl), pos))), ((((fault, plc), (tol, tmany)), ((trc, rmany), mark)), (((pil, pmany), mks), ((cts, turns), stop)))) (f_X10_end text size pos fault) := ⟨_, rfl⟩
  rw [← hr]
  have hl : lv_has ls 1 [(0, .ref (a 0))] := hl
  refine lv_aload_n hx hb dX10_end_0 rfl (lv_at hl 0 rfl) ?_
  refine hI.get (v := .int fault) hw fg_X10_65 0 rfl rfl dX10_end_1 ?_
  refine lv_if_ne (tgt := 25) hx hb dX10_end_4 (by decide) (fun c1 => ?_) (fun c1 => ?_)
  · exact hI.retV (u := (((((text, size), (sv, stb)), ((var, tab), szs)), (((prg, cod), words), ((has, fpl), pos))), ((((fault, plc), (tol, tmany)), ((trc, rmany), mark)), (((pil, pmany), mks), ((cts, turns), stop))))) hw (hr.trans (congrArg (rb_X10_end (((((text, size), (sv, stb)), ((var, tab), szs)), (((prg, cod), words), ((has, fpl), pos))), ((((fault, plc), (tol, tmany)), ((trc, rmany), mark)), (((pil, pmany), mks), ((cts, turns), stop))))) ((show f_X10_end text size pos fault = (pos) from it_f c1 (rfl))))) dX10_end_25
  · refine lv_aload_n hx hb dX10_end_7 rfl (lv_at hl 0 rfl) ?_
    refine lv_iconst (v := (0 : Int32)) hx hb dX10_end_8 (by decide) ?_
    obtain ⟨o2, ho2⟩ : ∃ o, o = f_X10_isHere text size pos (0 : Int32) := ⟨_, rfl⟩
    refine hI.callI0 (wl := w_Mdl a g) (a := (((((text, size), (sv, stb)), ((var, tab), szs)), (((prg, cod), words), ((has, fpl), pos))), ((((fault, plc), (tol, tmany)), ((trc, rmany), mark)), (((pil, pmany), mks), ((cts, turns), stop))))) (r := rb_X10_isHere (((((text, size), (sv, stb)), ((var, tab), szs)), (((prg, cod), words), ((has, fpl), pos))), ((((fault, plc), (tol, tmany)), ((trc, rmany), mark)), (((pil, pmany), mks), ((cts, turns), stop)))) o2) (As := [.int (0 : Int32)]) (rest := []) hw (by rw [ho2]; exact c_X10_isHere l g a text size sv stb var tab szs prg cod words has fpl pos fault plc tol tmany trc rmany mark pil pmany mks cts turns stop (0 : Int32) hi) ok_yX10_isHere ml_X10_89 (rm_ok (by decide) (by decide)) 0 rfl rfl rfl rfl hl.1 (Nat.le_of_ble_eq_true rfl) dX10_end_9 ⟨Nat.zero_le _, Nat.zero_le _⟩ (fun H locs hw => ?_)
    have hw : Wd g A s (w_Mdl a g (((((text, size), (sv, stb)), ((var, tab), szs)), (((prg, cod), words), ((has, fpl), pos))), ((((fault, plc), (tol, tmany)), ((trc, rmany), mark)), (((pil, pmany), mks), ((cts, turns), stop))))) H locs := hw
    refine W.eq (g2 := F0 m 12 ls [.int o2]) rfl ?_
    refine lv_if_eq (tgt := 25) hx hb dX10_end_12 (by decide) (fun c3 => ?_) (fun c3 => ?_)
    · exact hI.retV (u := (((((text, size), (sv, stb)), ((var, tab), szs)), (((prg, cod), words), ((has, fpl), pos))), ((((fault, plc), (tol, tmany)), ((trc, rmany), mark)), (((pil, pmany), mks), ((cts, turns), stop))))) hw (hr.trans (congrArg (rb_X10_end (((((text, size), (sv, stb)), ((var, tab), szs)), (((prg, cod), words), ((has, fpl), pos))), ((((fault, plc), (tol, tmany)), ((trc, rmany), mark)), (((pil, pmany), mks), ((cts, turns), stop))))) ((show f_X10_end text size pos fault = (pos) from it_t c1 (bd_of ho2 (it_t c3 (rfl))))))) dX10_end_25
    · refine lv_aload_n hx hb dX10_end_15 rfl (lv_at hl 0 rfl) ?_
      refine lv_dup hx hb dX10_end_16 rfl ?_
      refine hI.get (v := .int pos) hw fg_X10_71 0 rfl rfl dX10_end_17 ?_
      refine lv_iconst (v := (1 : Int32)) hx hb dX10_end_20 (by decide) ?_
      refine lv_iadd hx hb dX10_end_21 ?_
      refine hI.put hw fp_X10_71 rfl 0 rfl rfl rfl (Nat.le_of_ble_eq_true rfl) dX10_end_22 (fun H locs hw => ?_)
      have hw : Wd g A s (w_Mdl a g (((((text, size), (sv, stb)), ((var, tab), szs)), (((prg, cod), words), ((has, fpl), pos + (1 : Int32)))), ((((fault, plc), (tol, tmany)), ((trc, rmany), mark)), (((pil, pmany), mks), ((cts, turns), stop))))) H locs := hw
      exact hI.retV (u := (((((text, size), (sv, stb)), ((var, tab), szs)), (((prg, cod), words), ((has, fpl), pos + (1 : Int32)))), ((((fault, plc), (tol, tmany)), ((trc, rmany), mark)), (((pil, pmany), mks), ((cts, turns), stop))))) hw (hr.trans (congrArg (rb_X10_end (((((text, size), (sv, stb)), ((var, tab), szs)), (((prg, cod), words), ((has, fpl), pos))), ((((fault, plc), (tol, tmany)), ((trc, rmany), mark)), (((pil, pmany), mks), ((cts, turns), stop))))) ((show f_X10_end text size pos fault = (pos + (1 : Int32)) from it_t c1 (bd_of ho2 (it_f c3 (rfl))))))) dX10_end_25
theorem ri_number {text : Nat → Int32} {size pos fault plc x : Int32} (hi : RI size pos) : RI size (f_X10_number text size pos fault plc x).1.1 := by
  unfold f_X10_number
  simp only [bd]
  repeat' split
  all_goals first | exact hi | exact hi.succ ‹_›
theorem ri_end {text : Nat → Int32} {size pos fault : Int32} (hi : RI size pos) : RI size (f_X10_end text size pos fault) := by
  unfold f_X10_end
  simp only [bd]
  repeat' split
  all_goals first | exact hi | exact hi.succ2 (ish_lt ‹_›)
