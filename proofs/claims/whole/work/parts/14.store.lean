abbrev S_Store : Type := ((((Nat → Int32) × (Nat → Int32)) × (Nat → Int32)) × ((Nat → Int32) × (Nat → Int32)))
def w_Store (q : Nat → Nat) (g : GG) (σ : S_Store) : va_W := [(q 0, .inr (4, [.ref (q 1), .ref (q 2), .ref (q 3), .ref (q 4), .ref (q 5)])), (q 1, .inl (g.2.1, 10, .inl σ.1.1.1)), (q 2, .inl (g.2.2, 10, .inl σ.1.1.2)), (q 3, .inl (g.2.1, 64, .inl σ.1.2)), (q 4, .inl (g.2.1, 4, .inl σ.2.1)), (q 5, .inl (g.2.2, 4, .inl σ.2.2))]
def f_X5_hasVariable (x1 : Int32) : Int32 := if x1 < 0 then ((0 : Int32)) else if (10 : Int32) ≤ x1 then ((0 : Int32)) else ((1 : Int32))
def rb_X5_hasVariable (σ : S_Store) (o : Int32) : Int32 × S_Store := (o, σ)
set_option maxHeartbeats 4000000 in
set_option maxRecDepth 100000 in
theorem c_X5_hasVariable (l : Launch) (g : GG) (q : Nat → Nat) (num : Nat → Int32) (sn : Nat → Int32) (cel : Nat → Int32) (szs : Nat → Int32) (stb : Nat → Int32) (x1 : Int32) : CI l g yX5_hasVariable cX5_hasVariable 2 (some .boolean) (rmN 0) (w_Store q g) [.ref (q 0), .int x1] (((num, sn), cel), (szs, stb)) (rb_X5_hasVariable (((num, sn), cel), (szs, stb)) (f_X5_hasVariable x1)) := by
  refine CI.mk (by decide) (Nat.le_of_ble_eq_true rfl) ?_
  intro p e s m below meth c A ls hI hw hl
  have hx := hI.1
  have hb := hI.2.1
  obtain ⟨r, hr⟩ : ∃ r, r = rb_X5_hasVariable (((num, sn), cel), (szs, stb)) (f_X5_hasVariable x1) := ⟨_, rfl⟩
  rw [← hr]
  have hl : lv_has ls 2 [(0, .ref (q 0)), (1, .int x1)] := hl
  refine lv_iload_n hx hb dX5_hasVariable_0 rfl (lv_at hl 1 rfl) ?_
  refine lv_if_lt (tgt := 14) hx hb dX5_hasVariable_1 (by decide) (fun c1 => ?_) (fun c1 => ?_)
  · refine lv_iconst (v := (0 : Int32)) hx hb dX5_hasVariable_14 (by decide) ?_
    exact hI.retZ (u := (((num, sn), cel), (szs, stb))) hw rfl (hr.trans (congrArg (rb_X5_hasVariable (((num, sn), cel), (szs, stb))) ((show f_X5_hasVariable x1 = ((0 : Int32)) from it_t c1 (rfl))))) dX5_hasVariable_15
  · refine lv_iload_n hx hb dX5_hasVariable_4 rfl (lv_at hl 1 rfl) ?_
    refine lv_bipush (v := (10 : Int32)) hx hb dX5_hasVariable_5 (by decide) ?_
    refine lv_icmp_ge (tgt := 14) hx hb dX5_hasVariable_7 (by decide) (fun c2 => ?_) (fun c2 => ?_)
    · refine lv_iconst (v := (0 : Int32)) hx hb dX5_hasVariable_14 (by decide) ?_
      exact hI.retZ (u := (((num, sn), cel), (szs, stb))) hw rfl (hr.trans (congrArg (rb_X5_hasVariable (((num, sn), cel), (szs, stb))) ((show f_X5_hasVariable x1 = ((0 : Int32)) from it_f c1 (it_t c2 (rfl)))))) dX5_hasVariable_15
    · refine lv_iconst (v := (1 : Int32)) hx hb dX5_hasVariable_10 (by decide) ?_
      refine lv_goto (tgt := 15) hx hb dX5_hasVariable_11 (by decide) ?_
      exact hI.retZ (u := (((num, sn), cel), (szs, stb))) hw rfl (hr.trans (congrArg (rb_X5_hasVariable (((num, sn), cel), (szs, stb))) ((show f_X5_hasVariable x1 = ((1 : Int32)) from it_f c1 (it_f c2 (rfl)))))) dX5_hasVariable_15
theorem in_X5_hasVariable {x : Int32} (h : ¬ f_X5_hasVariable x = 0) : vp_in x 10 := by
  unfold f_X5_hasVariable at h
  split at h
  · exact absurd rfl h
  · split at h
    · exact absurd rfl h
    · exact vin_c (by assumption) (by assumption) (by decide)
def f_X5_isSecretVariable (sn : Nat → Int32) (x1 : Int32) : Int32 := bd (f_X5_hasVariable x1) (fun o1 => if o1 = 0 then ((0 : Int32)) else if (sn x1.toNatClampNeg) = 0 then ((0 : Int32)) else ((1 : Int32)))
def rb_X5_isSecretVariable (σ : S_Store) (o : Int32) : Int32 × S_Store := (o, σ)
set_option maxHeartbeats 4000000 in
set_option maxRecDepth 100000 in
theorem c_X5_isSecretVariable (l : Launch) (g : GG) (q : Nat → Nat) (num : Nat → Int32) (sn : Nat → Int32) (cel : Nat → Int32) (szs : Nat → Int32) (stb : Nat → Int32) (x1 : Int32) : CI l g yX5_isSecretVariable cX5_isSecretVariable 2 (some .boolean) (rmN 1) (w_Store q g) [.ref (q 0), .int x1] (((num, sn), cel), (szs, stb)) (rb_X5_isSecretVariable (((num, sn), cel), (szs, stb)) (f_X5_isSecretVariable sn x1)) := by
  refine CI.mk (by decide) (Nat.le_of_ble_eq_true rfl) ?_
  intro p e s m below meth c A ls hI hw hl
  have hx := hI.1
  have hb := hI.2.1
  obtain ⟨r, hr⟩ : ∃ r, r = rb_X5_isSecretVariable (((num, sn), cel), (szs, stb)) (f_X5_isSecretVariable sn x1) := ⟨_, rfl⟩
  rw [← hr]
  have hl : lv_has ls 2 [(0, .ref (q 0)), (1, .int x1)] := hl
  refine lv_aload_n hx hb dX5_isSecretVariable_0 rfl (lv_at hl 0 rfl) ?_
  refine lv_iload_n hx hb dX5_isSecretVariable_1 rfl (lv_at hl 1 rfl) ?_
  obtain ⟨o1, ho1⟩ : ∃ o, o = f_X5_hasVariable x1 := ⟨_, rfl⟩
  refine hI.callI0 (wl := w_Store q g) (a := (((num, sn), cel), (szs, stb))) (r := rb_X5_hasVariable (((num, sn), cel), (szs, stb)) o1) (As := [.int x1]) (rest := []) hw (by rw [ho1]; exact c_X5_hasVariable l g q num sn cel szs stb x1 ) ok_yX5_hasVariable ml_X5_34 (rm_ok (by decide) (by decide)) 0 rfl rfl rfl rfl hl.1 (Nat.le_of_ble_eq_true rfl) dX5_isSecretVariable_2 ⟨Nat.zero_le _, Nat.zero_le _⟩ (fun H locs hw => ?_)
  have hw : Wd g A s (w_Store q g (((num, sn), cel), (szs, stb))) H locs := hw
  refine W.eq (g2 := F0 m 5 ls [.int o1]) rfl ?_
  refine lv_if_eq (tgt := 21) hx hb dX5_isSecretVariable_5 (by decide) (fun c2 => ?_) (fun c2 => ?_)
  · refine lv_iconst (v := (0 : Int32)) hx hb dX5_isSecretVariable_21 (by decide) ?_
    exact hI.retZ (u := (((num, sn), cel), (szs, stb))) hw rfl (hr.trans (congrArg (rb_X5_isSecretVariable (((num, sn), cel), (szs, stb))) ((show f_X5_isSecretVariable sn x1 = ((0 : Int32)) from bd_of ho1 (it_t c2 (rfl)))))) dX5_isSecretVariable_22
  · refine lv_aload_n hx hb dX5_isSecretVariable_8 rfl (lv_at hl 0 rfl) ?_
    refine hI.get (v := .ref (q 2)) hw fg_X5_15 0 rfl rfl dX5_isSecretVariable_9 ?_
    refine lv_iload_n hx hb dX5_isSecretVariable_12 rfl (lv_at hl 1 rfl) ?_
    refine hI.zald hw 2 rfl (in_X5_hasVariable (by rw [← ho1]; exact c2)) dX5_isSecretVariable_13 ?_
    refine lv_if_eq (tgt := 21) hx hb dX5_isSecretVariable_14 (by decide) (fun c3 => ?_) (fun c3 => ?_)
    · refine lv_iconst (v := (0 : Int32)) hx hb dX5_isSecretVariable_21 (by decide) ?_
      exact hI.retZ (u := (((num, sn), cel), (szs, stb))) hw rfl (hr.trans (congrArg (rb_X5_isSecretVariable (((num, sn), cel), (szs, stb))) ((show f_X5_isSecretVariable sn x1 = ((0 : Int32)) from bd_of ho1 (it_f c2 (it_t c3 (rfl))))))) dX5_isSecretVariable_22
    · refine lv_iconst (v := (1 : Int32)) hx hb dX5_isSecretVariable_17 (by decide) ?_
      refine lv_goto (tgt := 22) hx hb dX5_isSecretVariable_18 (by decide) ?_
      exact hI.retZ (u := (((num, sn), cel), (szs, stb))) hw rfl (hr.trans (congrArg (rb_X5_isSecretVariable (((num, sn), cel), (szs, stb))) ((show f_X5_isSecretVariable sn x1 = ((1 : Int32)) from bd_of ho1 (it_f c2 (it_f c3 (rfl))))))) dX5_isSecretVariable_22
def f_X5_declareVariable (sn : Nat → Int32) (x1 : Int32) (x2 : Int32) : (Nat → Int32) := bd (f_X5_hasVariable x1) (fun o1 => if o1 = 0 then (sn) else (upd sn x1.toNatClampNeg (vp_nar .boolean x2)))
def rb_X5_declareVariable (σ : S_Store) (o : (Nat → Int32)) : S_Store := (((σ.1.1.1, o), σ.1.2), (σ.2.1, σ.2.2))
set_option maxHeartbeats 4000000 in
set_option maxRecDepth 100000 in
theorem c_X5_declareVariable (l : Launch) (g : GG) (q : Nat → Nat) (num : Nat → Int32) (sn : Nat → Int32) (cel : Nat → Int32) (szs : Nat → Int32) (stb : Nat → Int32) (x1 : Int32) (x2 : Int32) : CV l g yX5_declareVariable cX5_declareVariable 3 none (rmN 1) (w_Store q g) [.ref (q 0), .int x1, .int x2] (((num, sn), cel), (szs, stb)) (rb_X5_declareVariable (((num, sn), cel), (szs, stb)) (f_X5_declareVariable sn x1 x2)) := by
  refine CV.mk (by decide) (Nat.le_of_ble_eq_true rfl) ?_
  intro p e s m below meth c A ls hI hw hl
  have hx := hI.1
  have hb := hI.2.1
  obtain ⟨r, hr⟩ : ∃ r, r = rb_X5_declareVariable (((num, sn), cel), (szs, stb)) (f_X5_declareVariable sn x1 x2) := ⟨_, rfl⟩
  rw [← hr]
  have hl : lv_has ls 3 [(0, .ref (q 0)), (1, .int x1), (2, .int x2)] := hl
  refine lv_aload_n hx hb dX5_declareVariable_0 rfl (lv_at hl 0 rfl) ?_
  refine lv_iload_n hx hb dX5_declareVariable_1 rfl (lv_at hl 1 rfl) ?_
  obtain ⟨o1, ho1⟩ : ∃ o, o = f_X5_hasVariable x1 := ⟨_, rfl⟩
  refine hI.callI0 (wl := w_Store q g) (a := (((num, sn), cel), (szs, stb))) (r := rb_X5_hasVariable (((num, sn), cel), (szs, stb)) o1) (As := [.int x1]) (rest := []) hw (by rw [ho1]; exact c_X5_hasVariable l g q num sn cel szs stb x1 ) ok_yX5_hasVariable ml_X5_34 (rm_ok (by decide) (by decide)) 0 rfl rfl rfl rfl hl.1 (Nat.le_of_ble_eq_true rfl) dX5_declareVariable_2 ⟨Nat.zero_le _, Nat.zero_le _⟩ (fun H locs hw => ?_)
  have hw : Wd g A s (w_Store q g (((num, sn), cel), (szs, stb))) H locs := hw
  refine W.eq (g2 := F0 m 5 ls [.int o1]) rfl ?_
  refine lv_if_eq (tgt := 15) hx hb dX5_declareVariable_5 (by decide) (fun c2 => ?_) (fun c2 => ?_)
  · exact hI.retV (u := (((num, sn), cel), (szs, stb))) hw (hr.trans (congrArg (rb_X5_declareVariable (((num, sn), cel), (szs, stb))) ((show f_X5_declareVariable sn x1 x2 = (sn) from bd_of ho1 (it_t c2 (rfl)))))) dX5_declareVariable_15
  · refine lv_aload_n hx hb dX5_declareVariable_8 rfl (lv_at hl 0 rfl) ?_
    refine hI.get (v := .ref (q 2)) hw fg_X5_15 0 rfl rfl dX5_declareVariable_9 ?_
    refine lv_iload_n hx hb dX5_declareVariable_12 rfl (lv_at hl 1 rfl) ?_
    refine lv_iload_n hx hb dX5_declareVariable_13 rfl (lv_at hl 2 rfl) ?_
    refine hI.zast hw 2 rfl (in_X5_hasVariable (by rw [← ho1]; exact c2)) dX5_declareVariable_14 (fun H locs hw => ?_)
    have hw : Wd g A s (w_Store q g (((num, upd sn x1.toNatClampNeg (vp_nar .boolean x2)), cel), (szs, stb))) H locs := hw
    exact hI.retV (u := (((num, upd sn x1.toNatClampNeg (vp_nar .boolean x2)), cel), (szs, stb))) hw (hr.trans (congrArg (rb_X5_declareVariable (((num, sn), cel), (szs, stb))) ((show f_X5_declareVariable sn x1 x2 = (upd sn x1.toNatClampNeg (vp_nar .boolean x2)) from bd_of ho1 (it_f c2 (rfl)))))) dX5_declareVariable_15
def f_X5_numberOf (num : Nat → Int32) (x1 : Int32) : Int32 := bd (f_X5_hasVariable x1) (fun o1 => if o1 = 0 then ((0 : Int32)) else (num x1.toNatClampNeg))
def rb_X5_numberOf (σ : S_Store) (o : Int32) : Int32 × S_Store := (o, σ)
set_option maxHeartbeats 4000000 in
set_option maxRecDepth 100000 in
theorem c_X5_numberOf (l : Launch) (g : GG) (q : Nat → Nat) (num : Nat → Int32) (sn : Nat → Int32) (cel : Nat → Int32) (szs : Nat → Int32) (stb : Nat → Int32) (x1 : Int32) : CI l g yX5_numberOf cX5_numberOf 2 (some .int) (rmN 1) (w_Store q g) [.ref (q 0), .int x1] (((num, sn), cel), (szs, stb)) (rb_X5_numberOf (((num, sn), cel), (szs, stb)) (f_X5_numberOf num x1)) := by
  refine CI.mk (by decide) (Nat.le_of_ble_eq_true rfl) ?_
  intro p e s m below meth c A ls hI hw hl
  have hx := hI.1
  have hb := hI.2.1
  obtain ⟨r, hr⟩ : ∃ r, r = rb_X5_numberOf (((num, sn), cel), (szs, stb)) (f_X5_numberOf num x1) := ⟨_, rfl⟩
  rw [← hr]
  have hl : lv_has ls 2 [(0, .ref (q 0)), (1, .int x1)] := hl
  refine lv_aload_n hx hb dX5_numberOf_0 rfl (lv_at hl 0 rfl) ?_
  refine lv_iload_n hx hb dX5_numberOf_1 rfl (lv_at hl 1 rfl) ?_
  obtain ⟨o1, ho1⟩ : ∃ o, o = f_X5_hasVariable x1 := ⟨_, rfl⟩
  refine hI.callI0 (wl := w_Store q g) (a := (((num, sn), cel), (szs, stb))) (r := rb_X5_hasVariable (((num, sn), cel), (szs, stb)) o1) (As := [.int x1]) (rest := []) hw (by rw [ho1]; exact c_X5_hasVariable l g q num sn cel szs stb x1 ) ok_yX5_hasVariable ml_X5_34 (rm_ok (by decide) (by decide)) 0 rfl rfl rfl rfl hl.1 (Nat.le_of_ble_eq_true rfl) dX5_numberOf_2 ⟨Nat.zero_le _, Nat.zero_le _⟩ (fun H locs hw => ?_)
  have hw : Wd g A s (w_Store q g (((num, sn), cel), (szs, stb))) H locs := hw
  refine W.eq (g2 := F0 m 5 ls [.int o1]) rfl ?_
  refine lv_if_eq (tgt := 17) hx hb dX5_numberOf_5 (by decide) (fun c2 => ?_) (fun c2 => ?_)
  · refine lv_iconst (v := (0 : Int32)) hx hb dX5_numberOf_17 (by decide) ?_
    exact hI.retI (u := (((num, sn), cel), (szs, stb))) hw (hr.trans (congrArg (rb_X5_numberOf (((num, sn), cel), (szs, stb))) ((show f_X5_numberOf num x1 = ((0 : Int32)) from bd_of ho1 (it_t c2 (rfl)))))) dX5_numberOf_18
  · refine lv_aload_n hx hb dX5_numberOf_8 rfl (lv_at hl 0 rfl) ?_
    refine hI.get (v := .ref (q 1)) hw fg_X5_9 0 rfl rfl dX5_numberOf_9 ?_
    refine lv_iload_n hx hb dX5_numberOf_12 rfl (lv_at hl 1 rfl) ?_
    refine hI.iald hw 1 rfl (in_X5_hasVariable (by rw [← ho1]; exact c2)) dX5_numberOf_13 ?_
    refine lv_goto (tgt := 18) hx hb dX5_numberOf_14 (by decide) ?_
    exact hI.retI (u := (((num, sn), cel), (szs, stb))) hw (hr.trans (congrArg (rb_X5_numberOf (((num, sn), cel), (szs, stb))) ((show f_X5_numberOf num x1 = (num x1.toNatClampNeg) from bd_of ho1 (it_f c2 (rfl)))))) dX5_numberOf_18
def f_X5_assign (num : Nat → Int32) (x1 : Int32) (x2 : Int32) : (Nat → Int32) := bd (f_X5_hasVariable x1) (fun o1 => if o1 = 0 then (num) else (upd num x1.toNatClampNeg x2))
def rb_X5_assign (σ : S_Store) (o : (Nat → Int32)) : S_Store := (((o, σ.1.1.2), σ.1.2), (σ.2.1, σ.2.2))
set_option maxHeartbeats 4000000 in
set_option maxRecDepth 100000 in
theorem c_X5_assign (l : Launch) (g : GG) (q : Nat → Nat) (num : Nat → Int32) (sn : Nat → Int32) (cel : Nat → Int32) (szs : Nat → Int32) (stb : Nat → Int32) (x1 : Int32) (x2 : Int32) : CV l g yX5_assign cX5_assign 3 none (rmN 1) (w_Store q g) [.ref (q 0), .int x1, .int x2] (((num, sn), cel), (szs, stb)) (rb_X5_assign (((num, sn), cel), (szs, stb)) (f_X5_assign num x1 x2)) := by
  refine CV.mk (by decide) (Nat.le_of_ble_eq_true rfl) ?_
  intro p e s m below meth c A ls hI hw hl
  have hx := hI.1
  have hb := hI.2.1
  obtain ⟨r, hr⟩ : ∃ r, r = rb_X5_assign (((num, sn), cel), (szs, stb)) (f_X5_assign num x1 x2) := ⟨_, rfl⟩
  rw [← hr]
  have hl : lv_has ls 3 [(0, .ref (q 0)), (1, .int x1), (2, .int x2)] := hl
  refine lv_aload_n hx hb dX5_assign_0 rfl (lv_at hl 0 rfl) ?_
  refine lv_iload_n hx hb dX5_assign_1 rfl (lv_at hl 1 rfl) ?_
  obtain ⟨o1, ho1⟩ : ∃ o, o = f_X5_hasVariable x1 := ⟨_, rfl⟩
  refine hI.callI0 (wl := w_Store q g) (a := (((num, sn), cel), (szs, stb))) (r := rb_X5_hasVariable (((num, sn), cel), (szs, stb)) o1) (As := [.int x1]) (rest := []) hw (by rw [ho1]; exact c_X5_hasVariable l g q num sn cel szs stb x1 ) ok_yX5_hasVariable ml_X5_34 (rm_ok (by decide) (by decide)) 0 rfl rfl rfl rfl hl.1 (Nat.le_of_ble_eq_true rfl) dX5_assign_2 ⟨Nat.zero_le _, Nat.zero_le _⟩ (fun H locs hw => ?_)
  have hw : Wd g A s (w_Store q g (((num, sn), cel), (szs, stb))) H locs := hw
  refine W.eq (g2 := F0 m 5 ls [.int o1]) rfl ?_
  refine lv_if_eq (tgt := 15) hx hb dX5_assign_5 (by decide) (fun c2 => ?_) (fun c2 => ?_)
  · exact hI.retV (u := (((num, sn), cel), (szs, stb))) hw (hr.trans (congrArg (rb_X5_assign (((num, sn), cel), (szs, stb))) ((show f_X5_assign num x1 x2 = (num) from bd_of ho1 (it_t c2 (rfl)))))) dX5_assign_15
  · refine lv_aload_n hx hb dX5_assign_8 rfl (lv_at hl 0 rfl) ?_
    refine hI.get (v := .ref (q 1)) hw fg_X5_9 0 rfl rfl dX5_assign_9 ?_
    refine lv_iload_n hx hb dX5_assign_12 rfl (lv_at hl 1 rfl) ?_
    refine lv_iload_n hx hb dX5_assign_13 rfl (lv_at hl 2 rfl) ?_
    refine hI.iast hw 1 rfl (in_X5_hasVariable (by rw [← ho1]; exact c2)) dX5_assign_14 (fun H locs hw => ?_)
    have hw : Wd g A s (w_Store q g (((upd num x1.toNatClampNeg x2, sn), cel), (szs, stb))) H locs := hw
    exact hI.retV (u := (((upd num x1.toNatClampNeg x2, sn), cel), (szs, stb))) hw (hr.trans (congrArg (rb_X5_assign (((num, sn), cel), (szs, stb))) ((show f_X5_assign num x1 x2 = (upd num x1.toNatClampNeg x2) from bd_of ho1 (it_f c2 (rfl)))))) dX5_assign_15
def f_X5_hasTable (x1 : Int32) : Int32 := if x1 < 0 then ((0 : Int32)) else if (4 : Int32) ≤ x1 then ((0 : Int32)) else ((1 : Int32))
def rb_X5_hasTable (σ : S_Store) (o : Int32) : Int32 × S_Store := (o, σ)
set_option maxHeartbeats 4000000 in
set_option maxRecDepth 100000 in
theorem c_X5_hasTable (l : Launch) (g : GG) (q : Nat → Nat) (num : Nat → Int32) (sn : Nat → Int32) (cel : Nat → Int32) (szs : Nat → Int32) (stb : Nat → Int32) (x1 : Int32) : CI l g yX5_hasTable cX5_hasTable 2 (some .boolean) (rmN 0) (w_Store q g) [.ref (q 0), .int x1] (((num, sn), cel), (szs, stb)) (rb_X5_hasTable (((num, sn), cel), (szs, stb)) (f_X5_hasTable x1)) := by
  refine CI.mk (by decide) (Nat.le_of_ble_eq_true rfl) ?_
  intro p e s m below meth c A ls hI hw hl
  have hx := hI.1
  have hb := hI.2.1
  obtain ⟨r, hr⟩ : ∃ r, r = rb_X5_hasTable (((num, sn), cel), (szs, stb)) (f_X5_hasTable x1) := ⟨_, rfl⟩
  rw [← hr]
  have hl : lv_has ls 2 [(0, .ref (q 0)), (1, .int x1)] := hl
  refine lv_iload_n hx hb dX5_hasTable_0 rfl (lv_at hl 1 rfl) ?_
  refine lv_if_lt (tgt := 13) hx hb dX5_hasTable_1 (by decide) (fun c1 => ?_) (fun c1 => ?_)
  · refine lv_iconst (v := (0 : Int32)) hx hb dX5_hasTable_13 (by decide) ?_
    exact hI.retZ (u := (((num, sn), cel), (szs, stb))) hw rfl (hr.trans (congrArg (rb_X5_hasTable (((num, sn), cel), (szs, stb))) ((show f_X5_hasTable x1 = ((0 : Int32)) from it_t c1 (rfl))))) dX5_hasTable_14
  · refine lv_iload_n hx hb dX5_hasTable_4 rfl (lv_at hl 1 rfl) ?_
    refine lv_iconst (v := (4 : Int32)) hx hb dX5_hasTable_5 (by decide) ?_
    refine lv_icmp_ge (tgt := 13) hx hb dX5_hasTable_6 (by decide) (fun c2 => ?_) (fun c2 => ?_)
    · refine lv_iconst (v := (0 : Int32)) hx hb dX5_hasTable_13 (by decide) ?_
      exact hI.retZ (u := (((num, sn), cel), (szs, stb))) hw rfl (hr.trans (congrArg (rb_X5_hasTable (((num, sn), cel), (szs, stb))) ((show f_X5_hasTable x1 = ((0 : Int32)) from it_f c1 (it_t c2 (rfl)))))) dX5_hasTable_14
    · refine lv_iconst (v := (1 : Int32)) hx hb dX5_hasTable_9 (by decide) ?_
      refine lv_goto (tgt := 14) hx hb dX5_hasTable_10 (by decide) ?_
      exact hI.retZ (u := (((num, sn), cel), (szs, stb))) hw rfl (hr.trans (congrArg (rb_X5_hasTable (((num, sn), cel), (szs, stb))) ((show f_X5_hasTable x1 = ((1 : Int32)) from it_f c1 (it_f c2 (rfl)))))) dX5_hasTable_14
theorem in_X5_hasTable {x : Int32} (h : ¬ f_X5_hasTable x = 0) : vp_in x 4 := by
  unfold f_X5_hasTable at h
  split at h
  · exact absurd rfl h
  · split at h
    · exact absurd rfl h
    · exact vin_c (by assumption) (by assumption) (by decide)
def f_X5_isSecretTable (stb : Nat → Int32) (x1 : Int32) : Int32 := bd (f_X5_hasTable x1) (fun o1 => if o1 = 0 then ((0 : Int32)) else if (stb x1.toNatClampNeg) = 0 then ((0 : Int32)) else ((1 : Int32)))
def rb_X5_isSecretTable (σ : S_Store) (o : Int32) : Int32 × S_Store := (o, σ)
set_option maxHeartbeats 4000000 in
set_option maxRecDepth 100000 in
theorem c_X5_isSecretTable (l : Launch) (g : GG) (q : Nat → Nat) (num : Nat → Int32) (sn : Nat → Int32) (cel : Nat → Int32) (szs : Nat → Int32) (stb : Nat → Int32) (x1 : Int32) : CI l g yX5_isSecretTable cX5_isSecretTable 2 (some .boolean) (rmN 1) (w_Store q g) [.ref (q 0), .int x1] (((num, sn), cel), (szs, stb)) (rb_X5_isSecretTable (((num, sn), cel), (szs, stb)) (f_X5_isSecretTable stb x1)) := by
  refine CI.mk (by decide) (Nat.le_of_ble_eq_true rfl) ?_
  intro p e s m below meth c A ls hI hw hl
  have hx := hI.1
  have hb := hI.2.1
  obtain ⟨r, hr⟩ : ∃ r, r = rb_X5_isSecretTable (((num, sn), cel), (szs, stb)) (f_X5_isSecretTable stb x1) := ⟨_, rfl⟩
  rw [← hr]
  have hl : lv_has ls 2 [(0, .ref (q 0)), (1, .int x1)] := hl
  refine lv_aload_n hx hb dX5_isSecretTable_0 rfl (lv_at hl 0 rfl) ?_
  refine lv_iload_n hx hb dX5_isSecretTable_1 rfl (lv_at hl 1 rfl) ?_
  obtain ⟨o1, ho1⟩ : ∃ o, o = f_X5_hasTable x1 := ⟨_, rfl⟩
  refine hI.callI0 (wl := w_Store q g) (a := (((num, sn), cel), (szs, stb))) (r := rb_X5_hasTable (((num, sn), cel), (szs, stb)) o1) (As := [.int x1]) (rest := []) hw (by rw [ho1]; exact c_X5_hasTable l g q num sn cel szs stb x1 ) ok_yX5_hasTable ml_X5_38 (rm_ok (by decide) (by decide)) 0 rfl rfl rfl rfl hl.1 (Nat.le_of_ble_eq_true rfl) dX5_isSecretTable_2 ⟨Nat.zero_le _, Nat.zero_le _⟩ (fun H locs hw => ?_)
  have hw : Wd g A s (w_Store q g (((num, sn), cel), (szs, stb))) H locs := hw
  refine W.eq (g2 := F0 m 5 ls [.int o1]) rfl ?_
  refine lv_if_eq (tgt := 21) hx hb dX5_isSecretTable_5 (by decide) (fun c2 => ?_) (fun c2 => ?_)
  · refine lv_iconst (v := (0 : Int32)) hx hb dX5_isSecretTable_21 (by decide) ?_
    exact hI.retZ (u := (((num, sn), cel), (szs, stb))) hw rfl (hr.trans (congrArg (rb_X5_isSecretTable (((num, sn), cel), (szs, stb))) ((show f_X5_isSecretTable stb x1 = ((0 : Int32)) from bd_of ho1 (it_t c2 (rfl)))))) dX5_isSecretTable_22
  · refine lv_aload_n hx hb dX5_isSecretTable_8 rfl (lv_at hl 0 rfl) ?_
    refine hI.get (v := .ref (q 5)) hw fg_X5_25 0 rfl rfl dX5_isSecretTable_9 ?_
    refine lv_iload_n hx hb dX5_isSecretTable_12 rfl (lv_at hl 1 rfl) ?_
    refine hI.zald hw 5 rfl (in_X5_hasTable (by rw [← ho1]; exact c2)) dX5_isSecretTable_13 ?_
    refine lv_if_eq (tgt := 21) hx hb dX5_isSecretTable_14 (by decide) (fun c3 => ?_) (fun c3 => ?_)
    · refine lv_iconst (v := (0 : Int32)) hx hb dX5_isSecretTable_21 (by decide) ?_
      exact hI.retZ (u := (((num, sn), cel), (szs, stb))) hw rfl (hr.trans (congrArg (rb_X5_isSecretTable (((num, sn), cel), (szs, stb))) ((show f_X5_isSecretTable stb x1 = ((0 : Int32)) from bd_of ho1 (it_f c2 (it_t c3 (rfl))))))) dX5_isSecretTable_22
    · refine lv_iconst (v := (1 : Int32)) hx hb dX5_isSecretTable_17 (by decide) ?_
      refine lv_goto (tgt := 22) hx hb dX5_isSecretTable_18 (by decide) ?_
      exact hI.retZ (u := (((num, sn), cel), (szs, stb))) hw rfl (hr.trans (congrArg (rb_X5_isSecretTable (((num, sn), cel), (szs, stb))) ((show f_X5_isSecretTable stb x1 = ((1 : Int32)) from bd_of ho1 (it_f c2 (it_f c3 (rfl))))))) dX5_isSecretTable_22
def f_X5_sizeOf (szs : Nat → Int32) (x1 : Int32) : Int32 := bd (f_X5_hasTable x1) (fun o1 => if o1 = 0 then ((0 : Int32)) else (szs x1.toNatClampNeg))
def rb_X5_sizeOf (σ : S_Store) (o : Int32) : Int32 × S_Store := (o, σ)
set_option maxHeartbeats 4000000 in
set_option maxRecDepth 100000 in
theorem c_X5_sizeOf (l : Launch) (g : GG) (q : Nat → Nat) (num : Nat → Int32) (sn : Nat → Int32) (cel : Nat → Int32) (szs : Nat → Int32) (stb : Nat → Int32) (x1 : Int32) : CI l g yX5_sizeOf cX5_sizeOf 2 (some .int) (rmN 1) (w_Store q g) [.ref (q 0), .int x1] (((num, sn), cel), (szs, stb)) (rb_X5_sizeOf (((num, sn), cel), (szs, stb)) (f_X5_sizeOf szs x1)) := by
  refine CI.mk (by decide) (Nat.le_of_ble_eq_true rfl) ?_
  intro p e s m below meth c A ls hI hw hl
  have hx := hI.1
  have hb := hI.2.1
  obtain ⟨r, hr⟩ : ∃ r, r = rb_X5_sizeOf (((num, sn), cel), (szs, stb)) (f_X5_sizeOf szs x1) := ⟨_, rfl⟩
  rw [← hr]
  have hl : lv_has ls 2 [(0, .ref (q 0)), (1, .int x1)] := hl
  refine lv_aload_n hx hb dX5_sizeOf_0 rfl (lv_at hl 0 rfl) ?_
  refine lv_iload_n hx hb dX5_sizeOf_1 rfl (lv_at hl 1 rfl) ?_
  obtain ⟨o1, ho1⟩ : ∃ o, o = f_X5_hasTable x1 := ⟨_, rfl⟩
  refine hI.callI0 (wl := w_Store q g) (a := (((num, sn), cel), (szs, stb))) (r := rb_X5_hasTable (((num, sn), cel), (szs, stb)) o1) (As := [.int x1]) (rest := []) hw (by rw [ho1]; exact c_X5_hasTable l g q num sn cel szs stb x1 ) ok_yX5_hasTable ml_X5_38 (rm_ok (by decide) (by decide)) 0 rfl rfl rfl rfl hl.1 (Nat.le_of_ble_eq_true rfl) dX5_sizeOf_2 ⟨Nat.zero_le _, Nat.zero_le _⟩ (fun H locs hw => ?_)
  have hw : Wd g A s (w_Store q g (((num, sn), cel), (szs, stb))) H locs := hw
  refine W.eq (g2 := F0 m 5 ls [.int o1]) rfl ?_
  refine lv_if_eq (tgt := 17) hx hb dX5_sizeOf_5 (by decide) (fun c2 => ?_) (fun c2 => ?_)
  · refine lv_iconst (v := (0 : Int32)) hx hb dX5_sizeOf_17 (by decide) ?_
    exact hI.retI (u := (((num, sn), cel), (szs, stb))) hw (hr.trans (congrArg (rb_X5_sizeOf (((num, sn), cel), (szs, stb))) ((show f_X5_sizeOf szs x1 = ((0 : Int32)) from bd_of ho1 (it_t c2 (rfl)))))) dX5_sizeOf_18
  · refine lv_aload_n hx hb dX5_sizeOf_8 rfl (lv_at hl 0 rfl) ?_
    refine hI.get (v := .ref (q 4)) hw fg_X5_22 0 rfl rfl dX5_sizeOf_9 ?_
    refine lv_iload_n hx hb dX5_sizeOf_12 rfl (lv_at hl 1 rfl) ?_
    refine hI.iald hw 4 rfl (in_X5_hasTable (by rw [← ho1]; exact c2)) dX5_sizeOf_13 ?_
    refine lv_goto (tgt := 18) hx hb dX5_sizeOf_14 (by decide) ?_
    exact hI.retI (u := (((num, sn), cel), (szs, stb))) hw (hr.trans (congrArg (rb_X5_sizeOf (((num, sn), cel), (szs, stb))) ((show f_X5_sizeOf szs x1 = (szs x1.toNatClampNeg) from bd_of ho1 (it_f c2 (rfl)))))) dX5_sizeOf_18
def f_X5_declareTable_37  : Nat → (Nat → Int32) → (Nat → Int32) → (Nat → Int32) → Int32 → Int32 → (((Nat → Int32) × (Nat → Int32)) × (Nat → Int32))
  | 0, cel, szs, stb, y1, y4 => (((cel, szs), stb))
  | k + 1, cel, szs, stb, y1, y4 => if (16 : Int32) ≤ y4 then (((cel, szs), stb)) else f_X5_declareTable_37 k (upd cel (((16 : Int32) * y1) + y4).toNatClampNeg (0 : Int32)) szs stb y1 (y4 + (1 : Int32))
def f_X5_declareTable (cel : Nat → Int32) (szs : Nat → Int32) (stb : Nat → Int32) (x1 : Int32) (x2 : Int32) (x3 : Int32) : (((Nat → Int32) × (Nat → Int32)) × (Nat → Int32)) := bd (f_X5_hasTable x1) (fun o1 => if o1 = 0 then (((cel, szs), stb)) else if x3 < (1 : Int32) then (((cel, szs), stb)) else if x3 ≤ (16 : Int32) then f_X5_declareTable_37 17 cel (upd szs x1.toNatClampNeg x3) (upd stb x1.toNatClampNeg (vp_nar .boolean x2)) x1 (0 : Int32) else (((cel, szs), stb)))
def rb_X5_declareTable (σ : S_Store) (o : (((Nat → Int32) × (Nat → Int32)) × (Nat → Int32))) : S_Store := (((σ.1.1.1, σ.1.1.2), o.1.1), (o.1.2, o.2))
set_option maxHeartbeats 4000000 in
set_option maxRecDepth 100000 in
theorem lp_X5_declareTable_37 (l : Launch) (g : GG) (q : Nat → Nat) (num : Nat → Int32) (sn : Nat → Int32) (cel₀ : Nat → Int32) (szs₀ : Nat → Int32) (stb₀ : Nat → Int32)  {p : Program} {e : Env} {s : State} {m : MethodId} {args : Array Value} {below : List Frame} {meth : Method} {c : Code} {A : Nat → Prop} (hI : InM p s m args meth c RX5 cX5_declareTable 5 none g A) : ∀ (k : Nat) (cel : Nat → Int32) (szs : Nat → Int32) (stb : Nat → Int32) (y1 : Int32) (y4 : Int32), (cnt 16 k y4 ∧ vp_in y1 4) → ∀ (r : S_Store), r = rb_X5_declareTable (((num, sn), cel₀), (szs₀, stb₀)) (f_X5_declareTable_37 k cel szs stb y1 y4) → ∀ (H : Heap) (locs : List Loc), Wd g A s (w_Store q g (((num, sn), cel), (szs, stb))) H locs → ∀ (ls : Array Slot), lv_has ls 5 [(0, .ref (q 0)), (1, .int y1), (4, .int y4)] → W p l e (rmN 1) s m args below meth c H locs 0 0 (QV g (w_Store q g) A r below args s) (F0 m 37 ls []) := by
  have hx := hI.1
  have hb := hI.2.1
  intro k
  induction k with
  | zero =>
    intro cel szs stb y1 y4 hc
    exact absurd hc.1 cnt_n
  | succ k ih =>
    intro cel szs stb y1 y4 hc r hr H locs hw ls hl
    refine lv_iload hx hb dX5_declareTable_37 (lv_at hl 2 rfl) ?_
    refine lv_bipush (v := (16 : Int32)) hx hb dX5_declareTable_39 (by decide) ?_
    refine lv_icmp_ge (tgt := 63) hx hb dX5_declareTable_41 (by decide) (fun c5 => ?_) (fun c5 => ?_)
    · exact hI.retV (u := (((num, sn), cel), (szs, stb))) hw (hr.trans (congrArg (rb_X5_declareTable (((num, sn), cel₀), (szs₀, stb₀))) ((show f_X5_declareTable_37 (k + 1) cel szs stb y1 y4 = (((cel, szs), stb)) from it_t c5 (rfl))))) dX5_declareTable_63
    · refine lv_aload_n hx hb dX5_declareTable_44 rfl (lv_at hl 0 rfl) ?_
      refine hI.get (v := .ref (q 3)) hw fg_X5_19 0 rfl rfl dX5_declareTable_45 ?_
      refine lv_bipush (v := (16 : Int32)) hx hb dX5_declareTable_48 (by decide) ?_
      refine lv_iload_n hx hb dX5_declareTable_50 rfl (lv_at hl 1 rfl) ?_
      refine lv_imul hx hb dX5_declareTable_51 ?_
      refine lv_iload hx hb dX5_declareTable_52 (lv_at hl 2 rfl) ?_
      refine lv_iadd hx hb dX5_declareTable_54 ?_
      refine lv_iconst (v := (0 : Int32)) hx hb dX5_declareTable_55 (by decide) ?_
      refine hI.iast hw 3 rfl (cell_in hc.2 (cnt_in (by decide) hc.1 c5)) dX5_declareTable_56 (fun H locs hw => ?_)
      have hw : Wd g A s (w_Store q g (((num, sn), upd cel (((16 : Int32) * y1) + y4).toNatClampNeg (0 : Int32)), (szs, stb))) H locs := hw
      refine lv_iinc (v := y4 + (1 : Int32)) (lv' := [(4, .int (y4 + (1 : Int32))), (0, .ref (q 0)), (1, .int y1)]) hx hb dX5_declareTable_57 hl (k := 2) rfl rfl (by decide) rfl (fun ls hl => ?_)
      refine lv_goto (tgt := 37) hx hb dX5_declareTable_60 (by decide) ?_
      exact ih (upd cel (((16 : Int32) * y1) + y4).toNatClampNeg (0 : Int32)) szs stb y1 (y4 + (1 : Int32)) ⟨cnt_s (by decide) hc.1 c5, hc.2⟩ r (hr.trans (congrArg (rb_X5_declareTable (((num, sn), cel₀), (szs₀, stb₀))) ((show f_X5_declareTable_37 (k + 1) cel szs stb y1 y4 = f_X5_declareTable_37 k (upd cel (((16 : Int32) * y1) + y4).toNatClampNeg (0 : Int32)) szs stb y1 (y4 + (1 : Int32)) from it_f c5 (rfl))))) _ _ hw _ (lv_sub hl [1, 2, 0] rfl)
set_option maxHeartbeats 4000000 in
set_option maxRecDepth 100000 in
theorem c_X5_declareTable (l : Launch) (g : GG) (q : Nat → Nat) (num : Nat → Int32) (sn : Nat → Int32) (cel : Nat → Int32) (szs : Nat → Int32) (stb : Nat → Int32) (x1 : Int32) (x2 : Int32) (x3 : Int32) : CV l g yX5_declareTable cX5_declareTable 5 none (rmN 1) (w_Store q g) [.ref (q 0), .int x1, .int x2, .int x3] (((num, sn), cel), (szs, stb)) (rb_X5_declareTable (((num, sn), cel), (szs, stb)) (f_X5_declareTable cel szs stb x1 x2 x3)) := by
  refine CV.mk (by decide) (Nat.le_of_ble_eq_true rfl) ?_
  intro p e s m below meth c A ls hI hw hl
  have hx := hI.1
  have hb := hI.2.1
  obtain ⟨r, hr⟩ : ∃ r, r = rb_X5_declareTable (((num, sn), cel), (szs, stb)) (f_X5_declareTable cel szs stb x1 x2 x3) := ⟨_, rfl⟩
  rw [← hr]
  have hl : lv_has ls 5 [(0, .ref (q 0)), (1, .int x1), (2, .int x2), (3, .int x3)] := hl
  refine lv_aload_n hx hb dX5_declareTable_0 rfl (lv_at hl 0 rfl) ?_
  refine lv_iload_n hx hb dX5_declareTable_1 rfl (lv_at hl 1 rfl) ?_
  obtain ⟨o1, ho1⟩ : ∃ o, o = f_X5_hasTable x1 := ⟨_, rfl⟩
  refine hI.callI0 (wl := w_Store q g) (a := (((num, sn), cel), (szs, stb))) (r := rb_X5_hasTable (((num, sn), cel), (szs, stb)) o1) (As := [.int x1]) (rest := []) hw (by rw [ho1]; exact c_X5_hasTable l g q num sn cel szs stb x1 ) ok_yX5_hasTable ml_X5_38 (rm_ok (by decide) (by decide)) 0 rfl rfl rfl rfl hl.1 (Nat.le_of_ble_eq_true rfl) dX5_declareTable_2 ⟨Nat.zero_le _, Nat.zero_le _⟩ (fun H locs hw => ?_)
  have hw : Wd g A s (w_Store q g (((num, sn), cel), (szs, stb))) H locs := hw
  refine W.eq (g2 := F0 m 5 ls [.int o1]) rfl ?_
  refine lv_if_eq (tgt := 19) hx hb dX5_declareTable_5 (by decide) (fun c2 => ?_) (fun c2 => ?_)
  · exact hI.retV (u := (((num, sn), cel), (szs, stb))) hw (hr.trans (congrArg (rb_X5_declareTable (((num, sn), cel), (szs, stb))) ((show f_X5_declareTable cel szs stb x1 x2 x3 = (((cel, szs), stb)) from bd_of ho1 (it_t c2 (rfl)))))) dX5_declareTable_19
  · refine lv_iload_n hx hb dX5_declareTable_8 rfl (lv_at hl 3 rfl) ?_
    refine lv_iconst (v := (1 : Int32)) hx hb dX5_declareTable_9 (by decide) ?_
    refine lv_icmp_lt (tgt := 19) hx hb dX5_declareTable_10 (by decide) (fun c3 => ?_) (fun c3 => ?_)
    · exact hI.retV (u := (((num, sn), cel), (szs, stb))) hw (hr.trans (congrArg (rb_X5_declareTable (((num, sn), cel), (szs, stb))) ((show f_X5_declareTable cel szs stb x1 x2 x3 = (((cel, szs), stb)) from bd_of ho1 (it_f c2 (it_t c3 (rfl))))))) dX5_declareTable_19
    · refine lv_iload_n hx hb dX5_declareTable_13 rfl (lv_at hl 3 rfl) ?_
      refine lv_bipush (v := (16 : Int32)) hx hb dX5_declareTable_14 (by decide) ?_
      refine lv_icmp_le (tgt := 20) hx hb dX5_declareTable_16 (by decide) (fun c4 => ?_) (fun c4 => ?_)
      · refine lv_aload_n hx hb dX5_declareTable_20 rfl (lv_at hl 0 rfl) ?_
        refine hI.get (v := .ref (q 5)) hw fg_X5_25 0 rfl rfl dX5_declareTable_21 ?_
        refine lv_iload_n hx hb dX5_declareTable_24 rfl (lv_at hl 1 rfl) ?_
        refine lv_iload_n hx hb dX5_declareTable_25 rfl (lv_at hl 2 rfl) ?_
        refine hI.zast hw 5 rfl (in_X5_hasTable (by rw [← ho1]; exact c2)) dX5_declareTable_26 (fun H locs hw => ?_)
        have hw : Wd g A s (w_Store q g (((num, sn), cel), (szs, upd stb x1.toNatClampNeg (vp_nar .boolean x2)))) H locs := hw
        refine lv_aload_n hx hb dX5_declareTable_27 rfl (lv_at hl 0 rfl) ?_
        refine hI.get (v := .ref (q 4)) hw fg_X5_22 0 rfl rfl dX5_declareTable_28 ?_
        refine lv_iload_n hx hb dX5_declareTable_31 rfl (lv_at hl 1 rfl) ?_
        refine lv_iload_n hx hb dX5_declareTable_32 rfl (lv_at hl 3 rfl) ?_
        refine hI.iast hw 4 rfl (in_X5_hasTable (by rw [← ho1]; exact c2)) dX5_declareTable_33 (fun H locs hw => ?_)
        have hw : Wd g A s (w_Store q g (((num, sn), cel), (upd szs x1.toNatClampNeg x3, upd stb x1.toNatClampNeg (vp_nar .boolean x2)))) H locs := hw
        refine lv_iconst (v := (0 : Int32)) hx hb dX5_declareTable_34 (by decide) ?_
        refine lv_istore (lv' := [(4, .int (0 : Int32)), (0, .ref (q 0)), (1, .int x1), (2, .int x2), (3, .int x3)]) hx hb dX5_declareTable_35 hl (by decide) rfl (fun ls hl => ?_)
        exact lp_X5_declareTable_37 l g q num sn cel szs stb hI 17 cel (upd szs x1.toNatClampNeg x3) (upd stb x1.toNatClampNeg (vp_nar .boolean x2)) x1 (0 : Int32) ⟨cnt_0 16, (in_X5_hasTable (by rw [← ho1]; exact c2))⟩ r (hr.trans (congrArg (rb_X5_declareTable (((num, sn), cel), (szs, stb))) ((show f_X5_declareTable cel szs stb x1 x2 x3 = f_X5_declareTable_37 17 cel (upd szs x1.toNatClampNeg x3) (upd stb x1.toNatClampNeg (vp_nar .boolean x2)) x1 (0 : Int32) from bd_of ho1 (it_f c2 (it_f c3 (it_t c4 (rfl)))))))) _ _ hw _ (lv_sub hl [1, 2, 0] rfl)
      · exact hI.retV (u := (((num, sn), cel), (szs, stb))) hw (hr.trans (congrArg (rb_X5_declareTable (((num, sn), cel), (szs, stb))) ((show f_X5_declareTable cel szs stb x1 x2 x3 = (((cel, szs), stb)) from bd_of ho1 (it_f c2 (it_f c3 (it_f c4 (rfl)))))))) dX5_declareTable_19
def f_X5_hasCell (szs : Nat → Int32) (x1 : Int32) (x2 : Int32) : Int32 := if x1 < 0 then ((0 : Int32)) else if (4 : Int32) ≤ x1 then ((0 : Int32)) else if x2 < 0 then ((0 : Int32)) else if (16 : Int32) ≤ x2 then ((0 : Int32)) else if (szs x1.toNatClampNeg) ≤ x2 then ((0 : Int32)) else ((1 : Int32))
def rb_X5_hasCell (σ : S_Store) (o : Int32) : Int32 × S_Store := (o, σ)
set_option maxHeartbeats 4000000 in
set_option maxRecDepth 100000 in
theorem c_X5_hasCell (l : Launch) (g : GG) (q : Nat → Nat) (num : Nat → Int32) (sn : Nat → Int32) (cel : Nat → Int32) (szs : Nat → Int32) (stb : Nat → Int32) (x1 : Int32) (x2 : Int32) : CI l g yX5_hasCell cX5_hasCell 3 (some .boolean) (rmN 0) (w_Store q g) [.ref (q 0), .int x1, .int x2] (((num, sn), cel), (szs, stb)) (rb_X5_hasCell (((num, sn), cel), (szs, stb)) (f_X5_hasCell szs x1 x2)) := by
  refine CI.mk (by decide) (Nat.le_of_ble_eq_true rfl) ?_
  intro p e s m below meth c A ls hI hw hl
  have hx := hI.1
  have hb := hI.2.1
  obtain ⟨r, hr⟩ : ∃ r, r = rb_X5_hasCell (((num, sn), cel), (szs, stb)) (f_X5_hasCell szs x1 x2) := ⟨_, rfl⟩
  rw [← hr]
  have hl : lv_has ls 3 [(0, .ref (q 0)), (1, .int x1), (2, .int x2)] := hl
  refine lv_iload_n hx hb dX5_hasCell_0 rfl (lv_at hl 1 rfl) ?_
  refine lv_if_lt (tgt := 33) hx hb dX5_hasCell_1 (by decide) (fun c1 => ?_) (fun c1 => ?_)
  · refine lv_iconst (v := (0 : Int32)) hx hb dX5_hasCell_33 (by decide) ?_
    exact hI.retZ (u := (((num, sn), cel), (szs, stb))) hw rfl (hr.trans (congrArg (rb_X5_hasCell (((num, sn), cel), (szs, stb))) ((show f_X5_hasCell szs x1 x2 = ((0 : Int32)) from it_t c1 (rfl))))) dX5_hasCell_34
  · refine lv_iload_n hx hb dX5_hasCell_4 rfl (lv_at hl 1 rfl) ?_
    refine lv_iconst (v := (4 : Int32)) hx hb dX5_hasCell_5 (by decide) ?_
    refine lv_icmp_ge (tgt := 33) hx hb dX5_hasCell_6 (by decide) (fun c2 => ?_) (fun c2 => ?_)
    · refine lv_iconst (v := (0 : Int32)) hx hb dX5_hasCell_33 (by decide) ?_
      exact hI.retZ (u := (((num, sn), cel), (szs, stb))) hw rfl (hr.trans (congrArg (rb_X5_hasCell (((num, sn), cel), (szs, stb))) ((show f_X5_hasCell szs x1 x2 = ((0 : Int32)) from it_f c1 (it_t c2 (rfl)))))) dX5_hasCell_34
    · refine lv_iload_n hx hb dX5_hasCell_9 rfl (lv_at hl 2 rfl) ?_
      refine lv_if_lt (tgt := 33) hx hb dX5_hasCell_10 (by decide) (fun c3 => ?_) (fun c3 => ?_)
      · refine lv_iconst (v := (0 : Int32)) hx hb dX5_hasCell_33 (by decide) ?_
        exact hI.retZ (u := (((num, sn), cel), (szs, stb))) hw rfl (hr.trans (congrArg (rb_X5_hasCell (((num, sn), cel), (szs, stb))) ((show f_X5_hasCell szs x1 x2 = ((0 : Int32)) from it_f c1 (it_f c2 (it_t c3 (rfl))))))) dX5_hasCell_34
      · refine lv_iload_n hx hb dX5_hasCell_13 rfl (lv_at hl 2 rfl) ?_
        refine lv_bipush (v := (16 : Int32)) hx hb dX5_hasCell_14 (by decide) ?_
        refine lv_icmp_ge (tgt := 33) hx hb dX5_hasCell_16 (by decide) (fun c4 => ?_) (fun c4 => ?_)
        · refine lv_iconst (v := (0 : Int32)) hx hb dX5_hasCell_33 (by decide) ?_
          exact hI.retZ (u := (((num, sn), cel), (szs, stb))) hw rfl (hr.trans (congrArg (rb_X5_hasCell (((num, sn), cel), (szs, stb))) ((show f_X5_hasCell szs x1 x2 = ((0 : Int32)) from it_f c1 (it_f c2 (it_f c3 (it_t c4 (rfl)))))))) dX5_hasCell_34
        · refine lv_iload_n hx hb dX5_hasCell_19 rfl (lv_at hl 2 rfl) ?_
          refine lv_aload_n hx hb dX5_hasCell_20 rfl (lv_at hl 0 rfl) ?_
          refine hI.get (v := .ref (q 4)) hw fg_X5_22 0 rfl rfl dX5_hasCell_21 ?_
          refine lv_iload_n hx hb dX5_hasCell_24 rfl (lv_at hl 1 rfl) ?_
          refine hI.iald hw 4 rfl (vin_c (n := 4) c1 c2 (by decide)) dX5_hasCell_25 ?_
          refine lv_icmp_ge (tgt := 33) hx hb dX5_hasCell_26 (by decide) (fun c5 => ?_) (fun c5 => ?_)
          · refine lv_iconst (v := (0 : Int32)) hx hb dX5_hasCell_33 (by decide) ?_
            exact hI.retZ (u := (((num, sn), cel), (szs, stb))) hw rfl (hr.trans (congrArg (rb_X5_hasCell (((num, sn), cel), (szs, stb))) ((show f_X5_hasCell szs x1 x2 = ((0 : Int32)) from it_f c1 (it_f c2 (it_f c3 (it_f c4 (it_t c5 (rfl))))))))) dX5_hasCell_34
          · refine lv_iconst (v := (1 : Int32)) hx hb dX5_hasCell_29 (by decide) ?_
            refine lv_goto (tgt := 34) hx hb dX5_hasCell_30 (by decide) ?_
            exact hI.retZ (u := (((num, sn), cel), (szs, stb))) hw rfl (hr.trans (congrArg (rb_X5_hasCell (((num, sn), cel), (szs, stb))) ((show f_X5_hasCell szs x1 x2 = ((1 : Int32)) from it_f c1 (it_f c2 (it_f c3 (it_f c4 (it_f c5 (rfl))))))))) dX5_hasCell_34
theorem in_X5_hasCell {szs : Nat → Int32} {t i : Int32} (h : ¬ f_X5_hasCell szs t i = 0) : vp_in (16 * t + i) 64 := by
  unfold f_X5_hasCell at h
  split at h
  · exact absurd rfl h
  · split at h
    · exact absurd rfl h
    · split at h
      · exact absurd rfl h
      · split at h
        · exact absurd rfl h
        · exact cell_in (vin_c (by assumption) (by assumption) (by decide)) (vin_c (by assumption) (by assumption) (by decide))
def f_X5_cell (cel : Nat → Int32) (szs : Nat → Int32) (x1 : Int32) (x2 : Int32) : Int32 := bd (f_X5_hasCell szs x1 x2) (fun o1 => if o1 = 0 then ((0 : Int32)) else (cel (((16 : Int32) * x1) + x2).toNatClampNeg))
def rb_X5_cell (σ : S_Store) (o : Int32) : Int32 × S_Store := (o, σ)
set_option maxHeartbeats 4000000 in
set_option maxRecDepth 100000 in
theorem c_X5_cell (l : Launch) (g : GG) (q : Nat → Nat) (num : Nat → Int32) (sn : Nat → Int32) (cel : Nat → Int32) (szs : Nat → Int32) (stb : Nat → Int32) (x1 : Int32) (x2 : Int32) : CI l g yX5_cell cX5_cell 3 (some .int) (rmN 1) (w_Store q g) [.ref (q 0), .int x1, .int x2] (((num, sn), cel), (szs, stb)) (rb_X5_cell (((num, sn), cel), (szs, stb)) (f_X5_cell cel szs x1 x2)) := by
  refine CI.mk (by decide) (Nat.le_of_ble_eq_true rfl) ?_
  intro p e s m below meth c A ls hI hw hl
  have hx := hI.1
  have hb := hI.2.1
  obtain ⟨r, hr⟩ : ∃ r, r = rb_X5_cell (((num, sn), cel), (szs, stb)) (f_X5_cell cel szs x1 x2) := ⟨_, rfl⟩
  rw [← hr]
  have hl : lv_has ls 3 [(0, .ref (q 0)), (1, .int x1), (2, .int x2)] := hl
  refine lv_aload_n hx hb dX5_cell_0 rfl (lv_at hl 0 rfl) ?_
  refine lv_iload_n hx hb dX5_cell_1 rfl (lv_at hl 1 rfl) ?_
  refine lv_iload_n hx hb dX5_cell_2 rfl (lv_at hl 2 rfl) ?_
  obtain ⟨o1, ho1⟩ : ∃ o, o = f_X5_hasCell szs x1 x2 := ⟨_, rfl⟩
  refine hI.callI0 (wl := w_Store q g) (a := (((num, sn), cel), (szs, stb))) (r := rb_X5_hasCell (((num, sn), cel), (szs, stb)) o1) (As := [.int x1, .int x2]) (rest := []) hw (by rw [ho1]; exact c_X5_hasCell l g q num sn cel szs stb x1 x2 ) ok_yX5_hasCell ml_X5_41 (rm_ok (by decide) (by decide)) 0 rfl rfl rfl rfl hl.1 (Nat.le_of_ble_eq_true rfl) dX5_cell_3 ⟨Nat.zero_le _, Nat.zero_le _⟩ (fun H locs hw => ?_)
  have hw : Wd g A s (w_Store q g (((num, sn), cel), (szs, stb))) H locs := hw
  refine W.eq (g2 := F0 m 6 ls [.int o1]) rfl ?_
  refine lv_if_eq (tgt := 23) hx hb dX5_cell_6 (by decide) (fun c2 => ?_) (fun c2 => ?_)
  · refine lv_iconst (v := (0 : Int32)) hx hb dX5_cell_23 (by decide) ?_
    exact hI.retI (u := (((num, sn), cel), (szs, stb))) hw (hr.trans (congrArg (rb_X5_cell (((num, sn), cel), (szs, stb))) ((show f_X5_cell cel szs x1 x2 = ((0 : Int32)) from bd_of ho1 (it_t c2 (rfl)))))) dX5_cell_24
  · refine lv_aload_n hx hb dX5_cell_9 rfl (lv_at hl 0 rfl) ?_
    refine hI.get (v := .ref (q 3)) hw fg_X5_19 0 rfl rfl dX5_cell_10 ?_
    refine lv_bipush (v := (16 : Int32)) hx hb dX5_cell_13 (by decide) ?_
    refine lv_iload_n hx hb dX5_cell_15 rfl (lv_at hl 1 rfl) ?_
    refine lv_imul hx hb dX5_cell_16 ?_
    refine lv_iload_n hx hb dX5_cell_17 rfl (lv_at hl 2 rfl) ?_
    refine lv_iadd hx hb dX5_cell_18 ?_
    refine hI.iald hw 3 rfl (in_X5_hasCell (by rw [← ho1]; exact c2)) dX5_cell_19 ?_
    refine lv_goto (tgt := 24) hx hb dX5_cell_20 (by decide) ?_
    exact hI.retI (u := (((num, sn), cel), (szs, stb))) hw (hr.trans (congrArg (rb_X5_cell (((num, sn), cel), (szs, stb))) ((show f_X5_cell cel szs x1 x2 = (cel (((16 : Int32) * x1) + x2).toNatClampNeg) from bd_of ho1 (it_f c2 (rfl)))))) dX5_cell_24
def f_X5_lay (cel : Nat → Int32) (szs : Nat → Int32) (x1 : Int32) (x2 : Int32) (x3 : Int32) : (Nat → Int32) := bd (f_X5_hasCell szs x1 x2) (fun o1 => if o1 = 0 then (cel) else (upd cel (((16 : Int32) * x1) + x2).toNatClampNeg x3))
def rb_X5_lay (σ : S_Store) (o : (Nat → Int32)) : S_Store := (((σ.1.1.1, σ.1.1.2), o), (σ.2.1, σ.2.2))
set_option maxHeartbeats 4000000 in
set_option maxRecDepth 100000 in
theorem c_X5_lay (l : Launch) (g : GG) (q : Nat → Nat) (num : Nat → Int32) (sn : Nat → Int32) (cel : Nat → Int32) (szs : Nat → Int32) (stb : Nat → Int32) (x1 : Int32) (x2 : Int32) (x3 : Int32) : CV l g yX5_lay cX5_lay 4 none (rmN 1) (w_Store q g) [.ref (q 0), .int x1, .int x2, .int x3] (((num, sn), cel), (szs, stb)) (rb_X5_lay (((num, sn), cel), (szs, stb)) (f_X5_lay cel szs x1 x2 x3)) := by
  refine CV.mk (by decide) (Nat.le_of_ble_eq_true rfl) ?_
  intro p e s m below meth c A ls hI hw hl
  have hx := hI.1
  have hb := hI.2.1
  obtain ⟨r, hr⟩ : ∃ r, r = rb_X5_lay (((num, sn), cel), (szs, stb)) (f_X5_lay cel szs x1 x2 x3) := ⟨_, rfl⟩
  rw [← hr]
  have hl : lv_has ls 4 [(0, .ref (q 0)), (1, .int x1), (2, .int x2), (3, .int x3)] := hl
  refine lv_aload_n hx hb dX5_lay_0 rfl (lv_at hl 0 rfl) ?_
  refine lv_iload_n hx hb dX5_lay_1 rfl (lv_at hl 1 rfl) ?_
  refine lv_iload_n hx hb dX5_lay_2 rfl (lv_at hl 2 rfl) ?_
  obtain ⟨o1, ho1⟩ : ∃ o, o = f_X5_hasCell szs x1 x2 := ⟨_, rfl⟩
  refine hI.callI0 (wl := w_Store q g) (a := (((num, sn), cel), (szs, stb))) (r := rb_X5_hasCell (((num, sn), cel), (szs, stb)) o1) (As := [.int x1, .int x2]) (rest := []) hw (by rw [ho1]; exact c_X5_hasCell l g q num sn cel szs stb x1 x2 ) ok_yX5_hasCell ml_X5_41 (rm_ok (by decide) (by decide)) 0 rfl rfl rfl rfl hl.1 (Nat.le_of_ble_eq_true rfl) dX5_lay_3 ⟨Nat.zero_le _, Nat.zero_le _⟩ (fun H locs hw => ?_)
  have hw : Wd g A s (w_Store q g (((num, sn), cel), (szs, stb))) H locs := hw
  refine W.eq (g2 := F0 m 6 ls [.int o1]) rfl ?_
  refine lv_if_eq (tgt := 21) hx hb dX5_lay_6 (by decide) (fun c2 => ?_) (fun c2 => ?_)
  · exact hI.retV (u := (((num, sn), cel), (szs, stb))) hw (hr.trans (congrArg (rb_X5_lay (((num, sn), cel), (szs, stb))) ((show f_X5_lay cel szs x1 x2 x3 = (cel) from bd_of ho1 (it_t c2 (rfl)))))) dX5_lay_21
  · refine lv_aload_n hx hb dX5_lay_9 rfl (lv_at hl 0 rfl) ?_
    refine hI.get (v := .ref (q 3)) hw fg_X5_19 0 rfl rfl dX5_lay_10 ?_
    refine lv_bipush (v := (16 : Int32)) hx hb dX5_lay_13 (by decide) ?_
    refine lv_iload_n hx hb dX5_lay_15 rfl (lv_at hl 1 rfl) ?_
    refine lv_imul hx hb dX5_lay_16 ?_
    refine lv_iload_n hx hb dX5_lay_17 rfl (lv_at hl 2 rfl) ?_
    refine lv_iadd hx hb dX5_lay_18 ?_
    refine lv_iload_n hx hb dX5_lay_19 rfl (lv_at hl 3 rfl) ?_
    refine hI.iast hw 3 rfl (in_X5_hasCell (by rw [← ho1]; exact c2)) dX5_lay_20 (fun H locs hw => ?_)
    have hw : Wd g A s (w_Store q g (((num, sn), upd cel (((16 : Int32) * x1) + x2).toNatClampNeg x3), (szs, stb))) H locs := hw
    exact hI.retV (u := (((num, sn), upd cel (((16 : Int32) * x1) + x2).toNatClampNeg x3), (szs, stb))) hw (hr.trans (congrArg (rb_X5_lay (((num, sn), cel), (szs, stb))) ((show f_X5_lay cel szs x1 x2 x3 = (upd cel (((16 : Int32) * x1) + x2).toNatClampNeg x3) from bd_of ho1 (it_f c2 (rfl)))))) dX5_lay_21
def f_X5_placeIn (szs : Nat → Int32) (x1 : Int32) (x2 : Int32) : Int32 := bd (f_X5_hasTable x1) (fun o1 => if o1 = 0 then ((0 : Int32)) else if (1 : Int32) ≤ (szs x1.toNatClampNeg) then (((x2.toInt64 &&& (4294967295 : Int64)) - (x2.toInt64 &&& (4294967295 : Int64)) / ((szs x1.toNatClampNeg).toInt64) * ((szs x1.toNatClampNeg).toInt64)).toInt32) else ((0 : Int32)))
def rb_X5_placeIn (σ : S_Store) (o : Int32) : Int32 × S_Store := (o, σ)
set_option maxHeartbeats 4000000 in
set_option maxRecDepth 100000 in
theorem c_X5_placeIn (l : Launch) (g : GG) (q : Nat → Nat) (num : Nat → Int32) (sn : Nat → Int32) (cel : Nat → Int32) (szs : Nat → Int32) (stb : Nat → Int32) (x1 : Int32) (x2 : Int32) : CI l g yX5_placeIn cX5_placeIn 4 (some .int) (rmN 1) (w_Store q g) [.ref (q 0), .int x1, .int x2] (((num, sn), cel), (szs, stb)) (rb_X5_placeIn (((num, sn), cel), (szs, stb)) (f_X5_placeIn szs x1 x2)) := by
  refine CI.mk (by decide) (Nat.le_of_ble_eq_true rfl) ?_
  intro p e s m below meth c A ls hI hw hl
  have hx := hI.1
  have hb := hI.2.1
  obtain ⟨r, hr⟩ : ∃ r, r = rb_X5_placeIn (((num, sn), cel), (szs, stb)) (f_X5_placeIn szs x1 x2) := ⟨_, rfl⟩
  rw [← hr]
  have hl : lv_has ls 4 [(0, .ref (q 0)), (1, .int x1), (2, .int x2)] := hl
  refine lv_aload_n hx hb dX5_placeIn_0 rfl (lv_at hl 0 rfl) ?_
  refine lv_iload_n hx hb dX5_placeIn_1 rfl (lv_at hl 1 rfl) ?_
  obtain ⟨o1, ho1⟩ : ∃ o, o = f_X5_hasTable x1 := ⟨_, rfl⟩
  refine hI.callI0 (wl := w_Store q g) (a := (((num, sn), cel), (szs, stb))) (r := rb_X5_hasTable (((num, sn), cel), (szs, stb)) o1) (As := [.int x1]) (rest := []) hw (by rw [ho1]; exact c_X5_hasTable l g q num sn cel szs stb x1 ) ok_yX5_hasTable ml_X5_38 (rm_ok (by decide) (by decide)) 0 rfl rfl rfl rfl hl.1 (Nat.le_of_ble_eq_true rfl) dX5_placeIn_2 ⟨Nat.zero_le _, Nat.zero_le _⟩ (fun H locs hw => ?_)
  have hw : Wd g A s (w_Store q g (((num, sn), cel), (szs, stb))) H locs := hw
  refine W.eq (g2 := F0 m 5 ls [.int o1]) rfl ?_
  refine lv_if_eq (tgt := 17) hx hb dX5_placeIn_5 (by decide) (fun c2 => ?_) (fun c2 => ?_)
  · refine lv_iconst (v := (0 : Int32)) hx hb dX5_placeIn_17 (by decide) ?_
    refine lv_istore_n (lv' := [(3, .int (0 : Int32)), (0, .ref (q 0)), (1, .int x1), (2, .int x2)]) hx hb dX5_placeIn_18 rfl hl (by decide) rfl (fun ls hl => ?_)
    refine lv_iload_n hx hb dX5_placeIn_19 rfl (lv_at hl 0 rfl) ?_
    refine lv_iconst (v := (1 : Int32)) hx hb dX5_placeIn_20 (by decide) ?_
    refine lv_icmp_ge (tgt := 28) hx hb dX5_placeIn_21 (by decide) (fun c3 => ?_) (fun c3 => ?_)
    · exact absurd c3 (by decide)
    refine lv_iconst (v := (0 : Int32)) hx hb dX5_placeIn_24 (by decide) ?_
    refine lv_goto (tgt := 38) hx hb dX5_placeIn_25 (by decide) ?_
    exact hI.retI (u := (((num, sn), cel), (szs, stb))) hw (hr.trans (congrArg (rb_X5_placeIn (((num, sn), cel), (szs, stb))) ((show f_X5_placeIn szs x1 x2 = ((0 : Int32)) from bd_of ho1 (it_t c2 (rfl)))))) dX5_placeIn_38
  · refine lv_aload_n hx hb dX5_placeIn_8 rfl (lv_at hl 0 rfl) ?_
    refine hI.get (v := .ref (q 4)) hw fg_X5_22 0 rfl rfl dX5_placeIn_9 ?_
    refine lv_iload_n hx hb dX5_placeIn_12 rfl (lv_at hl 1 rfl) ?_
    refine hI.iald hw 4 rfl (in_X5_hasTable (by rw [← ho1]; exact c2)) dX5_placeIn_13 ?_
    refine lv_goto (tgt := 18) hx hb dX5_placeIn_14 (by decide) ?_
    refine lv_istore_n (lv' := [(3, .int (szs x1.toNatClampNeg)), (0, .ref (q 0)), (1, .int x1), (2, .int x2)]) hx hb dX5_placeIn_18 rfl hl (by decide) rfl (fun ls hl => ?_)
    refine lv_iload_n hx hb dX5_placeIn_19 rfl (lv_at hl 0 rfl) ?_
    refine lv_iconst (v := (1 : Int32)) hx hb dX5_placeIn_20 (by decide) ?_
    refine lv_icmp_ge (tgt := 28) hx hb dX5_placeIn_21 (by decide) (fun c4 => ?_) (fun c4 => ?_)
    · refine lv_iload_n hx hb dX5_placeIn_28 rfl (lv_at hl 3 rfl) ?_
      refine lv_i2l (v := x2.toInt64) hx hb dX5_placeIn_29 rfl ?_
      refine lv_ldc2 (v := (4294967295 : Int64)) hx hb hI.2.2.2.1 (hI.2.2.2.2.1 _ mcon_X5_45) dX5_placeIn_30 ?_
      refine lv_land hx hb dX5_placeIn_33 ?_
      refine lv_iload_n hx hb dX5_placeIn_34 rfl (lv_at hl 0 rfl) ?_
      refine lv_i2l (v := (szs x1.toNatClampNeg).toInt64) hx hb dX5_placeIn_35 rfl ?_
      refine lv_lrem hx hb dX5_placeIn_36 (l_nz c4) ?_
      refine lv_l2i (v := ((x2.toInt64 &&& (4294967295 : Int64)) - (x2.toInt64 &&& (4294967295 : Int64)) / ((szs x1.toNatClampNeg).toInt64) * ((szs x1.toNatClampNeg).toInt64)).toInt32) hx hb dX5_placeIn_37 rfl ?_
      exact hI.retI (u := (((num, sn), cel), (szs, stb))) hw (hr.trans (congrArg (rb_X5_placeIn (((num, sn), cel), (szs, stb))) ((show f_X5_placeIn szs x1 x2 = (((x2.toInt64 &&& (4294967295 : Int64)) - (x2.toInt64 &&& (4294967295 : Int64)) / ((szs x1.toNatClampNeg).toInt64) * ((szs x1.toNatClampNeg).toInt64)).toInt32) from bd_of ho1 (it_f c2 (it_t c4 (rfl))))))) dX5_placeIn_38
    · refine lv_iconst (v := (0 : Int32)) hx hb dX5_placeIn_24 (by decide) ?_
      refine lv_goto (tgt := 38) hx hb dX5_placeIn_25 (by decide) ?_
      exact hI.retI (u := (((num, sn), cel), (szs, stb))) hw (hr.trans (congrArg (rb_X5_placeIn (((num, sn), cel), (szs, stb))) ((show f_X5_placeIn szs x1 x2 = ((0 : Int32)) from bd_of ho1 (it_f c2 (it_f c4 (rfl))))))) dX5_placeIn_38
