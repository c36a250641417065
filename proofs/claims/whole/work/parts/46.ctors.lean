theorem mc_objectInit : Cond.code objectInit ⟨#[0xb1]⟩ 1 none ∈ lw_g := gm (List.mem_append_right _ (List.mem_append_left _ (List.mem_of_getElem? (i := 21) rfl))) rfl
theorem ok_yX6_init : CalI yX6_init cX6_init 2 1 := ⟨mi_yX6_init, mini_X6, mc_yX6_init, rfl, by decide +kernel⟩
theorem ok_yX7_init : CalI yX7_init cX7_init 1 0 := ⟨mi_yX7_init, mini_X7, mc_yX7_init, rfl, by decide +kernel⟩
theorem ok_yX5_init : CalI yX5_init cX5_init 1 0 := ⟨mi_yX5_init, mini_X5, mc_yX5_init, rfl, by decide +kernel⟩
theorem ok_yX2_init : CalI yX2_init cX2_init 1 0 := ⟨mi_yX2_init, mini_X2, mc_yX2_init, rfl, by decide +kernel⟩
theorem ok_yX3_init : CalI yX3_init cX3_init 3 2 := ⟨mi_yX3_init, mini_X3, mc_yX3_init, rfl, by decide +kernel⟩
theorem ok_yX0_init : CalI yX0_init cX0_init 3 2 := ⟨mi_yX0_init, mini_X0, mc_yX0_init, rfl, by decide +kernel⟩
theorem ok_yX1_init : CalI yX1_init cX1_init 5 4 := ⟨mi_yX1_init, mini_X1, mc_yX1_init, rfl, by decide +kernel⟩
theorem ok_yX8_init : CalI yX8_init cX8_init 4 3 := ⟨mi_yX8_init, mini_X8, mc_yX8_init, rfl, by decide +kernel⟩
theorem ok_yX9_init : CalI yX9_init cX9_init 1 0 := ⟨mi_yX9_init, mini_X9, mc_yX9_init, rfl, by decide +kernel⟩
theorem ok_yX10_init : CalI yX10_init cX10_init 2 0 := ⟨mi_yX10_init, mini_X10, mc_yX10_init, rfl, by decide +kernel⟩
set_option maxHeartbeats 4000000 in
set_option maxRecDepth 100000 in
theorem n_X6_init (l : Launch) (g : GG) (h : Nat) (n : Nat) (hn : n ≤ 100000) : CN (S := Nat) l g yX6_init cX6_init 2 (rmC 1 1 n) 1 n [.ref h, .int (nI n)] [(h, .inr (5, [.null, .int 0]))] (fun u => [(h, .inr (5, [.ref u, .int 0])), (u, .inl (g.2.1, n, .inl (fun _ => 0)))]) := by
  refine CN.mk (by decide) rfl (Nat.le_of_ble_eq_true rfl) ?_
  intro p e s m below meth c A ls hI hin hw hl
  have hx := hI.1
  have hb := hI.2.1
  have hl : lv_has ls 2 [(0, .ref h), (1, .int (nI n))] := hl
  refine lv_aload_n hx hb dX6_init_0 rfl (lv_at hl 0 rfl) ?_
  refine hI.objInit ml_X6_1 mi_objectInit mc_objectInit hl.1 dX6_init_1 (Nat.le_of_ble_eq_true rfl) (Nat.le_of_ble_eq_true rfl) ?_
  refine lv_aload_n hx hb dX6_init_4 rfl (lv_at hl 0 rfl) ?_
  refine lv_iload_n hx hb dX6_init_5 rfl (lv_at hl 1 rfl) ?_
  refine lv_iconst (v := (0 : Int32)) hx hb dX6_init_6 (by decide) ?_
  obtain ⟨o1, ho1⟩ : ∃ o, o = nI n := ⟨_, rfl⟩
  refine va_mmax hx hb (hI.2.2.1.trans hl.1.symm) hI.2.2.2.1 (hI.2.2.2.2.1 _ ml_X6_7) (hI.2.2.2.2.1 _ mst_yJ9_max_7cf53) (hI.2.2.2.2.1 _ mini_J9) (hI.2.2.2.2.1 _ mc_yJ9_max_7cf53) (Nat.le_of_ble_eq_true rfl) (Nat.le_of_ble_eq_true rfl) (Nat.zero_le _) (Nat.zero_le _) dX6_init_7 ?_
  refine W.eq (g2 := F0 m 10 ls [.int o1, .ref h]) (by rw [ho1]; exact congrArg (fun z => F0 m 10 ls [.int z, .ref h]) (max_nI (n := n) (by omega))) ?_
  refine hI.newI (N := n) hw marr_int (by rw [ho1]; exact nI_pos (by omega)) (by rw [ho1]; exact nI_clamp (by omega)) hn (Nat.le_of_ble_eq_true rfl) (by show 0 + n ≤ n; omega) dX6_init_10 (fun q1 H hw => ?_)
  have hw : Wd g A s [(h, .inr (5, [.null, .int 0])), (q1, .inl (g.2.1, n, .inl (fun _ => 0)))] H _ := hw
  refine hI.putF hin hw fp_X6_13 rfl rfl 0 rfl rfl rfl (Nat.le_of_ble_eq_true rfl) dX6_init_12 (fun H locs hw => ?_)
  have hw : Wd g A s [(h, .inr (5, [.ref q1, .int 0])), (q1, .inl (g.2.1, n, .inl (fun _ => 0)))] H locs := hw
  exact hI.retN (S := Nat) (wl := fun u => [(h, .inr (5, [.ref u, .int 0])), (u, .inl (g.2.1, n, .inl (fun _ => 0)))]) q1 hw (Nat.le_of_ble_eq_true rfl) (by show 0 + n ≤ n; omega) dX6_init_15
set_option maxHeartbeats 4000000 in
set_option maxRecDepth 100000 in
theorem n_X7_init (l : Launch) (g : GG) (h : Nat)  : CN (S := (Nat × Nat)) l g yX7_init cX7_init 1 (rmC 2 2 5002) 2 5002 [.ref h] [(h, .inr (6, [.null, .long 0]))] (fun u => [(h, .inr (6, [.ref u.1, .long 0])), (u.1, .inr (5, [.ref u.2, .int 0])), (u.2, .inl (g.2.1, 5000, .inl (fun _ => 0)))]) := by
  refine CN.mk (by decide) rfl (Nat.le_of_ble_eq_true rfl) ?_
  intro p e s m below meth c A ls hI hin hw hl
  have hx := hI.1
  have hb := hI.2.1
  have hl : lv_has ls 1 [(0, .ref h)] := hl
  refine lv_aload_n hx hb dX7_init_0 rfl (lv_at hl 0 rfl) ?_
  refine hI.objInit ml_X7_3 mi_objectInit mc_objectInit hl.1 dX7_init_1 (Nat.le_of_ble_eq_true rfl) (Nat.le_of_ble_eq_true rfl) ?_
  refine lv_aload_n hx hb dX7_init_4 rfl (lv_at hl 0 rfl) ?_
  refine hI.new (fs := [.null, .int 0]) (ty := tyX6) hw mlay_X6 tyX6_ok mcl_X7_9 minst_X6 mini_X6 (ci := 5) rfl (fun j hj => by rcases (show j = 0 ∨ j = 1 by omega) with rfl | rfl <;> rfl) (Nat.le_of_ble_eq_true rfl) (Nat.le_of_ble_eq_true rfl) dX7_init_5 (fun q1 H hw => ?_)
  have hw : Wd g A s [(h, .inr (6, [.null, .long 0])), (q1, .inr (5, [.null, .int 0]))] H _ := hw
  refine lv_dup hx hb dX7_init_8 rfl ?_
  refine lv_sipush (v := (5000 : Int32)) hx hb dX7_init_9 (by decide) ?_
  refine hI.callN (As := [.int (5000 : Int32)]) (rest := [.ref q1, .ref h]) hw (n_X6_init l g q1 5000 (by decide)) ok_yX6_init ml_X7_11 ⟨rfl, rfl, by decide, by decide⟩ [1] [0] rfl rfl (wr := [(h, .inr (6, [.null, .long 0]))]) rfl rfl rfl rfl hl.1 (Nat.le_of_ble_eq_true rfl) dX7_init_12 ⟨Nat.le_of_ble_eq_true rfl, Nat.le_of_ble_eq_true rfl⟩ (fun u2 H locs hw => ?_)
  have hw : Wd g A s [(h, .inr (6, [.null, .long 0])), (q1, .inr (5, [.ref u2, .int 0])), (u2, .inl (g.2.1, 5000, .inl (fun _ => 0)))] H locs := hw
  refine hI.putF hin hw fp_X7_14 rfl rfl 0 rfl rfl rfl (Nat.le_of_ble_eq_true rfl) dX7_init_15 (fun H locs hw => ?_)
  have hw : Wd g A s [(h, .inr (6, [.ref q1, .long 0])), (q1, .inr (5, [.ref u2, .int 0])), (u2, .inl (g.2.1, 5000, .inl (fun _ => 0)))] H locs := hw
  exact hI.retN (S := (Nat × Nat)) (wl := fun u => [(h, .inr (6, [.ref u.1, .long 0])), (u.1, .inr (5, [.ref u.2, .int 0])), (u.2, .inl (g.2.1, 5000, .inl (fun _ => 0)))]) (q1, u2) hw (Nat.le_of_ble_eq_true rfl) (Nat.le_of_ble_eq_true rfl) dX7_init_18
set_option maxHeartbeats 4000000 in
set_option maxRecDepth 100000 in
theorem n_X5_init (l : Launch) (g : GG) (h : Nat)  : CN (S := (((Nat × Nat) × Nat) × (Nat × Nat))) l g yX5_init cX5_init 1 (rmC 1 5 92) 5 92 [.ref h] [(h, .inr (4, [.null, .null, .null, .null, .null]))] (fun u => [(h, .inr (4, [.ref u.1.1.1, .ref u.1.1.2, .ref u.1.2, .ref u.2.1, .ref u.2.2])), (u.1.1.1, .inl (g.2.1, 10, .inl (fun _ => 0))), (u.1.1.2, .inl (g.2.2, 10, .inl (fun _ => 0))), (u.1.2, .inl (g.2.1, 64, .inl (fun _ => 0))), (u.2.1, .inl (g.2.1, 4, .inl (f_J7_fill_53178 4 (fun _ => 0) (4 : Int32)))), (u.2.2, .inl (g.2.2, 4, .inl (fun _ => 0)))]) := by
  refine CN.mk (by decide) rfl (Nat.le_of_ble_eq_true rfl) ?_
  intro p e s m below meth c A ls hI hin hw hl
  have hx := hI.1
  have hb := hI.2.1
  have hl : lv_has ls 1 [(0, .ref h)] := hl
  refine lv_aload_n hx hb dX5_init_0 rfl (lv_at hl 0 rfl) ?_
  refine hI.objInit ml_X5_3 mi_objectInit mc_objectInit hl.1 dX5_init_1 (Nat.le_of_ble_eq_true rfl) (Nat.le_of_ble_eq_true rfl) ?_
  refine lv_aload_n hx hb dX5_init_4 rfl (lv_at hl 0 rfl) ?_
  refine lv_bipush (v := (10 : Int32)) hx hb dX5_init_5 (by decide) ?_
  refine hI.newI (N := 10) hw marr_int (by decide) rfl (Nat.le_of_ble_eq_true rfl) (Nat.le_of_ble_eq_true rfl) (Nat.le_of_ble_eq_true rfl) dX5_init_7 (fun q1 H hw => ?_)
  have hw : Wd g A s [(h, .inr (4, [.null, .null, .null, .null, .null])), (q1, .inl (g.2.1, 10, .inl (fun _ => 0)))] H _ := hw
  refine hI.putF hin hw fp_X5_9 rfl rfl 0 rfl rfl rfl (Nat.le_of_ble_eq_true rfl) dX5_init_9 (fun H locs hw => ?_)
  have hw : Wd g A s [(h, .inr (4, [.ref q1, .null, .null, .null, .null])), (q1, .inl (g.2.1, 10, .inl (fun _ => 0)))] H locs := hw
  refine lv_aload_n hx hb dX5_init_12 rfl (lv_at hl 0 rfl) ?_
  refine lv_bipush (v := (10 : Int32)) hx hb dX5_init_13 (by decide) ?_
  refine hI.newZ (N := 10) hw marr_boolean (by decide) rfl (Nat.le_of_ble_eq_true rfl) (Nat.le_of_ble_eq_true rfl) (Nat.le_of_ble_eq_true rfl) dX5_init_15 (fun q2 H hw => ?_)
  have hw : Wd g A s [(h, .inr (4, [.ref q1, .null, .null, .null, .null])), (q1, .inl (g.2.1, 10, .inl (fun _ => 0))), (q2, .inl (g.2.2, 10, .inl (fun _ => 0)))] H _ := hw
  refine hI.putF hin hw fp_X5_15 rfl rfl 0 rfl rfl rfl (Nat.le_of_ble_eq_true rfl) dX5_init_17 (fun H locs hw => ?_)
  have hw : Wd g A s [(h, .inr (4, [.ref q1, .ref q2, .null, .null, .null])), (q1, .inl (g.2.1, 10, .inl (fun _ => 0))), (q2, .inl (g.2.2, 10, .inl (fun _ => 0)))] H locs := hw
  refine lv_aload_n hx hb dX5_init_20 rfl (lv_at hl 0 rfl) ?_
  refine lv_bipush (v := (64 : Int32)) hx hb dX5_init_21 (by decide) ?_
  refine hI.newI (N := 64) hw marr_int (by decide) rfl (Nat.le_of_ble_eq_true rfl) (Nat.le_of_ble_eq_true rfl) (Nat.le_of_ble_eq_true rfl) dX5_init_23 (fun q3 H hw => ?_)
  have hw : Wd g A s [(h, .inr (4, [.ref q1, .ref q2, .null, .null, .null])), (q1, .inl (g.2.1, 10, .inl (fun _ => 0))), (q2, .inl (g.2.2, 10, .inl (fun _ => 0))), (q3, .inl (g.2.1, 64, .inl (fun _ => 0)))] H _ := hw
  refine hI.putF hin hw fp_X5_19 rfl rfl 0 rfl rfl rfl (Nat.le_of_ble_eq_true rfl) dX5_init_25 (fun H locs hw => ?_)
  have hw : Wd g A s [(h, .inr (4, [.ref q1, .ref q2, .ref q3, .null, .null])), (q1, .inl (g.2.1, 10, .inl (fun _ => 0))), (q2, .inl (g.2.2, 10, .inl (fun _ => 0))), (q3, .inl (g.2.1, 64, .inl (fun _ => 0)))] H locs := hw
  refine lv_aload_n hx hb dX5_init_28 rfl (lv_at hl 0 rfl) ?_
  refine lv_iconst (v := (4 : Int32)) hx hb dX5_init_29 (by decide) ?_
  refine hI.newI (N := 4) hw marr_int (by decide) rfl (Nat.le_of_ble_eq_true rfl) (Nat.le_of_ble_eq_true rfl) (Nat.le_of_ble_eq_true rfl) dX5_init_30 (fun q4 H hw => ?_)
  have hw : Wd g A s [(h, .inr (4, [.ref q1, .ref q2, .ref q3, .null, .null])), (q1, .inl (g.2.1, 10, .inl (fun _ => 0))), (q2, .inl (g.2.2, 10, .inl (fun _ => 0))), (q3, .inl (g.2.1, 64, .inl (fun _ => 0))), (q4, .inl (g.2.1, 4, .inl (fun _ => 0)))] H _ := hw
  refine hI.putF hin hw fp_X5_22 rfl rfl 0 rfl rfl rfl (Nat.le_of_ble_eq_true rfl) dX5_init_32 (fun H locs hw => ?_)
  have hw : Wd g A s [(h, .inr (4, [.ref q1, .ref q2, .ref q3, .ref q4, .null])), (q1, .inl (g.2.1, 10, .inl (fun _ => 0))), (q2, .inl (g.2.2, 10, .inl (fun _ => 0))), (q3, .inl (g.2.1, 64, .inl (fun _ => 0))), (q4, .inl (g.2.1, 4, .inl (fun _ => 0)))] H locs := hw
  refine lv_aload_n hx hb dX5_init_35 rfl (lv_at hl 0 rfl) ?_
  refine lv_iconst (v := (4 : Int32)) hx hb dX5_init_36 (by decide) ?_
  refine hI.newZ (N := 4) hw marr_boolean (by decide) rfl (Nat.le_of_ble_eq_true rfl) (Nat.le_of_ble_eq_true rfl) (Nat.le_of_ble_eq_true rfl) dX5_init_37 (fun q5 H hw => ?_)
  have hw : Wd g A s [(h, .inr (4, [.ref q1, .ref q2, .ref q3, .ref q4, .null])), (q1, .inl (g.2.1, 10, .inl (fun _ => 0))), (q2, .inl (g.2.2, 10, .inl (fun _ => 0))), (q3, .inl (g.2.1, 64, .inl (fun _ => 0))), (q4, .inl (g.2.1, 4, .inl (fun _ => 0))), (q5, .inl (g.2.2, 4, .inl (fun _ => 0)))] H _ := hw
  refine hI.putF hin hw fp_X5_25 rfl rfl 0 rfl rfl rfl (Nat.le_of_ble_eq_true rfl) dX5_init_39 (fun H locs hw => ?_)
  have hw : Wd g A s [(h, .inr (4, [.ref q1, .ref q2, .ref q3, .ref q4, .ref q5])), (q1, .inl (g.2.1, 10, .inl (fun _ => 0))), (q2, .inl (g.2.2, 10, .inl (fun _ => 0))), (q3, .inl (g.2.1, 64, .inl (fun _ => 0))), (q4, .inl (g.2.1, 4, .inl (fun _ => 0))), (q5, .inl (g.2.2, 4, .inl (fun _ => 0)))] H locs := hw
  refine lv_aload_n hx hb dX5_init_42 rfl (lv_at hl 0 rfl) ?_
  refine hI.get (v := .ref q4) hw fg_X5_22 0 rfl rfl dX5_init_43 ?_
  refine lv_iconst (v := (4 : Int32)) hx hb dX5_init_46 (by decide) ?_
  refine hI.callSV (wl := w_IArr q4 4 g) (a := (fun _ => 0)) (wr := [(h, .inr (4, [.ref q1, .ref q2, .ref q3, .ref q4, .ref q5])), (q1, .inl (g.2.1, 10, .inl (fun _ => 0))), (q2, .inl (g.2.2, 10, .inl (fun _ => 0))), (q3, .inl (g.2.1, 64, .inl (fun _ => 0))), (q5, .inl (g.2.2, 4, .inl (fun _ => 0)))]) (ws1 := [(h, .inr (4, [.ref q1, .ref q2, .ref q3, .ref q4, .ref q5])), (q1, .inl (g.2.1, 10, .inl (fun _ => 0))), (q2, .inl (g.2.2, 10, .inl (fun _ => 0))), (q3, .inl (g.2.1, 64, .inl (fun _ => 0))), (q4, .inl (g.2.1, 4, .inl (f_J7_fill_53178 4 (fun _ => 0) (4 : Int32)))), (q5, .inl (g.2.2, 4, .inl (fun _ => 0)))]) (r := rb_J7_fill_53178 (fun _ => 0) (f_J7_fill_53178 4 (fun _ => 0) (4 : Int32))) (As := [.ref q4, .int (4 : Int32)]) (rest := []) hw (c_J7_fill_53178 l g q4 4 (fun _ => 0) (4 : Int32) (by decide)) ok_yJ7_fill_53178 ml_X5_28 (rm_okC (by decide) (by decide)) [4] [0, 1, 2, 3, 5] [0, 1, 2, 3, 5, 4] rfl rfl rfl rfl rfl rfl rfl hl.1 (Nat.le_of_ble_eq_true rfl) dX5_init_47 ⟨Nat.le_of_ble_eq_true rfl, Nat.le_of_ble_eq_true rfl⟩ (fun H locs hw => ?_)
  have hw : Wd g A s [(h, .inr (4, [.ref q1, .ref q2, .ref q3, .ref q4, .ref q5])), (q1, .inl (g.2.1, 10, .inl (fun _ => 0))), (q2, .inl (g.2.2, 10, .inl (fun _ => 0))), (q3, .inl (g.2.1, 64, .inl (fun _ => 0))), (q4, .inl (g.2.1, 4, .inl (f_J7_fill_53178 4 (fun _ => 0) (4 : Int32)))), (q5, .inl (g.2.2, 4, .inl (fun _ => 0)))] H locs := hw
  exact hI.retN (S := (((Nat × Nat) × Nat) × (Nat × Nat))) (wl := fun u => [(h, .inr (4, [.ref u.1.1.1, .ref u.1.1.2, .ref u.1.2, .ref u.2.1, .ref u.2.2])), (u.1.1.1, .inl (g.2.1, 10, .inl (fun _ => 0))), (u.1.1.2, .inl (g.2.2, 10, .inl (fun _ => 0))), (u.1.2, .inl (g.2.1, 64, .inl (fun _ => 0))), (u.2.1, .inl (g.2.1, 4, .inl (f_J7_fill_53178 4 (fun _ => 0) (4 : Int32)))), (u.2.2, .inl (g.2.2, 4, .inl (fun _ => 0)))]) (((q1, q2), q3), (q4, q5)) hw (Nat.le_of_ble_eq_true rfl) (Nat.le_of_ble_eq_true rfl) dX5_init_50
set_option maxHeartbeats 4000000 in
set_option maxRecDepth 100000 in
theorem n_X2_init (l : Launch) (g : GG) (h : Nat)  : CN (S := ((Nat × Nat) × (Nat × Nat))) l g yX2_init cX2_init 1 (rmC 1 4 1600) 4 1600 [.ref h] [(h, .inr (2, [.null, .null, .null, .null, .int 0]))] (fun u => [(h, .inr (2, [.ref u.1.1, .ref u.1.2, .ref u.2.1, .ref u.2.2, .int 0])), (u.1.1, .inl (g.2.1, 400, .inl (fun _ => 0))), (u.1.2, .inl (g.2.1, 400, .inl (fun _ => 0))), (u.2.1, .inl (g.2.1, 400, .inl (fun _ => 0))), (u.2.2, .inl (g.2.2, 400, .inl (fun _ => 0)))]) := by
  refine CN.mk (by decide) rfl (Nat.le_of_ble_eq_true rfl) ?_
  intro p e s m below meth c A ls hI hin hw hl
  have hx := hI.1
  have hb := hI.2.1
  have hl : lv_has ls 1 [(0, .ref h)] := hl
  refine lv_aload_n hx hb dX2_init_0 rfl (lv_at hl 0 rfl) ?_
  refine hI.objInit ml_X2_3 mi_objectInit mc_objectInit hl.1 dX2_init_1 (Nat.le_of_ble_eq_true rfl) (Nat.le_of_ble_eq_true rfl) ?_
  refine lv_aload_n hx hb dX2_init_4 rfl (lv_at hl 0 rfl) ?_
  refine lv_sipush (v := (400 : Int32)) hx hb dX2_init_5 (by decide) ?_
  refine hI.newI (N := 400) hw marr_int (by decide) rfl (Nat.le_of_ble_eq_true rfl) (Nat.le_of_ble_eq_true rfl) (Nat.le_of_ble_eq_true rfl) dX2_init_8 (fun q1 H hw => ?_)
  have hw : Wd g A s [(h, .inr (2, [.null, .null, .null, .null, .int 0])), (q1, .inl (g.2.1, 400, .inl (fun _ => 0)))] H _ := hw
  refine hI.putF hin hw fp_X2_9 rfl rfl 0 rfl rfl rfl (Nat.le_of_ble_eq_true rfl) dX2_init_10 (fun H locs hw => ?_)
  have hw : Wd g A s [(h, .inr (2, [.ref q1, .null, .null, .null, .int 0])), (q1, .inl (g.2.1, 400, .inl (fun _ => 0)))] H locs := hw
  refine lv_aload_n hx hb dX2_init_13 rfl (lv_at hl 0 rfl) ?_
  refine lv_sipush (v := (400 : Int32)) hx hb dX2_init_14 (by decide) ?_
  refine hI.newI (N := 400) hw marr_int (by decide) rfl (Nat.le_of_ble_eq_true rfl) (Nat.le_of_ble_eq_true rfl) (Nat.le_of_ble_eq_true rfl) dX2_init_17 (fun q2 H hw => ?_)
  have hw : Wd g A s [(h, .inr (2, [.ref q1, .null, .null, .null, .int 0])), (q1, .inl (g.2.1, 400, .inl (fun _ => 0))), (q2, .inl (g.2.1, 400, .inl (fun _ => 0)))] H _ := hw
  refine hI.putF hin hw fp_X2_15 rfl rfl 0 rfl rfl rfl (Nat.le_of_ble_eq_true rfl) dX2_init_19 (fun H locs hw => ?_)
  have hw : Wd g A s [(h, .inr (2, [.ref q1, .ref q2, .null, .null, .int 0])), (q1, .inl (g.2.1, 400, .inl (fun _ => 0))), (q2, .inl (g.2.1, 400, .inl (fun _ => 0)))] H locs := hw
  refine lv_aload_n hx hb dX2_init_22 rfl (lv_at hl 0 rfl) ?_
  refine lv_sipush (v := (400 : Int32)) hx hb dX2_init_23 (by decide) ?_
  refine hI.newI (N := 400) hw marr_int (by decide) rfl (Nat.le_of_ble_eq_true rfl) (Nat.le_of_ble_eq_true rfl) (Nat.le_of_ble_eq_true rfl) dX2_init_26 (fun q3 H hw => ?_)
  have hw : Wd g A s [(h, .inr (2, [.ref q1, .ref q2, .null, .null, .int 0])), (q1, .inl (g.2.1, 400, .inl (fun _ => 0))), (q2, .inl (g.2.1, 400, .inl (fun _ => 0))), (q3, .inl (g.2.1, 400, .inl (fun _ => 0)))] H _ := hw
  refine hI.putF hin hw fp_X2_18 rfl rfl 0 rfl rfl rfl (Nat.le_of_ble_eq_true rfl) dX2_init_28 (fun H locs hw => ?_)
  have hw : Wd g A s [(h, .inr (2, [.ref q1, .ref q2, .ref q3, .null, .int 0])), (q1, .inl (g.2.1, 400, .inl (fun _ => 0))), (q2, .inl (g.2.1, 400, .inl (fun _ => 0))), (q3, .inl (g.2.1, 400, .inl (fun _ => 0)))] H locs := hw
  refine lv_aload_n hx hb dX2_init_31 rfl (lv_at hl 0 rfl) ?_
  refine lv_sipush (v := (400 : Int32)) hx hb dX2_init_32 (by decide) ?_
  refine hI.newZ (N := 400) hw marr_boolean (by decide) rfl (Nat.le_of_ble_eq_true rfl) (Nat.le_of_ble_eq_true rfl) (Nat.le_of_ble_eq_true rfl) dX2_init_35 (fun q4 H hw => ?_)
  have hw : Wd g A s [(h, .inr (2, [.ref q1, .ref q2, .ref q3, .null, .int 0])), (q1, .inl (g.2.1, 400, .inl (fun _ => 0))), (q2, .inl (g.2.1, 400, .inl (fun _ => 0))), (q3, .inl (g.2.1, 400, .inl (fun _ => 0))), (q4, .inl (g.2.2, 400, .inl (fun _ => 0)))] H _ := hw
  refine hI.putF hin hw fp_X2_21 rfl rfl 0 rfl rfl rfl (Nat.le_of_ble_eq_true rfl) dX2_init_37 (fun H locs hw => ?_)
  have hw : Wd g A s [(h, .inr (2, [.ref q1, .ref q2, .ref q3, .ref q4, .int 0])), (q1, .inl (g.2.1, 400, .inl (fun _ => 0))), (q2, .inl (g.2.1, 400, .inl (fun _ => 0))), (q3, .inl (g.2.1, 400, .inl (fun _ => 0))), (q4, .inl (g.2.2, 400, .inl (fun _ => 0)))] H locs := hw
  exact hI.retN (S := ((Nat × Nat) × (Nat × Nat))) (wl := fun u => [(h, .inr (2, [.ref u.1.1, .ref u.1.2, .ref u.2.1, .ref u.2.2, .int 0])), (u.1.1, .inl (g.2.1, 400, .inl (fun _ => 0))), (u.1.2, .inl (g.2.1, 400, .inl (fun _ => 0))), (u.2.1, .inl (g.2.1, 400, .inl (fun _ => 0))), (u.2.2, .inl (g.2.2, 400, .inl (fun _ => 0)))]) ((q1, q2), (q3, q4)) hw (Nat.le_of_ble_eq_true rfl) (Nat.le_of_ble_eq_true rfl) dX2_init_40
set_option maxHeartbeats 4000000 in
set_option maxRecDepth 100000 in
theorem n_X3_init (l : Launch) (g : GG) (h : Nat)  (r1 : Nat) (r2 : Nat) : CN (S := Unit) l g yX3_init cX3_init 3 (rmC 1 0 0) 0 0 [.ref h, .ref r1, .ref r2] [(h, .inr (3, [.null, .null, .int 0, .int 0, .int 0]))] (fun u => [(h, .inr (3, [.ref r1, .ref r2, .int 0, .int 0, .int (-1 : Int32)]))]) := by
  refine CN.mk (by decide) rfl (Nat.le_of_ble_eq_true rfl) ?_
  intro p e s m below meth c A ls hI hin hw hl
  have hx := hI.1
  have hb := hI.2.1
  have hl : lv_has ls 3 [(0, .ref h), (1, .ref r1), (2, .ref r2)] := hl
  refine lv_aload_n hx hb dX3_init_0 rfl (lv_at hl 0 rfl) ?_
  refine hI.objInit ml_X3_3 mi_objectInit mc_objectInit hl.1 dX3_init_1 (Nat.le_of_ble_eq_true rfl) (Nat.le_of_ble_eq_true rfl) ?_
  refine lv_aload_n hx hb dX3_init_4 rfl (lv_at hl 0 rfl) ?_
  refine lv_aload_n hx hb dX3_init_5 rfl (lv_at hl 1 rfl) ?_
  refine hI.putF hin hw fp_X3_9 rfl rfl 0 rfl rfl rfl (Nat.le_of_ble_eq_true rfl) dX3_init_6 (fun H locs hw => ?_)
  have hw : Wd g A s [(h, .inr (3, [.ref r1, .null, .int 0, .int 0, .int 0]))] H locs := hw
  refine lv_aload_n hx hb dX3_init_9 rfl (lv_at hl 0 rfl) ?_
  refine lv_aload_n hx hb dX3_init_10 rfl (lv_at hl 2 rfl) ?_
  refine hI.putF hin hw fp_X3_15 rfl rfl 0 rfl rfl rfl (Nat.le_of_ble_eq_true rfl) dX3_init_11 (fun H locs hw => ?_)
  have hw : Wd g A s [(h, .inr (3, [.ref r1, .ref r2, .int 0, .int 0, .int 0]))] H locs := hw
  refine lv_aload_n hx hb dX3_init_14 rfl (lv_at hl 0 rfl) ?_
  refine lv_iconst (v := (-1 : Int32)) hx hb dX3_init_15 (by decide) ?_
  refine hI.put hw fp_X3_19 rfl 0 rfl rfl rfl (Nat.le_of_ble_eq_true rfl) dX3_init_16 (fun H locs hw => ?_)
  have hw : Wd g A s [(h, .inr (3, [.ref r1, .ref r2, .int 0, .int 0, .int (-1 : Int32)]))] H locs := hw
  exact hI.retN (S := Unit) (wl := fun u => [(h, .inr (3, [.ref r1, .ref r2, .int 0, .int 0, .int (-1 : Int32)]))]) () hw (Nat.le_of_ble_eq_true rfl) (Nat.le_of_ble_eq_true rfl) dX3_init_19
set_option maxHeartbeats 4000000 in
set_option maxRecDepth 100000 in
theorem n_X0_init (l : Launch) (g : GG) (h : Nat)  (r1 : Nat) (r2 : Nat) : CN (S := Unit) l g yX0_init cX0_init 3 (rmC 1 0 0) 0 0 [.ref h, .ref r1, .ref r2] [(h, .inr (0, [.null, .null]))] (fun u => [(h, .inr (0, [.ref r1, .ref r2]))]) := by
  refine CN.mk (by decide) rfl (Nat.le_of_ble_eq_true rfl) ?_
  intro p e s m below meth c A ls hI hin hw hl
  have hx := hI.1
  have hb := hI.2.1
  have hl : lv_has ls 3 [(0, .ref h), (1, .ref r1), (2, .ref r2)] := hl
  refine lv_aload_n hx hb dX0_init_0 rfl (lv_at hl 0 rfl) ?_
  refine hI.objInit ml_X0_3 mi_objectInit mc_objectInit hl.1 dX0_init_1 (Nat.le_of_ble_eq_true rfl) (Nat.le_of_ble_eq_true rfl) ?_
  refine lv_aload_n hx hb dX0_init_4 rfl (lv_at hl 0 rfl) ?_
  refine lv_aload_n hx hb dX0_init_5 rfl (lv_at hl 1 rfl) ?_
  refine hI.putF hin hw fp_X0_9 rfl rfl 0 rfl rfl rfl (Nat.le_of_ble_eq_true rfl) dX0_init_6 (fun H locs hw => ?_)
  have hw : Wd g A s [(h, .inr (0, [.ref r1, .null]))] H locs := hw
  refine lv_aload_n hx hb dX0_init_9 rfl (lv_at hl 0 rfl) ?_
  refine lv_aload_n hx hb dX0_init_10 rfl (lv_at hl 2 rfl) ?_
  refine hI.putF hin hw fp_X0_15 rfl rfl 0 rfl rfl rfl (Nat.le_of_ble_eq_true rfl) dX0_init_11 (fun H locs hw => ?_)
  have hw : Wd g A s [(h, .inr (0, [.ref r1, .ref r2]))] H locs := hw
  exact hI.retN (S := Unit) (wl := fun u => [(h, .inr (0, [.ref r1, .ref r2]))]) () hw (Nat.le_of_ble_eq_true rfl) (Nat.le_of_ble_eq_true rfl) dX0_init_14
set_option maxHeartbeats 4000000 in
set_option maxRecDepth 100000 in
theorem n_X1_init (l : Launch) (g : GG) (h : Nat)  (r1 : Nat) (r2 : Nat) (r3 : Nat) (r4 : Nat) : CN (S := ((Nat × Nat) × Nat)) l g yX1_init cX1_init 5 (rmC 1 3 89) 3 89 [.ref h, .ref r1, .ref r2, .ref r3, .ref r4] [(h, .inr (1, [.null, .null, .null, .null, .null, .null, .null, .int 0, .int 0]))] (fun u => [(h, .inr (1, [.ref r1, .ref r2, .ref r3, .ref r4, .ref u.1.1, .ref u.1.2, .ref u.2, .int 0, .int 0])), (u.1.1, .inl (g.2.1, 64, .inl (fun _ => 0))), (u.1.2, .inl (g.2.1, 13, .inl (upd (fun _ => 0) (0 : Int32).toNatClampNeg (-1 : Int32)))), (u.2, .inl (g.2.1, 12, .inl (fun _ => 0)))]) := by
  refine CN.mk (by decide) rfl (Nat.le_of_ble_eq_true rfl) ?_
  intro p e s m below meth c A ls hI hin hw hl
  have hx := hI.1
  have hb := hI.2.1
  have hl : lv_has ls 5 [(0, .ref h), (1, .ref r1), (2, .ref r2), (3, .ref r3), (4, .ref r4)] := hl
  refine lv_aload_n hx hb dX1_init_0 rfl (lv_at hl 0 rfl) ?_
  refine hI.objInit ml_X1_3 mi_objectInit mc_objectInit hl.1 dX1_init_1 (Nat.le_of_ble_eq_true rfl) (Nat.le_of_ble_eq_true rfl) ?_
  refine lv_aload_n hx hb dX1_init_4 rfl (lv_at hl 0 rfl) ?_
  refine lv_aload_n hx hb dX1_init_5 rfl (lv_at hl 1 rfl) ?_
  refine hI.putF hin hw fp_X1_9 rfl rfl 0 rfl rfl rfl (Nat.le_of_ble_eq_true rfl) dX1_init_6 (fun H locs hw => ?_)
  have hw : Wd g A s [(h, .inr (1, [.ref r1, .null, .null, .null, .null, .null, .null, .int 0, .int 0]))] H locs := hw
  refine lv_aload_n hx hb dX1_init_9 rfl (lv_at hl 0 rfl) ?_
  refine lv_aload_n hx hb dX1_init_10 rfl (lv_at hl 2 rfl) ?_
  refine hI.putF hin hw fp_X1_15 rfl rfl 0 rfl rfl rfl (Nat.le_of_ble_eq_true rfl) dX1_init_11 (fun H locs hw => ?_)
  have hw : Wd g A s [(h, .inr (1, [.ref r1, .ref r2, .null, .null, .null, .null, .null, .int 0, .int 0]))] H locs := hw
  refine lv_aload_n hx hb dX1_init_14 rfl (lv_at hl 0 rfl) ?_
  refine lv_aload_n hx hb dX1_init_15 rfl (lv_at hl 3 rfl) ?_
  refine hI.putF hin hw fp_X1_19 rfl rfl 0 rfl rfl rfl (Nat.le_of_ble_eq_true rfl) dX1_init_16 (fun H locs hw => ?_)
  have hw : Wd g A s [(h, .inr (1, [.ref r1, .ref r2, .ref r3, .null, .null, .null, .null, .int 0, .int 0]))] H locs := hw
  refine lv_aload_n hx hb dX1_init_19 rfl (lv_at hl 0 rfl) ?_
  refine lv_aload hx hb dX1_init_20 (lv_at hl 4 rfl) ?_
  refine hI.putF hin hw fp_X1_22 rfl rfl 0 rfl rfl rfl (Nat.le_of_ble_eq_true rfl) dX1_init_22 (fun H locs hw => ?_)
  have hw : Wd g A s [(h, .inr (1, [.ref r1, .ref r2, .ref r3, .ref r4, .null, .null, .null, .int 0, .int 0]))] H locs := hw
  refine lv_aload_n hx hb dX1_init_25 rfl (lv_at hl 0 rfl) ?_
  refine lv_bipush (v := (64 : Int32)) hx hb dX1_init_26 (by decide) ?_
  refine hI.newI (N := 64) hw marr_int (by decide) rfl (Nat.le_of_ble_eq_true rfl) (Nat.le_of_ble_eq_true rfl) (Nat.le_of_ble_eq_true rfl) dX1_init_28 (fun q1 H hw => ?_)
  have hw : Wd g A s [(h, .inr (1, [.ref r1, .ref r2, .ref r3, .ref r4, .null, .null, .null, .int 0, .int 0])), (q1, .inl (g.2.1, 64, .inl (fun _ => 0)))] H _ := hw
  refine hI.putF hin hw fp_X1_26 rfl rfl 0 rfl rfl rfl (Nat.le_of_ble_eq_true rfl) dX1_init_30 (fun H locs hw => ?_)
  have hw : Wd g A s [(h, .inr (1, [.ref r1, .ref r2, .ref r3, .ref r4, .ref q1, .null, .null, .int 0, .int 0])), (q1, .inl (g.2.1, 64, .inl (fun _ => 0)))] H locs := hw
  refine lv_aload_n hx hb dX1_init_33 rfl (lv_at hl 0 rfl) ?_
  refine lv_bipush (v := (13 : Int32)) hx hb dX1_init_34 (by decide) ?_
  refine hI.newI (N := 13) hw marr_int (by decide) rfl (Nat.le_of_ble_eq_true rfl) (Nat.le_of_ble_eq_true rfl) (Nat.le_of_ble_eq_true rfl) dX1_init_36 (fun q2 H hw => ?_)
  have hw : Wd g A s [(h, .inr (1, [.ref r1, .ref r2, .ref r3, .ref r4, .ref q1, .null, .null, .int 0, .int 0])), (q1, .inl (g.2.1, 64, .inl (fun _ => 0))), (q2, .inl (g.2.1, 13, .inl (fun _ => 0)))] H _ := hw
  refine hI.putF hin hw fp_X1_30 rfl rfl 0 rfl rfl rfl (Nat.le_of_ble_eq_true rfl) dX1_init_38 (fun H locs hw => ?_)
  have hw : Wd g A s [(h, .inr (1, [.ref r1, .ref r2, .ref r3, .ref r4, .ref q1, .ref q2, .null, .int 0, .int 0])), (q1, .inl (g.2.1, 64, .inl (fun _ => 0))), (q2, .inl (g.2.1, 13, .inl (fun _ => 0)))] H locs := hw
  refine lv_aload_n hx hb dX1_init_41 rfl (lv_at hl 0 rfl) ?_
  refine lv_bipush (v := (12 : Int32)) hx hb dX1_init_42 (by decide) ?_
  refine hI.newI (N := 12) hw marr_int (by decide) rfl (Nat.le_of_ble_eq_true rfl) (Nat.le_of_ble_eq_true rfl) (Nat.le_of_ble_eq_true rfl) dX1_init_44 (fun q3 H hw => ?_)
  have hw : Wd g A s [(h, .inr (1, [.ref r1, .ref r2, .ref r3, .ref r4, .ref q1, .ref q2, .null, .int 0, .int 0])), (q1, .inl (g.2.1, 64, .inl (fun _ => 0))), (q2, .inl (g.2.1, 13, .inl (fun _ => 0))), (q3, .inl (g.2.1, 12, .inl (fun _ => 0)))] H _ := hw
  refine hI.putF hin hw fp_X1_33 rfl rfl 0 rfl rfl rfl (Nat.le_of_ble_eq_true rfl) dX1_init_46 (fun H locs hw => ?_)
  have hw : Wd g A s [(h, .inr (1, [.ref r1, .ref r2, .ref r3, .ref r4, .ref q1, .ref q2, .ref q3, .int 0, .int 0])), (q1, .inl (g.2.1, 64, .inl (fun _ => 0))), (q2, .inl (g.2.1, 13, .inl (fun _ => 0))), (q3, .inl (g.2.1, 12, .inl (fun _ => 0)))] H locs := hw
  refine lv_aload_n hx hb dX1_init_49 rfl (lv_at hl 0 rfl) ?_
  refine hI.get (v := .ref q2) hw fg_X1_30 0 rfl rfl dX1_init_50 ?_
  refine lv_iconst (v := (0 : Int32)) hx hb dX1_init_53 (by decide) ?_
  refine lv_iconst (v := (-1 : Int32)) hx hb dX1_init_54 (by decide) ?_
  refine hI.iast hw 2 rfl (show vp_in (nI 0) 13 from vp_in_nI (by decide) (by decide)) dX1_init_55 (fun H locs hw => ?_)
  have hw : Wd g A s [(h, .inr (1, [.ref r1, .ref r2, .ref r3, .ref r4, .ref q1, .ref q2, .ref q3, .int 0, .int 0])), (q1, .inl (g.2.1, 64, .inl (fun _ => 0))), (q2, .inl (g.2.1, 13, .inl (upd (fun _ => 0) (0 : Int32).toNatClampNeg (-1 : Int32)))), (q3, .inl (g.2.1, 12, .inl (fun _ => 0)))] H locs := hw
  exact hI.retN (S := ((Nat × Nat) × Nat)) (wl := fun u => [(h, .inr (1, [.ref r1, .ref r2, .ref r3, .ref r4, .ref u.1.1, .ref u.1.2, .ref u.2, .int 0, .int 0])), (u.1.1, .inl (g.2.1, 64, .inl (fun _ => 0))), (u.1.2, .inl (g.2.1, 13, .inl (upd (fun _ => 0) (0 : Int32).toNatClampNeg (-1 : Int32)))), (u.2, .inl (g.2.1, 12, .inl (fun _ => 0)))]) ((q1, q2), q3) hw (Nat.le_of_ble_eq_true rfl) (Nat.le_of_ble_eq_true rfl) dX1_init_56
set_option maxHeartbeats 4000000 in
set_option maxRecDepth 100000 in
theorem n_X8_init (l : Launch) (g : GG) (h : Nat)  (r1 : Nat) (r2 : Nat) (r3 : Nat) : CN (S := Unit) l g yX8_init cX8_init 4 (rmC 1 0 0) 0 0 [.ref h, .ref r1, .ref r2, .ref r3] [(h, .inr (7, [.null, .null, .null, .int 0, .int 0]))] (fun u => [(h, .inr (7, [.ref r1, .ref r2, .ref r3, .int 0, .int 0]))]) := by
  refine CN.mk (by decide) rfl (Nat.le_of_ble_eq_true rfl) ?_
  intro p e s m below meth c A ls hI hin hw hl
  have hx := hI.1
  have hb := hI.2.1
  have hl : lv_has ls 4 [(0, .ref h), (1, .ref r1), (2, .ref r2), (3, .ref r3)] := hl
  refine lv_aload_n hx hb dX8_init_0 rfl (lv_at hl 0 rfl) ?_
  refine hI.objInit ml_X8_3 mi_objectInit mc_objectInit hl.1 dX8_init_1 (Nat.le_of_ble_eq_true rfl) (Nat.le_of_ble_eq_true rfl) ?_
  refine lv_aload_n hx hb dX8_init_4 rfl (lv_at hl 0 rfl) ?_
  refine lv_aload_n hx hb dX8_init_5 rfl (lv_at hl 1 rfl) ?_
  refine hI.putF hin hw fp_X8_9 rfl rfl 0 rfl rfl rfl (Nat.le_of_ble_eq_true rfl) dX8_init_6 (fun H locs hw => ?_)
  have hw : Wd g A s [(h, .inr (7, [.ref r1, .null, .null, .int 0, .int 0]))] H locs := hw
  refine lv_aload_n hx hb dX8_init_9 rfl (lv_at hl 0 rfl) ?_
  refine lv_aload_n hx hb dX8_init_10 rfl (lv_at hl 2 rfl) ?_
  refine hI.putF hin hw fp_X8_15 rfl rfl 0 rfl rfl rfl (Nat.le_of_ble_eq_true rfl) dX8_init_11 (fun H locs hw => ?_)
  have hw : Wd g A s [(h, .inr (7, [.ref r1, .ref r2, .null, .int 0, .int 0]))] H locs := hw
  refine lv_aload_n hx hb dX8_init_14 rfl (lv_at hl 0 rfl) ?_
  refine lv_aload_n hx hb dX8_init_15 rfl (lv_at hl 3 rfl) ?_
  refine hI.putF hin hw fp_X8_19 rfl rfl 0 rfl rfl rfl (Nat.le_of_ble_eq_true rfl) dX8_init_16 (fun H locs hw => ?_)
  have hw : Wd g A s [(h, .inr (7, [.ref r1, .ref r2, .ref r3, .int 0, .int 0]))] H locs := hw
  exact hI.retN (S := Unit) (wl := fun u => [(h, .inr (7, [.ref r1, .ref r2, .ref r3, .int 0, .int 0]))]) () hw (Nat.le_of_ble_eq_true rfl) (Nat.le_of_ble_eq_true rfl) dX8_init_19
