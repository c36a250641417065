def f_X4_partsOf (x1 : Int32) : Int32 := if x1 = (20 : Int32) then ((0 : Int32)) else if x1 = (21 : Int32) then ((0 : Int32)) else if x1 = (32 : Int32) then ((1 : Int32)) else if x1 = (35 : Int32) then ((1 : Int32)) else if x1 = (36 : Int32) then ((3 : Int32)) else ((2 : Int32))
def rb_X4_partsOf (σ : Unit) (o : Int32) : Int32 × Unit := (o, ())
set_option maxHeartbeats 4000000 in
set_option maxRecDepth 100000 in
theorem c_X4_partsOf (l : Launch) (g : GG) (x1 : Int32) : CI l g yX4_partsOf cX4_partsOf 1 (some .int) (rmN 0) (fun _ : Unit => []) [.int x1] () (rb_X4_partsOf () (f_X4_partsOf x1)) := by
  refine CI.mk (by decide) (Nat.le_of_ble_eq_true rfl) ?_
  intro p e s m below meth c A ls hI hw hl
  have hx := hI.1
  have hb := hI.2.1
  obtain ⟨r, hr⟩ : ∃ r, r = rb_X4_partsOf () (f_X4_partsOf x1) := ⟨_, rfl⟩
  rw [← hr]
  have hl : lv_has ls 1 [(0, .int x1)] := hl
  refine lv_iload_n hx hb dX4_partsOf_0 rfl (lv_at hl 0 rfl) ?_
  by_cases c1 : x1 = (20 : Int32)
  · refine lv_lookup (off := 51) (tgt := 52) hx hb dX4_partsOf_1 (by decide) (by rw [c1]; rfl) (by decide) ?_
    refine lv_iconst (v := (0 : Int32)) hx hb dX4_partsOf_52 (by decide) ?_
    exact hI.retI (u := ()) hw (hr.trans (congrArg (rb_X4_partsOf ()) ((show f_X4_partsOf x1 = ((0 : Int32)) from it_t c1 (rfl))))) dX4_partsOf_53
  by_cases c2 : x1 = (21 : Int32)
  · refine lv_lookup (off := 51) (tgt := 52) hx hb dX4_partsOf_1 (by decide) (by rw [c2]; rfl) (by decide) ?_
    refine lv_iconst (v := (0 : Int32)) hx hb dX4_partsOf_52 (by decide) ?_
    exact hI.retI (u := ()) hw (hr.trans (congrArg (rb_X4_partsOf ()) ((show f_X4_partsOf x1 = ((0 : Int32)) from it_f c1 (it_t c2 (rfl)))))) dX4_partsOf_53
  by_cases c3 : x1 = (32 : Int32)
  · refine lv_lookup (off := 53) (tgt := 54) hx hb dX4_partsOf_1 (by decide) (by rw [c3]; rfl) (by decide) ?_
    refine lv_iconst (v := (1 : Int32)) hx hb dX4_partsOf_54 (by decide) ?_
    exact hI.retI (u := ()) hw (hr.trans (congrArg (rb_X4_partsOf ()) ((show f_X4_partsOf x1 = ((1 : Int32)) from it_f c1 (it_f c2 (it_t c3 (rfl))))))) dX4_partsOf_55
  by_cases c4 : x1 = (35 : Int32)
  · refine lv_lookup (off := 53) (tgt := 54) hx hb dX4_partsOf_1 (by decide) (by rw [c4]; rfl) (by decide) ?_
    refine lv_iconst (v := (1 : Int32)) hx hb dX4_partsOf_54 (by decide) ?_
    exact hI.retI (u := ()) hw (hr.trans (congrArg (rb_X4_partsOf ()) ((show f_X4_partsOf x1 = ((1 : Int32)) from it_f c1 (it_f c2 (it_f c3 (it_t c4 (rfl)))))))) dX4_partsOf_55
  by_cases c5 : x1 = (36 : Int32)
  · refine lv_lookup (off := 55) (tgt := 56) hx hb dX4_partsOf_1 (by decide) (by rw [c5]; rfl) (by decide) ?_
    refine lv_iconst (v := (3 : Int32)) hx hb dX4_partsOf_56 (by decide) ?_
    exact hI.retI (u := ()) hw (hr.trans (congrArg (rb_X4_partsOf ()) ((show f_X4_partsOf x1 = ((3 : Int32)) from it_f c1 (it_f c2 (it_f c3 (it_f c4 (it_t c5 (rfl))))))))) dX4_partsOf_57
  refine lv_lookup (off := 57) (tgt := 58) hx hb dX4_partsOf_1 (by decide) (by rw [lv_osw c1 (show ((20 : Int32)).toInt = 20 by decide)]; rw [lv_osw c2 (show ((21 : Int32)).toInt = 21 by decide)]; rw [lv_osw c3 (show ((32 : Int32)).toInt = 32 by decide)]; rw [lv_osw c4 (show ((35 : Int32)).toInt = 35 by decide)]; rw [lv_osw c5 (show ((36 : Int32)).toInt = 36 by decide)]; rfl) (by decide) ?_
  refine lv_iconst (v := (2 : Int32)) hx hb dX4_partsOf_58 (by decide) ?_
  exact hI.retI (u := ()) hw (hr.trans (congrArg (rb_X4_partsOf ()) ((show f_X4_partsOf x1 = ((2 : Int32)) from it_f c1 (it_f c2 (it_f c3 (it_f c4 (it_f c5 (rfl))))))))) dX4_partsOf_59
def f_X4_traps (x1 : Int32) (x2 : Int32) : Int32 := if x1 = (33 : Int32) then if x2 = 0 then ((1 : Int32)) else ((0 : Int32)) else if x1 = (34 : Int32) then if x2 = 0 then ((1 : Int32)) else ((0 : Int32)) else ((0 : Int32))
def rb_X4_traps (σ : Unit) (o : Int32) : Int32 × Unit := (o, ())
set_option maxHeartbeats 4000000 in
set_option maxRecDepth 100000 in
theorem c_X4_traps (l : Launch) (g : GG) (x1 : Int32) (x2 : Int32) : CI l g yX4_traps cX4_traps 2 (some .boolean) (rmN 0) (fun _ : Unit => []) [.int x1, .int x2] () (rb_X4_traps () (f_X4_traps x1 x2)) := by
  refine CI.mk (by decide) (Nat.le_of_ble_eq_true rfl) ?_
  intro p e s m below meth c A ls hI hw hl
  have hx := hI.1
  have hb := hI.2.1
  obtain ⟨r, hr⟩ : ∃ r, r = rb_X4_traps () (f_X4_traps x1 x2) := ⟨_, rfl⟩
  rw [← hr]
  have hl : lv_has ls 2 [(0, .int x1), (1, .int x2)] := hl
  refine lv_iload_n hx hb dX4_traps_0 rfl (lv_at hl 0 rfl) ?_
  refine lv_bipush (v := (33 : Int32)) hx hb dX4_traps_1 (by decide) ?_
  refine lv_icmp_eq (tgt := 12) hx hb dX4_traps_3 (by decide) (fun c1 => ?_) (fun c1 => ?_)
  · refine lv_iload_n hx hb dX4_traps_12 rfl (lv_at hl 1 rfl) ?_
    refine lv_if_ne (tgt := 20) hx hb dX4_traps_13 (by decide) (fun c2 => ?_) (fun c2 => ?_)
    · refine lv_iconst (v := (0 : Int32)) hx hb dX4_traps_20 (by decide) ?_
      exact hI.retZ (u := ()) hw rfl (hr.trans (congrArg (rb_X4_traps ()) ((show f_X4_traps x1 x2 = ((0 : Int32)) from it_t c1 (it_f c2 (rfl)))))) dX4_traps_21
    · refine lv_iconst (v := (1 : Int32)) hx hb dX4_traps_16 (by decide) ?_
      refine lv_goto (tgt := 21) hx hb dX4_traps_17 (by decide) ?_
      exact hI.retZ (u := ()) hw rfl (hr.trans (congrArg (rb_X4_traps ()) ((show f_X4_traps x1 x2 = ((1 : Int32)) from it_t c1 (it_t c2 (rfl)))))) dX4_traps_21
  · refine lv_iload_n hx hb dX4_traps_6 rfl (lv_at hl 0 rfl) ?_
    refine lv_bipush (v := (34 : Int32)) hx hb dX4_traps_7 (by decide) ?_
    refine lv_icmp_ne (tgt := 20) hx hb dX4_traps_9 (by decide) (fun c3 => ?_) (fun c3 => ?_)
    · refine lv_iconst (v := (0 : Int32)) hx hb dX4_traps_20 (by decide) ?_
      exact hI.retZ (u := ()) hw rfl (hr.trans (congrArg (rb_X4_traps ()) ((show f_X4_traps x1 x2 = ((0 : Int32)) from it_f c1 (it_f c3 (rfl)))))) dX4_traps_21
    · refine lv_iload_n hx hb dX4_traps_12 rfl (lv_at hl 1 rfl) ?_
      refine lv_if_ne (tgt := 20) hx hb dX4_traps_13 (by decide) (fun c4 => ?_) (fun c4 => ?_)
      · refine lv_iconst (v := (0 : Int32)) hx hb dX4_traps_20 (by decide) ?_
        exact hI.retZ (u := ()) hw rfl (hr.trans (congrArg (rb_X4_traps ()) ((show f_X4_traps x1 x2 = ((0 : Int32)) from it_f c1 (it_t c3 (it_f c4 (rfl))))))) dX4_traps_21
      · refine lv_iconst (v := (1 : Int32)) hx hb dX4_traps_16 (by decide) ?_
        refine lv_goto (tgt := 21) hx hb dX4_traps_17 (by decide) ?_
        exact hI.retZ (u := ()) hw rfl (hr.trans (congrArg (rb_X4_traps ()) ((show f_X4_traps x1 x2 = ((1 : Int32)) from it_f c1 (it_t c3 (it_t c4 (rfl))))))) dX4_traps_21
def f_X4_reckon (x1 : Int32) (x2 : Int32) (x3 : Int32) : Int32 := if x1 = (22 : Int32) then (x2 + x3) else if x1 = (23 : Int32) then (x2 - x3) else if x1 = (24 : Int32) then (x2 * x3) else if x1 = (25 : Int32) then (x2 &&& x3) else if x1 = (26 : Int32) then (x2 ||| x3) else if x1 = (27 : Int32) then (x2 ^^^ x3) else if x1 = (28 : Int32) then (x2 <<< ((x3 &&& (31 : Int32)) &&& 31)) else if x1 = (29 : Int32) then ((x2.toUInt32 >>> ((x3 &&& (31 : Int32)).toUInt32 &&& Int32.toUInt32 31)).toInt32) else if x1 = (30 : Int32) then if x3 ≤ x2 then ((0 : Int32)) else ((1 : Int32)) else if x1 = (31 : Int32) then if x2 = x3 then ((1 : Int32)) else ((0 : Int32)) else if x1 = (32 : Int32) then if x2 = 0 then ((1 : Int32)) else ((0 : Int32)) else if x1 = (33 : Int32) then if x3 = 0 then ((0 : Int32)) else (x2 / x3) else if x1 = (34 : Int32) then if x3 = 0 then ((0 : Int32)) else (x2 - x2 / x3 * x3) else ((0 : Int32))
def rb_X4_reckon (σ : Unit) (o : Int32) : Int32 × Unit := (o, ())
set_option maxHeartbeats 4000000 in
set_option maxRecDepth 100000 in
theorem c_X4_reckon (l : Launch) (g : GG) (x1 : Int32) (x2 : Int32) (x3 : Int32) : CI l g yX4_reckon cX4_reckon 3 (some .int) (rmN 0) (fun _ : Unit => []) [.int x1, .int x2, .int x3] () (rb_X4_reckon () (f_X4_reckon x1 x2 x3)) := by
  refine CI.mk (by decide) (Nat.le_of_ble_eq_true rfl) ?_
  intro p e s m below meth c A ls hI hw hl
  have hx := hI.1
  have hb := hI.2.1
  obtain ⟨r, hr⟩ : ∃ r, r = rb_X4_reckon () (f_X4_reckon x1 x2 x3) := ⟨_, rfl⟩
  rw [← hr]
  have hl : lv_has ls 3 [(0, .int x1), (1, .int x2), (2, .int x3)] := hl
  refine lv_iload_n hx hb dX4_reckon_0 rfl (lv_at hl 0 rfl) ?_
  by_cases c1 : x1 = (22 : Int32)
  · refine lv_tableIn (tgt := 68) hx hb dX4_reckon_1 (by rw [c1]; decide) (by rw [c1]; decide) (by rw [c1]; rfl) (by decide) ?_
    refine lv_iload_n hx hb dX4_reckon_68 rfl (lv_at hl 1 rfl) ?_
    refine lv_iload_n hx hb dX4_reckon_69 rfl (lv_at hl 2 rfl) ?_
    refine lv_iadd hx hb dX4_reckon_70 ?_
    exact hI.retI (u := ()) hw (hr.trans (congrArg (rb_X4_reckon ()) ((show f_X4_reckon x1 x2 x3 = (x2 + x3) from it_t c1 (rfl))))) dX4_reckon_71
  by_cases c2 : x1 = (23 : Int32)
  · refine lv_tableIn (tgt := 72) hx hb dX4_reckon_1 (by rw [c2]; decide) (by rw [c2]; decide) (by rw [c2]; rfl) (by decide) ?_
    refine lv_iload_n hx hb dX4_reckon_72 rfl (lv_at hl 1 rfl) ?_
    refine lv_iload_n hx hb dX4_reckon_73 rfl (lv_at hl 2 rfl) ?_
    refine lv_isub hx hb dX4_reckon_74 ?_
    exact hI.retI (u := ()) hw (hr.trans (congrArg (rb_X4_reckon ()) ((show f_X4_reckon x1 x2 x3 = (x2 - x3) from it_f c1 (it_t c2 (rfl)))))) dX4_reckon_75
  by_cases c3 : x1 = (24 : Int32)
  · refine lv_tableIn (tgt := 76) hx hb dX4_reckon_1 (by rw [c3]; decide) (by rw [c3]; decide) (by rw [c3]; rfl) (by decide) ?_
    refine lv_iload_n hx hb dX4_reckon_76 rfl (lv_at hl 1 rfl) ?_
    refine lv_iload_n hx hb dX4_reckon_77 rfl (lv_at hl 2 rfl) ?_
    refine lv_imul hx hb dX4_reckon_78 ?_
    exact hI.retI (u := ()) hw (hr.trans (congrArg (rb_X4_reckon ()) ((show f_X4_reckon x1 x2 x3 = (x2 * x3) from it_f c1 (it_f c2 (it_t c3 (rfl))))))) dX4_reckon_79
  by_cases c4 : x1 = (25 : Int32)
  · refine lv_tableIn (tgt := 80) hx hb dX4_reckon_1 (by rw [c4]; decide) (by rw [c4]; decide) (by rw [c4]; rfl) (by decide) ?_
    refine lv_iload_n hx hb dX4_reckon_80 rfl (lv_at hl 1 rfl) ?_
    refine lv_iload_n hx hb dX4_reckon_81 rfl (lv_at hl 2 rfl) ?_
    refine lv_iand hx hb dX4_reckon_82 ?_
    exact hI.retI (u := ()) hw (hr.trans (congrArg (rb_X4_reckon ()) ((show f_X4_reckon x1 x2 x3 = (x2 &&& x3) from it_f c1 (it_f c2 (it_f c3 (it_t c4 (rfl)))))))) dX4_reckon_83
  by_cases c5 : x1 = (26 : Int32)
  · refine lv_tableIn (tgt := 84) hx hb dX4_reckon_1 (by rw [c5]; decide) (by rw [c5]; decide) (by rw [c5]; rfl) (by decide) ?_
    refine lv_iload_n hx hb dX4_reckon_84 rfl (lv_at hl 1 rfl) ?_
    refine lv_iload_n hx hb dX4_reckon_85 rfl (lv_at hl 2 rfl) ?_
    refine lv_ior hx hb dX4_reckon_86 ?_
    exact hI.retI (u := ()) hw (hr.trans (congrArg (rb_X4_reckon ()) ((show f_X4_reckon x1 x2 x3 = (x2 ||| x3) from it_f c1 (it_f c2 (it_f c3 (it_f c4 (it_t c5 (rfl))))))))) dX4_reckon_87
  by_cases c6 : x1 = (27 : Int32)
  · refine lv_tableIn (tgt := 88) hx hb dX4_reckon_1 (by rw [c6]; decide) (by rw [c6]; decide) (by rw [c6]; rfl) (by decide) ?_
    refine lv_iload_n hx hb dX4_reckon_88 rfl (lv_at hl 1 rfl) ?_
    refine lv_iload_n hx hb dX4_reckon_89 rfl (lv_at hl 2 rfl) ?_
    refine lv_ixor hx hb dX4_reckon_90 ?_
    exact hI.retI (u := ()) hw (hr.trans (congrArg (rb_X4_reckon ()) ((show f_X4_reckon x1 x2 x3 = (x2 ^^^ x3) from it_f c1 (it_f c2 (it_f c3 (it_f c4 (it_f c5 (it_t c6 (rfl)))))))))) dX4_reckon_91
  by_cases c7 : x1 = (28 : Int32)
  · refine lv_tableIn (tgt := 92) hx hb dX4_reckon_1 (by rw [c7]; decide) (by rw [c7]; decide) (by rw [c7]; rfl) (by decide) ?_
    refine lv_iload_n hx hb dX4_reckon_92 rfl (lv_at hl 1 rfl) ?_
    refine lv_iload_n hx hb dX4_reckon_93 rfl (lv_at hl 2 rfl) ?_
    refine lv_bipush (v := (31 : Int32)) hx hb dX4_reckon_94 (by decide) ?_
    refine lv_iand hx hb dX4_reckon_96 ?_
    refine lv_ishl hx hb dX4_reckon_97 ?_
    exact hI.retI (u := ()) hw (hr.trans (congrArg (rb_X4_reckon ()) ((show f_X4_reckon x1 x2 x3 = (x2 <<< ((x3 &&& (31 : Int32)) &&& 31)) from it_f c1 (it_f c2 (it_f c3 (it_f c4 (it_f c5 (it_f c6 (it_t c7 (rfl))))))))))) dX4_reckon_98
  by_cases c8 : x1 = (29 : Int32)
  · refine lv_tableIn (tgt := 99) hx hb dX4_reckon_1 (by rw [c8]; decide) (by rw [c8]; decide) (by rw [c8]; rfl) (by decide) ?_
    refine lv_iload_n hx hb dX4_reckon_99 rfl (lv_at hl 1 rfl) ?_
    refine lv_iload_n hx hb dX4_reckon_100 rfl (lv_at hl 2 rfl) ?_
    refine lv_bipush (v := (31 : Int32)) hx hb dX4_reckon_101 (by decide) ?_
    refine lv_iand hx hb dX4_reckon_103 ?_
    refine lv_iushr (v := (x2.toUInt32 >>> ((x3 &&& (31 : Int32)).toUInt32 &&& Int32.toUInt32 31)).toInt32) hx hb dX4_reckon_104 rfl ?_
    exact hI.retI (u := ()) hw (hr.trans (congrArg (rb_X4_reckon ()) ((show f_X4_reckon x1 x2 x3 = ((x2.toUInt32 >>> ((x3 &&& (31 : Int32)).toUInt32 &&& Int32.toUInt32 31)).toInt32) from it_f c1 (it_f c2 (it_f c3 (it_f c4 (it_f c5 (it_f c6 (it_f c7 (it_t c8 (rfl)))))))))))) dX4_reckon_105
  by_cases c9 : x1 = (30 : Int32)
  · refine lv_tableIn (tgt := 106) hx hb dX4_reckon_1 (by rw [c9]; decide) (by rw [c9]; decide) (by rw [c9]; rfl) (by decide) ?_
    refine lv_iload_n hx hb dX4_reckon_106 rfl (lv_at hl 1 rfl) ?_
    refine lv_iload_n hx hb dX4_reckon_107 rfl (lv_at hl 2 rfl) ?_
    refine lv_icmp_ge (tgt := 115) hx hb dX4_reckon_108 (by decide) (fun c10 => ?_) (fun c10 => ?_)
    · refine lv_iconst (v := (0 : Int32)) hx hb dX4_reckon_115 (by decide) ?_
      exact hI.retI (u := ()) hw (hr.trans (congrArg (rb_X4_reckon ()) ((show f_X4_reckon x1 x2 x3 = ((0 : Int32)) from it_f c1 (it_f c2 (it_f c3 (it_f c4 (it_f c5 (it_f c6 (it_f c7 (it_f c8 (it_t c9 (it_t c10 (rfl)))))))))))))) dX4_reckon_116
    · refine lv_iconst (v := (1 : Int32)) hx hb dX4_reckon_111 (by decide) ?_
      refine lv_goto (tgt := 116) hx hb dX4_reckon_112 (by decide) ?_
      exact hI.retI (u := ()) hw (hr.trans (congrArg (rb_X4_reckon ()) ((show f_X4_reckon x1 x2 x3 = ((1 : Int32)) from it_f c1 (it_f c2 (it_f c3 (it_f c4 (it_f c5 (it_f c6 (it_f c7 (it_f c8 (it_t c9 (it_f c10 (rfl)))))))))))))) dX4_reckon_116
  by_cases c11 : x1 = (31 : Int32)
  · refine lv_tableIn (tgt := 117) hx hb dX4_reckon_1 (by rw [c11]; decide) (by rw [c11]; decide) (by rw [c11]; rfl) (by decide) ?_
    refine lv_iload_n hx hb dX4_reckon_117 rfl (lv_at hl 1 rfl) ?_
    refine lv_iload_n hx hb dX4_reckon_118 rfl (lv_at hl 2 rfl) ?_
    refine lv_icmp_ne (tgt := 126) hx hb dX4_reckon_119 (by decide) (fun c12 => ?_) (fun c12 => ?_)
    · refine lv_iconst (v := (0 : Int32)) hx hb dX4_reckon_126 (by decide) ?_
      exact hI.retI (u := ()) hw (hr.trans (congrArg (rb_X4_reckon ()) ((show f_X4_reckon x1 x2 x3 = ((0 : Int32)) from it_f c1 (it_f c2 (it_f c3 (it_f c4 (it_f c5 (it_f c6 (it_f c7 (it_f c8 (it_f c9 (it_t c11 (it_f c12 (rfl))))))))))))))) dX4_reckon_127
    · refine lv_iconst (v := (1 : Int32)) hx hb dX4_reckon_122 (by decide) ?_
      refine lv_goto (tgt := 127) hx hb dX4_reckon_123 (by decide) ?_
      exact hI.retI (u := ()) hw (hr.trans (congrArg (rb_X4_reckon ()) ((show f_X4_reckon x1 x2 x3 = ((1 : Int32)) from it_f c1 (it_f c2 (it_f c3 (it_f c4 (it_f c5 (it_f c6 (it_f c7 (it_f c8 (it_f c9 (it_t c11 (it_t c12 (rfl))))))))))))))) dX4_reckon_127
  by_cases c13 : x1 = (32 : Int32)
  · refine lv_tableIn (tgt := 128) hx hb dX4_reckon_1 (by rw [c13]; decide) (by rw [c13]; decide) (by rw [c13]; rfl) (by decide) ?_
    refine lv_iload_n hx hb dX4_reckon_128 rfl (lv_at hl 1 rfl) ?_
    refine lv_if_ne (tgt := 136) hx hb dX4_reckon_129 (by decide) (fun c14 => ?_) (fun c14 => ?_)
    · refine lv_iconst (v := (0 : Int32)) hx hb dX4_reckon_136 (by decide) ?_
      exact hI.retI (u := ()) hw (hr.trans (congrArg (rb_X4_reckon ()) ((show f_X4_reckon x1 x2 x3 = ((0 : Int32)) from it_f c1 (it_f c2 (it_f c3 (it_f c4 (it_f c5 (it_f c6 (it_f c7 (it_f c8 (it_f c9 (it_f c11 (it_t c13 (it_f c14 (rfl)))))))))))))))) dX4_reckon_137
    · refine lv_iconst (v := (1 : Int32)) hx hb dX4_reckon_132 (by decide) ?_
      refine lv_goto (tgt := 137) hx hb dX4_reckon_133 (by decide) ?_
      exact hI.retI (u := ()) hw (hr.trans (congrArg (rb_X4_reckon ()) ((show f_X4_reckon x1 x2 x3 = ((1 : Int32)) from it_f c1 (it_f c2 (it_f c3 (it_f c4 (it_f c5 (it_f c6 (it_f c7 (it_f c8 (it_f c9 (it_f c11 (it_t c13 (it_t c14 (rfl)))))))))))))))) dX4_reckon_137
  by_cases c15 : x1 = (33 : Int32)
  · refine lv_tableIn (tgt := 138) hx hb dX4_reckon_1 (by rw [c15]; decide) (by rw [c15]; decide) (by rw [c15]; rfl) (by decide) ?_
    refine lv_iload_n hx hb dX4_reckon_138 rfl (lv_at hl 2 rfl) ?_
    refine lv_if_ne (tgt := 146) hx hb dX4_reckon_139 (by decide) (fun c16 => ?_) (fun c16 => ?_)
    · refine lv_iload_n hx hb dX4_reckon_146 rfl (lv_at hl 1 rfl) ?_
      refine lv_iload_n hx hb dX4_reckon_147 rfl (lv_at hl 2 rfl) ?_
      refine lv_idiv hx hb dX4_reckon_148 c16 ?_
      exact hI.retI (u := ()) hw (hr.trans (congrArg (rb_X4_reckon ()) ((show f_X4_reckon x1 x2 x3 = (x2 / x3) from it_f c1 (it_f c2 (it_f c3 (it_f c4 (it_f c5 (it_f c6 (it_f c7 (it_f c8 (it_f c9 (it_f c11 (it_f c13 (it_t c15 (it_f c16 (rfl))))))))))))))))) dX4_reckon_149
    · refine lv_iconst (v := (0 : Int32)) hx hb dX4_reckon_142 (by decide) ?_
      refine lv_goto (tgt := 149) hx hb dX4_reckon_143 (by decide) ?_
      exact hI.retI (u := ()) hw (hr.trans (congrArg (rb_X4_reckon ()) ((show f_X4_reckon x1 x2 x3 = ((0 : Int32)) from it_f c1 (it_f c2 (it_f c3 (it_f c4 (it_f c5 (it_f c6 (it_f c7 (it_f c8 (it_f c9 (it_f c11 (it_f c13 (it_t c15 (it_t c16 (rfl))))))))))))))))) dX4_reckon_149
  by_cases c17 : x1 = (34 : Int32)
  · refine lv_tableIn (tgt := 150) hx hb dX4_reckon_1 (by rw [c17]; decide) (by rw [c17]; decide) (by rw [c17]; rfl) (by decide) ?_
    refine lv_iload_n hx hb dX4_reckon_150 rfl (lv_at hl 2 rfl) ?_
    refine lv_if_ne (tgt := 158) hx hb dX4_reckon_151 (by decide) (fun c18 => ?_) (fun c18 => ?_)
    · refine lv_iload_n hx hb dX4_reckon_158 rfl (lv_at hl 1 rfl) ?_
      refine lv_iload_n hx hb dX4_reckon_159 rfl (lv_at hl 2 rfl) ?_
      refine lv_irem hx hb dX4_reckon_160 c18 ?_
      exact hI.retI (u := ()) hw (hr.trans (congrArg (rb_X4_reckon ()) ((show f_X4_reckon x1 x2 x3 = (x2 - x2 / x3 * x3) from it_f c1 (it_f c2 (it_f c3 (it_f c4 (it_f c5 (it_f c6 (it_f c7 (it_f c8 (it_f c9 (it_f c11 (it_f c13 (it_f c15 (it_t c17 (it_f c18 (rfl)))))))))))))))))) dX4_reckon_161
    · refine lv_iconst (v := (0 : Int32)) hx hb dX4_reckon_154 (by decide) ?_
      refine lv_goto (tgt := 161) hx hb dX4_reckon_155 (by decide) ?_
      exact hI.retI (u := ()) hw (hr.trans (congrArg (rb_X4_reckon ()) ((show f_X4_reckon x1 x2 x3 = ((0 : Int32)) from it_f c1 (it_f c2 (it_f c3 (it_f c4 (it_f c5 (it_f c6 (it_f c7 (it_f c8 (it_f c9 (it_f c11 (it_f c13 (it_f c15 (it_t c17 (it_t c18 (rfl)))))))))))))))))) dX4_reckon_161
  refine lv_tableOut (tgt := 162) hx hb dX4_reckon_1 (by have qc1 := lv_neT c1 (show ((22 : Int32)).toInt = 22 by decide); have qc2 := lv_neT c2 (show ((23 : Int32)).toInt = 23 by decide); have qc3 := lv_neT c3 (show ((24 : Int32)).toInt = 24 by decide); have qc4 := lv_neT c4 (show ((25 : Int32)).toInt = 25 by decide); have qc5 := lv_neT c5 (show ((26 : Int32)).toInt = 26 by decide); have qc6 := lv_neT c6 (show ((27 : Int32)).toInt = 27 by decide); have qc7 := lv_neT c7 (show ((28 : Int32)).toInt = 28 by decide); have qc8 := lv_neT c8 (show ((29 : Int32)).toInt = 29 by decide); have qc9 := lv_neT c9 (show ((30 : Int32)).toInt = 30 by decide); have qc11 := lv_neT c11 (show ((31 : Int32)).toInt = 31 by decide); have qc13 := lv_neT c13 (show ((32 : Int32)).toInt = 32 by decide); have qc15 := lv_neT c15 (show ((33 : Int32)).toInt = 33 by decide); have qc17 := lv_neT c17 (show ((34 : Int32)).toInt = 34 by decide); omega) (by decide) ?_
  refine lv_iconst (v := (0 : Int32)) hx hb dX4_reckon_162 (by decide) ?_
  exact hI.retI (u := ()) hw (hr.trans (congrArg (rb_X4_reckon ()) ((show f_X4_reckon x1 x2 x3 = ((0 : Int32)) from it_f c1 (it_f c2 (it_f c3 (it_f c4 (it_f c5 (it_f c6 (it_f c7 (it_f c8 (it_f c9 (it_f c11 (it_f c13 (it_f c15 (it_f c17 (rfl))))))))))))))))) dX4_reckon_163
