def rb_X10_skipS (σ : S_Mdl) (o : Int32) : Int32 × S_Mdl := (o, σ)
def rb_X10_skipAll (σ : S_Mdl) (o : Int32) : Int32 × S_Mdl := (o, σ)
def f_X10_skipS (sA : (Nat → Int32) → Int32 → Int32) (prg : Nat → Int32) (x1 : Int32) : Int32 := bd (prg x1.toNatClampNeg) (fun v2 => if v2 = (6 : Int32) then bd (sA prg (x1 + (2 : Int32))) (fun o35 => (o35 + (1 : Int32))) else if (3 : Int32) ≤ v2 then bd (f_X10_behind prg (x1 + (1 : Int32))) (fun o5 => if v2 = (2 : Int32) then bd (f_X10_behind prg o5) (fun o18 => (o18)) else if v2 = (3 : Int32) then bd (sA prg o5) (fun o12 => if (prg o12.toNatClampNeg) = (4 : Int32) then bd (sA prg (o12 + (1 : Int32))) (fun o16 => (o16 + (1 : Int32))) else (o12 + (1 : Int32))) else if v2 = (5 : Int32) then bd (sA prg o5) (fun o10 => (o10 + (1 : Int32))) else (o5)) else bd (f_X10_behind prg (x1 + (2 : Int32))) (fun o20 => if v2 = (2 : Int32) then bd (f_X10_behind prg o20) (fun o33 => (o33)) else if v2 = (3 : Int32) then bd (sA prg o20) (fun o27 => if (prg o27.toNatClampNeg) = (4 : Int32) then bd (sA prg (o27 + (1 : Int32))) (fun o31 => (o31 + (1 : Int32))) else (o27 + (1 : Int32))) else if v2 = (5 : Int32) then bd (sA prg o20) (fun o25 => (o25 + (1 : Int32))) else (o20)))
def ok_X10_skipS (sA : (Nat → Int32) → Int32 → Int32) (sAk : (Nat → Int32) → Int32 → Prop) (prg : Nat → Int32) (x1 : Int32) : Prop := vp_in x1 400 ∧ (bdP (prg x1.toNatClampNeg) (fun v2 => if v2 = (6 : Int32) then sAk prg (x1 + (2 : Int32)) ∧ (bdP (sA prg (x1 + (2 : Int32))) (fun o35 => True)) else if (3 : Int32) ≤ v2 then ok_X10_behind prg (x1 + (1 : Int32)) ∧ (bdP (f_X10_behind prg (x1 + (1 : Int32))) (fun o5 => if v2 = (2 : Int32) then ok_X10_behind prg o5 ∧ (bdP (f_X10_behind prg o5) (fun o18 => True)) else if v2 = (3 : Int32) then sAk prg o5 ∧ (bdP (sA prg o5) (fun o12 => vp_in o12 400 ∧ (if (prg o12.toNatClampNeg) = (4 : Int32) then sAk prg (o12 + (1 : Int32)) ∧ (bdP (sA prg (o12 + (1 : Int32))) (fun o16 => True)) else True))) else if v2 = (5 : Int32) then sAk prg o5 ∧ (bdP (sA prg o5) (fun o10 => True)) else True)) else ok_X10_behind prg (x1 + (2 : Int32)) ∧ (bdP (f_X10_behind prg (x1 + (2 : Int32))) (fun o20 => if v2 = (2 : Int32) then ok_X10_behind prg o20 ∧ (bdP (f_X10_behind prg o20) (fun o33 => True)) else if v2 = (3 : Int32) then sAk prg o20 ∧ (bdP (sA prg o20) (fun o27 => vp_in o27 400 ∧ (if (prg o27.toNatClampNeg) = (4 : Int32) then sAk prg (o27 + (1 : Int32)) ∧ (bdP (sA prg (o27 + (1 : Int32))) (fun o31 => True)) else True))) else if v2 = (5 : Int32) then sAk prg o20 ∧ (bdP (sA prg o20) (fun o25 => True)) else True))))
set_option maxHeartbeats 4000000 in
set_option maxRecDepth 100000 in
theorem c_X10_skipS (l : Launch) (g : GG) (a : Nat → Nat) (text : Nat → Int32) (size : Int32) (sv : Nat → Int32) (stb : Nat → Int32) (var : Nat → Int32) (tab : Nat → Int32) (szs : Nat → Int32) (prg : Nat → Int32) (cod : Nat → Int32) (words : Int32) (has : Int32) (fpl : Int32) (pos : Int32) (fault : Int32) (plc : Int32) (tol : Nat → Int32) (tmany : Int32) (trc : Nat → Int32) (rmany : Int32) (mark : Int64) (pil : Nat → Int32) (pmany : Int32) (mks : Nat → Int32) (cts : Nat → Int32) (turns : Int32) (stop : Int32) (sA : (Nat → Int32) → Int32 → Int32) (sAk : (Nat → Int32) → Int32 → Prop) (x1 : Int32) (kM : Nat) (k_sA : Nat) (hk : k_sA + 1 ≤ kM ∧ 12 ≤ kM) (h_sA : ∀ (text : Nat → Int32) (size : Int32) (sv : Nat → Int32) (stb : Nat → Int32) (var : Nat → Int32) (tab : Nat → Int32) (szs : Nat → Int32) (prg : Nat → Int32) (cod : Nat → Int32) (words : Int32) (has : Int32) (fpl : Int32) (pos : Int32) (fault : Int32) (plc : Int32) (tol : Nat → Int32) (tmany : Int32) (trc : Nat → Int32) (rmany : Int32) (mark : Int64) (pil : Nat → Int32) (pmany : Int32) (mks : Nat → Int32) (cts : Nat → Int32) (turns : Int32) (stop : Int32) (y1 : Int32), sAk prg y1 → CI l g yX10_skipAll cX10_skipAll 3 (some .int) (rmN k_sA) (w_Mdl a g) [.ref (a 0), .int y1] (((((text, size), (sv, stb)), ((var, tab), szs)), (((prg, cod), words), ((has, fpl), pos))), ((((fault, plc), (tol, tmany)), ((trc, rmany), mark)), (((pil, pmany), mks), ((cts, turns), stop)))) (rb_X10_skipAll (((((text, size), (sv, stb)), ((var, tab), szs)), (((prg, cod), words), ((has, fpl), pos))), ((((fault, plc), (tol, tmany)), ((trc, rmany), mark)), (((pil, pmany), mks), ((cts, turns), stop)))) (sA prg y1))) (hok : ok_X10_skipS sA sAk prg x1) : CI l g yX10_skipS cX10_skipS 5 (some .int) (rmN kM) (w_Mdl a g) [.ref (a 0), .int x1] (((((text, size), (sv, stb)), ((var, tab), szs)), (((prg, cod), words), ((has, fpl), pos))), ((((fault, plc), (tol, tmany)), ((trc, rmany), mark)), (((pil, pmany), mks), ((cts, turns), stop)))) (rb_X10_skipS (((((text, size), (sv, stb)), ((var, tab), szs)), (((prg, cod), words), ((has, fpl), pos))), ((((fault, plc), (tol, tmany)), ((trc, rmany), mark)), (((pil, pmany), mks), ((cts, turns), stop)))) (f_X10_skipS sA prg x1)) := by
  refine CI.mk (by decide) (Nat.le_of_ble_eq_true rfl) ?_
  intro p e s m below meth c A ls hI hw hl
  have hx := hI.1
  have hb := hI.2.1
  obtain ⟨r, hr⟩ : ∃ r, r = rb_X10_skipS (((((text, size), (sv, stb)), ((var, tab), szs)), (((prg, cod), words), ((has, fpl), pos))), ((((fault, plc), (tol, tmany)), ((trc, rmany), mark)), (((pil, pmany), mks), ((cts, turns), stop)))) (f_X10_skipS sA prg x1) := ⟨_, rfl⟩
  rw [← hr]
  have hl : lv_has ls 5 [(0, .ref (a 0)), (1, .int x1)] := hl
  refine lv_aload_n hx hb dX10_skipS_0 rfl (lv_at hl 0 rfl) ?_
  refine hI.get (v := .ref (a 7)) hw fg_X10_29 0 rfl rfl dX10_skipS_1 ?_
  refine lv_iload_n hx hb dX10_skipS_4 rfl (lv_at hl 1 rfl) ?_
  have hq1 := hok.1
  have hok := hok.2
  refine hI.iald hw 7 rfl hq1 dX10_skipS_5 ?_
  refine lv_topi (fun v2 hv2 => ?_)
  have hok := bdP_use hv2 hok
  refine lv_istore_n (lv' := [(2, .int v2), (0, .ref (a 0)), (1, .int x1)]) hx hb dX10_skipS_6 rfl hl (by decide) rfl (fun ls hl => ?_)
  refine lv_iload_n hx hb dX10_skipS_7 rfl (lv_at hl 0 rfl) ?_
  refine lv_bipush (v := (6 : Int32)) hx hb dX10_skipS_8 (by decide) ?_
  refine lv_icmp_ne (tgt := 23) hx hb dX10_skipS_10 (by decide) (fun c3 => ?_) (fun c3 => ?_)
  · have hok := ok_f c3 hok
    refine lv_aload_n hx hb dX10_skipS_23 rfl (lv_at hl 1 rfl) ?_
    refine lv_aload_n hx hb dX10_skipS_24 rfl (lv_at hl 1 rfl) ?_
    refine hI.get (v := .ref (a 7)) hw fg_X10_29 0 rfl rfl dX10_skipS_25 ?_
    refine lv_iload_n hx hb dX10_skipS_28 rfl (lv_at hl 0 rfl) ?_
    refine lv_iconst (v := (3 : Int32)) hx hb dX10_skipS_29 (by decide) ?_
    refine lv_icmp_ge (tgt := 39) hx hb dX10_skipS_30 (by decide) (fun c4 => ?_) (fun c4 => ?_)
    · have hok := ok_t c4 hok
      refine lv_iload_n hx hb dX10_skipS_39 rfl (lv_at hl 2 rfl) ?_
      refine lv_iconst (v := (1 : Int32)) hx hb dX10_skipS_40 (by decide) ?_
      refine lv_iadd hx hb dX10_skipS_41 ?_
      have hq6 := hok.1
      have hok := hok.2
      obtain ⟨o5, ho5⟩ : ∃ o, o = f_X10_behind prg (x1 + (1 : Int32)) := ⟨_, rfl⟩
      refine hI.callI0 (wl := w_Mdl a g) (a := (((((text, size), (sv, stb)), ((var, tab), szs)), (((prg, cod), words), ((has, fpl), pos))), ((((fault, plc), (tol, tmany)), ((trc, rmany), mark)), (((pil, pmany), mks), ((cts, turns), stop))))) (r := rb_X10_behindP (((((text, size), (sv, stb)), ((var, tab), szs)), (((prg, cod), words), ((has, fpl), pos))), ((((fault, plc), (tol, tmany)), ((trc, rmany), mark)), (((pil, pmany), mks), ((cts, turns), stop)))) o5) (As := [.ref (a 7), .int (x1 + (1 : Int32))]) (rest := []) hw (by rw [ho5]; exact c_X10_behindP l g a text size sv stb var tab szs prg cod words has fpl pos fault plc tol tmany trc rmany mark pil pmany mks cts turns stop (x1 + (1 : Int32)) hq6) ok_yX10_behind ml_X10_107 (rm_ok (by omega) (by decide)) 0 rfl rfl rfl rfl hl.1 (Nat.le_of_ble_eq_true rfl) dX10_skipS_42 ⟨Nat.zero_le _, Nat.zero_le _⟩ (fun H locs hw => ?_)
      have hw : Wd g A s (w_Mdl a g (((((text, size), (sv, stb)), ((var, tab), szs)), (((prg, cod), words), ((has, fpl), pos))), ((((fault, plc), (tol, tmany)), ((trc, rmany), mark)), (((pil, pmany), mks), ((cts, turns), stop))))) H locs := hw
      refine W.eq (g2 := F0 m 45 ls [.int o5]) rfl ?_
      have hok := bdP_use ho5 hok
      refine lv_istore_n (lv' := [(3, .int o5), (2, .int v2), (0, .ref (a 0)), (1, .int x1)]) hx hb dX10_skipS_45 rfl hl (by decide) rfl (fun ls hl => ?_)
      refine lv_iload_n hx hb dX10_skipS_46 rfl (lv_at hl 1 rfl) ?_
      refine lv_iconst (v := (2 : Int32)) hx hb dX10_skipS_47 (by decide) ?_
      refine lv_icmp_ne (tgt := 61) hx hb dX10_skipS_48 (by decide) (fun c7 => ?_) (fun c7 => ?_)
      · have hok := ok_f c7 hok
        refine lv_iload_n hx hb dX10_skipS_61 rfl (lv_at hl 1 rfl) ?_
        refine lv_iconst (v := (3 : Int32)) hx hb dX10_skipS_62 (by decide) ?_
        refine lv_icmp_ne (tgt := 102) hx hb dX10_skipS_63 (by decide) (fun c8 => ?_) (fun c8 => ?_)
        · have hok := ok_f c8 hok
          refine lv_iload_n hx hb dX10_skipS_102 rfl (lv_at hl 1 rfl) ?_
          refine lv_iconst (v := (5 : Int32)) hx hb dX10_skipS_103 (by decide) ?_
          refine lv_icmp_ne (tgt := 117) hx hb dX10_skipS_104 (by decide) (fun c9 => ?_) (fun c9 => ?_)
          · have hok := ok_f c9 hok
            refine lv_iload_n hx hb dX10_skipS_117 rfl (lv_at hl 0 rfl) ?_
            exact hI.retI (u := (((((text, size), (sv, stb)), ((var, tab), szs)), (((prg, cod), words), ((has, fpl), pos))), ((((fault, plc), (tol, tmany)), ((trc, rmany), mark)), (((pil, pmany), mks), ((cts, turns), stop))))) hw (hr.trans (congrArg (rb_X10_skipS (((((text, size), (sv, stb)), ((var, tab), szs)), (((prg, cod), words), ((has, fpl), pos))), ((((fault, plc), (tol, tmany)), ((trc, rmany), mark)), (((pil, pmany), mks), ((cts, turns), stop))))) ((show f_X10_skipS sA prg x1 = (o5) from bd_of hv2 (it_f c3 (it_t c4 (bd_of ho5 (it_f c7 (it_f c8 (it_f c9 (rfl))))))))))) dX10_skipS_118
          · have hok := ok_t c9 hok
            refine lv_aload_n hx hb dX10_skipS_107 rfl (lv_at hl 2 rfl) ?_
            refine lv_iload_n hx hb dX10_skipS_108 rfl (lv_at hl 0 rfl) ?_
            have hq11 := hok.1
            have hok := hok.2
            obtain ⟨o10, ho10⟩ : ∃ o, o = sA prg o5 := ⟨_, rfl⟩
            refine hI.callI0 (wl := w_Mdl a g) (a := (((((text, size), (sv, stb)), ((var, tab), szs)), (((prg, cod), words), ((has, fpl), pos))), ((((fault, plc), (tol, tmany)), ((trc, rmany), mark)), (((pil, pmany), mks), ((cts, turns), stop))))) (r := rb_X10_skipAll (((((text, size), (sv, stb)), ((var, tab), szs)), (((prg, cod), words), ((has, fpl), pos))), ((((fault, plc), (tol, tmany)), ((trc, rmany), mark)), (((pil, pmany), mks), ((cts, turns), stop)))) o10) (As := [.int o5]) (rest := []) hw (by rw [ho10]; exact h_sA text size sv stb var tab szs prg cod words has fpl pos fault plc tol tmany trc rmany mark pil pmany mks cts turns stop o5 hq11) ok_yX10_skipAll ml_X10_202 (rm_ok (by omega) (by decide)) 0 rfl rfl rfl rfl hl.1 (Nat.le_of_ble_eq_true rfl) dX10_skipS_109 ⟨Nat.zero_le _, Nat.zero_le _⟩ (fun H locs hw => ?_)
            have hw : Wd g A s (w_Mdl a g (((((text, size), (sv, stb)), ((var, tab), szs)), (((prg, cod), words), ((has, fpl), pos))), ((((fault, plc), (tol, tmany)), ((trc, rmany), mark)), (((pil, pmany), mks), ((cts, turns), stop))))) H locs := hw
            refine W.eq (g2 := F0 m 112 ls [.int o10]) rfl ?_
            have hok := bdP_use ho10 hok
            refine lv_iconst (v := (1 : Int32)) hx hb dX10_skipS_112 (by decide) ?_
            refine lv_iadd hx hb dX10_skipS_113 ?_
            refine lv_goto (tgt := 118) hx hb dX10_skipS_114 (by decide) ?_
            exact hI.retI (u := (((((text, size), (sv, stb)), ((var, tab), szs)), (((prg, cod), words), ((has, fpl), pos))), ((((fault, plc), (tol, tmany)), ((trc, rmany), mark)), (((pil, pmany), mks), ((cts, turns), stop))))) hw (hr.trans (congrArg (rb_X10_skipS (((((text, size), (sv, stb)), ((var, tab), szs)), (((prg, cod), words), ((has, fpl), pos))), ((((fault, plc), (tol, tmany)), ((trc, rmany), mark)), (((pil, pmany), mks), ((cts, turns), stop))))) ((show f_X10_skipS sA prg x1 = (o10 + (1 : Int32)) from bd_of hv2 (it_f c3 (it_t c4 (bd_of ho5 (it_f c7 (it_f c8 (it_t c9 (bd_of ho10 (rfl)))))))))))) dX10_skipS_118
        · have hok := ok_t c8 hok
          refine lv_aload_n hx hb dX10_skipS_66 rfl (lv_at hl 2 rfl) ?_
          refine lv_iload_n hx hb dX10_skipS_67 rfl (lv_at hl 0 rfl) ?_
          have hq13 := hok.1
          have hok := hok.2
          obtain ⟨o12, ho12⟩ : ∃ o, o = sA prg o5 := ⟨_, rfl⟩
          refine hI.callI0 (wl := w_Mdl a g) (a := (((((text, size), (sv, stb)), ((var, tab), szs)), (((prg, cod), words), ((has, fpl), pos))), ((((fault, plc), (tol, tmany)), ((trc, rmany), mark)), (((pil, pmany), mks), ((cts, turns), stop))))) (r := rb_X10_skipAll (((((text, size), (sv, stb)), ((var, tab), szs)), (((prg, cod), words), ((has, fpl), pos))), ((((fault, plc), (tol, tmany)), ((trc, rmany), mark)), (((pil, pmany), mks), ((cts, turns), stop)))) o12) (As := [.int o5]) (rest := []) hw (by rw [ho12]; exact h_sA text size sv stb var tab szs prg cod words has fpl pos fault plc tol tmany trc rmany mark pil pmany mks cts turns stop o5 hq13) ok_yX10_skipAll ml_X10_202 (rm_ok (by omega) (by decide)) 0 rfl rfl rfl rfl hl.1 (Nat.le_of_ble_eq_true rfl) dX10_skipS_68 ⟨Nat.zero_le _, Nat.zero_le _⟩ (fun H locs hw => ?_)
          have hw : Wd g A s (w_Mdl a g (((((text, size), (sv, stb)), ((var, tab), szs)), (((prg, cod), words), ((has, fpl), pos))), ((((fault, plc), (tol, tmany)), ((trc, rmany), mark)), (((pil, pmany), mks), ((cts, turns), stop))))) H locs := hw
          refine W.eq (g2 := F0 m 71 ls [.int o12]) rfl ?_
          have hok := bdP_use ho12 hok
          refine lv_istore (lv' := [(4, .int o12), (3, .int o5), (2, .int v2), (0, .ref (a 0)), (1, .int x1)]) hx hb dX10_skipS_71 hl (by decide) rfl (fun ls hl => ?_)
          refine lv_aload_n hx hb dX10_skipS_73 rfl (lv_at hl 3 rfl) ?_
          refine hI.get (v := .ref (a 7)) hw fg_X10_29 0 rfl rfl dX10_skipS_74 ?_
          refine lv_iload hx hb dX10_skipS_77 (lv_at hl 0 rfl) ?_
          have hq14 := hok.1
          have hok := hok.2
          refine hI.iald hw 7 rfl hq14 dX10_skipS_79 ?_
          refine lv_iconst (v := (4 : Int32)) hx hb dX10_skipS_80 (by decide) ?_
          refine lv_icmp_ne (tgt := 97) hx hb dX10_skipS_81 (by decide) (fun c15 => ?_) (fun c15 => ?_)
          · have hok := ok_f c15 hok
            refine lv_iload hx hb dX10_skipS_97 (lv_at hl 0 rfl) ?_
            refine lv_iconst (v := (1 : Int32)) hx hb dX10_skipS_99 (by decide) ?_
            refine lv_iadd hx hb dX10_skipS_100 ?_
            exact hI.retI (u := (((((text, size), (sv, stb)), ((var, tab), szs)), (((prg, cod), words), ((has, fpl), pos))), ((((fault, plc), (tol, tmany)), ((trc, rmany), mark)), (((pil, pmany), mks), ((cts, turns), stop))))) hw (hr.trans (congrArg (rb_X10_skipS (((((text, size), (sv, stb)), ((var, tab), szs)), (((prg, cod), words), ((has, fpl), pos))), ((((fault, plc), (tol, tmany)), ((trc, rmany), mark)), (((pil, pmany), mks), ((cts, turns), stop))))) ((show f_X10_skipS sA prg x1 = (o12 + (1 : Int32)) from bd_of hv2 (it_f c3 (it_t c4 (bd_of ho5 (it_f c7 (it_t c8 (bd_of ho12 (it_f c15 (rfl)))))))))))) dX10_skipS_101
          · have hok := ok_t c15 hok
            refine lv_aload_n hx hb dX10_skipS_84 rfl (lv_at hl 3 rfl) ?_
            refine lv_iload hx hb dX10_skipS_85 (lv_at hl 0 rfl) ?_
            refine lv_iconst (v := (1 : Int32)) hx hb dX10_skipS_87 (by decide) ?_
            refine lv_iadd hx hb dX10_skipS_88 ?_
            have hq17 := hok.1
            have hok := hok.2
            obtain ⟨o16, ho16⟩ : ∃ o, o = sA prg (o12 + (1 : Int32)) := ⟨_, rfl⟩
            refine hI.callI0 (wl := w_Mdl a g) (a := (((((text, size), (sv, stb)), ((var, tab), szs)), (((prg, cod), words), ((has, fpl), pos))), ((((fault, plc), (tol, tmany)), ((trc, rmany), mark)), (((pil, pmany), mks), ((cts, turns), stop))))) (r := rb_X10_skipAll (((((text, size), (sv, stb)), ((var, tab), szs)), (((prg, cod), words), ((has, fpl), pos))), ((((fault, plc), (tol, tmany)), ((trc, rmany), mark)), (((pil, pmany), mks), ((cts, turns), stop)))) o16) (As := [.int (o12 + (1 : Int32))]) (rest := []) hw (by rw [ho16]; exact h_sA text size sv stb var tab szs prg cod words has fpl pos fault plc tol tmany trc rmany mark pil pmany mks cts turns stop (o12 + (1 : Int32)) hq17) ok_yX10_skipAll ml_X10_202 (rm_ok (by omega) (by decide)) 0 rfl rfl rfl rfl hl.1 (Nat.le_of_ble_eq_true rfl) dX10_skipS_89 ⟨Nat.zero_le _, Nat.zero_le _⟩ (fun H locs hw => ?_)
            have hw : Wd g A s (w_Mdl a g (((((text, size), (sv, stb)), ((var, tab), szs)), (((prg, cod), words), ((has, fpl), pos))), ((((fault, plc), (tol, tmany)), ((trc, rmany), mark)), (((pil, pmany), mks), ((cts, turns), stop))))) H locs := hw
            refine W.eq (g2 := F0 m 92 ls [.int o16]) rfl ?_
            have hok := bdP_use ho16 hok
            refine lv_iconst (v := (1 : Int32)) hx hb dX10_skipS_92 (by decide) ?_
            refine lv_iadd hx hb dX10_skipS_93 ?_
            refine lv_goto (tgt := 101) hx hb dX10_skipS_94 (by decide) ?_
            exact hI.retI (u := (((((text, size), (sv, stb)), ((var, tab), szs)), (((prg, cod), words), ((has, fpl), pos))), ((((fault, plc), (tol, tmany)), ((trc, rmany), mark)), (((pil, pmany), mks), ((cts, turns), stop))))) hw (hr.trans (congrArg (rb_X10_skipS (((((text, size), (sv, stb)), ((var, tab), szs)), (((prg, cod), words), ((has, fpl), pos))), ((((fault, plc), (tol, tmany)), ((trc, rmany), mark)), (((pil, pmany), mks), ((cts, turns), stop))))) ((show f_X10_skipS sA prg x1 = (o16 + (1 : Int32)) from bd_of hv2 (it_f c3 (it_t c4 (bd_of ho5 (it_f c7 (it_t c8 (bd_of ho12 (it_t c15 (bd_of ho16 (rfl))))))))))))) dX10_skipS_101
      · have hok := ok_t c7 hok
        refine lv_aload_n hx hb dX10_skipS_51 rfl (lv_at hl 2 rfl) ?_
        refine lv_aload_n hx hb dX10_skipS_52 rfl (lv_at hl 2 rfl) ?_
        refine hI.get (v := .ref (a 7)) hw fg_X10_29 0 rfl rfl dX10_skipS_53 ?_
        refine lv_iload_n hx hb dX10_skipS_56 rfl (lv_at hl 0 rfl) ?_
        have hq19 := hok.1
        have hok := hok.2
        obtain ⟨o18, ho18⟩ : ∃ o, o = f_X10_behind prg o5 := ⟨_, rfl⟩
        refine hI.callI0 (wl := w_Mdl a g) (a := (((((text, size), (sv, stb)), ((var, tab), szs)), (((prg, cod), words), ((has, fpl), pos))), ((((fault, plc), (tol, tmany)), ((trc, rmany), mark)), (((pil, pmany), mks), ((cts, turns), stop))))) (r := rb_X10_behindP (((((text, size), (sv, stb)), ((var, tab), szs)), (((prg, cod), words), ((has, fpl), pos))), ((((fault, plc), (tol, tmany)), ((trc, rmany), mark)), (((pil, pmany), mks), ((cts, turns), stop)))) o18) (As := [.ref (a 7), .int o5]) (rest := []) hw (by rw [ho18]; exact c_X10_behindP l g a text size sv stb var tab szs prg cod words has fpl pos fault plc tol tmany trc rmany mark pil pmany mks cts turns stop o5 hq19) ok_yX10_behind ml_X10_107 (rm_ok (by omega) (by decide)) 0 rfl rfl rfl rfl hl.1 (Nat.le_of_ble_eq_true rfl) dX10_skipS_57 ⟨Nat.zero_le _, Nat.zero_le _⟩ (fun H locs hw => ?_)
        have hw : Wd g A s (w_Mdl a g (((((text, size), (sv, stb)), ((var, tab), szs)), (((prg, cod), words), ((has, fpl), pos))), ((((fault, plc), (tol, tmany)), ((trc, rmany), mark)), (((pil, pmany), mks), ((cts, turns), stop))))) H locs := hw
        refine W.eq (g2 := F0 m 60 ls [.int o18]) rfl ?_
        have hok := bdP_use ho18 hok
        exact hI.retI (u := (((((text, size), (sv, stb)), ((var, tab), szs)), (((prg, cod), words), ((has, fpl), pos))), ((((fault, plc), (tol, tmany)), ((trc, rmany), mark)), (((pil, pmany), mks), ((cts, turns), stop))))) hw (hr.trans (congrArg (rb_X10_skipS (((((text, size), (sv, stb)), ((var, tab), szs)), (((prg, cod), words), ((has, fpl), pos))), ((((fault, plc), (tol, tmany)), ((trc, rmany), mark)), (((pil, pmany), mks), ((cts, turns), stop))))) ((show f_X10_skipS sA prg x1 = (o18) from bd_of hv2 (it_f c3 (it_t c4 (bd_of ho5 (it_t c7 (bd_of ho18 (rfl)))))))))) dX10_skipS_60
    · have hok := ok_f c4 hok
      refine lv_iload_n hx hb dX10_skipS_33 rfl (lv_at hl 2 rfl) ?_
      refine lv_iconst (v := (2 : Int32)) hx hb dX10_skipS_34 (by decide) ?_
      refine lv_iadd hx hb dX10_skipS_35 ?_
      refine lv_goto (tgt := 42) hx hb dX10_skipS_36 (by decide) ?_
      have hq21 := hok.1
      have hok := hok.2
      obtain ⟨o20, ho20⟩ : ∃ o, o = f_X10_behind prg (x1 + (2 : Int32)) := ⟨_, rfl⟩
      refine hI.callI0 (wl := w_Mdl a g) (a := (((((text, size), (sv, stb)), ((var, tab), szs)), (((prg, cod), words), ((has, fpl), pos))), ((((fault, plc), (tol, tmany)), ((trc, rmany), mark)), (((pil, pmany), mks), ((cts, turns), stop))))) (r := rb_X10_behindP (((((text, size), (sv, stb)), ((var, tab), szs)), (((prg, cod), words), ((has, fpl), pos))), ((((fault, plc), (tol, tmany)), ((trc, rmany), mark)), (((pil, pmany), mks), ((cts, turns), stop)))) o20) (As := [.ref (a 7), .int (x1 + (2 : Int32))]) (rest := []) hw (by rw [ho20]; exact c_X10_behindP l g a text size sv stb var tab szs prg cod words has fpl pos fault plc tol tmany trc rmany mark pil pmany mks cts turns stop (x1 + (2 : Int32)) hq21) ok_yX10_behind ml_X10_107 (rm_ok (by omega) (by decide)) 0 rfl rfl rfl rfl hl.1 (Nat.le_of_ble_eq_true rfl) dX10_skipS_42 ⟨Nat.zero_le _, Nat.zero_le _⟩ (fun H locs hw => ?_)
      have hw : Wd g A s (w_Mdl a g (((((text, size), (sv, stb)), ((var, tab), szs)), (((prg, cod), words), ((has, fpl), pos))), ((((fault, plc), (tol, tmany)), ((trc, rmany), mark)), (((pil, pmany), mks), ((cts, turns), stop))))) H locs := hw
      refine W.eq (g2 := F0 m 45 ls [.int o20]) rfl ?_
      have hok := bdP_use ho20 hok
      refine lv_istore_n (lv' := [(3, .int o20), (2, .int v2), (0, .ref (a 0)), (1, .int x1)]) hx hb dX10_skipS_45 rfl hl (by decide) rfl (fun ls hl => ?_)
      refine lv_iload_n hx hb dX10_skipS_46 rfl (lv_at hl 1 rfl) ?_
      refine lv_iconst (v := (2 : Int32)) hx hb dX10_skipS_47 (by decide) ?_
      refine lv_icmp_ne (tgt := 61) hx hb dX10_skipS_48 (by decide) (fun c22 => ?_) (fun c22 => ?_)
      · have hok := ok_f c22 hok
        refine lv_iload_n hx hb dX10_skipS_61 rfl (lv_at hl 1 rfl) ?_
        refine lv_iconst (v := (3 : Int32)) hx hb dX10_skipS_62 (by decide) ?_
        refine lv_icmp_ne (tgt := 102) hx hb dX10_skipS_63 (by decide) (fun c23 => ?_) (fun c23 => ?_)
        · have hok := ok_f c23 hok
          refine lv_iload_n hx hb dX10_skipS_102 rfl (lv_at hl 1 rfl) ?_
          refine lv_iconst (v := (5 : Int32)) hx hb dX10_skipS_103 (by decide) ?_
          refine lv_icmp_ne (tgt := 117) hx hb dX10_skipS_104 (by decide) (fun c24 => ?_) (fun c24 => ?_)
          · have hok := ok_f c24 hok
            refine lv_iload_n hx hb dX10_skipS_117 rfl (lv_at hl 0 rfl) ?_
            exact hI.retI (u := (((((text, size), (sv, stb)), ((var, tab), szs)), (((prg, cod), words), ((has, fpl), pos))), ((((fault, plc), (tol, tmany)), ((trc, rmany), mark)), (((pil, pmany), mks), ((cts, turns), stop))))) hw (hr.trans (congrArg (rb_X10_skipS (((((text, size), (sv, stb)), ((var, tab), szs)), (((prg, cod), words), ((has, fpl), pos))), ((((fault, plc), (tol, tmany)), ((trc, rmany), mark)), (((pil, pmany), mks), ((cts, turns), stop))))) ((show f_X10_skipS sA prg x1 = (o20) from bd_of hv2 (it_f c3 (it_f c4 (bd_of ho20 (it_f c22 (it_f c23 (it_f c24 (rfl))))))))))) dX10_skipS_118
          · have hok := ok_t c24 hok
            refine lv_aload_n hx hb dX10_skipS_107 rfl (lv_at hl 2 rfl) ?_
            refine lv_iload_n hx hb dX10_skipS_108 rfl (lv_at hl 0 rfl) ?_
            have hq26 := hok.1
            have hok := hok.2
            obtain ⟨o25, ho25⟩ : ∃ o, o = sA prg o20 := ⟨_, rfl⟩
            refine hI.callI0 (wl := w_Mdl a g) (a := (((((text, size), (sv, stb)), ((var, tab), szs)), (((prg, cod), words), ((has, fpl), pos))), ((((fault, plc), (tol, tmany)), ((trc, rmany), mark)), (((pil, pmany), mks), ((cts, turns), stop))))) (r := rb_X10_skipAll (((((text, size), (sv, stb)), ((var, tab), szs)), (((prg, cod), words), ((has, fpl), pos))), ((((fault, plc), (tol, tmany)), ((trc, rmany), mark)), (((pil, pmany), mks), ((cts, turns), stop)))) o25) (As := [.int o20]) (rest := []) hw (by rw [ho25]; exact h_sA text size sv stb var tab szs prg cod words has fpl pos fault plc tol tmany trc rmany mark pil pmany mks cts turns stop o20 hq26) ok_yX10_skipAll ml_X10_202 (rm_ok (by omega) (by decide)) 0 rfl rfl rfl rfl hl.1 (Nat.le_of_ble_eq_true rfl) dX10_skipS_109 ⟨Nat.zero_le _, Nat.zero_le _⟩ (fun H locs hw => ?_)
            have hw : Wd g A s (w_Mdl a g (((((text, size), (sv, stb)), ((var, tab), szs)), (((prg, cod), words), ((has, fpl), pos))), ((((fault, plc), (tol, tmany)), ((trc, rmany), mark)), (((pil, pmany), mks), ((cts, turns), stop))))) H locs := hw
            refine W.eq (g2 := F0 m 112 ls [.int o25]) rfl ?_
            have hok := bdP_use ho25 hok
            refine lv_iconst (v := (1 : Int32)) hx hb dX10_skipS_112 (by decide) ?_
            refine lv_iadd hx hb dX10_skipS_113 ?_
            refine lv_goto (tgt := 118) hx hb dX10_skipS_114 (by decide) ?_
            exact hI.retI (u := (((((text, size), (sv, stb)), ((var, tab), szs)), (((prg, cod), words), ((has, fpl), pos))), ((((fault, plc), (tol, tmany)), ((trc, rmany), mark)), (((pil, pmany), mks), ((cts, turns), stop))))) hw (hr.trans (congrArg (rb_X10_skipS (((((text, size), (sv, stb)), ((var, tab), szs)), (((prg, cod), words), ((has, fpl), pos))), ((((fault, plc), (tol, tmany)), ((trc, rmany), mark)), (((pil, pmany), mks), ((cts, turns), stop))))) ((show f_X10_skipS sA prg x1 = (o25 + (1 : Int32)) from bd_of hv2 (it_f c3 (it_f c4 (bd_of ho20 (it_f c22 (it_f c23 (it_t c24 (bd_of ho25 (rfl)))))))))))) dX10_skipS_118
        · have hok := ok_t c23 hok
          refine lv_aload_n hx hb dX10_skipS_66 rfl (lv_at hl 2 rfl) ?_
          refine lv_iload_n hx hb dX10_skipS_67 rfl (lv_at hl 0 rfl) ?_
          have hq28 := hok.1
          have hok := hok.2
          obtain ⟨o27, ho27⟩ : ∃ o, o = sA prg o20 := ⟨_, rfl⟩
          refine hI.callI0 (wl := w_Mdl a g) (a := (((((text, size), (sv, stb)), ((var, tab), szs)), (((prg, cod), words), ((has, fpl), pos))), ((((fault, plc), (tol, tmany)), ((trc, rmany), mark)), (((pil, pmany), mks), ((cts, turns), stop))))) (r := rb_X10_skipAll (((((text, size), (sv, stb)), ((var, tab), szs)), (((prg, cod), words), ((has, fpl), pos))), ((((fault, plc), (tol, tmany)), ((trc, rmany), mark)), (((pil, pmany), mks), ((cts, turns), stop)))) o27) (As := [.int o20]) (rest := []) hw (by rw [ho27]; exact h_sA text size sv stb var tab szs prg cod words has fpl pos fault plc tol tmany trc rmany mark pil pmany mks cts turns stop o20 hq28) ok_yX10_skipAll ml_X10_202 (rm_ok (by omega) (by decide)) 0 rfl rfl rfl rfl hl.1 (Nat.le_of_ble_eq_true rfl) dX10_skipS_68 ⟨Nat.zero_le _, Nat.zero_le _⟩ (fun H locs hw => ?_)
          have hw : Wd g A s (w_Mdl a g (((((text, size), (sv, stb)), ((var, tab), szs)), (((prg, cod), words), ((has, fpl), pos))), ((((fault, plc), (tol, tmany)), ((trc, rmany), mark)), (((pil, pmany), mks), ((cts, turns), stop))))) H locs := hw
          refine W.eq (g2 := F0 m 71 ls [.int o27]) rfl ?_
          have hok := bdP_use ho27 hok
          refine lv_istore (lv' := [(4, .int o27), (3, .int o20), (2, .int v2), (0, .ref (a 0)), (1, .int x1)]) hx hb dX10_skipS_71 hl (by decide) rfl (fun ls hl => ?_)
          refine lv_aload_n hx hb dX10_skipS_73 rfl (lv_at hl 3 rfl) ?_
          refine hI.get (v := .ref (a 7)) hw fg_X10_29 0 rfl rfl dX10_skipS_74 ?_
          refine lv_iload hx hb dX10_skipS_77 (lv_at hl 0 rfl) ?_
          have hq29 := hok.1
          have hok := hok.2
          refine hI.iald hw 7 rfl hq29 dX10_skipS_79 ?_
          refine lv_iconst (v := (4 : Int32)) hx hb dX10_skipS_80 (by decide) ?_
          refine lv_icmp_ne (tgt := 97) hx hb dX10_skipS_81 (by decide) (fun c30 => ?_) (fun c30 => ?_)
          · have hok := ok_f c30 hok
            refine lv_iload hx hb dX10_skipS_97 (lv_at hl 0 rfl) ?_
            refine lv_iconst (v := (1 : Int32)) hx hb dX10_skipS_99 (by decide) ?_
            refine lv_iadd hx hb dX10_skipS_100 ?_
            exact hI.retI (u := (((((text, size), (sv, stb)), ((var, tab), szs)), (((prg, cod), words), ((has, fpl), pos))), ((((fault, plc), (tol, tmany)), ((trc, rmany), mark)), (((pil, pmany), mks), ((cts, turns), stop))))) hw (hr.trans (congrArg (rb_X10_skipS (((((text, size), (sv, stb)), ((var, tab), szs)), (((prg, cod), words), ((has, fpl), pos))), ((((fault, plc), (tol, tmany)), ((trc, rmany), mark)), (((pil, pmany), mks), ((cts, turns), stop))))) ((show f_X10_skipS sA prg x1 = (o27 + (1 : Int32)) from bd_of hv2 (it_f c3 (it_f c4 (bd_of ho20 (it_f c22 (it_t c23 (bd_of ho27 (it_f c30 (rfl)))))))))))) dX10_skipS_101
          · have hok := ok_t c30 hok
            refine lv_aload_n hx hb dX10_skipS_84 rfl (lv_at hl 3 rfl) ?_
            refine lv_iload hx hb dX10_skipS_85 (lv_at hl 0 rfl) ?_
            refine lv_iconst (v := (1 : Int32)) hx hb dX10_skipS_87 (by decide) ?_
            refine lv_iadd hx hb dX10_skipS_88 ?_
            have hq32 := hok.1
            have hok := hok.2
            obtain ⟨o31, ho31⟩ : ∃ o, o = sA prg (o27 + (1 : Int32)) := ⟨_, rfl⟩
            refine hI.callI0 (wl := w_Mdl a g) (a := (((((text, size), (sv, stb)), ((var, tab), szs)), (((prg, cod), words), ((has, fpl), pos))), ((((fault, plc), (tol, tmany)), ((trc, rmany), mark)), (((pil, pmany), mks), ((cts, turns), stop))))) (r := rb_X10_skipAll (((((text, size), (sv, stb)), ((var, tab), szs)), (((prg, cod), words), ((has, fpl), pos))), ((((fault, plc), (tol, tmany)), ((trc, rmany), mark)), (((pil, pmany), mks), ((cts, turns), stop)))) o31) (As := [.int (o27 + (1 : Int32))]) (rest := []) hw (by rw [ho31]; exact h_sA text size sv stb var tab szs prg cod words has fpl pos fault plc tol tmany trc rmany mark pil pmany mks cts turns stop (o27 + (1 : Int32)) hq32) ok_yX10_skipAll ml_X10_202 (rm_ok (by omega) (by decide)) 0 rfl rfl rfl rfl hl.1 (Nat.le_of_ble_eq_true rfl) dX10_skipS_89 ⟨Nat.zero_le _, Nat.zero_le _⟩ (fun H locs hw => ?_)
            have hw : Wd g A s (w_Mdl a g (((((text, size), (sv, stb)), ((var, tab), szs)), (((prg, cod), words), ((has, fpl), pos))), ((((fault, plc), (tol, tmany)), ((trc, rmany), mark)), (((pil, pmany), mks), ((cts, turns), stop))))) H locs := hw
            refine W.eq (g2 := F0 m 92 ls [.int o31]) rfl ?_
            have hok := bdP_use ho31 hok
            refine lv_iconst (v := (1 : Int32)) hx hb dX10_skipS_92 (by decide) ?_
            refine lv_iadd hx hb dX10_skipS_93 ?_
            refine lv_goto (tgt := 101) hx hb dX10_skipS_94 (by decide) ?_
            exact hI.retI (u := (((((text, size), (sv, stb)), ((var, tab), szs)), (((prg, cod), words), ((has, fpl), pos))), ((((fault, plc), (tol, tmany)), ((trc, rmany), mark)), (((pil, pmany), mks), ((cts, turns), stop))))) hw (hr.trans (congrArg (rb_X10_skipS (((((text, size), (sv, stb)), ((var, tab), szs)), (((prg, cod), words), ((has, fpl), pos))), ((((fault, plc), (tol, tmany)), ((trc, rmany), mark)), (((pil, pmany), mks), ((cts, turns), stop))))) ((show f_X10_skipS sA prg x1 = (o31 + (1 : Int32)) from bd_of hv2 (it_f c3 (it_f c4 (bd_of ho20 (it_f c22 (it_t c23 (bd_of ho27 (it_t c30 (bd_of ho31 (rfl))))))))))))) dX10_skipS_101
      · have hok := ok_t c22 hok
        refine lv_aload_n hx hb dX10_skipS_51 rfl (lv_at hl 2 rfl) ?_
        refine lv_aload_n hx hb dX10_skipS_52 rfl (lv_at hl 2 rfl) ?_
        refine hI.get (v := .ref (a 7)) hw fg_X10_29 0 rfl rfl dX10_skipS_53 ?_
        refine lv_iload_n hx hb dX10_skipS_56 rfl (lv_at hl 0 rfl) ?_
        have hq34 := hok.1
        have hok := hok.2
        obtain ⟨o33, ho33⟩ : ∃ o, o = f_X10_behind prg o20 := ⟨_, rfl⟩
        refine hI.callI0 (wl := w_Mdl a g) (a := (((((text, size), (sv, stb)), ((var, tab), szs)), (((prg, cod), words), ((has, fpl), pos))), ((((fault, plc), (tol, tmany)), ((trc, rmany), mark)), (((pil, pmany), mks), ((cts, turns), stop))))) (r := rb_X10_behindP (((((text, size), (sv, stb)), ((var, tab), szs)), (((prg, cod), words), ((has, fpl), pos))), ((((fault, plc), (tol, tmany)), ((trc, rmany), mark)), (((pil, pmany), mks), ((cts, turns), stop)))) o33) (As := [.ref (a 7), .int o20]) (rest := []) hw (by rw [ho33]; exact c_X10_behindP l g a text size sv stb var tab szs prg cod words has fpl pos fault plc tol tmany trc rmany mark pil pmany mks cts turns stop o20 hq34) ok_yX10_behind ml_X10_107 (rm_ok (by omega) (by decide)) 0 rfl rfl rfl rfl hl.1 (Nat.le_of_ble_eq_true rfl) dX10_skipS_57 ⟨Nat.zero_le _, Nat.zero_le _⟩ (fun H locs hw => ?_)
        have hw : Wd g A s (w_Mdl a g (((((text, size), (sv, stb)), ((var, tab), szs)), (((prg, cod), words), ((has, fpl), pos))), ((((fault, plc), (tol, tmany)), ((trc, rmany), mark)), (((pil, pmany), mks), ((cts, turns), stop))))) H locs := hw
        refine W.eq (g2 := F0 m 60 ls [.int o33]) rfl ?_
        have hok := bdP_use ho33 hok
        exact hI.retI (u := (((((text, size), (sv, stb)), ((var, tab), szs)), (((prg, cod), words), ((has, fpl), pos))), ((((fault, plc), (tol, tmany)), ((trc, rmany), mark)), (((pil, pmany), mks), ((cts, turns), stop))))) hw (hr.trans (congrArg (rb_X10_skipS (((((text, size), (sv, stb)), ((var, tab), szs)), (((prg, cod), words), ((has, fpl), pos))), ((((fault, plc), (tol, tmany)), ((trc, rmany), mark)), (((pil, pmany), mks), ((cts, turns), stop))))) ((show f_X10_skipS sA prg x1 = (o33) from bd_of hv2 (it_f c3 (it_f c4 (bd_of ho20 (it_t c22 (bd_of ho33 (rfl)))))))))) dX10_skipS_60
  · have hok := ok_t c3 hok
    refine lv_aload_n hx hb dX10_skipS_13 rfl (lv_at hl 1 rfl) ?_
    refine lv_iload_n hx hb dX10_skipS_14 rfl (lv_at hl 2 rfl) ?_
    refine lv_iconst (v := (2 : Int32)) hx hb dX10_skipS_15 (by decide) ?_
    refine lv_iadd hx hb dX10_skipS_16 ?_
    have hq36 := hok.1
    have hok := hok.2
    obtain ⟨o35, ho35⟩ : ∃ o, o = sA prg (x1 + (2 : Int32)) := ⟨_, rfl⟩
    refine hI.callI0 (wl := w_Mdl a g) (a := (((((text, size), (sv, stb)), ((var, tab), szs)), (((prg, cod), words), ((has, fpl), pos))), ((((fault, plc), (tol, tmany)), ((trc, rmany), mark)), (((pil, pmany), mks), ((cts, turns), stop))))) (r := rb_X10_skipAll (((((text, size), (sv, stb)), ((var, tab), szs)), (((prg, cod), words), ((has, fpl), pos))), ((((fault, plc), (tol, tmany)), ((trc, rmany), mark)), (((pil, pmany), mks), ((cts, turns), stop)))) o35) (As := [.int (x1 + (2 : Int32))]) (rest := []) hw (by rw [ho35]; exact h_sA text size sv stb var tab szs prg cod words has fpl pos fault plc tol tmany trc rmany mark pil pmany mks cts turns stop (x1 + (2 : Int32)) hq36) ok_yX10_skipAll ml_X10_202 (rm_ok (by omega) (by decide)) 0 rfl rfl rfl rfl hl.1 (Nat.le_of_ble_eq_true rfl) dX10_skipS_17 ⟨Nat.zero_le _, Nat.zero_le _⟩ (fun H locs hw => ?_)
    have hw : Wd g A s (w_Mdl a g (((((text, size), (sv, stb)), ((var, tab), szs)), (((prg, cod), words), ((has, fpl), pos))), ((((fault, plc), (tol, tmany)), ((trc, rmany), mark)), (((pil, pmany), mks), ((cts, turns), stop))))) H locs := hw
    refine W.eq (g2 := F0 m 20 ls [.int o35]) rfl ?_
    have hok := bdP_use ho35 hok
    refine lv_iconst (v := (1 : Int32)) hx hb dX10_skipS_20 (by decide) ?_
    refine lv_iadd hx hb dX10_skipS_21 ?_
    exact hI.retI (u := (((((text, size), (sv, stb)), ((var, tab), szs)), (((prg, cod), words), ((has, fpl), pos))), ((((fault, plc), (tol, tmany)), ((trc, rmany), mark)), (((pil, pmany), mks), ((cts, turns), stop))))) hw (hr.trans (congrArg (rb_X10_skipS (((((text, size), (sv, stb)), ((var, tab), szs)), (((prg, cod), words), ((has, fpl), pos))), ((((fault, plc), (tol, tmany)), ((trc, rmany), mark)), (((pil, pmany), mks), ((cts, turns), stop))))) ((show f_X10_skipS sA prg x1 = (o35 + (1 : Int32)) from bd_of hv2 (it_t c3 (bd_of ho35 (rfl))))))) dX10_skipS_22
def ok_X10_skipAll_2 (sS : (Nat → Int32) → Int32 → Int32) (sSk : (Nat → Int32) → Int32 → Prop) (prg : Nat → Int32) : Nat → Int32 → Prop
  | 0, _ => False
  | k + 1, y2 => vp_in y2 400 ∧ (if (prg y2.toNatClampNeg) = 0 then True else vp_in y2 400 ∧ (if (prg y2.toNatClampNeg) = (4 : Int32) then True else sSk prg y2 ∧ (bdP (sS prg y2) (fun o5 => ok_X10_skipAll_2 sS sSk prg k o5))))
def f_X10_skipAll_2 (sS : (Nat → Int32) → Int32 → Int32) (prg : Nat → Int32) : Nat → Int32 → Int32
  | 0, y2 => (0)
  | k + 1, y2 => if (prg y2.toNatClampNeg) = 0 then (y2) else if (prg y2.toNatClampNeg) = (4 : Int32) then (y2) else bd (sS prg y2) (fun o5 => f_X10_skipAll_2 sS prg k o5)
def f_X10_skipAll (sS : (Nat → Int32) → Int32 → Int32) (prg : Nat → Int32) (x1 : Int32) : Int32 := f_X10_skipAll_2 sS prg 402 x1
def ok_X10_skipAll (sS : (Nat → Int32) → Int32 → Int32) (sSk : (Nat → Int32) → Int32 → Prop) (prg : Nat → Int32) (x1 : Int32) : Prop := ok_X10_skipAll_2 sS sSk prg 402 x1
set_option maxHeartbeats 4000000 in
set_option maxRecDepth 100000 in
theorem lp_X10_skipAll_2 (l : Launch) (g : GG) (a : Nat → Nat) (text : Nat → Int32) (size : Int32) (sv : Nat → Int32) (stb : Nat → Int32) (var : Nat → Int32) (tab : Nat → Int32) (szs : Nat → Int32) (prg : Nat → Int32) (cod : Nat → Int32) (words : Int32) (has : Int32) (fpl : Int32) (pos : Int32) (fault : Int32) (plc : Int32) (tol : Nat → Int32) (tmany : Int32) (trc : Nat → Int32) (rmany : Int32) (mark : Int64) (pil : Nat → Int32) (pmany : Int32) (mks : Nat → Int32) (cts : Nat → Int32) (turns : Int32) (stop : Int32) (sS : (Nat → Int32) → Int32 → Int32) (sSk : (Nat → Int32) → Int32 → Prop) (kM : Nat) (k_sS : Nat) (hk : k_sS + 1 ≤ kM ∧ 12 ≤ kM) (h_sS : ∀ (text : Nat → Int32) (size : Int32) (sv : Nat → Int32) (stb : Nat → Int32) (var : Nat → Int32) (tab : Nat → Int32) (szs : Nat → Int32) (prg : Nat → Int32) (cod : Nat → Int32) (words : Int32) (has : Int32) (fpl : Int32) (pos : Int32) (fault : Int32) (plc : Int32) (tol : Nat → Int32) (tmany : Int32) (trc : Nat → Int32) (rmany : Int32) (mark : Int64) (pil : Nat → Int32) (pmany : Int32) (mks : Nat → Int32) (cts : Nat → Int32) (turns : Int32) (stop : Int32) (y1 : Int32), sSk prg y1 → CI l g yX10_skipS cX10_skipS 5 (some .int) (rmN k_sS) (w_Mdl a g) [.ref (a 0), .int y1] (((((text, size), (sv, stb)), ((var, tab), szs)), (((prg, cod), words), ((has, fpl), pos))), ((((fault, plc), (tol, tmany)), ((trc, rmany), mark)), (((pil, pmany), mks), ((cts, turns), stop)))) (rb_X10_skipS (((((text, size), (sv, stb)), ((var, tab), szs)), (((prg, cod), words), ((has, fpl), pos))), ((((fault, plc), (tol, tmany)), ((trc, rmany), mark)), (((pil, pmany), mks), ((cts, turns), stop)))) (sS prg y1)))  {p : Program} {e : Env} {s : State} {m : MethodId} {args : Array Value} {below : List Frame} {meth : Method} {c : Code} {A : Nat → Prop} (hI : InM p s m args meth c RX10 cX10_skipAll 3 (some .int) g A) : ∀ (k : Nat) (y2 : Int32), (ok_X10_skipAll_2 sS sSk prg k y2) → ∀ (r : Int32 × S_Mdl), r = rb_X10_skipAll (((((text, size), (sv, stb)), ((var, tab), szs)), (((prg, cod), words), ((has, fpl), pos))), ((((fault, plc), (tol, tmany)), ((trc, rmany), mark)), (((pil, pmany), mks), ((cts, turns), stop)))) (f_X10_skipAll_2 sS prg k y2) → ∀ (H : Heap) (locs : List Loc), Wd g A s (w_Mdl a g (((((text, size), (sv, stb)), ((var, tab), szs)), (((prg, cod), words), ((has, fpl), pos))), ((((fault, plc), (tol, tmany)), ((trc, rmany), mark)), (((pil, pmany), mks), ((cts, turns), stop))))) H locs → ∀ (ls : Array Slot), lv_has ls 3 [(0, .ref (a 0)), (2, .int y2)] → W p l e (rmN kM) s m args below meth c H locs 0 0 (QI g (w_Mdl a g) A r below args s) (F0 m 2 ls []) := by
  have hx := hI.1
  have hb := hI.2.1
  intro k
  induction k with
  | zero =>
    intro y2 hok
    exact hok.elim
  | succ k ih =>
    intro y2 hok r hr H locs hw ls hl
    refine lv_aload_n hx hb dX10_skipAll_2 rfl (lv_at hl 0 rfl) ?_
    refine hI.get (v := .ref (a 7)) hw fg_X10_29 0 rfl rfl dX10_skipAll_3 ?_
    refine lv_iload_n hx hb dX10_skipAll_6 rfl (lv_at hl 1 rfl) ?_
    have hq1 := hok.1
    have hok := hok.2
    refine hI.iald hw 7 rfl hq1 dX10_skipAll_7 ?_
    refine lv_if_eq (tgt := 30) hx hb dX10_skipAll_8 (by decide) (fun c2 => ?_) (fun c2 => ?_)
    · have hok := ok_t c2 hok
      refine lv_iload_n hx hb dX10_skipAll_30 rfl (lv_at hl 1 rfl) ?_
      exact hI.retI (u := (((((text, size), (sv, stb)), ((var, tab), szs)), (((prg, cod), words), ((has, fpl), pos))), ((((fault, plc), (tol, tmany)), ((trc, rmany), mark)), (((pil, pmany), mks), ((cts, turns), stop))))) hw (hr.trans (congrArg (rb_X10_skipAll (((((text, size), (sv, stb)), ((var, tab), szs)), (((prg, cod), words), ((has, fpl), pos))), ((((fault, plc), (tol, tmany)), ((trc, rmany), mark)), (((pil, pmany), mks), ((cts, turns), stop))))) ((show f_X10_skipAll_2 sS prg (k + 1) y2 = (y2) from it_t c2 (rfl))))) dX10_skipAll_31
    · have hok := ok_f c2 hok
      refine lv_aload_n hx hb dX10_skipAll_11 rfl (lv_at hl 0 rfl) ?_
      refine hI.get (v := .ref (a 7)) hw fg_X10_29 0 rfl rfl dX10_skipAll_12 ?_
      refine lv_iload_n hx hb dX10_skipAll_15 rfl (lv_at hl 1 rfl) ?_
      have hq3 := hok.1
      have hok := hok.2
      refine hI.iald hw 7 rfl hq3 dX10_skipAll_16 ?_
      refine lv_iconst (v := (4 : Int32)) hx hb dX10_skipAll_17 (by decide) ?_
      refine lv_icmp_eq (tgt := 30) hx hb dX10_skipAll_18 (by decide) (fun c4 => ?_) (fun c4 => ?_)
      · have hok := ok_t c4 hok
        refine lv_iload_n hx hb dX10_skipAll_30 rfl (lv_at hl 1 rfl) ?_
        exact hI.retI (u := (((((text, size), (sv, stb)), ((var, tab), szs)), (((prg, cod), words), ((has, fpl), pos))), ((((fault, plc), (tol, tmany)), ((trc, rmany), mark)), (((pil, pmany), mks), ((cts, turns), stop))))) hw (hr.trans (congrArg (rb_X10_skipAll (((((text, size), (sv, stb)), ((var, tab), szs)), (((prg, cod), words), ((has, fpl), pos))), ((((fault, plc), (tol, tmany)), ((trc, rmany), mark)), (((pil, pmany), mks), ((cts, turns), stop))))) ((show f_X10_skipAll_2 sS prg (k + 1) y2 = (y2) from it_f c2 (it_t c4 (rfl)))))) dX10_skipAll_31
      · have hok := ok_f c4 hok
        refine lv_aload_n hx hb dX10_skipAll_21 rfl (lv_at hl 0 rfl) ?_
        refine lv_iload_n hx hb dX10_skipAll_22 rfl (lv_at hl 1 rfl) ?_
        have hq6 := hok.1
        have hok := hok.2
        obtain ⟨o5, ho5⟩ : ∃ o, o = sS prg y2 := ⟨_, rfl⟩
        refine hI.callI0 (wl := w_Mdl a g) (a := (((((text, size), (sv, stb)), ((var, tab), szs)), (((prg, cod), words), ((has, fpl), pos))), ((((fault, plc), (tol, tmany)), ((trc, rmany), mark)), (((pil, pmany), mks), ((cts, turns), stop))))) (r := rb_X10_skipS (((((text, size), (sv, stb)), ((var, tab), szs)), (((prg, cod), words), ((has, fpl), pos))), ((((fault, plc), (tol, tmany)), ((trc, rmany), mark)), (((pil, pmany), mks), ((cts, turns), stop)))) o5) (As := [.int y2]) (rest := []) hw (by rw [ho5]; exact h_sS text size sv stb var tab szs prg cod words has fpl pos fault plc tol tmany trc rmany mark pil pmany mks cts turns stop y2 hq6) ok_yX10_skipS ml_X10_199 (rm_ok (by omega) (by decide)) 0 rfl rfl rfl rfl hl.1 (Nat.le_of_ble_eq_true rfl) dX10_skipAll_23 ⟨Nat.zero_le _, Nat.zero_le _⟩ (fun H locs hw => ?_)
        have hw : Wd g A s (w_Mdl a g (((((text, size), (sv, stb)), ((var, tab), szs)), (((prg, cod), words), ((has, fpl), pos))), ((((fault, plc), (tol, tmany)), ((trc, rmany), mark)), (((pil, pmany), mks), ((cts, turns), stop))))) H locs := hw
        refine W.eq (g2 := F0 m 26 ls [.int o5]) rfl ?_
        have hok := bdP_use ho5 hok
        refine lv_istore_n (lv' := [(2, .int o5), (0, .ref (a 0))]) hx hb dX10_skipAll_26 rfl hl (by decide) rfl (fun ls hl => ?_)
        refine lv_goto (tgt := 2) hx hb dX10_skipAll_27 (by decide) ?_
        exact ih o5 hok r (hr.trans (congrArg (rb_X10_skipAll (((((text, size), (sv, stb)), ((var, tab), szs)), (((prg, cod), words), ((has, fpl), pos))), ((((fault, plc), (tol, tmany)), ((trc, rmany), mark)), (((pil, pmany), mks), ((cts, turns), stop))))) ((show f_X10_skipAll_2 sS prg (k + 1) y2 = f_X10_skipAll_2 sS prg k o5 from it_f c2 (it_f c4 (bd_of ho5 (rfl))))))) _ _ hw _ (lv_sub hl [1, 0] rfl)
set_option maxHeartbeats 4000000 in
set_option maxRecDepth 100000 in
theorem c_X10_skipAll (l : Launch) (g : GG) (a : Nat → Nat) (text : Nat → Int32) (size : Int32) (sv : Nat → Int32) (stb : Nat → Int32) (var : Nat → Int32) (tab : Nat → Int32) (szs : Nat → Int32) (prg : Nat → Int32) (cod : Nat → Int32) (words : Int32) (has : Int32) (fpl : Int32) (pos : Int32) (fault : Int32) (plc : Int32) (tol : Nat → Int32) (tmany : Int32) (trc : Nat → Int32) (rmany : Int32) (mark : Int64) (pil : Nat → Int32) (pmany : Int32) (mks : Nat → Int32) (cts : Nat → Int32) (turns : Int32) (stop : Int32) (sS : (Nat → Int32) → Int32 → Int32) (sSk : (Nat → Int32) → Int32 → Prop) (x1 : Int32) (kM : Nat) (k_sS : Nat) (hk : k_sS + 1 ≤ kM ∧ 12 ≤ kM) (h_sS : ∀ (text : Nat → Int32) (size : Int32) (sv : Nat → Int32) (stb : Nat → Int32) (var : Nat → Int32) (tab : Nat → Int32) (szs : Nat → Int32) (prg : Nat → Int32) (cod : Nat → Int32) (words : Int32) (has : Int32) (fpl : Int32) (pos : Int32) (fault : Int32) (plc : Int32) (tol : Nat → Int32) (tmany : Int32) (trc : Nat → Int32) (rmany : Int32) (mark : Int64) (pil : Nat → Int32) (pmany : Int32) (mks : Nat → Int32) (cts : Nat → Int32) (turns : Int32) (stop : Int32) (y1 : Int32), sSk prg y1 → CI l g yX10_skipS cX10_skipS 5 (some .int) (rmN k_sS) (w_Mdl a g) [.ref (a 0), .int y1] (((((text, size), (sv, stb)), ((var, tab), szs)), (((prg, cod), words), ((has, fpl), pos))), ((((fault, plc), (tol, tmany)), ((trc, rmany), mark)), (((pil, pmany), mks), ((cts, turns), stop)))) (rb_X10_skipS (((((text, size), (sv, stb)), ((var, tab), szs)), (((prg, cod), words), ((has, fpl), pos))), ((((fault, plc), (tol, tmany)), ((trc, rmany), mark)), (((pil, pmany), mks), ((cts, turns), stop)))) (sS prg y1))) (hok : ok_X10_skipAll sS sSk prg x1) : CI l g yX10_skipAll cX10_skipAll 3 (some .int) (rmN kM) (w_Mdl a g) [.ref (a 0), .int x1] (((((text, size), (sv, stb)), ((var, tab), szs)), (((prg, cod), words), ((has, fpl), pos))), ((((fault, plc), (tol, tmany)), ((trc, rmany), mark)), (((pil, pmany), mks), ((cts, turns), stop)))) (rb_X10_skipAll (((((text, size), (sv, stb)), ((var, tab), szs)), (((prg, cod), words), ((has, fpl), pos))), ((((fault, plc), (tol, tmany)), ((trc, rmany), mark)), (((pil, pmany), mks), ((cts, turns), stop)))) (f_X10_skipAll sS prg x1)) := by
  refine CI.mk (by decide) (Nat.le_of_ble_eq_true rfl) ?_
  intro p e s m below meth c A ls hI hw hl
  have hx := hI.1
  have hb := hI.2.1
  obtain ⟨r, hr⟩ : ∃ r, r = rb_X10_skipAll (((((text, size), (sv, stb)), ((var, tab), szs)), (((prg, cod), words), ((has, fpl), pos))), ((((fault, plc), (tol, tmany)), ((trc, rmany), mark)), (((pil, pmany), mks), ((cts, turns), stop)))) (f_X10_skipAll sS prg x1) := ⟨_, rfl⟩
  rw [← hr]
  have hl : lv_has ls 3 [(0, .ref (a 0)), (1, .int x1)] := hl
  refine lv_iload_n hx hb dX10_skipAll_0 rfl (lv_at hl 1 rfl) ?_
  refine lv_istore_n (lv' := [(2, .int x1), (0, .ref (a 0)), (1, .int x1)]) hx hb dX10_skipAll_1 rfl hl (by decide) rfl (fun ls hl => ?_)
  exact lp_X10_skipAll_2 l g a text size sv stb var tab szs prg cod words has fpl pos fault plc tol tmany trc rmany mark pil pmany mks cts turns stop sS sSk kM k_sS hk h_sS hI 402 x1 hok r (hr.trans (congrArg (rb_X10_skipAll (((((text, size), (sv, stb)), ((var, tab), szs)), (((prg, cod), words), ((has, fpl), pos))), ((((fault, plc), (tol, tmany)), ((trc, rmany), mark)), (((pil, pmany), mks), ((cts, turns), stop))))) ((show f_X10_skipAll sS prg x1 = f_X10_skipAll_2 sS prg 402 x1 from rfl)))) _ _ hw _ (lv_sub hl [1, 0] rfl)
def skS : Nat → (Nat → Int32) → Int32 → Int32
  | 0 => fun prg _ => (0)
  | d + 1 => f_X10_skipS (f_X10_skipAll (skS d))
def skA (d : Nat) : (Nat → Int32) → Int32 → Int32 := f_X10_skipAll (skS d)
def skSk : Nat → (Nat → Int32) → Int32 → Prop
  | 0 => fun _ _ => False
  | d + 1 => ok_X10_skipS (skA d) (ok_X10_skipAll (skS d) (skSk d))
def skAk (d : Nat) : (Nat → Int32) → Int32 → Prop := ok_X10_skipAll (skS d) (skSk d)
theorem k_skS (l : Launch) (g : GG) (a : Nat → Nat) : ∀ (d : Nat) (text : Nat → Int32) (size : Int32) (sv : Nat → Int32) (stb : Nat → Int32) (var : Nat → Int32) (tab : Nat → Int32) (szs : Nat → Int32) (prg : Nat → Int32) (cod : Nat → Int32) (words : Int32) (has : Int32) (fpl : Int32) (pos : Int32) (fault : Int32) (plc : Int32) (tol : Nat → Int32) (tmany : Int32) (trc : Nat → Int32) (rmany : Int32) (mark : Int64) (pil : Nat → Int32) (pmany : Int32) (mks : Nat → Int32) (cts : Nat → Int32) (turns : Int32) (stop : Int32) (y1 : Int32), skSk d prg y1 → CI l g yX10_skipS cX10_skipS 5 (some .int) (rmN (2 * d + 12)) (w_Mdl a g) [.ref (a 0), .int y1] (((((text, size), (sv, stb)), ((var, tab), szs)), (((prg, cod), words), ((has, fpl), pos))), ((((fault, plc), (tol, tmany)), ((trc, rmany), mark)), (((pil, pmany), mks), ((cts, turns), stop)))) (rb_X10_skipS (((((text, size), (sv, stb)), ((var, tab), szs)), (((prg, cod), words), ((has, fpl), pos))), ((((fault, plc), (tol, tmany)), ((trc, rmany), mark)), (((pil, pmany), mks), ((cts, turns), stop)))) (skS d prg y1)) := by
  intro d
  induction d with
  | zero =>
    intro text size sv stb var tab szs prg cod words has fpl pos fault plc tol tmany trc rmany mark pil pmany mks cts turns stop y1 hok
    exact hok.elim
  | succ d ih =>
    intro text size sv stb var tab szs prg cod words has fpl pos fault plc tol tmany trc rmany mark pil pmany mks cts turns stop y1 hok
    exact c_X10_skipS l g a text size sv stb var tab szs prg cod words has fpl pos fault plc tol tmany trc rmany mark pil pmany mks cts turns stop (skA d) (skAk d) y1 (2 * (d + 1) + 12) (2 * d + 13) (by omega) (fun text size sv stb var tab szs prg cod words has fpl pos fault plc tol tmany trc rmany mark pil pmany mks cts turns stop y1 hz => c_X10_skipAll l g a text size sv stb var tab szs prg cod words has fpl pos fault plc tol tmany trc rmany mark pil pmany mks cts turns stop (skS d) (skSk d) y1 (2 * d + 13) (2 * d + 12) (by omega) (fun text size sv stb var tab szs prg cod words has fpl pos fault plc tol tmany trc rmany mark pil pmany mks cts turns stop y1 hz => ih text size sv stb var tab szs prg cod words has fpl pos fault plc tol tmany trc rmany mark pil pmany mks cts turns stop y1 hz) hz) hok
theorem k_skA (l : Launch) (g : GG) (a : Nat → Nat) : ∀ (d : Nat) (text : Nat → Int32) (size : Int32) (sv : Nat → Int32) (stb : Nat → Int32) (var : Nat → Int32) (tab : Nat → Int32) (szs : Nat → Int32) (prg : Nat → Int32) (cod : Nat → Int32) (words : Int32) (has : Int32) (fpl : Int32) (pos : Int32) (fault : Int32) (plc : Int32) (tol : Nat → Int32) (tmany : Int32) (trc : Nat → Int32) (rmany : Int32) (mark : Int64) (pil : Nat → Int32) (pmany : Int32) (mks : Nat → Int32) (cts : Nat → Int32) (turns : Int32) (stop : Int32) (y1 : Int32), skAk d prg y1 → CI l g yX10_skipAll cX10_skipAll 3 (some .int) (rmN (2 * d + 13)) (w_Mdl a g) [.ref (a 0), .int y1] (((((text, size), (sv, stb)), ((var, tab), szs)), (((prg, cod), words), ((has, fpl), pos))), ((((fault, plc), (tol, tmany)), ((trc, rmany), mark)), (((pil, pmany), mks), ((cts, turns), stop)))) (rb_X10_skipAll (((((text, size), (sv, stb)), ((var, tab), szs)), (((prg, cod), words), ((has, fpl), pos))), ((((fault, plc), (tol, tmany)), ((trc, rmany), mark)), (((pil, pmany), mks), ((cts, turns), stop)))) (skA d prg y1)) := by
  intro d text size sv stb var tab szs prg cod words has fpl pos fault plc tol tmany trc rmany mark pil pmany mks cts turns stop y1 hok
  exact c_X10_skipAll l g a text size sv stb var tab szs prg cod words has fpl pos fault plc tol tmany trc rmany mark pil pmany mks cts turns stop (skS d) (skSk d) y1 (2 * d + 13) (2 * d + 12) (by omega) (fun text size sv stb var tab szs prg cod words has fpl pos fault plc tol tmany trc rmany mark pil pmany mks cts turns stop y1 hz => k_skS l g a d text size sv stb var tab szs prg cod words has fpl pos fault plc tol tmany trc rmany mark pil pmany mks cts turns stop y1 hz) hok
