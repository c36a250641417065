def rb_X10_valueOf (σ : S_Mdl) (o : Int32 × Int32) : Int32 × S_Mdl := (o.1, (((((σ.1.1.1.1.1, σ.1.1.1.1.2), (σ.1.1.1.2.1, σ.1.1.1.2.2)), ((σ.1.1.2.1.1, σ.1.1.2.1.2), σ.1.1.2.2)), (((σ.1.2.1.1.1, σ.1.2.1.1.2), σ.1.2.1.2), ((σ.1.2.2.1.1, σ.1.2.2.1.2), σ.1.2.2.2))), ((((σ.2.1.1.1.1, σ.2.1.1.1.2), (σ.2.1.1.2.1, σ.2.1.1.2.2)), ((σ.2.1.2.1.1, σ.2.1.2.1.2), σ.2.1.2.2)), (((σ.2.2.1.1.1, σ.2.2.1.1.2), σ.2.2.1.2), ((σ.2.2.2.1.1, σ.2.2.2.1.2), o.2)))))
def f_X10_valueOf (vE : (Nat → Int32) → (Nat → Int32) → (Nat → Int32) → (Nat → Int32) → Int32 → Int32 → (Int32 × Int32)) (var : Nat → Int32) (tab : Nat → Int32) (szs : Nat → Int32) (prg : Nat → Int32) (stop : Int32) (x1 : Int32) : Int32 × Int32 := bd (prg x1.toNatClampNeg) (fun v2 => if v2 = (20 : Int32) then (prg (x1 + (1 : Int32)).toNatClampNeg, stop) else if v2 = (21 : Int32) then (var (prg (x1 + (1 : Int32)).toNatClampNeg).toNatClampNeg, stop) else if v2 = (35 : Int32) then bd (prg (x1 + (1 : Int32)).toNatClampNeg) (fun v25 => bd (vE var tab szs prg stop (x1 + (2 : Int32))) (fun o26 => bd (f_X10_placeOf szs v25 o26.1) (fun o28 => (tab (((16 : Int32) * v25) + o28).toNatClampNeg, o26.2)))) else bd (vE var tab szs prg stop (x1 + (1 : Int32))) (fun o6 => if o6.2 = 0 then if v2 = (32 : Int32) then bd (f_X10_make o6.2 (32 : Int32) o6.1 (0 : Int32)) (fun o23 => (o23.1, o23.2)) else bd (f_X10_behind prg (x1 + (1 : Int32))) (fun o11 => bd (vE var tab szs prg o6.2 o11) (fun o13 => if o13.2 = 0 then if v2 = (36 : Int32) then bd (f_X10_behind prg o11) (fun o18 => bd (vE var tab szs prg o13.2 o18) (fun o20 => if o6.1 = 0 then (o20.1, o20.2) else (o13.1, o20.2))) else bd (f_X10_make o13.2 v2 o6.1 o13.1) (fun o17 => (o17.1, o17.2)) else ((0 : Int32), o13.2))) else bd (f_X10_make o6.2 (32 : Int32) o6.1 (0 : Int32)) (fun o9 => (o9.1, o9.2))))
def ok_X10_valueOf (vE : (Nat → Int32) → (Nat → Int32) → (Nat → Int32) → (Nat → Int32) → Int32 → Int32 → (Int32 × Int32)) (vEk : (Nat → Int32) → (Nat → Int32) → (Nat → Int32) → (Nat → Int32) → Int32 → Int32 → Prop) (var : Nat → Int32) (tab : Nat → Int32) (szs : Nat → Int32) (prg : Nat → Int32) (stop : Int32) (x1 : Int32) : Prop := vp_in x1 400 ∧ (bdP (prg x1.toNatClampNeg) (fun v2 => if v2 = (20 : Int32) then vp_in (x1 + (1 : Int32)) 400 ∧ True else if v2 = (21 : Int32) then vp_in (x1 + (1 : Int32)) 400 ∧ (vp_in (prg (x1 + (1 : Int32)).toNatClampNeg) 10 ∧ True) else if v2 = (35 : Int32) then vp_in (x1 + (1 : Int32)) 400 ∧ (bdP (prg (x1 + (1 : Int32)).toNatClampNeg) (fun v25 => vEk var tab szs prg stop (x1 + (2 : Int32)) ∧ (bdP (vE var tab szs prg stop (x1 + (2 : Int32))) (fun o26 => SZ szs ∧ (vp_in v25 4 ∧ (bdP (f_X10_placeOf szs v25 o26.1) (fun o28 => vp_in (((16 : Int32) * v25) + o28) 64 ∧ True))))))) else vEk var tab szs prg stop (x1 + (1 : Int32)) ∧ (bdP (vE var tab szs prg stop (x1 + (1 : Int32))) (fun o6 => if o6.2 = 0 then if v2 = (32 : Int32) then bdP (f_X10_make o6.2 (32 : Int32) o6.1 (0 : Int32)) (fun o23 => True) else ok_X10_behind prg (x1 + (1 : Int32)) ∧ (bdP (f_X10_behind prg (x1 + (1 : Int32))) (fun o11 => vEk var tab szs prg o6.2 o11 ∧ (bdP (vE var tab szs prg o6.2 o11) (fun o13 => if o13.2 = 0 then if v2 = (36 : Int32) then ok_X10_behind prg o11 ∧ (bdP (f_X10_behind prg o11) (fun o18 => vEk var tab szs prg o13.2 o18 ∧ (bdP (vE var tab szs prg o13.2 o18) (fun o20 => if o6.1 = 0 then True else True)))) else bdP (f_X10_make o13.2 v2 o6.1 o13.1) (fun o17 => True) else True)))) else bdP (f_X10_make o6.2 (32 : Int32) o6.1 (0 : Int32)) (fun o9 => True)))))
set_option maxHeartbeats 4000000 in
set_option maxRecDepth 100000 in
theorem c_X10_valueOf (l : Launch) (g : GG) (a : Nat → Nat) (text : Nat → Int32) (size : Int32) (sv : Nat → Int32) (stb : Nat → Int32) (var : Nat → Int32) (tab : Nat → Int32) (szs : Nat → Int32) (prg : Nat → Int32) (cod : Nat → Int32) (words : Int32) (has : Int32) (fpl : Int32) (pos : Int32) (fault : Int32) (plc : Int32) (tol : Nat → Int32) (tmany : Int32) (trc : Nat → Int32) (rmany : Int32) (mark : Int64) (pil : Nat → Int32) (pmany : Int32) (mks : Nat → Int32) (cts : Nat → Int32) (turns : Int32) (stop : Int32) (vE : (Nat → Int32) → (Nat → Int32) → (Nat → Int32) → (Nat → Int32) → Int32 → Int32 → (Int32 × Int32)) (vEk : (Nat → Int32) → (Nat → Int32) → (Nat → Int32) → (Nat → Int32) → Int32 → Int32 → Prop) (x1 : Int32) (kM : Nat) (k_vE : Nat) (hk : k_vE + 1 ≤ kM ∧ 12 ≤ kM) (h_vE : ∀ (text : Nat → Int32) (size : Int32) (sv : Nat → Int32) (stb : Nat → Int32) (var : Nat → Int32) (tab : Nat → Int32) (szs : Nat → Int32) (prg : Nat → Int32) (cod : Nat → Int32) (words : Int32) (has : Int32) (fpl : Int32) (pos : Int32) (fault : Int32) (plc : Int32) (tol : Nat → Int32) (tmany : Int32) (trc : Nat → Int32) (rmany : Int32) (mark : Int64) (pil : Nat → Int32) (pmany : Int32) (mks : Nat → Int32) (cts : Nat → Int32) (turns : Int32) (stop : Int32) (y1 : Int32), vEk var tab szs prg stop y1 → CI l g yX10_valueOf cX10_valueOf 7 (some .int) (rmN k_vE) (w_Mdl a g) [.ref (a 0), .int y1] (((((text, size), (sv, stb)), ((var, tab), szs)), (((prg, cod), words), ((has, fpl), pos))), ((((fault, plc), (tol, tmany)), ((trc, rmany), mark)), (((pil, pmany), mks), ((cts, turns), stop)))) (rb_X10_valueOf (((((text, size), (sv, stb)), ((var, tab), szs)), (((prg, cod), words), ((has, fpl), pos))), ((((fault, plc), (tol, tmany)), ((trc, rmany), mark)), (((pil, pmany), mks), ((cts, turns), stop)))) (vE var tab szs prg stop y1))) (hok : ok_X10_valueOf vE vEk var tab szs prg stop x1) : CI l g yX10_valueOf cX10_valueOf 7 (some .int) (rmN kM) (w_Mdl a g) [.ref (a 0), .int x1] (((((text, size), (sv, stb)), ((var, tab), szs)), (((prg, cod), words), ((has, fpl), pos))), ((((fault, plc), (tol, tmany)), ((trc, rmany), mark)), (((pil, pmany), mks), ((cts, turns), stop)))) (rb_X10_valueOf (((((text, size), (sv, stb)), ((var, tab), szs)), (((prg, cod), words), ((has, fpl), pos))), ((((fault, plc), (tol, tmany)), ((trc, rmany), mark)), (((pil, pmany), mks), ((cts, turns), stop)))) (f_X10_valueOf vE var tab szs prg stop x1)) := by
  refine CI.mk (by decide) (Nat.le_of_ble_eq_true rfl) ?_
  intro p e s m below meth c A ls hI hw hl
  have hx := hI.1
  have hb := hI.2.1
  obtain ⟨r, hr⟩ : ∃ r, r = rb_X10_valueOf (((((text, size), (sv, stb)), ((var, tab), szs)), (((prg, cod), words), ((has, fpl), pos))), ((((fault, plc), (tol, tmany)), ((trc, rmany), mark)), (((pil, pmany), mks), ((cts, turns), stop)))) (f_X10_valueOf vE var tab szs prg stop x1) := ⟨_, rfl⟩
  rw [← hr]
  have hl : lv_has ls 7 [(0, .ref (a 0)), (1, .int x1)] := hl
  refine lv_aload_n hx hb dX10_valueOf_0 rfl (lv_at hl 0 rfl) ?_
  refine hI.get (v := .ref (a 7)) hw fg_X10_29 0 rfl rfl dX10_valueOf_1 ?_
  refine lv_iload_n hx hb dX10_valueOf_4 rfl (lv_at hl 1 rfl) ?_
  have hq1 := hok.1
  have hok := hok.2
  refine hI.iald hw 7 rfl hq1 dX10_valueOf_5 ?_
  refine lv_topi (fun v2 hv2 => ?_)
  have hok := bdP_use hv2 hok
  refine lv_istore_n (lv' := [(2, .int v2), (0, .ref (a 0)), (1, .int x1)]) hx hb dX10_valueOf_6 rfl hl (by decide) rfl (fun ls hl => ?_)
  refine lv_iload_n hx hb dX10_valueOf_7 rfl (lv_at hl 0 rfl) ?_
  refine lv_bipush (v := (20 : Int32)) hx hb dX10_valueOf_8 (by decide) ?_
  refine lv_icmp_ne (tgt := 22) hx hb dX10_valueOf_10 (by decide) (fun c3 => ?_) (fun c3 => ?_)
  · have hok := ok_f c3 hok
    refine lv_iload_n hx hb dX10_valueOf_22 rfl (lv_at hl 0 rfl) ?_
    refine lv_bipush (v := (21 : Int32)) hx hb dX10_valueOf_23 (by decide) ?_
    refine lv_icmp_ne (tgt := 42) hx hb dX10_valueOf_25 (by decide) (fun c4 => ?_) (fun c4 => ?_)
    · have hok := ok_f c4 hok
      refine lv_iload_n hx hb dX10_valueOf_42 rfl (lv_at hl 0 rfl) ?_
      refine lv_bipush (v := (35 : Int32)) hx hb dX10_valueOf_43 (by decide) ?_
      refine lv_icmp_ne (tgt := 84) hx hb dX10_valueOf_45 (by decide) (fun c5 => ?_) (fun c5 => ?_)
      · have hok := ok_f c5 hok
        refine lv_aload_n hx hb dX10_valueOf_84 rfl (lv_at hl 1 rfl) ?_
        refine lv_iload_n hx hb dX10_valueOf_85 rfl (lv_at hl 2 rfl) ?_
        refine lv_iconst (v := (1 : Int32)) hx hb dX10_valueOf_86 (by decide) ?_
        refine lv_iadd hx hb dX10_valueOf_87 ?_
        have hq7 := hok.1
        have hok := hok.2
        obtain ⟨o6, ho6⟩ : ∃ o, o = vE var tab szs prg stop (x1 + (1 : Int32)) := ⟨_, rfl⟩
        refine hI.callI0 (wl := w_Mdl a g) (a := (((((text, size), (sv, stb)), ((var, tab), szs)), (((prg, cod), words), ((has, fpl), pos))), ((((fault, plc), (tol, tmany)), ((trc, rmany), mark)), (((pil, pmany), mks), ((cts, turns), stop))))) (r := rb_X10_valueOf (((((text, size), (sv, stb)), ((var, tab), szs)), (((prg, cod), words), ((has, fpl), pos))), ((((fault, plc), (tol, tmany)), ((trc, rmany), mark)), (((pil, pmany), mks), ((cts, turns), stop)))) o6) (As := [.int (x1 + (1 : Int32))]) (rest := []) hw (by rw [ho6]; exact h_vE text size sv stb var tab szs prg cod words has fpl pos fault plc tol tmany trc rmany mark pil pmany mks cts turns stop (x1 + (1 : Int32)) hq7) ok_yX10_valueOf ml_X10_193 (rm_ok (by omega) (by decide)) 0 rfl rfl rfl rfl hl.1 (Nat.le_of_ble_eq_true rfl) dX10_valueOf_88 ⟨Nat.zero_le _, Nat.zero_le _⟩ (fun H locs hw => ?_)
        have hw : Wd g A s (w_Mdl a g (((((text, size), (sv, stb)), ((var, tab), szs)), (((prg, cod), words), ((has, fpl), pos))), ((((fault, plc), (tol, tmany)), ((trc, rmany), mark)), (((pil, pmany), mks), ((cts, turns), o6.2))))) H locs := hw
        refine W.eq (g2 := F0 m 91 ls [.int o6.1]) rfl ?_
        have hok := bdP_use ho6 hok
        refine lv_istore_n (lv' := [(3, .int o6.1), (2, .int v2), (0, .ref (a 0)), (1, .int x1)]) hx hb dX10_valueOf_91 rfl hl (by decide) rfl (fun ls hl => ?_)
        refine lv_aload_n hx hb dX10_valueOf_92 rfl (lv_at hl 2 rfl) ?_
        refine hI.get (v := .int o6.2) hw fg_X10_146 0 rfl rfl dX10_valueOf_93 ?_
        refine lv_if_ne (tgt := 105) hx hb dX10_valueOf_96 (by decide) (fun c8 => ?_) (fun c8 => ?_)
        · have hok := ok_f c8 hok
          refine lv_aload_n hx hb dX10_valueOf_105 rfl (lv_at hl 2 rfl) ?_
          refine lv_bipush (v := (32 : Int32)) hx hb dX10_valueOf_106 (by decide) ?_
          refine lv_iload_n hx hb dX10_valueOf_108 rfl (lv_at hl 0 rfl) ?_
          refine lv_iconst (v := (0 : Int32)) hx hb dX10_valueOf_109 (by decide) ?_
          obtain ⟨o9, ho9⟩ : ∃ o, o = f_X10_make o6.2 (32 : Int32) o6.1 (0 : Int32) := ⟨_, rfl⟩
          refine hI.callI0 (wl := w_Mdl a g) (a := (((((text, size), (sv, stb)), ((var, tab), szs)), (((prg, cod), words), ((has, fpl), pos))), ((((fault, plc), (tol, tmany)), ((trc, rmany), mark)), (((pil, pmany), mks), ((cts, turns), o6.2))))) (r := rb_X10_make (((((text, size), (sv, stb)), ((var, tab), szs)), (((prg, cod), words), ((has, fpl), pos))), ((((fault, plc), (tol, tmany)), ((trc, rmany), mark)), (((pil, pmany), mks), ((cts, turns), o6.2)))) o9) (As := [.int (32 : Int32), .int o6.1, .int (0 : Int32)]) (rest := []) hw (by rw [ho9]; exact c_X10_make l g a text size sv stb var tab szs prg cod words has fpl pos fault plc tol tmany trc rmany mark pil pmany mks cts turns o6.2 (32 : Int32) o6.1 (0 : Int32) ) ok_yX10_make ml_X10_177 (rm_ok (by omega) (by decide)) 0 rfl rfl rfl rfl hl.1 (Nat.le_of_ble_eq_true rfl) dX10_valueOf_110 ⟨Nat.zero_le _, Nat.zero_le _⟩ (fun H locs hw => ?_)
          have hw : Wd g A s (w_Mdl a g (((((text, size), (sv, stb)), ((var, tab), szs)), (((prg, cod), words), ((has, fpl), pos))), ((((fault, plc), (tol, tmany)), ((trc, rmany), mark)), (((pil, pmany), mks), ((cts, turns), o9.2))))) H locs := hw
          refine W.eq (g2 := F0 m 113 ls [.int o9.1]) rfl ?_
          have hok := bdP_use ho9 hok
          exact hI.retI (u := (((((text, size), (sv, stb)), ((var, tab), szs)), (((prg, cod), words), ((has, fpl), pos))), ((((fault, plc), (tol, tmany)), ((trc, rmany), mark)), (((pil, pmany), mks), ((cts, turns), o9.2))))) hw (hr.trans (congrArg (rb_X10_valueOf (((((text, size), (sv, stb)), ((var, tab), szs)), (((prg, cod), words), ((has, fpl), pos))), ((((fault, plc), (tol, tmany)), ((trc, rmany), mark)), (((pil, pmany), mks), ((cts, turns), stop))))) ((show f_X10_valueOf vE var tab szs prg stop x1 = (o9.1, o9.2) from bd_of hv2 (it_f c3 (it_f c4 (it_f c5 (bd_of ho6 (it_f c8 (bd_of ho9 (rfl))))))))))) dX10_valueOf_113
        · have hok := ok_t c8 hok
          refine lv_iload_n hx hb dX10_valueOf_99 rfl (lv_at hl 1 rfl) ?_
          refine lv_bipush (v := (32 : Int32)) hx hb dX10_valueOf_100 (by decide) ?_
          refine lv_icmp_ne (tgt := 114) hx hb dX10_valueOf_102 (by decide) (fun c10 => ?_) (fun c10 => ?_)
          · have hok := ok_f c10 hok
            refine lv_aload_n hx hb dX10_valueOf_114 rfl (lv_at hl 2 rfl) ?_
            refine lv_aload_n hx hb dX10_valueOf_115 rfl (lv_at hl 2 rfl) ?_
            refine hI.get (v := .ref (a 7)) hw fg_X10_29 0 rfl rfl dX10_valueOf_116 ?_
            refine lv_iload_n hx hb dX10_valueOf_119 rfl (lv_at hl 3 rfl) ?_
            refine lv_iconst (v := (1 : Int32)) hx hb dX10_valueOf_120 (by decide) ?_
            refine lv_iadd hx hb dX10_valueOf_121 ?_
            have hq12 := hok.1
            have hok := hok.2
            obtain ⟨o11, ho11⟩ : ∃ o, o = f_X10_behind prg (x1 + (1 : Int32)) := ⟨_, rfl⟩
            refine hI.callI0 (wl := w_Mdl a g) (a := (((((text, size), (sv, stb)), ((var, tab), szs)), (((prg, cod), words), ((has, fpl), pos))), ((((fault, plc), (tol, tmany)), ((trc, rmany), mark)), (((pil, pmany), mks), ((cts, turns), o6.2))))) (r := rb_X10_behindP (((((text, size), (sv, stb)), ((var, tab), szs)), (((prg, cod), words), ((has, fpl), pos))), ((((fault, plc), (tol, tmany)), ((trc, rmany), mark)), (((pil, pmany), mks), ((cts, turns), o6.2)))) o11) (As := [.ref (a 7), .int (x1 + (1 : Int32))]) (rest := []) hw (by rw [ho11]; exact c_X10_behindP l g a text size sv stb var tab szs prg cod words has fpl pos fault plc tol tmany trc rmany mark pil pmany mks cts turns o6.2 (x1 + (1 : Int32)) hq12) ok_yX10_behind ml_X10_107 (rm_ok (by omega) (by decide)) 0 rfl rfl rfl rfl hl.1 (Nat.le_of_ble_eq_true rfl) dX10_valueOf_122 ⟨Nat.zero_le _, Nat.zero_le _⟩ (fun H locs hw => ?_)
            have hw : Wd g A s (w_Mdl a g (((((text, size), (sv, stb)), ((var, tab), szs)), (((prg, cod), words), ((has, fpl), pos))), ((((fault, plc), (tol, tmany)), ((trc, rmany), mark)), (((pil, pmany), mks), ((cts, turns), o6.2))))) H locs := hw
            refine W.eq (g2 := F0 m 125 ls [.int o11]) rfl ?_
            have hok := bdP_use ho11 hok
            refine lv_istore (lv' := [(4, .int o11), (3, .int o6.1), (2, .int v2), (0, .ref (a 0)), (1, .int x1)]) hx hb dX10_valueOf_125 hl (by decide) rfl (fun ls hl => ?_)
            refine lv_aload_n hx hb dX10_valueOf_127 rfl (lv_at hl 3 rfl) ?_
            refine lv_iload hx hb dX10_valueOf_128 (lv_at hl 0 rfl) ?_
            have hq14 := hok.1
            have hok := hok.2
            obtain ⟨o13, ho13⟩ : ∃ o, o = vE var tab szs prg o6.2 o11 := ⟨_, rfl⟩
            refine hI.callI0 (wl := w_Mdl a g) (a := (((((text, size), (sv, stb)), ((var, tab), szs)), (((prg, cod), words), ((has, fpl), pos))), ((((fault, plc), (tol, tmany)), ((trc, rmany), mark)), (((pil, pmany), mks), ((cts, turns), o6.2))))) (r := rb_X10_valueOf (((((text, size), (sv, stb)), ((var, tab), szs)), (((prg, cod), words), ((has, fpl), pos))), ((((fault, plc), (tol, tmany)), ((trc, rmany), mark)), (((pil, pmany), mks), ((cts, turns), o6.2)))) o13) (As := [.int o11]) (rest := []) hw (by rw [ho13]; exact h_vE text size sv stb var tab szs prg cod words has fpl pos fault plc tol tmany trc rmany mark pil pmany mks cts turns o6.2 o11 hq14) ok_yX10_valueOf ml_X10_193 (rm_ok (by omega) (by decide)) 0 rfl rfl rfl rfl hl.1 (Nat.le_of_ble_eq_true rfl) dX10_valueOf_130 ⟨Nat.zero_le _, Nat.zero_le _⟩ (fun H locs hw => ?_)
            have hw : Wd g A s (w_Mdl a g (((((text, size), (sv, stb)), ((var, tab), szs)), (((prg, cod), words), ((has, fpl), pos))), ((((fault, plc), (tol, tmany)), ((trc, rmany), mark)), (((pil, pmany), mks), ((cts, turns), o13.2))))) H locs := hw
            refine W.eq (g2 := F0 m 133 ls [.int o13.1]) rfl ?_
            have hok := bdP_use ho13 hok
            refine lv_istore (lv' := [(5, .int o13.1), (4, .int o11), (3, .int o6.1), (2, .int v2), (0, .ref (a 0)), (1, .int x1)]) hx hb dX10_valueOf_133 hl (by decide) rfl (fun ls hl => ?_)
            refine lv_aload_n hx hb dX10_valueOf_135 rfl (lv_at hl 4 rfl) ?_
            refine hI.get (v := .int o13.2) hw fg_X10_146 0 rfl rfl dX10_valueOf_136 ?_
            refine lv_if_eq (tgt := 144) hx hb dX10_valueOf_139 (by decide) (fun c15 => ?_) (fun c15 => ?_)
            · have hok := ok_t c15 hok
              refine lv_iload_n hx hb dX10_valueOf_144 rfl (lv_at hl 3 rfl) ?_
              refine lv_bipush (v := (36 : Int32)) hx hb dX10_valueOf_145 (by decide) ?_
              refine lv_icmp_ne (tgt := 178) hx hb dX10_valueOf_147 (by decide) (fun c16 => ?_) (fun c16 => ?_)
              · have hok := ok_f c16 hok
                refine lv_aload_n hx hb dX10_valueOf_178 rfl (lv_at hl 4 rfl) ?_
                refine lv_iload_n hx hb dX10_valueOf_179 rfl (lv_at hl 3 rfl) ?_
                refine lv_iload_n hx hb dX10_valueOf_180 rfl (lv_at hl 2 rfl) ?_
                refine lv_iload hx hb dX10_valueOf_181 (lv_at hl 0 rfl) ?_
                obtain ⟨o17, ho17⟩ : ∃ o, o = f_X10_make o13.2 v2 o6.1 o13.1 := ⟨_, rfl⟩
                refine hI.callI0 (wl := w_Mdl a g) (a := (((((text, size), (sv, stb)), ((var, tab), szs)), (((prg, cod), words), ((has, fpl), pos))), ((((fault, plc), (tol, tmany)), ((trc, rmany), mark)), (((pil, pmany), mks), ((cts, turns), o13.2))))) (r := rb_X10_make (((((text, size), (sv, stb)), ((var, tab), szs)), (((prg, cod), words), ((has, fpl), pos))), ((((fault, plc), (tol, tmany)), ((trc, rmany), mark)), (((pil, pmany), mks), ((cts, turns), o13.2)))) o17) (As := [.int v2, .int o6.1, .int o13.1]) (rest := []) hw (by rw [ho17]; exact c_X10_make l g a text size sv stb var tab szs prg cod words has fpl pos fault plc tol tmany trc rmany mark pil pmany mks cts turns o13.2 v2 o6.1 o13.1 ) ok_yX10_make ml_X10_177 (rm_ok (by omega) (by decide)) 0 rfl rfl rfl rfl hl.1 (Nat.le_of_ble_eq_true rfl) dX10_valueOf_183 ⟨Nat.zero_le _, Nat.zero_le _⟩ (fun H locs hw => ?_)
                have hw : Wd g A s (w_Mdl a g (((((text, size), (sv, stb)), ((var, tab), szs)), (((prg, cod), words), ((has, fpl), pos))), ((((fault, plc), (tol, tmany)), ((trc, rmany), mark)), (((pil, pmany), mks), ((cts, turns), o17.2))))) H locs := hw
                refine W.eq (g2 := F0 m 186 ls [.int o17.1]) rfl ?_
                have hok := bdP_use ho17 hok
                exact hI.retI (u := (((((text, size), (sv, stb)), ((var, tab), szs)), (((prg, cod), words), ((has, fpl), pos))), ((((fault, plc), (tol, tmany)), ((trc, rmany), mark)), (((pil, pmany), mks), ((cts, turns), o17.2))))) hw (hr.trans (congrArg (rb_X10_valueOf (((((text, size), (sv, stb)), ((var, tab), szs)), (((prg, cod), words), ((has, fpl), pos))), ((((fault, plc), (tol, tmany)), ((trc, rmany), mark)), (((pil, pmany), mks), ((cts, turns), stop))))) ((show f_X10_valueOf vE var tab szs prg stop x1 = (o17.1, o17.2) from bd_of hv2 (it_f c3 (it_f c4 (it_f c5 (bd_of ho6 (it_t c8 (it_f c10 (bd_of ho11 (bd_of ho13 (it_t c15 (it_f c16 (bd_of ho17 (rfl)))))))))))))))) dX10_valueOf_186
              · have hok := ok_t c16 hok
                refine lv_aload_n hx hb dX10_valueOf_150 rfl (lv_at hl 4 rfl) ?_
                refine lv_aload_n hx hb dX10_valueOf_151 rfl (lv_at hl 4 rfl) ?_
                refine lv_aload_n hx hb dX10_valueOf_152 rfl (lv_at hl 4 rfl) ?_
                refine hI.get (v := .ref (a 7)) hw fg_X10_29 0 rfl rfl dX10_valueOf_153 ?_
                refine lv_iload hx hb dX10_valueOf_156 (lv_at hl 1 rfl) ?_
                have hq19 := hok.1
                have hok := hok.2
                obtain ⟨o18, ho18⟩ : ∃ o, o = f_X10_behind prg o11 := ⟨_, rfl⟩
                refine hI.callI0 (wl := w_Mdl a g) (a := (((((text, size), (sv, stb)), ((var, tab), szs)), (((prg, cod), words), ((has, fpl), pos))), ((((fault, plc), (tol, tmany)), ((trc, rmany), mark)), (((pil, pmany), mks), ((cts, turns), o13.2))))) (r := rb_X10_behindP (((((text, size), (sv, stb)), ((var, tab), szs)), (((prg, cod), words), ((has, fpl), pos))), ((((fault, plc), (tol, tmany)), ((trc, rmany), mark)), (((pil, pmany), mks), ((cts, turns), o13.2)))) o18) (As := [.ref (a 7), .int o11]) (rest := [.ref (a 0)]) hw (by rw [ho18]; exact c_X10_behindP l g a text size sv stb var tab szs prg cod words has fpl pos fault plc tol tmany trc rmany mark pil pmany mks cts turns o13.2 o11 hq19) ok_yX10_behind ml_X10_107 (rm_ok (by omega) (by decide)) 0 rfl rfl rfl rfl hl.1 (Nat.le_of_ble_eq_true rfl) dX10_valueOf_158 ⟨Nat.zero_le _, Nat.zero_le _⟩ (fun H locs hw => ?_)
                have hw : Wd g A s (w_Mdl a g (((((text, size), (sv, stb)), ((var, tab), szs)), (((prg, cod), words), ((has, fpl), pos))), ((((fault, plc), (tol, tmany)), ((trc, rmany), mark)), (((pil, pmany), mks), ((cts, turns), o13.2))))) H locs := hw
                refine W.eq (g2 := F0 m 161 ls [.int o18, .ref (a 0)]) rfl ?_
                have hok := bdP_use ho18 hok
                have hq21 := hok.1
                have hok := hok.2
                obtain ⟨o20, ho20⟩ : ∃ o, o = vE var tab szs prg o13.2 o18 := ⟨_, rfl⟩
                refine hI.callI0 (wl := w_Mdl a g) (a := (((((text, size), (sv, stb)), ((var, tab), szs)), (((prg, cod), words), ((has, fpl), pos))), ((((fault, plc), (tol, tmany)), ((trc, rmany), mark)), (((pil, pmany), mks), ((cts, turns), o13.2))))) (r := rb_X10_valueOf (((((text, size), (sv, stb)), ((var, tab), szs)), (((prg, cod), words), ((has, fpl), pos))), ((((fault, plc), (tol, tmany)), ((trc, rmany), mark)), (((pil, pmany), mks), ((cts, turns), o13.2)))) o20) (As := [.int o18]) (rest := []) hw (by rw [ho20]; exact h_vE text size sv stb var tab szs prg cod words has fpl pos fault plc tol tmany trc rmany mark pil pmany mks cts turns o13.2 o18 hq21) ok_yX10_valueOf ml_X10_193 (rm_ok (by omega) (by decide)) 0 rfl rfl rfl rfl hl.1 (Nat.le_of_ble_eq_true rfl) dX10_valueOf_161 ⟨Nat.zero_le _, Nat.zero_le _⟩ (fun H locs hw => ?_)
                have hw : Wd g A s (w_Mdl a g (((((text, size), (sv, stb)), ((var, tab), szs)), (((prg, cod), words), ((has, fpl), pos))), ((((fault, plc), (tol, tmany)), ((trc, rmany), mark)), (((pil, pmany), mks), ((cts, turns), o20.2))))) H locs := hw
                refine W.eq (g2 := F0 m 164 ls [.int o20.1]) rfl ?_
                have hok := bdP_use ho20 hok
                refine lv_istore (lv' := [(6, .int o20.1), (5, .int o13.1), (4, .int o11), (3, .int o6.1), (2, .int v2), (0, .ref (a 0)), (1, .int x1)]) hx hb dX10_valueOf_164 hl (by decide) rfl (fun ls hl => ?_)
                refine lv_iload_n hx hb dX10_valueOf_166 rfl (lv_at hl 3 rfl) ?_
                refine lv_if_eq (tgt := 175) hx hb dX10_valueOf_167 (by decide) (fun c22 => ?_) (fun c22 => ?_)
                · have hok := ok_t c22 hok
                  refine lv_iload hx hb dX10_valueOf_175 (lv_at hl 0 rfl) ?_
                  exact hI.retI (u := (((((text, size), (sv, stb)), ((var, tab), szs)), (((prg, cod), words), ((has, fpl), pos))), ((((fault, plc), (tol, tmany)), ((trc, rmany), mark)), (((pil, pmany), mks), ((cts, turns), o20.2))))) hw (hr.trans (congrArg (rb_X10_valueOf (((((text, size), (sv, stb)), ((var, tab), szs)), (((prg, cod), words), ((has, fpl), pos))), ((((fault, plc), (tol, tmany)), ((trc, rmany), mark)), (((pil, pmany), mks), ((cts, turns), stop))))) ((show f_X10_valueOf vE var tab szs prg stop x1 = (o20.1, o20.2) from bd_of hv2 (it_f c3 (it_f c4 (it_f c5 (bd_of ho6 (it_t c8 (it_f c10 (bd_of ho11 (bd_of ho13 (it_t c15 (it_t c16 (bd_of ho18 (bd_of ho20 (it_t c22 (rfl)))))))))))))))))) dX10_valueOf_177
                · have hok := ok_f c22 hok
                  refine lv_iload hx hb dX10_valueOf_170 (lv_at hl 1 rfl) ?_
                  refine lv_goto (tgt := 177) hx hb dX10_valueOf_172 (by decide) ?_
                  exact hI.retI (u := (((((text, size), (sv, stb)), ((var, tab), szs)), (((prg, cod), words), ((has, fpl), pos))), ((((fault, plc), (tol, tmany)), ((trc, rmany), mark)), (((pil, pmany), mks), ((cts, turns), o20.2))))) hw (hr.trans (congrArg (rb_X10_valueOf (((((text, size), (sv, stb)), ((var, tab), szs)), (((prg, cod), words), ((has, fpl), pos))), ((((fault, plc), (tol, tmany)), ((trc, rmany), mark)), (((pil, pmany), mks), ((cts, turns), stop))))) ((show f_X10_valueOf vE var tab szs prg stop x1 = (o13.1, o20.2) from bd_of hv2 (it_f c3 (it_f c4 (it_f c5 (bd_of ho6 (it_t c8 (it_f c10 (bd_of ho11 (bd_of ho13 (it_t c15 (it_t c16 (bd_of ho18 (bd_of ho20 (it_f c22 (rfl)))))))))))))))))) dX10_valueOf_177
            · have hok := ok_f c15 hok
              refine lv_iconst (v := (0 : Int32)) hx hb dX10_valueOf_142 (by decide) ?_
              exact hI.retI (u := (((((text, size), (sv, stb)), ((var, tab), szs)), (((prg, cod), words), ((has, fpl), pos))), ((((fault, plc), (tol, tmany)), ((trc, rmany), mark)), (((pil, pmany), mks), ((cts, turns), o13.2))))) hw (hr.trans (congrArg (rb_X10_valueOf (((((text, size), (sv, stb)), ((var, tab), szs)), (((prg, cod), words), ((has, fpl), pos))), ((((fault, plc), (tol, tmany)), ((trc, rmany), mark)), (((pil, pmany), mks), ((cts, turns), stop))))) ((show f_X10_valueOf vE var tab szs prg stop x1 = ((0 : Int32), o13.2) from bd_of hv2 (it_f c3 (it_f c4 (it_f c5 (bd_of ho6 (it_t c8 (it_f c10 (bd_of ho11 (bd_of ho13 (it_f c15 (rfl)))))))))))))) dX10_valueOf_143
          · have hok := ok_t c10 hok
            refine lv_aload_n hx hb dX10_valueOf_105 rfl (lv_at hl 2 rfl) ?_
            refine lv_bipush (v := (32 : Int32)) hx hb dX10_valueOf_106 (by decide) ?_
            refine lv_iload_n hx hb dX10_valueOf_108 rfl (lv_at hl 0 rfl) ?_
            refine lv_iconst (v := (0 : Int32)) hx hb dX10_valueOf_109 (by decide) ?_
            obtain ⟨o23, ho23⟩ : ∃ o, o = f_X10_make o6.2 (32 : Int32) o6.1 (0 : Int32) := ⟨_, rfl⟩
            refine hI.callI0 (wl := w_Mdl a g) (a := (((((text, size), (sv, stb)), ((var, tab), szs)), (((prg, cod), words), ((has, fpl), pos))), ((((fault, plc), (tol, tmany)), ((trc, rmany), mark)), (((pil, pmany), mks), ((cts, turns), o6.2))))) (r := rb_X10_make (((((text, size), (sv, stb)), ((var, tab), szs)), (((prg, cod), words), ((has, fpl), pos))), ((((fault, plc), (tol, tmany)), ((trc, rmany), mark)), (((pil, pmany), mks), ((cts, turns), o6.2)))) o23) (As := [.int (32 : Int32), .int o6.1, .int (0 : Int32)]) (rest := []) hw (by rw [ho23]; exact c_X10_make l g a text size sv stb var tab szs prg cod words has fpl pos fault plc tol tmany trc rmany mark pil pmany mks cts turns o6.2 (32 : Int32) o6.1 (0 : Int32) ) ok_yX10_make ml_X10_177 (rm_ok (by omega) (by decide)) 0 rfl rfl rfl rfl hl.1 (Nat.le_of_ble_eq_true rfl) dX10_valueOf_110 ⟨Nat.zero_le _, Nat.zero_le _⟩ (fun H locs hw => ?_)
            have hw : Wd g A s (w_Mdl a g (((((text, size), (sv, stb)), ((var, tab), szs)), (((prg, cod), words), ((has, fpl), pos))), ((((fault, plc), (tol, tmany)), ((trc, rmany), mark)), (((pil, pmany), mks), ((cts, turns), o23.2))))) H locs := hw
            refine W.eq (g2 := F0 m 113 ls [.int o23.1]) rfl ?_
            have hok := bdP_use ho23 hok
            exact hI.retI (u := (((((text, size), (sv, stb)), ((var, tab), szs)), (((prg, cod), words), ((has, fpl), pos))), ((((fault, plc), (tol, tmany)), ((trc, rmany), mark)), (((pil, pmany), mks), ((cts, turns), o23.2))))) hw (hr.trans (congrArg (rb_X10_valueOf (((((text, size), (sv, stb)), ((var, tab), szs)), (((prg, cod), words), ((has, fpl), pos))), ((((fault, plc), (tol, tmany)), ((trc, rmany), mark)), (((pil, pmany), mks), ((cts, turns), stop))))) ((show f_X10_valueOf vE var tab szs prg stop x1 = (o23.1, o23.2) from bd_of hv2 (it_f c3 (it_f c4 (it_f c5 (bd_of ho6 (it_t c8 (it_t c10 (bd_of ho23 (rfl)))))))))))) dX10_valueOf_113
      · have hok := ok_t c5 hok
        refine lv_aload_n hx hb dX10_valueOf_48 rfl (lv_at hl 1 rfl) ?_
        refine hI.get (v := .ref (a 7)) hw fg_X10_29 0 rfl rfl dX10_valueOf_49 ?_
        refine lv_iload_n hx hb dX10_valueOf_52 rfl (lv_at hl 2 rfl) ?_
        refine lv_iconst (v := (1 : Int32)) hx hb dX10_valueOf_53 (by decide) ?_
        refine lv_iadd hx hb dX10_valueOf_54 ?_
        have hq24 := hok.1
        have hok := hok.2
        refine hI.iald hw 7 rfl hq24 dX10_valueOf_55 ?_
        refine lv_topi (fun v25 hv25 => ?_)
        have hok := bdP_use hv25 hok
        refine lv_istore_n (lv' := [(3, .int v25), (2, .int v2), (0, .ref (a 0)), (1, .int x1)]) hx hb dX10_valueOf_56 rfl hl (by decide) rfl (fun ls hl => ?_)
        refine lv_aload_n hx hb dX10_valueOf_57 rfl (lv_at hl 2 rfl) ?_
        refine lv_iload_n hx hb dX10_valueOf_58 rfl (lv_at hl 3 rfl) ?_
        refine lv_iconst (v := (2 : Int32)) hx hb dX10_valueOf_59 (by decide) ?_
        refine lv_iadd hx hb dX10_valueOf_60 ?_
        have hq27 := hok.1
        have hok := hok.2
        obtain ⟨o26, ho26⟩ : ∃ o, o = vE var tab szs prg stop (x1 + (2 : Int32)) := ⟨_, rfl⟩
        refine hI.callI0 (wl := w_Mdl a g) (a := (((((text, size), (sv, stb)), ((var, tab), szs)), (((prg, cod), words), ((has, fpl), pos))), ((((fault, plc), (tol, tmany)), ((trc, rmany), mark)), (((pil, pmany), mks), ((cts, turns), stop))))) (r := rb_X10_valueOf (((((text, size), (sv, stb)), ((var, tab), szs)), (((prg, cod), words), ((has, fpl), pos))), ((((fault, plc), (tol, tmany)), ((trc, rmany), mark)), (((pil, pmany), mks), ((cts, turns), stop)))) o26) (As := [.int (x1 + (2 : Int32))]) (rest := []) hw (by rw [ho26]; exact h_vE text size sv stb var tab szs prg cod words has fpl pos fault plc tol tmany trc rmany mark pil pmany mks cts turns stop (x1 + (2 : Int32)) hq27) ok_yX10_valueOf ml_X10_193 (rm_ok (by omega) (by decide)) 0 rfl rfl rfl rfl hl.1 (Nat.le_of_ble_eq_true rfl) dX10_valueOf_61 ⟨Nat.zero_le _, Nat.zero_le _⟩ (fun H locs hw => ?_)
        have hw : Wd g A s (w_Mdl a g (((((text, size), (sv, stb)), ((var, tab), szs)), (((prg, cod), words), ((has, fpl), pos))), ((((fault, plc), (tol, tmany)), ((trc, rmany), mark)), (((pil, pmany), mks), ((cts, turns), o26.2))))) H locs := hw
        refine W.eq (g2 := F0 m 64 ls [.int o26.1]) rfl ?_
        have hok := bdP_use ho26 hok
        refine lv_istore (lv' := [(4, .int o26.1), (3, .int v25), (2, .int v2), (0, .ref (a 0)), (1, .int x1)]) hx hb dX10_valueOf_64 hl (by decide) rfl (fun ls hl => ?_)
        refine lv_aload_n hx hb dX10_valueOf_66 rfl (lv_at hl 3 rfl) ?_
        refine hI.get (v := .ref (a 5)) hw fg_X10_23 0 rfl rfl dX10_valueOf_67 ?_
        refine lv_bipush (v := (16 : Int32)) hx hb dX10_valueOf_70 (by decide) ?_
        refine lv_iload_n hx hb dX10_valueOf_72 rfl (lv_at hl 1 rfl) ?_
        refine lv_imul hx hb dX10_valueOf_73 ?_
        refine lv_aload_n hx hb dX10_valueOf_74 rfl (lv_at hl 3 rfl) ?_
        refine lv_iload_n hx hb dX10_valueOf_75 rfl (lv_at hl 1 rfl) ?_
        refine lv_iload hx hb dX10_valueOf_76 (lv_at hl 0 rfl) ?_
        obtain ⟨o28, ho28⟩ : ∃ o, o = f_X10_placeOf szs v25 o26.1 := ⟨_, rfl⟩
        have hq29 := hok.1
        have hok := hok.2
        have hq30 := hok.1
        have hok := hok.2
        refine hI.callI0 (wl := w_Mdl a g) (a := (((((text, size), (sv, stb)), ((var, tab), szs)), (((prg, cod), words), ((has, fpl), pos))), ((((fault, plc), (tol, tmany)), ((trc, rmany), mark)), (((pil, pmany), mks), ((cts, turns), o26.2))))) (r := rb_X10_placeOf (((((text, size), (sv, stb)), ((var, tab), szs)), (((prg, cod), words), ((has, fpl), pos))), ((((fault, plc), (tol, tmany)), ((trc, rmany), mark)), (((pil, pmany), mks), ((cts, turns), o26.2)))) o28) (As := [.int v25, .int o26.1]) (rest := [.int ((16 : Int32) * v25), .ref (a 5)]) hw (by rw [ho28]; exact c_X10_placeOf l g a text size sv stb var tab szs prg cod words has fpl pos fault plc tol tmany trc rmany mark pil pmany mks cts turns o26.2 v25 o26.1 hq29 hq30) ok_yX10_placeOf ml_X10_183 (rm_ok (by omega) (by decide)) 0 rfl rfl rfl rfl hl.1 (Nat.le_of_ble_eq_true rfl) dX10_valueOf_78 ⟨Nat.zero_le _, Nat.zero_le _⟩ (fun H locs hw => ?_)
        have hw : Wd g A s (w_Mdl a g (((((text, size), (sv, stb)), ((var, tab), szs)), (((prg, cod), words), ((has, fpl), pos))), ((((fault, plc), (tol, tmany)), ((trc, rmany), mark)), (((pil, pmany), mks), ((cts, turns), o26.2))))) H locs := hw
        refine W.eq (g2 := F0 m 81 ls [.int o28, .int ((16 : Int32) * v25), .ref (a 5)]) rfl ?_
        have hok := bdP_use ho28 hok
        refine lv_iadd hx hb dX10_valueOf_81 ?_
        have hq31 := hok.1
        have hok := hok.2
        refine hI.iald hw 5 rfl hq31 dX10_valueOf_82 ?_
        exact hI.retI (u := (((((text, size), (sv, stb)), ((var, tab), szs)), (((prg, cod), words), ((has, fpl), pos))), ((((fault, plc), (tol, tmany)), ((trc, rmany), mark)), (((pil, pmany), mks), ((cts, turns), o26.2))))) hw (hr.trans (congrArg (rb_X10_valueOf (((((text, size), (sv, stb)), ((var, tab), szs)), (((prg, cod), words), ((has, fpl), pos))), ((((fault, plc), (tol, tmany)), ((trc, rmany), mark)), (((pil, pmany), mks), ((cts, turns), stop))))) ((show f_X10_valueOf vE var tab szs prg stop x1 = (tab (((16 : Int32) * v25) + o28).toNatClampNeg, o26.2) from bd_of hv2 (it_f c3 (it_f c4 (it_t c5 (bd_of hv25 (bd_of ho26 (bd_of ho28 (rfl))))))))))) dX10_valueOf_83
    · have hok := ok_t c4 hok
      refine lv_aload_n hx hb dX10_valueOf_28 rfl (lv_at hl 1 rfl) ?_
      refine hI.get (v := .ref (a 4)) hw fg_X10_20 0 rfl rfl dX10_valueOf_29 ?_
      refine lv_aload_n hx hb dX10_valueOf_32 rfl (lv_at hl 1 rfl) ?_
      refine hI.get (v := .ref (a 7)) hw fg_X10_29 0 rfl rfl dX10_valueOf_33 ?_
      refine lv_iload_n hx hb dX10_valueOf_36 rfl (lv_at hl 2 rfl) ?_
      refine lv_iconst (v := (1 : Int32)) hx hb dX10_valueOf_37 (by decide) ?_
      refine lv_iadd hx hb dX10_valueOf_38 ?_
      have hq32 := hok.1
      have hok := hok.2
      refine hI.iald hw 7 rfl hq32 dX10_valueOf_39 ?_
      have hq33 := hok.1
      have hok := hok.2
      refine hI.iald hw 4 rfl hq33 dX10_valueOf_40 ?_
      exact hI.retI (u := (((((text, size), (sv, stb)), ((var, tab), szs)), (((prg, cod), words), ((has, fpl), pos))), ((((fault, plc), (tol, tmany)), ((trc, rmany), mark)), (((pil, pmany), mks), ((cts, turns), stop))))) hw (hr.trans (congrArg (rb_X10_valueOf (((((text, size), (sv, stb)), ((var, tab), szs)), (((prg, cod), words), ((has, fpl), pos))), ((((fault, plc), (tol, tmany)), ((trc, rmany), mark)), (((pil, pmany), mks), ((cts, turns), stop))))) ((show f_X10_valueOf vE var tab szs prg stop x1 = (var (prg (x1 + (1 : Int32)).toNatClampNeg).toNatClampNeg, stop) from bd_of hv2 (it_f c3 (it_t c4 (rfl))))))) dX10_valueOf_41
  · have hok := ok_t c3 hok
    refine lv_aload_n hx hb dX10_valueOf_13 rfl (lv_at hl 1 rfl) ?_
    refine hI.get (v := .ref (a 7)) hw fg_X10_29 0 rfl rfl dX10_valueOf_14 ?_
    refine lv_iload_n hx hb dX10_valueOf_17 rfl (lv_at hl 2 rfl) ?_
    refine lv_iconst (v := (1 : Int32)) hx hb dX10_valueOf_18 (by decide) ?_
    refine lv_iadd hx hb dX10_valueOf_19 ?_
    have hq34 := hok.1
    have hok := hok.2
    refine hI.iald hw 7 rfl hq34 dX10_valueOf_20 ?_
    exact hI.retI (u := (((((text, size), (sv, stb)), ((var, tab), szs)), (((prg, cod), words), ((has, fpl), pos))), ((((fault, plc), (tol, tmany)), ((trc, rmany), mark)), (((pil, pmany), mks), ((cts, turns), stop))))) hw (hr.trans (congrArg (rb_X10_valueOf (((((text, size), (sv, stb)), ((var, tab), szs)), (((prg, cod), words), ((has, fpl), pos))), ((((fault, plc), (tol, tmany)), ((trc, rmany), mark)), (((pil, pmany), mks), ((cts, turns), stop))))) ((show f_X10_valueOf vE var tab szs prg stop x1 = (prg (x1 + (1 : Int32)).toNatClampNeg, stop) from bd_of hv2 (it_t c3 (rfl)))))) dX10_valueOf_21
def vlE : Nat → (Nat → Int32) → (Nat → Int32) → (Nat → Int32) → (Nat → Int32) → Int32 → Int32 → (Int32 × Int32)
  | 0 => fun var tab szs prg stop _ => (0, stop)
  | d + 1 => f_X10_valueOf (vlE d)
def vlEk : Nat → (Nat → Int32) → (Nat → Int32) → (Nat → Int32) → (Nat → Int32) → Int32 → Int32 → Prop
  | 0 => fun _ _ _ _ _ _ => False
  | d + 1 => ok_X10_valueOf (vlE d) (vlEk d)
theorem k_vlE (l : Launch) (g : GG) (a : Nat → Nat) : ∀ (d : Nat) (text : Nat → Int32) (size : Int32) (sv : Nat → Int32) (stb : Nat → Int32) (var : Nat → Int32) (tab : Nat → Int32) (szs : Nat → Int32) (prg : Nat → Int32) (cod : Nat → Int32) (words : Int32) (has : Int32) (fpl : Int32) (pos : Int32) (fault : Int32) (plc : Int32) (tol : Nat → Int32) (tmany : Int32) (trc : Nat → Int32) (rmany : Int32) (mark : Int64) (pil : Nat → Int32) (pmany : Int32) (mks : Nat → Int32) (cts : Nat → Int32) (turns : Int32) (stop : Int32) (y1 : Int32), vlEk d var tab szs prg stop y1 → CI l g yX10_valueOf cX10_valueOf 7 (some .int) (rmN (d + 12)) (w_Mdl a g) [.ref (a 0), .int y1] (((((text, size), (sv, stb)), ((var, tab), szs)), (((prg, cod), words), ((has, fpl), pos))), ((((fault, plc), (tol, tmany)), ((trc, rmany), mark)), (((pil, pmany), mks), ((cts, turns), stop)))) (rb_X10_valueOf (((((text, size), (sv, stb)), ((var, tab), szs)), (((prg, cod), words), ((has, fpl), pos))), ((((fault, plc), (tol, tmany)), ((trc, rmany), mark)), (((pil, pmany), mks), ((cts, turns), stop)))) (vlE d var tab szs prg stop y1)) := by
  intro d
  induction d with
  | zero =>
    intro text size sv stb var tab szs prg cod words has fpl pos fault plc tol tmany trc rmany mark pil pmany mks cts turns stop y1 hok
    exact hok.elim
  | succ d ih =>
    intro text size sv stb var tab szs prg cod words has fpl pos fault plc tol tmany trc rmany mark pil pmany mks cts turns stop y1 hok
    exact c_X10_valueOf l g a text size sv stb var tab szs prg cod words has fpl pos fault plc tol tmany trc rmany mark pil pmany mks cts turns stop (vlE d) (vlEk d) y1 (d + 1 + 12) (d + 12) (by omega) (fun text size sv stb var tab szs prg cod words has fpl pos fault plc tol tmany trc rmany mark pil pmany mks cts turns stop y1 hz => ih text size sv stb var tab szs prg cod words has fpl pos fault plc tol tmany trc rmany mark pil pmany mks cts turns stop y1 hz) hok
def rb_X10_doS (σ : S_Mdl) (o : ((((Nat → Int32) × (Nat → Int32)) × (Nat → Int32)) × ((Int32 × Int32) × Int32))) : S_Mdl := (((((σ.1.1.1.1.1, σ.1.1.1.1.2), (σ.1.1.1.2.1, σ.1.1.1.2.2)), ((o.1.1.1, o.1.1.2), σ.1.1.2.2)), (((σ.1.2.1.1.1, σ.1.2.1.1.2), σ.1.2.1.2), ((σ.1.2.2.1.1, σ.1.2.2.1.2), σ.1.2.2.2))), ((((σ.2.1.1.1.1, σ.2.1.1.1.2), (o.1.2, o.2.1.1)), ((σ.2.1.2.1.1, σ.2.1.2.1.2), σ.2.1.2.2)), (((σ.2.2.1.1.1, σ.2.2.1.1.2), σ.2.2.1.2), ((σ.2.2.2.1.1, o.2.1.2), o.2.2))))
def rb_X10_doAll (σ : S_Mdl) (o : ((((Nat → Int32) × (Nat → Int32)) × (Nat → Int32)) × ((Int32 × Int32) × Int32))) : S_Mdl := (((((σ.1.1.1.1.1, σ.1.1.1.1.2), (σ.1.1.1.2.1, σ.1.1.1.2.2)), ((o.1.1.1, o.1.1.2), σ.1.1.2.2)), (((σ.1.2.1.1.1, σ.1.2.1.1.2), σ.1.2.1.2), ((σ.1.2.2.1.1, σ.1.2.2.1.2), σ.1.2.2.2))), ((((σ.2.1.1.1.1, σ.2.1.1.1.2), (o.1.2, o.2.1.1)), ((σ.2.1.2.1.1, σ.2.1.2.1.2), σ.2.1.2.2)), (((σ.2.2.1.1.1, σ.2.2.1.1.2), σ.2.2.1.2), ((σ.2.2.2.1.1, o.2.1.2), o.2.2))))
def ok_X10_doS_266 (dA : (Nat → Int32) → (Nat → Int32) → (Nat → Int32) → (Nat → Int32) → (Nat → Int32) → Int32 → Int32 → Int32 → Int32 → ((((Nat → Int32) × (Nat → Int32)) × (Nat → Int32)) × ((Int32 × Int32) × Int32))) (dAk : (Nat → Int32) → (Nat → Int32) → (Nat → Int32) → (Nat → Int32) → (Nat → Int32) → Int32 → Int32 → Int32 → Int32 → Prop) (szs : Nat → Int32) (prg : Nat → Int32) : Nat → (Nat → Int32) → (Nat → Int32) → (Nat → Int32) → Int32 → Int32 → Int32 → Int32 → Int32 → Int32 → Prop
  | 0, _, _, _, _, _, _, _, _, _ => False
  | k + 1, var, tab, tol, tmany, turns, stop, y3, y4, y5 => if y4 = 0 then True else if stop = 0 then dAk var tab szs prg tol tmany turns stop y5 ∧ (bdP (dA var tab szs prg tol tmany turns stop y5) (fun o48 => if o48.2.2 = 0 then bdP (f_X10_turn o48.2.1.2 o48.2.2) (fun o51 => if o51.1 = 0 then ok_X10_doS_266 dA dAk szs prg k o48.1.1.1 o48.1.1.2 o48.1.2 o48.2.1.1 o51.2.1 o51.2.2 y3 y4 y5 else vlEk 13 o48.1.1.1 o48.1.1.2 szs prg o51.2.2 y3 ∧ (bdP (vlE 13 o48.1.1.1 o48.1.1.2 szs prg o51.2.2 y3) (fun o53 => ok_X10_doS_266 dA dAk szs prg k o48.1.1.1 o48.1.1.2 o48.1.2 o48.2.1.1 o51.2.1 o53.2 y3 o53.1 y5))) else ok_X10_doS_266 dA dAk szs prg k o48.1.1.1 o48.1.1.2 o48.1.2 o48.2.1.1 o48.2.1.2 o48.2.2 y3 y4 y5)) else True
def f_X10_doS_266 (dA : (Nat → Int32) → (Nat → Int32) → (Nat → Int32) → (Nat → Int32) → (Nat → Int32) → Int32 → Int32 → Int32 → Int32 → ((((Nat → Int32) × (Nat → Int32)) × (Nat → Int32)) × ((Int32 × Int32) × Int32))) (szs : Nat → Int32) (prg : Nat → Int32) : Nat → (Nat → Int32) → (Nat → Int32) → (Nat → Int32) → Int32 → Int32 → Int32 → Int32 → Int32 → Int32 → ((((Nat → Int32) × (Nat → Int32)) × (Nat → Int32)) × ((Int32 × Int32) × Int32))
  | 0, var, tab, tol, tmany, turns, stop, y3, y4, y5 => ((((var, tab), tol), ((tmany, turns), stop)))
  | k + 1, var, tab, tol, tmany, turns, stop, y3, y4, y5 => if y4 = 0 then ((((var, tab), tol), ((tmany, turns), stop))) else if stop = 0 then bd (dA var tab szs prg tol tmany turns stop y5) (fun o48 => if o48.2.2 = 0 then bd (f_X10_turn o48.2.1.2 o48.2.2) (fun o51 => if o51.1 = 0 then f_X10_doS_266 dA szs prg k o48.1.1.1 o48.1.1.2 o48.1.2 o48.2.1.1 o51.2.1 o51.2.2 y3 y4 y5 else bd (vlE 13 o48.1.1.1 o48.1.1.2 szs prg o51.2.2 y3) (fun o53 => f_X10_doS_266 dA szs prg k o48.1.1.1 o48.1.1.2 o48.1.2 o48.2.1.1 o51.2.1 o53.2 y3 o53.1 y5)) else f_X10_doS_266 dA szs prg k o48.1.1.1 o48.1.1.2 o48.1.2 o48.2.1.1 o48.2.1.2 o48.2.2 y3 y4 y5) else ((((var, tab), tol), ((tmany, turns), stop)))
def ok_X10_doS_98 (dA : (Nat → Int32) → (Nat → Int32) → (Nat → Int32) → (Nat → Int32) → (Nat → Int32) → Int32 → Int32 → Int32 → Int32 → ((((Nat → Int32) × (Nat → Int32)) × (Nat → Int32)) × ((Int32 × Int32) × Int32))) (dAk : (Nat → Int32) → (Nat → Int32) → (Nat → Int32) → (Nat → Int32) → (Nat → Int32) → Int32 → Int32 → Int32 → Int32 → Prop) (szs : Nat → Int32) (prg : Nat → Int32) (var : Nat → Int32) (tab : Nat → Int32) (tol : Nat → Int32) (tmany : Int32) (turns : Int32) (stop : Int32) (y1 : Int32) (y2 : Int32) (z0 : Int32) : Prop := vlEk 13 var tab szs prg stop z0 ∧ (bdP (vlE 13 var tab szs prg stop z0) (fun o7 => ok_X10_behind prg z0 ∧ (bdP (f_X10_behind prg z0) (fun o9 => if o7.2 = 0 then if y2 = (1 : Int32) then vp_in (y1 + (1 : Int32)) 400 ∧ (vp_in (prg (y1 + (1 : Int32)).toNatClampNeg) 10 ∧ True) else if y2 = (2 : Int32) then vp_in (y1 + (1 : Int32)) 400 ∧ (bdP (prg (y1 + (1 : Int32)).toNatClampNeg) (fun v28 => vlEk 13 var tab szs prg o7.2 o9 ∧ (bdP (vlE 13 var tab szs prg o7.2 o9) (fun o29 => if o29.2 = 0 then SZ szs ∧ (vp_in v28 4 ∧ (bdP (f_X10_placeOf szs v28 o7.1) (fun o32 => vp_in (((16 : Int32) * v28) + o32) 64 ∧ True))) else True)))) else if y2 = (7 : Int32) then UpTo 1000000 tmany ∧ (bdP (f_X10_tell tol tmany o7.1) (fun o25 => True)) else if y2 = (3 : Int32) then if o7.1 = 0 then skAk 13 prg o9 ∧ (bdP (skA 13 prg o9) (fun o17 => vp_in o17 400 ∧ (if (prg o17.toNatClampNeg) = (4 : Int32) then dAk var tab szs prg tol tmany turns o7.2 (o17 + (1 : Int32)) ∧ (bdP (dA var tab szs prg tol tmany turns o7.2 (o17 + (1 : Int32))) (fun o21 => True)) else True))) else dAk var tab szs prg tol tmany turns o7.2 o9 ∧ (bdP (dA var tab szs prg tol tmany turns o7.2 o9) (fun o23 => True)) else ok_X10_doS_266 dA dAk szs prg 5002 var tab tol tmany turns o7.2 z0 o7.1 o9 else True))))
def f_X10_doS_98 (dA : (Nat → Int32) → (Nat → Int32) → (Nat → Int32) → (Nat → Int32) → (Nat → Int32) → Int32 → Int32 → Int32 → Int32 → ((((Nat → Int32) × (Nat → Int32)) × (Nat → Int32)) × ((Int32 × Int32) × Int32))) (szs : Nat → Int32) (prg : Nat → Int32) (var : Nat → Int32) (tab : Nat → Int32) (tol : Nat → Int32) (tmany : Int32) (turns : Int32) (stop : Int32) (y1 : Int32) (y2 : Int32) (z0 : Int32) : ((((Nat → Int32) × (Nat → Int32)) × (Nat → Int32)) × ((Int32 × Int32) × Int32)) := bd (vlE 13 var tab szs prg stop z0) (fun o7 => bd (f_X10_behind prg z0) (fun o9 => if o7.2 = 0 then if y2 = (1 : Int32) then ((((upd var (prg (y1 + (1 : Int32)).toNatClampNeg).toNatClampNeg o7.1, tab), tol), ((tmany, turns), o7.2))) else if y2 = (2 : Int32) then bd (prg (y1 + (1 : Int32)).toNatClampNeg) (fun v28 => bd (vlE 13 var tab szs prg o7.2 o9) (fun o29 => if o29.2 = 0 then bd (f_X10_placeOf szs v28 o7.1) (fun o32 => ((((var, upd tab (((16 : Int32) * v28) + o32).toNatClampNeg o29.1), tol), ((tmany, turns), o29.2)))) else ((((var, tab), tol), ((tmany, turns), o29.2))))) else if y2 = (7 : Int32) then bd (f_X10_tell tol tmany o7.1) (fun o25 => ((((var, tab), o25.1), ((o25.2, turns), o7.2)))) else if y2 = (3 : Int32) then if o7.1 = 0 then bd (skA 13 prg o9) (fun o17 => if (prg o17.toNatClampNeg) = (4 : Int32) then bd (dA var tab szs prg tol tmany turns o7.2 (o17 + (1 : Int32))) (fun o21 => ((((o21.1.1.1, o21.1.1.2), o21.1.2), ((o21.2.1.1, o21.2.1.2), o21.2.2)))) else ((((var, tab), tol), ((tmany, turns), o7.2)))) else bd (dA var tab szs prg tol tmany turns o7.2 o9) (fun o23 => ((((o23.1.1.1, o23.1.1.2), o23.1.2), ((o23.2.1.1, o23.2.1.2), o23.2.2)))) else f_X10_doS_266 dA szs prg 5002 var tab tol tmany turns o7.2 z0 o7.1 o9 else ((((var, tab), tol), ((tmany, turns), o7.2)))))
def ok_X10_doS_23 (dA : (Nat → Int32) → (Nat → Int32) → (Nat → Int32) → (Nat → Int32) → (Nat → Int32) → Int32 → Int32 → Int32 → Int32 → ((((Nat → Int32) × (Nat → Int32)) × (Nat → Int32)) × ((Int32 × Int32) × Int32))) (dAk : (Nat → Int32) → (Nat → Int32) → (Nat → Int32) → (Nat → Int32) → (Nat → Int32) → Int32 → Int32 → Int32 → Int32 → Prop) (szs : Nat → Int32) (prg : Nat → Int32) : Nat → (Nat → Int32) → (Nat → Int32) → (Nat → Int32) → Int32 → Int32 → Int32 → Int32 → Int32 → Prop
  | 0, _, _, _, _, _, _, _, _ => False
  | k + 1, var, tab, tol, tmany, turns, stop, y1, y3 => vp_in (y1 + (1 : Int32)) 400 ∧ (if (prg (y1 + (1 : Int32)).toNatClampNeg) ≤ y3 then True else if stop = 0 then dAk var tab szs prg tol tmany turns stop (y1 + (2 : Int32)) ∧ (bdP (dA var tab szs prg tol tmany turns stop (y1 + (2 : Int32))) (fun o41 => if o41.2.2 = 0 then bdP (f_X10_turn o41.2.1.2 o41.2.2) (fun o44 => if o44.1 = 0 then ok_X10_doS_23 dA dAk szs prg k o41.1.1.1 o41.1.1.2 o41.1.2 o41.2.1.1 o44.2.1 (-4 : Int32) y1 (y3 + (1 : Int32)) else ok_X10_doS_23 dA dAk szs prg k o41.1.1.1 o41.1.1.2 o41.1.2 o41.2.1.1 o44.2.1 (0 : Int32) y1 (y3 + (1 : Int32))) else ok_X10_doS_23 dA dAk szs prg k o41.1.1.1 o41.1.1.2 o41.1.2 o41.2.1.1 o41.2.1.2 o41.2.2 y1 (y3 + (1 : Int32)))) else True)
def f_X10_doS_23 (dA : (Nat → Int32) → (Nat → Int32) → (Nat → Int32) → (Nat → Int32) → (Nat → Int32) → Int32 → Int32 → Int32 → Int32 → ((((Nat → Int32) × (Nat → Int32)) × (Nat → Int32)) × ((Int32 × Int32) × Int32))) (szs : Nat → Int32) (prg : Nat → Int32) : Nat → (Nat → Int32) → (Nat → Int32) → (Nat → Int32) → Int32 → Int32 → Int32 → Int32 → Int32 → ((((Nat → Int32) × (Nat → Int32)) × (Nat → Int32)) × ((Int32 × Int32) × Int32))
  | 0, var, tab, tol, tmany, turns, stop, y1, y3 => ((((var, tab), tol), ((tmany, turns), stop)))
  | k + 1, var, tab, tol, tmany, turns, stop, y1, y3 => if (prg (y1 + (1 : Int32)).toNatClampNeg) ≤ y3 then ((((var, tab), tol), ((tmany, turns), stop))) else if stop = 0 then bd (dA var tab szs prg tol tmany turns stop (y1 + (2 : Int32))) (fun o41 => if o41.2.2 = 0 then bd (f_X10_turn o41.2.1.2 o41.2.2) (fun o44 => if o44.1 = 0 then f_X10_doS_23 dA szs prg k o41.1.1.1 o41.1.1.2 o41.1.2 o41.2.1.1 o44.2.1 (-4 : Int32) y1 (y3 + (1 : Int32)) else f_X10_doS_23 dA szs prg k o41.1.1.1 o41.1.1.2 o41.1.2 o41.2.1.1 o44.2.1 (0 : Int32) y1 (y3 + (1 : Int32))) else f_X10_doS_23 dA szs prg k o41.1.1.1 o41.1.1.2 o41.1.2 o41.2.1.1 o41.2.1.2 o41.2.2 y1 (y3 + (1 : Int32))) else ((((var, tab), tol), ((tmany, turns), stop)))
def f_X10_doS (dA : (Nat → Int32) → (Nat → Int32) → (Nat → Int32) → (Nat → Int32) → (Nat → Int32) → Int32 → Int32 → Int32 → Int32 → ((((Nat → Int32) × (Nat → Int32)) × (Nat → Int32)) × ((Int32 × Int32) × Int32))) (var : Nat → Int32) (tab : Nat → Int32) (szs : Nat → Int32) (prg : Nat → Int32) (tol : Nat → Int32) (tmany : Int32) (turns : Int32) (stop : Int32) (x1 : Int32) : ((((Nat → Int32) × (Nat → Int32)) × (Nat → Int32)) × ((Int32 × Int32) × Int32)) := bd (f_X10_turn turns stop) (fun o1 => if o1.1 = 0 then ((((var, tab), tol), ((tmany, o1.2.1), o1.2.2))) else bd (prg x1.toNatClampNeg) (fun v4 => if v4 = (6 : Int32) then f_X10_doS_23 dA szs prg 22 var tab tol tmany o1.2.1 o1.2.2 x1 (0 : Int32) else if (3 : Int32) ≤ v4 then f_X10_doS_98 dA szs prg var tab tol tmany o1.2.1 o1.2.2 x1 v4 (x1 + (1 : Int32)) else f_X10_doS_98 dA szs prg var tab tol tmany o1.2.1 o1.2.2 x1 v4 (x1 + (2 : Int32))))
def ok_X10_doS (dA : (Nat → Int32) → (Nat → Int32) → (Nat → Int32) → (Nat → Int32) → (Nat → Int32) → Int32 → Int32 → Int32 → Int32 → ((((Nat → Int32) × (Nat → Int32)) × (Nat → Int32)) × ((Int32 × Int32) × Int32))) (dAk : (Nat → Int32) → (Nat → Int32) → (Nat → Int32) → (Nat → Int32) → (Nat → Int32) → Int32 → Int32 → Int32 → Int32 → Prop) (var : Nat → Int32) (tab : Nat → Int32) (szs : Nat → Int32) (prg : Nat → Int32) (tol : Nat → Int32) (tmany : Int32) (turns : Int32) (stop : Int32) (x1 : Int32) : Prop := bdP (f_X10_turn turns stop) (fun o1 => if o1.1 = 0 then True else vp_in x1 400 ∧ (bdP (prg x1.toNatClampNeg) (fun v4 => if v4 = (6 : Int32) then ok_X10_doS_23 dA dAk szs prg 22 var tab tol tmany o1.2.1 o1.2.2 x1 (0 : Int32) else if (3 : Int32) ≤ v4 then ok_X10_doS_98 dA dAk szs prg var tab tol tmany o1.2.1 o1.2.2 x1 v4 (x1 + (1 : Int32)) else ok_X10_doS_98 dA dAk szs prg var tab tol tmany o1.2.1 o1.2.2 x1 v4 (x1 + (2 : Int32)))))
set_option maxHeartbeats 4000000 in
set_option maxRecDepth 100000 in
theorem lp_X10_doS_266 (l : Launch) (g : GG) (a : Nat → Nat) (text : Nat → Int32) (size : Int32) (sv : Nat → Int32) (stb : Nat → Int32) (var₀ : Nat → Int32) (tab₀ : Nat → Int32) (szs : Nat → Int32) (prg : Nat → Int32) (cod : Nat → Int32) (words : Int32) (has : Int32) (fpl : Int32) (pos : Int32) (fault : Int32) (plc : Int32) (tol₀ : Nat → Int32) (tmany₀ : Int32) (trc : Nat → Int32) (rmany : Int32) (mark : Int64) (pil : Nat → Int32) (pmany : Int32) (mks : Nat → Int32) (cts : Nat → Int32) (turns₀ : Int32) (stop₀ : Int32) (dA : (Nat → Int32) → (Nat → Int32) → (Nat → Int32) → (Nat → Int32) → (Nat → Int32) → Int32 → Int32 → Int32 → Int32 → ((((Nat → Int32) × (Nat → Int32)) × (Nat → Int32)) × ((Int32 × Int32) × Int32))) (dAk : (Nat → Int32) → (Nat → Int32) → (Nat → Int32) → (Nat → Int32) → (Nat → Int32) → Int32 → Int32 → Int32 → Int32 → Prop) (kM : Nat) (k_dA : Nat) (hk : k_dA + 1 ≤ kM ∧ 45 ≤ kM) (h_dA : ∀ (text : Nat → Int32) (size : Int32) (sv : Nat → Int32) (stb : Nat → Int32) (var : Nat → Int32) (tab : Nat → Int32) (szs : Nat → Int32) (prg : Nat → Int32) (cod : Nat → Int32) (words : Int32) (has : Int32) (fpl : Int32) (pos : Int32) (fault : Int32) (plc : Int32) (tol : Nat → Int32) (tmany : Int32) (trc : Nat → Int32) (rmany : Int32) (mark : Int64) (pil : Nat → Int32) (pmany : Int32) (mks : Nat → Int32) (cts : Nat → Int32) (turns : Int32) (stop : Int32) (y1 : Int32), dAk var tab szs prg tol tmany turns stop y1 → CV l g yX10_doAll cX10_doAll 3 none (rmN k_dA) (w_Mdl a g) [.ref (a 0), .int y1] (((((text, size), (sv, stb)), ((var, tab), szs)), (((prg, cod), words), ((has, fpl), pos))), ((((fault, plc), (tol, tmany)), ((trc, rmany), mark)), (((pil, pmany), mks), ((cts, turns), stop)))) (rb_X10_doAll (((((text, size), (sv, stb)), ((var, tab), szs)), (((prg, cod), words), ((has, fpl), pos))), ((((fault, plc), (tol, tmany)), ((trc, rmany), mark)), (((pil, pmany), mks), ((cts, turns), stop)))) (dA var tab szs prg tol tmany turns stop y1)))  {p : Program} {e : Env} {s : State} {m : MethodId} {args : Array Value} {below : List Frame} {meth : Method} {c : Code} {A : Nat → Prop} (hI : InM p s m args meth c RX10 cX10_doS 8 none g A) : ∀ (k : Nat) (var : Nat → Int32) (tab : Nat → Int32) (tol : Nat → Int32) (tmany : Int32) (turns : Int32) (stop : Int32) (y3 : Int32) (y4 : Int32) (y5 : Int32), (ok_X10_doS_266 dA dAk szs prg k var tab tol tmany turns stop y3 y4 y5) → ∀ (r : S_Mdl), r = rb_X10_doS (((((text, size), (sv, stb)), ((var₀, tab₀), szs)), (((prg, cod), words), ((has, fpl), pos))), ((((fault, plc), (tol₀, tmany₀)), ((trc, rmany), mark)), (((pil, pmany), mks), ((cts, turns₀), stop₀)))) (f_X10_doS_266 dA szs prg k var tab tol tmany turns stop y3 y4 y5) → ∀ (H : Heap) (locs : List Loc), Wd g A s (w_Mdl a g (((((text, size), (sv, stb)), ((var, tab), szs)), (((prg, cod), words), ((has, fpl), pos))), ((((fault, plc), (tol, tmany)), ((trc, rmany), mark)), (((pil, pmany), mks), ((cts, turns), stop))))) H locs → ∀ (ls : Array Slot), lv_has ls 8 [(0, .ref (a 0)), (3, .int y3), (4, .int y4), (5, .int y5)] → W p l e (rmN kM) s m args below meth c H locs 0 0 (QV g (w_Mdl a g) A r below args s) (F0 m 266 ls []) := by
  have hx := hI.1
  have hb := hI.2.1
  intro k
  induction k with
  | zero =>
    intro var tab tol tmany turns stop y3 y4 y5 hok
    exact hok.elim
  | succ k ih =>
    intro var tab tol tmany turns stop y3 y4 y5 hok r hr H locs hw ls hl
    refine lv_iload hx hb dX10_doS_266 (lv_at hl 2 rfl) ?_
    refine lv_if_eq (tgt := 308) hx hb dX10_doS_268 (by decide) (fun c46 => ?_) (fun c46 => ?_)
    · have hok := ok_t c46 hok
      exact hI.retV (u := (((((text, size), (sv, stb)), ((var, tab), szs)), (((prg, cod), words), ((has, fpl), pos))), ((((fault, plc), (tol, tmany)), ((trc, rmany), mark)), (((pil, pmany), mks), ((cts, turns), stop))))) hw (hr.trans (congrArg (rb_X10_doS (((((text, size), (sv, stb)), ((var₀, tab₀), szs)), (((prg, cod), words), ((has, fpl), pos))), ((((fault, plc), (tol₀, tmany₀)), ((trc, rmany), mark)), (((pil, pmany), mks), ((cts, turns₀), stop₀))))) ((show f_X10_doS_266 dA szs prg (k + 1) var tab tol tmany turns stop y3 y4 y5 = ((((var, tab), tol), ((tmany, turns), stop))) from it_t c46 (rfl))))) dX10_doS_308
    · have hok := ok_f c46 hok
      refine lv_aload_n hx hb dX10_doS_271 rfl (lv_at hl 0 rfl) ?_
      refine hI.get (v := .int stop) hw fg_X10_146 0 rfl rfl dX10_doS_272 ?_
      refine lv_if_ne (tgt := 308) hx hb dX10_doS_275 (by decide) (fun c47 => ?_) (fun c47 => ?_)
      · have hok := ok_f c47 hok
        exact hI.retV (u := (((((text, size), (sv, stb)), ((var, tab), szs)), (((prg, cod), words), ((has, fpl), pos))), ((((fault, plc), (tol, tmany)), ((trc, rmany), mark)), (((pil, pmany), mks), ((cts, turns), stop))))) hw (hr.trans (congrArg (rb_X10_doS (((((text, size), (sv, stb)), ((var₀, tab₀), szs)), (((prg, cod), words), ((has, fpl), pos))), ((((fault, plc), (tol₀, tmany₀)), ((trc, rmany), mark)), (((pil, pmany), mks), ((cts, turns₀), stop₀))))) ((show f_X10_doS_266 dA szs prg (k + 1) var tab tol tmany turns stop y3 y4 y5 = ((((var, tab), tol), ((tmany, turns), stop))) from it_f c46 (it_f c47 (rfl)))))) dX10_doS_308
      · have hok := ok_t c47 hok
        refine lv_aload_n hx hb dX10_doS_278 rfl (lv_at hl 0 rfl) ?_
        refine lv_iload hx hb dX10_doS_279 (lv_at hl 3 rfl) ?_
        have hq49 := hok.1
        have hok := hok.2
        obtain ⟨o48, ho48⟩ : ∃ o, o = dA var tab szs prg tol tmany turns stop y5 := ⟨_, rfl⟩
        refine hI.callV0 (wl := w_Mdl a g) (a := (((((text, size), (sv, stb)), ((var, tab), szs)), (((prg, cod), words), ((has, fpl), pos))), ((((fault, plc), (tol, tmany)), ((trc, rmany), mark)), (((pil, pmany), mks), ((cts, turns), stop))))) (r := rb_X10_doAll (((((text, size), (sv, stb)), ((var, tab), szs)), (((prg, cod), words), ((has, fpl), pos))), ((((fault, plc), (tol, tmany)), ((trc, rmany), mark)), (((pil, pmany), mks), ((cts, turns), stop)))) o48) (As := [.int y5]) (rest := []) hw (by rw [ho48]; exact h_dA text size sv stb var tab szs prg cod words has fpl pos fault plc tol tmany trc rmany mark pil pmany mks cts turns stop y5 hq49) ok_yX10_doAll ml_X10_212 (rm_ok (by omega) (by decide)) 0 rfl rfl rfl rfl hl.1 (Nat.le_of_ble_eq_true rfl) dX10_doS_281 ⟨Nat.zero_le _, Nat.zero_le _⟩ (fun H locs hw => ?_)
        have hw : Wd g A s (w_Mdl a g (((((text, size), (sv, stb)), ((o48.1.1.1, o48.1.1.2), szs)), (((prg, cod), words), ((has, fpl), pos))), ((((fault, plc), (o48.1.2, o48.2.1.1)), ((trc, rmany), mark)), (((pil, pmany), mks), ((cts, o48.2.1.2), o48.2.2))))) H locs := hw
        refine W.eq (g2 := F0 m 284 ls []) rfl ?_
        have hok := bdP_use ho48 hok
        refine lv_aload_n hx hb dX10_doS_284 rfl (lv_at hl 0 rfl) ?_
        refine hI.get (v := .int o48.2.2) hw fg_X10_146 0 rfl rfl dX10_doS_285 ?_
        refine lv_if_ne (tgt := 266) hx hb dX10_doS_288 (by decide) (fun c50 => ?_) (fun c50 => ?_)
        · have hok := ok_f c50 hok
          exact ih o48.1.1.1 o48.1.1.2 o48.1.2 o48.2.1.1 o48.2.1.2 o48.2.2 y3 y4 y5 hok r (hr.trans (congrArg (rb_X10_doS (((((text, size), (sv, stb)), ((var₀, tab₀), szs)), (((prg, cod), words), ((has, fpl), pos))), ((((fault, plc), (tol₀, tmany₀)), ((trc, rmany), mark)), (((pil, pmany), mks), ((cts, turns₀), stop₀))))) ((show f_X10_doS_266 dA szs prg (k + 1) var tab tol tmany turns stop y3 y4 y5 = f_X10_doS_266 dA szs prg k o48.1.1.1 o48.1.1.2 o48.1.2 o48.2.1.1 o48.2.1.2 o48.2.2 y3 y4 y5 from it_f c46 (it_t c47 (bd_of ho48 (it_f c50 (rfl)))))))) _ _ hw _ (lv_sub hl [0, 1, 2, 3] rfl)
        · have hok := ok_t c50 hok
          refine lv_aload_n hx hb dX10_doS_291 rfl (lv_at hl 0 rfl) ?_
          obtain ⟨o51, ho51⟩ : ∃ o, o = f_X10_turn o48.2.1.2 o48.2.2 := ⟨_, rfl⟩
          refine hI.callI0 (wl := w_Mdl a g) (a := (((((text, size), (sv, stb)), ((o48.1.1.1, o48.1.1.2), szs)), (((prg, cod), words), ((has, fpl), pos))), ((((fault, plc), (o48.1.2, o48.2.1.1)), ((trc, rmany), mark)), (((pil, pmany), mks), ((cts, o48.2.1.2), o48.2.2))))) (r := rb_X10_turn (((((text, size), (sv, stb)), ((o48.1.1.1, o48.1.1.2), szs)), (((prg, cod), words), ((has, fpl), pos))), ((((fault, plc), (o48.1.2, o48.2.1.1)), ((trc, rmany), mark)), (((pil, pmany), mks), ((cts, o48.2.1.2), o48.2.2)))) o51) (As := []) (rest := []) hw (by rw [ho51]; exact c_X10_turn l g a text size sv stb o48.1.1.1 o48.1.1.2 szs prg cod words has fpl pos fault plc o48.1.2 o48.2.1.1 trc rmany mark pil pmany mks cts o48.2.1.2 o48.2.2 ) ok_yX10_turn ml_X10_208 (rm_ok (by omega) (by decide)) 0 rfl rfl rfl rfl hl.1 (Nat.le_of_ble_eq_true rfl) dX10_doS_292 ⟨Nat.zero_le _, Nat.zero_le _⟩ (fun H locs hw => ?_)
          have hw : Wd g A s (w_Mdl a g (((((text, size), (sv, stb)), ((o48.1.1.1, o48.1.1.2), szs)), (((prg, cod), words), ((has, fpl), pos))), ((((fault, plc), (o48.1.2, o48.2.1.1)), ((trc, rmany), mark)), (((pil, pmany), mks), ((cts, o51.2.1), o51.2.2))))) H locs := hw
          refine W.eq (g2 := F0 m 295 ls [.int o51.1]) rfl ?_
          have hok := bdP_use ho51 hok
          refine lv_if_eq (tgt := 266) hx hb dX10_doS_295 (by decide) (fun c52 => ?_) (fun c52 => ?_)
          · have hok := ok_t c52 hok
            exact ih o48.1.1.1 o48.1.1.2 o48.1.2 o48.2.1.1 o51.2.1 o51.2.2 y3 y4 y5 hok r (hr.trans (congrArg (rb_X10_doS (((((text, size), (sv, stb)), ((var₀, tab₀), szs)), (((prg, cod), words), ((has, fpl), pos))), ((((fault, plc), (tol₀, tmany₀)), ((trc, rmany), mark)), (((pil, pmany), mks), ((cts, turns₀), stop₀))))) ((show f_X10_doS_266 dA szs prg (k + 1) var tab tol tmany turns stop y3 y4 y5 = f_X10_doS_266 dA szs prg k o48.1.1.1 o48.1.1.2 o48.1.2 o48.2.1.1 o51.2.1 o51.2.2 y3 y4 y5 from it_f c46 (it_t c47 (bd_of ho48 (it_t c50 (bd_of ho51 (it_t c52 (rfl)))))))))) _ _ hw _ (lv_sub hl [0, 1, 2, 3] rfl)
          · have hok := ok_f c52 hok
            refine lv_aload_n hx hb dX10_doS_298 rfl (lv_at hl 0 rfl) ?_
            refine lv_iload_n hx hb dX10_doS_299 rfl (lv_at hl 1 rfl) ?_
            have hq54 := hok.1
            have hok := hok.2
            obtain ⟨o53, ho53⟩ : ∃ o, o = vlE 13 o48.1.1.1 o48.1.1.2 szs prg o51.2.2 y3 := ⟨_, rfl⟩
            refine hI.callI0 (wl := w_Mdl a g) (a := (((((text, size), (sv, stb)), ((o48.1.1.1, o48.1.1.2), szs)), (((prg, cod), words), ((has, fpl), pos))), ((((fault, plc), (o48.1.2, o48.2.1.1)), ((trc, rmany), mark)), (((pil, pmany), mks), ((cts, o51.2.1), o51.2.2))))) (r := rb_X10_valueOf (((((text, size), (sv, stb)), ((o48.1.1.1, o48.1.1.2), szs)), (((prg, cod), words), ((has, fpl), pos))), ((((fault, plc), (o48.1.2, o48.2.1.1)), ((trc, rmany), mark)), (((pil, pmany), mks), ((cts, o51.2.1), o51.2.2)))) o53) (As := [.int y3]) (rest := []) hw (by rw [ho53]; exact k_vlE l g a 13 text size sv stb o48.1.1.1 o48.1.1.2 szs prg cod words has fpl pos fault plc o48.1.2 o48.2.1.1 trc rmany mark pil pmany mks cts o51.2.1 o51.2.2 y3 hq54) ok_yX10_valueOf ml_X10_193 (rm_ok (by omega) (by decide)) 0 rfl rfl rfl rfl hl.1 (Nat.le_of_ble_eq_true rfl) dX10_doS_300 ⟨Nat.zero_le _, Nat.zero_le _⟩ (fun H locs hw => ?_)
            have hw : Wd g A s (w_Mdl a g (((((text, size), (sv, stb)), ((o48.1.1.1, o48.1.1.2), szs)), (((prg, cod), words), ((has, fpl), pos))), ((((fault, plc), (o48.1.2, o48.2.1.1)), ((trc, rmany), mark)), (((pil, pmany), mks), ((cts, o51.2.1), o53.2))))) H locs := hw
            refine W.eq (g2 := F0 m 303 ls [.int o53.1]) rfl ?_
            have hok := bdP_use ho53 hok
            refine lv_istore (lv' := [(4, .int o53.1), (0, .ref (a 0)), (3, .int y3), (5, .int y5)]) hx hb dX10_doS_303 hl (by decide) rfl (fun ls hl => ?_)
            refine lv_goto (tgt := 266) hx hb dX10_doS_305 (by decide) ?_
            exact ih o48.1.1.1 o48.1.1.2 o48.1.2 o48.2.1.1 o51.2.1 o53.2 y3 o53.1 y5 hok r (hr.trans (congrArg (rb_X10_doS (((((text, size), (sv, stb)), ((var₀, tab₀), szs)), (((prg, cod), words), ((has, fpl), pos))), ((((fault, plc), (tol₀, tmany₀)), ((trc, rmany), mark)), (((pil, pmany), mks), ((cts, turns₀), stop₀))))) ((show f_X10_doS_266 dA szs prg (k + 1) var tab tol tmany turns stop y3 y4 y5 = f_X10_doS_266 dA szs prg k o48.1.1.1 o48.1.1.2 o48.1.2 o48.2.1.1 o51.2.1 o53.2 y3 o53.1 y5 from it_f c46 (it_t c47 (bd_of ho48 (it_t c50 (bd_of ho51 (it_f c52 (bd_of ho53 (rfl))))))))))) _ _ hw _ (lv_sub hl [1, 2, 0, 3] rfl)
set_option maxHeartbeats 4000000 in
set_option maxRecDepth 100000 in
theorem lp_X10_doS_98 (l : Launch) (g : GG) (a : Nat → Nat) (text : Nat → Int32) (size : Int32) (sv : Nat → Int32) (stb : Nat → Int32) (var₀ : Nat → Int32) (tab₀ : Nat → Int32) (szs : Nat → Int32) (prg : Nat → Int32) (cod : Nat → Int32) (words : Int32) (has : Int32) (fpl : Int32) (pos : Int32) (fault : Int32) (plc : Int32) (tol₀ : Nat → Int32) (tmany₀ : Int32) (trc : Nat → Int32) (rmany : Int32) (mark : Int64) (pil : Nat → Int32) (pmany : Int32) (mks : Nat → Int32) (cts : Nat → Int32) (turns₀ : Int32) (stop₀ : Int32) (dA : (Nat → Int32) → (Nat → Int32) → (Nat → Int32) → (Nat → Int32) → (Nat → Int32) → Int32 → Int32 → Int32 → Int32 → ((((Nat → Int32) × (Nat → Int32)) × (Nat → Int32)) × ((Int32 × Int32) × Int32))) (dAk : (Nat → Int32) → (Nat → Int32) → (Nat → Int32) → (Nat → Int32) → (Nat → Int32) → Int32 → Int32 → Int32 → Int32 → Prop) (kM : Nat) (k_dA : Nat) (hk : k_dA + 1 ≤ kM ∧ 45 ≤ kM) (h_dA : ∀ (text : Nat → Int32) (size : Int32) (sv : Nat → Int32) (stb : Nat → Int32) (var : Nat → Int32) (tab : Nat → Int32) (szs : Nat → Int32) (prg : Nat → Int32) (cod : Nat → Int32) (words : Int32) (has : Int32) (fpl : Int32) (pos : Int32) (fault : Int32) (plc : Int32) (tol : Nat → Int32) (tmany : Int32) (trc : Nat → Int32) (rmany : Int32) (mark : Int64) (pil : Nat → Int32) (pmany : Int32) (mks : Nat → Int32) (cts : Nat → Int32) (turns : Int32) (stop : Int32) (y1 : Int32), dAk var tab szs prg tol tmany turns stop y1 → CV l g yX10_doAll cX10_doAll 3 none (rmN k_dA) (w_Mdl a g) [.ref (a 0), .int y1] (((((text, size), (sv, stb)), ((var, tab), szs)), (((prg, cod), words), ((has, fpl), pos))), ((((fault, plc), (tol, tmany)), ((trc, rmany), mark)), (((pil, pmany), mks), ((cts, turns), stop)))) (rb_X10_doAll (((((text, size), (sv, stb)), ((var, tab), szs)), (((prg, cod), words), ((has, fpl), pos))), ((((fault, plc), (tol, tmany)), ((trc, rmany), mark)), (((pil, pmany), mks), ((cts, turns), stop)))) (dA var tab szs prg tol tmany turns stop y1)))  {p : Program} {e : Env} {s : State} {m : MethodId} {args : Array Value} {below : List Frame} {meth : Method} {c : Code} {A : Nat → Prop} (hI : InM p s m args meth c RX10 cX10_doS 8 none g A) : ∀ (var : Nat → Int32) (tab : Nat → Int32) (tol : Nat → Int32) (tmany : Int32) (turns : Int32) (stop : Int32) (y1 : Int32) (y2 : Int32) (z0 : Int32), (ok_X10_doS_98 dA dAk szs prg var tab tol tmany turns stop y1 y2 z0) → ∀ (r : S_Mdl), r = rb_X10_doS (((((text, size), (sv, stb)), ((var₀, tab₀), szs)), (((prg, cod), words), ((has, fpl), pos))), ((((fault, plc), (tol₀, tmany₀)), ((trc, rmany), mark)), (((pil, pmany), mks), ((cts, turns₀), stop₀)))) (f_X10_doS_98 dA szs prg var tab tol tmany turns stop y1 y2 z0) → ∀ (H : Heap) (locs : List Loc), Wd g A s (w_Mdl a g (((((text, size), (sv, stb)), ((var, tab), szs)), (((prg, cod), words), ((has, fpl), pos))), ((((fault, plc), (tol, tmany)), ((trc, rmany), mark)), (((pil, pmany), mks), ((cts, turns), stop))))) H locs → ∀ (ls : Array Slot), lv_has ls 8 [(0, .ref (a 0)), (1, .int y1), (2, .int y2)] → W p l e (rmN kM) s m args below meth c H locs 0 0 (QV g (w_Mdl a g) A r below args s) (F0 m 98 ls [.int z0]) := by
  have hx := hI.1
  have hb := hI.2.1
  intro var tab tol tmany turns stop y1 y2 z0 hok r hr H locs hw ls hl
  refine lv_istore_n (lv' := [(3, .int z0), (0, .ref (a 0)), (1, .int y1), (2, .int y2)]) hx hb dX10_doS_98 rfl hl (by decide) rfl (fun ls hl => ?_)
  refine lv_aload_n hx hb dX10_doS_99 rfl (lv_at hl 1 rfl) ?_
  refine lv_iload_n hx hb dX10_doS_100 rfl (lv_at hl 0 rfl) ?_
  have hq8 := hok.1
  have hok := hok.2
  obtain ⟨o7, ho7⟩ : ∃ o, o = vlE 13 var tab szs prg stop z0 := ⟨_, rfl⟩
  refine hI.callI0 (wl := w_Mdl a g) (a := (((((text, size), (sv, stb)), ((var, tab), szs)), (((prg, cod), words), ((has, fpl), pos))), ((((fault, plc), (tol, tmany)), ((trc, rmany), mark)), (((pil, pmany), mks), ((cts, turns), stop))))) (r := rb_X10_valueOf (((((text, size), (sv, stb)), ((var, tab), szs)), (((prg, cod), words), ((has, fpl), pos))), ((((fault, plc), (tol, tmany)), ((trc, rmany), mark)), (((pil, pmany), mks), ((cts, turns), stop)))) o7) (As := [.int z0]) (rest := []) hw (by rw [ho7]; exact k_vlE l g a 13 text size sv stb var tab szs prg cod words has fpl pos fault plc tol tmany trc rmany mark pil pmany mks cts turns stop z0 hq8) ok_yX10_valueOf ml_X10_193 (rm_ok (by omega) (by decide)) 0 rfl rfl rfl rfl hl.1 (Nat.le_of_ble_eq_true rfl) dX10_doS_101 ⟨Nat.zero_le _, Nat.zero_le _⟩ (fun H locs hw => ?_)
  have hw : Wd g A s (w_Mdl a g (((((text, size), (sv, stb)), ((var, tab), szs)), (((prg, cod), words), ((has, fpl), pos))), ((((fault, plc), (tol, tmany)), ((trc, rmany), mark)), (((pil, pmany), mks), ((cts, turns), o7.2))))) H locs := hw
  refine W.eq (g2 := F0 m 104 ls [.int o7.1]) rfl ?_
  have hok := bdP_use ho7 hok
  refine lv_istore (lv' := [(4, .int o7.1), (3, .int z0), (0, .ref (a 0)), (1, .int y1), (2, .int y2)]) hx hb dX10_doS_104 hl (by decide) rfl (fun ls hl => ?_)
  refine lv_aload_n hx hb dX10_doS_106 rfl (lv_at hl 2 rfl) ?_
  refine lv_aload_n hx hb dX10_doS_107 rfl (lv_at hl 2 rfl) ?_
  refine hI.get (v := .ref (a 7)) hw fg_X10_29 0 rfl rfl dX10_doS_108 ?_
  refine lv_iload_n hx hb dX10_doS_111 rfl (lv_at hl 1 rfl) ?_
  have hq10 := hok.1
  have hok := hok.2
  obtain ⟨o9, ho9⟩ : ∃ o, o = f_X10_behind prg z0 := ⟨_, rfl⟩
  refine hI.callI0 (wl := w_Mdl a g) (a := (((((text, size), (sv, stb)), ((var, tab), szs)), (((prg, cod), words), ((has, fpl), pos))), ((((fault, plc), (tol, tmany)), ((trc, rmany), mark)), (((pil, pmany), mks), ((cts, turns), o7.2))))) (r := rb_X10_behindP (((((text, size), (sv, stb)), ((var, tab), szs)), (((prg, cod), words), ((has, fpl), pos))), ((((fault, plc), (tol, tmany)), ((trc, rmany), mark)), (((pil, pmany), mks), ((cts, turns), o7.2)))) o9) (As := [.ref (a 7), .int z0]) (rest := []) hw (by rw [ho9]; exact c_X10_behindP l g a text size sv stb var tab szs prg cod words has fpl pos fault plc tol tmany trc rmany mark pil pmany mks cts turns o7.2 z0 hq10) ok_yX10_behind ml_X10_107 (rm_ok (by omega) (by decide)) 0 rfl rfl rfl rfl hl.1 (Nat.le_of_ble_eq_true rfl) dX10_doS_112 ⟨Nat.zero_le _, Nat.zero_le _⟩ (fun H locs hw => ?_)
  have hw : Wd g A s (w_Mdl a g (((((text, size), (sv, stb)), ((var, tab), szs)), (((prg, cod), words), ((has, fpl), pos))), ((((fault, plc), (tol, tmany)), ((trc, rmany), mark)), (((pil, pmany), mks), ((cts, turns), o7.2))))) H locs := hw
  refine W.eq (g2 := F0 m 115 ls [.int o9]) rfl ?_
  have hok := bdP_use ho9 hok
  refine lv_istore (lv' := [(5, .int o9), (4, .int o7.1), (3, .int z0), (0, .ref (a 0)), (1, .int y1), (2, .int y2)]) hx hb dX10_doS_115 hl (by decide) rfl (fun ls hl => ?_)
  refine lv_aload_n hx hb dX10_doS_117 rfl (lv_at hl 3 rfl) ?_
  refine hI.get (v := .int o7.2) hw fg_X10_146 0 rfl rfl dX10_doS_118 ?_
  refine lv_if_eq (tgt := 125) hx hb dX10_doS_121 (by decide) (fun c11 => ?_) (fun c11 => ?_)
  · have hok := ok_t c11 hok
    refine lv_iload_n hx hb dX10_doS_125 rfl (lv_at hl 5 rfl) ?_
    refine lv_iconst (v := (1 : Int32)) hx hb dX10_doS_126 (by decide) ?_
    refine lv_icmp_ne (tgt := 148) hx hb dX10_doS_127 (by decide) (fun c12 => ?_) (fun c12 => ?_)
    · have hok := ok_f c12 hok
      refine lv_iload_n hx hb dX10_doS_148 rfl (lv_at hl 5 rfl) ?_
      refine lv_iconst (v := (2 : Int32)) hx hb dX10_doS_149 (by decide) ?_
      refine lv_icmp_ne (tgt := 202) hx hb dX10_doS_150 (by decide) (fun c13 => ?_) (fun c13 => ?_)
      · have hok := ok_f c13 hok
        refine lv_iload_n hx hb dX10_doS_202 rfl (lv_at hl 5 rfl) ?_
        refine lv_bipush (v := (7 : Int32)) hx hb dX10_doS_203 (by decide) ?_
        refine lv_icmp_ne (tgt := 217) hx hb dX10_doS_205 (by decide) (fun c14 => ?_) (fun c14 => ?_)
        · have hok := ok_f c14 hok
          refine lv_iload_n hx hb dX10_doS_217 rfl (lv_at hl 5 rfl) ?_
          refine lv_iconst (v := (3 : Int32)) hx hb dX10_doS_218 (by decide) ?_
          refine lv_icmp_ne (tgt := 266) hx hb dX10_doS_219 (by decide) (fun c15 => ?_) (fun c15 => ?_)
          · have hok := ok_f c15 hok
            exact lp_X10_doS_266 l g a text size sv stb var₀ tab₀ szs prg cod words has fpl pos fault plc tol₀ tmany₀ trc rmany mark pil pmany mks cts turns₀ stop₀ dA dAk kM k_dA hk h_dA hI 5002 var tab tol tmany turns o7.2 z0 o7.1 o9 hok r (hr.trans (congrArg (rb_X10_doS (((((text, size), (sv, stb)), ((var₀, tab₀), szs)), (((prg, cod), words), ((has, fpl), pos))), ((((fault, plc), (tol₀, tmany₀)), ((trc, rmany), mark)), (((pil, pmany), mks), ((cts, turns₀), stop₀))))) ((show f_X10_doS_98 dA szs prg var tab tol tmany turns stop y1 y2 z0 = f_X10_doS_266 dA szs prg 5002 var tab tol tmany turns o7.2 z0 o7.1 o9 from bd_of ho7 (bd_of ho9 (it_t c11 (it_f c12 (it_f c13 (it_f c14 (it_f c15 (rfl))))))))))) _ _ hw _ (lv_sub hl [3, 2, 1, 0] rfl)
          · have hok := ok_t c15 hok
            refine lv_iload hx hb dX10_doS_222 (lv_at hl 1 rfl) ?_
            refine lv_if_eq (tgt := 236) hx hb dX10_doS_224 (by decide) (fun c16 => ?_) (fun c16 => ?_)
            · have hok := ok_t c16 hok
              refine lv_aload_n hx hb dX10_doS_236 rfl (lv_at hl 3 rfl) ?_
              refine lv_iload hx hb dX10_doS_237 (lv_at hl 0 rfl) ?_
              have hq18 := hok.1
              have hok := hok.2
              obtain ⟨o17, ho17⟩ : ∃ o, o = skA 13 prg o9 := ⟨_, rfl⟩
              refine hI.callI0 (wl := w_Mdl a g) (a := (((((text, size), (sv, stb)), ((var, tab), szs)), (((prg, cod), words), ((has, fpl), pos))), ((((fault, plc), (tol, tmany)), ((trc, rmany), mark)), (((pil, pmany), mks), ((cts, turns), o7.2))))) (r := rb_X10_skipAll (((((text, size), (sv, stb)), ((var, tab), szs)), (((prg, cod), words), ((has, fpl), pos))), ((((fault, plc), (tol, tmany)), ((trc, rmany), mark)), (((pil, pmany), mks), ((cts, turns), o7.2)))) o17) (As := [.int o9]) (rest := []) hw (by rw [ho17]; exact k_skA l g a 13 text size sv stb var tab szs prg cod words has fpl pos fault plc tol tmany trc rmany mark pil pmany mks cts turns o7.2 o9 hq18) ok_yX10_skipAll ml_X10_202 (rm_ok (by omega) (by decide)) 0 rfl rfl rfl rfl hl.1 (Nat.le_of_ble_eq_true rfl) dX10_doS_239 ⟨Nat.zero_le _, Nat.zero_le _⟩ (fun H locs hw => ?_)
              have hw : Wd g A s (w_Mdl a g (((((text, size), (sv, stb)), ((var, tab), szs)), (((prg, cod), words), ((has, fpl), pos))), ((((fault, plc), (tol, tmany)), ((trc, rmany), mark)), (((pil, pmany), mks), ((cts, turns), o7.2))))) H locs := hw
              refine W.eq (g2 := F0 m 242 ls [.int o17]) rfl ?_
              have hok := bdP_use ho17 hok
              refine lv_istore (lv' := [(6, .int o17), (5, .int o9), (4, .int o7.1), (3, .int z0), (0, .ref (a 0)), (1, .int y1), (2, .int y2)]) hx hb dX10_doS_242 hl (by decide) rfl (fun ls hl => ?_)
              refine lv_aload_n hx hb dX10_doS_244 rfl (lv_at hl 4 rfl) ?_
              refine hI.get (v := .ref (a 7)) hw fg_X10_29 0 rfl rfl dX10_doS_245 ?_
              refine lv_iload hx hb dX10_doS_248 (lv_at hl 0 rfl) ?_
              have hq19 := hok.1
              have hok := hok.2
              refine hI.iald hw 7 rfl hq19 dX10_doS_250 ?_
              refine lv_iconst (v := (4 : Int32)) hx hb dX10_doS_251 (by decide) ?_
              refine lv_icmp_ne (tgt := 263) hx hb dX10_doS_252 (by decide) (fun c20 => ?_) (fun c20 => ?_)
              · have hok := ok_f c20 hok
                refine lv_goto (tgt := 308) hx hb dX10_doS_263 (by decide) ?_
                exact hI.retV (u := (((((text, size), (sv, stb)), ((var, tab), szs)), (((prg, cod), words), ((has, fpl), pos))), ((((fault, plc), (tol, tmany)), ((trc, rmany), mark)), (((pil, pmany), mks), ((cts, turns), o7.2))))) hw (hr.trans (congrArg (rb_X10_doS (((((text, size), (sv, stb)), ((var₀, tab₀), szs)), (((prg, cod), words), ((has, fpl), pos))), ((((fault, plc), (tol₀, tmany₀)), ((trc, rmany), mark)), (((pil, pmany), mks), ((cts, turns₀), stop₀))))) ((show f_X10_doS_98 dA szs prg var tab tol tmany turns stop y1 y2 z0 = ((((var, tab), tol), ((tmany, turns), o7.2))) from bd_of ho7 (bd_of ho9 (it_t c11 (it_f c12 (it_f c13 (it_f c14 (it_t c15 (it_t c16 (bd_of ho17 (it_f c20 (rfl)))))))))))))) dX10_doS_308
              · have hok := ok_t c20 hok
                refine lv_aload_n hx hb dX10_doS_255 rfl (lv_at hl 4 rfl) ?_
                refine lv_iload hx hb dX10_doS_256 (lv_at hl 0 rfl) ?_
                refine lv_iconst (v := (1 : Int32)) hx hb dX10_doS_258 (by decide) ?_
                refine lv_iadd hx hb dX10_doS_259 ?_
                have hq22 := hok.1
                have hok := hok.2
                obtain ⟨o21, ho21⟩ : ∃ o, o = dA var tab szs prg tol tmany turns o7.2 (o17 + (1 : Int32)) := ⟨_, rfl⟩
                refine hI.callV0 (wl := w_Mdl a g) (a := (((((text, size), (sv, stb)), ((var, tab), szs)), (((prg, cod), words), ((has, fpl), pos))), ((((fault, plc), (tol, tmany)), ((trc, rmany), mark)), (((pil, pmany), mks), ((cts, turns), o7.2))))) (r := rb_X10_doAll (((((text, size), (sv, stb)), ((var, tab), szs)), (((prg, cod), words), ((has, fpl), pos))), ((((fault, plc), (tol, tmany)), ((trc, rmany), mark)), (((pil, pmany), mks), ((cts, turns), o7.2)))) o21) (As := [.int (o17 + (1 : Int32))]) (rest := []) hw (by rw [ho21]; exact h_dA text size sv stb var tab szs prg cod words has fpl pos fault plc tol tmany trc rmany mark pil pmany mks cts turns o7.2 (o17 + (1 : Int32)) hq22) ok_yX10_doAll ml_X10_212 (rm_ok (by omega) (by decide)) 0 rfl rfl rfl rfl hl.1 (Nat.le_of_ble_eq_true rfl) dX10_doS_260 ⟨Nat.zero_le _, Nat.zero_le _⟩ (fun H locs hw => ?_)
                have hw : Wd g A s (w_Mdl a g (((((text, size), (sv, stb)), ((o21.1.1.1, o21.1.1.2), szs)), (((prg, cod), words), ((has, fpl), pos))), ((((fault, plc), (o21.1.2, o21.2.1.1)), ((trc, rmany), mark)), (((pil, pmany), mks), ((cts, o21.2.1.2), o21.2.2))))) H locs := hw
                refine W.eq (g2 := F0 m 263 ls []) rfl ?_
                have hok := bdP_use ho21 hok
                refine lv_goto (tgt := 308) hx hb dX10_doS_263 (by decide) ?_
                exact hI.retV (u := (((((text, size), (sv, stb)), ((o21.1.1.1, o21.1.1.2), szs)), (((prg, cod), words), ((has, fpl), pos))), ((((fault, plc), (o21.1.2, o21.2.1.1)), ((trc, rmany), mark)), (((pil, pmany), mks), ((cts, o21.2.1.2), o21.2.2))))) hw (hr.trans (congrArg (rb_X10_doS (((((text, size), (sv, stb)), ((var₀, tab₀), szs)), (((prg, cod), words), ((has, fpl), pos))), ((((fault, plc), (tol₀, tmany₀)), ((trc, rmany), mark)), (((pil, pmany), mks), ((cts, turns₀), stop₀))))) ((show f_X10_doS_98 dA szs prg var tab tol tmany turns stop y1 y2 z0 = ((((o21.1.1.1, o21.1.1.2), o21.1.2), ((o21.2.1.1, o21.2.1.2), o21.2.2))) from bd_of ho7 (bd_of ho9 (it_t c11 (it_f c12 (it_f c13 (it_f c14 (it_t c15 (it_t c16 (bd_of ho17 (it_t c20 (bd_of ho21 (rfl))))))))))))))) dX10_doS_308
            · have hok := ok_f c16 hok
              refine lv_aload_n hx hb dX10_doS_227 rfl (lv_at hl 3 rfl) ?_
              refine lv_iload hx hb dX10_doS_228 (lv_at hl 0 rfl) ?_
              have hq24 := hok.1
              have hok := hok.2
              obtain ⟨o23, ho23⟩ : ∃ o, o = dA var tab szs prg tol tmany turns o7.2 o9 := ⟨_, rfl⟩
              refine hI.callV0 (wl := w_Mdl a g) (a := (((((text, size), (sv, stb)), ((var, tab), szs)), (((prg, cod), words), ((has, fpl), pos))), ((((fault, plc), (tol, tmany)), ((trc, rmany), mark)), (((pil, pmany), mks), ((cts, turns), o7.2))))) (r := rb_X10_doAll (((((text, size), (sv, stb)), ((var, tab), szs)), (((prg, cod), words), ((has, fpl), pos))), ((((fault, plc), (tol, tmany)), ((trc, rmany), mark)), (((pil, pmany), mks), ((cts, turns), o7.2)))) o23) (As := [.int o9]) (rest := []) hw (by rw [ho23]; exact h_dA text size sv stb var tab szs prg cod words has fpl pos fault plc tol tmany trc rmany mark pil pmany mks cts turns o7.2 o9 hq24) ok_yX10_doAll ml_X10_212 (rm_ok (by omega) (by decide)) 0 rfl rfl rfl rfl hl.1 (Nat.le_of_ble_eq_true rfl) dX10_doS_230 ⟨Nat.zero_le _, Nat.zero_le _⟩ (fun H locs hw => ?_)
              have hw : Wd g A s (w_Mdl a g (((((text, size), (sv, stb)), ((o23.1.1.1, o23.1.1.2), szs)), (((prg, cod), words), ((has, fpl), pos))), ((((fault, plc), (o23.1.2, o23.2.1.1)), ((trc, rmany), mark)), (((pil, pmany), mks), ((cts, o23.2.1.2), o23.2.2))))) H locs := hw
              refine W.eq (g2 := F0 m 233 ls []) rfl ?_
              have hok := bdP_use ho23 hok
              refine lv_goto (tgt := 308) hx hb dX10_doS_233 (by decide) ?_
              exact hI.retV (u := (((((text, size), (sv, stb)), ((o23.1.1.1, o23.1.1.2), szs)), (((prg, cod), words), ((has, fpl), pos))), ((((fault, plc), (o23.1.2, o23.2.1.1)), ((trc, rmany), mark)), (((pil, pmany), mks), ((cts, o23.2.1.2), o23.2.2))))) hw (hr.trans (congrArg (rb_X10_doS (((((text, size), (sv, stb)), ((var₀, tab₀), szs)), (((prg, cod), words), ((has, fpl), pos))), ((((fault, plc), (tol₀, tmany₀)), ((trc, rmany), mark)), (((pil, pmany), mks), ((cts, turns₀), stop₀))))) ((show f_X10_doS_98 dA szs prg var tab tol tmany turns stop y1 y2 z0 = ((((o23.1.1.1, o23.1.1.2), o23.1.2), ((o23.2.1.1, o23.2.1.2), o23.2.2))) from bd_of ho7 (bd_of ho9 (it_t c11 (it_f c12 (it_f c13 (it_f c14 (it_t c15 (it_f c16 (bd_of ho23 (rfl))))))))))))) dX10_doS_308
        · have hok := ok_t c14 hok
          refine lv_aload_n hx hb dX10_doS_208 rfl (lv_at hl 3 rfl) ?_
          refine lv_iload hx hb dX10_doS_209 (lv_at hl 1 rfl) ?_
          obtain ⟨o25, ho25⟩ : ∃ o, o = f_X10_tell tol tmany o7.1 := ⟨_, rfl⟩
          have hq26 := hok.1
          have hok := hok.2
          refine hI.callV0 (wl := w_Mdl a g) (a := (((((text, size), (sv, stb)), ((var, tab), szs)), (((prg, cod), words), ((has, fpl), pos))), ((((fault, plc), (tol, tmany)), ((trc, rmany), mark)), (((pil, pmany), mks), ((cts, turns), o7.2))))) (r := rb_X10_tell (((((text, size), (sv, stb)), ((var, tab), szs)), (((prg, cod), words), ((has, fpl), pos))), ((((fault, plc), (tol, tmany)), ((trc, rmany), mark)), (((pil, pmany), mks), ((cts, turns), o7.2)))) o25) (As := [.int o7.1]) (rest := []) hw (by rw [ho25]; exact c_X10_tell l g a text size sv stb var tab szs prg cod words has fpl pos fault plc tol tmany trc rmany mark pil pmany mks cts turns o7.2 o7.1 hq26) ok_yX10_tell ml_X10_180 (rm_ok (by omega) (by decide)) 0 rfl rfl rfl rfl hl.1 (Nat.le_of_ble_eq_true rfl) dX10_doS_211 ⟨Nat.zero_le _, Nat.zero_le _⟩ (fun H locs hw => ?_)
          have hw : Wd g A s (w_Mdl a g (((((text, size), (sv, stb)), ((var, tab), szs)), (((prg, cod), words), ((has, fpl), pos))), ((((fault, plc), (o25.1, o25.2)), ((trc, rmany), mark)), (((pil, pmany), mks), ((cts, turns), o7.2))))) H locs := hw
          refine W.eq (g2 := F0 m 214 ls []) rfl ?_
          have hok := bdP_use ho25 hok
          refine lv_goto (tgt := 308) hx hb dX10_doS_214 (by decide) ?_
          exact hI.retV (u := (((((text, size), (sv, stb)), ((var, tab), szs)), (((prg, cod), words), ((has, fpl), pos))), ((((fault, plc), (o25.1, o25.2)), ((trc, rmany), mark)), (((pil, pmany), mks), ((cts, turns), o7.2))))) hw (hr.trans (congrArg (rb_X10_doS (((((text, size), (sv, stb)), ((var₀, tab₀), szs)), (((prg, cod), words), ((has, fpl), pos))), ((((fault, plc), (tol₀, tmany₀)), ((trc, rmany), mark)), (((pil, pmany), mks), ((cts, turns₀), stop₀))))) ((show f_X10_doS_98 dA szs prg var tab tol tmany turns stop y1 y2 z0 = ((((var, tab), o25.1), ((o25.2, turns), o7.2))) from bd_of ho7 (bd_of ho9 (it_t c11 (it_f c12 (it_f c13 (it_t c14 (bd_of ho25 (rfl))))))))))) dX10_doS_308
      · have hok := ok_t c13 hok
        refine lv_aload_n hx hb dX10_doS_153 rfl (lv_at hl 3 rfl) ?_
        refine hI.get (v := .ref (a 7)) hw fg_X10_29 0 rfl rfl dX10_doS_154 ?_
        refine lv_iload_n hx hb dX10_doS_157 rfl (lv_at hl 4 rfl) ?_
        refine lv_iconst (v := (1 : Int32)) hx hb dX10_doS_158 (by decide) ?_
        refine lv_iadd hx hb dX10_doS_159 ?_
        have hq27 := hok.1
        have hok := hok.2
        refine hI.iald hw 7 rfl hq27 dX10_doS_160 ?_
        refine lv_topi (fun v28 hv28 => ?_)
        have hok := bdP_use hv28 hok
        refine lv_istore (lv' := [(6, .int v28), (5, .int o9), (4, .int o7.1), (3, .int z0), (0, .ref (a 0)), (1, .int y1), (2, .int y2)]) hx hb dX10_doS_161 hl (by decide) rfl (fun ls hl => ?_)
        refine lv_aload_n hx hb dX10_doS_163 rfl (lv_at hl 4 rfl) ?_
        refine lv_iload hx hb dX10_doS_164 (lv_at hl 1 rfl) ?_
        have hq30 := hok.1
        have hok := hok.2
        obtain ⟨o29, ho29⟩ : ∃ o, o = vlE 13 var tab szs prg o7.2 o9 := ⟨_, rfl⟩
        refine hI.callI0 (wl := w_Mdl a g) (a := (((((text, size), (sv, stb)), ((var, tab), szs)), (((prg, cod), words), ((has, fpl), pos))), ((((fault, plc), (tol, tmany)), ((trc, rmany), mark)), (((pil, pmany), mks), ((cts, turns), o7.2))))) (r := rb_X10_valueOf (((((text, size), (sv, stb)), ((var, tab), szs)), (((prg, cod), words), ((has, fpl), pos))), ((((fault, plc), (tol, tmany)), ((trc, rmany), mark)), (((pil, pmany), mks), ((cts, turns), o7.2)))) o29) (As := [.int o9]) (rest := []) hw (by rw [ho29]; exact k_vlE l g a 13 text size sv stb var tab szs prg cod words has fpl pos fault plc tol tmany trc rmany mark pil pmany mks cts turns o7.2 o9 hq30) ok_yX10_valueOf ml_X10_193 (rm_ok (by omega) (by decide)) 0 rfl rfl rfl rfl hl.1 (Nat.le_of_ble_eq_true rfl) dX10_doS_166 ⟨Nat.zero_le _, Nat.zero_le _⟩ (fun H locs hw => ?_)
        have hw : Wd g A s (w_Mdl a g (((((text, size), (sv, stb)), ((var, tab), szs)), (((prg, cod), words), ((has, fpl), pos))), ((((fault, plc), (tol, tmany)), ((trc, rmany), mark)), (((pil, pmany), mks), ((cts, turns), o29.2))))) H locs := hw
        refine W.eq (g2 := F0 m 169 ls [.int o29.1]) rfl ?_
        have hok := bdP_use ho29 hok
        refine lv_istore (lv' := [(7, .int o29.1), (6, .int v28), (5, .int o9), (4, .int o7.1), (3, .int z0), (0, .ref (a 0)), (1, .int y1), (2, .int y2)]) hx hb dX10_doS_169 hl (by decide) rfl (fun ls hl => ?_)
        refine lv_aload_n hx hb dX10_doS_171 rfl (lv_at hl 5 rfl) ?_
        refine hI.get (v := .int o29.2) hw fg_X10_146 0 rfl rfl dX10_doS_172 ?_
        refine lv_if_ne (tgt := 199) hx hb dX10_doS_175 (by decide) (fun c31 => ?_) (fun c31 => ?_)
        · have hok := ok_f c31 hok
          refine lv_goto (tgt := 308) hx hb dX10_doS_199 (by decide) ?_
          exact hI.retV (u := (((((text, size), (sv, stb)), ((var, tab), szs)), (((prg, cod), words), ((has, fpl), pos))), ((((fault, plc), (tol, tmany)), ((trc, rmany), mark)), (((pil, pmany), mks), ((cts, turns), o29.2))))) hw (hr.trans (congrArg (rb_X10_doS (((((text, size), (sv, stb)), ((var₀, tab₀), szs)), (((prg, cod), words), ((has, fpl), pos))), ((((fault, plc), (tol₀, tmany₀)), ((trc, rmany), mark)), (((pil, pmany), mks), ((cts, turns₀), stop₀))))) ((show f_X10_doS_98 dA szs prg var tab tol tmany turns stop y1 y2 z0 = ((((var, tab), tol), ((tmany, turns), o29.2))) from bd_of ho7 (bd_of ho9 (it_t c11 (it_f c12 (it_t c13 (bd_of hv28 (bd_of ho29 (it_f c31 (rfl)))))))))))) dX10_doS_308
        · have hok := ok_t c31 hok
          refine lv_aload_n hx hb dX10_doS_178 rfl (lv_at hl 5 rfl) ?_
          refine hI.get (v := .ref (a 5)) hw fg_X10_23 0 rfl rfl dX10_doS_179 ?_
          refine lv_bipush (v := (16 : Int32)) hx hb dX10_doS_182 (by decide) ?_
          refine lv_iload hx hb dX10_doS_184 (lv_at hl 1 rfl) ?_
          refine lv_imul hx hb dX10_doS_186 ?_
          refine lv_aload_n hx hb dX10_doS_187 rfl (lv_at hl 5 rfl) ?_
          refine lv_iload hx hb dX10_doS_188 (lv_at hl 1 rfl) ?_
          refine lv_iload hx hb dX10_doS_190 (lv_at hl 3 rfl) ?_
          obtain ⟨o32, ho32⟩ : ∃ o, o = f_X10_placeOf szs v28 o7.1 := ⟨_, rfl⟩
          have hq33 := hok.1
          have hok := hok.2
          have hq34 := hok.1
          have hok := hok.2
          refine hI.callI0 (wl := w_Mdl a g) (a := (((((text, size), (sv, stb)), ((var, tab), szs)), (((prg, cod), words), ((has, fpl), pos))), ((((fault, plc), (tol, tmany)), ((trc, rmany), mark)), (((pil, pmany), mks), ((cts, turns), o29.2))))) (r := rb_X10_placeOf (((((text, size), (sv, stb)), ((var, tab), szs)), (((prg, cod), words), ((has, fpl), pos))), ((((fault, plc), (tol, tmany)), ((trc, rmany), mark)), (((pil, pmany), mks), ((cts, turns), o29.2)))) o32) (As := [.int v28, .int o7.1]) (rest := [.int ((16 : Int32) * v28), .ref (a 5)]) hw (by rw [ho32]; exact c_X10_placeOf l g a text size sv stb var tab szs prg cod words has fpl pos fault plc tol tmany trc rmany mark pil pmany mks cts turns o29.2 v28 o7.1 hq33 hq34) ok_yX10_placeOf ml_X10_183 (rm_ok (by omega) (by decide)) 0 rfl rfl rfl rfl hl.1 (Nat.le_of_ble_eq_true rfl) dX10_doS_192 ⟨Nat.zero_le _, Nat.zero_le _⟩ (fun H locs hw => ?_)
          have hw : Wd g A s (w_Mdl a g (((((text, size), (sv, stb)), ((var, tab), szs)), (((prg, cod), words), ((has, fpl), pos))), ((((fault, plc), (tol, tmany)), ((trc, rmany), mark)), (((pil, pmany), mks), ((cts, turns), o29.2))))) H locs := hw
          refine W.eq (g2 := F0 m 195 ls [.int o32, .int ((16 : Int32) * v28), .ref (a 5)]) rfl ?_
          have hok := bdP_use ho32 hok
          refine lv_iadd hx hb dX10_doS_195 ?_
          refine lv_iload hx hb dX10_doS_196 (lv_at hl 0 rfl) ?_
          have hq35 := hok.1
          have hok := hok.2
          refine hI.iast hw 5 rfl hq35 dX10_doS_198 (fun H locs hw => ?_)
          have hw : Wd g A s (w_Mdl a g (((((text, size), (sv, stb)), ((var, upd tab (((16 : Int32) * v28) + o32).toNatClampNeg o29.1), szs)), (((prg, cod), words), ((has, fpl), pos))), ((((fault, plc), (tol, tmany)), ((trc, rmany), mark)), (((pil, pmany), mks), ((cts, turns), o29.2))))) H locs := hw
          refine lv_goto (tgt := 308) hx hb dX10_doS_199 (by decide) ?_
          exact hI.retV (u := (((((text, size), (sv, stb)), ((var, upd tab (((16 : Int32) * v28) + o32).toNatClampNeg o29.1), szs)), (((prg, cod), words), ((has, fpl), pos))), ((((fault, plc), (tol, tmany)), ((trc, rmany), mark)), (((pil, pmany), mks), ((cts, turns), o29.2))))) hw (hr.trans (congrArg (rb_X10_doS (((((text, size), (sv, stb)), ((var₀, tab₀), szs)), (((prg, cod), words), ((has, fpl), pos))), ((((fault, plc), (tol₀, tmany₀)), ((trc, rmany), mark)), (((pil, pmany), mks), ((cts, turns₀), stop₀))))) ((show f_X10_doS_98 dA szs prg var tab tol tmany turns stop y1 y2 z0 = ((((var, upd tab (((16 : Int32) * v28) + o32).toNatClampNeg o29.1), tol), ((tmany, turns), o29.2))) from bd_of ho7 (bd_of ho9 (it_t c11 (it_f c12 (it_t c13 (bd_of hv28 (bd_of ho29 (it_t c31 (bd_of ho32 (rfl))))))))))))) dX10_doS_308
    · have hok := ok_t c12 hok
      refine lv_aload_n hx hb dX10_doS_130 rfl (lv_at hl 3 rfl) ?_
      refine hI.get (v := .ref (a 4)) hw fg_X10_20 0 rfl rfl dX10_doS_131 ?_
      refine lv_aload_n hx hb dX10_doS_134 rfl (lv_at hl 3 rfl) ?_
      refine hI.get (v := .ref (a 7)) hw fg_X10_29 0 rfl rfl dX10_doS_135 ?_
      refine lv_iload_n hx hb dX10_doS_138 rfl (lv_at hl 4 rfl) ?_
      refine lv_iconst (v := (1 : Int32)) hx hb dX10_doS_139 (by decide) ?_
      refine lv_iadd hx hb dX10_doS_140 ?_
      have hq36 := hok.1
      have hok := hok.2
      refine hI.iald hw 7 rfl hq36 dX10_doS_141 ?_
      refine lv_iload hx hb dX10_doS_142 (lv_at hl 1 rfl) ?_
      have hq37 := hok.1
      have hok := hok.2
      refine hI.iast hw 4 rfl hq37 dX10_doS_144 (fun H locs hw => ?_)
      have hw : Wd g A s (w_Mdl a g (((((text, size), (sv, stb)), ((upd var (prg (y1 + (1 : Int32)).toNatClampNeg).toNatClampNeg o7.1, tab), szs)), (((prg, cod), words), ((has, fpl), pos))), ((((fault, plc), (tol, tmany)), ((trc, rmany), mark)), (((pil, pmany), mks), ((cts, turns), o7.2))))) H locs := hw
      refine lv_goto (tgt := 308) hx hb dX10_doS_145 (by decide) ?_
      exact hI.retV (u := (((((text, size), (sv, stb)), ((upd var (prg (y1 + (1 : Int32)).toNatClampNeg).toNatClampNeg o7.1, tab), szs)), (((prg, cod), words), ((has, fpl), pos))), ((((fault, plc), (tol, tmany)), ((trc, rmany), mark)), (((pil, pmany), mks), ((cts, turns), o7.2))))) hw (hr.trans (congrArg (rb_X10_doS (((((text, size), (sv, stb)), ((var₀, tab₀), szs)), (((prg, cod), words), ((has, fpl), pos))), ((((fault, plc), (tol₀, tmany₀)), ((trc, rmany), mark)), (((pil, pmany), mks), ((cts, turns₀), stop₀))))) ((show f_X10_doS_98 dA szs prg var tab tol tmany turns stop y1 y2 z0 = ((((upd var (prg (y1 + (1 : Int32)).toNatClampNeg).toNatClampNeg o7.1, tab), tol), ((tmany, turns), o7.2))) from bd_of ho7 (bd_of ho9 (it_t c11 (it_t c12 (rfl)))))))) dX10_doS_308
  · have hok := ok_f c11 hok
    exact hI.retV (u := (((((text, size), (sv, stb)), ((var, tab), szs)), (((prg, cod), words), ((has, fpl), pos))), ((((fault, plc), (tol, tmany)), ((trc, rmany), mark)), (((pil, pmany), mks), ((cts, turns), o7.2))))) hw (hr.trans (congrArg (rb_X10_doS (((((text, size), (sv, stb)), ((var₀, tab₀), szs)), (((prg, cod), words), ((has, fpl), pos))), ((((fault, plc), (tol₀, tmany₀)), ((trc, rmany), mark)), (((pil, pmany), mks), ((cts, turns₀), stop₀))))) ((show f_X10_doS_98 dA szs prg var tab tol tmany turns stop y1 y2 z0 = ((((var, tab), tol), ((tmany, turns), o7.2))) from bd_of ho7 (bd_of ho9 (it_f c11 (rfl))))))) dX10_doS_124
set_option maxHeartbeats 4000000 in
set_option maxRecDepth 100000 in
theorem lp_X10_doS_23 (l : Launch) (g : GG) (a : Nat → Nat) (text : Nat → Int32) (size : Int32) (sv : Nat → Int32) (stb : Nat → Int32) (var₀ : Nat → Int32) (tab₀ : Nat → Int32) (szs : Nat → Int32) (prg : Nat → Int32) (cod : Nat → Int32) (words : Int32) (has : Int32) (fpl : Int32) (pos : Int32) (fault : Int32) (plc : Int32) (tol₀ : Nat → Int32) (tmany₀ : Int32) (trc : Nat → Int32) (rmany : Int32) (mark : Int64) (pil : Nat → Int32) (pmany : Int32) (mks : Nat → Int32) (cts : Nat → Int32) (turns₀ : Int32) (stop₀ : Int32) (dA : (Nat → Int32) → (Nat → Int32) → (Nat → Int32) → (Nat → Int32) → (Nat → Int32) → Int32 → Int32 → Int32 → Int32 → ((((Nat → Int32) × (Nat → Int32)) × (Nat → Int32)) × ((Int32 × Int32) × Int32))) (dAk : (Nat → Int32) → (Nat → Int32) → (Nat → Int32) → (Nat → Int32) → (Nat → Int32) → Int32 → Int32 → Int32 → Int32 → Prop) (kM : Nat) (k_dA : Nat) (hk : k_dA + 1 ≤ kM ∧ 45 ≤ kM) (h_dA : ∀ (text : Nat → Int32) (size : Int32) (sv : Nat → Int32) (stb : Nat → Int32) (var : Nat → Int32) (tab : Nat → Int32) (szs : Nat → Int32) (prg : Nat → Int32) (cod : Nat → Int32) (words : Int32) (has : Int32) (fpl : Int32) (pos : Int32) (fault : Int32) (plc : Int32) (tol : Nat → Int32) (tmany : Int32) (trc : Nat → Int32) (rmany : Int32) (mark : Int64) (pil : Nat → Int32) (pmany : Int32) (mks : Nat → Int32) (cts : Nat → Int32) (turns : Int32) (stop : Int32) (y1 : Int32), dAk var tab szs prg tol tmany turns stop y1 → CV l g yX10_doAll cX10_doAll 3 none (rmN k_dA) (w_Mdl a g) [.ref (a 0), .int y1] (((((text, size), (sv, stb)), ((var, tab), szs)), (((prg, cod), words), ((has, fpl), pos))), ((((fault, plc), (tol, tmany)), ((trc, rmany), mark)), (((pil, pmany), mks), ((cts, turns), stop)))) (rb_X10_doAll (((((text, size), (sv, stb)), ((var, tab), szs)), (((prg, cod), words), ((has, fpl), pos))), ((((fault, plc), (tol, tmany)), ((trc, rmany), mark)), (((pil, pmany), mks), ((cts, turns), stop)))) (dA var tab szs prg tol tmany turns stop y1)))  {p : Program} {e : Env} {s : State} {m : MethodId} {args : Array Value} {below : List Frame} {meth : Method} {c : Code} {A : Nat → Prop} (hI : InM p s m args meth c RX10 cX10_doS 8 none g A) : ∀ (k : Nat) (var : Nat → Int32) (tab : Nat → Int32) (tol : Nat → Int32) (tmany : Int32) (turns : Int32) (stop : Int32) (y1 : Int32) (y3 : Int32), (ok_X10_doS_23 dA dAk szs prg k var tab tol tmany turns stop y1 y3) → ∀ (r : S_Mdl), r = rb_X10_doS (((((text, size), (sv, stb)), ((var₀, tab₀), szs)), (((prg, cod), words), ((has, fpl), pos))), ((((fault, plc), (tol₀, tmany₀)), ((trc, rmany), mark)), (((pil, pmany), mks), ((cts, turns₀), stop₀)))) (f_X10_doS_23 dA szs prg k var tab tol tmany turns stop y1 y3) → ∀ (H : Heap) (locs : List Loc), Wd g A s (w_Mdl a g (((((text, size), (sv, stb)), ((var, tab), szs)), (((prg, cod), words), ((has, fpl), pos))), ((((fault, plc), (tol, tmany)), ((trc, rmany), mark)), (((pil, pmany), mks), ((cts, turns), stop))))) H locs → ∀ (ls : Array Slot), lv_has ls 8 [(0, .ref (a 0)), (1, .int y1), (3, .int y3)] → W p l e (rmN kM) s m args below meth c H locs 0 0 (QV g (w_Mdl a g) A r below args s) (F0 m 23 ls []) := by
  have hx := hI.1
  have hb := hI.2.1
  intro k
  induction k with
  | zero =>
    intro var tab tol tmany turns stop y1 y3 hok
    exact hok.elim
  | succ k ih =>
    intro var tab tol tmany turns stop y1 y3 hok r hr H locs hw ls hl
    refine lv_iload_n hx hb dX10_doS_23 rfl (lv_at hl 2 rfl) ?_
    refine lv_aload_n hx hb dX10_doS_24 rfl (lv_at hl 0 rfl) ?_
    refine hI.get (v := .ref (a 7)) hw fg_X10_29 0 rfl rfl dX10_doS_25 ?_
    refine lv_iload_n hx hb dX10_doS_28 rfl (lv_at hl 1 rfl) ?_
    refine lv_iconst (v := (1 : Int32)) hx hb dX10_doS_29 (by decide) ?_
    refine lv_iadd hx hb dX10_doS_30 ?_
    have hq38 := hok.1
    have hok := hok.2
    refine hI.iald hw 7 rfl hq38 dX10_doS_31 ?_
    refine lv_icmp_ge (tgt := 83) hx hb dX10_doS_32 (by decide) (fun c39 => ?_) (fun c39 => ?_)
    · have hok := ok_t c39 hok
      exact hI.retV (u := (((((text, size), (sv, stb)), ((var, tab), szs)), (((prg, cod), words), ((has, fpl), pos))), ((((fault, plc), (tol, tmany)), ((trc, rmany), mark)), (((pil, pmany), mks), ((cts, turns), stop))))) hw (hr.trans (congrArg (rb_X10_doS (((((text, size), (sv, stb)), ((var₀, tab₀), szs)), (((prg, cod), words), ((has, fpl), pos))), ((((fault, plc), (tol₀, tmany₀)), ((trc, rmany), mark)), (((pil, pmany), mks), ((cts, turns₀), stop₀))))) ((show f_X10_doS_23 dA szs prg (k + 1) var tab tol tmany turns stop y1 y3 = ((((var, tab), tol), ((tmany, turns), stop))) from it_t c39 (rfl))))) dX10_doS_83
    · have hok := ok_f c39 hok
      refine lv_aload_n hx hb dX10_doS_35 rfl (lv_at hl 0 rfl) ?_
      refine hI.get (v := .int stop) hw fg_X10_146 0 rfl rfl dX10_doS_36 ?_
      refine lv_if_ne (tgt := 83) hx hb dX10_doS_39 (by decide) (fun c40 => ?_) (fun c40 => ?_)
      · have hok := ok_f c40 hok
        exact hI.retV (u := (((((text, size), (sv, stb)), ((var, tab), szs)), (((prg, cod), words), ((has, fpl), pos))), ((((fault, plc), (tol, tmany)), ((trc, rmany), mark)), (((pil, pmany), mks), ((cts, turns), stop))))) hw (hr.trans (congrArg (rb_X10_doS (((((text, size), (sv, stb)), ((var₀, tab₀), szs)), (((prg, cod), words), ((has, fpl), pos))), ((((fault, plc), (tol₀, tmany₀)), ((trc, rmany), mark)), (((pil, pmany), mks), ((cts, turns₀), stop₀))))) ((show f_X10_doS_23 dA szs prg (k + 1) var tab tol tmany turns stop y1 y3 = ((((var, tab), tol), ((tmany, turns), stop))) from it_f c39 (it_f c40 (rfl)))))) dX10_doS_83
      · have hok := ok_t c40 hok
        refine lv_aload_n hx hb dX10_doS_42 rfl (lv_at hl 0 rfl) ?_
        refine lv_iload_n hx hb dX10_doS_43 rfl (lv_at hl 1 rfl) ?_
        refine lv_iconst (v := (2 : Int32)) hx hb dX10_doS_44 (by decide) ?_
        refine lv_iadd hx hb dX10_doS_45 ?_
        have hq42 := hok.1
        have hok := hok.2
        obtain ⟨o41, ho41⟩ : ∃ o, o = dA var tab szs prg tol tmany turns stop (y1 + (2 : Int32)) := ⟨_, rfl⟩
        refine hI.callV0 (wl := w_Mdl a g) (a := (((((text, size), (sv, stb)), ((var, tab), szs)), (((prg, cod), words), ((has, fpl), pos))), ((((fault, plc), (tol, tmany)), ((trc, rmany), mark)), (((pil, pmany), mks), ((cts, turns), stop))))) (r := rb_X10_doAll (((((text, size), (sv, stb)), ((var, tab), szs)), (((prg, cod), words), ((has, fpl), pos))), ((((fault, plc), (tol, tmany)), ((trc, rmany), mark)), (((pil, pmany), mks), ((cts, turns), stop)))) o41) (As := [.int (y1 + (2 : Int32))]) (rest := []) hw (by rw [ho41]; exact h_dA text size sv stb var tab szs prg cod words has fpl pos fault plc tol tmany trc rmany mark pil pmany mks cts turns stop (y1 + (2 : Int32)) hq42) ok_yX10_doAll ml_X10_212 (rm_ok (by omega) (by decide)) 0 rfl rfl rfl rfl hl.1 (Nat.le_of_ble_eq_true rfl) dX10_doS_46 ⟨Nat.zero_le _, Nat.zero_le _⟩ (fun H locs hw => ?_)
        have hw : Wd g A s (w_Mdl a g (((((text, size), (sv, stb)), ((o41.1.1.1, o41.1.1.2), szs)), (((prg, cod), words), ((has, fpl), pos))), ((((fault, plc), (o41.1.2, o41.2.1.1)), ((trc, rmany), mark)), (((pil, pmany), mks), ((cts, o41.2.1.2), o41.2.2))))) H locs := hw
        refine W.eq (g2 := F0 m 49 ls []) rfl ?_
        have hok := bdP_use ho41 hok
        refine lv_aload_n hx hb dX10_doS_49 rfl (lv_at hl 0 rfl) ?_
        refine hI.get (v := .int o41.2.2) hw fg_X10_146 0 rfl rfl dX10_doS_50 ?_
        refine lv_if_ne (tgt := 77) hx hb dX10_doS_53 (by decide) (fun c43 => ?_) (fun c43 => ?_)
        · have hok := ok_f c43 hok
          refine lv_iinc (v := y3 + (1 : Int32)) (lv' := [(3, .int (y3 + (1 : Int32))), (0, .ref (a 0)), (1, .int y1)]) hx hb dX10_doS_77 hl (k := 2) rfl rfl (by decide) rfl (fun ls hl => ?_)
          refine lv_goto (tgt := 23) hx hb dX10_doS_80 (by decide) ?_
          exact ih o41.1.1.1 o41.1.1.2 o41.1.2 o41.2.1.1 o41.2.1.2 o41.2.2 y1 (y3 + (1 : Int32)) hok r (hr.trans (congrArg (rb_X10_doS (((((text, size), (sv, stb)), ((var₀, tab₀), szs)), (((prg, cod), words), ((has, fpl), pos))), ((((fault, plc), (tol₀, tmany₀)), ((trc, rmany), mark)), (((pil, pmany), mks), ((cts, turns₀), stop₀))))) ((show f_X10_doS_23 dA szs prg (k + 1) var tab tol tmany turns stop y1 y3 = f_X10_doS_23 dA szs prg k o41.1.1.1 o41.1.1.2 o41.1.2 o41.2.1.1 o41.2.1.2 o41.2.2 y1 (y3 + (1 : Int32)) from it_f c39 (it_t c40 (bd_of ho41 (it_f c43 (rfl)))))))) _ _ hw _ (lv_sub hl [1, 2, 0] rfl)
        · have hok := ok_t c43 hok
          refine lv_aload_n hx hb dX10_doS_56 rfl (lv_at hl 0 rfl) ?_
          obtain ⟨o44, ho44⟩ : ∃ o, o = f_X10_turn o41.2.1.2 o41.2.2 := ⟨_, rfl⟩
          refine hI.callI0 (wl := w_Mdl a g) (a := (((((text, size), (sv, stb)), ((o41.1.1.1, o41.1.1.2), szs)), (((prg, cod), words), ((has, fpl), pos))), ((((fault, plc), (o41.1.2, o41.2.1.1)), ((trc, rmany), mark)), (((pil, pmany), mks), ((cts, o41.2.1.2), o41.2.2))))) (r := rb_X10_turn (((((text, size), (sv, stb)), ((o41.1.1.1, o41.1.1.2), szs)), (((prg, cod), words), ((has, fpl), pos))), ((((fault, plc), (o41.1.2, o41.2.1.1)), ((trc, rmany), mark)), (((pil, pmany), mks), ((cts, o41.2.1.2), o41.2.2)))) o44) (As := []) (rest := []) hw (by rw [ho44]; exact c_X10_turn l g a text size sv stb o41.1.1.1 o41.1.1.2 szs prg cod words has fpl pos fault plc o41.1.2 o41.2.1.1 trc rmany mark pil pmany mks cts o41.2.1.2 o41.2.2 ) ok_yX10_turn ml_X10_208 (rm_ok (by omega) (by decide)) 0 rfl rfl rfl rfl hl.1 (Nat.le_of_ble_eq_true rfl) dX10_doS_57 ⟨Nat.zero_le _, Nat.zero_le _⟩ (fun H locs hw => ?_)
          have hw : Wd g A s (w_Mdl a g (((((text, size), (sv, stb)), ((o41.1.1.1, o41.1.1.2), szs)), (((prg, cod), words), ((has, fpl), pos))), ((((fault, plc), (o41.1.2, o41.2.1.1)), ((trc, rmany), mark)), (((pil, pmany), mks), ((cts, o44.2.1), o44.2.2))))) H locs := hw
          refine W.eq (g2 := F0 m 60 ls [.int o44.1]) rfl ?_
          have hok := bdP_use ho44 hok
          refine lv_istore (lv' := [(4, .int o44.1), (0, .ref (a 0)), (1, .int y1), (3, .int y3)]) hx hb dX10_doS_60 hl (by decide) rfl (fun ls hl => ?_)
          refine lv_aload_n hx hb dX10_doS_62 rfl (lv_at hl 1 rfl) ?_
          refine lv_iload hx hb dX10_doS_63 (lv_at hl 0 rfl) ?_
          refine lv_if_eq (tgt := 72) hx hb dX10_doS_65 (by decide) (fun c45 => ?_) (fun c45 => ?_)
          · have hok := ok_t c45 hok
            refine lv_bipush (v := (-4 : Int32)) hx hb dX10_doS_72 (by decide) ?_
            refine hI.put hw fp_X10_146 rfl 0 rfl rfl rfl (Nat.le_of_ble_eq_true rfl) dX10_doS_74 (fun H locs hw => ?_)
            have hw : Wd g A s (w_Mdl a g (((((text, size), (sv, stb)), ((o41.1.1.1, o41.1.1.2), szs)), (((prg, cod), words), ((has, fpl), pos))), ((((fault, plc), (o41.1.2, o41.2.1.1)), ((trc, rmany), mark)), (((pil, pmany), mks), ((cts, o44.2.1), (-4 : Int32)))))) H locs := hw
            refine lv_iinc (v := y3 + (1 : Int32)) (lv' := [(3, .int (y3 + (1 : Int32))), (4, .int o44.1), (0, .ref (a 0)), (1, .int y1)]) hx hb dX10_doS_77 hl (k := 3) rfl rfl (by decide) rfl (fun ls hl => ?_)
            refine lv_goto (tgt := 23) hx hb dX10_doS_80 (by decide) ?_
            exact ih o41.1.1.1 o41.1.1.2 o41.1.2 o41.2.1.1 o44.2.1 (-4 : Int32) y1 (y3 + (1 : Int32)) hok r (hr.trans (congrArg (rb_X10_doS (((((text, size), (sv, stb)), ((var₀, tab₀), szs)), (((prg, cod), words), ((has, fpl), pos))), ((((fault, plc), (tol₀, tmany₀)), ((trc, rmany), mark)), (((pil, pmany), mks), ((cts, turns₀), stop₀))))) ((show f_X10_doS_23 dA szs prg (k + 1) var tab tol tmany turns stop y1 y3 = f_X10_doS_23 dA szs prg k o41.1.1.1 o41.1.1.2 o41.1.2 o41.2.1.1 o44.2.1 (-4 : Int32) y1 (y3 + (1 : Int32)) from it_f c39 (it_t c40 (bd_of ho41 (it_t c43 (bd_of ho44 (it_t c45 (rfl)))))))))) _ _ hw _ (lv_sub hl [2, 3, 0] rfl)
          · have hok := ok_f c45 hok
            refine lv_iconst (v := (0 : Int32)) hx hb dX10_doS_68 (by decide) ?_
            refine lv_goto (tgt := 74) hx hb dX10_doS_69 (by decide) ?_
            refine hI.put hw fp_X10_146 rfl 0 rfl rfl rfl (Nat.le_of_ble_eq_true rfl) dX10_doS_74 (fun H locs hw => ?_)
            have hw : Wd g A s (w_Mdl a g (((((text, size), (sv, stb)), ((o41.1.1.1, o41.1.1.2), szs)), (((prg, cod), words), ((has, fpl), pos))), ((((fault, plc), (o41.1.2, o41.2.1.1)), ((trc, rmany), mark)), (((pil, pmany), mks), ((cts, o44.2.1), (0 : Int32)))))) H locs := hw
            refine lv_iinc (v := y3 + (1 : Int32)) (lv' := [(3, .int (y3 + (1 : Int32))), (4, .int o44.1), (0, .ref (a 0)), (1, .int y1)]) hx hb dX10_doS_77 hl (k := 3) rfl rfl (by decide) rfl (fun ls hl => ?_)
            refine lv_goto (tgt := 23) hx hb dX10_doS_80 (by decide) ?_
            exact ih o41.1.1.1 o41.1.1.2 o41.1.2 o41.2.1.1 o44.2.1 (0 : Int32) y1 (y3 + (1 : Int32)) hok r (hr.trans (congrArg (rb_X10_doS (((((text, size), (sv, stb)), ((var₀, tab₀), szs)), (((prg, cod), words), ((has, fpl), pos))), ((((fault, plc), (tol₀, tmany₀)), ((trc, rmany), mark)), (((pil, pmany), mks), ((cts, turns₀), stop₀))))) ((show f_X10_doS_23 dA szs prg (k + 1) var tab tol tmany turns stop y1 y3 = f_X10_doS_23 dA szs prg k o41.1.1.1 o41.1.1.2 o41.1.2 o41.2.1.1 o44.2.1 (0 : Int32) y1 (y3 + (1 : Int32)) from it_f c39 (it_t c40 (bd_of ho41 (it_t c43 (bd_of ho44 (it_f c45 (rfl)))))))))) _ _ hw _ (lv_sub hl [2, 3, 0] rfl)
set_option maxHeartbeats 4000000 in
set_option maxRecDepth 100000 in
theorem c_X10_doS (l : Launch) (g : GG) (a : Nat → Nat) (text : Nat → Int32) (size : Int32) (sv : Nat → Int32) (stb : Nat → Int32) (var : Nat → Int32) (tab : Nat → Int32) (szs : Nat → Int32) (prg : Nat → Int32) (cod : Nat → Int32) (words : Int32) (has : Int32) (fpl : Int32) (pos : Int32) (fault : Int32) (plc : Int32) (tol : Nat → Int32) (tmany : Int32) (trc : Nat → Int32) (rmany : Int32) (mark : Int64) (pil : Nat → Int32) (pmany : Int32) (mks : Nat → Int32) (cts : Nat → Int32) (turns : Int32) (stop : Int32) (dA : (Nat → Int32) → (Nat → Int32) → (Nat → Int32) → (Nat → Int32) → (Nat → Int32) → Int32 → Int32 → Int32 → Int32 → ((((Nat → Int32) × (Nat → Int32)) × (Nat → Int32)) × ((Int32 × Int32) × Int32))) (dAk : (Nat → Int32) → (Nat → Int32) → (Nat → Int32) → (Nat → Int32) → (Nat → Int32) → Int32 → Int32 → Int32 → Int32 → Prop) (x1 : Int32) (kM : Nat) (k_dA : Nat) (hk : k_dA + 1 ≤ kM ∧ 45 ≤ kM) (h_dA : ∀ (text : Nat → Int32) (size : Int32) (sv : Nat → Int32) (stb : Nat → Int32) (var : Nat → Int32) (tab : Nat → Int32) (szs : Nat → Int32) (prg : Nat → Int32) (cod : Nat → Int32) (words : Int32) (has : Int32) (fpl : Int32) (pos : Int32) (fault : Int32) (plc : Int32) (tol : Nat → Int32) (tmany : Int32) (trc : Nat → Int32) (rmany : Int32) (mark : Int64) (pil : Nat → Int32) (pmany : Int32) (mks : Nat → Int32) (cts : Nat → Int32) (turns : Int32) (stop : Int32) (y1 : Int32), dAk var tab szs prg tol tmany turns stop y1 → CV l g yX10_doAll cX10_doAll 3 none (rmN k_dA) (w_Mdl a g) [.ref (a 0), .int y1] (((((text, size), (sv, stb)), ((var, tab), szs)), (((prg, cod), words), ((has, fpl), pos))), ((((fault, plc), (tol, tmany)), ((trc, rmany), mark)), (((pil, pmany), mks), ((cts, turns), stop)))) (rb_X10_doAll (((((text, size), (sv, stb)), ((var, tab), szs)), (((prg, cod), words), ((has, fpl), pos))), ((((fault, plc), (tol, tmany)), ((trc, rmany), mark)), (((pil, pmany), mks), ((cts, turns), stop)))) (dA var tab szs prg tol tmany turns stop y1))) (hok : ok_X10_doS dA dAk var tab szs prg tol tmany turns stop x1) : CV l g yX10_doS cX10_doS 8 none (rmN kM) (w_Mdl a g) [.ref (a 0), .int x1] (((((text, size), (sv, stb)), ((var, tab), szs)), (((prg, cod), words), ((has, fpl), pos))), ((((fault, plc), (tol, tmany)), ((trc, rmany), mark)), (((pil, pmany), mks), ((cts, turns), stop)))) (rb_X10_doS (((((text, size), (sv, stb)), ((var, tab), szs)), (((prg, cod), words), ((has, fpl), pos))), ((((fault, plc), (tol, tmany)), ((trc, rmany), mark)), (((pil, pmany), mks), ((cts, turns), stop)))) (f_X10_doS dA var tab szs prg tol tmany turns stop x1)) := by
  refine CV.mk (by decide) (Nat.le_of_ble_eq_true rfl) ?_
  intro p e s m below meth c A ls hI hw hl
  have hx := hI.1
  have hb := hI.2.1
  obtain ⟨r, hr⟩ : ∃ r, r = rb_X10_doS (((((text, size), (sv, stb)), ((var, tab), szs)), (((prg, cod), words), ((has, fpl), pos))), ((((fault, plc), (tol, tmany)), ((trc, rmany), mark)), (((pil, pmany), mks), ((cts, turns), stop)))) (f_X10_doS dA var tab szs prg tol tmany turns stop x1) := ⟨_, rfl⟩
  rw [← hr]
  have hl : lv_has ls 8 [(0, .ref (a 0)), (1, .int x1)] := hl
  refine lv_aload_n hx hb dX10_doS_0 rfl (lv_at hl 0 rfl) ?_
  obtain ⟨o1, ho1⟩ : ∃ o, o = f_X10_turn turns stop := ⟨_, rfl⟩
  refine hI.callI0 (wl := w_Mdl a g) (a := (((((text, size), (sv, stb)), ((var, tab), szs)), (((prg, cod), words), ((has, fpl), pos))), ((((fault, plc), (tol, tmany)), ((trc, rmany), mark)), (((pil, pmany), mks), ((cts, turns), stop))))) (r := rb_X10_turn (((((text, size), (sv, stb)), ((var, tab), szs)), (((prg, cod), words), ((has, fpl), pos))), ((((fault, plc), (tol, tmany)), ((trc, rmany), mark)), (((pil, pmany), mks), ((cts, turns), stop)))) o1) (As := []) (rest := []) hw (by rw [ho1]; exact c_X10_turn l g a text size sv stb var tab szs prg cod words has fpl pos fault plc tol tmany trc rmany mark pil pmany mks cts turns stop ) ok_yX10_turn ml_X10_208 (rm_ok (by omega) (by decide)) 0 rfl rfl rfl rfl hl.1 (Nat.le_of_ble_eq_true rfl) dX10_doS_1 ⟨Nat.zero_le _, Nat.zero_le _⟩ (fun H locs hw => ?_)
  have hw : Wd g A s (w_Mdl a g (((((text, size), (sv, stb)), ((var, tab), szs)), (((prg, cod), words), ((has, fpl), pos))), ((((fault, plc), (tol, tmany)), ((trc, rmany), mark)), (((pil, pmany), mks), ((cts, o1.2.1), o1.2.2))))) H locs := hw
  refine W.eq (g2 := F0 m 4 ls [.int o1.1]) rfl ?_
  have hok := bdP_use ho1 hok
  refine lv_if_ne (tgt := 8) hx hb dX10_doS_4 (by decide) (fun c2 => ?_) (fun c2 => ?_)
  · have hok := ok_f c2 hok
    refine lv_aload_n hx hb dX10_doS_8 rfl (lv_at hl 0 rfl) ?_
    refine hI.get (v := .ref (a 7)) hw fg_X10_29 0 rfl rfl dX10_doS_9 ?_
    refine lv_iload_n hx hb dX10_doS_12 rfl (lv_at hl 1 rfl) ?_
    have hq3 := hok.1
    have hok := hok.2
    refine hI.iald hw 7 rfl hq3 dX10_doS_13 ?_
    refine lv_topi (fun v4 hv4 => ?_)
    have hok := bdP_use hv4 hok
    refine lv_istore_n (lv' := [(2, .int v4), (0, .ref (a 0)), (1, .int x1)]) hx hb dX10_doS_14 rfl hl (by decide) rfl (fun ls hl => ?_)
    refine lv_iload_n hx hb dX10_doS_15 rfl (lv_at hl 0 rfl) ?_
    refine lv_bipush (v := (6 : Int32)) hx hb dX10_doS_16 (by decide) ?_
    refine lv_icmp_ne (tgt := 84) hx hb dX10_doS_18 (by decide) (fun c5 => ?_) (fun c5 => ?_)
    · have hok := ok_f c5 hok
      refine lv_iload_n hx hb dX10_doS_84 rfl (lv_at hl 0 rfl) ?_
      refine lv_iconst (v := (3 : Int32)) hx hb dX10_doS_85 (by decide) ?_
      refine lv_icmp_ge (tgt := 95) hx hb dX10_doS_86 (by decide) (fun c6 => ?_) (fun c6 => ?_)
      · have hok := ok_t c6 hok
        refine lv_iload_n hx hb dX10_doS_95 rfl (lv_at hl 2 rfl) ?_
        refine lv_iconst (v := (1 : Int32)) hx hb dX10_doS_96 (by decide) ?_
        refine lv_iadd hx hb dX10_doS_97 ?_
        exact lp_X10_doS_98 l g a text size sv stb var tab szs prg cod words has fpl pos fault plc tol tmany trc rmany mark pil pmany mks cts turns stop dA dAk kM k_dA hk h_dA hI  var tab tol tmany o1.2.1 o1.2.2 x1 v4 (x1 + (1 : Int32)) hok r (hr.trans (congrArg (rb_X10_doS (((((text, size), (sv, stb)), ((var, tab), szs)), (((prg, cod), words), ((has, fpl), pos))), ((((fault, plc), (tol, tmany)), ((trc, rmany), mark)), (((pil, pmany), mks), ((cts, turns), stop))))) ((show f_X10_doS dA var tab szs prg tol tmany turns stop x1 = f_X10_doS_98 dA szs prg var tab tol tmany o1.2.1 o1.2.2 x1 v4 (x1 + (1 : Int32)) from bd_of ho1 (it_f c2 (bd_of hv4 (it_f c5 (it_t c6 (rfl))))))))) _ _ hw _ (lv_sub hl [1, 2, 0] rfl)
      · have hok := ok_f c6 hok
        refine lv_iload_n hx hb dX10_doS_89 rfl (lv_at hl 2 rfl) ?_
        refine lv_iconst (v := (2 : Int32)) hx hb dX10_doS_90 (by decide) ?_
        refine lv_iadd hx hb dX10_doS_91 ?_
        refine lv_goto (tgt := 98) hx hb dX10_doS_92 (by decide) ?_
        exact lp_X10_doS_98 l g a text size sv stb var tab szs prg cod words has fpl pos fault plc tol tmany trc rmany mark pil pmany mks cts turns stop dA dAk kM k_dA hk h_dA hI  var tab tol tmany o1.2.1 o1.2.2 x1 v4 (x1 + (2 : Int32)) hok r (hr.trans (congrArg (rb_X10_doS (((((text, size), (sv, stb)), ((var, tab), szs)), (((prg, cod), words), ((has, fpl), pos))), ((((fault, plc), (tol, tmany)), ((trc, rmany), mark)), (((pil, pmany), mks), ((cts, turns), stop))))) ((show f_X10_doS dA var tab szs prg tol tmany turns stop x1 = f_X10_doS_98 dA szs prg var tab tol tmany o1.2.1 o1.2.2 x1 v4 (x1 + (2 : Int32)) from bd_of ho1 (it_f c2 (bd_of hv4 (it_f c5 (it_f c6 (rfl))))))))) _ _ hw _ (lv_sub hl [1, 2, 0] rfl)
    · have hok := ok_t c5 hok
      refine lv_iconst (v := (0 : Int32)) hx hb dX10_doS_21 (by decide) ?_
      refine lv_istore_n (lv' := [(3, .int (0 : Int32)), (2, .int v4), (0, .ref (a 0)), (1, .int x1)]) hx hb dX10_doS_22 rfl hl (by decide) rfl (fun ls hl => ?_)
      exact lp_X10_doS_23 l g a text size sv stb var tab szs prg cod words has fpl pos fault plc tol tmany trc rmany mark pil pmany mks cts turns stop dA dAk kM k_dA hk h_dA hI 22 var tab tol tmany o1.2.1 o1.2.2 x1 (0 : Int32) hok r (hr.trans (congrArg (rb_X10_doS (((((text, size), (sv, stb)), ((var, tab), szs)), (((prg, cod), words), ((has, fpl), pos))), ((((fault, plc), (tol, tmany)), ((trc, rmany), mark)), (((pil, pmany), mks), ((cts, turns), stop))))) ((show f_X10_doS dA var tab szs prg tol tmany turns stop x1 = f_X10_doS_23 dA szs prg 22 var tab tol tmany o1.2.1 o1.2.2 x1 (0 : Int32) from bd_of ho1 (it_f c2 (bd_of hv4 (it_t c5 (rfl)))))))) _ _ hw _ (lv_sub hl [2, 3, 0] rfl)
  · have hok := ok_t c2 hok
    exact hI.retV (u := (((((text, size), (sv, stb)), ((var, tab), szs)), (((prg, cod), words), ((has, fpl), pos))), ((((fault, plc), (tol, tmany)), ((trc, rmany), mark)), (((pil, pmany), mks), ((cts, o1.2.1), o1.2.2))))) hw (hr.trans (congrArg (rb_X10_doS (((((text, size), (sv, stb)), ((var, tab), szs)), (((prg, cod), words), ((has, fpl), pos))), ((((fault, plc), (tol, tmany)), ((trc, rmany), mark)), (((pil, pmany), mks), ((cts, turns), stop))))) ((show f_X10_doS dA var tab szs prg tol tmany turns stop x1 = ((((var, tab), tol), ((tmany, o1.2.1), o1.2.2))) from bd_of ho1 (it_t c2 (rfl)))))) dX10_doS_7
def ok_X10_doAll_2 (dS : (Nat → Int32) → (Nat → Int32) → (Nat → Int32) → (Nat → Int32) → (Nat → Int32) → Int32 → Int32 → Int32 → Int32 → ((((Nat → Int32) × (Nat → Int32)) × (Nat → Int32)) × ((Int32 × Int32) × Int32))) (dSk : (Nat → Int32) → (Nat → Int32) → (Nat → Int32) → (Nat → Int32) → (Nat → Int32) → Int32 → Int32 → Int32 → Int32 → Prop) (szs : Nat → Int32) (prg : Nat → Int32) : Nat → (Nat → Int32) → (Nat → Int32) → (Nat → Int32) → Int32 → Int32 → Int32 → Int32 → Prop
  | 0, _, _, _, _, _, _, _ => False
  | k + 1, var, tab, tol, tmany, turns, stop, y2 => if stop = 0 then vp_in y2 400 ∧ (if (prg y2.toNatClampNeg) = 0 then True else vp_in y2 400 ∧ (if (prg y2.toNatClampNeg) = (4 : Int32) then True else dSk var tab szs prg tol tmany turns stop y2 ∧ (bdP (dS var tab szs prg tol tmany turns stop y2) (fun o6 => skSk 13 prg y2 ∧ (bdP (skS 13 prg y2) (fun o8 => ok_X10_doAll_2 dS dSk szs prg k o6.1.1.1 o6.1.1.2 o6.1.2 o6.2.1.1 o6.2.1.2 o6.2.2 o8)))))) else True
def f_X10_doAll_2 (dS : (Nat → Int32) → (Nat → Int32) → (Nat → Int32) → (Nat → Int32) → (Nat → Int32) → Int32 → Int32 → Int32 → Int32 → ((((Nat → Int32) × (Nat → Int32)) × (Nat → Int32)) × ((Int32 × Int32) × Int32))) (szs : Nat → Int32) (prg : Nat → Int32) : Nat → (Nat → Int32) → (Nat → Int32) → (Nat → Int32) → Int32 → Int32 → Int32 → Int32 → ((((Nat → Int32) × (Nat → Int32)) × (Nat → Int32)) × ((Int32 × Int32) × Int32))
  | 0, var, tab, tol, tmany, turns, stop, y2 => ((((var, tab), tol), ((tmany, turns), stop)))
  | k + 1, var, tab, tol, tmany, turns, stop, y2 => if stop = 0 then if (prg y2.toNatClampNeg) = 0 then ((((var, tab), tol), ((tmany, turns), stop))) else if (prg y2.toNatClampNeg) = (4 : Int32) then ((((var, tab), tol), ((tmany, turns), stop))) else bd (dS var tab szs prg tol tmany turns stop y2) (fun o6 => bd (skS 13 prg y2) (fun o8 => f_X10_doAll_2 dS szs prg k o6.1.1.1 o6.1.1.2 o6.1.2 o6.2.1.1 o6.2.1.2 o6.2.2 o8)) else ((((var, tab), tol), ((tmany, turns), stop)))
def f_X10_doAll (dS : (Nat → Int32) → (Nat → Int32) → (Nat → Int32) → (Nat → Int32) → (Nat → Int32) → Int32 → Int32 → Int32 → Int32 → ((((Nat → Int32) × (Nat → Int32)) × (Nat → Int32)) × ((Int32 × Int32) × Int32))) (var : Nat → Int32) (tab : Nat → Int32) (szs : Nat → Int32) (prg : Nat → Int32) (tol : Nat → Int32) (tmany : Int32) (turns : Int32) (stop : Int32) (x1 : Int32) : ((((Nat → Int32) × (Nat → Int32)) × (Nat → Int32)) × ((Int32 × Int32) × Int32)) := f_X10_doAll_2 dS szs prg 402 var tab tol tmany turns stop x1
def ok_X10_doAll (dS : (Nat → Int32) → (Nat → Int32) → (Nat → Int32) → (Nat → Int32) → (Nat → Int32) → Int32 → Int32 → Int32 → Int32 → ((((Nat → Int32) × (Nat → Int32)) × (Nat → Int32)) × ((Int32 × Int32) × Int32))) (dSk : (Nat → Int32) → (Nat → Int32) → (Nat → Int32) → (Nat → Int32) → (Nat → Int32) → Int32 → Int32 → Int32 → Int32 → Prop) (var : Nat → Int32) (tab : Nat → Int32) (szs : Nat → Int32) (prg : Nat → Int32) (tol : Nat → Int32) (tmany : Int32) (turns : Int32) (stop : Int32) (x1 : Int32) : Prop := ok_X10_doAll_2 dS dSk szs prg 402 var tab tol tmany turns stop x1
set_option maxHeartbeats 4000000 in
set_option maxRecDepth 100000 in
theorem lp_X10_doAll_2 (l : Launch) (g : GG) (a : Nat → Nat) (text : Nat → Int32) (size : Int32) (sv : Nat → Int32) (stb : Nat → Int32) (var₀ : Nat → Int32) (tab₀ : Nat → Int32) (szs : Nat → Int32) (prg : Nat → Int32) (cod : Nat → Int32) (words : Int32) (has : Int32) (fpl : Int32) (pos : Int32) (fault : Int32) (plc : Int32) (tol₀ : Nat → Int32) (tmany₀ : Int32) (trc : Nat → Int32) (rmany : Int32) (mark : Int64) (pil : Nat → Int32) (pmany : Int32) (mks : Nat → Int32) (cts : Nat → Int32) (turns₀ : Int32) (stop₀ : Int32) (dS : (Nat → Int32) → (Nat → Int32) → (Nat → Int32) → (Nat → Int32) → (Nat → Int32) → Int32 → Int32 → Int32 → Int32 → ((((Nat → Int32) × (Nat → Int32)) × (Nat → Int32)) × ((Int32 × Int32) × Int32))) (dSk : (Nat → Int32) → (Nat → Int32) → (Nat → Int32) → (Nat → Int32) → (Nat → Int32) → Int32 → Int32 → Int32 → Int32 → Prop) (kM : Nat) (k_dS : Nat) (hk : k_dS + 1 ≤ kM ∧ 45 ≤ kM) (h_dS : ∀ (text : Nat → Int32) (size : Int32) (sv : Nat → Int32) (stb : Nat → Int32) (var : Nat → Int32) (tab : Nat → Int32) (szs : Nat → Int32) (prg : Nat → Int32) (cod : Nat → Int32) (words : Int32) (has : Int32) (fpl : Int32) (pos : Int32) (fault : Int32) (plc : Int32) (tol : Nat → Int32) (tmany : Int32) (trc : Nat → Int32) (rmany : Int32) (mark : Int64) (pil : Nat → Int32) (pmany : Int32) (mks : Nat → Int32) (cts : Nat → Int32) (turns : Int32) (stop : Int32) (y1 : Int32), dSk var tab szs prg tol tmany turns stop y1 → CV l g yX10_doS cX10_doS 8 none (rmN k_dS) (w_Mdl a g) [.ref (a 0), .int y1] (((((text, size), (sv, stb)), ((var, tab), szs)), (((prg, cod), words), ((has, fpl), pos))), ((((fault, plc), (tol, tmany)), ((trc, rmany), mark)), (((pil, pmany), mks), ((cts, turns), stop)))) (rb_X10_doS (((((text, size), (sv, stb)), ((var, tab), szs)), (((prg, cod), words), ((has, fpl), pos))), ((((fault, plc), (tol, tmany)), ((trc, rmany), mark)), (((pil, pmany), mks), ((cts, turns), stop)))) (dS var tab szs prg tol tmany turns stop y1)))  {p : Program} {e : Env} {s : State} {m : MethodId} {args : Array Value} {below : List Frame} {meth : Method} {c : Code} {A : Nat → Prop} (hI : InM p s m args meth c RX10 cX10_doAll 3 none g A) : ∀ (k : Nat) (var : Nat → Int32) (tab : Nat → Int32) (tol : Nat → Int32) (tmany : Int32) (turns : Int32) (stop : Int32) (y2 : Int32), (ok_X10_doAll_2 dS dSk szs prg k var tab tol tmany turns stop y2) → ∀ (r : S_Mdl), r = rb_X10_doAll (((((text, size), (sv, stb)), ((var₀, tab₀), szs)), (((prg, cod), words), ((has, fpl), pos))), ((((fault, plc), (tol₀, tmany₀)), ((trc, rmany), mark)), (((pil, pmany), mks), ((cts, turns₀), stop₀)))) (f_X10_doAll_2 dS szs prg k var tab tol tmany turns stop y2) → ∀ (H : Heap) (locs : List Loc), Wd g A s (w_Mdl a g (((((text, size), (sv, stb)), ((var, tab), szs)), (((prg, cod), words), ((has, fpl), pos))), ((((fault, plc), (tol, tmany)), ((trc, rmany), mark)), (((pil, pmany), mks), ((cts, turns), stop))))) H locs → ∀ (ls : Array Slot), lv_has ls 3 [(0, .ref (a 0)), (2, .int y2)] → W p l e (rmN kM) s m args below meth c H locs 0 0 (QV g (w_Mdl a g) A r below args s) (F0 m 2 ls []) := by
  have hx := hI.1
  have hb := hI.2.1
  intro k
  induction k with
  | zero =>
    intro var tab tol tmany turns stop y2 hok
    exact hok.elim
  | succ k ih =>
    intro var tab tol tmany turns stop y2 hok r hr H locs hw ls hl
    refine lv_aload_n hx hb dX10_doAll_2 rfl (lv_at hl 0 rfl) ?_
    refine hI.get (v := .int stop) hw fg_X10_146 0 rfl rfl dX10_doAll_3 ?_
    refine lv_if_ne (tgt := 42) hx hb dX10_doAll_6 (by decide) (fun c1 => ?_) (fun c1 => ?_)
    · have hok := ok_f c1 hok
      exact hI.retV (u := (((((text, size), (sv, stb)), ((var, tab), szs)), (((prg, cod), words), ((has, fpl), pos))), ((((fault, plc), (tol, tmany)), ((trc, rmany), mark)), (((pil, pmany), mks), ((cts, turns), stop))))) hw (hr.trans (congrArg (rb_X10_doAll (((((text, size), (sv, stb)), ((var₀, tab₀), szs)), (((prg, cod), words), ((has, fpl), pos))), ((((fault, plc), (tol₀, tmany₀)), ((trc, rmany), mark)), (((pil, pmany), mks), ((cts, turns₀), stop₀))))) ((show f_X10_doAll_2 dS szs prg (k + 1) var tab tol tmany turns stop y2 = ((((var, tab), tol), ((tmany, turns), stop))) from it_f c1 (rfl))))) dX10_doAll_42
    · have hok := ok_t c1 hok
      refine lv_aload_n hx hb dX10_doAll_9 rfl (lv_at hl 0 rfl) ?_
      refine hI.get (v := .ref (a 7)) hw fg_X10_29 0 rfl rfl dX10_doAll_10 ?_
      refine lv_iload_n hx hb dX10_doAll_13 rfl (lv_at hl 1 rfl) ?_
      have hq2 := hok.1
      have hok := hok.2
      refine hI.iald hw 7 rfl hq2 dX10_doAll_14 ?_
      refine lv_if_eq (tgt := 42) hx hb dX10_doAll_15 (by decide) (fun c3 => ?_) (fun c3 => ?_)
      · have hok := ok_t c3 hok
        exact hI.retV (u := (((((text, size), (sv, stb)), ((var, tab), szs)), (((prg, cod), words), ((has, fpl), pos))), ((((fault, plc), (tol, tmany)), ((trc, rmany), mark)), (((pil, pmany), mks), ((cts, turns), stop))))) hw (hr.trans (congrArg (rb_X10_doAll (((((text, size), (sv, stb)), ((var₀, tab₀), szs)), (((prg, cod), words), ((has, fpl), pos))), ((((fault, plc), (tol₀, tmany₀)), ((trc, rmany), mark)), (((pil, pmany), mks), ((cts, turns₀), stop₀))))) ((show f_X10_doAll_2 dS szs prg (k + 1) var tab tol tmany turns stop y2 = ((((var, tab), tol), ((tmany, turns), stop))) from it_t c1 (it_t c3 (rfl)))))) dX10_doAll_42
      · have hok := ok_f c3 hok
        refine lv_aload_n hx hb dX10_doAll_18 rfl (lv_at hl 0 rfl) ?_
        refine hI.get (v := .ref (a 7)) hw fg_X10_29 0 rfl rfl dX10_doAll_19 ?_
        refine lv_iload_n hx hb dX10_doAll_22 rfl (lv_at hl 1 rfl) ?_
        have hq4 := hok.1
        have hok := hok.2
        refine hI.iald hw 7 rfl hq4 dX10_doAll_23 ?_
        refine lv_iconst (v := (4 : Int32)) hx hb dX10_doAll_24 (by decide) ?_
        refine lv_icmp_eq (tgt := 42) hx hb dX10_doAll_25 (by decide) (fun c5 => ?_) (fun c5 => ?_)
        · have hok := ok_t c5 hok
          exact hI.retV (u := (((((text, size), (sv, stb)), ((var, tab), szs)), (((prg, cod), words), ((has, fpl), pos))), ((((fault, plc), (tol, tmany)), ((trc, rmany), mark)), (((pil, pmany), mks), ((cts, turns), stop))))) hw (hr.trans (congrArg (rb_X10_doAll (((((text, size), (sv, stb)), ((var₀, tab₀), szs)), (((prg, cod), words), ((has, fpl), pos))), ((((fault, plc), (tol₀, tmany₀)), ((trc, rmany), mark)), (((pil, pmany), mks), ((cts, turns₀), stop₀))))) ((show f_X10_doAll_2 dS szs prg (k + 1) var tab tol tmany turns stop y2 = ((((var, tab), tol), ((tmany, turns), stop))) from it_t c1 (it_f c3 (it_t c5 (rfl))))))) dX10_doAll_42
        · have hok := ok_f c5 hok
          refine lv_aload_n hx hb dX10_doAll_28 rfl (lv_at hl 0 rfl) ?_
          refine lv_iload_n hx hb dX10_doAll_29 rfl (lv_at hl 1 rfl) ?_
          have hq7 := hok.1
          have hok := hok.2
          obtain ⟨o6, ho6⟩ : ∃ o, o = dS var tab szs prg tol tmany turns stop y2 := ⟨_, rfl⟩
          refine hI.callV0 (wl := w_Mdl a g) (a := (((((text, size), (sv, stb)), ((var, tab), szs)), (((prg, cod), words), ((has, fpl), pos))), ((((fault, plc), (tol, tmany)), ((trc, rmany), mark)), (((pil, pmany), mks), ((cts, turns), stop))))) (r := rb_X10_doS (((((text, size), (sv, stb)), ((var, tab), szs)), (((prg, cod), words), ((has, fpl), pos))), ((((fault, plc), (tol, tmany)), ((trc, rmany), mark)), (((pil, pmany), mks), ((cts, turns), stop)))) o6) (As := [.int y2]) (rest := []) hw (by rw [ho6]; exact h_dS text size sv stb var tab szs prg cod words has fpl pos fault plc tol tmany trc rmany mark pil pmany mks cts turns stop y2 hq7) ok_yX10_doS ml_X10_205 (rm_ok (by omega) (by decide)) 0 rfl rfl rfl rfl hl.1 (Nat.le_of_ble_eq_true rfl) dX10_doAll_30 ⟨Nat.zero_le _, Nat.zero_le _⟩ (fun H locs hw => ?_)
          have hw : Wd g A s (w_Mdl a g (((((text, size), (sv, stb)), ((o6.1.1.1, o6.1.1.2), szs)), (((prg, cod), words), ((has, fpl), pos))), ((((fault, plc), (o6.1.2, o6.2.1.1)), ((trc, rmany), mark)), (((pil, pmany), mks), ((cts, o6.2.1.2), o6.2.2))))) H locs := hw
          refine W.eq (g2 := F0 m 33 ls []) rfl ?_
          have hok := bdP_use ho6 hok
          refine lv_aload_n hx hb dX10_doAll_33 rfl (lv_at hl 0 rfl) ?_
          refine lv_iload_n hx hb dX10_doAll_34 rfl (lv_at hl 1 rfl) ?_
          have hq9 := hok.1
          have hok := hok.2
          obtain ⟨o8, ho8⟩ : ∃ o, o = skS 13 prg y2 := ⟨_, rfl⟩
          refine hI.callI0 (wl := w_Mdl a g) (a := (((((text, size), (sv, stb)), ((o6.1.1.1, o6.1.1.2), szs)), (((prg, cod), words), ((has, fpl), pos))), ((((fault, plc), (o6.1.2, o6.2.1.1)), ((trc, rmany), mark)), (((pil, pmany), mks), ((cts, o6.2.1.2), o6.2.2))))) (r := rb_X10_skipS (((((text, size), (sv, stb)), ((o6.1.1.1, o6.1.1.2), szs)), (((prg, cod), words), ((has, fpl), pos))), ((((fault, plc), (o6.1.2, o6.2.1.1)), ((trc, rmany), mark)), (((pil, pmany), mks), ((cts, o6.2.1.2), o6.2.2)))) o8) (As := [.int y2]) (rest := []) hw (by rw [ho8]; exact k_skS l g a 13 text size sv stb o6.1.1.1 o6.1.1.2 szs prg cod words has fpl pos fault plc o6.1.2 o6.2.1.1 trc rmany mark pil pmany mks cts o6.2.1.2 o6.2.2 y2 hq9) ok_yX10_skipS ml_X10_199 (rm_ok (by omega) (by decide)) 0 rfl rfl rfl rfl hl.1 (Nat.le_of_ble_eq_true rfl) dX10_doAll_35 ⟨Nat.zero_le _, Nat.zero_le _⟩ (fun H locs hw => ?_)
          have hw : Wd g A s (w_Mdl a g (((((text, size), (sv, stb)), ((o6.1.1.1, o6.1.1.2), szs)), (((prg, cod), words), ((has, fpl), pos))), ((((fault, plc), (o6.1.2, o6.2.1.1)), ((trc, rmany), mark)), (((pil, pmany), mks), ((cts, o6.2.1.2), o6.2.2))))) H locs := hw
          refine W.eq (g2 := F0 m 38 ls [.int o8]) rfl ?_
          have hok := bdP_use ho8 hok
          refine lv_istore_n (lv' := [(2, .int o8), (0, .ref (a 0))]) hx hb dX10_doAll_38 rfl hl (by decide) rfl (fun ls hl => ?_)
          refine lv_goto (tgt := 2) hx hb dX10_doAll_39 (by decide) ?_
          exact ih o6.1.1.1 o6.1.1.2 o6.1.2 o6.2.1.1 o6.2.1.2 o6.2.2 o8 hok r (hr.trans (congrArg (rb_X10_doAll (((((text, size), (sv, stb)), ((var₀, tab₀), szs)), (((prg, cod), words), ((has, fpl), pos))), ((((fault, plc), (tol₀, tmany₀)), ((trc, rmany), mark)), (((pil, pmany), mks), ((cts, turns₀), stop₀))))) ((show f_X10_doAll_2 dS szs prg (k + 1) var tab tol tmany turns stop y2 = f_X10_doAll_2 dS szs prg k o6.1.1.1 o6.1.1.2 o6.1.2 o6.2.1.1 o6.2.1.2 o6.2.2 o8 from it_t c1 (it_f c3 (it_f c5 (bd_of ho6 (bd_of ho8 (rfl))))))))) _ _ hw _ (lv_sub hl [1, 0] rfl)
set_option maxHeartbeats 4000000 in
set_option maxRecDepth 100000 in
theorem c_X10_doAll (l : Launch) (g : GG) (a : Nat → Nat) (text : Nat → Int32) (size : Int32) (sv : Nat → Int32) (stb : Nat → Int32) (var : Nat → Int32) (tab : Nat → Int32) (szs : Nat → Int32) (prg : Nat → Int32) (cod : Nat → Int32) (words : Int32) (has : Int32) (fpl : Int32) (pos : Int32) (fault : Int32) (plc : Int32) (tol : Nat → Int32) (tmany : Int32) (trc : Nat → Int32) (rmany : Int32) (mark : Int64) (pil : Nat → Int32) (pmany : Int32) (mks : Nat → Int32) (cts : Nat → Int32) (turns : Int32) (stop : Int32) (dS : (Nat → Int32) → (Nat → Int32) → (Nat → Int32) → (Nat → Int32) → (Nat → Int32) → Int32 → Int32 → Int32 → Int32 → ((((Nat → Int32) × (Nat → Int32)) × (Nat → Int32)) × ((Int32 × Int32) × Int32))) (dSk : (Nat → Int32) → (Nat → Int32) → (Nat → Int32) → (Nat → Int32) → (Nat → Int32) → Int32 → Int32 → Int32 → Int32 → Prop) (x1 : Int32) (kM : Nat) (k_dS : Nat) (hk : k_dS + 1 ≤ kM ∧ 45 ≤ kM) (h_dS : ∀ (text : Nat → Int32) (size : Int32) (sv : Nat → Int32) (stb : Nat → Int32) (var : Nat → Int32) (tab : Nat → Int32) (szs : Nat → Int32) (prg : Nat → Int32) (cod : Nat → Int32) (words : Int32) (has : Int32) (fpl : Int32) (pos : Int32) (fault : Int32) (plc : Int32) (tol : Nat → Int32) (tmany : Int32) (trc : Nat → Int32) (rmany : Int32) (mark : Int64) (pil : Nat → Int32) (pmany : Int32) (mks : Nat → Int32) (cts : Nat → Int32) (turns : Int32) (stop : Int32) (y1 : Int32), dSk var tab szs prg tol tmany turns stop y1 → CV l g yX10_doS cX10_doS 8 none (rmN k_dS) (w_Mdl a g) [.ref (a 0), .int y1] (((((text, size), (sv, stb)), ((var, tab), szs)), (((prg, cod), words), ((has, fpl), pos))), ((((fault, plc), (tol, tmany)), ((trc, rmany), mark)), (((pil, pmany), mks), ((cts, turns), stop)))) (rb_X10_doS (((((text, size), (sv, stb)), ((var, tab), szs)), (((prg, cod), words), ((has, fpl), pos))), ((((fault, plc), (tol, tmany)), ((trc, rmany), mark)), (((pil, pmany), mks), ((cts, turns), stop)))) (dS var tab szs prg tol tmany turns stop y1))) (hok : ok_X10_doAll dS dSk var tab szs prg tol tmany turns stop x1) : CV l g yX10_doAll cX10_doAll 3 none (rmN kM) (w_Mdl a g) [.ref (a 0), .int x1] (((((text, size), (sv, stb)), ((var, tab), szs)), (((prg, cod), words), ((has, fpl), pos))), ((((fault, plc), (tol, tmany)), ((trc, rmany), mark)), (((pil, pmany), mks), ((cts, turns), stop)))) (rb_X10_doAll (((((text, size), (sv, stb)), ((var, tab), szs)), (((prg, cod), words), ((has, fpl), pos))), ((((fault, plc), (tol, tmany)), ((trc, rmany), mark)), (((pil, pmany), mks), ((cts, turns), stop)))) (f_X10_doAll dS var tab szs prg tol tmany turns stop x1)) := by
  refine CV.mk (by decide) (Nat.le_of_ble_eq_true rfl) ?_
  intro p e s m below meth c A ls hI hw hl
  have hx := hI.1
  have hb := hI.2.1
  obtain ⟨r, hr⟩ : ∃ r, r = rb_X10_doAll (((((text, size), (sv, stb)), ((var, tab), szs)), (((prg, cod), words), ((has, fpl), pos))), ((((fault, plc), (tol, tmany)), ((trc, rmany), mark)), (((pil, pmany), mks), ((cts, turns), stop)))) (f_X10_doAll dS var tab szs prg tol tmany turns stop x1) := ⟨_, rfl⟩
  rw [← hr]
  have hl : lv_has ls 3 [(0, .ref (a 0)), (1, .int x1)] := hl
  refine lv_iload_n hx hb dX10_doAll_0 rfl (lv_at hl 1 rfl) ?_
  refine lv_istore_n (lv' := [(2, .int x1), (0, .ref (a 0)), (1, .int x1)]) hx hb dX10_doAll_1 rfl hl (by decide) rfl (fun ls hl => ?_)
  exact lp_X10_doAll_2 l g a text size sv stb var tab szs prg cod words has fpl pos fault plc tol tmany trc rmany mark pil pmany mks cts turns stop dS dSk kM k_dS hk h_dS hI 402 var tab tol tmany turns stop x1 hok r (hr.trans (congrArg (rb_X10_doAll (((((text, size), (sv, stb)), ((var, tab), szs)), (((prg, cod), words), ((has, fpl), pos))), ((((fault, plc), (tol, tmany)), ((trc, rmany), mark)), (((pil, pmany), mks), ((cts, turns), stop))))) ((show f_X10_doAll dS var tab szs prg tol tmany turns stop x1 = f_X10_doAll_2 dS szs prg 402 var tab tol tmany turns stop x1 from rfl)))) _ _ hw _ (lv_sub hl [1, 0] rfl)
def dsS : Nat → (Nat → Int32) → (Nat → Int32) → (Nat → Int32) → (Nat → Int32) → (Nat → Int32) → Int32 → Int32 → Int32 → Int32 → ((((Nat → Int32) × (Nat → Int32)) × (Nat → Int32)) × ((Int32 × Int32) × Int32))
  | 0 => fun var tab szs prg tol tmany turns stop _ => ((((var, tab), tol), ((tmany, turns), stop)))
  | d + 1 => f_X10_doS (f_X10_doAll (dsS d))
def dsA (d : Nat) : (Nat → Int32) → (Nat → Int32) → (Nat → Int32) → (Nat → Int32) → (Nat → Int32) → Int32 → Int32 → Int32 → Int32 → ((((Nat → Int32) × (Nat → Int32)) × (Nat → Int32)) × ((Int32 × Int32) × Int32)) := f_X10_doAll (dsS d)
def dsSk : Nat → (Nat → Int32) → (Nat → Int32) → (Nat → Int32) → (Nat → Int32) → (Nat → Int32) → Int32 → Int32 → Int32 → Int32 → Prop
  | 0 => fun _ _ _ _ _ _ _ _ _ => False
  | d + 1 => ok_X10_doS (dsA d) (ok_X10_doAll (dsS d) (dsSk d))
def dsAk (d : Nat) : (Nat → Int32) → (Nat → Int32) → (Nat → Int32) → (Nat → Int32) → (Nat → Int32) → Int32 → Int32 → Int32 → Int32 → Prop := ok_X10_doAll (dsS d) (dsSk d)
theorem k_dsS (l : Launch) (g : GG) (a : Nat → Nat) : ∀ (d : Nat) (text : Nat → Int32) (size : Int32) (sv : Nat → Int32) (stb : Nat → Int32) (var : Nat → Int32) (tab : Nat → Int32) (szs : Nat → Int32) (prg : Nat → Int32) (cod : Nat → Int32) (words : Int32) (has : Int32) (fpl : Int32) (pos : Int32) (fault : Int32) (plc : Int32) (tol : Nat → Int32) (tmany : Int32) (trc : Nat → Int32) (rmany : Int32) (mark : Int64) (pil : Nat → Int32) (pmany : Int32) (mks : Nat → Int32) (cts : Nat → Int32) (turns : Int32) (stop : Int32) (y1 : Int32), dsSk d var tab szs prg tol tmany turns stop y1 → CV l g yX10_doS cX10_doS 8 none (rmN (2 * d + 45)) (w_Mdl a g) [.ref (a 0), .int y1] (((((text, size), (sv, stb)), ((var, tab), szs)), (((prg, cod), words), ((has, fpl), pos))), ((((fault, plc), (tol, tmany)), ((trc, rmany), mark)), (((pil, pmany), mks), ((cts, turns), stop)))) (rb_X10_doS (((((text, size), (sv, stb)), ((var, tab), szs)), (((prg, cod), words), ((has, fpl), pos))), ((((fault, plc), (tol, tmany)), ((trc, rmany), mark)), (((pil, pmany), mks), ((cts, turns), stop)))) (dsS d var tab szs prg tol tmany turns stop y1)) := by
  intro d
  induction d with
  | zero =>
    intro text size sv stb var tab szs prg cod words has fpl pos fault plc tol tmany trc rmany mark pil pmany mks cts turns stop y1 hok
    exact hok.elim
  | succ d ih =>
    intro text size sv stb var tab szs prg cod words has fpl pos fault plc tol tmany trc rmany mark pil pmany mks cts turns stop y1 hok
    exact c_X10_doS l g a text size sv stb var tab szs prg cod words has fpl pos fault plc tol tmany trc rmany mark pil pmany mks cts turns stop (dsA d) (dsAk d) y1 (2 * (d + 1) + 45) (2 * d + 46) (by omega) (fun text size sv stb var tab szs prg cod words has fpl pos fault plc tol tmany trc rmany mark pil pmany mks cts turns stop y1 hz => c_X10_doAll l g a text size sv stb var tab szs prg cod words has fpl pos fault plc tol tmany trc rmany mark pil pmany mks cts turns stop (dsS d) (dsSk d) y1 (2 * d + 46) (2 * d + 45) (by omega) (fun text size sv stb var tab szs prg cod words has fpl pos fault plc tol tmany trc rmany mark pil pmany mks cts turns stop y1 hz => ih text size sv stb var tab szs prg cod words has fpl pos fault plc tol tmany trc rmany mark pil pmany mks cts turns stop y1 hz) hz) hok
theorem k_dsA (l : Launch) (g : GG) (a : Nat → Nat) : ∀ (d : Nat) (text : Nat → Int32) (size : Int32) (sv : Nat → Int32) (stb : Nat → Int32) (var : Nat → Int32) (tab : Nat → Int32) (szs : Nat → Int32) (prg : Nat → Int32) (cod : Nat → Int32) (words : Int32) (has : Int32) (fpl : Int32) (pos : Int32) (fault : Int32) (plc : Int32) (tol : Nat → Int32) (tmany : Int32) (trc : Nat → Int32) (rmany : Int32) (mark : Int64) (pil : Nat → Int32) (pmany : Int32) (mks : Nat → Int32) (cts : Nat → Int32) (turns : Int32) (stop : Int32) (y1 : Int32), dsAk d var tab szs prg tol tmany turns stop y1 → CV l g yX10_doAll cX10_doAll 3 none (rmN (2 * d + 46)) (w_Mdl a g) [.ref (a 0), .int y1] (((((text, size), (sv, stb)), ((var, tab), szs)), (((prg, cod), words), ((has, fpl), pos))), ((((fault, plc), (tol, tmany)), ((trc, rmany), mark)), (((pil, pmany), mks), ((cts, turns), stop)))) (rb_X10_doAll (((((text, size), (sv, stb)), ((var, tab), szs)), (((prg, cod), words), ((has, fpl), pos))), ((((fault, plc), (tol, tmany)), ((trc, rmany), mark)), (((pil, pmany), mks), ((cts, turns), stop)))) (dsA d var tab szs prg tol tmany turns stop y1)) := by
  intro d text size sv stb var tab szs prg cod words has fpl pos fault plc tol tmany trc rmany mark pil pmany mks cts turns stop y1 hok
  exact c_X10_doAll l g a text size sv stb var tab szs prg cod words has fpl pos fault plc tol tmany trc rmany mark pil pmany mks cts turns stop (dsS d) (dsSk d) y1 (2 * d + 46) (2 * d + 45) (by omega) (fun text size sv stb var tab szs prg cod words has fpl pos fault plc tol tmany trc rmany mark pil pmany mks cts turns stop y1 hz => k_dsS l g a d text size sv stb var tab szs prg cod words has fpl pos fault plc tol tmany trc rmany mark pil pmany mks cts turns stop y1 hz) hok
