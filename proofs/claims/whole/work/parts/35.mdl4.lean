def ok_X10_labelE_13 (text : Nat → Int32) (sv : Nat → Int32) (stb : Nat → Int32) : Nat → Int32 → Int32 → Int32 → Int32 → Int32 → Int32 → Prop
  | 0, _, _, _, _, _, _ => False
  | k + 1, fault, plc, y1, y2, y3, y4 => if y3 ≤ y4 then True else vp_in y4 400 ∧ (bdP (text y4.toNatClampNeg) (fun v5 => if v5 = (33 : Int32) then ok_X10_isSecret text sv stb (y4 + (1 : Int32)) ∧ (bdP (f_X10_isSecret text sv stb (y4 + (1 : Int32))) (fun o7 => if o7 = 0 then ok_X10_behind text (y4 + (1 : Int32)) ∧ (bdP (f_X10_behind text (y4 + (1 : Int32))) (fun o16 => ok_X10_isSecret text sv stb o16 ∧ (bdP (f_X10_isSecret text sv stb o16) (fun o18 => if o18 = 0 then if y2 = 0 then bdP (y4 + (1 : Int32)) (fun v26 => ok_X10_labelE_13 text sv stb k fault plc y1 y2 y3 v26) else bdP (f_X10_fail fault plc (-14 : Int32) y4) (fun o27 => bdP (y4 + (1 : Int32)) (fun v31 => ok_X10_labelE_13 text sv stb k o27.2.1 o27.2.2 y1 y2 y3 v31)) else bdP (f_X10_fail fault plc (-14 : Int32) y4) (fun o33 => bdP (y4 + (1 : Int32)) (fun v37 => ok_X10_labelE_13 text sv stb k o33.2.1 o33.2.2 y1 y2 y3 v37)))))) else bdP (f_X10_fail fault plc (-14 : Int32) y4) (fun o11 => bdP (y4 + (1 : Int32)) (fun v15 => ok_X10_labelE_13 text sv stb k o11.2.1 o11.2.2 y1 y2 y3 v15)))) else if v5 = (34 : Int32) then ok_X10_isSecret text sv stb (y4 + (1 : Int32)) ∧ (bdP (f_X10_isSecret text sv stb (y4 + (1 : Int32))) (fun o46 => if o46 = 0 then ok_X10_behind text (y4 + (1 : Int32)) ∧ (bdP (f_X10_behind text (y4 + (1 : Int32))) (fun o55 => ok_X10_isSecret text sv stb o55 ∧ (bdP (f_X10_isSecret text sv stb o55) (fun o57 => if o57 = 0 then if y2 = 0 then bdP (y4 + (1 : Int32)) (fun v65 => ok_X10_labelE_13 text sv stb k fault plc y1 y2 y3 v65) else bdP (f_X10_fail fault plc (-14 : Int32) y4) (fun o66 => bdP (y4 + (1 : Int32)) (fun v70 => ok_X10_labelE_13 text sv stb k o66.2.1 o66.2.2 y1 y2 y3 v70)) else bdP (f_X10_fail fault plc (-14 : Int32) y4) (fun o72 => bdP (y4 + (1 : Int32)) (fun v76 => ok_X10_labelE_13 text sv stb k o72.2.1 o72.2.2 y1 y2 y3 v76)))))) else bdP (f_X10_fail fault plc (-14 : Int32) y4) (fun o50 => bdP (y4 + (1 : Int32)) (fun v54 => ok_X10_labelE_13 text sv stb k o50.2.1 o50.2.2 y1 y2 y3 v54)))) else if v5 = (20 : Int32) then bdP (y4 + (2 : Int32)) (fun v40 => ok_X10_labelE_13 text sv stb k fault plc y1 y2 y3 v40) else if v5 = (21 : Int32) then bdP (y4 + (2 : Int32)) (fun v42 => ok_X10_labelE_13 text sv stb k fault plc y1 y2 y3 v42) else if v5 = (35 : Int32) then bdP (y4 + (2 : Int32)) (fun v45 => ok_X10_labelE_13 text sv stb k fault plc y1 y2 y3 v45) else bdP (y4 + (1 : Int32)) (fun v44 => ok_X10_labelE_13 text sv stb k fault plc y1 y2 y3 v44)))
def f_X10_labelE_13 (text : Nat → Int32) (sv : Nat → Int32) (stb : Nat → Int32) : Nat → Int32 → Int32 → Int32 → Int32 → Int32 → Int32 → (Int32 × Int32)
  | 0, fault, plc, y1, y2, y3, y4 => ((fault, plc))
  | k + 1, fault, plc, y1, y2, y3, y4 => if y3 ≤ y4 then ((fault, plc)) else bd (text y4.toNatClampNeg) (fun v5 => if v5 = (33 : Int32) then bd (f_X10_isSecret text sv stb (y4 + (1 : Int32))) (fun o7 => if o7 = 0 then bd (f_X10_behind text (y4 + (1 : Int32))) (fun o16 => bd (f_X10_isSecret text sv stb o16) (fun o18 => if o18 = 0 then if y2 = 0 then bd (y4 + (1 : Int32)) (fun v26 => f_X10_labelE_13 text sv stb k fault plc y1 y2 y3 v26) else bd (f_X10_fail fault plc (-14 : Int32) y4) (fun o27 => bd (y4 + (1 : Int32)) (fun v31 => f_X10_labelE_13 text sv stb k o27.2.1 o27.2.2 y1 y2 y3 v31)) else bd (f_X10_fail fault plc (-14 : Int32) y4) (fun o33 => bd (y4 + (1 : Int32)) (fun v37 => f_X10_labelE_13 text sv stb k o33.2.1 o33.2.2 y1 y2 y3 v37)))) else bd (f_X10_fail fault plc (-14 : Int32) y4) (fun o11 => bd (y4 + (1 : Int32)) (fun v15 => f_X10_labelE_13 text sv stb k o11.2.1 o11.2.2 y1 y2 y3 v15))) else if v5 = (34 : Int32) then bd (f_X10_isSecret text sv stb (y4 + (1 : Int32))) (fun o46 => if o46 = 0 then bd (f_X10_behind text (y4 + (1 : Int32))) (fun o55 => bd (f_X10_isSecret text sv stb o55) (fun o57 => if o57 = 0 then if y2 = 0 then bd (y4 + (1 : Int32)) (fun v65 => f_X10_labelE_13 text sv stb k fault plc y1 y2 y3 v65) else bd (f_X10_fail fault plc (-14 : Int32) y4) (fun o66 => bd (y4 + (1 : Int32)) (fun v70 => f_X10_labelE_13 text sv stb k o66.2.1 o66.2.2 y1 y2 y3 v70)) else bd (f_X10_fail fault plc (-14 : Int32) y4) (fun o72 => bd (y4 + (1 : Int32)) (fun v76 => f_X10_labelE_13 text sv stb k o72.2.1 o72.2.2 y1 y2 y3 v76)))) else bd (f_X10_fail fault plc (-14 : Int32) y4) (fun o50 => bd (y4 + (1 : Int32)) (fun v54 => f_X10_labelE_13 text sv stb k o50.2.1 o50.2.2 y1 y2 y3 v54))) else if v5 = (20 : Int32) then bd (y4 + (2 : Int32)) (fun v40 => f_X10_labelE_13 text sv stb k fault plc y1 y2 y3 v40) else if v5 = (21 : Int32) then bd (y4 + (2 : Int32)) (fun v42 => f_X10_labelE_13 text sv stb k fault plc y1 y2 y3 v42) else if v5 = (35 : Int32) then bd (y4 + (2 : Int32)) (fun v45 => f_X10_labelE_13 text sv stb k fault plc y1 y2 y3 v45) else bd (y4 + (1 : Int32)) (fun v44 => f_X10_labelE_13 text sv stb k fault plc y1 y2 y3 v44))
def f_X10_labelE (text : Nat → Int32) (sv : Nat → Int32) (stb : Nat → Int32) (fault : Int32) (plc : Int32) (x1 : Int32) (x2 : Int32) : (Int32 × Int32) := bd (f_X10_behind text x1) (fun o1 => f_X10_labelE_13 text sv stb 402 fault plc x1 x2 o1 x1)
def ok_X10_labelE (text : Nat → Int32) (sv : Nat → Int32) (stb : Nat → Int32) (fault : Int32) (plc : Int32) (x1 : Int32) (x2 : Int32) : Prop := ok_X10_behind text x1 ∧ (bdP (f_X10_behind text x1) (fun o1 => ok_X10_labelE_13 text sv stb 402 fault plc x1 x2 o1 x1))
def rb_X10_labelE (σ : S_Mdl) (o : (Int32 × Int32)) : S_Mdl := (((((σ.1.1.1.1.1, σ.1.1.1.1.2), (σ.1.1.1.2.1, σ.1.1.1.2.2)), ((σ.1.1.2.1.1, σ.1.1.2.1.2), σ.1.1.2.2)), (((σ.1.2.1.1.1, σ.1.2.1.1.2), σ.1.2.1.2), ((σ.1.2.2.1.1, σ.1.2.2.1.2), σ.1.2.2.2))), ((((o.1, o.2), (σ.2.1.1.2.1, σ.2.1.1.2.2)), ((σ.2.1.2.1.1, σ.2.1.2.1.2), σ.2.1.2.2)), (((σ.2.2.1.1.1, σ.2.2.1.1.2), σ.2.2.1.2), ((σ.2.2.2.1.1, σ.2.2.2.1.2), σ.2.2.2.2))))
set_option maxHeartbeats 4000000 in
set_option maxRecDepth 100000 in
theorem lp_X10_labelE_13 (l : Launch) (g : GG) (a : Nat → Nat) (text : Nat → Int32) (size : Int32) (sv : Nat → Int32) (stb : Nat → Int32) (var : Nat → Int32) (tab : Nat → Int32) (szs : Nat → Int32) (prg : Nat → Int32) (cod : Nat → Int32) (words : Int32) (has : Int32) (fpl : Int32) (pos : Int32) (fault₀ : Int32) (plc₀ : Int32) (tol : Nat → Int32) (tmany : Int32) (trc : Nat → Int32) (rmany : Int32) (mark : Int64) (pil : Nat → Int32) (pmany : Int32) (mks : Nat → Int32) (cts : Nat → Int32) (turns : Int32) (stop : Int32)  {p : Program} {e : Env} {s : State} {m : MethodId} {args : Array Value} {below : List Frame} {meth : Method} {c : Code} {A : Nat → Prop} (hI : InM p s m args meth c RX10 cX10_labelE 7 none g A) : ∀ (k : Nat) (fault : Int32) (plc : Int32) (y1 : Int32) (y2 : Int32) (y3 : Int32) (y4 : Int32), (ok_X10_labelE_13 text sv stb k fault plc y1 y2 y3 y4) → ∀ (r : S_Mdl), r = rb_X10_labelE (((((text, size), (sv, stb)), ((var, tab), szs)), (((prg, cod), words), ((has, fpl), pos))), ((((fault₀, plc₀), (tol, tmany)), ((trc, rmany), mark)), (((pil, pmany), mks), ((cts, turns), stop)))) (f_X10_labelE_13 text sv stb k fault plc y1 y2 y3 y4) → ∀ (H : Heap) (locs : List Loc), Wd g A s (w_Mdl a g (((((text, size), (sv, stb)), ((var, tab), szs)), (((prg, cod), words), ((has, fpl), pos))), ((((fault, plc), (tol, tmany)), ((trc, rmany), mark)), (((pil, pmany), mks), ((cts, turns), stop))))) H locs → ∀ (ls : Array Slot), lv_has ls 7 [(0, .ref (a 0)), (1, .int y1), (2, .int y2), (3, .int y3), (4, .int y4)] → W p l e (rmN 3) s m args below meth c H locs 0 0 (QV g (w_Mdl a g) A r below args s) (F0 m 13 ls []) := by
  have hx := hI.1
  have hb := hI.2.1
  intro k
  induction k with
  | zero =>
    intro fault plc y1 y2 y3 y4 hok
    exact hok.elim
  | succ k ih =>
    intro fault plc y1 y2 y3 y4 hok r hr H locs hw ls hl
    refine lv_iload hx hb dX10_labelE_13 (lv_at hl 4 rfl) ?_
    refine lv_iload_n hx hb dX10_labelE_15 rfl (lv_at hl 3 rfl) ?_
    refine lv_icmp_ge (tgt := 139) hx hb dX10_labelE_16 (by decide) (fun c3 => ?_) (fun c3 => ?_)
    · have hok := ok_t c3 hok
      exact hI.retV (u := (((((text, size), (sv, stb)), ((var, tab), szs)), (((prg, cod), words), ((has, fpl), pos))), ((((fault, plc), (tol, tmany)), ((trc, rmany), mark)), (((pil, pmany), mks), ((cts, turns), stop))))) hw (hr.trans (congrArg (rb_X10_labelE (((((text, size), (sv, stb)), ((var, tab), szs)), (((prg, cod), words), ((has, fpl), pos))), ((((fault₀, plc₀), (tol, tmany)), ((trc, rmany), mark)), (((pil, pmany), mks), ((cts, turns), stop))))) ((show f_X10_labelE_13 text sv stb (k + 1) fault plc y1 y2 y3 y4 = ((fault, plc)) from it_t c3 (rfl))))) dX10_labelE_139
    · have hok := ok_f c3 hok
      refine lv_aload_n hx hb dX10_labelE_19 rfl (lv_at hl 0 rfl) ?_
      refine hI.get (v := .ref (a 1)) hw fg_X10_7 0 rfl rfl dX10_labelE_20 ?_
      refine lv_iload hx hb dX10_labelE_23 (lv_at hl 4 rfl) ?_
      have hq4 := hok.1
      have hok := hok.2
      refine hI.iald hw 1 rfl hq4 dX10_labelE_25 ?_
      refine lv_topi (fun v5 hv5 => ?_)
      have hok := bdP_use hv5 hok
      refine lv_istore (lv' := [(5, .int v5), (0, .ref (a 0)), (1, .int y1), (2, .int y2), (3, .int y3), (4, .int y4)]) hx hb dX10_labelE_26 hl (by decide) rfl (fun ls hl => ?_)
      refine lv_iload hx hb dX10_labelE_28 (lv_at hl 0 rfl) ?_
      refine lv_bipush (v := (33 : Int32)) hx hb dX10_labelE_30 (by decide) ?_
      refine lv_icmp_eq (tgt := 42) hx hb dX10_labelE_32 (by decide) (fun c6 => ?_) (fun c6 => ?_)
      · have hok := ok_t c6 hok
        refine lv_aload_n hx hb dX10_labelE_42 rfl (lv_at hl 1 rfl) ?_
        refine lv_aload_n hx hb dX10_labelE_43 rfl (lv_at hl 1 rfl) ?_
        refine hI.get (v := .ref (a 1)) hw fg_X10_7 0 rfl rfl dX10_labelE_44 ?_
        refine lv_iload hx hb dX10_labelE_47 (lv_at hl 5 rfl) ?_
        refine lv_iconst (v := (1 : Int32)) hx hb dX10_labelE_49 (by decide) ?_
        refine lv_iadd hx hb dX10_labelE_50 ?_
        have hq8 := hok.1
        have hok := hok.2
        obtain ⟨o7, ho7⟩ : ∃ o, o = f_X10_isSecret text sv stb (y4 + (1 : Int32)) := ⟨_, rfl⟩
        refine hI.callI0 (wl := w_Mdl a g) (a := (((((text, size), (sv, stb)), ((var, tab), szs)), (((prg, cod), words), ((has, fpl), pos))), ((((fault, plc), (tol, tmany)), ((trc, rmany), mark)), (((pil, pmany), mks), ((cts, turns), stop))))) (r := rb_X10_isSecret (((((text, size), (sv, stb)), ((var, tab), szs)), (((prg, cod), words), ((has, fpl), pos))), ((((fault, plc), (tol, tmany)), ((trc, rmany), mark)), (((pil, pmany), mks), ((cts, turns), stop)))) o7) (As := [.ref (a 1), .int (y4 + (1 : Int32))]) (rest := []) hw (by rw [ho7]; exact c_X10_isSecret l g a text size sv stb var tab szs prg cod words has fpl pos fault plc tol tmany trc rmany mark pil pmany mks cts turns stop (y4 + (1 : Int32)) hq8) ok_yX10_isSecret ml_X10_111 (rm_ok (by decide) (by decide)) 0 rfl rfl rfl rfl hl.1 (Nat.le_of_ble_eq_true rfl) dX10_labelE_51 ⟨Nat.zero_le _, Nat.zero_le _⟩ (fun H locs hw => ?_)
        have hw : Wd g A s (w_Mdl a g (((((text, size), (sv, stb)), ((var, tab), szs)), (((prg, cod), words), ((has, fpl), pos))), ((((fault, plc), (tol, tmany)), ((trc, rmany), mark)), (((pil, pmany), mks), ((cts, turns), stop))))) H locs := hw
        refine W.eq (g2 := F0 m 54 ls [.int o7]) rfl ?_
        have hok := bdP_use ho7 hok
        refine lv_if_ne (tgt := 80) hx hb dX10_labelE_54 (by decide) (fun c9 => ?_) (fun c9 => ?_)
        · have hok := ok_f c9 hok
          refine lv_iconst (v := (1 : Int32)) hx hb dX10_labelE_80 (by decide) ?_
          refine lv_goto (tgt := 85) hx hb dX10_labelE_81 (by decide) ?_
          refine lv_istore (lv' := [(6, .int (1 : Int32)), (5, .int v5), (0, .ref (a 0)), (1, .int y1), (2, .int y2), (3, .int y3), (4, .int y4)]) hx hb dX10_labelE_85 hl (by decide) rfl (fun ls hl => ?_)
          refine lv_iload hx hb dX10_labelE_87 (lv_at hl 0 rfl) ?_
          refine lv_if_ne (tgt := 96) hx hb dX10_labelE_89 (by decide) (fun c10 => ?_) (fun c10 => ?_)
          rotate_left
          · exact absurd c10 (by decide)
          refine lv_aload_n hx hb dX10_labelE_96 rfl (lv_at hl 2 rfl) ?_
          refine lv_bipush (v := (-14 : Int32)) hx hb dX10_labelE_97 (by decide) ?_
          refine lv_iload hx hb dX10_labelE_99 (lv_at hl 6 rfl) ?_
          obtain ⟨o11, ho11⟩ : ∃ o, o = f_X10_fail fault plc (-14 : Int32) y4 := ⟨_, rfl⟩
          refine hI.callI0 (wl := w_Mdl a g) (a := (((((text, size), (sv, stb)), ((var, tab), szs)), (((prg, cod), words), ((has, fpl), pos))), ((((fault, plc), (tol, tmany)), ((trc, rmany), mark)), (((pil, pmany), mks), ((cts, turns), stop))))) (r := rb_X10_fail (((((text, size), (sv, stb)), ((var, tab), szs)), (((prg, cod), words), ((has, fpl), pos))), ((((fault, plc), (tol, tmany)), ((trc, rmany), mark)), (((pil, pmany), mks), ((cts, turns), stop)))) o11) (As := [.int (-14 : Int32), .int y4]) (rest := []) hw (by rw [ho11]; exact c_X10_fail l g a text size sv stb var tab szs prg cod words has fpl pos fault plc tol tmany trc rmany mark pil pmany mks cts turns stop (-14 : Int32) y4 ) ok_yX10_fail ml_X10_74 (rm_ok (by decide) (by decide)) 0 rfl rfl rfl rfl hl.1 (Nat.le_of_ble_eq_true rfl) dX10_labelE_101 ⟨Nat.zero_le _, Nat.zero_le _⟩ (fun H locs hw => ?_)
          have hw : Wd g A s (w_Mdl a g (((((text, size), (sv, stb)), ((var, tab), szs)), (((prg, cod), words), ((has, fpl), pos))), ((((o11.2.1, o11.2.2), (tol, tmany)), ((trc, rmany), mark)), (((pil, pmany), mks), ((cts, turns), stop))))) H locs := hw
          refine W.eq (g2 := F0 m 104 ls [.int o11.1]) rfl ?_
          have hok := bdP_use ho11 hok
          refine lv_pop hx hb dX10_labelE_104 rfl ?_
          refine lv_iload hx hb dX10_labelE_105 (lv_at hl 6 rfl) ?_
          refine lv_iload hx hb dX10_labelE_107 (lv_at hl 1 rfl) ?_
          refine lv_bipush (v := (20 : Int32)) hx hb dX10_labelE_109 (by decide) ?_
          refine lv_icmp_eq (tgt := 128) hx hb dX10_labelE_111 (by decide) (fun c12 => ?_) (fun c12 => ?_)
          · exact absurd c12 (show ¬ (v5 = (20 : Int32)) by rw [c6]; decide)
          refine lv_iload hx hb dX10_labelE_114 (lv_at hl 1 rfl) ?_
          refine lv_bipush (v := (21 : Int32)) hx hb dX10_labelE_116 (by decide) ?_
          refine lv_icmp_eq (tgt := 128) hx hb dX10_labelE_118 (by decide) (fun c13 => ?_) (fun c13 => ?_)
          · exact absurd c13 (show ¬ (v5 = (21 : Int32)) by rw [c6]; decide)
          refine lv_iload hx hb dX10_labelE_121 (lv_at hl 1 rfl) ?_
          refine lv_bipush (v := (35 : Int32)) hx hb dX10_labelE_123 (by decide) ?_
          refine lv_icmp_ne (tgt := 132) hx hb dX10_labelE_125 (by decide) (fun c14 => ?_) (fun c14 => ?_)
          rotate_left
          · exact absurd c14 (show ¬ (v5 = (35 : Int32)) by rw [c6]; decide)
          refine lv_iconst (v := (1 : Int32)) hx hb dX10_labelE_132 (by decide) ?_
          refine lv_iadd hx hb dX10_labelE_133 ?_
          refine lv_topi (fun v15 hv15 => ?_)
          have hok := bdP_use hv15 hok
          refine lv_istore (lv' := [(4, .int v15), (6, .int (1 : Int32)), (5, .int v5), (0, .ref (a 0)), (1, .int y1), (2, .int y2), (3, .int y3)]) hx hb dX10_labelE_134 hl (by decide) rfl (fun ls hl => ?_)
          refine lv_goto (tgt := 13) hx hb dX10_labelE_136 (by decide) ?_
          exact ih o11.2.1 o11.2.2 y1 y2 y3 v15 hok r (hr.trans (congrArg (rb_X10_labelE (((((text, size), (sv, stb)), ((var, tab), szs)), (((prg, cod), words), ((has, fpl), pos))), ((((fault₀, plc₀), (tol, tmany)), ((trc, rmany), mark)), (((pil, pmany), mks), ((cts, turns), stop))))) ((show f_X10_labelE_13 text sv stb (k + 1) fault plc y1 y2 y3 y4 = f_X10_labelE_13 text sv stb k o11.2.1 o11.2.2 y1 y2 y3 v15 from it_f c3 (bd_of hv5 (it_t c6 (bd_of ho7 (it_f c9 (bd_of ho11 (bd_of hv15 (rfl))))))))))) _ _ hw _ (lv_sub hl [3, 4, 5, 6, 0] rfl)
        · have hok := ok_t c9 hok
          refine lv_aload_n hx hb dX10_labelE_57 rfl (lv_at hl 1 rfl) ?_
          refine lv_aload_n hx hb dX10_labelE_58 rfl (lv_at hl 1 rfl) ?_
          refine hI.get (v := .ref (a 1)) hw fg_X10_7 0 rfl rfl dX10_labelE_59 ?_
          refine lv_aload_n hx hb dX10_labelE_62 rfl (lv_at hl 1 rfl) ?_
          refine lv_aload_n hx hb dX10_labelE_63 rfl (lv_at hl 1 rfl) ?_
          refine hI.get (v := .ref (a 1)) hw fg_X10_7 0 rfl rfl dX10_labelE_64 ?_
          refine lv_iload hx hb dX10_labelE_67 (lv_at hl 5 rfl) ?_
          refine lv_iconst (v := (1 : Int32)) hx hb dX10_labelE_69 (by decide) ?_
          refine lv_iadd hx hb dX10_labelE_70 ?_
          have hq17 := hok.1
          have hok := hok.2
          obtain ⟨o16, ho16⟩ : ∃ o, o = f_X10_behind text (y4 + (1 : Int32)) := ⟨_, rfl⟩
          refine hI.callI0 (wl := w_Mdl a g) (a := (((((text, size), (sv, stb)), ((var, tab), szs)), (((prg, cod), words), ((has, fpl), pos))), ((((fault, plc), (tol, tmany)), ((trc, rmany), mark)), (((pil, pmany), mks), ((cts, turns), stop))))) (r := rb_X10_behind (((((text, size), (sv, stb)), ((var, tab), szs)), (((prg, cod), words), ((has, fpl), pos))), ((((fault, plc), (tol, tmany)), ((trc, rmany), mark)), (((pil, pmany), mks), ((cts, turns), stop)))) o16) (As := [.ref (a 1), .int (y4 + (1 : Int32))]) (rest := [.ref (a 1), .ref (a 0)]) hw (by rw [ho16]; exact c_X10_behind l g a text size sv stb var tab szs prg cod words has fpl pos fault plc tol tmany trc rmany mark pil pmany mks cts turns stop (y4 + (1 : Int32)) hq17) ok_yX10_behind ml_X10_107 (rm_ok (by decide) (by decide)) 0 rfl rfl rfl rfl hl.1 (Nat.le_of_ble_eq_true rfl) dX10_labelE_71 ⟨Nat.zero_le _, Nat.zero_le _⟩ (fun H locs hw => ?_)
          have hw : Wd g A s (w_Mdl a g (((((text, size), (sv, stb)), ((var, tab), szs)), (((prg, cod), words), ((has, fpl), pos))), ((((fault, plc), (tol, tmany)), ((trc, rmany), mark)), (((pil, pmany), mks), ((cts, turns), stop))))) H locs := hw
          refine W.eq (g2 := F0 m 74 ls [.int o16, .ref (a 1), .ref (a 0)]) rfl ?_
          have hok := bdP_use ho16 hok
          have hq19 := hok.1
          have hok := hok.2
          obtain ⟨o18, ho18⟩ : ∃ o, o = f_X10_isSecret text sv stb o16 := ⟨_, rfl⟩
          refine hI.callI0 (wl := w_Mdl a g) (a := (((((text, size), (sv, stb)), ((var, tab), szs)), (((prg, cod), words), ((has, fpl), pos))), ((((fault, plc), (tol, tmany)), ((trc, rmany), mark)), (((pil, pmany), mks), ((cts, turns), stop))))) (r := rb_X10_isSecret (((((text, size), (sv, stb)), ((var, tab), szs)), (((prg, cod), words), ((has, fpl), pos))), ((((fault, plc), (tol, tmany)), ((trc, rmany), mark)), (((pil, pmany), mks), ((cts, turns), stop)))) o18) (As := [.ref (a 1), .int o16]) (rest := []) hw (by rw [ho18]; exact c_X10_isSecret l g a text size sv stb var tab szs prg cod words has fpl pos fault plc tol tmany trc rmany mark pil pmany mks cts turns stop o16 hq19) ok_yX10_isSecret ml_X10_111 (rm_ok (by decide) (by decide)) 0 rfl rfl rfl rfl hl.1 (Nat.le_of_ble_eq_true rfl) dX10_labelE_74 ⟨Nat.zero_le _, Nat.zero_le _⟩ (fun H locs hw => ?_)
          have hw : Wd g A s (w_Mdl a g (((((text, size), (sv, stb)), ((var, tab), szs)), (((prg, cod), words), ((has, fpl), pos))), ((((fault, plc), (tol, tmany)), ((trc, rmany), mark)), (((pil, pmany), mks), ((cts, turns), stop))))) H locs := hw
          refine W.eq (g2 := F0 m 77 ls [.int o18]) rfl ?_
          have hok := bdP_use ho18 hok
          refine lv_if_eq (tgt := 84) hx hb dX10_labelE_77 (by decide) (fun c20 => ?_) (fun c20 => ?_)
          · have hok := ok_t c20 hok
            refine lv_iconst (v := (0 : Int32)) hx hb dX10_labelE_84 (by decide) ?_
            refine lv_istore (lv' := [(6, .int (0 : Int32)), (5, .int v5), (0, .ref (a 0)), (1, .int y1), (2, .int y2), (3, .int y3), (4, .int y4)]) hx hb dX10_labelE_85 hl (by decide) rfl (fun ls hl => ?_)
            refine lv_iload hx hb dX10_labelE_87 (lv_at hl 0 rfl) ?_
            refine lv_if_ne (tgt := 96) hx hb dX10_labelE_89 (by decide) (fun c21 => ?_) (fun c21 => ?_)
            · exact absurd (by decide) c21
            refine lv_iload_n hx hb dX10_labelE_92 rfl (lv_at hl 4 rfl) ?_
            refine lv_if_eq (tgt := 105) hx hb dX10_labelE_93 (by decide) (fun c22 => ?_) (fun c22 => ?_)
            · have hok := ok_t c22 hok
              refine lv_iload hx hb dX10_labelE_105 (lv_at hl 6 rfl) ?_
              refine lv_iload hx hb dX10_labelE_107 (lv_at hl 1 rfl) ?_
              refine lv_bipush (v := (20 : Int32)) hx hb dX10_labelE_109 (by decide) ?_
              refine lv_icmp_eq (tgt := 128) hx hb dX10_labelE_111 (by decide) (fun c23 => ?_) (fun c23 => ?_)
              · exact absurd c23 (show ¬ (v5 = (20 : Int32)) by rw [c6]; decide)
              refine lv_iload hx hb dX10_labelE_114 (lv_at hl 1 rfl) ?_
              refine lv_bipush (v := (21 : Int32)) hx hb dX10_labelE_116 (by decide) ?_
              refine lv_icmp_eq (tgt := 128) hx hb dX10_labelE_118 (by decide) (fun c24 => ?_) (fun c24 => ?_)
              · exact absurd c24 (show ¬ (v5 = (21 : Int32)) by rw [c6]; decide)
              refine lv_iload hx hb dX10_labelE_121 (lv_at hl 1 rfl) ?_
              refine lv_bipush (v := (35 : Int32)) hx hb dX10_labelE_123 (by decide) ?_
              refine lv_icmp_ne (tgt := 132) hx hb dX10_labelE_125 (by decide) (fun c25 => ?_) (fun c25 => ?_)
              rotate_left
              · exact absurd c25 (show ¬ (v5 = (35 : Int32)) by rw [c6]; decide)
              refine lv_iconst (v := (1 : Int32)) hx hb dX10_labelE_132 (by decide) ?_
              refine lv_iadd hx hb dX10_labelE_133 ?_
              refine lv_topi (fun v26 hv26 => ?_)
              have hok := bdP_use hv26 hok
              refine lv_istore (lv' := [(4, .int v26), (6, .int (0 : Int32)), (5, .int v5), (0, .ref (a 0)), (1, .int y1), (2, .int y2), (3, .int y3)]) hx hb dX10_labelE_134 hl (by decide) rfl (fun ls hl => ?_)
              refine lv_goto (tgt := 13) hx hb dX10_labelE_136 (by decide) ?_
              exact ih fault plc y1 y2 y3 v26 hok r (hr.trans (congrArg (rb_X10_labelE (((((text, size), (sv, stb)), ((var, tab), szs)), (((prg, cod), words), ((has, fpl), pos))), ((((fault₀, plc₀), (tol, tmany)), ((trc, rmany), mark)), (((pil, pmany), mks), ((cts, turns), stop))))) ((show f_X10_labelE_13 text sv stb (k + 1) fault plc y1 y2 y3 y4 = f_X10_labelE_13 text sv stb k fault plc y1 y2 y3 v26 from it_f c3 (bd_of hv5 (it_t c6 (bd_of ho7 (it_t c9 (bd_of ho16 (bd_of ho18 (it_t c20 (it_t c22 (bd_of hv26 (rfl)))))))))))))) _ _ hw _ (lv_sub hl [3, 4, 5, 6, 0] rfl)
            · have hok := ok_f c22 hok
              refine lv_aload_n hx hb dX10_labelE_96 rfl (lv_at hl 2 rfl) ?_
              refine lv_bipush (v := (-14 : Int32)) hx hb dX10_labelE_97 (by decide) ?_
              refine lv_iload hx hb dX10_labelE_99 (lv_at hl 6 rfl) ?_
              obtain ⟨o27, ho27⟩ : ∃ o, o = f_X10_fail fault plc (-14 : Int32) y4 := ⟨_, rfl⟩
              refine hI.callI0 (wl := w_Mdl a g) (a := (((((text, size), (sv, stb)), ((var, tab), szs)), (((prg, cod), words), ((has, fpl), pos))), ((((fault, plc), (tol, tmany)), ((trc, rmany), mark)), (((pil, pmany), mks), ((cts, turns), stop))))) (r := rb_X10_fail (((((text, size), (sv, stb)), ((var, tab), szs)), (((prg, cod), words), ((has, fpl), pos))), ((((fault, plc), (tol, tmany)), ((trc, rmany), mark)), (((pil, pmany), mks), ((cts, turns), stop)))) o27) (As := [.int (-14 : Int32), .int y4]) (rest := []) hw (by rw [ho27]; exact c_X10_fail l g a text size sv stb var tab szs prg cod words has fpl pos fault plc tol tmany trc rmany mark pil pmany mks cts turns stop (-14 : Int32) y4 ) ok_yX10_fail ml_X10_74 (rm_ok (by decide) (by decide)) 0 rfl rfl rfl rfl hl.1 (Nat.le_of_ble_eq_true rfl) dX10_labelE_101 ⟨Nat.zero_le _, Nat.zero_le _⟩ (fun H locs hw => ?_)
              have hw : Wd g A s (w_Mdl a g (((((text, size), (sv, stb)), ((var, tab), szs)), (((prg, cod), words), ((has, fpl), pos))), ((((o27.2.1, o27.2.2), (tol, tmany)), ((trc, rmany), mark)), (((pil, pmany), mks), ((cts, turns), stop))))) H locs := hw
              refine W.eq (g2 := F0 m 104 ls [.int o27.1]) rfl ?_
              have hok := bdP_use ho27 hok
              refine lv_pop hx hb dX10_labelE_104 rfl ?_
              refine lv_iload hx hb dX10_labelE_105 (lv_at hl 6 rfl) ?_
              refine lv_iload hx hb dX10_labelE_107 (lv_at hl 1 rfl) ?_
              refine lv_bipush (v := (20 : Int32)) hx hb dX10_labelE_109 (by decide) ?_
              refine lv_icmp_eq (tgt := 128) hx hb dX10_labelE_111 (by decide) (fun c28 => ?_) (fun c28 => ?_)
              · exact absurd c28 (show ¬ (v5 = (20 : Int32)) by rw [c6]; decide)
              refine lv_iload hx hb dX10_labelE_114 (lv_at hl 1 rfl) ?_
              refine lv_bipush (v := (21 : Int32)) hx hb dX10_labelE_116 (by decide) ?_
              refine lv_icmp_eq (tgt := 128) hx hb dX10_labelE_118 (by decide) (fun c29 => ?_) (fun c29 => ?_)
              · exact absurd c29 (show ¬ (v5 = (21 : Int32)) by rw [c6]; decide)
              refine lv_iload hx hb dX10_labelE_121 (lv_at hl 1 rfl) ?_
              refine lv_bipush (v := (35 : Int32)) hx hb dX10_labelE_123 (by decide) ?_
              refine lv_icmp_ne (tgt := 132) hx hb dX10_labelE_125 (by decide) (fun c30 => ?_) (fun c30 => ?_)
              rotate_left
              · exact absurd c30 (show ¬ (v5 = (35 : Int32)) by rw [c6]; decide)
              refine lv_iconst (v := (1 : Int32)) hx hb dX10_labelE_132 (by decide) ?_
              refine lv_iadd hx hb dX10_labelE_133 ?_
              refine lv_topi (fun v31 hv31 => ?_)
              have hok := bdP_use hv31 hok
              refine lv_istore (lv' := [(4, .int v31), (6, .int (0 : Int32)), (5, .int v5), (0, .ref (a 0)), (1, .int y1), (2, .int y2), (3, .int y3)]) hx hb dX10_labelE_134 hl (by decide) rfl (fun ls hl => ?_)
              refine lv_goto (tgt := 13) hx hb dX10_labelE_136 (by decide) ?_
              exact ih o27.2.1 o27.2.2 y1 y2 y3 v31 hok r (hr.trans (congrArg (rb_X10_labelE (((((text, size), (sv, stb)), ((var, tab), szs)), (((prg, cod), words), ((has, fpl), pos))), ((((fault₀, plc₀), (tol, tmany)), ((trc, rmany), mark)), (((pil, pmany), mks), ((cts, turns), stop))))) ((show f_X10_labelE_13 text sv stb (k + 1) fault plc y1 y2 y3 y4 = f_X10_labelE_13 text sv stb k o27.2.1 o27.2.2 y1 y2 y3 v31 from it_f c3 (bd_of hv5 (it_t c6 (bd_of ho7 (it_t c9 (bd_of ho16 (bd_of ho18 (it_t c20 (it_f c22 (bd_of ho27 (bd_of hv31 (rfl))))))))))))))) _ _ hw _ (lv_sub hl [3, 4, 5, 6, 0] rfl)
          · have hok := ok_f c20 hok
            refine lv_iconst (v := (1 : Int32)) hx hb dX10_labelE_80 (by decide) ?_
            refine lv_goto (tgt := 85) hx hb dX10_labelE_81 (by decide) ?_
            refine lv_istore (lv' := [(6, .int (1 : Int32)), (5, .int v5), (0, .ref (a 0)), (1, .int y1), (2, .int y2), (3, .int y3), (4, .int y4)]) hx hb dX10_labelE_85 hl (by decide) rfl (fun ls hl => ?_)
            refine lv_iload hx hb dX10_labelE_87 (lv_at hl 0 rfl) ?_
            refine lv_if_ne (tgt := 96) hx hb dX10_labelE_89 (by decide) (fun c32 => ?_) (fun c32 => ?_)
            rotate_left
            · exact absurd c32 (by decide)
            refine lv_aload_n hx hb dX10_labelE_96 rfl (lv_at hl 2 rfl) ?_
            refine lv_bipush (v := (-14 : Int32)) hx hb dX10_labelE_97 (by decide) ?_
            refine lv_iload hx hb dX10_labelE_99 (lv_at hl 6 rfl) ?_
            obtain ⟨o33, ho33⟩ : ∃ o, o = f_X10_fail fault plc (-14 : Int32) y4 := ⟨_, rfl⟩
            refine hI.callI0 (wl := w_Mdl a g) (a := (((((text, size), (sv, stb)), ((var, tab), szs)), (((prg, cod), words), ((has, fpl), pos))), ((((fault, plc), (tol, tmany)), ((trc, rmany), mark)), (((pil, pmany), mks), ((cts, turns), stop))))) (r := rb_X10_fail (((((text, size), (sv, stb)), ((var, tab), szs)), (((prg, cod), words), ((has, fpl), pos))), ((((fault, plc), (tol, tmany)), ((trc, rmany), mark)), (((pil, pmany), mks), ((cts, turns), stop)))) o33) (As := [.int (-14 : Int32), .int y4]) (rest := []) hw (by rw [ho33]; exact c_X10_fail l g a text size sv stb var tab szs prg cod words has fpl pos fault plc tol tmany trc rmany mark pil pmany mks cts turns stop (-14 : Int32) y4 ) ok_yX10_fail ml_X10_74 (rm_ok (by decide) (by decide)) 0 rfl rfl rfl rfl hl.1 (Nat.le_of_ble_eq_true rfl) dX10_labelE_101 ⟨Nat.zero_le _, Nat.zero_le _⟩ (fun H locs hw => ?_)
            have hw : Wd g A s (w_Mdl a g (((((text, size), (sv, stb)), ((var, tab), szs)), (((prg, cod), words), ((has, fpl), pos))), ((((o33.2.1, o33.2.2), (tol, tmany)), ((trc, rmany), mark)), (((pil, pmany), mks), ((cts, turns), stop))))) H locs := hw
            refine W.eq (g2 := F0 m 104 ls [.int o33.1]) rfl ?_
            have hok := bdP_use ho33 hok
            refine lv_pop hx hb dX10_labelE_104 rfl ?_
            refine lv_iload hx hb dX10_labelE_105 (lv_at hl 6 rfl) ?_
            refine lv_iload hx hb dX10_labelE_107 (lv_at hl 1 rfl) ?_
            refine lv_bipush (v := (20 : Int32)) hx hb dX10_labelE_109 (by decide) ?_
            refine lv_icmp_eq (tgt := 128) hx hb dX10_labelE_111 (by decide) (fun c34 => ?_) (fun c34 => ?_)
            · exact absurd c34 (show ¬ (v5 = (20 : Int32)) by rw [c6]; decide)
            refine lv_iload hx hb dX10_labelE_114 (lv_at hl 1 rfl) ?_
            refine lv_bipush (v := (21 : Int32)) hx hb dX10_labelE_116 (by decide) ?_
            refine lv_icmp_eq (tgt := 128) hx hb dX10_labelE_118 (by decide) (fun c35 => ?_) (fun c35 => ?_)
            · exact absurd c35 (show ¬ (v5 = (21 : Int32)) by rw [c6]; decide)
            refine lv_iload hx hb dX10_labelE_121 (lv_at hl 1 rfl) ?_
            refine lv_bipush (v := (35 : Int32)) hx hb dX10_labelE_123 (by decide) ?_
            refine lv_icmp_ne (tgt := 132) hx hb dX10_labelE_125 (by decide) (fun c36 => ?_) (fun c36 => ?_)
            rotate_left
            · exact absurd c36 (show ¬ (v5 = (35 : Int32)) by rw [c6]; decide)
            refine lv_iconst (v := (1 : Int32)) hx hb dX10_labelE_132 (by decide) ?_
            refine lv_iadd hx hb dX10_labelE_133 ?_
            refine lv_topi (fun v37 hv37 => ?_)
            have hok := bdP_use hv37 hok
            refine lv_istore (lv' := [(4, .int v37), (6, .int (1 : Int32)), (5, .int v5), (0, .ref (a 0)), (1, .int y1), (2, .int y2), (3, .int y3)]) hx hb dX10_labelE_134 hl (by decide) rfl (fun ls hl => ?_)
            refine lv_goto (tgt := 13) hx hb dX10_labelE_136 (by decide) ?_
            exact ih o33.2.1 o33.2.2 y1 y2 y3 v37 hok r (hr.trans (congrArg (rb_X10_labelE (((((text, size), (sv, stb)), ((var, tab), szs)), (((prg, cod), words), ((has, fpl), pos))), ((((fault₀, plc₀), (tol, tmany)), ((trc, rmany), mark)), (((pil, pmany), mks), ((cts, turns), stop))))) ((show f_X10_labelE_13 text sv stb (k + 1) fault plc y1 y2 y3 y4 = f_X10_labelE_13 text sv stb k o33.2.1 o33.2.2 y1 y2 y3 v37 from it_f c3 (bd_of hv5 (it_t c6 (bd_of ho7 (it_t c9 (bd_of ho16 (bd_of ho18 (it_f c20 (bd_of ho33 (bd_of hv37 (rfl)))))))))))))) _ _ hw _ (lv_sub hl [3, 4, 5, 6, 0] rfl)
      · have hok := ok_f c6 hok
        refine lv_iload hx hb dX10_labelE_35 (lv_at hl 0 rfl) ?_
        refine lv_bipush (v := (34 : Int32)) hx hb dX10_labelE_37 (by decide) ?_
        refine lv_icmp_ne (tgt := 105) hx hb dX10_labelE_39 (by decide) (fun c38 => ?_) (fun c38 => ?_)
        · have hok := ok_f c38 hok
          refine lv_iload hx hb dX10_labelE_105 (lv_at hl 5 rfl) ?_
          refine lv_iload hx hb dX10_labelE_107 (lv_at hl 0 rfl) ?_
          refine lv_bipush (v := (20 : Int32)) hx hb dX10_labelE_109 (by decide) ?_
          refine lv_icmp_eq (tgt := 128) hx hb dX10_labelE_111 (by decide) (fun c39 => ?_) (fun c39 => ?_)
          · have hok := ok_t c39 hok
            refine lv_iconst (v := (2 : Int32)) hx hb dX10_labelE_128 (by decide) ?_
            refine lv_goto (tgt := 133) hx hb dX10_labelE_129 (by decide) ?_
            refine lv_iadd hx hb dX10_labelE_133 ?_
            refine lv_topi (fun v40 hv40 => ?_)
            have hok := bdP_use hv40 hok
            refine lv_istore (lv' := [(4, .int v40), (5, .int v5), (0, .ref (a 0)), (1, .int y1), (2, .int y2), (3, .int y3)]) hx hb dX10_labelE_134 hl (by decide) rfl (fun ls hl => ?_)
            refine lv_goto (tgt := 13) hx hb dX10_labelE_136 (by decide) ?_
            exact ih fault plc y1 y2 y3 v40 hok r (hr.trans (congrArg (rb_X10_labelE (((((text, size), (sv, stb)), ((var, tab), szs)), (((prg, cod), words), ((has, fpl), pos))), ((((fault₀, plc₀), (tol, tmany)), ((trc, rmany), mark)), (((pil, pmany), mks), ((cts, turns), stop))))) ((show f_X10_labelE_13 text sv stb (k + 1) fault plc y1 y2 y3 y4 = f_X10_labelE_13 text sv stb k fault plc y1 y2 y3 v40 from it_f c3 (bd_of hv5 (it_f c6 (it_f c38 (it_t c39 (bd_of hv40 (rfl)))))))))) _ _ hw _ (lv_sub hl [2, 3, 4, 5, 0] rfl)
          · have hok := ok_f c39 hok
            refine lv_iload hx hb dX10_labelE_114 (lv_at hl 0 rfl) ?_
            refine lv_bipush (v := (21 : Int32)) hx hb dX10_labelE_116 (by decide) ?_
            refine lv_icmp_eq (tgt := 128) hx hb dX10_labelE_118 (by decide) (fun c41 => ?_) (fun c41 => ?_)
            · have hok := ok_t c41 hok
              refine lv_iconst (v := (2 : Int32)) hx hb dX10_labelE_128 (by decide) ?_
              refine lv_goto (tgt := 133) hx hb dX10_labelE_129 (by decide) ?_
              refine lv_iadd hx hb dX10_labelE_133 ?_
              refine lv_topi (fun v42 hv42 => ?_)
              have hok := bdP_use hv42 hok
              refine lv_istore (lv' := [(4, .int v42), (5, .int v5), (0, .ref (a 0)), (1, .int y1), (2, .int y2), (3, .int y3)]) hx hb dX10_labelE_134 hl (by decide) rfl (fun ls hl => ?_)
              refine lv_goto (tgt := 13) hx hb dX10_labelE_136 (by decide) ?_
              exact ih fault plc y1 y2 y3 v42 hok r (hr.trans (congrArg (rb_X10_labelE (((((text, size), (sv, stb)), ((var, tab), szs)), (((prg, cod), words), ((has, fpl), pos))), ((((fault₀, plc₀), (tol, tmany)), ((trc, rmany), mark)), (((pil, pmany), mks), ((cts, turns), stop))))) ((show f_X10_labelE_13 text sv stb (k + 1) fault plc y1 y2 y3 y4 = f_X10_labelE_13 text sv stb k fault plc y1 y2 y3 v42 from it_f c3 (bd_of hv5 (it_f c6 (it_f c38 (it_f c39 (it_t c41 (bd_of hv42 (rfl))))))))))) _ _ hw _ (lv_sub hl [2, 3, 4, 5, 0] rfl)
            · have hok := ok_f c41 hok
              refine lv_iload hx hb dX10_labelE_121 (lv_at hl 0 rfl) ?_
              refine lv_bipush (v := (35 : Int32)) hx hb dX10_labelE_123 (by decide) ?_
              refine lv_icmp_ne (tgt := 132) hx hb dX10_labelE_125 (by decide) (fun c43 => ?_) (fun c43 => ?_)
              · have hok := ok_f c43 hok
                refine lv_iconst (v := (1 : Int32)) hx hb dX10_labelE_132 (by decide) ?_
                refine lv_iadd hx hb dX10_labelE_133 ?_
                refine lv_topi (fun v44 hv44 => ?_)
                have hok := bdP_use hv44 hok
                refine lv_istore (lv' := [(4, .int v44), (5, .int v5), (0, .ref (a 0)), (1, .int y1), (2, .int y2), (3, .int y3)]) hx hb dX10_labelE_134 hl (by decide) rfl (fun ls hl => ?_)
                refine lv_goto (tgt := 13) hx hb dX10_labelE_136 (by decide) ?_
                exact ih fault plc y1 y2 y3 v44 hok r (hr.trans (congrArg (rb_X10_labelE (((((text, size), (sv, stb)), ((var, tab), szs)), (((prg, cod), words), ((has, fpl), pos))), ((((fault₀, plc₀), (tol, tmany)), ((trc, rmany), mark)), (((pil, pmany), mks), ((cts, turns), stop))))) ((show f_X10_labelE_13 text sv stb (k + 1) fault plc y1 y2 y3 y4 = f_X10_labelE_13 text sv stb k fault plc y1 y2 y3 v44 from it_f c3 (bd_of hv5 (it_f c6 (it_f c38 (it_f c39 (it_f c41 (it_f c43 (bd_of hv44 (rfl)))))))))))) _ _ hw _ (lv_sub hl [2, 3, 4, 5, 0] rfl)
              · have hok := ok_t c43 hok
                refine lv_iconst (v := (2 : Int32)) hx hb dX10_labelE_128 (by decide) ?_
                refine lv_goto (tgt := 133) hx hb dX10_labelE_129 (by decide) ?_
                refine lv_iadd hx hb dX10_labelE_133 ?_
                refine lv_topi (fun v45 hv45 => ?_)
                have hok := bdP_use hv45 hok
                refine lv_istore (lv' := [(4, .int v45), (5, .int v5), (0, .ref (a 0)), (1, .int y1), (2, .int y2), (3, .int y3)]) hx hb dX10_labelE_134 hl (by decide) rfl (fun ls hl => ?_)
                refine lv_goto (tgt := 13) hx hb dX10_labelE_136 (by decide) ?_
                exact ih fault plc y1 y2 y3 v45 hok r (hr.trans (congrArg (rb_X10_labelE (((((text, size), (sv, stb)), ((var, tab), szs)), (((prg, cod), words), ((has, fpl), pos))), ((((fault₀, plc₀), (tol, tmany)), ((trc, rmany), mark)), (((pil, pmany), mks), ((cts, turns), stop))))) ((show f_X10_labelE_13 text sv stb (k + 1) fault plc y1 y2 y3 y4 = f_X10_labelE_13 text sv stb k fault plc y1 y2 y3 v45 from it_f c3 (bd_of hv5 (it_f c6 (it_f c38 (it_f c39 (it_f c41 (it_t c43 (bd_of hv45 (rfl)))))))))))) _ _ hw _ (lv_sub hl [2, 3, 4, 5, 0] rfl)
        · have hok := ok_t c38 hok
          refine lv_aload_n hx hb dX10_labelE_42 rfl (lv_at hl 1 rfl) ?_
          refine lv_aload_n hx hb dX10_labelE_43 rfl (lv_at hl 1 rfl) ?_
          refine hI.get (v := .ref (a 1)) hw fg_X10_7 0 rfl rfl dX10_labelE_44 ?_
          refine lv_iload hx hb dX10_labelE_47 (lv_at hl 5 rfl) ?_
          refine lv_iconst (v := (1 : Int32)) hx hb dX10_labelE_49 (by decide) ?_
          refine lv_iadd hx hb dX10_labelE_50 ?_
          have hq47 := hok.1
          have hok := hok.2
          obtain ⟨o46, ho46⟩ : ∃ o, o = f_X10_isSecret text sv stb (y4 + (1 : Int32)) := ⟨_, rfl⟩
          refine hI.callI0 (wl := w_Mdl a g) (a := (((((text, size), (sv, stb)), ((var, tab), szs)), (((prg, cod), words), ((has, fpl), pos))), ((((fault, plc), (tol, tmany)), ((trc, rmany), mark)), (((pil, pmany), mks), ((cts, turns), stop))))) (r := rb_X10_isSecret (((((text, size), (sv, stb)), ((var, tab), szs)), (((prg, cod), words), ((has, fpl), pos))), ((((fault, plc), (tol, tmany)), ((trc, rmany), mark)), (((pil, pmany), mks), ((cts, turns), stop)))) o46) (As := [.ref (a 1), .int (y4 + (1 : Int32))]) (rest := []) hw (by rw [ho46]; exact c_X10_isSecret l g a text size sv stb var tab szs prg cod words has fpl pos fault plc tol tmany trc rmany mark pil pmany mks cts turns stop (y4 + (1 : Int32)) hq47) ok_yX10_isSecret ml_X10_111 (rm_ok (by decide) (by decide)) 0 rfl rfl rfl rfl hl.1 (Nat.le_of_ble_eq_true rfl) dX10_labelE_51 ⟨Nat.zero_le _, Nat.zero_le _⟩ (fun H locs hw => ?_)
          have hw : Wd g A s (w_Mdl a g (((((text, size), (sv, stb)), ((var, tab), szs)), (((prg, cod), words), ((has, fpl), pos))), ((((fault, plc), (tol, tmany)), ((trc, rmany), mark)), (((pil, pmany), mks), ((cts, turns), stop))))) H locs := hw
          refine W.eq (g2 := F0 m 54 ls [.int o46]) rfl ?_
          have hok := bdP_use ho46 hok
          refine lv_if_ne (tgt := 80) hx hb dX10_labelE_54 (by decide) (fun c48 => ?_) (fun c48 => ?_)
          · have hok := ok_f c48 hok
            refine lv_iconst (v := (1 : Int32)) hx hb dX10_labelE_80 (by decide) ?_
            refine lv_goto (tgt := 85) hx hb dX10_labelE_81 (by decide) ?_
            refine lv_istore (lv' := [(6, .int (1 : Int32)), (5, .int v5), (0, .ref (a 0)), (1, .int y1), (2, .int y2), (3, .int y3), (4, .int y4)]) hx hb dX10_labelE_85 hl (by decide) rfl (fun ls hl => ?_)
            refine lv_iload hx hb dX10_labelE_87 (lv_at hl 0 rfl) ?_
            refine lv_if_ne (tgt := 96) hx hb dX10_labelE_89 (by decide) (fun c49 => ?_) (fun c49 => ?_)
            rotate_left
            · exact absurd c49 (by decide)
            refine lv_aload_n hx hb dX10_labelE_96 rfl (lv_at hl 2 rfl) ?_
            refine lv_bipush (v := (-14 : Int32)) hx hb dX10_labelE_97 (by decide) ?_
            refine lv_iload hx hb dX10_labelE_99 (lv_at hl 6 rfl) ?_
            obtain ⟨o50, ho50⟩ : ∃ o, o = f_X10_fail fault plc (-14 : Int32) y4 := ⟨_, rfl⟩
            refine hI.callI0 (wl := w_Mdl a g) (a := (((((text, size), (sv, stb)), ((var, tab), szs)), (((prg, cod), words), ((has, fpl), pos))), ((((fault, plc), (tol, tmany)), ((trc, rmany), mark)), (((pil, pmany), mks), ((cts, turns), stop))))) (r := rb_X10_fail (((((text, size), (sv, stb)), ((var, tab), szs)), (((prg, cod), words), ((has, fpl), pos))), ((((fault, plc), (tol, tmany)), ((trc, rmany), mark)), (((pil, pmany), mks), ((cts, turns), stop)))) o50) (As := [.int (-14 : Int32), .int y4]) (rest := []) hw (by rw [ho50]; exact c_X10_fail l g a text size sv stb var tab szs prg cod words has fpl pos fault plc tol tmany trc rmany mark pil pmany mks cts turns stop (-14 : Int32) y4 ) ok_yX10_fail ml_X10_74 (rm_ok (by decide) (by decide)) 0 rfl rfl rfl rfl hl.1 (Nat.le_of_ble_eq_true rfl) dX10_labelE_101 ⟨Nat.zero_le _, Nat.zero_le _⟩ (fun H locs hw => ?_)
            have hw : Wd g A s (w_Mdl a g (((((text, size), (sv, stb)), ((var, tab), szs)), (((prg, cod), words), ((has, fpl), pos))), ((((o50.2.1, o50.2.2), (tol, tmany)), ((trc, rmany), mark)), (((pil, pmany), mks), ((cts, turns), stop))))) H locs := hw
            refine W.eq (g2 := F0 m 104 ls [.int o50.1]) rfl ?_
            have hok := bdP_use ho50 hok
            refine lv_pop hx hb dX10_labelE_104 rfl ?_
            refine lv_iload hx hb dX10_labelE_105 (lv_at hl 6 rfl) ?_
            refine lv_iload hx hb dX10_labelE_107 (lv_at hl 1 rfl) ?_
            refine lv_bipush (v := (20 : Int32)) hx hb dX10_labelE_109 (by decide) ?_
            refine lv_icmp_eq (tgt := 128) hx hb dX10_labelE_111 (by decide) (fun c51 => ?_) (fun c51 => ?_)
            · exact absurd c51 (show ¬ (v5 = (20 : Int32)) by rw [c38]; decide)
            refine lv_iload hx hb dX10_labelE_114 (lv_at hl 1 rfl) ?_
            refine lv_bipush (v := (21 : Int32)) hx hb dX10_labelE_116 (by decide) ?_
            refine lv_icmp_eq (tgt := 128) hx hb dX10_labelE_118 (by decide) (fun c52 => ?_) (fun c52 => ?_)
            · exact absurd c52 (show ¬ (v5 = (21 : Int32)) by rw [c38]; decide)
            refine lv_iload hx hb dX10_labelE_121 (lv_at hl 1 rfl) ?_
            refine lv_bipush (v := (35 : Int32)) hx hb dX10_labelE_123 (by decide) ?_
            refine lv_icmp_ne (tgt := 132) hx hb dX10_labelE_125 (by decide) (fun c53 => ?_) (fun c53 => ?_)
            rotate_left
            · exact absurd c53 (show ¬ (v5 = (35 : Int32)) by rw [c38]; decide)
            refine lv_iconst (v := (1 : Int32)) hx hb dX10_labelE_132 (by decide) ?_
            refine lv_iadd hx hb dX10_labelE_133 ?_
            refine lv_topi (fun v54 hv54 => ?_)
            have hok := bdP_use hv54 hok
            refine lv_istore (lv' := [(4, .int v54), (6, .int (1 : Int32)), (5, .int v5), (0, .ref (a 0)), (1, .int y1), (2, .int y2), (3, .int y3)]) hx hb dX10_labelE_134 hl (by decide) rfl (fun ls hl => ?_)
            refine lv_goto (tgt := 13) hx hb dX10_labelE_136 (by decide) ?_
            exact ih o50.2.1 o50.2.2 y1 y2 y3 v54 hok r (hr.trans (congrArg (rb_X10_labelE (((((text, size), (sv, stb)), ((var, tab), szs)), (((prg, cod), words), ((has, fpl), pos))), ((((fault₀, plc₀), (tol, tmany)), ((trc, rmany), mark)), (((pil, pmany), mks), ((cts, turns), stop))))) ((show f_X10_labelE_13 text sv stb (k + 1) fault plc y1 y2 y3 y4 = f_X10_labelE_13 text sv stb k o50.2.1 o50.2.2 y1 y2 y3 v54 from it_f c3 (bd_of hv5 (it_f c6 (it_t c38 (bd_of ho46 (it_f c48 (bd_of ho50 (bd_of hv54 (rfl)))))))))))) _ _ hw _ (lv_sub hl [3, 4, 5, 6, 0] rfl)
          · have hok := ok_t c48 hok
            refine lv_aload_n hx hb dX10_labelE_57 rfl (lv_at hl 1 rfl) ?_
            refine lv_aload_n hx hb dX10_labelE_58 rfl (lv_at hl 1 rfl) ?_
            refine hI.get (v := .ref (a 1)) hw fg_X10_7 0 rfl rfl dX10_labelE_59 ?_
            refine lv_aload_n hx hb dX10_labelE_62 rfl (lv_at hl 1 rfl) ?_
            refine lv_aload_n hx hb dX10_labelE_63 rfl (lv_at hl 1 rfl) ?_
            refine hI.get (v := .ref (a 1)) hw fg_X10_7 0 rfl rfl dX10_labelE_64 ?_
            refine lv_iload hx hb dX10_labelE_67 (lv_at hl 5 rfl) ?_
            refine lv_iconst (v := (1 : Int32)) hx hb dX10_labelE_69 (by decide) ?_
            refine lv_iadd hx hb dX10_labelE_70 ?_
            have hq56 := hok.1
            have hok := hok.2
            obtain ⟨o55, ho55⟩ : ∃ o, o = f_X10_behind text (y4 + (1 : Int32)) := ⟨_, rfl⟩
            refine hI.callI0 (wl := w_Mdl a g) (a := (((((text, size), (sv, stb)), ((var, tab), szs)), (((prg, cod), words), ((has, fpl), pos))), ((((fault, plc), (tol, tmany)), ((trc, rmany), mark)), (((pil, pmany), mks), ((cts, turns), stop))))) (r := rb_X10_behind (((((text, size), (sv, stb)), ((var, tab), szs)), (((prg, cod), words), ((has, fpl), pos))), ((((fault, plc), (tol, tmany)), ((trc, rmany), mark)), (((pil, pmany), mks), ((cts, turns), stop)))) o55) (As := [.ref (a 1), .int (y4 + (1 : Int32))]) (rest := [.ref (a 1), .ref (a 0)]) hw (by rw [ho55]; exact c_X10_behind l g a text size sv stb var tab szs prg cod words has fpl pos fault plc tol tmany trc rmany mark pil pmany mks cts turns stop (y4 + (1 : Int32)) hq56) ok_yX10_behind ml_X10_107 (rm_ok (by decide) (by decide)) 0 rfl rfl rfl rfl hl.1 (Nat.le_of_ble_eq_true rfl) dX10_labelE_71 ⟨Nat.zero_le _, Nat.zero_le _⟩ (fun H locs hw => ?_)
            have hw : Wd g A s (w_Mdl a g (((((text, size), (sv, stb)), ((var, tab), szs)), (((prg, cod), words), ((has, fpl), pos))), ((((fault, plc), (tol, tmany)), ((trc, rmany), mark)), (((pil, pmany), mks), ((cts, turns), stop))))) H locs := hw
            refine W.eq (g2 := F0 m 74 ls [.int o55, .ref (a 1), .ref (a 0)]) rfl ?_
            have hok := bdP_use ho55 hok
            have hq58 := hok.1
            have hok := hok.2
            obtain ⟨o57, ho57⟩ : ∃ o, o = f_X10_isSecret text sv stb o55 := ⟨_, rfl⟩
            refine hI.callI0 (wl := w_Mdl a g) (a := (((((text, size), (sv, stb)), ((var, tab), szs)), (((prg, cod), words), ((has, fpl), pos))), ((((fault, plc), (tol, tmany)), ((trc, rmany), mark)), (((pil, pmany), mks), ((cts, turns), stop))))) (r := rb_X10_isSecret (((((text, size), (sv, stb)), ((var, tab), szs)), (((prg, cod), words), ((has, fpl), pos))), ((((fault, plc), (tol, tmany)), ((trc, rmany), mark)), (((pil, pmany), mks), ((cts, turns), stop)))) o57) (As := [.ref (a 1), .int o55]) (rest := []) hw (by rw [ho57]; exact c_X10_isSecret l g a text size sv stb var tab szs prg cod words has fpl pos fault plc tol tmany trc rmany mark pil pmany mks cts turns stop o55 hq58) ok_yX10_isSecret ml_X10_111 (rm_ok (by decide) (by decide)) 0 rfl rfl rfl rfl hl.1 (Nat.le_of_ble_eq_true rfl) dX10_labelE_74 ⟨Nat.zero_le _, Nat.zero_le _⟩ (fun H locs hw => ?_)
            have hw : Wd g A s (w_Mdl a g (((((text, size), (sv, stb)), ((var, tab), szs)), (((prg, cod), words), ((has, fpl), pos))), ((((fault, plc), (tol, tmany)), ((trc, rmany), mark)), (((pil, pmany), mks), ((cts, turns), stop))))) H locs := hw
            refine W.eq (g2 := F0 m 77 ls [.int o57]) rfl ?_
            have hok := bdP_use ho57 hok
            refine lv_if_eq (tgt := 84) hx hb dX10_labelE_77 (by decide) (fun c59 => ?_) (fun c59 => ?_)
            · have hok := ok_t c59 hok
              refine lv_iconst (v := (0 : Int32)) hx hb dX10_labelE_84 (by decide) ?_
              refine lv_istore (lv' := [(6, .int (0 : Int32)), (5, .int v5), (0, .ref (a 0)), (1, .int y1), (2, .int y2), (3, .int y3), (4, .int y4)]) hx hb dX10_labelE_85 hl (by decide) rfl (fun ls hl => ?_)
              refine lv_iload hx hb dX10_labelE_87 (lv_at hl 0 rfl) ?_
              refine lv_if_ne (tgt := 96) hx hb dX10_labelE_89 (by decide) (fun c60 => ?_) (fun c60 => ?_)
              · exact absurd (by decide) c60
              refine lv_iload_n hx hb dX10_labelE_92 rfl (lv_at hl 4 rfl) ?_
              refine lv_if_eq (tgt := 105) hx hb dX10_labelE_93 (by decide) (fun c61 => ?_) (fun c61 => ?_)
              · have hok := ok_t c61 hok
                refine lv_iload hx hb dX10_labelE_105 (lv_at hl 6 rfl) ?_
                refine lv_iload hx hb dX10_labelE_107 (lv_at hl 1 rfl) ?_
                refine lv_bipush (v := (20 : Int32)) hx hb dX10_labelE_109 (by decide) ?_
                refine lv_icmp_eq (tgt := 128) hx hb dX10_labelE_111 (by decide) (fun c62 => ?_) (fun c62 => ?_)
                · exact absurd c62 (show ¬ (v5 = (20 : Int32)) by rw [c38]; decide)
                refine lv_iload hx hb dX10_labelE_114 (lv_at hl 1 rfl) ?_
                refine lv_bipush (v := (21 : Int32)) hx hb dX10_labelE_116 (by decide) ?_
                refine lv_icmp_eq (tgt := 128) hx hb dX10_labelE_118 (by decide) (fun c63 => ?_) (fun c63 => ?_)
                · exact absurd c63 (show ¬ (v5 = (21 : Int32)) by rw [c38]; decide)
                refine lv_iload hx hb dX10_labelE_121 (lv_at hl 1 rfl) ?_
                refine lv_bipush (v := (35 : Int32)) hx hb dX10_labelE_123 (by decide) ?_
                refine lv_icmp_ne (tgt := 132) hx hb dX10_labelE_125 (by decide) (fun c64 => ?_) (fun c64 => ?_)
                rotate_left
                · exact absurd c64 (show ¬ (v5 = (35 : Int32)) by rw [c38]; decide)
                refine lv_iconst (v := (1 : Int32)) hx hb dX10_labelE_132 (by decide) ?_
                refine lv_iadd hx hb dX10_labelE_133 ?_
                refine lv_topi (fun v65 hv65 => ?_)
                have hok := bdP_use hv65 hok
                refine lv_istore (lv' := [(4, .int v65), (6, .int (0 : Int32)), (5, .int v5), (0, .ref (a 0)), (1, .int y1), (2, .int y2), (3, .int y3)]) hx hb dX10_labelE_134 hl (by decide) rfl (fun ls hl => ?_)
                refine lv_goto (tgt := 13) hx hb dX10_labelE_136 (by decide) ?_
                exact ih fault plc y1 y2 y3 v65 hok r (hr.trans (congrArg (rb_X10_labelE (((((text, size), (sv, stb)), ((var, tab), szs)), (((prg, cod), words), ((has, fpl), pos))), ((((fault₀, plc₀), (tol, tmany)), ((trc, rmany), mark)), (((pil, pmany), mks), ((cts, turns), stop))))) ((show f_X10_labelE_13 text sv stb (k + 1) fault plc y1 y2 y3 y4 = f_X10_labelE_13 text sv stb k fault plc y1 y2 y3 v65 from it_f c3 (bd_of hv5 (it_f c6 (it_t c38 (bd_of ho46 (it_t c48 (bd_of ho55 (bd_of ho57 (it_t c59 (it_t c61 (bd_of hv65 (rfl))))))))))))))) _ _ hw _ (lv_sub hl [3, 4, 5, 6, 0] rfl)
              · have hok := ok_f c61 hok
                refine lv_aload_n hx hb dX10_labelE_96 rfl (lv_at hl 2 rfl) ?_
                refine lv_bipush (v := (-14 : Int32)) hx hb dX10_labelE_97 (by decide) ?_
                refine lv_iload hx hb dX10_labelE_99 (lv_at hl 6 rfl) ?_
                obtain ⟨o66, ho66⟩ : ∃ o, o = f_X10_fail fault plc (-14 : Int32) y4 := ⟨_, rfl⟩
                refine hI.callI0 (wl := w_Mdl a g) (a := (((((text, size), (sv, stb)), ((var, tab), szs)), (((prg, cod), words), ((has, fpl), pos))), ((((fault, plc), (tol, tmany)), ((trc, rmany), mark)), (((pil, pmany), mks), ((cts, turns), stop))))) (r := rb_X10_fail (((((text, size), (sv, stb)), ((var, tab), szs)), (((prg, cod), words), ((has, fpl), pos))), ((((fault, plc), (tol, tmany)), ((trc, rmany), mark)), (((pil, pmany), mks), ((cts, turns), stop)))) o66) (As := [.int (-14 : Int32), .int y4]) (rest := []) hw (by rw [ho66]; exact c_X10_fail l g a text size sv stb var tab szs prg cod words has fpl pos fault plc tol tmany trc rmany mark pil pmany mks cts turns stop (-14 : Int32) y4 ) ok_yX10_fail ml_X10_74 (rm_ok (by decide) (by decide)) 0 rfl rfl rfl rfl hl.1 (Nat.le_of_ble_eq_true rfl) dX10_labelE_101 ⟨Nat.zero_le _, Nat.zero_le _⟩ (fun H locs hw => ?_)
                have hw : Wd g A s (w_Mdl a g (((((text, size), (sv, stb)), ((var, tab), szs)), (((prg, cod), words), ((has, fpl), pos))), ((((o66.2.1, o66.2.2), (tol, tmany)), ((trc, rmany), mark)), (((pil, pmany), mks), ((cts, turns), stop))))) H locs := hw
                refine W.eq (g2 := F0 m 104 ls [.int o66.1]) rfl ?_
                have hok := bdP_use ho66 hok
                refine lv_pop hx hb dX10_labelE_104 rfl ?_
                refine lv_iload hx hb dX10_labelE_105 (lv_at hl 6 rfl) ?_
                refine lv_iload hx hb dX10_labelE_107 (lv_at hl 1 rfl) ?_
                refine lv_bipush (v := (20 : Int32)) hx hb dX10_labelE_109 (by decide) ?_
                refine lv_icmp_eq (tgt := 128) hx hb dX10_labelE_111 (by decide) (fun c67 => ?_) (fun c67 => ?_)
                · exact absurd c67 (show ¬ (v5 = (20 : Int32)) by rw [c38]; decide)
                refine lv_iload hx hb dX10_labelE_114 (lv_at hl 1 rfl) ?_
                refine lv_bipush (v := (21 : Int32)) hx hb dX10_labelE_116 (by decide) ?_
                refine lv_icmp_eq (tgt := 128) hx hb dX10_labelE_118 (by decide) (fun c68 => ?_) (fun c68 => ?_)
                · exact absurd c68 (show ¬ (v5 = (21 : Int32)) by rw [c38]; decide)
                refine lv_iload hx hb dX10_labelE_121 (lv_at hl 1 rfl) ?_
                refine lv_bipush (v := (35 : Int32)) hx hb dX10_labelE_123 (by decide) ?_
                refine lv_icmp_ne (tgt := 132) hx hb dX10_labelE_125 (by decide) (fun c69 => ?_) (fun c69 => ?_)
                rotate_left
                · exact absurd c69 (show ¬ (v5 = (35 : Int32)) by rw [c38]; decide)
                refine lv_iconst (v := (1 : Int32)) hx hb dX10_labelE_132 (by decide) ?_
                refine lv_iadd hx hb dX10_labelE_133 ?_
                refine lv_topi (fun v70 hv70 => ?_)
                have hok := bdP_use hv70 hok
                refine lv_istore (lv' := [(4, .int v70), (6, .int (0 : Int32)), (5, .int v5), (0, .ref (a 0)), (1, .int y1), (2, .int y2), (3, .int y3)]) hx hb dX10_labelE_134 hl (by decide) rfl (fun ls hl => ?_)
                refine lv_goto (tgt := 13) hx hb dX10_labelE_136 (by decide) ?_
                exact ih o66.2.1 o66.2.2 y1 y2 y3 v70 hok r (hr.trans (congrArg (rb_X10_labelE (((((text, size), (sv, stb)), ((var, tab), szs)), (((prg, cod), words), ((has, fpl), pos))), ((((fault₀, plc₀), (tol, tmany)), ((trc, rmany), mark)), (((pil, pmany), mks), ((cts, turns), stop))))) ((show f_X10_labelE_13 text sv stb (k + 1) fault plc y1 y2 y3 y4 = f_X10_labelE_13 text sv stb k o66.2.1 o66.2.2 y1 y2 y3 v70 from it_f c3 (bd_of hv5 (it_f c6 (it_t c38 (bd_of ho46 (it_t c48 (bd_of ho55 (bd_of ho57 (it_t c59 (it_f c61 (bd_of ho66 (bd_of hv70 (rfl)))))))))))))))) _ _ hw _ (lv_sub hl [3, 4, 5, 6, 0] rfl)
            · have hok := ok_f c59 hok
              refine lv_iconst (v := (1 : Int32)) hx hb dX10_labelE_80 (by decide) ?_
              refine lv_goto (tgt := 85) hx hb dX10_labelE_81 (by decide) ?_
              refine lv_istore (lv' := [(6, .int (1 : Int32)), (5, .int v5), (0, .ref (a 0)), (1, .int y1), (2, .int y2), (3, .int y3), (4, .int y4)]) hx hb dX10_labelE_85 hl (by decide) rfl (fun ls hl => ?_)
              refine lv_iload hx hb dX10_labelE_87 (lv_at hl 0 rfl) ?_
              refine lv_if_ne (tgt := 96) hx hb dX10_labelE_89 (by decide) (fun c71 => ?_) (fun c71 => ?_)
              rotate_left
              · exact absurd c71 (by decide)
              refine lv_aload_n hx hb dX10_labelE_96 rfl (lv_at hl 2 rfl) ?_
              refine lv_bipush (v := (-14 : Int32)) hx hb dX10_labelE_97 (by decide) ?_
              refine lv_iload hx hb dX10_labelE_99 (lv_at hl 6 rfl) ?_
              obtain ⟨o72, ho72⟩ : ∃ o, o = f_X10_fail fault plc (-14 : Int32) y4 := ⟨_, rfl⟩
              refine hI.callI0 (wl := w_Mdl a g) (a := (((((text, size), (sv, stb)), ((var, tab), szs)), (((prg, cod), words), ((has, fpl), pos))), ((((fault, plc), (tol, tmany)), ((trc, rmany), mark)), (((pil, pmany), mks), ((cts, turns), stop))))) (r := rb_X10_fail (((((text, size), (sv, stb)), ((var, tab), szs)), (((prg, cod), words), ((has, fpl), pos))), ((((fault, plc), (tol, tmany)), ((trc, rmany), mark)), (((pil, pmany), mks), ((cts, turns), stop)))) o72) (As := [.int (-14 : Int32), .int y4]) (rest := []) hw (by rw [ho72]; exact c_X10_fail l g a text size sv stb var tab szs prg cod words has fpl pos fault plc tol tmany trc rmany mark pil pmany mks cts turns stop (-14 : Int32) y4 ) ok_yX10_fail ml_X10_74 (rm_ok (by decide) (by decide)) 0 rfl rfl rfl rfl hl.1 (Nat.le_of_ble_eq_true rfl) dX10_labelE_101 ⟨Nat.zero_le _, Nat.zero_le _⟩ (fun H locs hw => ?_)
              have hw : Wd g A s (w_Mdl a g (((((text, size), (sv, stb)), ((var, tab), szs)), (((prg, cod), words), ((has, fpl), pos))), ((((o72.2.1, o72.2.2), (tol, tmany)), ((trc, rmany), mark)), (((pil, pmany), mks), ((cts, turns), stop))))) H locs := hw
              refine W.eq (g2 := F0 m 104 ls [.int o72.1]) rfl ?_
              have hok := bdP_use ho72 hok
              refine lv_pop hx hb dX10_labelE_104 rfl ?_
              refine lv_iload hx hb dX10_labelE_105 (lv_at hl 6 rfl) ?_
              refine lv_iload hx hb dX10_labelE_107 (lv_at hl 1 rfl) ?_
              refine lv_bipush (v := (20 : Int32)) hx hb dX10_labelE_109 (by decide) ?_
              refine lv_icmp_eq (tgt := 128) hx hb dX10_labelE_111 (by decide) (fun c73 => ?_) (fun c73 => ?_)
              · exact absurd c73 (show ¬ (v5 = (20 : Int32)) by rw [c38]; decide)
              refine lv_iload hx hb dX10_labelE_114 (lv_at hl 1 rfl) ?_
              refine lv_bipush (v := (21 : Int32)) hx hb dX10_labelE_116 (by decide) ?_
              refine lv_icmp_eq (tgt := 128) hx hb dX10_labelE_118 (by decide) (fun c74 => ?_) (fun c74 => ?_)
              · exact absurd c74 (show ¬ (v5 = (21 : Int32)) by rw [c38]; decide)
              refine lv_iload hx hb dX10_labelE_121 (lv_at hl 1 rfl) ?_
              refine lv_bipush (v := (35 : Int32)) hx hb dX10_labelE_123 (by decide) ?_
              refine lv_icmp_ne (tgt := 132) hx hb dX10_labelE_125 (by decide) (fun c75 => ?_) (fun c75 => ?_)
              rotate_left
              · exact absurd c75 (show ¬ (v5 = (35 : Int32)) by rw [c38]; decide)
              refine lv_iconst (v := (1 : Int32)) hx hb dX10_labelE_132 (by decide) ?_
              refine lv_iadd hx hb dX10_labelE_133 ?_
              refine lv_topi (fun v76 hv76 => ?_)
              have hok := bdP_use hv76 hok
              refine lv_istore (lv' := [(4, .int v76), (6, .int (1 : Int32)), (5, .int v5), (0, .ref (a 0)), (1, .int y1), (2, .int y2), (3, .int y3)]) hx hb dX10_labelE_134 hl (by decide) rfl (fun ls hl => ?_)
              refine lv_goto (tgt := 13) hx hb dX10_labelE_136 (by decide) ?_
              exact ih o72.2.1 o72.2.2 y1 y2 y3 v76 hok r (hr.trans (congrArg (rb_X10_labelE (((((text, size), (sv, stb)), ((var, tab), szs)), (((prg, cod), words), ((has, fpl), pos))), ((((fault₀, plc₀), (tol, tmany)), ((trc, rmany), mark)), (((pil, pmany), mks), ((cts, turns), stop))))) ((show f_X10_labelE_13 text sv stb (k + 1) fault plc y1 y2 y3 y4 = f_X10_labelE_13 text sv stb k o72.2.1 o72.2.2 y1 y2 y3 v76 from it_f c3 (bd_of hv5 (it_f c6 (it_t c38 (bd_of ho46 (it_t c48 (bd_of ho55 (bd_of ho57 (it_f c59 (bd_of ho72 (bd_of hv76 (rfl))))))))))))))) _ _ hw _ (lv_sub hl [3, 4, 5, 6, 0] rfl)
set_option maxHeartbeats 4000000 in
set_option maxRecDepth 100000 in
theorem c_X10_labelE (l : Launch) (g : GG) (a : Nat → Nat) (text : Nat → Int32) (size : Int32) (sv : Nat → Int32) (stb : Nat → Int32) (var : Nat → Int32) (tab : Nat → Int32) (szs : Nat → Int32) (prg : Nat → Int32) (cod : Nat → Int32) (words : Int32) (has : Int32) (fpl : Int32) (pos : Int32) (fault : Int32) (plc : Int32) (tol : Nat → Int32) (tmany : Int32) (trc : Nat → Int32) (rmany : Int32) (mark : Int64) (pil : Nat → Int32) (pmany : Int32) (mks : Nat → Int32) (cts : Nat → Int32) (turns : Int32) (stop : Int32) (x1 : Int32) (x2 : Int32) (hok : ok_X10_labelE text sv stb fault plc x1 x2) : CV l g yX10_labelE cX10_labelE 7 none (rmN 3) (w_Mdl a g) [.ref (a 0), .int x1, .int x2] (((((text, size), (sv, stb)), ((var, tab), szs)), (((prg, cod), words), ((has, fpl), pos))), ((((fault, plc), (tol, tmany)), ((trc, rmany), mark)), (((pil, pmany), mks), ((cts, turns), stop)))) (rb_X10_labelE (((((text, size), (sv, stb)), ((var, tab), szs)), (((prg, cod), words), ((has, fpl), pos))), ((((fault, plc), (tol, tmany)), ((trc, rmany), mark)), (((pil, pmany), mks), ((cts, turns), stop)))) (f_X10_labelE text sv stb fault plc x1 x2)) := by
  refine CV.mk (by decide) (Nat.le_of_ble_eq_true rfl) ?_
  intro p e s m below meth c A ls hI hw hl
  have hx := hI.1
  have hb := hI.2.1
  obtain ⟨r, hr⟩ : ∃ r, r = rb_X10_labelE (((((text, size), (sv, stb)), ((var, tab), szs)), (((prg, cod), words), ((has, fpl), pos))), ((((fault, plc), (tol, tmany)), ((trc, rmany), mark)), (((pil, pmany), mks), ((cts, turns), stop)))) (f_X10_labelE text sv stb fault plc x1 x2) := ⟨_, rfl⟩
  rw [← hr]
  have hl : lv_has ls 7 [(0, .ref (a 0)), (1, .int x1), (2, .int x2)] := hl
  refine lv_aload_n hx hb dX10_labelE_0 rfl (lv_at hl 0 rfl) ?_
  refine lv_aload_n hx hb dX10_labelE_1 rfl (lv_at hl 0 rfl) ?_
  refine hI.get (v := .ref (a 1)) hw fg_X10_7 0 rfl rfl dX10_labelE_2 ?_
  refine lv_iload_n hx hb dX10_labelE_5 rfl (lv_at hl 1 rfl) ?_
  have hq2 := hok.1
  have hok := hok.2
  obtain ⟨o1, ho1⟩ : ∃ o, o = f_X10_behind text x1 := ⟨_, rfl⟩
  refine hI.callI0 (wl := w_Mdl a g) (a := (((((text, size), (sv, stb)), ((var, tab), szs)), (((prg, cod), words), ((has, fpl), pos))), ((((fault, plc), (tol, tmany)), ((trc, rmany), mark)), (((pil, pmany), mks), ((cts, turns), stop))))) (r := rb_X10_behind (((((text, size), (sv, stb)), ((var, tab), szs)), (((prg, cod), words), ((has, fpl), pos))), ((((fault, plc), (tol, tmany)), ((trc, rmany), mark)), (((pil, pmany), mks), ((cts, turns), stop)))) o1) (As := [.ref (a 1), .int x1]) (rest := []) hw (by rw [ho1]; exact c_X10_behind l g a text size sv stb var tab szs prg cod words has fpl pos fault plc tol tmany trc rmany mark pil pmany mks cts turns stop x1 hq2) ok_yX10_behind ml_X10_107 (rm_ok (by decide) (by decide)) 0 rfl rfl rfl rfl hl.1 (Nat.le_of_ble_eq_true rfl) dX10_labelE_6 ⟨Nat.zero_le _, Nat.zero_le _⟩ (fun H locs hw => ?_)
  have hw : Wd g A s (w_Mdl a g (((((text, size), (sv, stb)), ((var, tab), szs)), (((prg, cod), words), ((has, fpl), pos))), ((((fault, plc), (tol, tmany)), ((trc, rmany), mark)), (((pil, pmany), mks), ((cts, turns), stop))))) H locs := hw
  refine W.eq (g2 := F0 m 9 ls [.int o1]) rfl ?_
  have hok := bdP_use ho1 hok
  refine lv_istore_n (lv' := [(3, .int o1), (0, .ref (a 0)), (1, .int x1), (2, .int x2)]) hx hb dX10_labelE_9 rfl hl (by decide) rfl (fun ls hl => ?_)
  refine lv_iload_n hx hb dX10_labelE_10 rfl (lv_at hl 2 rfl) ?_
  refine lv_istore (lv' := [(4, .int x1), (3, .int o1), (0, .ref (a 0)), (1, .int x1), (2, .int x2)]) hx hb dX10_labelE_11 hl (by decide) rfl (fun ls hl => ?_)
  exact lp_X10_labelE_13 l g a text size sv stb var tab szs prg cod words has fpl pos fault plc tol tmany trc rmany mark pil pmany mks cts turns stop hI 402 fault plc x1 x2 o1 x1 hok r (hr.trans (congrArg (rb_X10_labelE (((((text, size), (sv, stb)), ((var, tab), szs)), (((prg, cod), words), ((has, fpl), pos))), ((((fault, plc), (tol, tmany)), ((trc, rmany), mark)), (((pil, pmany), mks), ((cts, turns), stop))))) ((show f_X10_labelE text sv stb fault plc x1 x2 = f_X10_labelE_13 text sv stb 402 fault plc x1 x2 o1 x1 from bd_of ho1 (rfl))))) _ _ hw _ (lv_sub hl [2, 3, 4, 1, 0] rfl)
