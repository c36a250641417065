def f_X10_step (var : Nat → Int32) (tab : Nat → Int32) (szs : Nat → Int32) (cod : Nat → Int32) (tol : Nat → Int32) (tmany : Int32) (trc : Nat → Int32) (rmany : Int32) (mark : Int64) (pil : Nat → Int32) (pmany : Int32) (mks : Nat → Int32) (cts : Nat → Int32) (stop : Int32) (x1 : Int32) (x2 : Int32) : Int32 × (((((Nat → Int32) × (Nat → Int32)) × (Nat → Int32)) × ((Int32 × (Nat → Int32)) × Int32)) × (((Int64 × (Nat → Int32)) × Int32) × (((Nat → Int32) × (Nat → Int32)) × Int32))) := bd (cod (x2 + (1 : Int32)).toNatClampNeg) (fun v2 => if x1 = (1 : Int32) then bd (f_X10_push pil pmany v2) (fun o5 => (x2 + (2 : Int32), ((((var, tab), tol), ((tmany, trc), rmany)), (((mark, o5.1), o5.2), ((mks, cts), stop))))) else if x1 = (2 : Int32) then bd (f_X10_push pil pmany (var v2.toNatClampNeg)) (fun o11 => (x2 + (2 : Int32), ((((var, tab), tol), ((tmany, trc), rmany)), (((mark, o11.1), o11.2), ((mks, cts), stop))))) else if x1 = (30 : Int32) then bd (f_X10_push pil pmany (cts v2.toNatClampNeg)) (fun o116 => (x2 + (2 : Int32), ((((var, tab), tol), ((tmany, trc), rmany)), (((mark, o116.1), o116.2), ((mks, cts), stop))))) else if x1 = (3 : Int32) then bd (f_X10_pop pil pmany) (fun o110 => (x2 + (2 : Int32), ((((upd var v2.toNatClampNeg o110.1, tab), tol), ((tmany, trc), rmany)), (((mark, pil), o110.2), ((mks, cts), stop))))) else if (17 : Int32) ≤ x1 then if x1 = (17 : Int32) then bd (f_X10_pop pil pmany) (fun o17 => bd (f_X10_pop pil o17.2) (fun o19 => bd (f_X10_pop pil o19.2) (fun o21 => if o21.1 = 0 then bd (f_X10_push pil o21.2 o17.1) (fun o24 => (x2 + (1 : Int32), ((((var, tab), tol), ((tmany, trc), rmany)), (((mark, o24.1), o24.2), ((mks, cts), stop))))) else bd (f_X10_push pil o21.2 o19.1) (fun o26 => (x2 + (1 : Int32), ((((var, tab), tol), ((tmany, trc), rmany)), (((mark, o26.1), o26.2), ((mks, cts), stop)))))))) else if x1 = (18 : Int32) then (v2, ((((var, tab), tol), ((tmany, trc), rmany)), (((mark, pil), pmany), ((mks, cts), stop)))) else if x1 = (19 : Int32) then bd (f_X10_pop pil pmany) (fun o30 => if o30.1 = 0 then (v2, ((((var, tab), tol), ((tmany, trc), rmany)), (((mark, pil), o30.2), ((mks, cts), stop)))) else (x2 + (2 : Int32), ((((var, tab), tol), ((tmany, trc), rmany)), (((mark, pil), o30.2), ((mks, cts), stop))))) else if x1 = (20 : Int32) then bd (f_X10_pop pil pmany) (fun o34 => bd (f_X10_tell tol tmany o34.1) (fun o36 => (x2 + (1 : Int32), ((((var, tab), o36.1), ((o36.2, trc), rmany)), (((mark, pil), o34.2), ((mks, cts), stop)))))) else if x1 = (21 : Int32) then bd (f_X10_pop pil pmany) (fun o39 => bd (f_X10_placeOf szs v2 o39.1) (fun o41 => bd (f_X10_see trc rmany mark (((4096 : Int32) + ((16 : Int32) * v2)) + o41)) (fun o44 => bd (f_X10_push pil o39.2 (tab (((16 : Int32) * v2) + o41).toNatClampNeg)) (fun o47 => (x2 + (2 : Int32), ((((var, tab), tol), ((tmany, o44.1.1), o44.1.2)), (((o44.2, o47.1), o47.2), ((mks, cts), stop)))))))) else if x1 = (22 : Int32) then bd (f_X10_store tab szs trc rmany mark pil pmany (-1 : Int32) v2 (0 : Int32)) (fun o50 => (x2 + (2 : Int32), ((((var, o50.1.1.1), tol), ((tmany, o50.1.1.2), o50.1.2)), (((o50.2.1, pil), o50.2.2), ((mks, cts), stop))))) else if x1 = (23 : Int32) then bd (f_X10_pop pil pmany) (fun o53 => if o53.1 = 0 then (x2 + (2 : Int32), ((((var, tab), tol), ((tmany, trc), rmany)), (((mark, pil), o53.2), ((upd mks v2.toNatClampNeg (0 : Int32), cts), stop)))) else (x2 + (2 : Int32), ((((var, tab), tol), ((tmany, trc), rmany)), (((mark, pil), o53.2), ((upd mks v2.toNatClampNeg (mks (v2 - (1 : Int32)).toNatClampNeg), cts), stop))))) else if x1 = (24 : Int32) then (x2 + (2 : Int32), ((((var, tab), tol), ((tmany, trc), rmany)), (((mark, pil), pmany), ((upd mks v2.toNatClampNeg ((mks (v2 - (1 : Int32)).toNatClampNeg) &&& ((mks v2.toNatClampNeg) ^^^ (-1 : Int32))), cts), stop)))) else if x1 = (25 : Int32) then bd (cod (x2 + (2 : Int32)).toNatClampNeg) (fun v65 => bd (f_X10_pop pil pmany) (fun o68 => (x2 + (3 : Int32), ((((upd var v65.toNatClampNeg (((var v65.toNatClampNeg) &&& ((mks v2.toNatClampNeg) ^^^ (-1 : Int32))) ||| (o68.1 &&& (mks v2.toNatClampNeg))), tab), tol), ((tmany, trc), rmany)), (((mark, pil), o68.2), ((mks, cts), stop)))))) else if x1 = (26 : Int32) then bd (f_X10_store tab szs trc rmany mark pil pmany (mks v2.toNatClampNeg) (cod (x2 + (2 : Int32)).toNatClampNeg) (0 : Int32)) (fun o75 => (x2 + (3 : Int32), ((((var, o75.1.1.1), tol), ((tmany, o75.1.1.2), o75.1.2)), (((o75.2.1, pil), o75.2.2), ((mks, cts), stop))))) else if x1 = (27 : Int32) then bd (f_X10_pop pil pmany) (fun o78 => bd (f_X10_placeOf szs v2 o78.1) (fun o80 => bd (f_X10_seeAll szs trc rmany mark v2) (fun o83 => bd (f_X10_push pil o78.2 (tab (((16 : Int32) * v2) + o80).toNatClampNeg)) (fun o86 => (x2 + (2 : Int32), ((((var, tab), tol), ((tmany, o83.1.1), o83.1.2)), (((o83.2, o86.1), o86.2), ((mks, cts), stop)))))))) else if x1 = (28 : Int32) then bd (f_X10_store tab szs trc rmany mark pil pmany (mks v2.toNatClampNeg) (cod (x2 + (2 : Int32)).toNatClampNeg) (1 : Int32)) (fun o91 => (x2 + (3 : Int32), ((((var, o91.1.1.1), tol), ((tmany, o91.1.1.2), o91.1.2)), (((o91.2.1, pil), o91.2.2), ((mks, cts), stop))))) else if x1 = (29 : Int32) then (x2 + (2 : Int32), ((((var, tab), tol), ((tmany, trc), rmany)), (((mark, pil), pmany), ((mks, upd cts v2.toNatClampNeg (0 : Int32)), stop)))) else (x2 + (2 : Int32), ((((var, tab), tol), ((tmany, trc), rmany)), (((mark, pil), pmany), ((mks, upd cts v2.toNatClampNeg ((cts v2.toNatClampNeg) + (1 : Int32))), stop)))) else if x1 = (14 : Int32) then bd (f_X10_pop pil pmany) (fun o105 => bd (f_X10_make stop (x1 + (18 : Int32)) o105.1 (0 : Int32)) (fun o107 => bd (f_X10_push pil o105.2 o107.1) (fun o108 => (x2 + (1 : Int32), ((((var, tab), tol), ((tmany, trc), rmany)), (((mark, o108.1), o108.2), ((mks, cts), o107.2))))))) else bd (f_X10_pop pil pmany) (fun o98 => bd (f_X10_pop pil o98.2) (fun o100 => bd (f_X10_make stop (x1 + (18 : Int32)) o100.1 o98.1) (fun o102 => bd (f_X10_push pil o100.2 o102.1) (fun o103 => (x2 + (1 : Int32), ((((var, tab), tol), ((tmany, trc), rmany)), (((mark, o103.1), o103.2), ((mks, cts), o102.2)))))))))
def ok_X10_step (var : Nat → Int32) (tab : Nat → Int32) (szs : Nat → Int32) (cod : Nat → Int32) (tol : Nat → Int32) (tmany : Int32) (trc : Nat → Int32) (rmany : Int32) (mark : Int64) (pil : Nat → Int32) (pmany : Int32) (mks : Nat → Int32) (cts : Nat → Int32) (stop : Int32) (x1 : Int32) (x2 : Int32) : Prop := vp_in (x2 + (1 : Int32)) 4000 ∧ (bdP (cod (x2 + (1 : Int32)).toNatClampNeg) (fun v2 => if x1 = (1 : Int32) then vp_in pmany 200 ∧ (bdP (f_X10_push pil pmany v2) (fun o5 => True)) else if x1 = (2 : Int32) then vp_in v2 10 ∧ (vp_in pmany 200 ∧ (bdP (f_X10_push pil pmany (var v2.toNatClampNeg)) (fun o11 => True))) else if x1 = (30 : Int32) then vp_in v2 14 ∧ (vp_in pmany 200 ∧ (bdP (f_X10_push pil pmany (cts v2.toNatClampNeg)) (fun o116 => True))) else if x1 = (3 : Int32) then vp_in (pmany - 1) 200 ∧ (bdP (f_X10_pop pil pmany) (fun o110 => vp_in v2 10 ∧ True)) else if (17 : Int32) ≤ x1 then if x1 = (17 : Int32) then vp_in (pmany - 1) 200 ∧ (bdP (f_X10_pop pil pmany) (fun o17 => vp_in (o17.2 - 1) 200 ∧ (bdP (f_X10_pop pil o17.2) (fun o19 => vp_in (o19.2 - 1) 200 ∧ (bdP (f_X10_pop pil o19.2) (fun o21 => if o21.1 = 0 then vp_in o21.2 200 ∧ (bdP (f_X10_push pil o21.2 o17.1) (fun o24 => True)) else vp_in o21.2 200 ∧ (bdP (f_X10_push pil o21.2 o19.1) (fun o26 => True)))))))) else if x1 = (18 : Int32) then True else if x1 = (19 : Int32) then vp_in (pmany - 1) 200 ∧ (bdP (f_X10_pop pil pmany) (fun o30 => if o30.1 = 0 then True else True)) else if x1 = (20 : Int32) then vp_in (pmany - 1) 200 ∧ (bdP (f_X10_pop pil pmany) (fun o34 => UpTo 1000000 tmany ∧ (bdP (f_X10_tell tol tmany o34.1) (fun o36 => True)))) else if x1 = (21 : Int32) then vp_in (pmany - 1) 200 ∧ (bdP (f_X10_pop pil pmany) (fun o39 => SZ szs ∧ (vp_in v2 4 ∧ (bdP (f_X10_placeOf szs v2 o39.1) (fun o41 => UpTo 1000000 rmany ∧ (bdP (f_X10_see trc rmany mark (((4096 : Int32) + ((16 : Int32) * v2)) + o41)) (fun o44 => vp_in (((16 : Int32) * v2) + o41) 64 ∧ (vp_in o39.2 200 ∧ (bdP (f_X10_push pil o39.2 (tab (((16 : Int32) * v2) + o41).toNatClampNeg)) (fun o47 => True)))))))))) else if x1 = (22 : Int32) then ok_X10_store tab szs trc rmany mark pil pmany (-1 : Int32) v2 (0 : Int32) ∧ (bdP (f_X10_store tab szs trc rmany mark pil pmany (-1 : Int32) v2 (0 : Int32)) (fun o50 => True)) else if x1 = (23 : Int32) then vp_in (pmany - 1) 200 ∧ (bdP (f_X10_pop pil pmany) (fun o53 => if o53.1 = 0 then vp_in v2 14 ∧ True else vp_in (v2 - (1 : Int32)) 14 ∧ (vp_in v2 14 ∧ True))) else if x1 = (24 : Int32) then vp_in (v2 - (1 : Int32)) 14 ∧ (vp_in v2 14 ∧ (vp_in v2 14 ∧ True)) else if x1 = (25 : Int32) then vp_in (x2 + (2 : Int32)) 4000 ∧ (bdP (cod (x2 + (2 : Int32)).toNatClampNeg) (fun v65 => vp_in v65 10 ∧ (vp_in v2 14 ∧ (vp_in (pmany - 1) 200 ∧ (bdP (f_X10_pop pil pmany) (fun o68 => vp_in v2 14 ∧ (vp_in v65 10 ∧ True))))))) else if x1 = (26 : Int32) then vp_in v2 14 ∧ (vp_in (x2 + (2 : Int32)) 4000 ∧ (ok_X10_store tab szs trc rmany mark pil pmany (mks v2.toNatClampNeg) (cod (x2 + (2 : Int32)).toNatClampNeg) (0 : Int32) ∧ (bdP (f_X10_store tab szs trc rmany mark pil pmany (mks v2.toNatClampNeg) (cod (x2 + (2 : Int32)).toNatClampNeg) (0 : Int32)) (fun o75 => True)))) else if x1 = (27 : Int32) then vp_in (pmany - 1) 200 ∧ (bdP (f_X10_pop pil pmany) (fun o78 => SZ szs ∧ (vp_in v2 4 ∧ (bdP (f_X10_placeOf szs v2 o78.1) (fun o80 => ok_X10_seeAll szs trc rmany mark v2 ∧ (bdP (f_X10_seeAll szs trc rmany mark v2) (fun o83 => vp_in (((16 : Int32) * v2) + o80) 64 ∧ (vp_in o78.2 200 ∧ (bdP (f_X10_push pil o78.2 (tab (((16 : Int32) * v2) + o80).toNatClampNeg)) (fun o86 => True)))))))))) else if x1 = (28 : Int32) then vp_in v2 14 ∧ (vp_in (x2 + (2 : Int32)) 4000 ∧ (ok_X10_store tab szs trc rmany mark pil pmany (mks v2.toNatClampNeg) (cod (x2 + (2 : Int32)).toNatClampNeg) (1 : Int32) ∧ (bdP (f_X10_store tab szs trc rmany mark pil pmany (mks v2.toNatClampNeg) (cod (x2 + (2 : Int32)).toNatClampNeg) (1 : Int32)) (fun o91 => True)))) else if x1 = (29 : Int32) then vp_in v2 14 ∧ True else vp_in v2 14 ∧ (vp_in v2 14 ∧ True) else if x1 = (14 : Int32) then vp_in (pmany - 1) 200 ∧ (bdP (f_X10_pop pil pmany) (fun o105 => bdP (f_X10_make stop (x1 + (18 : Int32)) o105.1 (0 : Int32)) (fun o107 => vp_in o105.2 200 ∧ (bdP (f_X10_push pil o105.2 o107.1) (fun o108 => True))))) else vp_in (pmany - 1) 200 ∧ (bdP (f_X10_pop pil pmany) (fun o98 => vp_in (o98.2 - 1) 200 ∧ (bdP (f_X10_pop pil o98.2) (fun o100 => bdP (f_X10_make stop (x1 + (18 : Int32)) o100.1 o98.1) (fun o102 => vp_in o100.2 200 ∧ (bdP (f_X10_push pil o100.2 o102.1) (fun o103 => True)))))))))
def rb_X10_step (σ : S_Mdl) (o : Int32 × (((((Nat → Int32) × (Nat → Int32)) × (Nat → Int32)) × ((Int32 × (Nat → Int32)) × Int32)) × (((Int64 × (Nat → Int32)) × Int32) × (((Nat → Int32) × (Nat → Int32)) × Int32)))) : Int32 × S_Mdl := (o.1, (((((σ.1.1.1.1.1, σ.1.1.1.1.2), (σ.1.1.1.2.1, σ.1.1.1.2.2)), ((o.2.1.1.1.1, o.2.1.1.1.2), σ.1.1.2.2)), (((σ.1.2.1.1.1, σ.1.2.1.1.2), σ.1.2.1.2), ((σ.1.2.2.1.1, σ.1.2.2.1.2), σ.1.2.2.2))), ((((σ.2.1.1.1.1, σ.2.1.1.1.2), (o.2.1.1.2, o.2.1.2.1.1)), ((o.2.1.2.1.2, o.2.1.2.2), o.2.2.1.1.1)), (((o.2.2.1.1.2, o.2.2.1.2), o.2.2.2.1.1), ((o.2.2.2.1.2, σ.2.2.2.1.2), o.2.2.2.2)))))
set_option maxHeartbeats 4000000 in
set_option maxRecDepth 100000 in
theorem c_X10_step (l : Launch) (g : GG) (a : Nat → Nat) (text : Nat → Int32) (size : Int32) (sv : Nat → Int32) (stb : Nat → Int32) (var : Nat → Int32) (tab : Nat → Int32) (szs : Nat → Int32) (prg : Nat → Int32) (cod : Nat → Int32) (words : Int32) (has : Int32) (fpl : Int32) (pos : Int32) (fault : Int32) (plc : Int32) (tol : Nat → Int32) (tmany : Int32) (trc : Nat → Int32) (rmany : Int32) (mark : Int64) (pil : Nat → Int32) (pmany : Int32) (mks : Nat → Int32) (cts : Nat → Int32) (turns : Int32) (stop : Int32) (x1 : Int32) (x2 : Int32) (hok : ok_X10_step var tab szs cod tol tmany trc rmany mark pil pmany mks cts stop x1 x2) : CI l g yX10_step cX10_step 7 (some .int) (rmN 3) (w_Mdl a g) [.ref (a 0), .int x1, .int x2] (((((text, size), (sv, stb)), ((var, tab), szs)), (((prg, cod), words), ((has, fpl), pos))), ((((fault, plc), (tol, tmany)), ((trc, rmany), mark)), (((pil, pmany), mks), ((cts, turns), stop)))) (rb_X10_step (((((text, size), (sv, stb)), ((var, tab), szs)), (((prg, cod), words), ((has, fpl), pos))), ((((fault, plc), (tol, tmany)), ((trc, rmany), mark)), (((pil, pmany), mks), ((cts, turns), stop)))) (f_X10_step var tab szs cod tol tmany trc rmany mark pil pmany mks cts stop x1 x2)) := by
  refine CI.mk (by decide) (Nat.le_of_ble_eq_true rfl) ?_
  intro p e s m below meth c A ls hI hw hl
  have hx := hI.1
  have hb := hI.2.1
  obtain ⟨r, hr⟩ : ∃ r, r = rb_X10_step (((((text, size), (sv, stb)), ((var, tab), szs)), (((prg, cod), words), ((has, fpl), pos))), ((((fault, plc), (tol, tmany)), ((trc, rmany), mark)), (((pil, pmany), mks), ((cts, turns), stop)))) (f_X10_step var tab szs cod tol tmany trc rmany mark pil pmany mks cts stop x1 x2) := ⟨_, rfl⟩
  rw [← hr]
  have hl : lv_has ls 7 [(0, .ref (a 0)), (1, .int x1), (2, .int x2)] := hl
  refine lv_aload_n hx hb dX10_step_0 rfl (lv_at hl 0 rfl) ?_
  refine hI.get (v := .ref (a 8)) hw fg_X10_32 0 rfl rfl dX10_step_1 ?_
  refine lv_iload_n hx hb dX10_step_4 rfl (lv_at hl 2 rfl) ?_
  refine lv_iconst (v := (1 : Int32)) hx hb dX10_step_5 (by decide) ?_
  refine lv_iadd hx hb dX10_step_6 ?_
  have hq1 := hok.1
  have hok := hok.2
  refine hI.iald hw 8 rfl hq1 dX10_step_7 ?_
  refine lv_topi (fun v2 hv2 => ?_)
  have hok := bdP_use hv2 hok
  refine lv_istore_n (lv' := [(3, .int v2), (0, .ref (a 0)), (1, .int x1), (2, .int x2)]) hx hb dX10_step_8 rfl hl (by decide) rfl (fun ls hl => ?_)
  refine lv_iload_n hx hb dX10_step_9 rfl (lv_at hl 2 rfl) ?_
  refine lv_iconst (v := (1 : Int32)) hx hb dX10_step_10 (by decide) ?_
  refine lv_icmp_eq (tgt := 25) hx hb dX10_step_11 (by decide) (fun c3 => ?_) (fun c3 => ?_)
  · have hok := ok_t c3 hok
    refine lv_aload_n hx hb dX10_step_25 rfl (lv_at hl 1 rfl) ?_
    refine lv_iload_n hx hb dX10_step_26 rfl (lv_at hl 2 rfl) ?_
    refine lv_iconst (v := (1 : Int32)) hx hb dX10_step_27 (by decide) ?_
    refine lv_icmp_ne (tgt := 35) hx hb dX10_step_28 (by decide) (fun c4 => ?_) (fun c4 => ?_)
    · exact absurd c3 c4
    refine lv_iload_n hx hb dX10_step_31 rfl (lv_at hl 0 rfl) ?_
    refine lv_goto (tgt := 55) hx hb dX10_step_32 (by decide) ?_
    obtain ⟨o5, ho5⟩ : ∃ o, o = f_X10_push pil pmany v2 := ⟨_, rfl⟩
    have hq6 := hok.1
    have hok := hok.2
    refine hI.callV0 (wl := w_Mdl a g) (a := (((((text, size), (sv, stb)), ((var, tab), szs)), (((prg, cod), words), ((has, fpl), pos))), ((((fault, plc), (tol, tmany)), ((trc, rmany), mark)), (((pil, pmany), mks), ((cts, turns), stop))))) (r := rb_X10_push (((((text, size), (sv, stb)), ((var, tab), szs)), (((prg, cod), words), ((has, fpl), pos))), ((((fault, plc), (tol, tmany)), ((trc, rmany), mark)), (((pil, pmany), mks), ((cts, turns), stop)))) o5) (As := [.int v2]) (rest := []) hw (by rw [ho5]; exact c_X10_push l g a text size sv stb var tab szs prg cod words has fpl pos fault plc tol tmany trc rmany mark pil pmany mks cts turns stop v2 hq6) ok_yX10_push ml_X10_171 (rm_ok (by decide) (by decide)) 0 rfl rfl rfl rfl hl.1 (Nat.le_of_ble_eq_true rfl) dX10_step_55 ⟨Nat.zero_le _, Nat.zero_le _⟩ (fun H locs hw => ?_)
    have hw : Wd g A s (w_Mdl a g (((((text, size), (sv, stb)), ((var, tab), szs)), (((prg, cod), words), ((has, fpl), pos))), ((((fault, plc), (tol, tmany)), ((trc, rmany), mark)), (((o5.1, o5.2), mks), ((cts, turns), stop))))) H locs := hw
    refine W.eq (g2 := F0 m 58 ls []) rfl ?_
    have hok := bdP_use ho5 hok
    refine lv_iload_n hx hb dX10_step_58 rfl (lv_at hl 3 rfl) ?_
    refine lv_iconst (v := (2 : Int32)) hx hb dX10_step_59 (by decide) ?_
    refine lv_iadd hx hb dX10_step_60 ?_
    exact hI.retI (u := (((((text, size), (sv, stb)), ((var, tab), szs)), (((prg, cod), words), ((has, fpl), pos))), ((((fault, plc), (tol, tmany)), ((trc, rmany), mark)), (((o5.1, o5.2), mks), ((cts, turns), stop))))) hw (hr.trans (congrArg (rb_X10_step (((((text, size), (sv, stb)), ((var, tab), szs)), (((prg, cod), words), ((has, fpl), pos))), ((((fault, plc), (tol, tmany)), ((trc, rmany), mark)), (((pil, pmany), mks), ((cts, turns), stop))))) ((show f_X10_step var tab szs cod tol tmany trc rmany mark pil pmany mks cts stop x1 x2 = (x2 + (2 : Int32), ((((var, tab), tol), ((tmany, trc), rmany)), (((mark, o5.1), o5.2), ((mks, cts), stop)))) from bd_of hv2 (it_t c3 (bd_of ho5 (rfl))))))) dX10_step_61
  · have hok := ok_f c3 hok
    refine lv_iload_n hx hb dX10_step_14 rfl (lv_at hl 2 rfl) ?_
    refine lv_iconst (v := (2 : Int32)) hx hb dX10_step_15 (by decide) ?_
    refine lv_icmp_eq (tgt := 25) hx hb dX10_step_16 (by decide) (fun c7 => ?_) (fun c7 => ?_)
    · have hok := ok_t c7 hok
      refine lv_aload_n hx hb dX10_step_25 rfl (lv_at hl 1 rfl) ?_
      refine lv_iload_n hx hb dX10_step_26 rfl (lv_at hl 2 rfl) ?_
      refine lv_iconst (v := (1 : Int32)) hx hb dX10_step_27 (by decide) ?_
      refine lv_icmp_ne (tgt := 35) hx hb dX10_step_28 (by decide) (fun c8 => ?_) (fun c8 => ?_)
      rotate_left
      · exact absurd c8 c3
      refine lv_iload_n hx hb dX10_step_35 rfl (lv_at hl 2 rfl) ?_
      refine lv_iconst (v := (2 : Int32)) hx hb dX10_step_36 (by decide) ?_
      refine lv_icmp_ne (tgt := 49) hx hb dX10_step_37 (by decide) (fun c9 => ?_) (fun c9 => ?_)
      · exact absurd c7 c9
      refine lv_aload_n hx hb dX10_step_40 rfl (lv_at hl 1 rfl) ?_
      refine hI.get (v := .ref (a 4)) hw fg_X10_20 0 rfl rfl dX10_step_41 ?_
      refine lv_iload_n hx hb dX10_step_44 rfl (lv_at hl 0 rfl) ?_
      have hq10 := hok.1
      have hok := hok.2
      refine hI.iald hw 4 rfl hq10 dX10_step_45 ?_
      refine lv_goto (tgt := 55) hx hb dX10_step_46 (by decide) ?_
      obtain ⟨o11, ho11⟩ : ∃ o, o = f_X10_push pil pmany (var v2.toNatClampNeg) := ⟨_, rfl⟩
      have hq12 := hok.1
      have hok := hok.2
      refine hI.callV0 (wl := w_Mdl a g) (a := (((((text, size), (sv, stb)), ((var, tab), szs)), (((prg, cod), words), ((has, fpl), pos))), ((((fault, plc), (tol, tmany)), ((trc, rmany), mark)), (((pil, pmany), mks), ((cts, turns), stop))))) (r := rb_X10_push (((((text, size), (sv, stb)), ((var, tab), szs)), (((prg, cod), words), ((has, fpl), pos))), ((((fault, plc), (tol, tmany)), ((trc, rmany), mark)), (((pil, pmany), mks), ((cts, turns), stop)))) o11) (As := [.int (var v2.toNatClampNeg)]) (rest := []) hw (by rw [ho11]; exact c_X10_push l g a text size sv stb var tab szs prg cod words has fpl pos fault plc tol tmany trc rmany mark pil pmany mks cts turns stop (var v2.toNatClampNeg) hq12) ok_yX10_push ml_X10_171 (rm_ok (by decide) (by decide)) 0 rfl rfl rfl rfl hl.1 (Nat.le_of_ble_eq_true rfl) dX10_step_55 ⟨Nat.zero_le _, Nat.zero_le _⟩ (fun H locs hw => ?_)
      have hw : Wd g A s (w_Mdl a g (((((text, size), (sv, stb)), ((var, tab), szs)), (((prg, cod), words), ((has, fpl), pos))), ((((fault, plc), (tol, tmany)), ((trc, rmany), mark)), (((o11.1, o11.2), mks), ((cts, turns), stop))))) H locs := hw
      refine W.eq (g2 := F0 m 58 ls []) rfl ?_
      have hok := bdP_use ho11 hok
      refine lv_iload_n hx hb dX10_step_58 rfl (lv_at hl 3 rfl) ?_
      refine lv_iconst (v := (2 : Int32)) hx hb dX10_step_59 (by decide) ?_
      refine lv_iadd hx hb dX10_step_60 ?_
      exact hI.retI (u := (((((text, size), (sv, stb)), ((var, tab), szs)), (((prg, cod), words), ((has, fpl), pos))), ((((fault, plc), (tol, tmany)), ((trc, rmany), mark)), (((o11.1, o11.2), mks), ((cts, turns), stop))))) hw (hr.trans (congrArg (rb_X10_step (((((text, size), (sv, stb)), ((var, tab), szs)), (((prg, cod), words), ((has, fpl), pos))), ((((fault, plc), (tol, tmany)), ((trc, rmany), mark)), (((pil, pmany), mks), ((cts, turns), stop))))) ((show f_X10_step var tab szs cod tol tmany trc rmany mark pil pmany mks cts stop x1 x2 = (x2 + (2 : Int32), ((((var, tab), tol), ((tmany, trc), rmany)), (((mark, o11.1), o11.2), ((mks, cts), stop)))) from bd_of hv2 (it_f c3 (it_t c7 (bd_of ho11 (rfl)))))))) dX10_step_61
    · have hok := ok_f c7 hok
      refine lv_iload_n hx hb dX10_step_19 rfl (lv_at hl 2 rfl) ?_
      refine lv_bipush (v := (30 : Int32)) hx hb dX10_step_20 (by decide) ?_
      refine lv_icmp_ne (tgt := 62) hx hb dX10_step_22 (by decide) (fun c13 => ?_) (fun c13 => ?_)
      · have hok := ok_f c13 hok
        refine lv_iload_n hx hb dX10_step_62 rfl (lv_at hl 2 rfl) ?_
        refine lv_iconst (v := (3 : Int32)) hx hb dX10_step_63 (by decide) ?_
        refine lv_icmp_ne (tgt := 81) hx hb dX10_step_64 (by decide) (fun c14 => ?_) (fun c14 => ?_)
        · have hok := ok_f c14 hok
          refine lv_iload_n hx hb dX10_step_81 rfl (lv_at hl 2 rfl) ?_
          refine lv_bipush (v := (17 : Int32)) hx hb dX10_step_82 (by decide) ?_
          refine lv_icmp_ge (tgt := 129) hx hb dX10_step_84 (by decide) (fun c15 => ?_) (fun c15 => ?_)
          · have hok := ok_t c15 hok
            refine lv_iload_n hx hb dX10_step_129 rfl (lv_at hl 2 rfl) ?_
            by_cases c16 : x1 = (17 : Int32)
            · refine lv_tableIn (tgt := 196) hx hb dX10_step_130 (by rw [c16]; decide) (by rw [c16]; decide) (by rw [c16]; rfl) (by decide) ?_
              have hok := ok_t c16 hok
              refine lv_aload_n hx hb dX10_step_196 rfl (lv_at hl 1 rfl) ?_
              obtain ⟨o17, ho17⟩ : ∃ o, o = f_X10_pop pil pmany := ⟨_, rfl⟩
              have hq18 := hok.1
              have hok := hok.2
              refine hI.callI0 (wl := w_Mdl a g) (a := (((((text, size), (sv, stb)), ((var, tab), szs)), (((prg, cod), words), ((has, fpl), pos))), ((((fault, plc), (tol, tmany)), ((trc, rmany), mark)), (((pil, pmany), mks), ((cts, turns), stop))))) (r := rb_X10_pop (((((text, size), (sv, stb)), ((var, tab), szs)), (((prg, cod), words), ((has, fpl), pos))), ((((fault, plc), (tol, tmany)), ((trc, rmany), mark)), (((pil, pmany), mks), ((cts, turns), stop)))) o17) (As := []) (rest := []) hw (by rw [ho17]; exact c_X10_pop l g a text size sv stb var tab szs prg cod words has fpl pos fault plc tol tmany trc rmany mark pil pmany mks cts turns stop hq18) ok_yX10_pop ml_X10_174 (rm_ok (by decide) (by decide)) 0 rfl rfl rfl rfl hl.1 (Nat.le_of_ble_eq_true rfl) dX10_step_197 ⟨Nat.zero_le _, Nat.zero_le _⟩ (fun H locs hw => ?_)
              have hw : Wd g A s (w_Mdl a g (((((text, size), (sv, stb)), ((var, tab), szs)), (((prg, cod), words), ((has, fpl), pos))), ((((fault, plc), (tol, tmany)), ((trc, rmany), mark)), (((pil, o17.2), mks), ((cts, turns), stop))))) H locs := hw
              refine W.eq (g2 := F0 m 200 ls [.int o17.1]) rfl ?_
              have hok := bdP_use ho17 hok
              refine lv_istore (lv' := [(4, .int o17.1), (3, .int v2), (0, .ref (a 0)), (1, .int x1), (2, .int x2)]) hx hb dX10_step_200 hl (by decide) rfl (fun ls hl => ?_)
              refine lv_aload_n hx hb dX10_step_202 rfl (lv_at hl 2 rfl) ?_
              obtain ⟨o19, ho19⟩ : ∃ o, o = f_X10_pop pil o17.2 := ⟨_, rfl⟩
              have hq20 := hok.1
              have hok := hok.2
              refine hI.callI0 (wl := w_Mdl a g) (a := (((((text, size), (sv, stb)), ((var, tab), szs)), (((prg, cod), words), ((has, fpl), pos))), ((((fault, plc), (tol, tmany)), ((trc, rmany), mark)), (((pil, o17.2), mks), ((cts, turns), stop))))) (r := rb_X10_pop (((((text, size), (sv, stb)), ((var, tab), szs)), (((prg, cod), words), ((has, fpl), pos))), ((((fault, plc), (tol, tmany)), ((trc, rmany), mark)), (((pil, o17.2), mks), ((cts, turns), stop)))) o19) (As := []) (rest := []) hw (by rw [ho19]; exact c_X10_pop l g a text size sv stb var tab szs prg cod words has fpl pos fault plc tol tmany trc rmany mark pil o17.2 mks cts turns stop hq20) ok_yX10_pop ml_X10_174 (rm_ok (by decide) (by decide)) 0 rfl rfl rfl rfl hl.1 (Nat.le_of_ble_eq_true rfl) dX10_step_203 ⟨Nat.zero_le _, Nat.zero_le _⟩ (fun H locs hw => ?_)
              have hw : Wd g A s (w_Mdl a g (((((text, size), (sv, stb)), ((var, tab), szs)), (((prg, cod), words), ((has, fpl), pos))), ((((fault, plc), (tol, tmany)), ((trc, rmany), mark)), (((pil, o19.2), mks), ((cts, turns), stop))))) H locs := hw
              refine W.eq (g2 := F0 m 206 ls [.int o19.1]) rfl ?_
              have hok := bdP_use ho19 hok
              refine lv_istore (lv' := [(5, .int o19.1), (4, .int o17.1), (3, .int v2), (0, .ref (a 0)), (1, .int x1), (2, .int x2)]) hx hb dX10_step_206 hl (by decide) rfl (fun ls hl => ?_)
              refine lv_aload_n hx hb dX10_step_208 rfl (lv_at hl 3 rfl) ?_
              obtain ⟨o21, ho21⟩ : ∃ o, o = f_X10_pop pil o19.2 := ⟨_, rfl⟩
              have hq22 := hok.1
              have hok := hok.2
              refine hI.callI0 (wl := w_Mdl a g) (a := (((((text, size), (sv, stb)), ((var, tab), szs)), (((prg, cod), words), ((has, fpl), pos))), ((((fault, plc), (tol, tmany)), ((trc, rmany), mark)), (((pil, o19.2), mks), ((cts, turns), stop))))) (r := rb_X10_pop (((((text, size), (sv, stb)), ((var, tab), szs)), (((prg, cod), words), ((has, fpl), pos))), ((((fault, plc), (tol, tmany)), ((trc, rmany), mark)), (((pil, o19.2), mks), ((cts, turns), stop)))) o21) (As := []) (rest := []) hw (by rw [ho21]; exact c_X10_pop l g a text size sv stb var tab szs prg cod words has fpl pos fault plc tol tmany trc rmany mark pil o19.2 mks cts turns stop hq22) ok_yX10_pop ml_X10_174 (rm_ok (by decide) (by decide)) 0 rfl rfl rfl rfl hl.1 (Nat.le_of_ble_eq_true rfl) dX10_step_209 ⟨Nat.zero_le _, Nat.zero_le _⟩ (fun H locs hw => ?_)
              have hw : Wd g A s (w_Mdl a g (((((text, size), (sv, stb)), ((var, tab), szs)), (((prg, cod), words), ((has, fpl), pos))), ((((fault, plc), (tol, tmany)), ((trc, rmany), mark)), (((pil, o21.2), mks), ((cts, turns), stop))))) H locs := hw
              refine W.eq (g2 := F0 m 212 ls [.int o21.1]) rfl ?_
              have hok := bdP_use ho21 hok
              refine lv_istore (lv' := [(6, .int o21.1), (5, .int o19.1), (4, .int o17.1), (3, .int v2), (0, .ref (a 0)), (1, .int x1), (2, .int x2)]) hx hb dX10_step_212 hl (by decide) rfl (fun ls hl => ?_)
              refine lv_aload_n hx hb dX10_step_214 rfl (lv_at hl 4 rfl) ?_
              refine lv_iload hx hb dX10_step_215 (lv_at hl 0 rfl) ?_
              refine lv_if_eq (tgt := 225) hx hb dX10_step_217 (by decide) (fun c23 => ?_) (fun c23 => ?_)
              · have hok := ok_t c23 hok
                refine lv_iload hx hb dX10_step_225 (lv_at hl 2 rfl) ?_
                obtain ⟨o24, ho24⟩ : ∃ o, o = f_X10_push pil o21.2 o17.1 := ⟨_, rfl⟩
                have hq25 := hok.1
                have hok := hok.2
                refine hI.callV0 (wl := w_Mdl a g) (a := (((((text, size), (sv, stb)), ((var, tab), szs)), (((prg, cod), words), ((has, fpl), pos))), ((((fault, plc), (tol, tmany)), ((trc, rmany), mark)), (((pil, o21.2), mks), ((cts, turns), stop))))) (r := rb_X10_push (((((text, size), (sv, stb)), ((var, tab), szs)), (((prg, cod), words), ((has, fpl), pos))), ((((fault, plc), (tol, tmany)), ((trc, rmany), mark)), (((pil, o21.2), mks), ((cts, turns), stop)))) o24) (As := [.int o17.1]) (rest := []) hw (by rw [ho24]; exact c_X10_push l g a text size sv stb var tab szs prg cod words has fpl pos fault plc tol tmany trc rmany mark pil o21.2 mks cts turns stop o17.1 hq25) ok_yX10_push ml_X10_171 (rm_ok (by decide) (by decide)) 0 rfl rfl rfl rfl hl.1 (Nat.le_of_ble_eq_true rfl) dX10_step_227 ⟨Nat.zero_le _, Nat.zero_le _⟩ (fun H locs hw => ?_)
                have hw : Wd g A s (w_Mdl a g (((((text, size), (sv, stb)), ((var, tab), szs)), (((prg, cod), words), ((has, fpl), pos))), ((((fault, plc), (tol, tmany)), ((trc, rmany), mark)), (((o24.1, o24.2), mks), ((cts, turns), stop))))) H locs := hw
                refine W.eq (g2 := F0 m 230 ls []) rfl ?_
                have hok := bdP_use ho24 hok
                refine lv_iload_n hx hb dX10_step_230 rfl (lv_at hl 6 rfl) ?_
                refine lv_iconst (v := (1 : Int32)) hx hb dX10_step_231 (by decide) ?_
                refine lv_iadd hx hb dX10_step_232 ?_
                exact hI.retI (u := (((((text, size), (sv, stb)), ((var, tab), szs)), (((prg, cod), words), ((has, fpl), pos))), ((((fault, plc), (tol, tmany)), ((trc, rmany), mark)), (((o24.1, o24.2), mks), ((cts, turns), stop))))) hw (hr.trans (congrArg (rb_X10_step (((((text, size), (sv, stb)), ((var, tab), szs)), (((prg, cod), words), ((has, fpl), pos))), ((((fault, plc), (tol, tmany)), ((trc, rmany), mark)), (((pil, pmany), mks), ((cts, turns), stop))))) ((show f_X10_step var tab szs cod tol tmany trc rmany mark pil pmany mks cts stop x1 x2 = (x2 + (1 : Int32), ((((var, tab), tol), ((tmany, trc), rmany)), (((mark, o24.1), o24.2), ((mks, cts), stop)))) from bd_of hv2 (it_f c3 (it_f c7 (it_f c13 (it_f c14 (it_t c15 (it_t c16 (bd_of ho17 (bd_of ho19 (bd_of ho21 (it_t c23 (bd_of ho24 (rfl)))))))))))))))) dX10_step_233
              · have hok := ok_f c23 hok
                refine lv_iload hx hb dX10_step_220 (lv_at hl 1 rfl) ?_
                refine lv_goto (tgt := 227) hx hb dX10_step_222 (by decide) ?_
                obtain ⟨o26, ho26⟩ : ∃ o, o = f_X10_push pil o21.2 o19.1 := ⟨_, rfl⟩
                have hq27 := hok.1
                have hok := hok.2
                refine hI.callV0 (wl := w_Mdl a g) (a := (((((text, size), (sv, stb)), ((var, tab), szs)), (((prg, cod), words), ((has, fpl), pos))), ((((fault, plc), (tol, tmany)), ((trc, rmany), mark)), (((pil, o21.2), mks), ((cts, turns), stop))))) (r := rb_X10_push (((((text, size), (sv, stb)), ((var, tab), szs)), (((prg, cod), words), ((has, fpl), pos))), ((((fault, plc), (tol, tmany)), ((trc, rmany), mark)), (((pil, o21.2), mks), ((cts, turns), stop)))) o26) (As := [.int o19.1]) (rest := []) hw (by rw [ho26]; exact c_X10_push l g a text size sv stb var tab szs prg cod words has fpl pos fault plc tol tmany trc rmany mark pil o21.2 mks cts turns stop o19.1 hq27) ok_yX10_push ml_X10_171 (rm_ok (by decide) (by decide)) 0 rfl rfl rfl rfl hl.1 (Nat.le_of_ble_eq_true rfl) dX10_step_227 ⟨Nat.zero_le _, Nat.zero_le _⟩ (fun H locs hw => ?_)
                have hw : Wd g A s (w_Mdl a g (((((text, size), (sv, stb)), ((var, tab), szs)), (((prg, cod), words), ((has, fpl), pos))), ((((fault, plc), (tol, tmany)), ((trc, rmany), mark)), (((o26.1, o26.2), mks), ((cts, turns), stop))))) H locs := hw
                refine W.eq (g2 := F0 m 230 ls []) rfl ?_
                have hok := bdP_use ho26 hok
                refine lv_iload_n hx hb dX10_step_230 rfl (lv_at hl 6 rfl) ?_
                refine lv_iconst (v := (1 : Int32)) hx hb dX10_step_231 (by decide) ?_
                refine lv_iadd hx hb dX10_step_232 ?_
                exact hI.retI (u := (((((text, size), (sv, stb)), ((var, tab), szs)), (((prg, cod), words), ((has, fpl), pos))), ((((fault, plc), (tol, tmany)), ((trc, rmany), mark)), (((o26.1, o26.2), mks), ((cts, turns), stop))))) hw (hr.trans (congrArg (rb_X10_step (((((text, size), (sv, stb)), ((var, tab), szs)), (((prg, cod), words), ((has, fpl), pos))), ((((fault, plc), (tol, tmany)), ((trc, rmany), mark)), (((pil, pmany), mks), ((cts, turns), stop))))) ((show f_X10_step var tab szs cod tol tmany trc rmany mark pil pmany mks cts stop x1 x2 = (x2 + (1 : Int32), ((((var, tab), tol), ((tmany, trc), rmany)), (((mark, o26.1), o26.2), ((mks, cts), stop)))) from bd_of hv2 (it_f c3 (it_f c7 (it_f c13 (it_f c14 (it_t c15 (it_t c16 (bd_of ho17 (bd_of ho19 (bd_of ho21 (it_f c23 (bd_of ho26 (rfl)))))))))))))))) dX10_step_233
            have hok := ok_f c16 hok
            by_cases c28 : x1 = (18 : Int32)
            · refine lv_tableIn (tgt := 234) hx hb dX10_step_130 (by rw [c28]; decide) (by rw [c28]; decide) (by rw [c28]; rfl) (by decide) ?_
              have hok := ok_t c28 hok
              refine lv_iload_n hx hb dX10_step_234 rfl (lv_at hl 0 rfl) ?_
              exact hI.retI (u := (((((text, size), (sv, stb)), ((var, tab), szs)), (((prg, cod), words), ((has, fpl), pos))), ((((fault, plc), (tol, tmany)), ((trc, rmany), mark)), (((pil, pmany), mks), ((cts, turns), stop))))) hw (hr.trans (congrArg (rb_X10_step (((((text, size), (sv, stb)), ((var, tab), szs)), (((prg, cod), words), ((has, fpl), pos))), ((((fault, plc), (tol, tmany)), ((trc, rmany), mark)), (((pil, pmany), mks), ((cts, turns), stop))))) ((show f_X10_step var tab szs cod tol tmany trc rmany mark pil pmany mks cts stop x1 x2 = (v2, ((((var, tab), tol), ((tmany, trc), rmany)), (((mark, pil), pmany), ((mks, cts), stop)))) from bd_of hv2 (it_f c3 (it_f c7 (it_f c13 (it_f c14 (it_t c15 (it_f c16 (it_t c28 (rfl)))))))))))) dX10_step_235
            have hok := ok_f c28 hok
            by_cases c29 : x1 = (19 : Int32)
            · refine lv_tableIn (tgt := 236) hx hb dX10_step_130 (by rw [c29]; decide) (by rw [c29]; decide) (by rw [c29]; rfl) (by decide) ?_
              have hok := ok_t c29 hok
              refine lv_aload_n hx hb dX10_step_236 rfl (lv_at hl 1 rfl) ?_
              obtain ⟨o30, ho30⟩ : ∃ o, o = f_X10_pop pil pmany := ⟨_, rfl⟩
              have hq31 := hok.1
              have hok := hok.2
              refine hI.callI0 (wl := w_Mdl a g) (a := (((((text, size), (sv, stb)), ((var, tab), szs)), (((prg, cod), words), ((has, fpl), pos))), ((((fault, plc), (tol, tmany)), ((trc, rmany), mark)), (((pil, pmany), mks), ((cts, turns), stop))))) (r := rb_X10_pop (((((text, size), (sv, stb)), ((var, tab), szs)), (((prg, cod), words), ((has, fpl), pos))), ((((fault, plc), (tol, tmany)), ((trc, rmany), mark)), (((pil, pmany), mks), ((cts, turns), stop)))) o30) (As := []) (rest := []) hw (by rw [ho30]; exact c_X10_pop l g a text size sv stb var tab szs prg cod words has fpl pos fault plc tol tmany trc rmany mark pil pmany mks cts turns stop hq31) ok_yX10_pop ml_X10_174 (rm_ok (by decide) (by decide)) 0 rfl rfl rfl rfl hl.1 (Nat.le_of_ble_eq_true rfl) dX10_step_237 ⟨Nat.zero_le _, Nat.zero_le _⟩ (fun H locs hw => ?_)
              have hw : Wd g A s (w_Mdl a g (((((text, size), (sv, stb)), ((var, tab), szs)), (((prg, cod), words), ((has, fpl), pos))), ((((fault, plc), (tol, tmany)), ((trc, rmany), mark)), (((pil, o30.2), mks), ((cts, turns), stop))))) H locs := hw
              refine W.eq (g2 := F0 m 240 ls [.int o30.1]) rfl ?_
              have hok := bdP_use ho30 hok
              refine lv_if_ne (tgt := 247) hx hb dX10_step_240 (by decide) (fun c32 => ?_) (fun c32 => ?_)
              · have hok := ok_f c32 hok
                refine lv_iload_n hx hb dX10_step_247 rfl (lv_at hl 3 rfl) ?_
                refine lv_iconst (v := (2 : Int32)) hx hb dX10_step_248 (by decide) ?_
                refine lv_iadd hx hb dX10_step_249 ?_
                exact hI.retI (u := (((((text, size), (sv, stb)), ((var, tab), szs)), (((prg, cod), words), ((has, fpl), pos))), ((((fault, plc), (tol, tmany)), ((trc, rmany), mark)), (((pil, o30.2), mks), ((cts, turns), stop))))) hw (hr.trans (congrArg (rb_X10_step (((((text, size), (sv, stb)), ((var, tab), szs)), (((prg, cod), words), ((has, fpl), pos))), ((((fault, plc), (tol, tmany)), ((trc, rmany), mark)), (((pil, pmany), mks), ((cts, turns), stop))))) ((show f_X10_step var tab szs cod tol tmany trc rmany mark pil pmany mks cts stop x1 x2 = (x2 + (2 : Int32), ((((var, tab), tol), ((tmany, trc), rmany)), (((mark, pil), o30.2), ((mks, cts), stop)))) from bd_of hv2 (it_f c3 (it_f c7 (it_f c13 (it_f c14 (it_t c15 (it_f c16 (it_f c28 (it_t c29 (bd_of ho30 (it_f c32 (rfl))))))))))))))) dX10_step_250
              · have hok := ok_t c32 hok
                refine lv_iload_n hx hb dX10_step_243 rfl (lv_at hl 0 rfl) ?_
                refine lv_goto (tgt := 250) hx hb dX10_step_244 (by decide) ?_
                exact hI.retI (u := (((((text, size), (sv, stb)), ((var, tab), szs)), (((prg, cod), words), ((has, fpl), pos))), ((((fault, plc), (tol, tmany)), ((trc, rmany), mark)), (((pil, o30.2), mks), ((cts, turns), stop))))) hw (hr.trans (congrArg (rb_X10_step (((((text, size), (sv, stb)), ((var, tab), szs)), (((prg, cod), words), ((has, fpl), pos))), ((((fault, plc), (tol, tmany)), ((trc, rmany), mark)), (((pil, pmany), mks), ((cts, turns), stop))))) ((show f_X10_step var tab szs cod tol tmany trc rmany mark pil pmany mks cts stop x1 x2 = (v2, ((((var, tab), tol), ((tmany, trc), rmany)), (((mark, pil), o30.2), ((mks, cts), stop)))) from bd_of hv2 (it_f c3 (it_f c7 (it_f c13 (it_f c14 (it_t c15 (it_f c16 (it_f c28 (it_t c29 (bd_of ho30 (it_t c32 (rfl))))))))))))))) dX10_step_250
            have hok := ok_f c29 hok
            by_cases c33 : x1 = (20 : Int32)
            · refine lv_tableIn (tgt := 251) hx hb dX10_step_130 (by rw [c33]; decide) (by rw [c33]; decide) (by rw [c33]; rfl) (by decide) ?_
              have hok := ok_t c33 hok
              refine lv_aload_n hx hb dX10_step_251 rfl (lv_at hl 1 rfl) ?_
              refine lv_aload_n hx hb dX10_step_252 rfl (lv_at hl 1 rfl) ?_
              obtain ⟨o34, ho34⟩ : ∃ o, o = f_X10_pop pil pmany := ⟨_, rfl⟩
              have hq35 := hok.1
              have hok := hok.2
              refine hI.callI0 (wl := w_Mdl a g) (a := (((((text, size), (sv, stb)), ((var, tab), szs)), (((prg, cod), words), ((has, fpl), pos))), ((((fault, plc), (tol, tmany)), ((trc, rmany), mark)), (((pil, pmany), mks), ((cts, turns), stop))))) (r := rb_X10_pop (((((text, size), (sv, stb)), ((var, tab), szs)), (((prg, cod), words), ((has, fpl), pos))), ((((fault, plc), (tol, tmany)), ((trc, rmany), mark)), (((pil, pmany), mks), ((cts, turns), stop)))) o34) (As := []) (rest := [.ref (a 0)]) hw (by rw [ho34]; exact c_X10_pop l g a text size sv stb var tab szs prg cod words has fpl pos fault plc tol tmany trc rmany mark pil pmany mks cts turns stop hq35) ok_yX10_pop ml_X10_174 (rm_ok (by decide) (by decide)) 0 rfl rfl rfl rfl hl.1 (Nat.le_of_ble_eq_true rfl) dX10_step_253 ⟨Nat.zero_le _, Nat.zero_le _⟩ (fun H locs hw => ?_)
              have hw : Wd g A s (w_Mdl a g (((((text, size), (sv, stb)), ((var, tab), szs)), (((prg, cod), words), ((has, fpl), pos))), ((((fault, plc), (tol, tmany)), ((trc, rmany), mark)), (((pil, o34.2), mks), ((cts, turns), stop))))) H locs := hw
              refine W.eq (g2 := F0 m 256 ls [.int o34.1, .ref (a 0)]) rfl ?_
              have hok := bdP_use ho34 hok
              obtain ⟨o36, ho36⟩ : ∃ o, o = f_X10_tell tol tmany o34.1 := ⟨_, rfl⟩
              have hq37 := hok.1
              have hok := hok.2
              refine hI.callV0 (wl := w_Mdl a g) (a := (((((text, size), (sv, stb)), ((var, tab), szs)), (((prg, cod), words), ((has, fpl), pos))), ((((fault, plc), (tol, tmany)), ((trc, rmany), mark)), (((pil, o34.2), mks), ((cts, turns), stop))))) (r := rb_X10_tell (((((text, size), (sv, stb)), ((var, tab), szs)), (((prg, cod), words), ((has, fpl), pos))), ((((fault, plc), (tol, tmany)), ((trc, rmany), mark)), (((pil, o34.2), mks), ((cts, turns), stop)))) o36) (As := [.int o34.1]) (rest := []) hw (by rw [ho36]; exact c_X10_tell l g a text size sv stb var tab szs prg cod words has fpl pos fault plc tol tmany trc rmany mark pil o34.2 mks cts turns stop o34.1 hq37) ok_yX10_tell ml_X10_180 (rm_ok (by decide) (by decide)) 0 rfl rfl rfl rfl hl.1 (Nat.le_of_ble_eq_true rfl) dX10_step_256 ⟨Nat.zero_le _, Nat.zero_le _⟩ (fun H locs hw => ?_)
              have hw : Wd g A s (w_Mdl a g (((((text, size), (sv, stb)), ((var, tab), szs)), (((prg, cod), words), ((has, fpl), pos))), ((((fault, plc), (o36.1, o36.2)), ((trc, rmany), mark)), (((pil, o34.2), mks), ((cts, turns), stop))))) H locs := hw
              refine W.eq (g2 := F0 m 259 ls []) rfl ?_
              have hok := bdP_use ho36 hok
              refine lv_iload_n hx hb dX10_step_259 rfl (lv_at hl 3 rfl) ?_
              refine lv_iconst (v := (1 : Int32)) hx hb dX10_step_260 (by decide) ?_
              refine lv_iadd hx hb dX10_step_261 ?_
              exact hI.retI (u := (((((text, size), (sv, stb)), ((var, tab), szs)), (((prg, cod), words), ((has, fpl), pos))), ((((fault, plc), (o36.1, o36.2)), ((trc, rmany), mark)), (((pil, o34.2), mks), ((cts, turns), stop))))) hw (hr.trans (congrArg (rb_X10_step (((((text, size), (sv, stb)), ((var, tab), szs)), (((prg, cod), words), ((has, fpl), pos))), ((((fault, plc), (tol, tmany)), ((trc, rmany), mark)), (((pil, pmany), mks), ((cts, turns), stop))))) ((show f_X10_step var tab szs cod tol tmany trc rmany mark pil pmany mks cts stop x1 x2 = (x2 + (1 : Int32), ((((var, tab), o36.1), ((o36.2, trc), rmany)), (((mark, pil), o34.2), ((mks, cts), stop)))) from bd_of hv2 (it_f c3 (it_f c7 (it_f c13 (it_f c14 (it_t c15 (it_f c16 (it_f c28 (it_f c29 (it_t c33 (bd_of ho34 (bd_of ho36 (rfl)))))))))))))))) dX10_step_262
            have hok := ok_f c33 hok
            by_cases c38 : x1 = (21 : Int32)
            · refine lv_tableIn (tgt := 263) hx hb dX10_step_130 (by rw [c38]; decide) (by rw [c38]; decide) (by rw [c38]; rfl) (by decide) ?_
              have hok := ok_t c38 hok
              refine lv_aload_n hx hb dX10_step_263 rfl (lv_at hl 1 rfl) ?_
              refine lv_iload_n hx hb dX10_step_264 rfl (lv_at hl 0 rfl) ?_
              refine lv_aload_n hx hb dX10_step_265 rfl (lv_at hl 1 rfl) ?_
              obtain ⟨o39, ho39⟩ : ∃ o, o = f_X10_pop pil pmany := ⟨_, rfl⟩
              have hq40 := hok.1
              have hok := hok.2
              refine hI.callI0 (wl := w_Mdl a g) (a := (((((text, size), (sv, stb)), ((var, tab), szs)), (((prg, cod), words), ((has, fpl), pos))), ((((fault, plc), (tol, tmany)), ((trc, rmany), mark)), (((pil, pmany), mks), ((cts, turns), stop))))) (r := rb_X10_pop (((((text, size), (sv, stb)), ((var, tab), szs)), (((prg, cod), words), ((has, fpl), pos))), ((((fault, plc), (tol, tmany)), ((trc, rmany), mark)), (((pil, pmany), mks), ((cts, turns), stop)))) o39) (As := []) (rest := [.int v2, .ref (a 0)]) hw (by rw [ho39]; exact c_X10_pop l g a text size sv stb var tab szs prg cod words has fpl pos fault plc tol tmany trc rmany mark pil pmany mks cts turns stop hq40) ok_yX10_pop ml_X10_174 (rm_ok (by decide) (by decide)) 0 rfl rfl rfl rfl hl.1 (Nat.le_of_ble_eq_true rfl) dX10_step_266 ⟨Nat.zero_le _, Nat.zero_le _⟩ (fun H locs hw => ?_)
              have hw : Wd g A s (w_Mdl a g (((((text, size), (sv, stb)), ((var, tab), szs)), (((prg, cod), words), ((has, fpl), pos))), ((((fault, plc), (tol, tmany)), ((trc, rmany), mark)), (((pil, o39.2), mks), ((cts, turns), stop))))) H locs := hw
              refine W.eq (g2 := F0 m 269 ls [.int o39.1, .int v2, .ref (a 0)]) rfl ?_
              have hok := bdP_use ho39 hok
              obtain ⟨o41, ho41⟩ : ∃ o, o = f_X10_placeOf szs v2 o39.1 := ⟨_, rfl⟩
              have hq42 := hok.1
              have hok := hok.2
              have hq43 := hok.1
              have hok := hok.2
              refine hI.callI0 (wl := w_Mdl a g) (a := (((((text, size), (sv, stb)), ((var, tab), szs)), (((prg, cod), words), ((has, fpl), pos))), ((((fault, plc), (tol, tmany)), ((trc, rmany), mark)), (((pil, o39.2), mks), ((cts, turns), stop))))) (r := rb_X10_placeOf (((((text, size), (sv, stb)), ((var, tab), szs)), (((prg, cod), words), ((has, fpl), pos))), ((((fault, plc), (tol, tmany)), ((trc, rmany), mark)), (((pil, o39.2), mks), ((cts, turns), stop)))) o41) (As := [.int v2, .int o39.1]) (rest := []) hw (by rw [ho41]; exact c_X10_placeOf l g a text size sv stb var tab szs prg cod words has fpl pos fault plc tol tmany trc rmany mark pil o39.2 mks cts turns stop v2 o39.1 hq42 hq43) ok_yX10_placeOf ml_X10_183 (rm_ok (by decide) (by decide)) 0 rfl rfl rfl rfl hl.1 (Nat.le_of_ble_eq_true rfl) dX10_step_269 ⟨Nat.zero_le _, Nat.zero_le _⟩ (fun H locs hw => ?_)
              have hw : Wd g A s (w_Mdl a g (((((text, size), (sv, stb)), ((var, tab), szs)), (((prg, cod), words), ((has, fpl), pos))), ((((fault, plc), (tol, tmany)), ((trc, rmany), mark)), (((pil, o39.2), mks), ((cts, turns), stop))))) H locs := hw
              refine W.eq (g2 := F0 m 272 ls [.int o41]) rfl ?_
              have hok := bdP_use ho41 hok
              refine lv_istore (lv' := [(4, .int o41), (3, .int v2), (0, .ref (a 0)), (1, .int x1), (2, .int x2)]) hx hb dX10_step_272 hl (by decide) rfl (fun ls hl => ?_)
              refine lv_aload_n hx hb dX10_step_274 rfl (lv_at hl 2 rfl) ?_
              refine lv_sipush (v := (4096 : Int32)) hx hb dX10_step_275 (by decide) ?_
              refine lv_bipush (v := (16 : Int32)) hx hb dX10_step_278 (by decide) ?_
              refine lv_iload_n hx hb dX10_step_280 rfl (lv_at hl 1 rfl) ?_
              refine lv_imul hx hb dX10_step_281 ?_
              refine lv_iadd hx hb dX10_step_282 ?_
              refine lv_iload hx hb dX10_step_283 (lv_at hl 0 rfl) ?_
              refine lv_iadd hx hb dX10_step_285 ?_
              obtain ⟨o44, ho44⟩ : ∃ o, o = f_X10_see trc rmany mark (((4096 : Int32) + ((16 : Int32) * v2)) + o41) := ⟨_, rfl⟩
              have hq45 := hok.1
              have hok := hok.2
              refine hI.callV0 (wl := w_Mdl a g) (a := (((((text, size), (sv, stb)), ((var, tab), szs)), (((prg, cod), words), ((has, fpl), pos))), ((((fault, plc), (tol, tmany)), ((trc, rmany), mark)), (((pil, o39.2), mks), ((cts, turns), stop))))) (r := rb_X10_see (((((text, size), (sv, stb)), ((var, tab), szs)), (((prg, cod), words), ((has, fpl), pos))), ((((fault, plc), (tol, tmany)), ((trc, rmany), mark)), (((pil, o39.2), mks), ((cts, turns), stop)))) o44) (As := [.int (((4096 : Int32) + ((16 : Int32) * v2)) + o41)]) (rest := []) hw (by rw [ho44]; exact c_X10_see l g a text size sv stb var tab szs prg cod words has fpl pos fault plc tol tmany trc rmany mark pil o39.2 mks cts turns stop (((4096 : Int32) + ((16 : Int32) * v2)) + o41) hq45) ok_yX10_see ml_X10_164 (rm_ok (by decide) (by decide)) 0 rfl rfl rfl rfl hl.1 (Nat.le_of_ble_eq_true rfl) dX10_step_286 ⟨Nat.zero_le _, Nat.zero_le _⟩ (fun H locs hw => ?_)
              have hw : Wd g A s (w_Mdl a g (((((text, size), (sv, stb)), ((var, tab), szs)), (((prg, cod), words), ((has, fpl), pos))), ((((fault, plc), (tol, tmany)), ((o44.1.1, o44.1.2), o44.2)), (((pil, o39.2), mks), ((cts, turns), stop))))) H locs := hw
              refine W.eq (g2 := F0 m 289 ls []) rfl ?_
              have hok := bdP_use ho44 hok
              refine lv_aload_n hx hb dX10_step_289 rfl (lv_at hl 2 rfl) ?_
              refine lv_aload_n hx hb dX10_step_290 rfl (lv_at hl 2 rfl) ?_
              refine hI.get (v := .ref (a 5)) hw fg_X10_23 0 rfl rfl dX10_step_291 ?_
              refine lv_bipush (v := (16 : Int32)) hx hb dX10_step_294 (by decide) ?_
              refine lv_iload_n hx hb dX10_step_296 rfl (lv_at hl 1 rfl) ?_
              refine lv_imul hx hb dX10_step_297 ?_
              refine lv_iload hx hb dX10_step_298 (lv_at hl 0 rfl) ?_
              refine lv_iadd hx hb dX10_step_300 ?_
              have hq46 := hok.1
              have hok := hok.2
              refine hI.iald hw 5 rfl hq46 dX10_step_301 ?_
              obtain ⟨o47, ho47⟩ : ∃ o, o = f_X10_push pil o39.2 (tab (((16 : Int32) * v2) + o41).toNatClampNeg) := ⟨_, rfl⟩
              have hq48 := hok.1
              have hok := hok.2
              refine hI.callV0 (wl := w_Mdl a g) (a := (((((text, size), (sv, stb)), ((var, tab), szs)), (((prg, cod), words), ((has, fpl), pos))), ((((fault, plc), (tol, tmany)), ((o44.1.1, o44.1.2), o44.2)), (((pil, o39.2), mks), ((cts, turns), stop))))) (r := rb_X10_push (((((text, size), (sv, stb)), ((var, tab), szs)), (((prg, cod), words), ((has, fpl), pos))), ((((fault, plc), (tol, tmany)), ((o44.1.1, o44.1.2), o44.2)), (((pil, o39.2), mks), ((cts, turns), stop)))) o47) (As := [.int (tab (((16 : Int32) * v2) + o41).toNatClampNeg)]) (rest := []) hw (by rw [ho47]; exact c_X10_push l g a text size sv stb var tab szs prg cod words has fpl pos fault plc tol tmany o44.1.1 o44.1.2 o44.2 pil o39.2 mks cts turns stop (tab (((16 : Int32) * v2) + o41).toNatClampNeg) hq48) ok_yX10_push ml_X10_171 (rm_ok (by decide) (by decide)) 0 rfl rfl rfl rfl hl.1 (Nat.le_of_ble_eq_true rfl) dX10_step_302 ⟨Nat.zero_le _, Nat.zero_le _⟩ (fun H locs hw => ?_)
              have hw : Wd g A s (w_Mdl a g (((((text, size), (sv, stb)), ((var, tab), szs)), (((prg, cod), words), ((has, fpl), pos))), ((((fault, plc), (tol, tmany)), ((o44.1.1, o44.1.2), o44.2)), (((o47.1, o47.2), mks), ((cts, turns), stop))))) H locs := hw
              refine W.eq (g2 := F0 m 305 ls []) rfl ?_
              have hok := bdP_use ho47 hok
              refine lv_iload_n hx hb dX10_step_305 rfl (lv_at hl 4 rfl) ?_
              refine lv_iconst (v := (2 : Int32)) hx hb dX10_step_306 (by decide) ?_
              refine lv_iadd hx hb dX10_step_307 ?_
              exact hI.retI (u := (((((text, size), (sv, stb)), ((var, tab), szs)), (((prg, cod), words), ((has, fpl), pos))), ((((fault, plc), (tol, tmany)), ((o44.1.1, o44.1.2), o44.2)), (((o47.1, o47.2), mks), ((cts, turns), stop))))) hw (hr.trans (congrArg (rb_X10_step (((((text, size), (sv, stb)), ((var, tab), szs)), (((prg, cod), words), ((has, fpl), pos))), ((((fault, plc), (tol, tmany)), ((trc, rmany), mark)), (((pil, pmany), mks), ((cts, turns), stop))))) ((show f_X10_step var tab szs cod tol tmany trc rmany mark pil pmany mks cts stop x1 x2 = (x2 + (2 : Int32), ((((var, tab), tol), ((tmany, o44.1.1), o44.1.2)), (((o44.2, o47.1), o47.2), ((mks, cts), stop)))) from bd_of hv2 (it_f c3 (it_f c7 (it_f c13 (it_f c14 (it_t c15 (it_f c16 (it_f c28 (it_f c29 (it_f c33 (it_t c38 (bd_of ho39 (bd_of ho41 (bd_of ho44 (bd_of ho47 (rfl))))))))))))))))))) dX10_step_308
            have hok := ok_f c38 hok
            by_cases c49 : x1 = (22 : Int32)
            · refine lv_tableIn (tgt := 345) hx hb dX10_step_130 (by rw [c49]; decide) (by rw [c49]; decide) (by rw [c49]; rfl) (by decide) ?_
              have hok := ok_t c49 hok
              refine lv_aload_n hx hb dX10_step_345 rfl (lv_at hl 1 rfl) ?_
              refine lv_iconst (v := (-1 : Int32)) hx hb dX10_step_346 (by decide) ?_
              refine lv_iload_n hx hb dX10_step_347 rfl (lv_at hl 0 rfl) ?_
              refine lv_iconst (v := (0 : Int32)) hx hb dX10_step_348 (by decide) ?_
              have hq51 := hok.1
              have hok := hok.2
              obtain ⟨o50, ho50⟩ : ∃ o, o = f_X10_store tab szs trc rmany mark pil pmany (-1 : Int32) v2 (0 : Int32) := ⟨_, rfl⟩
              refine hI.callV0 (wl := w_Mdl a g) (a := (((((text, size), (sv, stb)), ((var, tab), szs)), (((prg, cod), words), ((has, fpl), pos))), ((((fault, plc), (tol, tmany)), ((trc, rmany), mark)), (((pil, pmany), mks), ((cts, turns), stop))))) (r := rb_X10_store (((((text, size), (sv, stb)), ((var, tab), szs)), (((prg, cod), words), ((has, fpl), pos))), ((((fault, plc), (tol, tmany)), ((trc, rmany), mark)), (((pil, pmany), mks), ((cts, turns), stop)))) o50) (As := [.int (-1 : Int32), .int v2, .int (0 : Int32)]) (rest := []) hw (by rw [ho50]; exact c_X10_store l g a text size sv stb var tab szs prg cod words has fpl pos fault plc tol tmany trc rmany mark pil pmany mks cts turns stop (-1 : Int32) v2 (0 : Int32) hq51) ok_yX10_store ml_X10_189 (rm_ok (by decide) (by decide)) 0 rfl rfl rfl rfl hl.1 (Nat.le_of_ble_eq_true rfl) dX10_step_349 ⟨Nat.zero_le _, Nat.zero_le _⟩ (fun H locs hw => ?_)
              have hw : Wd g A s (w_Mdl a g (((((text, size), (sv, stb)), ((var, o50.1.1.1), szs)), (((prg, cod), words), ((has, fpl), pos))), ((((fault, plc), (tol, tmany)), ((o50.1.1.2, o50.1.2), o50.2.1)), (((pil, o50.2.2), mks), ((cts, turns), stop))))) H locs := hw
              refine W.eq (g2 := F0 m 352 ls []) rfl ?_
              have hok := bdP_use ho50 hok
              refine lv_iload_n hx hb dX10_step_352 rfl (lv_at hl 3 rfl) ?_
              refine lv_iconst (v := (2 : Int32)) hx hb dX10_step_353 (by decide) ?_
              refine lv_iadd hx hb dX10_step_354 ?_
              exact hI.retI (u := (((((text, size), (sv, stb)), ((var, o50.1.1.1), szs)), (((prg, cod), words), ((has, fpl), pos))), ((((fault, plc), (tol, tmany)), ((o50.1.1.2, o50.1.2), o50.2.1)), (((pil, o50.2.2), mks), ((cts, turns), stop))))) hw (hr.trans (congrArg (rb_X10_step (((((text, size), (sv, stb)), ((var, tab), szs)), (((prg, cod), words), ((has, fpl), pos))), ((((fault, plc), (tol, tmany)), ((trc, rmany), mark)), (((pil, pmany), mks), ((cts, turns), stop))))) ((show f_X10_step var tab szs cod tol tmany trc rmany mark pil pmany mks cts stop x1 x2 = (x2 + (2 : Int32), ((((var, o50.1.1.1), tol), ((tmany, o50.1.1.2), o50.1.2)), (((o50.2.1, pil), o50.2.2), ((mks, cts), stop)))) from bd_of hv2 (it_f c3 (it_f c7 (it_f c13 (it_f c14 (it_t c15 (it_f c16 (it_f c28 (it_f c29 (it_f c33 (it_f c38 (it_t c49 (bd_of ho50 (rfl))))))))))))))))) dX10_step_355
            have hok := ok_f c49 hok
            by_cases c52 : x1 = (23 : Int32)
            · refine lv_tableIn (tgt := 402) hx hb dX10_step_130 (by rw [c52]; decide) (by rw [c52]; decide) (by rw [c52]; rfl) (by decide) ?_
              have hok := ok_t c52 hok
              refine lv_aload_n hx hb dX10_step_402 rfl (lv_at hl 1 rfl) ?_
              refine hI.get (v := .ref (a 12)) hw fg_X10_48 0 rfl rfl dX10_step_403 ?_
              refine lv_iload_n hx hb dX10_step_406 rfl (lv_at hl 0 rfl) ?_
              refine lv_aload_n hx hb dX10_step_407 rfl (lv_at hl 1 rfl) ?_
              obtain ⟨o53, ho53⟩ : ∃ o, o = f_X10_pop pil pmany := ⟨_, rfl⟩
              have hq54 := hok.1
              have hok := hok.2
              refine hI.callI0 (wl := w_Mdl a g) (a := (((((text, size), (sv, stb)), ((var, tab), szs)), (((prg, cod), words), ((has, fpl), pos))), ((((fault, plc), (tol, tmany)), ((trc, rmany), mark)), (((pil, pmany), mks), ((cts, turns), stop))))) (r := rb_X10_pop (((((text, size), (sv, stb)), ((var, tab), szs)), (((prg, cod), words), ((has, fpl), pos))), ((((fault, plc), (tol, tmany)), ((trc, rmany), mark)), (((pil, pmany), mks), ((cts, turns), stop)))) o53) (As := []) (rest := [.int v2, .ref (a 12)]) hw (by rw [ho53]; exact c_X10_pop l g a text size sv stb var tab szs prg cod words has fpl pos fault plc tol tmany trc rmany mark pil pmany mks cts turns stop hq54) ok_yX10_pop ml_X10_174 (rm_ok (by decide) (by decide)) 0 rfl rfl rfl rfl hl.1 (Nat.le_of_ble_eq_true rfl) dX10_step_408 ⟨Nat.zero_le _, Nat.zero_le _⟩ (fun H locs hw => ?_)
              have hw : Wd g A s (w_Mdl a g (((((text, size), (sv, stb)), ((var, tab), szs)), (((prg, cod), words), ((has, fpl), pos))), ((((fault, plc), (tol, tmany)), ((trc, rmany), mark)), (((pil, o53.2), mks), ((cts, turns), stop))))) H locs := hw
              refine W.eq (g2 := F0 m 411 ls [.int o53.1, .int v2, .ref (a 12)]) rfl ?_
              have hok := bdP_use ho53 hok
              refine lv_if_eq (tgt := 425) hx hb dX10_step_411 (by decide) (fun c55 => ?_) (fun c55 => ?_)
              · have hok := ok_t c55 hok
                refine lv_iconst (v := (0 : Int32)) hx hb dX10_step_425 (by decide) ?_
                have hq56 := hok.1
                have hok := hok.2
                refine hI.iast hw 12 rfl hq56 dX10_step_426 (fun H locs hw => ?_)
                have hw : Wd g A s (w_Mdl a g (((((text, size), (sv, stb)), ((var, tab), szs)), (((prg, cod), words), ((has, fpl), pos))), ((((fault, plc), (tol, tmany)), ((trc, rmany), mark)), (((pil, o53.2), upd mks v2.toNatClampNeg (0 : Int32)), ((cts, turns), stop))))) H locs := hw
                refine lv_iload_n hx hb dX10_step_427 rfl (lv_at hl 3 rfl) ?_
                refine lv_iconst (v := (2 : Int32)) hx hb dX10_step_428 (by decide) ?_
                refine lv_iadd hx hb dX10_step_429 ?_
                exact hI.retI (u := (((((text, size), (sv, stb)), ((var, tab), szs)), (((prg, cod), words), ((has, fpl), pos))), ((((fault, plc), (tol, tmany)), ((trc, rmany), mark)), (((pil, o53.2), upd mks v2.toNatClampNeg (0 : Int32)), ((cts, turns), stop))))) hw (hr.trans (congrArg (rb_X10_step (((((text, size), (sv, stb)), ((var, tab), szs)), (((prg, cod), words), ((has, fpl), pos))), ((((fault, plc), (tol, tmany)), ((trc, rmany), mark)), (((pil, pmany), mks), ((cts, turns), stop))))) ((show f_X10_step var tab szs cod tol tmany trc rmany mark pil pmany mks cts stop x1 x2 = (x2 + (2 : Int32), ((((var, tab), tol), ((tmany, trc), rmany)), (((mark, pil), o53.2), ((upd mks v2.toNatClampNeg (0 : Int32), cts), stop)))) from bd_of hv2 (it_f c3 (it_f c7 (it_f c13 (it_f c14 (it_t c15 (it_f c16 (it_f c28 (it_f c29 (it_f c33 (it_f c38 (it_f c49 (it_t c52 (bd_of ho53 (it_t c55 (rfl))))))))))))))))))) dX10_step_430
              · have hok := ok_f c55 hok
                refine lv_aload_n hx hb dX10_step_414 rfl (lv_at hl 1 rfl) ?_
                refine hI.get (v := .ref (a 12)) hw fg_X10_48 0 rfl rfl dX10_step_415 ?_
                refine lv_iload_n hx hb dX10_step_418 rfl (lv_at hl 0 rfl) ?_
                refine lv_iconst (v := (1 : Int32)) hx hb dX10_step_419 (by decide) ?_
                refine lv_isub hx hb dX10_step_420 ?_
                have hq57 := hok.1
                have hok := hok.2
                refine hI.iald hw 12 rfl hq57 dX10_step_421 ?_
                refine lv_goto (tgt := 426) hx hb dX10_step_422 (by decide) ?_
                have hq58 := hok.1
                have hok := hok.2
                refine hI.iast hw 12 rfl hq58 dX10_step_426 (fun H locs hw => ?_)
                have hw : Wd g A s (w_Mdl a g (((((text, size), (sv, stb)), ((var, tab), szs)), (((prg, cod), words), ((has, fpl), pos))), ((((fault, plc), (tol, tmany)), ((trc, rmany), mark)), (((pil, o53.2), upd mks v2.toNatClampNeg (mks (v2 - (1 : Int32)).toNatClampNeg)), ((cts, turns), stop))))) H locs := hw
                refine lv_iload_n hx hb dX10_step_427 rfl (lv_at hl 3 rfl) ?_
                refine lv_iconst (v := (2 : Int32)) hx hb dX10_step_428 (by decide) ?_
                refine lv_iadd hx hb dX10_step_429 ?_
                exact hI.retI (u := (((((text, size), (sv, stb)), ((var, tab), szs)), (((prg, cod), words), ((has, fpl), pos))), ((((fault, plc), (tol, tmany)), ((trc, rmany), mark)), (((pil, o53.2), upd mks v2.toNatClampNeg (mks (v2 - (1 : Int32)).toNatClampNeg)), ((cts, turns), stop))))) hw (hr.trans (congrArg (rb_X10_step (((((text, size), (sv, stb)), ((var, tab), szs)), (((prg, cod), words), ((has, fpl), pos))), ((((fault, plc), (tol, tmany)), ((trc, rmany), mark)), (((pil, pmany), mks), ((cts, turns), stop))))) ((show f_X10_step var tab szs cod tol tmany trc rmany mark pil pmany mks cts stop x1 x2 = (x2 + (2 : Int32), ((((var, tab), tol), ((tmany, trc), rmany)), (((mark, pil), o53.2), ((upd mks v2.toNatClampNeg (mks (v2 - (1 : Int32)).toNatClampNeg), cts), stop)))) from bd_of hv2 (it_f c3 (it_f c7 (it_f c13 (it_f c14 (it_t c15 (it_f c16 (it_f c28 (it_f c29 (it_f c33 (it_f c38 (it_f c49 (it_t c52 (bd_of ho53 (it_f c55 (rfl))))))))))))))))))) dX10_step_430
            have hok := ok_f c52 hok
            by_cases c59 : x1 = (24 : Int32)
            · refine lv_tableIn (tgt := 431) hx hb dX10_step_130 (by rw [c59]; decide) (by rw [c59]; decide) (by rw [c59]; rfl) (by decide) ?_
              have hok := ok_t c59 hok
              refine lv_aload_n hx hb dX10_step_431 rfl (lv_at hl 1 rfl) ?_
              refine hI.get (v := .ref (a 12)) hw fg_X10_48 0 rfl rfl dX10_step_432 ?_
              refine lv_iload_n hx hb dX10_step_435 rfl (lv_at hl 0 rfl) ?_
              refine lv_aload_n hx hb dX10_step_436 rfl (lv_at hl 1 rfl) ?_
              refine hI.get (v := .ref (a 12)) hw fg_X10_48 0 rfl rfl dX10_step_437 ?_
              refine lv_iload_n hx hb dX10_step_440 rfl (lv_at hl 0 rfl) ?_
              refine lv_iconst (v := (1 : Int32)) hx hb dX10_step_441 (by decide) ?_
              refine lv_isub hx hb dX10_step_442 ?_
              have hq60 := hok.1
              have hok := hok.2
              refine hI.iald hw 12 rfl hq60 dX10_step_443 ?_
              refine lv_aload_n hx hb dX10_step_444 rfl (lv_at hl 1 rfl) ?_
              refine hI.get (v := .ref (a 12)) hw fg_X10_48 0 rfl rfl dX10_step_445 ?_
              refine lv_iload_n hx hb dX10_step_448 rfl (lv_at hl 0 rfl) ?_
              have hq61 := hok.1
              have hok := hok.2
              refine hI.iald hw 12 rfl hq61 dX10_step_449 ?_
              refine lv_iconst (v := (-1 : Int32)) hx hb dX10_step_450 (by decide) ?_
              refine lv_ixor hx hb dX10_step_451 ?_
              refine lv_iand hx hb dX10_step_452 ?_
              have hq62 := hok.1
              have hok := hok.2
              refine hI.iast hw 12 rfl hq62 dX10_step_453 (fun H locs hw => ?_)
              have hw : Wd g A s (w_Mdl a g (((((text, size), (sv, stb)), ((var, tab), szs)), (((prg, cod), words), ((has, fpl), pos))), ((((fault, plc), (tol, tmany)), ((trc, rmany), mark)), (((pil, pmany), upd mks v2.toNatClampNeg ((mks (v2 - (1 : Int32)).toNatClampNeg) &&& ((mks v2.toNatClampNeg) ^^^ (-1 : Int32)))), ((cts, turns), stop))))) H locs := hw
              refine lv_iload_n hx hb dX10_step_454 rfl (lv_at hl 3 rfl) ?_
              refine lv_iconst (v := (2 : Int32)) hx hb dX10_step_455 (by decide) ?_
              refine lv_iadd hx hb dX10_step_456 ?_
              exact hI.retI (u := (((((text, size), (sv, stb)), ((var, tab), szs)), (((prg, cod), words), ((has, fpl), pos))), ((((fault, plc), (tol, tmany)), ((trc, rmany), mark)), (((pil, pmany), upd mks v2.toNatClampNeg ((mks (v2 - (1 : Int32)).toNatClampNeg) &&& ((mks v2.toNatClampNeg) ^^^ (-1 : Int32)))), ((cts, turns), stop))))) hw (hr.trans (congrArg (rb_X10_step (((((text, size), (sv, stb)), ((var, tab), szs)), (((prg, cod), words), ((has, fpl), pos))), ((((fault, plc), (tol, tmany)), ((trc, rmany), mark)), (((pil, pmany), mks), ((cts, turns), stop))))) ((show f_X10_step var tab szs cod tol tmany trc rmany mark pil pmany mks cts stop x1 x2 = (x2 + (2 : Int32), ((((var, tab), tol), ((tmany, trc), rmany)), (((mark, pil), pmany), ((upd mks v2.toNatClampNeg ((mks (v2 - (1 : Int32)).toNatClampNeg) &&& ((mks v2.toNatClampNeg) ^^^ (-1 : Int32))), cts), stop)))) from bd_of hv2 (it_f c3 (it_f c7 (it_f c13 (it_f c14 (it_t c15 (it_f c16 (it_f c28 (it_f c29 (it_f c33 (it_f c38 (it_f c49 (it_f c52 (it_t c59 (rfl)))))))))))))))))) dX10_step_457
            have hok := ok_f c59 hok
            by_cases c63 : x1 = (25 : Int32)
            · refine lv_tableIn (tgt := 458) hx hb dX10_step_130 (by rw [c63]; decide) (by rw [c63]; decide) (by rw [c63]; rfl) (by decide) ?_
              have hok := ok_t c63 hok
              refine lv_aload_n hx hb dX10_step_458 rfl (lv_at hl 1 rfl) ?_
              refine hI.get (v := .ref (a 8)) hw fg_X10_32 0 rfl rfl dX10_step_459 ?_
              refine lv_iload_n hx hb dX10_step_462 rfl (lv_at hl 3 rfl) ?_
              refine lv_iconst (v := (2 : Int32)) hx hb dX10_step_463 (by decide) ?_
              refine lv_iadd hx hb dX10_step_464 ?_
              have hq64 := hok.1
              have hok := hok.2
              refine hI.iald hw 8 rfl hq64 dX10_step_465 ?_
              refine lv_topi (fun v65 hv65 => ?_)
              have hok := bdP_use hv65 hok
              refine lv_istore (lv' := [(4, .int v65), (3, .int v2), (0, .ref (a 0)), (1, .int x1), (2, .int x2)]) hx hb dX10_step_466 hl (by decide) rfl (fun ls hl => ?_)
              refine lv_aload_n hx hb dX10_step_468 rfl (lv_at hl 2 rfl) ?_
              refine hI.get (v := .ref (a 4)) hw fg_X10_20 0 rfl rfl dX10_step_469 ?_
              refine lv_iload hx hb dX10_step_472 (lv_at hl 0 rfl) ?_
              refine lv_aload_n hx hb dX10_step_474 rfl (lv_at hl 2 rfl) ?_
              refine hI.get (v := .ref (a 4)) hw fg_X10_20 0 rfl rfl dX10_step_475 ?_
              refine lv_iload hx hb dX10_step_478 (lv_at hl 0 rfl) ?_
              have hq66 := hok.1
              have hok := hok.2
              refine hI.iald hw 4 rfl hq66 dX10_step_480 ?_
              refine lv_aload_n hx hb dX10_step_481 rfl (lv_at hl 2 rfl) ?_
              refine hI.get (v := .ref (a 12)) hw fg_X10_48 0 rfl rfl dX10_step_482 ?_
              refine lv_iload_n hx hb dX10_step_485 rfl (lv_at hl 1 rfl) ?_
              have hq67 := hok.1
              have hok := hok.2
              refine hI.iald hw 12 rfl hq67 dX10_step_486 ?_
              refine lv_iconst (v := (-1 : Int32)) hx hb dX10_step_487 (by decide) ?_
              refine lv_ixor hx hb dX10_step_488 ?_
              refine lv_iand hx hb dX10_step_489 ?_
              refine lv_aload_n hx hb dX10_step_490 rfl (lv_at hl 2 rfl) ?_
              obtain ⟨o68, ho68⟩ : ∃ o, o = f_X10_pop pil pmany := ⟨_, rfl⟩
              have hq69 := hok.1
              have hok := hok.2
              refine hI.callI0 (wl := w_Mdl a g) (a := (((((text, size), (sv, stb)), ((var, tab), szs)), (((prg, cod), words), ((has, fpl), pos))), ((((fault, plc), (tol, tmany)), ((trc, rmany), mark)), (((pil, pmany), mks), ((cts, turns), stop))))) (r := rb_X10_pop (((((text, size), (sv, stb)), ((var, tab), szs)), (((prg, cod), words), ((has, fpl), pos))), ((((fault, plc), (tol, tmany)), ((trc, rmany), mark)), (((pil, pmany), mks), ((cts, turns), stop)))) o68) (As := []) (rest := [.int ((var v65.toNatClampNeg) &&& ((mks v2.toNatClampNeg) ^^^ (-1 : Int32))), .int v65, .ref (a 4)]) hw (by rw [ho68]; exact c_X10_pop l g a text size sv stb var tab szs prg cod words has fpl pos fault plc tol tmany trc rmany mark pil pmany mks cts turns stop hq69) ok_yX10_pop ml_X10_174 (rm_ok (by decide) (by decide)) 0 rfl rfl rfl rfl hl.1 (Nat.le_of_ble_eq_true rfl) dX10_step_491 ⟨Nat.zero_le _, Nat.zero_le _⟩ (fun H locs hw => ?_)
              have hw : Wd g A s (w_Mdl a g (((((text, size), (sv, stb)), ((var, tab), szs)), (((prg, cod), words), ((has, fpl), pos))), ((((fault, plc), (tol, tmany)), ((trc, rmany), mark)), (((pil, o68.2), mks), ((cts, turns), stop))))) H locs := hw
              refine W.eq (g2 := F0 m 494 ls [.int o68.1, .int ((var v65.toNatClampNeg) &&& ((mks v2.toNatClampNeg) ^^^ (-1 : Int32))), .int v65, .ref (a 4)]) rfl ?_
              have hok := bdP_use ho68 hok
              refine lv_aload_n hx hb dX10_step_494 rfl (lv_at hl 2 rfl) ?_
              refine hI.get (v := .ref (a 12)) hw fg_X10_48 0 rfl rfl dX10_step_495 ?_
              refine lv_iload_n hx hb dX10_step_498 rfl (lv_at hl 1 rfl) ?_
              have hq70 := hok.1
              have hok := hok.2
              refine hI.iald hw 12 rfl hq70 dX10_step_499 ?_
              refine lv_iand hx hb dX10_step_500 ?_
              refine lv_ior hx hb dX10_step_501 ?_
              have hq71 := hok.1
              have hok := hok.2
              refine hI.iast hw 4 rfl hq71 dX10_step_502 (fun H locs hw => ?_)
              have hw : Wd g A s (w_Mdl a g (((((text, size), (sv, stb)), ((upd var v65.toNatClampNeg (((var v65.toNatClampNeg) &&& ((mks v2.toNatClampNeg) ^^^ (-1 : Int32))) ||| (o68.1 &&& (mks v2.toNatClampNeg))), tab), szs)), (((prg, cod), words), ((has, fpl), pos))), ((((fault, plc), (tol, tmany)), ((trc, rmany), mark)), (((pil, o68.2), mks), ((cts, turns), stop))))) H locs := hw
              refine lv_iload_n hx hb dX10_step_503 rfl (lv_at hl 4 rfl) ?_
              refine lv_iconst (v := (3 : Int32)) hx hb dX10_step_504 (by decide) ?_
              refine lv_iadd hx hb dX10_step_505 ?_
              exact hI.retI (u := (((((text, size), (sv, stb)), ((upd var v65.toNatClampNeg (((var v65.toNatClampNeg) &&& ((mks v2.toNatClampNeg) ^^^ (-1 : Int32))) ||| (o68.1 &&& (mks v2.toNatClampNeg))), tab), szs)), (((prg, cod), words), ((has, fpl), pos))), ((((fault, plc), (tol, tmany)), ((trc, rmany), mark)), (((pil, o68.2), mks), ((cts, turns), stop))))) hw (hr.trans (congrArg (rb_X10_step (((((text, size), (sv, stb)), ((var, tab), szs)), (((prg, cod), words), ((has, fpl), pos))), ((((fault, plc), (tol, tmany)), ((trc, rmany), mark)), (((pil, pmany), mks), ((cts, turns), stop))))) ((show f_X10_step var tab szs cod tol tmany trc rmany mark pil pmany mks cts stop x1 x2 = (x2 + (3 : Int32), ((((upd var v65.toNatClampNeg (((var v65.toNatClampNeg) &&& ((mks v2.toNatClampNeg) ^^^ (-1 : Int32))) ||| (o68.1 &&& (mks v2.toNatClampNeg))), tab), tol), ((tmany, trc), rmany)), (((mark, pil), o68.2), ((mks, cts), stop)))) from bd_of hv2 (it_f c3 (it_f c7 (it_f c13 (it_f c14 (it_t c15 (it_f c16 (it_f c28 (it_f c29 (it_f c33 (it_f c38 (it_f c49 (it_f c52 (it_f c59 (it_t c63 (bd_of hv65 (bd_of ho68 (rfl))))))))))))))))))))) dX10_step_506
            have hok := ok_f c63 hok
            by_cases c72 : x1 = (26 : Int32)
            · refine lv_tableIn (tgt := 356) hx hb dX10_step_130 (by rw [c72]; decide) (by rw [c72]; decide) (by rw [c72]; rfl) (by decide) ?_
              have hok := ok_t c72 hok
              refine lv_aload_n hx hb dX10_step_356 rfl (lv_at hl 1 rfl) ?_
              refine lv_aload_n hx hb dX10_step_357 rfl (lv_at hl 1 rfl) ?_
              refine hI.get (v := .ref (a 12)) hw fg_X10_48 0 rfl rfl dX10_step_358 ?_
              refine lv_iload_n hx hb dX10_step_361 rfl (lv_at hl 0 rfl) ?_
              have hq73 := hok.1
              have hok := hok.2
              refine hI.iald hw 12 rfl hq73 dX10_step_362 ?_
              refine lv_aload_n hx hb dX10_step_363 rfl (lv_at hl 1 rfl) ?_
              refine hI.get (v := .ref (a 8)) hw fg_X10_32 0 rfl rfl dX10_step_364 ?_
              refine lv_iload_n hx hb dX10_step_367 rfl (lv_at hl 3 rfl) ?_
              refine lv_iconst (v := (2 : Int32)) hx hb dX10_step_368 (by decide) ?_
              refine lv_iadd hx hb dX10_step_369 ?_
              have hq74 := hok.1
              have hok := hok.2
              refine hI.iald hw 8 rfl hq74 dX10_step_370 ?_
              refine lv_iconst (v := (0 : Int32)) hx hb dX10_step_371 (by decide) ?_
              have hq76 := hok.1
              have hok := hok.2
              obtain ⟨o75, ho75⟩ : ∃ o, o = f_X10_store tab szs trc rmany mark pil pmany (mks v2.toNatClampNeg) (cod (x2 + (2 : Int32)).toNatClampNeg) (0 : Int32) := ⟨_, rfl⟩
              refine hI.callV0 (wl := w_Mdl a g) (a := (((((text, size), (sv, stb)), ((var, tab), szs)), (((prg, cod), words), ((has, fpl), pos))), ((((fault, plc), (tol, tmany)), ((trc, rmany), mark)), (((pil, pmany), mks), ((cts, turns), stop))))) (r := rb_X10_store (((((text, size), (sv, stb)), ((var, tab), szs)), (((prg, cod), words), ((has, fpl), pos))), ((((fault, plc), (tol, tmany)), ((trc, rmany), mark)), (((pil, pmany), mks), ((cts, turns), stop)))) o75) (As := [.int (mks v2.toNatClampNeg), .int (cod (x2 + (2 : Int32)).toNatClampNeg), .int (0 : Int32)]) (rest := []) hw (by rw [ho75]; exact c_X10_store l g a text size sv stb var tab szs prg cod words has fpl pos fault plc tol tmany trc rmany mark pil pmany mks cts turns stop (mks v2.toNatClampNeg) (cod (x2 + (2 : Int32)).toNatClampNeg) (0 : Int32) hq76) ok_yX10_store ml_X10_189 (rm_ok (by decide) (by decide)) 0 rfl rfl rfl rfl hl.1 (Nat.le_of_ble_eq_true rfl) dX10_step_372 ⟨Nat.zero_le _, Nat.zero_le _⟩ (fun H locs hw => ?_)
              have hw : Wd g A s (w_Mdl a g (((((text, size), (sv, stb)), ((var, o75.1.1.1), szs)), (((prg, cod), words), ((has, fpl), pos))), ((((fault, plc), (tol, tmany)), ((o75.1.1.2, o75.1.2), o75.2.1)), (((pil, o75.2.2), mks), ((cts, turns), stop))))) H locs := hw
              refine W.eq (g2 := F0 m 375 ls []) rfl ?_
              have hok := bdP_use ho75 hok
              refine lv_iload_n hx hb dX10_step_375 rfl (lv_at hl 3 rfl) ?_
              refine lv_iconst (v := (3 : Int32)) hx hb dX10_step_376 (by decide) ?_
              refine lv_iadd hx hb dX10_step_377 ?_
              exact hI.retI (u := (((((text, size), (sv, stb)), ((var, o75.1.1.1), szs)), (((prg, cod), words), ((has, fpl), pos))), ((((fault, plc), (tol, tmany)), ((o75.1.1.2, o75.1.2), o75.2.1)), (((pil, o75.2.2), mks), ((cts, turns), stop))))) hw (hr.trans (congrArg (rb_X10_step (((((text, size), (sv, stb)), ((var, tab), szs)), (((prg, cod), words), ((has, fpl), pos))), ((((fault, plc), (tol, tmany)), ((trc, rmany), mark)), (((pil, pmany), mks), ((cts, turns), stop))))) ((show f_X10_step var tab szs cod tol tmany trc rmany mark pil pmany mks cts stop x1 x2 = (x2 + (3 : Int32), ((((var, o75.1.1.1), tol), ((tmany, o75.1.1.2), o75.1.2)), (((o75.2.1, pil), o75.2.2), ((mks, cts), stop)))) from bd_of hv2 (it_f c3 (it_f c7 (it_f c13 (it_f c14 (it_t c15 (it_f c16 (it_f c28 (it_f c29 (it_f c33 (it_f c38 (it_f c49 (it_f c52 (it_f c59 (it_f c63 (it_t c72 (bd_of ho75 (rfl))))))))))))))))))))) dX10_step_378
            have hok := ok_f c72 hok
            by_cases c77 : x1 = (27 : Int32)
            · refine lv_tableIn (tgt := 309) hx hb dX10_step_130 (by rw [c77]; decide) (by rw [c77]; decide) (by rw [c77]; rfl) (by decide) ?_
              have hok := ok_t c77 hok
              refine lv_aload_n hx hb dX10_step_309 rfl (lv_at hl 1 rfl) ?_
              refine lv_iload_n hx hb dX10_step_310 rfl (lv_at hl 0 rfl) ?_
              refine lv_aload_n hx hb dX10_step_311 rfl (lv_at hl 1 rfl) ?_
              obtain ⟨o78, ho78⟩ : ∃ o, o = f_X10_pop pil pmany := ⟨_, rfl⟩
              have hq79 := hok.1
              have hok := hok.2
              refine hI.callI0 (wl := w_Mdl a g) (a := (((((text, size), (sv, stb)), ((var, tab), szs)), (((prg, cod), words), ((has, fpl), pos))), ((((fault, plc), (tol, tmany)), ((trc, rmany), mark)), (((pil, pmany), mks), ((cts, turns), stop))))) (r := rb_X10_pop (((((text, size), (sv, stb)), ((var, tab), szs)), (((prg, cod), words), ((has, fpl), pos))), ((((fault, plc), (tol, tmany)), ((trc, rmany), mark)), (((pil, pmany), mks), ((cts, turns), stop)))) o78) (As := []) (rest := [.int v2, .ref (a 0)]) hw (by rw [ho78]; exact c_X10_pop l g a text size sv stb var tab szs prg cod words has fpl pos fault plc tol tmany trc rmany mark pil pmany mks cts turns stop hq79) ok_yX10_pop ml_X10_174 (rm_ok (by decide) (by decide)) 0 rfl rfl rfl rfl hl.1 (Nat.le_of_ble_eq_true rfl) dX10_step_312 ⟨Nat.zero_le _, Nat.zero_le _⟩ (fun H locs hw => ?_)
              have hw : Wd g A s (w_Mdl a g (((((text, size), (sv, stb)), ((var, tab), szs)), (((prg, cod), words), ((has, fpl), pos))), ((((fault, plc), (tol, tmany)), ((trc, rmany), mark)), (((pil, o78.2), mks), ((cts, turns), stop))))) H locs := hw
              refine W.eq (g2 := F0 m 315 ls [.int o78.1, .int v2, .ref (a 0)]) rfl ?_
              have hok := bdP_use ho78 hok
              obtain ⟨o80, ho80⟩ : ∃ o, o = f_X10_placeOf szs v2 o78.1 := ⟨_, rfl⟩
              have hq81 := hok.1
              have hok := hok.2
              have hq82 := hok.1
              have hok := hok.2
              refine hI.callI0 (wl := w_Mdl a g) (a := (((((text, size), (sv, stb)), ((var, tab), szs)), (((prg, cod), words), ((has, fpl), pos))), ((((fault, plc), (tol, tmany)), ((trc, rmany), mark)), (((pil, o78.2), mks), ((cts, turns), stop))))) (r := rb_X10_placeOf (((((text, size), (sv, stb)), ((var, tab), szs)), (((prg, cod), words), ((has, fpl), pos))), ((((fault, plc), (tol, tmany)), ((trc, rmany), mark)), (((pil, o78.2), mks), ((cts, turns), stop)))) o80) (As := [.int v2, .int o78.1]) (rest := []) hw (by rw [ho80]; exact c_X10_placeOf l g a text size sv stb var tab szs prg cod words has fpl pos fault plc tol tmany trc rmany mark pil o78.2 mks cts turns stop v2 o78.1 hq81 hq82) ok_yX10_placeOf ml_X10_183 (rm_ok (by decide) (by decide)) 0 rfl rfl rfl rfl hl.1 (Nat.le_of_ble_eq_true rfl) dX10_step_315 ⟨Nat.zero_le _, Nat.zero_le _⟩ (fun H locs hw => ?_)
              have hw : Wd g A s (w_Mdl a g (((((text, size), (sv, stb)), ((var, tab), szs)), (((prg, cod), words), ((has, fpl), pos))), ((((fault, plc), (tol, tmany)), ((trc, rmany), mark)), (((pil, o78.2), mks), ((cts, turns), stop))))) H locs := hw
              refine W.eq (g2 := F0 m 318 ls [.int o80]) rfl ?_
              have hok := bdP_use ho80 hok
              refine lv_istore (lv' := [(4, .int o80), (3, .int v2), (0, .ref (a 0)), (1, .int x1), (2, .int x2)]) hx hb dX10_step_318 hl (by decide) rfl (fun ls hl => ?_)
              refine lv_aload_n hx hb dX10_step_320 rfl (lv_at hl 2 rfl) ?_
              refine lv_iload_n hx hb dX10_step_321 rfl (lv_at hl 1 rfl) ?_
              have hq84 := hok.1
              have hok := hok.2
              obtain ⟨o83, ho83⟩ : ∃ o, o = f_X10_seeAll szs trc rmany mark v2 := ⟨_, rfl⟩
              refine hI.callV0 (wl := w_Mdl a g) (a := (((((text, size), (sv, stb)), ((var, tab), szs)), (((prg, cod), words), ((has, fpl), pos))), ((((fault, plc), (tol, tmany)), ((trc, rmany), mark)), (((pil, o78.2), mks), ((cts, turns), stop))))) (r := rb_X10_seeAll (((((text, size), (sv, stb)), ((var, tab), szs)), (((prg, cod), words), ((has, fpl), pos))), ((((fault, plc), (tol, tmany)), ((trc, rmany), mark)), (((pil, o78.2), mks), ((cts, turns), stop)))) o83) (As := [.int v2]) (rest := []) hw (by rw [ho83]; exact c_X10_seeAll l g a text size sv stb var tab szs prg cod words has fpl pos fault plc tol tmany trc rmany mark pil o78.2 mks cts turns stop v2 hq84) ok_yX10_seeAll ml_X10_186 (rm_ok (by decide) (by decide)) 0 rfl rfl rfl rfl hl.1 (Nat.le_of_ble_eq_true rfl) dX10_step_322 ⟨Nat.zero_le _, Nat.zero_le _⟩ (fun H locs hw => ?_)
              have hw : Wd g A s (w_Mdl a g (((((text, size), (sv, stb)), ((var, tab), szs)), (((prg, cod), words), ((has, fpl), pos))), ((((fault, plc), (tol, tmany)), ((o83.1.1, o83.1.2), o83.2)), (((pil, o78.2), mks), ((cts, turns), stop))))) H locs := hw
              refine W.eq (g2 := F0 m 325 ls []) rfl ?_
              have hok := bdP_use ho83 hok
              refine lv_aload_n hx hb dX10_step_325 rfl (lv_at hl 2 rfl) ?_
              refine lv_aload_n hx hb dX10_step_326 rfl (lv_at hl 2 rfl) ?_
              refine hI.get (v := .ref (a 5)) hw fg_X10_23 0 rfl rfl dX10_step_327 ?_
              refine lv_bipush (v := (16 : Int32)) hx hb dX10_step_330 (by decide) ?_
              refine lv_iload_n hx hb dX10_step_332 rfl (lv_at hl 1 rfl) ?_
              refine lv_imul hx hb dX10_step_333 ?_
              refine lv_iload hx hb dX10_step_334 (lv_at hl 0 rfl) ?_
              refine lv_iadd hx hb dX10_step_336 ?_
              have hq85 := hok.1
              have hok := hok.2
              refine hI.iald hw 5 rfl hq85 dX10_step_337 ?_
              obtain ⟨o86, ho86⟩ : ∃ o, o = f_X10_push pil o78.2 (tab (((16 : Int32) * v2) + o80).toNatClampNeg) := ⟨_, rfl⟩
              have hq87 := hok.1
              have hok := hok.2
              refine hI.callV0 (wl := w_Mdl a g) (a := (((((text, size), (sv, stb)), ((var, tab), szs)), (((prg, cod), words), ((has, fpl), pos))), ((((fault, plc), (tol, tmany)), ((o83.1.1, o83.1.2), o83.2)), (((pil, o78.2), mks), ((cts, turns), stop))))) (r := rb_X10_push (((((text, size), (sv, stb)), ((var, tab), szs)), (((prg, cod), words), ((has, fpl), pos))), ((((fault, plc), (tol, tmany)), ((o83.1.1, o83.1.2), o83.2)), (((pil, o78.2), mks), ((cts, turns), stop)))) o86) (As := [.int (tab (((16 : Int32) * v2) + o80).toNatClampNeg)]) (rest := []) hw (by rw [ho86]; exact c_X10_push l g a text size sv stb var tab szs prg cod words has fpl pos fault plc tol tmany o83.1.1 o83.1.2 o83.2 pil o78.2 mks cts turns stop (tab (((16 : Int32) * v2) + o80).toNatClampNeg) hq87) ok_yX10_push ml_X10_171 (rm_ok (by decide) (by decide)) 0 rfl rfl rfl rfl hl.1 (Nat.le_of_ble_eq_true rfl) dX10_step_338 ⟨Nat.zero_le _, Nat.zero_le _⟩ (fun H locs hw => ?_)
              have hw : Wd g A s (w_Mdl a g (((((text, size), (sv, stb)), ((var, tab), szs)), (((prg, cod), words), ((has, fpl), pos))), ((((fault, plc), (tol, tmany)), ((o83.1.1, o83.1.2), o83.2)), (((o86.1, o86.2), mks), ((cts, turns), stop))))) H locs := hw
              refine W.eq (g2 := F0 m 341 ls []) rfl ?_
              have hok := bdP_use ho86 hok
              refine lv_iload_n hx hb dX10_step_341 rfl (lv_at hl 4 rfl) ?_
              refine lv_iconst (v := (2 : Int32)) hx hb dX10_step_342 (by decide) ?_
              refine lv_iadd hx hb dX10_step_343 ?_
              exact hI.retI (u := (((((text, size), (sv, stb)), ((var, tab), szs)), (((prg, cod), words), ((has, fpl), pos))), ((((fault, plc), (tol, tmany)), ((o83.1.1, o83.1.2), o83.2)), (((o86.1, o86.2), mks), ((cts, turns), stop))))) hw (hr.trans (congrArg (rb_X10_step (((((text, size), (sv, stb)), ((var, tab), szs)), (((prg, cod), words), ((has, fpl), pos))), ((((fault, plc), (tol, tmany)), ((trc, rmany), mark)), (((pil, pmany), mks), ((cts, turns), stop))))) ((show f_X10_step var tab szs cod tol tmany trc rmany mark pil pmany mks cts stop x1 x2 = (x2 + (2 : Int32), ((((var, tab), tol), ((tmany, o83.1.1), o83.1.2)), (((o83.2, o86.1), o86.2), ((mks, cts), stop)))) from bd_of hv2 (it_f c3 (it_f c7 (it_f c13 (it_f c14 (it_t c15 (it_f c16 (it_f c28 (it_f c29 (it_f c33 (it_f c38 (it_f c49 (it_f c52 (it_f c59 (it_f c63 (it_f c72 (it_t c77 (bd_of ho78 (bd_of ho80 (bd_of ho83 (bd_of ho86 (rfl))))))))))))))))))))))))) dX10_step_344
            have hok := ok_f c77 hok
            by_cases c88 : x1 = (28 : Int32)
            · refine lv_tableIn (tgt := 379) hx hb dX10_step_130 (by rw [c88]; decide) (by rw [c88]; decide) (by rw [c88]; rfl) (by decide) ?_
              have hok := ok_t c88 hok
              refine lv_aload_n hx hb dX10_step_379 rfl (lv_at hl 1 rfl) ?_
              refine lv_aload_n hx hb dX10_step_380 rfl (lv_at hl 1 rfl) ?_
              refine hI.get (v := .ref (a 12)) hw fg_X10_48 0 rfl rfl dX10_step_381 ?_
              refine lv_iload_n hx hb dX10_step_384 rfl (lv_at hl 0 rfl) ?_
              have hq89 := hok.1
              have hok := hok.2
              refine hI.iald hw 12 rfl hq89 dX10_step_385 ?_
              refine lv_aload_n hx hb dX10_step_386 rfl (lv_at hl 1 rfl) ?_
              refine hI.get (v := .ref (a 8)) hw fg_X10_32 0 rfl rfl dX10_step_387 ?_
              refine lv_iload_n hx hb dX10_step_390 rfl (lv_at hl 3 rfl) ?_
              refine lv_iconst (v := (2 : Int32)) hx hb dX10_step_391 (by decide) ?_
              refine lv_iadd hx hb dX10_step_392 ?_
              have hq90 := hok.1
              have hok := hok.2
              refine hI.iald hw 8 rfl hq90 dX10_step_393 ?_
              refine lv_iconst (v := (1 : Int32)) hx hb dX10_step_394 (by decide) ?_
              have hq92 := hok.1
              have hok := hok.2
              obtain ⟨o91, ho91⟩ : ∃ o, o = f_X10_store tab szs trc rmany mark pil pmany (mks v2.toNatClampNeg) (cod (x2 + (2 : Int32)).toNatClampNeg) (1 : Int32) := ⟨_, rfl⟩
              refine hI.callV0 (wl := w_Mdl a g) (a := (((((text, size), (sv, stb)), ((var, tab), szs)), (((prg, cod), words), ((has, fpl), pos))), ((((fault, plc), (tol, tmany)), ((trc, rmany), mark)), (((pil, pmany), mks), ((cts, turns), stop))))) (r := rb_X10_store (((((text, size), (sv, stb)), ((var, tab), szs)), (((prg, cod), words), ((has, fpl), pos))), ((((fault, plc), (tol, tmany)), ((trc, rmany), mark)), (((pil, pmany), mks), ((cts, turns), stop)))) o91) (As := [.int (mks v2.toNatClampNeg), .int (cod (x2 + (2 : Int32)).toNatClampNeg), .int (1 : Int32)]) (rest := []) hw (by rw [ho91]; exact c_X10_store l g a text size sv stb var tab szs prg cod words has fpl pos fault plc tol tmany trc rmany mark pil pmany mks cts turns stop (mks v2.toNatClampNeg) (cod (x2 + (2 : Int32)).toNatClampNeg) (1 : Int32) hq92) ok_yX10_store ml_X10_189 (rm_ok (by decide) (by decide)) 0 rfl rfl rfl rfl hl.1 (Nat.le_of_ble_eq_true rfl) dX10_step_395 ⟨Nat.zero_le _, Nat.zero_le _⟩ (fun H locs hw => ?_)
              have hw : Wd g A s (w_Mdl a g (((((text, size), (sv, stb)), ((var, o91.1.1.1), szs)), (((prg, cod), words), ((has, fpl), pos))), ((((fault, plc), (tol, tmany)), ((o91.1.1.2, o91.1.2), o91.2.1)), (((pil, o91.2.2), mks), ((cts, turns), stop))))) H locs := hw
              refine W.eq (g2 := F0 m 398 ls []) rfl ?_
              have hok := bdP_use ho91 hok
              refine lv_iload_n hx hb dX10_step_398 rfl (lv_at hl 3 rfl) ?_
              refine lv_iconst (v := (3 : Int32)) hx hb dX10_step_399 (by decide) ?_
              refine lv_iadd hx hb dX10_step_400 ?_
              exact hI.retI (u := (((((text, size), (sv, stb)), ((var, o91.1.1.1), szs)), (((prg, cod), words), ((has, fpl), pos))), ((((fault, plc), (tol, tmany)), ((o91.1.1.2, o91.1.2), o91.2.1)), (((pil, o91.2.2), mks), ((cts, turns), stop))))) hw (hr.trans (congrArg (rb_X10_step (((((text, size), (sv, stb)), ((var, tab), szs)), (((prg, cod), words), ((has, fpl), pos))), ((((fault, plc), (tol, tmany)), ((trc, rmany), mark)), (((pil, pmany), mks), ((cts, turns), stop))))) ((show f_X10_step var tab szs cod tol tmany trc rmany mark pil pmany mks cts stop x1 x2 = (x2 + (3 : Int32), ((((var, o91.1.1.1), tol), ((tmany, o91.1.1.2), o91.1.2)), (((o91.2.1, pil), o91.2.2), ((mks, cts), stop)))) from bd_of hv2 (it_f c3 (it_f c7 (it_f c13 (it_f c14 (it_t c15 (it_f c16 (it_f c28 (it_f c29 (it_f c33 (it_f c38 (it_f c49 (it_f c52 (it_f c59 (it_f c63 (it_f c72 (it_f c77 (it_t c88 (bd_of ho91 (rfl))))))))))))))))))))))) dX10_step_401
            have hok := ok_f c88 hok
            by_cases c93 : x1 = (29 : Int32)
            · refine lv_tableIn (tgt := 507) hx hb dX10_step_130 (by rw [c93]; decide) (by rw [c93]; decide) (by rw [c93]; rfl) (by decide) ?_
              have hok := ok_t c93 hok
              refine lv_aload_n hx hb dX10_step_507 rfl (lv_at hl 1 rfl) ?_
              refine hI.get (v := .ref (a 13)) hw fg_X10_51 0 rfl rfl dX10_step_508 ?_
              refine lv_iload_n hx hb dX10_step_511 rfl (lv_at hl 0 rfl) ?_
              refine lv_iconst (v := (0 : Int32)) hx hb dX10_step_512 (by decide) ?_
              have hq94 := hok.1
              have hok := hok.2
              refine hI.iast hw 13 rfl hq94 dX10_step_513 (fun H locs hw => ?_)
              have hw : Wd g A s (w_Mdl a g (((((text, size), (sv, stb)), ((var, tab), szs)), (((prg, cod), words), ((has, fpl), pos))), ((((fault, plc), (tol, tmany)), ((trc, rmany), mark)), (((pil, pmany), mks), ((upd cts v2.toNatClampNeg (0 : Int32), turns), stop))))) H locs := hw
              refine lv_iload_n hx hb dX10_step_514 rfl (lv_at hl 3 rfl) ?_
              refine lv_iconst (v := (2 : Int32)) hx hb dX10_step_515 (by decide) ?_
              refine lv_iadd hx hb dX10_step_516 ?_
              exact hI.retI (u := (((((text, size), (sv, stb)), ((var, tab), szs)), (((prg, cod), words), ((has, fpl), pos))), ((((fault, plc), (tol, tmany)), ((trc, rmany), mark)), (((pil, pmany), mks), ((upd cts v2.toNatClampNeg (0 : Int32), turns), stop))))) hw (hr.trans (congrArg (rb_X10_step (((((text, size), (sv, stb)), ((var, tab), szs)), (((prg, cod), words), ((has, fpl), pos))), ((((fault, plc), (tol, tmany)), ((trc, rmany), mark)), (((pil, pmany), mks), ((cts, turns), stop))))) ((show f_X10_step var tab szs cod tol tmany trc rmany mark pil pmany mks cts stop x1 x2 = (x2 + (2 : Int32), ((((var, tab), tol), ((tmany, trc), rmany)), (((mark, pil), pmany), ((mks, upd cts v2.toNatClampNeg (0 : Int32)), stop)))) from bd_of hv2 (it_f c3 (it_f c7 (it_f c13 (it_f c14 (it_t c15 (it_f c16 (it_f c28 (it_f c29 (it_f c33 (it_f c38 (it_f c49 (it_f c52 (it_f c59 (it_f c63 (it_f c72 (it_f c77 (it_f c88 (it_t c93 (rfl))))))))))))))))))))))) dX10_step_517
            have hok := ok_f c93 hok
            refine lv_tableOut (tgt := 518) hx hb dX10_step_130 (by have qc16 := lv_neT c16 (show ((17 : Int32)).toInt = 17 by decide); have qc28 := lv_neT c28 (show ((18 : Int32)).toInt = 18 by decide); have qc29 := lv_neT c29 (show ((19 : Int32)).toInt = 19 by decide); have qc33 := lv_neT c33 (show ((20 : Int32)).toInt = 20 by decide); have qc38 := lv_neT c38 (show ((21 : Int32)).toInt = 21 by decide); have qc49 := lv_neT c49 (show ((22 : Int32)).toInt = 22 by decide); have qc52 := lv_neT c52 (show ((23 : Int32)).toInt = 23 by decide); have qc59 := lv_neT c59 (show ((24 : Int32)).toInt = 24 by decide); have qc63 := lv_neT c63 (show ((25 : Int32)).toInt = 25 by decide); have qc72 := lv_neT c72 (show ((26 : Int32)).toInt = 26 by decide); have qc77 := lv_neT c77 (show ((27 : Int32)).toInt = 27 by decide); have qc88 := lv_neT c88 (show ((28 : Int32)).toInt = 28 by decide); have qc93 := lv_neT c93 (show ((29 : Int32)).toInt = 29 by decide); omega) (by decide) ?_
            refine lv_aload_n hx hb dX10_step_518 rfl (lv_at hl 1 rfl) ?_
            refine hI.get (v := .ref (a 13)) hw fg_X10_51 0 rfl rfl dX10_step_519 ?_
            refine lv_iload_n hx hb dX10_step_522 rfl (lv_at hl 0 rfl) ?_
            refine lv_dup2_11 hx hb dX10_step_523 rfl rfl ?_
            have hq95 := hok.1
            have hok := hok.2
            refine hI.iald hw 13 rfl hq95 dX10_step_524 ?_
            refine lv_iconst (v := (1 : Int32)) hx hb dX10_step_525 (by decide) ?_
            refine lv_iadd hx hb dX10_step_526 ?_
            have hq96 := hok.1
            have hok := hok.2
            refine hI.iast hw 13 rfl hq96 dX10_step_527 (fun H locs hw => ?_)
            have hw : Wd g A s (w_Mdl a g (((((text, size), (sv, stb)), ((var, tab), szs)), (((prg, cod), words), ((has, fpl), pos))), ((((fault, plc), (tol, tmany)), ((trc, rmany), mark)), (((pil, pmany), mks), ((upd cts v2.toNatClampNeg ((cts v2.toNatClampNeg) + (1 : Int32)), turns), stop))))) H locs := hw
            refine lv_iload_n hx hb dX10_step_528 rfl (lv_at hl 3 rfl) ?_
            refine lv_iconst (v := (2 : Int32)) hx hb dX10_step_529 (by decide) ?_
            refine lv_iadd hx hb dX10_step_530 ?_
            exact hI.retI (u := (((((text, size), (sv, stb)), ((var, tab), szs)), (((prg, cod), words), ((has, fpl), pos))), ((((fault, plc), (tol, tmany)), ((trc, rmany), mark)), (((pil, pmany), mks), ((upd cts v2.toNatClampNeg ((cts v2.toNatClampNeg) + (1 : Int32)), turns), stop))))) hw (hr.trans (congrArg (rb_X10_step (((((text, size), (sv, stb)), ((var, tab), szs)), (((prg, cod), words), ((has, fpl), pos))), ((((fault, plc), (tol, tmany)), ((trc, rmany), mark)), (((pil, pmany), mks), ((cts, turns), stop))))) ((show f_X10_step var tab szs cod tol tmany trc rmany mark pil pmany mks cts stop x1 x2 = (x2 + (2 : Int32), ((((var, tab), tol), ((tmany, trc), rmany)), (((mark, pil), pmany), ((mks, upd cts v2.toNatClampNeg ((cts v2.toNatClampNeg) + (1 : Int32))), stop)))) from bd_of hv2 (it_f c3 (it_f c7 (it_f c13 (it_f c14 (it_t c15 (it_f c16 (it_f c28 (it_f c29 (it_f c33 (it_f c38 (it_f c49 (it_f c52 (it_f c59 (it_f c63 (it_f c72 (it_f c77 (it_f c88 (it_f c93 (rfl))))))))))))))))))))))) dX10_step_531
          · have hok := ok_f c15 hok
            refine lv_iload_n hx hb dX10_step_87 rfl (lv_at hl 2 rfl) ?_
            refine lv_bipush (v := (14 : Int32)) hx hb dX10_step_88 (by decide) ?_
            refine lv_icmp_ne (tgt := 97) hx hb dX10_step_90 (by decide) (fun c97 => ?_) (fun c97 => ?_)
            · have hok := ok_f c97 hok
              refine lv_aload_n hx hb dX10_step_97 rfl (lv_at hl 1 rfl) ?_
              obtain ⟨o98, ho98⟩ : ∃ o, o = f_X10_pop pil pmany := ⟨_, rfl⟩
              have hq99 := hok.1
              have hok := hok.2
              refine hI.callI0 (wl := w_Mdl a g) (a := (((((text, size), (sv, stb)), ((var, tab), szs)), (((prg, cod), words), ((has, fpl), pos))), ((((fault, plc), (tol, tmany)), ((trc, rmany), mark)), (((pil, pmany), mks), ((cts, turns), stop))))) (r := rb_X10_pop (((((text, size), (sv, stb)), ((var, tab), szs)), (((prg, cod), words), ((has, fpl), pos))), ((((fault, plc), (tol, tmany)), ((trc, rmany), mark)), (((pil, pmany), mks), ((cts, turns), stop)))) o98) (As := []) (rest := []) hw (by rw [ho98]; exact c_X10_pop l g a text size sv stb var tab szs prg cod words has fpl pos fault plc tol tmany trc rmany mark pil pmany mks cts turns stop hq99) ok_yX10_pop ml_X10_174 (rm_ok (by decide) (by decide)) 0 rfl rfl rfl rfl hl.1 (Nat.le_of_ble_eq_true rfl) dX10_step_98 ⟨Nat.zero_le _, Nat.zero_le _⟩ (fun H locs hw => ?_)
              have hw : Wd g A s (w_Mdl a g (((((text, size), (sv, stb)), ((var, tab), szs)), (((prg, cod), words), ((has, fpl), pos))), ((((fault, plc), (tol, tmany)), ((trc, rmany), mark)), (((pil, o98.2), mks), ((cts, turns), stop))))) H locs := hw
              refine W.eq (g2 := F0 m 101 ls [.int o98.1]) rfl ?_
              have hok := bdP_use ho98 hok
              refine lv_istore (lv' := [(4, .int o98.1), (3, .int v2), (0, .ref (a 0)), (1, .int x1), (2, .int x2)]) hx hb dX10_step_101 hl (by decide) rfl (fun ls hl => ?_)
              refine lv_aload_n hx hb dX10_step_103 rfl (lv_at hl 2 rfl) ?_
              obtain ⟨o100, ho100⟩ : ∃ o, o = f_X10_pop pil o98.2 := ⟨_, rfl⟩
              have hq101 := hok.1
              have hok := hok.2
              refine hI.callI0 (wl := w_Mdl a g) (a := (((((text, size), (sv, stb)), ((var, tab), szs)), (((prg, cod), words), ((has, fpl), pos))), ((((fault, plc), (tol, tmany)), ((trc, rmany), mark)), (((pil, o98.2), mks), ((cts, turns), stop))))) (r := rb_X10_pop (((((text, size), (sv, stb)), ((var, tab), szs)), (((prg, cod), words), ((has, fpl), pos))), ((((fault, plc), (tol, tmany)), ((trc, rmany), mark)), (((pil, o98.2), mks), ((cts, turns), stop)))) o100) (As := []) (rest := []) hw (by rw [ho100]; exact c_X10_pop l g a text size sv stb var tab szs prg cod words has fpl pos fault plc tol tmany trc rmany mark pil o98.2 mks cts turns stop hq101) ok_yX10_pop ml_X10_174 (rm_ok (by decide) (by decide)) 0 rfl rfl rfl rfl hl.1 (Nat.le_of_ble_eq_true rfl) dX10_step_104 ⟨Nat.zero_le _, Nat.zero_le _⟩ (fun H locs hw => ?_)
              have hw : Wd g A s (w_Mdl a g (((((text, size), (sv, stb)), ((var, tab), szs)), (((prg, cod), words), ((has, fpl), pos))), ((((fault, plc), (tol, tmany)), ((trc, rmany), mark)), (((pil, o100.2), mks), ((cts, turns), stop))))) H locs := hw
              refine W.eq (g2 := F0 m 107 ls [.int o100.1]) rfl ?_
              have hok := bdP_use ho100 hok
              refine lv_istore (lv' := [(5, .int o100.1), (4, .int o98.1), (3, .int v2), (0, .ref (a 0)), (1, .int x1), (2, .int x2)]) hx hb dX10_step_107 hl (by decide) rfl (fun ls hl => ?_)
              refine lv_aload_n hx hb dX10_step_109 rfl (lv_at hl 3 rfl) ?_
              refine lv_aload_n hx hb dX10_step_110 rfl (lv_at hl 3 rfl) ?_
              refine lv_iload_n hx hb dX10_step_111 rfl (lv_at hl 4 rfl) ?_
              refine lv_bipush (v := (18 : Int32)) hx hb dX10_step_112 (by decide) ?_
              refine lv_iadd hx hb dX10_step_114 ?_
              refine lv_iload hx hb dX10_step_115 (lv_at hl 0 rfl) ?_
              refine lv_iload hx hb dX10_step_117 (lv_at hl 1 rfl) ?_
              obtain ⟨o102, ho102⟩ : ∃ o, o = f_X10_make stop (x1 + (18 : Int32)) o100.1 o98.1 := ⟨_, rfl⟩
              refine hI.callI0 (wl := w_Mdl a g) (a := (((((text, size), (sv, stb)), ((var, tab), szs)), (((prg, cod), words), ((has, fpl), pos))), ((((fault, plc), (tol, tmany)), ((trc, rmany), mark)), (((pil, o100.2), mks), ((cts, turns), stop))))) (r := rb_X10_make (((((text, size), (sv, stb)), ((var, tab), szs)), (((prg, cod), words), ((has, fpl), pos))), ((((fault, plc), (tol, tmany)), ((trc, rmany), mark)), (((pil, o100.2), mks), ((cts, turns), stop)))) o102) (As := [.int (x1 + (18 : Int32)), .int o100.1, .int o98.1]) (rest := [.ref (a 0)]) hw (by rw [ho102]; exact c_X10_make l g a text size sv stb var tab szs prg cod words has fpl pos fault plc tol tmany trc rmany mark pil o100.2 mks cts turns stop (x1 + (18 : Int32)) o100.1 o98.1 ) ok_yX10_make ml_X10_177 (rm_ok (by decide) (by decide)) 0 rfl rfl rfl rfl hl.1 (Nat.le_of_ble_eq_true rfl) dX10_step_119 ⟨Nat.zero_le _, Nat.zero_le _⟩ (fun H locs hw => ?_)
              have hw : Wd g A s (w_Mdl a g (((((text, size), (sv, stb)), ((var, tab), szs)), (((prg, cod), words), ((has, fpl), pos))), ((((fault, plc), (tol, tmany)), ((trc, rmany), mark)), (((pil, o100.2), mks), ((cts, turns), o102.2))))) H locs := hw
              refine W.eq (g2 := F0 m 122 ls [.int o102.1, .ref (a 0)]) rfl ?_
              have hok := bdP_use ho102 hok
              obtain ⟨o103, ho103⟩ : ∃ o, o = f_X10_push pil o100.2 o102.1 := ⟨_, rfl⟩
              have hq104 := hok.1
              have hok := hok.2
              refine hI.callV0 (wl := w_Mdl a g) (a := (((((text, size), (sv, stb)), ((var, tab), szs)), (((prg, cod), words), ((has, fpl), pos))), ((((fault, plc), (tol, tmany)), ((trc, rmany), mark)), (((pil, o100.2), mks), ((cts, turns), o102.2))))) (r := rb_X10_push (((((text, size), (sv, stb)), ((var, tab), szs)), (((prg, cod), words), ((has, fpl), pos))), ((((fault, plc), (tol, tmany)), ((trc, rmany), mark)), (((pil, o100.2), mks), ((cts, turns), o102.2)))) o103) (As := [.int o102.1]) (rest := []) hw (by rw [ho103]; exact c_X10_push l g a text size sv stb var tab szs prg cod words has fpl pos fault plc tol tmany trc rmany mark pil o100.2 mks cts turns o102.2 o102.1 hq104) ok_yX10_push ml_X10_171 (rm_ok (by decide) (by decide)) 0 rfl rfl rfl rfl hl.1 (Nat.le_of_ble_eq_true rfl) dX10_step_122 ⟨Nat.zero_le _, Nat.zero_le _⟩ (fun H locs hw => ?_)
              have hw : Wd g A s (w_Mdl a g (((((text, size), (sv, stb)), ((var, tab), szs)), (((prg, cod), words), ((has, fpl), pos))), ((((fault, plc), (tol, tmany)), ((trc, rmany), mark)), (((o103.1, o103.2), mks), ((cts, turns), o102.2))))) H locs := hw
              refine W.eq (g2 := F0 m 125 ls []) rfl ?_
              have hok := bdP_use ho103 hok
              refine lv_iload_n hx hb dX10_step_125 rfl (lv_at hl 5 rfl) ?_
              refine lv_iconst (v := (1 : Int32)) hx hb dX10_step_126 (by decide) ?_
              refine lv_iadd hx hb dX10_step_127 ?_
              exact hI.retI (u := (((((text, size), (sv, stb)), ((var, tab), szs)), (((prg, cod), words), ((has, fpl), pos))), ((((fault, plc), (tol, tmany)), ((trc, rmany), mark)), (((o103.1, o103.2), mks), ((cts, turns), o102.2))))) hw (hr.trans (congrArg (rb_X10_step (((((text, size), (sv, stb)), ((var, tab), szs)), (((prg, cod), words), ((has, fpl), pos))), ((((fault, plc), (tol, tmany)), ((trc, rmany), mark)), (((pil, pmany), mks), ((cts, turns), stop))))) ((show f_X10_step var tab szs cod tol tmany trc rmany mark pil pmany mks cts stop x1 x2 = (x2 + (1 : Int32), ((((var, tab), tol), ((tmany, trc), rmany)), (((mark, o103.1), o103.2), ((mks, cts), o102.2)))) from bd_of hv2 (it_f c3 (it_f c7 (it_f c13 (it_f c14 (it_f c15 (it_f c97 (bd_of ho98 (bd_of ho100 (bd_of ho102 (bd_of ho103 (rfl))))))))))))))) dX10_step_128
            · have hok := ok_t c97 hok
              refine lv_iconst (v := (0 : Int32)) hx hb dX10_step_93 (by decide) ?_
              refine lv_goto (tgt := 101) hx hb dX10_step_94 (by decide) ?_
              refine lv_istore (lv' := [(4, .int (0 : Int32)), (3, .int v2), (0, .ref (a 0)), (1, .int x1), (2, .int x2)]) hx hb dX10_step_101 hl (by decide) rfl (fun ls hl => ?_)
              refine lv_aload_n hx hb dX10_step_103 rfl (lv_at hl 2 rfl) ?_
              obtain ⟨o105, ho105⟩ : ∃ o, o = f_X10_pop pil pmany := ⟨_, rfl⟩
              have hq106 := hok.1
              have hok := hok.2
              refine hI.callI0 (wl := w_Mdl a g) (a := (((((text, size), (sv, stb)), ((var, tab), szs)), (((prg, cod), words), ((has, fpl), pos))), ((((fault, plc), (tol, tmany)), ((trc, rmany), mark)), (((pil, pmany), mks), ((cts, turns), stop))))) (r := rb_X10_pop (((((text, size), (sv, stb)), ((var, tab), szs)), (((prg, cod), words), ((has, fpl), pos))), ((((fault, plc), (tol, tmany)), ((trc, rmany), mark)), (((pil, pmany), mks), ((cts, turns), stop)))) o105) (As := []) (rest := []) hw (by rw [ho105]; exact c_X10_pop l g a text size sv stb var tab szs prg cod words has fpl pos fault plc tol tmany trc rmany mark pil pmany mks cts turns stop hq106) ok_yX10_pop ml_X10_174 (rm_ok (by decide) (by decide)) 0 rfl rfl rfl rfl hl.1 (Nat.le_of_ble_eq_true rfl) dX10_step_104 ⟨Nat.zero_le _, Nat.zero_le _⟩ (fun H locs hw => ?_)
              have hw : Wd g A s (w_Mdl a g (((((text, size), (sv, stb)), ((var, tab), szs)), (((prg, cod), words), ((has, fpl), pos))), ((((fault, plc), (tol, tmany)), ((trc, rmany), mark)), (((pil, o105.2), mks), ((cts, turns), stop))))) H locs := hw
              refine W.eq (g2 := F0 m 107 ls [.int o105.1]) rfl ?_
              have hok := bdP_use ho105 hok
              refine lv_istore (lv' := [(5, .int o105.1), (4, .int (0 : Int32)), (3, .int v2), (0, .ref (a 0)), (1, .int x1), (2, .int x2)]) hx hb dX10_step_107 hl (by decide) rfl (fun ls hl => ?_)
              refine lv_aload_n hx hb dX10_step_109 rfl (lv_at hl 3 rfl) ?_
              refine lv_aload_n hx hb dX10_step_110 rfl (lv_at hl 3 rfl) ?_
              refine lv_iload_n hx hb dX10_step_111 rfl (lv_at hl 4 rfl) ?_
              refine lv_bipush (v := (18 : Int32)) hx hb dX10_step_112 (by decide) ?_
              refine lv_iadd hx hb dX10_step_114 ?_
              refine lv_iload hx hb dX10_step_115 (lv_at hl 0 rfl) ?_
              refine lv_iload hx hb dX10_step_117 (lv_at hl 1 rfl) ?_
              obtain ⟨o107, ho107⟩ : ∃ o, o = f_X10_make stop (x1 + (18 : Int32)) o105.1 (0 : Int32) := ⟨_, rfl⟩
              refine hI.callI0 (wl := w_Mdl a g) (a := (((((text, size), (sv, stb)), ((var, tab), szs)), (((prg, cod), words), ((has, fpl), pos))), ((((fault, plc), (tol, tmany)), ((trc, rmany), mark)), (((pil, o105.2), mks), ((cts, turns), stop))))) (r := rb_X10_make (((((text, size), (sv, stb)), ((var, tab), szs)), (((prg, cod), words), ((has, fpl), pos))), ((((fault, plc), (tol, tmany)), ((trc, rmany), mark)), (((pil, o105.2), mks), ((cts, turns), stop)))) o107) (As := [.int (x1 + (18 : Int32)), .int o105.1, .int (0 : Int32)]) (rest := [.ref (a 0)]) hw (by rw [ho107]; exact c_X10_make l g a text size sv stb var tab szs prg cod words has fpl pos fault plc tol tmany trc rmany mark pil o105.2 mks cts turns stop (x1 + (18 : Int32)) o105.1 (0 : Int32) ) ok_yX10_make ml_X10_177 (rm_ok (by decide) (by decide)) 0 rfl rfl rfl rfl hl.1 (Nat.le_of_ble_eq_true rfl) dX10_step_119 ⟨Nat.zero_le _, Nat.zero_le _⟩ (fun H locs hw => ?_)
              have hw : Wd g A s (w_Mdl a g (((((text, size), (sv, stb)), ((var, tab), szs)), (((prg, cod), words), ((has, fpl), pos))), ((((fault, plc), (tol, tmany)), ((trc, rmany), mark)), (((pil, o105.2), mks), ((cts, turns), o107.2))))) H locs := hw
              refine W.eq (g2 := F0 m 122 ls [.int o107.1, .ref (a 0)]) rfl ?_
              have hok := bdP_use ho107 hok
              obtain ⟨o108, ho108⟩ : ∃ o, o = f_X10_push pil o105.2 o107.1 := ⟨_, rfl⟩
              have hq109 := hok.1
              have hok := hok.2
              refine hI.callV0 (wl := w_Mdl a g) (a := (((((text, size), (sv, stb)), ((var, tab), szs)), (((prg, cod), words), ((has, fpl), pos))), ((((fault, plc), (tol, tmany)), ((trc, rmany), mark)), (((pil, o105.2), mks), ((cts, turns), o107.2))))) (r := rb_X10_push (((((text, size), (sv, stb)), ((var, tab), szs)), (((prg, cod), words), ((has, fpl), pos))), ((((fault, plc), (tol, tmany)), ((trc, rmany), mark)), (((pil, o105.2), mks), ((cts, turns), o107.2)))) o108) (As := [.int o107.1]) (rest := []) hw (by rw [ho108]; exact c_X10_push l g a text size sv stb var tab szs prg cod words has fpl pos fault plc tol tmany trc rmany mark pil o105.2 mks cts turns o107.2 o107.1 hq109) ok_yX10_push ml_X10_171 (rm_ok (by decide) (by decide)) 0 rfl rfl rfl rfl hl.1 (Nat.le_of_ble_eq_true rfl) dX10_step_122 ⟨Nat.zero_le _, Nat.zero_le _⟩ (fun H locs hw => ?_)
              have hw : Wd g A s (w_Mdl a g (((((text, size), (sv, stb)), ((var, tab), szs)), (((prg, cod), words), ((has, fpl), pos))), ((((fault, plc), (tol, tmany)), ((trc, rmany), mark)), (((o108.1, o108.2), mks), ((cts, turns), o107.2))))) H locs := hw
              refine W.eq (g2 := F0 m 125 ls []) rfl ?_
              have hok := bdP_use ho108 hok
              refine lv_iload_n hx hb dX10_step_125 rfl (lv_at hl 5 rfl) ?_
              refine lv_iconst (v := (1 : Int32)) hx hb dX10_step_126 (by decide) ?_
              refine lv_iadd hx hb dX10_step_127 ?_
              exact hI.retI (u := (((((text, size), (sv, stb)), ((var, tab), szs)), (((prg, cod), words), ((has, fpl), pos))), ((((fault, plc), (tol, tmany)), ((trc, rmany), mark)), (((o108.1, o108.2), mks), ((cts, turns), o107.2))))) hw (hr.trans (congrArg (rb_X10_step (((((text, size), (sv, stb)), ((var, tab), szs)), (((prg, cod), words), ((has, fpl), pos))), ((((fault, plc), (tol, tmany)), ((trc, rmany), mark)), (((pil, pmany), mks), ((cts, turns), stop))))) ((show f_X10_step var tab szs cod tol tmany trc rmany mark pil pmany mks cts stop x1 x2 = (x2 + (1 : Int32), ((((var, tab), tol), ((tmany, trc), rmany)), (((mark, o108.1), o108.2), ((mks, cts), o107.2)))) from bd_of hv2 (it_f c3 (it_f c7 (it_f c13 (it_f c14 (it_f c15 (it_t c97 (bd_of ho105 (bd_of ho107 (bd_of ho108 (rfl)))))))))))))) dX10_step_128
        · have hok := ok_t c14 hok
          refine lv_aload_n hx hb dX10_step_67 rfl (lv_at hl 1 rfl) ?_
          refine hI.get (v := .ref (a 4)) hw fg_X10_20 0 rfl rfl dX10_step_68 ?_
          refine lv_iload_n hx hb dX10_step_71 rfl (lv_at hl 0 rfl) ?_
          refine lv_aload_n hx hb dX10_step_72 rfl (lv_at hl 1 rfl) ?_
          obtain ⟨o110, ho110⟩ : ∃ o, o = f_X10_pop pil pmany := ⟨_, rfl⟩
          have hq111 := hok.1
          have hok := hok.2
          refine hI.callI0 (wl := w_Mdl a g) (a := (((((text, size), (sv, stb)), ((var, tab), szs)), (((prg, cod), words), ((has, fpl), pos))), ((((fault, plc), (tol, tmany)), ((trc, rmany), mark)), (((pil, pmany), mks), ((cts, turns), stop))))) (r := rb_X10_pop (((((text, size), (sv, stb)), ((var, tab), szs)), (((prg, cod), words), ((has, fpl), pos))), ((((fault, plc), (tol, tmany)), ((trc, rmany), mark)), (((pil, pmany), mks), ((cts, turns), stop)))) o110) (As := []) (rest := [.int v2, .ref (a 4)]) hw (by rw [ho110]; exact c_X10_pop l g a text size sv stb var tab szs prg cod words has fpl pos fault plc tol tmany trc rmany mark pil pmany mks cts turns stop hq111) ok_yX10_pop ml_X10_174 (rm_ok (by decide) (by decide)) 0 rfl rfl rfl rfl hl.1 (Nat.le_of_ble_eq_true rfl) dX10_step_73 ⟨Nat.zero_le _, Nat.zero_le _⟩ (fun H locs hw => ?_)
          have hw : Wd g A s (w_Mdl a g (((((text, size), (sv, stb)), ((var, tab), szs)), (((prg, cod), words), ((has, fpl), pos))), ((((fault, plc), (tol, tmany)), ((trc, rmany), mark)), (((pil, o110.2), mks), ((cts, turns), stop))))) H locs := hw
          refine W.eq (g2 := F0 m 76 ls [.int o110.1, .int v2, .ref (a 4)]) rfl ?_
          have hok := bdP_use ho110 hok
          have hq112 := hok.1
          have hok := hok.2
          refine hI.iast hw 4 rfl hq112 dX10_step_76 (fun H locs hw => ?_)
          have hw : Wd g A s (w_Mdl a g (((((text, size), (sv, stb)), ((upd var v2.toNatClampNeg o110.1, tab), szs)), (((prg, cod), words), ((has, fpl), pos))), ((((fault, plc), (tol, tmany)), ((trc, rmany), mark)), (((pil, o110.2), mks), ((cts, turns), stop))))) H locs := hw
          refine lv_iload_n hx hb dX10_step_77 rfl (lv_at hl 3 rfl) ?_
          refine lv_iconst (v := (2 : Int32)) hx hb dX10_step_78 (by decide) ?_
          refine lv_iadd hx hb dX10_step_79 ?_
          exact hI.retI (u := (((((text, size), (sv, stb)), ((upd var v2.toNatClampNeg o110.1, tab), szs)), (((prg, cod), words), ((has, fpl), pos))), ((((fault, plc), (tol, tmany)), ((trc, rmany), mark)), (((pil, o110.2), mks), ((cts, turns), stop))))) hw (hr.trans (congrArg (rb_X10_step (((((text, size), (sv, stb)), ((var, tab), szs)), (((prg, cod), words), ((has, fpl), pos))), ((((fault, plc), (tol, tmany)), ((trc, rmany), mark)), (((pil, pmany), mks), ((cts, turns), stop))))) ((show f_X10_step var tab szs cod tol tmany trc rmany mark pil pmany mks cts stop x1 x2 = (x2 + (2 : Int32), ((((upd var v2.toNatClampNeg o110.1, tab), tol), ((tmany, trc), rmany)), (((mark, pil), o110.2), ((mks, cts), stop)))) from bd_of hv2 (it_f c3 (it_f c7 (it_f c13 (it_t c14 (bd_of ho110 (rfl)))))))))) dX10_step_80
      · have hok := ok_t c13 hok
        refine lv_aload_n hx hb dX10_step_25 rfl (lv_at hl 1 rfl) ?_
        refine lv_iload_n hx hb dX10_step_26 rfl (lv_at hl 2 rfl) ?_
        refine lv_iconst (v := (1 : Int32)) hx hb dX10_step_27 (by decide) ?_
        refine lv_icmp_ne (tgt := 35) hx hb dX10_step_28 (by decide) (fun c113 => ?_) (fun c113 => ?_)
        rotate_left
        · exact absurd c113 c3
        refine lv_iload_n hx hb dX10_step_35 rfl (lv_at hl 2 rfl) ?_
        refine lv_iconst (v := (2 : Int32)) hx hb dX10_step_36 (by decide) ?_
        refine lv_icmp_ne (tgt := 49) hx hb dX10_step_37 (by decide) (fun c114 => ?_) (fun c114 => ?_)
        rotate_left
        · exact absurd c114 c7
        refine lv_aload_n hx hb dX10_step_49 rfl (lv_at hl 1 rfl) ?_
        refine hI.get (v := .ref (a 13)) hw fg_X10_51 0 rfl rfl dX10_step_50 ?_
        refine lv_iload_n hx hb dX10_step_53 rfl (lv_at hl 0 rfl) ?_
        have hq115 := hok.1
        have hok := hok.2
        refine hI.iald hw 13 rfl hq115 dX10_step_54 ?_
        obtain ⟨o116, ho116⟩ : ∃ o, o = f_X10_push pil pmany (cts v2.toNatClampNeg) := ⟨_, rfl⟩
        have hq117 := hok.1
        have hok := hok.2
        refine hI.callV0 (wl := w_Mdl a g) (a := (((((text, size), (sv, stb)), ((var, tab), szs)), (((prg, cod), words), ((has, fpl), pos))), ((((fault, plc), (tol, tmany)), ((trc, rmany), mark)), (((pil, pmany), mks), ((cts, turns), stop))))) (r := rb_X10_push (((((text, size), (sv, stb)), ((var, tab), szs)), (((prg, cod), words), ((has, fpl), pos))), ((((fault, plc), (tol, tmany)), ((trc, rmany), mark)), (((pil, pmany), mks), ((cts, turns), stop)))) o116) (As := [.int (cts v2.toNatClampNeg)]) (rest := []) hw (by rw [ho116]; exact c_X10_push l g a text size sv stb var tab szs prg cod words has fpl pos fault plc tol tmany trc rmany mark pil pmany mks cts turns stop (cts v2.toNatClampNeg) hq117) ok_yX10_push ml_X10_171 (rm_ok (by decide) (by decide)) 0 rfl rfl rfl rfl hl.1 (Nat.le_of_ble_eq_true rfl) dX10_step_55 ⟨Nat.zero_le _, Nat.zero_le _⟩ (fun H locs hw => ?_)
        have hw : Wd g A s (w_Mdl a g (((((text, size), (sv, stb)), ((var, tab), szs)), (((prg, cod), words), ((has, fpl), pos))), ((((fault, plc), (tol, tmany)), ((trc, rmany), mark)), (((o116.1, o116.2), mks), ((cts, turns), stop))))) H locs := hw
        refine W.eq (g2 := F0 m 58 ls []) rfl ?_
        have hok := bdP_use ho116 hok
        refine lv_iload_n hx hb dX10_step_58 rfl (lv_at hl 3 rfl) ?_
        refine lv_iconst (v := (2 : Int32)) hx hb dX10_step_59 (by decide) ?_
        refine lv_iadd hx hb dX10_step_60 ?_
        exact hI.retI (u := (((((text, size), (sv, stb)), ((var, tab), szs)), (((prg, cod), words), ((has, fpl), pos))), ((((fault, plc), (tol, tmany)), ((trc, rmany), mark)), (((o116.1, o116.2), mks), ((cts, turns), stop))))) hw (hr.trans (congrArg (rb_X10_step (((((text, size), (sv, stb)), ((var, tab), szs)), (((prg, cod), words), ((has, fpl), pos))), ((((fault, plc), (tol, tmany)), ((trc, rmany), mark)), (((pil, pmany), mks), ((cts, turns), stop))))) ((show f_X10_step var tab szs cod tol tmany trc rmany mark pil pmany mks cts stop x1 x2 = (x2 + (2 : Int32), ((((var, tab), tol), ((tmany, trc), rmany)), (((mark, o116.1), o116.2), ((mks, cts), stop)))) from bd_of hv2 (it_f c3 (it_f c7 (it_t c13 (bd_of ho116 (rfl))))))))) dX10_step_61
def ok_X10_run_75 (szs : Nat → Int32) (cod : Nat → Int32) (has : Int32) : Nat → (Nat → Int32) → (Nat → Int32) → (Nat → Int32) → Int32 → (Nat → Int32) → Int32 → Int64 → (Nat → Int32) → Int32 → (Nat → Int32) → (Nat → Int32) → Int32 → Int32 → Int32 → Prop
  | 0, _, _, _, _, _, _, _, _, _, _, _, _, _, _ => False
  | k + 1, var, tab, tol, tmany, trc, rmany, mark, pil, pmany, mks, cts, stop, y1, y2 => if y1 = (20000 : Int32) then True else UpTo 1000000 rmany ∧ (bdP (f_X10_see trc rmany mark y2) (fun o9 => vp_in y2 4000 ∧ (bdP (cod y2.toNatClampNeg) (fun v12 => if v12 = 0 then True else ok_X10_step var tab szs cod tol tmany o9.1.1 o9.1.2 o9.2 pil pmany mks cts stop v12 y2 ∧ (bdP (f_X10_step var tab szs cod tol tmany o9.1.1 o9.1.2 o9.2 pil pmany mks cts stop v12 y2) (fun o14 => if o14.2.2.2.2 = 0 then ok_X10_run_75 szs cod has k o14.2.1.1.1.1 o14.2.1.1.1.2 o14.2.1.1.2 o14.2.1.2.1.1 o14.2.1.2.1.2 o14.2.1.2.2 o14.2.2.1.1.1 o14.2.2.1.1.2 o14.2.2.1.2 o14.2.2.2.1.1 o14.2.2.2.1.2 o14.2.2.2.2 (y1 + (1 : Int32)) o14.1 else True))))))
def f_X10_run_75 (szs : Nat → Int32) (cod : Nat → Int32) (has : Int32) : Nat → (Nat → Int32) → (Nat → Int32) → (Nat → Int32) → Int32 → (Nat → Int32) → Int32 → Int64 → (Nat → Int32) → Int32 → (Nat → Int32) → (Nat → Int32) → Int32 → Int32 → Int32 → (Int32 × (((((Nat → Int32) × (Nat → Int32)) × (Nat → Int32)) × ((Int32 × (Nat → Int32)) × Int32)) × (((Int64 × (Nat → Int32)) × Int32) × (((Nat → Int32) × (Nat → Int32)) × Int32))))
  | 0, var, tab, tol, tmany, trc, rmany, mark, pil, pmany, mks, cts, stop, y1, y2 => (0, ((((var, tab), tol), ((tmany, trc), rmany)), (((mark, pil), pmany), ((mks, cts), stop))))
  | k + 1, var, tab, tol, tmany, trc, rmany, mark, pil, pmany, mks, cts, stop, y1, y2 => if y1 = (20000 : Int32) then ((-4 : Int32), ((((var, tab), tol), ((tmany, trc), rmany)), (((mark, pil), pmany), ((mks, cts), stop)))) else bd (f_X10_see trc rmany mark y2) (fun o9 => bd (cod y2.toNatClampNeg) (fun v12 => if v12 = 0 then (y1 + (1 : Int32), ((((var, tab), tol), ((tmany, o9.1.1), o9.1.2)), (((o9.2, pil), pmany), ((mks, cts), stop)))) else bd (f_X10_step var tab szs cod tol tmany o9.1.1 o9.1.2 o9.2 pil pmany mks cts stop v12 y2) (fun o14 => if o14.2.2.2.2 = 0 then f_X10_run_75 szs cod has k o14.2.1.1.1.1 o14.2.1.1.1.2 o14.2.1.1.2 o14.2.1.2.1.1 o14.2.1.2.1.2 o14.2.1.2.2 o14.2.2.1.1.1 o14.2.2.1.1.2 o14.2.2.1.2 o14.2.2.2.1.1 o14.2.2.2.1.2 o14.2.2.2.2 (y1 + (1 : Int32)) o14.1 else (o14.2.2.2.2, ((((o14.2.1.1.1.1, o14.2.1.1.1.2), o14.2.1.1.2), ((o14.2.1.2.1.1, o14.2.1.2.1.2), o14.2.1.2.2)), (((o14.2.2.1.1.1, o14.2.2.1.1.2), o14.2.2.1.2), ((o14.2.2.2.1.1, o14.2.2.2.1.2), o14.2.2.2.2)))))))
def ok_X10_run_32 (szs : Nat → Int32) (cod : Nat → Int32) (has : Int32) : Nat → (Nat → Int32) → (Nat → Int32) → (Nat → Int32) → Int32 → (Nat → Int32) → Int32 → Int64 → (Nat → Int32) → Int32 → (Nat → Int32) → (Nat → Int32) → Int32 → Int32 → Prop
  | 0, _, _, _, _, _, _, _, _, _, _, _, _, _ => False
  | k + 1, var, tab, tol, tmany, trc, rmany, mark, pil, pmany, mks, cts, stop, y1 => if (14 : Int32) ≤ y1 then ok_X10_run_75 szs cod has 20001 var tab tol tmany trc rmany mark pil pmany mks cts (0 : Int32) (0 : Int32) (0 : Int32) else if y1 = 0 then vp_in y1 14 ∧ (vp_in y1 14 ∧ (ok_X10_run_32 szs cod has k var tab tol tmany trc rmany mark pil pmany (upd mks y1.toNatClampNeg (-1 : Int32)) (upd cts y1.toNatClampNeg (0 : Int32)) stop (y1 + (1 : Int32)))) else vp_in y1 14 ∧ (vp_in y1 14 ∧ (ok_X10_run_32 szs cod has k var tab tol tmany trc rmany mark pil pmany (upd mks y1.toNatClampNeg (0 : Int32)) (upd cts y1.toNatClampNeg (0 : Int32)) stop (y1 + (1 : Int32))))
def f_X10_run_32 (szs : Nat → Int32) (cod : Nat → Int32) (has : Int32) : Nat → (Nat → Int32) → (Nat → Int32) → (Nat → Int32) → Int32 → (Nat → Int32) → Int32 → Int64 → (Nat → Int32) → Int32 → (Nat → Int32) → (Nat → Int32) → Int32 → Int32 → (Int32 × (((((Nat → Int32) × (Nat → Int32)) × (Nat → Int32)) × ((Int32 × (Nat → Int32)) × Int32)) × (((Int64 × (Nat → Int32)) × Int32) × (((Nat → Int32) × (Nat → Int32)) × Int32))))
  | 0, var, tab, tol, tmany, trc, rmany, mark, pil, pmany, mks, cts, stop, y1 => (0, ((((var, tab), tol), ((tmany, trc), rmany)), (((mark, pil), pmany), ((mks, cts), stop))))
  | k + 1, var, tab, tol, tmany, trc, rmany, mark, pil, pmany, mks, cts, stop, y1 => if (14 : Int32) ≤ y1 then f_X10_run_75 szs cod has 20001 var tab tol tmany trc rmany mark pil pmany mks cts (0 : Int32) (0 : Int32) (0 : Int32) else if y1 = 0 then f_X10_run_32 szs cod has k var tab tol tmany trc rmany mark pil pmany (upd mks y1.toNatClampNeg (-1 : Int32)) (upd cts y1.toNatClampNeg (0 : Int32)) stop (y1 + (1 : Int32)) else f_X10_run_32 szs cod has k var tab tol tmany trc rmany mark pil pmany (upd mks y1.toNatClampNeg (0 : Int32)) (upd cts y1.toNatClampNeg (0 : Int32)) stop (y1 + (1 : Int32))
def f_X10_run (var : Nat → Int32) (tab : Nat → Int32) (szs : Nat → Int32) (cod : Nat → Int32) (has : Int32) (tol : Nat → Int32) (tmany : Int32) (trc : Nat → Int32) (rmany : Int32) (mark : Int64) (pil : Nat → Int32) (pmany : Int32) (mks : Nat → Int32) (cts : Nat → Int32) (stop : Int32) : Int32 × (((((Nat → Int32) × (Nat → Int32)) × (Nat → Int32)) × ((Int32 × (Nat → Int32)) × Int32)) × (((Int64 × (Nat → Int32)) × Int32) × (((Nat → Int32) × (Nat → Int32)) × Int32))) := if has = 0 then ((-2 : Int32), ((((var, tab), tol), ((tmany, trc), rmany)), (((mark, pil), pmany), ((mks, cts), stop)))) else f_X10_run_32 szs cod has 15 var tab tol (0 : Int32) trc (0 : Int32) (0 : Int64) pil (0 : Int32) mks cts stop (0 : Int32)
def ok_X10_run (var : Nat → Int32) (tab : Nat → Int32) (szs : Nat → Int32) (cod : Nat → Int32) (has : Int32) (tol : Nat → Int32) (tmany : Int32) (trc : Nat → Int32) (rmany : Int32) (mark : Int64) (pil : Nat → Int32) (pmany : Int32) (mks : Nat → Int32) (cts : Nat → Int32) (stop : Int32) : Prop := if has = 0 then True else ok_X10_run_32 szs cod has 15 var tab tol (0 : Int32) trc (0 : Int32) (0 : Int64) pil (0 : Int32) mks cts stop (0 : Int32)
def rb_X10_run (σ : S_Mdl) (o : Int32 × (((((Nat → Int32) × (Nat → Int32)) × (Nat → Int32)) × ((Int32 × (Nat → Int32)) × Int32)) × (((Int64 × (Nat → Int32)) × Int32) × (((Nat → Int32) × (Nat → Int32)) × Int32)))) : Int32 × S_Mdl := (o.1, (((((σ.1.1.1.1.1, σ.1.1.1.1.2), (σ.1.1.1.2.1, σ.1.1.1.2.2)), ((o.2.1.1.1.1, o.2.1.1.1.2), σ.1.1.2.2)), (((σ.1.2.1.1.1, σ.1.2.1.1.2), σ.1.2.1.2), ((σ.1.2.2.1.1, σ.1.2.2.1.2), σ.1.2.2.2))), ((((σ.2.1.1.1.1, σ.2.1.1.1.2), (o.2.1.1.2, o.2.1.2.1.1)), ((o.2.1.2.1.2, o.2.1.2.2), o.2.2.1.1.1)), (((o.2.2.1.1.2, o.2.2.1.2), o.2.2.2.1.1), ((o.2.2.2.1.2, σ.2.2.2.1.2), o.2.2.2.2)))))
set_option maxHeartbeats 4000000 in
set_option maxRecDepth 100000 in
theorem lp_X10_run_75 (l : Launch) (g : GG) (a : Nat → Nat) (text : Nat → Int32) (size : Int32) (sv : Nat → Int32) (stb : Nat → Int32) (var₀ : Nat → Int32) (tab₀ : Nat → Int32) (szs : Nat → Int32) (prg : Nat → Int32) (cod : Nat → Int32) (words : Int32) (has : Int32) (fpl : Int32) (pos : Int32) (fault : Int32) (plc : Int32) (tol₀ : Nat → Int32) (tmany₀ : Int32) (trc₀ : Nat → Int32) (rmany₀ : Int32) (mark₀ : Int64) (pil₀ : Nat → Int32) (pmany₀ : Int32) (mks₀ : Nat → Int32) (cts₀ : Nat → Int32) (turns : Int32) (stop₀ : Int32)  {p : Program} {e : Env} {s : State} {m : MethodId} {args : Array Value} {below : List Frame} {meth : Method} {c : Code} {A : Nat → Prop} (hI : InM p s m args meth c RX10 cX10_run 4 (some .int) g A) : ∀ (k : Nat) (var : Nat → Int32) (tab : Nat → Int32) (tol : Nat → Int32) (tmany : Int32) (trc : Nat → Int32) (rmany : Int32) (mark : Int64) (pil : Nat → Int32) (pmany : Int32) (mks : Nat → Int32) (cts : Nat → Int32) (stop : Int32) (y1 : Int32) (y2 : Int32), (ok_X10_run_75 szs cod has k var tab tol tmany trc rmany mark pil pmany mks cts stop y1 y2) → ∀ (r : Int32 × S_Mdl), r = rb_X10_run (((((text, size), (sv, stb)), ((var₀, tab₀), szs)), (((prg, cod), words), ((has, fpl), pos))), ((((fault, plc), (tol₀, tmany₀)), ((trc₀, rmany₀), mark₀)), (((pil₀, pmany₀), mks₀), ((cts₀, turns), stop₀)))) (f_X10_run_75 szs cod has k var tab tol tmany trc rmany mark pil pmany mks cts stop y1 y2) → ∀ (H : Heap) (locs : List Loc), Wd g A s (w_Mdl a g (((((text, size), (sv, stb)), ((var, tab), szs)), (((prg, cod), words), ((has, fpl), pos))), ((((fault, plc), (tol, tmany)), ((trc, rmany), mark)), (((pil, pmany), mks), ((cts, turns), stop))))) H locs → ∀ (ls : Array Slot), lv_has ls 4 [(0, .ref (a 0)), (1, .int y1), (2, .int y2)] → W p l e (rmN 4) s m args below meth c H locs 0 0 (QI g (w_Mdl a g) A r below args s) (F0 m 75 ls []) := by
  have hx := hI.1
  have hb := hI.2.1
  intro k
  induction k with
  | zero =>
    intro var tab tol tmany trc rmany mark pil pmany mks cts stop y1 y2 hok
    exact hok.elim
  | succ k ih =>
    intro var tab tol tmany trc rmany mark pil pmany mks cts stop y1 y2 hok r hr H locs hw ls hl
    refine lv_iload_n hx hb dX10_run_75 rfl (lv_at hl 1 rfl) ?_
    refine lv_sipush (v := (20000 : Int32)) hx hb dX10_run_76 (by decide) ?_
    refine lv_icmp_ne (tgt := 85) hx hb dX10_run_79 (by decide) (fun c8 => ?_) (fun c8 => ?_)
    · have hok := ok_f c8 hok
      refine lv_iinc (v := y1 + (1 : Int32)) (lv' := [(1, .int (y1 + (1 : Int32))), (0, .ref (a 0)), (2, .int y2)]) hx hb dX10_run_85 hl (k := 1) rfl rfl (by decide) rfl (fun ls hl => ?_)
      refine lv_aload_n hx hb dX10_run_88 rfl (lv_at hl 1 rfl) ?_
      refine lv_iload_n hx hb dX10_run_89 rfl (lv_at hl 2 rfl) ?_
      obtain ⟨o9, ho9⟩ : ∃ o, o = f_X10_see trc rmany mark y2 := ⟨_, rfl⟩
      have hq10 := hok.1
      have hok := hok.2
      refine hI.callV0 (wl := w_Mdl a g) (a := (((((text, size), (sv, stb)), ((var, tab), szs)), (((prg, cod), words), ((has, fpl), pos))), ((((fault, plc), (tol, tmany)), ((trc, rmany), mark)), (((pil, pmany), mks), ((cts, turns), stop))))) (r := rb_X10_see (((((text, size), (sv, stb)), ((var, tab), szs)), (((prg, cod), words), ((has, fpl), pos))), ((((fault, plc), (tol, tmany)), ((trc, rmany), mark)), (((pil, pmany), mks), ((cts, turns), stop)))) o9) (As := [.int y2]) (rest := []) hw (by rw [ho9]; exact c_X10_see l g a text size sv stb var tab szs prg cod words has fpl pos fault plc tol tmany trc rmany mark pil pmany mks cts turns stop y2 hq10) ok_yX10_see ml_X10_164 (rm_ok (by decide) (by decide)) 0 rfl rfl rfl rfl hl.1 (Nat.le_of_ble_eq_true rfl) dX10_run_90 ⟨Nat.zero_le _, Nat.zero_le _⟩ (fun H locs hw => ?_)
      have hw : Wd g A s (w_Mdl a g (((((text, size), (sv, stb)), ((var, tab), szs)), (((prg, cod), words), ((has, fpl), pos))), ((((fault, plc), (tol, tmany)), ((o9.1.1, o9.1.2), o9.2)), (((pil, pmany), mks), ((cts, turns), stop))))) H locs := hw
      refine W.eq (g2 := F0 m 93 ls []) rfl ?_
      have hok := bdP_use ho9 hok
      refine lv_aload_n hx hb dX10_run_93 rfl (lv_at hl 1 rfl) ?_
      refine hI.get (v := .ref (a 8)) hw fg_X10_32 0 rfl rfl dX10_run_94 ?_
      refine lv_iload_n hx hb dX10_run_97 rfl (lv_at hl 2 rfl) ?_
      have hq11 := hok.1
      have hok := hok.2
      refine hI.iald hw 8 rfl hq11 dX10_run_98 ?_
      refine lv_topi (fun v12 hv12 => ?_)
      have hok := bdP_use hv12 hok
      refine lv_istore_n (lv' := [(3, .int v12), (1, .int (y1 + (1 : Int32))), (0, .ref (a 0)), (2, .int y2)]) hx hb dX10_run_99 rfl hl (by decide) rfl (fun ls hl => ?_)
      refine lv_iload_n hx hb dX10_run_100 rfl (lv_at hl 0 rfl) ?_
      refine lv_if_ne (tgt := 106) hx hb dX10_run_101 (by decide) (fun c13 => ?_) (fun c13 => ?_)
      · have hok := ok_f c13 hok
        refine lv_aload_n hx hb dX10_run_106 rfl (lv_at hl 2 rfl) ?_
        refine lv_iload_n hx hb dX10_run_107 rfl (lv_at hl 0 rfl) ?_
        refine lv_iload_n hx hb dX10_run_108 rfl (lv_at hl 3 rfl) ?_
        have hq15 := hok.1
        have hok := hok.2
        obtain ⟨o14, ho14⟩ : ∃ o, o = f_X10_step var tab szs cod tol tmany o9.1.1 o9.1.2 o9.2 pil pmany mks cts stop v12 y2 := ⟨_, rfl⟩
        refine hI.callI0 (wl := w_Mdl a g) (a := (((((text, size), (sv, stb)), ((var, tab), szs)), (((prg, cod), words), ((has, fpl), pos))), ((((fault, plc), (tol, tmany)), ((o9.1.1, o9.1.2), o9.2)), (((pil, pmany), mks), ((cts, turns), stop))))) (r := rb_X10_step (((((text, size), (sv, stb)), ((var, tab), szs)), (((prg, cod), words), ((has, fpl), pos))), ((((fault, plc), (tol, tmany)), ((o9.1.1, o9.1.2), o9.2)), (((pil, pmany), mks), ((cts, turns), stop)))) o14) (As := [.int v12, .int y2]) (rest := []) hw (by rw [ho14]; exact c_X10_step l g a text size sv stb var tab szs prg cod words has fpl pos fault plc tol tmany o9.1.1 o9.1.2 o9.2 pil pmany mks cts turns stop v12 y2 hq15) ok_yX10_step ml_X10_167 (rm_ok (by decide) (by decide)) 0 rfl rfl rfl rfl hl.1 (Nat.le_of_ble_eq_true rfl) dX10_run_109 ⟨Nat.zero_le _, Nat.zero_le _⟩ (fun H locs hw => ?_)
        have hw : Wd g A s (w_Mdl a g (((((text, size), (sv, stb)), ((o14.2.1.1.1.1, o14.2.1.1.1.2), szs)), (((prg, cod), words), ((has, fpl), pos))), ((((fault, plc), (o14.2.1.1.2, o14.2.1.2.1.1)), ((o14.2.1.2.1.2, o14.2.1.2.2), o14.2.2.1.1.1)), (((o14.2.2.1.1.2, o14.2.2.1.2), o14.2.2.2.1.1), ((o14.2.2.2.1.2, turns), o14.2.2.2.2))))) H locs := hw
        refine W.eq (g2 := F0 m 112 ls [.int o14.1]) rfl ?_
        have hok := bdP_use ho14 hok
        refine lv_istore_n (lv' := [(2, .int o14.1), (3, .int v12), (1, .int (y1 + (1 : Int32))), (0, .ref (a 0))]) hx hb dX10_run_112 rfl hl (by decide) rfl (fun ls hl => ?_)
        refine lv_aload_n hx hb dX10_run_113 rfl (lv_at hl 3 rfl) ?_
        refine hI.get (v := .int o14.2.2.2.2) hw fg_X10_146 0 rfl rfl dX10_run_114 ?_
        refine lv_if_eq (tgt := 125) hx hb dX10_run_117 (by decide) (fun c16 => ?_) (fun c16 => ?_)
        · have hok := ok_t c16 hok
          refine lv_goto (tgt := 75) hx hb dX10_run_125 (by decide) ?_
          exact ih o14.2.1.1.1.1 o14.2.1.1.1.2 o14.2.1.1.2 o14.2.1.2.1.1 o14.2.1.2.1.2 o14.2.1.2.2 o14.2.2.1.1.1 o14.2.2.1.1.2 o14.2.2.1.2 o14.2.2.2.1.1 o14.2.2.2.1.2 o14.2.2.2.2 (y1 + (1 : Int32)) o14.1 hok r (hr.trans (congrArg (rb_X10_run (((((text, size), (sv, stb)), ((var₀, tab₀), szs)), (((prg, cod), words), ((has, fpl), pos))), ((((fault, plc), (tol₀, tmany₀)), ((trc₀, rmany₀), mark₀)), (((pil₀, pmany₀), mks₀), ((cts₀, turns), stop₀))))) ((show f_X10_run_75 szs cod has (k + 1) var tab tol tmany trc rmany mark pil pmany mks cts stop y1 y2 = f_X10_run_75 szs cod has k o14.2.1.1.1.1 o14.2.1.1.1.2 o14.2.1.1.2 o14.2.1.2.1.1 o14.2.1.2.1.2 o14.2.1.2.2 o14.2.2.1.1.1 o14.2.2.1.1.2 o14.2.2.1.2 o14.2.2.2.1.1 o14.2.2.2.1.2 o14.2.2.2.2 (y1 + (1 : Int32)) o14.1 from it_f c8 (bd_of ho9 (bd_of hv12 (it_f c13 (bd_of ho14 (it_t c16 (rfl)))))))))) _ _ hw _ (lv_sub hl [3, 2, 0] rfl)
        · have hok := ok_f c16 hok
          refine lv_aload_n hx hb dX10_run_120 rfl (lv_at hl 3 rfl) ?_
          refine hI.get (v := .int o14.2.2.2.2) hw fg_X10_146 0 rfl rfl dX10_run_121 ?_
          exact hI.retI (u := (((((text, size), (sv, stb)), ((o14.2.1.1.1.1, o14.2.1.1.1.2), szs)), (((prg, cod), words), ((has, fpl), pos))), ((((fault, plc), (o14.2.1.1.2, o14.2.1.2.1.1)), ((o14.2.1.2.1.2, o14.2.1.2.2), o14.2.2.1.1.1)), (((o14.2.2.1.1.2, o14.2.2.1.2), o14.2.2.2.1.1), ((o14.2.2.2.1.2, turns), o14.2.2.2.2))))) hw (hr.trans (congrArg (rb_X10_run (((((text, size), (sv, stb)), ((var₀, tab₀), szs)), (((prg, cod), words), ((has, fpl), pos))), ((((fault, plc), (tol₀, tmany₀)), ((trc₀, rmany₀), mark₀)), (((pil₀, pmany₀), mks₀), ((cts₀, turns), stop₀))))) ((show f_X10_run_75 szs cod has (k + 1) var tab tol tmany trc rmany mark pil pmany mks cts stop y1 y2 = (o14.2.2.2.2, ((((o14.2.1.1.1.1, o14.2.1.1.1.2), o14.2.1.1.2), ((o14.2.1.2.1.1, o14.2.1.2.1.2), o14.2.1.2.2)), (((o14.2.2.1.1.1, o14.2.2.1.1.2), o14.2.2.1.2), ((o14.2.2.2.1.1, o14.2.2.2.1.2), o14.2.2.2.2)))) from it_f c8 (bd_of ho9 (bd_of hv12 (it_f c13 (bd_of ho14 (it_f c16 (rfl)))))))))) dX10_run_124
      · have hok := ok_t c13 hok
        refine lv_iload_n hx hb dX10_run_104 rfl (lv_at hl 1 rfl) ?_
        exact hI.retI (u := (((((text, size), (sv, stb)), ((var, tab), szs)), (((prg, cod), words), ((has, fpl), pos))), ((((fault, plc), (tol, tmany)), ((o9.1.1, o9.1.2), o9.2)), (((pil, pmany), mks), ((cts, turns), stop))))) hw (hr.trans (congrArg (rb_X10_run (((((text, size), (sv, stb)), ((var₀, tab₀), szs)), (((prg, cod), words), ((has, fpl), pos))), ((((fault, plc), (tol₀, tmany₀)), ((trc₀, rmany₀), mark₀)), (((pil₀, pmany₀), mks₀), ((cts₀, turns), stop₀))))) ((show f_X10_run_75 szs cod has (k + 1) var tab tol tmany trc rmany mark pil pmany mks cts stop y1 y2 = (y1 + (1 : Int32), ((((var, tab), tol), ((tmany, o9.1.1), o9.1.2)), (((o9.2, pil), pmany), ((mks, cts), stop)))) from it_f c8 (bd_of ho9 (bd_of hv12 (it_t c13 (rfl)))))))) dX10_run_105
    · have hok := ok_t c8 hok
      refine lv_bipush (v := (-4 : Int32)) hx hb dX10_run_82 (by decide) ?_
      exact hI.retI (u := (((((text, size), (sv, stb)), ((var, tab), szs)), (((prg, cod), words), ((has, fpl), pos))), ((((fault, plc), (tol, tmany)), ((trc, rmany), mark)), (((pil, pmany), mks), ((cts, turns), stop))))) hw (hr.trans (congrArg (rb_X10_run (((((text, size), (sv, stb)), ((var₀, tab₀), szs)), (((prg, cod), words), ((has, fpl), pos))), ((((fault, plc), (tol₀, tmany₀)), ((trc₀, rmany₀), mark₀)), (((pil₀, pmany₀), mks₀), ((cts₀, turns), stop₀))))) ((show f_X10_run_75 szs cod has (k + 1) var tab tol tmany trc rmany mark pil pmany mks cts stop y1 y2 = ((-4 : Int32), ((((var, tab), tol), ((tmany, trc), rmany)), (((mark, pil), pmany), ((mks, cts), stop)))) from it_t c8 (rfl))))) dX10_run_84
set_option maxHeartbeats 4000000 in
set_option maxRecDepth 100000 in
theorem lp_X10_run_32 (l : Launch) (g : GG) (a : Nat → Nat) (text : Nat → Int32) (size : Int32) (sv : Nat → Int32) (stb : Nat → Int32) (var₀ : Nat → Int32) (tab₀ : Nat → Int32) (szs : Nat → Int32) (prg : Nat → Int32) (cod : Nat → Int32) (words : Int32) (has : Int32) (fpl : Int32) (pos : Int32) (fault : Int32) (plc : Int32) (tol₀ : Nat → Int32) (tmany₀ : Int32) (trc₀ : Nat → Int32) (rmany₀ : Int32) (mark₀ : Int64) (pil₀ : Nat → Int32) (pmany₀ : Int32) (mks₀ : Nat → Int32) (cts₀ : Nat → Int32) (turns : Int32) (stop₀ : Int32)  {p : Program} {e : Env} {s : State} {m : MethodId} {args : Array Value} {below : List Frame} {meth : Method} {c : Code} {A : Nat → Prop} (hI : InM p s m args meth c RX10 cX10_run 4 (some .int) g A) : ∀ (k : Nat) (var : Nat → Int32) (tab : Nat → Int32) (tol : Nat → Int32) (tmany : Int32) (trc : Nat → Int32) (rmany : Int32) (mark : Int64) (pil : Nat → Int32) (pmany : Int32) (mks : Nat → Int32) (cts : Nat → Int32) (stop : Int32) (y1 : Int32), (ok_X10_run_32 szs cod has k var tab tol tmany trc rmany mark pil pmany mks cts stop y1) → ∀ (r : Int32 × S_Mdl), r = rb_X10_run (((((text, size), (sv, stb)), ((var₀, tab₀), szs)), (((prg, cod), words), ((has, fpl), pos))), ((((fault, plc), (tol₀, tmany₀)), ((trc₀, rmany₀), mark₀)), (((pil₀, pmany₀), mks₀), ((cts₀, turns), stop₀)))) (f_X10_run_32 szs cod has k var tab tol tmany trc rmany mark pil pmany mks cts stop y1) → ∀ (H : Heap) (locs : List Loc), Wd g A s (w_Mdl a g (((((text, size), (sv, stb)), ((var, tab), szs)), (((prg, cod), words), ((has, fpl), pos))), ((((fault, plc), (tol, tmany)), ((trc, rmany), mark)), (((pil, pmany), mks), ((cts, turns), stop))))) H locs → ∀ (ls : Array Slot), lv_has ls 4 [(0, .ref (a 0)), (1, .int y1)] → W p l e (rmN 4) s m args below meth c H locs 0 0 (QI g (w_Mdl a g) A r below args s) (F0 m 32 ls []) := by
  have hx := hI.1
  have hb := hI.2.1
  intro k
  induction k with
  | zero =>
    intro var tab tol tmany trc rmany mark pil pmany mks cts stop y1 hok
    exact hok.elim
  | succ k ih =>
    intro var tab tol tmany trc rmany mark pil pmany mks cts stop y1 hok r hr H locs hw ls hl
    refine lv_iload_n hx hb dX10_run_32 rfl (lv_at hl 1 rfl) ?_
    refine lv_bipush (v := (14 : Int32)) hx hb dX10_run_33 (by decide) ?_
    refine lv_icmp_ge (tgt := 66) hx hb dX10_run_35 (by decide) (fun c2 => ?_) (fun c2 => ?_)
    · have hok := ok_t c2 hok
      refine lv_aload_n hx hb dX10_run_66 rfl (lv_at hl 0 rfl) ?_
      refine lv_iconst (v := (0 : Int32)) hx hb dX10_run_67 (by decide) ?_
      refine hI.put hw fp_X10_146 rfl 0 rfl rfl rfl (Nat.le_of_ble_eq_true rfl) dX10_run_68 (fun H locs hw => ?_)
      have hw : Wd g A s (w_Mdl a g (((((text, size), (sv, stb)), ((var, tab), szs)), (((prg, cod), words), ((has, fpl), pos))), ((((fault, plc), (tol, tmany)), ((trc, rmany), mark)), (((pil, pmany), mks), ((cts, turns), (0 : Int32)))))) H locs := hw
      refine lv_iconst (v := (0 : Int32)) hx hb dX10_run_71 (by decide) ?_
      refine lv_istore_n (lv' := [(1, .int (0 : Int32)), (0, .ref (a 0))]) hx hb dX10_run_72 rfl hl (by decide) rfl (fun ls hl => ?_)
      refine lv_iconst (v := (0 : Int32)) hx hb dX10_run_73 (by decide) ?_
      refine lv_istore_n (lv' := [(2, .int (0 : Int32)), (1, .int (0 : Int32)), (0, .ref (a 0))]) hx hb dX10_run_74 rfl hl (by decide) rfl (fun ls hl => ?_)
      exact lp_X10_run_75 l g a text size sv stb var₀ tab₀ szs prg cod words has fpl pos fault plc tol₀ tmany₀ trc₀ rmany₀ mark₀ pil₀ pmany₀ mks₀ cts₀ turns stop₀ hI 20001 var tab tol tmany trc rmany mark pil pmany mks cts (0 : Int32) (0 : Int32) (0 : Int32) hok r (hr.trans (congrArg (rb_X10_run (((((text, size), (sv, stb)), ((var₀, tab₀), szs)), (((prg, cod), words), ((has, fpl), pos))), ((((fault, plc), (tol₀, tmany₀)), ((trc₀, rmany₀), mark₀)), (((pil₀, pmany₀), mks₀), ((cts₀, turns), stop₀))))) ((show f_X10_run_32 szs cod has (k + 1) var tab tol tmany trc rmany mark pil pmany mks cts stop y1 = f_X10_run_75 szs cod has 20001 var tab tol tmany trc rmany mark pil pmany mks cts (0 : Int32) (0 : Int32) (0 : Int32) from it_t c2 (rfl))))) _ _ hw _ (lv_sub hl [2, 1, 0] rfl)
    · have hok := ok_f c2 hok
      refine lv_aload_n hx hb dX10_run_38 rfl (lv_at hl 0 rfl) ?_
      refine hI.get (v := .ref (a 12)) hw fg_X10_48 0 rfl rfl dX10_run_39 ?_
      refine lv_iload_n hx hb dX10_run_42 rfl (lv_at hl 1 rfl) ?_
      refine lv_iload_n hx hb dX10_run_43 rfl (lv_at hl 1 rfl) ?_
      refine lv_if_ne (tgt := 51) hx hb dX10_run_44 (by decide) (fun c3 => ?_) (fun c3 => ?_)
      · have hok := ok_f c3 hok
        refine lv_iconst (v := (0 : Int32)) hx hb dX10_run_51 (by decide) ?_
        have hq4 := hok.1
        have hok := hok.2
        refine hI.iast hw 12 rfl hq4 dX10_run_52 (fun H locs hw => ?_)
        have hw : Wd g A s (w_Mdl a g (((((text, size), (sv, stb)), ((var, tab), szs)), (((prg, cod), words), ((has, fpl), pos))), ((((fault, plc), (tol, tmany)), ((trc, rmany), mark)), (((pil, pmany), upd mks y1.toNatClampNeg (0 : Int32)), ((cts, turns), stop))))) H locs := hw
        refine lv_aload_n hx hb dX10_run_53 rfl (lv_at hl 0 rfl) ?_
        refine hI.get (v := .ref (a 13)) hw fg_X10_51 0 rfl rfl dX10_run_54 ?_
        refine lv_iload_n hx hb dX10_run_57 rfl (lv_at hl 1 rfl) ?_
        refine lv_iconst (v := (0 : Int32)) hx hb dX10_run_58 (by decide) ?_
        have hq5 := hok.1
        have hok := hok.2
        refine hI.iast hw 13 rfl hq5 dX10_run_59 (fun H locs hw => ?_)
        have hw : Wd g A s (w_Mdl a g (((((text, size), (sv, stb)), ((var, tab), szs)), (((prg, cod), words), ((has, fpl), pos))), ((((fault, plc), (tol, tmany)), ((trc, rmany), mark)), (((pil, pmany), upd mks y1.toNatClampNeg (0 : Int32)), ((upd cts y1.toNatClampNeg (0 : Int32), turns), stop))))) H locs := hw
        refine lv_iinc (v := y1 + (1 : Int32)) (lv' := [(1, .int (y1 + (1 : Int32))), (0, .ref (a 0))]) hx hb dX10_run_60 hl (k := 1) rfl rfl (by decide) rfl (fun ls hl => ?_)
        refine lv_goto (tgt := 32) hx hb dX10_run_63 (by decide) ?_
        exact ih var tab tol tmany trc rmany mark pil pmany (upd mks y1.toNatClampNeg (0 : Int32)) (upd cts y1.toNatClampNeg (0 : Int32)) stop (y1 + (1 : Int32)) hok r (hr.trans (congrArg (rb_X10_run (((((text, size), (sv, stb)), ((var₀, tab₀), szs)), (((prg, cod), words), ((has, fpl), pos))), ((((fault, plc), (tol₀, tmany₀)), ((trc₀, rmany₀), mark₀)), (((pil₀, pmany₀), mks₀), ((cts₀, turns), stop₀))))) ((show f_X10_run_32 szs cod has (k + 1) var tab tol tmany trc rmany mark pil pmany mks cts stop y1 = f_X10_run_32 szs cod has k var tab tol tmany trc rmany mark pil pmany (upd mks y1.toNatClampNeg (0 : Int32)) (upd cts y1.toNatClampNeg (0 : Int32)) stop (y1 + (1 : Int32)) from it_f c2 (it_f c3 (rfl)))))) _ _ hw _ (lv_sub hl [1, 0] rfl)
      · have hok := ok_t c3 hok
        refine lv_iconst (v := (-1 : Int32)) hx hb dX10_run_47 (by decide) ?_
        refine lv_goto (tgt := 52) hx hb dX10_run_48 (by decide) ?_
        have hq6 := hok.1
        have hok := hok.2
        refine hI.iast hw 12 rfl hq6 dX10_run_52 (fun H locs hw => ?_)
        have hw : Wd g A s (w_Mdl a g (((((text, size), (sv, stb)), ((var, tab), szs)), (((prg, cod), words), ((has, fpl), pos))), ((((fault, plc), (tol, tmany)), ((trc, rmany), mark)), (((pil, pmany), upd mks y1.toNatClampNeg (-1 : Int32)), ((cts, turns), stop))))) H locs := hw
        refine lv_aload_n hx hb dX10_run_53 rfl (lv_at hl 0 rfl) ?_
        refine hI.get (v := .ref (a 13)) hw fg_X10_51 0 rfl rfl dX10_run_54 ?_
        refine lv_iload_n hx hb dX10_run_57 rfl (lv_at hl 1 rfl) ?_
        refine lv_iconst (v := (0 : Int32)) hx hb dX10_run_58 (by decide) ?_
        have hq7 := hok.1
        have hok := hok.2
        refine hI.iast hw 13 rfl hq7 dX10_run_59 (fun H locs hw => ?_)
        have hw : Wd g A s (w_Mdl a g (((((text, size), (sv, stb)), ((var, tab), szs)), (((prg, cod), words), ((has, fpl), pos))), ((((fault, plc), (tol, tmany)), ((trc, rmany), mark)), (((pil, pmany), upd mks y1.toNatClampNeg (-1 : Int32)), ((upd cts y1.toNatClampNeg (0 : Int32), turns), stop))))) H locs := hw
        refine lv_iinc (v := y1 + (1 : Int32)) (lv' := [(1, .int (y1 + (1 : Int32))), (0, .ref (a 0))]) hx hb dX10_run_60 hl (k := 1) rfl rfl (by decide) rfl (fun ls hl => ?_)
        refine lv_goto (tgt := 32) hx hb dX10_run_63 (by decide) ?_
        exact ih var tab tol tmany trc rmany mark pil pmany (upd mks y1.toNatClampNeg (-1 : Int32)) (upd cts y1.toNatClampNeg (0 : Int32)) stop (y1 + (1 : Int32)) hok r (hr.trans (congrArg (rb_X10_run (((((text, size), (sv, stb)), ((var₀, tab₀), szs)), (((prg, cod), words), ((has, fpl), pos))), ((((fault, plc), (tol₀, tmany₀)), ((trc₀, rmany₀), mark₀)), (((pil₀, pmany₀), mks₀), ((cts₀, turns), stop₀))))) ((show f_X10_run_32 szs cod has (k + 1) var tab tol tmany trc rmany mark pil pmany mks cts stop y1 = f_X10_run_32 szs cod has k var tab tol tmany trc rmany mark pil pmany (upd mks y1.toNatClampNeg (-1 : Int32)) (upd cts y1.toNatClampNeg (0 : Int32)) stop (y1 + (1 : Int32)) from it_f c2 (it_t c3 (rfl)))))) _ _ hw _ (lv_sub hl [1, 0] rfl)
set_option maxHeartbeats 4000000 in
set_option maxRecDepth 100000 in
theorem c_X10_run (l : Launch) (g : GG) (a : Nat → Nat) (text : Nat → Int32) (size : Int32) (sv : Nat → Int32) (stb : Nat → Int32) (var : Nat → Int32) (tab : Nat → Int32) (szs : Nat → Int32) (prg : Nat → Int32) (cod : Nat → Int32) (words : Int32) (has : Int32) (fpl : Int32) (pos : Int32) (fault : Int32) (plc : Int32) (tol : Nat → Int32) (tmany : Int32) (trc : Nat → Int32) (rmany : Int32) (mark : Int64) (pil : Nat → Int32) (pmany : Int32) (mks : Nat → Int32) (cts : Nat → Int32) (turns : Int32) (stop : Int32) (hok : ok_X10_run var tab szs cod has tol tmany trc rmany mark pil pmany mks cts stop) : CI l g yX10_run cX10_run 4 (some .int) (rmN 4) (w_Mdl a g) [.ref (a 0)] (((((text, size), (sv, stb)), ((var, tab), szs)), (((prg, cod), words), ((has, fpl), pos))), ((((fault, plc), (tol, tmany)), ((trc, rmany), mark)), (((pil, pmany), mks), ((cts, turns), stop)))) (rb_X10_run (((((text, size), (sv, stb)), ((var, tab), szs)), (((prg, cod), words), ((has, fpl), pos))), ((((fault, plc), (tol, tmany)), ((trc, rmany), mark)), (((pil, pmany), mks), ((cts, turns), stop)))) (f_X10_run var tab szs cod has tol tmany trc rmany mark pil pmany mks cts stop)) := by
  refine CI.mk (by decide) (Nat.le_of_ble_eq_true rfl) ?_
  intro p e s m below meth c A ls hI hw hl
  have hx := hI.1
  have hb := hI.2.1
  obtain ⟨r, hr⟩ : ∃ r, r = rb_X10_run (((((text, size), (sv, stb)), ((var, tab), szs)), (((prg, cod), words), ((has, fpl), pos))), ((((fault, plc), (tol, tmany)), ((trc, rmany), mark)), (((pil, pmany), mks), ((cts, turns), stop)))) (f_X10_run var tab szs cod has tol tmany trc rmany mark pil pmany mks cts stop) := ⟨_, rfl⟩
  rw [← hr]
  have hl : lv_has ls 4 [(0, .ref (a 0))] := hl
  refine lv_aload_n hx hb dX10_run_0 rfl (lv_at hl 0 rfl) ?_
  refine hI.get (v := .int has) hw fg_X10_58 0 rfl rfl dX10_run_1 ?_
  refine lv_if_ne (tgt := 10) hx hb dX10_run_4 (by decide) (fun c1 => ?_) (fun c1 => ?_)
  · have hok := ok_f c1 hok
    refine lv_aload_n hx hb dX10_run_10 rfl (lv_at hl 0 rfl) ?_
    refine lv_iconst (v := (0 : Int32)) hx hb dX10_run_11 (by decide) ?_
    refine hI.put hw fp_X10_149 rfl 0 rfl rfl rfl (Nat.le_of_ble_eq_true rfl) dX10_run_12 (fun H locs hw => ?_)
    have hw : Wd g A s (w_Mdl a g (((((text, size), (sv, stb)), ((var, tab), szs)), (((prg, cod), words), ((has, fpl), pos))), ((((fault, plc), (tol, (0 : Int32))), ((trc, rmany), mark)), (((pil, pmany), mks), ((cts, turns), stop))))) H locs := hw
    refine lv_aload_n hx hb dX10_run_15 rfl (lv_at hl 0 rfl) ?_
    refine lv_iconst (v := (0 : Int32)) hx hb dX10_run_16 (by decide) ?_
    refine hI.put hw fp_X10_152 rfl 0 rfl rfl rfl (Nat.le_of_ble_eq_true rfl) dX10_run_17 (fun H locs hw => ?_)
    have hw : Wd g A s (w_Mdl a g (((((text, size), (sv, stb)), ((var, tab), szs)), (((prg, cod), words), ((has, fpl), pos))), ((((fault, plc), (tol, (0 : Int32))), ((trc, (0 : Int32)), mark)), (((pil, pmany), mks), ((cts, turns), stop))))) H locs := hw
    refine lv_aload_n hx hb dX10_run_20 rfl (lv_at hl 0 rfl) ?_
    refine lv_lconst (v := (0 : Int64)) hx hb dX10_run_21 (by decide) ?_
    refine hI.put hw fp_X10_157 rfl 0 rfl rfl rfl (Nat.le_of_ble_eq_true rfl) dX10_run_22 (fun H locs hw => ?_)
    have hw : Wd g A s (w_Mdl a g (((((text, size), (sv, stb)), ((var, tab), szs)), (((prg, cod), words), ((has, fpl), pos))), ((((fault, plc), (tol, (0 : Int32))), ((trc, (0 : Int32)), (0 : Int64))), (((pil, pmany), mks), ((cts, turns), stop))))) H locs := hw
    refine lv_aload_n hx hb dX10_run_25 rfl (lv_at hl 0 rfl) ?_
    refine lv_iconst (v := (0 : Int32)) hx hb dX10_run_26 (by decide) ?_
    refine hI.put hw fp_X10_161 rfl 0 rfl rfl rfl (Nat.le_of_ble_eq_true rfl) dX10_run_27 (fun H locs hw => ?_)
    have hw : Wd g A s (w_Mdl a g (((((text, size), (sv, stb)), ((var, tab), szs)), (((prg, cod), words), ((has, fpl), pos))), ((((fault, plc), (tol, (0 : Int32))), ((trc, (0 : Int32)), (0 : Int64))), (((pil, (0 : Int32)), mks), ((cts, turns), stop))))) H locs := hw
    refine lv_iconst (v := (0 : Int32)) hx hb dX10_run_30 (by decide) ?_
    refine lv_istore_n (lv' := [(1, .int (0 : Int32)), (0, .ref (a 0))]) hx hb dX10_run_31 rfl hl (by decide) rfl (fun ls hl => ?_)
    exact lp_X10_run_32 l g a text size sv stb var tab szs prg cod words has fpl pos fault plc tol tmany trc rmany mark pil pmany mks cts turns stop hI 15 var tab tol (0 : Int32) trc (0 : Int32) (0 : Int64) pil (0 : Int32) mks cts stop (0 : Int32) hok r (hr.trans (congrArg (rb_X10_run (((((text, size), (sv, stb)), ((var, tab), szs)), (((prg, cod), words), ((has, fpl), pos))), ((((fault, plc), (tol, tmany)), ((trc, rmany), mark)), (((pil, pmany), mks), ((cts, turns), stop))))) ((show f_X10_run var tab szs cod has tol tmany trc rmany mark pil pmany mks cts stop = f_X10_run_32 szs cod has 15 var tab tol (0 : Int32) trc (0 : Int32) (0 : Int64) pil (0 : Int32) mks cts stop (0 : Int32) from it_f c1 (rfl))))) _ _ hw _ (lv_sub hl [1, 0] rfl)
  · have hok := ok_t c1 hok
    refine lv_bipush (v := (-2 : Int32)) hx hb dX10_run_7 (by decide) ?_
    exact hI.retI (u := (((((text, size), (sv, stb)), ((var, tab), szs)), (((prg, cod), words), ((has, fpl), pos))), ((((fault, plc), (tol, tmany)), ((trc, rmany), mark)), (((pil, pmany), mks), ((cts, turns), stop))))) hw (hr.trans (congrArg (rb_X10_run (((((text, size), (sv, stb)), ((var, tab), szs)), (((prg, cod), words), ((has, fpl), pos))), ((((fault, plc), (tol, tmany)), ((trc, rmany), mark)), (((pil, pmany), mks), ((cts, turns), stop))))) ((show f_X10_run var tab szs cod has tol tmany trc rmany mark pil pmany mks cts stop = ((-2 : Int32), ((((var, tab), tol), ((tmany, trc), rmany)), (((mark, pil), pmany), ((mks, cts), stop)))) from it_t c1 (rfl))))) dX10_run_9
