def f_X10_plain (var : Nat → Int32) (tab : Nat → Int32) (szs : Nat → Int32) (prg : Nat → Int32) (has : Int32) (tol : Nat → Int32) (tmany : Int32) (turns : Int32) (stop : Int32) : Int32 × ((((Nat → Int32) × (Nat → Int32)) × (Nat → Int32)) × ((Int32 × Int32) × Int32)) := if has = 0 then ((-2 : Int32), (((var, tab), tol), ((tmany, turns), stop))) else bd (dsA 13 var tab szs prg tol (0 : Int32) (0 : Int32) (0 : Int32) (0 : Int32)) (fun o2 => if o2.2.2 = 0 then (o2.2.1.2, (((o2.1.1.1, o2.1.1.2), o2.1.2), ((o2.2.1.1, o2.2.1.2), o2.2.2))) else (o2.2.2, (((o2.1.1.1, o2.1.1.2), o2.1.2), ((o2.2.1.1, o2.2.1.2), o2.2.2))))
def ok_X10_plain (var : Nat → Int32) (tab : Nat → Int32) (szs : Nat → Int32) (prg : Nat → Int32) (has : Int32) (tol : Nat → Int32) (tmany : Int32) (turns : Int32) (stop : Int32) : Prop := if has = 0 then True else dsAk 13 var tab szs prg tol (0 : Int32) (0 : Int32) (0 : Int32) (0 : Int32) ∧ (bdP (dsA 13 var tab szs prg tol (0 : Int32) (0 : Int32) (0 : Int32) (0 : Int32)) (fun o2 => if o2.2.2 = 0 then True else True))
def rb_X10_plain (σ : S_Mdl) (o : Int32 × ((((Nat → Int32) × (Nat → Int32)) × (Nat → Int32)) × ((Int32 × Int32) × Int32))) : Int32 × S_Mdl := (o.1, (((((σ.1.1.1.1.1, σ.1.1.1.1.2), (σ.1.1.1.2.1, σ.1.1.1.2.2)), ((o.2.1.1.1, o.2.1.1.2), σ.1.1.2.2)), (((σ.1.2.1.1.1, σ.1.2.1.1.2), σ.1.2.1.2), ((σ.1.2.2.1.1, σ.1.2.2.1.2), σ.1.2.2.2))), ((((σ.2.1.1.1.1, σ.2.1.1.1.2), (o.2.1.2, o.2.2.1.1)), ((σ.2.1.2.1.1, σ.2.1.2.1.2), σ.2.1.2.2)), (((σ.2.2.1.1.1, σ.2.2.1.1.2), σ.2.2.1.2), ((σ.2.2.2.1.1, o.2.2.1.2), o.2.2.2)))))
set_option maxHeartbeats 4000000 in
set_option maxRecDepth 100000 in
theorem c_X10_plain (l : Launch) (g : GG) (a : Nat → Nat) (text : Nat → Int32) (size : Int32) (sv : Nat → Int32) (stb : Nat → Int32) (var : Nat → Int32) (tab : Nat → Int32) (szs : Nat → Int32) (prg : Nat → Int32) (cod : Nat → Int32) (words : Int32) (has : Int32) (fpl : Int32) (pos : Int32) (fault : Int32) (plc : Int32) (tol : Nat → Int32) (tmany : Int32) (trc : Nat → Int32) (rmany : Int32) (mark : Int64) (pil : Nat → Int32) (pmany : Int32) (mks : Nat → Int32) (cts : Nat → Int32) (turns : Int32) (stop : Int32) (hok : ok_X10_plain var tab szs prg has tol tmany turns stop) : CI l g yX10_plain cX10_plain 1 (some .int) (rmN 73) (w_Mdl a g) [.ref (a 0)] (((((text, size), (sv, stb)), ((var, tab), szs)), (((prg, cod), words), ((has, fpl), pos))), ((((fault, plc), (tol, tmany)), ((trc, rmany), mark)), (((pil, pmany), mks), ((cts, turns), stop)))) (rb_X10_plain (((((text, size), (sv, stb)), ((var, tab), szs)), (((prg, cod), words), ((has, fpl), pos))), ((((fault, plc), (tol, tmany)), ((trc, rmany), mark)), (((pil, pmany), mks), ((cts, turns), stop)))) (f_X10_plain var tab szs prg has tol tmany turns stop)) := by
  refine CI.mk (by decide) (Nat.le_of_ble_eq_true rfl) ?_
  intro p e s m below meth c A ls hI hw hl
  have hx := hI.1
  have hb := hI.2.1
  obtain ⟨r, hr⟩ : ∃ r, r = rb_X10_plain (((((text, size), (sv, stb)), ((var, tab), szs)), (((prg, cod), words), ((has, fpl), pos))), ((((fault, plc), (tol, tmany)), ((trc, rmany), mark)), (((pil, pmany), mks), ((cts, turns), stop)))) (f_X10_plain var tab szs prg has tol tmany turns stop) := ⟨_, rfl⟩
  rw [← hr]
  have hl : lv_has ls 1 [(0, .ref (a 0))] := hl
  refine lv_aload_n hx hb dX10_plain_0 rfl (lv_at hl 0 rfl) ?_
  refine hI.get (v := .int has) hw fg_X10_58 0 rfl rfl dX10_plain_1 ?_
  refine lv_if_ne (tgt := 10) hx hb dX10_plain_4 (by decide) (fun c1 => ?_) (fun c1 => ?_)
  · have hok := ok_f c1 hok
    refine lv_aload_n hx hb dX10_plain_10 rfl (lv_at hl 0 rfl) ?_
    refine lv_iconst (v := (0 : Int32)) hx hb dX10_plain_11 (by decide) ?_
    refine hI.put hw fp_X10_149 rfl 0 rfl rfl rfl (Nat.le_of_ble_eq_true rfl) dX10_plain_12 (fun H locs hw => ?_)
    have hw : Wd g A s (w_Mdl a g (((((text, size), (sv, stb)), ((var, tab), szs)), (((prg, cod), words), ((has, fpl), pos))), ((((fault, plc), (tol, (0 : Int32))), ((trc, rmany), mark)), (((pil, pmany), mks), ((cts, turns), stop))))) H locs := hw
    refine lv_aload_n hx hb dX10_plain_15 rfl (lv_at hl 0 rfl) ?_
    refine lv_iconst (v := (0 : Int32)) hx hb dX10_plain_16 (by decide) ?_
    refine hI.put hw fp_X10_196 rfl 0 rfl rfl rfl (Nat.le_of_ble_eq_true rfl) dX10_plain_17 (fun H locs hw => ?_)
    have hw : Wd g A s (w_Mdl a g (((((text, size), (sv, stb)), ((var, tab), szs)), (((prg, cod), words), ((has, fpl), pos))), ((((fault, plc), (tol, (0 : Int32))), ((trc, rmany), mark)), (((pil, pmany), mks), ((cts, (0 : Int32)), stop))))) H locs := hw
    refine lv_aload_n hx hb dX10_plain_20 rfl (lv_at hl 0 rfl) ?_
    refine lv_iconst (v := (0 : Int32)) hx hb dX10_plain_21 (by decide) ?_
    refine hI.put hw fp_X10_146 rfl 0 rfl rfl rfl (Nat.le_of_ble_eq_true rfl) dX10_plain_22 (fun H locs hw => ?_)
    have hw : Wd g A s (w_Mdl a g (((((text, size), (sv, stb)), ((var, tab), szs)), (((prg, cod), words), ((has, fpl), pos))), ((((fault, plc), (tol, (0 : Int32))), ((trc, rmany), mark)), (((pil, pmany), mks), ((cts, (0 : Int32)), (0 : Int32)))))) H locs := hw
    refine lv_aload_n hx hb dX10_plain_25 rfl (lv_at hl 0 rfl) ?_
    refine lv_iconst (v := (0 : Int32)) hx hb dX10_plain_26 (by decide) ?_
    have hq3 := hok.1
    have hok := hok.2
    obtain ⟨o2, ho2⟩ : ∃ o, o = dsA 13 var tab szs prg tol (0 : Int32) (0 : Int32) (0 : Int32) (0 : Int32) := ⟨_, rfl⟩
    refine hI.callV0 (wl := w_Mdl a g) (a := (((((text, size), (sv, stb)), ((var, tab), szs)), (((prg, cod), words), ((has, fpl), pos))), ((((fault, plc), (tol, (0 : Int32))), ((trc, rmany), mark)), (((pil, pmany), mks), ((cts, (0 : Int32)), (0 : Int32)))))) (r := rb_X10_doAll (((((text, size), (sv, stb)), ((var, tab), szs)), (((prg, cod), words), ((has, fpl), pos))), ((((fault, plc), (tol, (0 : Int32))), ((trc, rmany), mark)), (((pil, pmany), mks), ((cts, (0 : Int32)), (0 : Int32))))) o2) (As := [.int (0 : Int32)]) (rest := []) hw (by rw [ho2]; exact k_dsA l g a 13 text size sv stb var tab szs prg cod words has fpl pos fault plc tol (0 : Int32) trc rmany mark pil pmany mks cts (0 : Int32) (0 : Int32) (0 : Int32) hq3) ok_yX10_doAll ml_X10_212 (rm_ok (by decide) (by decide)) 0 rfl rfl rfl rfl hl.1 (Nat.le_of_ble_eq_true rfl) dX10_plain_27 ⟨Nat.zero_le _, Nat.zero_le _⟩ (fun H locs hw => ?_)
    have hw : Wd g A s (w_Mdl a g (((((text, size), (sv, stb)), ((o2.1.1.1, o2.1.1.2), szs)), (((prg, cod), words), ((has, fpl), pos))), ((((fault, plc), (o2.1.2, o2.2.1.1)), ((trc, rmany), mark)), (((pil, pmany), mks), ((cts, o2.2.1.2), o2.2.2))))) H locs := hw
    refine W.eq (g2 := F0 m 30 ls []) rfl ?_
    have hok := bdP_use ho2 hok
    refine lv_aload_n hx hb dX10_plain_30 rfl (lv_at hl 0 rfl) ?_
    refine hI.get (v := .int o2.2.2) hw fg_X10_146 0 rfl rfl dX10_plain_31 ?_
    refine lv_if_eq (tgt := 44) hx hb dX10_plain_34 (by decide) (fun c4 => ?_) (fun c4 => ?_)
    · have hok := ok_t c4 hok
      refine lv_aload_n hx hb dX10_plain_44 rfl (lv_at hl 0 rfl) ?_
      refine hI.get (v := .int o2.2.1.2) hw fg_X10_196 0 rfl rfl dX10_plain_45 ?_
      exact hI.retI (u := (((((text, size), (sv, stb)), ((o2.1.1.1, o2.1.1.2), szs)), (((prg, cod), words), ((has, fpl), pos))), ((((fault, plc), (o2.1.2, o2.2.1.1)), ((trc, rmany), mark)), (((pil, pmany), mks), ((cts, o2.2.1.2), o2.2.2))))) hw (hr.trans (congrArg (rb_X10_plain (((((text, size), (sv, stb)), ((var, tab), szs)), (((prg, cod), words), ((has, fpl), pos))), ((((fault, plc), (tol, tmany)), ((trc, rmany), mark)), (((pil, pmany), mks), ((cts, turns), stop))))) ((show f_X10_plain var tab szs prg has tol tmany turns stop = (o2.2.1.2, (((o2.1.1.1, o2.1.1.2), o2.1.2), ((o2.2.1.1, o2.2.1.2), o2.2.2))) from it_f c1 (bd_of ho2 (it_t c4 (rfl))))))) dX10_plain_48
    · have hok := ok_f c4 hok
      refine lv_aload_n hx hb dX10_plain_37 rfl (lv_at hl 0 rfl) ?_
      refine hI.get (v := .int o2.2.2) hw fg_X10_146 0 rfl rfl dX10_plain_38 ?_
      refine lv_goto (tgt := 48) hx hb dX10_plain_41 (by decide) ?_
      exact hI.retI (u := (((((text, size), (sv, stb)), ((o2.1.1.1, o2.1.1.2), szs)), (((prg, cod), words), ((has, fpl), pos))), ((((fault, plc), (o2.1.2, o2.2.1.1)), ((trc, rmany), mark)), (((pil, pmany), mks), ((cts, o2.2.1.2), o2.2.2))))) hw (hr.trans (congrArg (rb_X10_plain (((((text, size), (sv, stb)), ((var, tab), szs)), (((prg, cod), words), ((has, fpl), pos))), ((((fault, plc), (tol, tmany)), ((trc, rmany), mark)), (((pil, pmany), mks), ((cts, turns), stop))))) ((show f_X10_plain var tab szs prg has tol tmany turns stop = (o2.2.2, (((o2.1.1.1, o2.1.1.2), o2.1.2), ((o2.2.1.1, o2.2.1.2), o2.2.2))) from it_f c1 (bd_of ho2 (it_f c4 (rfl))))))) dX10_plain_48
  · have hok := ok_t c1 hok
    refine lv_bipush (v := (-2 : Int32)) hx hb dX10_plain_7 (by decide) ?_
    exact hI.retI (u := (((((text, size), (sv, stb)), ((var, tab), szs)), (((prg, cod), words), ((has, fpl), pos))), ((((fault, plc), (tol, tmany)), ((trc, rmany), mark)), (((pil, pmany), mks), ((cts, turns), stop))))) hw (hr.trans (congrArg (rb_X10_plain (((((text, size), (sv, stb)), ((var, tab), szs)), (((prg, cod), words), ((has, fpl), pos))), ((((fault, plc), (tol, tmany)), ((trc, rmany), mark)), (((pil, pmany), mks), ((cts, turns), stop))))) ((show f_X10_plain var tab szs prg has tol tmany turns stop = ((-2 : Int32), (((var, tab), tol), ((tmany, turns), stop))) from it_t c1 (rfl))))) dX10_plain_9
def ok_X10_seeAll_2 (szs : Nat → Int32) : Nat → (Nat → Int32) → Int32 → Int64 → Int32 → Int32 → Prop
  | 0, _, _, _, _, _ => False
  | k + 1, trc, rmany, mark, y1, y2 => vp_in y1 4 ∧ (if (szs y1.toNatClampNeg) ≤ y2 then True else UpTo 1000000 rmany ∧ (bdP (f_X10_see trc rmany mark (((4096 : Int32) + ((16 : Int32) * y1)) + y2)) (fun o3 => ok_X10_seeAll_2 szs k o3.1.1 o3.1.2 o3.2 y1 (y2 + (1 : Int32)))))
def f_X10_seeAll_2 (szs : Nat → Int32) : Nat → (Nat → Int32) → Int32 → Int64 → Int32 → Int32 → (((Nat → Int32) × Int32) × Int64)
  | 0, trc, rmany, mark, y1, y2 => (((trc, rmany), mark))
  | k + 1, trc, rmany, mark, y1, y2 => if (szs y1.toNatClampNeg) ≤ y2 then (((trc, rmany), mark)) else bd (f_X10_see trc rmany mark (((4096 : Int32) + ((16 : Int32) * y1)) + y2)) (fun o3 => f_X10_seeAll_2 szs k o3.1.1 o3.1.2 o3.2 y1 (y2 + (1 : Int32)))
def f_X10_seeAll (szs : Nat → Int32) (trc : Nat → Int32) (rmany : Int32) (mark : Int64) (x1 : Int32) : (((Nat → Int32) × Int32) × Int64) := f_X10_seeAll_2 szs 17 trc rmany mark x1 (0 : Int32)
def ok_X10_seeAll (szs : Nat → Int32) (trc : Nat → Int32) (rmany : Int32) (mark : Int64) (x1 : Int32) : Prop := ok_X10_seeAll_2 szs 17 trc rmany mark x1 (0 : Int32)
def rb_X10_seeAll (σ : S_Mdl) (o : (((Nat → Int32) × Int32) × Int64)) : S_Mdl := (((((σ.1.1.1.1.1, σ.1.1.1.1.2), (σ.1.1.1.2.1, σ.1.1.1.2.2)), ((σ.1.1.2.1.1, σ.1.1.2.1.2), σ.1.1.2.2)), (((σ.1.2.1.1.1, σ.1.2.1.1.2), σ.1.2.1.2), ((σ.1.2.2.1.1, σ.1.2.2.1.2), σ.1.2.2.2))), ((((σ.2.1.1.1.1, σ.2.1.1.1.2), (σ.2.1.1.2.1, σ.2.1.1.2.2)), ((o.1.1, o.1.2), o.2)), (((σ.2.2.1.1.1, σ.2.2.1.1.2), σ.2.2.1.2), ((σ.2.2.2.1.1, σ.2.2.2.1.2), σ.2.2.2.2))))
set_option maxHeartbeats 4000000 in
set_option maxRecDepth 100000 in
theorem lp_X10_seeAll_2 (l : Launch) (g : GG) (a : Nat → Nat) (text : Nat → Int32) (size : Int32) (sv : Nat → Int32) (stb : Nat → Int32) (var : Nat → Int32) (tab : Nat → Int32) (szs : Nat → Int32) (prg : Nat → Int32) (cod : Nat → Int32) (words : Int32) (has : Int32) (fpl : Int32) (pos : Int32) (fault : Int32) (plc : Int32) (tol : Nat → Int32) (tmany : Int32) (trc₀ : Nat → Int32) (rmany₀ : Int32) (mark₀ : Int64) (pil : Nat → Int32) (pmany : Int32) (mks : Nat → Int32) (cts : Nat → Int32) (turns : Int32) (stop : Int32)  {p : Program} {e : Env} {s : State} {m : MethodId} {args : Array Value} {below : List Frame} {meth : Method} {c : Code} {A : Nat → Prop} (hI : InM p s m args meth c RX10 cX10_seeAll 3 none g A) : ∀ (k : Nat) (trc : Nat → Int32) (rmany : Int32) (mark : Int64) (y1 : Int32) (y2 : Int32), (ok_X10_seeAll_2 szs k trc rmany mark y1 y2) → ∀ (r : S_Mdl), r = rb_X10_seeAll (((((text, size), (sv, stb)), ((var, tab), szs)), (((prg, cod), words), ((has, fpl), pos))), ((((fault, plc), (tol, tmany)), ((trc₀, rmany₀), mark₀)), (((pil, pmany), mks), ((cts, turns), stop)))) (f_X10_seeAll_2 szs k trc rmany mark y1 y2) → ∀ (H : Heap) (locs : List Loc), Wd g A s (w_Mdl a g (((((text, size), (sv, stb)), ((var, tab), szs)), (((prg, cod), words), ((has, fpl), pos))), ((((fault, plc), (tol, tmany)), ((trc, rmany), mark)), (((pil, pmany), mks), ((cts, turns), stop))))) H locs → ∀ (ls : Array Slot), lv_has ls 3 [(0, .ref (a 0)), (1, .int y1), (2, .int y2)] → W p l e (rmN 1) s m args below meth c H locs 0 0 (QV g (w_Mdl a g) A r below args s) (F0 m 2 ls []) := by
  have hx := hI.1
  have hb := hI.2.1
  intro k
  induction k with
  | zero =>
    intro trc rmany mark y1 y2 hok
    exact hok.elim
  | succ k ih =>
    intro trc rmany mark y1 y2 hok r hr H locs hw ls hl
    refine lv_iload_n hx hb dX10_seeAll_2 rfl (lv_at hl 2 rfl) ?_
    refine lv_aload_n hx hb dX10_seeAll_3 rfl (lv_at hl 0 rfl) ?_
    refine hI.get (v := .ref (a 6)) hw fg_X10_26 0 rfl rfl dX10_seeAll_4 ?_
    refine lv_iload_n hx hb dX10_seeAll_7 rfl (lv_at hl 1 rfl) ?_
    have hq1 := hok.1
    have hok := hok.2
    refine hI.iald hw 6 rfl hq1 dX10_seeAll_8 ?_
    refine lv_icmp_ge (tgt := 32) hx hb dX10_seeAll_9 (by decide) (fun c2 => ?_) (fun c2 => ?_)
    · have hok := ok_t c2 hok
      exact hI.retV (u := (((((text, size), (sv, stb)), ((var, tab), szs)), (((prg, cod), words), ((has, fpl), pos))), ((((fault, plc), (tol, tmany)), ((trc, rmany), mark)), (((pil, pmany), mks), ((cts, turns), stop))))) hw (hr.trans (congrArg (rb_X10_seeAll (((((text, size), (sv, stb)), ((var, tab), szs)), (((prg, cod), words), ((has, fpl), pos))), ((((fault, plc), (tol, tmany)), ((trc₀, rmany₀), mark₀)), (((pil, pmany), mks), ((cts, turns), stop))))) ((show f_X10_seeAll_2 szs (k + 1) trc rmany mark y1 y2 = (((trc, rmany), mark)) from it_t c2 (rfl))))) dX10_seeAll_32
    · have hok := ok_f c2 hok
      refine lv_aload_n hx hb dX10_seeAll_12 rfl (lv_at hl 0 rfl) ?_
      refine lv_sipush (v := (4096 : Int32)) hx hb dX10_seeAll_13 (by decide) ?_
      refine lv_bipush (v := (16 : Int32)) hx hb dX10_seeAll_16 (by decide) ?_
      refine lv_iload_n hx hb dX10_seeAll_18 rfl (lv_at hl 1 rfl) ?_
      refine lv_imul hx hb dX10_seeAll_19 ?_
      refine lv_iadd hx hb dX10_seeAll_20 ?_
      refine lv_iload_n hx hb dX10_seeAll_21 rfl (lv_at hl 2 rfl) ?_
      refine lv_iadd hx hb dX10_seeAll_22 ?_
      obtain ⟨o3, ho3⟩ : ∃ o, o = f_X10_see trc rmany mark (((4096 : Int32) + ((16 : Int32) * y1)) + y2) := ⟨_, rfl⟩
      have hq4 := hok.1
      have hok := hok.2
      refine hI.callV0 (wl := w_Mdl a g) (a := (((((text, size), (sv, stb)), ((var, tab), szs)), (((prg, cod), words), ((has, fpl), pos))), ((((fault, plc), (tol, tmany)), ((trc, rmany), mark)), (((pil, pmany), mks), ((cts, turns), stop))))) (r := rb_X10_see (((((text, size), (sv, stb)), ((var, tab), szs)), (((prg, cod), words), ((has, fpl), pos))), ((((fault, plc), (tol, tmany)), ((trc, rmany), mark)), (((pil, pmany), mks), ((cts, turns), stop)))) o3) (As := [.int (((4096 : Int32) + ((16 : Int32) * y1)) + y2)]) (rest := []) hw (by rw [ho3]; exact c_X10_see l g a text size sv stb var tab szs prg cod words has fpl pos fault plc tol tmany trc rmany mark pil pmany mks cts turns stop (((4096 : Int32) + ((16 : Int32) * y1)) + y2) hq4) ok_yX10_see ml_X10_164 (rm_ok (by decide) (by decide)) 0 rfl rfl rfl rfl hl.1 (Nat.le_of_ble_eq_true rfl) dX10_seeAll_23 ⟨Nat.zero_le _, Nat.zero_le _⟩ (fun H locs hw => ?_)
      have hw : Wd g A s (w_Mdl a g (((((text, size), (sv, stb)), ((var, tab), szs)), (((prg, cod), words), ((has, fpl), pos))), ((((fault, plc), (tol, tmany)), ((o3.1.1, o3.1.2), o3.2)), (((pil, pmany), mks), ((cts, turns), stop))))) H locs := hw
      refine W.eq (g2 := F0 m 26 ls []) rfl ?_
      have hok := bdP_use ho3 hok
      refine lv_iinc (v := y2 + (1 : Int32)) (lv' := [(2, .int (y2 + (1 : Int32))), (0, .ref (a 0)), (1, .int y1)]) hx hb dX10_seeAll_26 hl (k := 2) rfl rfl (by decide) rfl (fun ls hl => ?_)
      refine lv_goto (tgt := 2) hx hb dX10_seeAll_29 (by decide) ?_
      exact ih o3.1.1 o3.1.2 o3.2 y1 (y2 + (1 : Int32)) hok r (hr.trans (congrArg (rb_X10_seeAll (((((text, size), (sv, stb)), ((var, tab), szs)), (((prg, cod), words), ((has, fpl), pos))), ((((fault, plc), (tol, tmany)), ((trc₀, rmany₀), mark₀)), (((pil, pmany), mks), ((cts, turns), stop))))) ((show f_X10_seeAll_2 szs (k + 1) trc rmany mark y1 y2 = f_X10_seeAll_2 szs k o3.1.1 o3.1.2 o3.2 y1 (y2 + (1 : Int32)) from it_f c2 (bd_of ho3 (rfl)))))) _ _ hw _ (lv_sub hl [1, 2, 0] rfl)
set_option maxHeartbeats 4000000 in
set_option maxRecDepth 100000 in
theorem c_X10_seeAll (l : Launch) (g : GG) (a : Nat → Nat) (text : Nat → Int32) (size : Int32) (sv : Nat → Int32) (stb : Nat → Int32) (var : Nat → Int32) (tab : Nat → Int32) (szs : Nat → Int32) (prg : Nat → Int32) (cod : Nat → Int32) (words : Int32) (has : Int32) (fpl : Int32) (pos : Int32) (fault : Int32) (plc : Int32) (tol : Nat → Int32) (tmany : Int32) (trc : Nat → Int32) (rmany : Int32) (mark : Int64) (pil : Nat → Int32) (pmany : Int32) (mks : Nat → Int32) (cts : Nat → Int32) (turns : Int32) (stop : Int32) (x1 : Int32) (hok : ok_X10_seeAll szs trc rmany mark x1) : CV l g yX10_seeAll cX10_seeAll 3 none (rmN 1) (w_Mdl a g) [.ref (a 0), .int x1] (((((text, size), (sv, stb)), ((var, tab), szs)), (((prg, cod), words), ((has, fpl), pos))), ((((fault, plc), (tol, tmany)), ((trc, rmany), mark)), (((pil, pmany), mks), ((cts, turns), stop)))) (rb_X10_seeAll (((((text, size), (sv, stb)), ((var, tab), szs)), (((prg, cod), words), ((has, fpl), pos))), ((((fault, plc), (tol, tmany)), ((trc, rmany), mark)), (((pil, pmany), mks), ((cts, turns), stop)))) (f_X10_seeAll szs trc rmany mark x1)) := by
  refine CV.mk (by decide) (Nat.le_of_ble_eq_true rfl) ?_
  intro p e s m below meth c A ls hI hw hl
  have hx := hI.1
  have hb := hI.2.1
  obtain ⟨r, hr⟩ : ∃ r, r = rb_X10_seeAll (((((text, size), (sv, stb)), ((var, tab), szs)), (((prg, cod), words), ((has, fpl), pos))), ((((fault, plc), (tol, tmany)), ((trc, rmany), mark)), (((pil, pmany), mks), ((cts, turns), stop)))) (f_X10_seeAll szs trc rmany mark x1) := ⟨_, rfl⟩
  rw [← hr]
  have hl : lv_has ls 3 [(0, .ref (a 0)), (1, .int x1)] := hl
  refine lv_iconst (v := (0 : Int32)) hx hb dX10_seeAll_0 (by decide) ?_
  refine lv_istore_n (lv' := [(2, .int (0 : Int32)), (0, .ref (a 0)), (1, .int x1)]) hx hb dX10_seeAll_1 rfl hl (by decide) rfl (fun ls hl => ?_)
  exact lp_X10_seeAll_2 l g a text size sv stb var tab szs prg cod words has fpl pos fault plc tol tmany trc rmany mark pil pmany mks cts turns stop hI 17 trc rmany mark x1 (0 : Int32) hok r (hr.trans (congrArg (rb_X10_seeAll (((((text, size), (sv, stb)), ((var, tab), szs)), (((prg, cod), words), ((has, fpl), pos))), ((((fault, plc), (tol, tmany)), ((trc, rmany), mark)), (((pil, pmany), mks), ((cts, turns), stop))))) ((show f_X10_seeAll szs trc rmany mark x1 = f_X10_seeAll_2 szs 17 trc rmany mark x1 (0 : Int32) from rfl)))) _ _ hw _ (lv_sub hl [1, 2, 0] rfl)
def f_X10_store (tab : Nat → Int32) (szs : Nat → Int32) (trc : Nat → Int32) (rmany : Int32) (mark : Int64) (pil : Nat → Int32) (pmany : Int32) (x1 : Int32) (x2 : Int32) (x3 : Int32) : ((((Nat → Int32) × (Nat → Int32)) × Int32) × (Int64 × Int32)) := bd (f_X10_pop pil pmany) (fun o1 => bd (f_X10_pop pil o1.2) (fun o3 => bd (f_X10_placeOf szs x2 o3.1) (fun o5 => if x3 = 0 then bd (f_X10_see trc rmany mark (((4096 : Int32) + ((16 : Int32) * x2)) + o5)) (fun o9 => bd (((16 : Int32) * x2) + o5) (fun v11 => ((((upd tab v11.toNatClampNeg (((tab v11.toNatClampNeg) &&& (x1 ^^^ (-1 : Int32))) ||| (o1.1 &&& x1)), o9.1.1), o9.1.2), (o9.2, o3.2))))) else bd (f_X10_seeAll szs trc rmany mark x2) (fun o14 => bd (((16 : Int32) * x2) + o5) (fun v16 => ((((upd tab v16.toNatClampNeg (((tab v16.toNatClampNeg) &&& (x1 ^^^ (-1 : Int32))) ||| (o1.1 &&& x1)), o14.1.1), o14.1.2), (o14.2, o3.2))))))))
def ok_X10_store (tab : Nat → Int32) (szs : Nat → Int32) (trc : Nat → Int32) (rmany : Int32) (mark : Int64) (pil : Nat → Int32) (pmany : Int32) (x1 : Int32) (x2 : Int32) (x3 : Int32) : Prop := vp_in (pmany - 1) 200 ∧ (bdP (f_X10_pop pil pmany) (fun o1 => vp_in (o1.2 - 1) 200 ∧ (bdP (f_X10_pop pil o1.2) (fun o3 => SZ szs ∧ (vp_in x2 4 ∧ (bdP (f_X10_placeOf szs x2 o3.1) (fun o5 => if x3 = 0 then UpTo 1000000 rmany ∧ (bdP (f_X10_see trc rmany mark (((4096 : Int32) + ((16 : Int32) * x2)) + o5)) (fun o9 => bdP (((16 : Int32) * x2) + o5) (fun v11 => vp_in v11 64 ∧ (vp_in v11 64 ∧ True)))) else ok_X10_seeAll szs trc rmany mark x2 ∧ (bdP (f_X10_seeAll szs trc rmany mark x2) (fun o14 => bdP (((16 : Int32) * x2) + o5) (fun v16 => vp_in v16 64 ∧ (vp_in v16 64 ∧ True)))))))))))
def rb_X10_store (σ : S_Mdl) (o : ((((Nat → Int32) × (Nat → Int32)) × Int32) × (Int64 × Int32))) : S_Mdl := (((((σ.1.1.1.1.1, σ.1.1.1.1.2), (σ.1.1.1.2.1, σ.1.1.1.2.2)), ((σ.1.1.2.1.1, o.1.1.1), σ.1.1.2.2)), (((σ.1.2.1.1.1, σ.1.2.1.1.2), σ.1.2.1.2), ((σ.1.2.2.1.1, σ.1.2.2.1.2), σ.1.2.2.2))), ((((σ.2.1.1.1.1, σ.2.1.1.1.2), (σ.2.1.1.2.1, σ.2.1.1.2.2)), ((o.1.1.2, o.1.2), o.2.1)), (((σ.2.2.1.1.1, o.2.2), σ.2.2.1.2), ((σ.2.2.2.1.1, σ.2.2.2.1.2), σ.2.2.2.2))))
set_option maxHeartbeats 4000000 in
set_option maxRecDepth 100000 in
theorem c_X10_store (l : Launch) (g : GG) (a : Nat → Nat) (text : Nat → Int32) (size : Int32) (sv : Nat → Int32) (stb : Nat → Int32) (var : Nat → Int32) (tab : Nat → Int32) (szs : Nat → Int32) (prg : Nat → Int32) (cod : Nat → Int32) (words : Int32) (has : Int32) (fpl : Int32) (pos : Int32) (fault : Int32) (plc : Int32) (tol : Nat → Int32) (tmany : Int32) (trc : Nat → Int32) (rmany : Int32) (mark : Int64) (pil : Nat → Int32) (pmany : Int32) (mks : Nat → Int32) (cts : Nat → Int32) (turns : Int32) (stop : Int32) (x1 : Int32) (x2 : Int32) (x3 : Int32) (hok : ok_X10_store tab szs trc rmany mark pil pmany x1 x2 x3) : CV l g yX10_store cX10_store 7 none (rmN 2) (w_Mdl a g) [.ref (a 0), .int x1, .int x2, .int x3] (((((text, size), (sv, stb)), ((var, tab), szs)), (((prg, cod), words), ((has, fpl), pos))), ((((fault, plc), (tol, tmany)), ((trc, rmany), mark)), (((pil, pmany), mks), ((cts, turns), stop)))) (rb_X10_store (((((text, size), (sv, stb)), ((var, tab), szs)), (((prg, cod), words), ((has, fpl), pos))), ((((fault, plc), (tol, tmany)), ((trc, rmany), mark)), (((pil, pmany), mks), ((cts, turns), stop)))) (f_X10_store tab szs trc rmany mark pil pmany x1 x2 x3)) := by
  refine CV.mk (by decide) (Nat.le_of_ble_eq_true rfl) ?_
  intro p e s m below meth c A ls hI hw hl
  have hx := hI.1
  have hb := hI.2.1
  obtain ⟨r, hr⟩ : ∃ r, r = rb_X10_store (((((text, size), (sv, stb)), ((var, tab), szs)), (((prg, cod), words), ((has, fpl), pos))), ((((fault, plc), (tol, tmany)), ((trc, rmany), mark)), (((pil, pmany), mks), ((cts, turns), stop)))) (f_X10_store tab szs trc rmany mark pil pmany x1 x2 x3) := ⟨_, rfl⟩
  rw [← hr]
  have hl : lv_has ls 7 [(0, .ref (a 0)), (1, .int x1), (2, .int x2), (3, .int x3)] := hl
  refine lv_aload_n hx hb dX10_store_0 rfl (lv_at hl 0 rfl) ?_
  obtain ⟨o1, ho1⟩ : ∃ o, o = f_X10_pop pil pmany := ⟨_, rfl⟩
  have hq2 := hok.1
  have hok := hok.2
  refine hI.callI0 (wl := w_Mdl a g) (a := (((((text, size), (sv, stb)), ((var, tab), szs)), (((prg, cod), words), ((has, fpl), pos))), ((((fault, plc), (tol, tmany)), ((trc, rmany), mark)), (((pil, pmany), mks), ((cts, turns), stop))))) (r := rb_X10_pop (((((text, size), (sv, stb)), ((var, tab), szs)), (((prg, cod), words), ((has, fpl), pos))), ((((fault, plc), (tol, tmany)), ((trc, rmany), mark)), (((pil, pmany), mks), ((cts, turns), stop)))) o1) (As := []) (rest := []) hw (by rw [ho1]; exact c_X10_pop l g a text size sv stb var tab szs prg cod words has fpl pos fault plc tol tmany trc rmany mark pil pmany mks cts turns stop hq2) ok_yX10_pop ml_X10_174 (rm_ok (by decide) (by decide)) 0 rfl rfl rfl rfl hl.1 (Nat.le_of_ble_eq_true rfl) dX10_store_1 ⟨Nat.zero_le _, Nat.zero_le _⟩ (fun H locs hw => ?_)
  have hw : Wd g A s (w_Mdl a g (((((text, size), (sv, stb)), ((var, tab), szs)), (((prg, cod), words), ((has, fpl), pos))), ((((fault, plc), (tol, tmany)), ((trc, rmany), mark)), (((pil, o1.2), mks), ((cts, turns), stop))))) H locs := hw
  refine W.eq (g2 := F0 m 4 ls [.int o1.1]) rfl ?_
  have hok := bdP_use ho1 hok
  refine lv_istore (lv' := [(4, .int o1.1), (0, .ref (a 0)), (1, .int x1), (2, .int x2), (3, .int x3)]) hx hb dX10_store_4 hl (by decide) rfl (fun ls hl => ?_)
  refine lv_aload_n hx hb dX10_store_6 rfl (lv_at hl 1 rfl) ?_
  refine lv_iload_n hx hb dX10_store_7 rfl (lv_at hl 3 rfl) ?_
  refine lv_aload_n hx hb dX10_store_8 rfl (lv_at hl 1 rfl) ?_
  obtain ⟨o3, ho3⟩ : ∃ o, o = f_X10_pop pil o1.2 := ⟨_, rfl⟩
  have hq4 := hok.1
  have hok := hok.2
  refine hI.callI0 (wl := w_Mdl a g) (a := (((((text, size), (sv, stb)), ((var, tab), szs)), (((prg, cod), words), ((has, fpl), pos))), ((((fault, plc), (tol, tmany)), ((trc, rmany), mark)), (((pil, o1.2), mks), ((cts, turns), stop))))) (r := rb_X10_pop (((((text, size), (sv, stb)), ((var, tab), szs)), (((prg, cod), words), ((has, fpl), pos))), ((((fault, plc), (tol, tmany)), ((trc, rmany), mark)), (((pil, o1.2), mks), ((cts, turns), stop)))) o3) (As := []) (rest := [.int x2, .ref (a 0)]) hw (by rw [ho3]; exact c_X10_pop l g a text size sv stb var tab szs prg cod words has fpl pos fault plc tol tmany trc rmany mark pil o1.2 mks cts turns stop hq4) ok_yX10_pop ml_X10_174 (rm_ok (by decide) (by decide)) 0 rfl rfl rfl rfl hl.1 (Nat.le_of_ble_eq_true rfl) dX10_store_9 ⟨Nat.zero_le _, Nat.zero_le _⟩ (fun H locs hw => ?_)
  have hw : Wd g A s (w_Mdl a g (((((text, size), (sv, stb)), ((var, tab), szs)), (((prg, cod), words), ((has, fpl), pos))), ((((fault, plc), (tol, tmany)), ((trc, rmany), mark)), (((pil, o3.2), mks), ((cts, turns), stop))))) H locs := hw
  refine W.eq (g2 := F0 m 12 ls [.int o3.1, .int x2, .ref (a 0)]) rfl ?_
  have hok := bdP_use ho3 hok
  obtain ⟨o5, ho5⟩ : ∃ o, o = f_X10_placeOf szs x2 o3.1 := ⟨_, rfl⟩
  have hq6 := hok.1
  have hok := hok.2
  have hq7 := hok.1
  have hok := hok.2
  refine hI.callI0 (wl := w_Mdl a g) (a := (((((text, size), (sv, stb)), ((var, tab), szs)), (((prg, cod), words), ((has, fpl), pos))), ((((fault, plc), (tol, tmany)), ((trc, rmany), mark)), (((pil, o3.2), mks), ((cts, turns), stop))))) (r := rb_X10_placeOf (((((text, size), (sv, stb)), ((var, tab), szs)), (((prg, cod), words), ((has, fpl), pos))), ((((fault, plc), (tol, tmany)), ((trc, rmany), mark)), (((pil, o3.2), mks), ((cts, turns), stop)))) o5) (As := [.int x2, .int o3.1]) (rest := []) hw (by rw [ho5]; exact c_X10_placeOf l g a text size sv stb var tab szs prg cod words has fpl pos fault plc tol tmany trc rmany mark pil o3.2 mks cts turns stop x2 o3.1 hq6 hq7) ok_yX10_placeOf ml_X10_183 (rm_ok (by decide) (by decide)) 0 rfl rfl rfl rfl hl.1 (Nat.le_of_ble_eq_true rfl) dX10_store_12 ⟨Nat.zero_le _, Nat.zero_le _⟩ (fun H locs hw => ?_)
  have hw : Wd g A s (w_Mdl a g (((((text, size), (sv, stb)), ((var, tab), szs)), (((prg, cod), words), ((has, fpl), pos))), ((((fault, plc), (tol, tmany)), ((trc, rmany), mark)), (((pil, o3.2), mks), ((cts, turns), stop))))) H locs := hw
  refine W.eq (g2 := F0 m 15 ls [.int o5]) rfl ?_
  have hok := bdP_use ho5 hok
  refine lv_istore (lv' := [(5, .int o5), (4, .int o1.1), (0, .ref (a 0)), (1, .int x1), (2, .int x2), (3, .int x3)]) hx hb dX10_store_15 hl (by decide) rfl (fun ls hl => ?_)
  refine lv_iload_n hx hb dX10_store_17 rfl (lv_at hl 5 rfl) ?_
  refine lv_if_eq (tgt := 29) hx hb dX10_store_18 (by decide) (fun c8 => ?_) (fun c8 => ?_)
  · have hok := ok_t c8 hok
    refine lv_aload_n hx hb dX10_store_29 rfl (lv_at hl 2 rfl) ?_
    refine lv_sipush (v := (4096 : Int32)) hx hb dX10_store_30 (by decide) ?_
    refine lv_bipush (v := (16 : Int32)) hx hb dX10_store_33 (by decide) ?_
    refine lv_iload_n hx hb dX10_store_35 rfl (lv_at hl 4 rfl) ?_
    refine lv_imul hx hb dX10_store_36 ?_
    refine lv_iadd hx hb dX10_store_37 ?_
    refine lv_iload hx hb dX10_store_38 (lv_at hl 0 rfl) ?_
    refine lv_iadd hx hb dX10_store_40 ?_
    obtain ⟨o9, ho9⟩ : ∃ o, o = f_X10_see trc rmany mark (((4096 : Int32) + ((16 : Int32) * x2)) + o5) := ⟨_, rfl⟩
    have hq10 := hok.1
    have hok := hok.2
    refine hI.callV0 (wl := w_Mdl a g) (a := (((((text, size), (sv, stb)), ((var, tab), szs)), (((prg, cod), words), ((has, fpl), pos))), ((((fault, plc), (tol, tmany)), ((trc, rmany), mark)), (((pil, o3.2), mks), ((cts, turns), stop))))) (r := rb_X10_see (((((text, size), (sv, stb)), ((var, tab), szs)), (((prg, cod), words), ((has, fpl), pos))), ((((fault, plc), (tol, tmany)), ((trc, rmany), mark)), (((pil, o3.2), mks), ((cts, turns), stop)))) o9) (As := [.int (((4096 : Int32) + ((16 : Int32) * x2)) + o5)]) (rest := []) hw (by rw [ho9]; exact c_X10_see l g a text size sv stb var tab szs prg cod words has fpl pos fault plc tol tmany trc rmany mark pil o3.2 mks cts turns stop (((4096 : Int32) + ((16 : Int32) * x2)) + o5) hq10) ok_yX10_see ml_X10_164 (rm_ok (by decide) (by decide)) 0 rfl rfl rfl rfl hl.1 (Nat.le_of_ble_eq_true rfl) dX10_store_41 ⟨Nat.zero_le _, Nat.zero_le _⟩ (fun H locs hw => ?_)
    have hw : Wd g A s (w_Mdl a g (((((text, size), (sv, stb)), ((var, tab), szs)), (((prg, cod), words), ((has, fpl), pos))), ((((fault, plc), (tol, tmany)), ((o9.1.1, o9.1.2), o9.2)), (((pil, o3.2), mks), ((cts, turns), stop))))) H locs := hw
    refine W.eq (g2 := F0 m 44 ls []) rfl ?_
    have hok := bdP_use ho9 hok
    refine lv_bipush (v := (16 : Int32)) hx hb dX10_store_44 (by decide) ?_
    refine lv_iload_n hx hb dX10_store_46 rfl (lv_at hl 4 rfl) ?_
    refine lv_imul hx hb dX10_store_47 ?_
    refine lv_iload hx hb dX10_store_48 (lv_at hl 0 rfl) ?_
    refine lv_iadd hx hb dX10_store_50 ?_
    refine lv_topi (fun v11 hv11 => ?_)
    have hok := bdP_use hv11 hok
    refine lv_istore (lv' := [(6, .int v11), (5, .int o5), (4, .int o1.1), (0, .ref (a 0)), (1, .int x1), (2, .int x2), (3, .int x3)]) hx hb dX10_store_51 hl (by decide) rfl (fun ls hl => ?_)
    refine lv_aload_n hx hb dX10_store_53 rfl (lv_at hl 3 rfl) ?_
    refine hI.get (v := .ref (a 5)) hw fg_X10_23 0 rfl rfl dX10_store_54 ?_
    refine lv_iload hx hb dX10_store_57 (lv_at hl 0 rfl) ?_
    refine lv_aload_n hx hb dX10_store_59 rfl (lv_at hl 3 rfl) ?_
    refine hI.get (v := .ref (a 5)) hw fg_X10_23 0 rfl rfl dX10_store_60 ?_
    refine lv_iload hx hb dX10_store_63 (lv_at hl 0 rfl) ?_
    have hq12 := hok.1
    have hok := hok.2
    refine hI.iald hw 5 rfl hq12 dX10_store_65 ?_
    refine lv_iload_n hx hb dX10_store_66 rfl (lv_at hl 4 rfl) ?_
    refine lv_iconst (v := (-1 : Int32)) hx hb dX10_store_67 (by decide) ?_
    refine lv_ixor hx hb dX10_store_68 ?_
    refine lv_iand hx hb dX10_store_69 ?_
    refine lv_iload hx hb dX10_store_70 (lv_at hl 2 rfl) ?_
    refine lv_iload_n hx hb dX10_store_72 rfl (lv_at hl 4 rfl) ?_
    refine lv_iand hx hb dX10_store_73 ?_
    refine lv_ior hx hb dX10_store_74 ?_
    have hq13 := hok.1
    have hok := hok.2
    refine hI.iast hw 5 rfl hq13 dX10_store_75 (fun H locs hw => ?_)
    have hw : Wd g A s (w_Mdl a g (((((text, size), (sv, stb)), ((var, upd tab v11.toNatClampNeg (((tab v11.toNatClampNeg) &&& (x1 ^^^ (-1 : Int32))) ||| (o1.1 &&& x1))), szs)), (((prg, cod), words), ((has, fpl), pos))), ((((fault, plc), (tol, tmany)), ((o9.1.1, o9.1.2), o9.2)), (((pil, o3.2), mks), ((cts, turns), stop))))) H locs := hw
    exact hI.retV (u := (((((text, size), (sv, stb)), ((var, upd tab v11.toNatClampNeg (((tab v11.toNatClampNeg) &&& (x1 ^^^ (-1 : Int32))) ||| (o1.1 &&& x1))), szs)), (((prg, cod), words), ((has, fpl), pos))), ((((fault, plc), (tol, tmany)), ((o9.1.1, o9.1.2), o9.2)), (((pil, o3.2), mks), ((cts, turns), stop))))) hw (hr.trans (congrArg (rb_X10_store (((((text, size), (sv, stb)), ((var, tab), szs)), (((prg, cod), words), ((has, fpl), pos))), ((((fault, plc), (tol, tmany)), ((trc, rmany), mark)), (((pil, pmany), mks), ((cts, turns), stop))))) ((show f_X10_store tab szs trc rmany mark pil pmany x1 x2 x3 = ((((upd tab v11.toNatClampNeg (((tab v11.toNatClampNeg) &&& (x1 ^^^ (-1 : Int32))) ||| (o1.1 &&& x1)), o9.1.1), o9.1.2), (o9.2, o3.2))) from bd_of ho1 (bd_of ho3 (bd_of ho5 (it_t c8 (bd_of ho9 (bd_of hv11 (rfl)))))))))) dX10_store_76
  · have hok := ok_f c8 hok
    refine lv_aload_n hx hb dX10_store_21 rfl (lv_at hl 2 rfl) ?_
    refine lv_iload_n hx hb dX10_store_22 rfl (lv_at hl 4 rfl) ?_
    have hq15 := hok.1
    have hok := hok.2
    obtain ⟨o14, ho14⟩ : ∃ o, o = f_X10_seeAll szs trc rmany mark x2 := ⟨_, rfl⟩
    refine hI.callV0 (wl := w_Mdl a g) (a := (((((text, size), (sv, stb)), ((var, tab), szs)), (((prg, cod), words), ((has, fpl), pos))), ((((fault, plc), (tol, tmany)), ((trc, rmany), mark)), (((pil, o3.2), mks), ((cts, turns), stop))))) (r := rb_X10_seeAll (((((text, size), (sv, stb)), ((var, tab), szs)), (((prg, cod), words), ((has, fpl), pos))), ((((fault, plc), (tol, tmany)), ((trc, rmany), mark)), (((pil, o3.2), mks), ((cts, turns), stop)))) o14) (As := [.int x2]) (rest := []) hw (by rw [ho14]; exact c_X10_seeAll l g a text size sv stb var tab szs prg cod words has fpl pos fault plc tol tmany trc rmany mark pil o3.2 mks cts turns stop x2 hq15) ok_yX10_seeAll ml_X10_186 (rm_ok (by decide) (by decide)) 0 rfl rfl rfl rfl hl.1 (Nat.le_of_ble_eq_true rfl) dX10_store_23 ⟨Nat.zero_le _, Nat.zero_le _⟩ (fun H locs hw => ?_)
    have hw : Wd g A s (w_Mdl a g (((((text, size), (sv, stb)), ((var, tab), szs)), (((prg, cod), words), ((has, fpl), pos))), ((((fault, plc), (tol, tmany)), ((o14.1.1, o14.1.2), o14.2)), (((pil, o3.2), mks), ((cts, turns), stop))))) H locs := hw
    refine W.eq (g2 := F0 m 26 ls []) rfl ?_
    have hok := bdP_use ho14 hok
    refine lv_goto (tgt := 44) hx hb dX10_store_26 (by decide) ?_
    refine lv_bipush (v := (16 : Int32)) hx hb dX10_store_44 (by decide) ?_
    refine lv_iload_n hx hb dX10_store_46 rfl (lv_at hl 4 rfl) ?_
    refine lv_imul hx hb dX10_store_47 ?_
    refine lv_iload hx hb dX10_store_48 (lv_at hl 0 rfl) ?_
    refine lv_iadd hx hb dX10_store_50 ?_
    refine lv_topi (fun v16 hv16 => ?_)
    have hok := bdP_use hv16 hok
    refine lv_istore (lv' := [(6, .int v16), (5, .int o5), (4, .int o1.1), (0, .ref (a 0)), (1, .int x1), (2, .int x2), (3, .int x3)]) hx hb dX10_store_51 hl (by decide) rfl (fun ls hl => ?_)
    refine lv_aload_n hx hb dX10_store_53 rfl (lv_at hl 3 rfl) ?_
    refine hI.get (v := .ref (a 5)) hw fg_X10_23 0 rfl rfl dX10_store_54 ?_
    refine lv_iload hx hb dX10_store_57 (lv_at hl 0 rfl) ?_
    refine lv_aload_n hx hb dX10_store_59 rfl (lv_at hl 3 rfl) ?_
    refine hI.get (v := .ref (a 5)) hw fg_X10_23 0 rfl rfl dX10_store_60 ?_
    refine lv_iload hx hb dX10_store_63 (lv_at hl 0 rfl) ?_
    have hq17 := hok.1
    have hok := hok.2
    refine hI.iald hw 5 rfl hq17 dX10_store_65 ?_
    refine lv_iload_n hx hb dX10_store_66 rfl (lv_at hl 4 rfl) ?_
    refine lv_iconst (v := (-1 : Int32)) hx hb dX10_store_67 (by decide) ?_
    refine lv_ixor hx hb dX10_store_68 ?_
    refine lv_iand hx hb dX10_store_69 ?_
    refine lv_iload hx hb dX10_store_70 (lv_at hl 2 rfl) ?_
    refine lv_iload_n hx hb dX10_store_72 rfl (lv_at hl 4 rfl) ?_
    refine lv_iand hx hb dX10_store_73 ?_
    refine lv_ior hx hb dX10_store_74 ?_
    have hq18 := hok.1
    have hok := hok.2
    refine hI.iast hw 5 rfl hq18 dX10_store_75 (fun H locs hw => ?_)
    have hw : Wd g A s (w_Mdl a g (((((text, size), (sv, stb)), ((var, upd tab v16.toNatClampNeg (((tab v16.toNatClampNeg) &&& (x1 ^^^ (-1 : Int32))) ||| (o1.1 &&& x1))), szs)), (((prg, cod), words), ((has, fpl), pos))), ((((fault, plc), (tol, tmany)), ((o14.1.1, o14.1.2), o14.2)), (((pil, o3.2), mks), ((cts, turns), stop))))) H locs := hw
    exact hI.retV (u := (((((text, size), (sv, stb)), ((var, upd tab v16.toNatClampNeg (((tab v16.toNatClampNeg) &&& (x1 ^^^ (-1 : Int32))) ||| (o1.1 &&& x1))), szs)), (((prg, cod), words), ((has, fpl), pos))), ((((fault, plc), (tol, tmany)), ((o14.1.1, o14.1.2), o14.2)), (((pil, o3.2), mks), ((cts, turns), stop))))) hw (hr.trans (congrArg (rb_X10_store (((((text, size), (sv, stb)), ((var, tab), szs)), (((prg, cod), words), ((has, fpl), pos))), ((((fault, plc), (tol, tmany)), ((trc, rmany), mark)), (((pil, pmany), mks), ((cts, turns), stop))))) ((show f_X10_store tab szs trc rmany mark pil pmany x1 x2 x3 = ((((upd tab v16.toNatClampNeg (((tab v16.toNatClampNeg) &&& (x1 ^^^ (-1 : Int32))) ||| (o1.1 &&& x1)), o14.1.1), o14.1.2), (o14.2, o3.2))) from bd_of ho1 (bd_of ho3 (bd_of ho5 (it_f c8 (bd_of ho14 (bd_of hv16 (rfl)))))))))) dX10_store_76
