def ok_X10_check_114 (text : Nat → Int32) (sv : Nat → Int32) (stb : Nat → Int32) : Nat → Int32 → (Nat → Int32) → (Nat → Int32) → Int32 → Int32 → Int32 → Int32 → Int32 → Int32 → Int32 → Prop
  | 0, _, _, _, _, _, _, _, _, _, _ => False
  | k + 1, size, prg, cod, words, has, fpl, pos, fault, plc, y1 => if size ≤ y1 then cdAk 13 sv stb prg cod (0 : Int32) (0 : Int32) (0 : Int32) (0 : Int32) ∧ (bdP (cdA 13 sv stb prg cod (0 : Int32) (0 : Int32) (0 : Int32) (0 : Int32)) (fun o14 => ok_X10_word o14.2.1 o14.2.2 (0 : Int32) ∧ (bdP (f_X10_word o14.2.1 o14.2.2 (0 : Int32)) (fun o16 => if o14.1 < 0 then if fault = 0 then True else True else if fault = 0 then True else True)))) else vp_in y1 400 ∧ (vp_in y1 400 ∧ (ok_X10_check_114 text sv stb k size (upd prg y1.toNatClampNeg (text y1.toNatClampNeg)) cod words has fpl pos fault plc (y1 + (1 : Int32))))
def f_X10_check_114 (text : Nat → Int32) (sv : Nat → Int32) (stb : Nat → Int32) : Nat → Int32 → (Nat → Int32) → (Nat → Int32) → Int32 → Int32 → Int32 → Int32 → Int32 → Int32 → Int32 → (Int32 × ((((Int32 × (Nat → Int32)) × (Nat → Int32)) × (Int32 × Int32)) × ((Int32 × Int32) × (Int32 × Int32))))
  | 0, size, prg, cod, words, has, fpl, pos, fault, plc, y1 => (0, ((((size, prg), cod), (words, has)), ((fpl, pos), (fault, plc))))
  | k + 1, size, prg, cod, words, has, fpl, pos, fault, plc, y1 => if size ≤ y1 then bd (cdA 13 sv stb prg cod (0 : Int32) (0 : Int32) (0 : Int32) (0 : Int32)) (fun o14 => bd (f_X10_word o14.2.1 o14.2.2 (0 : Int32)) (fun o16 => if o14.1 < 0 then if fault = 0 then (o16.2, (((((0 : Int32), prg), o16.1), (o16.2, (0 : Int32))), ((fpl, pos), (fault, plc)))) else (fault, (((((0 : Int32), prg), o16.1), (o16.2, (0 : Int32))), ((fpl, pos), (fault, plc)))) else if fault = 0 then (o16.2, (((((0 : Int32), prg), o16.1), (o16.2, (1 : Int32))), ((fpl, pos), (fault, plc)))) else (fault, (((((0 : Int32), prg), o16.1), (o16.2, (1 : Int32))), ((fpl, pos), (fault, plc)))))) else f_X10_check_114 text sv stb k size (upd prg y1.toNatClampNeg (text y1.toNatClampNeg)) cod words has fpl pos fault plc (y1 + (1 : Int32))
def ok_X10_check_97 (text : Nat → Int32) (sv : Nat → Int32) (stb : Nat → Int32) (size : Int32) (prg : Nat → Int32) (cod : Nat → Int32) (words : Int32) (has : Int32) (fpl : Int32) (pos : Int32) (fault : Int32) (plc : Int32) : Prop := if fault = 0 then ok_X10_check_114 text sv stb 402 size prg cod words has plc pos fault plc (0 : Int32) else True
def f_X10_check_97 (text : Nat → Int32) (sv : Nat → Int32) (stb : Nat → Int32) (size : Int32) (prg : Nat → Int32) (cod : Nat → Int32) (words : Int32) (has : Int32) (fpl : Int32) (pos : Int32) (fault : Int32) (plc : Int32) : Int32 × ((((Int32 × (Nat → Int32)) × (Nat → Int32)) × (Int32 × Int32)) × ((Int32 × Int32) × (Int32 × Int32))) := if fault = 0 then f_X10_check_114 text sv stb 402 size prg cod words has plc pos fault plc (0 : Int32) else (fault, (((((0 : Int32), prg), cod), (words, has)), ((plc, pos), (fault, plc))))
def ok_X10_check_60 (text : Nat → Int32) (sv : Nat → Int32) (stb : Nat → Int32) (size : Int32) (prg : Nat → Int32) (cod : Nat → Int32) (words : Int32) (has : Int32) (fpl : Int32) (pos : Int32) (fault : Int32) (plc : Int32) : Prop := if fault = 0 then lbAk 13 text sv stb fault plc (0 : Int32) (0 : Int32) ∧ (bdP (lbA 13 text sv stb fault plc (0 : Int32) (0 : Int32)) (fun o7 => if o7.2.1 = 0 then if o7.1 < 0 then ok_X10_check_97 text sv stb size prg cod words has fpl pos o7.2.1 o7.2.2 else ok_X10_check_97 text sv stb size prg cod words has fpl pos o7.2.1 (-1 : Int32) else ok_X10_check_97 text sv stb size prg cod words has fpl pos o7.2.1 o7.2.2)) else ok_X10_check_97 text sv stb size prg cod words has fpl pos fault plc
def f_X10_check_60 (text : Nat → Int32) (sv : Nat → Int32) (stb : Nat → Int32) (size : Int32) (prg : Nat → Int32) (cod : Nat → Int32) (words : Int32) (has : Int32) (fpl : Int32) (pos : Int32) (fault : Int32) (plc : Int32) : Int32 × ((((Int32 × (Nat → Int32)) × (Nat → Int32)) × (Int32 × Int32)) × ((Int32 × Int32) × (Int32 × Int32))) := if fault = 0 then bd (lbA 13 text sv stb fault plc (0 : Int32) (0 : Int32)) (fun o7 => if o7.2.1 = 0 then if o7.1 < 0 then f_X10_check_97 text sv stb size prg cod words has fpl pos o7.2.1 o7.2.2 else f_X10_check_97 text sv stb size prg cod words has fpl pos o7.2.1 (-1 : Int32) else f_X10_check_97 text sv stb size prg cod words has fpl pos o7.2.1 o7.2.2) else f_X10_check_97 text sv stb size prg cod words has fpl pos fault plc
def f_X10_check (text : Nat → Int32) (size : Int32) (sv : Nat → Int32) (stb : Nat → Int32) (prg : Nat → Int32) (cod : Nat → Int32) (words : Int32) (has : Int32) (fpl : Int32) (pos : Int32) (fault : Int32) (plc : Int32) : Int32 × ((((Int32 × (Nat → Int32)) × (Nat → Int32)) × (Int32 × Int32)) × ((Int32 × Int32) × (Int32 × Int32))) := bd (mA 12 text size (0 : Int32) (0 : Int32) (-1 : Int32) (1 : Int32) (0 : Int32)) (fun o1 => if o1.1.2 = 0 then if size ≤ (o1.1.1 + (1 : Int32)) then f_X10_check_60 text sv stb size prg cod words has fpl (o1.1.1 + (1 : Int32)) o1.1.2 o1.2 else bd (f_X10_fail o1.1.2 o1.2 (-11 : Int32) (o1.1.1 + (1 : Int32))) (fun o5 => f_X10_check_60 text sv stb size prg cod words has fpl (o1.1.1 + (1 : Int32)) o5.2.1 o5.2.2) else f_X10_check_60 text sv stb size prg cod words has fpl o1.1.1 o1.1.2 o1.2)
def ok_X10_check (text : Nat → Int32) (size : Int32) (sv : Nat → Int32) (stb : Nat → Int32) (prg : Nat → Int32) (cod : Nat → Int32) (words : Int32) (has : Int32) (fpl : Int32) (pos : Int32) (fault : Int32) (plc : Int32) : Prop := RI size (0 : Int32) ∧ (bdP (mA 12 text size (0 : Int32) (0 : Int32) (-1 : Int32) (1 : Int32) (0 : Int32)) (fun o1 => if o1.1.2 = 0 then if size ≤ (o1.1.1 + (1 : Int32)) then ok_X10_check_60 text sv stb size prg cod words has fpl (o1.1.1 + (1 : Int32)) o1.1.2 o1.2 else bdP (f_X10_fail o1.1.2 o1.2 (-11 : Int32) (o1.1.1 + (1 : Int32))) (fun o5 => ok_X10_check_60 text sv stb size prg cod words has fpl (o1.1.1 + (1 : Int32)) o5.2.1 o5.2.2) else ok_X10_check_60 text sv stb size prg cod words has fpl o1.1.1 o1.1.2 o1.2))
def rb_X10_check (σ : S_Mdl) (o : Int32 × ((((Int32 × (Nat → Int32)) × (Nat → Int32)) × (Int32 × Int32)) × ((Int32 × Int32) × (Int32 × Int32)))) : Int32 × S_Mdl := (o.1, (((((σ.1.1.1.1.1, o.2.1.1.1.1), (σ.1.1.1.2.1, σ.1.1.1.2.2)), ((σ.1.1.2.1.1, σ.1.1.2.1.2), σ.1.1.2.2)), (((o.2.1.1.1.2, o.2.1.1.2), o.2.1.2.1), ((o.2.1.2.2, o.2.2.1.1), o.2.2.1.2))), ((((o.2.2.2.1, o.2.2.2.2), (σ.2.1.1.2.1, σ.2.1.1.2.2)), ((σ.2.1.2.1.1, σ.2.1.2.1.2), σ.2.1.2.2)), (((σ.2.2.1.1.1, σ.2.2.1.1.2), σ.2.2.1.2), ((σ.2.2.2.1.1, σ.2.2.2.1.2), σ.2.2.2.2)))))
set_option maxHeartbeats 4000000 in
set_option maxRecDepth 100000 in
theorem lp_X10_check_114 (l : Launch) (g : GG) (a : Nat → Nat) (text : Nat → Int32) (size₀ : Int32) (sv : Nat → Int32) (stb : Nat → Int32) (var : Nat → Int32) (tab : Nat → Int32) (szs : Nat → Int32) (prg₀ : Nat → Int32) (cod₀ : Nat → Int32) (words₀ : Int32) (has₀ : Int32) (fpl₀ : Int32) (pos₀ : Int32) (fault₀ : Int32) (plc₀ : Int32) (tol : Nat → Int32) (tmany : Int32) (trc : Nat → Int32) (rmany : Int32) (mark : Int64) (pil : Nat → Int32) (pmany : Int32) (mks : Nat → Int32) (cts : Nat → Int32) (turns : Int32) (stop : Int32)  {p : Program} {e : Env} {s : State} {m : MethodId} {args : Array Value} {below : List Frame} {meth : Method} {c : Code} {A : Nat → Prop} (hI : InM p s m args meth c RX10 cX10_check 2 (some .int) g A) : ∀ (k : Nat) (size : Int32) (prg : Nat → Int32) (cod : Nat → Int32) (words : Int32) (has : Int32) (fpl : Int32) (pos : Int32) (fault : Int32) (plc : Int32) (y1 : Int32), (ok_X10_check_114 text sv stb k size prg cod words has fpl pos fault plc y1) → ∀ (r : Int32 × S_Mdl), r = rb_X10_check (((((text, size₀), (sv, stb)), ((var, tab), szs)), (((prg₀, cod₀), words₀), ((has₀, fpl₀), pos₀))), ((((fault₀, plc₀), (tol, tmany)), ((trc, rmany), mark)), (((pil, pmany), mks), ((cts, turns), stop)))) (f_X10_check_114 text sv stb k size prg cod words has fpl pos fault plc y1) → ∀ (H : Heap) (locs : List Loc), Wd g A s (w_Mdl a g (((((text, size), (sv, stb)), ((var, tab), szs)), (((prg, cod), words), ((has, fpl), pos))), ((((fault, plc), (tol, tmany)), ((trc, rmany), mark)), (((pil, pmany), mks), ((cts, turns), stop))))) H locs → ∀ (ls : Array Slot), lv_has ls 2 [(0, .ref (a 0)), (1, .int y1)] → W p l e (rmN 81) s m args below meth c H locs 0 0 (QI g (w_Mdl a g) A r below args s) (F0 m 114 ls []) := by
  have hx := hI.1
  have hb := hI.2.1
  intro k
  induction k with
  | zero =>
    intro size prg cod words has fpl pos fault plc y1 hok
    exact hok.elim
  | succ k ih =>
    intro size prg cod words has fpl pos fault plc y1 hok r hr H locs hw ls hl
    refine lv_iload_n hx hb dX10_check_114 rfl (lv_at hl 1 rfl) ?_
    refine lv_aload_n hx hb dX10_check_115 rfl (lv_at hl 0 rfl) ?_
    refine hI.get (v := .int size) hw fg_X10_62 0 rfl rfl dX10_check_116 ?_
    refine lv_icmp_ge (tgt := 140) hx hb dX10_check_119 (by decide) (fun c13 => ?_) (fun c13 => ?_)
    · have hok := ok_t c13 hok
      refine lv_aload_n hx hb dX10_check_140 rfl (lv_at hl 0 rfl) ?_
      refine lv_iconst (v := (0 : Int32)) hx hb dX10_check_141 (by decide) ?_
      refine hI.put hw fp_X10_125 rfl 0 rfl rfl rfl (Nat.le_of_ble_eq_true rfl) dX10_check_142 (fun H locs hw => ?_)
      have hw : Wd g A s (w_Mdl a g (((((text, size), (sv, stb)), ((var, tab), szs)), (((prg, cod), (0 : Int32)), ((has, fpl), pos))), ((((fault, plc), (tol, tmany)), ((trc, rmany), mark)), (((pil, pmany), mks), ((cts, turns), stop))))) H locs := hw
      refine lv_aload_n hx hb dX10_check_145 rfl (lv_at hl 0 rfl) ?_
      refine lv_iconst (v := (0 : Int32)) hx hb dX10_check_146 (by decide) ?_
      refine lv_iconst (v := (0 : Int32)) hx hb dX10_check_147 (by decide) ?_
      refine lv_iconst (v := (0 : Int32)) hx hb dX10_check_148 (by decide) ?_
      have hq15 := hok.1
      have hok := hok.2
      obtain ⟨o14, ho14⟩ : ∃ o, o = cdA 13 sv stb prg cod (0 : Int32) (0 : Int32) (0 : Int32) (0 : Int32) := ⟨_, rfl⟩
      refine hI.callI0 (wl := w_Mdl a g) (a := (((((text, size), (sv, stb)), ((var, tab), szs)), (((prg, cod), (0 : Int32)), ((has, fpl), pos))), ((((fault, plc), (tol, tmany)), ((trc, rmany), mark)), (((pil, pmany), mks), ((cts, turns), stop))))) (r := rb_X10_codeAll (((((text, size), (sv, stb)), ((var, tab), szs)), (((prg, cod), (0 : Int32)), ((has, fpl), pos))), ((((fault, plc), (tol, tmany)), ((trc, rmany), mark)), (((pil, pmany), mks), ((cts, turns), stop)))) o14) (As := [.int (0 : Int32), .int (0 : Int32), .int (0 : Int32)]) (rest := []) hw (by rw [ho14]; exact k_cdA l g a 13 text size sv stb var tab szs prg cod (0 : Int32) has fpl pos fault plc tol tmany trc rmany mark pil pmany mks cts turns stop (0 : Int32) (0 : Int32) (0 : Int32) hq15) ok_yX10_codeAll ml_X10_141 (rm_ok (by decide) (by decide)) 0 rfl rfl rfl rfl hl.1 (Nat.le_of_ble_eq_true rfl) dX10_check_149 ⟨Nat.zero_le _, Nat.zero_le _⟩ (fun H locs hw => ?_)
      have hw : Wd g A s (w_Mdl a g (((((text, size), (sv, stb)), ((var, tab), szs)), (((prg, o14.2.1), o14.2.2), ((has, fpl), pos))), ((((fault, plc), (tol, tmany)), ((trc, rmany), mark)), (((pil, pmany), mks), ((cts, turns), stop))))) H locs := hw
      refine W.eq (g2 := F0 m 152 ls [.int o14.1]) rfl ?_
      have hok := bdP_use ho14 hok
      refine lv_istore_n (lv' := [(1, .int o14.1), (0, .ref (a 0))]) hx hb dX10_check_152 rfl hl (by decide) rfl (fun ls hl => ?_)
      refine lv_aload_n hx hb dX10_check_153 rfl (lv_at hl 1 rfl) ?_
      refine lv_iconst (v := (0 : Int32)) hx hb dX10_check_154 (by decide) ?_
      have hq17 := hok.1
      have hok := hok.2
      obtain ⟨o16, ho16⟩ : ∃ o, o = f_X10_word o14.2.1 o14.2.2 (0 : Int32) := ⟨_, rfl⟩
      refine hI.callV0 (wl := w_Mdl a g) (a := (((((text, size), (sv, stb)), ((var, tab), szs)), (((prg, o14.2.1), o14.2.2), ((has, fpl), pos))), ((((fault, plc), (tol, tmany)), ((trc, rmany), mark)), (((pil, pmany), mks), ((cts, turns), stop))))) (r := rb_X10_word (((((text, size), (sv, stb)), ((var, tab), szs)), (((prg, o14.2.1), o14.2.2), ((has, fpl), pos))), ((((fault, plc), (tol, tmany)), ((trc, rmany), mark)), (((pil, pmany), mks), ((cts, turns), stop)))) o16) (As := [.int (0 : Int32)]) (rest := []) hw (by rw [ho16]; exact c_X10_word l g a text size sv stb var tab szs prg o14.2.1 o14.2.2 has fpl pos fault plc tol tmany trc rmany mark pil pmany mks cts turns stop (0 : Int32) hq17) ok_yX10_word ml_X10_128 (rm_ok (by decide) (by decide)) 0 rfl rfl rfl rfl hl.1 (Nat.le_of_ble_eq_true rfl) dX10_check_155 ⟨Nat.zero_le _, Nat.zero_le _⟩ (fun H locs hw => ?_)
      have hw : Wd g A s (w_Mdl a g (((((text, size), (sv, stb)), ((var, tab), szs)), (((prg, o16.1), o16.2), ((has, fpl), pos))), ((((fault, plc), (tol, tmany)), ((trc, rmany), mark)), (((pil, pmany), mks), ((cts, turns), stop))))) H locs := hw
      refine W.eq (g2 := F0 m 158 ls []) rfl ?_
      have hok := bdP_use ho16 hok
      refine lv_aload_n hx hb dX10_check_158 rfl (lv_at hl 1 rfl) ?_
      refine lv_iload_n hx hb dX10_check_159 rfl (lv_at hl 0 rfl) ?_
      refine lv_if_lt (tgt := 167) hx hb dX10_check_160 (by decide) (fun c18 => ?_) (fun c18 => ?_)
      · have hok := ok_t c18 hok
        refine lv_iconst (v := (0 : Int32)) hx hb dX10_check_167 (by decide) ?_
        refine hI.put hw fp_X10_58 rfl 0 rfl rfl rfl (Nat.le_of_ble_eq_true rfl) dX10_check_168 (fun H locs hw => ?_)
        have hw : Wd g A s (w_Mdl a g (((((text, size), (sv, stb)), ((var, tab), szs)), (((prg, o16.1), o16.2), (((0 : Int32), fpl), pos))), ((((fault, plc), (tol, tmany)), ((trc, rmany), mark)), (((pil, pmany), mks), ((cts, turns), stop))))) H locs := hw
        refine lv_aload_n hx hb dX10_check_171 rfl (lv_at hl 1 rfl) ?_
        refine lv_iconst (v := (0 : Int32)) hx hb dX10_check_172 (by decide) ?_
        refine hI.put hw fp_X10_62 rfl 0 rfl rfl rfl (Nat.le_of_ble_eq_true rfl) dX10_check_173 (fun H locs hw => ?_)
        have hw : Wd g A s (w_Mdl a g (((((text, (0 : Int32)), (sv, stb)), ((var, tab), szs)), (((prg, o16.1), o16.2), (((0 : Int32), fpl), pos))), ((((fault, plc), (tol, tmany)), ((trc, rmany), mark)), (((pil, pmany), mks), ((cts, turns), stop))))) H locs := hw
        refine lv_aload_n hx hb dX10_check_176 rfl (lv_at hl 1 rfl) ?_
        refine hI.get (v := .int fault) hw fg_X10_65 0 rfl rfl dX10_check_177 ?_
        refine lv_if_ne (tgt := 190) hx hb dX10_check_180 (by decide) (fun c19 => ?_) (fun c19 => ?_)
        · have hok := ok_f c19 hok
          refine lv_aload_n hx hb dX10_check_190 rfl (lv_at hl 1 rfl) ?_
          refine hI.get (v := .int fault) hw fg_X10_65 0 rfl rfl dX10_check_191 ?_
          exact hI.retI (u := (((((text, (0 : Int32)), (sv, stb)), ((var, tab), szs)), (((prg, o16.1), o16.2), (((0 : Int32), fpl), pos))), ((((fault, plc), (tol, tmany)), ((trc, rmany), mark)), (((pil, pmany), mks), ((cts, turns), stop))))) hw (hr.trans (congrArg (rb_X10_check (((((text, size₀), (sv, stb)), ((var, tab), szs)), (((prg₀, cod₀), words₀), ((has₀, fpl₀), pos₀))), ((((fault₀, plc₀), (tol, tmany)), ((trc, rmany), mark)), (((pil, pmany), mks), ((cts, turns), stop))))) ((show f_X10_check_114 text sv stb (k + 1) size prg cod words has fpl pos fault plc y1 = (fault, (((((0 : Int32), prg), o16.1), (o16.2, (0 : Int32))), ((fpl, pos), (fault, plc)))) from it_t c13 (bd_of ho14 (bd_of ho16 (it_t c18 (it_f c19 (rfl))))))))) dX10_check_194
        · have hok := ok_t c19 hok
          refine lv_aload_n hx hb dX10_check_183 rfl (lv_at hl 1 rfl) ?_
          refine hI.get (v := .int o16.2) hw fg_X10_125 0 rfl rfl dX10_check_184 ?_
          refine lv_goto (tgt := 194) hx hb dX10_check_187 (by decide) ?_
          exact hI.retI (u := (((((text, (0 : Int32)), (sv, stb)), ((var, tab), szs)), (((prg, o16.1), o16.2), (((0 : Int32), fpl), pos))), ((((fault, plc), (tol, tmany)), ((trc, rmany), mark)), (((pil, pmany), mks), ((cts, turns), stop))))) hw (hr.trans (congrArg (rb_X10_check (((((text, size₀), (sv, stb)), ((var, tab), szs)), (((prg₀, cod₀), words₀), ((has₀, fpl₀), pos₀))), ((((fault₀, plc₀), (tol, tmany)), ((trc, rmany), mark)), (((pil, pmany), mks), ((cts, turns), stop))))) ((show f_X10_check_114 text sv stb (k + 1) size prg cod words has fpl pos fault plc y1 = (o16.2, (((((0 : Int32), prg), o16.1), (o16.2, (0 : Int32))), ((fpl, pos), (fault, plc)))) from it_t c13 (bd_of ho14 (bd_of ho16 (it_t c18 (it_t c19 (rfl))))))))) dX10_check_194
      · have hok := ok_f c18 hok
        refine lv_iconst (v := (1 : Int32)) hx hb dX10_check_163 (by decide) ?_
        refine lv_goto (tgt := 168) hx hb dX10_check_164 (by decide) ?_
        refine hI.put hw fp_X10_58 rfl 0 rfl rfl rfl (Nat.le_of_ble_eq_true rfl) dX10_check_168 (fun H locs hw => ?_)
        have hw : Wd g A s (w_Mdl a g (((((text, size), (sv, stb)), ((var, tab), szs)), (((prg, o16.1), o16.2), (((1 : Int32), fpl), pos))), ((((fault, plc), (tol, tmany)), ((trc, rmany), mark)), (((pil, pmany), mks), ((cts, turns), stop))))) H locs := hw
        refine lv_aload_n hx hb dX10_check_171 rfl (lv_at hl 1 rfl) ?_
        refine lv_iconst (v := (0 : Int32)) hx hb dX10_check_172 (by decide) ?_
        refine hI.put hw fp_X10_62 rfl 0 rfl rfl rfl (Nat.le_of_ble_eq_true rfl) dX10_check_173 (fun H locs hw => ?_)
        have hw : Wd g A s (w_Mdl a g (((((text, (0 : Int32)), (sv, stb)), ((var, tab), szs)), (((prg, o16.1), o16.2), (((1 : Int32), fpl), pos))), ((((fault, plc), (tol, tmany)), ((trc, rmany), mark)), (((pil, pmany), mks), ((cts, turns), stop))))) H locs := hw
        refine lv_aload_n hx hb dX10_check_176 rfl (lv_at hl 1 rfl) ?_
        refine hI.get (v := .int fault) hw fg_X10_65 0 rfl rfl dX10_check_177 ?_
        refine lv_if_ne (tgt := 190) hx hb dX10_check_180 (by decide) (fun c20 => ?_) (fun c20 => ?_)
        · have hok := ok_f c20 hok
          refine lv_aload_n hx hb dX10_check_190 rfl (lv_at hl 1 rfl) ?_
          refine hI.get (v := .int fault) hw fg_X10_65 0 rfl rfl dX10_check_191 ?_
          exact hI.retI (u := (((((text, (0 : Int32)), (sv, stb)), ((var, tab), szs)), (((prg, o16.1), o16.2), (((1 : Int32), fpl), pos))), ((((fault, plc), (tol, tmany)), ((trc, rmany), mark)), (((pil, pmany), mks), ((cts, turns), stop))))) hw (hr.trans (congrArg (rb_X10_check (((((text, size₀), (sv, stb)), ((var, tab), szs)), (((prg₀, cod₀), words₀), ((has₀, fpl₀), pos₀))), ((((fault₀, plc₀), (tol, tmany)), ((trc, rmany), mark)), (((pil, pmany), mks), ((cts, turns), stop))))) ((show f_X10_check_114 text sv stb (k + 1) size prg cod words has fpl pos fault plc y1 = (fault, (((((0 : Int32), prg), o16.1), (o16.2, (1 : Int32))), ((fpl, pos), (fault, plc)))) from it_t c13 (bd_of ho14 (bd_of ho16 (it_f c18 (it_f c20 (rfl))))))))) dX10_check_194
        · have hok := ok_t c20 hok
          refine lv_aload_n hx hb dX10_check_183 rfl (lv_at hl 1 rfl) ?_
          refine hI.get (v := .int o16.2) hw fg_X10_125 0 rfl rfl dX10_check_184 ?_
          refine lv_goto (tgt := 194) hx hb dX10_check_187 (by decide) ?_
          exact hI.retI (u := (((((text, (0 : Int32)), (sv, stb)), ((var, tab), szs)), (((prg, o16.1), o16.2), (((1 : Int32), fpl), pos))), ((((fault, plc), (tol, tmany)), ((trc, rmany), mark)), (((pil, pmany), mks), ((cts, turns), stop))))) hw (hr.trans (congrArg (rb_X10_check (((((text, size₀), (sv, stb)), ((var, tab), szs)), (((prg₀, cod₀), words₀), ((has₀, fpl₀), pos₀))), ((((fault₀, plc₀), (tol, tmany)), ((trc, rmany), mark)), (((pil, pmany), mks), ((cts, turns), stop))))) ((show f_X10_check_114 text sv stb (k + 1) size prg cod words has fpl pos fault plc y1 = (o16.2, (((((0 : Int32), prg), o16.1), (o16.2, (1 : Int32))), ((fpl, pos), (fault, plc)))) from it_t c13 (bd_of ho14 (bd_of ho16 (it_f c18 (it_t c20 (rfl))))))))) dX10_check_194
    · have hok := ok_f c13 hok
      refine lv_aload_n hx hb dX10_check_122 rfl (lv_at hl 0 rfl) ?_
      refine hI.get (v := .ref (a 7)) hw fg_X10_29 0 rfl rfl dX10_check_123 ?_
      refine lv_iload_n hx hb dX10_check_126 rfl (lv_at hl 1 rfl) ?_
      refine lv_aload_n hx hb dX10_check_127 rfl (lv_at hl 0 rfl) ?_
      refine hI.get (v := .ref (a 1)) hw fg_X10_7 0 rfl rfl dX10_check_128 ?_
      refine lv_iload_n hx hb dX10_check_131 rfl (lv_at hl 1 rfl) ?_
      have hq21 := hok.1
      have hok := hok.2
      refine hI.iald hw 1 rfl hq21 dX10_check_132 ?_
      have hq22 := hok.1
      have hok := hok.2
      refine hI.iast hw 7 rfl hq22 dX10_check_133 (fun H locs hw => ?_)
      have hw : Wd g A s (w_Mdl a g (((((text, size), (sv, stb)), ((var, tab), szs)), (((upd prg y1.toNatClampNeg (text y1.toNatClampNeg), cod), words), ((has, fpl), pos))), ((((fault, plc), (tol, tmany)), ((trc, rmany), mark)), (((pil, pmany), mks), ((cts, turns), stop))))) H locs := hw
      refine lv_iinc (v := y1 + (1 : Int32)) (lv' := [(1, .int (y1 + (1 : Int32))), (0, .ref (a 0))]) hx hb dX10_check_134 hl (k := 1) rfl rfl (by decide) rfl (fun ls hl => ?_)
      refine lv_goto (tgt := 114) hx hb dX10_check_137 (by decide) ?_
      exact ih size (upd prg y1.toNatClampNeg (text y1.toNatClampNeg)) cod words has fpl pos fault plc (y1 + (1 : Int32)) hok r (hr.trans (congrArg (rb_X10_check (((((text, size₀), (sv, stb)), ((var, tab), szs)), (((prg₀, cod₀), words₀), ((has₀, fpl₀), pos₀))), ((((fault₀, plc₀), (tol, tmany)), ((trc, rmany), mark)), (((pil, pmany), mks), ((cts, turns), stop))))) ((show f_X10_check_114 text sv stb (k + 1) size prg cod words has fpl pos fault plc y1 = f_X10_check_114 text sv stb k size (upd prg y1.toNatClampNeg (text y1.toNatClampNeg)) cod words has fpl pos fault plc (y1 + (1 : Int32)) from it_f c13 (rfl))))) _ _ hw _ (lv_sub hl [1, 0] rfl)
set_option maxHeartbeats 4000000 in
set_option maxRecDepth 100000 in
theorem lp_X10_check_97 (l : Launch) (g : GG) (a : Nat → Nat) (text : Nat → Int32) (size₀ : Int32) (sv : Nat → Int32) (stb : Nat → Int32) (var : Nat → Int32) (tab : Nat → Int32) (szs : Nat → Int32) (prg₀ : Nat → Int32) (cod₀ : Nat → Int32) (words₀ : Int32) (has₀ : Int32) (fpl₀ : Int32) (pos₀ : Int32) (fault₀ : Int32) (plc₀ : Int32) (tol : Nat → Int32) (tmany : Int32) (trc : Nat → Int32) (rmany : Int32) (mark : Int64) (pil : Nat → Int32) (pmany : Int32) (mks : Nat → Int32) (cts : Nat → Int32) (turns : Int32) (stop : Int32)  {p : Program} {e : Env} {s : State} {m : MethodId} {args : Array Value} {below : List Frame} {meth : Method} {c : Code} {A : Nat → Prop} (hI : InM p s m args meth c RX10 cX10_check 2 (some .int) g A) : ∀ (size : Int32) (prg : Nat → Int32) (cod : Nat → Int32) (words : Int32) (has : Int32) (fpl : Int32) (pos : Int32) (fault : Int32) (plc : Int32), (ok_X10_check_97 text sv stb size prg cod words has fpl pos fault plc) → ∀ (r : Int32 × S_Mdl), r = rb_X10_check (((((text, size₀), (sv, stb)), ((var, tab), szs)), (((prg₀, cod₀), words₀), ((has₀, fpl₀), pos₀))), ((((fault₀, plc₀), (tol, tmany)), ((trc, rmany), mark)), (((pil, pmany), mks), ((cts, turns), stop)))) (f_X10_check_97 text sv stb size prg cod words has fpl pos fault plc) → ∀ (H : Heap) (locs : List Loc), Wd g A s (w_Mdl a g (((((text, size), (sv, stb)), ((var, tab), szs)), (((prg, cod), words), ((has, fpl), pos))), ((((fault, plc), (tol, tmany)), ((trc, rmany), mark)), (((pil, pmany), mks), ((cts, turns), stop))))) H locs → ∀ (ls : Array Slot), lv_has ls 2 [(0, .ref (a 0))] → W p l e (rmN 81) s m args below meth c H locs 0 0 (QI g (w_Mdl a g) A r below args s) (F0 m 97 ls []) := by
  have hx := hI.1
  have hb := hI.2.1
  intro size prg cod words has fpl pos fault plc hok r hr H locs hw ls hl
  refine lv_aload_n hx hb dX10_check_97 rfl (lv_at hl 0 rfl) ?_
  refine lv_aload_n hx hb dX10_check_98 rfl (lv_at hl 0 rfl) ?_
  refine hI.get (v := .int plc) hw fg_X10_68 0 rfl rfl dX10_check_99 ?_
  refine hI.put hw fp_X10_35 rfl 0 rfl rfl rfl (Nat.le_of_ble_eq_true rfl) dX10_check_102 (fun H locs hw => ?_)
  have hw : Wd g A s (w_Mdl a g (((((text, size), (sv, stb)), ((var, tab), szs)), (((prg, cod), words), ((has, plc), pos))), ((((fault, plc), (tol, tmany)), ((trc, rmany), mark)), (((pil, pmany), mks), ((cts, turns), stop))))) H locs := hw
  refine lv_aload_n hx hb dX10_check_105 rfl (lv_at hl 0 rfl) ?_
  refine hI.get (v := .int fault) hw fg_X10_65 0 rfl rfl dX10_check_106 ?_
  refine lv_if_ne (tgt := 171) hx hb dX10_check_109 (by decide) (fun c11 => ?_) (fun c11 => ?_)
  · have hok := ok_f c11 hok
    refine lv_aload_n hx hb dX10_check_171 rfl (lv_at hl 0 rfl) ?_
    refine lv_iconst (v := (0 : Int32)) hx hb dX10_check_172 (by decide) ?_
    refine hI.put hw fp_X10_62 rfl 0 rfl rfl rfl (Nat.le_of_ble_eq_true rfl) dX10_check_173 (fun H locs hw => ?_)
    have hw : Wd g A s (w_Mdl a g (((((text, (0 : Int32)), (sv, stb)), ((var, tab), szs)), (((prg, cod), words), ((has, plc), pos))), ((((fault, plc), (tol, tmany)), ((trc, rmany), mark)), (((pil, pmany), mks), ((cts, turns), stop))))) H locs := hw
    refine lv_aload_n hx hb dX10_check_176 rfl (lv_at hl 0 rfl) ?_
    refine hI.get (v := .int fault) hw fg_X10_65 0 rfl rfl dX10_check_177 ?_
    refine lv_if_ne (tgt := 190) hx hb dX10_check_180 (by decide) (fun c12 => ?_) (fun c12 => ?_)
    rotate_left
    · exact absurd c12 c11
    refine lv_aload_n hx hb dX10_check_190 rfl (lv_at hl 0 rfl) ?_
    refine hI.get (v := .int fault) hw fg_X10_65 0 rfl rfl dX10_check_191 ?_
    exact hI.retI (u := (((((text, (0 : Int32)), (sv, stb)), ((var, tab), szs)), (((prg, cod), words), ((has, plc), pos))), ((((fault, plc), (tol, tmany)), ((trc, rmany), mark)), (((pil, pmany), mks), ((cts, turns), stop))))) hw (hr.trans (congrArg (rb_X10_check (((((text, size₀), (sv, stb)), ((var, tab), szs)), (((prg₀, cod₀), words₀), ((has₀, fpl₀), pos₀))), ((((fault₀, plc₀), (tol, tmany)), ((trc, rmany), mark)), (((pil, pmany), mks), ((cts, turns), stop))))) ((show f_X10_check_97 text sv stb size prg cod words has fpl pos fault plc = (fault, (((((0 : Int32), prg), cod), (words, has)), ((plc, pos), (fault, plc)))) from it_f c11 (rfl))))) dX10_check_194
  · have hok := ok_t c11 hok
    refine lv_iconst (v := (0 : Int32)) hx hb dX10_check_112 (by decide) ?_
    refine lv_istore_n (lv' := [(1, .int (0 : Int32)), (0, .ref (a 0))]) hx hb dX10_check_113 rfl hl (by decide) rfl (fun ls hl => ?_)
    exact lp_X10_check_114 l g a text size₀ sv stb var tab szs prg₀ cod₀ words₀ has₀ fpl₀ pos₀ fault₀ plc₀ tol tmany trc rmany mark pil pmany mks cts turns stop hI 402 size prg cod words has plc pos fault plc (0 : Int32) hok r (hr.trans (congrArg (rb_X10_check (((((text, size₀), (sv, stb)), ((var, tab), szs)), (((prg₀, cod₀), words₀), ((has₀, fpl₀), pos₀))), ((((fault₀, plc₀), (tol, tmany)), ((trc, rmany), mark)), (((pil, pmany), mks), ((cts, turns), stop))))) ((show f_X10_check_97 text sv stb size prg cod words has fpl pos fault plc = f_X10_check_114 text sv stb 402 size prg cod words has plc pos fault plc (0 : Int32) from it_t c11 (rfl))))) _ _ hw _ (lv_sub hl [1, 0] rfl)
set_option maxHeartbeats 4000000 in
set_option maxRecDepth 100000 in
theorem lp_X10_check_60 (l : Launch) (g : GG) (a : Nat → Nat) (text : Nat → Int32) (size₀ : Int32) (sv : Nat → Int32) (stb : Nat → Int32) (var : Nat → Int32) (tab : Nat → Int32) (szs : Nat → Int32) (prg₀ : Nat → Int32) (cod₀ : Nat → Int32) (words₀ : Int32) (has₀ : Int32) (fpl₀ : Int32) (pos₀ : Int32) (fault₀ : Int32) (plc₀ : Int32) (tol : Nat → Int32) (tmany : Int32) (trc : Nat → Int32) (rmany : Int32) (mark : Int64) (pil : Nat → Int32) (pmany : Int32) (mks : Nat → Int32) (cts : Nat → Int32) (turns : Int32) (stop : Int32)  {p : Program} {e : Env} {s : State} {m : MethodId} {args : Array Value} {below : List Frame} {meth : Method} {c : Code} {A : Nat → Prop} (hI : InM p s m args meth c RX10 cX10_check 2 (some .int) g A) : ∀ (size : Int32) (prg : Nat → Int32) (cod : Nat → Int32) (words : Int32) (has : Int32) (fpl : Int32) (pos : Int32) (fault : Int32) (plc : Int32), (ok_X10_check_60 text sv stb size prg cod words has fpl pos fault plc) → ∀ (r : Int32 × S_Mdl), r = rb_X10_check (((((text, size₀), (sv, stb)), ((var, tab), szs)), (((prg₀, cod₀), words₀), ((has₀, fpl₀), pos₀))), ((((fault₀, plc₀), (tol, tmany)), ((trc, rmany), mark)), (((pil, pmany), mks), ((cts, turns), stop)))) (f_X10_check_60 text sv stb size prg cod words has fpl pos fault plc) → ∀ (H : Heap) (locs : List Loc), Wd g A s (w_Mdl a g (((((text, size), (sv, stb)), ((var, tab), szs)), (((prg, cod), words), ((has, fpl), pos))), ((((fault, plc), (tol, tmany)), ((trc, rmany), mark)), (((pil, pmany), mks), ((cts, turns), stop))))) H locs → ∀ (ls : Array Slot), lv_has ls 2 [(0, .ref (a 0))] → W p l e (rmN 81) s m args below meth c H locs 0 0 (QI g (w_Mdl a g) A r below args s) (F0 m 60 ls []) := by
  have hx := hI.1
  have hb := hI.2.1
  intro size prg cod words has fpl pos fault plc hok r hr H locs hw ls hl
  refine lv_aload_n hx hb dX10_check_60 rfl (lv_at hl 0 rfl) ?_
  refine hI.get (v := .int fault) hw fg_X10_65 0 rfl rfl dX10_check_61 ?_
  refine lv_if_ne (tgt := 97) hx hb dX10_check_64 (by decide) (fun c6 => ?_) (fun c6 => ?_)
  · have hok := ok_f c6 hok
    exact lp_X10_check_97 l g a text size₀ sv stb var tab szs prg₀ cod₀ words₀ has₀ fpl₀ pos₀ fault₀ plc₀ tol tmany trc rmany mark pil pmany mks cts turns stop hI  size prg cod words has fpl pos fault plc hok r (hr.trans (congrArg (rb_X10_check (((((text, size₀), (sv, stb)), ((var, tab), szs)), (((prg₀, cod₀), words₀), ((has₀, fpl₀), pos₀))), ((((fault₀, plc₀), (tol, tmany)), ((trc, rmany), mark)), (((pil, pmany), mks), ((cts, turns), stop))))) ((show f_X10_check_60 text sv stb size prg cod words has fpl pos fault plc = f_X10_check_97 text sv stb size prg cod words has fpl pos fault plc from it_f c6 (rfl))))) _ _ hw _ (lv_sub hl [0] rfl)
  · have hok := ok_t c6 hok
    refine lv_aload_n hx hb dX10_check_67 rfl (lv_at hl 0 rfl) ?_
    refine lv_iconst (v := (0 : Int32)) hx hb dX10_check_68 (by decide) ?_
    refine lv_iconst (v := (0 : Int32)) hx hb dX10_check_69 (by decide) ?_
    have hq8 := hok.1
    have hok := hok.2
    obtain ⟨o7, ho7⟩ : ∃ o, o = lbA 13 text sv stb fault plc (0 : Int32) (0 : Int32) := ⟨_, rfl⟩
    refine hI.callI0 (wl := w_Mdl a g) (a := (((((text, size), (sv, stb)), ((var, tab), szs)), (((prg, cod), words), ((has, fpl), pos))), ((((fault, plc), (tol, tmany)), ((trc, rmany), mark)), (((pil, pmany), mks), ((cts, turns), stop))))) (r := rb_X10_labelAll (((((text, size), (sv, stb)), ((var, tab), szs)), (((prg, cod), words), ((has, fpl), pos))), ((((fault, plc), (tol, tmany)), ((trc, rmany), mark)), (((pil, pmany), mks), ((cts, turns), stop)))) o7) (As := [.int (0 : Int32), .int (0 : Int32)]) (rest := []) hw (by rw [ho7]; exact k_lbA l g a 13 text size sv stb var tab szs prg cod words has fpl pos fault plc tol tmany trc rmany mark pil pmany mks cts turns stop (0 : Int32) (0 : Int32) hq8) ok_yX10_labelAll ml_X10_119 (rm_ok (by decide) (by decide)) 0 rfl rfl rfl rfl hl.1 (Nat.le_of_ble_eq_true rfl) dX10_check_70 ⟨Nat.zero_le _, Nat.zero_le _⟩ (fun H locs hw => ?_)
    have hw : Wd g A s (w_Mdl a g (((((text, size), (sv, stb)), ((var, tab), szs)), (((prg, cod), words), ((has, fpl), pos))), ((((o7.2.1, o7.2.2), (tol, tmany)), ((trc, rmany), mark)), (((pil, pmany), mks), ((cts, turns), stop))))) H locs := hw
    refine W.eq (g2 := F0 m 73 ls [.int o7.1]) rfl ?_
    have hok := bdP_use ho7 hok
    refine lv_istore_n (lv' := [(1, .int o7.1), (0, .ref (a 0))]) hx hb dX10_check_73 rfl hl (by decide) rfl (fun ls hl => ?_)
    refine lv_aload_n hx hb dX10_check_74 rfl (lv_at hl 1 rfl) ?_
    refine lv_aload_n hx hb dX10_check_75 rfl (lv_at hl 1 rfl) ?_
    refine hI.get (v := .int o7.2.1) hw fg_X10_65 0 rfl rfl dX10_check_76 ?_
    refine lv_if_ne (tgt := 90) hx hb dX10_check_79 (by decide) (fun c9 => ?_) (fun c9 => ?_)
    · have hok := ok_f c9 hok
      refine lv_aload_n hx hb dX10_check_90 rfl (lv_at hl 1 rfl) ?_
      refine hI.get (v := .int o7.2.2) hw fg_X10_68 0 rfl rfl dX10_check_91 ?_
      refine hI.put hw fp_X10_68 rfl 0 rfl rfl rfl (Nat.le_of_ble_eq_true rfl) dX10_check_94 (fun H locs hw => ?_)
      have hw : Wd g A s (w_Mdl a g (((((text, size), (sv, stb)), ((var, tab), szs)), (((prg, cod), words), ((has, fpl), pos))), ((((o7.2.1, o7.2.2), (tol, tmany)), ((trc, rmany), mark)), (((pil, pmany), mks), ((cts, turns), stop))))) H locs := hw
      exact lp_X10_check_97 l g a text size₀ sv stb var tab szs prg₀ cod₀ words₀ has₀ fpl₀ pos₀ fault₀ plc₀ tol tmany trc rmany mark pil pmany mks cts turns stop hI  size prg cod words has fpl pos o7.2.1 o7.2.2 hok r (hr.trans (congrArg (rb_X10_check (((((text, size₀), (sv, stb)), ((var, tab), szs)), (((prg₀, cod₀), words₀), ((has₀, fpl₀), pos₀))), ((((fault₀, plc₀), (tol, tmany)), ((trc, rmany), mark)), (((pil, pmany), mks), ((cts, turns), stop))))) ((show f_X10_check_60 text sv stb size prg cod words has fpl pos fault plc = f_X10_check_97 text sv stb size prg cod words has fpl pos o7.2.1 o7.2.2 from it_t c6 (bd_of ho7 (it_f c9 (rfl))))))) _ _ hw _ (lv_sub hl [1] rfl)
    · have hok := ok_t c9 hok
      refine lv_iload_n hx hb dX10_check_82 rfl (lv_at hl 0 rfl) ?_
      refine lv_if_lt (tgt := 90) hx hb dX10_check_83 (by decide) (fun c10 => ?_) (fun c10 => ?_)
      · have hok := ok_t c10 hok
        refine lv_aload_n hx hb dX10_check_90 rfl (lv_at hl 1 rfl) ?_
        refine hI.get (v := .int o7.2.2) hw fg_X10_68 0 rfl rfl dX10_check_91 ?_
        refine hI.put hw fp_X10_68 rfl 0 rfl rfl rfl (Nat.le_of_ble_eq_true rfl) dX10_check_94 (fun H locs hw => ?_)
        have hw : Wd g A s (w_Mdl a g (((((text, size), (sv, stb)), ((var, tab), szs)), (((prg, cod), words), ((has, fpl), pos))), ((((o7.2.1, o7.2.2), (tol, tmany)), ((trc, rmany), mark)), (((pil, pmany), mks), ((cts, turns), stop))))) H locs := hw
        exact lp_X10_check_97 l g a text size₀ sv stb var tab szs prg₀ cod₀ words₀ has₀ fpl₀ pos₀ fault₀ plc₀ tol tmany trc rmany mark pil pmany mks cts turns stop hI  size prg cod words has fpl pos o7.2.1 o7.2.2 hok r (hr.trans (congrArg (rb_X10_check (((((text, size₀), (sv, stb)), ((var, tab), szs)), (((prg₀, cod₀), words₀), ((has₀, fpl₀), pos₀))), ((((fault₀, plc₀), (tol, tmany)), ((trc, rmany), mark)), (((pil, pmany), mks), ((cts, turns), stop))))) ((show f_X10_check_60 text sv stb size prg cod words has fpl pos fault plc = f_X10_check_97 text sv stb size prg cod words has fpl pos o7.2.1 o7.2.2 from it_t c6 (bd_of ho7 (it_t c9 (it_t c10 (rfl)))))))) _ _ hw _ (lv_sub hl [1] rfl)
      · have hok := ok_f c10 hok
        refine lv_iconst (v := (-1 : Int32)) hx hb dX10_check_86 (by decide) ?_
        refine lv_goto (tgt := 94) hx hb dX10_check_87 (by decide) ?_
        refine hI.put hw fp_X10_68 rfl 0 rfl rfl rfl (Nat.le_of_ble_eq_true rfl) dX10_check_94 (fun H locs hw => ?_)
        have hw : Wd g A s (w_Mdl a g (((((text, size), (sv, stb)), ((var, tab), szs)), (((prg, cod), words), ((has, fpl), pos))), ((((o7.2.1, (-1 : Int32)), (tol, tmany)), ((trc, rmany), mark)), (((pil, pmany), mks), ((cts, turns), stop))))) H locs := hw
        exact lp_X10_check_97 l g a text size₀ sv stb var tab szs prg₀ cod₀ words₀ has₀ fpl₀ pos₀ fault₀ plc₀ tol tmany trc rmany mark pil pmany mks cts turns stop hI  size prg cod words has fpl pos o7.2.1 (-1 : Int32) hok r (hr.trans (congrArg (rb_X10_check (((((text, size₀), (sv, stb)), ((var, tab), szs)), (((prg₀, cod₀), words₀), ((has₀, fpl₀), pos₀))), ((((fault₀, plc₀), (tol, tmany)), ((trc, rmany), mark)), (((pil, pmany), mks), ((cts, turns), stop))))) ((show f_X10_check_60 text sv stb size prg cod words has fpl pos fault plc = f_X10_check_97 text sv stb size prg cod words has fpl pos o7.2.1 (-1 : Int32) from it_t c6 (bd_of ho7 (it_t c9 (it_f c10 (rfl)))))))) _ _ hw _ (lv_sub hl [1] rfl)
set_option maxHeartbeats 4000000 in
set_option maxRecDepth 100000 in
theorem c_X10_check (l : Launch) (g : GG) (a : Nat → Nat) (text : Nat → Int32) (size : Int32) (sv : Nat → Int32) (stb : Nat → Int32) (var : Nat → Int32) (tab : Nat → Int32) (szs : Nat → Int32) (prg : Nat → Int32) (cod : Nat → Int32) (words : Int32) (has : Int32) (fpl : Int32) (pos : Int32) (fault : Int32) (plc : Int32) (tol : Nat → Int32) (tmany : Int32) (trc : Nat → Int32) (rmany : Int32) (mark : Int64) (pil : Nat → Int32) (pmany : Int32) (mks : Nat → Int32) (cts : Nat → Int32) (turns : Int32) (stop : Int32) (hok : ok_X10_check text size sv stb prg cod words has fpl pos fault plc) : CI l g yX10_check cX10_check 2 (some .int) (rmN 81) (w_Mdl a g) [.ref (a 0)] (((((text, size), (sv, stb)), ((var, tab), szs)), (((prg, cod), words), ((has, fpl), pos))), ((((fault, plc), (tol, tmany)), ((trc, rmany), mark)), (((pil, pmany), mks), ((cts, turns), stop)))) (rb_X10_check (((((text, size), (sv, stb)), ((var, tab), szs)), (((prg, cod), words), ((has, fpl), pos))), ((((fault, plc), (tol, tmany)), ((trc, rmany), mark)), (((pil, pmany), mks), ((cts, turns), stop)))) (f_X10_check text size sv stb prg cod words has fpl pos fault plc)) := by
  refine CI.mk (by decide) (Nat.le_of_ble_eq_true rfl) ?_
  intro p e s m below meth c A ls hI hw hl
  have hx := hI.1
  have hb := hI.2.1
  obtain ⟨r, hr⟩ : ∃ r, r = rb_X10_check (((((text, size), (sv, stb)), ((var, tab), szs)), (((prg, cod), words), ((has, fpl), pos))), ((((fault, plc), (tol, tmany)), ((trc, rmany), mark)), (((pil, pmany), mks), ((cts, turns), stop)))) (f_X10_check text size sv stb prg cod words has fpl pos fault plc) := ⟨_, rfl⟩
  rw [← hr]
  have hl : lv_has ls 2 [(0, .ref (a 0))] := hl
  refine lv_aload_n hx hb dX10_check_0 rfl (lv_at hl 0 rfl) ?_
  refine lv_iconst (v := (0 : Int32)) hx hb dX10_check_1 (by decide) ?_
  refine hI.put hw fp_X10_71 rfl 0 rfl rfl rfl (Nat.le_of_ble_eq_true rfl) dX10_check_2 (fun H locs hw => ?_)
  have hw : Wd g A s (w_Mdl a g (((((text, size), (sv, stb)), ((var, tab), szs)), (((prg, cod), words), ((has, fpl), (0 : Int32)))), ((((fault, plc), (tol, tmany)), ((trc, rmany), mark)), (((pil, pmany), mks), ((cts, turns), stop))))) H locs := hw
  refine lv_aload_n hx hb dX10_check_5 rfl (lv_at hl 0 rfl) ?_
  refine lv_iconst (v := (0 : Int32)) hx hb dX10_check_6 (by decide) ?_
  refine hI.put hw fp_X10_65 rfl 0 rfl rfl rfl (Nat.le_of_ble_eq_true rfl) dX10_check_7 (fun H locs hw => ?_)
  have hw : Wd g A s (w_Mdl a g (((((text, size), (sv, stb)), ((var, tab), szs)), (((prg, cod), words), ((has, fpl), (0 : Int32)))), (((((0 : Int32), plc), (tol, tmany)), ((trc, rmany), mark)), (((pil, pmany), mks), ((cts, turns), stop))))) H locs := hw
  refine lv_aload_n hx hb dX10_check_10 rfl (lv_at hl 0 rfl) ?_
  refine lv_iconst (v := (-1 : Int32)) hx hb dX10_check_11 (by decide) ?_
  refine hI.put hw fp_X10_68 rfl 0 rfl rfl rfl (Nat.le_of_ble_eq_true rfl) dX10_check_12 (fun H locs hw => ?_)
  have hw : Wd g A s (w_Mdl a g (((((text, size), (sv, stb)), ((var, tab), szs)), (((prg, cod), words), ((has, fpl), (0 : Int32)))), (((((0 : Int32), (-1 : Int32)), (tol, tmany)), ((trc, rmany), mark)), (((pil, pmany), mks), ((cts, turns), stop))))) H locs := hw
  refine lv_aload_n hx hb dX10_check_15 rfl (lv_at hl 0 rfl) ?_
  refine lv_iconst (v := (1 : Int32)) hx hb dX10_check_16 (by decide) ?_
  refine lv_iconst (v := (0 : Int32)) hx hb dX10_check_17 (by decide) ?_
  obtain ⟨o1, ho1⟩ : ∃ o, o = mA 12 text size (0 : Int32) (0 : Int32) (-1 : Int32) (1 : Int32) (0 : Int32) := ⟨_, rfl⟩
  have hq2 := hok.1
  have hok := hok.2
  refine hI.callV0 (wl := w_Mdl a g) (a := (((((text, size), (sv, stb)), ((var, tab), szs)), (((prg, cod), words), ((has, fpl), (0 : Int32)))), (((((0 : Int32), (-1 : Int32)), (tol, tmany)), ((trc, rmany), mark)), (((pil, pmany), mks), ((cts, turns), stop))))) (r := rb_X10_readAll (((((text, size), (sv, stb)), ((var, tab), szs)), (((prg, cod), words), ((has, fpl), (0 : Int32)))), (((((0 : Int32), (-1 : Int32)), (tol, tmany)), ((trc, rmany), mark)), (((pil, pmany), mks), ((cts, turns), stop)))) o1) (As := [.int (1 : Int32), .int (0 : Int32)]) (rest := []) hw (by rw [ho1]; exact k_mA l g a 12 (by decide) text size sv stb var tab szs prg cod words has fpl (0 : Int32) (0 : Int32) (-1 : Int32) tol tmany trc rmany mark pil pmany mks cts turns stop (1 : Int32) (0 : Int32) hq2 rfl) ok_yX10_readAll ml_X10_100 (rm_ok (by decide) (by decide)) 0 rfl rfl rfl rfl hl.1 (Nat.le_of_ble_eq_true rfl) dX10_check_18 ⟨Nat.zero_le _, Nat.zero_le _⟩ (fun H locs hw => ?_)
  have hw : Wd g A s (w_Mdl a g (((((text, size), (sv, stb)), ((var, tab), szs)), (((prg, cod), words), ((has, fpl), o1.1.1))), ((((o1.1.2, o1.2), (tol, tmany)), ((trc, rmany), mark)), (((pil, pmany), mks), ((cts, turns), stop))))) H locs := hw
  refine W.eq (g2 := F0 m 21 ls []) rfl ?_
  have hok := bdP_use ho1 hok
  refine lv_aload_n hx hb dX10_check_21 rfl (lv_at hl 0 rfl) ?_
  refine hI.get (v := .int o1.1.2) hw fg_X10_65 0 rfl rfl dX10_check_22 ?_
  refine lv_if_ne (tgt := 60) hx hb dX10_check_25 (by decide) (fun c3 => ?_) (fun c3 => ?_)
  · have hok := ok_f c3 hok
    exact lp_X10_check_60 l g a text size sv stb var tab szs prg cod words has fpl pos fault plc tol tmany trc rmany mark pil pmany mks cts turns stop hI  size prg cod words has fpl o1.1.1 o1.1.2 o1.2 hok r (hr.trans (congrArg (rb_X10_check (((((text, size), (sv, stb)), ((var, tab), szs)), (((prg, cod), words), ((has, fpl), pos))), ((((fault, plc), (tol, tmany)), ((trc, rmany), mark)), (((pil, pmany), mks), ((cts, turns), stop))))) ((show f_X10_check text size sv stb prg cod words has fpl pos fault plc = f_X10_check_60 text sv stb size prg cod words has fpl o1.1.1 o1.1.2 o1.2 from bd_of ho1 (it_f c3 (rfl)))))) _ _ hw _ (lv_sub hl [0] rfl)
  · have hok := ok_t c3 hok
    refine lv_aload_n hx hb dX10_check_28 rfl (lv_at hl 0 rfl) ?_
    refine lv_dup hx hb dX10_check_29 rfl ?_
    refine hI.get (v := .int o1.1.1) hw fg_X10_71 0 rfl rfl dX10_check_30 ?_
    refine lv_iconst (v := (1 : Int32)) hx hb dX10_check_33 (by decide) ?_
    refine lv_iadd hx hb dX10_check_34 ?_
    refine hI.put hw fp_X10_71 rfl 0 rfl rfl rfl (Nat.le_of_ble_eq_true rfl) dX10_check_35 (fun H locs hw => ?_)
    have hw : Wd g A s (w_Mdl a g (((((text, size), (sv, stb)), ((var, tab), szs)), (((prg, cod), words), ((has, fpl), o1.1.1 + (1 : Int32)))), ((((o1.1.2, o1.2), (tol, tmany)), ((trc, rmany), mark)), (((pil, pmany), mks), ((cts, turns), stop))))) H locs := hw
    refine lv_aload_n hx hb dX10_check_38 rfl (lv_at hl 0 rfl) ?_
    refine hI.get (v := .int (o1.1.1 + (1 : Int32))) hw fg_X10_71 0 rfl rfl dX10_check_39 ?_
    refine lv_aload_n hx hb dX10_check_42 rfl (lv_at hl 0 rfl) ?_
    refine hI.get (v := .int size) hw fg_X10_62 0 rfl rfl dX10_check_43 ?_
    refine lv_icmp_ge (tgt := 60) hx hb dX10_check_46 (by decide) (fun c4 => ?_) (fun c4 => ?_)
    · have hok := ok_t c4 hok
      exact lp_X10_check_60 l g a text size sv stb var tab szs prg cod words has fpl pos fault plc tol tmany trc rmany mark pil pmany mks cts turns stop hI  size prg cod words has fpl (o1.1.1 + (1 : Int32)) o1.1.2 o1.2 hok r (hr.trans (congrArg (rb_X10_check (((((text, size), (sv, stb)), ((var, tab), szs)), (((prg, cod), words), ((has, fpl), pos))), ((((fault, plc), (tol, tmany)), ((trc, rmany), mark)), (((pil, pmany), mks), ((cts, turns), stop))))) ((show f_X10_check text size sv stb prg cod words has fpl pos fault plc = f_X10_check_60 text sv stb size prg cod words has fpl (o1.1.1 + (1 : Int32)) o1.1.2 o1.2 from bd_of ho1 (it_t c3 (it_t c4 (rfl))))))) _ _ hw _ (lv_sub hl [0] rfl)
    · have hok := ok_f c4 hok
      refine lv_aload_n hx hb dX10_check_49 rfl (lv_at hl 0 rfl) ?_
      refine lv_bipush (v := (-11 : Int32)) hx hb dX10_check_50 (by decide) ?_
      refine lv_aload_n hx hb dX10_check_52 rfl (lv_at hl 0 rfl) ?_
      refine hI.get (v := .int (o1.1.1 + (1 : Int32))) hw fg_X10_71 0 rfl rfl dX10_check_53 ?_
      obtain ⟨o5, ho5⟩ : ∃ o, o = f_X10_fail o1.1.2 o1.2 (-11 : Int32) (o1.1.1 + (1 : Int32)) := ⟨_, rfl⟩
      refine hI.callI0 (wl := w_Mdl a g) (a := (((((text, size), (sv, stb)), ((var, tab), szs)), (((prg, cod), words), ((has, fpl), o1.1.1 + (1 : Int32)))), ((((o1.1.2, o1.2), (tol, tmany)), ((trc, rmany), mark)), (((pil, pmany), mks), ((cts, turns), stop))))) (r := rb_X10_fail (((((text, size), (sv, stb)), ((var, tab), szs)), (((prg, cod), words), ((has, fpl), o1.1.1 + (1 : Int32)))), ((((o1.1.2, o1.2), (tol, tmany)), ((trc, rmany), mark)), (((pil, pmany), mks), ((cts, turns), stop)))) o5) (As := [.int (-11 : Int32), .int (o1.1.1 + (1 : Int32))]) (rest := []) hw (by rw [ho5]; exact c_X10_fail l g a text size sv stb var tab szs prg cod words has fpl (o1.1.1 + (1 : Int32)) o1.1.2 o1.2 tol tmany trc rmany mark pil pmany mks cts turns stop (-11 : Int32) (o1.1.1 + (1 : Int32)) ) ok_yX10_fail ml_X10_74 (rm_ok (by decide) (by decide)) 0 rfl rfl rfl rfl hl.1 (Nat.le_of_ble_eq_true rfl) dX10_check_56 ⟨Nat.zero_le _, Nat.zero_le _⟩ (fun H locs hw => ?_)
      have hw : Wd g A s (w_Mdl a g (((((text, size), (sv, stb)), ((var, tab), szs)), (((prg, cod), words), ((has, fpl), o1.1.1 + (1 : Int32)))), ((((o5.2.1, o5.2.2), (tol, tmany)), ((trc, rmany), mark)), (((pil, pmany), mks), ((cts, turns), stop))))) H locs := hw
      refine W.eq (g2 := F0 m 59 ls [.int o5.1]) rfl ?_
      have hok := bdP_use ho5 hok
      refine lv_pop hx hb dX10_check_59 rfl ?_
      exact lp_X10_check_60 l g a text size sv stb var tab szs prg cod words has fpl pos fault plc tol tmany trc rmany mark pil pmany mks cts turns stop hI  size prg cod words has fpl (o1.1.1 + (1 : Int32)) o5.2.1 o5.2.2 hok r (hr.trans (congrArg (rb_X10_check (((((text, size), (sv, stb)), ((var, tab), szs)), (((prg, cod), words), ((has, fpl), pos))), ((((fault, plc), (tol, tmany)), ((trc, rmany), mark)), (((pil, pmany), mks), ((cts, turns), stop))))) ((show f_X10_check text size sv stb prg cod words has fpl pos fault plc = f_X10_check_60 text sv stb size prg cod words has fpl (o1.1.1 + (1 : Int32)) o5.2.1 o5.2.2 from bd_of ho1 (it_t c3 (it_f c4 (bd_of ho5 (rfl)))))))) _ _ hw _ (lv_sub hl [0] rfl)
