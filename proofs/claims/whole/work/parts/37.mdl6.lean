def f_X10_word (cod : Nat → Int32) (words : Int32) (x1 : Int32) : ((Nat → Int32) × Int32) := ((upd cod words.toNatClampNeg x1, words + (1 : Int32)))
def ok_X10_word (cod : Nat → Int32) (words : Int32) (x1 : Int32) : Prop := vp_in words 4000 ∧ True
def rb_X10_word (σ : S_Mdl) (o : ((Nat → Int32) × Int32)) : S_Mdl := (((((σ.1.1.1.1.1, σ.1.1.1.1.2), (σ.1.1.1.2.1, σ.1.1.1.2.2)), ((σ.1.1.2.1.1, σ.1.1.2.1.2), σ.1.1.2.2)), (((σ.1.2.1.1.1, o.1), o.2), ((σ.1.2.2.1.1, σ.1.2.2.1.2), σ.1.2.2.2))), ((((σ.2.1.1.1.1, σ.2.1.1.1.2), (σ.2.1.1.2.1, σ.2.1.1.2.2)), ((σ.2.1.2.1.1, σ.2.1.2.1.2), σ.2.1.2.2)), (((σ.2.2.1.1.1, σ.2.2.1.1.2), σ.2.2.1.2), ((σ.2.2.2.1.1, σ.2.2.2.1.2), σ.2.2.2.2))))
set_option maxHeartbeats 4000000 in
set_option maxRecDepth 100000 in
theorem c_X10_word (l : Launch) (g : GG) (a : Nat → Nat) (text : Nat → Int32) (size : Int32) (sv : Nat → Int32) (stb : Nat → Int32) (var : Nat → Int32) (tab : Nat → Int32) (szs : Nat → Int32) (prg : Nat → Int32) (cod : Nat → Int32) (words : Int32) (has : Int32) (fpl : Int32) (pos : Int32) (fault : Int32) (plc : Int32) (tol : Nat → Int32) (tmany : Int32) (trc : Nat → Int32) (rmany : Int32) (mark : Int64) (pil : Nat → Int32) (pmany : Int32) (mks : Nat → Int32) (cts : Nat → Int32) (turns : Int32) (stop : Int32) (x1 : Int32) (hok : ok_X10_word cod words x1) : CV l g yX10_word cX10_word 2 none (rmN 0) (w_Mdl a g) [.ref (a 0), .int x1] (((((text, size), (sv, stb)), ((var, tab), szs)), (((prg, cod), words), ((has, fpl), pos))), ((((fault, plc), (tol, tmany)), ((trc, rmany), mark)), (((pil, pmany), mks), ((cts, turns), stop)))) (rb_X10_word (((((text, size), (sv, stb)), ((var, tab), szs)), (((prg, cod), words), ((has, fpl), pos))), ((((fault, plc), (tol, tmany)), ((trc, rmany), mark)), (((pil, pmany), mks), ((cts, turns), stop)))) (f_X10_word cod words x1)) := by
  refine CV.mk (by decide) (Nat.le_of_ble_eq_true rfl) ?_
  intro p e s m below meth c A ls hI hw hl
  have hx := hI.1
  have hb := hI.2.1
  obtain ⟨r, hr⟩ : ∃ r, r = rb_X10_word (((((text, size), (sv, stb)), ((var, tab), szs)), (((prg, cod), words), ((has, fpl), pos))), ((((fault, plc), (tol, tmany)), ((trc, rmany), mark)), (((pil, pmany), mks), ((cts, turns), stop)))) (f_X10_word cod words x1) := ⟨_, rfl⟩
  rw [← hr]
  have hl : lv_has ls 2 [(0, .ref (a 0)), (1, .int x1)] := hl
  refine lv_aload_n hx hb dX10_word_0 rfl (lv_at hl 0 rfl) ?_
  refine hI.get (v := .ref (a 8)) hw fg_X10_32 0 rfl rfl dX10_word_1 ?_
  refine lv_aload_n hx hb dX10_word_4 rfl (lv_at hl 0 rfl) ?_
  refine hI.get (v := .int words) hw fg_X10_125 0 rfl rfl dX10_word_5 ?_
  refine lv_iload_n hx hb dX10_word_8 rfl (lv_at hl 1 rfl) ?_
  have hq1 := hok.1
  have hok := hok.2
  refine hI.iast hw 8 rfl hq1 dX10_word_9 (fun H locs hw => ?_)
  have hw : Wd g A s (w_Mdl a g (((((text, size), (sv, stb)), ((var, tab), szs)), (((prg, upd cod words.toNatClampNeg x1), words), ((has, fpl), pos))), ((((fault, plc), (tol, tmany)), ((trc, rmany), mark)), (((pil, pmany), mks), ((cts, turns), stop))))) H locs := hw
  refine lv_aload_n hx hb dX10_word_10 rfl (lv_at hl 0 rfl) ?_
  refine lv_dup hx hb dX10_word_11 rfl ?_
  refine hI.get (v := .int words) hw fg_X10_125 0 rfl rfl dX10_word_12 ?_
  refine lv_iconst (v := (1 : Int32)) hx hb dX10_word_15 (by decide) ?_
  refine lv_iadd hx hb dX10_word_16 ?_
  refine hI.put hw fp_X10_125 rfl 0 rfl rfl rfl (Nat.le_of_ble_eq_true rfl) dX10_word_17 (fun H locs hw => ?_)
  have hw : Wd g A s (w_Mdl a g (((((text, size), (sv, stb)), ((var, tab), szs)), (((prg, upd cod words.toNatClampNeg x1), words + (1 : Int32)), ((has, fpl), pos))), ((((fault, plc), (tol, tmany)), ((trc, rmany), mark)), (((pil, pmany), mks), ((cts, turns), stop))))) H locs := hw
  exact hI.retV (u := (((((text, size), (sv, stb)), ((var, tab), szs)), (((prg, upd cod words.toNatClampNeg x1), words + (1 : Int32)), ((has, fpl), pos))), ((((fault, plc), (tol, tmany)), ((trc, rmany), mark)), (((pil, pmany), mks), ((cts, turns), stop))))) hw (hr.trans (congrArg (rb_X10_word (((((text, size), (sv, stb)), ((var, tab), szs)), (((prg, cod), words), ((has, fpl), pos))), ((((fault, plc), (tol, tmany)), ((trc, rmany), mark)), (((pil, pmany), mks), ((cts, turns), stop))))) ((show f_X10_word cod words x1 = ((upd cod words.toNatClampNeg x1, words + (1 : Int32))) from rfl)))) dX10_word_20
def rb_X10_codeE (σ : S_Mdl) (o : Int32 × ((Nat → Int32) × Int32)) : Int32 × S_Mdl := (o.1, (((((σ.1.1.1.1.1, σ.1.1.1.1.2), (σ.1.1.1.2.1, σ.1.1.1.2.2)), ((σ.1.1.2.1.1, σ.1.1.2.1.2), σ.1.1.2.2)), (((σ.1.2.1.1.1, o.2.1), o.2.2), ((σ.1.2.2.1.1, σ.1.2.2.1.2), σ.1.2.2.2))), ((((σ.2.1.1.1.1, σ.2.1.1.1.2), (σ.2.1.1.2.1, σ.2.1.1.2.2)), ((σ.2.1.2.1.1, σ.2.1.2.1.2), σ.2.1.2.2)), (((σ.2.2.1.1.1, σ.2.2.1.1.2), σ.2.2.1.2), ((σ.2.2.2.1.1, σ.2.2.2.1.2), σ.2.2.2.2)))))
def ok_X10_codeE_103 (cE : (Nat → Int32) → (Nat → Int32) → (Nat → Int32) → (Nat → Int32) → Int32 → Int32 → (Int32 × ((Nat → Int32) × Int32))) (cEk : (Nat → Int32) → (Nat → Int32) → (Nat → Int32) → (Nat → Int32) → Int32 → Int32 → Prop) (sv : Nat → Int32) (stb : Nat → Int32) (prg : Nat → Int32) : Nat → (Nat → Int32) → Int32 → Int32 → Int32 → Int32 → Prop
  | 0, _, _, _, _, _ => False
  | k + 1, cod, words, y2, y3, y4 => bdP (f_X10_operands y2) (fun o32 => if o32 ≤ y4 then if y2 = (36 : Int32) then ok_X10_word cod words (17 : Int32) ∧ (bdP (f_X10_word cod words (17 : Int32)) (fun o37 => True)) else ok_X10_word cod words (y2 - (18 : Int32)) ∧ (bdP (f_X10_word cod words (y2 - (18 : Int32))) (fun o35 => True)) else cEk sv stb prg cod words y3 ∧ (bdP (cE sv stb prg cod words y3) (fun o39 => ok_X10_codeE_103 cE cEk sv stb prg k o39.2.1 o39.2.2 y2 o39.1 (y4 + (1 : Int32)))))
def f_X10_codeE_103 (cE : (Nat → Int32) → (Nat → Int32) → (Nat → Int32) → (Nat → Int32) → Int32 → Int32 → (Int32 × ((Nat → Int32) × Int32))) (sv : Nat → Int32) (stb : Nat → Int32) (prg : Nat → Int32) : Nat → (Nat → Int32) → Int32 → Int32 → Int32 → Int32 → (Int32 × ((Nat → Int32) × Int32))
  | 0, cod, words, y2, y3, y4 => (0, (cod, words))
  | k + 1, cod, words, y2, y3, y4 => bd (f_X10_operands y2) (fun o32 => if o32 ≤ y4 then if y2 = (36 : Int32) then bd (f_X10_word cod words (17 : Int32)) (fun o37 => (y3, (o37.1, o37.2))) else bd (f_X10_word cod words (y2 - (18 : Int32))) (fun o35 => (y3, (o35.1, o35.2))) else bd (cE sv stb prg cod words y3) (fun o39 => f_X10_codeE_103 cE sv stb prg k o39.2.1 o39.2.2 y2 o39.1 (y4 + (1 : Int32))))
def f_X10_codeE (cE : (Nat → Int32) → (Nat → Int32) → (Nat → Int32) → (Nat → Int32) → Int32 → Int32 → (Int32 × ((Nat → Int32) × Int32))) (sv : Nat → Int32) (stb : Nat → Int32) (prg : Nat → Int32) (cod : Nat → Int32) (words : Int32) (x1 : Int32) : Int32 × ((Nat → Int32) × Int32) := bd (prg x1.toNatClampNeg) (fun v2 => if v2 = (20 : Int32) then bd (f_X10_word cod words (v2 - (19 : Int32))) (fun o4 => bd (f_X10_word o4.1 o4.2 (prg (x1 + (1 : Int32)).toNatClampNeg)) (fun o7 => (x1 + (2 : Int32), (o7.1, o7.2)))) else if v2 = (21 : Int32) then bd (f_X10_word cod words (v2 - (19 : Int32))) (fun o27 => bd (f_X10_word o27.1 o27.2 (prg (x1 + (1 : Int32)).toNatClampNeg)) (fun o30 => (x1 + (2 : Int32), (o30.1, o30.2)))) else if v2 = (35 : Int32) then bd (cE sv stb prg cod words (x1 + (2 : Int32))) (fun o12 => bd (f_X10_isSecret prg sv stb (x1 + (2 : Int32))) (fun o14 => if o14 = 0 then bd (f_X10_word o12.2.1 o12.2.2 (21 : Int32)) (fun o17 => bd (f_X10_word o17.1 o17.2 (prg (x1 + (1 : Int32)).toNatClampNeg)) (fun o20 => (o12.1, (o20.1, o20.2)))) else bd (f_X10_word o12.2.1 o12.2.2 (27 : Int32)) (fun o22 => bd (f_X10_word o22.1 o22.2 (prg (x1 + (1 : Int32)).toNatClampNeg)) (fun o25 => (o12.1, (o25.1, o25.2)))))) else bd (x1 + (1 : Int32)) (fun v11 => f_X10_codeE_103 cE sv stb prg 5 cod words v2 v11 (0 : Int32)))
def ok_X10_codeE (cE : (Nat → Int32) → (Nat → Int32) → (Nat → Int32) → (Nat → Int32) → Int32 → Int32 → (Int32 × ((Nat → Int32) × Int32))) (cEk : (Nat → Int32) → (Nat → Int32) → (Nat → Int32) → (Nat → Int32) → Int32 → Int32 → Prop) (sv : Nat → Int32) (stb : Nat → Int32) (prg : Nat → Int32) (cod : Nat → Int32) (words : Int32) (x1 : Int32) : Prop := vp_in x1 400 ∧ (bdP (prg x1.toNatClampNeg) (fun v2 => if v2 = (20 : Int32) then ok_X10_word cod words (v2 - (19 : Int32)) ∧ (bdP (f_X10_word cod words (v2 - (19 : Int32))) (fun o4 => vp_in (x1 + (1 : Int32)) 400 ∧ (ok_X10_word o4.1 o4.2 (prg (x1 + (1 : Int32)).toNatClampNeg) ∧ (bdP (f_X10_word o4.1 o4.2 (prg (x1 + (1 : Int32)).toNatClampNeg)) (fun o7 => True))))) else if v2 = (21 : Int32) then ok_X10_word cod words (v2 - (19 : Int32)) ∧ (bdP (f_X10_word cod words (v2 - (19 : Int32))) (fun o27 => vp_in (x1 + (1 : Int32)) 400 ∧ (ok_X10_word o27.1 o27.2 (prg (x1 + (1 : Int32)).toNatClampNeg) ∧ (bdP (f_X10_word o27.1 o27.2 (prg (x1 + (1 : Int32)).toNatClampNeg)) (fun o30 => True))))) else if v2 = (35 : Int32) then cEk sv stb prg cod words (x1 + (2 : Int32)) ∧ (bdP (cE sv stb prg cod words (x1 + (2 : Int32))) (fun o12 => ok_X10_isSecret prg sv stb (x1 + (2 : Int32)) ∧ (bdP (f_X10_isSecret prg sv stb (x1 + (2 : Int32))) (fun o14 => if o14 = 0 then ok_X10_word o12.2.1 o12.2.2 (21 : Int32) ∧ (bdP (f_X10_word o12.2.1 o12.2.2 (21 : Int32)) (fun o17 => vp_in (x1 + (1 : Int32)) 400 ∧ (ok_X10_word o17.1 o17.2 (prg (x1 + (1 : Int32)).toNatClampNeg) ∧ (bdP (f_X10_word o17.1 o17.2 (prg (x1 + (1 : Int32)).toNatClampNeg)) (fun o20 => True))))) else ok_X10_word o12.2.1 o12.2.2 (27 : Int32) ∧ (bdP (f_X10_word o12.2.1 o12.2.2 (27 : Int32)) (fun o22 => vp_in (x1 + (1 : Int32)) 400 ∧ (ok_X10_word o22.1 o22.2 (prg (x1 + (1 : Int32)).toNatClampNeg) ∧ (bdP (f_X10_word o22.1 o22.2 (prg (x1 + (1 : Int32)).toNatClampNeg)) (fun o25 => True))))))))) else bdP (x1 + (1 : Int32)) (fun v11 => ok_X10_codeE_103 cE cEk sv stb prg 5 cod words v2 v11 (0 : Int32))))
set_option maxHeartbeats 4000000 in
set_option maxRecDepth 100000 in
theorem lp_X10_codeE_103 (l : Launch) (g : GG) (a : Nat → Nat) (text : Nat → Int32) (size : Int32) (sv : Nat → Int32) (stb : Nat → Int32) (var : Nat → Int32) (tab : Nat → Int32) (szs : Nat → Int32) (prg : Nat → Int32) (cod₀ : Nat → Int32) (words₀ : Int32) (has : Int32) (fpl : Int32) (pos : Int32) (fault : Int32) (plc : Int32) (tol : Nat → Int32) (tmany : Int32) (trc : Nat → Int32) (rmany : Int32) (mark : Int64) (pil : Nat → Int32) (pmany : Int32) (mks : Nat → Int32) (cts : Nat → Int32) (turns : Int32) (stop : Int32) (cE : (Nat → Int32) → (Nat → Int32) → (Nat → Int32) → (Nat → Int32) → Int32 → Int32 → (Int32 × ((Nat → Int32) × Int32))) (cEk : (Nat → Int32) → (Nat → Int32) → (Nat → Int32) → (Nat → Int32) → Int32 → Int32 → Prop) (kM : Nat) (k_cE : Nat) (hk : k_cE + 1 ≤ kM ∧ 12 ≤ kM) (h_cE : ∀ (text : Nat → Int32) (size : Int32) (sv : Nat → Int32) (stb : Nat → Int32) (var : Nat → Int32) (tab : Nat → Int32) (szs : Nat → Int32) (prg : Nat → Int32) (cod : Nat → Int32) (words : Int32) (has : Int32) (fpl : Int32) (pos : Int32) (fault : Int32) (plc : Int32) (tol : Nat → Int32) (tmany : Int32) (trc : Nat → Int32) (rmany : Int32) (mark : Int64) (pil : Nat → Int32) (pmany : Int32) (mks : Nat → Int32) (cts : Nat → Int32) (turns : Int32) (stop : Int32) (y1 : Int32), cEk sv stb prg cod words y1 → CI l g yX10_codeE cX10_codeE 5 (some .int) (rmN k_cE) (w_Mdl a g) [.ref (a 0), .int y1] (((((text, size), (sv, stb)), ((var, tab), szs)), (((prg, cod), words), ((has, fpl), pos))), ((((fault, plc), (tol, tmany)), ((trc, rmany), mark)), (((pil, pmany), mks), ((cts, turns), stop)))) (rb_X10_codeE (((((text, size), (sv, stb)), ((var, tab), szs)), (((prg, cod), words), ((has, fpl), pos))), ((((fault, plc), (tol, tmany)), ((trc, rmany), mark)), (((pil, pmany), mks), ((cts, turns), stop)))) (cE sv stb prg cod words y1)))  {p : Program} {e : Env} {s : State} {m : MethodId} {args : Array Value} {below : List Frame} {meth : Method} {c : Code} {A : Nat → Prop} (hI : InM p s m args meth c RX10 cX10_codeE 5 (some .int) g A) : ∀ (k : Nat) (cod : Nat → Int32) (words : Int32) (y2 : Int32) (y3 : Int32) (y4 : Int32), (ok_X10_codeE_103 cE cEk sv stb prg k cod words y2 y3 y4) → ∀ (r : Int32 × S_Mdl), r = rb_X10_codeE (((((text, size), (sv, stb)), ((var, tab), szs)), (((prg, cod₀), words₀), ((has, fpl), pos))), ((((fault, plc), (tol, tmany)), ((trc, rmany), mark)), (((pil, pmany), mks), ((cts, turns), stop)))) (f_X10_codeE_103 cE sv stb prg k cod words y2 y3 y4) → ∀ (H : Heap) (locs : List Loc), Wd g A s (w_Mdl a g (((((text, size), (sv, stb)), ((var, tab), szs)), (((prg, cod), words), ((has, fpl), pos))), ((((fault, plc), (tol, tmany)), ((trc, rmany), mark)), (((pil, pmany), mks), ((cts, turns), stop))))) H locs → ∀ (ls : Array Slot), lv_has ls 5 [(0, .ref (a 0)), (2, .int y2), (3, .int y3), (4, .int y4)] → W p l e (rmN kM) s m args below meth c H locs 0 0 (QI g (w_Mdl a g) A r below args s) (F0 m 103 ls []) := by
  have hx := hI.1
  have hb := hI.2.1
  intro k
  induction k with
  | zero =>
    intro cod words y2 y3 y4 hok
    exact hok.elim
  | succ k ih =>
    intro cod words y2 y3 y4 hok r hr H locs hw ls hl
    refine lv_iload hx hb dX10_codeE_103 (lv_at hl 3 rfl) ?_
    refine lv_iload_n hx hb dX10_codeE_105 rfl (lv_at hl 1 rfl) ?_
    obtain ⟨o32, ho32⟩ : ∃ o, o = f_X10_operands y2 := ⟨_, rfl⟩
    refine hI.callSI (r := o32) (As := [.int y2]) (rest := [.int y4]) hw (by rw [ho32]; exact c_X10_operands l g y2) ok_yX10_operands ml_X10_85 (rm_ok (by omega) (by decide)) rfl rfl hl.1 (Nat.le_of_ble_eq_true rfl) dX10_codeE_106 ⟨Nat.zero_le _, Nat.zero_le _⟩ (fun H locs hw => ?_)
    have hok := bdP_use ho32 hok
    refine lv_icmp_ge (tgt := 124) hx hb dX10_codeE_109 (by decide) (fun c33 => ?_) (fun c33 => ?_)
    · have hok := ok_t c33 hok
      refine lv_aload_n hx hb dX10_codeE_124 rfl (lv_at hl 0 rfl) ?_
      refine lv_iload_n hx hb dX10_codeE_125 rfl (lv_at hl 1 rfl) ?_
      refine lv_bipush (v := (36 : Int32)) hx hb dX10_codeE_126 (by decide) ?_
      refine lv_icmp_ne (tgt := 136) hx hb dX10_codeE_128 (by decide) (fun c34 => ?_) (fun c34 => ?_)
      · have hok := ok_f c34 hok
        refine lv_iload_n hx hb dX10_codeE_136 rfl (lv_at hl 1 rfl) ?_
        refine lv_bipush (v := (18 : Int32)) hx hb dX10_codeE_137 (by decide) ?_
        refine lv_isub hx hb dX10_codeE_139 ?_
        have hq36 := hok.1
        have hok := hok.2
        obtain ⟨o35, ho35⟩ : ∃ o, o = f_X10_word cod words (y2 - (18 : Int32)) := ⟨_, rfl⟩
        refine hI.callV0 (wl := w_Mdl a g) (a := (((((text, size), (sv, stb)), ((var, tab), szs)), (((prg, cod), words), ((has, fpl), pos))), ((((fault, plc), (tol, tmany)), ((trc, rmany), mark)), (((pil, pmany), mks), ((cts, turns), stop))))) (r := rb_X10_word (((((text, size), (sv, stb)), ((var, tab), szs)), (((prg, cod), words), ((has, fpl), pos))), ((((fault, plc), (tol, tmany)), ((trc, rmany), mark)), (((pil, pmany), mks), ((cts, turns), stop)))) o35) (As := [.int (y2 - (18 : Int32))]) (rest := []) hw (by rw [ho35]; exact c_X10_word l g a text size sv stb var tab szs prg cod words has fpl pos fault plc tol tmany trc rmany mark pil pmany mks cts turns stop (y2 - (18 : Int32)) hq36) ok_yX10_word ml_X10_128 (rm_ok (by omega) (by decide)) 0 rfl rfl rfl rfl hl.1 (Nat.le_of_ble_eq_true rfl) dX10_codeE_140 ⟨Nat.zero_le _, Nat.zero_le _⟩ (fun H locs hw => ?_)
        have hw : Wd g A s (w_Mdl a g (((((text, size), (sv, stb)), ((var, tab), szs)), (((prg, o35.1), o35.2), ((has, fpl), pos))), ((((fault, plc), (tol, tmany)), ((trc, rmany), mark)), (((pil, pmany), mks), ((cts, turns), stop))))) H locs := hw
        refine W.eq (g2 := F0 m 143 ls []) rfl ?_
        have hok := bdP_use ho35 hok
        refine lv_iload_n hx hb dX10_codeE_143 rfl (lv_at hl 2 rfl) ?_
        exact hI.retI (u := (((((text, size), (sv, stb)), ((var, tab), szs)), (((prg, o35.1), o35.2), ((has, fpl), pos))), ((((fault, plc), (tol, tmany)), ((trc, rmany), mark)), (((pil, pmany), mks), ((cts, turns), stop))))) hw (hr.trans (congrArg (rb_X10_codeE (((((text, size), (sv, stb)), ((var, tab), szs)), (((prg, cod₀), words₀), ((has, fpl), pos))), ((((fault, plc), (tol, tmany)), ((trc, rmany), mark)), (((pil, pmany), mks), ((cts, turns), stop))))) ((show f_X10_codeE_103 cE sv stb prg (k + 1) cod words y2 y3 y4 = (y3, (o35.1, o35.2)) from bd_of ho32 (it_t c33 (it_f c34 (bd_of ho35 (rfl)))))))) dX10_codeE_144
      · have hok := ok_t c34 hok
        refine lv_bipush (v := (17 : Int32)) hx hb dX10_codeE_131 (by decide) ?_
        refine lv_goto (tgt := 140) hx hb dX10_codeE_133 (by decide) ?_
        have hq38 := hok.1
        have hok := hok.2
        obtain ⟨o37, ho37⟩ : ∃ o, o = f_X10_word cod words (17 : Int32) := ⟨_, rfl⟩
        refine hI.callV0 (wl := w_Mdl a g) (a := (((((text, size), (sv, stb)), ((var, tab), szs)), (((prg, cod), words), ((has, fpl), pos))), ((((fault, plc), (tol, tmany)), ((trc, rmany), mark)), (((pil, pmany), mks), ((cts, turns), stop))))) (r := rb_X10_word (((((text, size), (sv, stb)), ((var, tab), szs)), (((prg, cod), words), ((has, fpl), pos))), ((((fault, plc), (tol, tmany)), ((trc, rmany), mark)), (((pil, pmany), mks), ((cts, turns), stop)))) o37) (As := [.int (17 : Int32)]) (rest := []) hw (by rw [ho37]; exact c_X10_word l g a text size sv stb var tab szs prg cod words has fpl pos fault plc tol tmany trc rmany mark pil pmany mks cts turns stop (17 : Int32) hq38) ok_yX10_word ml_X10_128 (rm_ok (by omega) (by decide)) 0 rfl rfl rfl rfl hl.1 (Nat.le_of_ble_eq_true rfl) dX10_codeE_140 ⟨Nat.zero_le _, Nat.zero_le _⟩ (fun H locs hw => ?_)
        have hw : Wd g A s (w_Mdl a g (((((text, size), (sv, stb)), ((var, tab), szs)), (((prg, o37.1), o37.2), ((has, fpl), pos))), ((((fault, plc), (tol, tmany)), ((trc, rmany), mark)), (((pil, pmany), mks), ((cts, turns), stop))))) H locs := hw
        refine W.eq (g2 := F0 m 143 ls []) rfl ?_
        have hok := bdP_use ho37 hok
        refine lv_iload_n hx hb dX10_codeE_143 rfl (lv_at hl 2 rfl) ?_
        exact hI.retI (u := (((((text, size), (sv, stb)), ((var, tab), szs)), (((prg, o37.1), o37.2), ((has, fpl), pos))), ((((fault, plc), (tol, tmany)), ((trc, rmany), mark)), (((pil, pmany), mks), ((cts, turns), stop))))) hw (hr.trans (congrArg (rb_X10_codeE (((((text, size), (sv, stb)), ((var, tab), szs)), (((prg, cod₀), words₀), ((has, fpl), pos))), ((((fault, plc), (tol, tmany)), ((trc, rmany), mark)), (((pil, pmany), mks), ((cts, turns), stop))))) ((show f_X10_codeE_103 cE sv stb prg (k + 1) cod words y2 y3 y4 = (y3, (o37.1, o37.2)) from bd_of ho32 (it_t c33 (it_t c34 (bd_of ho37 (rfl)))))))) dX10_codeE_144
    · have hok := ok_f c33 hok
      refine lv_aload_n hx hb dX10_codeE_112 rfl (lv_at hl 0 rfl) ?_
      refine lv_iload_n hx hb dX10_codeE_113 rfl (lv_at hl 2 rfl) ?_
      have hq40 := hok.1
      have hok := hok.2
      obtain ⟨o39, ho39⟩ : ∃ o, o = cE sv stb prg cod words y3 := ⟨_, rfl⟩
      refine hI.callI0 (wl := w_Mdl a g) (a := (((((text, size), (sv, stb)), ((var, tab), szs)), (((prg, cod), words), ((has, fpl), pos))), ((((fault, plc), (tol, tmany)), ((trc, rmany), mark)), (((pil, pmany), mks), ((cts, turns), stop))))) (r := rb_X10_codeE (((((text, size), (sv, stb)), ((var, tab), szs)), (((prg, cod), words), ((has, fpl), pos))), ((((fault, plc), (tol, tmany)), ((trc, rmany), mark)), (((pil, pmany), mks), ((cts, turns), stop)))) o39) (As := [.int y3]) (rest := []) hw (by rw [ho39]; exact h_cE text size sv stb var tab szs prg cod words has fpl pos fault plc tol tmany trc rmany mark pil pmany mks cts turns stop y3 hq40) ok_yX10_codeE ml_X10_131 (rm_ok (by omega) (by decide)) 0 rfl rfl rfl rfl hl.1 (Nat.le_of_ble_eq_true rfl) dX10_codeE_114 ⟨Nat.zero_le _, Nat.zero_le _⟩ (fun H locs hw => ?_)
      have hw : Wd g A s (w_Mdl a g (((((text, size), (sv, stb)), ((var, tab), szs)), (((prg, o39.2.1), o39.2.2), ((has, fpl), pos))), ((((fault, plc), (tol, tmany)), ((trc, rmany), mark)), (((pil, pmany), mks), ((cts, turns), stop))))) H locs := hw
      refine W.eq (g2 := F0 m 117 ls [.int o39.1]) rfl ?_
      have hok := bdP_use ho39 hok
      refine lv_istore_n (lv' := [(3, .int o39.1), (0, .ref (a 0)), (2, .int y2), (4, .int y4)]) hx hb dX10_codeE_117 rfl hl (by decide) rfl (fun ls hl => ?_)
      refine lv_iinc (v := y4 + (1 : Int32)) (lv' := [(4, .int (y4 + (1 : Int32))), (3, .int o39.1), (0, .ref (a 0)), (2, .int y2)]) hx hb dX10_codeE_118 hl (k := 3) rfl rfl (by decide) rfl (fun ls hl => ?_)
      refine lv_goto (tgt := 103) hx hb dX10_codeE_121 (by decide) ?_
      exact ih o39.2.1 o39.2.2 y2 o39.1 (y4 + (1 : Int32)) hok r (hr.trans (congrArg (rb_X10_codeE (((((text, size), (sv, stb)), ((var, tab), szs)), (((prg, cod₀), words₀), ((has, fpl), pos))), ((((fault, plc), (tol, tmany)), ((trc, rmany), mark)), (((pil, pmany), mks), ((cts, turns), stop))))) ((show f_X10_codeE_103 cE sv stb prg (k + 1) cod words y2 y3 y4 = f_X10_codeE_103 cE sv stb prg k o39.2.1 o39.2.2 y2 o39.1 (y4 + (1 : Int32)) from bd_of ho32 (it_f c33 (bd_of ho39 (rfl))))))) _ _ hw _ (lv_sub hl [2, 3, 1, 0] rfl)
set_option maxHeartbeats 4000000 in
set_option maxRecDepth 100000 in
theorem c_X10_codeE (l : Launch) (g : GG) (a : Nat → Nat) (text : Nat → Int32) (size : Int32) (sv : Nat → Int32) (stb : Nat → Int32) (var : Nat → Int32) (tab : Nat → Int32) (szs : Nat → Int32) (prg : Nat → Int32) (cod : Nat → Int32) (words : Int32) (has : Int32) (fpl : Int32) (pos : Int32) (fault : Int32) (plc : Int32) (tol : Nat → Int32) (tmany : Int32) (trc : Nat → Int32) (rmany : Int32) (mark : Int64) (pil : Nat → Int32) (pmany : Int32) (mks : Nat → Int32) (cts : Nat → Int32) (turns : Int32) (stop : Int32) (cE : (Nat → Int32) → (Nat → Int32) → (Nat → Int32) → (Nat → Int32) → Int32 → Int32 → (Int32 × ((Nat → Int32) × Int32))) (cEk : (Nat → Int32) → (Nat → Int32) → (Nat → Int32) → (Nat → Int32) → Int32 → Int32 → Prop) (x1 : Int32) (kM : Nat) (k_cE : Nat) (hk : k_cE + 1 ≤ kM ∧ 12 ≤ kM) (h_cE : ∀ (text : Nat → Int32) (size : Int32) (sv : Nat → Int32) (stb : Nat → Int32) (var : Nat → Int32) (tab : Nat → Int32) (szs : Nat → Int32) (prg : Nat → Int32) (cod : Nat → Int32) (words : Int32) (has : Int32) (fpl : Int32) (pos : Int32) (fault : Int32) (plc : Int32) (tol : Nat → Int32) (tmany : Int32) (trc : Nat → Int32) (rmany : Int32) (mark : Int64) (pil : Nat → Int32) (pmany : Int32) (mks : Nat → Int32) (cts : Nat → Int32) (turns : Int32) (stop : Int32) (y1 : Int32), cEk sv stb prg cod words y1 → CI l g yX10_codeE cX10_codeE 5 (some .int) (rmN k_cE) (w_Mdl a g) [.ref (a 0), .int y1] (((((text, size), (sv, stb)), ((var, tab), szs)), (((prg, cod), words), ((has, fpl), pos))), ((((fault, plc), (tol, tmany)), ((trc, rmany), mark)), (((pil, pmany), mks), ((cts, turns), stop)))) (rb_X10_codeE (((((text, size), (sv, stb)), ((var, tab), szs)), (((prg, cod), words), ((has, fpl), pos))), ((((fault, plc), (tol, tmany)), ((trc, rmany), mark)), (((pil, pmany), mks), ((cts, turns), stop)))) (cE sv stb prg cod words y1))) (hok : ok_X10_codeE cE cEk sv stb prg cod words x1) : CI l g yX10_codeE cX10_codeE 5 (some .int) (rmN kM) (w_Mdl a g) [.ref (a 0), .int x1] (((((text, size), (sv, stb)), ((var, tab), szs)), (((prg, cod), words), ((has, fpl), pos))), ((((fault, plc), (tol, tmany)), ((trc, rmany), mark)), (((pil, pmany), mks), ((cts, turns), stop)))) (rb_X10_codeE (((((text, size), (sv, stb)), ((var, tab), szs)), (((prg, cod), words), ((has, fpl), pos))), ((((fault, plc), (tol, tmany)), ((trc, rmany), mark)), (((pil, pmany), mks), ((cts, turns), stop)))) (f_X10_codeE cE sv stb prg cod words x1)) := by
  refine CI.mk (by decide) (Nat.le_of_ble_eq_true rfl) ?_
  intro p e s m below meth c A ls hI hw hl
  have hx := hI.1
  have hb := hI.2.1
  obtain ⟨r, hr⟩ : ∃ r, r = rb_X10_codeE (((((text, size), (sv, stb)), ((var, tab), szs)), (((prg, cod), words), ((has, fpl), pos))), ((((fault, plc), (tol, tmany)), ((trc, rmany), mark)), (((pil, pmany), mks), ((cts, turns), stop)))) (f_X10_codeE cE sv stb prg cod words x1) := ⟨_, rfl⟩
  rw [← hr]
  have hl : lv_has ls 5 [(0, .ref (a 0)), (1, .int x1)] := hl
  refine lv_aload_n hx hb dX10_codeE_0 rfl (lv_at hl 0 rfl) ?_
  refine hI.get (v := .ref (a 7)) hw fg_X10_29 0 rfl rfl dX10_codeE_1 ?_
  refine lv_iload_n hx hb dX10_codeE_4 rfl (lv_at hl 1 rfl) ?_
  have hq1 := hok.1
  have hok := hok.2
  refine hI.iald hw 7 rfl hq1 dX10_codeE_5 ?_
  refine lv_topi (fun v2 hv2 => ?_)
  have hok := bdP_use hv2 hok
  refine lv_istore_n (lv' := [(2, .int v2), (0, .ref (a 0)), (1, .int x1)]) hx hb dX10_codeE_6 rfl hl (by decide) rfl (fun ls hl => ?_)
  refine lv_iload_n hx hb dX10_codeE_7 rfl (lv_at hl 0 rfl) ?_
  refine lv_bipush (v := (20 : Int32)) hx hb dX10_codeE_8 (by decide) ?_
  refine lv_icmp_eq (tgt := 19) hx hb dX10_codeE_10 (by decide) (fun c3 => ?_) (fun c3 => ?_)
  · have hok := ok_t c3 hok
    refine lv_aload_n hx hb dX10_codeE_19 rfl (lv_at hl 1 rfl) ?_
    refine lv_iload_n hx hb dX10_codeE_20 rfl (lv_at hl 0 rfl) ?_
    refine lv_bipush (v := (19 : Int32)) hx hb dX10_codeE_21 (by decide) ?_
    refine lv_isub hx hb dX10_codeE_23 ?_
    have hq5 := hok.1
    have hok := hok.2
    obtain ⟨o4, ho4⟩ : ∃ o, o = f_X10_word cod words (v2 - (19 : Int32)) := ⟨_, rfl⟩
    refine hI.callV0 (wl := w_Mdl a g) (a := (((((text, size), (sv, stb)), ((var, tab), szs)), (((prg, cod), words), ((has, fpl), pos))), ((((fault, plc), (tol, tmany)), ((trc, rmany), mark)), (((pil, pmany), mks), ((cts, turns), stop))))) (r := rb_X10_word (((((text, size), (sv, stb)), ((var, tab), szs)), (((prg, cod), words), ((has, fpl), pos))), ((((fault, plc), (tol, tmany)), ((trc, rmany), mark)), (((pil, pmany), mks), ((cts, turns), stop)))) o4) (As := [.int (v2 - (19 : Int32))]) (rest := []) hw (by rw [ho4]; exact c_X10_word l g a text size sv stb var tab szs prg cod words has fpl pos fault plc tol tmany trc rmany mark pil pmany mks cts turns stop (v2 - (19 : Int32)) hq5) ok_yX10_word ml_X10_128 (rm_ok (by omega) (by decide)) 0 rfl rfl rfl rfl hl.1 (Nat.le_of_ble_eq_true rfl) dX10_codeE_24 ⟨Nat.zero_le _, Nat.zero_le _⟩ (fun H locs hw => ?_)
    have hw : Wd g A s (w_Mdl a g (((((text, size), (sv, stb)), ((var, tab), szs)), (((prg, o4.1), o4.2), ((has, fpl), pos))), ((((fault, plc), (tol, tmany)), ((trc, rmany), mark)), (((pil, pmany), mks), ((cts, turns), stop))))) H locs := hw
    refine W.eq (g2 := F0 m 27 ls []) rfl ?_
    have hok := bdP_use ho4 hok
    refine lv_aload_n hx hb dX10_codeE_27 rfl (lv_at hl 1 rfl) ?_
    refine lv_aload_n hx hb dX10_codeE_28 rfl (lv_at hl 1 rfl) ?_
    refine hI.get (v := .ref (a 7)) hw fg_X10_29 0 rfl rfl dX10_codeE_29 ?_
    refine lv_iload_n hx hb dX10_codeE_32 rfl (lv_at hl 2 rfl) ?_
    refine lv_iconst (v := (1 : Int32)) hx hb dX10_codeE_33 (by decide) ?_
    refine lv_iadd hx hb dX10_codeE_34 ?_
    have hq6 := hok.1
    have hok := hok.2
    refine hI.iald hw 7 rfl hq6 dX10_codeE_35 ?_
    have hq8 := hok.1
    have hok := hok.2
    obtain ⟨o7, ho7⟩ : ∃ o, o = f_X10_word o4.1 o4.2 (prg (x1 + (1 : Int32)).toNatClampNeg) := ⟨_, rfl⟩
    refine hI.callV0 (wl := w_Mdl a g) (a := (((((text, size), (sv, stb)), ((var, tab), szs)), (((prg, o4.1), o4.2), ((has, fpl), pos))), ((((fault, plc), (tol, tmany)), ((trc, rmany), mark)), (((pil, pmany), mks), ((cts, turns), stop))))) (r := rb_X10_word (((((text, size), (sv, stb)), ((var, tab), szs)), (((prg, o4.1), o4.2), ((has, fpl), pos))), ((((fault, plc), (tol, tmany)), ((trc, rmany), mark)), (((pil, pmany), mks), ((cts, turns), stop)))) o7) (As := [.int (prg (x1 + (1 : Int32)).toNatClampNeg)]) (rest := []) hw (by rw [ho7]; exact c_X10_word l g a text size sv stb var tab szs prg o4.1 o4.2 has fpl pos fault plc tol tmany trc rmany mark pil pmany mks cts turns stop (prg (x1 + (1 : Int32)).toNatClampNeg) hq8) ok_yX10_word ml_X10_128 (rm_ok (by omega) (by decide)) 0 rfl rfl rfl rfl hl.1 (Nat.le_of_ble_eq_true rfl) dX10_codeE_36 ⟨Nat.zero_le _, Nat.zero_le _⟩ (fun H locs hw => ?_)
    have hw : Wd g A s (w_Mdl a g (((((text, size), (sv, stb)), ((var, tab), szs)), (((prg, o7.1), o7.2), ((has, fpl), pos))), ((((fault, plc), (tol, tmany)), ((trc, rmany), mark)), (((pil, pmany), mks), ((cts, turns), stop))))) H locs := hw
    refine W.eq (g2 := F0 m 39 ls []) rfl ?_
    have hok := bdP_use ho7 hok
    refine lv_iload_n hx hb dX10_codeE_39 rfl (lv_at hl 2 rfl) ?_
    refine lv_iconst (v := (2 : Int32)) hx hb dX10_codeE_40 (by decide) ?_
    refine lv_iadd hx hb dX10_codeE_41 ?_
    exact hI.retI (u := (((((text, size), (sv, stb)), ((var, tab), szs)), (((prg, o7.1), o7.2), ((has, fpl), pos))), ((((fault, plc), (tol, tmany)), ((trc, rmany), mark)), (((pil, pmany), mks), ((cts, turns), stop))))) hw (hr.trans (congrArg (rb_X10_codeE (((((text, size), (sv, stb)), ((var, tab), szs)), (((prg, cod), words), ((has, fpl), pos))), ((((fault, plc), (tol, tmany)), ((trc, rmany), mark)), (((pil, pmany), mks), ((cts, turns), stop))))) ((show f_X10_codeE cE sv stb prg cod words x1 = (x1 + (2 : Int32), (o7.1, o7.2)) from bd_of hv2 (it_t c3 (bd_of ho4 (bd_of ho7 (rfl)))))))) dX10_codeE_42
  · have hok := ok_f c3 hok
    refine lv_iload_n hx hb dX10_codeE_13 rfl (lv_at hl 0 rfl) ?_
    refine lv_bipush (v := (21 : Int32)) hx hb dX10_codeE_14 (by decide) ?_
    refine lv_icmp_ne (tgt := 43) hx hb dX10_codeE_16 (by decide) (fun c9 => ?_) (fun c9 => ?_)
    · have hok := ok_f c9 hok
      refine lv_iload_n hx hb dX10_codeE_43 rfl (lv_at hl 0 rfl) ?_
      refine lv_bipush (v := (35 : Int32)) hx hb dX10_codeE_44 (by decide) ?_
      refine lv_icmp_ne (tgt := 96) hx hb dX10_codeE_46 (by decide) (fun c10 => ?_) (fun c10 => ?_)
      · have hok := ok_f c10 hok
        refine lv_iload_n hx hb dX10_codeE_96 rfl (lv_at hl 2 rfl) ?_
        refine lv_iconst (v := (1 : Int32)) hx hb dX10_codeE_97 (by decide) ?_
        refine lv_iadd hx hb dX10_codeE_98 ?_
        refine lv_topi (fun v11 hv11 => ?_)
        have hok := bdP_use hv11 hok
        refine lv_istore_n (lv' := [(3, .int v11), (2, .int v2), (0, .ref (a 0)), (1, .int x1)]) hx hb dX10_codeE_99 rfl hl (by decide) rfl (fun ls hl => ?_)
        refine lv_iconst (v := (0 : Int32)) hx hb dX10_codeE_100 (by decide) ?_
        refine lv_istore (lv' := [(4, .int (0 : Int32)), (3, .int v11), (2, .int v2), (0, .ref (a 0)), (1, .int x1)]) hx hb dX10_codeE_101 hl (by decide) rfl (fun ls hl => ?_)
        exact lp_X10_codeE_103 l g a text size sv stb var tab szs prg cod words has fpl pos fault plc tol tmany trc rmany mark pil pmany mks cts turns stop cE cEk kM k_cE hk h_cE hI 5 cod words v2 v11 (0 : Int32) hok r (hr.trans (congrArg (rb_X10_codeE (((((text, size), (sv, stb)), ((var, tab), szs)), (((prg, cod), words), ((has, fpl), pos))), ((((fault, plc), (tol, tmany)), ((trc, rmany), mark)), (((pil, pmany), mks), ((cts, turns), stop))))) ((show f_X10_codeE cE sv stb prg cod words x1 = f_X10_codeE_103 cE sv stb prg 5 cod words v2 v11 (0 : Int32) from bd_of hv2 (it_f c3 (it_f c9 (it_f c10 (bd_of hv11 (rfl))))))))) _ _ hw _ (lv_sub hl [3, 2, 1, 0] rfl)
      · have hok := ok_t c10 hok
        refine lv_aload_n hx hb dX10_codeE_49 rfl (lv_at hl 1 rfl) ?_
        refine lv_iload_n hx hb dX10_codeE_50 rfl (lv_at hl 2 rfl) ?_
        refine lv_iconst (v := (2 : Int32)) hx hb dX10_codeE_51 (by decide) ?_
        refine lv_iadd hx hb dX10_codeE_52 ?_
        have hq13 := hok.1
        have hok := hok.2
        obtain ⟨o12, ho12⟩ : ∃ o, o = cE sv stb prg cod words (x1 + (2 : Int32)) := ⟨_, rfl⟩
        refine hI.callI0 (wl := w_Mdl a g) (a := (((((text, size), (sv, stb)), ((var, tab), szs)), (((prg, cod), words), ((has, fpl), pos))), ((((fault, plc), (tol, tmany)), ((trc, rmany), mark)), (((pil, pmany), mks), ((cts, turns), stop))))) (r := rb_X10_codeE (((((text, size), (sv, stb)), ((var, tab), szs)), (((prg, cod), words), ((has, fpl), pos))), ((((fault, plc), (tol, tmany)), ((trc, rmany), mark)), (((pil, pmany), mks), ((cts, turns), stop)))) o12) (As := [.int (x1 + (2 : Int32))]) (rest := []) hw (by rw [ho12]; exact h_cE text size sv stb var tab szs prg cod words has fpl pos fault plc tol tmany trc rmany mark pil pmany mks cts turns stop (x1 + (2 : Int32)) hq13) ok_yX10_codeE ml_X10_131 (rm_ok (by omega) (by decide)) 0 rfl rfl rfl rfl hl.1 (Nat.le_of_ble_eq_true rfl) dX10_codeE_53 ⟨Nat.zero_le _, Nat.zero_le _⟩ (fun H locs hw => ?_)
        have hw : Wd g A s (w_Mdl a g (((((text, size), (sv, stb)), ((var, tab), szs)), (((prg, o12.2.1), o12.2.2), ((has, fpl), pos))), ((((fault, plc), (tol, tmany)), ((trc, rmany), mark)), (((pil, pmany), mks), ((cts, turns), stop))))) H locs := hw
        refine W.eq (g2 := F0 m 56 ls [.int o12.1]) rfl ?_
        have hok := bdP_use ho12 hok
        refine lv_istore_n (lv' := [(3, .int o12.1), (2, .int v2), (0, .ref (a 0)), (1, .int x1)]) hx hb dX10_codeE_56 rfl hl (by decide) rfl (fun ls hl => ?_)
        refine lv_aload_n hx hb dX10_codeE_57 rfl (lv_at hl 2 rfl) ?_
        refine lv_aload_n hx hb dX10_codeE_58 rfl (lv_at hl 2 rfl) ?_
        refine lv_aload_n hx hb dX10_codeE_59 rfl (lv_at hl 2 rfl) ?_
        refine hI.get (v := .ref (a 7)) hw fg_X10_29 0 rfl rfl dX10_codeE_60 ?_
        refine lv_iload_n hx hb dX10_codeE_63 rfl (lv_at hl 3 rfl) ?_
        refine lv_iconst (v := (2 : Int32)) hx hb dX10_codeE_64 (by decide) ?_
        refine lv_iadd hx hb dX10_codeE_65 ?_
        have hq15 := hok.1
        have hok := hok.2
        obtain ⟨o14, ho14⟩ : ∃ o, o = f_X10_isSecret prg sv stb (x1 + (2 : Int32)) := ⟨_, rfl⟩
        refine hI.callI0 (wl := w_Mdl a g) (a := (((((text, size), (sv, stb)), ((var, tab), szs)), (((prg, o12.2.1), o12.2.2), ((has, fpl), pos))), ((((fault, plc), (tol, tmany)), ((trc, rmany), mark)), (((pil, pmany), mks), ((cts, turns), stop))))) (r := rb_X10_isSecretP (((((text, size), (sv, stb)), ((var, tab), szs)), (((prg, o12.2.1), o12.2.2), ((has, fpl), pos))), ((((fault, plc), (tol, tmany)), ((trc, rmany), mark)), (((pil, pmany), mks), ((cts, turns), stop)))) o14) (As := [.ref (a 7), .int (x1 + (2 : Int32))]) (rest := [.ref (a 0)]) hw (by rw [ho14]; exact c_X10_isSecretP l g a text size sv stb var tab szs prg o12.2.1 o12.2.2 has fpl pos fault plc tol tmany trc rmany mark pil pmany mks cts turns stop (x1 + (2 : Int32)) hq15) ok_yX10_isSecret ml_X10_111 (rm_ok (by omega) (by decide)) 0 rfl rfl rfl rfl hl.1 (Nat.le_of_ble_eq_true rfl) dX10_codeE_66 ⟨Nat.zero_le _, Nat.zero_le _⟩ (fun H locs hw => ?_)
        have hw : Wd g A s (w_Mdl a g (((((text, size), (sv, stb)), ((var, tab), szs)), (((prg, o12.2.1), o12.2.2), ((has, fpl), pos))), ((((fault, plc), (tol, tmany)), ((trc, rmany), mark)), (((pil, pmany), mks), ((cts, turns), stop))))) H locs := hw
        refine W.eq (g2 := F0 m 69 ls [.int o14, .ref (a 0)]) rfl ?_
        have hok := bdP_use ho14 hok
        refine lv_if_eq (tgt := 77) hx hb dX10_codeE_69 (by decide) (fun c16 => ?_) (fun c16 => ?_)
        · have hok := ok_t c16 hok
          refine lv_bipush (v := (21 : Int32)) hx hb dX10_codeE_77 (by decide) ?_
          have hq18 := hok.1
          have hok := hok.2
          obtain ⟨o17, ho17⟩ : ∃ o, o = f_X10_word o12.2.1 o12.2.2 (21 : Int32) := ⟨_, rfl⟩
          refine hI.callV0 (wl := w_Mdl a g) (a := (((((text, size), (sv, stb)), ((var, tab), szs)), (((prg, o12.2.1), o12.2.2), ((has, fpl), pos))), ((((fault, plc), (tol, tmany)), ((trc, rmany), mark)), (((pil, pmany), mks), ((cts, turns), stop))))) (r := rb_X10_word (((((text, size), (sv, stb)), ((var, tab), szs)), (((prg, o12.2.1), o12.2.2), ((has, fpl), pos))), ((((fault, plc), (tol, tmany)), ((trc, rmany), mark)), (((pil, pmany), mks), ((cts, turns), stop)))) o17) (As := [.int (21 : Int32)]) (rest := []) hw (by rw [ho17]; exact c_X10_word l g a text size sv stb var tab szs prg o12.2.1 o12.2.2 has fpl pos fault plc tol tmany trc rmany mark pil pmany mks cts turns stop (21 : Int32) hq18) ok_yX10_word ml_X10_128 (rm_ok (by omega) (by decide)) 0 rfl rfl rfl rfl hl.1 (Nat.le_of_ble_eq_true rfl) dX10_codeE_79 ⟨Nat.zero_le _, Nat.zero_le _⟩ (fun H locs hw => ?_)
          have hw : Wd g A s (w_Mdl a g (((((text, size), (sv, stb)), ((var, tab), szs)), (((prg, o17.1), o17.2), ((has, fpl), pos))), ((((fault, plc), (tol, tmany)), ((trc, rmany), mark)), (((pil, pmany), mks), ((cts, turns), stop))))) H locs := hw
          refine W.eq (g2 := F0 m 82 ls []) rfl ?_
          have hok := bdP_use ho17 hok
          refine lv_aload_n hx hb dX10_codeE_82 rfl (lv_at hl 2 rfl) ?_
          refine lv_aload_n hx hb dX10_codeE_83 rfl (lv_at hl 2 rfl) ?_
          refine hI.get (v := .ref (a 7)) hw fg_X10_29 0 rfl rfl dX10_codeE_84 ?_
          refine lv_iload_n hx hb dX10_codeE_87 rfl (lv_at hl 3 rfl) ?_
          refine lv_iconst (v := (1 : Int32)) hx hb dX10_codeE_88 (by decide) ?_
          refine lv_iadd hx hb dX10_codeE_89 ?_
          have hq19 := hok.1
          have hok := hok.2
          refine hI.iald hw 7 rfl hq19 dX10_codeE_90 ?_
          have hq21 := hok.1
          have hok := hok.2
          obtain ⟨o20, ho20⟩ : ∃ o, o = f_X10_word o17.1 o17.2 (prg (x1 + (1 : Int32)).toNatClampNeg) := ⟨_, rfl⟩
          refine hI.callV0 (wl := w_Mdl a g) (a := (((((text, size), (sv, stb)), ((var, tab), szs)), (((prg, o17.1), o17.2), ((has, fpl), pos))), ((((fault, plc), (tol, tmany)), ((trc, rmany), mark)), (((pil, pmany), mks), ((cts, turns), stop))))) (r := rb_X10_word (((((text, size), (sv, stb)), ((var, tab), szs)), (((prg, o17.1), o17.2), ((has, fpl), pos))), ((((fault, plc), (tol, tmany)), ((trc, rmany), mark)), (((pil, pmany), mks), ((cts, turns), stop)))) o20) (As := [.int (prg (x1 + (1 : Int32)).toNatClampNeg)]) (rest := []) hw (by rw [ho20]; exact c_X10_word l g a text size sv stb var tab szs prg o17.1 o17.2 has fpl pos fault plc tol tmany trc rmany mark pil pmany mks cts turns stop (prg (x1 + (1 : Int32)).toNatClampNeg) hq21) ok_yX10_word ml_X10_128 (rm_ok (by omega) (by decide)) 0 rfl rfl rfl rfl hl.1 (Nat.le_of_ble_eq_true rfl) dX10_codeE_91 ⟨Nat.zero_le _, Nat.zero_le _⟩ (fun H locs hw => ?_)
          have hw : Wd g A s (w_Mdl a g (((((text, size), (sv, stb)), ((var, tab), szs)), (((prg, o20.1), o20.2), ((has, fpl), pos))), ((((fault, plc), (tol, tmany)), ((trc, rmany), mark)), (((pil, pmany), mks), ((cts, turns), stop))))) H locs := hw
          refine W.eq (g2 := F0 m 94 ls []) rfl ?_
          have hok := bdP_use ho20 hok
          refine lv_iload_n hx hb dX10_codeE_94 rfl (lv_at hl 0 rfl) ?_
          exact hI.retI (u := (((((text, size), (sv, stb)), ((var, tab), szs)), (((prg, o20.1), o20.2), ((has, fpl), pos))), ((((fault, plc), (tol, tmany)), ((trc, rmany), mark)), (((pil, pmany), mks), ((cts, turns), stop))))) hw (hr.trans (congrArg (rb_X10_codeE (((((text, size), (sv, stb)), ((var, tab), szs)), (((prg, cod), words), ((has, fpl), pos))), ((((fault, plc), (tol, tmany)), ((trc, rmany), mark)), (((pil, pmany), mks), ((cts, turns), stop))))) ((show f_X10_codeE cE sv stb prg cod words x1 = (o12.1, (o20.1, o20.2)) from bd_of hv2 (it_f c3 (it_f c9 (it_t c10 (bd_of ho12 (bd_of ho14 (it_t c16 (bd_of ho17 (bd_of ho20 (rfl))))))))))))) dX10_codeE_95
        · have hok := ok_f c16 hok
          refine lv_bipush (v := (27 : Int32)) hx hb dX10_codeE_72 (by decide) ?_
          refine lv_goto (tgt := 79) hx hb dX10_codeE_74 (by decide) ?_
          have hq23 := hok.1
          have hok := hok.2
          obtain ⟨o22, ho22⟩ : ∃ o, o = f_X10_word o12.2.1 o12.2.2 (27 : Int32) := ⟨_, rfl⟩
          refine hI.callV0 (wl := w_Mdl a g) (a := (((((text, size), (sv, stb)), ((var, tab), szs)), (((prg, o12.2.1), o12.2.2), ((has, fpl), pos))), ((((fault, plc), (tol, tmany)), ((trc, rmany), mark)), (((pil, pmany), mks), ((cts, turns), stop))))) (r := rb_X10_word (((((text, size), (sv, stb)), ((var, tab), szs)), (((prg, o12.2.1), o12.2.2), ((has, fpl), pos))), ((((fault, plc), (tol, tmany)), ((trc, rmany), mark)), (((pil, pmany), mks), ((cts, turns), stop)))) o22) (As := [.int (27 : Int32)]) (rest := []) hw (by rw [ho22]; exact c_X10_word l g a text size sv stb var tab szs prg o12.2.1 o12.2.2 has fpl pos fault plc tol tmany trc rmany mark pil pmany mks cts turns stop (27 : Int32) hq23) ok_yX10_word ml_X10_128 (rm_ok (by omega) (by decide)) 0 rfl rfl rfl rfl hl.1 (Nat.le_of_ble_eq_true rfl) dX10_codeE_79 ⟨Nat.zero_le _, Nat.zero_le _⟩ (fun H locs hw => ?_)
          have hw : Wd g A s (w_Mdl a g (((((text, size), (sv, stb)), ((var, tab), szs)), (((prg, o22.1), o22.2), ((has, fpl), pos))), ((((fault, plc), (tol, tmany)), ((trc, rmany), mark)), (((pil, pmany), mks), ((cts, turns), stop))))) H locs := hw
          refine W.eq (g2 := F0 m 82 ls []) rfl ?_
          have hok := bdP_use ho22 hok
          refine lv_aload_n hx hb dX10_codeE_82 rfl (lv_at hl 2 rfl) ?_
          refine lv_aload_n hx hb dX10_codeE_83 rfl (lv_at hl 2 rfl) ?_
          refine hI.get (v := .ref (a 7)) hw fg_X10_29 0 rfl rfl dX10_codeE_84 ?_
          refine lv_iload_n hx hb dX10_codeE_87 rfl (lv_at hl 3 rfl) ?_
          refine lv_iconst (v := (1 : Int32)) hx hb dX10_codeE_88 (by decide) ?_
          refine lv_iadd hx hb dX10_codeE_89 ?_
          have hq24 := hok.1
          have hok := hok.2
          refine hI.iald hw 7 rfl hq24 dX10_codeE_90 ?_
          have hq26 := hok.1
          have hok := hok.2
          obtain ⟨o25, ho25⟩ : ∃ o, o = f_X10_word o22.1 o22.2 (prg (x1 + (1 : Int32)).toNatClampNeg) := ⟨_, rfl⟩
          refine hI.callV0 (wl := w_Mdl a g) (a := (((((text, size), (sv, stb)), ((var, tab), szs)), (((prg, o22.1), o22.2), ((has, fpl), pos))), ((((fault, plc), (tol, tmany)), ((trc, rmany), mark)), (((pil, pmany), mks), ((cts, turns), stop))))) (r := rb_X10_word (((((text, size), (sv, stb)), ((var, tab), szs)), (((prg, o22.1), o22.2), ((has, fpl), pos))), ((((fault, plc), (tol, tmany)), ((trc, rmany), mark)), (((pil, pmany), mks), ((cts, turns), stop)))) o25) (As := [.int (prg (x1 + (1 : Int32)).toNatClampNeg)]) (rest := []) hw (by rw [ho25]; exact c_X10_word l g a text size sv stb var tab szs prg o22.1 o22.2 has fpl pos fault plc tol tmany trc rmany mark pil pmany mks cts turns stop (prg (x1 + (1 : Int32)).toNatClampNeg) hq26) ok_yX10_word ml_X10_128 (rm_ok (by omega) (by decide)) 0 rfl rfl rfl rfl hl.1 (Nat.le_of_ble_eq_true rfl) dX10_codeE_91 ⟨Nat.zero_le _, Nat.zero_le _⟩ (fun H locs hw => ?_)
          have hw : Wd g A s (w_Mdl a g (((((text, size), (sv, stb)), ((var, tab), szs)), (((prg, o25.1), o25.2), ((has, fpl), pos))), ((((fault, plc), (tol, tmany)), ((trc, rmany), mark)), (((pil, pmany), mks), ((cts, turns), stop))))) H locs := hw
          refine W.eq (g2 := F0 m 94 ls []) rfl ?_
          have hok := bdP_use ho25 hok
          refine lv_iload_n hx hb dX10_codeE_94 rfl (lv_at hl 0 rfl) ?_
          exact hI.retI (u := (((((text, size), (sv, stb)), ((var, tab), szs)), (((prg, o25.1), o25.2), ((has, fpl), pos))), ((((fault, plc), (tol, tmany)), ((trc, rmany), mark)), (((pil, pmany), mks), ((cts, turns), stop))))) hw (hr.trans (congrArg (rb_X10_codeE (((((text, size), (sv, stb)), ((var, tab), szs)), (((prg, cod), words), ((has, fpl), pos))), ((((fault, plc), (tol, tmany)), ((trc, rmany), mark)), (((pil, pmany), mks), ((cts, turns), stop))))) ((show f_X10_codeE cE sv stb prg cod words x1 = (o12.1, (o25.1, o25.2)) from bd_of hv2 (it_f c3 (it_f c9 (it_t c10 (bd_of ho12 (bd_of ho14 (it_f c16 (bd_of ho22 (bd_of ho25 (rfl))))))))))))) dX10_codeE_95
    · have hok := ok_t c9 hok
      refine lv_aload_n hx hb dX10_codeE_19 rfl (lv_at hl 1 rfl) ?_
      refine lv_iload_n hx hb dX10_codeE_20 rfl (lv_at hl 0 rfl) ?_
      refine lv_bipush (v := (19 : Int32)) hx hb dX10_codeE_21 (by decide) ?_
      refine lv_isub hx hb dX10_codeE_23 ?_
      have hq28 := hok.1
      have hok := hok.2
      obtain ⟨o27, ho27⟩ : ∃ o, o = f_X10_word cod words (v2 - (19 : Int32)) := ⟨_, rfl⟩
      refine hI.callV0 (wl := w_Mdl a g) (a := (((((text, size), (sv, stb)), ((var, tab), szs)), (((prg, cod), words), ((has, fpl), pos))), ((((fault, plc), (tol, tmany)), ((trc, rmany), mark)), (((pil, pmany), mks), ((cts, turns), stop))))) (r := rb_X10_word (((((text, size), (sv, stb)), ((var, tab), szs)), (((prg, cod), words), ((has, fpl), pos))), ((((fault, plc), (tol, tmany)), ((trc, rmany), mark)), (((pil, pmany), mks), ((cts, turns), stop)))) o27) (As := [.int (v2 - (19 : Int32))]) (rest := []) hw (by rw [ho27]; exact c_X10_word l g a text size sv stb var tab szs prg cod words has fpl pos fault plc tol tmany trc rmany mark pil pmany mks cts turns stop (v2 - (19 : Int32)) hq28) ok_yX10_word ml_X10_128 (rm_ok (by omega) (by decide)) 0 rfl rfl rfl rfl hl.1 (Nat.le_of_ble_eq_true rfl) dX10_codeE_24 ⟨Nat.zero_le _, Nat.zero_le _⟩ (fun H locs hw => ?_)
      have hw : Wd g A s (w_Mdl a g (((((text, size), (sv, stb)), ((var, tab), szs)), (((prg, o27.1), o27.2), ((has, fpl), pos))), ((((fault, plc), (tol, tmany)), ((trc, rmany), mark)), (((pil, pmany), mks), ((cts, turns), stop))))) H locs := hw
      refine W.eq (g2 := F0 m 27 ls []) rfl ?_
      have hok := bdP_use ho27 hok
      refine lv_aload_n hx hb dX10_codeE_27 rfl (lv_at hl 1 rfl) ?_
      refine lv_aload_n hx hb dX10_codeE_28 rfl (lv_at hl 1 rfl) ?_
      refine hI.get (v := .ref (a 7)) hw fg_X10_29 0 rfl rfl dX10_codeE_29 ?_
      refine lv_iload_n hx hb dX10_codeE_32 rfl (lv_at hl 2 rfl) ?_
      refine lv_iconst (v := (1 : Int32)) hx hb dX10_codeE_33 (by decide) ?_
      refine lv_iadd hx hb dX10_codeE_34 ?_
      have hq29 := hok.1
      have hok := hok.2
      refine hI.iald hw 7 rfl hq29 dX10_codeE_35 ?_
      have hq31 := hok.1
      have hok := hok.2
      obtain ⟨o30, ho30⟩ : ∃ o, o = f_X10_word o27.1 o27.2 (prg (x1 + (1 : Int32)).toNatClampNeg) := ⟨_, rfl⟩
      refine hI.callV0 (wl := w_Mdl a g) (a := (((((text, size), (sv, stb)), ((var, tab), szs)), (((prg, o27.1), o27.2), ((has, fpl), pos))), ((((fault, plc), (tol, tmany)), ((trc, rmany), mark)), (((pil, pmany), mks), ((cts, turns), stop))))) (r := rb_X10_word (((((text, size), (sv, stb)), ((var, tab), szs)), (((prg, o27.1), o27.2), ((has, fpl), pos))), ((((fault, plc), (tol, tmany)), ((trc, rmany), mark)), (((pil, pmany), mks), ((cts, turns), stop)))) o30) (As := [.int (prg (x1 + (1 : Int32)).toNatClampNeg)]) (rest := []) hw (by rw [ho30]; exact c_X10_word l g a text size sv stb var tab szs prg o27.1 o27.2 has fpl pos fault plc tol tmany trc rmany mark pil pmany mks cts turns stop (prg (x1 + (1 : Int32)).toNatClampNeg) hq31) ok_yX10_word ml_X10_128 (rm_ok (by omega) (by decide)) 0 rfl rfl rfl rfl hl.1 (Nat.le_of_ble_eq_true rfl) dX10_codeE_36 ⟨Nat.zero_le _, Nat.zero_le _⟩ (fun H locs hw => ?_)
      have hw : Wd g A s (w_Mdl a g (((((text, size), (sv, stb)), ((var, tab), szs)), (((prg, o30.1), o30.2), ((has, fpl), pos))), ((((fault, plc), (tol, tmany)), ((trc, rmany), mark)), (((pil, pmany), mks), ((cts, turns), stop))))) H locs := hw
      refine W.eq (g2 := F0 m 39 ls []) rfl ?_
      have hok := bdP_use ho30 hok
      refine lv_iload_n hx hb dX10_codeE_39 rfl (lv_at hl 2 rfl) ?_
      refine lv_iconst (v := (2 : Int32)) hx hb dX10_codeE_40 (by decide) ?_
      refine lv_iadd hx hb dX10_codeE_41 ?_
      exact hI.retI (u := (((((text, size), (sv, stb)), ((var, tab), szs)), (((prg, o30.1), o30.2), ((has, fpl), pos))), ((((fault, plc), (tol, tmany)), ((trc, rmany), mark)), (((pil, pmany), mks), ((cts, turns), stop))))) hw (hr.trans (congrArg (rb_X10_codeE (((((text, size), (sv, stb)), ((var, tab), szs)), (((prg, cod), words), ((has, fpl), pos))), ((((fault, plc), (tol, tmany)), ((trc, rmany), mark)), (((pil, pmany), mks), ((cts, turns), stop))))) ((show f_X10_codeE cE sv stb prg cod words x1 = (x1 + (2 : Int32), (o30.1, o30.2)) from bd_of hv2 (it_f c3 (it_t c9 (bd_of ho27 (bd_of ho30 (rfl))))))))) dX10_codeE_42
def cdE : Nat → (Nat → Int32) → (Nat → Int32) → (Nat → Int32) → (Nat → Int32) → Int32 → Int32 → (Int32 × ((Nat → Int32) × Int32))
  | 0 => fun sv stb prg cod words _ => (0, (cod, words))
  | d + 1 => f_X10_codeE (cdE d)
def cdEk : Nat → (Nat → Int32) → (Nat → Int32) → (Nat → Int32) → (Nat → Int32) → Int32 → Int32 → Prop
  | 0 => fun _ _ _ _ _ _ => False
  | d + 1 => ok_X10_codeE (cdE d) (cdEk d)
theorem k_cdE (l : Launch) (g : GG) (a : Nat → Nat) : ∀ (d : Nat) (text : Nat → Int32) (size : Int32) (sv : Nat → Int32) (stb : Nat → Int32) (var : Nat → Int32) (tab : Nat → Int32) (szs : Nat → Int32) (prg : Nat → Int32) (cod : Nat → Int32) (words : Int32) (has : Int32) (fpl : Int32) (pos : Int32) (fault : Int32) (plc : Int32) (tol : Nat → Int32) (tmany : Int32) (trc : Nat → Int32) (rmany : Int32) (mark : Int64) (pil : Nat → Int32) (pmany : Int32) (mks : Nat → Int32) (cts : Nat → Int32) (turns : Int32) (stop : Int32) (y1 : Int32), cdEk d sv stb prg cod words y1 → CI l g yX10_codeE cX10_codeE 5 (some .int) (rmN (d + 12)) (w_Mdl a g) [.ref (a 0), .int y1] (((((text, size), (sv, stb)), ((var, tab), szs)), (((prg, cod), words), ((has, fpl), pos))), ((((fault, plc), (tol, tmany)), ((trc, rmany), mark)), (((pil, pmany), mks), ((cts, turns), stop)))) (rb_X10_codeE (((((text, size), (sv, stb)), ((var, tab), szs)), (((prg, cod), words), ((has, fpl), pos))), ((((fault, plc), (tol, tmany)), ((trc, rmany), mark)), (((pil, pmany), mks), ((cts, turns), stop)))) (cdE d sv stb prg cod words y1)) := by
  intro d
  induction d with
  | zero =>
    intro text size sv stb var tab szs prg cod words has fpl pos fault plc tol tmany trc rmany mark pil pmany mks cts turns stop y1 hok
    exact hok.elim
  | succ d ih =>
    intro text size sv stb var tab szs prg cod words has fpl pos fault plc tol tmany trc rmany mark pil pmany mks cts turns stop y1 hok
    exact c_X10_codeE l g a text size sv stb var tab szs prg cod words has fpl pos fault plc tol tmany trc rmany mark pil pmany mks cts turns stop (cdE d) (cdEk d) y1 (d + 1 + 12) (d + 12) (by omega) (fun text size sv stb var tab szs prg cod words has fpl pos fault plc tol tmany trc rmany mark pil pmany mks cts turns stop y1 hz => ih text size sv stb var tab szs prg cod words has fpl pos fault plc tol tmany trc rmany mark pil pmany mks cts turns stop y1 hz) hok
