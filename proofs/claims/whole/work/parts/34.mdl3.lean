def bdP {α : Type} (x : α) (f : α → Prop) : Prop := f x
theorem bdP_use {α : Type} {x o : α} {f : α → Prop} (h : o = x) (k : bdP x f) : f o := by
  rw [h]
  exact k
theorem ok_t {c A B : Prop} [Decidable c] (h : c) (k : if c then A else B) : A := by
  rw [if_pos h] at k
  exact k
theorem ok_f {c A B : Prop} [Decidable c] (h : ¬ c) (k : if c then A else B) : B := by
  rw [if_neg h] at k
  exact k
def ok_X10_behind_5 (text : Nat → Int32) : Nat → Int32 → Int32 → Prop
  | 0, _, _ => False
  | k + 1, y3, y4 => if y3 ≤ 0 then True else vp_in y4 400 ∧ (bdP (text y4.toNatClampNeg) (fun v3 => if v3 = (20 : Int32) then ok_X10_behind_5 text k (y3 + (-1 : Int32)) (y4 + (2 : Int32)) else if v3 = (21 : Int32) then ok_X10_behind_5 text k (y3 + (-1 : Int32)) (y4 + (2 : Int32)) else if v3 = (35 : Int32) then ok_X10_behind_5 text k ((y3 + (-1 : Int32)) + (1 : Int32)) (y4 + (2 : Int32)) else bdP (f_X10_operands v3) (fun o7 => bdP ((y3 + (-1 : Int32)) + o7) (fun v8 => ok_X10_behind_5 text k v8 (y4 + (1 : Int32))))))
def f_X10_behind_5 (text : Nat → Int32) : Nat → Int32 → Int32 → Int32
  | 0, y3, y4 => (0)
  | k + 1, y3, y4 => if y3 ≤ 0 then (y4) else bd (text y4.toNatClampNeg) (fun v3 => if v3 = (20 : Int32) then f_X10_behind_5 text k (y3 + (-1 : Int32)) (y4 + (2 : Int32)) else if v3 = (21 : Int32) then f_X10_behind_5 text k (y3 + (-1 : Int32)) (y4 + (2 : Int32)) else if v3 = (35 : Int32) then f_X10_behind_5 text k ((y3 + (-1 : Int32)) + (1 : Int32)) (y4 + (2 : Int32)) else bd (f_X10_operands v3) (fun o7 => bd ((y3 + (-1 : Int32)) + o7) (fun v8 => f_X10_behind_5 text k v8 (y4 + (1 : Int32)))))
def f_X10_behind (text : Nat → Int32) (x2 : Int32) : Int32 := f_X10_behind_5 text 402 (1 : Int32) x2
def ok_X10_behind (text : Nat → Int32) (x2 : Int32) : Prop := ok_X10_behind_5 text 402 (1 : Int32) x2
def rb_X10_behind (σ : S_Mdl) (o : Int32) : Int32 × S_Mdl := (o, σ)
set_option maxHeartbeats 4000000 in
set_option maxRecDepth 100000 in
theorem lp_X10_behind_5 (l : Launch) (g : GG) (a : Nat → Nat) (text : Nat → Int32) (size : Int32) (sv : Nat → Int32) (stb : Nat → Int32) (var : Nat → Int32) (tab : Nat → Int32) (szs : Nat → Int32) (prg : Nat → Int32) (cod : Nat → Int32) (words : Int32) (has : Int32) (fpl : Int32) (pos : Int32) (fault : Int32) (plc : Int32) (tol : Nat → Int32) (tmany : Int32) (trc : Nat → Int32) (rmany : Int32) (mark : Int64) (pil : Nat → Int32) (pmany : Int32) (mks : Nat → Int32) (cts : Nat → Int32) (turns : Int32) (stop : Int32)  {p : Program} {e : Env} {s : State} {m : MethodId} {args : Array Value} {below : List Frame} {meth : Method} {c : Code} {A : Nat → Prop} (hI : InM p s m args meth c RX10 cX10_behind 6 (some .int) g A) : ∀ (k : Nat) (y3 : Int32) (y4 : Int32), (ok_X10_behind_5 text k y3 y4) → ∀ (r : Int32 × S_Mdl), r = rb_X10_behind (((((text, size), (sv, stb)), ((var, tab), szs)), (((prg, cod), words), ((has, fpl), pos))), ((((fault, plc), (tol, tmany)), ((trc, rmany), mark)), (((pil, pmany), mks), ((cts, turns), stop)))) (f_X10_behind_5 text k y3 y4) → ∀ (H : Heap) (locs : List Loc), Wd g A s (w_Mdl a g (((((text, size), (sv, stb)), ((var, tab), szs)), (((prg, cod), words), ((has, fpl), pos))), ((((fault, plc), (tol, tmany)), ((trc, rmany), mark)), (((pil, pmany), mks), ((cts, turns), stop))))) H locs → ∀ (ls : Array Slot), lv_has ls 6 [(0, .ref (a 0)), (1, .ref (a 1)), (3, .int y3), (4, .int y4)] → W p l e (rmN 1) s m args below meth c H locs 0 0 (QI g (w_Mdl a g) A r below args s) (F0 m 5 ls []) := by
  have hx := hI.1
  have hb := hI.2.1
  intro k
  induction k with
  | zero =>
    intro y3 y4 hok
    exact hok.elim
  | succ k ih =>
    intro y3 y4 hok r hr H locs hw ls hl
    refine lv_iload_n hx hb dX10_behind_5 rfl (lv_at hl 2 rfl) ?_
    refine lv_if_le (tgt := 68) hx hb dX10_behind_6 (by decide) (fun c1 => ?_) (fun c1 => ?_)
    · have hok := ok_t c1 hok
      refine lv_iload hx hb dX10_behind_68 (lv_at hl 3 rfl) ?_
      exact hI.retI (u := (((((text, size), (sv, stb)), ((var, tab), szs)), (((prg, cod), words), ((has, fpl), pos))), ((((fault, plc), (tol, tmany)), ((trc, rmany), mark)), (((pil, pmany), mks), ((cts, turns), stop))))) hw (hr.trans (congrArg (rb_X10_behind (((((text, size), (sv, stb)), ((var, tab), szs)), (((prg, cod), words), ((has, fpl), pos))), ((((fault, plc), (tol, tmany)), ((trc, rmany), mark)), (((pil, pmany), mks), ((cts, turns), stop))))) ((show f_X10_behind_5 text (k + 1) y3 y4 = (y4) from it_t c1 (rfl))))) dX10_behind_70
    · have hok := ok_f c1 hok
      refine lv_aload_n hx hb dX10_behind_9 rfl (lv_at hl 1 rfl) ?_
      refine lv_iload hx hb dX10_behind_10 (lv_at hl 3 rfl) ?_
      have hq2 := hok.1
      have hok := hok.2
      refine hI.iald hw 1 rfl hq2 dX10_behind_12 ?_
      refine lv_topi (fun v3 hv3 => ?_)
      have hok := bdP_use hv3 hok
      refine lv_istore (lv' := [(5, .int v3), (0, .ref (a 0)), (1, .ref (a 1)), (3, .int y3), (4, .int y4)]) hx hb dX10_behind_13 hl (by decide) rfl (fun ls hl => ?_)
      refine lv_iinc (v := y3 + (-1 : Int32)) (lv' := [(3, .int (y3 + (-1 : Int32))), (5, .int v3), (0, .ref (a 0)), (1, .ref (a 1)), (4, .int y4)]) hx hb dX10_behind_15 hl (k := 3) rfl rfl (by decide) rfl (fun ls hl => ?_)
      refine lv_iload hx hb dX10_behind_18 (lv_at hl 1 rfl) ?_
      refine lv_bipush (v := (20 : Int32)) hx hb dX10_behind_20 (by decide) ?_
      refine lv_icmp_eq (tgt := 32) hx hb dX10_behind_22 (by decide) (fun c4 => ?_) (fun c4 => ?_)
      · have hok := ok_t c4 hok
        refine lv_iinc (v := y4 + (2 : Int32)) (lv' := [(4, .int (y4 + (2 : Int32))), (3, .int (y3 + (-1 : Int32))), (5, .int v3), (0, .ref (a 0)), (1, .ref (a 1))]) hx hb dX10_behind_32 hl (k := 4) rfl rfl (by decide) rfl (fun ls hl => ?_)
        refine lv_goto (tgt := 65) hx hb dX10_behind_35 (by decide) ?_
        refine lv_goto (tgt := 5) hx hb dX10_behind_65 (by decide) ?_
        exact ih (y3 + (-1 : Int32)) (y4 + (2 : Int32)) hok r (hr.trans (congrArg (rb_X10_behind (((((text, size), (sv, stb)), ((var, tab), szs)), (((prg, cod), words), ((has, fpl), pos))), ((((fault, plc), (tol, tmany)), ((trc, rmany), mark)), (((pil, pmany), mks), ((cts, turns), stop))))) ((show f_X10_behind_5 text (k + 1) y3 y4 = f_X10_behind_5 text k (y3 + (-1 : Int32)) (y4 + (2 : Int32)) from it_f c1 (bd_of hv3 (it_t c4 (rfl))))))) _ _ hw _ (lv_sub hl [3, 4, 1, 0] rfl)
      · have hok := ok_f c4 hok
        refine lv_iload hx hb dX10_behind_25 (lv_at hl 1 rfl) ?_
        refine lv_bipush (v := (21 : Int32)) hx hb dX10_behind_27 (by decide) ?_
        refine lv_icmp_ne (tgt := 38) hx hb dX10_behind_29 (by decide) (fun c5 => ?_) (fun c5 => ?_)
        · have hok := ok_f c5 hok
          refine lv_iload hx hb dX10_behind_38 (lv_at hl 1 rfl) ?_
          refine lv_bipush (v := (35 : Int32)) hx hb dX10_behind_40 (by decide) ?_
          refine lv_icmp_ne (tgt := 54) hx hb dX10_behind_42 (by decide) (fun c6 => ?_) (fun c6 => ?_)
          · have hok := ok_f c6 hok
            refine lv_iinc (v := y4 + (1 : Int32)) (lv' := [(4, .int (y4 + (1 : Int32))), (3, .int (y3 + (-1 : Int32))), (5, .int v3), (0, .ref (a 0)), (1, .ref (a 1))]) hx hb dX10_behind_54 hl (k := 4) rfl rfl (by decide) rfl (fun ls hl => ?_)
            refine lv_iload_n hx hb dX10_behind_57 rfl (lv_at hl 1 rfl) ?_
            refine lv_iload hx hb dX10_behind_58 (lv_at hl 2 rfl) ?_
            obtain ⟨o7, ho7⟩ : ∃ o, o = f_X10_operands v3 := ⟨_, rfl⟩
            refine hI.callSI (r := o7) (As := [.int v3]) (rest := [.int (y3 + (-1 : Int32))]) hw (by rw [ho7]; exact c_X10_operands l g v3) ok_yX10_operands ml_X10_85 (rm_ok (by decide) (by decide)) rfl rfl hl.1 (Nat.le_of_ble_eq_true rfl) dX10_behind_60 ⟨Nat.zero_le _, Nat.zero_le _⟩ (fun H locs hw => ?_)
            have hok := bdP_use ho7 hok
            refine lv_iadd hx hb dX10_behind_63 ?_
            refine lv_topi (fun v8 hv8 => ?_)
            have hok := bdP_use hv8 hok
            refine lv_istore_n (lv' := [(3, .int v8), (4, .int (y4 + (1 : Int32))), (5, .int v3), (0, .ref (a 0)), (1, .ref (a 1))]) hx hb dX10_behind_64 rfl hl (by decide) rfl (fun ls hl => ?_)
            refine lv_goto (tgt := 5) hx hb dX10_behind_65 (by decide) ?_
            exact ih v8 (y4 + (1 : Int32)) hok r (hr.trans (congrArg (rb_X10_behind (((((text, size), (sv, stb)), ((var, tab), szs)), (((prg, cod), words), ((has, fpl), pos))), ((((fault, plc), (tol, tmany)), ((trc, rmany), mark)), (((pil, pmany), mks), ((cts, turns), stop))))) ((show f_X10_behind_5 text (k + 1) y3 y4 = f_X10_behind_5 text k v8 (y4 + (1 : Int32)) from it_f c1 (bd_of hv3 (it_f c4 (it_f c5 (it_f c6 (bd_of ho7 (bd_of hv8 (rfl))))))))))) _ _ hw _ (lv_sub hl [3, 4, 0, 1] rfl)
          · have hok := ok_t c6 hok
            refine lv_iinc (v := y4 + (2 : Int32)) (lv' := [(4, .int (y4 + (2 : Int32))), (3, .int (y3 + (-1 : Int32))), (5, .int v3), (0, .ref (a 0)), (1, .ref (a 1))]) hx hb dX10_behind_45 hl (k := 4) rfl rfl (by decide) rfl (fun ls hl => ?_)
            refine lv_iinc (v := (y3 + (-1 : Int32)) + (1 : Int32)) (lv' := [(3, .int ((y3 + (-1 : Int32)) + (1 : Int32))), (4, .int (y4 + (2 : Int32))), (5, .int v3), (0, .ref (a 0)), (1, .ref (a 1))]) hx hb dX10_behind_48 hl (k := 1) rfl rfl (by decide) rfl (fun ls hl => ?_)
            refine lv_goto (tgt := 65) hx hb dX10_behind_51 (by decide) ?_
            refine lv_goto (tgt := 5) hx hb dX10_behind_65 (by decide) ?_
            exact ih ((y3 + (-1 : Int32)) + (1 : Int32)) (y4 + (2 : Int32)) hok r (hr.trans (congrArg (rb_X10_behind (((((text, size), (sv, stb)), ((var, tab), szs)), (((prg, cod), words), ((has, fpl), pos))), ((((fault, plc), (tol, tmany)), ((trc, rmany), mark)), (((pil, pmany), mks), ((cts, turns), stop))))) ((show f_X10_behind_5 text (k + 1) y3 y4 = f_X10_behind_5 text k ((y3 + (-1 : Int32)) + (1 : Int32)) (y4 + (2 : Int32)) from it_f c1 (bd_of hv3 (it_f c4 (it_f c5 (it_t c6 (rfl))))))))) _ _ hw _ (lv_sub hl [3, 4, 0, 1] rfl)
        · have hok := ok_t c5 hok
          refine lv_iinc (v := y4 + (2 : Int32)) (lv' := [(4, .int (y4 + (2 : Int32))), (3, .int (y3 + (-1 : Int32))), (5, .int v3), (0, .ref (a 0)), (1, .ref (a 1))]) hx hb dX10_behind_32 hl (k := 4) rfl rfl (by decide) rfl (fun ls hl => ?_)
          refine lv_goto (tgt := 65) hx hb dX10_behind_35 (by decide) ?_
          refine lv_goto (tgt := 5) hx hb dX10_behind_65 (by decide) ?_
          exact ih (y3 + (-1 : Int32)) (y4 + (2 : Int32)) hok r (hr.trans (congrArg (rb_X10_behind (((((text, size), (sv, stb)), ((var, tab), szs)), (((prg, cod), words), ((has, fpl), pos))), ((((fault, plc), (tol, tmany)), ((trc, rmany), mark)), (((pil, pmany), mks), ((cts, turns), stop))))) ((show f_X10_behind_5 text (k + 1) y3 y4 = f_X10_behind_5 text k (y3 + (-1 : Int32)) (y4 + (2 : Int32)) from it_f c1 (bd_of hv3 (it_f c4 (it_t c5 (rfl)))))))) _ _ hw _ (lv_sub hl [3, 4, 1, 0] rfl)
set_option maxHeartbeats 4000000 in
set_option maxRecDepth 100000 in
theorem c_X10_behind (l : Launch) (g : GG) (a : Nat → Nat) (text : Nat → Int32) (size : Int32) (sv : Nat → Int32) (stb : Nat → Int32) (var : Nat → Int32) (tab : Nat → Int32) (szs : Nat → Int32) (prg : Nat → Int32) (cod : Nat → Int32) (words : Int32) (has : Int32) (fpl : Int32) (pos : Int32) (fault : Int32) (plc : Int32) (tol : Nat → Int32) (tmany : Int32) (trc : Nat → Int32) (rmany : Int32) (mark : Int64) (pil : Nat → Int32) (pmany : Int32) (mks : Nat → Int32) (cts : Nat → Int32) (turns : Int32) (stop : Int32) (x2 : Int32) (hok : ok_X10_behind text x2) : CI l g yX10_behind cX10_behind 6 (some .int) (rmN 1) (w_Mdl a g) [.ref (a 0), .ref (a 1), .int x2] (((((text, size), (sv, stb)), ((var, tab), szs)), (((prg, cod), words), ((has, fpl), pos))), ((((fault, plc), (tol, tmany)), ((trc, rmany), mark)), (((pil, pmany), mks), ((cts, turns), stop)))) (rb_X10_behind (((((text, size), (sv, stb)), ((var, tab), szs)), (((prg, cod), words), ((has, fpl), pos))), ((((fault, plc), (tol, tmany)), ((trc, rmany), mark)), (((pil, pmany), mks), ((cts, turns), stop)))) (f_X10_behind text x2)) := by
  refine CI.mk (by decide) (Nat.le_of_ble_eq_true rfl) ?_
  intro p e s m below meth c A ls hI hw hl
  have hx := hI.1
  have hb := hI.2.1
  obtain ⟨r, hr⟩ : ∃ r, r = rb_X10_behind (((((text, size), (sv, stb)), ((var, tab), szs)), (((prg, cod), words), ((has, fpl), pos))), ((((fault, plc), (tol, tmany)), ((trc, rmany), mark)), (((pil, pmany), mks), ((cts, turns), stop)))) (f_X10_behind text x2) := ⟨_, rfl⟩
  rw [← hr]
  have hl : lv_has ls 6 [(0, .ref (a 0)), (1, .ref (a 1)), (2, .int x2)] := hl
  refine lv_iconst (v := (1 : Int32)) hx hb dX10_behind_0 (by decide) ?_
  refine lv_istore_n (lv' := [(3, .int (1 : Int32)), (0, .ref (a 0)), (1, .ref (a 1)), (2, .int x2)]) hx hb dX10_behind_1 rfl hl (by decide) rfl (fun ls hl => ?_)
  refine lv_iload_n hx hb dX10_behind_2 rfl (lv_at hl 3 rfl) ?_
  refine lv_istore (lv' := [(4, .int x2), (3, .int (1 : Int32)), (0, .ref (a 0)), (1, .ref (a 1)), (2, .int x2)]) hx hb dX10_behind_3 hl (by decide) rfl (fun ls hl => ?_)
  exact lp_X10_behind_5 l g a text size sv stb var tab szs prg cod words has fpl pos fault plc tol tmany trc rmany mark pil pmany mks cts turns stop hI 402 (1 : Int32) x2 hok r (hr.trans (congrArg (rb_X10_behind (((((text, size), (sv, stb)), ((var, tab), szs)), (((prg, cod), words), ((has, fpl), pos))), ((((fault, plc), (tol, tmany)), ((trc, rmany), mark)), (((pil, pmany), mks), ((cts, turns), stop))))) ((show f_X10_behind text x2 = f_X10_behind_5 text 402 (1 : Int32) x2 from rfl)))) _ _ hw _ (lv_sub hl [2, 3, 1, 0] rfl)
def rb_X10_behindP (σ : S_Mdl) (o : Int32) : Int32 × S_Mdl := (o, σ)
set_option maxHeartbeats 4000000 in
set_option maxRecDepth 100000 in
theorem lp_X10_behindP_5 (l : Launch) (g : GG) (a : Nat → Nat) (text : Nat → Int32) (size : Int32) (sv : Nat → Int32) (stb : Nat → Int32) (var : Nat → Int32) (tab : Nat → Int32) (szs : Nat → Int32) (prg : Nat → Int32) (cod : Nat → Int32) (words : Int32) (has : Int32) (fpl : Int32) (pos : Int32) (fault : Int32) (plc : Int32) (tol : Nat → Int32) (tmany : Int32) (trc : Nat → Int32) (rmany : Int32) (mark : Int64) (pil : Nat → Int32) (pmany : Int32) (mks : Nat → Int32) (cts : Nat → Int32) (turns : Int32) (stop : Int32)  {p : Program} {e : Env} {s : State} {m : MethodId} {args : Array Value} {below : List Frame} {meth : Method} {c : Code} {A : Nat → Prop} (hI : InM p s m args meth c RX10 cX10_behind 6 (some .int) g A) : ∀ (k : Nat) (y3 : Int32) (y4 : Int32), (ok_X10_behind_5 prg k y3 y4) → ∀ (r : Int32 × S_Mdl), r = rb_X10_behindP (((((text, size), (sv, stb)), ((var, tab), szs)), (((prg, cod), words), ((has, fpl), pos))), ((((fault, plc), (tol, tmany)), ((trc, rmany), mark)), (((pil, pmany), mks), ((cts, turns), stop)))) (f_X10_behind_5 prg k y3 y4) → ∀ (H : Heap) (locs : List Loc), Wd g A s (w_Mdl a g (((((text, size), (sv, stb)), ((var, tab), szs)), (((prg, cod), words), ((has, fpl), pos))), ((((fault, plc), (tol, tmany)), ((trc, rmany), mark)), (((pil, pmany), mks), ((cts, turns), stop))))) H locs → ∀ (ls : Array Slot), lv_has ls 6 [(0, .ref (a 0)), (1, .ref (a 7)), (3, .int y3), (4, .int y4)] → W p l e (rmN 1) s m args below meth c H locs 0 0 (QI g (w_Mdl a g) A r below args s) (F0 m 5 ls []) := by
  have hx := hI.1
  have hb := hI.2.1
  intro k
  induction k with
  | zero =>
    intro y3 y4 hok
    exact hok.elim
  | succ k ih =>
    intro y3 y4 hok r hr H locs hw ls hl
    refine lv_iload_n hx hb dX10_behind_5 rfl (lv_at hl 2 rfl) ?_
    refine lv_if_le (tgt := 68) hx hb dX10_behind_6 (by decide) (fun c1 => ?_) (fun c1 => ?_)
    · have hok := ok_t c1 hok
      refine lv_iload hx hb dX10_behind_68 (lv_at hl 3 rfl) ?_
      exact hI.retI (u := (((((text, size), (sv, stb)), ((var, tab), szs)), (((prg, cod), words), ((has, fpl), pos))), ((((fault, plc), (tol, tmany)), ((trc, rmany), mark)), (((pil, pmany), mks), ((cts, turns), stop))))) hw (hr.trans (congrArg (rb_X10_behindP (((((text, size), (sv, stb)), ((var, tab), szs)), (((prg, cod), words), ((has, fpl), pos))), ((((fault, plc), (tol, tmany)), ((trc, rmany), mark)), (((pil, pmany), mks), ((cts, turns), stop))))) ((show f_X10_behind_5 prg (k + 1) y3 y4 = (y4) from it_t c1 (rfl))))) dX10_behind_70
    · have hok := ok_f c1 hok
      refine lv_aload_n hx hb dX10_behind_9 rfl (lv_at hl 1 rfl) ?_
      refine lv_iload hx hb dX10_behind_10 (lv_at hl 3 rfl) ?_
      have hq2 := hok.1
      have hok := hok.2
      refine hI.iald hw 7 rfl hq2 dX10_behind_12 ?_
      refine lv_topi (fun v3 hv3 => ?_)
      have hok := bdP_use hv3 hok
      refine lv_istore (lv' := [(5, .int v3), (0, .ref (a 0)), (1, .ref (a 7)), (3, .int y3), (4, .int y4)]) hx hb dX10_behind_13 hl (by decide) rfl (fun ls hl => ?_)
      refine lv_iinc (v := y3 + (-1 : Int32)) (lv' := [(3, .int (y3 + (-1 : Int32))), (5, .int v3), (0, .ref (a 0)), (1, .ref (a 7)), (4, .int y4)]) hx hb dX10_behind_15 hl (k := 3) rfl rfl (by decide) rfl (fun ls hl => ?_)
      refine lv_iload hx hb dX10_behind_18 (lv_at hl 1 rfl) ?_
      refine lv_bipush (v := (20 : Int32)) hx hb dX10_behind_20 (by decide) ?_
      refine lv_icmp_eq (tgt := 32) hx hb dX10_behind_22 (by decide) (fun c4 => ?_) (fun c4 => ?_)
      · have hok := ok_t c4 hok
        refine lv_iinc (v := y4 + (2 : Int32)) (lv' := [(4, .int (y4 + (2 : Int32))), (3, .int (y3 + (-1 : Int32))), (5, .int v3), (0, .ref (a 0)), (1, .ref (a 7))]) hx hb dX10_behind_32 hl (k := 4) rfl rfl (by decide) rfl (fun ls hl => ?_)
        refine lv_goto (tgt := 65) hx hb dX10_behind_35 (by decide) ?_
        refine lv_goto (tgt := 5) hx hb dX10_behind_65 (by decide) ?_
        exact ih (y3 + (-1 : Int32)) (y4 + (2 : Int32)) hok r (hr.trans (congrArg (rb_X10_behindP (((((text, size), (sv, stb)), ((var, tab), szs)), (((prg, cod), words), ((has, fpl), pos))), ((((fault, plc), (tol, tmany)), ((trc, rmany), mark)), (((pil, pmany), mks), ((cts, turns), stop))))) ((show f_X10_behind_5 prg (k + 1) y3 y4 = f_X10_behind_5 prg k (y3 + (-1 : Int32)) (y4 + (2 : Int32)) from it_f c1 (bd_of hv3 (it_t c4 (rfl))))))) _ _ hw _ (lv_sub hl [3, 4, 1, 0] rfl)
      · have hok := ok_f c4 hok
        refine lv_iload hx hb dX10_behind_25 (lv_at hl 1 rfl) ?_
        refine lv_bipush (v := (21 : Int32)) hx hb dX10_behind_27 (by decide) ?_
        refine lv_icmp_ne (tgt := 38) hx hb dX10_behind_29 (by decide) (fun c5 => ?_) (fun c5 => ?_)
        · have hok := ok_f c5 hok
          refine lv_iload hx hb dX10_behind_38 (lv_at hl 1 rfl) ?_
          refine lv_bipush (v := (35 : Int32)) hx hb dX10_behind_40 (by decide) ?_
          refine lv_icmp_ne (tgt := 54) hx hb dX10_behind_42 (by decide) (fun c6 => ?_) (fun c6 => ?_)
          · have hok := ok_f c6 hok
            refine lv_iinc (v := y4 + (1 : Int32)) (lv' := [(4, .int (y4 + (1 : Int32))), (3, .int (y3 + (-1 : Int32))), (5, .int v3), (0, .ref (a 0)), (1, .ref (a 7))]) hx hb dX10_behind_54 hl (k := 4) rfl rfl (by decide) rfl (fun ls hl => ?_)
            refine lv_iload_n hx hb dX10_behind_57 rfl (lv_at hl 1 rfl) ?_
            refine lv_iload hx hb dX10_behind_58 (lv_at hl 2 rfl) ?_
            obtain ⟨o7, ho7⟩ : ∃ o, o = f_X10_operands v3 := ⟨_, rfl⟩
            refine hI.callSI (r := o7) (As := [.int v3]) (rest := [.int (y3 + (-1 : Int32))]) hw (by rw [ho7]; exact c_X10_operands l g v3) ok_yX10_operands ml_X10_85 (rm_ok (by decide) (by decide)) rfl rfl hl.1 (Nat.le_of_ble_eq_true rfl) dX10_behind_60 ⟨Nat.zero_le _, Nat.zero_le _⟩ (fun H locs hw => ?_)
            have hok := bdP_use ho7 hok
            refine lv_iadd hx hb dX10_behind_63 ?_
            refine lv_topi (fun v8 hv8 => ?_)
            have hok := bdP_use hv8 hok
            refine lv_istore_n (lv' := [(3, .int v8), (4, .int (y4 + (1 : Int32))), (5, .int v3), (0, .ref (a 0)), (1, .ref (a 7))]) hx hb dX10_behind_64 rfl hl (by decide) rfl (fun ls hl => ?_)
            refine lv_goto (tgt := 5) hx hb dX10_behind_65 (by decide) ?_
            exact ih v8 (y4 + (1 : Int32)) hok r (hr.trans (congrArg (rb_X10_behindP (((((text, size), (sv, stb)), ((var, tab), szs)), (((prg, cod), words), ((has, fpl), pos))), ((((fault, plc), (tol, tmany)), ((trc, rmany), mark)), (((pil, pmany), mks), ((cts, turns), stop))))) ((show f_X10_behind_5 prg (k + 1) y3 y4 = f_X10_behind_5 prg k v8 (y4 + (1 : Int32)) from it_f c1 (bd_of hv3 (it_f c4 (it_f c5 (it_f c6 (bd_of ho7 (bd_of hv8 (rfl))))))))))) _ _ hw _ (lv_sub hl [3, 4, 0, 1] rfl)
          · have hok := ok_t c6 hok
            refine lv_iinc (v := y4 + (2 : Int32)) (lv' := [(4, .int (y4 + (2 : Int32))), (3, .int (y3 + (-1 : Int32))), (5, .int v3), (0, .ref (a 0)), (1, .ref (a 7))]) hx hb dX10_behind_45 hl (k := 4) rfl rfl (by decide) rfl (fun ls hl => ?_)
            refine lv_iinc (v := (y3 + (-1 : Int32)) + (1 : Int32)) (lv' := [(3, .int ((y3 + (-1 : Int32)) + (1 : Int32))), (4, .int (y4 + (2 : Int32))), (5, .int v3), (0, .ref (a 0)), (1, .ref (a 7))]) hx hb dX10_behind_48 hl (k := 1) rfl rfl (by decide) rfl (fun ls hl => ?_)
            refine lv_goto (tgt := 65) hx hb dX10_behind_51 (by decide) ?_
            refine lv_goto (tgt := 5) hx hb dX10_behind_65 (by decide) ?_
            exact ih ((y3 + (-1 : Int32)) + (1 : Int32)) (y4 + (2 : Int32)) hok r (hr.trans (congrArg (rb_X10_behindP (((((text, size), (sv, stb)), ((var, tab), szs)), (((prg, cod), words), ((has, fpl), pos))), ((((fault, plc), (tol, tmany)), ((trc, rmany), mark)), (((pil, pmany), mks), ((cts, turns), stop))))) ((show f_X10_behind_5 prg (k + 1) y3 y4 = f_X10_behind_5 prg k ((y3 + (-1 : Int32)) + (1 : Int32)) (y4 + (2 : Int32)) from it_f c1 (bd_of hv3 (it_f c4 (it_f c5 (it_t c6 (rfl))))))))) _ _ hw _ (lv_sub hl [3, 4, 0, 1] rfl)
        · have hok := ok_t c5 hok
          refine lv_iinc (v := y4 + (2 : Int32)) (lv' := [(4, .int (y4 + (2 : Int32))), (3, .int (y3 + (-1 : Int32))), (5, .int v3), (0, .ref (a 0)), (1, .ref (a 7))]) hx hb dX10_behind_32 hl (k := 4) rfl rfl (by decide) rfl (fun ls hl => ?_)
          refine lv_goto (tgt := 65) hx hb dX10_behind_35 (by decide) ?_
          refine lv_goto (tgt := 5) hx hb dX10_behind_65 (by decide) ?_
          exact ih (y3 + (-1 : Int32)) (y4 + (2 : Int32)) hok r (hr.trans (congrArg (rb_X10_behindP (((((text, size), (sv, stb)), ((var, tab), szs)), (((prg, cod), words), ((has, fpl), pos))), ((((fault, plc), (tol, tmany)), ((trc, rmany), mark)), (((pil, pmany), mks), ((cts, turns), stop))))) ((show f_X10_behind_5 prg (k + 1) y3 y4 = f_X10_behind_5 prg k (y3 + (-1 : Int32)) (y4 + (2 : Int32)) from it_f c1 (bd_of hv3 (it_f c4 (it_t c5 (rfl)))))))) _ _ hw _ (lv_sub hl [3, 4, 1, 0] rfl)
set_option maxHeartbeats 4000000 in
set_option maxRecDepth 100000 in
theorem c_X10_behindP (l : Launch) (g : GG) (a : Nat → Nat) (text : Nat → Int32) (size : Int32) (sv : Nat → Int32) (stb : Nat → Int32) (var : Nat → Int32) (tab : Nat → Int32) (szs : Nat → Int32) (prg : Nat → Int32) (cod : Nat → Int32) (words : Int32) (has : Int32) (fpl : Int32) (pos : Int32) (fault : Int32) (plc : Int32) (tol : Nat → Int32) (tmany : Int32) (trc : Nat → Int32) (rmany : Int32) (mark : Int64) (pil : Nat → Int32) (pmany : Int32) (mks : Nat → Int32) (cts : Nat → Int32) (turns : Int32) (stop : Int32) (x2 : Int32) (hok : ok_X10_behind prg x2) : CI l g yX10_behind cX10_behind 6 (some .int) (rmN 1) (w_Mdl a g) [.ref (a 0), .ref (a 7), .int x2] (((((text, size), (sv, stb)), ((var, tab), szs)), (((prg, cod), words), ((has, fpl), pos))), ((((fault, plc), (tol, tmany)), ((trc, rmany), mark)), (((pil, pmany), mks), ((cts, turns), stop)))) (rb_X10_behindP (((((text, size), (sv, stb)), ((var, tab), szs)), (((prg, cod), words), ((has, fpl), pos))), ((((fault, plc), (tol, tmany)), ((trc, rmany), mark)), (((pil, pmany), mks), ((cts, turns), stop)))) (f_X10_behind prg x2)) := by
  refine CI.mk (by decide) (Nat.le_of_ble_eq_true rfl) ?_
  intro p e s m below meth c A ls hI hw hl
  have hx := hI.1
  have hb := hI.2.1
  obtain ⟨r, hr⟩ : ∃ r, r = rb_X10_behindP (((((text, size), (sv, stb)), ((var, tab), szs)), (((prg, cod), words), ((has, fpl), pos))), ((((fault, plc), (tol, tmany)), ((trc, rmany), mark)), (((pil, pmany), mks), ((cts, turns), stop)))) (f_X10_behind prg x2) := ⟨_, rfl⟩
  rw [← hr]
  have hl : lv_has ls 6 [(0, .ref (a 0)), (1, .ref (a 7)), (2, .int x2)] := hl
  refine lv_iconst (v := (1 : Int32)) hx hb dX10_behind_0 (by decide) ?_
  refine lv_istore_n (lv' := [(3, .int (1 : Int32)), (0, .ref (a 0)), (1, .ref (a 7)), (2, .int x2)]) hx hb dX10_behind_1 rfl hl (by decide) rfl (fun ls hl => ?_)
  refine lv_iload_n hx hb dX10_behind_2 rfl (lv_at hl 3 rfl) ?_
  refine lv_istore (lv' := [(4, .int x2), (3, .int (1 : Int32)), (0, .ref (a 0)), (1, .ref (a 7)), (2, .int x2)]) hx hb dX10_behind_3 hl (by decide) rfl (fun ls hl => ?_)
  exact lp_X10_behindP_5 l g a text size sv stb var tab szs prg cod words has fpl pos fault plc tol tmany trc rmany mark pil pmany mks cts turns stop hI 402 (1 : Int32) x2 hok r (hr.trans (congrArg (rb_X10_behindP (((((text, size), (sv, stb)), ((var, tab), szs)), (((prg, cod), words), ((has, fpl), pos))), ((((fault, plc), (tol, tmany)), ((trc, rmany), mark)), (((pil, pmany), mks), ((cts, turns), stop))))) ((show f_X10_behind prg x2 = f_X10_behind_5 prg 402 (1 : Int32) x2 from rfl)))) _ _ hw _ (lv_sub hl [2, 3, 1, 0] rfl)
def ok_X10_isSecret_13 (text : Nat → Int32) (sv : Nat → Int32) (stb : Nat → Int32) : Nat → Int32 → Int32 → Int32 → Prop
  | 0, _, _, _ => False
  | k + 1, y3, y4, y5 => if y3 ≤ y4 then (y5 = 0 ∨ y5 = 1) ∧ True else vp_in y4 400 ∧ (bdP (text y4.toNatClampNeg) (fun v6 => if v6 = (21 : Int32) then if y5 = 0 then vp_in (y4 + (1 : Int32)) 400 ∧ (vp_in (text (y4 + (1 : Int32)).toNatClampNeg) 10 ∧ (if (sv (text (y4 + (1 : Int32)).toNatClampNeg).toNatClampNeg) = 0 then bdP (y4 + (2 : Int32)) (fun v39 => ok_X10_isSecret_13 text sv stb k y3 v39 (0 : Int32)) else bdP (y4 + (2 : Int32)) (fun v42 => ok_X10_isSecret_13 text sv stb k y3 v42 (1 : Int32)))) else bdP (y4 + (2 : Int32)) (fun v33 => ok_X10_isSecret_13 text sv stb k y3 v33 (1 : Int32)) else if v6 = (35 : Int32) then if y5 = 0 then vp_in (y4 + (1 : Int32)) 400 ∧ (vp_in (text (y4 + (1 : Int32)).toNatClampNeg) 4 ∧ (if (stb (text (y4 + (1 : Int32)).toNatClampNeg).toNatClampNeg) = 0 then bdP (y4 + (2 : Int32)) (fun v25 => ok_X10_isSecret_13 text sv stb k y3 v25 (0 : Int32)) else bdP (y4 + (2 : Int32)) (fun v29 => ok_X10_isSecret_13 text sv stb k y3 v29 (1 : Int32)))) else bdP (y4 + (2 : Int32)) (fun v18 => ok_X10_isSecret_13 text sv stb k y3 v18 (1 : Int32)) else if v6 = (20 : Int32) then bdP (y4 + (2 : Int32)) (fun v10 => ok_X10_isSecret_13 text sv stb k y3 v10 y5) else bdP (y4 + (1 : Int32)) (fun v13 => ok_X10_isSecret_13 text sv stb k y3 v13 y5)))
def f_X10_isSecret_13 (text : Nat → Int32) (sv : Nat → Int32) (stb : Nat → Int32) : Nat → Int32 → Int32 → Int32 → Int32
  | 0, y3, y4, y5 => (0)
  | k + 1, y3, y4, y5 => if y3 ≤ y4 then (y5) else bd (text y4.toNatClampNeg) (fun v6 => if v6 = (21 : Int32) then if y5 = 0 then if (sv (text (y4 + (1 : Int32)).toNatClampNeg).toNatClampNeg) = 0 then bd (y4 + (2 : Int32)) (fun v39 => f_X10_isSecret_13 text sv stb k y3 v39 (0 : Int32)) else bd (y4 + (2 : Int32)) (fun v42 => f_X10_isSecret_13 text sv stb k y3 v42 (1 : Int32)) else bd (y4 + (2 : Int32)) (fun v33 => f_X10_isSecret_13 text sv stb k y3 v33 (1 : Int32)) else if v6 = (35 : Int32) then if y5 = 0 then if (stb (text (y4 + (1 : Int32)).toNatClampNeg).toNatClampNeg) = 0 then bd (y4 + (2 : Int32)) (fun v25 => f_X10_isSecret_13 text sv stb k y3 v25 (0 : Int32)) else bd (y4 + (2 : Int32)) (fun v29 => f_X10_isSecret_13 text sv stb k y3 v29 (1 : Int32)) else bd (y4 + (2 : Int32)) (fun v18 => f_X10_isSecret_13 text sv stb k y3 v18 (1 : Int32)) else if v6 = (20 : Int32) then bd (y4 + (2 : Int32)) (fun v10 => f_X10_isSecret_13 text sv stb k y3 v10 y5) else bd (y4 + (1 : Int32)) (fun v13 => f_X10_isSecret_13 text sv stb k y3 v13 y5))
def f_X10_isSecret (text : Nat → Int32) (sv : Nat → Int32) (stb : Nat → Int32) (x2 : Int32) : Int32 := bd (f_X10_behind text x2) (fun o1 => f_X10_isSecret_13 text sv stb 402 o1 x2 (0 : Int32))
def ok_X10_isSecret (text : Nat → Int32) (sv : Nat → Int32) (stb : Nat → Int32) (x2 : Int32) : Prop := ok_X10_behind text x2 ∧ (bdP (f_X10_behind text x2) (fun o1 => ok_X10_isSecret_13 text sv stb 402 o1 x2 (0 : Int32)))
def rb_X10_isSecret (σ : S_Mdl) (o : Int32) : Int32 × S_Mdl := (o, σ)
set_option maxHeartbeats 4000000 in
set_option maxRecDepth 100000 in
theorem lp_X10_isSecret_13 (l : Launch) (g : GG) (a : Nat → Nat) (text : Nat → Int32) (size : Int32) (sv : Nat → Int32) (stb : Nat → Int32) (var : Nat → Int32) (tab : Nat → Int32) (szs : Nat → Int32) (prg : Nat → Int32) (cod : Nat → Int32) (words : Int32) (has : Int32) (fpl : Int32) (pos : Int32) (fault : Int32) (plc : Int32) (tol : Nat → Int32) (tmany : Int32) (trc : Nat → Int32) (rmany : Int32) (mark : Int64) (pil : Nat → Int32) (pmany : Int32) (mks : Nat → Int32) (cts : Nat → Int32) (turns : Int32) (stop : Int32)  {p : Program} {e : Env} {s : State} {m : MethodId} {args : Array Value} {below : List Frame} {meth : Method} {c : Code} {A : Nat → Prop} (hI : InM p s m args meth c RX10 cX10_isSecret 7 (some .boolean) g A) : ∀ (k : Nat) (y3 : Int32) (y4 : Int32) (y5 : Int32), (ok_X10_isSecret_13 text sv stb k y3 y4 y5) → ∀ (r : Int32 × S_Mdl), r = rb_X10_isSecret (((((text, size), (sv, stb)), ((var, tab), szs)), (((prg, cod), words), ((has, fpl), pos))), ((((fault, plc), (tol, tmany)), ((trc, rmany), mark)), (((pil, pmany), mks), ((cts, turns), stop)))) (f_X10_isSecret_13 text sv stb k y3 y4 y5) → ∀ (H : Heap) (locs : List Loc), Wd g A s (w_Mdl a g (((((text, size), (sv, stb)), ((var, tab), szs)), (((prg, cod), words), ((has, fpl), pos))), ((((fault, plc), (tol, tmany)), ((trc, rmany), mark)), (((pil, pmany), mks), ((cts, turns), stop))))) H locs → ∀ (ls : Array Slot), lv_has ls 7 [(0, .ref (a 0)), (1, .ref (a 1)), (3, .int y3), (4, .int y4), (5, .int y5)] → W p l e (rmN 2) s m args below meth c H locs 0 0 (QI g (w_Mdl a g) A r below args s) (F0 m 13 ls []) := by
  have hx := hI.1
  have hb := hI.2.1
  intro k
  induction k with
  | zero =>
    intro y3 y4 y5 hok
    exact hok.elim
  | succ k ih =>
    intro y3 y4 y5 hok r hr H locs hw ls hl
    refine lv_iload hx hb dX10_isSecret_13 (lv_at hl 3 rfl) ?_
    refine lv_iload_n hx hb dX10_isSecret_15 rfl (lv_at hl 2 rfl) ?_
    refine lv_icmp_ge (tgt := 128) hx hb dX10_isSecret_16 (by decide) (fun c3 => ?_) (fun c3 => ?_)
    · have hok := ok_t c3 hok
      refine lv_iload hx hb dX10_isSecret_128 (lv_at hl 4 rfl) ?_
      have hq4 := hok.1
      have hok := hok.2
      exact hI.retZ (u := (((((text, size), (sv, stb)), ((var, tab), szs)), (((prg, cod), words), ((has, fpl), pos))), ((((fault, plc), (tol, tmany)), ((trc, rmany), mark)), (((pil, pmany), mks), ((cts, turns), stop))))) hw (b01 hq4) (hr.trans (congrArg (rb_X10_isSecret (((((text, size), (sv, stb)), ((var, tab), szs)), (((prg, cod), words), ((has, fpl), pos))), ((((fault, plc), (tol, tmany)), ((trc, rmany), mark)), (((pil, pmany), mks), ((cts, turns), stop))))) ((show f_X10_isSecret_13 text sv stb (k + 1) y3 y4 y5 = (y5) from it_t c3 (rfl))))) dX10_isSecret_130
    · have hok := ok_f c3 hok
      refine lv_aload_n hx hb dX10_isSecret_19 rfl (lv_at hl 1 rfl) ?_
      refine lv_iload hx hb dX10_isSecret_20 (lv_at hl 3 rfl) ?_
      have hq5 := hok.1
      have hok := hok.2
      refine hI.iald hw 1 rfl hq5 dX10_isSecret_22 ?_
      refine lv_topi (fun v6 hv6 => ?_)
      have hok := bdP_use hv6 hok
      refine lv_istore (lv' := [(6, .int v6), (0, .ref (a 0)), (1, .ref (a 1)), (3, .int y3), (4, .int y4), (5, .int y5)]) hx hb dX10_isSecret_23 hl (by decide) rfl (fun ls hl => ?_)
      refine lv_iload hx hb dX10_isSecret_25 (lv_at hl 0 rfl) ?_
      refine lv_bipush (v := (21 : Int32)) hx hb dX10_isSecret_27 (by decide) ?_
      refine lv_icmp_ne (tgt := 61) hx hb dX10_isSecret_29 (by decide) (fun c7 => ?_) (fun c7 => ?_)
      · have hok := ok_f c7 hok
        refine lv_iload hx hb dX10_isSecret_61 (lv_at hl 0 rfl) ?_
        refine lv_bipush (v := (35 : Int32)) hx hb dX10_isSecret_63 (by decide) ?_
        refine lv_icmp_ne (tgt := 94) hx hb dX10_isSecret_65 (by decide) (fun c8 => ?_) (fun c8 => ?_)
        · have hok := ok_f c8 hok
          refine lv_iload hx hb dX10_isSecret_94 (lv_at hl 4 rfl) ?_
          refine lv_iload hx hb dX10_isSecret_96 (lv_at hl 0 rfl) ?_
          refine lv_bipush (v := (20 : Int32)) hx hb dX10_isSecret_98 (by decide) ?_
          refine lv_icmp_eq (tgt := 117) hx hb dX10_isSecret_100 (by decide) (fun c9 => ?_) (fun c9 => ?_)
          · have hok := ok_t c9 hok
            refine lv_iconst (v := (2 : Int32)) hx hb dX10_isSecret_117 (by decide) ?_
            refine lv_goto (tgt := 122) hx hb dX10_isSecret_118 (by decide) ?_
            refine lv_iadd hx hb dX10_isSecret_122 ?_
            refine lv_topi (fun v10 hv10 => ?_)
            have hok := bdP_use hv10 hok
            refine lv_istore (lv' := [(4, .int v10), (6, .int v6), (0, .ref (a 0)), (1, .ref (a 1)), (3, .int y3), (5, .int y5)]) hx hb dX10_isSecret_123 hl (by decide) rfl (fun ls hl => ?_)
            refine lv_goto (tgt := 13) hx hb dX10_isSecret_125 (by decide) ?_
            exact ih y3 v10 y5 hok r (hr.trans (congrArg (rb_X10_isSecret (((((text, size), (sv, stb)), ((var, tab), szs)), (((prg, cod), words), ((has, fpl), pos))), ((((fault, plc), (tol, tmany)), ((trc, rmany), mark)), (((pil, pmany), mks), ((cts, turns), stop))))) ((show f_X10_isSecret_13 text sv stb (k + 1) y3 y4 y5 = f_X10_isSecret_13 text sv stb k y3 v10 y5 from it_f c3 (bd_of hv6 (it_f c7 (it_f c8 (it_t c9 (bd_of hv10 (rfl)))))))))) _ _ hw _ (lv_sub hl [2, 3, 4, 0, 5] rfl)
          · have hok := ok_f c9 hok
            refine lv_iload hx hb dX10_isSecret_103 (lv_at hl 0 rfl) ?_
            refine lv_bipush (v := (21 : Int32)) hx hb dX10_isSecret_105 (by decide) ?_
            refine lv_icmp_eq (tgt := 117) hx hb dX10_isSecret_107 (by decide) (fun c11 => ?_) (fun c11 => ?_)
            · exact absurd c11 c7
            refine lv_iload hx hb dX10_isSecret_110 (lv_at hl 0 rfl) ?_
            refine lv_bipush (v := (35 : Int32)) hx hb dX10_isSecret_112 (by decide) ?_
            refine lv_icmp_ne (tgt := 121) hx hb dX10_isSecret_114 (by decide) (fun c12 => ?_) (fun c12 => ?_)
            rotate_left
            · exact absurd c12 c8
            refine lv_iconst (v := (1 : Int32)) hx hb dX10_isSecret_121 (by decide) ?_
            refine lv_iadd hx hb dX10_isSecret_122 ?_
            refine lv_topi (fun v13 hv13 => ?_)
            have hok := bdP_use hv13 hok
            refine lv_istore (lv' := [(4, .int v13), (6, .int v6), (0, .ref (a 0)), (1, .ref (a 1)), (3, .int y3), (5, .int y5)]) hx hb dX10_isSecret_123 hl (by decide) rfl (fun ls hl => ?_)
            refine lv_goto (tgt := 13) hx hb dX10_isSecret_125 (by decide) ?_
            exact ih y3 v13 y5 hok r (hr.trans (congrArg (rb_X10_isSecret (((((text, size), (sv, stb)), ((var, tab), szs)), (((prg, cod), words), ((has, fpl), pos))), ((((fault, plc), (tol, tmany)), ((trc, rmany), mark)), (((pil, pmany), mks), ((cts, turns), stop))))) ((show f_X10_isSecret_13 text sv stb (k + 1) y3 y4 y5 = f_X10_isSecret_13 text sv stb k y3 v13 y5 from it_f c3 (bd_of hv6 (it_f c7 (it_f c8 (it_f c9 (bd_of hv13 (rfl)))))))))) _ _ hw _ (lv_sub hl [2, 3, 4, 0, 5] rfl)
        · have hok := ok_t c8 hok
          refine lv_iload hx hb dX10_isSecret_68 (lv_at hl 5 rfl) ?_
          refine lv_if_ne (tgt := 87) hx hb dX10_isSecret_70 (by decide) (fun c14 => ?_) (fun c14 => ?_)
          · have hok := ok_f c14 hok
            refine lv_iconst (v := (1 : Int32)) hx hb dX10_isSecret_87 (by decide) ?_
            refine lv_goto (tgt := 92) hx hb dX10_isSecret_88 (by decide) ?_
            refine lv_istore (lv' := [(5, .int (1 : Int32)), (6, .int v6), (0, .ref (a 0)), (1, .ref (a 1)), (3, .int y3), (4, .int y4)]) hx hb dX10_isSecret_92 hl (by decide) rfl (fun ls hl => ?_)
            refine lv_iload hx hb dX10_isSecret_94 (lv_at hl 5 rfl) ?_
            refine lv_iload hx hb dX10_isSecret_96 (lv_at hl 1 rfl) ?_
            refine lv_bipush (v := (20 : Int32)) hx hb dX10_isSecret_98 (by decide) ?_
            refine lv_icmp_eq (tgt := 117) hx hb dX10_isSecret_100 (by decide) (fun c15 => ?_) (fun c15 => ?_)
            · exact absurd c15 (show ¬ (v6 = (20 : Int32)) by rw [c8]; decide)
            refine lv_iload hx hb dX10_isSecret_103 (lv_at hl 1 rfl) ?_
            refine lv_bipush (v := (21 : Int32)) hx hb dX10_isSecret_105 (by decide) ?_
            refine lv_icmp_eq (tgt := 117) hx hb dX10_isSecret_107 (by decide) (fun c16 => ?_) (fun c16 => ?_)
            · exact absurd c16 c7
            refine lv_iload hx hb dX10_isSecret_110 (lv_at hl 1 rfl) ?_
            refine lv_bipush (v := (35 : Int32)) hx hb dX10_isSecret_112 (by decide) ?_
            refine lv_icmp_ne (tgt := 121) hx hb dX10_isSecret_114 (by decide) (fun c17 => ?_) (fun c17 => ?_)
            · exact absurd c8 c17
            refine lv_iconst (v := (2 : Int32)) hx hb dX10_isSecret_117 (by decide) ?_
            refine lv_goto (tgt := 122) hx hb dX10_isSecret_118 (by decide) ?_
            refine lv_iadd hx hb dX10_isSecret_122 ?_
            refine lv_topi (fun v18 hv18 => ?_)
            have hok := bdP_use hv18 hok
            refine lv_istore (lv' := [(4, .int v18), (5, .int (1 : Int32)), (6, .int v6), (0, .ref (a 0)), (1, .ref (a 1)), (3, .int y3)]) hx hb dX10_isSecret_123 hl (by decide) rfl (fun ls hl => ?_)
            refine lv_goto (tgt := 13) hx hb dX10_isSecret_125 (by decide) ?_
            exact ih y3 v18 (1 : Int32) hok r (hr.trans (congrArg (rb_X10_isSecret (((((text, size), (sv, stb)), ((var, tab), szs)), (((prg, cod), words), ((has, fpl), pos))), ((((fault, plc), (tol, tmany)), ((trc, rmany), mark)), (((pil, pmany), mks), ((cts, turns), stop))))) ((show f_X10_isSecret_13 text sv stb (k + 1) y3 y4 y5 = f_X10_isSecret_13 text sv stb k y3 v18 (1 : Int32) from it_f c3 (bd_of hv6 (it_f c7 (it_t c8 (it_f c14 (bd_of hv18 (rfl)))))))))) _ _ hw _ (lv_sub hl [3, 4, 5, 0, 1] rfl)
          · have hok := ok_t c14 hok
            refine lv_aload_n hx hb dX10_isSecret_73 rfl (lv_at hl 1 rfl) ?_
            refine hI.get (v := .ref (a 3)) hw fg_X10_17 0 rfl rfl dX10_isSecret_74 ?_
            refine lv_aload_n hx hb dX10_isSecret_77 rfl (lv_at hl 2 rfl) ?_
            refine lv_iload hx hb dX10_isSecret_78 (lv_at hl 4 rfl) ?_
            refine lv_iconst (v := (1 : Int32)) hx hb dX10_isSecret_80 (by decide) ?_
            refine lv_iadd hx hb dX10_isSecret_81 ?_
            have hq19 := hok.1
            have hok := hok.2
            refine hI.iald hw 1 rfl hq19 dX10_isSecret_82 ?_
            have hq20 := hok.1
            have hok := hok.2
            refine hI.zald hw 3 rfl hq20 dX10_isSecret_83 ?_
            refine lv_if_eq (tgt := 91) hx hb dX10_isSecret_84 (by decide) (fun c21 => ?_) (fun c21 => ?_)
            · have hok := ok_t c21 hok
              refine lv_iconst (v := (0 : Int32)) hx hb dX10_isSecret_91 (by decide) ?_
              refine lv_istore (lv' := [(5, .int (0 : Int32)), (6, .int v6), (0, .ref (a 0)), (1, .ref (a 1)), (3, .int y3), (4, .int y4)]) hx hb dX10_isSecret_92 hl (by decide) rfl (fun ls hl => ?_)
              refine lv_iload hx hb dX10_isSecret_94 (lv_at hl 5 rfl) ?_
              refine lv_iload hx hb dX10_isSecret_96 (lv_at hl 1 rfl) ?_
              refine lv_bipush (v := (20 : Int32)) hx hb dX10_isSecret_98 (by decide) ?_
              refine lv_icmp_eq (tgt := 117) hx hb dX10_isSecret_100 (by decide) (fun c22 => ?_) (fun c22 => ?_)
              · exact absurd c22 (show ¬ (v6 = (20 : Int32)) by rw [c8]; decide)
              refine lv_iload hx hb dX10_isSecret_103 (lv_at hl 1 rfl) ?_
              refine lv_bipush (v := (21 : Int32)) hx hb dX10_isSecret_105 (by decide) ?_
              refine lv_icmp_eq (tgt := 117) hx hb dX10_isSecret_107 (by decide) (fun c23 => ?_) (fun c23 => ?_)
              · exact absurd c23 c7
              refine lv_iload hx hb dX10_isSecret_110 (lv_at hl 1 rfl) ?_
              refine lv_bipush (v := (35 : Int32)) hx hb dX10_isSecret_112 (by decide) ?_
              refine lv_icmp_ne (tgt := 121) hx hb dX10_isSecret_114 (by decide) (fun c24 => ?_) (fun c24 => ?_)
              · exact absurd c8 c24
              refine lv_iconst (v := (2 : Int32)) hx hb dX10_isSecret_117 (by decide) ?_
              refine lv_goto (tgt := 122) hx hb dX10_isSecret_118 (by decide) ?_
              refine lv_iadd hx hb dX10_isSecret_122 ?_
              refine lv_topi (fun v25 hv25 => ?_)
              have hok := bdP_use hv25 hok
              refine lv_istore (lv' := [(4, .int v25), (5, .int (0 : Int32)), (6, .int v6), (0, .ref (a 0)), (1, .ref (a 1)), (3, .int y3)]) hx hb dX10_isSecret_123 hl (by decide) rfl (fun ls hl => ?_)
              refine lv_goto (tgt := 13) hx hb dX10_isSecret_125 (by decide) ?_
              exact ih y3 v25 (0 : Int32) hok r (hr.trans (congrArg (rb_X10_isSecret (((((text, size), (sv, stb)), ((var, tab), szs)), (((prg, cod), words), ((has, fpl), pos))), ((((fault, plc), (tol, tmany)), ((trc, rmany), mark)), (((pil, pmany), mks), ((cts, turns), stop))))) ((show f_X10_isSecret_13 text sv stb (k + 1) y3 y4 y5 = f_X10_isSecret_13 text sv stb k y3 v25 (0 : Int32) from it_f c3 (bd_of hv6 (it_f c7 (it_t c8 (it_t c14 (it_t c21 (bd_of hv25 (rfl))))))))))) _ _ hw _ (lv_sub hl [3, 4, 5, 0, 1] rfl)
            · have hok := ok_f c21 hok
              refine lv_iconst (v := (1 : Int32)) hx hb dX10_isSecret_87 (by decide) ?_
              refine lv_goto (tgt := 92) hx hb dX10_isSecret_88 (by decide) ?_
              refine lv_istore (lv' := [(5, .int (1 : Int32)), (6, .int v6), (0, .ref (a 0)), (1, .ref (a 1)), (3, .int y3), (4, .int y4)]) hx hb dX10_isSecret_92 hl (by decide) rfl (fun ls hl => ?_)
              refine lv_iload hx hb dX10_isSecret_94 (lv_at hl 5 rfl) ?_
              refine lv_iload hx hb dX10_isSecret_96 (lv_at hl 1 rfl) ?_
              refine lv_bipush (v := (20 : Int32)) hx hb dX10_isSecret_98 (by decide) ?_
              refine lv_icmp_eq (tgt := 117) hx hb dX10_isSecret_100 (by decide) (fun c26 => ?_) (fun c26 => ?_)
              · exact absurd c26 (show ¬ (v6 = (20 : Int32)) by rw [c8]; decide)
              refine lv_iload hx hb dX10_isSecret_103 (lv_at hl 1 rfl) ?_
              refine lv_bipush (v := (21 : Int32)) hx hb dX10_isSecret_105 (by decide) ?_
              refine lv_icmp_eq (tgt := 117) hx hb dX10_isSecret_107 (by decide) (fun c27 => ?_) (fun c27 => ?_)
              · exact absurd c27 c7
              refine lv_iload hx hb dX10_isSecret_110 (lv_at hl 1 rfl) ?_
              refine lv_bipush (v := (35 : Int32)) hx hb dX10_isSecret_112 (by decide) ?_
              refine lv_icmp_ne (tgt := 121) hx hb dX10_isSecret_114 (by decide) (fun c28 => ?_) (fun c28 => ?_)
              · exact absurd c8 c28
              refine lv_iconst (v := (2 : Int32)) hx hb dX10_isSecret_117 (by decide) ?_
              refine lv_goto (tgt := 122) hx hb dX10_isSecret_118 (by decide) ?_
              refine lv_iadd hx hb dX10_isSecret_122 ?_
              refine lv_topi (fun v29 hv29 => ?_)
              have hok := bdP_use hv29 hok
              refine lv_istore (lv' := [(4, .int v29), (5, .int (1 : Int32)), (6, .int v6), (0, .ref (a 0)), (1, .ref (a 1)), (3, .int y3)]) hx hb dX10_isSecret_123 hl (by decide) rfl (fun ls hl => ?_)
              refine lv_goto (tgt := 13) hx hb dX10_isSecret_125 (by decide) ?_
              exact ih y3 v29 (1 : Int32) hok r (hr.trans (congrArg (rb_X10_isSecret (((((text, size), (sv, stb)), ((var, tab), szs)), (((prg, cod), words), ((has, fpl), pos))), ((((fault, plc), (tol, tmany)), ((trc, rmany), mark)), (((pil, pmany), mks), ((cts, turns), stop))))) ((show f_X10_isSecret_13 text sv stb (k + 1) y3 y4 y5 = f_X10_isSecret_13 text sv stb k y3 v29 (1 : Int32) from it_f c3 (bd_of hv6 (it_f c7 (it_t c8 (it_t c14 (it_f c21 (bd_of hv29 (rfl))))))))))) _ _ hw _ (lv_sub hl [3, 4, 5, 0, 1] rfl)
      · have hok := ok_t c7 hok
        refine lv_iload hx hb dX10_isSecret_32 (lv_at hl 5 rfl) ?_
        refine lv_if_ne (tgt := 51) hx hb dX10_isSecret_34 (by decide) (fun c30 => ?_) (fun c30 => ?_)
        · have hok := ok_f c30 hok
          refine lv_iconst (v := (1 : Int32)) hx hb dX10_isSecret_51 (by decide) ?_
          refine lv_goto (tgt := 56) hx hb dX10_isSecret_52 (by decide) ?_
          refine lv_istore (lv' := [(5, .int (1 : Int32)), (6, .int v6), (0, .ref (a 0)), (1, .ref (a 1)), (3, .int y3), (4, .int y4)]) hx hb dX10_isSecret_56 hl (by decide) rfl (fun ls hl => ?_)
          refine lv_goto (tgt := 94) hx hb dX10_isSecret_58 (by decide) ?_
          refine lv_iload hx hb dX10_isSecret_94 (lv_at hl 5 rfl) ?_
          refine lv_iload hx hb dX10_isSecret_96 (lv_at hl 1 rfl) ?_
          refine lv_bipush (v := (20 : Int32)) hx hb dX10_isSecret_98 (by decide) ?_
          refine lv_icmp_eq (tgt := 117) hx hb dX10_isSecret_100 (by decide) (fun c31 => ?_) (fun c31 => ?_)
          · exact absurd c31 (show ¬ (v6 = (20 : Int32)) by rw [c7]; decide)
          refine lv_iload hx hb dX10_isSecret_103 (lv_at hl 1 rfl) ?_
          refine lv_bipush (v := (21 : Int32)) hx hb dX10_isSecret_105 (by decide) ?_
          refine lv_icmp_eq (tgt := 117) hx hb dX10_isSecret_107 (by decide) (fun c32 => ?_) (fun c32 => ?_)
          rotate_left
          · exact absurd c7 c32
          refine lv_iconst (v := (2 : Int32)) hx hb dX10_isSecret_117 (by decide) ?_
          refine lv_goto (tgt := 122) hx hb dX10_isSecret_118 (by decide) ?_
          refine lv_iadd hx hb dX10_isSecret_122 ?_
          refine lv_topi (fun v33 hv33 => ?_)
          have hok := bdP_use hv33 hok
          refine lv_istore (lv' := [(4, .int v33), (5, .int (1 : Int32)), (6, .int v6), (0, .ref (a 0)), (1, .ref (a 1)), (3, .int y3)]) hx hb dX10_isSecret_123 hl (by decide) rfl (fun ls hl => ?_)
          refine lv_goto (tgt := 13) hx hb dX10_isSecret_125 (by decide) ?_
          exact ih y3 v33 (1 : Int32) hok r (hr.trans (congrArg (rb_X10_isSecret (((((text, size), (sv, stb)), ((var, tab), szs)), (((prg, cod), words), ((has, fpl), pos))), ((((fault, plc), (tol, tmany)), ((trc, rmany), mark)), (((pil, pmany), mks), ((cts, turns), stop))))) ((show f_X10_isSecret_13 text sv stb (k + 1) y3 y4 y5 = f_X10_isSecret_13 text sv stb k y3 v33 (1 : Int32) from it_f c3 (bd_of hv6 (it_t c7 (it_f c30 (bd_of hv33 (rfl))))))))) _ _ hw _ (lv_sub hl [3, 4, 5, 0, 1] rfl)
        · have hok := ok_t c30 hok
          refine lv_aload_n hx hb dX10_isSecret_37 rfl (lv_at hl 1 rfl) ?_
          refine hI.get (v := .ref (a 2)) hw fg_X10_13 0 rfl rfl dX10_isSecret_38 ?_
          refine lv_aload_n hx hb dX10_isSecret_41 rfl (lv_at hl 2 rfl) ?_
          refine lv_iload hx hb dX10_isSecret_42 (lv_at hl 4 rfl) ?_
          refine lv_iconst (v := (1 : Int32)) hx hb dX10_isSecret_44 (by decide) ?_
          refine lv_iadd hx hb dX10_isSecret_45 ?_
          have hq34 := hok.1
          have hok := hok.2
          refine hI.iald hw 1 rfl hq34 dX10_isSecret_46 ?_
          have hq35 := hok.1
          have hok := hok.2
          refine hI.zald hw 2 rfl hq35 dX10_isSecret_47 ?_
          refine lv_if_eq (tgt := 55) hx hb dX10_isSecret_48 (by decide) (fun c36 => ?_) (fun c36 => ?_)
          · have hok := ok_t c36 hok
            refine lv_iconst (v := (0 : Int32)) hx hb dX10_isSecret_55 (by decide) ?_
            refine lv_istore (lv' := [(5, .int (0 : Int32)), (6, .int v6), (0, .ref (a 0)), (1, .ref (a 1)), (3, .int y3), (4, .int y4)]) hx hb dX10_isSecret_56 hl (by decide) rfl (fun ls hl => ?_)
            refine lv_goto (tgt := 94) hx hb dX10_isSecret_58 (by decide) ?_
            refine lv_iload hx hb dX10_isSecret_94 (lv_at hl 5 rfl) ?_
            refine lv_iload hx hb dX10_isSecret_96 (lv_at hl 1 rfl) ?_
            refine lv_bipush (v := (20 : Int32)) hx hb dX10_isSecret_98 (by decide) ?_
            refine lv_icmp_eq (tgt := 117) hx hb dX10_isSecret_100 (by decide) (fun c37 => ?_) (fun c37 => ?_)
            · exact absurd c37 (show ¬ (v6 = (20 : Int32)) by rw [c7]; decide)
            refine lv_iload hx hb dX10_isSecret_103 (lv_at hl 1 rfl) ?_
            refine lv_bipush (v := (21 : Int32)) hx hb dX10_isSecret_105 (by decide) ?_
            refine lv_icmp_eq (tgt := 117) hx hb dX10_isSecret_107 (by decide) (fun c38 => ?_) (fun c38 => ?_)
            rotate_left
            · exact absurd c7 c38
            refine lv_iconst (v := (2 : Int32)) hx hb dX10_isSecret_117 (by decide) ?_
            refine lv_goto (tgt := 122) hx hb dX10_isSecret_118 (by decide) ?_
            refine lv_iadd hx hb dX10_isSecret_122 ?_
            refine lv_topi (fun v39 hv39 => ?_)
            have hok := bdP_use hv39 hok
            refine lv_istore (lv' := [(4, .int v39), (5, .int (0 : Int32)), (6, .int v6), (0, .ref (a 0)), (1, .ref (a 1)), (3, .int y3)]) hx hb dX10_isSecret_123 hl (by decide) rfl (fun ls hl => ?_)
            refine lv_goto (tgt := 13) hx hb dX10_isSecret_125 (by decide) ?_
            exact ih y3 v39 (0 : Int32) hok r (hr.trans (congrArg (rb_X10_isSecret (((((text, size), (sv, stb)), ((var, tab), szs)), (((prg, cod), words), ((has, fpl), pos))), ((((fault, plc), (tol, tmany)), ((trc, rmany), mark)), (((pil, pmany), mks), ((cts, turns), stop))))) ((show f_X10_isSecret_13 text sv stb (k + 1) y3 y4 y5 = f_X10_isSecret_13 text sv stb k y3 v39 (0 : Int32) from it_f c3 (bd_of hv6 (it_t c7 (it_t c30 (it_t c36 (bd_of hv39 (rfl)))))))))) _ _ hw _ (lv_sub hl [3, 4, 5, 0, 1] rfl)
          · have hok := ok_f c36 hok
            refine lv_iconst (v := (1 : Int32)) hx hb dX10_isSecret_51 (by decide) ?_
            refine lv_goto (tgt := 56) hx hb dX10_isSecret_52 (by decide) ?_
            refine lv_istore (lv' := [(5, .int (1 : Int32)), (6, .int v6), (0, .ref (a 0)), (1, .ref (a 1)), (3, .int y3), (4, .int y4)]) hx hb dX10_isSecret_56 hl (by decide) rfl (fun ls hl => ?_)
            refine lv_goto (tgt := 94) hx hb dX10_isSecret_58 (by decide) ?_
            refine lv_iload hx hb dX10_isSecret_94 (lv_at hl 5 rfl) ?_
            refine lv_iload hx hb dX10_isSecret_96 (lv_at hl 1 rfl) ?_
            refine lv_bipush (v := (20 : Int32)) hx hb dX10_isSecret_98 (by decide) ?_
            refine lv_icmp_eq (tgt := 117) hx hb dX10_isSecret_100 (by decide) (fun c40 => ?_) (fun c40 => ?_)
            · exact absurd c40 (show ¬ (v6 = (20 : Int32)) by rw [c7]; decide)
            refine lv_iload hx hb dX10_isSecret_103 (lv_at hl 1 rfl) ?_
            refine lv_bipush (v := (21 : Int32)) hx hb dX10_isSecret_105 (by decide) ?_
            refine lv_icmp_eq (tgt := 117) hx hb dX10_isSecret_107 (by decide) (fun c41 => ?_) (fun c41 => ?_)
            rotate_left
            · exact absurd c7 c41
            refine lv_iconst (v := (2 : Int32)) hx hb dX10_isSecret_117 (by decide) ?_
            refine lv_goto (tgt := 122) hx hb dX10_isSecret_118 (by decide) ?_
            refine lv_iadd hx hb dX10_isSecret_122 ?_
            refine lv_topi (fun v42 hv42 => ?_)
            have hok := bdP_use hv42 hok
            refine lv_istore (lv' := [(4, .int v42), (5, .int (1 : Int32)), (6, .int v6), (0, .ref (a 0)), (1, .ref (a 1)), (3, .int y3)]) hx hb dX10_isSecret_123 hl (by decide) rfl (fun ls hl => ?_)
            refine lv_goto (tgt := 13) hx hb dX10_isSecret_125 (by decide) ?_
            exact ih y3 v42 (1 : Int32) hok r (hr.trans (congrArg (rb_X10_isSecret (((((text, size), (sv, stb)), ((var, tab), szs)), (((prg, cod), words), ((has, fpl), pos))), ((((fault, plc), (tol, tmany)), ((trc, rmany), mark)), (((pil, pmany), mks), ((cts, turns), stop))))) ((show f_X10_isSecret_13 text sv stb (k + 1) y3 y4 y5 = f_X10_isSecret_13 text sv stb k y3 v42 (1 : Int32) from it_f c3 (bd_of hv6 (it_t c7 (it_t c30 (it_f c36 (bd_of hv42 (rfl)))))))))) _ _ hw _ (lv_sub hl [3, 4, 5, 0, 1] rfl)
set_option maxHeartbeats 4000000 in
set_option maxRecDepth 100000 in
theorem c_X10_isSecret (l : Launch) (g : GG) (a : Nat → Nat) (text : Nat → Int32) (size : Int32) (sv : Nat → Int32) (stb : Nat → Int32) (var : Nat → Int32) (tab : Nat → Int32) (szs : Nat → Int32) (prg : Nat → Int32) (cod : Nat → Int32) (words : Int32) (has : Int32) (fpl : Int32) (pos : Int32) (fault : Int32) (plc : Int32) (tol : Nat → Int32) (tmany : Int32) (trc : Nat → Int32) (rmany : Int32) (mark : Int64) (pil : Nat → Int32) (pmany : Int32) (mks : Nat → Int32) (cts : Nat → Int32) (turns : Int32) (stop : Int32) (x2 : Int32) (hok : ok_X10_isSecret text sv stb x2) : CI l g yX10_isSecret cX10_isSecret 7 (some .boolean) (rmN 2) (w_Mdl a g) [.ref (a 0), .ref (a 1), .int x2] (((((text, size), (sv, stb)), ((var, tab), szs)), (((prg, cod), words), ((has, fpl), pos))), ((((fault, plc), (tol, tmany)), ((trc, rmany), mark)), (((pil, pmany), mks), ((cts, turns), stop)))) (rb_X10_isSecret (((((text, size), (sv, stb)), ((var, tab), szs)), (((prg, cod), words), ((has, fpl), pos))), ((((fault, plc), (tol, tmany)), ((trc, rmany), mark)), (((pil, pmany), mks), ((cts, turns), stop)))) (f_X10_isSecret text sv stb x2)) := by
  refine CI.mk (by decide) (Nat.le_of_ble_eq_true rfl) ?_
  intro p e s m below meth c A ls hI hw hl
  have hx := hI.1
  have hb := hI.2.1
  obtain ⟨r, hr⟩ : ∃ r, r = rb_X10_isSecret (((((text, size), (sv, stb)), ((var, tab), szs)), (((prg, cod), words), ((has, fpl), pos))), ((((fault, plc), (tol, tmany)), ((trc, rmany), mark)), (((pil, pmany), mks), ((cts, turns), stop)))) (f_X10_isSecret text sv stb x2) := ⟨_, rfl⟩
  rw [← hr]
  have hl : lv_has ls 7 [(0, .ref (a 0)), (1, .ref (a 1)), (2, .int x2)] := hl
  refine lv_aload_n hx hb dX10_isSecret_0 rfl (lv_at hl 0 rfl) ?_
  refine lv_aload_n hx hb dX10_isSecret_1 rfl (lv_at hl 1 rfl) ?_
  refine lv_iload_n hx hb dX10_isSecret_2 rfl (lv_at hl 2 rfl) ?_
  have hq2 := hok.1
  have hok := hok.2
  obtain ⟨o1, ho1⟩ : ∃ o, o = f_X10_behind text x2 := ⟨_, rfl⟩
  refine hI.callI0 (wl := w_Mdl a g) (a := (((((text, size), (sv, stb)), ((var, tab), szs)), (((prg, cod), words), ((has, fpl), pos))), ((((fault, plc), (tol, tmany)), ((trc, rmany), mark)), (((pil, pmany), mks), ((cts, turns), stop))))) (r := rb_X10_behind (((((text, size), (sv, stb)), ((var, tab), szs)), (((prg, cod), words), ((has, fpl), pos))), ((((fault, plc), (tol, tmany)), ((trc, rmany), mark)), (((pil, pmany), mks), ((cts, turns), stop)))) o1) (As := [.ref (a 1), .int x2]) (rest := []) hw (by rw [ho1]; exact c_X10_behind l g a text size sv stb var tab szs prg cod words has fpl pos fault plc tol tmany trc rmany mark pil pmany mks cts turns stop x2 hq2) ok_yX10_behind ml_X10_107 (rm_ok (by decide) (by decide)) 0 rfl rfl rfl rfl hl.1 (Nat.le_of_ble_eq_true rfl) dX10_isSecret_3 ⟨Nat.zero_le _, Nat.zero_le _⟩ (fun H locs hw => ?_)
  have hw : Wd g A s (w_Mdl a g (((((text, size), (sv, stb)), ((var, tab), szs)), (((prg, cod), words), ((has, fpl), pos))), ((((fault, plc), (tol, tmany)), ((trc, rmany), mark)), (((pil, pmany), mks), ((cts, turns), stop))))) H locs := hw
  refine W.eq (g2 := F0 m 6 ls [.int o1]) rfl ?_
  have hok := bdP_use ho1 hok
  refine lv_istore_n (lv' := [(3, .int o1), (0, .ref (a 0)), (1, .ref (a 1)), (2, .int x2)]) hx hb dX10_isSecret_6 rfl hl (by decide) rfl (fun ls hl => ?_)
  refine lv_iload_n hx hb dX10_isSecret_7 rfl (lv_at hl 3 rfl) ?_
  refine lv_istore (lv' := [(4, .int x2), (3, .int o1), (0, .ref (a 0)), (1, .ref (a 1)), (2, .int x2)]) hx hb dX10_isSecret_8 hl (by decide) rfl (fun ls hl => ?_)
  refine lv_iconst (v := (0 : Int32)) hx hb dX10_isSecret_10 (by decide) ?_
  refine lv_istore (lv' := [(5, .int (0 : Int32)), (4, .int x2), (3, .int o1), (0, .ref (a 0)), (1, .ref (a 1)), (2, .int x2)]) hx hb dX10_isSecret_11 hl (by decide) rfl (fun ls hl => ?_)
  exact lp_X10_isSecret_13 l g a text size sv stb var tab szs prg cod words has fpl pos fault plc tol tmany trc rmany mark pil pmany mks cts turns stop hI 402 o1 x2 (0 : Int32) hok r (hr.trans (congrArg (rb_X10_isSecret (((((text, size), (sv, stb)), ((var, tab), szs)), (((prg, cod), words), ((has, fpl), pos))), ((((fault, plc), (tol, tmany)), ((trc, rmany), mark)), (((pil, pmany), mks), ((cts, turns), stop))))) ((show f_X10_isSecret text sv stb x2 = f_X10_isSecret_13 text sv stb 402 o1 x2 (0 : Int32) from bd_of ho1 (rfl))))) _ _ hw _ (lv_sub hl [3, 4, 2, 1, 0] rfl)
def rb_X10_isSecretP (σ : S_Mdl) (o : Int32) : Int32 × S_Mdl := (o, σ)
set_option maxHeartbeats 4000000 in
set_option maxRecDepth 100000 in
theorem lp_X10_isSecretP_13 (l : Launch) (g : GG) (a : Nat → Nat) (text : Nat → Int32) (size : Int32) (sv : Nat → Int32) (stb : Nat → Int32) (var : Nat → Int32) (tab : Nat → Int32) (szs : Nat → Int32) (prg : Nat → Int32) (cod : Nat → Int32) (words : Int32) (has : Int32) (fpl : Int32) (pos : Int32) (fault : Int32) (plc : Int32) (tol : Nat → Int32) (tmany : Int32) (trc : Nat → Int32) (rmany : Int32) (mark : Int64) (pil : Nat → Int32) (pmany : Int32) (mks : Nat → Int32) (cts : Nat → Int32) (turns : Int32) (stop : Int32)  {p : Program} {e : Env} {s : State} {m : MethodId} {args : Array Value} {below : List Frame} {meth : Method} {c : Code} {A : Nat → Prop} (hI : InM p s m args meth c RX10 cX10_isSecret 7 (some .boolean) g A) : ∀ (k : Nat) (y3 : Int32) (y4 : Int32) (y5 : Int32), (ok_X10_isSecret_13 prg sv stb k y3 y4 y5) → ∀ (r : Int32 × S_Mdl), r = rb_X10_isSecretP (((((text, size), (sv, stb)), ((var, tab), szs)), (((prg, cod), words), ((has, fpl), pos))), ((((fault, plc), (tol, tmany)), ((trc, rmany), mark)), (((pil, pmany), mks), ((cts, turns), stop)))) (f_X10_isSecret_13 prg sv stb k y3 y4 y5) → ∀ (H : Heap) (locs : List Loc), Wd g A s (w_Mdl a g (((((text, size), (sv, stb)), ((var, tab), szs)), (((prg, cod), words), ((has, fpl), pos))), ((((fault, plc), (tol, tmany)), ((trc, rmany), mark)), (((pil, pmany), mks), ((cts, turns), stop))))) H locs → ∀ (ls : Array Slot), lv_has ls 7 [(0, .ref (a 0)), (1, .ref (a 7)), (3, .int y3), (4, .int y4), (5, .int y5)] → W p l e (rmN 2) s m args below meth c H locs 0 0 (QI g (w_Mdl a g) A r below args s) (F0 m 13 ls []) := by
  have hx := hI.1
  have hb := hI.2.1
  intro k
  induction k with
  | zero =>
    intro y3 y4 y5 hok
    exact hok.elim
  | succ k ih =>
    intro y3 y4 y5 hok r hr H locs hw ls hl
    refine lv_iload hx hb dX10_isSecret_13 (lv_at hl 3 rfl) ?_
    refine lv_iload_n hx hb dX10_isSecret_15 rfl (lv_at hl 2 rfl) ?_
    refine lv_icmp_ge (tgt := 128) hx hb dX10_isSecret_16 (by decide) (fun c3 => ?_) (fun c3 => ?_)
    · have hok := ok_t c3 hok
      refine lv_iload hx hb dX10_isSecret_128 (lv_at hl 4 rfl) ?_
      have hq4 := hok.1
      have hok := hok.2
      exact hI.retZ (u := (((((text, size), (sv, stb)), ((var, tab), szs)), (((prg, cod), words), ((has, fpl), pos))), ((((fault, plc), (tol, tmany)), ((trc, rmany), mark)), (((pil, pmany), mks), ((cts, turns), stop))))) hw (b01 hq4) (hr.trans (congrArg (rb_X10_isSecretP (((((text, size), (sv, stb)), ((var, tab), szs)), (((prg, cod), words), ((has, fpl), pos))), ((((fault, plc), (tol, tmany)), ((trc, rmany), mark)), (((pil, pmany), mks), ((cts, turns), stop))))) ((show f_X10_isSecret_13 prg sv stb (k + 1) y3 y4 y5 = (y5) from it_t c3 (rfl))))) dX10_isSecret_130
    · have hok := ok_f c3 hok
      refine lv_aload_n hx hb dX10_isSecret_19 rfl (lv_at hl 1 rfl) ?_
      refine lv_iload hx hb dX10_isSecret_20 (lv_at hl 3 rfl) ?_
      have hq5 := hok.1
      have hok := hok.2
      refine hI.iald hw 7 rfl hq5 dX10_isSecret_22 ?_
      refine lv_topi (fun v6 hv6 => ?_)
      have hok := bdP_use hv6 hok
      refine lv_istore (lv' := [(6, .int v6), (0, .ref (a 0)), (1, .ref (a 7)), (3, .int y3), (4, .int y4), (5, .int y5)]) hx hb dX10_isSecret_23 hl (by decide) rfl (fun ls hl => ?_)
      refine lv_iload hx hb dX10_isSecret_25 (lv_at hl 0 rfl) ?_
      refine lv_bipush (v := (21 : Int32)) hx hb dX10_isSecret_27 (by decide) ?_
      refine lv_icmp_ne (tgt := 61) hx hb dX10_isSecret_29 (by decide) (fun c7 => ?_) (fun c7 => ?_)
      · have hok := ok_f c7 hok
        refine lv_iload hx hb dX10_isSecret_61 (lv_at hl 0 rfl) ?_
        refine lv_bipush (v := (35 : Int32)) hx hb dX10_isSecret_63 (by decide) ?_
        refine lv_icmp_ne (tgt := 94) hx hb dX10_isSecret_65 (by decide) (fun c8 => ?_) (fun c8 => ?_)
        · have hok := ok_f c8 hok
          refine lv_iload hx hb dX10_isSecret_94 (lv_at hl 4 rfl) ?_
          refine lv_iload hx hb dX10_isSecret_96 (lv_at hl 0 rfl) ?_
          refine lv_bipush (v := (20 : Int32)) hx hb dX10_isSecret_98 (by decide) ?_
          refine lv_icmp_eq (tgt := 117) hx hb dX10_isSecret_100 (by decide) (fun c9 => ?_) (fun c9 => ?_)
          · have hok := ok_t c9 hok
            refine lv_iconst (v := (2 : Int32)) hx hb dX10_isSecret_117 (by decide) ?_
            refine lv_goto (tgt := 122) hx hb dX10_isSecret_118 (by decide) ?_
            refine lv_iadd hx hb dX10_isSecret_122 ?_
            refine lv_topi (fun v10 hv10 => ?_)
            have hok := bdP_use hv10 hok
            refine lv_istore (lv' := [(4, .int v10), (6, .int v6), (0, .ref (a 0)), (1, .ref (a 7)), (3, .int y3), (5, .int y5)]) hx hb dX10_isSecret_123 hl (by decide) rfl (fun ls hl => ?_)
            refine lv_goto (tgt := 13) hx hb dX10_isSecret_125 (by decide) ?_
            exact ih y3 v10 y5 hok r (hr.trans (congrArg (rb_X10_isSecretP (((((text, size), (sv, stb)), ((var, tab), szs)), (((prg, cod), words), ((has, fpl), pos))), ((((fault, plc), (tol, tmany)), ((trc, rmany), mark)), (((pil, pmany), mks), ((cts, turns), stop))))) ((show f_X10_isSecret_13 prg sv stb (k + 1) y3 y4 y5 = f_X10_isSecret_13 prg sv stb k y3 v10 y5 from it_f c3 (bd_of hv6 (it_f c7 (it_f c8 (it_t c9 (bd_of hv10 (rfl)))))))))) _ _ hw _ (lv_sub hl [2, 3, 4, 0, 5] rfl)
          · have hok := ok_f c9 hok
            refine lv_iload hx hb dX10_isSecret_103 (lv_at hl 0 rfl) ?_
            refine lv_bipush (v := (21 : Int32)) hx hb dX10_isSecret_105 (by decide) ?_
            refine lv_icmp_eq (tgt := 117) hx hb dX10_isSecret_107 (by decide) (fun c11 => ?_) (fun c11 => ?_)
            · exact absurd c11 c7
            refine lv_iload hx hb dX10_isSecret_110 (lv_at hl 0 rfl) ?_
            refine lv_bipush (v := (35 : Int32)) hx hb dX10_isSecret_112 (by decide) ?_
            refine lv_icmp_ne (tgt := 121) hx hb dX10_isSecret_114 (by decide) (fun c12 => ?_) (fun c12 => ?_)
            rotate_left
            · exact absurd c12 c8
            refine lv_iconst (v := (1 : Int32)) hx hb dX10_isSecret_121 (by decide) ?_
            refine lv_iadd hx hb dX10_isSecret_122 ?_
            refine lv_topi (fun v13 hv13 => ?_)
            have hok := bdP_use hv13 hok
            refine lv_istore (lv' := [(4, .int v13), (6, .int v6), (0, .ref (a 0)), (1, .ref (a 7)), (3, .int y3), (5, .int y5)]) hx hb dX10_isSecret_123 hl (by decide) rfl (fun ls hl => ?_)
            refine lv_goto (tgt := 13) hx hb dX10_isSecret_125 (by decide) ?_
            exact ih y3 v13 y5 hok r (hr.trans (congrArg (rb_X10_isSecretP (((((text, size), (sv, stb)), ((var, tab), szs)), (((prg, cod), words), ((has, fpl), pos))), ((((fault, plc), (tol, tmany)), ((trc, rmany), mark)), (((pil, pmany), mks), ((cts, turns), stop))))) ((show f_X10_isSecret_13 prg sv stb (k + 1) y3 y4 y5 = f_X10_isSecret_13 prg sv stb k y3 v13 y5 from it_f c3 (bd_of hv6 (it_f c7 (it_f c8 (it_f c9 (bd_of hv13 (rfl)))))))))) _ _ hw _ (lv_sub hl [2, 3, 4, 0, 5] rfl)
        · have hok := ok_t c8 hok
          refine lv_iload hx hb dX10_isSecret_68 (lv_at hl 5 rfl) ?_
          refine lv_if_ne (tgt := 87) hx hb dX10_isSecret_70 (by decide) (fun c14 => ?_) (fun c14 => ?_)
          · have hok := ok_f c14 hok
            refine lv_iconst (v := (1 : Int32)) hx hb dX10_isSecret_87 (by decide) ?_
            refine lv_goto (tgt := 92) hx hb dX10_isSecret_88 (by decide) ?_
            refine lv_istore (lv' := [(5, .int (1 : Int32)), (6, .int v6), (0, .ref (a 0)), (1, .ref (a 7)), (3, .int y3), (4, .int y4)]) hx hb dX10_isSecret_92 hl (by decide) rfl (fun ls hl => ?_)
            refine lv_iload hx hb dX10_isSecret_94 (lv_at hl 5 rfl) ?_
            refine lv_iload hx hb dX10_isSecret_96 (lv_at hl 1 rfl) ?_
            refine lv_bipush (v := (20 : Int32)) hx hb dX10_isSecret_98 (by decide) ?_
            refine lv_icmp_eq (tgt := 117) hx hb dX10_isSecret_100 (by decide) (fun c15 => ?_) (fun c15 => ?_)
            · exact absurd c15 (show ¬ (v6 = (20 : Int32)) by rw [c8]; decide)
            refine lv_iload hx hb dX10_isSecret_103 (lv_at hl 1 rfl) ?_
            refine lv_bipush (v := (21 : Int32)) hx hb dX10_isSecret_105 (by decide) ?_
            refine lv_icmp_eq (tgt := 117) hx hb dX10_isSecret_107 (by decide) (fun c16 => ?_) (fun c16 => ?_)
            · exact absurd c16 c7
            refine lv_iload hx hb dX10_isSecret_110 (lv_at hl 1 rfl) ?_
            refine lv_bipush (v := (35 : Int32)) hx hb dX10_isSecret_112 (by decide) ?_
            refine lv_icmp_ne (tgt := 121) hx hb dX10_isSecret_114 (by decide) (fun c17 => ?_) (fun c17 => ?_)
            · exact absurd c8 c17
            refine lv_iconst (v := (2 : Int32)) hx hb dX10_isSecret_117 (by decide) ?_
            refine lv_goto (tgt := 122) hx hb dX10_isSecret_118 (by decide) ?_
            refine lv_iadd hx hb dX10_isSecret_122 ?_
            refine lv_topi (fun v18 hv18 => ?_)
            have hok := bdP_use hv18 hok
            refine lv_istore (lv' := [(4, .int v18), (5, .int (1 : Int32)), (6, .int v6), (0, .ref (a 0)), (1, .ref (a 7)), (3, .int y3)]) hx hb dX10_isSecret_123 hl (by decide) rfl (fun ls hl => ?_)
            refine lv_goto (tgt := 13) hx hb dX10_isSecret_125 (by decide) ?_
            exact ih y3 v18 (1 : Int32) hok r (hr.trans (congrArg (rb_X10_isSecretP (((((text, size), (sv, stb)), ((var, tab), szs)), (((prg, cod), words), ((has, fpl), pos))), ((((fault, plc), (tol, tmany)), ((trc, rmany), mark)), (((pil, pmany), mks), ((cts, turns), stop))))) ((show f_X10_isSecret_13 prg sv stb (k + 1) y3 y4 y5 = f_X10_isSecret_13 prg sv stb k y3 v18 (1 : Int32) from it_f c3 (bd_of hv6 (it_f c7 (it_t c8 (it_f c14 (bd_of hv18 (rfl)))))))))) _ _ hw _ (lv_sub hl [3, 4, 5, 0, 1] rfl)
          · have hok := ok_t c14 hok
            refine lv_aload_n hx hb dX10_isSecret_73 rfl (lv_at hl 1 rfl) ?_
            refine hI.get (v := .ref (a 3)) hw fg_X10_17 0 rfl rfl dX10_isSecret_74 ?_
            refine lv_aload_n hx hb dX10_isSecret_77 rfl (lv_at hl 2 rfl) ?_
            refine lv_iload hx hb dX10_isSecret_78 (lv_at hl 4 rfl) ?_
            refine lv_iconst (v := (1 : Int32)) hx hb dX10_isSecret_80 (by decide) ?_
            refine lv_iadd hx hb dX10_isSecret_81 ?_
            have hq19 := hok.1
            have hok := hok.2
            refine hI.iald hw 7 rfl hq19 dX10_isSecret_82 ?_
            have hq20 := hok.1
            have hok := hok.2
            refine hI.zald hw 3 rfl hq20 dX10_isSecret_83 ?_
            refine lv_if_eq (tgt := 91) hx hb dX10_isSecret_84 (by decide) (fun c21 => ?_) (fun c21 => ?_)
            · have hok := ok_t c21 hok
              refine lv_iconst (v := (0 : Int32)) hx hb dX10_isSecret_91 (by decide) ?_
              refine lv_istore (lv' := [(5, .int (0 : Int32)), (6, .int v6), (0, .ref (a 0)), (1, .ref (a 7)), (3, .int y3), (4, .int y4)]) hx hb dX10_isSecret_92 hl (by decide) rfl (fun ls hl => ?_)
              refine lv_iload hx hb dX10_isSecret_94 (lv_at hl 5 rfl) ?_
              refine lv_iload hx hb dX10_isSecret_96 (lv_at hl 1 rfl) ?_
              refine lv_bipush (v := (20 : Int32)) hx hb dX10_isSecret_98 (by decide) ?_
              refine lv_icmp_eq (tgt := 117) hx hb dX10_isSecret_100 (by decide) (fun c22 => ?_) (fun c22 => ?_)
              · exact absurd c22 (show ¬ (v6 = (20 : Int32)) by rw [c8]; decide)
              refine lv_iload hx hb dX10_isSecret_103 (lv_at hl 1 rfl) ?_
              refine lv_bipush (v := (21 : Int32)) hx hb dX10_isSecret_105 (by decide) ?_
              refine lv_icmp_eq (tgt := 117) hx hb dX10_isSecret_107 (by decide) (fun c23 => ?_) (fun c23 => ?_)
              · exact absurd c23 c7
              refine lv_iload hx hb dX10_isSecret_110 (lv_at hl 1 rfl) ?_
              refine lv_bipush (v := (35 : Int32)) hx hb dX10_isSecret_112 (by decide) ?_
              refine lv_icmp_ne (tgt := 121) hx hb dX10_isSecret_114 (by decide) (fun c24 => ?_) (fun c24 => ?_)
              · exact absurd c8 c24
              refine lv_iconst (v := (2 : Int32)) hx hb dX10_isSecret_117 (by decide) ?_
              refine lv_goto (tgt := 122) hx hb dX10_isSecret_118 (by decide) ?_
              refine lv_iadd hx hb dX10_isSecret_122 ?_
              refine lv_topi (fun v25 hv25 => ?_)
              have hok := bdP_use hv25 hok
              refine lv_istore (lv' := [(4, .int v25), (5, .int (0 : Int32)), (6, .int v6), (0, .ref (a 0)), (1, .ref (a 7)), (3, .int y3)]) hx hb dX10_isSecret_123 hl (by decide) rfl (fun ls hl => ?_)
              refine lv_goto (tgt := 13) hx hb dX10_isSecret_125 (by decide) ?_
              exact ih y3 v25 (0 : Int32) hok r (hr.trans (congrArg (rb_X10_isSecretP (((((text, size), (sv, stb)), ((var, tab), szs)), (((prg, cod), words), ((has, fpl), pos))), ((((fault, plc), (tol, tmany)), ((trc, rmany), mark)), (((pil, pmany), mks), ((cts, turns), stop))))) ((show f_X10_isSecret_13 prg sv stb (k + 1) y3 y4 y5 = f_X10_isSecret_13 prg sv stb k y3 v25 (0 : Int32) from it_f c3 (bd_of hv6 (it_f c7 (it_t c8 (it_t c14 (it_t c21 (bd_of hv25 (rfl))))))))))) _ _ hw _ (lv_sub hl [3, 4, 5, 0, 1] rfl)
            · have hok := ok_f c21 hok
              refine lv_iconst (v := (1 : Int32)) hx hb dX10_isSecret_87 (by decide) ?_
              refine lv_goto (tgt := 92) hx hb dX10_isSecret_88 (by decide) ?_
              refine lv_istore (lv' := [(5, .int (1 : Int32)), (6, .int v6), (0, .ref (a 0)), (1, .ref (a 7)), (3, .int y3), (4, .int y4)]) hx hb dX10_isSecret_92 hl (by decide) rfl (fun ls hl => ?_)
              refine lv_iload hx hb dX10_isSecret_94 (lv_at hl 5 rfl) ?_
              refine lv_iload hx hb dX10_isSecret_96 (lv_at hl 1 rfl) ?_
              refine lv_bipush (v := (20 : Int32)) hx hb dX10_isSecret_98 (by decide) ?_
              refine lv_icmp_eq (tgt := 117) hx hb dX10_isSecret_100 (by decide) (fun c26 => ?_) (fun c26 => ?_)
              · exact absurd c26 (show ¬ (v6 = (20 : Int32)) by rw [c8]; decide)
              refine lv_iload hx hb dX10_isSecret_103 (lv_at hl 1 rfl) ?_
              refine lv_bipush (v := (21 : Int32)) hx hb dX10_isSecret_105 (by decide) ?_
              refine lv_icmp_eq (tgt := 117) hx hb dX10_isSecret_107 (by decide) (fun c27 => ?_) (fun c27 => ?_)
              · exact absurd c27 c7
              refine lv_iload hx hb dX10_isSecret_110 (lv_at hl 1 rfl) ?_
              refine lv_bipush (v := (35 : Int32)) hx hb dX10_isSecret_112 (by decide) ?_
              refine lv_icmp_ne (tgt := 121) hx hb dX10_isSecret_114 (by decide) (fun c28 => ?_) (fun c28 => ?_)
              · exact absurd c8 c28
              refine lv_iconst (v := (2 : Int32)) hx hb dX10_isSecret_117 (by decide) ?_
              refine lv_goto (tgt := 122) hx hb dX10_isSecret_118 (by decide) ?_
              refine lv_iadd hx hb dX10_isSecret_122 ?_
              refine lv_topi (fun v29 hv29 => ?_)
              have hok := bdP_use hv29 hok
              refine lv_istore (lv' := [(4, .int v29), (5, .int (1 : Int32)), (6, .int v6), (0, .ref (a 0)), (1, .ref (a 7)), (3, .int y3)]) hx hb dX10_isSecret_123 hl (by decide) rfl (fun ls hl => ?_)
              refine lv_goto (tgt := 13) hx hb dX10_isSecret_125 (by decide) ?_
              exact ih y3 v29 (1 : Int32) hok r (hr.trans (congrArg (rb_X10_isSecretP (((((text, size), (sv, stb)), ((var, tab), szs)), (((prg, cod), words), ((has, fpl), pos))), ((((fault, plc), (tol, tmany)), ((trc, rmany), mark)), (((pil, pmany), mks), ((cts, turns), stop))))) ((show f_X10_isSecret_13 prg sv stb (k + 1) y3 y4 y5 = f_X10_isSecret_13 prg sv stb k y3 v29 (1 : Int32) from it_f c3 (bd_of hv6 (it_f c7 (it_t c8 (it_t c14 (it_f c21 (bd_of hv29 (rfl))))))))))) _ _ hw _ (lv_sub hl [3, 4, 5, 0, 1] rfl)
      · have hok := ok_t c7 hok
        refine lv_iload hx hb dX10_isSecret_32 (lv_at hl 5 rfl) ?_
        refine lv_if_ne (tgt := 51) hx hb dX10_isSecret_34 (by decide) (fun c30 => ?_) (fun c30 => ?_)
        · have hok := ok_f c30 hok
          refine lv_iconst (v := (1 : Int32)) hx hb dX10_isSecret_51 (by decide) ?_
          refine lv_goto (tgt := 56) hx hb dX10_isSecret_52 (by decide) ?_
          refine lv_istore (lv' := [(5, .int (1 : Int32)), (6, .int v6), (0, .ref (a 0)), (1, .ref (a 7)), (3, .int y3), (4, .int y4)]) hx hb dX10_isSecret_56 hl (by decide) rfl (fun ls hl => ?_)
          refine lv_goto (tgt := 94) hx hb dX10_isSecret_58 (by decide) ?_
          refine lv_iload hx hb dX10_isSecret_94 (lv_at hl 5 rfl) ?_
          refine lv_iload hx hb dX10_isSecret_96 (lv_at hl 1 rfl) ?_
          refine lv_bipush (v := (20 : Int32)) hx hb dX10_isSecret_98 (by decide) ?_
          refine lv_icmp_eq (tgt := 117) hx hb dX10_isSecret_100 (by decide) (fun c31 => ?_) (fun c31 => ?_)
          · exact absurd c31 (show ¬ (v6 = (20 : Int32)) by rw [c7]; decide)
          refine lv_iload hx hb dX10_isSecret_103 (lv_at hl 1 rfl) ?_
          refine lv_bipush (v := (21 : Int32)) hx hb dX10_isSecret_105 (by decide) ?_
          refine lv_icmp_eq (tgt := 117) hx hb dX10_isSecret_107 (by decide) (fun c32 => ?_) (fun c32 => ?_)
          rotate_left
          · exact absurd c7 c32
          refine lv_iconst (v := (2 : Int32)) hx hb dX10_isSecret_117 (by decide) ?_
          refine lv_goto (tgt := 122) hx hb dX10_isSecret_118 (by decide) ?_
          refine lv_iadd hx hb dX10_isSecret_122 ?_
          refine lv_topi (fun v33 hv33 => ?_)
          have hok := bdP_use hv33 hok
          refine lv_istore (lv' := [(4, .int v33), (5, .int (1 : Int32)), (6, .int v6), (0, .ref (a 0)), (1, .ref (a 7)), (3, .int y3)]) hx hb dX10_isSecret_123 hl (by decide) rfl (fun ls hl => ?_)
          refine lv_goto (tgt := 13) hx hb dX10_isSecret_125 (by decide) ?_
          exact ih y3 v33 (1 : Int32) hok r (hr.trans (congrArg (rb_X10_isSecretP (((((text, size), (sv, stb)), ((var, tab), szs)), (((prg, cod), words), ((has, fpl), pos))), ((((fault, plc), (tol, tmany)), ((trc, rmany), mark)), (((pil, pmany), mks), ((cts, turns), stop))))) ((show f_X10_isSecret_13 prg sv stb (k + 1) y3 y4 y5 = f_X10_isSecret_13 prg sv stb k y3 v33 (1 : Int32) from it_f c3 (bd_of hv6 (it_t c7 (it_f c30 (bd_of hv33 (rfl))))))))) _ _ hw _ (lv_sub hl [3, 4, 5, 0, 1] rfl)
        · have hok := ok_t c30 hok
          refine lv_aload_n hx hb dX10_isSecret_37 rfl (lv_at hl 1 rfl) ?_
          refine hI.get (v := .ref (a 2)) hw fg_X10_13 0 rfl rfl dX10_isSecret_38 ?_
          refine lv_aload_n hx hb dX10_isSecret_41 rfl (lv_at hl 2 rfl) ?_
          refine lv_iload hx hb dX10_isSecret_42 (lv_at hl 4 rfl) ?_
          refine lv_iconst (v := (1 : Int32)) hx hb dX10_isSecret_44 (by decide) ?_
          refine lv_iadd hx hb dX10_isSecret_45 ?_
          have hq34 := hok.1
          have hok := hok.2
          refine hI.iald hw 7 rfl hq34 dX10_isSecret_46 ?_
          have hq35 := hok.1
          have hok := hok.2
          refine hI.zald hw 2 rfl hq35 dX10_isSecret_47 ?_
          refine lv_if_eq (tgt := 55) hx hb dX10_isSecret_48 (by decide) (fun c36 => ?_) (fun c36 => ?_)
          · have hok := ok_t c36 hok
            refine lv_iconst (v := (0 : Int32)) hx hb dX10_isSecret_55 (by decide) ?_
            refine lv_istore (lv' := [(5, .int (0 : Int32)), (6, .int v6), (0, .ref (a 0)), (1, .ref (a 7)), (3, .int y3), (4, .int y4)]) hx hb dX10_isSecret_56 hl (by decide) rfl (fun ls hl => ?_)
            refine lv_goto (tgt := 94) hx hb dX10_isSecret_58 (by decide) ?_
            refine lv_iload hx hb dX10_isSecret_94 (lv_at hl 5 rfl) ?_
            refine lv_iload hx hb dX10_isSecret_96 (lv_at hl 1 rfl) ?_
            refine lv_bipush (v := (20 : Int32)) hx hb dX10_isSecret_98 (by decide) ?_
            refine lv_icmp_eq (tgt := 117) hx hb dX10_isSecret_100 (by decide) (fun c37 => ?_) (fun c37 => ?_)
            · exact absurd c37 (show ¬ (v6 = (20 : Int32)) by rw [c7]; decide)
            refine lv_iload hx hb dX10_isSecret_103 (lv_at hl 1 rfl) ?_
            refine lv_bipush (v := (21 : Int32)) hx hb dX10_isSecret_105 (by decide) ?_
            refine lv_icmp_eq (tgt := 117) hx hb dX10_isSecret_107 (by decide) (fun c38 => ?_) (fun c38 => ?_)
            rotate_left
            · exact absurd c7 c38
            refine lv_iconst (v := (2 : Int32)) hx hb dX10_isSecret_117 (by decide) ?_
            refine lv_goto (tgt := 122) hx hb dX10_isSecret_118 (by decide) ?_
            refine lv_iadd hx hb dX10_isSecret_122 ?_
            refine lv_topi (fun v39 hv39 => ?_)
            have hok := bdP_use hv39 hok
            refine lv_istore (lv' := [(4, .int v39), (5, .int (0 : Int32)), (6, .int v6), (0, .ref (a 0)), (1, .ref (a 7)), (3, .int y3)]) hx hb dX10_isSecret_123 hl (by decide) rfl (fun ls hl => ?_)
            refine lv_goto (tgt := 13) hx hb dX10_isSecret_125 (by decide) ?_
            exact ih y3 v39 (0 : Int32) hok r (hr.trans (congrArg (rb_X10_isSecretP (((((text, size), (sv, stb)), ((var, tab), szs)), (((prg, cod), words), ((has, fpl), pos))), ((((fault, plc), (tol, tmany)), ((trc, rmany), mark)), (((pil, pmany), mks), ((cts, turns), stop))))) ((show f_X10_isSecret_13 prg sv stb (k + 1) y3 y4 y5 = f_X10_isSecret_13 prg sv stb k y3 v39 (0 : Int32) from it_f c3 (bd_of hv6 (it_t c7 (it_t c30 (it_t c36 (bd_of hv39 (rfl)))))))))) _ _ hw _ (lv_sub hl [3, 4, 5, 0, 1] rfl)
          · have hok := ok_f c36 hok
            refine lv_iconst (v := (1 : Int32)) hx hb dX10_isSecret_51 (by decide) ?_
            refine lv_goto (tgt := 56) hx hb dX10_isSecret_52 (by decide) ?_
            refine lv_istore (lv' := [(5, .int (1 : Int32)), (6, .int v6), (0, .ref (a 0)), (1, .ref (a 7)), (3, .int y3), (4, .int y4)]) hx hb dX10_isSecret_56 hl (by decide) rfl (fun ls hl => ?_)
            refine lv_goto (tgt := 94) hx hb dX10_isSecret_58 (by decide) ?_
            refine lv_iload hx hb dX10_isSecret_94 (lv_at hl 5 rfl) ?_
            refine lv_iload hx hb dX10_isSecret_96 (lv_at hl 1 rfl) ?_
            refine lv_bipush (v := (20 : Int32)) hx hb dX10_isSecret_98 (by decide) ?_
            refine lv_icmp_eq (tgt := 117) hx hb dX10_isSecret_100 (by decide) (fun c40 => ?_) (fun c40 => ?_)
            · exact absurd c40 (show ¬ (v6 = (20 : Int32)) by rw [c7]; decide)
            refine lv_iload hx hb dX10_isSecret_103 (lv_at hl 1 rfl) ?_
            refine lv_bipush (v := (21 : Int32)) hx hb dX10_isSecret_105 (by decide) ?_
            refine lv_icmp_eq (tgt := 117) hx hb dX10_isSecret_107 (by decide) (fun c41 => ?_) (fun c41 => ?_)
            rotate_left
            · exact absurd c7 c41
            refine lv_iconst (v := (2 : Int32)) hx hb dX10_isSecret_117 (by decide) ?_
            refine lv_goto (tgt := 122) hx hb dX10_isSecret_118 (by decide) ?_
            refine lv_iadd hx hb dX10_isSecret_122 ?_
            refine lv_topi (fun v42 hv42 => ?_)
            have hok := bdP_use hv42 hok
            refine lv_istore (lv' := [(4, .int v42), (5, .int (1 : Int32)), (6, .int v6), (0, .ref (a 0)), (1, .ref (a 7)), (3, .int y3)]) hx hb dX10_isSecret_123 hl (by decide) rfl (fun ls hl => ?_)
            refine lv_goto (tgt := 13) hx hb dX10_isSecret_125 (by decide) ?_
            exact ih y3 v42 (1 : Int32) hok r (hr.trans (congrArg (rb_X10_isSecretP (((((text, size), (sv, stb)), ((var, tab), szs)), (((prg, cod), words), ((has, fpl), pos))), ((((fault, plc), (tol, tmany)), ((trc, rmany), mark)), (((pil, pmany), mks), ((cts, turns), stop))))) ((show f_X10_isSecret_13 prg sv stb (k + 1) y3 y4 y5 = f_X10_isSecret_13 prg sv stb k y3 v42 (1 : Int32) from it_f c3 (bd_of hv6 (it_t c7 (it_t c30 (it_f c36 (bd_of hv42 (rfl)))))))))) _ _ hw _ (lv_sub hl [3, 4, 5, 0, 1] rfl)
set_option maxHeartbeats 4000000 in
set_option maxRecDepth 100000 in
theorem c_X10_isSecretP (l : Launch) (g : GG) (a : Nat → Nat) (text : Nat → Int32) (size : Int32) (sv : Nat → Int32) (stb : Nat → Int32) (var : Nat → Int32) (tab : Nat → Int32) (szs : Nat → Int32) (prg : Nat → Int32) (cod : Nat → Int32) (words : Int32) (has : Int32) (fpl : Int32) (pos : Int32) (fault : Int32) (plc : Int32) (tol : Nat → Int32) (tmany : Int32) (trc : Nat → Int32) (rmany : Int32) (mark : Int64) (pil : Nat → Int32) (pmany : Int32) (mks : Nat → Int32) (cts : Nat → Int32) (turns : Int32) (stop : Int32) (x2 : Int32) (hok : ok_X10_isSecret prg sv stb x2) : CI l g yX10_isSecret cX10_isSecret 7 (some .boolean) (rmN 2) (w_Mdl a g) [.ref (a 0), .ref (a 7), .int x2] (((((text, size), (sv, stb)), ((var, tab), szs)), (((prg, cod), words), ((has, fpl), pos))), ((((fault, plc), (tol, tmany)), ((trc, rmany), mark)), (((pil, pmany), mks), ((cts, turns), stop)))) (rb_X10_isSecretP (((((text, size), (sv, stb)), ((var, tab), szs)), (((prg, cod), words), ((has, fpl), pos))), ((((fault, plc), (tol, tmany)), ((trc, rmany), mark)), (((pil, pmany), mks), ((cts, turns), stop)))) (f_X10_isSecret prg sv stb x2)) := by
  refine CI.mk (by decide) (Nat.le_of_ble_eq_true rfl) ?_
  intro p e s m below meth c A ls hI hw hl
  have hx := hI.1
  have hb := hI.2.1
  obtain ⟨r, hr⟩ : ∃ r, r = rb_X10_isSecretP (((((text, size), (sv, stb)), ((var, tab), szs)), (((prg, cod), words), ((has, fpl), pos))), ((((fault, plc), (tol, tmany)), ((trc, rmany), mark)), (((pil, pmany), mks), ((cts, turns), stop)))) (f_X10_isSecret prg sv stb x2) := ⟨_, rfl⟩
  rw [← hr]
  have hl : lv_has ls 7 [(0, .ref (a 0)), (1, .ref (a 7)), (2, .int x2)] := hl
  refine lv_aload_n hx hb dX10_isSecret_0 rfl (lv_at hl 0 rfl) ?_
  refine lv_aload_n hx hb dX10_isSecret_1 rfl (lv_at hl 1 rfl) ?_
  refine lv_iload_n hx hb dX10_isSecret_2 rfl (lv_at hl 2 rfl) ?_
  have hq2 := hok.1
  have hok := hok.2
  obtain ⟨o1, ho1⟩ : ∃ o, o = f_X10_behind prg x2 := ⟨_, rfl⟩
  refine hI.callI0 (wl := w_Mdl a g) (a := (((((text, size), (sv, stb)), ((var, tab), szs)), (((prg, cod), words), ((has, fpl), pos))), ((((fault, plc), (tol, tmany)), ((trc, rmany), mark)), (((pil, pmany), mks), ((cts, turns), stop))))) (r := rb_X10_behindP (((((text, size), (sv, stb)), ((var, tab), szs)), (((prg, cod), words), ((has, fpl), pos))), ((((fault, plc), (tol, tmany)), ((trc, rmany), mark)), (((pil, pmany), mks), ((cts, turns), stop)))) o1) (As := [.ref (a 7), .int x2]) (rest := []) hw (by rw [ho1]; exact c_X10_behindP l g a text size sv stb var tab szs prg cod words has fpl pos fault plc tol tmany trc rmany mark pil pmany mks cts turns stop x2 hq2) ok_yX10_behind ml_X10_107 (rm_ok (by decide) (by decide)) 0 rfl rfl rfl rfl hl.1 (Nat.le_of_ble_eq_true rfl) dX10_isSecret_3 ⟨Nat.zero_le _, Nat.zero_le _⟩ (fun H locs hw => ?_)
  have hw : Wd g A s (w_Mdl a g (((((text, size), (sv, stb)), ((var, tab), szs)), (((prg, cod), words), ((has, fpl), pos))), ((((fault, plc), (tol, tmany)), ((trc, rmany), mark)), (((pil, pmany), mks), ((cts, turns), stop))))) H locs := hw
  refine W.eq (g2 := F0 m 6 ls [.int o1]) rfl ?_
  have hok := bdP_use ho1 hok
  refine lv_istore_n (lv' := [(3, .int o1), (0, .ref (a 0)), (1, .ref (a 7)), (2, .int x2)]) hx hb dX10_isSecret_6 rfl hl (by decide) rfl (fun ls hl => ?_)
  refine lv_iload_n hx hb dX10_isSecret_7 rfl (lv_at hl 3 rfl) ?_
  refine lv_istore (lv' := [(4, .int x2), (3, .int o1), (0, .ref (a 0)), (1, .ref (a 7)), (2, .int x2)]) hx hb dX10_isSecret_8 hl (by decide) rfl (fun ls hl => ?_)
  refine lv_iconst (v := (0 : Int32)) hx hb dX10_isSecret_10 (by decide) ?_
  refine lv_istore (lv' := [(5, .int (0 : Int32)), (4, .int x2), (3, .int o1), (0, .ref (a 0)), (1, .ref (a 7)), (2, .int x2)]) hx hb dX10_isSecret_11 hl (by decide) rfl (fun ls hl => ?_)
  exact lp_X10_isSecretP_13 l g a text size sv stb var tab szs prg cod words has fpl pos fault plc tol tmany trc rmany mark pil pmany mks cts turns stop hI 402 o1 x2 (0 : Int32) hok r (hr.trans (congrArg (rb_X10_isSecretP (((((text, size), (sv, stb)), ((var, tab), szs)), (((prg, cod), words), ((has, fpl), pos))), ((((fault, plc), (tol, tmany)), ((trc, rmany), mark)), (((pil, pmany), mks), ((cts, turns), stop))))) ((show f_X10_isSecret prg sv stb x2 = f_X10_isSecret_13 prg sv stb 402 o1 x2 (0 : Int32) from bd_of ho1 (rfl))))) _ _ hw _ (lv_sub hl [3, 4, 2, 1, 0] rfl)
