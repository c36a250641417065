def rb_X10_labelS (σ : S_Mdl) (o : Int32 × (Int32 × Int32)) : Int32 × S_Mdl := (o.1, (((((σ.1.1.1.1.1, σ.1.1.1.1.2), (σ.1.1.1.2.1, σ.1.1.1.2.2)), ((σ.1.1.2.1.1, σ.1.1.2.1.2), σ.1.1.2.2)), (((σ.1.2.1.1.1, σ.1.2.1.1.2), σ.1.2.1.2), ((σ.1.2.2.1.1, σ.1.2.2.1.2), σ.1.2.2.2))), ((((o.2.1, o.2.2), (σ.2.1.1.2.1, σ.2.1.1.2.2)), ((σ.2.1.2.1.1, σ.2.1.2.1.2), σ.2.1.2.2)), (((σ.2.2.1.1.1, σ.2.2.1.1.2), σ.2.2.1.2), ((σ.2.2.2.1.1, σ.2.2.2.1.2), σ.2.2.2.2)))))
def rb_X10_labelAll (σ : S_Mdl) (o : Int32 × (Int32 × Int32)) : Int32 × S_Mdl := (o.1, (((((σ.1.1.1.1.1, σ.1.1.1.1.2), (σ.1.1.1.2.1, σ.1.1.1.2.2)), ((σ.1.1.2.1.1, σ.1.1.2.1.2), σ.1.1.2.2)), (((σ.1.2.1.1.1, σ.1.2.1.1.2), σ.1.2.1.2), ((σ.1.2.2.1.1, σ.1.2.2.1.2), σ.1.2.2.2))), ((((o.2.1, o.2.2), (σ.2.1.1.2.1, σ.2.1.1.2.2)), ((σ.2.1.2.1.1, σ.2.1.2.1.2), σ.2.1.2.2)), (((σ.2.2.1.1.1, σ.2.2.1.1.2), σ.2.2.1.2), ((σ.2.2.2.1.1, σ.2.2.2.1.2), σ.2.2.2.2)))))
def ok_X10_labelS_208 (lA : (Nat → Int32) → (Nat → Int32) → (Nat → Int32) → Int32 → Int32 → Int32 → Int32 → (Int32 × (Int32 × Int32))) (lAk : (Nat → Int32) → (Nat → Int32) → (Nat → Int32) → Int32 → Int32 → Int32 → Int32 → Prop) (text : Nat → Int32) (sv : Nat → Int32) (stb : Nat → Int32) : Nat → Int32 → Int32 → Int32 → Int32 → Int32 → Int32 → Int32 → Int32 → Prop
  | 0, _, _, _, _, _, _, _, _ => False
  | k + 1, fault, plc, y1, y2, y3, y5, y6, y7 => if y6 ≤ y7 then if y3 = (3 : Int32) then if y2 = 0 then if y5 = 0 then lAk text sv stb fault plc y6 (0 : Int32) ∧ (bdP (lA text sv stb fault plc y6 (0 : Int32)) (fun o51 => vp_in o51.1 400 ∧ (if (text o51.1.toNatClampNeg) = (4 : Int32) then lAk text sv stb o51.2.1 o51.2.2 (o51.1 + (1 : Int32)) (0 : Int32) ∧ (bdP (lA text sv stb o51.2.1 o51.2.2 (o51.1 + (1 : Int32)) (0 : Int32)) (fun o57 => True)) else True))) else lAk text sv stb fault plc y6 (1 : Int32) ∧ (bdP (lA text sv stb fault plc y6 (1 : Int32)) (fun o59 => vp_in o59.1 400 ∧ (if (text o59.1.toNatClampNeg) = (4 : Int32) then lAk text sv stb o59.2.1 o59.2.2 (o59.1 + (1 : Int32)) (1 : Int32) ∧ (bdP (lA text sv stb o59.2.1 o59.2.2 (o59.1 + (1 : Int32)) (1 : Int32)) (fun o65 => True)) else True))) else lAk text sv stb fault plc y6 (1 : Int32) ∧ (bdP (lA text sv stb fault plc y6 (1 : Int32)) (fun o43 => vp_in o43.1 400 ∧ (if (text o43.1.toNatClampNeg) = (4 : Int32) then lAk text sv stb o43.2.1 o43.2.2 (o43.1 + (1 : Int32)) (1 : Int32) ∧ (bdP (lA text sv stb o43.2.1 o43.2.2 (o43.1 + (1 : Int32)) (1 : Int32)) (fun o48 => True)) else True))) else if y3 = (5 : Int32) then lAk text sv stb fault plc y6 y2 ∧ (bdP (lA text sv stb fault plc y6 y2) (fun o40 => True)) else True else ok_X10_labelE text sv stb fault plc y7 y2 ∧ (bdP (f_X10_labelE text sv stb fault plc y7 y2) (fun o67 => ok_X10_behind text y7 ∧ (bdP (f_X10_behind text y7) (fun o69 => ok_X10_labelS_208 lA lAk text sv stb k o67.1 o67.2 y1 y2 y3 y5 y6 o69))))
def f_X10_labelS_208 (lA : (Nat → Int32) → (Nat → Int32) → (Nat → Int32) → Int32 → Int32 → Int32 → Int32 → (Int32 × (Int32 × Int32))) (text : Nat → Int32) (sv : Nat → Int32) (stb : Nat → Int32) : Nat → Int32 → Int32 → Int32 → Int32 → Int32 → Int32 → Int32 → Int32 → (Int32 × (Int32 × Int32))
  | 0, fault, plc, y1, y2, y3, y5, y6, y7 => (0, (fault, plc))
  | k + 1, fault, plc, y1, y2, y3, y5, y6, y7 => if y6 ≤ y7 then if y3 = (3 : Int32) then if y2 = 0 then if y5 = 0 then bd (lA text sv stb fault plc y6 (0 : Int32)) (fun o51 => if (text o51.1.toNatClampNeg) = (4 : Int32) then bd (lA text sv stb o51.2.1 o51.2.2 (o51.1 + (1 : Int32)) (0 : Int32)) (fun o57 => (o57.1 + (1 : Int32), (o57.2.1, o57.2.2))) else (o51.1 + (1 : Int32), (o51.2.1, o51.2.2))) else bd (lA text sv stb fault plc y6 (1 : Int32)) (fun o59 => if (text o59.1.toNatClampNeg) = (4 : Int32) then bd (lA text sv stb o59.2.1 o59.2.2 (o59.1 + (1 : Int32)) (1 : Int32)) (fun o65 => (o65.1 + (1 : Int32), (o65.2.1, o65.2.2))) else (o59.1 + (1 : Int32), (o59.2.1, o59.2.2))) else bd (lA text sv stb fault plc y6 (1 : Int32)) (fun o43 => if (text o43.1.toNatClampNeg) = (4 : Int32) then bd (lA text sv stb o43.2.1 o43.2.2 (o43.1 + (1 : Int32)) (1 : Int32)) (fun o48 => (o48.1 + (1 : Int32), (o48.2.1, o48.2.2))) else (o43.1 + (1 : Int32), (o43.2.1, o43.2.2))) else if y3 = (5 : Int32) then bd (lA text sv stb fault plc y6 y2) (fun o40 => (o40.1 + (1 : Int32), (o40.2.1, o40.2.2))) else (y6, (fault, plc)) else bd (f_X10_labelE text sv stb fault plc y7 y2) (fun o67 => bd (f_X10_behind text y7) (fun o69 => f_X10_labelS_208 lA text sv stb k o67.1 o67.2 y1 y2 y3 y5 y6 o69))
def ok_X10_labelS_184 (lA : (Nat → Int32) → (Nat → Int32) → (Nat → Int32) → Int32 → Int32 → Int32 → Int32 → (Int32 × (Int32 × Int32))) (lAk : (Nat → Int32) → (Nat → Int32) → (Nat → Int32) → Int32 → Int32 → Int32 → Int32 → Prop) (text : Nat → Int32) (sv : Nat → Int32) (stb : Nat → Int32) (fault : Int32) (plc : Int32) (y1 : Int32) (y2 : Int32) (y3 : Int32) (y5 : Int32) (y6 : Int32) (y7 : Int32) (z0 : Int32) : Prop := if z0 = 0 then ok_X10_labelS_208 lA lAk text sv stb 402 fault plc y1 y2 y3 y5 y6 y7 else if y5 = 0 then if y2 = 0 then ok_X10_labelS_208 lA lAk text sv stb 402 fault plc y1 y2 y3 y5 y6 y7 else bdP (f_X10_fail fault plc (-14 : Int32) y1) (fun o36 => ok_X10_labelS_208 lA lAk text sv stb 402 o36.2.1 o36.2.2 y1 y2 y3 y5 y6 y7) else bdP (f_X10_fail fault plc (-14 : Int32) y1) (fun o34 => ok_X10_labelS_208 lA lAk text sv stb 402 o34.2.1 o34.2.2 y1 y2 y3 y5 y6 y7)
def f_X10_labelS_184 (lA : (Nat → Int32) → (Nat → Int32) → (Nat → Int32) → Int32 → Int32 → Int32 → Int32 → (Int32 × (Int32 × Int32))) (text : Nat → Int32) (sv : Nat → Int32) (stb : Nat → Int32) (fault : Int32) (plc : Int32) (y1 : Int32) (y2 : Int32) (y3 : Int32) (y5 : Int32) (y6 : Int32) (y7 : Int32) (z0 : Int32) : Int32 × (Int32 × Int32) := if z0 = 0 then f_X10_labelS_208 lA text sv stb 402 fault plc y1 y2 y3 y5 y6 y7 else if y5 = 0 then if y2 = 0 then f_X10_labelS_208 lA text sv stb 402 fault plc y1 y2 y3 y5 y6 y7 else bd (f_X10_fail fault plc (-14 : Int32) y1) (fun o36 => f_X10_labelS_208 lA text sv stb 402 o36.2.1 o36.2.2 y1 y2 y3 y5 y6 y7) else bd (f_X10_fail fault plc (-14 : Int32) y1) (fun o34 => f_X10_labelS_208 lA text sv stb 402 o34.2.1 o34.2.2 y1 y2 y3 y5 y6 y7)
def ok_X10_labelS_110 (lA : (Nat → Int32) → (Nat → Int32) → (Nat → Int32) → Int32 → Int32 → Int32 → Int32 → (Int32 × (Int32 × Int32))) (lAk : (Nat → Int32) → (Nat → Int32) → (Nat → Int32) → Int32 → Int32 → Int32 → Int32 → Prop) (text : Nat → Int32) (sv : Nat → Int32) (stb : Nat → Int32) (fault : Int32) (plc : Int32) (y1 : Int32) (y2 : Int32) (y3 : Int32) (y5 : Int32) (y6 : Int32) (y7 : Int32) : Prop := if y3 = (1 : Int32) then vp_in (y1 + (1 : Int32)) 400 ∧ (vp_in (text (y1 + (1 : Int32)).toNatClampNeg) 10 ∧ (if (sv (text (y1 + (1 : Int32)).toNatClampNeg).toNatClampNeg) = 0 then ok_X10_labelS_184 lA lAk text sv stb fault plc y1 y2 y3 y5 y6 y7 (1 : Int32) else ok_X10_labelS_184 lA lAk text sv stb fault plc y1 y2 y3 y5 y6 y7 (0 : Int32))) else if y3 = (2 : Int32) then vp_in (y1 + (1 : Int32)) 400 ∧ (vp_in (text (y1 + (1 : Int32)).toNatClampNeg) 4 ∧ (if (stb (text (y1 + (1 : Int32)).toNatClampNeg).toNatClampNeg) = 0 then ok_X10_labelS_184 lA lAk text sv stb fault plc y1 y2 y3 y5 y6 y7 (1 : Int32) else ok_X10_labelS_184 lA lAk text sv stb fault plc y1 y2 y3 y5 y6 y7 (0 : Int32))) else if y3 = (5 : Int32) then ok_X10_labelS_184 lA lAk text sv stb fault plc y1 y2 y3 y5 y6 y7 (1 : Int32) else if y3 = (7 : Int32) then ok_X10_labelS_184 lA lAk text sv stb fault plc y1 y2 y3 y5 y6 y7 (1 : Int32) else ok_X10_labelS_184 lA lAk text sv stb fault plc y1 y2 y3 y5 y6 y7 (0 : Int32)
def f_X10_labelS_110 (lA : (Nat → Int32) → (Nat → Int32) → (Nat → Int32) → Int32 → Int32 → Int32 → Int32 → (Int32 × (Int32 × Int32))) (text : Nat → Int32) (sv : Nat → Int32) (stb : Nat → Int32) (fault : Int32) (plc : Int32) (y1 : Int32) (y2 : Int32) (y3 : Int32) (y5 : Int32) (y6 : Int32) (y7 : Int32) : Int32 × (Int32 × Int32) := if y3 = (1 : Int32) then if (sv (text (y1 + (1 : Int32)).toNatClampNeg).toNatClampNeg) = 0 then f_X10_labelS_184 lA text sv stb fault plc y1 y2 y3 y5 y6 y7 (1 : Int32) else f_X10_labelS_184 lA text sv stb fault plc y1 y2 y3 y5 y6 y7 (0 : Int32) else if y3 = (2 : Int32) then if (stb (text (y1 + (1 : Int32)).toNatClampNeg).toNatClampNeg) = 0 then f_X10_labelS_184 lA text sv stb fault plc y1 y2 y3 y5 y6 y7 (1 : Int32) else f_X10_labelS_184 lA text sv stb fault plc y1 y2 y3 y5 y6 y7 (0 : Int32) else if y3 = (5 : Int32) then f_X10_labelS_184 lA text sv stb fault plc y1 y2 y3 y5 y6 y7 (1 : Int32) else if y3 = (7 : Int32) then f_X10_labelS_184 lA text sv stb fault plc y1 y2 y3 y5 y6 y7 (1 : Int32) else f_X10_labelS_184 lA text sv stb fault plc y1 y2 y3 y5 y6 y7 (0 : Int32)
def ok_X10_labelS_38 (lA : (Nat → Int32) → (Nat → Int32) → (Nat → Int32) → Int32 → Int32 → Int32 → Int32 → (Int32 × (Int32 × Int32))) (lAk : (Nat → Int32) → (Nat → Int32) → (Nat → Int32) → Int32 → Int32 → Int32 → Int32 → Prop) (text : Nat → Int32) (sv : Nat → Int32) (stb : Nat → Int32) (fault : Int32) (plc : Int32) (y1 : Int32) (y2 : Int32) (y3 : Int32) (z0 : Int32) : Prop := ok_X10_isSecret text sv stb z0 ∧ (bdP (f_X10_isSecret text sv stb z0) (fun o7 => ok_X10_behind text z0 ∧ (bdP (f_X10_behind text z0) (fun o9 => if y3 = (2 : Int32) then if o7 = 0 then ok_X10_isSecret text sv stb o9 ∧ (bdP (f_X10_isSecret text sv stb o9) (fun o15 => if o15 = 0 then ok_X10_behind text o9 ∧ (bdP (f_X10_behind text o9) (fun o18 => ok_X10_labelS_110 lA lAk text sv stb fault plc y1 y2 y3 (0 : Int32) o18 z0)) else ok_X10_behind text o9 ∧ (bdP (f_X10_behind text o9) (fun o20 => ok_X10_labelS_110 lA lAk text sv stb fault plc y1 y2 y3 (1 : Int32) o20 z0)))) else ok_X10_behind text o9 ∧ (bdP (f_X10_behind text o9) (fun o13 => ok_X10_labelS_110 lA lAk text sv stb fault plc y1 y2 y3 (1 : Int32) o13 z0)) else ok_X10_labelS_110 lA lAk text sv stb fault plc y1 y2 y3 o7 o9 z0))))
def f_X10_labelS_38 (lA : (Nat → Int32) → (Nat → Int32) → (Nat → Int32) → Int32 → Int32 → Int32 → Int32 → (Int32 × (Int32 × Int32))) (text : Nat → Int32) (sv : Nat → Int32) (stb : Nat → Int32) (fault : Int32) (plc : Int32) (y1 : Int32) (y2 : Int32) (y3 : Int32) (z0 : Int32) : Int32 × (Int32 × Int32) := bd (f_X10_isSecret text sv stb z0) (fun o7 => bd (f_X10_behind text z0) (fun o9 => if y3 = (2 : Int32) then if o7 = 0 then bd (f_X10_isSecret text sv stb o9) (fun o15 => if o15 = 0 then bd (f_X10_behind text o9) (fun o18 => f_X10_labelS_110 lA text sv stb fault plc y1 y2 y3 (0 : Int32) o18 z0) else bd (f_X10_behind text o9) (fun o20 => f_X10_labelS_110 lA text sv stb fault plc y1 y2 y3 (1 : Int32) o20 z0)) else bd (f_X10_behind text o9) (fun o13 => f_X10_labelS_110 lA text sv stb fault plc y1 y2 y3 (1 : Int32) o13 z0) else f_X10_labelS_110 lA text sv stb fault plc y1 y2 y3 o7 o9 z0))
def f_X10_labelS (lA : (Nat → Int32) → (Nat → Int32) → (Nat → Int32) → Int32 → Int32 → Int32 → Int32 → (Int32 × (Int32 × Int32))) (text : Nat → Int32) (sv : Nat → Int32) (stb : Nat → Int32) (fault : Int32) (plc : Int32) (x1 : Int32) (x2 : Int32) : Int32 × (Int32 × Int32) := bd (text x1.toNatClampNeg) (fun v2 => if v2 = (6 : Int32) then bd (lA text sv stb fault plc (x1 + (2 : Int32)) x2) (fun o5 => (o5.1 + (1 : Int32), (o5.2.1, o5.2.2))) else if (3 : Int32) ≤ v2 then f_X10_labelS_38 lA text sv stb fault plc x1 x2 v2 (x1 + (1 : Int32)) else f_X10_labelS_38 lA text sv stb fault plc x1 x2 v2 (x1 + (2 : Int32)))
def ok_X10_labelS (lA : (Nat → Int32) → (Nat → Int32) → (Nat → Int32) → Int32 → Int32 → Int32 → Int32 → (Int32 × (Int32 × Int32))) (lAk : (Nat → Int32) → (Nat → Int32) → (Nat → Int32) → Int32 → Int32 → Int32 → Int32 → Prop) (text : Nat → Int32) (sv : Nat → Int32) (stb : Nat → Int32) (fault : Int32) (plc : Int32) (x1 : Int32) (x2 : Int32) : Prop := vp_in x1 400 ∧ (bdP (text x1.toNatClampNeg) (fun v2 => if v2 = (6 : Int32) then lAk text sv stb fault plc (x1 + (2 : Int32)) x2 ∧ (bdP (lA text sv stb fault plc (x1 + (2 : Int32)) x2) (fun o5 => True)) else if (3 : Int32) ≤ v2 then ok_X10_labelS_38 lA lAk text sv stb fault plc x1 x2 v2 (x1 + (1 : Int32)) else ok_X10_labelS_38 lA lAk text sv stb fault plc x1 x2 v2 (x1 + (2 : Int32))))
set_option maxHeartbeats 4000000 in
set_option maxRecDepth 100000 in
theorem lp_X10_labelS_208 (l : Launch) (g : GG) (a : Nat → Nat) (text : Nat → Int32) (size : Int32) (sv : Nat → Int32) (stb : Nat → Int32) (var : Nat → Int32) (tab : Nat → Int32) (szs : Nat → Int32) (prg : Nat → Int32) (cod : Nat → Int32) (words : Int32) (has : Int32) (fpl : Int32) (pos : Int32) (fault₀ : Int32) (plc₀ : Int32) (tol : Nat → Int32) (tmany : Int32) (trc : Nat → Int32) (rmany : Int32) (mark : Int64) (pil : Nat → Int32) (pmany : Int32) (mks : Nat → Int32) (cts : Nat → Int32) (turns : Int32) (stop : Int32) (lA : (Nat → Int32) → (Nat → Int32) → (Nat → Int32) → Int32 → Int32 → Int32 → Int32 → (Int32 × (Int32 × Int32))) (lAk : (Nat → Int32) → (Nat → Int32) → (Nat → Int32) → Int32 → Int32 → Int32 → Int32 → Prop) (kM : Nat) (k_lA : Nat) (hk : k_lA + 1 ≤ kM ∧ 12 ≤ kM) (h_lA : ∀ (text : Nat → Int32) (size : Int32) (sv : Nat → Int32) (stb : Nat → Int32) (var : Nat → Int32) (tab : Nat → Int32) (szs : Nat → Int32) (prg : Nat → Int32) (cod : Nat → Int32) (words : Int32) (has : Int32) (fpl : Int32) (pos : Int32) (fault : Int32) (plc : Int32) (tol : Nat → Int32) (tmany : Int32) (trc : Nat → Int32) (rmany : Int32) (mark : Int64) (pil : Nat → Int32) (pmany : Int32) (mks : Nat → Int32) (cts : Nat → Int32) (turns : Int32) (stop : Int32) (y1 y2 : Int32), lAk text sv stb fault plc y1 y2 → CI l g yX10_labelAll cX10_labelAll 4 (some .int) (rmN k_lA) (w_Mdl a g) [.ref (a 0), .int y1, .int y2] (((((text, size), (sv, stb)), ((var, tab), szs)), (((prg, cod), words), ((has, fpl), pos))), ((((fault, plc), (tol, tmany)), ((trc, rmany), mark)), (((pil, pmany), mks), ((cts, turns), stop)))) (rb_X10_labelAll (((((text, size), (sv, stb)), ((var, tab), szs)), (((prg, cod), words), ((has, fpl), pos))), ((((fault, plc), (tol, tmany)), ((trc, rmany), mark)), (((pil, pmany), mks), ((cts, turns), stop)))) (lA text sv stb fault plc y1 y2)))  {p : Program} {e : Env} {s : State} {m : MethodId} {args : Array Value} {below : List Frame} {meth : Method} {c : Code} {A : Nat → Prop} (hI : InM p s m args meth c RX10 cX10_labelS 10 (some .int) g A) : ∀ (k : Nat) (fault : Int32) (plc : Int32) (y1 : Int32) (y2 : Int32) (y3 : Int32) (y5 : Int32) (y6 : Int32) (y7 : Int32), (ok_X10_labelS_208 lA lAk text sv stb k fault plc y1 y2 y3 y5 y6 y7) → ∀ (r : Int32 × S_Mdl), r = rb_X10_labelS (((((text, size), (sv, stb)), ((var, tab), szs)), (((prg, cod), words), ((has, fpl), pos))), ((((fault₀, plc₀), (tol, tmany)), ((trc, rmany), mark)), (((pil, pmany), mks), ((cts, turns), stop)))) (f_X10_labelS_208 lA text sv stb k fault plc y1 y2 y3 y5 y6 y7) → ∀ (H : Heap) (locs : List Loc), Wd g A s (w_Mdl a g (((((text, size), (sv, stb)), ((var, tab), szs)), (((prg, cod), words), ((has, fpl), pos))), ((((fault, plc), (tol, tmany)), ((trc, rmany), mark)), (((pil, pmany), mks), ((cts, turns), stop))))) H locs → ∀ (ls : Array Slot), lv_has ls 10 [(0, .ref (a 0)), (1, .int y1), (2, .int y2), (3, .int y3), (5, .int y5), (6, .int y6), (7, .int y7)] → W p l e (rmN kM) s m args below meth c H locs 0 0 (QI g (w_Mdl a g) A r below args s) (F0 m 208 ls []) := by
  have hx := hI.1
  have hb := hI.2.1
  intro k
  induction k with
  | zero =>
    intro fault plc y1 y2 y3 y5 y6 y7 hok
    exact hok.elim
  | succ k ih =>
    intro fault plc y1 y2 y3 y5 y6 y7 hok r hr H locs hw ls hl
    refine lv_iload hx hb dX10_labelS_208 (lv_at hl 6 rfl) ?_
    refine lv_iload hx hb dX10_labelS_210 (lv_at hl 5 rfl) ?_
    refine lv_icmp_ge (tgt := 237) hx hb dX10_labelS_212 (by decide) (fun c37 => ?_) (fun c37 => ?_)
    · have hok := ok_t c37 hok
      refine lv_iload_n hx hb dX10_labelS_237 rfl (lv_at hl 3 rfl) ?_
      refine lv_iconst (v := (3 : Int32)) hx hb dX10_labelS_238 (by decide) ?_
      refine lv_icmp_ne (tgt := 304) hx hb dX10_labelS_239 (by decide) (fun c38 => ?_) (fun c38 => ?_)
      · have hok := ok_f c38 hok
        refine lv_iload_n hx hb dX10_labelS_304 rfl (lv_at hl 3 rfl) ?_
        refine lv_iconst (v := (5 : Int32)) hx hb dX10_labelS_305 (by decide) ?_
        refine lv_icmp_ne (tgt := 321) hx hb dX10_labelS_306 (by decide) (fun c39 => ?_) (fun c39 => ?_)
        · have hok := ok_f c39 hok
          refine lv_iload hx hb dX10_labelS_321 (lv_at hl 5 rfl) ?_
          exact hI.retI (u := (((((text, size), (sv, stb)), ((var, tab), szs)), (((prg, cod), words), ((has, fpl), pos))), ((((fault, plc), (tol, tmany)), ((trc, rmany), mark)), (((pil, pmany), mks), ((cts, turns), stop))))) hw (hr.trans (congrArg (rb_X10_labelS (((((text, size), (sv, stb)), ((var, tab), szs)), (((prg, cod), words), ((has, fpl), pos))), ((((fault₀, plc₀), (tol, tmany)), ((trc, rmany), mark)), (((pil, pmany), mks), ((cts, turns), stop))))) ((show f_X10_labelS_208 lA text sv stb (k + 1) fault plc y1 y2 y3 y5 y6 y7 = (y6, (fault, plc)) from it_t c37 (it_f c38 (it_f c39 (rfl))))))) dX10_labelS_323
        · have hok := ok_t c39 hok
          refine lv_aload_n hx hb dX10_labelS_309 rfl (lv_at hl 0 rfl) ?_
          refine lv_iload hx hb dX10_labelS_310 (lv_at hl 5 rfl) ?_
          refine lv_iload_n hx hb dX10_labelS_312 rfl (lv_at hl 2 rfl) ?_
          have hq41 := hok.1
          have hok := hok.2
          obtain ⟨o40, ho40⟩ : ∃ o, o = lA text sv stb fault plc y6 y2 := ⟨_, rfl⟩
          refine hI.callI0 (wl := w_Mdl a g) (a := (((((text, size), (sv, stb)), ((var, tab), szs)), (((prg, cod), words), ((has, fpl), pos))), ((((fault, plc), (tol, tmany)), ((trc, rmany), mark)), (((pil, pmany), mks), ((cts, turns), stop))))) (r := rb_X10_labelAll (((((text, size), (sv, stb)), ((var, tab), szs)), (((prg, cod), words), ((has, fpl), pos))), ((((fault, plc), (tol, tmany)), ((trc, rmany), mark)), (((pil, pmany), mks), ((cts, turns), stop)))) o40) (As := [.int y6, .int y2]) (rest := []) hw (by rw [ho40]; exact h_lA text size sv stb var tab szs prg cod words has fpl pos fault plc tol tmany trc rmany mark pil pmany mks cts turns stop y6 y2 hq41) ok_yX10_labelAll ml_X10_119 (rm_ok (by omega) (by decide)) 0 rfl rfl rfl rfl hl.1 (Nat.le_of_ble_eq_true rfl) dX10_labelS_313 ⟨Nat.zero_le _, Nat.zero_le _⟩ (fun H locs hw => ?_)
          have hw : Wd g A s (w_Mdl a g (((((text, size), (sv, stb)), ((var, tab), szs)), (((prg, cod), words), ((has, fpl), pos))), ((((o40.2.1, o40.2.2), (tol, tmany)), ((trc, rmany), mark)), (((pil, pmany), mks), ((cts, turns), stop))))) H locs := hw
          refine W.eq (g2 := F0 m 316 ls [.int o40.1]) rfl ?_
          have hok := bdP_use ho40 hok
          refine lv_iconst (v := (1 : Int32)) hx hb dX10_labelS_316 (by decide) ?_
          refine lv_iadd hx hb dX10_labelS_317 ?_
          refine lv_goto (tgt := 323) hx hb dX10_labelS_318 (by decide) ?_
          exact hI.retI (u := (((((text, size), (sv, stb)), ((var, tab), szs)), (((prg, cod), words), ((has, fpl), pos))), ((((o40.2.1, o40.2.2), (tol, tmany)), ((trc, rmany), mark)), (((pil, pmany), mks), ((cts, turns), stop))))) hw (hr.trans (congrArg (rb_X10_labelS (((((text, size), (sv, stb)), ((var, tab), szs)), (((prg, cod), words), ((has, fpl), pos))), ((((fault₀, plc₀), (tol, tmany)), ((trc, rmany), mark)), (((pil, pmany), mks), ((cts, turns), stop))))) ((show f_X10_labelS_208 lA text sv stb (k + 1) fault plc y1 y2 y3 y5 y6 y7 = (o40.1 + (1 : Int32), (o40.2.1, o40.2.2)) from it_t c37 (it_f c38 (it_t c39 (bd_of ho40 (rfl)))))))) dX10_labelS_323
      · have hok := ok_t c38 hok
        refine lv_aload_n hx hb dX10_labelS_242 rfl (lv_at hl 0 rfl) ?_
        refine lv_iload hx hb dX10_labelS_243 (lv_at hl 5 rfl) ?_
        refine lv_iload_n hx hb dX10_labelS_245 rfl (lv_at hl 2 rfl) ?_
        refine lv_if_ne (tgt := 254) hx hb dX10_labelS_246 (by decide) (fun c42 => ?_) (fun c42 => ?_)
        · have hok := ok_f c42 hok
          refine lv_iconst (v := (1 : Int32)) hx hb dX10_labelS_254 (by decide) ?_
          refine lv_goto (tgt := 259) hx hb dX10_labelS_255 (by decide) ?_
          have hq44 := hok.1
          have hok := hok.2
          obtain ⟨o43, ho43⟩ : ∃ o, o = lA text sv stb fault plc y6 (1 : Int32) := ⟨_, rfl⟩
          refine hI.callI0 (wl := w_Mdl a g) (a := (((((text, size), (sv, stb)), ((var, tab), szs)), (((prg, cod), words), ((has, fpl), pos))), ((((fault, plc), (tol, tmany)), ((trc, rmany), mark)), (((pil, pmany), mks), ((cts, turns), stop))))) (r := rb_X10_labelAll (((((text, size), (sv, stb)), ((var, tab), szs)), (((prg, cod), words), ((has, fpl), pos))), ((((fault, plc), (tol, tmany)), ((trc, rmany), mark)), (((pil, pmany), mks), ((cts, turns), stop)))) o43) (As := [.int y6, .int (1 : Int32)]) (rest := []) hw (by rw [ho43]; exact h_lA text size sv stb var tab szs prg cod words has fpl pos fault plc tol tmany trc rmany mark pil pmany mks cts turns stop y6 (1 : Int32) hq44) ok_yX10_labelAll ml_X10_119 (rm_ok (by omega) (by decide)) 0 rfl rfl rfl rfl hl.1 (Nat.le_of_ble_eq_true rfl) dX10_labelS_259 ⟨Nat.zero_le _, Nat.zero_le _⟩ (fun H locs hw => ?_)
          have hw : Wd g A s (w_Mdl a g (((((text, size), (sv, stb)), ((var, tab), szs)), (((prg, cod), words), ((has, fpl), pos))), ((((o43.2.1, o43.2.2), (tol, tmany)), ((trc, rmany), mark)), (((pil, pmany), mks), ((cts, turns), stop))))) H locs := hw
          refine W.eq (g2 := F0 m 262 ls [.int o43.1]) rfl ?_
          have hok := bdP_use ho43 hok
          refine lv_istore (lv' := [(9, .int o43.1), (0, .ref (a 0)), (1, .int y1), (2, .int y2), (3, .int y3), (5, .int y5), (6, .int y6), (7, .int y7)]) hx hb dX10_labelS_262 hl (by decide) rfl (fun ls hl => ?_)
          refine lv_aload_n hx hb dX10_labelS_264 rfl (lv_at hl 1 rfl) ?_
          refine hI.get (v := .ref (a 1)) hw fg_X10_7 0 rfl rfl dX10_labelS_265 ?_
          refine lv_iload hx hb dX10_labelS_268 (lv_at hl 0 rfl) ?_
          have hq45 := hok.1
          have hok := hok.2
          refine hI.iald hw 1 rfl hq45 dX10_labelS_270 ?_
          refine lv_iconst (v := (4 : Int32)) hx hb dX10_labelS_271 (by decide) ?_
          refine lv_icmp_ne (tgt := 299) hx hb dX10_labelS_272 (by decide) (fun c46 => ?_) (fun c46 => ?_)
          · have hok := ok_f c46 hok
            refine lv_iload hx hb dX10_labelS_299 (lv_at hl 0 rfl) ?_
            refine lv_iconst (v := (1 : Int32)) hx hb dX10_labelS_301 (by decide) ?_
            refine lv_iadd hx hb dX10_labelS_302 ?_
            exact hI.retI (u := (((((text, size), (sv, stb)), ((var, tab), szs)), (((prg, cod), words), ((has, fpl), pos))), ((((o43.2.1, o43.2.2), (tol, tmany)), ((trc, rmany), mark)), (((pil, pmany), mks), ((cts, turns), stop))))) hw (hr.trans (congrArg (rb_X10_labelS (((((text, size), (sv, stb)), ((var, tab), szs)), (((prg, cod), words), ((has, fpl), pos))), ((((fault₀, plc₀), (tol, tmany)), ((trc, rmany), mark)), (((pil, pmany), mks), ((cts, turns), stop))))) ((show f_X10_labelS_208 lA text sv stb (k + 1) fault plc y1 y2 y3 y5 y6 y7 = (o43.1 + (1 : Int32), (o43.2.1, o43.2.2)) from it_t c37 (it_t c38 (it_f c42 (bd_of ho43 (it_f c46 (rfl))))))))) dX10_labelS_303
          · have hok := ok_t c46 hok
            refine lv_aload_n hx hb dX10_labelS_275 rfl (lv_at hl 1 rfl) ?_
            refine lv_iload hx hb dX10_labelS_276 (lv_at hl 0 rfl) ?_
            refine lv_iconst (v := (1 : Int32)) hx hb dX10_labelS_278 (by decide) ?_
            refine lv_iadd hx hb dX10_labelS_279 ?_
            refine lv_iload_n hx hb dX10_labelS_280 rfl (lv_at hl 3 rfl) ?_
            refine lv_if_ne (tgt := 289) hx hb dX10_labelS_281 (by decide) (fun c47 => ?_) (fun c47 => ?_)
            rotate_left
            · exact absurd c47 c42
            refine lv_iconst (v := (1 : Int32)) hx hb dX10_labelS_289 (by decide) ?_
            refine lv_goto (tgt := 294) hx hb dX10_labelS_290 (by decide) ?_
            have hq49 := hok.1
            have hok := hok.2
            obtain ⟨o48, ho48⟩ : ∃ o, o = lA text sv stb o43.2.1 o43.2.2 (o43.1 + (1 : Int32)) (1 : Int32) := ⟨_, rfl⟩
            refine hI.callI0 (wl := w_Mdl a g) (a := (((((text, size), (sv, stb)), ((var, tab), szs)), (((prg, cod), words), ((has, fpl), pos))), ((((o43.2.1, o43.2.2), (tol, tmany)), ((trc, rmany), mark)), (((pil, pmany), mks), ((cts, turns), stop))))) (r := rb_X10_labelAll (((((text, size), (sv, stb)), ((var, tab), szs)), (((prg, cod), words), ((has, fpl), pos))), ((((o43.2.1, o43.2.2), (tol, tmany)), ((trc, rmany), mark)), (((pil, pmany), mks), ((cts, turns), stop)))) o48) (As := [.int (o43.1 + (1 : Int32)), .int (1 : Int32)]) (rest := []) hw (by rw [ho48]; exact h_lA text size sv stb var tab szs prg cod words has fpl pos o43.2.1 o43.2.2 tol tmany trc rmany mark pil pmany mks cts turns stop (o43.1 + (1 : Int32)) (1 : Int32) hq49) ok_yX10_labelAll ml_X10_119 (rm_ok (by omega) (by decide)) 0 rfl rfl rfl rfl hl.1 (Nat.le_of_ble_eq_true rfl) dX10_labelS_294 ⟨Nat.zero_le _, Nat.zero_le _⟩ (fun H locs hw => ?_)
            have hw : Wd g A s (w_Mdl a g (((((text, size), (sv, stb)), ((var, tab), szs)), (((prg, cod), words), ((has, fpl), pos))), ((((o48.2.1, o48.2.2), (tol, tmany)), ((trc, rmany), mark)), (((pil, pmany), mks), ((cts, turns), stop))))) H locs := hw
            refine W.eq (g2 := F0 m 297 ls [.int o48.1]) rfl ?_
            have hok := bdP_use ho48 hok
            refine lv_istore (lv' := [(9, .int o48.1), (0, .ref (a 0)), (1, .int y1), (2, .int y2), (3, .int y3), (5, .int y5), (6, .int y6), (7, .int y7)]) hx hb dX10_labelS_297 hl (by decide) rfl (fun ls hl => ?_)
            refine lv_iload hx hb dX10_labelS_299 (lv_at hl 0 rfl) ?_
            refine lv_iconst (v := (1 : Int32)) hx hb dX10_labelS_301 (by decide) ?_
            refine lv_iadd hx hb dX10_labelS_302 ?_
            exact hI.retI (u := (((((text, size), (sv, stb)), ((var, tab), szs)), (((prg, cod), words), ((has, fpl), pos))), ((((o48.2.1, o48.2.2), (tol, tmany)), ((trc, rmany), mark)), (((pil, pmany), mks), ((cts, turns), stop))))) hw (hr.trans (congrArg (rb_X10_labelS (((((text, size), (sv, stb)), ((var, tab), szs)), (((prg, cod), words), ((has, fpl), pos))), ((((fault₀, plc₀), (tol, tmany)), ((trc, rmany), mark)), (((pil, pmany), mks), ((cts, turns), stop))))) ((show f_X10_labelS_208 lA text sv stb (k + 1) fault plc y1 y2 y3 y5 y6 y7 = (o48.1 + (1 : Int32), (o48.2.1, o48.2.2)) from it_t c37 (it_t c38 (it_f c42 (bd_of ho43 (it_t c46 (bd_of ho48 (rfl)))))))))) dX10_labelS_303
        · have hok := ok_t c42 hok
          refine lv_iload hx hb dX10_labelS_249 (lv_at hl 4 rfl) ?_
          refine lv_if_eq (tgt := 258) hx hb dX10_labelS_251 (by decide) (fun c50 => ?_) (fun c50 => ?_)
          · have hok := ok_t c50 hok
            refine lv_iconst (v := (0 : Int32)) hx hb dX10_labelS_258 (by decide) ?_
            have hq52 := hok.1
            have hok := hok.2
            obtain ⟨o51, ho51⟩ : ∃ o, o = lA text sv stb fault plc y6 (0 : Int32) := ⟨_, rfl⟩
            refine hI.callI0 (wl := w_Mdl a g) (a := (((((text, size), (sv, stb)), ((var, tab), szs)), (((prg, cod), words), ((has, fpl), pos))), ((((fault, plc), (tol, tmany)), ((trc, rmany), mark)), (((pil, pmany), mks), ((cts, turns), stop))))) (r := rb_X10_labelAll (((((text, size), (sv, stb)), ((var, tab), szs)), (((prg, cod), words), ((has, fpl), pos))), ((((fault, plc), (tol, tmany)), ((trc, rmany), mark)), (((pil, pmany), mks), ((cts, turns), stop)))) o51) (As := [.int y6, .int (0 : Int32)]) (rest := []) hw (by rw [ho51]; exact h_lA text size sv stb var tab szs prg cod words has fpl pos fault plc tol tmany trc rmany mark pil pmany mks cts turns stop y6 (0 : Int32) hq52) ok_yX10_labelAll ml_X10_119 (rm_ok (by omega) (by decide)) 0 rfl rfl rfl rfl hl.1 (Nat.le_of_ble_eq_true rfl) dX10_labelS_259 ⟨Nat.zero_le _, Nat.zero_le _⟩ (fun H locs hw => ?_)
            have hw : Wd g A s (w_Mdl a g (((((text, size), (sv, stb)), ((var, tab), szs)), (((prg, cod), words), ((has, fpl), pos))), ((((o51.2.1, o51.2.2), (tol, tmany)), ((trc, rmany), mark)), (((pil, pmany), mks), ((cts, turns), stop))))) H locs := hw
            refine W.eq (g2 := F0 m 262 ls [.int o51.1]) rfl ?_
            have hok := bdP_use ho51 hok
            refine lv_istore (lv' := [(9, .int o51.1), (0, .ref (a 0)), (1, .int y1), (2, .int y2), (3, .int y3), (5, .int y5), (6, .int y6), (7, .int y7)]) hx hb dX10_labelS_262 hl (by decide) rfl (fun ls hl => ?_)
            refine lv_aload_n hx hb dX10_labelS_264 rfl (lv_at hl 1 rfl) ?_
            refine hI.get (v := .ref (a 1)) hw fg_X10_7 0 rfl rfl dX10_labelS_265 ?_
            refine lv_iload hx hb dX10_labelS_268 (lv_at hl 0 rfl) ?_
            have hq53 := hok.1
            have hok := hok.2
            refine hI.iald hw 1 rfl hq53 dX10_labelS_270 ?_
            refine lv_iconst (v := (4 : Int32)) hx hb dX10_labelS_271 (by decide) ?_
            refine lv_icmp_ne (tgt := 299) hx hb dX10_labelS_272 (by decide) (fun c54 => ?_) (fun c54 => ?_)
            · have hok := ok_f c54 hok
              refine lv_iload hx hb dX10_labelS_299 (lv_at hl 0 rfl) ?_
              refine lv_iconst (v := (1 : Int32)) hx hb dX10_labelS_301 (by decide) ?_
              refine lv_iadd hx hb dX10_labelS_302 ?_
              exact hI.retI (u := (((((text, size), (sv, stb)), ((var, tab), szs)), (((prg, cod), words), ((has, fpl), pos))), ((((o51.2.1, o51.2.2), (tol, tmany)), ((trc, rmany), mark)), (((pil, pmany), mks), ((cts, turns), stop))))) hw (hr.trans (congrArg (rb_X10_labelS (((((text, size), (sv, stb)), ((var, tab), szs)), (((prg, cod), words), ((has, fpl), pos))), ((((fault₀, plc₀), (tol, tmany)), ((trc, rmany), mark)), (((pil, pmany), mks), ((cts, turns), stop))))) ((show f_X10_labelS_208 lA text sv stb (k + 1) fault plc y1 y2 y3 y5 y6 y7 = (o51.1 + (1 : Int32), (o51.2.1, o51.2.2)) from it_t c37 (it_t c38 (it_t c42 (it_t c50 (bd_of ho51 (it_f c54 (rfl)))))))))) dX10_labelS_303
            · have hok := ok_t c54 hok
              refine lv_aload_n hx hb dX10_labelS_275 rfl (lv_at hl 1 rfl) ?_
              refine lv_iload hx hb dX10_labelS_276 (lv_at hl 0 rfl) ?_
              refine lv_iconst (v := (1 : Int32)) hx hb dX10_labelS_278 (by decide) ?_
              refine lv_iadd hx hb dX10_labelS_279 ?_
              refine lv_iload_n hx hb dX10_labelS_280 rfl (lv_at hl 3 rfl) ?_
              refine lv_if_ne (tgt := 289) hx hb dX10_labelS_281 (by decide) (fun c55 => ?_) (fun c55 => ?_)
              · exact absurd c42 c55
              refine lv_iload hx hb dX10_labelS_284 (lv_at hl 5 rfl) ?_
              refine lv_if_eq (tgt := 293) hx hb dX10_labelS_286 (by decide) (fun c56 => ?_) (fun c56 => ?_)
              rotate_left
              · exact absurd c50 c56
              refine lv_iconst (v := (0 : Int32)) hx hb dX10_labelS_293 (by decide) ?_
              have hq58 := hok.1
              have hok := hok.2
              obtain ⟨o57, ho57⟩ : ∃ o, o = lA text sv stb o51.2.1 o51.2.2 (o51.1 + (1 : Int32)) (0 : Int32) := ⟨_, rfl⟩
              refine hI.callI0 (wl := w_Mdl a g) (a := (((((text, size), (sv, stb)), ((var, tab), szs)), (((prg, cod), words), ((has, fpl), pos))), ((((o51.2.1, o51.2.2), (tol, tmany)), ((trc, rmany), mark)), (((pil, pmany), mks), ((cts, turns), stop))))) (r := rb_X10_labelAll (((((text, size), (sv, stb)), ((var, tab), szs)), (((prg, cod), words), ((has, fpl), pos))), ((((o51.2.1, o51.2.2), (tol, tmany)), ((trc, rmany), mark)), (((pil, pmany), mks), ((cts, turns), stop)))) o57) (As := [.int (o51.1 + (1 : Int32)), .int (0 : Int32)]) (rest := []) hw (by rw [ho57]; exact h_lA text size sv stb var tab szs prg cod words has fpl pos o51.2.1 o51.2.2 tol tmany trc rmany mark pil pmany mks cts turns stop (o51.1 + (1 : Int32)) (0 : Int32) hq58) ok_yX10_labelAll ml_X10_119 (rm_ok (by omega) (by decide)) 0 rfl rfl rfl rfl hl.1 (Nat.le_of_ble_eq_true rfl) dX10_labelS_294 ⟨Nat.zero_le _, Nat.zero_le _⟩ (fun H locs hw => ?_)
              have hw : Wd g A s (w_Mdl a g (((((text, size), (sv, stb)), ((var, tab), szs)), (((prg, cod), words), ((has, fpl), pos))), ((((o57.2.1, o57.2.2), (tol, tmany)), ((trc, rmany), mark)), (((pil, pmany), mks), ((cts, turns), stop))))) H locs := hw
              refine W.eq (g2 := F0 m 297 ls [.int o57.1]) rfl ?_
              have hok := bdP_use ho57 hok
              refine lv_istore (lv' := [(9, .int o57.1), (0, .ref (a 0)), (1, .int y1), (2, .int y2), (3, .int y3), (5, .int y5), (6, .int y6), (7, .int y7)]) hx hb dX10_labelS_297 hl (by decide) rfl (fun ls hl => ?_)
              refine lv_iload hx hb dX10_labelS_299 (lv_at hl 0 rfl) ?_
              refine lv_iconst (v := (1 : Int32)) hx hb dX10_labelS_301 (by decide) ?_
              refine lv_iadd hx hb dX10_labelS_302 ?_
              exact hI.retI (u := (((((text, size), (sv, stb)), ((var, tab), szs)), (((prg, cod), words), ((has, fpl), pos))), ((((o57.2.1, o57.2.2), (tol, tmany)), ((trc, rmany), mark)), (((pil, pmany), mks), ((cts, turns), stop))))) hw (hr.trans (congrArg (rb_X10_labelS (((((text, size), (sv, stb)), ((var, tab), szs)), (((prg, cod), words), ((has, fpl), pos))), ((((fault₀, plc₀), (tol, tmany)), ((trc, rmany), mark)), (((pil, pmany), mks), ((cts, turns), stop))))) ((show f_X10_labelS_208 lA text sv stb (k + 1) fault plc y1 y2 y3 y5 y6 y7 = (o57.1 + (1 : Int32), (o57.2.1, o57.2.2)) from it_t c37 (it_t c38 (it_t c42 (it_t c50 (bd_of ho51 (it_t c54 (bd_of ho57 (rfl))))))))))) dX10_labelS_303
          · have hok := ok_f c50 hok
            refine lv_iconst (v := (1 : Int32)) hx hb dX10_labelS_254 (by decide) ?_
            refine lv_goto (tgt := 259) hx hb dX10_labelS_255 (by decide) ?_
            have hq60 := hok.1
            have hok := hok.2
            obtain ⟨o59, ho59⟩ : ∃ o, o = lA text sv stb fault plc y6 (1 : Int32) := ⟨_, rfl⟩
            refine hI.callI0 (wl := w_Mdl a g) (a := (((((text, size), (sv, stb)), ((var, tab), szs)), (((prg, cod), words), ((has, fpl), pos))), ((((fault, plc), (tol, tmany)), ((trc, rmany), mark)), (((pil, pmany), mks), ((cts, turns), stop))))) (r := rb_X10_labelAll (((((text, size), (sv, stb)), ((var, tab), szs)), (((prg, cod), words), ((has, fpl), pos))), ((((fault, plc), (tol, tmany)), ((trc, rmany), mark)), (((pil, pmany), mks), ((cts, turns), stop)))) o59) (As := [.int y6, .int (1 : Int32)]) (rest := []) hw (by rw [ho59]; exact h_lA text size sv stb var tab szs prg cod words has fpl pos fault plc tol tmany trc rmany mark pil pmany mks cts turns stop y6 (1 : Int32) hq60) ok_yX10_labelAll ml_X10_119 (rm_ok (by omega) (by decide)) 0 rfl rfl rfl rfl hl.1 (Nat.le_of_ble_eq_true rfl) dX10_labelS_259 ⟨Nat.zero_le _, Nat.zero_le _⟩ (fun H locs hw => ?_)
            have hw : Wd g A s (w_Mdl a g (((((text, size), (sv, stb)), ((var, tab), szs)), (((prg, cod), words), ((has, fpl), pos))), ((((o59.2.1, o59.2.2), (tol, tmany)), ((trc, rmany), mark)), (((pil, pmany), mks), ((cts, turns), stop))))) H locs := hw
            refine W.eq (g2 := F0 m 262 ls [.int o59.1]) rfl ?_
            have hok := bdP_use ho59 hok
            refine lv_istore (lv' := [(9, .int o59.1), (0, .ref (a 0)), (1, .int y1), (2, .int y2), (3, .int y3), (5, .int y5), (6, .int y6), (7, .int y7)]) hx hb dX10_labelS_262 hl (by decide) rfl (fun ls hl => ?_)
            refine lv_aload_n hx hb dX10_labelS_264 rfl (lv_at hl 1 rfl) ?_
            refine hI.get (v := .ref (a 1)) hw fg_X10_7 0 rfl rfl dX10_labelS_265 ?_
            refine lv_iload hx hb dX10_labelS_268 (lv_at hl 0 rfl) ?_
            have hq61 := hok.1
            have hok := hok.2
            refine hI.iald hw 1 rfl hq61 dX10_labelS_270 ?_
            refine lv_iconst (v := (4 : Int32)) hx hb dX10_labelS_271 (by decide) ?_
            refine lv_icmp_ne (tgt := 299) hx hb dX10_labelS_272 (by decide) (fun c62 => ?_) (fun c62 => ?_)
            · have hok := ok_f c62 hok
              refine lv_iload hx hb dX10_labelS_299 (lv_at hl 0 rfl) ?_
              refine lv_iconst (v := (1 : Int32)) hx hb dX10_labelS_301 (by decide) ?_
              refine lv_iadd hx hb dX10_labelS_302 ?_
              exact hI.retI (u := (((((text, size), (sv, stb)), ((var, tab), szs)), (((prg, cod), words), ((has, fpl), pos))), ((((o59.2.1, o59.2.2), (tol, tmany)), ((trc, rmany), mark)), (((pil, pmany), mks), ((cts, turns), stop))))) hw (hr.trans (congrArg (rb_X10_labelS (((((text, size), (sv, stb)), ((var, tab), szs)), (((prg, cod), words), ((has, fpl), pos))), ((((fault₀, plc₀), (tol, tmany)), ((trc, rmany), mark)), (((pil, pmany), mks), ((cts, turns), stop))))) ((show f_X10_labelS_208 lA text sv stb (k + 1) fault plc y1 y2 y3 y5 y6 y7 = (o59.1 + (1 : Int32), (o59.2.1, o59.2.2)) from it_t c37 (it_t c38 (it_t c42 (it_f c50 (bd_of ho59 (it_f c62 (rfl)))))))))) dX10_labelS_303
            · have hok := ok_t c62 hok
              refine lv_aload_n hx hb dX10_labelS_275 rfl (lv_at hl 1 rfl) ?_
              refine lv_iload hx hb dX10_labelS_276 (lv_at hl 0 rfl) ?_
              refine lv_iconst (v := (1 : Int32)) hx hb dX10_labelS_278 (by decide) ?_
              refine lv_iadd hx hb dX10_labelS_279 ?_
              refine lv_iload_n hx hb dX10_labelS_280 rfl (lv_at hl 3 rfl) ?_
              refine lv_if_ne (tgt := 289) hx hb dX10_labelS_281 (by decide) (fun c63 => ?_) (fun c63 => ?_)
              · exact absurd c42 c63
              refine lv_iload hx hb dX10_labelS_284 (lv_at hl 5 rfl) ?_
              refine lv_if_eq (tgt := 293) hx hb dX10_labelS_286 (by decide) (fun c64 => ?_) (fun c64 => ?_)
              · exact absurd c64 c50
              refine lv_iconst (v := (1 : Int32)) hx hb dX10_labelS_289 (by decide) ?_
              refine lv_goto (tgt := 294) hx hb dX10_labelS_290 (by decide) ?_
              have hq66 := hok.1
              have hok := hok.2
              obtain ⟨o65, ho65⟩ : ∃ o, o = lA text sv stb o59.2.1 o59.2.2 (o59.1 + (1 : Int32)) (1 : Int32) := ⟨_, rfl⟩
              refine hI.callI0 (wl := w_Mdl a g) (a := (((((text, size), (sv, stb)), ((var, tab), szs)), (((prg, cod), words), ((has, fpl), pos))), ((((o59.2.1, o59.2.2), (tol, tmany)), ((trc, rmany), mark)), (((pil, pmany), mks), ((cts, turns), stop))))) (r := rb_X10_labelAll (((((text, size), (sv, stb)), ((var, tab), szs)), (((prg, cod), words), ((has, fpl), pos))), ((((o59.2.1, o59.2.2), (tol, tmany)), ((trc, rmany), mark)), (((pil, pmany), mks), ((cts, turns), stop)))) o65) (As := [.int (o59.1 + (1 : Int32)), .int (1 : Int32)]) (rest := []) hw (by rw [ho65]; exact h_lA text size sv stb var tab szs prg cod words has fpl pos o59.2.1 o59.2.2 tol tmany trc rmany mark pil pmany mks cts turns stop (o59.1 + (1 : Int32)) (1 : Int32) hq66) ok_yX10_labelAll ml_X10_119 (rm_ok (by omega) (by decide)) 0 rfl rfl rfl rfl hl.1 (Nat.le_of_ble_eq_true rfl) dX10_labelS_294 ⟨Nat.zero_le _, Nat.zero_le _⟩ (fun H locs hw => ?_)
              have hw : Wd g A s (w_Mdl a g (((((text, size), (sv, stb)), ((var, tab), szs)), (((prg, cod), words), ((has, fpl), pos))), ((((o65.2.1, o65.2.2), (tol, tmany)), ((trc, rmany), mark)), (((pil, pmany), mks), ((cts, turns), stop))))) H locs := hw
              refine W.eq (g2 := F0 m 297 ls [.int o65.1]) rfl ?_
              have hok := bdP_use ho65 hok
              refine lv_istore (lv' := [(9, .int o65.1), (0, .ref (a 0)), (1, .int y1), (2, .int y2), (3, .int y3), (5, .int y5), (6, .int y6), (7, .int y7)]) hx hb dX10_labelS_297 hl (by decide) rfl (fun ls hl => ?_)
              refine lv_iload hx hb dX10_labelS_299 (lv_at hl 0 rfl) ?_
              refine lv_iconst (v := (1 : Int32)) hx hb dX10_labelS_301 (by decide) ?_
              refine lv_iadd hx hb dX10_labelS_302 ?_
              exact hI.retI (u := (((((text, size), (sv, stb)), ((var, tab), szs)), (((prg, cod), words), ((has, fpl), pos))), ((((o65.2.1, o65.2.2), (tol, tmany)), ((trc, rmany), mark)), (((pil, pmany), mks), ((cts, turns), stop))))) hw (hr.trans (congrArg (rb_X10_labelS (((((text, size), (sv, stb)), ((var, tab), szs)), (((prg, cod), words), ((has, fpl), pos))), ((((fault₀, plc₀), (tol, tmany)), ((trc, rmany), mark)), (((pil, pmany), mks), ((cts, turns), stop))))) ((show f_X10_labelS_208 lA text sv stb (k + 1) fault plc y1 y2 y3 y5 y6 y7 = (o65.1 + (1 : Int32), (o65.2.1, o65.2.2)) from it_t c37 (it_t c38 (it_t c42 (it_f c50 (bd_of ho59 (it_t c62 (bd_of ho65 (rfl))))))))))) dX10_labelS_303
    · have hok := ok_f c37 hok
      refine lv_aload_n hx hb dX10_labelS_215 rfl (lv_at hl 0 rfl) ?_
      refine lv_iload hx hb dX10_labelS_216 (lv_at hl 6 rfl) ?_
      refine lv_iload_n hx hb dX10_labelS_218 rfl (lv_at hl 2 rfl) ?_
      have hq68 := hok.1
      have hok := hok.2
      obtain ⟨o67, ho67⟩ : ∃ o, o = f_X10_labelE text sv stb fault plc y7 y2 := ⟨_, rfl⟩
      refine hI.callV0 (wl := w_Mdl a g) (a := (((((text, size), (sv, stb)), ((var, tab), szs)), (((prg, cod), words), ((has, fpl), pos))), ((((fault, plc), (tol, tmany)), ((trc, rmany), mark)), (((pil, pmany), mks), ((cts, turns), stop))))) (r := rb_X10_labelE (((((text, size), (sv, stb)), ((var, tab), szs)), (((prg, cod), words), ((has, fpl), pos))), ((((fault, plc), (tol, tmany)), ((trc, rmany), mark)), (((pil, pmany), mks), ((cts, turns), stop)))) o67) (As := [.int y7, .int y2]) (rest := []) hw (by rw [ho67]; exact c_X10_labelE l g a text size sv stb var tab szs prg cod words has fpl pos fault plc tol tmany trc rmany mark pil pmany mks cts turns stop y7 y2 hq68) ok_yX10_labelE ml_X10_122 (rm_ok (by omega) (by decide)) 0 rfl rfl rfl rfl hl.1 (Nat.le_of_ble_eq_true rfl) dX10_labelS_219 ⟨Nat.zero_le _, Nat.zero_le _⟩ (fun H locs hw => ?_)
      have hw : Wd g A s (w_Mdl a g (((((text, size), (sv, stb)), ((var, tab), szs)), (((prg, cod), words), ((has, fpl), pos))), ((((o67.1, o67.2), (tol, tmany)), ((trc, rmany), mark)), (((pil, pmany), mks), ((cts, turns), stop))))) H locs := hw
      refine W.eq (g2 := F0 m 222 ls []) rfl ?_
      have hok := bdP_use ho67 hok
      refine lv_aload_n hx hb dX10_labelS_222 rfl (lv_at hl 0 rfl) ?_
      refine lv_aload_n hx hb dX10_labelS_223 rfl (lv_at hl 0 rfl) ?_
      refine hI.get (v := .ref (a 1)) hw fg_X10_7 0 rfl rfl dX10_labelS_224 ?_
      refine lv_iload hx hb dX10_labelS_227 (lv_at hl 6 rfl) ?_
      have hq70 := hok.1
      have hok := hok.2
      obtain ⟨o69, ho69⟩ : ∃ o, o = f_X10_behind text y7 := ⟨_, rfl⟩
      refine hI.callI0 (wl := w_Mdl a g) (a := (((((text, size), (sv, stb)), ((var, tab), szs)), (((prg, cod), words), ((has, fpl), pos))), ((((o67.1, o67.2), (tol, tmany)), ((trc, rmany), mark)), (((pil, pmany), mks), ((cts, turns), stop))))) (r := rb_X10_behind (((((text, size), (sv, stb)), ((var, tab), szs)), (((prg, cod), words), ((has, fpl), pos))), ((((o67.1, o67.2), (tol, tmany)), ((trc, rmany), mark)), (((pil, pmany), mks), ((cts, turns), stop)))) o69) (As := [.ref (a 1), .int y7]) (rest := []) hw (by rw [ho69]; exact c_X10_behind l g a text size sv stb var tab szs prg cod words has fpl pos o67.1 o67.2 tol tmany trc rmany mark pil pmany mks cts turns stop y7 hq70) ok_yX10_behind ml_X10_107 (rm_ok (by omega) (by decide)) 0 rfl rfl rfl rfl hl.1 (Nat.le_of_ble_eq_true rfl) dX10_labelS_229 ⟨Nat.zero_le _, Nat.zero_le _⟩ (fun H locs hw => ?_)
      have hw : Wd g A s (w_Mdl a g (((((text, size), (sv, stb)), ((var, tab), szs)), (((prg, cod), words), ((has, fpl), pos))), ((((o67.1, o67.2), (tol, tmany)), ((trc, rmany), mark)), (((pil, pmany), mks), ((cts, turns), stop))))) H locs := hw
      refine W.eq (g2 := F0 m 232 ls [.int o69]) rfl ?_
      have hok := bdP_use ho69 hok
      refine lv_istore (lv' := [(7, .int o69), (0, .ref (a 0)), (1, .int y1), (2, .int y2), (3, .int y3), (5, .int y5), (6, .int y6)]) hx hb dX10_labelS_232 hl (by decide) rfl (fun ls hl => ?_)
      refine lv_goto (tgt := 208) hx hb dX10_labelS_234 (by decide) ?_
      exact ih o67.1 o67.2 y1 y2 y3 y5 y6 o69 hok r (hr.trans (congrArg (rb_X10_labelS (((((text, size), (sv, stb)), ((var, tab), szs)), (((prg, cod), words), ((has, fpl), pos))), ((((fault₀, plc₀), (tol, tmany)), ((trc, rmany), mark)), (((pil, pmany), mks), ((cts, turns), stop))))) ((show f_X10_labelS_208 lA text sv stb (k + 1) fault plc y1 y2 y3 y5 y6 y7 = f_X10_labelS_208 lA text sv stb k o67.1 o67.2 y1 y2 y3 y5 y6 o69 from it_f c37 (bd_of ho67 (bd_of ho69 (rfl))))))) _ _ hw _ (lv_sub hl [1, 2, 3, 4, 5, 6, 0] rfl)
set_option maxHeartbeats 4000000 in
set_option maxRecDepth 100000 in
theorem lp_X10_labelS_184 (l : Launch) (g : GG) (a : Nat → Nat) (text : Nat → Int32) (size : Int32) (sv : Nat → Int32) (stb : Nat → Int32) (var : Nat → Int32) (tab : Nat → Int32) (szs : Nat → Int32) (prg : Nat → Int32) (cod : Nat → Int32) (words : Int32) (has : Int32) (fpl : Int32) (pos : Int32) (fault₀ : Int32) (plc₀ : Int32) (tol : Nat → Int32) (tmany : Int32) (trc : Nat → Int32) (rmany : Int32) (mark : Int64) (pil : Nat → Int32) (pmany : Int32) (mks : Nat → Int32) (cts : Nat → Int32) (turns : Int32) (stop : Int32) (lA : (Nat → Int32) → (Nat → Int32) → (Nat → Int32) → Int32 → Int32 → Int32 → Int32 → (Int32 × (Int32 × Int32))) (lAk : (Nat → Int32) → (Nat → Int32) → (Nat → Int32) → Int32 → Int32 → Int32 → Int32 → Prop) (kM : Nat) (k_lA : Nat) (hk : k_lA + 1 ≤ kM ∧ 12 ≤ kM) (h_lA : ∀ (text : Nat → Int32) (size : Int32) (sv : Nat → Int32) (stb : Nat → Int32) (var : Nat → Int32) (tab : Nat → Int32) (szs : Nat → Int32) (prg : Nat → Int32) (cod : Nat → Int32) (words : Int32) (has : Int32) (fpl : Int32) (pos : Int32) (fault : Int32) (plc : Int32) (tol : Nat → Int32) (tmany : Int32) (trc : Nat → Int32) (rmany : Int32) (mark : Int64) (pil : Nat → Int32) (pmany : Int32) (mks : Nat → Int32) (cts : Nat → Int32) (turns : Int32) (stop : Int32) (y1 y2 : Int32), lAk text sv stb fault plc y1 y2 → CI l g yX10_labelAll cX10_labelAll 4 (some .int) (rmN k_lA) (w_Mdl a g) [.ref (a 0), .int y1, .int y2] (((((text, size), (sv, stb)), ((var, tab), szs)), (((prg, cod), words), ((has, fpl), pos))), ((((fault, plc), (tol, tmany)), ((trc, rmany), mark)), (((pil, pmany), mks), ((cts, turns), stop)))) (rb_X10_labelAll (((((text, size), (sv, stb)), ((var, tab), szs)), (((prg, cod), words), ((has, fpl), pos))), ((((fault, plc), (tol, tmany)), ((trc, rmany), mark)), (((pil, pmany), mks), ((cts, turns), stop)))) (lA text sv stb fault plc y1 y2)))  {p : Program} {e : Env} {s : State} {m : MethodId} {args : Array Value} {below : List Frame} {meth : Method} {c : Code} {A : Nat → Prop} (hI : InM p s m args meth c RX10 cX10_labelS 10 (some .int) g A) : ∀ (fault : Int32) (plc : Int32) (y1 : Int32) (y2 : Int32) (y3 : Int32) (y5 : Int32) (y6 : Int32) (y7 : Int32) (z0 : Int32), (ok_X10_labelS_184 lA lAk text sv stb fault plc y1 y2 y3 y5 y6 y7 z0) → ∀ (r : Int32 × S_Mdl), r = rb_X10_labelS (((((text, size), (sv, stb)), ((var, tab), szs)), (((prg, cod), words), ((has, fpl), pos))), ((((fault₀, plc₀), (tol, tmany)), ((trc, rmany), mark)), (((pil, pmany), mks), ((cts, turns), stop)))) (f_X10_labelS_184 lA text sv stb fault plc y1 y2 y3 y5 y6 y7 z0) → ∀ (H : Heap) (locs : List Loc), Wd g A s (w_Mdl a g (((((text, size), (sv, stb)), ((var, tab), szs)), (((prg, cod), words), ((has, fpl), pos))), ((((fault, plc), (tol, tmany)), ((trc, rmany), mark)), (((pil, pmany), mks), ((cts, turns), stop))))) H locs → ∀ (ls : Array Slot), lv_has ls 10 [(0, .ref (a 0)), (1, .int y1), (2, .int y2), (3, .int y3), (5, .int y5), (6, .int y6), (7, .int y7)] → W p l e (rmN kM) s m args below meth c H locs 0 0 (QI g (w_Mdl a g) A r below args s) (F0 m 184 ls [.int z0]) := by
  have hx := hI.1
  have hb := hI.2.1
  intro fault plc y1 y2 y3 y5 y6 y7 z0 hok r hr H locs hw ls hl
  refine lv_istore (lv' := [(8, .int z0), (0, .ref (a 0)), (1, .int y1), (2, .int y2), (3, .int y3), (5, .int y5), (6, .int y6), (7, .int y7)]) hx hb dX10_labelS_184 hl (by decide) rfl (fun ls hl => ?_)
  refine lv_iload hx hb dX10_labelS_186 (lv_at hl 0 rfl) ?_
  refine lv_if_eq (tgt := 208) hx hb dX10_labelS_188 (by decide) (fun c32 => ?_) (fun c32 => ?_)
  · have hok := ok_t c32 hok
    exact lp_X10_labelS_208 l g a text size sv stb var tab szs prg cod words has fpl pos fault₀ plc₀ tol tmany trc rmany mark pil pmany mks cts turns stop lA lAk kM k_lA hk h_lA hI 402 fault plc y1 y2 y3 y5 y6 y7 hok r (hr.trans (congrArg (rb_X10_labelS (((((text, size), (sv, stb)), ((var, tab), szs)), (((prg, cod), words), ((has, fpl), pos))), ((((fault₀, plc₀), (tol, tmany)), ((trc, rmany), mark)), (((pil, pmany), mks), ((cts, turns), stop))))) ((show f_X10_labelS_184 lA text sv stb fault plc y1 y2 y3 y5 y6 y7 z0 = f_X10_labelS_208 lA text sv stb 402 fault plc y1 y2 y3 y5 y6 y7 from it_t c32 (rfl))))) _ _ hw _ (lv_sub hl [1, 2, 3, 4, 5, 6, 7] rfl)
  · have hok := ok_f c32 hok
    refine lv_iload hx hb dX10_labelS_191 (lv_at hl 5 rfl) ?_
    refine lv_if_ne (tgt := 200) hx hb dX10_labelS_193 (by decide) (fun c33 => ?_) (fun c33 => ?_)
    · have hok := ok_f c33 hok
      refine lv_aload_n hx hb dX10_labelS_200 rfl (lv_at hl 1 rfl) ?_
      refine lv_bipush (v := (-14 : Int32)) hx hb dX10_labelS_201 (by decide) ?_
      refine lv_iload_n hx hb dX10_labelS_203 rfl (lv_at hl 2 rfl) ?_
      obtain ⟨o34, ho34⟩ : ∃ o, o = f_X10_fail fault plc (-14 : Int32) y1 := ⟨_, rfl⟩
      refine hI.callI0 (wl := w_Mdl a g) (a := (((((text, size), (sv, stb)), ((var, tab), szs)), (((prg, cod), words), ((has, fpl), pos))), ((((fault, plc), (tol, tmany)), ((trc, rmany), mark)), (((pil, pmany), mks), ((cts, turns), stop))))) (r := rb_X10_fail (((((text, size), (sv, stb)), ((var, tab), szs)), (((prg, cod), words), ((has, fpl), pos))), ((((fault, plc), (tol, tmany)), ((trc, rmany), mark)), (((pil, pmany), mks), ((cts, turns), stop)))) o34) (As := [.int (-14 : Int32), .int y1]) (rest := []) hw (by rw [ho34]; exact c_X10_fail l g a text size sv stb var tab szs prg cod words has fpl pos fault plc tol tmany trc rmany mark pil pmany mks cts turns stop (-14 : Int32) y1 ) ok_yX10_fail ml_X10_74 (rm_ok (by omega) (by decide)) 0 rfl rfl rfl rfl hl.1 (Nat.le_of_ble_eq_true rfl) dX10_labelS_204 ⟨Nat.zero_le _, Nat.zero_le _⟩ (fun H locs hw => ?_)
      have hw : Wd g A s (w_Mdl a g (((((text, size), (sv, stb)), ((var, tab), szs)), (((prg, cod), words), ((has, fpl), pos))), ((((o34.2.1, o34.2.2), (tol, tmany)), ((trc, rmany), mark)), (((pil, pmany), mks), ((cts, turns), stop))))) H locs := hw
      refine W.eq (g2 := F0 m 207 ls [.int o34.1]) rfl ?_
      have hok := bdP_use ho34 hok
      refine lv_pop hx hb dX10_labelS_207 rfl ?_
      exact lp_X10_labelS_208 l g a text size sv stb var tab szs prg cod words has fpl pos fault₀ plc₀ tol tmany trc rmany mark pil pmany mks cts turns stop lA lAk kM k_lA hk h_lA hI 402 o34.2.1 o34.2.2 y1 y2 y3 y5 y6 y7 hok r (hr.trans (congrArg (rb_X10_labelS (((((text, size), (sv, stb)), ((var, tab), szs)), (((prg, cod), words), ((has, fpl), pos))), ((((fault₀, plc₀), (tol, tmany)), ((trc, rmany), mark)), (((pil, pmany), mks), ((cts, turns), stop))))) ((show f_X10_labelS_184 lA text sv stb fault plc y1 y2 y3 y5 y6 y7 z0 = f_X10_labelS_208 lA text sv stb 402 o34.2.1 o34.2.2 y1 y2 y3 y5 y6 y7 from it_f c32 (it_f c33 (bd_of ho34 (rfl))))))) _ _ hw _ (lv_sub hl [1, 2, 3, 4, 5, 6, 7] rfl)
    · have hok := ok_t c33 hok
      refine lv_iload_n hx hb dX10_labelS_196 rfl (lv_at hl 3 rfl) ?_
      refine lv_if_eq (tgt := 208) hx hb dX10_labelS_197 (by decide) (fun c35 => ?_) (fun c35 => ?_)
      · have hok := ok_t c35 hok
        exact lp_X10_labelS_208 l g a text size sv stb var tab szs prg cod words has fpl pos fault₀ plc₀ tol tmany trc rmany mark pil pmany mks cts turns stop lA lAk kM k_lA hk h_lA hI 402 fault plc y1 y2 y3 y5 y6 y7 hok r (hr.trans (congrArg (rb_X10_labelS (((((text, size), (sv, stb)), ((var, tab), szs)), (((prg, cod), words), ((has, fpl), pos))), ((((fault₀, plc₀), (tol, tmany)), ((trc, rmany), mark)), (((pil, pmany), mks), ((cts, turns), stop))))) ((show f_X10_labelS_184 lA text sv stb fault plc y1 y2 y3 y5 y6 y7 z0 = f_X10_labelS_208 lA text sv stb 402 fault plc y1 y2 y3 y5 y6 y7 from it_f c32 (it_t c33 (it_t c35 (rfl))))))) _ _ hw _ (lv_sub hl [1, 2, 3, 4, 5, 6, 7] rfl)
      · have hok := ok_f c35 hok
        refine lv_aload_n hx hb dX10_labelS_200 rfl (lv_at hl 1 rfl) ?_
        refine lv_bipush (v := (-14 : Int32)) hx hb dX10_labelS_201 (by decide) ?_
        refine lv_iload_n hx hb dX10_labelS_203 rfl (lv_at hl 2 rfl) ?_
        obtain ⟨o36, ho36⟩ : ∃ o, o = f_X10_fail fault plc (-14 : Int32) y1 := ⟨_, rfl⟩
        refine hI.callI0 (wl := w_Mdl a g) (a := (((((text, size), (sv, stb)), ((var, tab), szs)), (((prg, cod), words), ((has, fpl), pos))), ((((fault, plc), (tol, tmany)), ((trc, rmany), mark)), (((pil, pmany), mks), ((cts, turns), stop))))) (r := rb_X10_fail (((((text, size), (sv, stb)), ((var, tab), szs)), (((prg, cod), words), ((has, fpl), pos))), ((((fault, plc), (tol, tmany)), ((trc, rmany), mark)), (((pil, pmany), mks), ((cts, turns), stop)))) o36) (As := [.int (-14 : Int32), .int y1]) (rest := []) hw (by rw [ho36]; exact c_X10_fail l g a text size sv stb var tab szs prg cod words has fpl pos fault plc tol tmany trc rmany mark pil pmany mks cts turns stop (-14 : Int32) y1 ) ok_yX10_fail ml_X10_74 (rm_ok (by omega) (by decide)) 0 rfl rfl rfl rfl hl.1 (Nat.le_of_ble_eq_true rfl) dX10_labelS_204 ⟨Nat.zero_le _, Nat.zero_le _⟩ (fun H locs hw => ?_)
        have hw : Wd g A s (w_Mdl a g (((((text, size), (sv, stb)), ((var, tab), szs)), (((prg, cod), words), ((has, fpl), pos))), ((((o36.2.1, o36.2.2), (tol, tmany)), ((trc, rmany), mark)), (((pil, pmany), mks), ((cts, turns), stop))))) H locs := hw
        refine W.eq (g2 := F0 m 207 ls [.int o36.1]) rfl ?_
        have hok := bdP_use ho36 hok
        refine lv_pop hx hb dX10_labelS_207 rfl ?_
        exact lp_X10_labelS_208 l g a text size sv stb var tab szs prg cod words has fpl pos fault₀ plc₀ tol tmany trc rmany mark pil pmany mks cts turns stop lA lAk kM k_lA hk h_lA hI 402 o36.2.1 o36.2.2 y1 y2 y3 y5 y6 y7 hok r (hr.trans (congrArg (rb_X10_labelS (((((text, size), (sv, stb)), ((var, tab), szs)), (((prg, cod), words), ((has, fpl), pos))), ((((fault₀, plc₀), (tol, tmany)), ((trc, rmany), mark)), (((pil, pmany), mks), ((cts, turns), stop))))) ((show f_X10_labelS_184 lA text sv stb fault plc y1 y2 y3 y5 y6 y7 z0 = f_X10_labelS_208 lA text sv stb 402 o36.2.1 o36.2.2 y1 y2 y3 y5 y6 y7 from it_f c32 (it_t c33 (it_f c35 (bd_of ho36 (rfl)))))))) _ _ hw _ (lv_sub hl [1, 2, 3, 4, 5, 6, 7] rfl)
set_option maxHeartbeats 4000000 in
set_option maxRecDepth 100000 in
theorem lp_X10_labelS_110 (l : Launch) (g : GG) (a : Nat → Nat) (text : Nat → Int32) (size : Int32) (sv : Nat → Int32) (stb : Nat → Int32) (var : Nat → Int32) (tab : Nat → Int32) (szs : Nat → Int32) (prg : Nat → Int32) (cod : Nat → Int32) (words : Int32) (has : Int32) (fpl : Int32) (pos : Int32) (fault₀ : Int32) (plc₀ : Int32) (tol : Nat → Int32) (tmany : Int32) (trc : Nat → Int32) (rmany : Int32) (mark : Int64) (pil : Nat → Int32) (pmany : Int32) (mks : Nat → Int32) (cts : Nat → Int32) (turns : Int32) (stop : Int32) (lA : (Nat → Int32) → (Nat → Int32) → (Nat → Int32) → Int32 → Int32 → Int32 → Int32 → (Int32 × (Int32 × Int32))) (lAk : (Nat → Int32) → (Nat → Int32) → (Nat → Int32) → Int32 → Int32 → Int32 → Int32 → Prop) (kM : Nat) (k_lA : Nat) (hk : k_lA + 1 ≤ kM ∧ 12 ≤ kM) (h_lA : ∀ (text : Nat → Int32) (size : Int32) (sv : Nat → Int32) (stb : Nat → Int32) (var : Nat → Int32) (tab : Nat → Int32) (szs : Nat → Int32) (prg : Nat → Int32) (cod : Nat → Int32) (words : Int32) (has : Int32) (fpl : Int32) (pos : Int32) (fault : Int32) (plc : Int32) (tol : Nat → Int32) (tmany : Int32) (trc : Nat → Int32) (rmany : Int32) (mark : Int64) (pil : Nat → Int32) (pmany : Int32) (mks : Nat → Int32) (cts : Nat → Int32) (turns : Int32) (stop : Int32) (y1 y2 : Int32), lAk text sv stb fault plc y1 y2 → CI l g yX10_labelAll cX10_labelAll 4 (some .int) (rmN k_lA) (w_Mdl a g) [.ref (a 0), .int y1, .int y2] (((((text, size), (sv, stb)), ((var, tab), szs)), (((prg, cod), words), ((has, fpl), pos))), ((((fault, plc), (tol, tmany)), ((trc, rmany), mark)), (((pil, pmany), mks), ((cts, turns), stop)))) (rb_X10_labelAll (((((text, size), (sv, stb)), ((var, tab), szs)), (((prg, cod), words), ((has, fpl), pos))), ((((fault, plc), (tol, tmany)), ((trc, rmany), mark)), (((pil, pmany), mks), ((cts, turns), stop)))) (lA text sv stb fault plc y1 y2)))  {p : Program} {e : Env} {s : State} {m : MethodId} {args : Array Value} {below : List Frame} {meth : Method} {c : Code} {A : Nat → Prop} (hI : InM p s m args meth c RX10 cX10_labelS 10 (some .int) g A) : ∀ (fault : Int32) (plc : Int32) (y1 : Int32) (y2 : Int32) (y3 : Int32) (y5 : Int32) (y6 : Int32) (y7 : Int32), (ok_X10_labelS_110 lA lAk text sv stb fault plc y1 y2 y3 y5 y6 y7) → ∀ (r : Int32 × S_Mdl), r = rb_X10_labelS (((((text, size), (sv, stb)), ((var, tab), szs)), (((prg, cod), words), ((has, fpl), pos))), ((((fault₀, plc₀), (tol, tmany)), ((trc, rmany), mark)), (((pil, pmany), mks), ((cts, turns), stop)))) (f_X10_labelS_110 lA text sv stb fault plc y1 y2 y3 y5 y6 y7) → ∀ (H : Heap) (locs : List Loc), Wd g A s (w_Mdl a g (((((text, size), (sv, stb)), ((var, tab), szs)), (((prg, cod), words), ((has, fpl), pos))), ((((fault, plc), (tol, tmany)), ((trc, rmany), mark)), (((pil, pmany), mks), ((cts, turns), stop))))) H locs → ∀ (ls : Array Slot), lv_has ls 10 [(0, .ref (a 0)), (1, .int y1), (2, .int y2), (3, .int y3), (5, .int y5), (6, .int y6), (7, .int y7)] → W p l e (rmN kM) s m args below meth c H locs 0 0 (QI g (w_Mdl a g) A r below args s) (F0 m 110 ls []) := by
  have hx := hI.1
  have hb := hI.2.1
  intro fault plc y1 y2 y3 y5 y6 y7 hok r hr H locs hw ls hl
  refine lv_iload_n hx hb dX10_labelS_110 rfl (lv_at hl 3 rfl) ?_
  refine lv_iconst (v := (1 : Int32)) hx hb dX10_labelS_111 (by decide) ?_
  refine lv_icmp_ne (tgt := 139) hx hb dX10_labelS_112 (by decide) (fun c22 => ?_) (fun c22 => ?_)
  · have hok := ok_f c22 hok
    refine lv_iload_n hx hb dX10_labelS_139 rfl (lv_at hl 3 rfl) ?_
    refine lv_iconst (v := (2 : Int32)) hx hb dX10_labelS_140 (by decide) ?_
    refine lv_icmp_ne (tgt := 168) hx hb dX10_labelS_141 (by decide) (fun c23 => ?_) (fun c23 => ?_)
    · have hok := ok_f c23 hok
      refine lv_iload_n hx hb dX10_labelS_168 rfl (lv_at hl 3 rfl) ?_
      refine lv_iconst (v := (5 : Int32)) hx hb dX10_labelS_169 (by decide) ?_
      refine lv_icmp_eq (tgt := 179) hx hb dX10_labelS_170 (by decide) (fun c24 => ?_) (fun c24 => ?_)
      · have hok := ok_t c24 hok
        refine lv_iconst (v := (1 : Int32)) hx hb dX10_labelS_179 (by decide) ?_
        refine lv_goto (tgt := 184) hx hb dX10_labelS_180 (by decide) ?_
        exact lp_X10_labelS_184 l g a text size sv stb var tab szs prg cod words has fpl pos fault₀ plc₀ tol tmany trc rmany mark pil pmany mks cts turns stop lA lAk kM k_lA hk h_lA hI  fault plc y1 y2 y3 y5 y6 y7 (1 : Int32) hok r (hr.trans (congrArg (rb_X10_labelS (((((text, size), (sv, stb)), ((var, tab), szs)), (((prg, cod), words), ((has, fpl), pos))), ((((fault₀, plc₀), (tol, tmany)), ((trc, rmany), mark)), (((pil, pmany), mks), ((cts, turns), stop))))) ((show f_X10_labelS_110 lA text sv stb fault plc y1 y2 y3 y5 y6 y7 = f_X10_labelS_184 lA text sv stb fault plc y1 y2 y3 y5 y6 y7 (1 : Int32) from it_f c22 (it_f c23 (it_t c24 (rfl))))))) _ _ hw _ (lv_sub hl [0, 1, 2, 3, 4, 5, 6] rfl)
      · have hok := ok_f c24 hok
        refine lv_iload_n hx hb dX10_labelS_173 rfl (lv_at hl 3 rfl) ?_
        refine lv_bipush (v := (7 : Int32)) hx hb dX10_labelS_174 (by decide) ?_
        refine lv_icmp_ne (tgt := 183) hx hb dX10_labelS_176 (by decide) (fun c25 => ?_) (fun c25 => ?_)
        · have hok := ok_f c25 hok
          refine lv_iconst (v := (0 : Int32)) hx hb dX10_labelS_183 (by decide) ?_
          exact lp_X10_labelS_184 l g a text size sv stb var tab szs prg cod words has fpl pos fault₀ plc₀ tol tmany trc rmany mark pil pmany mks cts turns stop lA lAk kM k_lA hk h_lA hI  fault plc y1 y2 y3 y5 y6 y7 (0 : Int32) hok r (hr.trans (congrArg (rb_X10_labelS (((((text, size), (sv, stb)), ((var, tab), szs)), (((prg, cod), words), ((has, fpl), pos))), ((((fault₀, plc₀), (tol, tmany)), ((trc, rmany), mark)), (((pil, pmany), mks), ((cts, turns), stop))))) ((show f_X10_labelS_110 lA text sv stb fault plc y1 y2 y3 y5 y6 y7 = f_X10_labelS_184 lA text sv stb fault plc y1 y2 y3 y5 y6 y7 (0 : Int32) from it_f c22 (it_f c23 (it_f c24 (it_f c25 (rfl)))))))) _ _ hw _ (lv_sub hl [0, 1, 2, 3, 4, 5, 6] rfl)
        · have hok := ok_t c25 hok
          refine lv_iconst (v := (1 : Int32)) hx hb dX10_labelS_179 (by decide) ?_
          refine lv_goto (tgt := 184) hx hb dX10_labelS_180 (by decide) ?_
          exact lp_X10_labelS_184 l g a text size sv stb var tab szs prg cod words has fpl pos fault₀ plc₀ tol tmany trc rmany mark pil pmany mks cts turns stop lA lAk kM k_lA hk h_lA hI  fault plc y1 y2 y3 y5 y6 y7 (1 : Int32) hok r (hr.trans (congrArg (rb_X10_labelS (((((text, size), (sv, stb)), ((var, tab), szs)), (((prg, cod), words), ((has, fpl), pos))), ((((fault₀, plc₀), (tol, tmany)), ((trc, rmany), mark)), (((pil, pmany), mks), ((cts, turns), stop))))) ((show f_X10_labelS_110 lA text sv stb fault plc y1 y2 y3 y5 y6 y7 = f_X10_labelS_184 lA text sv stb fault plc y1 y2 y3 y5 y6 y7 (1 : Int32) from it_f c22 (it_f c23 (it_f c24 (it_t c25 (rfl)))))))) _ _ hw _ (lv_sub hl [0, 1, 2, 3, 4, 5, 6] rfl)
    · have hok := ok_t c23 hok
      refine lv_aload_n hx hb dX10_labelS_144 rfl (lv_at hl 0 rfl) ?_
      refine hI.get (v := .ref (a 3)) hw fg_X10_17 0 rfl rfl dX10_labelS_145 ?_
      refine lv_aload_n hx hb dX10_labelS_148 rfl (lv_at hl 0 rfl) ?_
      refine hI.get (v := .ref (a 1)) hw fg_X10_7 0 rfl rfl dX10_labelS_149 ?_
      refine lv_iload_n hx hb dX10_labelS_152 rfl (lv_at hl 1 rfl) ?_
      refine lv_iconst (v := (1 : Int32)) hx hb dX10_labelS_153 (by decide) ?_
      refine lv_iadd hx hb dX10_labelS_154 ?_
      have hq26 := hok.1
      have hok := hok.2
      refine hI.iald hw 1 rfl hq26 dX10_labelS_155 ?_
      have hq27 := hok.1
      have hok := hok.2
      refine hI.zald hw 3 rfl hq27 dX10_labelS_156 ?_
      refine lv_if_ne (tgt := 164) hx hb dX10_labelS_157 (by decide) (fun c28 => ?_) (fun c28 => ?_)
      · have hok := ok_f c28 hok
        refine lv_iconst (v := (0 : Int32)) hx hb dX10_labelS_164 (by decide) ?_
        refine lv_goto (tgt := 184) hx hb dX10_labelS_165 (by decide) ?_
        exact lp_X10_labelS_184 l g a text size sv stb var tab szs prg cod words has fpl pos fault₀ plc₀ tol tmany trc rmany mark pil pmany mks cts turns stop lA lAk kM k_lA hk h_lA hI  fault plc y1 y2 y3 y5 y6 y7 (0 : Int32) hok r (hr.trans (congrArg (rb_X10_labelS (((((text, size), (sv, stb)), ((var, tab), szs)), (((prg, cod), words), ((has, fpl), pos))), ((((fault₀, plc₀), (tol, tmany)), ((trc, rmany), mark)), (((pil, pmany), mks), ((cts, turns), stop))))) ((show f_X10_labelS_110 lA text sv stb fault plc y1 y2 y3 y5 y6 y7 = f_X10_labelS_184 lA text sv stb fault plc y1 y2 y3 y5 y6 y7 (0 : Int32) from it_f c22 (it_t c23 (it_f c28 (rfl))))))) _ _ hw _ (lv_sub hl [0, 1, 2, 3, 4, 5, 6] rfl)
      · have hok := ok_t c28 hok
        refine lv_iconst (v := (1 : Int32)) hx hb dX10_labelS_160 (by decide) ?_
        refine lv_goto (tgt := 184) hx hb dX10_labelS_161 (by decide) ?_
        exact lp_X10_labelS_184 l g a text size sv stb var tab szs prg cod words has fpl pos fault₀ plc₀ tol tmany trc rmany mark pil pmany mks cts turns stop lA lAk kM k_lA hk h_lA hI  fault plc y1 y2 y3 y5 y6 y7 (1 : Int32) hok r (hr.trans (congrArg (rb_X10_labelS (((((text, size), (sv, stb)), ((var, tab), szs)), (((prg, cod), words), ((has, fpl), pos))), ((((fault₀, plc₀), (tol, tmany)), ((trc, rmany), mark)), (((pil, pmany), mks), ((cts, turns), stop))))) ((show f_X10_labelS_110 lA text sv stb fault plc y1 y2 y3 y5 y6 y7 = f_X10_labelS_184 lA text sv stb fault plc y1 y2 y3 y5 y6 y7 (1 : Int32) from it_f c22 (it_t c23 (it_t c28 (rfl))))))) _ _ hw _ (lv_sub hl [0, 1, 2, 3, 4, 5, 6] rfl)
  · have hok := ok_t c22 hok
    refine lv_aload_n hx hb dX10_labelS_115 rfl (lv_at hl 0 rfl) ?_
    refine hI.get (v := .ref (a 2)) hw fg_X10_13 0 rfl rfl dX10_labelS_116 ?_
    refine lv_aload_n hx hb dX10_labelS_119 rfl (lv_at hl 0 rfl) ?_
    refine hI.get (v := .ref (a 1)) hw fg_X10_7 0 rfl rfl dX10_labelS_120 ?_
    refine lv_iload_n hx hb dX10_labelS_123 rfl (lv_at hl 1 rfl) ?_
    refine lv_iconst (v := (1 : Int32)) hx hb dX10_labelS_124 (by decide) ?_
    refine lv_iadd hx hb dX10_labelS_125 ?_
    have hq29 := hok.1
    have hok := hok.2
    refine hI.iald hw 1 rfl hq29 dX10_labelS_126 ?_
    have hq30 := hok.1
    have hok := hok.2
    refine hI.zald hw 2 rfl hq30 dX10_labelS_127 ?_
    refine lv_if_ne (tgt := 135) hx hb dX10_labelS_128 (by decide) (fun c31 => ?_) (fun c31 => ?_)
    · have hok := ok_f c31 hok
      refine lv_iconst (v := (0 : Int32)) hx hb dX10_labelS_135 (by decide) ?_
      refine lv_goto (tgt := 184) hx hb dX10_labelS_136 (by decide) ?_
      exact lp_X10_labelS_184 l g a text size sv stb var tab szs prg cod words has fpl pos fault₀ plc₀ tol tmany trc rmany mark pil pmany mks cts turns stop lA lAk kM k_lA hk h_lA hI  fault plc y1 y2 y3 y5 y6 y7 (0 : Int32) hok r (hr.trans (congrArg (rb_X10_labelS (((((text, size), (sv, stb)), ((var, tab), szs)), (((prg, cod), words), ((has, fpl), pos))), ((((fault₀, plc₀), (tol, tmany)), ((trc, rmany), mark)), (((pil, pmany), mks), ((cts, turns), stop))))) ((show f_X10_labelS_110 lA text sv stb fault plc y1 y2 y3 y5 y6 y7 = f_X10_labelS_184 lA text sv stb fault plc y1 y2 y3 y5 y6 y7 (0 : Int32) from it_t c22 (it_f c31 (rfl)))))) _ _ hw _ (lv_sub hl [0, 1, 2, 3, 4, 5, 6] rfl)
    · have hok := ok_t c31 hok
      refine lv_iconst (v := (1 : Int32)) hx hb dX10_labelS_131 (by decide) ?_
      refine lv_goto (tgt := 184) hx hb dX10_labelS_132 (by decide) ?_
      exact lp_X10_labelS_184 l g a text size sv stb var tab szs prg cod words has fpl pos fault₀ plc₀ tol tmany trc rmany mark pil pmany mks cts turns stop lA lAk kM k_lA hk h_lA hI  fault plc y1 y2 y3 y5 y6 y7 (1 : Int32) hok r (hr.trans (congrArg (rb_X10_labelS (((((text, size), (sv, stb)), ((var, tab), szs)), (((prg, cod), words), ((has, fpl), pos))), ((((fault₀, plc₀), (tol, tmany)), ((trc, rmany), mark)), (((pil, pmany), mks), ((cts, turns), stop))))) ((show f_X10_labelS_110 lA text sv stb fault plc y1 y2 y3 y5 y6 y7 = f_X10_labelS_184 lA text sv stb fault plc y1 y2 y3 y5 y6 y7 (1 : Int32) from it_t c22 (it_t c31 (rfl)))))) _ _ hw _ (lv_sub hl [0, 1, 2, 3, 4, 5, 6] rfl)
set_option maxHeartbeats 4000000 in
set_option maxRecDepth 100000 in
theorem lp_X10_labelS_38 (l : Launch) (g : GG) (a : Nat → Nat) (text : Nat → Int32) (size : Int32) (sv : Nat → Int32) (stb : Nat → Int32) (var : Nat → Int32) (tab : Nat → Int32) (szs : Nat → Int32) (prg : Nat → Int32) (cod : Nat → Int32) (words : Int32) (has : Int32) (fpl : Int32) (pos : Int32) (fault₀ : Int32) (plc₀ : Int32) (tol : Nat → Int32) (tmany : Int32) (trc : Nat → Int32) (rmany : Int32) (mark : Int64) (pil : Nat → Int32) (pmany : Int32) (mks : Nat → Int32) (cts : Nat → Int32) (turns : Int32) (stop : Int32) (lA : (Nat → Int32) → (Nat → Int32) → (Nat → Int32) → Int32 → Int32 → Int32 → Int32 → (Int32 × (Int32 × Int32))) (lAk : (Nat → Int32) → (Nat → Int32) → (Nat → Int32) → Int32 → Int32 → Int32 → Int32 → Prop) (kM : Nat) (k_lA : Nat) (hk : k_lA + 1 ≤ kM ∧ 12 ≤ kM) (h_lA : ∀ (text : Nat → Int32) (size : Int32) (sv : Nat → Int32) (stb : Nat → Int32) (var : Nat → Int32) (tab : Nat → Int32) (szs : Nat → Int32) (prg : Nat → Int32) (cod : Nat → Int32) (words : Int32) (has : Int32) (fpl : Int32) (pos : Int32) (fault : Int32) (plc : Int32) (tol : Nat → Int32) (tmany : Int32) (trc : Nat → Int32) (rmany : Int32) (mark : Int64) (pil : Nat → Int32) (pmany : Int32) (mks : Nat → Int32) (cts : Nat → Int32) (turns : Int32) (stop : Int32) (y1 y2 : Int32), lAk text sv stb fault plc y1 y2 → CI l g yX10_labelAll cX10_labelAll 4 (some .int) (rmN k_lA) (w_Mdl a g) [.ref (a 0), .int y1, .int y2] (((((text, size), (sv, stb)), ((var, tab), szs)), (((prg, cod), words), ((has, fpl), pos))), ((((fault, plc), (tol, tmany)), ((trc, rmany), mark)), (((pil, pmany), mks), ((cts, turns), stop)))) (rb_X10_labelAll (((((text, size), (sv, stb)), ((var, tab), szs)), (((prg, cod), words), ((has, fpl), pos))), ((((fault, plc), (tol, tmany)), ((trc, rmany), mark)), (((pil, pmany), mks), ((cts, turns), stop)))) (lA text sv stb fault plc y1 y2)))  {p : Program} {e : Env} {s : State} {m : MethodId} {args : Array Value} {below : List Frame} {meth : Method} {c : Code} {A : Nat → Prop} (hI : InM p s m args meth c RX10 cX10_labelS 10 (some .int) g A) : ∀ (fault : Int32) (plc : Int32) (y1 : Int32) (y2 : Int32) (y3 : Int32) (z0 : Int32), (ok_X10_labelS_38 lA lAk text sv stb fault plc y1 y2 y3 z0) → ∀ (r : Int32 × S_Mdl), r = rb_X10_labelS (((((text, size), (sv, stb)), ((var, tab), szs)), (((prg, cod), words), ((has, fpl), pos))), ((((fault₀, plc₀), (tol, tmany)), ((trc, rmany), mark)), (((pil, pmany), mks), ((cts, turns), stop)))) (f_X10_labelS_38 lA text sv stb fault plc y1 y2 y3 z0) → ∀ (H : Heap) (locs : List Loc), Wd g A s (w_Mdl a g (((((text, size), (sv, stb)), ((var, tab), szs)), (((prg, cod), words), ((has, fpl), pos))), ((((fault, plc), (tol, tmany)), ((trc, rmany), mark)), (((pil, pmany), mks), ((cts, turns), stop))))) H locs → ∀ (ls : Array Slot), lv_has ls 10 [(0, .ref (a 0)), (1, .int y1), (2, .int y2), (3, .int y3)] → W p l e (rmN kM) s m args below meth c H locs 0 0 (QI g (w_Mdl a g) A r below args s) (F0 m 38 ls [.int z0]) := by
  have hx := hI.1
  have hb := hI.2.1
  intro fault plc y1 y2 y3 z0 hok r hr H locs hw ls hl
  refine lv_istore (lv' := [(4, .int z0), (0, .ref (a 0)), (1, .int y1), (2, .int y2), (3, .int y3)]) hx hb dX10_labelS_38 hl (by decide) rfl (fun ls hl => ?_)
  refine lv_aload_n hx hb dX10_labelS_40 rfl (lv_at hl 1 rfl) ?_
  refine lv_aload_n hx hb dX10_labelS_41 rfl (lv_at hl 1 rfl) ?_
  refine hI.get (v := .ref (a 1)) hw fg_X10_7 0 rfl rfl dX10_labelS_42 ?_
  refine lv_iload hx hb dX10_labelS_45 (lv_at hl 0 rfl) ?_
  have hq8 := hok.1
  have hok := hok.2
  obtain ⟨o7, ho7⟩ : ∃ o, o = f_X10_isSecret text sv stb z0 := ⟨_, rfl⟩
  refine hI.callI0 (wl := w_Mdl a g) (a := (((((text, size), (sv, stb)), ((var, tab), szs)), (((prg, cod), words), ((has, fpl), pos))), ((((fault, plc), (tol, tmany)), ((trc, rmany), mark)), (((pil, pmany), mks), ((cts, turns), stop))))) (r := rb_X10_isSecret (((((text, size), (sv, stb)), ((var, tab), szs)), (((prg, cod), words), ((has, fpl), pos))), ((((fault, plc), (tol, tmany)), ((trc, rmany), mark)), (((pil, pmany), mks), ((cts, turns), stop)))) o7) (As := [.ref (a 1), .int z0]) (rest := []) hw (by rw [ho7]; exact c_X10_isSecret l g a text size sv stb var tab szs prg cod words has fpl pos fault plc tol tmany trc rmany mark pil pmany mks cts turns stop z0 hq8) ok_yX10_isSecret ml_X10_111 (rm_ok (by omega) (by decide)) 0 rfl rfl rfl rfl hl.1 (Nat.le_of_ble_eq_true rfl) dX10_labelS_47 ⟨Nat.zero_le _, Nat.zero_le _⟩ (fun H locs hw => ?_)
  have hw : Wd g A s (w_Mdl a g (((((text, size), (sv, stb)), ((var, tab), szs)), (((prg, cod), words), ((has, fpl), pos))), ((((fault, plc), (tol, tmany)), ((trc, rmany), mark)), (((pil, pmany), mks), ((cts, turns), stop))))) H locs := hw
  refine W.eq (g2 := F0 m 50 ls [.int o7]) rfl ?_
  have hok := bdP_use ho7 hok
  refine lv_istore (lv' := [(5, .int o7), (4, .int z0), (0, .ref (a 0)), (1, .int y1), (2, .int y2), (3, .int y3)]) hx hb dX10_labelS_50 hl (by decide) rfl (fun ls hl => ?_)
  refine lv_aload_n hx hb dX10_labelS_52 rfl (lv_at hl 2 rfl) ?_
  refine lv_aload_n hx hb dX10_labelS_53 rfl (lv_at hl 2 rfl) ?_
  refine hI.get (v := .ref (a 1)) hw fg_X10_7 0 rfl rfl dX10_labelS_54 ?_
  refine lv_iload hx hb dX10_labelS_57 (lv_at hl 1 rfl) ?_
  have hq10 := hok.1
  have hok := hok.2
  obtain ⟨o9, ho9⟩ : ∃ o, o = f_X10_behind text z0 := ⟨_, rfl⟩
  refine hI.callI0 (wl := w_Mdl a g) (a := (((((text, size), (sv, stb)), ((var, tab), szs)), (((prg, cod), words), ((has, fpl), pos))), ((((fault, plc), (tol, tmany)), ((trc, rmany), mark)), (((pil, pmany), mks), ((cts, turns), stop))))) (r := rb_X10_behind (((((text, size), (sv, stb)), ((var, tab), szs)), (((prg, cod), words), ((has, fpl), pos))), ((((fault, plc), (tol, tmany)), ((trc, rmany), mark)), (((pil, pmany), mks), ((cts, turns), stop)))) o9) (As := [.ref (a 1), .int z0]) (rest := []) hw (by rw [ho9]; exact c_X10_behind l g a text size sv stb var tab szs prg cod words has fpl pos fault plc tol tmany trc rmany mark pil pmany mks cts turns stop z0 hq10) ok_yX10_behind ml_X10_107 (rm_ok (by omega) (by decide)) 0 rfl rfl rfl rfl hl.1 (Nat.le_of_ble_eq_true rfl) dX10_labelS_59 ⟨Nat.zero_le _, Nat.zero_le _⟩ (fun H locs hw => ?_)
  have hw : Wd g A s (w_Mdl a g (((((text, size), (sv, stb)), ((var, tab), szs)), (((prg, cod), words), ((has, fpl), pos))), ((((fault, plc), (tol, tmany)), ((trc, rmany), mark)), (((pil, pmany), mks), ((cts, turns), stop))))) H locs := hw
  refine W.eq (g2 := F0 m 62 ls [.int o9]) rfl ?_
  have hok := bdP_use ho9 hok
  refine lv_istore (lv' := [(6, .int o9), (5, .int o7), (4, .int z0), (0, .ref (a 0)), (1, .int y1), (2, .int y2), (3, .int y3)]) hx hb dX10_labelS_62 hl (by decide) rfl (fun ls hl => ?_)
  refine lv_iload hx hb dX10_labelS_64 (lv_at hl 2 rfl) ?_
  refine lv_istore (lv' := [(7, .int z0), (6, .int o9), (5, .int o7), (4, .int z0), (0, .ref (a 0)), (1, .int y1), (2, .int y2), (3, .int y3)]) hx hb dX10_labelS_66 hl (by decide) rfl (fun ls hl => ?_)
  refine lv_iload_n hx hb dX10_labelS_68 rfl (lv_at hl 7 rfl) ?_
  refine lv_iconst (v := (2 : Int32)) hx hb dX10_labelS_69 (by decide) ?_
  refine lv_icmp_ne (tgt := 110) hx hb dX10_labelS_70 (by decide) (fun c11 => ?_) (fun c11 => ?_)
  · have hok := ok_f c11 hok
    exact lp_X10_labelS_110 l g a text size sv stb var tab szs prg cod words has fpl pos fault₀ plc₀ tol tmany trc rmany mark pil pmany mks cts turns stop lA lAk kM k_lA hk h_lA hI  fault plc y1 y2 y3 o7 o9 z0 hok r (hr.trans (congrArg (rb_X10_labelS (((((text, size), (sv, stb)), ((var, tab), szs)), (((prg, cod), words), ((has, fpl), pos))), ((((fault₀, plc₀), (tol, tmany)), ((trc, rmany), mark)), (((pil, pmany), mks), ((cts, turns), stop))))) ((show f_X10_labelS_38 lA text sv stb fault plc y1 y2 y3 z0 = f_X10_labelS_110 lA text sv stb fault plc y1 y2 y3 o7 o9 z0 from bd_of ho7 (bd_of ho9 (it_f c11 (rfl))))))) _ _ hw _ (lv_sub hl [4, 5, 6, 7, 2, 1, 0] rfl)
  · have hok := ok_t c11 hok
    refine lv_iload hx hb dX10_labelS_73 (lv_at hl 2 rfl) ?_
    refine lv_if_ne (tgt := 91) hx hb dX10_labelS_75 (by decide) (fun c12 => ?_) (fun c12 => ?_)
    · have hok := ok_f c12 hok
      refine lv_iconst (v := (1 : Int32)) hx hb dX10_labelS_91 (by decide) ?_
      refine lv_goto (tgt := 96) hx hb dX10_labelS_92 (by decide) ?_
      refine lv_istore (lv' := [(5, .int (1 : Int32)), (7, .int z0), (6, .int o9), (4, .int z0), (0, .ref (a 0)), (1, .int y1), (2, .int y2), (3, .int y3)]) hx hb dX10_labelS_96 hl (by decide) rfl (fun ls hl => ?_)
      refine lv_aload_n hx hb dX10_labelS_98 rfl (lv_at hl 4 rfl) ?_
      refine lv_aload_n hx hb dX10_labelS_99 rfl (lv_at hl 4 rfl) ?_
      refine hI.get (v := .ref (a 1)) hw fg_X10_7 0 rfl rfl dX10_labelS_100 ?_
      refine lv_iload hx hb dX10_labelS_103 (lv_at hl 2 rfl) ?_
      have hq14 := hok.1
      have hok := hok.2
      obtain ⟨o13, ho13⟩ : ∃ o, o = f_X10_behind text o9 := ⟨_, rfl⟩
      refine hI.callI0 (wl := w_Mdl a g) (a := (((((text, size), (sv, stb)), ((var, tab), szs)), (((prg, cod), words), ((has, fpl), pos))), ((((fault, plc), (tol, tmany)), ((trc, rmany), mark)), (((pil, pmany), mks), ((cts, turns), stop))))) (r := rb_X10_behind (((((text, size), (sv, stb)), ((var, tab), szs)), (((prg, cod), words), ((has, fpl), pos))), ((((fault, plc), (tol, tmany)), ((trc, rmany), mark)), (((pil, pmany), mks), ((cts, turns), stop)))) o13) (As := [.ref (a 1), .int o9]) (rest := []) hw (by rw [ho13]; exact c_X10_behind l g a text size sv stb var tab szs prg cod words has fpl pos fault plc tol tmany trc rmany mark pil pmany mks cts turns stop o9 hq14) ok_yX10_behind ml_X10_107 (rm_ok (by omega) (by decide)) 0 rfl rfl rfl rfl hl.1 (Nat.le_of_ble_eq_true rfl) dX10_labelS_105 ⟨Nat.zero_le _, Nat.zero_le _⟩ (fun H locs hw => ?_)
      have hw : Wd g A s (w_Mdl a g (((((text, size), (sv, stb)), ((var, tab), szs)), (((prg, cod), words), ((has, fpl), pos))), ((((fault, plc), (tol, tmany)), ((trc, rmany), mark)), (((pil, pmany), mks), ((cts, turns), stop))))) H locs := hw
      refine W.eq (g2 := F0 m 108 ls [.int o13]) rfl ?_
      have hok := bdP_use ho13 hok
      refine lv_istore (lv' := [(6, .int o13), (5, .int (1 : Int32)), (7, .int z0), (4, .int z0), (0, .ref (a 0)), (1, .int y1), (2, .int y2), (3, .int y3)]) hx hb dX10_labelS_108 hl (by decide) rfl (fun ls hl => ?_)
      exact lp_X10_labelS_110 l g a text size sv stb var tab szs prg cod words has fpl pos fault₀ plc₀ tol tmany trc rmany mark pil pmany mks cts turns stop lA lAk kM k_lA hk h_lA hI  fault plc y1 y2 y3 (1 : Int32) o13 z0 hok r (hr.trans (congrArg (rb_X10_labelS (((((text, size), (sv, stb)), ((var, tab), szs)), (((prg, cod), words), ((has, fpl), pos))), ((((fault₀, plc₀), (tol, tmany)), ((trc, rmany), mark)), (((pil, pmany), mks), ((cts, turns), stop))))) ((show f_X10_labelS_38 lA text sv stb fault plc y1 y2 y3 z0 = f_X10_labelS_110 lA text sv stb fault plc y1 y2 y3 (1 : Int32) o13 z0 from bd_of ho7 (bd_of ho9 (it_t c11 (it_f c12 (bd_of ho13 (rfl))))))))) _ _ hw _ (lv_sub hl [4, 5, 6, 7, 1, 0, 2] rfl)
    · have hok := ok_t c12 hok
      refine lv_aload_n hx hb dX10_labelS_78 rfl (lv_at hl 4 rfl) ?_
      refine lv_aload_n hx hb dX10_labelS_79 rfl (lv_at hl 4 rfl) ?_
      refine hI.get (v := .ref (a 1)) hw fg_X10_7 0 rfl rfl dX10_labelS_80 ?_
      refine lv_iload hx hb dX10_labelS_83 (lv_at hl 1 rfl) ?_
      have hq16 := hok.1
      have hok := hok.2
      obtain ⟨o15, ho15⟩ : ∃ o, o = f_X10_isSecret text sv stb o9 := ⟨_, rfl⟩
      refine hI.callI0 (wl := w_Mdl a g) (a := (((((text, size), (sv, stb)), ((var, tab), szs)), (((prg, cod), words), ((has, fpl), pos))), ((((fault, plc), (tol, tmany)), ((trc, rmany), mark)), (((pil, pmany), mks), ((cts, turns), stop))))) (r := rb_X10_isSecret (((((text, size), (sv, stb)), ((var, tab), szs)), (((prg, cod), words), ((has, fpl), pos))), ((((fault, plc), (tol, tmany)), ((trc, rmany), mark)), (((pil, pmany), mks), ((cts, turns), stop)))) o15) (As := [.ref (a 1), .int o9]) (rest := []) hw (by rw [ho15]; exact c_X10_isSecret l g a text size sv stb var tab szs prg cod words has fpl pos fault plc tol tmany trc rmany mark pil pmany mks cts turns stop o9 hq16) ok_yX10_isSecret ml_X10_111 (rm_ok (by omega) (by decide)) 0 rfl rfl rfl rfl hl.1 (Nat.le_of_ble_eq_true rfl) dX10_labelS_85 ⟨Nat.zero_le _, Nat.zero_le _⟩ (fun H locs hw => ?_)
      have hw : Wd g A s (w_Mdl a g (((((text, size), (sv, stb)), ((var, tab), szs)), (((prg, cod), words), ((has, fpl), pos))), ((((fault, plc), (tol, tmany)), ((trc, rmany), mark)), (((pil, pmany), mks), ((cts, turns), stop))))) H locs := hw
      refine W.eq (g2 := F0 m 88 ls [.int o15]) rfl ?_
      have hok := bdP_use ho15 hok
      refine lv_if_eq (tgt := 95) hx hb dX10_labelS_88 (by decide) (fun c17 => ?_) (fun c17 => ?_)
      · have hok := ok_t c17 hok
        refine lv_iconst (v := (0 : Int32)) hx hb dX10_labelS_95 (by decide) ?_
        refine lv_istore (lv' := [(5, .int (0 : Int32)), (7, .int z0), (6, .int o9), (4, .int z0), (0, .ref (a 0)), (1, .int y1), (2, .int y2), (3, .int y3)]) hx hb dX10_labelS_96 hl (by decide) rfl (fun ls hl => ?_)
        refine lv_aload_n hx hb dX10_labelS_98 rfl (lv_at hl 4 rfl) ?_
        refine lv_aload_n hx hb dX10_labelS_99 rfl (lv_at hl 4 rfl) ?_
        refine hI.get (v := .ref (a 1)) hw fg_X10_7 0 rfl rfl dX10_labelS_100 ?_
        refine lv_iload hx hb dX10_labelS_103 (lv_at hl 2 rfl) ?_
        have hq19 := hok.1
        have hok := hok.2
        obtain ⟨o18, ho18⟩ : ∃ o, o = f_X10_behind text o9 := ⟨_, rfl⟩
        refine hI.callI0 (wl := w_Mdl a g) (a := (((((text, size), (sv, stb)), ((var, tab), szs)), (((prg, cod), words), ((has, fpl), pos))), ((((fault, plc), (tol, tmany)), ((trc, rmany), mark)), (((pil, pmany), mks), ((cts, turns), stop))))) (r := rb_X10_behind (((((text, size), (sv, stb)), ((var, tab), szs)), (((prg, cod), words), ((has, fpl), pos))), ((((fault, plc), (tol, tmany)), ((trc, rmany), mark)), (((pil, pmany), mks), ((cts, turns), stop)))) o18) (As := [.ref (a 1), .int o9]) (rest := []) hw (by rw [ho18]; exact c_X10_behind l g a text size sv stb var tab szs prg cod words has fpl pos fault plc tol tmany trc rmany mark pil pmany mks cts turns stop o9 hq19) ok_yX10_behind ml_X10_107 (rm_ok (by omega) (by decide)) 0 rfl rfl rfl rfl hl.1 (Nat.le_of_ble_eq_true rfl) dX10_labelS_105 ⟨Nat.zero_le _, Nat.zero_le _⟩ (fun H locs hw => ?_)
        have hw : Wd g A s (w_Mdl a g (((((text, size), (sv, stb)), ((var, tab), szs)), (((prg, cod), words), ((has, fpl), pos))), ((((fault, plc), (tol, tmany)), ((trc, rmany), mark)), (((pil, pmany), mks), ((cts, turns), stop))))) H locs := hw
        refine W.eq (g2 := F0 m 108 ls [.int o18]) rfl ?_
        have hok := bdP_use ho18 hok
        refine lv_istore (lv' := [(6, .int o18), (5, .int (0 : Int32)), (7, .int z0), (4, .int z0), (0, .ref (a 0)), (1, .int y1), (2, .int y2), (3, .int y3)]) hx hb dX10_labelS_108 hl (by decide) rfl (fun ls hl => ?_)
        exact lp_X10_labelS_110 l g a text size sv stb var tab szs prg cod words has fpl pos fault₀ plc₀ tol tmany trc rmany mark pil pmany mks cts turns stop lA lAk kM k_lA hk h_lA hI  fault plc y1 y2 y3 (0 : Int32) o18 z0 hok r (hr.trans (congrArg (rb_X10_labelS (((((text, size), (sv, stb)), ((var, tab), szs)), (((prg, cod), words), ((has, fpl), pos))), ((((fault₀, plc₀), (tol, tmany)), ((trc, rmany), mark)), (((pil, pmany), mks), ((cts, turns), stop))))) ((show f_X10_labelS_38 lA text sv stb fault plc y1 y2 y3 z0 = f_X10_labelS_110 lA text sv stb fault plc y1 y2 y3 (0 : Int32) o18 z0 from bd_of ho7 (bd_of ho9 (it_t c11 (it_t c12 (bd_of ho15 (it_t c17 (bd_of ho18 (rfl))))))))))) _ _ hw _ (lv_sub hl [4, 5, 6, 7, 1, 0, 2] rfl)
      · have hok := ok_f c17 hok
        refine lv_iconst (v := (1 : Int32)) hx hb dX10_labelS_91 (by decide) ?_
        refine lv_goto (tgt := 96) hx hb dX10_labelS_92 (by decide) ?_
        refine lv_istore (lv' := [(5, .int (1 : Int32)), (7, .int z0), (6, .int o9), (4, .int z0), (0, .ref (a 0)), (1, .int y1), (2, .int y2), (3, .int y3)]) hx hb dX10_labelS_96 hl (by decide) rfl (fun ls hl => ?_)
        refine lv_aload_n hx hb dX10_labelS_98 rfl (lv_at hl 4 rfl) ?_
        refine lv_aload_n hx hb dX10_labelS_99 rfl (lv_at hl 4 rfl) ?_
        refine hI.get (v := .ref (a 1)) hw fg_X10_7 0 rfl rfl dX10_labelS_100 ?_
        refine lv_iload hx hb dX10_labelS_103 (lv_at hl 2 rfl) ?_
        have hq21 := hok.1
        have hok := hok.2
        obtain ⟨o20, ho20⟩ : ∃ o, o = f_X10_behind text o9 := ⟨_, rfl⟩
        refine hI.callI0 (wl := w_Mdl a g) (a := (((((text, size), (sv, stb)), ((var, tab), szs)), (((prg, cod), words), ((has, fpl), pos))), ((((fault, plc), (tol, tmany)), ((trc, rmany), mark)), (((pil, pmany), mks), ((cts, turns), stop))))) (r := rb_X10_behind (((((text, size), (sv, stb)), ((var, tab), szs)), (((prg, cod), words), ((has, fpl), pos))), ((((fault, plc), (tol, tmany)), ((trc, rmany), mark)), (((pil, pmany), mks), ((cts, turns), stop)))) o20) (As := [.ref (a 1), .int o9]) (rest := []) hw (by rw [ho20]; exact c_X10_behind l g a text size sv stb var tab szs prg cod words has fpl pos fault plc tol tmany trc rmany mark pil pmany mks cts turns stop o9 hq21) ok_yX10_behind ml_X10_107 (rm_ok (by omega) (by decide)) 0 rfl rfl rfl rfl hl.1 (Nat.le_of_ble_eq_true rfl) dX10_labelS_105 ⟨Nat.zero_le _, Nat.zero_le _⟩ (fun H locs hw => ?_)
        have hw : Wd g A s (w_Mdl a g (((((text, size), (sv, stb)), ((var, tab), szs)), (((prg, cod), words), ((has, fpl), pos))), ((((fault, plc), (tol, tmany)), ((trc, rmany), mark)), (((pil, pmany), mks), ((cts, turns), stop))))) H locs := hw
        refine W.eq (g2 := F0 m 108 ls [.int o20]) rfl ?_
        have hok := bdP_use ho20 hok
        refine lv_istore (lv' := [(6, .int o20), (5, .int (1 : Int32)), (7, .int z0), (4, .int z0), (0, .ref (a 0)), (1, .int y1), (2, .int y2), (3, .int y3)]) hx hb dX10_labelS_108 hl (by decide) rfl (fun ls hl => ?_)
        exact lp_X10_labelS_110 l g a text size sv stb var tab szs prg cod words has fpl pos fault₀ plc₀ tol tmany trc rmany mark pil pmany mks cts turns stop lA lAk kM k_lA hk h_lA hI  fault plc y1 y2 y3 (1 : Int32) o20 z0 hok r (hr.trans (congrArg (rb_X10_labelS (((((text, size), (sv, stb)), ((var, tab), szs)), (((prg, cod), words), ((has, fpl), pos))), ((((fault₀, plc₀), (tol, tmany)), ((trc, rmany), mark)), (((pil, pmany), mks), ((cts, turns), stop))))) ((show f_X10_labelS_38 lA text sv stb fault plc y1 y2 y3 z0 = f_X10_labelS_110 lA text sv stb fault plc y1 y2 y3 (1 : Int32) o20 z0 from bd_of ho7 (bd_of ho9 (it_t c11 (it_t c12 (bd_of ho15 (it_f c17 (bd_of ho20 (rfl))))))))))) _ _ hw _ (lv_sub hl [4, 5, 6, 7, 1, 0, 2] rfl)
set_option maxHeartbeats 4000000 in
set_option maxRecDepth 100000 in
theorem c_X10_labelS (l : Launch) (g : GG) (a : Nat → Nat) (text : Nat → Int32) (size : Int32) (sv : Nat → Int32) (stb : Nat → Int32) (var : Nat → Int32) (tab : Nat → Int32) (szs : Nat → Int32) (prg : Nat → Int32) (cod : Nat → Int32) (words : Int32) (has : Int32) (fpl : Int32) (pos : Int32) (fault : Int32) (plc : Int32) (tol : Nat → Int32) (tmany : Int32) (trc : Nat → Int32) (rmany : Int32) (mark : Int64) (pil : Nat → Int32) (pmany : Int32) (mks : Nat → Int32) (cts : Nat → Int32) (turns : Int32) (stop : Int32) (lA : (Nat → Int32) → (Nat → Int32) → (Nat → Int32) → Int32 → Int32 → Int32 → Int32 → (Int32 × (Int32 × Int32))) (lAk : (Nat → Int32) → (Nat → Int32) → (Nat → Int32) → Int32 → Int32 → Int32 → Int32 → Prop) (x1 : Int32) (x2 : Int32) (kM : Nat) (k_lA : Nat) (hk : k_lA + 1 ≤ kM ∧ 12 ≤ kM) (h_lA : ∀ (text : Nat → Int32) (size : Int32) (sv : Nat → Int32) (stb : Nat → Int32) (var : Nat → Int32) (tab : Nat → Int32) (szs : Nat → Int32) (prg : Nat → Int32) (cod : Nat → Int32) (words : Int32) (has : Int32) (fpl : Int32) (pos : Int32) (fault : Int32) (plc : Int32) (tol : Nat → Int32) (tmany : Int32) (trc : Nat → Int32) (rmany : Int32) (mark : Int64) (pil : Nat → Int32) (pmany : Int32) (mks : Nat → Int32) (cts : Nat → Int32) (turns : Int32) (stop : Int32) (y1 y2 : Int32), lAk text sv stb fault plc y1 y2 → CI l g yX10_labelAll cX10_labelAll 4 (some .int) (rmN k_lA) (w_Mdl a g) [.ref (a 0), .int y1, .int y2] (((((text, size), (sv, stb)), ((var, tab), szs)), (((prg, cod), words), ((has, fpl), pos))), ((((fault, plc), (tol, tmany)), ((trc, rmany), mark)), (((pil, pmany), mks), ((cts, turns), stop)))) (rb_X10_labelAll (((((text, size), (sv, stb)), ((var, tab), szs)), (((prg, cod), words), ((has, fpl), pos))), ((((fault, plc), (tol, tmany)), ((trc, rmany), mark)), (((pil, pmany), mks), ((cts, turns), stop)))) (lA text sv stb fault plc y1 y2))) (hok : ok_X10_labelS lA lAk text sv stb fault plc x1 x2) : CI l g yX10_labelS cX10_labelS 10 (some .int) (rmN kM) (w_Mdl a g) [.ref (a 0), .int x1, .int x2] (((((text, size), (sv, stb)), ((var, tab), szs)), (((prg, cod), words), ((has, fpl), pos))), ((((fault, plc), (tol, tmany)), ((trc, rmany), mark)), (((pil, pmany), mks), ((cts, turns), stop)))) (rb_X10_labelS (((((text, size), (sv, stb)), ((var, tab), szs)), (((prg, cod), words), ((has, fpl), pos))), ((((fault, plc), (tol, tmany)), ((trc, rmany), mark)), (((pil, pmany), mks), ((cts, turns), stop)))) (f_X10_labelS lA text sv stb fault plc x1 x2)) := by
  refine CI.mk (by decide) (Nat.le_of_ble_eq_true rfl) ?_
  intro p e s m below meth c A ls hI hw hl
  have hx := hI.1
  have hb := hI.2.1
  obtain ⟨r, hr⟩ : ∃ r, r = rb_X10_labelS (((((text, size), (sv, stb)), ((var, tab), szs)), (((prg, cod), words), ((has, fpl), pos))), ((((fault, plc), (tol, tmany)), ((trc, rmany), mark)), (((pil, pmany), mks), ((cts, turns), stop)))) (f_X10_labelS lA text sv stb fault plc x1 x2) := ⟨_, rfl⟩
  rw [← hr]
  have hl : lv_has ls 10 [(0, .ref (a 0)), (1, .int x1), (2, .int x2)] := hl
  refine lv_aload_n hx hb dX10_labelS_0 rfl (lv_at hl 0 rfl) ?_
  refine hI.get (v := .ref (a 1)) hw fg_X10_7 0 rfl rfl dX10_labelS_1 ?_
  refine lv_iload_n hx hb dX10_labelS_4 rfl (lv_at hl 1 rfl) ?_
  have hq1 := hok.1
  have hok := hok.2
  refine hI.iald hw 1 rfl hq1 dX10_labelS_5 ?_
  refine lv_topi (fun v2 hv2 => ?_)
  have hok := bdP_use hv2 hok
  refine lv_istore_n (lv' := [(3, .int v2), (0, .ref (a 0)), (1, .int x1), (2, .int x2)]) hx hb dX10_labelS_6 rfl hl (by decide) rfl (fun ls hl => ?_)
  refine lv_iload_n hx hb dX10_labelS_7 rfl (lv_at hl 0 rfl) ?_
  refine lv_bipush (v := (6 : Int32)) hx hb dX10_labelS_8 (by decide) ?_
  refine lv_icmp_ne (tgt := 24) hx hb dX10_labelS_10 (by decide) (fun c3 => ?_) (fun c3 => ?_)
  · have hok := ok_f c3 hok
    refine lv_iload_n hx hb dX10_labelS_24 rfl (lv_at hl 0 rfl) ?_
    refine lv_iconst (v := (3 : Int32)) hx hb dX10_labelS_25 (by decide) ?_
    refine lv_icmp_ge (tgt := 35) hx hb dX10_labelS_26 (by decide) (fun c4 => ?_) (fun c4 => ?_)
    · have hok := ok_t c4 hok
      refine lv_iload_n hx hb dX10_labelS_35 rfl (lv_at hl 2 rfl) ?_
      refine lv_iconst (v := (1 : Int32)) hx hb dX10_labelS_36 (by decide) ?_
      refine lv_iadd hx hb dX10_labelS_37 ?_
      exact lp_X10_labelS_38 l g a text size sv stb var tab szs prg cod words has fpl pos fault plc tol tmany trc rmany mark pil pmany mks cts turns stop lA lAk kM k_lA hk h_lA hI  fault plc x1 x2 v2 (x1 + (1 : Int32)) hok r (hr.trans (congrArg (rb_X10_labelS (((((text, size), (sv, stb)), ((var, tab), szs)), (((prg, cod), words), ((has, fpl), pos))), ((((fault, plc), (tol, tmany)), ((trc, rmany), mark)), (((pil, pmany), mks), ((cts, turns), stop))))) ((show f_X10_labelS lA text sv stb fault plc x1 x2 = f_X10_labelS_38 lA text sv stb fault plc x1 x2 v2 (x1 + (1 : Int32)) from bd_of hv2 (it_f c3 (it_t c4 (rfl))))))) _ _ hw _ (lv_sub hl [1, 2, 3, 0] rfl)
    · have hok := ok_f c4 hok
      refine lv_iload_n hx hb dX10_labelS_29 rfl (lv_at hl 2 rfl) ?_
      refine lv_iconst (v := (2 : Int32)) hx hb dX10_labelS_30 (by decide) ?_
      refine lv_iadd hx hb dX10_labelS_31 ?_
      refine lv_goto (tgt := 38) hx hb dX10_labelS_32 (by decide) ?_
      exact lp_X10_labelS_38 l g a text size sv stb var tab szs prg cod words has fpl pos fault plc tol tmany trc rmany mark pil pmany mks cts turns stop lA lAk kM k_lA hk h_lA hI  fault plc x1 x2 v2 (x1 + (2 : Int32)) hok r (hr.trans (congrArg (rb_X10_labelS (((((text, size), (sv, stb)), ((var, tab), szs)), (((prg, cod), words), ((has, fpl), pos))), ((((fault, plc), (tol, tmany)), ((trc, rmany), mark)), (((pil, pmany), mks), ((cts, turns), stop))))) ((show f_X10_labelS lA text sv stb fault plc x1 x2 = f_X10_labelS_38 lA text sv stb fault plc x1 x2 v2 (x1 + (2 : Int32)) from bd_of hv2 (it_f c3 (it_f c4 (rfl))))))) _ _ hw _ (lv_sub hl [1, 2, 3, 0] rfl)
  · have hok := ok_t c3 hok
    refine lv_aload_n hx hb dX10_labelS_13 rfl (lv_at hl 1 rfl) ?_
    refine lv_iload_n hx hb dX10_labelS_14 rfl (lv_at hl 2 rfl) ?_
    refine lv_iconst (v := (2 : Int32)) hx hb dX10_labelS_15 (by decide) ?_
    refine lv_iadd hx hb dX10_labelS_16 ?_
    refine lv_iload_n hx hb dX10_labelS_17 rfl (lv_at hl 3 rfl) ?_
    have hq6 := hok.1
    have hok := hok.2
    obtain ⟨o5, ho5⟩ : ∃ o, o = lA text sv stb fault plc (x1 + (2 : Int32)) x2 := ⟨_, rfl⟩
    refine hI.callI0 (wl := w_Mdl a g) (a := (((((text, size), (sv, stb)), ((var, tab), szs)), (((prg, cod), words), ((has, fpl), pos))), ((((fault, plc), (tol, tmany)), ((trc, rmany), mark)), (((pil, pmany), mks), ((cts, turns), stop))))) (r := rb_X10_labelAll (((((text, size), (sv, stb)), ((var, tab), szs)), (((prg, cod), words), ((has, fpl), pos))), ((((fault, plc), (tol, tmany)), ((trc, rmany), mark)), (((pil, pmany), mks), ((cts, turns), stop)))) o5) (As := [.int (x1 + (2 : Int32)), .int x2]) (rest := []) hw (by rw [ho5]; exact h_lA text size sv stb var tab szs prg cod words has fpl pos fault plc tol tmany trc rmany mark pil pmany mks cts turns stop (x1 + (2 : Int32)) x2 hq6) ok_yX10_labelAll ml_X10_119 (rm_ok (by omega) (by decide)) 0 rfl rfl rfl rfl hl.1 (Nat.le_of_ble_eq_true rfl) dX10_labelS_18 ⟨Nat.zero_le _, Nat.zero_le _⟩ (fun H locs hw => ?_)
    have hw : Wd g A s (w_Mdl a g (((((text, size), (sv, stb)), ((var, tab), szs)), (((prg, cod), words), ((has, fpl), pos))), ((((o5.2.1, o5.2.2), (tol, tmany)), ((trc, rmany), mark)), (((pil, pmany), mks), ((cts, turns), stop))))) H locs := hw
    refine W.eq (g2 := F0 m 21 ls [.int o5.1]) rfl ?_
    have hok := bdP_use ho5 hok
    refine lv_iconst (v := (1 : Int32)) hx hb dX10_labelS_21 (by decide) ?_
    refine lv_iadd hx hb dX10_labelS_22 ?_
    exact hI.retI (u := (((((text, size), (sv, stb)), ((var, tab), szs)), (((prg, cod), words), ((has, fpl), pos))), ((((o5.2.1, o5.2.2), (tol, tmany)), ((trc, rmany), mark)), (((pil, pmany), mks), ((cts, turns), stop))))) hw (hr.trans (congrArg (rb_X10_labelS (((((text, size), (sv, stb)), ((var, tab), szs)), (((prg, cod), words), ((has, fpl), pos))), ((((fault, plc), (tol, tmany)), ((trc, rmany), mark)), (((pil, pmany), mks), ((cts, turns), stop))))) ((show f_X10_labelS lA text sv stb fault plc x1 x2 = (o5.1 + (1 : Int32), (o5.2.1, o5.2.2)) from bd_of hv2 (it_t c3 (bd_of ho5 (rfl))))))) dX10_labelS_23
def ok_X10_labelAll_2 (lS : (Nat → Int32) → (Nat → Int32) → (Nat → Int32) → Int32 → Int32 → Int32 → Int32 → (Int32 × (Int32 × Int32))) (lSk : (Nat → Int32) → (Nat → Int32) → (Nat → Int32) → Int32 → Int32 → Int32 → Int32 → Prop) (text : Nat → Int32) (sv : Nat → Int32) (stb : Nat → Int32) : Nat → Int32 → Int32 → Int32 → Int32 → Prop
  | 0, _, _, _, _ => False
  | k + 1, fault, plc, y2, y3 => vp_in y3 400 ∧ (if (text y3.toNatClampNeg) = 0 then True else vp_in y3 400 ∧ (if (text y3.toNatClampNeg) = (4 : Int32) then True else lSk text sv stb fault plc y3 y2 ∧ (bdP (lS text sv stb fault plc y3 y2) (fun o5 => ok_X10_labelAll_2 lS lSk text sv stb k o5.2.1 o5.2.2 y2 o5.1))))
def f_X10_labelAll_2 (lS : (Nat → Int32) → (Nat → Int32) → (Nat → Int32) → Int32 → Int32 → Int32 → Int32 → (Int32 × (Int32 × Int32))) (text : Nat → Int32) (sv : Nat → Int32) (stb : Nat → Int32) : Nat → Int32 → Int32 → Int32 → Int32 → (Int32 × (Int32 × Int32))
  | 0, fault, plc, y2, y3 => (0, (fault, plc))
  | k + 1, fault, plc, y2, y3 => if (text y3.toNatClampNeg) = 0 then (y3, (fault, plc)) else if (text y3.toNatClampNeg) = (4 : Int32) then (y3, (fault, plc)) else bd (lS text sv stb fault plc y3 y2) (fun o5 => f_X10_labelAll_2 lS text sv stb k o5.2.1 o5.2.2 y2 o5.1)
def f_X10_labelAll (lS : (Nat → Int32) → (Nat → Int32) → (Nat → Int32) → Int32 → Int32 → Int32 → Int32 → (Int32 × (Int32 × Int32))) (text : Nat → Int32) (sv : Nat → Int32) (stb : Nat → Int32) (fault : Int32) (plc : Int32) (x1 : Int32) (x2 : Int32) : Int32 × (Int32 × Int32) := f_X10_labelAll_2 lS text sv stb 402 fault plc x2 x1
def ok_X10_labelAll (lS : (Nat → Int32) → (Nat → Int32) → (Nat → Int32) → Int32 → Int32 → Int32 → Int32 → (Int32 × (Int32 × Int32))) (lSk : (Nat → Int32) → (Nat → Int32) → (Nat → Int32) → Int32 → Int32 → Int32 → Int32 → Prop) (text : Nat → Int32) (sv : Nat → Int32) (stb : Nat → Int32) (fault : Int32) (plc : Int32) (x1 : Int32) (x2 : Int32) : Prop := ok_X10_labelAll_2 lS lSk text sv stb 402 fault plc x2 x1
set_option maxHeartbeats 4000000 in
set_option maxRecDepth 100000 in
theorem lp_X10_labelAll_2 (l : Launch) (g : GG) (a : Nat → Nat) (text : Nat → Int32) (size : Int32) (sv : Nat → Int32) (stb : Nat → Int32) (var : Nat → Int32) (tab : Nat → Int32) (szs : Nat → Int32) (prg : Nat → Int32) (cod : Nat → Int32) (words : Int32) (has : Int32) (fpl : Int32) (pos : Int32) (fault₀ : Int32) (plc₀ : Int32) (tol : Nat → Int32) (tmany : Int32) (trc : Nat → Int32) (rmany : Int32) (mark : Int64) (pil : Nat → Int32) (pmany : Int32) (mks : Nat → Int32) (cts : Nat → Int32) (turns : Int32) (stop : Int32) (lS : (Nat → Int32) → (Nat → Int32) → (Nat → Int32) → Int32 → Int32 → Int32 → Int32 → (Int32 × (Int32 × Int32))) (lSk : (Nat → Int32) → (Nat → Int32) → (Nat → Int32) → Int32 → Int32 → Int32 → Int32 → Prop) (kM : Nat) (k_lS : Nat) (hk : k_lS + 1 ≤ kM ∧ 12 ≤ kM) (h_lS : ∀ (text : Nat → Int32) (size : Int32) (sv : Nat → Int32) (stb : Nat → Int32) (var : Nat → Int32) (tab : Nat → Int32) (szs : Nat → Int32) (prg : Nat → Int32) (cod : Nat → Int32) (words : Int32) (has : Int32) (fpl : Int32) (pos : Int32) (fault : Int32) (plc : Int32) (tol : Nat → Int32) (tmany : Int32) (trc : Nat → Int32) (rmany : Int32) (mark : Int64) (pil : Nat → Int32) (pmany : Int32) (mks : Nat → Int32) (cts : Nat → Int32) (turns : Int32) (stop : Int32) (y1 y2 : Int32), lSk text sv stb fault plc y1 y2 → CI l g yX10_labelS cX10_labelS 10 (some .int) (rmN k_lS) (w_Mdl a g) [.ref (a 0), .int y1, .int y2] (((((text, size), (sv, stb)), ((var, tab), szs)), (((prg, cod), words), ((has, fpl), pos))), ((((fault, plc), (tol, tmany)), ((trc, rmany), mark)), (((pil, pmany), mks), ((cts, turns), stop)))) (rb_X10_labelS (((((text, size), (sv, stb)), ((var, tab), szs)), (((prg, cod), words), ((has, fpl), pos))), ((((fault, plc), (tol, tmany)), ((trc, rmany), mark)), (((pil, pmany), mks), ((cts, turns), stop)))) (lS text sv stb fault plc y1 y2)))  {p : Program} {e : Env} {s : State} {m : MethodId} {args : Array Value} {below : List Frame} {meth : Method} {c : Code} {A : Nat → Prop} (hI : InM p s m args meth c RX10 cX10_labelAll 4 (some .int) g A) : ∀ (k : Nat) (fault : Int32) (plc : Int32) (y2 : Int32) (y3 : Int32), (ok_X10_labelAll_2 lS lSk text sv stb k fault plc y2 y3) → ∀ (r : Int32 × S_Mdl), r = rb_X10_labelAll (((((text, size), (sv, stb)), ((var, tab), szs)), (((prg, cod), words), ((has, fpl), pos))), ((((fault₀, plc₀), (tol, tmany)), ((trc, rmany), mark)), (((pil, pmany), mks), ((cts, turns), stop)))) (f_X10_labelAll_2 lS text sv stb k fault plc y2 y3) → ∀ (H : Heap) (locs : List Loc), Wd g A s (w_Mdl a g (((((text, size), (sv, stb)), ((var, tab), szs)), (((prg, cod), words), ((has, fpl), pos))), ((((fault, plc), (tol, tmany)), ((trc, rmany), mark)), (((pil, pmany), mks), ((cts, turns), stop))))) H locs → ∀ (ls : Array Slot), lv_has ls 4 [(0, .ref (a 0)), (2, .int y2), (3, .int y3)] → W p l e (rmN kM) s m args below meth c H locs 0 0 (QI g (w_Mdl a g) A r below args s) (F0 m 2 ls []) := by
  have hx := hI.1
  have hb := hI.2.1
  intro k
  induction k with
  | zero =>
    intro fault plc y2 y3 hok
    exact hok.elim
  | succ k ih =>
    intro fault plc y2 y3 hok r hr H locs hw ls hl
    refine lv_aload_n hx hb dX10_labelAll_2 rfl (lv_at hl 0 rfl) ?_
    refine hI.get (v := .ref (a 1)) hw fg_X10_7 0 rfl rfl dX10_labelAll_3 ?_
    refine lv_iload_n hx hb dX10_labelAll_6 rfl (lv_at hl 2 rfl) ?_
    have hq1 := hok.1
    have hok := hok.2
    refine hI.iald hw 1 rfl hq1 dX10_labelAll_7 ?_
    refine lv_if_eq (tgt := 31) hx hb dX10_labelAll_8 (by decide) (fun c2 => ?_) (fun c2 => ?_)
    · have hok := ok_t c2 hok
      refine lv_iload_n hx hb dX10_labelAll_31 rfl (lv_at hl 2 rfl) ?_
      exact hI.retI (u := (((((text, size), (sv, stb)), ((var, tab), szs)), (((prg, cod), words), ((has, fpl), pos))), ((((fault, plc), (tol, tmany)), ((trc, rmany), mark)), (((pil, pmany), mks), ((cts, turns), stop))))) hw (hr.trans (congrArg (rb_X10_labelAll (((((text, size), (sv, stb)), ((var, tab), szs)), (((prg, cod), words), ((has, fpl), pos))), ((((fault₀, plc₀), (tol, tmany)), ((trc, rmany), mark)), (((pil, pmany), mks), ((cts, turns), stop))))) ((show f_X10_labelAll_2 lS text sv stb (k + 1) fault plc y2 y3 = (y3, (fault, plc)) from it_t c2 (rfl))))) dX10_labelAll_32
    · have hok := ok_f c2 hok
      refine lv_aload_n hx hb dX10_labelAll_11 rfl (lv_at hl 0 rfl) ?_
      refine hI.get (v := .ref (a 1)) hw fg_X10_7 0 rfl rfl dX10_labelAll_12 ?_
      refine lv_iload_n hx hb dX10_labelAll_15 rfl (lv_at hl 2 rfl) ?_
      have hq3 := hok.1
      have hok := hok.2
      refine hI.iald hw 1 rfl hq3 dX10_labelAll_16 ?_
      refine lv_iconst (v := (4 : Int32)) hx hb dX10_labelAll_17 (by decide) ?_
      refine lv_icmp_eq (tgt := 31) hx hb dX10_labelAll_18 (by decide) (fun c4 => ?_) (fun c4 => ?_)
      · have hok := ok_t c4 hok
        refine lv_iload_n hx hb dX10_labelAll_31 rfl (lv_at hl 2 rfl) ?_
        exact hI.retI (u := (((((text, size), (sv, stb)), ((var, tab), szs)), (((prg, cod), words), ((has, fpl), pos))), ((((fault, plc), (tol, tmany)), ((trc, rmany), mark)), (((pil, pmany), mks), ((cts, turns), stop))))) hw (hr.trans (congrArg (rb_X10_labelAll (((((text, size), (sv, stb)), ((var, tab), szs)), (((prg, cod), words), ((has, fpl), pos))), ((((fault₀, plc₀), (tol, tmany)), ((trc, rmany), mark)), (((pil, pmany), mks), ((cts, turns), stop))))) ((show f_X10_labelAll_2 lS text sv stb (k + 1) fault plc y2 y3 = (y3, (fault, plc)) from it_f c2 (it_t c4 (rfl)))))) dX10_labelAll_32
      · have hok := ok_f c4 hok
        refine lv_aload_n hx hb dX10_labelAll_21 rfl (lv_at hl 0 rfl) ?_
        refine lv_iload_n hx hb dX10_labelAll_22 rfl (lv_at hl 2 rfl) ?_
        refine lv_iload_n hx hb dX10_labelAll_23 rfl (lv_at hl 1 rfl) ?_
        have hq6 := hok.1
        have hok := hok.2
        obtain ⟨o5, ho5⟩ : ∃ o, o = lS text sv stb fault plc y3 y2 := ⟨_, rfl⟩
        refine hI.callI0 (wl := w_Mdl a g) (a := (((((text, size), (sv, stb)), ((var, tab), szs)), (((prg, cod), words), ((has, fpl), pos))), ((((fault, plc), (tol, tmany)), ((trc, rmany), mark)), (((pil, pmany), mks), ((cts, turns), stop))))) (r := rb_X10_labelS (((((text, size), (sv, stb)), ((var, tab), szs)), (((prg, cod), words), ((has, fpl), pos))), ((((fault, plc), (tol, tmany)), ((trc, rmany), mark)), (((pil, pmany), mks), ((cts, turns), stop)))) o5) (As := [.int y3, .int y2]) (rest := []) hw (by rw [ho5]; exact h_lS text size sv stb var tab szs prg cod words has fpl pos fault plc tol tmany trc rmany mark pil pmany mks cts turns stop y3 y2 hq6) ok_yX10_labelS ml_X10_115 (rm_ok (by omega) (by decide)) 0 rfl rfl rfl rfl hl.1 (Nat.le_of_ble_eq_true rfl) dX10_labelAll_24 ⟨Nat.zero_le _, Nat.zero_le _⟩ (fun H locs hw => ?_)
        have hw : Wd g A s (w_Mdl a g (((((text, size), (sv, stb)), ((var, tab), szs)), (((prg, cod), words), ((has, fpl), pos))), ((((o5.2.1, o5.2.2), (tol, tmany)), ((trc, rmany), mark)), (((pil, pmany), mks), ((cts, turns), stop))))) H locs := hw
        refine W.eq (g2 := F0 m 27 ls [.int o5.1]) rfl ?_
        have hok := bdP_use ho5 hok
        refine lv_istore_n (lv' := [(3, .int o5.1), (0, .ref (a 0)), (2, .int y2)]) hx hb dX10_labelAll_27 rfl hl (by decide) rfl (fun ls hl => ?_)
        refine lv_goto (tgt := 2) hx hb dX10_labelAll_28 (by decide) ?_
        exact ih o5.2.1 o5.2.2 y2 o5.1 hok r (hr.trans (congrArg (rb_X10_labelAll (((((text, size), (sv, stb)), ((var, tab), szs)), (((prg, cod), words), ((has, fpl), pos))), ((((fault₀, plc₀), (tol, tmany)), ((trc, rmany), mark)), (((pil, pmany), mks), ((cts, turns), stop))))) ((show f_X10_labelAll_2 lS text sv stb (k + 1) fault plc y2 y3 = f_X10_labelAll_2 lS text sv stb k o5.2.1 o5.2.2 y2 o5.1 from it_f c2 (it_f c4 (bd_of ho5 (rfl))))))) _ _ hw _ (lv_sub hl [1, 2, 0] rfl)
set_option maxHeartbeats 4000000 in
set_option maxRecDepth 100000 in
theorem c_X10_labelAll (l : Launch) (g : GG) (a : Nat → Nat) (text : Nat → Int32) (size : Int32) (sv : Nat → Int32) (stb : Nat → Int32) (var : Nat → Int32) (tab : Nat → Int32) (szs : Nat → Int32) (prg : Nat → Int32) (cod : Nat → Int32) (words : Int32) (has : Int32) (fpl : Int32) (pos : Int32) (fault : Int32) (plc : Int32) (tol : Nat → Int32) (tmany : Int32) (trc : Nat → Int32) (rmany : Int32) (mark : Int64) (pil : Nat → Int32) (pmany : Int32) (mks : Nat → Int32) (cts : Nat → Int32) (turns : Int32) (stop : Int32) (lS : (Nat → Int32) → (Nat → Int32) → (Nat → Int32) → Int32 → Int32 → Int32 → Int32 → (Int32 × (Int32 × Int32))) (lSk : (Nat → Int32) → (Nat → Int32) → (Nat → Int32) → Int32 → Int32 → Int32 → Int32 → Prop) (x1 : Int32) (x2 : Int32) (kM : Nat) (k_lS : Nat) (hk : k_lS + 1 ≤ kM ∧ 12 ≤ kM) (h_lS : ∀ (text : Nat → Int32) (size : Int32) (sv : Nat → Int32) (stb : Nat → Int32) (var : Nat → Int32) (tab : Nat → Int32) (szs : Nat → Int32) (prg : Nat → Int32) (cod : Nat → Int32) (words : Int32) (has : Int32) (fpl : Int32) (pos : Int32) (fault : Int32) (plc : Int32) (tol : Nat → Int32) (tmany : Int32) (trc : Nat → Int32) (rmany : Int32) (mark : Int64) (pil : Nat → Int32) (pmany : Int32) (mks : Nat → Int32) (cts : Nat → Int32) (turns : Int32) (stop : Int32) (y1 y2 : Int32), lSk text sv stb fault plc y1 y2 → CI l g yX10_labelS cX10_labelS 10 (some .int) (rmN k_lS) (w_Mdl a g) [.ref (a 0), .int y1, .int y2] (((((text, size), (sv, stb)), ((var, tab), szs)), (((prg, cod), words), ((has, fpl), pos))), ((((fault, plc), (tol, tmany)), ((trc, rmany), mark)), (((pil, pmany), mks), ((cts, turns), stop)))) (rb_X10_labelS (((((text, size), (sv, stb)), ((var, tab), szs)), (((prg, cod), words), ((has, fpl), pos))), ((((fault, plc), (tol, tmany)), ((trc, rmany), mark)), (((pil, pmany), mks), ((cts, turns), stop)))) (lS text sv stb fault plc y1 y2))) (hok : ok_X10_labelAll lS lSk text sv stb fault plc x1 x2) : CI l g yX10_labelAll cX10_labelAll 4 (some .int) (rmN kM) (w_Mdl a g) [.ref (a 0), .int x1, .int x2] (((((text, size), (sv, stb)), ((var, tab), szs)), (((prg, cod), words), ((has, fpl), pos))), ((((fault, plc), (tol, tmany)), ((trc, rmany), mark)), (((pil, pmany), mks), ((cts, turns), stop)))) (rb_X10_labelAll (((((text, size), (sv, stb)), ((var, tab), szs)), (((prg, cod), words), ((has, fpl), pos))), ((((fault, plc), (tol, tmany)), ((trc, rmany), mark)), (((pil, pmany), mks), ((cts, turns), stop)))) (f_X10_labelAll lS text sv stb fault plc x1 x2)) := by
  refine CI.mk (by decide) (Nat.le_of_ble_eq_true rfl) ?_
  intro p e s m below meth c A ls hI hw hl
  have hx := hI.1
  have hb := hI.2.1
  obtain ⟨r, hr⟩ : ∃ r, r = rb_X10_labelAll (((((text, size), (sv, stb)), ((var, tab), szs)), (((prg, cod), words), ((has, fpl), pos))), ((((fault, plc), (tol, tmany)), ((trc, rmany), mark)), (((pil, pmany), mks), ((cts, turns), stop)))) (f_X10_labelAll lS text sv stb fault plc x1 x2) := ⟨_, rfl⟩
  rw [← hr]
  have hl : lv_has ls 4 [(0, .ref (a 0)), (1, .int x1), (2, .int x2)] := hl
  refine lv_iload_n hx hb dX10_labelAll_0 rfl (lv_at hl 1 rfl) ?_
  refine lv_istore_n (lv' := [(3, .int x1), (0, .ref (a 0)), (1, .int x1), (2, .int x2)]) hx hb dX10_labelAll_1 rfl hl (by decide) rfl (fun ls hl => ?_)
  exact lp_X10_labelAll_2 l g a text size sv stb var tab szs prg cod words has fpl pos fault plc tol tmany trc rmany mark pil pmany mks cts turns stop lS lSk kM k_lS hk h_lS hI 402 fault plc x2 x1 hok r (hr.trans (congrArg (rb_X10_labelAll (((((text, size), (sv, stb)), ((var, tab), szs)), (((prg, cod), words), ((has, fpl), pos))), ((((fault, plc), (tol, tmany)), ((trc, rmany), mark)), (((pil, pmany), mks), ((cts, turns), stop))))) ((show f_X10_labelAll lS text sv stb fault plc x1 x2 = f_X10_labelAll_2 lS text sv stb 402 fault plc x2 x1 from rfl)))) _ _ hw _ (lv_sub hl [1, 3, 0] rfl)
def lbS : Nat → (Nat → Int32) → (Nat → Int32) → (Nat → Int32) → Int32 → Int32 → Int32 → Int32 → (Int32 × (Int32 × Int32))
  | 0 => fun text sv stb fault plc _ _ => (0, (fault, plc))
  | d + 1 => f_X10_labelS (f_X10_labelAll (lbS d))
def lbA (d : Nat) : (Nat → Int32) → (Nat → Int32) → (Nat → Int32) → Int32 → Int32 → Int32 → Int32 → (Int32 × (Int32 × Int32)) := f_X10_labelAll (lbS d)
def lbSk : Nat → (Nat → Int32) → (Nat → Int32) → (Nat → Int32) → Int32 → Int32 → Int32 → Int32 → Prop
  | 0 => fun _ _ _ _ _ _ _ => False
  | d + 1 => ok_X10_labelS (lbA d) (ok_X10_labelAll (lbS d) (lbSk d))
def lbAk (d : Nat) : (Nat → Int32) → (Nat → Int32) → (Nat → Int32) → Int32 → Int32 → Int32 → Int32 → Prop := ok_X10_labelAll (lbS d) (lbSk d)
theorem k_lbS (l : Launch) (g : GG) (a : Nat → Nat) : ∀ (d : Nat) (text : Nat → Int32) (size : Int32) (sv : Nat → Int32) (stb : Nat → Int32) (var : Nat → Int32) (tab : Nat → Int32) (szs : Nat → Int32) (prg : Nat → Int32) (cod : Nat → Int32) (words : Int32) (has : Int32) (fpl : Int32) (pos : Int32) (fault : Int32) (plc : Int32) (tol : Nat → Int32) (tmany : Int32) (trc : Nat → Int32) (rmany : Int32) (mark : Int64) (pil : Nat → Int32) (pmany : Int32) (mks : Nat → Int32) (cts : Nat → Int32) (turns : Int32) (stop : Int32) (y1 y2 : Int32), lbSk d text sv stb fault plc y1 y2 → CI l g yX10_labelS cX10_labelS 10 (some .int) (rmN (2 * d + 12)) (w_Mdl a g) [.ref (a 0), .int y1, .int y2] (((((text, size), (sv, stb)), ((var, tab), szs)), (((prg, cod), words), ((has, fpl), pos))), ((((fault, plc), (tol, tmany)), ((trc, rmany), mark)), (((pil, pmany), mks), ((cts, turns), stop)))) (rb_X10_labelS (((((text, size), (sv, stb)), ((var, tab), szs)), (((prg, cod), words), ((has, fpl), pos))), ((((fault, plc), (tol, tmany)), ((trc, rmany), mark)), (((pil, pmany), mks), ((cts, turns), stop)))) (lbS d text sv stb fault plc y1 y2)) := by
  intro d
  induction d with
  | zero =>
    intro text size sv stb var tab szs prg cod words has fpl pos fault plc tol tmany trc rmany mark pil pmany mks cts turns stop y1 y2 hok
    exact hok.elim
  | succ d ih =>
    intro text size sv stb var tab szs prg cod words has fpl pos fault plc tol tmany trc rmany mark pil pmany mks cts turns stop y1 y2 hok
    exact c_X10_labelS l g a text size sv stb var tab szs prg cod words has fpl pos fault plc tol tmany trc rmany mark pil pmany mks cts turns stop (lbA d) (lbAk d) y1 y2 (2 * (d + 1) + 12) (2 * d + 13) (by omega) (fun text size sv stb var tab szs prg cod words has fpl pos fault plc tol tmany trc rmany mark pil pmany mks cts turns stop y1 y2 hz => c_X10_labelAll l g a text size sv stb var tab szs prg cod words has fpl pos fault plc tol tmany trc rmany mark pil pmany mks cts turns stop (lbS d) (lbSk d) y1 y2 (2 * d + 13) (2 * d + 12) (by omega) (fun text size sv stb var tab szs prg cod words has fpl pos fault plc tol tmany trc rmany mark pil pmany mks cts turns stop y1 y2 hz => ih text size sv stb var tab szs prg cod words has fpl pos fault plc tol tmany trc rmany mark pil pmany mks cts turns stop y1 y2 hz) hz) hok
theorem k_lbA (l : Launch) (g : GG) (a : Nat → Nat) : ∀ (d : Nat) (text : Nat → Int32) (size : Int32) (sv : Nat → Int32) (stb : Nat → Int32) (var : Nat → Int32) (tab : Nat → Int32) (szs : Nat → Int32) (prg : Nat → Int32) (cod : Nat → Int32) (words : Int32) (has : Int32) (fpl : Int32) (pos : Int32) (fault : Int32) (plc : Int32) (tol : Nat → Int32) (tmany : Int32) (trc : Nat → Int32) (rmany : Int32) (mark : Int64) (pil : Nat → Int32) (pmany : Int32) (mks : Nat → Int32) (cts : Nat → Int32) (turns : Int32) (stop : Int32) (y1 y2 : Int32), lbAk d text sv stb fault plc y1 y2 → CI l g yX10_labelAll cX10_labelAll 4 (some .int) (rmN (2 * d + 13)) (w_Mdl a g) [.ref (a 0), .int y1, .int y2] (((((text, size), (sv, stb)), ((var, tab), szs)), (((prg, cod), words), ((has, fpl), pos))), ((((fault, plc), (tol, tmany)), ((trc, rmany), mark)), (((pil, pmany), mks), ((cts, turns), stop)))) (rb_X10_labelAll (((((text, size), (sv, stb)), ((var, tab), szs)), (((prg, cod), words), ((has, fpl), pos))), ((((fault, plc), (tol, tmany)), ((trc, rmany), mark)), (((pil, pmany), mks), ((cts, turns), stop)))) (lbA d text sv stb fault plc y1 y2)) := by
  intro d text size sv stb var tab szs prg cod words has fpl pos fault plc tol tmany trc rmany mark pil pmany mks cts turns stop y1 y2 hok
  exact c_X10_labelAll l g a text size sv stb var tab szs prg cod words has fpl pos fault plc tol tmany trc rmany mark pil pmany mks cts turns stop (lbS d) (lbSk d) y1 y2 (2 * d + 13) (2 * d + 12) (by omega) (fun text size sv stb var tab szs prg cod words has fpl pos fault plc tol tmany trc rmany mark pil pmany mks cts turns stop y1 y2 hz => k_lbS l g a d text size sv stb var tab szs prg cod words has fpl pos fault plc tol tmany trc rmany mark pil pmany mks cts turns stop y1 y2 hz) hok
