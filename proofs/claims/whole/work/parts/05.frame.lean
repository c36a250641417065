/-! the frame of all contracts: one list of words, one bundle of facts inside a method, one bundle of facts of the world -/
def wdL : List Int32 := [1, 2, 2, 2, 1, 1, 1, 1, 1, 1, 1, 1, 1, 1, 1, 1, 1, 1, 2, 2, 1, 2, 2, 2, 2, 3, 3, 2, 3, 2, 2, 2]
def wdI (j : Nat) : Int32 := wdL.getD j 0
def wdV (j : Nat) : Value := .int (wdI j)
/-- the static row WIDTHS, outside of A -/
def WZ (A : Nat → Prop) (U : State) (H : Heap) : Prop := ∃ t : Nat, va_Z RX1 "WIDTHS" "[I" (.ref t) A U H ∧ va_T .int t 32 wdV A U H
theorem WZ.moved {A : Nat → Prop} {u U : State} {H : Heap} (hvm : u.vm.Alike U.vm) (h : WZ A u H) : WZ A U H := by
  obtain ⟨t, h1, h2⟩ := h
  exact ⟨t, h1.moved hvm, h2.moved hvm⟩
theorem WZ.kept {A : Nat → Prop} {U : State} {H H1 : Heap} (h : WZ A U H) (hq : ∀ a : Nat, a < H.size → ¬ A a → H1[a]? = H[a]?) : WZ A U H1 := by
  obtain ⟨t, h1, h2⟩ := h
  exact ⟨t, h1.kept hq, h2.kept hq⟩
theorem WZ.narrow {A B : Nat → Prop} {U : State} {H : Heap} (h : WZ A U H) (hAB : ∀ q, B q → A q) : WZ B U H := by
  obtain ⟨t, h1, h2⟩ := h
  exact ⟨t, h1.narrow hAB, h2.narrow hAB⟩
abbrev GG : Type := va_G × ClassId × ClassId
def KK (g : GG) (U : State) : Prop := va_K g.1 vwCl [(g.2.1, .int), (g.2.2, .boolean)] U
def wsM (y : MethodName) (b : ByteArray) (nL : Nat) (ret : Option FieldType) : List Cond := Cond.code y b nL ret :: lw_g
def PreC {S : Type} (g : GG) (wl : S → va_W) (a : S) (sz : Nat) : State → Prop := fun U => U.heap.size = sz ∧ va_P g.1 vwCl (wl a) U.heap ∧ KK g U ∧ va_D (fun _ => True) (wl a) ∧ WZ (va_A (wl a) sz) U U.heap
def BE {S : Type} (g : GG) (wl : S → va_W) (A : Nat → Prop) : S → State → Prop := fun u t => va_P g.1 vwCl (wl u) t.heap ∧ KK g t ∧ va_D A (wl u)
/-- contracts: a method that answers an int (or a truth value), a long, nothing; it makes no cell -/
def CI {S : Type} (l : Launch) (g : GG) (y : MethodName) (b : ByteArray) (nL : Nat) (ret : Option FieldType) (rm : Room) (wl : S → va_W) (av : List Value) (a : S) (r : Int32 × S) : Prop :=
  ∀ sz : Nat, Met l y (wsM y b nL ret) rm (va_Pc av (PreC g wl a sz)) (va_Qi (fun x u => r = (x, u)) (BE g wl (va_A (wl a) sz)) (va_A (wl a) sz)) 0 0 (va_A (wl a) sz)
def CL {S : Type} (l : Launch) (g : GG) (y : MethodName) (b : ByteArray) (nL : Nat) (ret : Option FieldType) (rm : Room) (wl : S → va_W) (av : List Value) (a : S) (r : Int64 × S) : Prop :=
  ∀ sz : Nat, Met l y (wsM y b nL ret) rm (va_Pc av (PreC g wl a sz)) (va_Ql (fun x u => r = (x, u)) (BE g wl (va_A (wl a) sz)) (va_A (wl a) sz)) 0 0 (va_A (wl a) sz)
def CV {S : Type} (l : Launch) (g : GG) (y : MethodName) (b : ByteArray) (nL : Nat) (ret : Option FieldType) (rm : Room) (wl : S → va_W) (av : List Value) (a : S) (r : S) : Prop :=
  ∀ sz : Nat, Met l y (wsM y b nL ret) rm (va_Pc av (PreC g wl a sz)) (va_Qv (fun u => r = u) (BE g wl (va_A (wl a) sz)) (va_A (wl a) sz)) 0 0 (va_A (wl a) sz)
def InM (p : Program) (s : State) (m : MethodId) (args : Array Value) (meth : Method) (c : Code) (own : String) (cc : ByteArray) (nL : Nat) (ret : Option FieldType) (g : GG) (A : Nat → Prop) : Prop :=
  p.tables.exec = Jvm.exec ∧ c.code = cc ∧ c.maxLocals = nL ∧ s.vm.findClass own = some m.cls ∧ (∀ w ∈ lw_g, w.before args s = true) ∧ meth.sig.returnType = ret ∧ meth.locks = false ∧ KK g s ∧ (∀ q, s.heap.size ≤ q → A q) ∧ WZ A s s.heap
def Wd (g : GG) (A : Nat → Prop) (s : State) (ws : va_W) (H : Heap) (locs : List Loc) : Prop := va_P g.1 vwCl ws H ∧ va_D A ws ∧ va_S A s.heap H locs
def QI {S : Type} (g : GG) (wl : S → va_W) (A : Nat → Prop) (r : Int32 × S) (below : List Frame) (args : Array Value) (s : State) : State → Prop := MQ below (va_Qi (fun x u => r = (x, u)) (BE g wl A) A) args s 0 0 A
def QL {S : Type} (g : GG) (wl : S → va_W) (A : Nat → Prop) (r : Int64 × S) (below : List Frame) (args : Array Value) (s : State) : State → Prop := MQ below (va_Ql (fun x u => r = (x, u)) (BE g wl A) A) args s 0 0 A
def QV {S : Type} (g : GG) (wl : S → va_W) (A : Nat → Prop) (r : S) (below : List Frame) (args : Array Value) (s : State) : State → Prop := MQ below (va_Qv (fun u => r = u) (BE g wl A) A) args s 0 0 A
section ENT
variable {S : Type} {l : Launch} {g : GG} {y : MethodName} {b : ByteArray} {nL : Nat} {ret : Option FieldType} {rm : Room} {wl : S → va_W} {av : List Value} {a : S}
theorem bd_in {p : Program} {e : Env} {s : State} {m : MethodId} {below : List Frame} {meth : Method} {c : Code} {s₁ : State} {args : Array Value} (B : BodyLoose p l y (headSpec (wsM y b nL ret) rm) b nL ret e s m args below meth c s₁) (hml : c.maxLocals = nL) (h : PreC g wl a s.heap.size s) : InM p s m args meth c y.cls b nL ret g (va_A (wl a) s.heap.size) ∧ Wd g (va_A (wl a) s.heap.size) s (wl a) s.heap [] := by
  obtain ⟨-, hP, hK, hD0, hZ⟩ := h
  have hts := atoms_spec (ws := wsM y b nL ret) B.pre
  exact ⟨⟨B.exec, B.bytes, hml, findClass_of_methodNamed B.named, fun w hw => hts w (List.mem_cons_of_mem _ hw), B.returns, B.notSynchronized, hK, fun q h => Or.inr h, hZ⟩, hP, hD0.self (sz := s.heap.size), va_S.rf⟩
theorem CI.mk {r : Int32 × S} (hy : plainName y.cls = true) (hn : (lg_sl av).length ≤ nL)
    (body : ∀ (p : Program) (e : Env) (s : State) (m : MethodId) (below : List Frame) (meth : Method) (c : Code) (A : Nat → Prop) (ls : Array Slot), InM p s m av.toArray meth c y.cls b nL ret g A → Wd g A s (wl a) s.heap [] → lv_has ls nL (lv_args 0 av) → W p l e rm s m av.toArray below meth c s.heap [] 0 0 (QI g wl A r below av.toArray s) (F0 m 0 ls [])) : CI l g y b nL ret rm wl av a r := by
  intro sz
  refine Met.ofW (cc := b) (maxL := nL) (ret := ret) hy rfl ?_
  intro p e s m args below meth c s₁ B hml hv
  obtain ⟨rfl, hv⟩ := hv
  have hsz := hv.1
  subst hsz
  obtain ⟨h1, h2⟩ := bd_in B hml hv
  rw [lg_entry_eq]
  exact body p e s m below meth c _ _ h1 h2 (lv_entry av hn)
theorem CL.mk {r : Int64 × S} (hy : plainName y.cls = true) (hn : (lg_sl av).length ≤ nL)
    (body : ∀ (p : Program) (e : Env) (s : State) (m : MethodId) (below : List Frame) (meth : Method) (c : Code) (A : Nat → Prop) (ls : Array Slot), InM p s m av.toArray meth c y.cls b nL ret g A → Wd g A s (wl a) s.heap [] → lv_has ls nL (lv_args 0 av) → W p l e rm s m av.toArray below meth c s.heap [] 0 0 (QL g wl A r below av.toArray s) (F0 m 0 ls [])) : CL l g y b nL ret rm wl av a r := by
  intro sz
  refine Met.ofW (cc := b) (maxL := nL) (ret := ret) hy rfl ?_
  intro p e s m args below meth c s₁ B hml hv
  obtain ⟨rfl, hv⟩ := hv
  have hsz := hv.1
  subst hsz
  obtain ⟨h1, h2⟩ := bd_in B hml hv
  rw [lg_entry_eq]
  exact body p e s m below meth c _ _ h1 h2 (lv_entry av hn)
theorem CV.mk {r : S} (hy : plainName y.cls = true) (hn : (lg_sl av).length ≤ nL)
    (body : ∀ (p : Program) (e : Env) (s : State) (m : MethodId) (below : List Frame) (meth : Method) (c : Code) (A : Nat → Prop) (ls : Array Slot), InM p s m av.toArray meth c y.cls b nL ret g A → Wd g A s (wl a) s.heap [] → lv_has ls nL (lv_args 0 av) → W p l e rm s m av.toArray below meth c s.heap [] 0 0 (QV g wl A r below av.toArray s) (F0 m 0 ls [])) : CV l g y b nL ret rm wl av a r := by
  intro sz
  refine Met.ofW (cc := b) (maxL := nL) (ret := ret) hy rfl ?_
  intro p e s m args below meth c s₁ B hml hv
  obtain ⟨rfl, hv⟩ := hv
  have hsz := hv.1
  subst hsz
  obtain ⟨h1, h2⟩ := bd_in B hml hv
  rw [lg_entry_eq]
  exact body p e s m below meth c _ _ h1 h2 (lv_entry av hn)
end ENT
/-- what the tables say of a method that is called: virtual, and static -/
def CalV (C : String) (y : MethodName) (b : ByteArray) (nL : Nat) (ret : Option FieldType) (n : Nat) : Prop := Cond.instanceMethod y ∈ lw_g ∧ Cond.selects C y y ∈ lw_g ∧ Cond.initialized C ∈ lw_g ∧ Cond.code y b nL ret ∈ lw_g ∧ (y.cls = C ∧ y.cls ≠ "java/lang/invoke/MethodHandle" ∧ y.cls ≠ "java/lang/invoke/VarHandle" ∧ (parseMethodDescriptor y.desc).map (fun d => d.parameters.length) = some n)
def CalS (y : MethodName) (b : ByteArray) (nL : Nat) (ret : Option FieldType) (n : Nat) : Prop := Cond.static y ∈ lw_g ∧ Cond.initialized y.cls ∈ lw_g ∧ Cond.code y b nL ret ∈ lw_g ∧ (y.cls ≠ "java/lang/invoke/MethodHandle" ∧ y.cls ≠ "java/lang/invoke/VarHandle" ∧ (parseMethodDescriptor y.desc).map (fun d => d.parameters.length) = some n)
theorem lw_goodIn : GoodIn lw_g lw_g := fun w h => ⟨h, good_of_word (List.mem_filter.mp h).2⟩
theorem gi_cons {w : Cond} {ws : List Cond} (h : w ∈ lw_g) (hs : GoodIn lw_g ws) : GoodIn lw_g (w :: ws) := fun v hv => (List.mem_cons.mp hv).elim (fun e => by rw [e]; exact lw_goodIn w h) (hs v)
theorem CalV.cw {R : Room} {s : State} {args : Array Value} {own C : String} {index nL n : Nat} {y : MethodName} {b : ByteArray} {ret : Option FieldType} {rm : Room} (ok : CalV C y b nL ret n) (ht : ∀ w ∈ lw_g, w.before args s = true) (hl : Cond.methodLink own index y ∈ lw_g) (hR : rm.frames + 1 ≤ R.frames ∧ 8 + (nL + 11) + rm.locals ≤ R.locals) : CallW R s args own C index y b nL ret (wsM y b nL ret) rm rm.cells rm.slots n := by
  obtain ⟨h1, h2, h3, h4, h5⟩ := ok
  exact cwV n ht (gi_cons hl (gi_cons h1 (gi_cons h2 (gi_cons h3 (gi_cons h4 lw_goodIn))))) rfl rfl rfl h5 hR
theorem CalS.cw {R : Room} {s : State} {args : Array Value} {own : String} {index nL n : Nat} {y : MethodName} {b : ByteArray} {ret : Option FieldType} {rm : Room} (ok : CalS y b nL ret n) (ht : ∀ w ∈ lw_g, w.before args s = true) (hl : Cond.methodLink own index y ∈ lw_g) (hR : rm.frames + 1 ≤ R.frames ∧ 8 + (nL + 11) + rm.locals ≤ R.locals) : CallB R s args own index y b nL ret (wsM y b nL ret) rm rm.cells rm.slots n ∧ (Cond.static y).before args s = true := by
  obtain ⟨h1, h3, h4, h5⟩ := ok
  exact va_cwS n ht (gi_cons hl (gi_cons h1 (gi_cons h3 (gi_cons h4 lw_goodIn)))) rfl rfl rfl h5 hR
/-- the room that a call needs -/
def RoomOk (rm R : Room) (nL : Nat) : Prop := rm.cells = 0 ∧ rm.slots = 0 ∧ rm.frames + 1 ≤ R.frames ∧ 8 + (nL + 11) + rm.locals ≤ R.locals
def okP (isC isR isB : List Nat) : Bool := va_nd isR && isR.all (fun i => !isC.contains i) && va_nd isB
theorem okP_spec {isC isR isB : List Nat} (h : okP isC isR isB = true) : va_nd isR = true ∧ (∀ i ∈ isR, i ∉ isC) ∧ va_nd isB = true := by
  simp only [okP, Bool.and_eq_true, List.all_eq_true] at h
  refine ⟨h.1.1, fun i hi hc => ?_, h.2⟩
  have := h.1.2 i hi
  simp [hc] at this
/-- a part of the world is handed to a call, and comes back -/
theorem Wd.sub {g : GG} {A : Nat → Prop} {s : State} {ws wc : va_W} {H : Heap} {locs : List Loc} (hw : Wd g A s ws H locs) (isC : List Nat) (hn : va_nd isC = true) (hC : isC.map (fun i => ws[i]?) = wc.map some) : va_P g.1 vwCl wc H ∧ va_D (fun _ => True) wc := by
  obtain ⟨hP, hD, hS⟩ := hw
  refine ⟨?_, (hD.sub isC hn hC).weaken (fun _ _ _ _ => trivial)⟩
  intro k q hk
  have h1 : (isC.map (fun i => ws[i]?))[k]? = some (some q) := by rw [hC, List.getElem?_map, hk]; rfl
  rw [List.getElem?_map] at h1
  cases hi : isC[k]? with
  | none => rw [hi] at h1; cases h1
  | some i => rw [hi] at h1; exact hP i q (Option.some.inj h1)
theorem va_P.perm {D : va_G} {cl : List vw_C} {ws wc : va_W} {H : Heap} (hP : va_P D cl ws H) (isC : List Nat) (hC : isC.map (fun i => ws[i]?) = wc.map some) : va_P D cl wc H := by
  intro k q hk
  have h1 : (isC.map (fun i => ws[i]?))[k]? = some (some q) := by rw [hC, List.getElem?_map, hk]; rfl
  rw [List.getElem?_map] at h1
  cases hi : isC[k]? with
  | none => rw [hi] at h1; cases h1
  | some i => rw [hi] at h1; exact hP i q (Option.some.inj h1)
theorem PreC.blind {S : Type} {g : GG} {wl : S → va_W} {a : S} {sz : Nat} {av : List Value} : FrameBlind (va_Pc av (PreC g wl a sz)) := fun a' U f mk q => by
  obtain ⟨q0, q1, qP, qK, qD, qZ⟩ := q
  exact ⟨q0, q1, qP, va_K.moved (u := U) (U := U.calling f mk a') (Vm.Alike.refl U.vm) qK, qD, WZ.moved (u := U) (U := U.calling f mk a') (Vm.Alike.refl U.vm) qZ⟩
section CALLS
variable {p : Program} {l : Launch} {e : Env} {R : Room} {s : State} {m : MethodId} {args : Array Value} {below : List Frame} {meth : Method} {c : Code} {H : Heap} {locs : List Loc} {cells slots : Nat} {Q : State → Prop}
variable {own C : String} {cc : ByteArray} {nL : Nat} {ret : Option FieldType} {g : GG} {A : Nat → Prop} {ws : va_W} {pc : Nat} {ls : Array Slot} {rest st0 As : List Value}
variable {S : Type} {wl : S → va_W} {a : S} {y : MethodName} {b : ByteArray} {nLy n idx : Nat} {rety : Option FieldType} {rm : Room} {o : Nat}
theorem InM.pre (hI : InM p s m args meth c own cc nL ret g A) (hw : Wd g A s ws H locs) (isC : List Nat) (hn : va_nd isC = true) (hC : isC.map (fun i => ws[i]?) = (wl a).map some) : (∀ q, va_A (wl a) H.size q → A q) ∧ ∀ U : State, U.heap = H → s.WarmedH U.vm → PreC g wl a H.size U := by
  obtain ⟨hx, hb, hml, hown, hts, hr, hlk, hK, hA, hZ⟩ := hI
  have hFc := va_free (wc := wl a) hw.2.1 hw.2.2 hA isC hC
  have hs := hw.sub isC hn hC
  refine ⟨hFc, fun U hU hW => ⟨by rw [hU], by rw [hU]; exact hs.1, va_K.moved hW.alike hK, hs.2, ?_⟩⟩
  rw [hU]
  exact ((hZ.kept (fun a h1 h2 => hw.2.2.2.1 a h1 h2)).narrow hFc).moved hW.alike
/-- a virtual call with an int -/
theorem InM.callI (hI : InM p s m args meth c own cc nL ret g A) (hw : Wd g A s ws H locs) {r : Int32 × S} (hM : CI l g y b nLy rety rm wl (.ref o :: As) a r) (ok : CalV C y b nLy rety n) (hl : Cond.methodLink own idx y ∈ lw_g) (hR : RoomOk rm R nLy) (isC isR isB : List Nat) (hp : okP isC isR isB = true) (hnC : va_nd isC = true) {wr ws1 : va_W} (hC : isC.map (fun i => ws[i]?) = (wl a).map some) (hRr : isR.map (fun i => ws[i]?) = wr.map some) (hB : isB.map (fun i => (wr ++ wl r.2)[i]?) = ws1.map some)
    (q0 : Nat) {ci N : Nat} {fs : List Value} {T : u_T} (hrec : (wl a)[q0]? = some (o, .inr (ci, fs))) (hci : vwCl[ci]? = some (C, T, N)) (hst : st0 = As.reverse ++ .ref o :: rest) (hn : As.length = n) (hsz : ls.size = nL) (hrest : (rest.map fun v => v.category).sum ≤ 8) (hdg : decode cc pc = .ok (.invokevirtual idx, 3)) (hcs : cells ≤ R.cells ∧ slots ≤ R.slots)
    (kk : ∀ (H1 : Heap) (locs1 : List Loc), Wd g A s ws1 H1 locs1 → W p l e R s m args below meth c H1 locs1 cells slots Q (F0 m (pc + 3) ls (.int r.1 :: rest))) : W p l e R s m args below meth c H locs cells slots Q (F0 m pc ls st0) := by
  obtain ⟨hx, hb, hml, hown, hts, hr, hlk, hK, hA, hZ⟩ := id hI
  obtain ⟨hnR, hdis, hnB⟩ := okP_spec hp
  obtain ⟨hFc, hpre⟩ := hI.pre (wl := wl) (a := a) hw isC hnC hC
  have hs := hw.sub isC hnC hC
  refine va_calli (va_runV (As := As) (rest := rest) (C := C) ⟨hx, hb, hml, hown, hts⟩ (hM H.size) (hR.1 ▸ hR.2.1 ▸ ok.cw hts hl hR.2.2) ⟨PreC.blind, va_recv hK hs.1 hci hrec, fun U hU hW => ⟨rfl, hpre U hU hW⟩⟩ rfl hn hsz hst (lv_room hrest) hdg hcs) hw.2.2 (fun q _ h => hFc q h) hFc (fun x u t H1 locs1 ht hvm hr' hB' hz1 hk1 hS1 => ?_)
  subst hr'
  obtain ⟨hP1, hK1, hD1⟩ := hB'
  rw [ht] at hP1
  obtain ⟨hP2, hD2⟩ := va_join hw.1 hw.2.1 isC isR hC hRr hnR hdis hk1 hFc hP1 hD1
  exact kk H1 locs1 ⟨hP2.perm isB hB, hD2.sub isB hnB hB, hS1⟩
theorem InM.callL (hI : InM p s m args meth c own cc nL ret g A) (hw : Wd g A s ws H locs) {r : Int64 × S} (hM : CL l g y b nLy rety rm wl (.ref o :: As) a r) (ok : CalV C y b nLy rety n) (hl : Cond.methodLink own idx y ∈ lw_g) (hR : RoomOk rm R nLy) (isC isR isB : List Nat) (hp : okP isC isR isB = true) (hnC : va_nd isC = true) {wr ws1 : va_W} (hC : isC.map (fun i => ws[i]?) = (wl a).map some) (hRr : isR.map (fun i => ws[i]?) = wr.map some) (hB : isB.map (fun i => (wr ++ wl r.2)[i]?) = ws1.map some)
    (q0 : Nat) {ci N : Nat} {fs : List Value} {T : u_T} (hrec : (wl a)[q0]? = some (o, .inr (ci, fs))) (hci : vwCl[ci]? = some (C, T, N)) (hst : st0 = As.reverse ++ .ref o :: rest) (hn : As.length = n) (hsz : ls.size = nL) (hrest : (rest.map fun v => v.category).sum ≤ 8) (hdg : decode cc pc = .ok (.invokevirtual idx, 3)) (hcs : cells ≤ R.cells ∧ slots ≤ R.slots)
    (kk : ∀ (H1 : Heap) (locs1 : List Loc), Wd g A s ws1 H1 locs1 → W p l e R s m args below meth c H1 locs1 cells slots Q (F0 m (pc + 3) ls (.long r.1 :: rest))) : W p l e R s m args below meth c H locs cells slots Q (F0 m pc ls st0) := by
  obtain ⟨hx, hb, hml, hown, hts, hr, hlk, hK, hA, hZ⟩ := id hI
  obtain ⟨hnR, hdis, hnB⟩ := okP_spec hp
  obtain ⟨hFc, hpre⟩ := hI.pre (wl := wl) (a := a) hw isC hnC hC
  have hs := hw.sub isC hnC hC
  refine va_calll (va_runV (As := As) (rest := rest) (C := C) ⟨hx, hb, hml, hown, hts⟩ (hM H.size) (hR.1 ▸ hR.2.1 ▸ ok.cw hts hl hR.2.2) ⟨PreC.blind, va_recv hK hs.1 hci hrec, fun U hU hW => ⟨rfl, hpre U hU hW⟩⟩ rfl hn hsz hst (lv_room hrest) hdg hcs) hw.2.2 (fun q _ h => hFc q h) hFc (fun x u t H1 locs1 ht hvm hr' hB' hz1 hk1 hS1 => ?_)
  subst hr'
  obtain ⟨hP1, hK1, hD1⟩ := hB'
  rw [ht] at hP1
  obtain ⟨hP2, hD2⟩ := va_join hw.1 hw.2.1 isC isR hC hRr hnR hdis hk1 hFc hP1 hD1
  exact kk H1 locs1 ⟨hP2.perm isB hB, hD2.sub isB hnB hB, hS1⟩
theorem InM.callV (hI : InM p s m args meth c own cc nL ret g A) (hw : Wd g A s ws H locs) {r : S} (hM : CV l g y b nLy rety rm wl (.ref o :: As) a r) (ok : CalV C y b nLy rety n) (hl : Cond.methodLink own idx y ∈ lw_g) (hR : RoomOk rm R nLy) (isC isR isB : List Nat) (hp : okP isC isR isB = true) (hnC : va_nd isC = true) {wr ws1 : va_W} (hC : isC.map (fun i => ws[i]?) = (wl a).map some) (hRr : isR.map (fun i => ws[i]?) = wr.map some) (hB : isB.map (fun i => (wr ++ wl r)[i]?) = ws1.map some)
    (q0 : Nat) {ci N : Nat} {fs : List Value} {T : u_T} (hrec : (wl a)[q0]? = some (o, .inr (ci, fs))) (hci : vwCl[ci]? = some (C, T, N)) (hst : st0 = As.reverse ++ .ref o :: rest) (hn : As.length = n) (hsz : ls.size = nL) (hrest : (rest.map fun v => v.category).sum ≤ 8) (hdg : decode cc pc = .ok (.invokevirtual idx, 3)) (hcs : cells ≤ R.cells ∧ slots ≤ R.slots)
    (kk : ∀ (H1 : Heap) (locs1 : List Loc), Wd g A s ws1 H1 locs1 → W p l e R s m args below meth c H1 locs1 cells slots Q (F0 m (pc + 3) ls rest)) : W p l e R s m args below meth c H locs cells slots Q (F0 m pc ls st0) := by
  obtain ⟨hx, hb, hml, hown, hts, hr, hlk, hK, hA, hZ⟩ := id hI
  obtain ⟨hnR, hdis, hnB⟩ := okP_spec hp
  obtain ⟨hFc, hpre⟩ := hI.pre (wl := wl) (a := a) hw isC hnC hC
  have hs := hw.sub isC hnC hC
  refine va_callv (va_runV (As := As) (rest := rest) (C := C) ⟨hx, hb, hml, hown, hts⟩ (hM H.size) (hR.1 ▸ hR.2.1 ▸ ok.cw hts hl hR.2.2) ⟨PreC.blind, va_recv hK hs.1 hci hrec, fun U hU hW => ⟨rfl, hpre U hU hW⟩⟩ rfl hn hsz hst (lv_room hrest) hdg hcs) hw.2.2 (fun q _ h => hFc q h) hFc (fun u t H1 locs1 ht hvm hr' hB' hz1 hk1 hS1 => ?_)
  subst hr'
  obtain ⟨hP1, hK1, hD1⟩ := hB'
  rw [ht] at hP1
  obtain ⟨hP2, hD2⟩ := va_join hw.1 hw.2.1 isC isR hC hRr hnR hdis hk1 hFc hP1 hD1
  exact kk H1 locs1 ⟨hP2.perm isB hB, hD2.sub isB hnB hB, hS1⟩
/-- a call whose callee's world is the whole world -/
theorem InM.callI0 (hI : InM p s m args meth c own cc nL ret g A) (hw : Wd g A s (wl a) H locs) {r : Int32 × S} (hM : CI l g y b nLy rety rm wl (.ref o :: As) a r) (ok : CalV C y b nLy rety n) (hl : Cond.methodLink own idx y ∈ lw_g) (hR : RoomOk rm R nLy)
    (q0 : Nat) {ci N : Nat} {fs : List Value} {T : u_T} (hrec : (wl a)[q0]? = some (o, .inr (ci, fs))) (hci : vwCl[ci]? = some (C, T, N)) (hst : st0 = As.reverse ++ .ref o :: rest) (hn : As.length = n) (hsz : ls.size = nL) (hrest : (rest.map fun v => v.category).sum ≤ 8) (hdg : decode cc pc = .ok (.invokevirtual idx, 3)) (hcs : cells ≤ R.cells ∧ slots ≤ R.slots)
    (kk : ∀ (H1 : Heap) (locs1 : List Loc), Wd g A s (wl r.2) H1 locs1 → W p l e R s m args below meth c H1 locs1 cells slots Q (F0 m (pc + 3) ls (.int r.1 :: rest))) : W p l e R s m args below meth c H locs cells slots Q (F0 m pc ls st0) := by
  obtain ⟨hx, hb, hml, hown, hts, hr, hlk, hK, hA, hZ⟩ := id hI
  have hFc : ∀ q, va_A (wl a) H.size q → A q := fun q h => h.elim (fun ⟨k, e, h⟩ => hw.2.1.2 k _ h) (fun h => hA q (Nat.le_trans hw.2.2.1 h))
  refine va_calli (va_runV (As := As) (rest := rest) (C := C) ⟨hx, hb, hml, hown, hts⟩ (hM H.size) (hR.1 ▸ hR.2.1 ▸ ok.cw hts hl hR.2.2) ⟨PreC.blind, va_recv hK hw.1 hci hrec, fun U hU hW => ⟨rfl, by rw [hU], by rw [hU]; exact hw.1, va_K.moved hW.alike hK, hw.2.1.weaken (fun _ _ _ _ => trivial), by rw [hU]; exact ((hZ.kept (fun a h1 h2 => hw.2.2.2.1 a h1 h2)).narrow hFc).moved hW.alike⟩⟩ rfl hn hsz hst (lv_room hrest) hdg hcs) hw.2.2 (fun q _ h => hFc q h) hFc (fun x u t H1 locs1 ht hvm hr' hB' hz1 hk1 hS1 => ?_)
  subst hr'
  obtain ⟨hP1, hK1, hD1⟩ := hB'
  rw [ht] at hP1
  exact kk H1 locs1 ⟨hP1, hD1.weaken (fun k q _ h => hFc q.1 h), hS1⟩
theorem InM.callV0 (hI : InM p s m args meth c own cc nL ret g A) (hw : Wd g A s (wl a) H locs) {r : S} (hM : CV l g y b nLy rety rm wl (.ref o :: As) a r) (ok : CalV C y b nLy rety n) (hl : Cond.methodLink own idx y ∈ lw_g) (hR : RoomOk rm R nLy)
    (q0 : Nat) {ci N : Nat} {fs : List Value} {T : u_T} (hrec : (wl a)[q0]? = some (o, .inr (ci, fs))) (hci : vwCl[ci]? = some (C, T, N)) (hst : st0 = As.reverse ++ .ref o :: rest) (hn : As.length = n) (hsz : ls.size = nL) (hrest : (rest.map fun v => v.category).sum ≤ 8) (hdg : decode cc pc = .ok (.invokevirtual idx, 3)) (hcs : cells ≤ R.cells ∧ slots ≤ R.slots)
    (kk : ∀ (H1 : Heap) (locs1 : List Loc), Wd g A s (wl r) H1 locs1 → W p l e R s m args below meth c H1 locs1 cells slots Q (F0 m (pc + 3) ls rest)) : W p l e R s m args below meth c H locs cells slots Q (F0 m pc ls st0) := by
  obtain ⟨hx, hb, hml, hown, hts, hr, hlk, hK, hA, hZ⟩ := id hI
  have hFc : ∀ q, va_A (wl a) H.size q → A q := fun q h => h.elim (fun ⟨k, e, h⟩ => hw.2.1.2 k _ h) (fun h => hA q (Nat.le_trans hw.2.2.1 h))
  refine va_callv (va_runV (As := As) (rest := rest) (C := C) ⟨hx, hb, hml, hown, hts⟩ (hM H.size) (hR.1 ▸ hR.2.1 ▸ ok.cw hts hl hR.2.2) ⟨PreC.blind, va_recv hK hw.1 hci hrec, fun U hU hW => ⟨rfl, by rw [hU], by rw [hU]; exact hw.1, va_K.moved hW.alike hK, hw.2.1.weaken (fun _ _ _ _ => trivial), by rw [hU]; exact ((hZ.kept (fun a h1 h2 => hw.2.2.2.1 a h1 h2)).narrow hFc).moved hW.alike⟩⟩ rfl hn hsz hst (lv_room hrest) hdg hcs) hw.2.2 (fun q _ h => hFc q h) hFc (fun u t H1 locs1 ht hvm hr' hB' hz1 hk1 hS1 => ?_)
  subst hr'
  obtain ⟨hP1, hK1, hD1⟩ := hB'
  rw [ht] at hP1
  exact kk H1 locs1 ⟨hP1, hD1.weaken (fun k q _ h => hFc q.1 h), hS1⟩
/-- a static call with an int, its world is empty -/
theorem InM.callSI (hI : InM p s m args meth c own cc nL ret g A) (hw : Wd g A s ws H locs) {r : Int32} (hM : CI l g y b nLy rety rm (fun _ : Unit => []) As () (r, ())) (ok : CalS y b nLy rety n) (hl : Cond.methodLink own idx y ∈ lw_g) (hR : RoomOk rm R nLy)
    (hst : st0 = As.reverse ++ rest) (hn : As.length = n) (hsz : ls.size = nL) (hrest : (rest.map fun v => v.category).sum ≤ 8) (hdg : decode cc pc = .ok (.invokestatic idx, 3)) (hcs : cells ≤ R.cells ∧ slots ≤ R.slots)
    (kk : ∀ (H1 : Heap) (locs1 : List Loc), Wd g A s ws H1 locs1 → W p l e R s m args below meth c H1 locs1 cells slots Q (F0 m (pc + 3) ls (.int r :: rest))) : W p l e R s m args below meth c H locs cells slots Q (F0 m pc ls st0) := by
  obtain ⟨hx, hb, hml, hown, hts, hr, hlk, hK, hA, hZ⟩ := id hI
  have hFc : ∀ q, va_A [] H.size q → A q := fun q h => h.elim (fun ⟨k, e, h⟩ => by simp at h) (fun h => hA q (Nat.le_trans hw.2.2.1 h))
  have hP0 : va_P g.1 vwCl [] H := fun k q h => by simp at h
  have hD0 : va_D (fun _ => True) [] := ⟨fun i j p q h => by simp at h, fun k q h => by simp at h⟩
  refine va_calli (va_runS (As := As) (rest := rest) ⟨hx, hb, hml, hown, hts⟩ (hM H.size) (hR.1 ▸ hR.2.1 ▸ ok.cw hts hl hR.2.2) ⟨PreC.blind, fun U hU hW => ⟨rfl, by rw [hU], by rw [hU]; exact hP0, va_K.moved hW.alike hK, hD0, by rw [hU]; exact ((hZ.kept (fun a h1 h2 => hw.2.2.2.1 a h1 h2)).narrow hFc).moved hW.alike⟩⟩ rfl hn hsz hst (lv_room hrest) hdg hcs) hw.2.2 (fun q _ h => hFc q h) hFc (fun x u t H1 locs1 ht hvm hr' hB' hz1 hk1 hS1 => ?_)
  cases hr'
  refine kk H1 locs1 ⟨hw.1.kept (fun k q hk => hk1 q.1 (hw.1 k q hk).lt ?_), hw.2.1, hS1⟩
  intro h
  rcases h with ⟨k2, e2, h⟩ | h
  · simp at h
  · exact absurd (hw.1 k q hk).lt (Nat.not_lt.mpr h)
/-- ends -/
theorem InM.retI (hI : InM p s m args meth c own cc nL (some .int) g A) {r : Int32 × S} {v : Int32} {u : S} (hw : Wd g A s (wl u) H locs) (h : r = (v, u)) (hdg : decode cc pc = .ok (.ireturn, 1)) : W p l e R s m args below meth c H locs 0 0 (QI g wl A r below args s) (F0 m pc ls [.int v]) := by
  obtain ⟨hx, hb, hml, hown, hts, hr, hlk, hK, hA, hZ⟩ := hI
  obtain ⟨hP, hD, hS⟩ := hw
  exact W.iret (v := v) hx hb hr (fun t ht hW => ⟨⟨v, u, rfl, h, by rw [ht]; exact hP, va_K.moved hW.alike hK, hD⟩, hS.F ht⟩) hS.2.2 hdg hlk
theorem InM.retZ (hI : InM p s m args meth c own cc nL (some .boolean) g A) {r : Int32 × S} {v : Int32} {u : S} (hw : Wd g A s (wl u) H locs) (hv : narrow .boolean (.int v) = .int v) (h : r = (v, u)) (hdg : decode cc pc = .ok (.ireturn, 1)) : W p l e R s m args below meth c H locs 0 0 (QI g wl A r below args s) (F0 m pc ls [.int v]) := by
  obtain ⟨hx, hb, hml, hown, hts, hr, hlk, hK, hA, hZ⟩ := hI
  obtain ⟨hP, hD, hS⟩ := hw
  exact W.zret (v := v) hx hb hr hv (fun t ht hW => ⟨⟨v, u, rfl, h, by rw [ht]; exact hP, va_K.moved hW.alike hK, hD⟩, hS.F ht⟩) hS.2.2 hdg hlk
theorem InM.retL (hI : InM p s m args meth c own cc nL (some .long) g A) {r : Int64 × S} {v : Int64} {u : S} (hw : Wd g A s (wl u) H locs) (h : r = (v, u)) (hdg : decode cc pc = .ok (.lreturn, 1)) : W p l e R s m args below meth c H locs 0 0 (QL g wl A r below args s) (F0 m pc ls [.long v]) := by
  obtain ⟨hx, hb, hml, hown, hts, hr, hlk, hK, hA, hZ⟩ := hI
  obtain ⟨hP, hD, hS⟩ := hw
  exact W.lret (v := v) hx hb hr (fun t ht hW => ⟨⟨v, u, rfl, h, by rw [ht]; exact hP, va_K.moved hW.alike hK, hD⟩, hS.F ht⟩) hS.2.2 hdg hlk
theorem InM.retV (hI : InM p s m args meth c own cc nL none g A) {r u : S} (hw : Wd g A s (wl u) H locs) (h : r = u) (hdg : decode cc pc = .ok (.return_, 1)) : W p l e R s m args below meth c H locs 0 0 (QV g wl A r below args s) (F0 m pc ls []) := by
  obtain ⟨hx, hb, hml, hown, hts, hr, hlk, hK, hA, hZ⟩ := hI
  obtain ⟨hP, hD, hS⟩ := hw
  exact W.vret hx hb hr (fun t ht hW => ⟨⟨u, rfl, h, by rw [ht]; exact hP, va_K.moved hW.alike hK, hD⟩, hS.F ht⟩) hS.2.2 hdg hlk
end CALLS
/-- what the tables say of a field that is read, and of one that is written -/
def FG (own : String) (idx ci k : Nat) (C : String) (T : u_T) (N : Nat) : Prop := vwCl[ci]? = some (C, T, N) ∧ k < N ∧ (∀ w ∈ u_ws C T N, w ∈ lw_g) ∧ Cond.fieldLink own idx (T k).1 (T k).2.1 (T k).2.2.1 ∈ lw_g
def FP (own : String) (idx ci k : Nat) (C : String) (T : u_T) (N : Nat) (ty : Nat → FieldType) : Prop := FG own idx ci k C T N ∧ (∀ k, k < N → parseFieldDescriptor (T k).2.2.1 = some (ty k)) ∧ (∀ a, a < N → ∀ b, b < N → a ≠ b → (T a).2.1 ≠ (T b).2.1)
section ROWS
variable {p : Program} {l : Launch} {e : Env} {R : Room} {s : State} {m : MethodId} {args : Array Value} {below : List Frame} {meth : Method} {c : Code} {H : Heap} {locs : List Loc} {cells slots : Nat} {Q : State → Prop}
variable {own C : String} {cc : ByteArray} {nL : Nat} {ret : Option FieldType} {g : GG} {A : Nat → Prop} {ws : va_W} {pc : Nat} {ls : Array Slot} {rest : List Value}
variable {idx ci k N a : Nat} {T : u_T} {ty : Nat → FieldType} {fs : List Value} {v : Value} {n : Nat} {f : Nat → Int32} {i x : Int32}
theorem InM.get (hI : InM p s m args meth c own cc nL ret g A) (hw : Wd g A s ws H locs) (hf : FG own idx ci k C T N) (q0 : Nat) (he : ws[q0]? = some (a, .inr (ci, fs))) (hv : fs[k]? = some v) (hdg : decode cc pc = .ok (.getfield idx, 3))
    (kk : W p l e R s m args below meth c H locs cells slots Q (F0 m (pc + 3) ls (v :: rest))) : W p l e R s m args below meth c H locs cells slots Q (F0 m pc ls (.ref a :: rest)) := by
  obtain ⟨hx, hb, hml, hown, hts, hr, hlk, hK, hA, hZ⟩ := hI
  obtain ⟨hc, hk, hlay, hln⟩ := hf
  exact va_get hx hb hts hlay hown hK hw.1 q0 he hc k hk (hts _ hln) (fun _ h => h) hv hdg kk
theorem InM.put (hI : InM p s m args meth c own cc nL ret g A) (hw : Wd g A s ws H locs) (hf : FP own idx ci k C T N ty) (hfin : (T k).2.2.2 = false) (q0 : Nat) (he : ws[q0]? = some (a, .inr (ci, fs))) (hn : narrow (ty k) v = v) (hfit : fits (ty k) v = true) (hl : k < fs.length) (hdg : decode cc pc = .ok (.putfield idx, 3))
    (kk : ∀ (H1 : Heap) (locs1 : List Loc), Wd g A s (ws.set q0 (a, .inr (ci, fs.set k v))) H1 locs1 → W p l e R s m args below meth c H1 locs1 cells slots Q (F0 m (pc + 3) ls rest)) : W p l e R s m args below meth c H locs cells slots Q (F0 m pc ls (v :: .ref a :: rest)) := by
  obtain ⟨hx, hb, hml, hown, hts, hr, hlk, hK, hA, hZ⟩ := hI
  obtain ⟨⟨hc, hk, hlay, hln⟩, hty, hnm⟩ := hf
  exact va_put hx hb hts hlay ty hty hnm hown hK hw.1 hw.2.1 hw.2.2 q0 he hc k hk (hts _ hln) (fun _ h => h) hfin (hty k hk) hn hfit hl hdg (fun H1 l1 h1 h2 h3 => kk H1 l1 ⟨h1, h2, h3⟩)
theorem InM.putF (hI : InM p s m args meth c own cc nL ret g A) (hin : meth.name = "<init>") (hw : Wd g A s ws H locs) (hf : FP own idx ci k C T N ty) (hfin : (T k).2.2.2 = true) (hdecl : (T k).1 = own) (q0 : Nat) (he : ws[q0]? = some (a, .inr (ci, fs))) (hn : narrow (ty k) v = v) (hfit : fits (ty k) v = true) (hl : k < fs.length) (hdg : decode cc pc = .ok (.putfield idx, 3))
    (kk : ∀ (H1 : Heap) (locs1 : List Loc), Wd g A s (ws.set q0 (a, .inr (ci, fs.set k v))) H1 locs1 → W p l e R s m args below meth c H1 locs1 cells slots Q (F0 m (pc + 3) ls rest)) : W p l e R s m args below meth c H locs cells slots Q (F0 m pc ls (v :: .ref a :: rest)) := by
  obtain ⟨hx, hb, hml, hown, hts, hr, hlk, hK, hA, hZ⟩ := hI
  obtain ⟨⟨hc, hk, hlay, hln⟩, hty, hnm⟩ := hf
  exact va_putF hx hb hts hlay ty hty hnm hown hK hw.1 hw.2.1 hw.2.2 q0 he hc k hk (hts _ hln) (fun _ h => h) hfin hin hdecl (hty k hk) hn hfit hl hdg (fun H1 l1 h1 h2 h3 => kk H1 l1 ⟨h1, h2, h3⟩)
theorem InM.iald (hI : InM p s m args meth c own cc nL ret g A) (hw : Wd g A s ws H locs) (q0 : Nat) (ha : ws[q0]? = some (a, .inl (g.2.1, n, .inl f))) (hin : vp_in i n) (hdg : decode cc pc = .ok (.iaload, 1))
    (kk : W p l e R s m args below meth c H locs cells slots Q (F0 m (pc + 1) ls (.int (f i.toNatClampNeg) :: rest))) : W p l e R s m args below meth c H locs cells slots Q (F0 m pc ls (.int i :: .ref a :: rest)) := by
  obtain ⟨hx, hb, hml, hown, hts, hr, hlk, hK, hA, hZ⟩ := hI
  exact va_iald hx hb hK hw.1 q0 0 ha rfl hin hdg kk
theorem InM.zald (hI : InM p s m args meth c own cc nL ret g A) (hw : Wd g A s ws H locs) (q0 : Nat) (ha : ws[q0]? = some (a, .inl (g.2.2, n, .inl f))) (hin : vp_in i n) (hdg : decode cc pc = .ok (.baload, 1))
    (kk : W p l e R s m args below meth c H locs cells slots Q (F0 m (pc + 1) ls (.int (f i.toNatClampNeg) :: rest))) : W p l e R s m args below meth c H locs cells slots Q (F0 m pc ls (.int i :: .ref a :: rest)) := by
  obtain ⟨hx, hb, hml, hown, hts, hr, hlk, hK, hA, hZ⟩ := hI
  exact va_zald hx hb hK hw.1 q0 1 ha rfl hin hdg kk
theorem InM.iast (hI : InM p s m args meth c own cc nL ret g A) (hw : Wd g A s ws H locs) (q0 : Nat) (ha : ws[q0]? = some (a, .inl (g.2.1, n, .inl f))) (hin : vp_in i n) (hdg : decode cc pc = .ok (.iastore, 1))
    (kk : ∀ (H1 : Heap) (locs1 : List Loc), Wd g A s (ws.set q0 (a, .inl (g.2.1, n, .inl (upd f i.toNatClampNeg x)))) H1 locs1 → W p l e R s m args below meth c H1 locs1 cells slots Q (F0 m (pc + 1) ls rest)) : W p l e R s m args below meth c H locs cells slots Q (F0 m pc ls (.int x :: .int i :: .ref a :: rest)) := by
  obtain ⟨hx, hb, hml, hown, hts, hr, hlk, hK, hA, hZ⟩ := hI
  exact va_iast hx hb hK hw.1 hw.2.1 hw.2.2 q0 0 ha rfl hin hdg (fun H1 l1 h1 h2 h3 => kk H1 l1 ⟨h1, h2, h3⟩)
theorem InM.zast (hI : InM p s m args meth c own cc nL ret g A) (hw : Wd g A s ws H locs) (q0 : Nat) (ha : ws[q0]? = some (a, .inl (g.2.2, n, .inl f))) (hin : vp_in i n) (hdg : decode cc pc = .ok (.bastore, 1))
    (kk : ∀ (H1 : Heap) (locs1 : List Loc), Wd g A s (ws.set q0 (a, .inl (g.2.2, n, .inl (upd f i.toNatClampNeg (vp_nar .boolean x))))) H1 locs1 → W p l e R s m args below meth c H1 locs1 cells slots Q (F0 m (pc + 1) ls rest)) : W p l e R s m args below meth c H locs cells slots Q (F0 m pc ls (.int x :: .int i :: .ref a :: rest)) := by
  obtain ⟨hx, hb, hml, hown, hts, hr, hlk, hK, hA, hZ⟩ := hI
  exact va_zast hx hb hK hw.1 hw.2.1 hw.2.2 q0 1 ha rfl hin hdg (fun H1 l1 h1 h2 h3 => kk H1 l1 ⟨h1, h2, h3⟩)
theorem InM.alenI (hI : InM p s m args meth c own cc nL ret g A) (hw : Wd g A s ws H locs) (q0 : Nat) (ha : ws[q0]? = some (a, .inl (g.2.1, n, .inl f))) (hdg : decode cc pc = .ok (.arraylength, 1))
    (kk : W p l e R s m args below meth c H locs cells slots Q (F0 m (pc + 1) ls (.int (nI n) :: rest))) : W p l e R s m args below meth c H locs cells slots Q (F0 m pc ls (.ref a :: rest)) := by
  obtain ⟨hx, hb, hml, hown, hts, hr, hlk, hK, hA, hZ⟩ := hI
  exact va_alen hx hb hK hw.1 q0 0 ha rfl rfl hdg kk
theorem InM.widths (hI : InM p s m args meth c own cc nL ret g A) (hw : Wd g A s ws H locs) (hln : Cond.fieldLink own idx RX1 "WIDTHS" "[I" ∈ lw_g) (hdg : decode cc pc = .ok (.getstatic idx, 3))
    (kk : ∀ t : Nat, va_T .int t 32 wdV A s s.heap → W p l e R s m args below meth c H locs cells slots Q (F0 m (pc + 3) ls (.ref t :: rest))) : W p l e R s m args below meth c H locs cells slots Q (F0 m pc ls rest) := by
  obtain ⟨hx, hb, hml, hown, hts, hr, hlk, hK, hA, t, hZ, hT⟩ := hI
  exact va_gets hx hb hZ hw.2.2 hown (hts _ hln) (fun _ h => h) hdg (kk t hT)
end ROWS
theorem vin_c {x : Int32} {n : Nat} (h1 : ¬ x < 0) (h2 : ¬ nI n ≤ x) (hn : n < 2 ^ 31) : vp_in x n := by
  obtain ⟨j, hj, rfl⟩ := nI_of h1
  refine vp_in_nI (Nat.lt_of_not_le fun h => h2 (nI_le h hj)) hn
