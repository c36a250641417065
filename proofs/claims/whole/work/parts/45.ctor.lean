/-! constructors: cells are made -/
def rmC (k mc ms : Nat) : Room := { frames := k, cells := mc, slots := ms, locals := 40 * k }
theorem rm_okC {a b mc ms nL : Nat} (h : a + 1 ≤ b) (hn : nL ≤ 21) : RoomOk (rmN a) (rmC b mc ms) nL := ⟨rfl, rfl, h, by show 8 + (nL + 11) + 40 * a ≤ 40 * b; omega⟩
def CN {S : Type} (l : Launch) (g : GG) (y : MethodName) (b : ByteArray) (nL : Nat) (rm : Room) (mc ms : Nat) (av : List Value) (w0 : va_W) (wl : S → va_W) : Prop :=
  ∀ sz : Nat, Met l y (wsM y b nL none) rm (va_Pc av (PreC g (fun _ : Unit => w0) () sz)) (va_Qv (fun _ : S => True) (BE g wl (va_A w0 sz)) (va_A w0 sz)) mc ms (va_A w0 sz)
def QN {S : Type} (g : GG) (wl : S → va_W) (A : Nat → Prop) (mc ms : Nat) (below : List Frame) (args : Array Value) (s : State) : State → Prop := MQ below (va_Qv (fun _ : S => True) (BE g wl A) A) args s mc ms A
theorem CN.mk {S : Type} {l : Launch} {g : GG} {y : MethodName} {b : ByteArray} {nL : Nat} {rm : Room} {mc ms : Nat} {av : List Value} {w0 : va_W} {wl : S → va_W} (hy : plainName y.cls = true) (hyn : y.name = "<init>") (hn : (lg_sl av).length ≤ nL)
    (body : ∀ (p : Program) (e : Env) (s : State) (m : MethodId) (below : List Frame) (meth : Method) (c : Code) (A : Nat → Prop) (ls : Array Slot), InM p s m av.toArray meth c y.cls b nL none g A → meth.name = "<init>" → Wd g A s w0 s.heap [] → lv_has ls nL (lv_args 0 av) → W p l e rm s m av.toArray below meth c s.heap [] 0 0 (QN g wl A mc ms below av.toArray s) (F0 m 0 ls [])) : CN l g y b nL rm mc ms av w0 wl := by
  intro sz
  refine Met.ofW (cc := b) (maxL := nL) (ret := none) hy rfl ?_
  intro p e s m args below meth c s₁ B hml hv
  obtain ⟨rfl, hv⟩ := hv
  have hsz := hv.1
  subst hsz
  have hin : meth.name = "<init>" := by rw [← hyn]; exact (name_of_methodNamed B.named B.method).1
  obtain ⟨h1, h2⟩ := bd_in B hml hv
  rw [lg_entry_eq]
  exact body p e s m below meth c _ _ h1 hin h2 (lv_entry av hn)
def CalI (y : MethodName) (b : ByteArray) (nL n : Nat) : Prop := Cond.instanceMethod y ∈ lw_g ∧ Cond.initialized y.cls ∈ lw_g ∧ Cond.code y b nL none ∈ lw_g ∧ y.name = "<init>" ∧ (y.cls ≠ "java/lang/invoke/MethodHandle" ∧ y.cls ≠ "java/lang/invoke/VarHandle" ∧ (parseMethodDescriptor y.desc).map (fun d => d.parameters.length) = some n)
section CTOR
variable {p : Program} {l : Launch} {e : Env} {R : Room} {s : State} {m : MethodId} {args : Array Value} {below : List Frame} {meth : Method} {c : Code} {H : Heap} {locs : List Loc} {cells slots : Nat} {Q : State → Prop}
variable {own C : String} {cc : ByteArray} {nL : Nat} {ret : Option FieldType} {g : GG} {A : Nat → Prop} {ws : va_W} {pc : Nat} {ls : Array Slot} {rest st0 As : List Value}
variable {idx ci N : Nat} {T : u_T} {ty : Nat → FieldType} {fs : List Value}
theorem InM.callN (hI : InM p s m args meth c own cc nL ret g A) (hw : Wd g A s ws H locs) {S : Type} {wl : S → va_W} {w0 : va_W} {y : MethodName} {b : ByteArray} {nLy n mc ms o : Nat} {rm : Room} (hM : CN l g y b nLy rm mc ms (.ref o :: As) w0 wl) (ok : CalI y b nLy n) (hl : Cond.methodLink own idx y ∈ lw_g) (hR : rm.cells = mc ∧ rm.slots = ms ∧ rm.frames + 1 ≤ R.frames ∧ 8 + (nLy + 11) + rm.locals ≤ R.locals) (isC isR : List Nat) (hp : okP isC isR [] = true) (hnC : va_nd isC = true) {wr : va_W} (hC : isC.map (fun i => ws[i]?) = w0.map some) (hRr : isR.map (fun i => ws[i]?) = wr.map some)
    (hst : st0 = As.reverse ++ .ref o :: rest) (hn : As.length = n) (hsz : ls.size = nL) (hrest : (rest.map fun v => v.category).sum ≤ 8) (hdg : decode cc pc = .ok (.invokespecial idx, 3)) (hcs : cells + mc ≤ R.cells ∧ slots + ms ≤ R.slots)
    (kk : ∀ (u : S) (H1 : Heap) (locs1 : List Loc), Wd g A s (wr ++ wl u) H1 locs1 → W p l e R s m args below meth c H1 locs1 (cells + mc) (slots + ms) Q (F0 m (pc + 3) ls rest)) : W p l e R s m args below meth c H locs cells slots Q (F0 m pc ls st0) := by
  obtain ⟨hx, hb, hml, hown, hts, hr, hlk, hK, hA, hZ⟩ := id hI
  obtain ⟨hnR, hdis, -⟩ := okP_spec hp
  obtain ⟨hFc, hpre⟩ := hI.pre (wl := fun _ : Unit => w0) (a := ()) hw isC hnC hC
  obtain ⟨k1, k2, k3, k4, k5⟩ := ok
  refine va_callv (va_runI (As := As) (rest := rest) ⟨hx, hb, hml, hown, hts⟩ (hM H.size) (cwI n hts (gi_cons k3 lw_goodIn) rfl hR.1 hR.2.1 (hts _ k2) (hts _ hl) (hts _ k1) k4 k5 hR.2.2) ⟨PreC.blind, fun U hU hW => ⟨rfl, hpre U hU hW⟩⟩ rfl hn hsz hst (lv_room hrest) hdg hcs) hw.2.2 (fun q _ h => hFc q h) hFc (fun u t H1 locs1 ht hvm hr' hB' hz1 hk1 hS1 => ?_)
  obtain ⟨hP1, hK1, hD1⟩ := hB'
  rw [ht] at hP1
  obtain ⟨hP2, hD2⟩ := va_join hw.1 hw.2.1 isC isR hC hRr hnR hdis hk1 hFc hP1 hD1
  exact kk u H1 locs1 ⟨hP2, hD2, hS1⟩
theorem InM.new (hI : InM p s m args meth c own cc nL ret g A) (hw : Wd g A s ws H locs) (hlay : ∀ w ∈ u_ws C T N, w ∈ lw_g) (hty : ∀ k, k < N → parseFieldDescriptor (T k).2.2.1 = some (ty k)) (hcl : Cond.classLink own idx C ∈ lw_g) (hinst : Cond.instantiable C N ∈ lw_g) (hini : Cond.initialized C ∈ lw_g) (hc : vwCl[ci]? = some (C, T, N)) (hfs : ∀ j, j < N → defaultValue (ty j) = vp_V fs j) (hcells : cells + 1 ≤ R.cells) (hslots : slots + N ≤ R.slots) (hdg : decode cc pc = .ok (.new idx, 3))
    (kk : ∀ (q : Nat) (H1 : Heap), Wd g A s (ws ++ [(q, .inr (ci, fs))]) H1 locs → W p l e R s m args below meth c H1 locs (cells + 1) (slots + N) Q (F0 m (pc + 3) ls (.ref q :: rest))) : W p l e R s m args below meth c H locs cells slots Q (F0 m pc ls rest) := by
  obtain ⟨hx, hb, hml, hown, hts, hr, hlk, hK, hA, hZ⟩ := hI
  exact va_new hx hb hts hlay ty hty hown (hts _ hcl) (hts _ hinst) (hts _ hini) hK hw.1 hw.2.1 hw.2.2 hA hc hfs hcells hslots hdg (fun q H1 h1 h2 h3 => kk q H1 ⟨h1, h2, h3⟩)
theorem InM.newI (hI : InM p s m args meth c own cc nL ret g A) (hw : Wd g A s ws H locs) (harr : Cond.arrayClass .int ∈ lw_g) {n : Int32} {N : Nat} (hn : ¬ n < 0) (hN : n.toNatClampNeg = N) (hbytes : N ≤ 100000) (hcells : cells + 1 ≤ R.cells) (hslots : slots + N ≤ R.slots) (hdg : decode cc pc = .ok (.newarray .int, 2))
    (kk : ∀ (q : Nat) (H1 : Heap), Wd g A s (ws ++ [(q, .inl (g.2.1, N, .inl (fun _ => 0)))]) H1 locs → W p l e R s m args below meth c H1 locs (cells + 1) (slots + N) Q (F0 m (pc + 2) ls (.ref q :: rest))) : W p l e R s m args below meth c H locs cells slots Q (F0 m pc ls (.int n :: rest)) := by
  obtain ⟨hx, hb, hml, hown, hts, hr, hlk, hK, hA, hZ⟩ := hI
  refine va_newa (atype := .int) (a0 := (N, .inl (fun _ => 0))) hx hb (hts _ harr) (ty := .int) rfl hK hw.1 hw.2.1 hw.2.2 hA (fun _ => rfl) hn hN (by show N * 4 ≤ 536870912; omega) hcells hslots hdg (fun q cA H1 h0 h1 h2 h3 => ?_)
  have e1 : s.vm.findClass ("[" ++ (FieldType.int).toString) = some g.2.1 := (hK.2 0 (g.2.1, .int) rfl).2
  have e2 : s.vm.findClass ("[" ++ (FieldType.int).toString) = some cA := (h0.2 2 (cA, .int) rfl).2
  have e3 : cA = g.2.1 := Option.some.inj (e2.symm.trans e1)
  subst e3
  exact kk q H1 ⟨h1, h2, h3⟩
theorem InM.newZ (hI : InM p s m args meth c own cc nL ret g A) (hw : Wd g A s ws H locs) (harr : Cond.arrayClass .boolean ∈ lw_g) {n : Int32} {N : Nat} (hn : ¬ n < 0) (hN : n.toNatClampNeg = N) (hbytes : N ≤ 100000) (hcells : cells + 1 ≤ R.cells) (hslots : slots + N ≤ R.slots) (hdg : decode cc pc = .ok (.newarray .boolean, 2))
    (kk : ∀ (q : Nat) (H1 : Heap), Wd g A s (ws ++ [(q, .inl (g.2.2, N, .inl (fun _ => 0)))]) H1 locs → W p l e R s m args below meth c H1 locs (cells + 1) (slots + N) Q (F0 m (pc + 2) ls (.ref q :: rest))) : W p l e R s m args below meth c H locs cells slots Q (F0 m pc ls (.int n :: rest)) := by
  obtain ⟨hx, hb, hml, hown, hts, hr, hlk, hK, hA, hZ⟩ := hI
  refine va_newa (atype := .boolean) (a0 := (N, .inl (fun _ => 0))) hx hb (hts _ harr) (ty := .boolean) rfl hK hw.1 hw.2.1 hw.2.2 hA (fun _ => rfl) hn hN (by show N * 1 ≤ 536870912; omega) hcells hslots hdg (fun q cA H1 h0 h1 h2 h3 => ?_)
  have e1 : s.vm.findClass ("[" ++ (FieldType.boolean).toString) = some g.2.2 := (hK.2 1 (g.2.2, .boolean) rfl).2
  have e2 : s.vm.findClass ("[" ++ (FieldType.boolean).toString) = some cA := (h0.2 2 (cA, .boolean) rfl).2
  have e3 : cA = g.2.2 := Option.some.inj (e2.symm.trans e1)
  subst e3
  exact kk q H1 ⟨h1, h2, h3⟩
theorem InM.objInit (hI : InM p s m args meth c own cc nL ret g A) (hl : Cond.methodLink own idx objectInit ∈ lw_g) (hi : Cond.instanceMethod objectInit ∈ lw_g) (hc : Cond.code objectInit ⟨#[0xb1]⟩ 1 none ∈ lw_g) {a : Nat} (hsz : ls.size = nL) (hdg : decode cc pc = .ok (.invokespecial idx, 3)) (h1 : 1 ≤ R.frames) (h2 : (rest.map fun v => v.category).sum + 12 ≤ R.locals)
    (kk : W p l e R s m args below meth c H locs cells slots Q (F0 m (pc + 3) ls rest)) : W p l e R s m args below meth c H locs cells slots Q (F0 m pc ls (.ref a :: rest)) := by
  obtain ⟨hx, hb, hml, hown, hts, hr, hlk, hK, hA, hZ⟩ := hI
  exact W.objInit hx hb hown (hts _ hl) (hts _ hi) (hts _ hc) rfl (by rw [hml]; exact hsz) rfl hdg h1 (by simpa using h2) kk
theorem InM.retN (hI : InM p s m args meth c own cc nL none g A) {S : Type} {wl : S → va_W} {mc ms : Nat} (u : S) (hw : Wd g A s (wl u) H locs) (hc : cells ≤ mc) (hs : slots ≤ ms) (hdg : decode cc pc = .ok (.return_, 1)) : W p l e R s m args below meth c H locs cells slots (QN g wl A mc ms below args s) (F0 m pc ls []) := by
  obtain ⟨hx, hb, hml, hown, hts, hr, hlk, hK, hA, hZ⟩ := hI
  obtain ⟨hP, hD, hS⟩ := hw
  refine W.widen (k := mc) (n := ms) hc hs ?_
  exact W.vret hx hb hr (fun t ht hW => ⟨⟨u, rfl, trivial, by rw [ht]; exact hP, va_K.moved hW.alike hK, hD⟩, hS.F ht⟩) hS.2.2 hdg hlk
end CTOR
theorem max_nI {n : Nat} (h : n < 2 ^ 31) : f_J9_max (nI n) 0 = nI n := by
  unfold f_J9_max
  exact if_neg (nI_pos h)
