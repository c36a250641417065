def R_law : String := "SteadyCompilerLaw"
def lw_P (b : Addr) (xs : List Int32) (args : Array Value) (s : State) : Prop := args = #[.ref b] ∧ s.IntsAt b xs ∧ xs.length ≤ 2048 ∧ (Jvm.Cond.and given_1 narrow_1).before args s = true
def lw_Q (_ : Array Value) (s : State) (o : Outcome) (t : State) : Prop := o = .returned (some (.int 1)) ∧ Framed s o t [] 600000 7302250
def lw_Z (below : List Frame) (a : Array Value) (s : State) : State → Prop := fun t => ∃ o, t.status = .running ∧ Ended t below o ∧ lw_Q a s o t
/-- the law's own end, with 1 on the stack, nothing written that was there before, its room as the claim has it -/
theorem lw_ret {p : Program} {l : Launch} {e : Env} {s : State} {m : MethodId} {below : List Frame} {meth : Method} {c : Code} {b : Nat} (hx : p.tables.exec = Jvm.exec) (hb : c.code = code) (hr : meth.sig.returnType = ret) (hlocks : meth.locks = false) {pc : Nat} {H : Heap} {ls : Array Slot} (hdg : decode code pc = .ok (.ireturn, 1)) : W p l e room_1 s m #[Value.ref b] below meth c H [] 600000 7302250 (lw_Z below #[Value.ref b] s) (F0 m pc ls [.int 1]) := by
  intro T hT X
  obtain ⟨fs, hret, hrun, hended, hW, hframe⟩ := X.leave (v := some (.int 1)) (hlocks := hlocks) (fun h => by rw [hr] at h; cases h)
  have hmeth' : T.vm.method? m = some meth := X.method'
  refine ⟨T.setFrames fs, ?_, .returned (some (.int 1)), hrun, hended, rfl, ⟨_, rfl⟩, hW, hframe⟩
  jvm_step X.here [X.here.top, hx, hb, hdg, hmeth', hr, ret, narrow_b1]
  (try refine ⟨rfl, ?_⟩); (try refine ⟨rfl, ?_⟩)
  first | (intro acts; rw [hret _ acts rfl rfl rfl]) | rw [hret _ _ rfl rfl rfl]
  exact Steps.refl _
/-- what holds at the law's entry: the machine, the code, the tables' words (any of lw_tbl by 'hts w (by decide +kernel)'), the script of L ints xs at the cell b, what the Statement gives of the start (any of its parts by flat_of_before) -/
def lw_At (p : Program) (s : State) (m : MethodId) (meth : Method) (c : Code) (b L : Nat) (xs : Nat → Int32) : Prop :=
  p.tables.exec = Jvm.exec ∧ c.code = code ∧ meth.sig.returnType = ret ∧ c.maxLocals = 4 ∧ s.vm.findClass R_law = some m.cls ∧ (∀ w ∈ lw_tbl, w.before #[Value.ref b] s = true) ∧ va_X b L xs s s.heap ∧ b < s.heap.size ∧ meth.locks = false ∧ (Jvm.Cond.and given_1 narrow_1).before #[Value.ref b] s = true
theorem rm_ok1 {a nL : Nat} (h : a ≤ 2000) (hn : nL ≤ 21) : RoomOk (rmN a) room_1 nL := ⟨rfl, rfl, by show a + 1 ≤ 2048; omega, by show 8 + (nL + 11) + 40 * a ≤ 84000; omega⟩
theorem lg_cmp_self (x : Int64) : lg_cmp x x = 0 := by simp [lg_cmp]
def Ag {α : Type} (Rel : S_SC → S_Mdl → Prop) (mk : Prop) (c : α × S_SC) (m : α × S_Mdl) : Prop := mk ∧ c.1 = m.1 ∧ Rel c.2 m.2
def wL (h : Nat) (q : Nat → Nat) (xa : Nat → Nat) (xb : Nat → Nat) (tc : Nat → Nat) (tt : Nat → Nat) (z : Nat) (tr : Nat → Nat) (ar : Nat) (ac : Nat) (u : Nat → Nat) (aw : Nat) (a : Nat → Nat) (g : GG) (σ : S_SC) (μ : S_Mdl) : va_W := w_SC h q xa xb tc tt z tr ar ac u aw g σ ++ w_Mdl a g μ
set_option maxHeartbeats 4000000 in
set_option maxRecDepth 100000 in
theorem lc_variable (l : Launch) {p : Program} {e : Env} {s : State} {m : MethodId} {below : List Frame} {meth : Method} {c : Code} {g : GG} {A : Nat → Prop} {rt : Option FieldType} {b L : Nat} {xs : Nat → Int32} {Q : State → Prop} (Rel : S_SC → S_Mdl → Prop) (h : Nat) (q : Nat → Nat) (xa : Nat → Nat) (xb : Nat → Nat) (tc : Nat → Nat) (tt : Nat → Nat) (z : Nat) (tr : Nat → Nat) (ar : Nat) (ac : Nat) (u : Nat → Nat) (aw : Nat) (a : Nat → Nat) (hI : InM p s m #[Value.ref b] meth c RL cL_law 4 rt g A) (hX : va_X b L xs s s.heap) (hbl : b < s.heap.size) (hbA : ¬ A b) (σ : S_SC) (μ : S_Mdl) (hag : ∀ x1 x2 : Int32, Ag Rel (mK_variable μ x1 x2) (cS_variable σ x1 x2) (mS_variable μ x1 x2)) {H : Heap} {locs : List Loc} (hw : Wd g A s (wL h q xa xb tc tt z tr ar ac u aw a g σ μ) H locs) {ls : Array Slot} {y3 : Int32} (hl : lv_has ls 4 [(3, .int y3), (2, .ref (a 0)), (1, .ref h), (0, .ref b)]) (h1 : vp_in (y3 + (1 : Int32)) L) (h2 : vp_in (y3 + (2 : Int32)) L) (h3 : vp_in (y3 + (3 : Int32)) L) (next : ∀ (σ : S_SC) (μ : S_Mdl) (H : Heap) (locs : List Loc), Wd g A s (wL h q xa xb tc tt z tr ar ac u aw a g σ μ) H locs → Rel σ μ → W p l e room_1 s m #[Value.ref b] below meth c H locs 600000 7302250 Q (F0 m 533 ls [])) : W p l e room_1 s m #[Value.ref b] below meth c H locs 600000 7302250 Q (F0 m 112 ls []) := by
  have hx := hI.1
  have hb := hI.2.1
  refine lv_aload_n hx hb dL_law_112 rfl (lv_at hl 2 rfl) ?_
  refine lv_aload_n hx hb dL_law_113 rfl (lv_at hl 3 rfl) ?_
  refine lv_iload_n hx hb dL_law_114 rfl (lv_at hl 0 rfl) ?_
  refine lv_iconst (v := (1 : Int32)) hx hb dL_law_115 (by decide) ?_
  refine lv_iadd hx hb dL_law_116 ?_
  refine va_sld hx hb hX hbl hbA hw.2.2 h1 dL_law_117 ?_
  refine lv_aload_n hx hb dL_law_118 rfl (lv_at hl 3 rfl) ?_
  refine lv_iload_n hx hb dL_law_119 rfl (lv_at hl 0 rfl) ?_
  refine lv_iconst (v := (2 : Int32)) hx hb dL_law_120 (by decide) ?_
  refine lv_iadd hx hb dL_law_121 ?_
  refine va_sld hx hb hX hbl hbA hw.2.2 h2 dL_law_122 ?_
  refine lv_if_eq (tgt := 130) hx hb dL_law_123 (by decide) (fun c1 => ?_) (fun c1 => ?_)
  · refine lv_iconst (v := (0 : Int32)) hx hb dL_law_130 (by decide) ?_
    obtain ⟨hq1, hq2, hq3⟩ := hag (xs (y3 + (1 : Int32)).toNatClampNeg) (0 : Int32)
    refine hI.callI (wl := w_SC h q xa xb tc tt z tr ar ac u aw g) (a := σ) (wr := w_Mdl a g μ) (ws1 := wL h q xa xb tc tt z tr ar ac u aw a g (cS_variable σ (xs (y3 + (1 : Int32)).toNatClampNeg) (0 : Int32)).2 μ) (r := cS_variable σ (xs (y3 + (1 : Int32)).toNatClampNeg) (0 : Int32)) (As := [.int (xs (y3 + (1 : Int32)).toNatClampNeg), .int (0 : Int32)]) (rest := []) hw (kC_variable l g h q xa xb tc tt z tr ar ac u aw σ (xs (y3 + (1 : Int32)).toNatClampNeg) (0 : Int32)) ok_yX9_variable ml_L_13 (rm_ok1 (by decide) (by decide)) [0, 1, 2, 3, 4, 5, 6, 7, 8, 9, 10, 11, 12, 13, 14, 15, 16, 17, 18, 19, 20, 21, 22, 23, 24, 25, 26, 27, 28, 29, 30] [31, 32, 33, 34, 35, 36, 37, 38, 39, 40, 41, 42, 43, 44] [14, 15, 16, 17, 18, 19, 20, 21, 22, 23, 24, 25, 26, 27, 28, 29, 30, 31, 32, 33, 34, 35, 36, 37, 38, 39, 40, 41, 42, 43, 44, 0, 1, 2, 3, 4, 5, 6, 7, 8, 9, 10, 11, 12, 13] rfl rfl rfl rfl rfl 0 rfl rfl rfl rfl hl.1 (Nat.le_of_ble_eq_true rfl) dL_law_131 ⟨Nat.le_refl _, Nat.le_refl _⟩ (fun H locs hw => ?_)
    refine lv_aload_n hx hb dL_law_134 rfl (lv_at hl 1 rfl) ?_
    refine lv_aload_n hx hb dL_law_135 rfl (lv_at hl 3 rfl) ?_
    refine lv_iload_n hx hb dL_law_136 rfl (lv_at hl 0 rfl) ?_
    refine lv_iconst (v := (1 : Int32)) hx hb dL_law_137 (by decide) ?_
    refine lv_iadd hx hb dL_law_138 ?_
    refine va_sld hx hb hX hbl hbA hw.2.2 h1 dL_law_139 ?_
    refine lv_aload_n hx hb dL_law_140 rfl (lv_at hl 3 rfl) ?_
    refine lv_iload_n hx hb dL_law_141 rfl (lv_at hl 0 rfl) ?_
    refine lv_iconst (v := (2 : Int32)) hx hb dL_law_142 (by decide) ?_
    refine lv_iadd hx hb dL_law_143 ?_
    refine va_sld hx hb hX hbl hbA hw.2.2 h2 dL_law_144 ?_
    refine lv_if_eq (tgt := 152) hx hb dL_law_145 (by decide) (fun cz => ?_) (fun cz => ?_)
    rotate_left
    · exact absurd c1 cz
    refine lv_iconst (v := (0 : Int32)) hx hb dL_law_152 (by decide) ?_
    refine hI.callI (wl := w_Mdl a g) (a := μ) (wr := w_SC h q xa xb tc tt z tr ar ac u aw g (cS_variable σ (xs (y3 + (1 : Int32)).toNatClampNeg) (0 : Int32)).2) (ws1 := wL h q xa xb tc tt z tr ar ac u aw a g (cS_variable σ (xs (y3 + (1 : Int32)).toNatClampNeg) (0 : Int32)).2 (mS_variable μ (xs (y3 + (1 : Int32)).toNatClampNeg) (0 : Int32)).2) (r := mS_variable μ (xs (y3 + (1 : Int32)).toNatClampNeg) (0 : Int32)) (As := [.int (xs (y3 + (1 : Int32)).toNatClampNeg), .int (0 : Int32)]) (rest := [.int ((cS_variable σ (xs (y3 + (1 : Int32)).toNatClampNeg) (0 : Int32)).1)]) hw (kM_variable l g a μ (xs (y3 + (1 : Int32)).toNatClampNeg) (0 : Int32) hq1) ok_yX10_variable ml_L_17 (rm_ok1 (by decide) (by decide)) [31, 32, 33, 34, 35, 36, 37, 38, 39, 40, 41, 42, 43, 44] [0, 1, 2, 3, 4, 5, 6, 7, 8, 9, 10, 11, 12, 13, 14, 15, 16, 17, 18, 19, 20, 21, 22, 23, 24, 25, 26, 27, 28, 29, 30] [0, 1, 2, 3, 4, 5, 6, 7, 8, 9, 10, 11, 12, 13, 14, 15, 16, 17, 18, 19, 20, 21, 22, 23, 24, 25, 26, 27, 28, 29, 30, 31, 32, 33, 34, 35, 36, 37, 38, 39, 40, 41, 42, 43, 44] rfl rfl rfl rfl rfl 0 rfl rfl rfl rfl hl.1 (Nat.le_of_ble_eq_true rfl) dL_law_153 ⟨Nat.le_refl _, Nat.le_refl _⟩ (fun H locs hw => ?_)
    refine lv_icmp_eq (tgt := 533) hx hb dL_law_156 (by decide) (fun cz => ?_) (fun cz => ?_)
    · exact next _ _ _ _ hw hq3
    · exact absurd hq2 cz
  · refine lv_iconst (v := (1 : Int32)) hx hb dL_law_126 (by decide) ?_
    refine lv_goto (tgt := 131) hx hb dL_law_127 (by decide) ?_
    obtain ⟨hq1, hq2, hq3⟩ := hag (xs (y3 + (1 : Int32)).toNatClampNeg) (1 : Int32)
    refine hI.callI (wl := w_SC h q xa xb tc tt z tr ar ac u aw g) (a := σ) (wr := w_Mdl a g μ) (ws1 := wL h q xa xb tc tt z tr ar ac u aw a g (cS_variable σ (xs (y3 + (1 : Int32)).toNatClampNeg) (1 : Int32)).2 μ) (r := cS_variable σ (xs (y3 + (1 : Int32)).toNatClampNeg) (1 : Int32)) (As := [.int (xs (y3 + (1 : Int32)).toNatClampNeg), .int (1 : Int32)]) (rest := []) hw (kC_variable l g h q xa xb tc tt z tr ar ac u aw σ (xs (y3 + (1 : Int32)).toNatClampNeg) (1 : Int32)) ok_yX9_variable ml_L_13 (rm_ok1 (by decide) (by decide)) [0, 1, 2, 3, 4, 5, 6, 7, 8, 9, 10, 11, 12, 13, 14, 15, 16, 17, 18, 19, 20, 21, 22, 23, 24, 25, 26, 27, 28, 29, 30] [31, 32, 33, 34, 35, 36, 37, 38, 39, 40, 41, 42, 43, 44] [14, 15, 16, 17, 18, 19, 20, 21, 22, 23, 24, 25, 26, 27, 28, 29, 30, 31, 32, 33, 34, 35, 36, 37, 38, 39, 40, 41, 42, 43, 44, 0, 1, 2, 3, 4, 5, 6, 7, 8, 9, 10, 11, 12, 13] rfl rfl rfl rfl rfl 0 rfl rfl rfl rfl hl.1 (Nat.le_of_ble_eq_true rfl) dL_law_131 ⟨Nat.le_refl _, Nat.le_refl _⟩ (fun H locs hw => ?_)
    refine lv_aload_n hx hb dL_law_134 rfl (lv_at hl 1 rfl) ?_
    refine lv_aload_n hx hb dL_law_135 rfl (lv_at hl 3 rfl) ?_
    refine lv_iload_n hx hb dL_law_136 rfl (lv_at hl 0 rfl) ?_
    refine lv_iconst (v := (1 : Int32)) hx hb dL_law_137 (by decide) ?_
    refine lv_iadd hx hb dL_law_138 ?_
    refine va_sld hx hb hX hbl hbA hw.2.2 h1 dL_law_139 ?_
    refine lv_aload_n hx hb dL_law_140 rfl (lv_at hl 3 rfl) ?_
    refine lv_iload_n hx hb dL_law_141 rfl (lv_at hl 0 rfl) ?_
    refine lv_iconst (v := (2 : Int32)) hx hb dL_law_142 (by decide) ?_
    refine lv_iadd hx hb dL_law_143 ?_
    refine va_sld hx hb hX hbl hbA hw.2.2 h2 dL_law_144 ?_
    refine lv_if_eq (tgt := 152) hx hb dL_law_145 (by decide) (fun cz => ?_) (fun cz => ?_)
    · exact absurd cz c1
    refine lv_iconst (v := (1 : Int32)) hx hb dL_law_148 (by decide) ?_
    refine lv_goto (tgt := 153) hx hb dL_law_149 (by decide) ?_
    refine hI.callI (wl := w_Mdl a g) (a := μ) (wr := w_SC h q xa xb tc tt z tr ar ac u aw g (cS_variable σ (xs (y3 + (1 : Int32)).toNatClampNeg) (1 : Int32)).2) (ws1 := wL h q xa xb tc tt z tr ar ac u aw a g (cS_variable σ (xs (y3 + (1 : Int32)).toNatClampNeg) (1 : Int32)).2 (mS_variable μ (xs (y3 + (1 : Int32)).toNatClampNeg) (1 : Int32)).2) (r := mS_variable μ (xs (y3 + (1 : Int32)).toNatClampNeg) (1 : Int32)) (As := [.int (xs (y3 + (1 : Int32)).toNatClampNeg), .int (1 : Int32)]) (rest := [.int ((cS_variable σ (xs (y3 + (1 : Int32)).toNatClampNeg) (1 : Int32)).1)]) hw (kM_variable l g a μ (xs (y3 + (1 : Int32)).toNatClampNeg) (1 : Int32) hq1) ok_yX10_variable ml_L_17 (rm_ok1 (by decide) (by decide)) [31, 32, 33, 34, 35, 36, 37, 38, 39, 40, 41, 42, 43, 44] [0, 1, 2, 3, 4, 5, 6, 7, 8, 9, 10, 11, 12, 13, 14, 15, 16, 17, 18, 19, 20, 21, 22, 23, 24, 25, 26, 27, 28, 29, 30] [0, 1, 2, 3, 4, 5, 6, 7, 8, 9, 10, 11, 12, 13, 14, 15, 16, 17, 18, 19, 20, 21, 22, 23, 24, 25, 26, 27, 28, 29, 30, 31, 32, 33, 34, 35, 36, 37, 38, 39, 40, 41, 42, 43, 44] rfl rfl rfl rfl rfl 0 rfl rfl rfl rfl hl.1 (Nat.le_of_ble_eq_true rfl) dL_law_153 ⟨Nat.le_refl _, Nat.le_refl _⟩ (fun H locs hw => ?_)
    refine lv_icmp_eq (tgt := 533) hx hb dL_law_156 (by decide) (fun cz => ?_) (fun cz => ?_)
    · exact next _ _ _ _ hw hq3
    · exact absurd hq2 cz
set_option maxHeartbeats 4000000 in
set_option maxRecDepth 100000 in
theorem lc_table (l : Launch) {p : Program} {e : Env} {s : State} {m : MethodId} {below : List Frame} {meth : Method} {c : Code} {g : GG} {A : Nat → Prop} {rt : Option FieldType} {b L : Nat} {xs : Nat → Int32} {Q : State → Prop} (Rel : S_SC → S_Mdl → Prop) (h : Nat) (q : Nat → Nat) (xa : Nat → Nat) (xb : Nat → Nat) (tc : Nat → Nat) (tt : Nat → Nat) (z : Nat) (tr : Nat → Nat) (ar : Nat) (ac : Nat) (u : Nat → Nat) (aw : Nat) (a : Nat → Nat) (hI : InM p s m #[Value.ref b] meth c RL cL_law 4 rt g A) (hX : va_X b L xs s s.heap) (hbl : b < s.heap.size) (hbA : ¬ A b) (σ : S_SC) (μ : S_Mdl) (hag : ∀ x1 x2 x3 : Int32, Ag Rel (mK_table μ x1 x2 x3) (cS_table σ x1 x2 x3) (mS_table μ x1 x2 x3)) {H : Heap} {locs : List Loc} (hw : Wd g A s (wL h q xa xb tc tt z tr ar ac u aw a g σ μ) H locs) {ls : Array Slot} {y3 : Int32} (hl : lv_has ls 4 [(3, .int y3), (2, .ref (a 0)), (1, .ref h), (0, .ref b)]) (h1 : vp_in (y3 + (1 : Int32)) L) (h2 : vp_in (y3 + (2 : Int32)) L) (h3 : vp_in (y3 + (3 : Int32)) L) (next : ∀ (σ : S_SC) (μ : S_Mdl) (H : Heap) (locs : List Loc), Wd g A s (wL h q xa xb tc tt z tr ar ac u aw a g σ μ) H locs → Rel σ μ → W p l e room_1 s m #[Value.ref b] below meth c H locs 600000 7302250 Q (F0 m 533 ls [])) : W p l e room_1 s m #[Value.ref b] below meth c H locs 600000 7302250 Q (F0 m 161 ls []) := by
  have hx := hI.1
  have hb := hI.2.1
  refine lv_aload_n hx hb dL_law_161 rfl (lv_at hl 2 rfl) ?_
  refine lv_aload_n hx hb dL_law_162 rfl (lv_at hl 3 rfl) ?_
  refine lv_iload_n hx hb dL_law_163 rfl (lv_at hl 0 rfl) ?_
  refine lv_iconst (v := (1 : Int32)) hx hb dL_law_164 (by decide) ?_
  refine lv_iadd hx hb dL_law_165 ?_
  refine va_sld hx hb hX hbl hbA hw.2.2 h1 dL_law_166 ?_
  refine lv_aload_n hx hb dL_law_167 rfl (lv_at hl 3 rfl) ?_
  refine lv_iload_n hx hb dL_law_168 rfl (lv_at hl 0 rfl) ?_
  refine lv_iconst (v := (2 : Int32)) hx hb dL_law_169 (by decide) ?_
  refine lv_iadd hx hb dL_law_170 ?_
  refine va_sld hx hb hX hbl hbA hw.2.2 h2 dL_law_171 ?_
  refine lv_if_eq (tgt := 179) hx hb dL_law_172 (by decide) (fun c1 => ?_) (fun c1 => ?_)
  · refine lv_iconst (v := (0 : Int32)) hx hb dL_law_179 (by decide) ?_
    refine lv_aload_n hx hb dL_law_180 rfl (lv_at hl 3 rfl) ?_
    refine lv_iload_n hx hb dL_law_181 rfl (lv_at hl 0 rfl) ?_
    refine lv_iconst (v := (3 : Int32)) hx hb dL_law_182 (by decide) ?_
    refine lv_iadd hx hb dL_law_183 ?_
    refine va_sld hx hb hX hbl hbA hw.2.2 h3 dL_law_184 ?_
    obtain ⟨hq1, hq2, hq3⟩ := hag (xs (y3 + (1 : Int32)).toNatClampNeg) (0 : Int32) (xs (y3 + (3 : Int32)).toNatClampNeg)
    refine hI.callI (wl := w_SC h q xa xb tc tt z tr ar ac u aw g) (a := σ) (wr := w_Mdl a g μ) (ws1 := wL h q xa xb tc tt z tr ar ac u aw a g (cS_table σ (xs (y3 + (1 : Int32)).toNatClampNeg) (0 : Int32) (xs (y3 + (3 : Int32)).toNatClampNeg)).2 μ) (r := cS_table σ (xs (y3 + (1 : Int32)).toNatClampNeg) (0 : Int32) (xs (y3 + (3 : Int32)).toNatClampNeg)) (As := [.int (xs (y3 + (1 : Int32)).toNatClampNeg), .int (0 : Int32), .int (xs (y3 + (3 : Int32)).toNatClampNeg)]) (rest := []) hw (kC_table l g h q xa xb tc tt z tr ar ac u aw σ (xs (y3 + (1 : Int32)).toNatClampNeg) (0 : Int32) (xs (y3 + (3 : Int32)).toNatClampNeg)) ok_yX9_table ml_L_18 (rm_ok1 (by decide) (by decide)) [0, 1, 2, 3, 4, 5, 6, 7, 8, 9, 10, 11, 12, 13, 14, 15, 16, 17, 18, 19, 20, 21, 22, 23, 24, 25, 26, 27, 28, 29, 30] [31, 32, 33, 34, 35, 36, 37, 38, 39, 40, 41, 42, 43, 44] [14, 15, 16, 17, 18, 19, 20, 21, 22, 23, 24, 25, 26, 27, 28, 29, 30, 31, 32, 33, 34, 35, 36, 37, 38, 39, 40, 41, 42, 43, 44, 0, 1, 2, 3, 4, 5, 6, 7, 8, 9, 10, 11, 12, 13] rfl rfl rfl rfl rfl 0 rfl rfl rfl rfl hl.1 (Nat.le_of_ble_eq_true rfl) dL_law_185 ⟨Nat.le_refl _, Nat.le_refl _⟩ (fun H locs hw => ?_)
    refine lv_aload_n hx hb dL_law_188 rfl (lv_at hl 1 rfl) ?_
    refine lv_aload_n hx hb dL_law_189 rfl (lv_at hl 3 rfl) ?_
    refine lv_iload_n hx hb dL_law_190 rfl (lv_at hl 0 rfl) ?_
    refine lv_iconst (v := (1 : Int32)) hx hb dL_law_191 (by decide) ?_
    refine lv_iadd hx hb dL_law_192 ?_
    refine va_sld hx hb hX hbl hbA hw.2.2 h1 dL_law_193 ?_
    refine lv_aload_n hx hb dL_law_194 rfl (lv_at hl 3 rfl) ?_
    refine lv_iload_n hx hb dL_law_195 rfl (lv_at hl 0 rfl) ?_
    refine lv_iconst (v := (2 : Int32)) hx hb dL_law_196 (by decide) ?_
    refine lv_iadd hx hb dL_law_197 ?_
    refine va_sld hx hb hX hbl hbA hw.2.2 h2 dL_law_198 ?_
    refine lv_if_eq (tgt := 206) hx hb dL_law_199 (by decide) (fun cz => ?_) (fun cz => ?_)
    rotate_left
    · exact absurd c1 cz
    refine lv_iconst (v := (0 : Int32)) hx hb dL_law_206 (by decide) ?_
    refine lv_aload_n hx hb dL_law_207 rfl (lv_at hl 3 rfl) ?_
    refine lv_iload_n hx hb dL_law_208 rfl (lv_at hl 0 rfl) ?_
    refine lv_iconst (v := (3 : Int32)) hx hb dL_law_209 (by decide) ?_
    refine lv_iadd hx hb dL_law_210 ?_
    refine va_sld hx hb hX hbl hbA hw.2.2 h3 dL_law_211 ?_
    refine hI.callI (wl := w_Mdl a g) (a := μ) (wr := w_SC h q xa xb tc tt z tr ar ac u aw g (cS_table σ (xs (y3 + (1 : Int32)).toNatClampNeg) (0 : Int32) (xs (y3 + (3 : Int32)).toNatClampNeg)).2) (ws1 := wL h q xa xb tc tt z tr ar ac u aw a g (cS_table σ (xs (y3 + (1 : Int32)).toNatClampNeg) (0 : Int32) (xs (y3 + (3 : Int32)).toNatClampNeg)).2 (mS_table μ (xs (y3 + (1 : Int32)).toNatClampNeg) (0 : Int32) (xs (y3 + (3 : Int32)).toNatClampNeg)).2) (r := mS_table μ (xs (y3 + (1 : Int32)).toNatClampNeg) (0 : Int32) (xs (y3 + (3 : Int32)).toNatClampNeg)) (As := [.int (xs (y3 + (1 : Int32)).toNatClampNeg), .int (0 : Int32), .int (xs (y3 + (3 : Int32)).toNatClampNeg)]) (rest := [.int ((cS_table σ (xs (y3 + (1 : Int32)).toNatClampNeg) (0 : Int32) (xs (y3 + (3 : Int32)).toNatClampNeg)).1)]) hw (kM_table l g a μ (xs (y3 + (1 : Int32)).toNatClampNeg) (0 : Int32) (xs (y3 + (3 : Int32)).toNatClampNeg) hq1) ok_yX10_table ml_L_22 (rm_ok1 (by decide) (by decide)) [31, 32, 33, 34, 35, 36, 37, 38, 39, 40, 41, 42, 43, 44] [0, 1, 2, 3, 4, 5, 6, 7, 8, 9, 10, 11, 12, 13, 14, 15, 16, 17, 18, 19, 20, 21, 22, 23, 24, 25, 26, 27, 28, 29, 30] [0, 1, 2, 3, 4, 5, 6, 7, 8, 9, 10, 11, 12, 13, 14, 15, 16, 17, 18, 19, 20, 21, 22, 23, 24, 25, 26, 27, 28, 29, 30, 31, 32, 33, 34, 35, 36, 37, 38, 39, 40, 41, 42, 43, 44] rfl rfl rfl rfl rfl 0 rfl rfl rfl rfl hl.1 (Nat.le_of_ble_eq_true rfl) dL_law_212 ⟨Nat.le_refl _, Nat.le_refl _⟩ (fun H locs hw => ?_)
    refine lv_icmp_eq (tgt := 533) hx hb dL_law_215 (by decide) (fun cz => ?_) (fun cz => ?_)
    · exact next _ _ _ _ hw hq3
    · exact absurd hq2 cz
  · refine lv_iconst (v := (1 : Int32)) hx hb dL_law_175 (by decide) ?_
    refine lv_goto (tgt := 180) hx hb dL_law_176 (by decide) ?_
    refine lv_aload_n hx hb dL_law_180 rfl (lv_at hl 3 rfl) ?_
    refine lv_iload_n hx hb dL_law_181 rfl (lv_at hl 0 rfl) ?_
    refine lv_iconst (v := (3 : Int32)) hx hb dL_law_182 (by decide) ?_
    refine lv_iadd hx hb dL_law_183 ?_
    refine va_sld hx hb hX hbl hbA hw.2.2 h3 dL_law_184 ?_
    obtain ⟨hq1, hq2, hq3⟩ := hag (xs (y3 + (1 : Int32)).toNatClampNeg) (1 : Int32) (xs (y3 + (3 : Int32)).toNatClampNeg)
    refine hI.callI (wl := w_SC h q xa xb tc tt z tr ar ac u aw g) (a := σ) (wr := w_Mdl a g μ) (ws1 := wL h q xa xb tc tt z tr ar ac u aw a g (cS_table σ (xs (y3 + (1 : Int32)).toNatClampNeg) (1 : Int32) (xs (y3 + (3 : Int32)).toNatClampNeg)).2 μ) (r := cS_table σ (xs (y3 + (1 : Int32)).toNatClampNeg) (1 : Int32) (xs (y3 + (3 : Int32)).toNatClampNeg)) (As := [.int (xs (y3 + (1 : Int32)).toNatClampNeg), .int (1 : Int32), .int (xs (y3 + (3 : Int32)).toNatClampNeg)]) (rest := []) hw (kC_table l g h q xa xb tc tt z tr ar ac u aw σ (xs (y3 + (1 : Int32)).toNatClampNeg) (1 : Int32) (xs (y3 + (3 : Int32)).toNatClampNeg)) ok_yX9_table ml_L_18 (rm_ok1 (by decide) (by decide)) [0, 1, 2, 3, 4, 5, 6, 7, 8, 9, 10, 11, 12, 13, 14, 15, 16, 17, 18, 19, 20, 21, 22, 23, 24, 25, 26, 27, 28, 29, 30] [31, 32, 33, 34, 35, 36, 37, 38, 39, 40, 41, 42, 43, 44] [14, 15, 16, 17, 18, 19, 20, 21, 22, 23, 24, 25, 26, 27, 28, 29, 30, 31, 32, 33, 34, 35, 36, 37, 38, 39, 40, 41, 42, 43, 44, 0, 1, 2, 3, 4, 5, 6, 7, 8, 9, 10, 11, 12, 13] rfl rfl rfl rfl rfl 0 rfl rfl rfl rfl hl.1 (Nat.le_of_ble_eq_true rfl) dL_law_185 ⟨Nat.le_refl _, Nat.le_refl _⟩ (fun H locs hw => ?_)
    refine lv_aload_n hx hb dL_law_188 rfl (lv_at hl 1 rfl) ?_
    refine lv_aload_n hx hb dL_law_189 rfl (lv_at hl 3 rfl) ?_
    refine lv_iload_n hx hb dL_law_190 rfl (lv_at hl 0 rfl) ?_
    refine lv_iconst (v := (1 : Int32)) hx hb dL_law_191 (by decide) ?_
    refine lv_iadd hx hb dL_law_192 ?_
    refine va_sld hx hb hX hbl hbA hw.2.2 h1 dL_law_193 ?_
    refine lv_aload_n hx hb dL_law_194 rfl (lv_at hl 3 rfl) ?_
    refine lv_iload_n hx hb dL_law_195 rfl (lv_at hl 0 rfl) ?_
    refine lv_iconst (v := (2 : Int32)) hx hb dL_law_196 (by decide) ?_
    refine lv_iadd hx hb dL_law_197 ?_
    refine va_sld hx hb hX hbl hbA hw.2.2 h2 dL_law_198 ?_
    refine lv_if_eq (tgt := 206) hx hb dL_law_199 (by decide) (fun cz => ?_) (fun cz => ?_)
    · exact absurd cz c1
    refine lv_iconst (v := (1 : Int32)) hx hb dL_law_202 (by decide) ?_
    refine lv_goto (tgt := 207) hx hb dL_law_203 (by decide) ?_
    refine lv_aload_n hx hb dL_law_207 rfl (lv_at hl 3 rfl) ?_
    refine lv_iload_n hx hb dL_law_208 rfl (lv_at hl 0 rfl) ?_
    refine lv_iconst (v := (3 : Int32)) hx hb dL_law_209 (by decide) ?_
    refine lv_iadd hx hb dL_law_210 ?_
    refine va_sld hx hb hX hbl hbA hw.2.2 h3 dL_law_211 ?_
    refine hI.callI (wl := w_Mdl a g) (a := μ) (wr := w_SC h q xa xb tc tt z tr ar ac u aw g (cS_table σ (xs (y3 + (1 : Int32)).toNatClampNeg) (1 : Int32) (xs (y3 + (3 : Int32)).toNatClampNeg)).2) (ws1 := wL h q xa xb tc tt z tr ar ac u aw a g (cS_table σ (xs (y3 + (1 : Int32)).toNatClampNeg) (1 : Int32) (xs (y3 + (3 : Int32)).toNatClampNeg)).2 (mS_table μ (xs (y3 + (1 : Int32)).toNatClampNeg) (1 : Int32) (xs (y3 + (3 : Int32)).toNatClampNeg)).2) (r := mS_table μ (xs (y3 + (1 : Int32)).toNatClampNeg) (1 : Int32) (xs (y3 + (3 : Int32)).toNatClampNeg)) (As := [.int (xs (y3 + (1 : Int32)).toNatClampNeg), .int (1 : Int32), .int (xs (y3 + (3 : Int32)).toNatClampNeg)]) (rest := [.int ((cS_table σ (xs (y3 + (1 : Int32)).toNatClampNeg) (1 : Int32) (xs (y3 + (3 : Int32)).toNatClampNeg)).1)]) hw (kM_table l g a μ (xs (y3 + (1 : Int32)).toNatClampNeg) (1 : Int32) (xs (y3 + (3 : Int32)).toNatClampNeg) hq1) ok_yX10_table ml_L_22 (rm_ok1 (by decide) (by decide)) [31, 32, 33, 34, 35, 36, 37, 38, 39, 40, 41, 42, 43, 44] [0, 1, 2, 3, 4, 5, 6, 7, 8, 9, 10, 11, 12, 13, 14, 15, 16, 17, 18, 19, 20, 21, 22, 23, 24, 25, 26, 27, 28, 29, 30] [0, 1, 2, 3, 4, 5, 6, 7, 8, 9, 10, 11, 12, 13, 14, 15, 16, 17, 18, 19, 20, 21, 22, 23, 24, 25, 26, 27, 28, 29, 30, 31, 32, 33, 34, 35, 36, 37, 38, 39, 40, 41, 42, 43, 44] rfl rfl rfl rfl rfl 0 rfl rfl rfl rfl hl.1 (Nat.le_of_ble_eq_true rfl) dL_law_212 ⟨Nat.le_refl _, Nat.le_refl _⟩ (fun H locs hw => ?_)
    refine lv_icmp_eq (tgt := 533) hx hb dL_law_215 (by decide) (fun cz => ?_) (fun cz => ?_)
    · exact next _ _ _ _ hw hq3
    · exact absurd hq2 cz
set_option maxHeartbeats 4000000 in
set_option maxRecDepth 100000 in
theorem lc_token (l : Launch) {p : Program} {e : Env} {s : State} {m : MethodId} {below : List Frame} {meth : Method} {c : Code} {g : GG} {A : Nat → Prop} {rt : Option FieldType} {b L : Nat} {xs : Nat → Int32} {Q : State → Prop} (Rel : S_SC → S_Mdl → Prop) (h : Nat) (q : Nat → Nat) (xa : Nat → Nat) (xb : Nat → Nat) (tc : Nat → Nat) (tt : Nat → Nat) (z : Nat) (tr : Nat → Nat) (ar : Nat) (ac : Nat) (u : Nat → Nat) (aw : Nat) (a : Nat → Nat) (hI : InM p s m #[Value.ref b] meth c RL cL_law 4 rt g A) (hX : va_X b L xs s s.heap) (hbl : b < s.heap.size) (hbA : ¬ A b) (σ : S_SC) (μ : S_Mdl) (hag : ∀ x1 : Int32, Ag Rel (mK_token μ x1) (cS_token σ x1) (mS_token μ x1)) {H : Heap} {locs : List Loc} (hw : Wd g A s (wL h q xa xb tc tt z tr ar ac u aw a g σ μ) H locs) {ls : Array Slot} {y3 : Int32} (hl : lv_has ls 4 [(3, .int y3), (2, .ref (a 0)), (1, .ref h), (0, .ref b)]) (h1 : vp_in (y3 + (1 : Int32)) L) (h2 : vp_in (y3 + (2 : Int32)) L) (h3 : vp_in (y3 + (3 : Int32)) L) (next : ∀ (σ : S_SC) (μ : S_Mdl) (H : Heap) (locs : List Loc), Wd g A s (wL h q xa xb tc tt z tr ar ac u aw a g σ μ) H locs → Rel σ μ → W p l e room_1 s m #[Value.ref b] below meth c H locs 600000 7302250 Q (F0 m 533 ls [])) : W p l e room_1 s m #[Value.ref b] below meth c H locs 600000 7302250 Q (F0 m 220 ls []) := by
  have hx := hI.1
  have hb := hI.2.1
  refine lv_aload_n hx hb dL_law_220 rfl (lv_at hl 2 rfl) ?_
  refine lv_aload_n hx hb dL_law_221 rfl (lv_at hl 3 rfl) ?_
  refine lv_iload_n hx hb dL_law_222 rfl (lv_at hl 0 rfl) ?_
  refine lv_iconst (v := (1 : Int32)) hx hb dL_law_223 (by decide) ?_
  refine lv_iadd hx hb dL_law_224 ?_
  refine va_sld hx hb hX hbl hbA hw.2.2 h1 dL_law_225 ?_
  obtain ⟨hq1, hq2, hq3⟩ := hag (xs (y3 + (1 : Int32)).toNatClampNeg)
  refine hI.callI (wl := w_SC h q xa xb tc tt z tr ar ac u aw g) (a := σ) (wr := w_Mdl a g μ) (ws1 := wL h q xa xb tc tt z tr ar ac u aw a g (cS_token σ (xs (y3 + (1 : Int32)).toNatClampNeg)).2 μ) (r := cS_token σ (xs (y3 + (1 : Int32)).toNatClampNeg)) (As := [.int (xs (y3 + (1 : Int32)).toNatClampNeg)]) (rest := []) hw (kC_token l g h q xa xb tc tt z tr ar ac u aw σ (xs (y3 + (1 : Int32)).toNatClampNeg)) ok_yX9_token ml_L_23 (rm_ok1 (by decide) (by decide)) [0, 1, 2, 3, 4, 5, 6, 7, 8, 9, 10, 11, 12, 13, 14, 15, 16, 17, 18, 19, 20, 21, 22, 23, 24, 25, 26, 27, 28, 29, 30] [31, 32, 33, 34, 35, 36, 37, 38, 39, 40, 41, 42, 43, 44] [14, 15, 16, 17, 18, 19, 20, 21, 22, 23, 24, 25, 26, 27, 28, 29, 30, 31, 32, 33, 34, 35, 36, 37, 38, 39, 40, 41, 42, 43, 44, 0, 1, 2, 3, 4, 5, 6, 7, 8, 9, 10, 11, 12, 13] rfl rfl rfl rfl rfl 0 rfl rfl rfl rfl hl.1 (Nat.le_of_ble_eq_true rfl) dL_law_226 ⟨Nat.le_refl _, Nat.le_refl _⟩ (fun H locs hw => ?_)
  refine lv_aload_n hx hb dL_law_229 rfl (lv_at hl 1 rfl) ?_
  refine lv_aload_n hx hb dL_law_230 rfl (lv_at hl 3 rfl) ?_
  refine lv_iload_n hx hb dL_law_231 rfl (lv_at hl 0 rfl) ?_
  refine lv_iconst (v := (1 : Int32)) hx hb dL_law_232 (by decide) ?_
  refine lv_iadd hx hb dL_law_233 ?_
  refine va_sld hx hb hX hbl hbA hw.2.2 h1 dL_law_234 ?_
  refine hI.callI (wl := w_Mdl a g) (a := μ) (wr := w_SC h q xa xb tc tt z tr ar ac u aw g (cS_token σ (xs (y3 + (1 : Int32)).toNatClampNeg)).2) (ws1 := wL h q xa xb tc tt z tr ar ac u aw a g (cS_token σ (xs (y3 + (1 : Int32)).toNatClampNeg)).2 (mS_token μ (xs (y3 + (1 : Int32)).toNatClampNeg)).2) (r := mS_token μ (xs (y3 + (1 : Int32)).toNatClampNeg)) (As := [.int (xs (y3 + (1 : Int32)).toNatClampNeg)]) (rest := [.int ((cS_token σ (xs (y3 + (1 : Int32)).toNatClampNeg)).1)]) hw (kM_token l g a μ (xs (y3 + (1 : Int32)).toNatClampNeg) hq1) ok_yX10_token ml_L_27 (rm_ok1 (by decide) (by decide)) [31, 32, 33, 34, 35, 36, 37, 38, 39, 40, 41, 42, 43, 44] [0, 1, 2, 3, 4, 5, 6, 7, 8, 9, 10, 11, 12, 13, 14, 15, 16, 17, 18, 19, 20, 21, 22, 23, 24, 25, 26, 27, 28, 29, 30] [0, 1, 2, 3, 4, 5, 6, 7, 8, 9, 10, 11, 12, 13, 14, 15, 16, 17, 18, 19, 20, 21, 22, 23, 24, 25, 26, 27, 28, 29, 30, 31, 32, 33, 34, 35, 36, 37, 38, 39, 40, 41, 42, 43, 44] rfl rfl rfl rfl rfl 0 rfl rfl rfl rfl hl.1 (Nat.le_of_ble_eq_true rfl) dL_law_235 ⟨Nat.le_refl _, Nat.le_refl _⟩ (fun H locs hw => ?_)
  refine lv_icmp_eq (tgt := 533) hx hb dL_law_238 (by decide) (fun cz => ?_) (fun cz => ?_)
  · exact next _ _ _ _ hw hq3
  · exact absurd hq2 cz
set_option maxHeartbeats 4000000 in
set_option maxRecDepth 100000 in
theorem lc_check (l : Launch) {p : Program} {e : Env} {s : State} {m : MethodId} {below : List Frame} {meth : Method} {c : Code} {g : GG} {A : Nat → Prop} {rt : Option FieldType} {b L : Nat} {xs : Nat → Int32} {Q : State → Prop} (Rel : S_SC → S_Mdl → Prop) (h : Nat) (q : Nat → Nat) (xa : Nat → Nat) (xb : Nat → Nat) (tc : Nat → Nat) (tt : Nat → Nat) (z : Nat) (tr : Nat → Nat) (ar : Nat) (ac : Nat) (u : Nat → Nat) (aw : Nat) (a : Nat → Nat) (hI : InM p s m #[Value.ref b] meth c RL cL_law 4 rt g A) (hX : va_X b L xs s s.heap) (hbl : b < s.heap.size) (hbA : ¬ A b) (σ : S_SC) (μ : S_Mdl) (hag : Ag Rel (mK_check μ ) (cS_check σ ) (mS_check μ )) {H : Heap} {locs : List Loc} (hw : Wd g A s (wL h q xa xb tc tt z tr ar ac u aw a g σ μ) H locs) {ls : Array Slot} {y3 : Int32} (hl : lv_has ls 4 [(3, .int y3), (2, .ref (a 0)), (1, .ref h), (0, .ref b)]) (h1 : vp_in (y3 + (1 : Int32)) L) (h2 : vp_in (y3 + (2 : Int32)) L) (h3 : vp_in (y3 + (3 : Int32)) L) (next : ∀ (σ : S_SC) (μ : S_Mdl) (H : Heap) (locs : List Loc), Wd g A s (wL h q xa xb tc tt z tr ar ac u aw a g σ μ) H locs → Rel σ μ → W p l e room_1 s m #[Value.ref b] below meth c H locs 600000 7302250 Q (F0 m 533 ls [])) : W p l e room_1 s m #[Value.ref b] below meth c H locs 600000 7302250 Q (F0 m 243 ls []) := by
  have hx := hI.1
  have hb := hI.2.1
  refine lv_aload_n hx hb dL_law_243 rfl (lv_at hl 2 rfl) ?_
  obtain ⟨hq1, hq2, hq3⟩ := hag
  refine hI.callI (wl := w_SC h q xa xb tc tt z tr ar ac u aw g) (a := σ) (wr := w_Mdl a g μ) (ws1 := wL h q xa xb tc tt z tr ar ac u aw a g (cS_check σ).2 μ) (r := cS_check σ ) (As := []) (rest := []) hw (kC_check l g h q xa xb tc tt z tr ar ac u aw σ ) ok_yX9_check ml_L_28 (rm_ok1 (by decide) (by decide)) [0, 1, 2, 3, 4, 5, 6, 7, 8, 9, 10, 11, 12, 13, 14, 15, 16, 17, 18, 19, 20, 21, 22, 23, 24, 25, 26, 27, 28, 29, 30] [31, 32, 33, 34, 35, 36, 37, 38, 39, 40, 41, 42, 43, 44] [14, 15, 16, 17, 18, 19, 20, 21, 22, 23, 24, 25, 26, 27, 28, 29, 30, 31, 32, 33, 34, 35, 36, 37, 38, 39, 40, 41, 42, 43, 44, 0, 1, 2, 3, 4, 5, 6, 7, 8, 9, 10, 11, 12, 13] rfl rfl rfl rfl rfl 0 rfl rfl rfl rfl hl.1 (Nat.le_of_ble_eq_true rfl) dL_law_244 ⟨Nat.le_refl _, Nat.le_refl _⟩ (fun H locs hw => ?_)
  refine lv_aload_n hx hb dL_law_247 rfl (lv_at hl 1 rfl) ?_
  refine hI.callI (wl := w_Mdl a g) (a := μ) (wr := w_SC h q xa xb tc tt z tr ar ac u aw g (cS_check σ).2) (ws1 := wL h q xa xb tc tt z tr ar ac u aw a g (cS_check σ).2 (mS_check μ).2) (r := mS_check μ ) (As := []) (rest := [.int ((cS_check σ).1)]) hw (kM_check l g a μ  hq1) ok_yX10_check ml_L_32 (rm_ok1 (by decide) (by decide)) [31, 32, 33, 34, 35, 36, 37, 38, 39, 40, 41, 42, 43, 44] [0, 1, 2, 3, 4, 5, 6, 7, 8, 9, 10, 11, 12, 13, 14, 15, 16, 17, 18, 19, 20, 21, 22, 23, 24, 25, 26, 27, 28, 29, 30] [0, 1, 2, 3, 4, 5, 6, 7, 8, 9, 10, 11, 12, 13, 14, 15, 16, 17, 18, 19, 20, 21, 22, 23, 24, 25, 26, 27, 28, 29, 30, 31, 32, 33, 34, 35, 36, 37, 38, 39, 40, 41, 42, 43, 44] rfl rfl rfl rfl rfl 0 rfl rfl rfl rfl hl.1 (Nat.le_of_ble_eq_true rfl) dL_law_248 ⟨Nat.le_refl _, Nat.le_refl _⟩ (fun H locs hw => ?_)
  refine lv_icmp_eq (tgt := 533) hx hb dL_law_251 (by decide) (fun cz => ?_) (fun cz => ?_)
  · exact next _ _ _ _ hw hq3
  · exact absurd hq2 cz
set_option maxHeartbeats 4000000 in
set_option maxRecDepth 100000 in
theorem lc_place (l : Launch) {p : Program} {e : Env} {s : State} {m : MethodId} {below : List Frame} {meth : Method} {c : Code} {g : GG} {A : Nat → Prop} {rt : Option FieldType} {b L : Nat} {xs : Nat → Int32} {Q : State → Prop} (Rel : S_SC → S_Mdl → Prop) (h : Nat) (q : Nat → Nat) (xa : Nat → Nat) (xb : Nat → Nat) (tc : Nat → Nat) (tt : Nat → Nat) (z : Nat) (tr : Nat → Nat) (ar : Nat) (ac : Nat) (u : Nat → Nat) (aw : Nat) (a : Nat → Nat) (hI : InM p s m #[Value.ref b] meth c RL cL_law 4 rt g A) (hX : va_X b L xs s s.heap) (hbl : b < s.heap.size) (hbA : ¬ A b) (σ : S_SC) (μ : S_Mdl) (hag : Ag Rel (mK_place μ ) (cS_place σ ) (mS_place μ )) {H : Heap} {locs : List Loc} (hw : Wd g A s (wL h q xa xb tc tt z tr ar ac u aw a g σ μ) H locs) {ls : Array Slot} {y3 : Int32} (hl : lv_has ls 4 [(3, .int y3), (2, .ref (a 0)), (1, .ref h), (0, .ref b)]) (h1 : vp_in (y3 + (1 : Int32)) L) (h2 : vp_in (y3 + (2 : Int32)) L) (h3 : vp_in (y3 + (3 : Int32)) L) (next : ∀ (σ : S_SC) (μ : S_Mdl) (H : Heap) (locs : List Loc), Wd g A s (wL h q xa xb tc tt z tr ar ac u aw a g σ μ) H locs → Rel σ μ → W p l e room_1 s m #[Value.ref b] below meth c H locs 600000 7302250 Q (F0 m 533 ls [])) : W p l e room_1 s m #[Value.ref b] below meth c H locs 600000 7302250 Q (F0 m 256 ls []) := by
  have hx := hI.1
  have hb := hI.2.1
  refine lv_aload_n hx hb dL_law_256 rfl (lv_at hl 2 rfl) ?_
  obtain ⟨hq1, hq2, hq3⟩ := hag
  refine hI.callI (wl := w_SC h q xa xb tc tt z tr ar ac u aw g) (a := σ) (wr := w_Mdl a g μ) (ws1 := wL h q xa xb tc tt z tr ar ac u aw a g (cS_place σ).2 μ) (r := cS_place σ ) (As := []) (rest := []) hw (kC_place l g h q xa xb tc tt z tr ar ac u aw σ ) ok_yX9_place ml_L_33 (rm_ok1 (by decide) (by decide)) [0, 1, 2, 3, 4, 5, 6, 7, 8, 9, 10, 11, 12, 13, 14, 15, 16, 17, 18, 19, 20, 21, 22, 23, 24, 25, 26, 27, 28, 29, 30] [31, 32, 33, 34, 35, 36, 37, 38, 39, 40, 41, 42, 43, 44] [14, 15, 16, 17, 18, 19, 20, 21, 22, 23, 24, 25, 26, 27, 28, 29, 30, 31, 32, 33, 34, 35, 36, 37, 38, 39, 40, 41, 42, 43, 44, 0, 1, 2, 3, 4, 5, 6, 7, 8, 9, 10, 11, 12, 13] rfl rfl rfl rfl rfl 0 rfl rfl rfl rfl hl.1 (Nat.le_of_ble_eq_true rfl) dL_law_257 ⟨Nat.le_refl _, Nat.le_refl _⟩ (fun H locs hw => ?_)
  refine lv_aload_n hx hb dL_law_260 rfl (lv_at hl 1 rfl) ?_
  refine hI.callI (wl := w_Mdl a g) (a := μ) (wr := w_SC h q xa xb tc tt z tr ar ac u aw g (cS_place σ).2) (ws1 := wL h q xa xb tc tt z tr ar ac u aw a g (cS_place σ).2 (mS_place μ).2) (r := mS_place μ ) (As := []) (rest := [.int ((cS_place σ).1)]) hw (kM_place l g a μ  hq1) ok_yX10_place ml_L_36 (rm_ok1 (by decide) (by decide)) [31, 32, 33, 34, 35, 36, 37, 38, 39, 40, 41, 42, 43, 44] [0, 1, 2, 3, 4, 5, 6, 7, 8, 9, 10, 11, 12, 13, 14, 15, 16, 17, 18, 19, 20, 21, 22, 23, 24, 25, 26, 27, 28, 29, 30] [0, 1, 2, 3, 4, 5, 6, 7, 8, 9, 10, 11, 12, 13, 14, 15, 16, 17, 18, 19, 20, 21, 22, 23, 24, 25, 26, 27, 28, 29, 30, 31, 32, 33, 34, 35, 36, 37, 38, 39, 40, 41, 42, 43, 44] rfl rfl rfl rfl rfl 0 rfl rfl rfl rfl hl.1 (Nat.le_of_ble_eq_true rfl) dL_law_261 ⟨Nat.le_refl _, Nat.le_refl _⟩ (fun H locs hw => ?_)
  refine lv_icmp_eq (tgt := 533) hx hb dL_law_264 (by decide) (fun cz => ?_) (fun cz => ?_)
  · exact next _ _ _ _ hw hq3
  · exact absurd hq2 cz
set_option maxHeartbeats 4000000 in
set_option maxRecDepth 100000 in
theorem lc_code (l : Launch) {p : Program} {e : Env} {s : State} {m : MethodId} {below : List Frame} {meth : Method} {c : Code} {g : GG} {A : Nat → Prop} {rt : Option FieldType} {b L : Nat} {xs : Nat → Int32} {Q : State → Prop} (Rel : S_SC → S_Mdl → Prop) (h : Nat) (q : Nat → Nat) (xa : Nat → Nat) (xb : Nat → Nat) (tc : Nat → Nat) (tt : Nat → Nat) (z : Nat) (tr : Nat → Nat) (ar : Nat) (ac : Nat) (u : Nat → Nat) (aw : Nat) (a : Nat → Nat) (hI : InM p s m #[Value.ref b] meth c RL cL_law 4 rt g A) (hX : va_X b L xs s s.heap) (hbl : b < s.heap.size) (hbA : ¬ A b) (σ : S_SC) (μ : S_Mdl) (hag : ∀ x1 : Int32, Ag Rel (mK_code μ x1) (cS_code σ x1) (mS_code μ x1)) {H : Heap} {locs : List Loc} (hw : Wd g A s (wL h q xa xb tc tt z tr ar ac u aw a g σ μ) H locs) {ls : Array Slot} {y3 : Int32} (hl : lv_has ls 4 [(3, .int y3), (2, .ref (a 0)), (1, .ref h), (0, .ref b)]) (h1 : vp_in (y3 + (1 : Int32)) L) (h2 : vp_in (y3 + (2 : Int32)) L) (h3 : vp_in (y3 + (3 : Int32)) L) (next : ∀ (σ : S_SC) (μ : S_Mdl) (H : Heap) (locs : List Loc), Wd g A s (wL h q xa xb tc tt z tr ar ac u aw a g σ μ) H locs → Rel σ μ → W p l e room_1 s m #[Value.ref b] below meth c H locs 600000 7302250 Q (F0 m 533 ls [])) : W p l e room_1 s m #[Value.ref b] below meth c H locs 600000 7302250 Q (F0 m 269 ls []) := by
  have hx := hI.1
  have hb := hI.2.1
  refine lv_aload_n hx hb dL_law_269 rfl (lv_at hl 2 rfl) ?_
  refine lv_aload_n hx hb dL_law_270 rfl (lv_at hl 3 rfl) ?_
  refine lv_iload_n hx hb dL_law_271 rfl (lv_at hl 0 rfl) ?_
  refine lv_iconst (v := (1 : Int32)) hx hb dL_law_272 (by decide) ?_
  refine lv_iadd hx hb dL_law_273 ?_
  refine va_sld hx hb hX hbl hbA hw.2.2 h1 dL_law_274 ?_
  obtain ⟨hq1, hq2, hq3⟩ := hag (xs (y3 + (1 : Int32)).toNatClampNeg)
  refine hI.callI (wl := w_SC h q xa xb tc tt z tr ar ac u aw g) (a := σ) (wr := w_Mdl a g μ) (ws1 := wL h q xa xb tc tt z tr ar ac u aw a g (cS_code σ (xs (y3 + (1 : Int32)).toNatClampNeg)).2 μ) (r := cS_code σ (xs (y3 + (1 : Int32)).toNatClampNeg)) (As := [.int (xs (y3 + (1 : Int32)).toNatClampNeg)]) (rest := []) hw (kC_code l g h q xa xb tc tt z tr ar ac u aw σ (xs (y3 + (1 : Int32)).toNatClampNeg)) ok_yX9_code ml_L_37 (rm_ok1 (by decide) (by decide)) [0, 1, 2, 3, 4, 5, 6, 7, 8, 9, 10, 11, 12, 13, 14, 15, 16, 17, 18, 19, 20, 21, 22, 23, 24, 25, 26, 27, 28, 29, 30] [31, 32, 33, 34, 35, 36, 37, 38, 39, 40, 41, 42, 43, 44] [14, 15, 16, 17, 18, 19, 20, 21, 22, 23, 24, 25, 26, 27, 28, 29, 30, 31, 32, 33, 34, 35, 36, 37, 38, 39, 40, 41, 42, 43, 44, 0, 1, 2, 3, 4, 5, 6, 7, 8, 9, 10, 11, 12, 13] rfl rfl rfl rfl rfl 0 rfl rfl rfl rfl hl.1 (Nat.le_of_ble_eq_true rfl) dL_law_275 ⟨Nat.le_refl _, Nat.le_refl _⟩ (fun H locs hw => ?_)
  refine lv_aload_n hx hb dL_law_278 rfl (lv_at hl 1 rfl) ?_
  refine lv_aload_n hx hb dL_law_279 rfl (lv_at hl 3 rfl) ?_
  refine lv_iload_n hx hb dL_law_280 rfl (lv_at hl 0 rfl) ?_
  refine lv_iconst (v := (1 : Int32)) hx hb dL_law_281 (by decide) ?_
  refine lv_iadd hx hb dL_law_282 ?_
  refine va_sld hx hb hX hbl hbA hw.2.2 h1 dL_law_283 ?_
  refine hI.callI (wl := w_Mdl a g) (a := μ) (wr := w_SC h q xa xb tc tt z tr ar ac u aw g (cS_code σ (xs (y3 + (1 : Int32)).toNatClampNeg)).2) (ws1 := wL h q xa xb tc tt z tr ar ac u aw a g (cS_code σ (xs (y3 + (1 : Int32)).toNatClampNeg)).2 (mS_code μ (xs (y3 + (1 : Int32)).toNatClampNeg)).2) (r := mS_code μ (xs (y3 + (1 : Int32)).toNatClampNeg)) (As := [.int (xs (y3 + (1 : Int32)).toNatClampNeg)]) (rest := [.int ((cS_code σ (xs (y3 + (1 : Int32)).toNatClampNeg)).1)]) hw (kM_code l g a μ (xs (y3 + (1 : Int32)).toNatClampNeg) hq1) ok_yX10_code ml_L_40 (rm_ok1 (by decide) (by decide)) [31, 32, 33, 34, 35, 36, 37, 38, 39, 40, 41, 42, 43, 44] [0, 1, 2, 3, 4, 5, 6, 7, 8, 9, 10, 11, 12, 13, 14, 15, 16, 17, 18, 19, 20, 21, 22, 23, 24, 25, 26, 27, 28, 29, 30] [0, 1, 2, 3, 4, 5, 6, 7, 8, 9, 10, 11, 12, 13, 14, 15, 16, 17, 18, 19, 20, 21, 22, 23, 24, 25, 26, 27, 28, 29, 30, 31, 32, 33, 34, 35, 36, 37, 38, 39, 40, 41, 42, 43, 44] rfl rfl rfl rfl rfl 0 rfl rfl rfl rfl hl.1 (Nat.le_of_ble_eq_true rfl) dL_law_284 ⟨Nat.le_refl _, Nat.le_refl _⟩ (fun H locs hw => ?_)
  refine lv_icmp_eq (tgt := 533) hx hb dL_law_287 (by decide) (fun cz => ?_) (fun cz => ?_)
  · exact next _ _ _ _ hw hq3
  · exact absurd hq2 cz
set_option maxHeartbeats 4000000 in
set_option maxRecDepth 100000 in
theorem lc_set (l : Launch) {p : Program} {e : Env} {s : State} {m : MethodId} {below : List Frame} {meth : Method} {c : Code} {g : GG} {A : Nat → Prop} {rt : Option FieldType} {b L : Nat} {xs : Nat → Int32} {Q : State → Prop} (Rel : S_SC → S_Mdl → Prop) (h : Nat) (q : Nat → Nat) (xa : Nat → Nat) (xb : Nat → Nat) (tc : Nat → Nat) (tt : Nat → Nat) (z : Nat) (tr : Nat → Nat) (ar : Nat) (ac : Nat) (u : Nat → Nat) (aw : Nat) (a : Nat → Nat) (hI : InM p s m #[Value.ref b] meth c RL cL_law 4 rt g A) (hX : va_X b L xs s s.heap) (hbl : b < s.heap.size) (hbA : ¬ A b) (σ : S_SC) (μ : S_Mdl) (hag : ∀ x1 x2 : Int32, Ag Rel (mK_set μ x1 x2) (cS_set σ x1 x2) (mS_set μ x1 x2)) {H : Heap} {locs : List Loc} (hw : Wd g A s (wL h q xa xb tc tt z tr ar ac u aw a g σ μ) H locs) {ls : Array Slot} {y3 : Int32} (hl : lv_has ls 4 [(3, .int y3), (2, .ref (a 0)), (1, .ref h), (0, .ref b)]) (h1 : vp_in (y3 + (1 : Int32)) L) (h2 : vp_in (y3 + (2 : Int32)) L) (h3 : vp_in (y3 + (3 : Int32)) L) (next : ∀ (σ : S_SC) (μ : S_Mdl) (H : Heap) (locs : List Loc), Wd g A s (wL h q xa xb tc tt z tr ar ac u aw a g σ μ) H locs → Rel σ μ → W p l e room_1 s m #[Value.ref b] below meth c H locs 600000 7302250 Q (F0 m 533 ls [])) : W p l e room_1 s m #[Value.ref b] below meth c H locs 600000 7302250 Q (F0 m 292 ls []) := by
  have hx := hI.1
  have hb := hI.2.1
  refine lv_aload_n hx hb dL_law_292 rfl (lv_at hl 2 rfl) ?_
  refine lv_aload_n hx hb dL_law_293 rfl (lv_at hl 3 rfl) ?_
  refine lv_iload_n hx hb dL_law_294 rfl (lv_at hl 0 rfl) ?_
  refine lv_iconst (v := (1 : Int32)) hx hb dL_law_295 (by decide) ?_
  refine lv_iadd hx hb dL_law_296 ?_
  refine va_sld hx hb hX hbl hbA hw.2.2 h1 dL_law_297 ?_
  refine lv_aload_n hx hb dL_law_298 rfl (lv_at hl 3 rfl) ?_
  refine lv_iload_n hx hb dL_law_299 rfl (lv_at hl 0 rfl) ?_
  refine lv_iconst (v := (2 : Int32)) hx hb dL_law_300 (by decide) ?_
  refine lv_iadd hx hb dL_law_301 ?_
  refine va_sld hx hb hX hbl hbA hw.2.2 h2 dL_law_302 ?_
  obtain ⟨hq1, hq2, hq3⟩ := hag (xs (y3 + (1 : Int32)).toNatClampNeg) (xs (y3 + (2 : Int32)).toNatClampNeg)
  refine hI.callI (wl := w_SC h q xa xb tc tt z tr ar ac u aw g) (a := σ) (wr := w_Mdl a g μ) (ws1 := wL h q xa xb tc tt z tr ar ac u aw a g (cS_set σ (xs (y3 + (1 : Int32)).toNatClampNeg) (xs (y3 + (2 : Int32)).toNatClampNeg)).2 μ) (r := cS_set σ (xs (y3 + (1 : Int32)).toNatClampNeg) (xs (y3 + (2 : Int32)).toNatClampNeg)) (As := [.int (xs (y3 + (1 : Int32)).toNatClampNeg), .int (xs (y3 + (2 : Int32)).toNatClampNeg)]) (rest := []) hw (kC_set l g h q xa xb tc tt z tr ar ac u aw σ (xs (y3 + (1 : Int32)).toNatClampNeg) (xs (y3 + (2 : Int32)).toNatClampNeg)) ok_yX9_set ml_L_41 (rm_ok1 (by decide) (by decide)) [0, 1, 2, 3, 4, 5, 6, 7, 8, 9, 10, 11, 12, 13, 14, 15, 16, 17, 18, 19, 20, 21, 22, 23, 24, 25, 26, 27, 28, 29, 30] [31, 32, 33, 34, 35, 36, 37, 38, 39, 40, 41, 42, 43, 44] [14, 15, 16, 17, 18, 19, 20, 21, 22, 23, 24, 25, 26, 27, 28, 29, 30, 31, 32, 33, 34, 35, 36, 37, 38, 39, 40, 41, 42, 43, 44, 0, 1, 2, 3, 4, 5, 6, 7, 8, 9, 10, 11, 12, 13] rfl rfl rfl rfl rfl 0 rfl rfl rfl rfl hl.1 (Nat.le_of_ble_eq_true rfl) dL_law_303 ⟨Nat.le_refl _, Nat.le_refl _⟩ (fun H locs hw => ?_)
  refine lv_aload_n hx hb dL_law_306 rfl (lv_at hl 1 rfl) ?_
  refine lv_aload_n hx hb dL_law_307 rfl (lv_at hl 3 rfl) ?_
  refine lv_iload_n hx hb dL_law_308 rfl (lv_at hl 0 rfl) ?_
  refine lv_iconst (v := (1 : Int32)) hx hb dL_law_309 (by decide) ?_
  refine lv_iadd hx hb dL_law_310 ?_
  refine va_sld hx hb hX hbl hbA hw.2.2 h1 dL_law_311 ?_
  refine lv_aload_n hx hb dL_law_312 rfl (lv_at hl 3 rfl) ?_
  refine lv_iload_n hx hb dL_law_313 rfl (lv_at hl 0 rfl) ?_
  refine lv_iconst (v := (2 : Int32)) hx hb dL_law_314 (by decide) ?_
  refine lv_iadd hx hb dL_law_315 ?_
  refine va_sld hx hb hX hbl hbA hw.2.2 h2 dL_law_316 ?_
  refine hI.callI (wl := w_Mdl a g) (a := μ) (wr := w_SC h q xa xb tc tt z tr ar ac u aw g (cS_set σ (xs (y3 + (1 : Int32)).toNatClampNeg) (xs (y3 + (2 : Int32)).toNatClampNeg)).2) (ws1 := wL h q xa xb tc tt z tr ar ac u aw a g (cS_set σ (xs (y3 + (1 : Int32)).toNatClampNeg) (xs (y3 + (2 : Int32)).toNatClampNeg)).2 (mS_set μ (xs (y3 + (1 : Int32)).toNatClampNeg) (xs (y3 + (2 : Int32)).toNatClampNeg)).2) (r := mS_set μ (xs (y3 + (1 : Int32)).toNatClampNeg) (xs (y3 + (2 : Int32)).toNatClampNeg)) (As := [.int (xs (y3 + (1 : Int32)).toNatClampNeg), .int (xs (y3 + (2 : Int32)).toNatClampNeg)]) (rest := [.int ((cS_set σ (xs (y3 + (1 : Int32)).toNatClampNeg) (xs (y3 + (2 : Int32)).toNatClampNeg)).1)]) hw (kM_set l g a μ (xs (y3 + (1 : Int32)).toNatClampNeg) (xs (y3 + (2 : Int32)).toNatClampNeg) hq1) ok_yX10_set ml_L_45 (rm_ok1 (by decide) (by decide)) [31, 32, 33, 34, 35, 36, 37, 38, 39, 40, 41, 42, 43, 44] [0, 1, 2, 3, 4, 5, 6, 7, 8, 9, 10, 11, 12, 13, 14, 15, 16, 17, 18, 19, 20, 21, 22, 23, 24, 25, 26, 27, 28, 29, 30] [0, 1, 2, 3, 4, 5, 6, 7, 8, 9, 10, 11, 12, 13, 14, 15, 16, 17, 18, 19, 20, 21, 22, 23, 24, 25, 26, 27, 28, 29, 30, 31, 32, 33, 34, 35, 36, 37, 38, 39, 40, 41, 42, 43, 44] rfl rfl rfl rfl rfl 0 rfl rfl rfl rfl hl.1 (Nat.le_of_ble_eq_true rfl) dL_law_317 ⟨Nat.le_refl _, Nat.le_refl _⟩ (fun H locs hw => ?_)
  refine lv_icmp_eq (tgt := 533) hx hb dL_law_320 (by decide) (fun cz => ?_) (fun cz => ?_)
  · exact next _ _ _ _ hw hq3
  · exact absurd hq2 cz
set_option maxHeartbeats 4000000 in
set_option maxRecDepth 100000 in
theorem lc_put (l : Launch) {p : Program} {e : Env} {s : State} {m : MethodId} {below : List Frame} {meth : Method} {c : Code} {g : GG} {A : Nat → Prop} {rt : Option FieldType} {b L : Nat} {xs : Nat → Int32} {Q : State → Prop} (Rel : S_SC → S_Mdl → Prop) (h : Nat) (q : Nat → Nat) (xa : Nat → Nat) (xb : Nat → Nat) (tc : Nat → Nat) (tt : Nat → Nat) (z : Nat) (tr : Nat → Nat) (ar : Nat) (ac : Nat) (u : Nat → Nat) (aw : Nat) (a : Nat → Nat) (hI : InM p s m #[Value.ref b] meth c RL cL_law 4 rt g A) (hX : va_X b L xs s s.heap) (hbl : b < s.heap.size) (hbA : ¬ A b) (σ : S_SC) (μ : S_Mdl) (hag : ∀ x1 x2 x3 : Int32, Ag Rel (mK_put μ x1 x2 x3) (cS_put σ x1 x2 x3) (mS_put μ x1 x2 x3)) {H : Heap} {locs : List Loc} (hw : Wd g A s (wL h q xa xb tc tt z tr ar ac u aw a g σ μ) H locs) {ls : Array Slot} {y3 : Int32} (hl : lv_has ls 4 [(3, .int y3), (2, .ref (a 0)), (1, .ref h), (0, .ref b)]) (h1 : vp_in (y3 + (1 : Int32)) L) (h2 : vp_in (y3 + (2 : Int32)) L) (h3 : vp_in (y3 + (3 : Int32)) L) (next : ∀ (σ : S_SC) (μ : S_Mdl) (H : Heap) (locs : List Loc), Wd g A s (wL h q xa xb tc tt z tr ar ac u aw a g σ μ) H locs → Rel σ μ → W p l e room_1 s m #[Value.ref b] below meth c H locs 600000 7302250 Q (F0 m 533 ls [])) : W p l e room_1 s m #[Value.ref b] below meth c H locs 600000 7302250 Q (F0 m 325 ls []) := by
  have hx := hI.1
  have hb := hI.2.1
  refine lv_aload_n hx hb dL_law_325 rfl (lv_at hl 2 rfl) ?_
  refine lv_aload_n hx hb dL_law_326 rfl (lv_at hl 3 rfl) ?_
  refine lv_iload_n hx hb dL_law_327 rfl (lv_at hl 0 rfl) ?_
  refine lv_iconst (v := (1 : Int32)) hx hb dL_law_328 (by decide) ?_
  refine lv_iadd hx hb dL_law_329 ?_
  refine va_sld hx hb hX hbl hbA hw.2.2 h1 dL_law_330 ?_
  refine lv_aload_n hx hb dL_law_331 rfl (lv_at hl 3 rfl) ?_
  refine lv_iload_n hx hb dL_law_332 rfl (lv_at hl 0 rfl) ?_
  refine lv_iconst (v := (2 : Int32)) hx hb dL_law_333 (by decide) ?_
  refine lv_iadd hx hb dL_law_334 ?_
  refine va_sld hx hb hX hbl hbA hw.2.2 h2 dL_law_335 ?_
  refine lv_aload_n hx hb dL_law_336 rfl (lv_at hl 3 rfl) ?_
  refine lv_iload_n hx hb dL_law_337 rfl (lv_at hl 0 rfl) ?_
  refine lv_iconst (v := (3 : Int32)) hx hb dL_law_338 (by decide) ?_
  refine lv_iadd hx hb dL_law_339 ?_
  refine va_sld hx hb hX hbl hbA hw.2.2 h3 dL_law_340 ?_
  obtain ⟨hq1, hq2, hq3⟩ := hag (xs (y3 + (1 : Int32)).toNatClampNeg) (xs (y3 + (2 : Int32)).toNatClampNeg) (xs (y3 + (3 : Int32)).toNatClampNeg)
  refine hI.callI (wl := w_SC h q xa xb tc tt z tr ar ac u aw g) (a := σ) (wr := w_Mdl a g μ) (ws1 := wL h q xa xb tc tt z tr ar ac u aw a g (cS_put σ (xs (y3 + (1 : Int32)).toNatClampNeg) (xs (y3 + (2 : Int32)).toNatClampNeg) (xs (y3 + (3 : Int32)).toNatClampNeg)).2 μ) (r := cS_put σ (xs (y3 + (1 : Int32)).toNatClampNeg) (xs (y3 + (2 : Int32)).toNatClampNeg) (xs (y3 + (3 : Int32)).toNatClampNeg)) (As := [.int (xs (y3 + (1 : Int32)).toNatClampNeg), .int (xs (y3 + (2 : Int32)).toNatClampNeg), .int (xs (y3 + (3 : Int32)).toNatClampNeg)]) (rest := []) hw (kC_put l g h q xa xb tc tt z tr ar ac u aw σ (xs (y3 + (1 : Int32)).toNatClampNeg) (xs (y3 + (2 : Int32)).toNatClampNeg) (xs (y3 + (3 : Int32)).toNatClampNeg)) ok_yX9_put ml_L_46 (rm_ok1 (by decide) (by decide)) [0, 1, 2, 3, 4, 5, 6, 7, 8, 9, 10, 11, 12, 13, 14, 15, 16, 17, 18, 19, 20, 21, 22, 23, 24, 25, 26, 27, 28, 29, 30] [31, 32, 33, 34, 35, 36, 37, 38, 39, 40, 41, 42, 43, 44] [14, 15, 16, 17, 18, 19, 20, 21, 22, 23, 24, 25, 26, 27, 28, 29, 30, 31, 32, 33, 34, 35, 36, 37, 38, 39, 40, 41, 42, 43, 44, 0, 1, 2, 3, 4, 5, 6, 7, 8, 9, 10, 11, 12, 13] rfl rfl rfl rfl rfl 0 rfl rfl rfl rfl hl.1 (Nat.le_of_ble_eq_true rfl) dL_law_341 ⟨Nat.le_refl _, Nat.le_refl _⟩ (fun H locs hw => ?_)
  refine lv_aload_n hx hb dL_law_344 rfl (lv_at hl 1 rfl) ?_
  refine lv_aload_n hx hb dL_law_345 rfl (lv_at hl 3 rfl) ?_
  refine lv_iload_n hx hb dL_law_346 rfl (lv_at hl 0 rfl) ?_
  refine lv_iconst (v := (1 : Int32)) hx hb dL_law_347 (by decide) ?_
  refine lv_iadd hx hb dL_law_348 ?_
  refine va_sld hx hb hX hbl hbA hw.2.2 h1 dL_law_349 ?_
  refine lv_aload_n hx hb dL_law_350 rfl (lv_at hl 3 rfl) ?_
  refine lv_iload_n hx hb dL_law_351 rfl (lv_at hl 0 rfl) ?_
  refine lv_iconst (v := (2 : Int32)) hx hb dL_law_352 (by decide) ?_
  refine lv_iadd hx hb dL_law_353 ?_
  refine va_sld hx hb hX hbl hbA hw.2.2 h2 dL_law_354 ?_
  refine lv_aload_n hx hb dL_law_355 rfl (lv_at hl 3 rfl) ?_
  refine lv_iload_n hx hb dL_law_356 rfl (lv_at hl 0 rfl) ?_
  refine lv_iconst (v := (3 : Int32)) hx hb dL_law_357 (by decide) ?_
  refine lv_iadd hx hb dL_law_358 ?_
  refine va_sld hx hb hX hbl hbA hw.2.2 h3 dL_law_359 ?_
  refine hI.callI (wl := w_Mdl a g) (a := μ) (wr := w_SC h q xa xb tc tt z tr ar ac u aw g (cS_put σ (xs (y3 + (1 : Int32)).toNatClampNeg) (xs (y3 + (2 : Int32)).toNatClampNeg) (xs (y3 + (3 : Int32)).toNatClampNeg)).2) (ws1 := wL h q xa xb tc tt z tr ar ac u aw a g (cS_put σ (xs (y3 + (1 : Int32)).toNatClampNeg) (xs (y3 + (2 : Int32)).toNatClampNeg) (xs (y3 + (3 : Int32)).toNatClampNeg)).2 (mS_put μ (xs (y3 + (1 : Int32)).toNatClampNeg) (xs (y3 + (2 : Int32)).toNatClampNeg) (xs (y3 + (3 : Int32)).toNatClampNeg)).2) (r := mS_put μ (xs (y3 + (1 : Int32)).toNatClampNeg) (xs (y3 + (2 : Int32)).toNatClampNeg) (xs (y3 + (3 : Int32)).toNatClampNeg)) (As := [.int (xs (y3 + (1 : Int32)).toNatClampNeg), .int (xs (y3 + (2 : Int32)).toNatClampNeg), .int (xs (y3 + (3 : Int32)).toNatClampNeg)]) (rest := [.int ((cS_put σ (xs (y3 + (1 : Int32)).toNatClampNeg) (xs (y3 + (2 : Int32)).toNatClampNeg) (xs (y3 + (3 : Int32)).toNatClampNeg)).1)]) hw (kM_put l g a μ (xs (y3 + (1 : Int32)).toNatClampNeg) (xs (y3 + (2 : Int32)).toNatClampNeg) (xs (y3 + (3 : Int32)).toNatClampNeg) hq1) ok_yX10_put ml_L_50 (rm_ok1 (by decide) (by decide)) [31, 32, 33, 34, 35, 36, 37, 38, 39, 40, 41, 42, 43, 44] [0, 1, 2, 3, 4, 5, 6, 7, 8, 9, 10, 11, 12, 13, 14, 15, 16, 17, 18, 19, 20, 21, 22, 23, 24, 25, 26, 27, 28, 29, 30] [0, 1, 2, 3, 4, 5, 6, 7, 8, 9, 10, 11, 12, 13, 14, 15, 16, 17, 18, 19, 20, 21, 22, 23, 24, 25, 26, 27, 28, 29, 30, 31, 32, 33, 34, 35, 36, 37, 38, 39, 40, 41, 42, 43, 44] rfl rfl rfl rfl rfl 0 rfl rfl rfl rfl hl.1 (Nat.le_of_ble_eq_true rfl) dL_law_360 ⟨Nat.le_refl _, Nat.le_refl _⟩ (fun H locs hw => ?_)
  refine lv_icmp_eq (tgt := 533) hx hb dL_law_363 (by decide) (fun cz => ?_) (fun cz => ?_)
  · exact next _ _ _ _ hw hq3
  · exact absurd hq2 cz
set_option maxHeartbeats 4000000 in
set_option maxRecDepth 100000 in
theorem lc_get (l : Launch) {p : Program} {e : Env} {s : State} {m : MethodId} {below : List Frame} {meth : Method} {c : Code} {g : GG} {A : Nat → Prop} {rt : Option FieldType} {b L : Nat} {xs : Nat → Int32} {Q : State → Prop} (Rel : S_SC → S_Mdl → Prop) (h : Nat) (q : Nat → Nat) (xa : Nat → Nat) (xb : Nat → Nat) (tc : Nat → Nat) (tt : Nat → Nat) (z : Nat) (tr : Nat → Nat) (ar : Nat) (ac : Nat) (u : Nat → Nat) (aw : Nat) (a : Nat → Nat) (hI : InM p s m #[Value.ref b] meth c RL cL_law 4 rt g A) (hX : va_X b L xs s s.heap) (hbl : b < s.heap.size) (hbA : ¬ A b) (σ : S_SC) (μ : S_Mdl) (hag : ∀ x1 : Int32, Ag Rel (mK_get μ x1) (cS_get σ x1) (mS_get μ x1)) {H : Heap} {locs : List Loc} (hw : Wd g A s (wL h q xa xb tc tt z tr ar ac u aw a g σ μ) H locs) {ls : Array Slot} {y3 : Int32} (hl : lv_has ls 4 [(3, .int y3), (2, .ref (a 0)), (1, .ref h), (0, .ref b)]) (h1 : vp_in (y3 + (1 : Int32)) L) (h2 : vp_in (y3 + (2 : Int32)) L) (h3 : vp_in (y3 + (3 : Int32)) L) (next : ∀ (σ : S_SC) (μ : S_Mdl) (H : Heap) (locs : List Loc), Wd g A s (wL h q xa xb tc tt z tr ar ac u aw a g σ μ) H locs → Rel σ μ → W p l e room_1 s m #[Value.ref b] below meth c H locs 600000 7302250 Q (F0 m 533 ls [])) : W p l e room_1 s m #[Value.ref b] below meth c H locs 600000 7302250 Q (F0 m 368 ls []) := by
  have hx := hI.1
  have hb := hI.2.1
  refine lv_aload_n hx hb dL_law_368 rfl (lv_at hl 2 rfl) ?_
  refine lv_aload_n hx hb dL_law_369 rfl (lv_at hl 3 rfl) ?_
  refine lv_iload_n hx hb dL_law_370 rfl (lv_at hl 0 rfl) ?_
  refine lv_iconst (v := (1 : Int32)) hx hb dL_law_371 (by decide) ?_
  refine lv_iadd hx hb dL_law_372 ?_
  refine va_sld hx hb hX hbl hbA hw.2.2 h1 dL_law_373 ?_
  obtain ⟨hq1, hq2, hq3⟩ := hag (xs (y3 + (1 : Int32)).toNatClampNeg)
  refine hI.callI (wl := w_SC h q xa xb tc tt z tr ar ac u aw g) (a := σ) (wr := w_Mdl a g μ) (ws1 := wL h q xa xb tc tt z tr ar ac u aw a g (cS_get σ (xs (y3 + (1 : Int32)).toNatClampNeg)).2 μ) (r := cS_get σ (xs (y3 + (1 : Int32)).toNatClampNeg)) (As := [.int (xs (y3 + (1 : Int32)).toNatClampNeg)]) (rest := []) hw (kC_get l g h q xa xb tc tt z tr ar ac u aw σ (xs (y3 + (1 : Int32)).toNatClampNeg)) ok_yX9_get ml_L_51 (rm_ok1 (by decide) (by decide)) [0, 1, 2, 3, 4, 5, 6, 7, 8, 9, 10, 11, 12, 13, 14, 15, 16, 17, 18, 19, 20, 21, 22, 23, 24, 25, 26, 27, 28, 29, 30] [31, 32, 33, 34, 35, 36, 37, 38, 39, 40, 41, 42, 43, 44] [14, 15, 16, 17, 18, 19, 20, 21, 22, 23, 24, 25, 26, 27, 28, 29, 30, 31, 32, 33, 34, 35, 36, 37, 38, 39, 40, 41, 42, 43, 44, 0, 1, 2, 3, 4, 5, 6, 7, 8, 9, 10, 11, 12, 13] rfl rfl rfl rfl rfl 0 rfl rfl rfl rfl hl.1 (Nat.le_of_ble_eq_true rfl) dL_law_374 ⟨Nat.le_refl _, Nat.le_refl _⟩ (fun H locs hw => ?_)
  refine lv_aload_n hx hb dL_law_377 rfl (lv_at hl 1 rfl) ?_
  refine lv_aload_n hx hb dL_law_378 rfl (lv_at hl 3 rfl) ?_
  refine lv_iload_n hx hb dL_law_379 rfl (lv_at hl 0 rfl) ?_
  refine lv_iconst (v := (1 : Int32)) hx hb dL_law_380 (by decide) ?_
  refine lv_iadd hx hb dL_law_381 ?_
  refine va_sld hx hb hX hbl hbA hw.2.2 h1 dL_law_382 ?_
  refine hI.callI (wl := w_Mdl a g) (a := μ) (wr := w_SC h q xa xb tc tt z tr ar ac u aw g (cS_get σ (xs (y3 + (1 : Int32)).toNatClampNeg)).2) (ws1 := wL h q xa xb tc tt z tr ar ac u aw a g (cS_get σ (xs (y3 + (1 : Int32)).toNatClampNeg)).2 (mS_get μ (xs (y3 + (1 : Int32)).toNatClampNeg)).2) (r := mS_get μ (xs (y3 + (1 : Int32)).toNatClampNeg)) (As := [.int (xs (y3 + (1 : Int32)).toNatClampNeg)]) (rest := [.int ((cS_get σ (xs (y3 + (1 : Int32)).toNatClampNeg)).1)]) hw (kM_get l g a μ (xs (y3 + (1 : Int32)).toNatClampNeg) hq1) ok_yX10_get ml_L_54 (rm_ok1 (by decide) (by decide)) [31, 32, 33, 34, 35, 36, 37, 38, 39, 40, 41, 42, 43, 44] [0, 1, 2, 3, 4, 5, 6, 7, 8, 9, 10, 11, 12, 13, 14, 15, 16, 17, 18, 19, 20, 21, 22, 23, 24, 25, 26, 27, 28, 29, 30] [0, 1, 2, 3, 4, 5, 6, 7, 8, 9, 10, 11, 12, 13, 14, 15, 16, 17, 18, 19, 20, 21, 22, 23, 24, 25, 26, 27, 28, 29, 30, 31, 32, 33, 34, 35, 36, 37, 38, 39, 40, 41, 42, 43, 44] rfl rfl rfl rfl rfl 0 rfl rfl rfl rfl hl.1 (Nat.le_of_ble_eq_true rfl) dL_law_383 ⟨Nat.le_refl _, Nat.le_refl _⟩ (fun H locs hw => ?_)
  refine lv_icmp_eq (tgt := 533) hx hb dL_law_386 (by decide) (fun cz => ?_) (fun cz => ?_)
  · exact next _ _ _ _ hw hq3
  · exact absurd hq2 cz
set_option maxHeartbeats 4000000 in
set_option maxRecDepth 100000 in
theorem lc_at (l : Launch) {p : Program} {e : Env} {s : State} {m : MethodId} {below : List Frame} {meth : Method} {c : Code} {g : GG} {A : Nat → Prop} {rt : Option FieldType} {b L : Nat} {xs : Nat → Int32} {Q : State → Prop} (Rel : S_SC → S_Mdl → Prop) (h : Nat) (q : Nat → Nat) (xa : Nat → Nat) (xb : Nat → Nat) (tc : Nat → Nat) (tt : Nat → Nat) (z : Nat) (tr : Nat → Nat) (ar : Nat) (ac : Nat) (u : Nat → Nat) (aw : Nat) (a : Nat → Nat) (hI : InM p s m #[Value.ref b] meth c RL cL_law 4 rt g A) (hX : va_X b L xs s s.heap) (hbl : b < s.heap.size) (hbA : ¬ A b) (σ : S_SC) (μ : S_Mdl) (hag : ∀ x1 x2 : Int32, Ag Rel (mK_at μ x1 x2) (cS_at σ x1 x2) (mS_at μ x1 x2)) {H : Heap} {locs : List Loc} (hw : Wd g A s (wL h q xa xb tc tt z tr ar ac u aw a g σ μ) H locs) {ls : Array Slot} {y3 : Int32} (hl : lv_has ls 4 [(3, .int y3), (2, .ref (a 0)), (1, .ref h), (0, .ref b)]) (h1 : vp_in (y3 + (1 : Int32)) L) (h2 : vp_in (y3 + (2 : Int32)) L) (h3 : vp_in (y3 + (3 : Int32)) L) (next : ∀ (σ : S_SC) (μ : S_Mdl) (H : Heap) (locs : List Loc), Wd g A s (wL h q xa xb tc tt z tr ar ac u aw a g σ μ) H locs → Rel σ μ → W p l e room_1 s m #[Value.ref b] below meth c H locs 600000 7302250 Q (F0 m 533 ls [])) : W p l e room_1 s m #[Value.ref b] below meth c H locs 600000 7302250 Q (F0 m 391 ls []) := by
  have hx := hI.1
  have hb := hI.2.1
  refine lv_aload_n hx hb dL_law_391 rfl (lv_at hl 2 rfl) ?_
  refine lv_aload_n hx hb dL_law_392 rfl (lv_at hl 3 rfl) ?_
  refine lv_iload_n hx hb dL_law_393 rfl (lv_at hl 0 rfl) ?_
  refine lv_iconst (v := (1 : Int32)) hx hb dL_law_394 (by decide) ?_
  refine lv_iadd hx hb dL_law_395 ?_
  refine va_sld hx hb hX hbl hbA hw.2.2 h1 dL_law_396 ?_
  refine lv_aload_n hx hb dL_law_397 rfl (lv_at hl 3 rfl) ?_
  refine lv_iload_n hx hb dL_law_398 rfl (lv_at hl 0 rfl) ?_
  refine lv_iconst (v := (2 : Int32)) hx hb dL_law_399 (by decide) ?_
  refine lv_iadd hx hb dL_law_400 ?_
  refine va_sld hx hb hX hbl hbA hw.2.2 h2 dL_law_401 ?_
  obtain ⟨hq1, hq2, hq3⟩ := hag (xs (y3 + (1 : Int32)).toNatClampNeg) (xs (y3 + (2 : Int32)).toNatClampNeg)
  refine hI.callI (wl := w_SC h q xa xb tc tt z tr ar ac u aw g) (a := σ) (wr := w_Mdl a g μ) (ws1 := wL h q xa xb tc tt z tr ar ac u aw a g (cS_at σ (xs (y3 + (1 : Int32)).toNatClampNeg) (xs (y3 + (2 : Int32)).toNatClampNeg)).2 μ) (r := cS_at σ (xs (y3 + (1 : Int32)).toNatClampNeg) (xs (y3 + (2 : Int32)).toNatClampNeg)) (As := [.int (xs (y3 + (1 : Int32)).toNatClampNeg), .int (xs (y3 + (2 : Int32)).toNatClampNeg)]) (rest := []) hw (kC_at l g h q xa xb tc tt z tr ar ac u aw σ (xs (y3 + (1 : Int32)).toNatClampNeg) (xs (y3 + (2 : Int32)).toNatClampNeg)) ok_yX9_at ml_L_55 (rm_ok1 (by decide) (by decide)) [0, 1, 2, 3, 4, 5, 6, 7, 8, 9, 10, 11, 12, 13, 14, 15, 16, 17, 18, 19, 20, 21, 22, 23, 24, 25, 26, 27, 28, 29, 30] [31, 32, 33, 34, 35, 36, 37, 38, 39, 40, 41, 42, 43, 44] [14, 15, 16, 17, 18, 19, 20, 21, 22, 23, 24, 25, 26, 27, 28, 29, 30, 31, 32, 33, 34, 35, 36, 37, 38, 39, 40, 41, 42, 43, 44, 0, 1, 2, 3, 4, 5, 6, 7, 8, 9, 10, 11, 12, 13] rfl rfl rfl rfl rfl 0 rfl rfl rfl rfl hl.1 (Nat.le_of_ble_eq_true rfl) dL_law_402 ⟨Nat.le_refl _, Nat.le_refl _⟩ (fun H locs hw => ?_)
  refine lv_aload_n hx hb dL_law_405 rfl (lv_at hl 1 rfl) ?_
  refine lv_aload_n hx hb dL_law_406 rfl (lv_at hl 3 rfl) ?_
  refine lv_iload_n hx hb dL_law_407 rfl (lv_at hl 0 rfl) ?_
  refine lv_iconst (v := (1 : Int32)) hx hb dL_law_408 (by decide) ?_
  refine lv_iadd hx hb dL_law_409 ?_
  refine va_sld hx hb hX hbl hbA hw.2.2 h1 dL_law_410 ?_
  refine lv_aload_n hx hb dL_law_411 rfl (lv_at hl 3 rfl) ?_
  refine lv_iload_n hx hb dL_law_412 rfl (lv_at hl 0 rfl) ?_
  refine lv_iconst (v := (2 : Int32)) hx hb dL_law_413 (by decide) ?_
  refine lv_iadd hx hb dL_law_414 ?_
  refine va_sld hx hb hX hbl hbA hw.2.2 h2 dL_law_415 ?_
  refine hI.callI (wl := w_Mdl a g) (a := μ) (wr := w_SC h q xa xb tc tt z tr ar ac u aw g (cS_at σ (xs (y3 + (1 : Int32)).toNatClampNeg) (xs (y3 + (2 : Int32)).toNatClampNeg)).2) (ws1 := wL h q xa xb tc tt z tr ar ac u aw a g (cS_at σ (xs (y3 + (1 : Int32)).toNatClampNeg) (xs (y3 + (2 : Int32)).toNatClampNeg)).2 (mS_at μ (xs (y3 + (1 : Int32)).toNatClampNeg) (xs (y3 + (2 : Int32)).toNatClampNeg)).2) (r := mS_at μ (xs (y3 + (1 : Int32)).toNatClampNeg) (xs (y3 + (2 : Int32)).toNatClampNeg)) (As := [.int (xs (y3 + (1 : Int32)).toNatClampNeg), .int (xs (y3 + (2 : Int32)).toNatClampNeg)]) (rest := [.int ((cS_at σ (xs (y3 + (1 : Int32)).toNatClampNeg) (xs (y3 + (2 : Int32)).toNatClampNeg)).1)]) hw (kM_at l g a μ (xs (y3 + (1 : Int32)).toNatClampNeg) (xs (y3 + (2 : Int32)).toNatClampNeg) hq1) ok_yX10_at ml_L_58 (rm_ok1 (by decide) (by decide)) [31, 32, 33, 34, 35, 36, 37, 38, 39, 40, 41, 42, 43, 44] [0, 1, 2, 3, 4, 5, 6, 7, 8, 9, 10, 11, 12, 13, 14, 15, 16, 17, 18, 19, 20, 21, 22, 23, 24, 25, 26, 27, 28, 29, 30] [0, 1, 2, 3, 4, 5, 6, 7, 8, 9, 10, 11, 12, 13, 14, 15, 16, 17, 18, 19, 20, 21, 22, 23, 24, 25, 26, 27, 28, 29, 30, 31, 32, 33, 34, 35, 36, 37, 38, 39, 40, 41, 42, 43, 44] rfl rfl rfl rfl rfl 0 rfl rfl rfl rfl hl.1 (Nat.le_of_ble_eq_true rfl) dL_law_416 ⟨Nat.le_refl _, Nat.le_refl _⟩ (fun H locs hw => ?_)
  refine lv_icmp_eq (tgt := 533) hx hb dL_law_419 (by decide) (fun cz => ?_) (fun cz => ?_)
  · exact next _ _ _ _ hw hq3
  · exact absurd hq2 cz
set_option maxHeartbeats 4000000 in
set_option maxRecDepth 100000 in
theorem lc_run (l : Launch) {p : Program} {e : Env} {s : State} {m : MethodId} {below : List Frame} {meth : Method} {c : Code} {g : GG} {A : Nat → Prop} {rt : Option FieldType} {b L : Nat} {xs : Nat → Int32} {Q : State → Prop} (Rel : S_SC → S_Mdl → Prop) (h : Nat) (q : Nat → Nat) (xa : Nat → Nat) (xb : Nat → Nat) (tc : Nat → Nat) (tt : Nat → Nat) (z : Nat) (tr : Nat → Nat) (ar : Nat) (ac : Nat) (u : Nat → Nat) (aw : Nat) (a : Nat → Nat) (hI : InM p s m #[Value.ref b] meth c RL cL_law 4 rt g A) (hX : va_X b L xs s s.heap) (hbl : b < s.heap.size) (hbA : ¬ A b) (σ : S_SC) (μ : S_Mdl) (hag : Ag Rel (mK_run μ ) (cS_run σ ) (mS_run μ )) {H : Heap} {locs : List Loc} (hw : Wd g A s (wL h q xa xb tc tt z tr ar ac u aw a g σ μ) H locs) {ls : Array Slot} {y3 : Int32} (hl : lv_has ls 4 [(3, .int y3), (2, .ref (a 0)), (1, .ref h), (0, .ref b)]) (h1 : vp_in (y3 + (1 : Int32)) L) (h2 : vp_in (y3 + (2 : Int32)) L) (h3 : vp_in (y3 + (3 : Int32)) L) (next : ∀ (σ : S_SC) (μ : S_Mdl) (H : Heap) (locs : List Loc), Wd g A s (wL h q xa xb tc tt z tr ar ac u aw a g σ μ) H locs → Rel σ μ → W p l e room_1 s m #[Value.ref b] below meth c H locs 600000 7302250 Q (F0 m 533 ls [])) : W p l e room_1 s m #[Value.ref b] below meth c H locs 600000 7302250 Q (F0 m 424 ls []) := by
  have hx := hI.1
  have hb := hI.2.1
  refine lv_aload_n hx hb dL_law_424 rfl (lv_at hl 2 rfl) ?_
  obtain ⟨hq1, hq2, hq3⟩ := hag
  refine hI.callI (wl := w_SC h q xa xb tc tt z tr ar ac u aw g) (a := σ) (wr := w_Mdl a g μ) (ws1 := wL h q xa xb tc tt z tr ar ac u aw a g (cS_run σ).2 μ) (r := cS_run σ ) (As := []) (rest := []) hw (kC_run l g h q xa xb tc tt z tr ar ac u aw σ ) ok_yX9_run ml_L_59 (rm_ok1 (by decide) (by decide)) [0, 1, 2, 3, 4, 5, 6, 7, 8, 9, 10, 11, 12, 13, 14, 15, 16, 17, 18, 19, 20, 21, 22, 23, 24, 25, 26, 27, 28, 29, 30] [31, 32, 33, 34, 35, 36, 37, 38, 39, 40, 41, 42, 43, 44] [14, 15, 16, 17, 18, 19, 20, 21, 22, 23, 24, 25, 26, 27, 28, 29, 30, 31, 32, 33, 34, 35, 36, 37, 38, 39, 40, 41, 42, 43, 44, 0, 1, 2, 3, 4, 5, 6, 7, 8, 9, 10, 11, 12, 13] rfl rfl rfl rfl rfl 0 rfl rfl rfl rfl hl.1 (Nat.le_of_ble_eq_true rfl) dL_law_425 ⟨Nat.le_refl _, Nat.le_refl _⟩ (fun H locs hw => ?_)
  refine lv_aload_n hx hb dL_law_428 rfl (lv_at hl 1 rfl) ?_
  refine hI.callI (wl := w_Mdl a g) (a := μ) (wr := w_SC h q xa xb tc tt z tr ar ac u aw g (cS_run σ).2) (ws1 := wL h q xa xb tc tt z tr ar ac u aw a g (cS_run σ).2 (mS_run μ).2) (r := mS_run μ ) (As := []) (rest := [.int ((cS_run σ).1)]) hw (kM_run l g a μ  hq1) ok_yX10_run ml_L_62 (rm_ok1 (by decide) (by decide)) [31, 32, 33, 34, 35, 36, 37, 38, 39, 40, 41, 42, 43, 44] [0, 1, 2, 3, 4, 5, 6, 7, 8, 9, 10, 11, 12, 13, 14, 15, 16, 17, 18, 19, 20, 21, 22, 23, 24, 25, 26, 27, 28, 29, 30] [0, 1, 2, 3, 4, 5, 6, 7, 8, 9, 10, 11, 12, 13, 14, 15, 16, 17, 18, 19, 20, 21, 22, 23, 24, 25, 26, 27, 28, 29, 30, 31, 32, 33, 34, 35, 36, 37, 38, 39, 40, 41, 42, 43, 44] rfl rfl rfl rfl rfl 0 rfl rfl rfl rfl hl.1 (Nat.le_of_ble_eq_true rfl) dL_law_429 ⟨Nat.le_refl _, Nat.le_refl _⟩ (fun H locs hw => ?_)
  refine lv_icmp_eq (tgt := 533) hx hb dL_law_432 (by decide) (fun cz => ?_) (fun cz => ?_)
  · exact next _ _ _ _ hw hq3
  · exact absurd hq2 cz
set_option maxHeartbeats 4000000 in
set_option maxRecDepth 100000 in
theorem lc_plain (l : Launch) {p : Program} {e : Env} {s : State} {m : MethodId} {below : List Frame} {meth : Method} {c : Code} {g : GG} {A : Nat → Prop} {rt : Option FieldType} {b L : Nat} {xs : Nat → Int32} {Q : State → Prop} (Rel : S_SC → S_Mdl → Prop) (h : Nat) (q : Nat → Nat) (xa : Nat → Nat) (xb : Nat → Nat) (tc : Nat → Nat) (tt : Nat → Nat) (z : Nat) (tr : Nat → Nat) (ar : Nat) (ac : Nat) (u : Nat → Nat) (aw : Nat) (a : Nat → Nat) (hI : InM p s m #[Value.ref b] meth c RL cL_law 4 rt g A) (hX : va_X b L xs s s.heap) (hbl : b < s.heap.size) (hbA : ¬ A b) (σ : S_SC) (μ : S_Mdl) (hag : Ag Rel (mK_plain μ ) (cS_plain σ ) (mS_plain μ )) {H : Heap} {locs : List Loc} (hw : Wd g A s (wL h q xa xb tc tt z tr ar ac u aw a g σ μ) H locs) {ls : Array Slot} {y3 : Int32} (hl : lv_has ls 4 [(3, .int y3), (2, .ref (a 0)), (1, .ref h), (0, .ref b)]) (h1 : vp_in (y3 + (1 : Int32)) L) (h2 : vp_in (y3 + (2 : Int32)) L) (h3 : vp_in (y3 + (3 : Int32)) L) (next : ∀ (σ : S_SC) (μ : S_Mdl) (H : Heap) (locs : List Loc), Wd g A s (wL h q xa xb tc tt z tr ar ac u aw a g σ μ) H locs → Rel σ μ → W p l e room_1 s m #[Value.ref b] below meth c H locs 600000 7302250 Q (F0 m 533 ls [])) : W p l e room_1 s m #[Value.ref b] below meth c H locs 600000 7302250 Q (F0 m 437 ls []) := by
  have hx := hI.1
  have hb := hI.2.1
  refine lv_aload_n hx hb dL_law_437 rfl (lv_at hl 2 rfl) ?_
  obtain ⟨hq1, hq2, hq3⟩ := hag
  refine hI.callI (wl := w_SC h q xa xb tc tt z tr ar ac u aw g) (a := σ) (wr := w_Mdl a g μ) (ws1 := wL h q xa xb tc tt z tr ar ac u aw a g (cS_plain σ).2 μ) (r := cS_plain σ ) (As := []) (rest := []) hw (kC_plain l g h q xa xb tc tt z tr ar ac u aw σ ) ok_yX9_plain ml_L_63 (rm_ok1 (by decide) (by decide)) [0, 1, 2, 3, 4, 5, 6, 7, 8, 9, 10, 11, 12, 13, 14, 15, 16, 17, 18, 19, 20, 21, 22, 23, 24, 25, 26, 27, 28, 29, 30] [31, 32, 33, 34, 35, 36, 37, 38, 39, 40, 41, 42, 43, 44] [14, 15, 16, 17, 18, 19, 20, 21, 22, 23, 24, 25, 26, 27, 28, 29, 30, 31, 32, 33, 34, 35, 36, 37, 38, 39, 40, 41, 42, 43, 44, 0, 1, 2, 3, 4, 5, 6, 7, 8, 9, 10, 11, 12, 13] rfl rfl rfl rfl rfl 0 rfl rfl rfl rfl hl.1 (Nat.le_of_ble_eq_true rfl) dL_law_438 ⟨Nat.le_refl _, Nat.le_refl _⟩ (fun H locs hw => ?_)
  refine lv_aload_n hx hb dL_law_441 rfl (lv_at hl 1 rfl) ?_
  refine hI.callI (wl := w_Mdl a g) (a := μ) (wr := w_SC h q xa xb tc tt z tr ar ac u aw g (cS_plain σ).2) (ws1 := wL h q xa xb tc tt z tr ar ac u aw a g (cS_plain σ).2 (mS_plain μ).2) (r := mS_plain μ ) (As := []) (rest := [.int ((cS_plain σ).1)]) hw (kM_plain l g a μ  hq1) ok_yX10_plain ml_L_66 (rm_ok1 (by decide) (by decide)) [31, 32, 33, 34, 35, 36, 37, 38, 39, 40, 41, 42, 43, 44] [0, 1, 2, 3, 4, 5, 6, 7, 8, 9, 10, 11, 12, 13, 14, 15, 16, 17, 18, 19, 20, 21, 22, 23, 24, 25, 26, 27, 28, 29, 30] [0, 1, 2, 3, 4, 5, 6, 7, 8, 9, 10, 11, 12, 13, 14, 15, 16, 17, 18, 19, 20, 21, 22, 23, 24, 25, 26, 27, 28, 29, 30, 31, 32, 33, 34, 35, 36, 37, 38, 39, 40, 41, 42, 43, 44] rfl rfl rfl rfl rfl 0 rfl rfl rfl rfl hl.1 (Nat.le_of_ble_eq_true rfl) dL_law_442 ⟨Nat.le_refl _, Nat.le_refl _⟩ (fun H locs hw => ?_)
  refine lv_icmp_eq (tgt := 533) hx hb dL_law_445 (by decide) (fun cz => ?_) (fun cz => ?_)
  · exact next _ _ _ _ hw hq3
  · exact absurd hq2 cz
set_option maxHeartbeats 4000000 in
set_option maxRecDepth 100000 in
theorem lc_told (l : Launch) {p : Program} {e : Env} {s : State} {m : MethodId} {below : List Frame} {meth : Method} {c : Code} {g : GG} {A : Nat → Prop} {rt : Option FieldType} {b L : Nat} {xs : Nat → Int32} {Q : State → Prop} (Rel : S_SC → S_Mdl → Prop) (h : Nat) (q : Nat → Nat) (xa : Nat → Nat) (xb : Nat → Nat) (tc : Nat → Nat) (tt : Nat → Nat) (z : Nat) (tr : Nat → Nat) (ar : Nat) (ac : Nat) (u : Nat → Nat) (aw : Nat) (a : Nat → Nat) (hI : InM p s m #[Value.ref b] meth c RL cL_law 4 rt g A) (hX : va_X b L xs s s.heap) (hbl : b < s.heap.size) (hbA : ¬ A b) (σ : S_SC) (μ : S_Mdl) (hag : ∀ x1 : Int32, Ag Rel (mK_told μ x1) (cS_told σ x1) (mS_told μ x1)) {H : Heap} {locs : List Loc} (hw : Wd g A s (wL h q xa xb tc tt z tr ar ac u aw a g σ μ) H locs) {ls : Array Slot} {y3 : Int32} (hl : lv_has ls 4 [(3, .int y3), (2, .ref (a 0)), (1, .ref h), (0, .ref b)]) (h1 : vp_in (y3 + (1 : Int32)) L) (h2 : vp_in (y3 + (2 : Int32)) L) (h3 : vp_in (y3 + (3 : Int32)) L) (next : ∀ (σ : S_SC) (μ : S_Mdl) (H : Heap) (locs : List Loc), Wd g A s (wL h q xa xb tc tt z tr ar ac u aw a g σ μ) H locs → Rel σ μ → W p l e room_1 s m #[Value.ref b] below meth c H locs 600000 7302250 Q (F0 m 533 ls [])) : W p l e room_1 s m #[Value.ref b] below meth c H locs 600000 7302250 Q (F0 m 450 ls []) := by
  have hx := hI.1
  have hb := hI.2.1
  refine lv_aload_n hx hb dL_law_450 rfl (lv_at hl 2 rfl) ?_
  refine lv_aload_n hx hb dL_law_451 rfl (lv_at hl 3 rfl) ?_
  refine lv_iload_n hx hb dL_law_452 rfl (lv_at hl 0 rfl) ?_
  refine lv_iconst (v := (1 : Int32)) hx hb dL_law_453 (by decide) ?_
  refine lv_iadd hx hb dL_law_454 ?_
  refine va_sld hx hb hX hbl hbA hw.2.2 h1 dL_law_455 ?_
  obtain ⟨hq1, hq2, hq3⟩ := hag (xs (y3 + (1 : Int32)).toNatClampNeg)
  refine hI.callI (wl := w_SC h q xa xb tc tt z tr ar ac u aw g) (a := σ) (wr := w_Mdl a g μ) (ws1 := wL h q xa xb tc tt z tr ar ac u aw a g (cS_told σ (xs (y3 + (1 : Int32)).toNatClampNeg)).2 μ) (r := cS_told σ (xs (y3 + (1 : Int32)).toNatClampNeg)) (As := [.int (xs (y3 + (1 : Int32)).toNatClampNeg)]) (rest := []) hw (kC_told l g h q xa xb tc tt z tr ar ac u aw σ (xs (y3 + (1 : Int32)).toNatClampNeg)) ok_yX9_told ml_L_67 (rm_ok1 (by decide) (by decide)) [0, 1, 2, 3, 4, 5, 6, 7, 8, 9, 10, 11, 12, 13, 14, 15, 16, 17, 18, 19, 20, 21, 22, 23, 24, 25, 26, 27, 28, 29, 30] [31, 32, 33, 34, 35, 36, 37, 38, 39, 40, 41, 42, 43, 44] [14, 15, 16, 17, 18, 19, 20, 21, 22, 23, 24, 25, 26, 27, 28, 29, 30, 31, 32, 33, 34, 35, 36, 37, 38, 39, 40, 41, 42, 43, 44, 0, 1, 2, 3, 4, 5, 6, 7, 8, 9, 10, 11, 12, 13] rfl rfl rfl rfl rfl 0 rfl rfl rfl rfl hl.1 (Nat.le_of_ble_eq_true rfl) dL_law_456 ⟨Nat.le_refl _, Nat.le_refl _⟩ (fun H locs hw => ?_)
  refine lv_aload_n hx hb dL_law_459 rfl (lv_at hl 1 rfl) ?_
  refine lv_aload_n hx hb dL_law_460 rfl (lv_at hl 3 rfl) ?_
  refine lv_iload_n hx hb dL_law_461 rfl (lv_at hl 0 rfl) ?_
  refine lv_iconst (v := (1 : Int32)) hx hb dL_law_462 (by decide) ?_
  refine lv_iadd hx hb dL_law_463 ?_
  refine va_sld hx hb hX hbl hbA hw.2.2 h1 dL_law_464 ?_
  refine hI.callI (wl := w_Mdl a g) (a := μ) (wr := w_SC h q xa xb tc tt z tr ar ac u aw g (cS_told σ (xs (y3 + (1 : Int32)).toNatClampNeg)).2) (ws1 := wL h q xa xb tc tt z tr ar ac u aw a g (cS_told σ (xs (y3 + (1 : Int32)).toNatClampNeg)).2 (mS_told μ (xs (y3 + (1 : Int32)).toNatClampNeg)).2) (r := mS_told μ (xs (y3 + (1 : Int32)).toNatClampNeg)) (As := [.int (xs (y3 + (1 : Int32)).toNatClampNeg)]) (rest := [.int ((cS_told σ (xs (y3 + (1 : Int32)).toNatClampNeg)).1)]) hw (kM_told l g a μ (xs (y3 + (1 : Int32)).toNatClampNeg) hq1) ok_yX10_told ml_L_70 (rm_ok1 (by decide) (by decide)) [31, 32, 33, 34, 35, 36, 37, 38, 39, 40, 41, 42, 43, 44] [0, 1, 2, 3, 4, 5, 6, 7, 8, 9, 10, 11, 12, 13, 14, 15, 16, 17, 18, 19, 20, 21, 22, 23, 24, 25, 26, 27, 28, 29, 30] [0, 1, 2, 3, 4, 5, 6, 7, 8, 9, 10, 11, 12, 13, 14, 15, 16, 17, 18, 19, 20, 21, 22, 23, 24, 25, 26, 27, 28, 29, 30, 31, 32, 33, 34, 35, 36, 37, 38, 39, 40, 41, 42, 43, 44] rfl rfl rfl rfl rfl 0 rfl rfl rfl rfl hl.1 (Nat.le_of_ble_eq_true rfl) dL_law_465 ⟨Nat.le_refl _, Nat.le_refl _⟩ (fun H locs hw => ?_)
  refine lv_icmp_eq (tgt := 533) hx hb dL_law_468 (by decide) (fun cz => ?_) (fun cz => ?_)
  · exact next _ _ _ _ hw hq3
  · exact absurd hq2 cz
set_option maxHeartbeats 4000000 in
set_option maxRecDepth 100000 in
theorem lc_trace (l : Launch) {p : Program} {e : Env} {s : State} {m : MethodId} {below : List Frame} {meth : Method} {c : Code} {g : GG} {A : Nat → Prop} {rt : Option FieldType} {b L : Nat} {xs : Nat → Int32} {Q : State → Prop} (Rel : S_SC → S_Mdl → Prop) (h : Nat) (q : Nat → Nat) (xa : Nat → Nat) (xb : Nat → Nat) (tc : Nat → Nat) (tt : Nat → Nat) (z : Nat) (tr : Nat → Nat) (ar : Nat) (ac : Nat) (u : Nat → Nat) (aw : Nat) (a : Nat → Nat) (hI : InM p s m #[Value.ref b] meth c RL cL_law 4 rt g A) (hX : va_X b L xs s s.heap) (hbl : b < s.heap.size) (hbA : ¬ A b) (σ : S_SC) (μ : S_Mdl) (hag : ∀ x1 : Int32, Ag Rel (mK_trace μ x1) (cS_trace σ x1) (mS_trace μ x1)) {H : Heap} {locs : List Loc} (hw : Wd g A s (wL h q xa xb tc tt z tr ar ac u aw a g σ μ) H locs) {ls : Array Slot} {y3 : Int32} (hl : lv_has ls 4 [(3, .int y3), (2, .ref (a 0)), (1, .ref h), (0, .ref b)]) (h1 : vp_in (y3 + (1 : Int32)) L) (h2 : vp_in (y3 + (2 : Int32)) L) (h3 : vp_in (y3 + (3 : Int32)) L) (next : ∀ (σ : S_SC) (μ : S_Mdl) (H : Heap) (locs : List Loc), Wd g A s (wL h q xa xb tc tt z tr ar ac u aw a g σ μ) H locs → Rel σ μ → W p l e room_1 s m #[Value.ref b] below meth c H locs 600000 7302250 Q (F0 m 533 ls [])) : W p l e room_1 s m #[Value.ref b] below meth c H locs 600000 7302250 Q (F0 m 473 ls []) := by
  have hx := hI.1
  have hb := hI.2.1
  refine lv_aload_n hx hb dL_law_473 rfl (lv_at hl 2 rfl) ?_
  refine lv_aload_n hx hb dL_law_474 rfl (lv_at hl 3 rfl) ?_
  refine lv_iload_n hx hb dL_law_475 rfl (lv_at hl 0 rfl) ?_
  refine lv_iconst (v := (1 : Int32)) hx hb dL_law_476 (by decide) ?_
  refine lv_iadd hx hb dL_law_477 ?_
  refine va_sld hx hb hX hbl hbA hw.2.2 h1 dL_law_478 ?_
  obtain ⟨hq1, hq2, hq3⟩ := hag (xs (y3 + (1 : Int32)).toNatClampNeg)
  refine hI.callI (wl := w_SC h q xa xb tc tt z tr ar ac u aw g) (a := σ) (wr := w_Mdl a g μ) (ws1 := wL h q xa xb tc tt z tr ar ac u aw a g (cS_trace σ (xs (y3 + (1 : Int32)).toNatClampNeg)).2 μ) (r := cS_trace σ (xs (y3 + (1 : Int32)).toNatClampNeg)) (As := [.int (xs (y3 + (1 : Int32)).toNatClampNeg)]) (rest := []) hw (kC_trace l g h q xa xb tc tt z tr ar ac u aw σ (xs (y3 + (1 : Int32)).toNatClampNeg)) ok_yX9_trace ml_L_71 (rm_ok1 (by decide) (by decide)) [0, 1, 2, 3, 4, 5, 6, 7, 8, 9, 10, 11, 12, 13, 14, 15, 16, 17, 18, 19, 20, 21, 22, 23, 24, 25, 26, 27, 28, 29, 30] [31, 32, 33, 34, 35, 36, 37, 38, 39, 40, 41, 42, 43, 44] [14, 15, 16, 17, 18, 19, 20, 21, 22, 23, 24, 25, 26, 27, 28, 29, 30, 31, 32, 33, 34, 35, 36, 37, 38, 39, 40, 41, 42, 43, 44, 0, 1, 2, 3, 4, 5, 6, 7, 8, 9, 10, 11, 12, 13] rfl rfl rfl rfl rfl 0 rfl rfl rfl rfl hl.1 (Nat.le_of_ble_eq_true rfl) dL_law_479 ⟨Nat.le_refl _, Nat.le_refl _⟩ (fun H locs hw => ?_)
  refine lv_aload_n hx hb dL_law_482 rfl (lv_at hl 1 rfl) ?_
  refine lv_aload_n hx hb dL_law_483 rfl (lv_at hl 3 rfl) ?_
  refine lv_iload_n hx hb dL_law_484 rfl (lv_at hl 0 rfl) ?_
  refine lv_iconst (v := (1 : Int32)) hx hb dL_law_485 (by decide) ?_
  refine lv_iadd hx hb dL_law_486 ?_
  refine va_sld hx hb hX hbl hbA hw.2.2 h1 dL_law_487 ?_
  refine hI.callI (wl := w_Mdl a g) (a := μ) (wr := w_SC h q xa xb tc tt z tr ar ac u aw g (cS_trace σ (xs (y3 + (1 : Int32)).toNatClampNeg)).2) (ws1 := wL h q xa xb tc tt z tr ar ac u aw a g (cS_trace σ (xs (y3 + (1 : Int32)).toNatClampNeg)).2 (mS_trace μ (xs (y3 + (1 : Int32)).toNatClampNeg)).2) (r := mS_trace μ (xs (y3 + (1 : Int32)).toNatClampNeg)) (As := [.int (xs (y3 + (1 : Int32)).toNatClampNeg)]) (rest := [.int ((cS_trace σ (xs (y3 + (1 : Int32)).toNatClampNeg)).1)]) hw (kM_trace l g a μ (xs (y3 + (1 : Int32)).toNatClampNeg) hq1) ok_yX10_trace ml_L_74 (rm_ok1 (by decide) (by decide)) [31, 32, 33, 34, 35, 36, 37, 38, 39, 40, 41, 42, 43, 44] [0, 1, 2, 3, 4, 5, 6, 7, 8, 9, 10, 11, 12, 13, 14, 15, 16, 17, 18, 19, 20, 21, 22, 23, 24, 25, 26, 27, 28, 29, 30] [0, 1, 2, 3, 4, 5, 6, 7, 8, 9, 10, 11, 12, 13, 14, 15, 16, 17, 18, 19, 20, 21, 22, 23, 24, 25, 26, 27, 28, 29, 30, 31, 32, 33, 34, 35, 36, 37, 38, 39, 40, 41, 42, 43, 44] rfl rfl rfl rfl rfl 0 rfl rfl rfl rfl hl.1 (Nat.le_of_ble_eq_true rfl) dL_law_488 ⟨Nat.le_refl _, Nat.le_refl _⟩ (fun H locs hw => ?_)
  refine lv_icmp_eq (tgt := 533) hx hb dL_law_491 (by decide) (fun cz => ?_) (fun cz => ?_)
  · exact next _ _ _ _ hw hq3
  · exact absurd hq2 cz
set_option maxHeartbeats 4000000 in
set_option maxRecDepth 100000 in
theorem lc_mark (l : Launch) {p : Program} {e : Env} {s : State} {m : MethodId} {below : List Frame} {meth : Method} {c : Code} {g : GG} {A : Nat → Prop} {rt : Option FieldType} {b L : Nat} {xs : Nat → Int32} {Q : State → Prop} (Rel : S_SC → S_Mdl → Prop) (h : Nat) (q : Nat → Nat) (xa : Nat → Nat) (xb : Nat → Nat) (tc : Nat → Nat) (tt : Nat → Nat) (z : Nat) (tr : Nat → Nat) (ar : Nat) (ac : Nat) (u : Nat → Nat) (aw : Nat) (a : Nat → Nat) (hI : InM p s m #[Value.ref b] meth c RL cL_law 4 rt g A) (hX : va_X b L xs s s.heap) (hbl : b < s.heap.size) (hbA : ¬ A b) (σ : S_SC) (μ : S_Mdl) (hag : Ag Rel (mK_mark μ ) (cS_mark σ ) (mS_mark μ )) {H : Heap} {locs : List Loc} (hw : Wd g A s (wL h q xa xb tc tt z tr ar ac u aw a g σ μ) H locs) {ls : Array Slot} {y3 : Int32} (hl : lv_has ls 4 [(3, .int y3), (2, .ref (a 0)), (1, .ref h), (0, .ref b)]) (h1 : vp_in (y3 + (1 : Int32)) L) (h2 : vp_in (y3 + (2 : Int32)) L) (h3 : vp_in (y3 + (3 : Int32)) L) (next : ∀ (σ : S_SC) (μ : S_Mdl) (H : Heap) (locs : List Loc), Wd g A s (wL h q xa xb tc tt z tr ar ac u aw a g σ μ) H locs → Rel σ μ → W p l e room_1 s m #[Value.ref b] below meth c H locs 600000 7302250 Q (F0 m 533 ls [])) : W p l e room_1 s m #[Value.ref b] below meth c H locs 600000 7302250 Q (F0 m 496 ls []) := by
  have hx := hI.1
  have hb := hI.2.1
  refine lv_aload_n hx hb dL_law_496 rfl (lv_at hl 2 rfl) ?_
  obtain ⟨hq1, hq2, hq3⟩ := hag
  refine hI.callL (wl := w_SC h q xa xb tc tt z tr ar ac u aw g) (a := σ) (wr := w_Mdl a g μ) (ws1 := wL h q xa xb tc tt z tr ar ac u aw a g (cS_mark σ).2 μ) (r := cS_mark σ ) (As := []) (rest := []) hw (kC_mark l g h q xa xb tc tt z tr ar ac u aw σ ) ok_yX9_mark ml_L_75 (rm_ok1 (by decide) (by decide)) [0, 1, 2, 3, 4, 5, 6, 7, 8, 9, 10, 11, 12, 13, 14, 15, 16, 17, 18, 19, 20, 21, 22, 23, 24, 25, 26, 27, 28, 29, 30] [31, 32, 33, 34, 35, 36, 37, 38, 39, 40, 41, 42, 43, 44] [14, 15, 16, 17, 18, 19, 20, 21, 22, 23, 24, 25, 26, 27, 28, 29, 30, 31, 32, 33, 34, 35, 36, 37, 38, 39, 40, 41, 42, 43, 44, 0, 1, 2, 3, 4, 5, 6, 7, 8, 9, 10, 11, 12, 13] rfl rfl rfl rfl rfl 0 rfl rfl rfl rfl hl.1 (Nat.le_of_ble_eq_true rfl) dL_law_497 ⟨Nat.le_refl _, Nat.le_refl _⟩ (fun H locs hw => ?_)
  refine lv_aload_n hx hb dL_law_500 rfl (lv_at hl 1 rfl) ?_
  refine hI.callL (wl := w_Mdl a g) (a := μ) (wr := w_SC h q xa xb tc tt z tr ar ac u aw g (cS_mark σ).2) (ws1 := wL h q xa xb tc tt z tr ar ac u aw a g (cS_mark σ).2 (mS_mark μ).2) (r := mS_mark μ ) (As := []) (rest := [.long ((cS_mark σ).1)]) hw (kM_mark l g a μ  hq1) ok_yX10_mark ml_L_79 (rm_ok1 (by decide) (by decide)) [31, 32, 33, 34, 35, 36, 37, 38, 39, 40, 41, 42, 43, 44] [0, 1, 2, 3, 4, 5, 6, 7, 8, 9, 10, 11, 12, 13, 14, 15, 16, 17, 18, 19, 20, 21, 22, 23, 24, 25, 26, 27, 28, 29, 30] [0, 1, 2, 3, 4, 5, 6, 7, 8, 9, 10, 11, 12, 13, 14, 15, 16, 17, 18, 19, 20, 21, 22, 23, 24, 25, 26, 27, 28, 29, 30, 31, 32, 33, 34, 35, 36, 37, 38, 39, 40, 41, 42, 43, 44] rfl rfl rfl rfl rfl 0 rfl rfl rfl rfl hl.1 (Nat.le_of_ble_eq_true rfl) dL_law_501 ⟨Nat.le_refl _, Nat.le_refl _⟩ (fun H locs hw => ?_)
  refine W.lcmp hx hb dL_law_504 ?_
  refine lv_if_eq (tgt := 533) hx hb dL_law_505 (by decide) (fun cz => ?_) (fun cz => ?_)
  · exact next _ _ _ _ hw hq3
  · exact absurd (by rw [hq2]; exact lg_cmp_self _) cz
set_option maxHeartbeats 4000000 in
set_option maxRecDepth 100000 in
theorem lc_count (l : Launch) {p : Program} {e : Env} {s : State} {m : MethodId} {below : List Frame} {meth : Method} {c : Code} {g : GG} {A : Nat → Prop} {rt : Option FieldType} {b L : Nat} {xs : Nat → Int32} {Q : State → Prop} (Rel : S_SC → S_Mdl → Prop) (h : Nat) (q : Nat → Nat) (xa : Nat → Nat) (xb : Nat → Nat) (tc : Nat → Nat) (tt : Nat → Nat) (z : Nat) (tr : Nat → Nat) (ar : Nat) (ac : Nat) (u : Nat → Nat) (aw : Nat) (a : Nat → Nat) (hI : InM p s m #[Value.ref b] meth c RL cL_law 4 rt g A) (hX : va_X b L xs s s.heap) (hbl : b < s.heap.size) (hbA : ¬ A b) (σ : S_SC) (μ : S_Mdl) (hag : ∀ x1 : Int32, Ag Rel (mK_count μ x1) (cS_count σ x1) (mS_count μ x1)) {H : Heap} {locs : List Loc} (hw : Wd g A s (wL h q xa xb tc tt z tr ar ac u aw a g σ μ) H locs) {ls : Array Slot} {y3 : Int32} (hl : lv_has ls 4 [(3, .int y3), (2, .ref (a 0)), (1, .ref h), (0, .ref b)]) (h1 : vp_in (y3 + (1 : Int32)) L) (h2 : vp_in (y3 + (2 : Int32)) L) (h3 : vp_in (y3 + (3 : Int32)) L) (next : ∀ (σ : S_SC) (μ : S_Mdl) (H : Heap) (locs : List Loc), Wd g A s (wL h q xa xb tc tt z tr ar ac u aw a g σ μ) H locs → Rel σ μ → W p l e room_1 s m #[Value.ref b] below meth c H locs 600000 7302250 Q (F0 m 533 ls [])) : W p l e room_1 s m #[Value.ref b] below meth c H locs 600000 7302250 Q (F0 m 510 ls []) := by
  have hx := hI.1
  have hb := hI.2.1
  refine lv_aload_n hx hb dL_law_510 rfl (lv_at hl 2 rfl) ?_
  refine lv_aload_n hx hb dL_law_511 rfl (lv_at hl 3 rfl) ?_
  refine lv_iload_n hx hb dL_law_512 rfl (lv_at hl 0 rfl) ?_
  refine lv_iconst (v := (1 : Int32)) hx hb dL_law_513 (by decide) ?_
  refine lv_iadd hx hb dL_law_514 ?_
  refine va_sld hx hb hX hbl hbA hw.2.2 h1 dL_law_515 ?_
  obtain ⟨hq1, hq2, hq3⟩ := hag (xs (y3 + (1 : Int32)).toNatClampNeg)
  refine hI.callI (wl := w_SC h q xa xb tc tt z tr ar ac u aw g) (a := σ) (wr := w_Mdl a g μ) (ws1 := wL h q xa xb tc tt z tr ar ac u aw a g (cS_count σ (xs (y3 + (1 : Int32)).toNatClampNeg)).2 μ) (r := cS_count σ (xs (y3 + (1 : Int32)).toNatClampNeg)) (As := [.int (xs (y3 + (1 : Int32)).toNatClampNeg)]) (rest := []) hw (kC_count l g h q xa xb tc tt z tr ar ac u aw σ (xs (y3 + (1 : Int32)).toNatClampNeg)) ok_yX9_count ml_L_80 (rm_ok1 (by decide) (by decide)) [0, 1, 2, 3, 4, 5, 6, 7, 8, 9, 10, 11, 12, 13, 14, 15, 16, 17, 18, 19, 20, 21, 22, 23, 24, 25, 26, 27, 28, 29, 30] [31, 32, 33, 34, 35, 36, 37, 38, 39, 40, 41, 42, 43, 44] [14, 15, 16, 17, 18, 19, 20, 21, 22, 23, 24, 25, 26, 27, 28, 29, 30, 31, 32, 33, 34, 35, 36, 37, 38, 39, 40, 41, 42, 43, 44, 0, 1, 2, 3, 4, 5, 6, 7, 8, 9, 10, 11, 12, 13] rfl rfl rfl rfl rfl 0 rfl rfl rfl rfl hl.1 (Nat.le_of_ble_eq_true rfl) dL_law_516 ⟨Nat.le_refl _, Nat.le_refl _⟩ (fun H locs hw => ?_)
  refine lv_aload_n hx hb dL_law_519 rfl (lv_at hl 1 rfl) ?_
  refine lv_aload_n hx hb dL_law_520 rfl (lv_at hl 3 rfl) ?_
  refine lv_iload_n hx hb dL_law_521 rfl (lv_at hl 0 rfl) ?_
  refine lv_iconst (v := (1 : Int32)) hx hb dL_law_522 (by decide) ?_
  refine lv_iadd hx hb dL_law_523 ?_
  refine va_sld hx hb hX hbl hbA hw.2.2 h1 dL_law_524 ?_
  refine hI.callI (wl := w_Mdl a g) (a := μ) (wr := w_SC h q xa xb tc tt z tr ar ac u aw g (cS_count σ (xs (y3 + (1 : Int32)).toNatClampNeg)).2) (ws1 := wL h q xa xb tc tt z tr ar ac u aw a g (cS_count σ (xs (y3 + (1 : Int32)).toNatClampNeg)).2 (mS_count μ (xs (y3 + (1 : Int32)).toNatClampNeg)).2) (r := mS_count μ (xs (y3 + (1 : Int32)).toNatClampNeg)) (As := [.int (xs (y3 + (1 : Int32)).toNatClampNeg)]) (rest := [.int ((cS_count σ (xs (y3 + (1 : Int32)).toNatClampNeg)).1)]) hw (kM_count l g a μ (xs (y3 + (1 : Int32)).toNatClampNeg) hq1) ok_yX10_count ml_L_83 (rm_ok1 (by decide) (by decide)) [31, 32, 33, 34, 35, 36, 37, 38, 39, 40, 41, 42, 43, 44] [0, 1, 2, 3, 4, 5, 6, 7, 8, 9, 10, 11, 12, 13, 14, 15, 16, 17, 18, 19, 20, 21, 22, 23, 24, 25, 26, 27, 28, 29, 30] [0, 1, 2, 3, 4, 5, 6, 7, 8, 9, 10, 11, 12, 13, 14, 15, 16, 17, 18, 19, 20, 21, 22, 23, 24, 25, 26, 27, 28, 29, 30, 31, 32, 33, 34, 35, 36, 37, 38, 39, 40, 41, 42, 43, 44] rfl rfl rfl rfl rfl 0 rfl rfl rfl rfl hl.1 (Nat.le_of_ble_eq_true rfl) dL_law_525 ⟨Nat.le_refl _, Nat.le_refl _⟩ (fun H locs hw => ?_)
  refine lv_icmp_eq (tgt := 533) hx hb dL_law_528 (by decide) (fun cz => ?_) (fun cz => ?_)
  · exact next _ _ _ _ hw hq3
  · exact absurd hq2 cz
