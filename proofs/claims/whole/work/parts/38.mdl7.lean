def rb_X10_codeIf (σ : S_Mdl) (o : Int32 × ((Nat → Int32) × Int32)) : Int32 × S_Mdl := (o.1, (((((σ.1.1.1.1.1, σ.1.1.1.1.2), (σ.1.1.1.2.1, σ.1.1.1.2.2)), ((σ.1.1.2.1.1, σ.1.1.2.1.2), σ.1.1.2.2)), (((σ.1.2.1.1.1, o.2.1), o.2.2), ((σ.1.2.2.1.1, σ.1.2.2.1.2), σ.1.2.2.2))), ((((σ.2.1.1.1.1, σ.2.1.1.1.2), (σ.2.1.1.2.1, σ.2.1.1.2.2)), ((σ.2.1.2.1.1, σ.2.1.2.1.2), σ.2.1.2.2)), (((σ.2.2.1.1.1, σ.2.2.1.1.2), σ.2.2.1.2), ((σ.2.2.2.1.1, σ.2.2.2.1.2), σ.2.2.2.2)))))
def rb_X10_codeS (σ : S_Mdl) (o : Int32 × ((Nat → Int32) × Int32)) : Int32 × S_Mdl := (o.1, (((((σ.1.1.1.1.1, σ.1.1.1.1.2), (σ.1.1.1.2.1, σ.1.1.1.2.2)), ((σ.1.1.2.1.1, σ.1.1.2.1.2), σ.1.1.2.2)), (((σ.1.2.1.1.1, o.2.1), o.2.2), ((σ.1.2.2.1.1, σ.1.2.2.1.2), σ.1.2.2.2))), ((((σ.2.1.1.1.1, σ.2.1.1.1.2), (σ.2.1.1.2.1, σ.2.1.1.2.2)), ((σ.2.1.2.1.1, σ.2.1.2.1.2), σ.2.1.2.2)), (((σ.2.2.1.1.1, σ.2.2.1.1.2), σ.2.2.1.2), ((σ.2.2.2.1.1, σ.2.2.2.1.2), σ.2.2.2.2)))))
def rb_X10_codeAll (σ : S_Mdl) (o : Int32 × ((Nat → Int32) × Int32)) : Int32 × S_Mdl := (o.1, (((((σ.1.1.1.1.1, σ.1.1.1.1.2), (σ.1.1.1.2.1, σ.1.1.1.2.2)), ((σ.1.1.2.1.1, σ.1.1.2.1.2), σ.1.1.2.2)), (((σ.1.2.1.1.1, o.2.1), o.2.2), ((σ.1.2.2.1.1, σ.1.2.2.1.2), σ.1.2.2.2))), ((((σ.2.1.1.1.1, σ.2.1.1.1.2), (σ.2.1.1.2.1, σ.2.1.1.2.2)), ((σ.2.1.2.1.1, σ.2.1.2.1.2), σ.2.1.2.2)), (((σ.2.2.1.1.1, σ.2.2.1.1.2), σ.2.2.1.2), ((σ.2.2.2.1.1, σ.2.2.2.1.2), σ.2.2.2.2)))))
def f_X10_codeIf (cA : (Nat → Int32) → (Nat → Int32) → (Nat → Int32) → (Nat → Int32) → Int32 → Int32 → Int32 → Int32 → (Int32 × ((Nat → Int32) × Int32))) (sv : Nat → Int32) (stb : Nat → Int32) (prg : Nat → Int32) (cod : Nat → Int32) (words : Int32) (x1 : Int32) (x2 : Int32) (x3 : Int32) : Int32 × ((Nat → Int32) × Int32) := bd (cdE 13 sv stb prg cod words (x1 + (1 : Int32))) (fun o1 => bd (f_X10_isSecret prg sv stb (x1 + (1 : Int32))) (fun o3 => if o3 = 0 then bd (f_X10_word o1.2.1 o1.2.2 (19 : Int32)) (fun o6 => bd (f_X10_word o6.1 o6.2 (0 : Int32)) (fun o8 => bd (cA sv stb prg o8.1 o8.2 o1.1 x2 x3) (fun o10 => if (prg o10.1.toNatClampNeg) = (4 : Int32) then bd (f_X10_word o10.2.1 o10.2.2 (18 : Int32)) (fun o15 => bd (f_X10_word o15.1 o15.2 (0 : Int32)) (fun o17 => bd (cA sv stb prg (upd o17.1 o6.2.toNatClampNeg o17.2) o17.2 (o10.1 + (1 : Int32)) x2 x3) (fun o20 => (o20.1 + (1 : Int32), (upd o20.2.1 o15.2.toNatClampNeg o20.2.2, o20.2.2))))) else (o10.1 + (1 : Int32), (upd o10.2.1 o6.2.toNatClampNeg o10.2.2, o10.2.2))))) else bd (f_X10_word o1.2.1 o1.2.2 (23 : Int32)) (fun o23 => bd (f_X10_word o23.1 o23.2 (x2 + (1 : Int32))) (fun o25 => bd (cA sv stb prg o25.1 o25.2 o1.1 (x2 + (1 : Int32)) x3) (fun o27 => if (prg o27.1.toNatClampNeg) = (4 : Int32) then bd (f_X10_word o27.2.1 o27.2.2 (24 : Int32)) (fun o31 => bd (f_X10_word o31.1 o31.2 (x2 + (1 : Int32))) (fun o33 => bd (cA sv stb prg o33.1 o33.2 (o27.1 + (1 : Int32)) (x2 + (1 : Int32)) x3) (fun o35 => (o35.1 + (1 : Int32), (o35.2.1, o35.2.2))))) else (o27.1 + (1 : Int32), (o27.2.1, o27.2.2)))))))
def ok_X10_codeIf (cA : (Nat → Int32) → (Nat → Int32) → (Nat → Int32) → (Nat → Int32) → Int32 → Int32 → Int32 → Int32 → (Int32 × ((Nat → Int32) × Int32))) (cAk : (Nat → Int32) → (Nat → Int32) → (Nat → Int32) → (Nat → Int32) → Int32 → Int32 → Int32 → Int32 → Prop) (sv : Nat → Int32) (stb : Nat → Int32) (prg : Nat → Int32) (cod : Nat → Int32) (words : Int32) (x1 : Int32) (x2 : Int32) (x3 : Int32) : Prop := cdEk 13 sv stb prg cod words (x1 + (1 : Int32)) ∧ (bdP (cdE 13 sv stb prg cod words (x1 + (1 : Int32))) (fun o1 => ok_X10_isSecret prg sv stb (x1 + (1 : Int32)) ∧ (bdP (f_X10_isSecret prg sv stb (x1 + (1 : Int32))) (fun o3 => if o3 = 0 then ok_X10_word o1.2.1 o1.2.2 (19 : Int32) ∧ (bdP (f_X10_word o1.2.1 o1.2.2 (19 : Int32)) (fun o6 => ok_X10_word o6.1 o6.2 (0 : Int32) ∧ (bdP (f_X10_word o6.1 o6.2 (0 : Int32)) (fun o8 => cAk sv stb prg o8.1 o8.2 o1.1 x2 x3 ∧ (bdP (cA sv stb prg o8.1 o8.2 o1.1 x2 x3) (fun o10 => vp_in o10.1 400 ∧ (if (prg o10.1.toNatClampNeg) = (4 : Int32) then ok_X10_word o10.2.1 o10.2.2 (18 : Int32) ∧ (bdP (f_X10_word o10.2.1 o10.2.2 (18 : Int32)) (fun o15 => ok_X10_word o15.1 o15.2 (0 : Int32) ∧ (bdP (f_X10_word o15.1 o15.2 (0 : Int32)) (fun o17 => vp_in o6.2 4000 ∧ (cAk sv stb prg (upd o17.1 o6.2.toNatClampNeg o17.2) o17.2 (o10.1 + (1 : Int32)) x2 x3 ∧ (bdP (cA sv stb prg (upd o17.1 o6.2.toNatClampNeg o17.2) o17.2 (o10.1 + (1 : Int32)) x2 x3) (fun o20 => vp_in o15.2 4000 ∧ True))))))) else vp_in o6.2 4000 ∧ True))))))) else ok_X10_word o1.2.1 o1.2.2 (23 : Int32) ∧ (bdP (f_X10_word o1.2.1 o1.2.2 (23 : Int32)) (fun o23 => ok_X10_word o23.1 o23.2 (x2 + (1 : Int32)) ∧ (bdP (f_X10_word o23.1 o23.2 (x2 + (1 : Int32))) (fun o25 => cAk sv stb prg o25.1 o25.2 o1.1 (x2 + (1 : Int32)) x3 ∧ (bdP (cA sv stb prg o25.1 o25.2 o1.1 (x2 + (1 : Int32)) x3) (fun o27 => vp_in o27.1 400 ∧ (if (prg o27.1.toNatClampNeg) = (4 : Int32) then ok_X10_word o27.2.1 o27.2.2 (24 : Int32) ∧ (bdP (f_X10_word o27.2.1 o27.2.2 (24 : Int32)) (fun o31 => ok_X10_word o31.1 o31.2 (x2 + (1 : Int32)) ∧ (bdP (f_X10_word o31.1 o31.2 (x2 + (1 : Int32))) (fun o33 => cAk sv stb prg o33.1 o33.2 (o27.1 + (1 : Int32)) (x2 + (1 : Int32)) x3 ∧ (bdP (cA sv stb prg o33.1 o33.2 (o27.1 + (1 : Int32)) (x2 + (1 : Int32)) x3) (fun o35 => True)))))) else True)))))))))))
set_option maxHeartbeats 4000000 in
set_option maxRecDepth 100000 in
theorem c_X10_codeIf (l : Launch) (g : GG) (a : Nat → Nat) (text : Nat → Int32) (size : Int32) (sv : Nat → Int32) (stb : Nat → Int32) (var : Nat → Int32) (tab : Nat → Int32) (szs : Nat → Int32) (prg : Nat → Int32) (cod : Nat → Int32) (words : Int32) (has : Int32) (fpl : Int32) (pos : Int32) (fault : Int32) (plc : Int32) (tol : Nat → Int32) (tmany : Int32) (trc : Nat → Int32) (rmany : Int32) (mark : Int64) (pil : Nat → Int32) (pmany : Int32) (mks : Nat → Int32) (cts : Nat → Int32) (turns : Int32) (stop : Int32) (cA : (Nat → Int32) → (Nat → Int32) → (Nat → Int32) → (Nat → Int32) → Int32 → Int32 → Int32 → Int32 → (Int32 × ((Nat → Int32) × Int32))) (cAk : (Nat → Int32) → (Nat → Int32) → (Nat → Int32) → (Nat → Int32) → Int32 → Int32 → Int32 → Int32 → Prop) (x1 : Int32) (x2 : Int32) (x3 : Int32) (kM : Nat) (k_cA : Nat) (hk : k_cA + 1 ≤ kM ∧ 30 ≤ kM) (h_cA : ∀ (text : Nat → Int32) (size : Int32) (sv : Nat → Int32) (stb : Nat → Int32) (var : Nat → Int32) (tab : Nat → Int32) (szs : Nat → Int32) (prg : Nat → Int32) (cod : Nat → Int32) (words : Int32) (has : Int32) (fpl : Int32) (pos : Int32) (fault : Int32) (plc : Int32) (tol : Nat → Int32) (tmany : Int32) (trc : Nat → Int32) (rmany : Int32) (mark : Int64) (pil : Nat → Int32) (pmany : Int32) (mks : Nat → Int32) (cts : Nat → Int32) (turns : Int32) (stop : Int32) (y1 y2 y3 : Int32), cAk sv stb prg cod words y1 y2 y3 → CI l g yX10_codeAll cX10_codeAll 5 (some .int) (rmN k_cA) (w_Mdl a g) [.ref (a 0), .int y1, .int y2, .int y3] (((((text, size), (sv, stb)), ((var, tab), szs)), (((prg, cod), words), ((has, fpl), pos))), ((((fault, plc), (tol, tmany)), ((trc, rmany), mark)), (((pil, pmany), mks), ((cts, turns), stop)))) (rb_X10_codeAll (((((text, size), (sv, stb)), ((var, tab), szs)), (((prg, cod), words), ((has, fpl), pos))), ((((fault, plc), (tol, tmany)), ((trc, rmany), mark)), (((pil, pmany), mks), ((cts, turns), stop)))) (cA sv stb prg cod words y1 y2 y3))) (hok : ok_X10_codeIf cA cAk sv stb prg cod words x1 x2 x3) : CI l g yX10_codeIf cX10_codeIf 7 (some .int) (rmN kM) (w_Mdl a g) [.ref (a 0), .int x1, .int x2, .int x3] (((((text, size), (sv, stb)), ((var, tab), szs)), (((prg, cod), words), ((has, fpl), pos))), ((((fault, plc), (tol, tmany)), ((trc, rmany), mark)), (((pil, pmany), mks), ((cts, turns), stop)))) (rb_X10_codeIf (((((text, size), (sv, stb)), ((var, tab), szs)), (((prg, cod), words), ((has, fpl), pos))), ((((fault, plc), (tol, tmany)), ((trc, rmany), mark)), (((pil, pmany), mks), ((cts, turns), stop)))) (f_X10_codeIf cA sv stb prg cod words x1 x2 x3)) := by
  refine CI.mk (by decide) (Nat.le_of_ble_eq_true rfl) ?_
  intro p e s m below meth c A ls hI hw hl
  have hx := hI.1
  have hb := hI.2.1
  obtain ⟨r, hr⟩ : ∃ r, r = rb_X10_codeIf (((((text, size), (sv, stb)), ((var, tab), szs)), (((prg, cod), words), ((has, fpl), pos))), ((((fault, plc), (tol, tmany)), ((trc, rmany), mark)), (((pil, pmany), mks), ((cts, turns), stop)))) (f_X10_codeIf cA sv stb prg cod words x1 x2 x3) := ⟨_, rfl⟩
  rw [← hr]
  have hl : lv_has ls 7 [(0, .ref (a 0)), (1, .int x1), (2, .int x2), (3, .int x3)] := hl
  refine lv_aload_n hx hb dX10_codeIf_0 rfl (lv_at hl 0 rfl) ?_
  refine lv_iload_n hx hb dX10_codeIf_1 rfl (lv_at hl 1 rfl) ?_
  refine lv_iconst (v := (1 : Int32)) hx hb dX10_codeIf_2 (by decide) ?_
  refine lv_iadd hx hb dX10_codeIf_3 ?_
  have hq2 := hok.1
  have hok := hok.2
  obtain ⟨o1, ho1⟩ : ∃ o, o = cdE 13 sv stb prg cod words (x1 + (1 : Int32)) := ⟨_, rfl⟩
  refine hI.callI0 (wl := w_Mdl a g) (a := (((((text, size), (sv, stb)), ((var, tab), szs)), (((prg, cod), words), ((has, fpl), pos))), ((((fault, plc), (tol, tmany)), ((trc, rmany), mark)), (((pil, pmany), mks), ((cts, turns), stop))))) (r := rb_X10_codeE (((((text, size), (sv, stb)), ((var, tab), szs)), (((prg, cod), words), ((has, fpl), pos))), ((((fault, plc), (tol, tmany)), ((trc, rmany), mark)), (((pil, pmany), mks), ((cts, turns), stop)))) o1) (As := [.int (x1 + (1 : Int32))]) (rest := []) hw (by rw [ho1]; exact k_cdE l g a 13 text size sv stb var tab szs prg cod words has fpl pos fault plc tol tmany trc rmany mark pil pmany mks cts turns stop (x1 + (1 : Int32)) hq2) ok_yX10_codeE ml_X10_131 (rm_ok (by omega) (by decide)) 0 rfl rfl rfl rfl hl.1 (Nat.le_of_ble_eq_true rfl) dX10_codeIf_4 ⟨Nat.zero_le _, Nat.zero_le _⟩ (fun H locs hw => ?_)
  have hw : Wd g A s (w_Mdl a g (((((text, size), (sv, stb)), ((var, tab), szs)), (((prg, o1.2.1), o1.2.2), ((has, fpl), pos))), ((((fault, plc), (tol, tmany)), ((trc, rmany), mark)), (((pil, pmany), mks), ((cts, turns), stop))))) H locs := hw
  refine W.eq (g2 := F0 m 7 ls [.int o1.1]) rfl ?_
  have hok := bdP_use ho1 hok
  refine lv_istore (lv' := [(4, .int o1.1), (0, .ref (a 0)), (1, .int x1), (2, .int x2), (3, .int x3)]) hx hb dX10_codeIf_7 hl (by decide) rfl (fun ls hl => ?_)
  refine lv_aload_n hx hb dX10_codeIf_9 rfl (lv_at hl 1 rfl) ?_
  refine lv_aload_n hx hb dX10_codeIf_10 rfl (lv_at hl 1 rfl) ?_
  refine hI.get (v := .ref (a 7)) hw fg_X10_29 0 rfl rfl dX10_codeIf_11 ?_
  refine lv_iload_n hx hb dX10_codeIf_14 rfl (lv_at hl 2 rfl) ?_
  refine lv_iconst (v := (1 : Int32)) hx hb dX10_codeIf_15 (by decide) ?_
  refine lv_iadd hx hb dX10_codeIf_16 ?_
  have hq4 := hok.1
  have hok := hok.2
  obtain ⟨o3, ho3⟩ : ∃ o, o = f_X10_isSecret prg sv stb (x1 + (1 : Int32)) := ⟨_, rfl⟩
  refine hI.callI0 (wl := w_Mdl a g) (a := (((((text, size), (sv, stb)), ((var, tab), szs)), (((prg, o1.2.1), o1.2.2), ((has, fpl), pos))), ((((fault, plc), (tol, tmany)), ((trc, rmany), mark)), (((pil, pmany), mks), ((cts, turns), stop))))) (r := rb_X10_isSecretP (((((text, size), (sv, stb)), ((var, tab), szs)), (((prg, o1.2.1), o1.2.2), ((has, fpl), pos))), ((((fault, plc), (tol, tmany)), ((trc, rmany), mark)), (((pil, pmany), mks), ((cts, turns), stop)))) o3) (As := [.ref (a 7), .int (x1 + (1 : Int32))]) (rest := []) hw (by rw [ho3]; exact c_X10_isSecretP l g a text size sv stb var tab szs prg o1.2.1 o1.2.2 has fpl pos fault plc tol tmany trc rmany mark pil pmany mks cts turns stop (x1 + (1 : Int32)) hq4) ok_yX10_isSecret ml_X10_111 (rm_ok (by omega) (by decide)) 0 rfl rfl rfl rfl hl.1 (Nat.le_of_ble_eq_true rfl) dX10_codeIf_17 ⟨Nat.zero_le _, Nat.zero_le _⟩ (fun H locs hw => ?_)
  have hw : Wd g A s (w_Mdl a g (((((text, size), (sv, stb)), ((var, tab), szs)), (((prg, o1.2.1), o1.2.2), ((has, fpl), pos))), ((((fault, plc), (tol, tmany)), ((trc, rmany), mark)), (((pil, pmany), mks), ((cts, turns), stop))))) H locs := hw
  refine W.eq (g2 := F0 m 20 ls [.int o3]) rfl ?_
  have hok := bdP_use ho3 hok
  refine lv_if_eq (tgt := 91) hx hb dX10_codeIf_20 (by decide) (fun c5 => ?_) (fun c5 => ?_)
  · have hok := ok_t c5 hok
    refine lv_aload_n hx hb dX10_codeIf_91 rfl (lv_at hl 1 rfl) ?_
    refine lv_bipush (v := (19 : Int32)) hx hb dX10_codeIf_92 (by decide) ?_
    have hq7 := hok.1
    have hok := hok.2
    obtain ⟨o6, ho6⟩ : ∃ o, o = f_X10_word o1.2.1 o1.2.2 (19 : Int32) := ⟨_, rfl⟩
    refine hI.callV0 (wl := w_Mdl a g) (a := (((((text, size), (sv, stb)), ((var, tab), szs)), (((prg, o1.2.1), o1.2.2), ((has, fpl), pos))), ((((fault, plc), (tol, tmany)), ((trc, rmany), mark)), (((pil, pmany), mks), ((cts, turns), stop))))) (r := rb_X10_word (((((text, size), (sv, stb)), ((var, tab), szs)), (((prg, o1.2.1), o1.2.2), ((has, fpl), pos))), ((((fault, plc), (tol, tmany)), ((trc, rmany), mark)), (((pil, pmany), mks), ((cts, turns), stop)))) o6) (As := [.int (19 : Int32)]) (rest := []) hw (by rw [ho6]; exact c_X10_word l g a text size sv stb var tab szs prg o1.2.1 o1.2.2 has fpl pos fault plc tol tmany trc rmany mark pil pmany mks cts turns stop (19 : Int32) hq7) ok_yX10_word ml_X10_128 (rm_ok (by omega) (by decide)) 0 rfl rfl rfl rfl hl.1 (Nat.le_of_ble_eq_true rfl) dX10_codeIf_94 ⟨Nat.zero_le _, Nat.zero_le _⟩ (fun H locs hw => ?_)
    have hw : Wd g A s (w_Mdl a g (((((text, size), (sv, stb)), ((var, tab), szs)), (((prg, o6.1), o6.2), ((has, fpl), pos))), ((((fault, plc), (tol, tmany)), ((trc, rmany), mark)), (((pil, pmany), mks), ((cts, turns), stop))))) H locs := hw
    refine W.eq (g2 := F0 m 97 ls []) rfl ?_
    have hok := bdP_use ho6 hok
    refine lv_aload_n hx hb dX10_codeIf_97 rfl (lv_at hl 1 rfl) ?_
    refine hI.get (v := .int o6.2) hw fg_X10_125 0 rfl rfl dX10_codeIf_98 ?_
    refine lv_istore (lv' := [(5, .int o6.2), (4, .int o1.1), (0, .ref (a 0)), (1, .int x1), (2, .int x2), (3, .int x3)]) hx hb dX10_codeIf_101 hl (by decide) rfl (fun ls hl => ?_)
    refine lv_aload_n hx hb dX10_codeIf_103 rfl (lv_at hl 2 rfl) ?_
    refine lv_iconst (v := (0 : Int32)) hx hb dX10_codeIf_104 (by decide) ?_
    have hq9 := hok.1
    have hok := hok.2
    obtain ⟨o8, ho8⟩ : ∃ o, o = f_X10_word o6.1 o6.2 (0 : Int32) := ⟨_, rfl⟩
    refine hI.callV0 (wl := w_Mdl a g) (a := (((((text, size), (sv, stb)), ((var, tab), szs)), (((prg, o6.1), o6.2), ((has, fpl), pos))), ((((fault, plc), (tol, tmany)), ((trc, rmany), mark)), (((pil, pmany), mks), ((cts, turns), stop))))) (r := rb_X10_word (((((text, size), (sv, stb)), ((var, tab), szs)), (((prg, o6.1), o6.2), ((has, fpl), pos))), ((((fault, plc), (tol, tmany)), ((trc, rmany), mark)), (((pil, pmany), mks), ((cts, turns), stop)))) o8) (As := [.int (0 : Int32)]) (rest := []) hw (by rw [ho8]; exact c_X10_word l g a text size sv stb var tab szs prg o6.1 o6.2 has fpl pos fault plc tol tmany trc rmany mark pil pmany mks cts turns stop (0 : Int32) hq9) ok_yX10_word ml_X10_128 (rm_ok (by omega) (by decide)) 0 rfl rfl rfl rfl hl.1 (Nat.le_of_ble_eq_true rfl) dX10_codeIf_105 ⟨Nat.zero_le _, Nat.zero_le _⟩ (fun H locs hw => ?_)
    have hw : Wd g A s (w_Mdl a g (((((text, size), (sv, stb)), ((var, tab), szs)), (((prg, o8.1), o8.2), ((has, fpl), pos))), ((((fault, plc), (tol, tmany)), ((trc, rmany), mark)), (((pil, pmany), mks), ((cts, turns), stop))))) H locs := hw
    refine W.eq (g2 := F0 m 108 ls []) rfl ?_
    have hok := bdP_use ho8 hok
    refine lv_aload_n hx hb dX10_codeIf_108 rfl (lv_at hl 2 rfl) ?_
    refine lv_iload hx hb dX10_codeIf_109 (lv_at hl 1 rfl) ?_
    refine lv_iload_n hx hb dX10_codeIf_111 rfl (lv_at hl 4 rfl) ?_
    refine lv_iload_n hx hb dX10_codeIf_112 rfl (lv_at hl 5 rfl) ?_
    have hq11 := hok.1
    have hok := hok.2
    obtain ⟨o10, ho10⟩ : ∃ o, o = cA sv stb prg o8.1 o8.2 o1.1 x2 x3 := ⟨_, rfl⟩
    refine hI.callI0 (wl := w_Mdl a g) (a := (((((text, size), (sv, stb)), ((var, tab), szs)), (((prg, o8.1), o8.2), ((has, fpl), pos))), ((((fault, plc), (tol, tmany)), ((trc, rmany), mark)), (((pil, pmany), mks), ((cts, turns), stop))))) (r := rb_X10_codeAll (((((text, size), (sv, stb)), ((var, tab), szs)), (((prg, o8.1), o8.2), ((has, fpl), pos))), ((((fault, plc), (tol, tmany)), ((trc, rmany), mark)), (((pil, pmany), mks), ((cts, turns), stop)))) o10) (As := [.int o1.1, .int x2, .int x3]) (rest := []) hw (by rw [ho10]; exact h_cA text size sv stb var tab szs prg o8.1 o8.2 has fpl pos fault plc tol tmany trc rmany mark pil pmany mks cts turns stop o1.1 x2 x3 hq11) ok_yX10_codeAll ml_X10_141 (rm_ok (by omega) (by decide)) 0 rfl rfl rfl rfl hl.1 (Nat.le_of_ble_eq_true rfl) dX10_codeIf_113 ⟨Nat.zero_le _, Nat.zero_le _⟩ (fun H locs hw => ?_)
    have hw : Wd g A s (w_Mdl a g (((((text, size), (sv, stb)), ((var, tab), szs)), (((prg, o10.2.1), o10.2.2), ((has, fpl), pos))), ((((fault, plc), (tol, tmany)), ((trc, rmany), mark)), (((pil, pmany), mks), ((cts, turns), stop))))) H locs := hw
    refine W.eq (g2 := F0 m 116 ls [.int o10.1]) rfl ?_
    have hok := bdP_use ho10 hok
    refine lv_istore (lv' := [(4, .int o10.1), (5, .int o6.2), (0, .ref (a 0)), (1, .int x1), (2, .int x2), (3, .int x3)]) hx hb dX10_codeIf_116 hl (by decide) rfl (fun ls hl => ?_)
    refine lv_aload_n hx hb dX10_codeIf_118 rfl (lv_at hl 2 rfl) ?_
    refine hI.get (v := .ref (a 7)) hw fg_X10_29 0 rfl rfl dX10_codeIf_119 ?_
    refine lv_iload hx hb dX10_codeIf_122 (lv_at hl 0 rfl) ?_
    have hq12 := hok.1
    have hok := hok.2
    refine hI.iald hw 7 rfl hq12 dX10_codeIf_124 ?_
    refine lv_iconst (v := (4 : Int32)) hx hb dX10_codeIf_125 (by decide) ?_
    refine lv_icmp_ne (tgt := 183) hx hb dX10_codeIf_126 (by decide) (fun c13 => ?_) (fun c13 => ?_)
    · have hok := ok_f c13 hok
      refine lv_aload_n hx hb dX10_codeIf_183 rfl (lv_at hl 2 rfl) ?_
      refine hI.get (v := .ref (a 8)) hw fg_X10_32 0 rfl rfl dX10_codeIf_184 ?_
      refine lv_iload hx hb dX10_codeIf_187 (lv_at hl 1 rfl) ?_
      refine lv_aload_n hx hb dX10_codeIf_189 rfl (lv_at hl 2 rfl) ?_
      refine hI.get (v := .int o10.2.2) hw fg_X10_125 0 rfl rfl dX10_codeIf_190 ?_
      have hq14 := hok.1
      have hok := hok.2
      refine hI.iast hw 8 rfl hq14 dX10_codeIf_193 (fun H locs hw => ?_)
      have hw : Wd g A s (w_Mdl a g (((((text, size), (sv, stb)), ((var, tab), szs)), (((prg, upd o10.2.1 o6.2.toNatClampNeg o10.2.2), o10.2.2), ((has, fpl), pos))), ((((fault, plc), (tol, tmany)), ((trc, rmany), mark)), (((pil, pmany), mks), ((cts, turns), stop))))) H locs := hw
      refine lv_iload hx hb dX10_codeIf_194 (lv_at hl 0 rfl) ?_
      refine lv_iconst (v := (1 : Int32)) hx hb dX10_codeIf_196 (by decide) ?_
      refine lv_iadd hx hb dX10_codeIf_197 ?_
      exact hI.retI (u := (((((text, size), (sv, stb)), ((var, tab), szs)), (((prg, upd o10.2.1 o6.2.toNatClampNeg o10.2.2), o10.2.2), ((has, fpl), pos))), ((((fault, plc), (tol, tmany)), ((trc, rmany), mark)), (((pil, pmany), mks), ((cts, turns), stop))))) hw (hr.trans (congrArg (rb_X10_codeIf (((((text, size), (sv, stb)), ((var, tab), szs)), (((prg, cod), words), ((has, fpl), pos))), ((((fault, plc), (tol, tmany)), ((trc, rmany), mark)), (((pil, pmany), mks), ((cts, turns), stop))))) ((show f_X10_codeIf cA sv stb prg cod words x1 x2 x3 = (o10.1 + (1 : Int32), (upd o10.2.1 o6.2.toNatClampNeg o10.2.2, o10.2.2)) from bd_of ho1 (bd_of ho3 (it_t c5 (bd_of ho6 (bd_of ho8 (bd_of ho10 (it_f c13 (rfl))))))))))) dX10_codeIf_198
    · have hok := ok_t c13 hok
      refine lv_aload_n hx hb dX10_codeIf_129 rfl (lv_at hl 2 rfl) ?_
      refine lv_bipush (v := (18 : Int32)) hx hb dX10_codeIf_130 (by decide) ?_
      have hq16 := hok.1
      have hok := hok.2
      obtain ⟨o15, ho15⟩ : ∃ o, o = f_X10_word o10.2.1 o10.2.2 (18 : Int32) := ⟨_, rfl⟩
      refine hI.callV0 (wl := w_Mdl a g) (a := (((((text, size), (sv, stb)), ((var, tab), szs)), (((prg, o10.2.1), o10.2.2), ((has, fpl), pos))), ((((fault, plc), (tol, tmany)), ((trc, rmany), mark)), (((pil, pmany), mks), ((cts, turns), stop))))) (r := rb_X10_word (((((text, size), (sv, stb)), ((var, tab), szs)), (((prg, o10.2.1), o10.2.2), ((has, fpl), pos))), ((((fault, plc), (tol, tmany)), ((trc, rmany), mark)), (((pil, pmany), mks), ((cts, turns), stop)))) o15) (As := [.int (18 : Int32)]) (rest := []) hw (by rw [ho15]; exact c_X10_word l g a text size sv stb var tab szs prg o10.2.1 o10.2.2 has fpl pos fault plc tol tmany trc rmany mark pil pmany mks cts turns stop (18 : Int32) hq16) ok_yX10_word ml_X10_128 (rm_ok (by omega) (by decide)) 0 rfl rfl rfl rfl hl.1 (Nat.le_of_ble_eq_true rfl) dX10_codeIf_132 ⟨Nat.zero_le _, Nat.zero_le _⟩ (fun H locs hw => ?_)
      have hw : Wd g A s (w_Mdl a g (((((text, size), (sv, stb)), ((var, tab), szs)), (((prg, o15.1), o15.2), ((has, fpl), pos))), ((((fault, plc), (tol, tmany)), ((trc, rmany), mark)), (((pil, pmany), mks), ((cts, turns), stop))))) H locs := hw
      refine W.eq (g2 := F0 m 135 ls []) rfl ?_
      have hok := bdP_use ho15 hok
      refine lv_aload_n hx hb dX10_codeIf_135 rfl (lv_at hl 2 rfl) ?_
      refine hI.get (v := .int o15.2) hw fg_X10_125 0 rfl rfl dX10_codeIf_136 ?_
      refine lv_istore (lv' := [(6, .int o15.2), (4, .int o10.1), (5, .int o6.2), (0, .ref (a 0)), (1, .int x1), (2, .int x2), (3, .int x3)]) hx hb dX10_codeIf_139 hl (by decide) rfl (fun ls hl => ?_)
      refine lv_aload_n hx hb dX10_codeIf_141 rfl (lv_at hl 3 rfl) ?_
      refine lv_iconst (v := (0 : Int32)) hx hb dX10_codeIf_142 (by decide) ?_
      have hq18 := hok.1
      have hok := hok.2
      obtain ⟨o17, ho17⟩ : ∃ o, o = f_X10_word o15.1 o15.2 (0 : Int32) := ⟨_, rfl⟩
      refine hI.callV0 (wl := w_Mdl a g) (a := (((((text, size), (sv, stb)), ((var, tab), szs)), (((prg, o15.1), o15.2), ((has, fpl), pos))), ((((fault, plc), (tol, tmany)), ((trc, rmany), mark)), (((pil, pmany), mks), ((cts, turns), stop))))) (r := rb_X10_word (((((text, size), (sv, stb)), ((var, tab), szs)), (((prg, o15.1), o15.2), ((has, fpl), pos))), ((((fault, plc), (tol, tmany)), ((trc, rmany), mark)), (((pil, pmany), mks), ((cts, turns), stop)))) o17) (As := [.int (0 : Int32)]) (rest := []) hw (by rw [ho17]; exact c_X10_word l g a text size sv stb var tab szs prg o15.1 o15.2 has fpl pos fault plc tol tmany trc rmany mark pil pmany mks cts turns stop (0 : Int32) hq18) ok_yX10_word ml_X10_128 (rm_ok (by omega) (by decide)) 0 rfl rfl rfl rfl hl.1 (Nat.le_of_ble_eq_true rfl) dX10_codeIf_143 ⟨Nat.zero_le _, Nat.zero_le _⟩ (fun H locs hw => ?_)
      have hw : Wd g A s (w_Mdl a g (((((text, size), (sv, stb)), ((var, tab), szs)), (((prg, o17.1), o17.2), ((has, fpl), pos))), ((((fault, plc), (tol, tmany)), ((trc, rmany), mark)), (((pil, pmany), mks), ((cts, turns), stop))))) H locs := hw
      refine W.eq (g2 := F0 m 146 ls []) rfl ?_
      have hok := bdP_use ho17 hok
      refine lv_aload_n hx hb dX10_codeIf_146 rfl (lv_at hl 3 rfl) ?_
      refine hI.get (v := .ref (a 8)) hw fg_X10_32 0 rfl rfl dX10_codeIf_147 ?_
      refine lv_iload hx hb dX10_codeIf_150 (lv_at hl 2 rfl) ?_
      refine lv_aload_n hx hb dX10_codeIf_152 rfl (lv_at hl 3 rfl) ?_
      refine hI.get (v := .int o17.2) hw fg_X10_125 0 rfl rfl dX10_codeIf_153 ?_
      have hq19 := hok.1
      have hok := hok.2
      refine hI.iast hw 8 rfl hq19 dX10_codeIf_156 (fun H locs hw => ?_)
      have hw : Wd g A s (w_Mdl a g (((((text, size), (sv, stb)), ((var, tab), szs)), (((prg, upd o17.1 o6.2.toNatClampNeg o17.2), o17.2), ((has, fpl), pos))), ((((fault, plc), (tol, tmany)), ((trc, rmany), mark)), (((pil, pmany), mks), ((cts, turns), stop))))) H locs := hw
      refine lv_aload_n hx hb dX10_codeIf_157 rfl (lv_at hl 3 rfl) ?_
      refine lv_iload hx hb dX10_codeIf_158 (lv_at hl 1 rfl) ?_
      refine lv_iconst (v := (1 : Int32)) hx hb dX10_codeIf_160 (by decide) ?_
      refine lv_iadd hx hb dX10_codeIf_161 ?_
      refine lv_iload_n hx hb dX10_codeIf_162 rfl (lv_at hl 5 rfl) ?_
      refine lv_iload_n hx hb dX10_codeIf_163 rfl (lv_at hl 6 rfl) ?_
      have hq21 := hok.1
      have hok := hok.2
      obtain ⟨o20, ho20⟩ : ∃ o, o = cA sv stb prg (upd o17.1 o6.2.toNatClampNeg o17.2) o17.2 (o10.1 + (1 : Int32)) x2 x3 := ⟨_, rfl⟩
      refine hI.callI0 (wl := w_Mdl a g) (a := (((((text, size), (sv, stb)), ((var, tab), szs)), (((prg, upd o17.1 o6.2.toNatClampNeg o17.2), o17.2), ((has, fpl), pos))), ((((fault, plc), (tol, tmany)), ((trc, rmany), mark)), (((pil, pmany), mks), ((cts, turns), stop))))) (r := rb_X10_codeAll (((((text, size), (sv, stb)), ((var, tab), szs)), (((prg, upd o17.1 o6.2.toNatClampNeg o17.2), o17.2), ((has, fpl), pos))), ((((fault, plc), (tol, tmany)), ((trc, rmany), mark)), (((pil, pmany), mks), ((cts, turns), stop)))) o20) (As := [.int (o10.1 + (1 : Int32)), .int x2, .int x3]) (rest := []) hw (by rw [ho20]; exact h_cA text size sv stb var tab szs prg (upd o17.1 o6.2.toNatClampNeg o17.2) o17.2 has fpl pos fault plc tol tmany trc rmany mark pil pmany mks cts turns stop (o10.1 + (1 : Int32)) x2 x3 hq21) ok_yX10_codeAll ml_X10_141 (rm_ok (by omega) (by decide)) 0 rfl rfl rfl rfl hl.1 (Nat.le_of_ble_eq_true rfl) dX10_codeIf_164 ⟨Nat.zero_le _, Nat.zero_le _⟩ (fun H locs hw => ?_)
      have hw : Wd g A s (w_Mdl a g (((((text, size), (sv, stb)), ((var, tab), szs)), (((prg, o20.2.1), o20.2.2), ((has, fpl), pos))), ((((fault, plc), (tol, tmany)), ((trc, rmany), mark)), (((pil, pmany), mks), ((cts, turns), stop))))) H locs := hw
      refine W.eq (g2 := F0 m 167 ls [.int o20.1]) rfl ?_
      have hok := bdP_use ho20 hok
      refine lv_istore (lv' := [(4, .int o20.1), (6, .int o15.2), (5, .int o6.2), (0, .ref (a 0)), (1, .int x1), (2, .int x2), (3, .int x3)]) hx hb dX10_codeIf_167 hl (by decide) rfl (fun ls hl => ?_)
      refine lv_aload_n hx hb dX10_codeIf_169 rfl (lv_at hl 3 rfl) ?_
      refine hI.get (v := .ref (a 8)) hw fg_X10_32 0 rfl rfl dX10_codeIf_170 ?_
      refine lv_iload hx hb dX10_codeIf_173 (lv_at hl 1 rfl) ?_
      refine lv_aload_n hx hb dX10_codeIf_175 rfl (lv_at hl 3 rfl) ?_
      refine hI.get (v := .int o20.2.2) hw fg_X10_125 0 rfl rfl dX10_codeIf_176 ?_
      have hq22 := hok.1
      have hok := hok.2
      refine hI.iast hw 8 rfl hq22 dX10_codeIf_179 (fun H locs hw => ?_)
      have hw : Wd g A s (w_Mdl a g (((((text, size), (sv, stb)), ((var, tab), szs)), (((prg, upd o20.2.1 o15.2.toNatClampNeg o20.2.2), o20.2.2), ((has, fpl), pos))), ((((fault, plc), (tol, tmany)), ((trc, rmany), mark)), (((pil, pmany), mks), ((cts, turns), stop))))) H locs := hw
      refine lv_goto (tgt := 194) hx hb dX10_codeIf_180 (by decide) ?_
      refine lv_iload hx hb dX10_codeIf_194 (lv_at hl 0 rfl) ?_
      refine lv_iconst (v := (1 : Int32)) hx hb dX10_codeIf_196 (by decide) ?_
      refine lv_iadd hx hb dX10_codeIf_197 ?_
      exact hI.retI (u := (((((text, size), (sv, stb)), ((var, tab), szs)), (((prg, upd o20.2.1 o15.2.toNatClampNeg o20.2.2), o20.2.2), ((has, fpl), pos))), ((((fault, plc), (tol, tmany)), ((trc, rmany), mark)), (((pil, pmany), mks), ((cts, turns), stop))))) hw (hr.trans (congrArg (rb_X10_codeIf (((((text, size), (sv, stb)), ((var, tab), szs)), (((prg, cod), words), ((has, fpl), pos))), ((((fault, plc), (tol, tmany)), ((trc, rmany), mark)), (((pil, pmany), mks), ((cts, turns), stop))))) ((show f_X10_codeIf cA sv stb prg cod words x1 x2 x3 = (o20.1 + (1 : Int32), (upd o20.2.1 o15.2.toNatClampNeg o20.2.2, o20.2.2)) from bd_of ho1 (bd_of ho3 (it_t c5 (bd_of ho6 (bd_of ho8 (bd_of ho10 (it_t c13 (bd_of ho15 (bd_of ho17 (bd_of ho20 (rfl)))))))))))))) dX10_codeIf_198
  · have hok := ok_f c5 hok
    refine lv_aload_n hx hb dX10_codeIf_23 rfl (lv_at hl 1 rfl) ?_
    refine lv_bipush (v := (23 : Int32)) hx hb dX10_codeIf_24 (by decide) ?_
    have hq24 := hok.1
    have hok := hok.2
    obtain ⟨o23, ho23⟩ : ∃ o, o = f_X10_word o1.2.1 o1.2.2 (23 : Int32) := ⟨_, rfl⟩
    refine hI.callV0 (wl := w_Mdl a g) (a := (((((text, size), (sv, stb)), ((var, tab), szs)), (((prg, o1.2.1), o1.2.2), ((has, fpl), pos))), ((((fault, plc), (tol, tmany)), ((trc, rmany), mark)), (((pil, pmany), mks), ((cts, turns), stop))))) (r := rb_X10_word (((((text, size), (sv, stb)), ((var, tab), szs)), (((prg, o1.2.1), o1.2.2), ((has, fpl), pos))), ((((fault, plc), (tol, tmany)), ((trc, rmany), mark)), (((pil, pmany), mks), ((cts, turns), stop)))) o23) (As := [.int (23 : Int32)]) (rest := []) hw (by rw [ho23]; exact c_X10_word l g a text size sv stb var tab szs prg o1.2.1 o1.2.2 has fpl pos fault plc tol tmany trc rmany mark pil pmany mks cts turns stop (23 : Int32) hq24) ok_yX10_word ml_X10_128 (rm_ok (by omega) (by decide)) 0 rfl rfl rfl rfl hl.1 (Nat.le_of_ble_eq_true rfl) dX10_codeIf_26 ⟨Nat.zero_le _, Nat.zero_le _⟩ (fun H locs hw => ?_)
    have hw : Wd g A s (w_Mdl a g (((((text, size), (sv, stb)), ((var, tab), szs)), (((prg, o23.1), o23.2), ((has, fpl), pos))), ((((fault, plc), (tol, tmany)), ((trc, rmany), mark)), (((pil, pmany), mks), ((cts, turns), stop))))) H locs := hw
    refine W.eq (g2 := F0 m 29 ls []) rfl ?_
    have hok := bdP_use ho23 hok
    refine lv_aload_n hx hb dX10_codeIf_29 rfl (lv_at hl 1 rfl) ?_
    refine lv_iload_n hx hb dX10_codeIf_30 rfl (lv_at hl 3 rfl) ?_
    refine lv_iconst (v := (1 : Int32)) hx hb dX10_codeIf_31 (by decide) ?_
    refine lv_iadd hx hb dX10_codeIf_32 ?_
    have hq26 := hok.1
    have hok := hok.2
    obtain ⟨o25, ho25⟩ : ∃ o, o = f_X10_word o23.1 o23.2 (x2 + (1 : Int32)) := ⟨_, rfl⟩
    refine hI.callV0 (wl := w_Mdl a g) (a := (((((text, size), (sv, stb)), ((var, tab), szs)), (((prg, o23.1), o23.2), ((has, fpl), pos))), ((((fault, plc), (tol, tmany)), ((trc, rmany), mark)), (((pil, pmany), mks), ((cts, turns), stop))))) (r := rb_X10_word (((((text, size), (sv, stb)), ((var, tab), szs)), (((prg, o23.1), o23.2), ((has, fpl), pos))), ((((fault, plc), (tol, tmany)), ((trc, rmany), mark)), (((pil, pmany), mks), ((cts, turns), stop)))) o25) (As := [.int (x2 + (1 : Int32))]) (rest := []) hw (by rw [ho25]; exact c_X10_word l g a text size sv stb var tab szs prg o23.1 o23.2 has fpl pos fault plc tol tmany trc rmany mark pil pmany mks cts turns stop (x2 + (1 : Int32)) hq26) ok_yX10_word ml_X10_128 (rm_ok (by omega) (by decide)) 0 rfl rfl rfl rfl hl.1 (Nat.le_of_ble_eq_true rfl) dX10_codeIf_33 ⟨Nat.zero_le _, Nat.zero_le _⟩ (fun H locs hw => ?_)
    have hw : Wd g A s (w_Mdl a g (((((text, size), (sv, stb)), ((var, tab), szs)), (((prg, o25.1), o25.2), ((has, fpl), pos))), ((((fault, plc), (tol, tmany)), ((trc, rmany), mark)), (((pil, pmany), mks), ((cts, turns), stop))))) H locs := hw
    refine W.eq (g2 := F0 m 36 ls []) rfl ?_
    have hok := bdP_use ho25 hok
    refine lv_aload_n hx hb dX10_codeIf_36 rfl (lv_at hl 1 rfl) ?_
    refine lv_iload hx hb dX10_codeIf_37 (lv_at hl 0 rfl) ?_
    refine lv_iload_n hx hb dX10_codeIf_39 rfl (lv_at hl 3 rfl) ?_
    refine lv_iconst (v := (1 : Int32)) hx hb dX10_codeIf_40 (by decide) ?_
    refine lv_iadd hx hb dX10_codeIf_41 ?_
    refine lv_iload_n hx hb dX10_codeIf_42 rfl (lv_at hl 4 rfl) ?_
    have hq28 := hok.1
    have hok := hok.2
    obtain ⟨o27, ho27⟩ : ∃ o, o = cA sv stb prg o25.1 o25.2 o1.1 (x2 + (1 : Int32)) x3 := ⟨_, rfl⟩
    refine hI.callI0 (wl := w_Mdl a g) (a := (((((text, size), (sv, stb)), ((var, tab), szs)), (((prg, o25.1), o25.2), ((has, fpl), pos))), ((((fault, plc), (tol, tmany)), ((trc, rmany), mark)), (((pil, pmany), mks), ((cts, turns), stop))))) (r := rb_X10_codeAll (((((text, size), (sv, stb)), ((var, tab), szs)), (((prg, o25.1), o25.2), ((has, fpl), pos))), ((((fault, plc), (tol, tmany)), ((trc, rmany), mark)), (((pil, pmany), mks), ((cts, turns), stop)))) o27) (As := [.int o1.1, .int (x2 + (1 : Int32)), .int x3]) (rest := []) hw (by rw [ho27]; exact h_cA text size sv stb var tab szs prg o25.1 o25.2 has fpl pos fault plc tol tmany trc rmany mark pil pmany mks cts turns stop o1.1 (x2 + (1 : Int32)) x3 hq28) ok_yX10_codeAll ml_X10_141 (rm_ok (by omega) (by decide)) 0 rfl rfl rfl rfl hl.1 (Nat.le_of_ble_eq_true rfl) dX10_codeIf_43 ⟨Nat.zero_le _, Nat.zero_le _⟩ (fun H locs hw => ?_)
    have hw : Wd g A s (w_Mdl a g (((((text, size), (sv, stb)), ((var, tab), szs)), (((prg, o27.2.1), o27.2.2), ((has, fpl), pos))), ((((fault, plc), (tol, tmany)), ((trc, rmany), mark)), (((pil, pmany), mks), ((cts, turns), stop))))) H locs := hw
    refine W.eq (g2 := F0 m 46 ls [.int o27.1]) rfl ?_
    have hok := bdP_use ho27 hok
    refine lv_istore (lv' := [(4, .int o27.1), (0, .ref (a 0)), (1, .int x1), (2, .int x2), (3, .int x3)]) hx hb dX10_codeIf_46 hl (by decide) rfl (fun ls hl => ?_)
    refine lv_aload_n hx hb dX10_codeIf_48 rfl (lv_at hl 1 rfl) ?_
    refine hI.get (v := .ref (a 7)) hw fg_X10_29 0 rfl rfl dX10_codeIf_49 ?_
    refine lv_iload hx hb dX10_codeIf_52 (lv_at hl 0 rfl) ?_
    have hq29 := hok.1
    have hok := hok.2
    refine hI.iald hw 7 rfl hq29 dX10_codeIf_54 ?_
    refine lv_iconst (v := (4 : Int32)) hx hb dX10_codeIf_55 (by decide) ?_
    refine lv_icmp_ne (tgt := 86) hx hb dX10_codeIf_56 (by decide) (fun c30 => ?_) (fun c30 => ?_)
    · have hok := ok_f c30 hok
      refine lv_iload hx hb dX10_codeIf_86 (lv_at hl 0 rfl) ?_
      refine lv_iconst (v := (1 : Int32)) hx hb dX10_codeIf_88 (by decide) ?_
      refine lv_iadd hx hb dX10_codeIf_89 ?_
      exact hI.retI (u := (((((text, size), (sv, stb)), ((var, tab), szs)), (((prg, o27.2.1), o27.2.2), ((has, fpl), pos))), ((((fault, plc), (tol, tmany)), ((trc, rmany), mark)), (((pil, pmany), mks), ((cts, turns), stop))))) hw (hr.trans (congrArg (rb_X10_codeIf (((((text, size), (sv, stb)), ((var, tab), szs)), (((prg, cod), words), ((has, fpl), pos))), ((((fault, plc), (tol, tmany)), ((trc, rmany), mark)), (((pil, pmany), mks), ((cts, turns), stop))))) ((show f_X10_codeIf cA sv stb prg cod words x1 x2 x3 = (o27.1 + (1 : Int32), (o27.2.1, o27.2.2)) from bd_of ho1 (bd_of ho3 (it_f c5 (bd_of ho23 (bd_of ho25 (bd_of ho27 (it_f c30 (rfl))))))))))) dX10_codeIf_90
    · have hok := ok_t c30 hok
      refine lv_aload_n hx hb dX10_codeIf_59 rfl (lv_at hl 1 rfl) ?_
      refine lv_bipush (v := (24 : Int32)) hx hb dX10_codeIf_60 (by decide) ?_
      have hq32 := hok.1
      have hok := hok.2
      obtain ⟨o31, ho31⟩ : ∃ o, o = f_X10_word o27.2.1 o27.2.2 (24 : Int32) := ⟨_, rfl⟩
      refine hI.callV0 (wl := w_Mdl a g) (a := (((((text, size), (sv, stb)), ((var, tab), szs)), (((prg, o27.2.1), o27.2.2), ((has, fpl), pos))), ((((fault, plc), (tol, tmany)), ((trc, rmany), mark)), (((pil, pmany), mks), ((cts, turns), stop))))) (r := rb_X10_word (((((text, size), (sv, stb)), ((var, tab), szs)), (((prg, o27.2.1), o27.2.2), ((has, fpl), pos))), ((((fault, plc), (tol, tmany)), ((trc, rmany), mark)), (((pil, pmany), mks), ((cts, turns), stop)))) o31) (As := [.int (24 : Int32)]) (rest := []) hw (by rw [ho31]; exact c_X10_word l g a text size sv stb var tab szs prg o27.2.1 o27.2.2 has fpl pos fault plc tol tmany trc rmany mark pil pmany mks cts turns stop (24 : Int32) hq32) ok_yX10_word ml_X10_128 (rm_ok (by omega) (by decide)) 0 rfl rfl rfl rfl hl.1 (Nat.le_of_ble_eq_true rfl) dX10_codeIf_62 ⟨Nat.zero_le _, Nat.zero_le _⟩ (fun H locs hw => ?_)
      have hw : Wd g A s (w_Mdl a g (((((text, size), (sv, stb)), ((var, tab), szs)), (((prg, o31.1), o31.2), ((has, fpl), pos))), ((((fault, plc), (tol, tmany)), ((trc, rmany), mark)), (((pil, pmany), mks), ((cts, turns), stop))))) H locs := hw
      refine W.eq (g2 := F0 m 65 ls []) rfl ?_
      have hok := bdP_use ho31 hok
      refine lv_aload_n hx hb dX10_codeIf_65 rfl (lv_at hl 1 rfl) ?_
      refine lv_iload_n hx hb dX10_codeIf_66 rfl (lv_at hl 3 rfl) ?_
      refine lv_iconst (v := (1 : Int32)) hx hb dX10_codeIf_67 (by decide) ?_
      refine lv_iadd hx hb dX10_codeIf_68 ?_
      have hq34 := hok.1
      have hok := hok.2
      obtain ⟨o33, ho33⟩ : ∃ o, o = f_X10_word o31.1 o31.2 (x2 + (1 : Int32)) := ⟨_, rfl⟩
      refine hI.callV0 (wl := w_Mdl a g) (a := (((((text, size), (sv, stb)), ((var, tab), szs)), (((prg, o31.1), o31.2), ((has, fpl), pos))), ((((fault, plc), (tol, tmany)), ((trc, rmany), mark)), (((pil, pmany), mks), ((cts, turns), stop))))) (r := rb_X10_word (((((text, size), (sv, stb)), ((var, tab), szs)), (((prg, o31.1), o31.2), ((has, fpl), pos))), ((((fault, plc), (tol, tmany)), ((trc, rmany), mark)), (((pil, pmany), mks), ((cts, turns), stop)))) o33) (As := [.int (x2 + (1 : Int32))]) (rest := []) hw (by rw [ho33]; exact c_X10_word l g a text size sv stb var tab szs prg o31.1 o31.2 has fpl pos fault plc tol tmany trc rmany mark pil pmany mks cts turns stop (x2 + (1 : Int32)) hq34) ok_yX10_word ml_X10_128 (rm_ok (by omega) (by decide)) 0 rfl rfl rfl rfl hl.1 (Nat.le_of_ble_eq_true rfl) dX10_codeIf_69 ⟨Nat.zero_le _, Nat.zero_le _⟩ (fun H locs hw => ?_)
      have hw : Wd g A s (w_Mdl a g (((((text, size), (sv, stb)), ((var, tab), szs)), (((prg, o33.1), o33.2), ((has, fpl), pos))), ((((fault, plc), (tol, tmany)), ((trc, rmany), mark)), (((pil, pmany), mks), ((cts, turns), stop))))) H locs := hw
      refine W.eq (g2 := F0 m 72 ls []) rfl ?_
      have hok := bdP_use ho33 hok
      refine lv_aload_n hx hb dX10_codeIf_72 rfl (lv_at hl 1 rfl) ?_
      refine lv_iload hx hb dX10_codeIf_73 (lv_at hl 0 rfl) ?_
      refine lv_iconst (v := (1 : Int32)) hx hb dX10_codeIf_75 (by decide) ?_
      refine lv_iadd hx hb dX10_codeIf_76 ?_
      refine lv_iload_n hx hb dX10_codeIf_77 rfl (lv_at hl 3 rfl) ?_
      refine lv_iconst (v := (1 : Int32)) hx hb dX10_codeIf_78 (by decide) ?_
      refine lv_iadd hx hb dX10_codeIf_79 ?_
      refine lv_iload_n hx hb dX10_codeIf_80 rfl (lv_at hl 4 rfl) ?_
      have hq36 := hok.1
      have hok := hok.2
      obtain ⟨o35, ho35⟩ : ∃ o, o = cA sv stb prg o33.1 o33.2 (o27.1 + (1 : Int32)) (x2 + (1 : Int32)) x3 := ⟨_, rfl⟩
      refine hI.callI0 (wl := w_Mdl a g) (a := (((((text, size), (sv, stb)), ((var, tab), szs)), (((prg, o33.1), o33.2), ((has, fpl), pos))), ((((fault, plc), (tol, tmany)), ((trc, rmany), mark)), (((pil, pmany), mks), ((cts, turns), stop))))) (r := rb_X10_codeAll (((((text, size), (sv, stb)), ((var, tab), szs)), (((prg, o33.1), o33.2), ((has, fpl), pos))), ((((fault, plc), (tol, tmany)), ((trc, rmany), mark)), (((pil, pmany), mks), ((cts, turns), stop)))) o35) (As := [.int (o27.1 + (1 : Int32)), .int (x2 + (1 : Int32)), .int x3]) (rest := []) hw (by rw [ho35]; exact h_cA text size sv stb var tab szs prg o33.1 o33.2 has fpl pos fault plc tol tmany trc rmany mark pil pmany mks cts turns stop (o27.1 + (1 : Int32)) (x2 + (1 : Int32)) x3 hq36) ok_yX10_codeAll ml_X10_141 (rm_ok (by omega) (by decide)) 0 rfl rfl rfl rfl hl.1 (Nat.le_of_ble_eq_true rfl) dX10_codeIf_81 ⟨Nat.zero_le _, Nat.zero_le _⟩ (fun H locs hw => ?_)
      have hw : Wd g A s (w_Mdl a g (((((text, size), (sv, stb)), ((var, tab), szs)), (((prg, o35.2.1), o35.2.2), ((has, fpl), pos))), ((((fault, plc), (tol, tmany)), ((trc, rmany), mark)), (((pil, pmany), mks), ((cts, turns), stop))))) H locs := hw
      refine W.eq (g2 := F0 m 84 ls [.int o35.1]) rfl ?_
      have hok := bdP_use ho35 hok
      refine lv_istore (lv' := [(4, .int o35.1), (0, .ref (a 0)), (1, .int x1), (2, .int x2), (3, .int x3)]) hx hb dX10_codeIf_84 hl (by decide) rfl (fun ls hl => ?_)
      refine lv_iload hx hb dX10_codeIf_86 (lv_at hl 0 rfl) ?_
      refine lv_iconst (v := (1 : Int32)) hx hb dX10_codeIf_88 (by decide) ?_
      refine lv_iadd hx hb dX10_codeIf_89 ?_
      exact hI.retI (u := (((((text, size), (sv, stb)), ((var, tab), szs)), (((prg, o35.2.1), o35.2.2), ((has, fpl), pos))), ((((fault, plc), (tol, tmany)), ((trc, rmany), mark)), (((pil, pmany), mks), ((cts, turns), stop))))) hw (hr.trans (congrArg (rb_X10_codeIf (((((text, size), (sv, stb)), ((var, tab), szs)), (((prg, cod), words), ((has, fpl), pos))), ((((fault, plc), (tol, tmany)), ((trc, rmany), mark)), (((pil, pmany), mks), ((cts, turns), stop))))) ((show f_X10_codeIf cA sv stb prg cod words x1 x2 x3 = (o35.1 + (1 : Int32), (o35.2.1, o35.2.2)) from bd_of ho1 (bd_of ho3 (it_f c5 (bd_of ho23 (bd_of ho25 (bd_of ho27 (it_t c30 (bd_of ho31 (bd_of ho33 (bd_of ho35 (rfl)))))))))))))) dX10_codeIf_90
def f_X10_codeS (cA : (Nat → Int32) → (Nat → Int32) → (Nat → Int32) → (Nat → Int32) → Int32 → Int32 → Int32 → Int32 → (Int32 × ((Nat → Int32) × Int32))) (sv : Nat → Int32) (stb : Nat → Int32) (prg : Nat → Int32) (cod : Nat → Int32) (words : Int32) (x1 : Int32) (x2 : Int32) (x3 : Int32) : Int32 × ((Nat → Int32) × Int32) := bd (prg x1.toNatClampNeg) (fun v2 => bd (prg (x1 + (1 : Int32)).toNatClampNeg) (fun v4 => if v2 = (1 : Int32) then bd (cdE 13 sv stb prg cod words (x1 + (2 : Int32))) (fun o100 => if x2 ≤ 0 then bd (f_X10_word o100.2.1 o100.2.2 (3 : Int32)) (fun o103 => bd (f_X10_word o103.1 o103.2 v4) (fun o106 => (o100.1, (o106.1, o106.2)))) else bd (f_X10_word o100.2.1 o100.2.2 (25 : Int32)) (fun o108 => bd (f_X10_word o108.1 o108.2 x2) (fun o111 => bd (f_X10_word o111.1 o111.2 v4) (fun o113 => (o100.1, (o113.1, o113.2)))))) else if v2 = (2 : Int32) then bd (cdE 13 sv stb prg cod words (x1 + (2 : Int32))) (fun o71 => bd (cdE 13 sv stb prg o71.2.1 o71.2.2 o71.1) (fun o73 => bd (f_X10_isSecret prg sv stb (x1 + (2 : Int32))) (fun o75 => if o75 = 0 then if x2 ≤ 0 then bd (f_X10_word o73.2.1 o73.2.2 (22 : Int32)) (fun o79 => bd (f_X10_word o79.1 o79.2 v4) (fun o83 => (o73.1, (o83.1, o83.2)))) else bd (f_X10_word o73.2.1 o73.2.2 (26 : Int32)) (fun o85 => bd (f_X10_word o85.1 o85.2 x2) (fun o89 => bd (f_X10_word o89.1 o89.2 v4) (fun o91 => (o73.1, (o91.1, o91.2))))) else bd (f_X10_word o73.2.1 o73.2.2 (28 : Int32)) (fun o93 => bd (f_X10_word o93.1 o93.2 x2) (fun o96 => bd (f_X10_word o96.1 o96.2 v4) (fun o98 => (o73.1, (o98.1, o98.2)))))))) else if v2 = (7 : Int32) then bd (cdE 13 sv stb prg cod words (x1 + (1 : Int32))) (fun o67 => bd (f_X10_word o67.2.1 o67.2.2 (20 : Int32)) (fun o69 => (o67.1, (o69.1, o69.2)))) else if v2 = (3 : Int32) then bd (f_X10_codeIf cA sv stb prg cod words x1 x2 x3) (fun o65 => (o65.1, (o65.2.1, o65.2.2))) else if v2 = (5 : Int32) then bd (cdE 13 sv stb prg cod words (x1 + (1 : Int32))) (fun o50 => bd (f_X10_word o50.2.1 o50.2.2 (19 : Int32)) (fun o52 => bd (f_X10_word o52.1 o52.2 (0 : Int32)) (fun o54 => bd (cA sv stb prg o54.1 o54.2 o50.1 x2 x3) (fun o57 => bd (f_X10_word o57.2.1 o57.2.2 (18 : Int32)) (fun o60 => bd (f_X10_word o60.1 o60.2 words) (fun o62 => (o57.1 + (1 : Int32), (upd o62.1 o52.2.toNatClampNeg o62.2, o62.2)))))))) else bd (f_X10_word cod words (29 : Int32)) (fun o10 => bd (f_X10_word o10.1 o10.2 x3) (fun o12 => bd (f_X10_word o12.1 o12.2 (30 : Int32)) (fun o14 => bd (f_X10_word o14.1 o14.2 x3) (fun o16 => bd (f_X10_word o16.1 o16.2 (1 : Int32)) (fun o18 => bd (f_X10_word o18.1 o18.2 v4) (fun o20 => bd (f_X10_word o20.1 o20.2 (12 : Int32)) (fun o22 => bd (x1 + (2 : Int32)) (fun v24 => bd (f_X10_word o22.1 o22.2 (19 : Int32)) (fun o25 => bd (f_X10_word o25.1 o25.2 (0 : Int32)) (fun o27 => if v2 = (6 : Int32) then bd (cA sv stb prg o27.1 o27.2 v24 x2 (x3 + (1 : Int32))) (fun o38 => bd (f_X10_word o38.2.1 o38.2.2 (31 : Int32)) (fun o41 => bd (f_X10_word o41.1 o41.2 x3) (fun o43 => bd (f_X10_word o43.1 o43.2 (18 : Int32)) (fun o45 => bd (f_X10_word o45.1 o45.2 o12.2) (fun o47 => (o38.1 + (1 : Int32), (upd o47.1 o25.2.toNatClampNeg o47.2, o47.2))))))) else bd (cA sv stb prg o27.1 o27.2 v24 x2 x3) (fun o30 => bd (f_X10_word o30.2.1 o30.2.2 (18 : Int32)) (fun o33 => bd (f_X10_word o33.1 o33.2 o12.2) (fun o35 => (o30.1 + (1 : Int32), (upd o35.1 o25.2.toNatClampNeg o35.2, o35.2)))))))))))))))))
def ok_X10_codeS (cA : (Nat → Int32) → (Nat → Int32) → (Nat → Int32) → (Nat → Int32) → Int32 → Int32 → Int32 → Int32 → (Int32 × ((Nat → Int32) × Int32))) (cAk : (Nat → Int32) → (Nat → Int32) → (Nat → Int32) → (Nat → Int32) → Int32 → Int32 → Int32 → Int32 → Prop) (sv : Nat → Int32) (stb : Nat → Int32) (prg : Nat → Int32) (cod : Nat → Int32) (words : Int32) (x1 : Int32) (x2 : Int32) (x3 : Int32) : Prop := vp_in x1 400 ∧ (bdP (prg x1.toNatClampNeg) (fun v2 => vp_in (x1 + (1 : Int32)) 400 ∧ (bdP (prg (x1 + (1 : Int32)).toNatClampNeg) (fun v4 => if v2 = (1 : Int32) then cdEk 13 sv stb prg cod words (x1 + (2 : Int32)) ∧ (bdP (cdE 13 sv stb prg cod words (x1 + (2 : Int32))) (fun o100 => if x2 ≤ 0 then ok_X10_word o100.2.1 o100.2.2 (3 : Int32) ∧ (bdP (f_X10_word o100.2.1 o100.2.2 (3 : Int32)) (fun o103 => ok_X10_word o103.1 o103.2 v4 ∧ (bdP (f_X10_word o103.1 o103.2 v4) (fun o106 => True)))) else ok_X10_word o100.2.1 o100.2.2 (25 : Int32) ∧ (bdP (f_X10_word o100.2.1 o100.2.2 (25 : Int32)) (fun o108 => ok_X10_word o108.1 o108.2 x2 ∧ (bdP (f_X10_word o108.1 o108.2 x2) (fun o111 => ok_X10_word o111.1 o111.2 v4 ∧ (bdP (f_X10_word o111.1 o111.2 v4) (fun o113 => True)))))))) else if v2 = (2 : Int32) then cdEk 13 sv stb prg cod words (x1 + (2 : Int32)) ∧ (bdP (cdE 13 sv stb prg cod words (x1 + (2 : Int32))) (fun o71 => cdEk 13 sv stb prg o71.2.1 o71.2.2 o71.1 ∧ (bdP (cdE 13 sv stb prg o71.2.1 o71.2.2 o71.1) (fun o73 => ok_X10_isSecret prg sv stb (x1 + (2 : Int32)) ∧ (bdP (f_X10_isSecret prg sv stb (x1 + (2 : Int32))) (fun o75 => if o75 = 0 then if x2 ≤ 0 then ok_X10_word o73.2.1 o73.2.2 (22 : Int32) ∧ (bdP (f_X10_word o73.2.1 o73.2.2 (22 : Int32)) (fun o79 => ok_X10_word o79.1 o79.2 v4 ∧ (bdP (f_X10_word o79.1 o79.2 v4) (fun o83 => True)))) else ok_X10_word o73.2.1 o73.2.2 (26 : Int32) ∧ (bdP (f_X10_word o73.2.1 o73.2.2 (26 : Int32)) (fun o85 => ok_X10_word o85.1 o85.2 x2 ∧ (bdP (f_X10_word o85.1 o85.2 x2) (fun o89 => ok_X10_word o89.1 o89.2 v4 ∧ (bdP (f_X10_word o89.1 o89.2 v4) (fun o91 => True)))))) else ok_X10_word o73.2.1 o73.2.2 (28 : Int32) ∧ (bdP (f_X10_word o73.2.1 o73.2.2 (28 : Int32)) (fun o93 => ok_X10_word o93.1 o93.2 x2 ∧ (bdP (f_X10_word o93.1 o93.2 x2) (fun o96 => ok_X10_word o96.1 o96.2 v4 ∧ (bdP (f_X10_word o96.1 o96.2 v4) (fun o98 => True)))))))))))) else if v2 = (7 : Int32) then cdEk 13 sv stb prg cod words (x1 + (1 : Int32)) ∧ (bdP (cdE 13 sv stb prg cod words (x1 + (1 : Int32))) (fun o67 => ok_X10_word o67.2.1 o67.2.2 (20 : Int32) ∧ (bdP (f_X10_word o67.2.1 o67.2.2 (20 : Int32)) (fun o69 => True)))) else if v2 = (3 : Int32) then ok_X10_codeIf cA cAk sv stb prg cod words x1 x2 x3 ∧ (bdP (f_X10_codeIf cA sv stb prg cod words x1 x2 x3) (fun o65 => True)) else if v2 = (5 : Int32) then cdEk 13 sv stb prg cod words (x1 + (1 : Int32)) ∧ (bdP (cdE 13 sv stb prg cod words (x1 + (1 : Int32))) (fun o50 => ok_X10_word o50.2.1 o50.2.2 (19 : Int32) ∧ (bdP (f_X10_word o50.2.1 o50.2.2 (19 : Int32)) (fun o52 => ok_X10_word o52.1 o52.2 (0 : Int32) ∧ (bdP (f_X10_word o52.1 o52.2 (0 : Int32)) (fun o54 => cAk sv stb prg o54.1 o54.2 o50.1 x2 x3 ∧ (bdP (cA sv stb prg o54.1 o54.2 o50.1 x2 x3) (fun o57 => ok_X10_word o57.2.1 o57.2.2 (18 : Int32) ∧ (bdP (f_X10_word o57.2.1 o57.2.2 (18 : Int32)) (fun o60 => ok_X10_word o60.1 o60.2 words ∧ (bdP (f_X10_word o60.1 o60.2 words) (fun o62 => vp_in o52.2 4000 ∧ True)))))))))))) else ok_X10_word cod words (29 : Int32) ∧ (bdP (f_X10_word cod words (29 : Int32)) (fun o10 => ok_X10_word o10.1 o10.2 x3 ∧ (bdP (f_X10_word o10.1 o10.2 x3) (fun o12 => ok_X10_word o12.1 o12.2 (30 : Int32) ∧ (bdP (f_X10_word o12.1 o12.2 (30 : Int32)) (fun o14 => ok_X10_word o14.1 o14.2 x3 ∧ (bdP (f_X10_word o14.1 o14.2 x3) (fun o16 => ok_X10_word o16.1 o16.2 (1 : Int32) ∧ (bdP (f_X10_word o16.1 o16.2 (1 : Int32)) (fun o18 => ok_X10_word o18.1 o18.2 v4 ∧ (bdP (f_X10_word o18.1 o18.2 v4) (fun o20 => ok_X10_word o20.1 o20.2 (12 : Int32) ∧ (bdP (f_X10_word o20.1 o20.2 (12 : Int32)) (fun o22 => bdP (x1 + (2 : Int32)) (fun v24 => ok_X10_word o22.1 o22.2 (19 : Int32) ∧ (bdP (f_X10_word o22.1 o22.2 (19 : Int32)) (fun o25 => ok_X10_word o25.1 o25.2 (0 : Int32) ∧ (bdP (f_X10_word o25.1 o25.2 (0 : Int32)) (fun o27 => if v2 = (6 : Int32) then cAk sv stb prg o27.1 o27.2 v24 x2 (x3 + (1 : Int32)) ∧ (bdP (cA sv stb prg o27.1 o27.2 v24 x2 (x3 + (1 : Int32))) (fun o38 => ok_X10_word o38.2.1 o38.2.2 (31 : Int32) ∧ (bdP (f_X10_word o38.2.1 o38.2.2 (31 : Int32)) (fun o41 => ok_X10_word o41.1 o41.2 x3 ∧ (bdP (f_X10_word o41.1 o41.2 x3) (fun o43 => ok_X10_word o43.1 o43.2 (18 : Int32) ∧ (bdP (f_X10_word o43.1 o43.2 (18 : Int32)) (fun o45 => ok_X10_word o45.1 o45.2 o12.2 ∧ (bdP (f_X10_word o45.1 o45.2 o12.2) (fun o47 => vp_in o25.2 4000 ∧ True)))))))))) else cAk sv stb prg o27.1 o27.2 v24 x2 x3 ∧ (bdP (cA sv stb prg o27.1 o27.2 v24 x2 x3) (fun o30 => ok_X10_word o30.2.1 o30.2.2 (18 : Int32) ∧ (bdP (f_X10_word o30.2.1 o30.2.2 (18 : Int32)) (fun o33 => ok_X10_word o33.1 o33.2 o12.2 ∧ (bdP (f_X10_word o33.1 o33.2 o12.2) (fun o35 => vp_in o25.2 4000 ∧ True)))))))))))))))))))))))))))))
set_option maxHeartbeats 4000000 in
set_option maxRecDepth 100000 in
theorem c_X10_codeS (l : Launch) (g : GG) (a : Nat → Nat) (text : Nat → Int32) (size : Int32) (sv : Nat → Int32) (stb : Nat → Int32) (var : Nat → Int32) (tab : Nat → Int32) (szs : Nat → Int32) (prg : Nat → Int32) (cod : Nat → Int32) (words : Int32) (has : Int32) (fpl : Int32) (pos : Int32) (fault : Int32) (plc : Int32) (tol : Nat → Int32) (tmany : Int32) (trc : Nat → Int32) (rmany : Int32) (mark : Int64) (pil : Nat → Int32) (pmany : Int32) (mks : Nat → Int32) (cts : Nat → Int32) (turns : Int32) (stop : Int32) (cA : (Nat → Int32) → (Nat → Int32) → (Nat → Int32) → (Nat → Int32) → Int32 → Int32 → Int32 → Int32 → (Int32 × ((Nat → Int32) × Int32))) (cAk : (Nat → Int32) → (Nat → Int32) → (Nat → Int32) → (Nat → Int32) → Int32 → Int32 → Int32 → Int32 → Prop) (x1 : Int32) (x2 : Int32) (x3 : Int32) (kM : Nat) (kL : Nat) (k_cA : Nat) (hk : k_cA + 1 ≤ kL ∧ kL + 1 ≤ kM ∧ 30 ≤ kL) (h_cA : ∀ (text : Nat → Int32) (size : Int32) (sv : Nat → Int32) (stb : Nat → Int32) (var : Nat → Int32) (tab : Nat → Int32) (szs : Nat → Int32) (prg : Nat → Int32) (cod : Nat → Int32) (words : Int32) (has : Int32) (fpl : Int32) (pos : Int32) (fault : Int32) (plc : Int32) (tol : Nat → Int32) (tmany : Int32) (trc : Nat → Int32) (rmany : Int32) (mark : Int64) (pil : Nat → Int32) (pmany : Int32) (mks : Nat → Int32) (cts : Nat → Int32) (turns : Int32) (stop : Int32) (y1 y2 y3 : Int32), cAk sv stb prg cod words y1 y2 y3 → CI l g yX10_codeAll cX10_codeAll 5 (some .int) (rmN k_cA) (w_Mdl a g) [.ref (a 0), .int y1, .int y2, .int y3] (((((text, size), (sv, stb)), ((var, tab), szs)), (((prg, cod), words), ((has, fpl), pos))), ((((fault, plc), (tol, tmany)), ((trc, rmany), mark)), (((pil, pmany), mks), ((cts, turns), stop)))) (rb_X10_codeAll (((((text, size), (sv, stb)), ((var, tab), szs)), (((prg, cod), words), ((has, fpl), pos))), ((((fault, plc), (tol, tmany)), ((trc, rmany), mark)), (((pil, pmany), mks), ((cts, turns), stop)))) (cA sv stb prg cod words y1 y2 y3))) (hok : ok_X10_codeS cA cAk sv stb prg cod words x1 x2 x3) : CI l g yX10_codeS cX10_codeS 9 (some .int) (rmN kM) (w_Mdl a g) [.ref (a 0), .int x1, .int x2, .int x3] (((((text, size), (sv, stb)), ((var, tab), szs)), (((prg, cod), words), ((has, fpl), pos))), ((((fault, plc), (tol, tmany)), ((trc, rmany), mark)), (((pil, pmany), mks), ((cts, turns), stop)))) (rb_X10_codeS (((((text, size), (sv, stb)), ((var, tab), szs)), (((prg, cod), words), ((has, fpl), pos))), ((((fault, plc), (tol, tmany)), ((trc, rmany), mark)), (((pil, pmany), mks), ((cts, turns), stop)))) (f_X10_codeS cA sv stb prg cod words x1 x2 x3)) := by
  refine CI.mk (by decide) (Nat.le_of_ble_eq_true rfl) ?_
  intro p e s m below meth c A ls hI hw hl
  have hx := hI.1
  have hb := hI.2.1
  obtain ⟨r, hr⟩ : ∃ r, r = rb_X10_codeS (((((text, size), (sv, stb)), ((var, tab), szs)), (((prg, cod), words), ((has, fpl), pos))), ((((fault, plc), (tol, tmany)), ((trc, rmany), mark)), (((pil, pmany), mks), ((cts, turns), stop)))) (f_X10_codeS cA sv stb prg cod words x1 x2 x3) := ⟨_, rfl⟩
  rw [← hr]
  have hl : lv_has ls 9 [(0, .ref (a 0)), (1, .int x1), (2, .int x2), (3, .int x3)] := hl
  refine lv_aload_n hx hb dX10_codeS_0 rfl (lv_at hl 0 rfl) ?_
  refine hI.get (v := .ref (a 7)) hw fg_X10_29 0 rfl rfl dX10_codeS_1 ?_
  refine lv_iload_n hx hb dX10_codeS_4 rfl (lv_at hl 1 rfl) ?_
  have hq1 := hok.1
  have hok := hok.2
  refine hI.iald hw 7 rfl hq1 dX10_codeS_5 ?_
  refine lv_topi (fun v2 hv2 => ?_)
  have hok := bdP_use hv2 hok
  refine lv_istore (lv' := [(4, .int v2), (0, .ref (a 0)), (1, .int x1), (2, .int x2), (3, .int x3)]) hx hb dX10_codeS_6 hl (by decide) rfl (fun ls hl => ?_)
  refine lv_aload_n hx hb dX10_codeS_8 rfl (lv_at hl 1 rfl) ?_
  refine hI.get (v := .ref (a 7)) hw fg_X10_29 0 rfl rfl dX10_codeS_9 ?_
  refine lv_iload_n hx hb dX10_codeS_12 rfl (lv_at hl 2 rfl) ?_
  refine lv_iconst (v := (1 : Int32)) hx hb dX10_codeS_13 (by decide) ?_
  refine lv_iadd hx hb dX10_codeS_14 ?_
  have hq3 := hok.1
  have hok := hok.2
  refine hI.iald hw 7 rfl hq3 dX10_codeS_15 ?_
  refine lv_topi (fun v4 hv4 => ?_)
  have hok := bdP_use hv4 hok
  refine lv_istore (lv' := [(5, .int v4), (4, .int v2), (0, .ref (a 0)), (1, .int x1), (2, .int x2), (3, .int x3)]) hx hb dX10_codeS_16 hl (by decide) rfl (fun ls hl => ?_)
  refine lv_iload hx hb dX10_codeS_18 (lv_at hl 1 rfl) ?_
  refine lv_iconst (v := (1 : Int32)) hx hb dX10_codeS_20 (by decide) ?_
  refine lv_icmp_ne (tgt := 65) hx hb dX10_codeS_21 (by decide) (fun c5 => ?_) (fun c5 => ?_)
  · have hok := ok_f c5 hok
    refine lv_iload hx hb dX10_codeS_65 (lv_at hl 1 rfl) ?_
    refine lv_iconst (v := (2 : Int32)) hx hb dX10_codeS_67 (by decide) ?_
    refine lv_icmp_ne (tgt := 145) hx hb dX10_codeS_68 (by decide) (fun c6 => ?_) (fun c6 => ?_)
    · have hok := ok_f c6 hok
      refine lv_iload hx hb dX10_codeS_145 (lv_at hl 1 rfl) ?_
      refine lv_bipush (v := (7 : Int32)) hx hb dX10_codeS_147 (by decide) ?_
      refine lv_icmp_ne (tgt := 170) hx hb dX10_codeS_149 (by decide) (fun c7 => ?_) (fun c7 => ?_)
      · have hok := ok_f c7 hok
        refine lv_iload hx hb dX10_codeS_170 (lv_at hl 1 rfl) ?_
        refine lv_iconst (v := (3 : Int32)) hx hb dX10_codeS_172 (by decide) ?_
        refine lv_icmp_ne (tgt := 184) hx hb dX10_codeS_173 (by decide) (fun c8 => ?_) (fun c8 => ?_)
        · have hok := ok_f c8 hok
          refine lv_aload_n hx hb dX10_codeS_184 rfl (lv_at hl 2 rfl) ?_
          refine hI.get (v := .int words) hw fg_X10_125 0 rfl rfl dX10_codeS_185 ?_
          refine lv_istore (lv' := [(6, .int words), (5, .int v4), (4, .int v2), (0, .ref (a 0)), (1, .int x1), (2, .int x2), (3, .int x3)]) hx hb dX10_codeS_188 hl (by decide) rfl (fun ls hl => ?_)
          refine lv_iload hx hb dX10_codeS_190 (lv_at hl 2 rfl) ?_
          refine lv_iconst (v := (5 : Int32)) hx hb dX10_codeS_192 (by decide) ?_
          refine lv_icmp_ne (tgt := 208) hx hb dX10_codeS_193 (by decide) (fun c9 => ?_) (fun c9 => ?_)
          · have hok := ok_f c9 hok
            refine lv_aload_n hx hb dX10_codeS_208 rfl (lv_at hl 3 rfl) ?_
            refine lv_bipush (v := (29 : Int32)) hx hb dX10_codeS_209 (by decide) ?_
            have hq11 := hok.1
            have hok := hok.2
            obtain ⟨o10, ho10⟩ : ∃ o, o = f_X10_word cod words (29 : Int32) := ⟨_, rfl⟩
            refine hI.callV0 (wl := w_Mdl a g) (a := (((((text, size), (sv, stb)), ((var, tab), szs)), (((prg, cod), words), ((has, fpl), pos))), ((((fault, plc), (tol, tmany)), ((trc, rmany), mark)), (((pil, pmany), mks), ((cts, turns), stop))))) (r := rb_X10_word (((((text, size), (sv, stb)), ((var, tab), szs)), (((prg, cod), words), ((has, fpl), pos))), ((((fault, plc), (tol, tmany)), ((trc, rmany), mark)), (((pil, pmany), mks), ((cts, turns), stop)))) o10) (As := [.int (29 : Int32)]) (rest := []) hw (by rw [ho10]; exact c_X10_word l g a text size sv stb var tab szs prg cod words has fpl pos fault plc tol tmany trc rmany mark pil pmany mks cts turns stop (29 : Int32) hq11) ok_yX10_word ml_X10_128 (rm_ok (by omega) (by decide)) 0 rfl rfl rfl rfl hl.1 (Nat.le_of_ble_eq_true rfl) dX10_codeS_211 ⟨Nat.zero_le _, Nat.zero_le _⟩ (fun H locs hw => ?_)
            have hw : Wd g A s (w_Mdl a g (((((text, size), (sv, stb)), ((var, tab), szs)), (((prg, o10.1), o10.2), ((has, fpl), pos))), ((((fault, plc), (tol, tmany)), ((trc, rmany), mark)), (((pil, pmany), mks), ((cts, turns), stop))))) H locs := hw
            refine W.eq (g2 := F0 m 214 ls []) rfl ?_
            have hok := bdP_use ho10 hok
            refine lv_aload_n hx hb dX10_codeS_214 rfl (lv_at hl 3 rfl) ?_
            refine lv_iload_n hx hb dX10_codeS_215 rfl (lv_at hl 6 rfl) ?_
            have hq13 := hok.1
            have hok := hok.2
            obtain ⟨o12, ho12⟩ : ∃ o, o = f_X10_word o10.1 o10.2 x3 := ⟨_, rfl⟩
            refine hI.callV0 (wl := w_Mdl a g) (a := (((((text, size), (sv, stb)), ((var, tab), szs)), (((prg, o10.1), o10.2), ((has, fpl), pos))), ((((fault, plc), (tol, tmany)), ((trc, rmany), mark)), (((pil, pmany), mks), ((cts, turns), stop))))) (r := rb_X10_word (((((text, size), (sv, stb)), ((var, tab), szs)), (((prg, o10.1), o10.2), ((has, fpl), pos))), ((((fault, plc), (tol, tmany)), ((trc, rmany), mark)), (((pil, pmany), mks), ((cts, turns), stop)))) o12) (As := [.int x3]) (rest := []) hw (by rw [ho12]; exact c_X10_word l g a text size sv stb var tab szs prg o10.1 o10.2 has fpl pos fault plc tol tmany trc rmany mark pil pmany mks cts turns stop x3 hq13) ok_yX10_word ml_X10_128 (rm_ok (by omega) (by decide)) 0 rfl rfl rfl rfl hl.1 (Nat.le_of_ble_eq_true rfl) dX10_codeS_216 ⟨Nat.zero_le _, Nat.zero_le _⟩ (fun H locs hw => ?_)
            have hw : Wd g A s (w_Mdl a g (((((text, size), (sv, stb)), ((var, tab), szs)), (((prg, o12.1), o12.2), ((has, fpl), pos))), ((((fault, plc), (tol, tmany)), ((trc, rmany), mark)), (((pil, pmany), mks), ((cts, turns), stop))))) H locs := hw
            refine W.eq (g2 := F0 m 219 ls []) rfl ?_
            have hok := bdP_use ho12 hok
            refine lv_aload_n hx hb dX10_codeS_219 rfl (lv_at hl 3 rfl) ?_
            refine hI.get (v := .int o12.2) hw fg_X10_125 0 rfl rfl dX10_codeS_220 ?_
            refine lv_istore (lv' := [(6, .int o12.2), (5, .int v4), (4, .int v2), (0, .ref (a 0)), (1, .int x1), (2, .int x2), (3, .int x3)]) hx hb dX10_codeS_223 hl (by decide) rfl (fun ls hl => ?_)
            refine lv_aload_n hx hb dX10_codeS_225 rfl (lv_at hl 3 rfl) ?_
            refine lv_bipush (v := (30 : Int32)) hx hb dX10_codeS_226 (by decide) ?_
            have hq15 := hok.1
            have hok := hok.2
            obtain ⟨o14, ho14⟩ : ∃ o, o = f_X10_word o12.1 o12.2 (30 : Int32) := ⟨_, rfl⟩
            refine hI.callV0 (wl := w_Mdl a g) (a := (((((text, size), (sv, stb)), ((var, tab), szs)), (((prg, o12.1), o12.2), ((has, fpl), pos))), ((((fault, plc), (tol, tmany)), ((trc, rmany), mark)), (((pil, pmany), mks), ((cts, turns), stop))))) (r := rb_X10_word (((((text, size), (sv, stb)), ((var, tab), szs)), (((prg, o12.1), o12.2), ((has, fpl), pos))), ((((fault, plc), (tol, tmany)), ((trc, rmany), mark)), (((pil, pmany), mks), ((cts, turns), stop)))) o14) (As := [.int (30 : Int32)]) (rest := []) hw (by rw [ho14]; exact c_X10_word l g a text size sv stb var tab szs prg o12.1 o12.2 has fpl pos fault plc tol tmany trc rmany mark pil pmany mks cts turns stop (30 : Int32) hq15) ok_yX10_word ml_X10_128 (rm_ok (by omega) (by decide)) 0 rfl rfl rfl rfl hl.1 (Nat.le_of_ble_eq_true rfl) dX10_codeS_228 ⟨Nat.zero_le _, Nat.zero_le _⟩ (fun H locs hw => ?_)
            have hw : Wd g A s (w_Mdl a g (((((text, size), (sv, stb)), ((var, tab), szs)), (((prg, o14.1), o14.2), ((has, fpl), pos))), ((((fault, plc), (tol, tmany)), ((trc, rmany), mark)), (((pil, pmany), mks), ((cts, turns), stop))))) H locs := hw
            refine W.eq (g2 := F0 m 231 ls []) rfl ?_
            have hok := bdP_use ho14 hok
            refine lv_aload_n hx hb dX10_codeS_231 rfl (lv_at hl 3 rfl) ?_
            refine lv_iload_n hx hb dX10_codeS_232 rfl (lv_at hl 6 rfl) ?_
            have hq17 := hok.1
            have hok := hok.2
            obtain ⟨o16, ho16⟩ : ∃ o, o = f_X10_word o14.1 o14.2 x3 := ⟨_, rfl⟩
            refine hI.callV0 (wl := w_Mdl a g) (a := (((((text, size), (sv, stb)), ((var, tab), szs)), (((prg, o14.1), o14.2), ((has, fpl), pos))), ((((fault, plc), (tol, tmany)), ((trc, rmany), mark)), (((pil, pmany), mks), ((cts, turns), stop))))) (r := rb_X10_word (((((text, size), (sv, stb)), ((var, tab), szs)), (((prg, o14.1), o14.2), ((has, fpl), pos))), ((((fault, plc), (tol, tmany)), ((trc, rmany), mark)), (((pil, pmany), mks), ((cts, turns), stop)))) o16) (As := [.int x3]) (rest := []) hw (by rw [ho16]; exact c_X10_word l g a text size sv stb var tab szs prg o14.1 o14.2 has fpl pos fault plc tol tmany trc rmany mark pil pmany mks cts turns stop x3 hq17) ok_yX10_word ml_X10_128 (rm_ok (by omega) (by decide)) 0 rfl rfl rfl rfl hl.1 (Nat.le_of_ble_eq_true rfl) dX10_codeS_233 ⟨Nat.zero_le _, Nat.zero_le _⟩ (fun H locs hw => ?_)
            have hw : Wd g A s (w_Mdl a g (((((text, size), (sv, stb)), ((var, tab), szs)), (((prg, o16.1), o16.2), ((has, fpl), pos))), ((((fault, plc), (tol, tmany)), ((trc, rmany), mark)), (((pil, pmany), mks), ((cts, turns), stop))))) H locs := hw
            refine W.eq (g2 := F0 m 236 ls []) rfl ?_
            have hok := bdP_use ho16 hok
            refine lv_aload_n hx hb dX10_codeS_236 rfl (lv_at hl 3 rfl) ?_
            refine lv_iconst (v := (1 : Int32)) hx hb dX10_codeS_237 (by decide) ?_
            have hq19 := hok.1
            have hok := hok.2
            obtain ⟨o18, ho18⟩ : ∃ o, o = f_X10_word o16.1 o16.2 (1 : Int32) := ⟨_, rfl⟩
            refine hI.callV0 (wl := w_Mdl a g) (a := (((((text, size), (sv, stb)), ((var, tab), szs)), (((prg, o16.1), o16.2), ((has, fpl), pos))), ((((fault, plc), (tol, tmany)), ((trc, rmany), mark)), (((pil, pmany), mks), ((cts, turns), stop))))) (r := rb_X10_word (((((text, size), (sv, stb)), ((var, tab), szs)), (((prg, o16.1), o16.2), ((has, fpl), pos))), ((((fault, plc), (tol, tmany)), ((trc, rmany), mark)), (((pil, pmany), mks), ((cts, turns), stop)))) o18) (As := [.int (1 : Int32)]) (rest := []) hw (by rw [ho18]; exact c_X10_word l g a text size sv stb var tab szs prg o16.1 o16.2 has fpl pos fault plc tol tmany trc rmany mark pil pmany mks cts turns stop (1 : Int32) hq19) ok_yX10_word ml_X10_128 (rm_ok (by omega) (by decide)) 0 rfl rfl rfl rfl hl.1 (Nat.le_of_ble_eq_true rfl) dX10_codeS_238 ⟨Nat.zero_le _, Nat.zero_le _⟩ (fun H locs hw => ?_)
            have hw : Wd g A s (w_Mdl a g (((((text, size), (sv, stb)), ((var, tab), szs)), (((prg, o18.1), o18.2), ((has, fpl), pos))), ((((fault, plc), (tol, tmany)), ((trc, rmany), mark)), (((pil, pmany), mks), ((cts, turns), stop))))) H locs := hw
            refine W.eq (g2 := F0 m 241 ls []) rfl ?_
            have hok := bdP_use ho18 hok
            refine lv_aload_n hx hb dX10_codeS_241 rfl (lv_at hl 3 rfl) ?_
            refine lv_iload hx hb dX10_codeS_242 (lv_at hl 1 rfl) ?_
            have hq21 := hok.1
            have hok := hok.2
            obtain ⟨o20, ho20⟩ : ∃ o, o = f_X10_word o18.1 o18.2 v4 := ⟨_, rfl⟩
            refine hI.callV0 (wl := w_Mdl a g) (a := (((((text, size), (sv, stb)), ((var, tab), szs)), (((prg, o18.1), o18.2), ((has, fpl), pos))), ((((fault, plc), (tol, tmany)), ((trc, rmany), mark)), (((pil, pmany), mks), ((cts, turns), stop))))) (r := rb_X10_word (((((text, size), (sv, stb)), ((var, tab), szs)), (((prg, o18.1), o18.2), ((has, fpl), pos))), ((((fault, plc), (tol, tmany)), ((trc, rmany), mark)), (((pil, pmany), mks), ((cts, turns), stop)))) o20) (As := [.int v4]) (rest := []) hw (by rw [ho20]; exact c_X10_word l g a text size sv stb var tab szs prg o18.1 o18.2 has fpl pos fault plc tol tmany trc rmany mark pil pmany mks cts turns stop v4 hq21) ok_yX10_word ml_X10_128 (rm_ok (by omega) (by decide)) 0 rfl rfl rfl rfl hl.1 (Nat.le_of_ble_eq_true rfl) dX10_codeS_244 ⟨Nat.zero_le _, Nat.zero_le _⟩ (fun H locs hw => ?_)
            have hw : Wd g A s (w_Mdl a g (((((text, size), (sv, stb)), ((var, tab), szs)), (((prg, o20.1), o20.2), ((has, fpl), pos))), ((((fault, plc), (tol, tmany)), ((trc, rmany), mark)), (((pil, pmany), mks), ((cts, turns), stop))))) H locs := hw
            refine W.eq (g2 := F0 m 247 ls []) rfl ?_
            have hok := bdP_use ho20 hok
            refine lv_aload_n hx hb dX10_codeS_247 rfl (lv_at hl 3 rfl) ?_
            refine lv_bipush (v := (12 : Int32)) hx hb dX10_codeS_248 (by decide) ?_
            have hq23 := hok.1
            have hok := hok.2
            obtain ⟨o22, ho22⟩ : ∃ o, o = f_X10_word o20.1 o20.2 (12 : Int32) := ⟨_, rfl⟩
            refine hI.callV0 (wl := w_Mdl a g) (a := (((((text, size), (sv, stb)), ((var, tab), szs)), (((prg, o20.1), o20.2), ((has, fpl), pos))), ((((fault, plc), (tol, tmany)), ((trc, rmany), mark)), (((pil, pmany), mks), ((cts, turns), stop))))) (r := rb_X10_word (((((text, size), (sv, stb)), ((var, tab), szs)), (((prg, o20.1), o20.2), ((has, fpl), pos))), ((((fault, plc), (tol, tmany)), ((trc, rmany), mark)), (((pil, pmany), mks), ((cts, turns), stop)))) o22) (As := [.int (12 : Int32)]) (rest := []) hw (by rw [ho22]; exact c_X10_word l g a text size sv stb var tab szs prg o20.1 o20.2 has fpl pos fault plc tol tmany trc rmany mark pil pmany mks cts turns stop (12 : Int32) hq23) ok_yX10_word ml_X10_128 (rm_ok (by omega) (by decide)) 0 rfl rfl rfl rfl hl.1 (Nat.le_of_ble_eq_true rfl) dX10_codeS_250 ⟨Nat.zero_le _, Nat.zero_le _⟩ (fun H locs hw => ?_)
            have hw : Wd g A s (w_Mdl a g (((((text, size), (sv, stb)), ((var, tab), szs)), (((prg, o22.1), o22.2), ((has, fpl), pos))), ((((fault, plc), (tol, tmany)), ((trc, rmany), mark)), (((pil, pmany), mks), ((cts, turns), stop))))) H locs := hw
            refine W.eq (g2 := F0 m 253 ls []) rfl ?_
            have hok := bdP_use ho22 hok
            refine lv_iload_n hx hb dX10_codeS_253 rfl (lv_at hl 4 rfl) ?_
            refine lv_iconst (v := (2 : Int32)) hx hb dX10_codeS_254 (by decide) ?_
            refine lv_iadd hx hb dX10_codeS_255 ?_
            refine lv_topi (fun v24 hv24 => ?_)
            have hok := bdP_use hv24 hok
            refine lv_istore (lv' := [(7, .int v24), (6, .int o12.2), (5, .int v4), (4, .int v2), (0, .ref (a 0)), (1, .int x1), (2, .int x2), (3, .int x3)]) hx hb dX10_codeS_256 hl (by decide) rfl (fun ls hl => ?_)
            refine lv_aload_n hx hb dX10_codeS_258 rfl (lv_at hl 4 rfl) ?_
            refine lv_bipush (v := (19 : Int32)) hx hb dX10_codeS_259 (by decide) ?_
            have hq26 := hok.1
            have hok := hok.2
            obtain ⟨o25, ho25⟩ : ∃ o, o = f_X10_word o22.1 o22.2 (19 : Int32) := ⟨_, rfl⟩
            refine hI.callV0 (wl := w_Mdl a g) (a := (((((text, size), (sv, stb)), ((var, tab), szs)), (((prg, o22.1), o22.2), ((has, fpl), pos))), ((((fault, plc), (tol, tmany)), ((trc, rmany), mark)), (((pil, pmany), mks), ((cts, turns), stop))))) (r := rb_X10_word (((((text, size), (sv, stb)), ((var, tab), szs)), (((prg, o22.1), o22.2), ((has, fpl), pos))), ((((fault, plc), (tol, tmany)), ((trc, rmany), mark)), (((pil, pmany), mks), ((cts, turns), stop)))) o25) (As := [.int (19 : Int32)]) (rest := []) hw (by rw [ho25]; exact c_X10_word l g a text size sv stb var tab szs prg o22.1 o22.2 has fpl pos fault plc tol tmany trc rmany mark pil pmany mks cts turns stop (19 : Int32) hq26) ok_yX10_word ml_X10_128 (rm_ok (by omega) (by decide)) 0 rfl rfl rfl rfl hl.1 (Nat.le_of_ble_eq_true rfl) dX10_codeS_261 ⟨Nat.zero_le _, Nat.zero_le _⟩ (fun H locs hw => ?_)
            have hw : Wd g A s (w_Mdl a g (((((text, size), (sv, stb)), ((var, tab), szs)), (((prg, o25.1), o25.2), ((has, fpl), pos))), ((((fault, plc), (tol, tmany)), ((trc, rmany), mark)), (((pil, pmany), mks), ((cts, turns), stop))))) H locs := hw
            refine W.eq (g2 := F0 m 264 ls []) rfl ?_
            have hok := bdP_use ho25 hok
            refine lv_aload_n hx hb dX10_codeS_264 rfl (lv_at hl 4 rfl) ?_
            refine hI.get (v := .int o25.2) hw fg_X10_125 0 rfl rfl dX10_codeS_265 ?_
            refine lv_istore (lv' := [(8, .int o25.2), (7, .int v24), (6, .int o12.2), (5, .int v4), (4, .int v2), (0, .ref (a 0)), (1, .int x1), (2, .int x2), (3, .int x3)]) hx hb dX10_codeS_268 hl (by decide) rfl (fun ls hl => ?_)
            refine lv_aload_n hx hb dX10_codeS_270 rfl (lv_at hl 5 rfl) ?_
            refine lv_iconst (v := (0 : Int32)) hx hb dX10_codeS_271 (by decide) ?_
            have hq28 := hok.1
            have hok := hok.2
            obtain ⟨o27, ho27⟩ : ∃ o, o = f_X10_word o25.1 o25.2 (0 : Int32) := ⟨_, rfl⟩
            refine hI.callV0 (wl := w_Mdl a g) (a := (((((text, size), (sv, stb)), ((var, tab), szs)), (((prg, o25.1), o25.2), ((has, fpl), pos))), ((((fault, plc), (tol, tmany)), ((trc, rmany), mark)), (((pil, pmany), mks), ((cts, turns), stop))))) (r := rb_X10_word (((((text, size), (sv, stb)), ((var, tab), szs)), (((prg, o25.1), o25.2), ((has, fpl), pos))), ((((fault, plc), (tol, tmany)), ((trc, rmany), mark)), (((pil, pmany), mks), ((cts, turns), stop)))) o27) (As := [.int (0 : Int32)]) (rest := []) hw (by rw [ho27]; exact c_X10_word l g a text size sv stb var tab szs prg o25.1 o25.2 has fpl pos fault plc tol tmany trc rmany mark pil pmany mks cts turns stop (0 : Int32) hq28) ok_yX10_word ml_X10_128 (rm_ok (by omega) (by decide)) 0 rfl rfl rfl rfl hl.1 (Nat.le_of_ble_eq_true rfl) dX10_codeS_272 ⟨Nat.zero_le _, Nat.zero_le _⟩ (fun H locs hw => ?_)
            have hw : Wd g A s (w_Mdl a g (((((text, size), (sv, stb)), ((var, tab), szs)), (((prg, o27.1), o27.2), ((has, fpl), pos))), ((((fault, plc), (tol, tmany)), ((trc, rmany), mark)), (((pil, pmany), mks), ((cts, turns), stop))))) H locs := hw
            refine W.eq (g2 := F0 m 275 ls []) rfl ?_
            have hok := bdP_use ho27 hok
            refine lv_aload_n hx hb dX10_codeS_275 rfl (lv_at hl 5 rfl) ?_
            refine lv_iload hx hb dX10_codeS_276 (lv_at hl 1 rfl) ?_
            refine lv_iload_n hx hb dX10_codeS_278 rfl (lv_at hl 7 rfl) ?_
            refine lv_iload hx hb dX10_codeS_279 (lv_at hl 4 rfl) ?_
            refine lv_bipush (v := (6 : Int32)) hx hb dX10_codeS_281 (by decide) ?_
            refine lv_icmp_ne (tgt := 292) hx hb dX10_codeS_283 (by decide) (fun c29 => ?_) (fun c29 => ?_)
            · have hok := ok_f c29 hok
              refine lv_iload_n hx hb dX10_codeS_292 rfl (lv_at hl 8 rfl) ?_
              have hq31 := hok.1
              have hok := hok.2
              obtain ⟨o30, ho30⟩ : ∃ o, o = cA sv stb prg o27.1 o27.2 v24 x2 x3 := ⟨_, rfl⟩
              refine hI.callI0 (wl := w_Mdl a g) (a := (((((text, size), (sv, stb)), ((var, tab), szs)), (((prg, o27.1), o27.2), ((has, fpl), pos))), ((((fault, plc), (tol, tmany)), ((trc, rmany), mark)), (((pil, pmany), mks), ((cts, turns), stop))))) (r := rb_X10_codeAll (((((text, size), (sv, stb)), ((var, tab), szs)), (((prg, o27.1), o27.2), ((has, fpl), pos))), ((((fault, plc), (tol, tmany)), ((trc, rmany), mark)), (((pil, pmany), mks), ((cts, turns), stop)))) o30) (As := [.int v24, .int x2, .int x3]) (rest := []) hw (by rw [ho30]; exact h_cA text size sv stb var tab szs prg o27.1 o27.2 has fpl pos fault plc tol tmany trc rmany mark pil pmany mks cts turns stop v24 x2 x3 hq31) ok_yX10_codeAll ml_X10_141 (rm_ok (by omega) (by decide)) 0 rfl rfl rfl rfl hl.1 (Nat.le_of_ble_eq_true rfl) dX10_codeS_293 ⟨Nat.zero_le _, Nat.zero_le _⟩ (fun H locs hw => ?_)
              have hw : Wd g A s (w_Mdl a g (((((text, size), (sv, stb)), ((var, tab), szs)), (((prg, o30.2.1), o30.2.2), ((has, fpl), pos))), ((((fault, plc), (tol, tmany)), ((trc, rmany), mark)), (((pil, pmany), mks), ((cts, turns), stop))))) H locs := hw
              refine W.eq (g2 := F0 m 296 ls [.int o30.1]) rfl ?_
              have hok := bdP_use ho30 hok
              refine lv_istore (lv' := [(7, .int o30.1), (8, .int o25.2), (6, .int o12.2), (5, .int v4), (4, .int v2), (0, .ref (a 0)), (1, .int x1), (2, .int x2), (3, .int x3)]) hx hb dX10_codeS_296 hl (by decide) rfl (fun ls hl => ?_)
              refine lv_iload hx hb dX10_codeS_298 (lv_at hl 4 rfl) ?_
              refine lv_bipush (v := (6 : Int32)) hx hb dX10_codeS_300 (by decide) ?_
              refine lv_icmp_ne (tgt := 316) hx hb dX10_codeS_302 (by decide) (fun c32 => ?_) (fun c32 => ?_)
              rotate_left
              · exact absurd c32 c29
              refine lv_aload_n hx hb dX10_codeS_316 rfl (lv_at hl 5 rfl) ?_
              refine lv_bipush (v := (18 : Int32)) hx hb dX10_codeS_317 (by decide) ?_
              have hq34 := hok.1
              have hok := hok.2
              obtain ⟨o33, ho33⟩ : ∃ o, o = f_X10_word o30.2.1 o30.2.2 (18 : Int32) := ⟨_, rfl⟩
              refine hI.callV0 (wl := w_Mdl a g) (a := (((((text, size), (sv, stb)), ((var, tab), szs)), (((prg, o30.2.1), o30.2.2), ((has, fpl), pos))), ((((fault, plc), (tol, tmany)), ((trc, rmany), mark)), (((pil, pmany), mks), ((cts, turns), stop))))) (r := rb_X10_word (((((text, size), (sv, stb)), ((var, tab), szs)), (((prg, o30.2.1), o30.2.2), ((has, fpl), pos))), ((((fault, plc), (tol, tmany)), ((trc, rmany), mark)), (((pil, pmany), mks), ((cts, turns), stop)))) o33) (As := [.int (18 : Int32)]) (rest := []) hw (by rw [ho33]; exact c_X10_word l g a text size sv stb var tab szs prg o30.2.1 o30.2.2 has fpl pos fault plc tol tmany trc rmany mark pil pmany mks cts turns stop (18 : Int32) hq34) ok_yX10_word ml_X10_128 (rm_ok (by omega) (by decide)) 0 rfl rfl rfl rfl hl.1 (Nat.le_of_ble_eq_true rfl) dX10_codeS_319 ⟨Nat.zero_le _, Nat.zero_le _⟩ (fun H locs hw => ?_)
              have hw : Wd g A s (w_Mdl a g (((((text, size), (sv, stb)), ((var, tab), szs)), (((prg, o33.1), o33.2), ((has, fpl), pos))), ((((fault, plc), (tol, tmany)), ((trc, rmany), mark)), (((pil, pmany), mks), ((cts, turns), stop))))) H locs := hw
              refine W.eq (g2 := F0 m 322 ls []) rfl ?_
              have hok := bdP_use ho33 hok
              refine lv_aload_n hx hb dX10_codeS_322 rfl (lv_at hl 5 rfl) ?_
              refine lv_iload hx hb dX10_codeS_323 (lv_at hl 2 rfl) ?_
              have hq36 := hok.1
              have hok := hok.2
              obtain ⟨o35, ho35⟩ : ∃ o, o = f_X10_word o33.1 o33.2 o12.2 := ⟨_, rfl⟩
              refine hI.callV0 (wl := w_Mdl a g) (a := (((((text, size), (sv, stb)), ((var, tab), szs)), (((prg, o33.1), o33.2), ((has, fpl), pos))), ((((fault, plc), (tol, tmany)), ((trc, rmany), mark)), (((pil, pmany), mks), ((cts, turns), stop))))) (r := rb_X10_word (((((text, size), (sv, stb)), ((var, tab), szs)), (((prg, o33.1), o33.2), ((has, fpl), pos))), ((((fault, plc), (tol, tmany)), ((trc, rmany), mark)), (((pil, pmany), mks), ((cts, turns), stop)))) o35) (As := [.int o12.2]) (rest := []) hw (by rw [ho35]; exact c_X10_word l g a text size sv stb var tab szs prg o33.1 o33.2 has fpl pos fault plc tol tmany trc rmany mark pil pmany mks cts turns stop o12.2 hq36) ok_yX10_word ml_X10_128 (rm_ok (by omega) (by decide)) 0 rfl rfl rfl rfl hl.1 (Nat.le_of_ble_eq_true rfl) dX10_codeS_325 ⟨Nat.zero_le _, Nat.zero_le _⟩ (fun H locs hw => ?_)
              have hw : Wd g A s (w_Mdl a g (((((text, size), (sv, stb)), ((var, tab), szs)), (((prg, o35.1), o35.2), ((has, fpl), pos))), ((((fault, plc), (tol, tmany)), ((trc, rmany), mark)), (((pil, pmany), mks), ((cts, turns), stop))))) H locs := hw
              refine W.eq (g2 := F0 m 328 ls []) rfl ?_
              have hok := bdP_use ho35 hok
              refine lv_aload_n hx hb dX10_codeS_328 rfl (lv_at hl 5 rfl) ?_
              refine hI.get (v := .ref (a 8)) hw fg_X10_32 0 rfl rfl dX10_codeS_329 ?_
              refine lv_iload hx hb dX10_codeS_332 (lv_at hl 1 rfl) ?_
              refine lv_aload_n hx hb dX10_codeS_334 rfl (lv_at hl 5 rfl) ?_
              refine hI.get (v := .int o35.2) hw fg_X10_125 0 rfl rfl dX10_codeS_335 ?_
              have hq37 := hok.1
              have hok := hok.2
              refine hI.iast hw 8 rfl hq37 dX10_codeS_338 (fun H locs hw => ?_)
              have hw : Wd g A s (w_Mdl a g (((((text, size), (sv, stb)), ((var, tab), szs)), (((prg, upd o35.1 o25.2.toNatClampNeg o35.2), o35.2), ((has, fpl), pos))), ((((fault, plc), (tol, tmany)), ((trc, rmany), mark)), (((pil, pmany), mks), ((cts, turns), stop))))) H locs := hw
              refine lv_iload hx hb dX10_codeS_339 (lv_at hl 0 rfl) ?_
              refine lv_iconst (v := (1 : Int32)) hx hb dX10_codeS_341 (by decide) ?_
              refine lv_iadd hx hb dX10_codeS_342 ?_
              exact hI.retI (u := (((((text, size), (sv, stb)), ((var, tab), szs)), (((prg, upd o35.1 o25.2.toNatClampNeg o35.2), o35.2), ((has, fpl), pos))), ((((fault, plc), (tol, tmany)), ((trc, rmany), mark)), (((pil, pmany), mks), ((cts, turns), stop))))) hw (hr.trans (congrArg (rb_X10_codeS (((((text, size), (sv, stb)), ((var, tab), szs)), (((prg, cod), words), ((has, fpl), pos))), ((((fault, plc), (tol, tmany)), ((trc, rmany), mark)), (((pil, pmany), mks), ((cts, turns), stop))))) ((show f_X10_codeS cA sv stb prg cod words x1 x2 x3 = (o30.1 + (1 : Int32), (upd o35.1 o25.2.toNatClampNeg o35.2, o35.2)) from bd_of hv2 (bd_of hv4 (it_f c5 (it_f c6 (it_f c7 (it_f c8 (it_f c9 (bd_of ho10 (bd_of ho12 (bd_of ho14 (bd_of ho16 (bd_of ho18 (bd_of ho20 (bd_of ho22 (bd_of hv24 (bd_of ho25 (bd_of ho27 (it_f c29 (bd_of ho30 (bd_of ho33 (bd_of ho35 (rfl))))))))))))))))))))))))) dX10_codeS_343
            · have hok := ok_t c29 hok
              refine lv_iload_n hx hb dX10_codeS_286 rfl (lv_at hl 8 rfl) ?_
              refine lv_iconst (v := (1 : Int32)) hx hb dX10_codeS_287 (by decide) ?_
              refine lv_iadd hx hb dX10_codeS_288 ?_
              refine lv_goto (tgt := 293) hx hb dX10_codeS_289 (by decide) ?_
              have hq39 := hok.1
              have hok := hok.2
              obtain ⟨o38, ho38⟩ : ∃ o, o = cA sv stb prg o27.1 o27.2 v24 x2 (x3 + (1 : Int32)) := ⟨_, rfl⟩
              refine hI.callI0 (wl := w_Mdl a g) (a := (((((text, size), (sv, stb)), ((var, tab), szs)), (((prg, o27.1), o27.2), ((has, fpl), pos))), ((((fault, plc), (tol, tmany)), ((trc, rmany), mark)), (((pil, pmany), mks), ((cts, turns), stop))))) (r := rb_X10_codeAll (((((text, size), (sv, stb)), ((var, tab), szs)), (((prg, o27.1), o27.2), ((has, fpl), pos))), ((((fault, plc), (tol, tmany)), ((trc, rmany), mark)), (((pil, pmany), mks), ((cts, turns), stop)))) o38) (As := [.int v24, .int x2, .int (x3 + (1 : Int32))]) (rest := []) hw (by rw [ho38]; exact h_cA text size sv stb var tab szs prg o27.1 o27.2 has fpl pos fault plc tol tmany trc rmany mark pil pmany mks cts turns stop v24 x2 (x3 + (1 : Int32)) hq39) ok_yX10_codeAll ml_X10_141 (rm_ok (by omega) (by decide)) 0 rfl rfl rfl rfl hl.1 (Nat.le_of_ble_eq_true rfl) dX10_codeS_293 ⟨Nat.zero_le _, Nat.zero_le _⟩ (fun H locs hw => ?_)
              have hw : Wd g A s (w_Mdl a g (((((text, size), (sv, stb)), ((var, tab), szs)), (((prg, o38.2.1), o38.2.2), ((has, fpl), pos))), ((((fault, plc), (tol, tmany)), ((trc, rmany), mark)), (((pil, pmany), mks), ((cts, turns), stop))))) H locs := hw
              refine W.eq (g2 := F0 m 296 ls [.int o38.1]) rfl ?_
              have hok := bdP_use ho38 hok
              refine lv_istore (lv' := [(7, .int o38.1), (8, .int o25.2), (6, .int o12.2), (5, .int v4), (4, .int v2), (0, .ref (a 0)), (1, .int x1), (2, .int x2), (3, .int x3)]) hx hb dX10_codeS_296 hl (by decide) rfl (fun ls hl => ?_)
              refine lv_iload hx hb dX10_codeS_298 (lv_at hl 4 rfl) ?_
              refine lv_bipush (v := (6 : Int32)) hx hb dX10_codeS_300 (by decide) ?_
              refine lv_icmp_ne (tgt := 316) hx hb dX10_codeS_302 (by decide) (fun c40 => ?_) (fun c40 => ?_)
              · exact absurd c29 c40
              refine lv_aload_n hx hb dX10_codeS_305 rfl (lv_at hl 5 rfl) ?_
              refine lv_bipush (v := (31 : Int32)) hx hb dX10_codeS_306 (by decide) ?_
              have hq42 := hok.1
              have hok := hok.2
              obtain ⟨o41, ho41⟩ : ∃ o, o = f_X10_word o38.2.1 o38.2.2 (31 : Int32) := ⟨_, rfl⟩
              refine hI.callV0 (wl := w_Mdl a g) (a := (((((text, size), (sv, stb)), ((var, tab), szs)), (((prg, o38.2.1), o38.2.2), ((has, fpl), pos))), ((((fault, plc), (tol, tmany)), ((trc, rmany), mark)), (((pil, pmany), mks), ((cts, turns), stop))))) (r := rb_X10_word (((((text, size), (sv, stb)), ((var, tab), szs)), (((prg, o38.2.1), o38.2.2), ((has, fpl), pos))), ((((fault, plc), (tol, tmany)), ((trc, rmany), mark)), (((pil, pmany), mks), ((cts, turns), stop)))) o41) (As := [.int (31 : Int32)]) (rest := []) hw (by rw [ho41]; exact c_X10_word l g a text size sv stb var tab szs prg o38.2.1 o38.2.2 has fpl pos fault plc tol tmany trc rmany mark pil pmany mks cts turns stop (31 : Int32) hq42) ok_yX10_word ml_X10_128 (rm_ok (by omega) (by decide)) 0 rfl rfl rfl rfl hl.1 (Nat.le_of_ble_eq_true rfl) dX10_codeS_308 ⟨Nat.zero_le _, Nat.zero_le _⟩ (fun H locs hw => ?_)
              have hw : Wd g A s (w_Mdl a g (((((text, size), (sv, stb)), ((var, tab), szs)), (((prg, o41.1), o41.2), ((has, fpl), pos))), ((((fault, plc), (tol, tmany)), ((trc, rmany), mark)), (((pil, pmany), mks), ((cts, turns), stop))))) H locs := hw
              refine W.eq (g2 := F0 m 311 ls []) rfl ?_
              have hok := bdP_use ho41 hok
              refine lv_aload_n hx hb dX10_codeS_311 rfl (lv_at hl 5 rfl) ?_
              refine lv_iload_n hx hb dX10_codeS_312 rfl (lv_at hl 8 rfl) ?_
              have hq44 := hok.1
              have hok := hok.2
              obtain ⟨o43, ho43⟩ : ∃ o, o = f_X10_word o41.1 o41.2 x3 := ⟨_, rfl⟩
              refine hI.callV0 (wl := w_Mdl a g) (a := (((((text, size), (sv, stb)), ((var, tab), szs)), (((prg, o41.1), o41.2), ((has, fpl), pos))), ((((fault, plc), (tol, tmany)), ((trc, rmany), mark)), (((pil, pmany), mks), ((cts, turns), stop))))) (r := rb_X10_word (((((text, size), (sv, stb)), ((var, tab), szs)), (((prg, o41.1), o41.2), ((has, fpl), pos))), ((((fault, plc), (tol, tmany)), ((trc, rmany), mark)), (((pil, pmany), mks), ((cts, turns), stop)))) o43) (As := [.int x3]) (rest := []) hw (by rw [ho43]; exact c_X10_word l g a text size sv stb var tab szs prg o41.1 o41.2 has fpl pos fault plc tol tmany trc rmany mark pil pmany mks cts turns stop x3 hq44) ok_yX10_word ml_X10_128 (rm_ok (by omega) (by decide)) 0 rfl rfl rfl rfl hl.1 (Nat.le_of_ble_eq_true rfl) dX10_codeS_313 ⟨Nat.zero_le _, Nat.zero_le _⟩ (fun H locs hw => ?_)
              have hw : Wd g A s (w_Mdl a g (((((text, size), (sv, stb)), ((var, tab), szs)), (((prg, o43.1), o43.2), ((has, fpl), pos))), ((((fault, plc), (tol, tmany)), ((trc, rmany), mark)), (((pil, pmany), mks), ((cts, turns), stop))))) H locs := hw
              refine W.eq (g2 := F0 m 316 ls []) rfl ?_
              have hok := bdP_use ho43 hok
              refine lv_aload_n hx hb dX10_codeS_316 rfl (lv_at hl 5 rfl) ?_
              refine lv_bipush (v := (18 : Int32)) hx hb dX10_codeS_317 (by decide) ?_
              have hq46 := hok.1
              have hok := hok.2
              obtain ⟨o45, ho45⟩ : ∃ o, o = f_X10_word o43.1 o43.2 (18 : Int32) := ⟨_, rfl⟩
              refine hI.callV0 (wl := w_Mdl a g) (a := (((((text, size), (sv, stb)), ((var, tab), szs)), (((prg, o43.1), o43.2), ((has, fpl), pos))), ((((fault, plc), (tol, tmany)), ((trc, rmany), mark)), (((pil, pmany), mks), ((cts, turns), stop))))) (r := rb_X10_word (((((text, size), (sv, stb)), ((var, tab), szs)), (((prg, o43.1), o43.2), ((has, fpl), pos))), ((((fault, plc), (tol, tmany)), ((trc, rmany), mark)), (((pil, pmany), mks), ((cts, turns), stop)))) o45) (As := [.int (18 : Int32)]) (rest := []) hw (by rw [ho45]; exact c_X10_word l g a text size sv stb var tab szs prg o43.1 o43.2 has fpl pos fault plc tol tmany trc rmany mark pil pmany mks cts turns stop (18 : Int32) hq46) ok_yX10_word ml_X10_128 (rm_ok (by omega) (by decide)) 0 rfl rfl rfl rfl hl.1 (Nat.le_of_ble_eq_true rfl) dX10_codeS_319 ⟨Nat.zero_le _, Nat.zero_le _⟩ (fun H locs hw => ?_)
              have hw : Wd g A s (w_Mdl a g (((((text, size), (sv, stb)), ((var, tab), szs)), (((prg, o45.1), o45.2), ((has, fpl), pos))), ((((fault, plc), (tol, tmany)), ((trc, rmany), mark)), (((pil, pmany), mks), ((cts, turns), stop))))) H locs := hw
              refine W.eq (g2 := F0 m 322 ls []) rfl ?_
              have hok := bdP_use ho45 hok
              refine lv_aload_n hx hb dX10_codeS_322 rfl (lv_at hl 5 rfl) ?_
              refine lv_iload hx hb dX10_codeS_323 (lv_at hl 2 rfl) ?_
              have hq48 := hok.1
              have hok := hok.2
              obtain ⟨o47, ho47⟩ : ∃ o, o = f_X10_word o45.1 o45.2 o12.2 := ⟨_, rfl⟩
              refine hI.callV0 (wl := w_Mdl a g) (a := (((((text, size), (sv, stb)), ((var, tab), szs)), (((prg, o45.1), o45.2), ((has, fpl), pos))), ((((fault, plc), (tol, tmany)), ((trc, rmany), mark)), (((pil, pmany), mks), ((cts, turns), stop))))) (r := rb_X10_word (((((text, size), (sv, stb)), ((var, tab), szs)), (((prg, o45.1), o45.2), ((has, fpl), pos))), ((((fault, plc), (tol, tmany)), ((trc, rmany), mark)), (((pil, pmany), mks), ((cts, turns), stop)))) o47) (As := [.int o12.2]) (rest := []) hw (by rw [ho47]; exact c_X10_word l g a text size sv stb var tab szs prg o45.1 o45.2 has fpl pos fault plc tol tmany trc rmany mark pil pmany mks cts turns stop o12.2 hq48) ok_yX10_word ml_X10_128 (rm_ok (by omega) (by decide)) 0 rfl rfl rfl rfl hl.1 (Nat.le_of_ble_eq_true rfl) dX10_codeS_325 ⟨Nat.zero_le _, Nat.zero_le _⟩ (fun H locs hw => ?_)
              have hw : Wd g A s (w_Mdl a g (((((text, size), (sv, stb)), ((var, tab), szs)), (((prg, o47.1), o47.2), ((has, fpl), pos))), ((((fault, plc), (tol, tmany)), ((trc, rmany), mark)), (((pil, pmany), mks), ((cts, turns), stop))))) H locs := hw
              refine W.eq (g2 := F0 m 328 ls []) rfl ?_
              have hok := bdP_use ho47 hok
              refine lv_aload_n hx hb dX10_codeS_328 rfl (lv_at hl 5 rfl) ?_
              refine hI.get (v := .ref (a 8)) hw fg_X10_32 0 rfl rfl dX10_codeS_329 ?_
              refine lv_iload hx hb dX10_codeS_332 (lv_at hl 1 rfl) ?_
              refine lv_aload_n hx hb dX10_codeS_334 rfl (lv_at hl 5 rfl) ?_
              refine hI.get (v := .int o47.2) hw fg_X10_125 0 rfl rfl dX10_codeS_335 ?_
              have hq49 := hok.1
              have hok := hok.2
              refine hI.iast hw 8 rfl hq49 dX10_codeS_338 (fun H locs hw => ?_)
              have hw : Wd g A s (w_Mdl a g (((((text, size), (sv, stb)), ((var, tab), szs)), (((prg, upd o47.1 o25.2.toNatClampNeg o47.2), o47.2), ((has, fpl), pos))), ((((fault, plc), (tol, tmany)), ((trc, rmany), mark)), (((pil, pmany), mks), ((cts, turns), stop))))) H locs := hw
              refine lv_iload hx hb dX10_codeS_339 (lv_at hl 0 rfl) ?_
              refine lv_iconst (v := (1 : Int32)) hx hb dX10_codeS_341 (by decide) ?_
              refine lv_iadd hx hb dX10_codeS_342 ?_
              exact hI.retI (u := (((((text, size), (sv, stb)), ((var, tab), szs)), (((prg, upd o47.1 o25.2.toNatClampNeg o47.2), o47.2), ((has, fpl), pos))), ((((fault, plc), (tol, tmany)), ((trc, rmany), mark)), (((pil, pmany), mks), ((cts, turns), stop))))) hw (hr.trans (congrArg (rb_X10_codeS (((((text, size), (sv, stb)), ((var, tab), szs)), (((prg, cod), words), ((has, fpl), pos))), ((((fault, plc), (tol, tmany)), ((trc, rmany), mark)), (((pil, pmany), mks), ((cts, turns), stop))))) ((show f_X10_codeS cA sv stb prg cod words x1 x2 x3 = (o38.1 + (1 : Int32), (upd o47.1 o25.2.toNatClampNeg o47.2, o47.2)) from bd_of hv2 (bd_of hv4 (it_f c5 (it_f c6 (it_f c7 (it_f c8 (it_f c9 (bd_of ho10 (bd_of ho12 (bd_of ho14 (bd_of ho16 (bd_of ho18 (bd_of ho20 (bd_of ho22 (bd_of hv24 (bd_of ho25 (bd_of ho27 (it_t c29 (bd_of ho38 (bd_of ho41 (bd_of ho43 (bd_of ho45 (bd_of ho47 (rfl))))))))))))))))))))))))))) dX10_codeS_343
          · have hok := ok_t c9 hok
            refine lv_aload_n hx hb dX10_codeS_196 rfl (lv_at hl 3 rfl) ?_
            refine lv_iload_n hx hb dX10_codeS_197 rfl (lv_at hl 4 rfl) ?_
            refine lv_iconst (v := (1 : Int32)) hx hb dX10_codeS_198 (by decide) ?_
            refine lv_iadd hx hb dX10_codeS_199 ?_
            have hq51 := hok.1
            have hok := hok.2
            obtain ⟨o50, ho50⟩ : ∃ o, o = cdE 13 sv stb prg cod words (x1 + (1 : Int32)) := ⟨_, rfl⟩
            refine hI.callI0 (wl := w_Mdl a g) (a := (((((text, size), (sv, stb)), ((var, tab), szs)), (((prg, cod), words), ((has, fpl), pos))), ((((fault, plc), (tol, tmany)), ((trc, rmany), mark)), (((pil, pmany), mks), ((cts, turns), stop))))) (r := rb_X10_codeE (((((text, size), (sv, stb)), ((var, tab), szs)), (((prg, cod), words), ((has, fpl), pos))), ((((fault, plc), (tol, tmany)), ((trc, rmany), mark)), (((pil, pmany), mks), ((cts, turns), stop)))) o50) (As := [.int (x1 + (1 : Int32))]) (rest := []) hw (by rw [ho50]; exact k_cdE l g a 13 text size sv stb var tab szs prg cod words has fpl pos fault plc tol tmany trc rmany mark pil pmany mks cts turns stop (x1 + (1 : Int32)) hq51) ok_yX10_codeE ml_X10_131 (rm_ok (by omega) (by decide)) 0 rfl rfl rfl rfl hl.1 (Nat.le_of_ble_eq_true rfl) dX10_codeS_200 ⟨Nat.zero_le _, Nat.zero_le _⟩ (fun H locs hw => ?_)
            have hw : Wd g A s (w_Mdl a g (((((text, size), (sv, stb)), ((var, tab), szs)), (((prg, o50.2.1), o50.2.2), ((has, fpl), pos))), ((((fault, plc), (tol, tmany)), ((trc, rmany), mark)), (((pil, pmany), mks), ((cts, turns), stop))))) H locs := hw
            refine W.eq (g2 := F0 m 203 ls [.int o50.1]) rfl ?_
            have hok := bdP_use ho50 hok
            refine lv_istore (lv' := [(7, .int o50.1), (6, .int words), (5, .int v4), (4, .int v2), (0, .ref (a 0)), (1, .int x1), (2, .int x2), (3, .int x3)]) hx hb dX10_codeS_203 hl (by decide) rfl (fun ls hl => ?_)
            refine lv_goto (tgt := 258) hx hb dX10_codeS_205 (by decide) ?_
            refine lv_aload_n hx hb dX10_codeS_258 rfl (lv_at hl 4 rfl) ?_
            refine lv_bipush (v := (19 : Int32)) hx hb dX10_codeS_259 (by decide) ?_
            have hq53 := hok.1
            have hok := hok.2
            obtain ⟨o52, ho52⟩ : ∃ o, o = f_X10_word o50.2.1 o50.2.2 (19 : Int32) := ⟨_, rfl⟩
            refine hI.callV0 (wl := w_Mdl a g) (a := (((((text, size), (sv, stb)), ((var, tab), szs)), (((prg, o50.2.1), o50.2.2), ((has, fpl), pos))), ((((fault, plc), (tol, tmany)), ((trc, rmany), mark)), (((pil, pmany), mks), ((cts, turns), stop))))) (r := rb_X10_word (((((text, size), (sv, stb)), ((var, tab), szs)), (((prg, o50.2.1), o50.2.2), ((has, fpl), pos))), ((((fault, plc), (tol, tmany)), ((trc, rmany), mark)), (((pil, pmany), mks), ((cts, turns), stop)))) o52) (As := [.int (19 : Int32)]) (rest := []) hw (by rw [ho52]; exact c_X10_word l g a text size sv stb var tab szs prg o50.2.1 o50.2.2 has fpl pos fault plc tol tmany trc rmany mark pil pmany mks cts turns stop (19 : Int32) hq53) ok_yX10_word ml_X10_128 (rm_ok (by omega) (by decide)) 0 rfl rfl rfl rfl hl.1 (Nat.le_of_ble_eq_true rfl) dX10_codeS_261 ⟨Nat.zero_le _, Nat.zero_le _⟩ (fun H locs hw => ?_)
            have hw : Wd g A s (w_Mdl a g (((((text, size), (sv, stb)), ((var, tab), szs)), (((prg, o52.1), o52.2), ((has, fpl), pos))), ((((fault, plc), (tol, tmany)), ((trc, rmany), mark)), (((pil, pmany), mks), ((cts, turns), stop))))) H locs := hw
            refine W.eq (g2 := F0 m 264 ls []) rfl ?_
            have hok := bdP_use ho52 hok
            refine lv_aload_n hx hb dX10_codeS_264 rfl (lv_at hl 4 rfl) ?_
            refine hI.get (v := .int o52.2) hw fg_X10_125 0 rfl rfl dX10_codeS_265 ?_
            refine lv_istore (lv' := [(8, .int o52.2), (7, .int o50.1), (6, .int words), (5, .int v4), (4, .int v2), (0, .ref (a 0)), (1, .int x1), (2, .int x2), (3, .int x3)]) hx hb dX10_codeS_268 hl (by decide) rfl (fun ls hl => ?_)
            refine lv_aload_n hx hb dX10_codeS_270 rfl (lv_at hl 5 rfl) ?_
            refine lv_iconst (v := (0 : Int32)) hx hb dX10_codeS_271 (by decide) ?_
            have hq55 := hok.1
            have hok := hok.2
            obtain ⟨o54, ho54⟩ : ∃ o, o = f_X10_word o52.1 o52.2 (0 : Int32) := ⟨_, rfl⟩
            refine hI.callV0 (wl := w_Mdl a g) (a := (((((text, size), (sv, stb)), ((var, tab), szs)), (((prg, o52.1), o52.2), ((has, fpl), pos))), ((((fault, plc), (tol, tmany)), ((trc, rmany), mark)), (((pil, pmany), mks), ((cts, turns), stop))))) (r := rb_X10_word (((((text, size), (sv, stb)), ((var, tab), szs)), (((prg, o52.1), o52.2), ((has, fpl), pos))), ((((fault, plc), (tol, tmany)), ((trc, rmany), mark)), (((pil, pmany), mks), ((cts, turns), stop)))) o54) (As := [.int (0 : Int32)]) (rest := []) hw (by rw [ho54]; exact c_X10_word l g a text size sv stb var tab szs prg o52.1 o52.2 has fpl pos fault plc tol tmany trc rmany mark pil pmany mks cts turns stop (0 : Int32) hq55) ok_yX10_word ml_X10_128 (rm_ok (by omega) (by decide)) 0 rfl rfl rfl rfl hl.1 (Nat.le_of_ble_eq_true rfl) dX10_codeS_272 ⟨Nat.zero_le _, Nat.zero_le _⟩ (fun H locs hw => ?_)
            have hw : Wd g A s (w_Mdl a g (((((text, size), (sv, stb)), ((var, tab), szs)), (((prg, o54.1), o54.2), ((has, fpl), pos))), ((((fault, plc), (tol, tmany)), ((trc, rmany), mark)), (((pil, pmany), mks), ((cts, turns), stop))))) H locs := hw
            refine W.eq (g2 := F0 m 275 ls []) rfl ?_
            have hok := bdP_use ho54 hok
            refine lv_aload_n hx hb dX10_codeS_275 rfl (lv_at hl 5 rfl) ?_
            refine lv_iload hx hb dX10_codeS_276 (lv_at hl 1 rfl) ?_
            refine lv_iload_n hx hb dX10_codeS_278 rfl (lv_at hl 7 rfl) ?_
            refine lv_iload hx hb dX10_codeS_279 (lv_at hl 4 rfl) ?_
            refine lv_bipush (v := (6 : Int32)) hx hb dX10_codeS_281 (by decide) ?_
            refine lv_icmp_ne (tgt := 292) hx hb dX10_codeS_283 (by decide) (fun c56 => ?_) (fun c56 => ?_)
            rotate_left
            · exact absurd c56 (show ¬ (v2 = (6 : Int32)) by rw [c9]; decide)
            refine lv_iload_n hx hb dX10_codeS_292 rfl (lv_at hl 8 rfl) ?_
            have hq58 := hok.1
            have hok := hok.2
            obtain ⟨o57, ho57⟩ : ∃ o, o = cA sv stb prg o54.1 o54.2 o50.1 x2 x3 := ⟨_, rfl⟩
            refine hI.callI0 (wl := w_Mdl a g) (a := (((((text, size), (sv, stb)), ((var, tab), szs)), (((prg, o54.1), o54.2), ((has, fpl), pos))), ((((fault, plc), (tol, tmany)), ((trc, rmany), mark)), (((pil, pmany), mks), ((cts, turns), stop))))) (r := rb_X10_codeAll (((((text, size), (sv, stb)), ((var, tab), szs)), (((prg, o54.1), o54.2), ((has, fpl), pos))), ((((fault, plc), (tol, tmany)), ((trc, rmany), mark)), (((pil, pmany), mks), ((cts, turns), stop)))) o57) (As := [.int o50.1, .int x2, .int x3]) (rest := []) hw (by rw [ho57]; exact h_cA text size sv stb var tab szs prg o54.1 o54.2 has fpl pos fault plc tol tmany trc rmany mark pil pmany mks cts turns stop o50.1 x2 x3 hq58) ok_yX10_codeAll ml_X10_141 (rm_ok (by omega) (by decide)) 0 rfl rfl rfl rfl hl.1 (Nat.le_of_ble_eq_true rfl) dX10_codeS_293 ⟨Nat.zero_le _, Nat.zero_le _⟩ (fun H locs hw => ?_)
            have hw : Wd g A s (w_Mdl a g (((((text, size), (sv, stb)), ((var, tab), szs)), (((prg, o57.2.1), o57.2.2), ((has, fpl), pos))), ((((fault, plc), (tol, tmany)), ((trc, rmany), mark)), (((pil, pmany), mks), ((cts, turns), stop))))) H locs := hw
            refine W.eq (g2 := F0 m 296 ls [.int o57.1]) rfl ?_
            have hok := bdP_use ho57 hok
            refine lv_istore (lv' := [(7, .int o57.1), (8, .int o52.2), (6, .int words), (5, .int v4), (4, .int v2), (0, .ref (a 0)), (1, .int x1), (2, .int x2), (3, .int x3)]) hx hb dX10_codeS_296 hl (by decide) rfl (fun ls hl => ?_)
            refine lv_iload hx hb dX10_codeS_298 (lv_at hl 4 rfl) ?_
            refine lv_bipush (v := (6 : Int32)) hx hb dX10_codeS_300 (by decide) ?_
            refine lv_icmp_ne (tgt := 316) hx hb dX10_codeS_302 (by decide) (fun c59 => ?_) (fun c59 => ?_)
            rotate_left
            · exact absurd c59 (show ¬ (v2 = (6 : Int32)) by rw [c9]; decide)
            refine lv_aload_n hx hb dX10_codeS_316 rfl (lv_at hl 5 rfl) ?_
            refine lv_bipush (v := (18 : Int32)) hx hb dX10_codeS_317 (by decide) ?_
            have hq61 := hok.1
            have hok := hok.2
            obtain ⟨o60, ho60⟩ : ∃ o, o = f_X10_word o57.2.1 o57.2.2 (18 : Int32) := ⟨_, rfl⟩
            refine hI.callV0 (wl := w_Mdl a g) (a := (((((text, size), (sv, stb)), ((var, tab), szs)), (((prg, o57.2.1), o57.2.2), ((has, fpl), pos))), ((((fault, plc), (tol, tmany)), ((trc, rmany), mark)), (((pil, pmany), mks), ((cts, turns), stop))))) (r := rb_X10_word (((((text, size), (sv, stb)), ((var, tab), szs)), (((prg, o57.2.1), o57.2.2), ((has, fpl), pos))), ((((fault, plc), (tol, tmany)), ((trc, rmany), mark)), (((pil, pmany), mks), ((cts, turns), stop)))) o60) (As := [.int (18 : Int32)]) (rest := []) hw (by rw [ho60]; exact c_X10_word l g a text size sv stb var tab szs prg o57.2.1 o57.2.2 has fpl pos fault plc tol tmany trc rmany mark pil pmany mks cts turns stop (18 : Int32) hq61) ok_yX10_word ml_X10_128 (rm_ok (by omega) (by decide)) 0 rfl rfl rfl rfl hl.1 (Nat.le_of_ble_eq_true rfl) dX10_codeS_319 ⟨Nat.zero_le _, Nat.zero_le _⟩ (fun H locs hw => ?_)
            have hw : Wd g A s (w_Mdl a g (((((text, size), (sv, stb)), ((var, tab), szs)), (((prg, o60.1), o60.2), ((has, fpl), pos))), ((((fault, plc), (tol, tmany)), ((trc, rmany), mark)), (((pil, pmany), mks), ((cts, turns), stop))))) H locs := hw
            refine W.eq (g2 := F0 m 322 ls []) rfl ?_
            have hok := bdP_use ho60 hok
            refine lv_aload_n hx hb dX10_codeS_322 rfl (lv_at hl 5 rfl) ?_
            refine lv_iload hx hb dX10_codeS_323 (lv_at hl 2 rfl) ?_
            have hq63 := hok.1
            have hok := hok.2
            obtain ⟨o62, ho62⟩ : ∃ o, o = f_X10_word o60.1 o60.2 words := ⟨_, rfl⟩
            refine hI.callV0 (wl := w_Mdl a g) (a := (((((text, size), (sv, stb)), ((var, tab), szs)), (((prg, o60.1), o60.2), ((has, fpl), pos))), ((((fault, plc), (tol, tmany)), ((trc, rmany), mark)), (((pil, pmany), mks), ((cts, turns), stop))))) (r := rb_X10_word (((((text, size), (sv, stb)), ((var, tab), szs)), (((prg, o60.1), o60.2), ((has, fpl), pos))), ((((fault, plc), (tol, tmany)), ((trc, rmany), mark)), (((pil, pmany), mks), ((cts, turns), stop)))) o62) (As := [.int words]) (rest := []) hw (by rw [ho62]; exact c_X10_word l g a text size sv stb var tab szs prg o60.1 o60.2 has fpl pos fault plc tol tmany trc rmany mark pil pmany mks cts turns stop words hq63) ok_yX10_word ml_X10_128 (rm_ok (by omega) (by decide)) 0 rfl rfl rfl rfl hl.1 (Nat.le_of_ble_eq_true rfl) dX10_codeS_325 ⟨Nat.zero_le _, Nat.zero_le _⟩ (fun H locs hw => ?_)
            have hw : Wd g A s (w_Mdl a g (((((text, size), (sv, stb)), ((var, tab), szs)), (((prg, o62.1), o62.2), ((has, fpl), pos))), ((((fault, plc), (tol, tmany)), ((trc, rmany), mark)), (((pil, pmany), mks), ((cts, turns), stop))))) H locs := hw
            refine W.eq (g2 := F0 m 328 ls []) rfl ?_
            have hok := bdP_use ho62 hok
            refine lv_aload_n hx hb dX10_codeS_328 rfl (lv_at hl 5 rfl) ?_
            refine hI.get (v := .ref (a 8)) hw fg_X10_32 0 rfl rfl dX10_codeS_329 ?_
            refine lv_iload hx hb dX10_codeS_332 (lv_at hl 1 rfl) ?_
            refine lv_aload_n hx hb dX10_codeS_334 rfl (lv_at hl 5 rfl) ?_
            refine hI.get (v := .int o62.2) hw fg_X10_125 0 rfl rfl dX10_codeS_335 ?_
            have hq64 := hok.1
            have hok := hok.2
            refine hI.iast hw 8 rfl hq64 dX10_codeS_338 (fun H locs hw => ?_)
            have hw : Wd g A s (w_Mdl a g (((((text, size), (sv, stb)), ((var, tab), szs)), (((prg, upd o62.1 o52.2.toNatClampNeg o62.2), o62.2), ((has, fpl), pos))), ((((fault, plc), (tol, tmany)), ((trc, rmany), mark)), (((pil, pmany), mks), ((cts, turns), stop))))) H locs := hw
            refine lv_iload hx hb dX10_codeS_339 (lv_at hl 0 rfl) ?_
            refine lv_iconst (v := (1 : Int32)) hx hb dX10_codeS_341 (by decide) ?_
            refine lv_iadd hx hb dX10_codeS_342 ?_
            exact hI.retI (u := (((((text, size), (sv, stb)), ((var, tab), szs)), (((prg, upd o62.1 o52.2.toNatClampNeg o62.2), o62.2), ((has, fpl), pos))), ((((fault, plc), (tol, tmany)), ((trc, rmany), mark)), (((pil, pmany), mks), ((cts, turns), stop))))) hw (hr.trans (congrArg (rb_X10_codeS (((((text, size), (sv, stb)), ((var, tab), szs)), (((prg, cod), words), ((has, fpl), pos))), ((((fault, plc), (tol, tmany)), ((trc, rmany), mark)), (((pil, pmany), mks), ((cts, turns), stop))))) ((show f_X10_codeS cA sv stb prg cod words x1 x2 x3 = (o57.1 + (1 : Int32), (upd o62.1 o52.2.toNatClampNeg o62.2, o62.2)) from bd_of hv2 (bd_of hv4 (it_f c5 (it_f c6 (it_f c7 (it_f c8 (it_t c9 (bd_of ho50 (bd_of ho52 (bd_of ho54 (bd_of ho57 (bd_of ho60 (bd_of ho62 (rfl))))))))))))))))) dX10_codeS_343
        · have hok := ok_t c8 hok
          refine lv_aload_n hx hb dX10_codeS_176 rfl (lv_at hl 2 rfl) ?_
          refine lv_iload_n hx hb dX10_codeS_177 rfl (lv_at hl 3 rfl) ?_
          refine lv_iload_n hx hb dX10_codeS_178 rfl (lv_at hl 4 rfl) ?_
          refine lv_iload_n hx hb dX10_codeS_179 rfl (lv_at hl 5 rfl) ?_
          have hq66 := hok.1
          have hok := hok.2
          obtain ⟨o65, ho65⟩ : ∃ o, o = f_X10_codeIf cA sv stb prg cod words x1 x2 x3 := ⟨_, rfl⟩
          refine hI.callI0 (wl := w_Mdl a g) (a := (((((text, size), (sv, stb)), ((var, tab), szs)), (((prg, cod), words), ((has, fpl), pos))), ((((fault, plc), (tol, tmany)), ((trc, rmany), mark)), (((pil, pmany), mks), ((cts, turns), stop))))) (r := rb_X10_codeIf (((((text, size), (sv, stb)), ((var, tab), szs)), (((prg, cod), words), ((has, fpl), pos))), ((((fault, plc), (tol, tmany)), ((trc, rmany), mark)), (((pil, pmany), mks), ((cts, turns), stop)))) o65) (As := [.int x1, .int x2, .int x3]) (rest := []) hw (by rw [ho65]; exact c_X10_codeIf l g a text size sv stb var tab szs prg cod words has fpl pos fault plc tol tmany trc rmany mark pil pmany mks cts turns stop cA cAk x1 x2 x3 kL k_cA (by omega) h_cA hq66) ok_yX10_codeIf ml_X10_138 (rm_ok (by omega) (by decide)) 0 rfl rfl rfl rfl hl.1 (Nat.le_of_ble_eq_true rfl) dX10_codeS_180 ⟨Nat.zero_le _, Nat.zero_le _⟩ (fun H locs hw => ?_)
          have hw : Wd g A s (w_Mdl a g (((((text, size), (sv, stb)), ((var, tab), szs)), (((prg, o65.2.1), o65.2.2), ((has, fpl), pos))), ((((fault, plc), (tol, tmany)), ((trc, rmany), mark)), (((pil, pmany), mks), ((cts, turns), stop))))) H locs := hw
          refine W.eq (g2 := F0 m 183 ls [.int o65.1]) rfl ?_
          have hok := bdP_use ho65 hok
          exact hI.retI (u := (((((text, size), (sv, stb)), ((var, tab), szs)), (((prg, o65.2.1), o65.2.2), ((has, fpl), pos))), ((((fault, plc), (tol, tmany)), ((trc, rmany), mark)), (((pil, pmany), mks), ((cts, turns), stop))))) hw (hr.trans (congrArg (rb_X10_codeS (((((text, size), (sv, stb)), ((var, tab), szs)), (((prg, cod), words), ((has, fpl), pos))), ((((fault, plc), (tol, tmany)), ((trc, rmany), mark)), (((pil, pmany), mks), ((cts, turns), stop))))) ((show f_X10_codeS cA sv stb prg cod words x1 x2 x3 = (o65.1, (o65.2.1, o65.2.2)) from bd_of hv2 (bd_of hv4 (it_f c5 (it_f c6 (it_f c7 (it_t c8 (bd_of ho65 (rfl))))))))))) dX10_codeS_183
      · have hok := ok_t c7 hok
        refine lv_aload_n hx hb dX10_codeS_152 rfl (lv_at hl 2 rfl) ?_
        refine lv_iload_n hx hb dX10_codeS_153 rfl (lv_at hl 3 rfl) ?_
        refine lv_iconst (v := (1 : Int32)) hx hb dX10_codeS_154 (by decide) ?_
        refine lv_iadd hx hb dX10_codeS_155 ?_
        have hq68 := hok.1
        have hok := hok.2
        obtain ⟨o67, ho67⟩ : ∃ o, o = cdE 13 sv stb prg cod words (x1 + (1 : Int32)) := ⟨_, rfl⟩
        refine hI.callI0 (wl := w_Mdl a g) (a := (((((text, size), (sv, stb)), ((var, tab), szs)), (((prg, cod), words), ((has, fpl), pos))), ((((fault, plc), (tol, tmany)), ((trc, rmany), mark)), (((pil, pmany), mks), ((cts, turns), stop))))) (r := rb_X10_codeE (((((text, size), (sv, stb)), ((var, tab), szs)), (((prg, cod), words), ((has, fpl), pos))), ((((fault, plc), (tol, tmany)), ((trc, rmany), mark)), (((pil, pmany), mks), ((cts, turns), stop)))) o67) (As := [.int (x1 + (1 : Int32))]) (rest := []) hw (by rw [ho67]; exact k_cdE l g a 13 text size sv stb var tab szs prg cod words has fpl pos fault plc tol tmany trc rmany mark pil pmany mks cts turns stop (x1 + (1 : Int32)) hq68) ok_yX10_codeE ml_X10_131 (rm_ok (by omega) (by decide)) 0 rfl rfl rfl rfl hl.1 (Nat.le_of_ble_eq_true rfl) dX10_codeS_156 ⟨Nat.zero_le _, Nat.zero_le _⟩ (fun H locs hw => ?_)
        have hw : Wd g A s (w_Mdl a g (((((text, size), (sv, stb)), ((var, tab), szs)), (((prg, o67.2.1), o67.2.2), ((has, fpl), pos))), ((((fault, plc), (tol, tmany)), ((trc, rmany), mark)), (((pil, pmany), mks), ((cts, turns), stop))))) H locs := hw
        refine W.eq (g2 := F0 m 159 ls [.int o67.1]) rfl ?_
        have hok := bdP_use ho67 hok
        refine lv_istore (lv' := [(6, .int o67.1), (5, .int v4), (4, .int v2), (0, .ref (a 0)), (1, .int x1), (2, .int x2), (3, .int x3)]) hx hb dX10_codeS_159 hl (by decide) rfl (fun ls hl => ?_)
        refine lv_aload_n hx hb dX10_codeS_161 rfl (lv_at hl 3 rfl) ?_
        refine lv_bipush (v := (20 : Int32)) hx hb dX10_codeS_162 (by decide) ?_
        have hq70 := hok.1
        have hok := hok.2
        obtain ⟨o69, ho69⟩ : ∃ o, o = f_X10_word o67.2.1 o67.2.2 (20 : Int32) := ⟨_, rfl⟩
        refine hI.callV0 (wl := w_Mdl a g) (a := (((((text, size), (sv, stb)), ((var, tab), szs)), (((prg, o67.2.1), o67.2.2), ((has, fpl), pos))), ((((fault, plc), (tol, tmany)), ((trc, rmany), mark)), (((pil, pmany), mks), ((cts, turns), stop))))) (r := rb_X10_word (((((text, size), (sv, stb)), ((var, tab), szs)), (((prg, o67.2.1), o67.2.2), ((has, fpl), pos))), ((((fault, plc), (tol, tmany)), ((trc, rmany), mark)), (((pil, pmany), mks), ((cts, turns), stop)))) o69) (As := [.int (20 : Int32)]) (rest := []) hw (by rw [ho69]; exact c_X10_word l g a text size sv stb var tab szs prg o67.2.1 o67.2.2 has fpl pos fault plc tol tmany trc rmany mark pil pmany mks cts turns stop (20 : Int32) hq70) ok_yX10_word ml_X10_128 (rm_ok (by omega) (by decide)) 0 rfl rfl rfl rfl hl.1 (Nat.le_of_ble_eq_true rfl) dX10_codeS_164 ⟨Nat.zero_le _, Nat.zero_le _⟩ (fun H locs hw => ?_)
        have hw : Wd g A s (w_Mdl a g (((((text, size), (sv, stb)), ((var, tab), szs)), (((prg, o69.1), o69.2), ((has, fpl), pos))), ((((fault, plc), (tol, tmany)), ((trc, rmany), mark)), (((pil, pmany), mks), ((cts, turns), stop))))) H locs := hw
        refine W.eq (g2 := F0 m 167 ls []) rfl ?_
        have hok := bdP_use ho69 hok
        refine lv_iload hx hb dX10_codeS_167 (lv_at hl 0 rfl) ?_
        exact hI.retI (u := (((((text, size), (sv, stb)), ((var, tab), szs)), (((prg, o69.1), o69.2), ((has, fpl), pos))), ((((fault, plc), (tol, tmany)), ((trc, rmany), mark)), (((pil, pmany), mks), ((cts, turns), stop))))) hw (hr.trans (congrArg (rb_X10_codeS (((((text, size), (sv, stb)), ((var, tab), szs)), (((prg, cod), words), ((has, fpl), pos))), ((((fault, plc), (tol, tmany)), ((trc, rmany), mark)), (((pil, pmany), mks), ((cts, turns), stop))))) ((show f_X10_codeS cA sv stb prg cod words x1 x2 x3 = (o67.1, (o69.1, o69.2)) from bd_of hv2 (bd_of hv4 (it_f c5 (it_f c6 (it_t c7 (bd_of ho67 (bd_of ho69 (rfl))))))))))) dX10_codeS_169
    · have hok := ok_t c6 hok
      refine lv_aload_n hx hb dX10_codeS_71 rfl (lv_at hl 2 rfl) ?_
      refine lv_aload_n hx hb dX10_codeS_72 rfl (lv_at hl 2 rfl) ?_
      refine lv_iload_n hx hb dX10_codeS_73 rfl (lv_at hl 3 rfl) ?_
      refine lv_iconst (v := (2 : Int32)) hx hb dX10_codeS_74 (by decide) ?_
      refine lv_iadd hx hb dX10_codeS_75 ?_
      have hq72 := hok.1
      have hok := hok.2
      obtain ⟨o71, ho71⟩ : ∃ o, o = cdE 13 sv stb prg cod words (x1 + (2 : Int32)) := ⟨_, rfl⟩
      refine hI.callI0 (wl := w_Mdl a g) (a := (((((text, size), (sv, stb)), ((var, tab), szs)), (((prg, cod), words), ((has, fpl), pos))), ((((fault, plc), (tol, tmany)), ((trc, rmany), mark)), (((pil, pmany), mks), ((cts, turns), stop))))) (r := rb_X10_codeE (((((text, size), (sv, stb)), ((var, tab), szs)), (((prg, cod), words), ((has, fpl), pos))), ((((fault, plc), (tol, tmany)), ((trc, rmany), mark)), (((pil, pmany), mks), ((cts, turns), stop)))) o71) (As := [.int (x1 + (2 : Int32))]) (rest := [.ref (a 0)]) hw (by rw [ho71]; exact k_cdE l g a 13 text size sv stb var tab szs prg cod words has fpl pos fault plc tol tmany trc rmany mark pil pmany mks cts turns stop (x1 + (2 : Int32)) hq72) ok_yX10_codeE ml_X10_131 (rm_ok (by omega) (by decide)) 0 rfl rfl rfl rfl hl.1 (Nat.le_of_ble_eq_true rfl) dX10_codeS_76 ⟨Nat.zero_le _, Nat.zero_le _⟩ (fun H locs hw => ?_)
      have hw : Wd g A s (w_Mdl a g (((((text, size), (sv, stb)), ((var, tab), szs)), (((prg, o71.2.1), o71.2.2), ((has, fpl), pos))), ((((fault, plc), (tol, tmany)), ((trc, rmany), mark)), (((pil, pmany), mks), ((cts, turns), stop))))) H locs := hw
      refine W.eq (g2 := F0 m 79 ls [.int o71.1, .ref (a 0)]) rfl ?_
      have hok := bdP_use ho71 hok
      have hq74 := hok.1
      have hok := hok.2
      obtain ⟨o73, ho73⟩ : ∃ o, o = cdE 13 sv stb prg o71.2.1 o71.2.2 o71.1 := ⟨_, rfl⟩
      refine hI.callI0 (wl := w_Mdl a g) (a := (((((text, size), (sv, stb)), ((var, tab), szs)), (((prg, o71.2.1), o71.2.2), ((has, fpl), pos))), ((((fault, plc), (tol, tmany)), ((trc, rmany), mark)), (((pil, pmany), mks), ((cts, turns), stop))))) (r := rb_X10_codeE (((((text, size), (sv, stb)), ((var, tab), szs)), (((prg, o71.2.1), o71.2.2), ((has, fpl), pos))), ((((fault, plc), (tol, tmany)), ((trc, rmany), mark)), (((pil, pmany), mks), ((cts, turns), stop)))) o73) (As := [.int o71.1]) (rest := []) hw (by rw [ho73]; exact k_cdE l g a 13 text size sv stb var tab szs prg o71.2.1 o71.2.2 has fpl pos fault plc tol tmany trc rmany mark pil pmany mks cts turns stop o71.1 hq74) ok_yX10_codeE ml_X10_131 (rm_ok (by omega) (by decide)) 0 rfl rfl rfl rfl hl.1 (Nat.le_of_ble_eq_true rfl) dX10_codeS_79 ⟨Nat.zero_le _, Nat.zero_le _⟩ (fun H locs hw => ?_)
      have hw : Wd g A s (w_Mdl a g (((((text, size), (sv, stb)), ((var, tab), szs)), (((prg, o73.2.1), o73.2.2), ((has, fpl), pos))), ((((fault, plc), (tol, tmany)), ((trc, rmany), mark)), (((pil, pmany), mks), ((cts, turns), stop))))) H locs := hw
      refine W.eq (g2 := F0 m 82 ls [.int o73.1]) rfl ?_
      have hok := bdP_use ho73 hok
      refine lv_istore (lv' := [(6, .int o73.1), (5, .int v4), (4, .int v2), (0, .ref (a 0)), (1, .int x1), (2, .int x2), (3, .int x3)]) hx hb dX10_codeS_82 hl (by decide) rfl (fun ls hl => ?_)
      refine lv_aload_n hx hb dX10_codeS_84 rfl (lv_at hl 3 rfl) ?_
      refine lv_aload_n hx hb dX10_codeS_85 rfl (lv_at hl 3 rfl) ?_
      refine hI.get (v := .ref (a 7)) hw fg_X10_29 0 rfl rfl dX10_codeS_86 ?_
      refine lv_iload_n hx hb dX10_codeS_89 rfl (lv_at hl 4 rfl) ?_
      refine lv_iconst (v := (2 : Int32)) hx hb dX10_codeS_90 (by decide) ?_
      refine lv_iadd hx hb dX10_codeS_91 ?_
      have hq76 := hok.1
      have hok := hok.2
      obtain ⟨o75, ho75⟩ : ∃ o, o = f_X10_isSecret prg sv stb (x1 + (2 : Int32)) := ⟨_, rfl⟩
      refine hI.callI0 (wl := w_Mdl a g) (a := (((((text, size), (sv, stb)), ((var, tab), szs)), (((prg, o73.2.1), o73.2.2), ((has, fpl), pos))), ((((fault, plc), (tol, tmany)), ((trc, rmany), mark)), (((pil, pmany), mks), ((cts, turns), stop))))) (r := rb_X10_isSecretP (((((text, size), (sv, stb)), ((var, tab), szs)), (((prg, o73.2.1), o73.2.2), ((has, fpl), pos))), ((((fault, plc), (tol, tmany)), ((trc, rmany), mark)), (((pil, pmany), mks), ((cts, turns), stop)))) o75) (As := [.ref (a 7), .int (x1 + (2 : Int32))]) (rest := []) hw (by rw [ho75]; exact c_X10_isSecretP l g a text size sv stb var tab szs prg o73.2.1 o73.2.2 has fpl pos fault plc tol tmany trc rmany mark pil pmany mks cts turns stop (x1 + (2 : Int32)) hq76) ok_yX10_isSecret ml_X10_111 (rm_ok (by omega) (by decide)) 0 rfl rfl rfl rfl hl.1 (Nat.le_of_ble_eq_true rfl) dX10_codeS_92 ⟨Nat.zero_le _, Nat.zero_le _⟩ (fun H locs hw => ?_)
      have hw : Wd g A s (w_Mdl a g (((((text, size), (sv, stb)), ((var, tab), szs)), (((prg, o73.2.1), o73.2.2), ((has, fpl), pos))), ((((fault, plc), (tol, tmany)), ((trc, rmany), mark)), (((pil, pmany), mks), ((cts, turns), stop))))) H locs := hw
      refine W.eq (g2 := F0 m 95 ls [.int o75]) rfl ?_
      have hok := bdP_use ho75 hok
      refine lv_istore (lv' := [(7, .int o75), (6, .int o73.1), (5, .int v4), (4, .int v2), (0, .ref (a 0)), (1, .int x1), (2, .int x2), (3, .int x3)]) hx hb dX10_codeS_95 hl (by decide) rfl (fun ls hl => ?_)
      refine lv_aload_n hx hb dX10_codeS_97 rfl (lv_at hl 4 rfl) ?_
      refine lv_iload hx hb dX10_codeS_98 (lv_at hl 0 rfl) ?_
      refine lv_if_eq (tgt := 108) hx hb dX10_codeS_100 (by decide) (fun c77 => ?_) (fun c77 => ?_)
      · have hok := ok_t c77 hok
        refine lv_iload_n hx hb dX10_codeS_108 rfl (lv_at hl 6 rfl) ?_
        refine lv_if_le (tgt := 117) hx hb dX10_codeS_109 (by decide) (fun c78 => ?_) (fun c78 => ?_)
        · have hok := ok_t c78 hok
          refine lv_bipush (v := (22 : Int32)) hx hb dX10_codeS_117 (by decide) ?_
          have hq80 := hok.1
          have hok := hok.2
          obtain ⟨o79, ho79⟩ : ∃ o, o = f_X10_word o73.2.1 o73.2.2 (22 : Int32) := ⟨_, rfl⟩
          refine hI.callV0 (wl := w_Mdl a g) (a := (((((text, size), (sv, stb)), ((var, tab), szs)), (((prg, o73.2.1), o73.2.2), ((has, fpl), pos))), ((((fault, plc), (tol, tmany)), ((trc, rmany), mark)), (((pil, pmany), mks), ((cts, turns), stop))))) (r := rb_X10_word (((((text, size), (sv, stb)), ((var, tab), szs)), (((prg, o73.2.1), o73.2.2), ((has, fpl), pos))), ((((fault, plc), (tol, tmany)), ((trc, rmany), mark)), (((pil, pmany), mks), ((cts, turns), stop)))) o79) (As := [.int (22 : Int32)]) (rest := []) hw (by rw [ho79]; exact c_X10_word l g a text size sv stb var tab szs prg o73.2.1 o73.2.2 has fpl pos fault plc tol tmany trc rmany mark pil pmany mks cts turns stop (22 : Int32) hq80) ok_yX10_word ml_X10_128 (rm_ok (by omega) (by decide)) 0 rfl rfl rfl rfl hl.1 (Nat.le_of_ble_eq_true rfl) dX10_codeS_119 ⟨Nat.zero_le _, Nat.zero_le _⟩ (fun H locs hw => ?_)
          have hw : Wd g A s (w_Mdl a g (((((text, size), (sv, stb)), ((var, tab), szs)), (((prg, o79.1), o79.2), ((has, fpl), pos))), ((((fault, plc), (tol, tmany)), ((trc, rmany), mark)), (((pil, pmany), mks), ((cts, turns), stop))))) H locs := hw
          refine W.eq (g2 := F0 m 122 ls []) rfl ?_
          have hok := bdP_use ho79 hok
          refine lv_iload hx hb dX10_codeS_122 (lv_at hl 0 rfl) ?_
          refine lv_if_ne (tgt := 131) hx hb dX10_codeS_124 (by decide) (fun c81 => ?_) (fun c81 => ?_)
          · exact absurd c77 c81
          refine lv_iload_n hx hb dX10_codeS_127 rfl (lv_at hl 6 rfl) ?_
          refine lv_if_le (tgt := 136) hx hb dX10_codeS_128 (by decide) (fun c82 => ?_) (fun c82 => ?_)
          rotate_left
          · exact absurd c78 c82
          refine lv_aload_n hx hb dX10_codeS_136 rfl (lv_at hl 4 rfl) ?_
          refine lv_iload hx hb dX10_codeS_137 (lv_at hl 2 rfl) ?_
          have hq84 := hok.1
          have hok := hok.2
          obtain ⟨o83, ho83⟩ : ∃ o, o = f_X10_word o79.1 o79.2 v4 := ⟨_, rfl⟩
          refine hI.callV0 (wl := w_Mdl a g) (a := (((((text, size), (sv, stb)), ((var, tab), szs)), (((prg, o79.1), o79.2), ((has, fpl), pos))), ((((fault, plc), (tol, tmany)), ((trc, rmany), mark)), (((pil, pmany), mks), ((cts, turns), stop))))) (r := rb_X10_word (((((text, size), (sv, stb)), ((var, tab), szs)), (((prg, o79.1), o79.2), ((has, fpl), pos))), ((((fault, plc), (tol, tmany)), ((trc, rmany), mark)), (((pil, pmany), mks), ((cts, turns), stop)))) o83) (As := [.int v4]) (rest := []) hw (by rw [ho83]; exact c_X10_word l g a text size sv stb var tab szs prg o79.1 o79.2 has fpl pos fault plc tol tmany trc rmany mark pil pmany mks cts turns stop v4 hq84) ok_yX10_word ml_X10_128 (rm_ok (by omega) (by decide)) 0 rfl rfl rfl rfl hl.1 (Nat.le_of_ble_eq_true rfl) dX10_codeS_139 ⟨Nat.zero_le _, Nat.zero_le _⟩ (fun H locs hw => ?_)
          have hw : Wd g A s (w_Mdl a g (((((text, size), (sv, stb)), ((var, tab), szs)), (((prg, o83.1), o83.2), ((has, fpl), pos))), ((((fault, plc), (tol, tmany)), ((trc, rmany), mark)), (((pil, pmany), mks), ((cts, turns), stop))))) H locs := hw
          refine W.eq (g2 := F0 m 142 ls []) rfl ?_
          have hok := bdP_use ho83 hok
          refine lv_iload hx hb dX10_codeS_142 (lv_at hl 1 rfl) ?_
          exact hI.retI (u := (((((text, size), (sv, stb)), ((var, tab), szs)), (((prg, o83.1), o83.2), ((has, fpl), pos))), ((((fault, plc), (tol, tmany)), ((trc, rmany), mark)), (((pil, pmany), mks), ((cts, turns), stop))))) hw (hr.trans (congrArg (rb_X10_codeS (((((text, size), (sv, stb)), ((var, tab), szs)), (((prg, cod), words), ((has, fpl), pos))), ((((fault, plc), (tol, tmany)), ((trc, rmany), mark)), (((pil, pmany), mks), ((cts, turns), stop))))) ((show f_X10_codeS cA sv stb prg cod words x1 x2 x3 = (o73.1, (o83.1, o83.2)) from bd_of hv2 (bd_of hv4 (it_f c5 (it_t c6 (bd_of ho71 (bd_of ho73 (bd_of ho75 (it_t c77 (it_t c78 (bd_of ho79 (bd_of ho83 (rfl))))))))))))))) dX10_codeS_144
        · have hok := ok_f c78 hok
          refine lv_bipush (v := (26 : Int32)) hx hb dX10_codeS_112 (by decide) ?_
          refine lv_goto (tgt := 119) hx hb dX10_codeS_114 (by decide) ?_
          have hq86 := hok.1
          have hok := hok.2
          obtain ⟨o85, ho85⟩ : ∃ o, o = f_X10_word o73.2.1 o73.2.2 (26 : Int32) := ⟨_, rfl⟩
          refine hI.callV0 (wl := w_Mdl a g) (a := (((((text, size), (sv, stb)), ((var, tab), szs)), (((prg, o73.2.1), o73.2.2), ((has, fpl), pos))), ((((fault, plc), (tol, tmany)), ((trc, rmany), mark)), (((pil, pmany), mks), ((cts, turns), stop))))) (r := rb_X10_word (((((text, size), (sv, stb)), ((var, tab), szs)), (((prg, o73.2.1), o73.2.2), ((has, fpl), pos))), ((((fault, plc), (tol, tmany)), ((trc, rmany), mark)), (((pil, pmany), mks), ((cts, turns), stop)))) o85) (As := [.int (26 : Int32)]) (rest := []) hw (by rw [ho85]; exact c_X10_word l g a text size sv stb var tab szs prg o73.2.1 o73.2.2 has fpl pos fault plc tol tmany trc rmany mark pil pmany mks cts turns stop (26 : Int32) hq86) ok_yX10_word ml_X10_128 (rm_ok (by omega) (by decide)) 0 rfl rfl rfl rfl hl.1 (Nat.le_of_ble_eq_true rfl) dX10_codeS_119 ⟨Nat.zero_le _, Nat.zero_le _⟩ (fun H locs hw => ?_)
          have hw : Wd g A s (w_Mdl a g (((((text, size), (sv, stb)), ((var, tab), szs)), (((prg, o85.1), o85.2), ((has, fpl), pos))), ((((fault, plc), (tol, tmany)), ((trc, rmany), mark)), (((pil, pmany), mks), ((cts, turns), stop))))) H locs := hw
          refine W.eq (g2 := F0 m 122 ls []) rfl ?_
          have hok := bdP_use ho85 hok
          refine lv_iload hx hb dX10_codeS_122 (lv_at hl 0 rfl) ?_
          refine lv_if_ne (tgt := 131) hx hb dX10_codeS_124 (by decide) (fun c87 => ?_) (fun c87 => ?_)
          · exact absurd c77 c87
          refine lv_iload_n hx hb dX10_codeS_127 rfl (lv_at hl 6 rfl) ?_
          refine lv_if_le (tgt := 136) hx hb dX10_codeS_128 (by decide) (fun c88 => ?_) (fun c88 => ?_)
          · exact absurd c88 c78
          refine lv_aload_n hx hb dX10_codeS_131 rfl (lv_at hl 4 rfl) ?_
          refine lv_iload_n hx hb dX10_codeS_132 rfl (lv_at hl 6 rfl) ?_
          have hq90 := hok.1
          have hok := hok.2
          obtain ⟨o89, ho89⟩ : ∃ o, o = f_X10_word o85.1 o85.2 x2 := ⟨_, rfl⟩
          refine hI.callV0 (wl := w_Mdl a g) (a := (((((text, size), (sv, stb)), ((var, tab), szs)), (((prg, o85.1), o85.2), ((has, fpl), pos))), ((((fault, plc), (tol, tmany)), ((trc, rmany), mark)), (((pil, pmany), mks), ((cts, turns), stop))))) (r := rb_X10_word (((((text, size), (sv, stb)), ((var, tab), szs)), (((prg, o85.1), o85.2), ((has, fpl), pos))), ((((fault, plc), (tol, tmany)), ((trc, rmany), mark)), (((pil, pmany), mks), ((cts, turns), stop)))) o89) (As := [.int x2]) (rest := []) hw (by rw [ho89]; exact c_X10_word l g a text size sv stb var tab szs prg o85.1 o85.2 has fpl pos fault plc tol tmany trc rmany mark pil pmany mks cts turns stop x2 hq90) ok_yX10_word ml_X10_128 (rm_ok (by omega) (by decide)) 0 rfl rfl rfl rfl hl.1 (Nat.le_of_ble_eq_true rfl) dX10_codeS_133 ⟨Nat.zero_le _, Nat.zero_le _⟩ (fun H locs hw => ?_)
          have hw : Wd g A s (w_Mdl a g (((((text, size), (sv, stb)), ((var, tab), szs)), (((prg, o89.1), o89.2), ((has, fpl), pos))), ((((fault, plc), (tol, tmany)), ((trc, rmany), mark)), (((pil, pmany), mks), ((cts, turns), stop))))) H locs := hw
          refine W.eq (g2 := F0 m 136 ls []) rfl ?_
          have hok := bdP_use ho89 hok
          refine lv_aload_n hx hb dX10_codeS_136 rfl (lv_at hl 4 rfl) ?_
          refine lv_iload hx hb dX10_codeS_137 (lv_at hl 2 rfl) ?_
          have hq92 := hok.1
          have hok := hok.2
          obtain ⟨o91, ho91⟩ : ∃ o, o = f_X10_word o89.1 o89.2 v4 := ⟨_, rfl⟩
          refine hI.callV0 (wl := w_Mdl a g) (a := (((((text, size), (sv, stb)), ((var, tab), szs)), (((prg, o89.1), o89.2), ((has, fpl), pos))), ((((fault, plc), (tol, tmany)), ((trc, rmany), mark)), (((pil, pmany), mks), ((cts, turns), stop))))) (r := rb_X10_word (((((text, size), (sv, stb)), ((var, tab), szs)), (((prg, o89.1), o89.2), ((has, fpl), pos))), ((((fault, plc), (tol, tmany)), ((trc, rmany), mark)), (((pil, pmany), mks), ((cts, turns), stop)))) o91) (As := [.int v4]) (rest := []) hw (by rw [ho91]; exact c_X10_word l g a text size sv stb var tab szs prg o89.1 o89.2 has fpl pos fault plc tol tmany trc rmany mark pil pmany mks cts turns stop v4 hq92) ok_yX10_word ml_X10_128 (rm_ok (by omega) (by decide)) 0 rfl rfl rfl rfl hl.1 (Nat.le_of_ble_eq_true rfl) dX10_codeS_139 ⟨Nat.zero_le _, Nat.zero_le _⟩ (fun H locs hw => ?_)
          have hw : Wd g A s (w_Mdl a g (((((text, size), (sv, stb)), ((var, tab), szs)), (((prg, o91.1), o91.2), ((has, fpl), pos))), ((((fault, plc), (tol, tmany)), ((trc, rmany), mark)), (((pil, pmany), mks), ((cts, turns), stop))))) H locs := hw
          refine W.eq (g2 := F0 m 142 ls []) rfl ?_
          have hok := bdP_use ho91 hok
          refine lv_iload hx hb dX10_codeS_142 (lv_at hl 1 rfl) ?_
          exact hI.retI (u := (((((text, size), (sv, stb)), ((var, tab), szs)), (((prg, o91.1), o91.2), ((has, fpl), pos))), ((((fault, plc), (tol, tmany)), ((trc, rmany), mark)), (((pil, pmany), mks), ((cts, turns), stop))))) hw (hr.trans (congrArg (rb_X10_codeS (((((text, size), (sv, stb)), ((var, tab), szs)), (((prg, cod), words), ((has, fpl), pos))), ((((fault, plc), (tol, tmany)), ((trc, rmany), mark)), (((pil, pmany), mks), ((cts, turns), stop))))) ((show f_X10_codeS cA sv stb prg cod words x1 x2 x3 = (o73.1, (o91.1, o91.2)) from bd_of hv2 (bd_of hv4 (it_f c5 (it_t c6 (bd_of ho71 (bd_of ho73 (bd_of ho75 (it_t c77 (it_f c78 (bd_of ho85 (bd_of ho89 (bd_of ho91 (rfl)))))))))))))))) dX10_codeS_144
      · have hok := ok_f c77 hok
        refine lv_bipush (v := (28 : Int32)) hx hb dX10_codeS_103 (by decide) ?_
        refine lv_goto (tgt := 119) hx hb dX10_codeS_105 (by decide) ?_
        have hq94 := hok.1
        have hok := hok.2
        obtain ⟨o93, ho93⟩ : ∃ o, o = f_X10_word o73.2.1 o73.2.2 (28 : Int32) := ⟨_, rfl⟩
        refine hI.callV0 (wl := w_Mdl a g) (a := (((((text, size), (sv, stb)), ((var, tab), szs)), (((prg, o73.2.1), o73.2.2), ((has, fpl), pos))), ((((fault, plc), (tol, tmany)), ((trc, rmany), mark)), (((pil, pmany), mks), ((cts, turns), stop))))) (r := rb_X10_word (((((text, size), (sv, stb)), ((var, tab), szs)), (((prg, o73.2.1), o73.2.2), ((has, fpl), pos))), ((((fault, plc), (tol, tmany)), ((trc, rmany), mark)), (((pil, pmany), mks), ((cts, turns), stop)))) o93) (As := [.int (28 : Int32)]) (rest := []) hw (by rw [ho93]; exact c_X10_word l g a text size sv stb var tab szs prg o73.2.1 o73.2.2 has fpl pos fault plc tol tmany trc rmany mark pil pmany mks cts turns stop (28 : Int32) hq94) ok_yX10_word ml_X10_128 (rm_ok (by omega) (by decide)) 0 rfl rfl rfl rfl hl.1 (Nat.le_of_ble_eq_true rfl) dX10_codeS_119 ⟨Nat.zero_le _, Nat.zero_le _⟩ (fun H locs hw => ?_)
        have hw : Wd g A s (w_Mdl a g (((((text, size), (sv, stb)), ((var, tab), szs)), (((prg, o93.1), o93.2), ((has, fpl), pos))), ((((fault, plc), (tol, tmany)), ((trc, rmany), mark)), (((pil, pmany), mks), ((cts, turns), stop))))) H locs := hw
        refine W.eq (g2 := F0 m 122 ls []) rfl ?_
        have hok := bdP_use ho93 hok
        refine lv_iload hx hb dX10_codeS_122 (lv_at hl 0 rfl) ?_
        refine lv_if_ne (tgt := 131) hx hb dX10_codeS_124 (by decide) (fun c95 => ?_) (fun c95 => ?_)
        rotate_left
        · exact absurd c95 c77
        refine lv_aload_n hx hb dX10_codeS_131 rfl (lv_at hl 4 rfl) ?_
        refine lv_iload_n hx hb dX10_codeS_132 rfl (lv_at hl 6 rfl) ?_
        have hq97 := hok.1
        have hok := hok.2
        obtain ⟨o96, ho96⟩ : ∃ o, o = f_X10_word o93.1 o93.2 x2 := ⟨_, rfl⟩
        refine hI.callV0 (wl := w_Mdl a g) (a := (((((text, size), (sv, stb)), ((var, tab), szs)), (((prg, o93.1), o93.2), ((has, fpl), pos))), ((((fault, plc), (tol, tmany)), ((trc, rmany), mark)), (((pil, pmany), mks), ((cts, turns), stop))))) (r := rb_X10_word (((((text, size), (sv, stb)), ((var, tab), szs)), (((prg, o93.1), o93.2), ((has, fpl), pos))), ((((fault, plc), (tol, tmany)), ((trc, rmany), mark)), (((pil, pmany), mks), ((cts, turns), stop)))) o96) (As := [.int x2]) (rest := []) hw (by rw [ho96]; exact c_X10_word l g a text size sv stb var tab szs prg o93.1 o93.2 has fpl pos fault plc tol tmany trc rmany mark pil pmany mks cts turns stop x2 hq97) ok_yX10_word ml_X10_128 (rm_ok (by omega) (by decide)) 0 rfl rfl rfl rfl hl.1 (Nat.le_of_ble_eq_true rfl) dX10_codeS_133 ⟨Nat.zero_le _, Nat.zero_le _⟩ (fun H locs hw => ?_)
        have hw : Wd g A s (w_Mdl a g (((((text, size), (sv, stb)), ((var, tab), szs)), (((prg, o96.1), o96.2), ((has, fpl), pos))), ((((fault, plc), (tol, tmany)), ((trc, rmany), mark)), (((pil, pmany), mks), ((cts, turns), stop))))) H locs := hw
        refine W.eq (g2 := F0 m 136 ls []) rfl ?_
        have hok := bdP_use ho96 hok
        refine lv_aload_n hx hb dX10_codeS_136 rfl (lv_at hl 4 rfl) ?_
        refine lv_iload hx hb dX10_codeS_137 (lv_at hl 2 rfl) ?_
        have hq99 := hok.1
        have hok := hok.2
        obtain ⟨o98, ho98⟩ : ∃ o, o = f_X10_word o96.1 o96.2 v4 := ⟨_, rfl⟩
        refine hI.callV0 (wl := w_Mdl a g) (a := (((((text, size), (sv, stb)), ((var, tab), szs)), (((prg, o96.1), o96.2), ((has, fpl), pos))), ((((fault, plc), (tol, tmany)), ((trc, rmany), mark)), (((pil, pmany), mks), ((cts, turns), stop))))) (r := rb_X10_word (((((text, size), (sv, stb)), ((var, tab), szs)), (((prg, o96.1), o96.2), ((has, fpl), pos))), ((((fault, plc), (tol, tmany)), ((trc, rmany), mark)), (((pil, pmany), mks), ((cts, turns), stop)))) o98) (As := [.int v4]) (rest := []) hw (by rw [ho98]; exact c_X10_word l g a text size sv stb var tab szs prg o96.1 o96.2 has fpl pos fault plc tol tmany trc rmany mark pil pmany mks cts turns stop v4 hq99) ok_yX10_word ml_X10_128 (rm_ok (by omega) (by decide)) 0 rfl rfl rfl rfl hl.1 (Nat.le_of_ble_eq_true rfl) dX10_codeS_139 ⟨Nat.zero_le _, Nat.zero_le _⟩ (fun H locs hw => ?_)
        have hw : Wd g A s (w_Mdl a g (((((text, size), (sv, stb)), ((var, tab), szs)), (((prg, o98.1), o98.2), ((has, fpl), pos))), ((((fault, plc), (tol, tmany)), ((trc, rmany), mark)), (((pil, pmany), mks), ((cts, turns), stop))))) H locs := hw
        refine W.eq (g2 := F0 m 142 ls []) rfl ?_
        have hok := bdP_use ho98 hok
        refine lv_iload hx hb dX10_codeS_142 (lv_at hl 1 rfl) ?_
        exact hI.retI (u := (((((text, size), (sv, stb)), ((var, tab), szs)), (((prg, o98.1), o98.2), ((has, fpl), pos))), ((((fault, plc), (tol, tmany)), ((trc, rmany), mark)), (((pil, pmany), mks), ((cts, turns), stop))))) hw (hr.trans (congrArg (rb_X10_codeS (((((text, size), (sv, stb)), ((var, tab), szs)), (((prg, cod), words), ((has, fpl), pos))), ((((fault, plc), (tol, tmany)), ((trc, rmany), mark)), (((pil, pmany), mks), ((cts, turns), stop))))) ((show f_X10_codeS cA sv stb prg cod words x1 x2 x3 = (o73.1, (o98.1, o98.2)) from bd_of hv2 (bd_of hv4 (it_f c5 (it_t c6 (bd_of ho71 (bd_of ho73 (bd_of ho75 (it_f c77 (bd_of ho93 (bd_of ho96 (bd_of ho98 (rfl))))))))))))))) dX10_codeS_144
  · have hok := ok_t c5 hok
    refine lv_aload_n hx hb dX10_codeS_24 rfl (lv_at hl 2 rfl) ?_
    refine lv_iload_n hx hb dX10_codeS_25 rfl (lv_at hl 3 rfl) ?_
    refine lv_iconst (v := (2 : Int32)) hx hb dX10_codeS_26 (by decide) ?_
    refine lv_iadd hx hb dX10_codeS_27 ?_
    have hq101 := hok.1
    have hok := hok.2
    obtain ⟨o100, ho100⟩ : ∃ o, o = cdE 13 sv stb prg cod words (x1 + (2 : Int32)) := ⟨_, rfl⟩
    refine hI.callI0 (wl := w_Mdl a g) (a := (((((text, size), (sv, stb)), ((var, tab), szs)), (((prg, cod), words), ((has, fpl), pos))), ((((fault, plc), (tol, tmany)), ((trc, rmany), mark)), (((pil, pmany), mks), ((cts, turns), stop))))) (r := rb_X10_codeE (((((text, size), (sv, stb)), ((var, tab), szs)), (((prg, cod), words), ((has, fpl), pos))), ((((fault, plc), (tol, tmany)), ((trc, rmany), mark)), (((pil, pmany), mks), ((cts, turns), stop)))) o100) (As := [.int (x1 + (2 : Int32))]) (rest := []) hw (by rw [ho100]; exact k_cdE l g a 13 text size sv stb var tab szs prg cod words has fpl pos fault plc tol tmany trc rmany mark pil pmany mks cts turns stop (x1 + (2 : Int32)) hq101) ok_yX10_codeE ml_X10_131 (rm_ok (by omega) (by decide)) 0 rfl rfl rfl rfl hl.1 (Nat.le_of_ble_eq_true rfl) dX10_codeS_28 ⟨Nat.zero_le _, Nat.zero_le _⟩ (fun H locs hw => ?_)
    have hw : Wd g A s (w_Mdl a g (((((text, size), (sv, stb)), ((var, tab), szs)), (((prg, o100.2.1), o100.2.2), ((has, fpl), pos))), ((((fault, plc), (tol, tmany)), ((trc, rmany), mark)), (((pil, pmany), mks), ((cts, turns), stop))))) H locs := hw
    refine W.eq (g2 := F0 m 31 ls [.int o100.1]) rfl ?_
    have hok := bdP_use ho100 hok
    refine lv_istore (lv' := [(6, .int o100.1), (5, .int v4), (4, .int v2), (0, .ref (a 0)), (1, .int x1), (2, .int x2), (3, .int x3)]) hx hb dX10_codeS_31 hl (by decide) rfl (fun ls hl => ?_)
    refine lv_aload_n hx hb dX10_codeS_33 rfl (lv_at hl 3 rfl) ?_
    refine lv_iload_n hx hb dX10_codeS_34 rfl (lv_at hl 5 rfl) ?_
    refine lv_if_le (tgt := 43) hx hb dX10_codeS_35 (by decide) (fun c102 => ?_) (fun c102 => ?_)
    · have hok := ok_t c102 hok
      refine lv_iconst (v := (3 : Int32)) hx hb dX10_codeS_43 (by decide) ?_
      have hq104 := hok.1
      have hok := hok.2
      obtain ⟨o103, ho103⟩ : ∃ o, o = f_X10_word o100.2.1 o100.2.2 (3 : Int32) := ⟨_, rfl⟩
      refine hI.callV0 (wl := w_Mdl a g) (a := (((((text, size), (sv, stb)), ((var, tab), szs)), (((prg, o100.2.1), o100.2.2), ((has, fpl), pos))), ((((fault, plc), (tol, tmany)), ((trc, rmany), mark)), (((pil, pmany), mks), ((cts, turns), stop))))) (r := rb_X10_word (((((text, size), (sv, stb)), ((var, tab), szs)), (((prg, o100.2.1), o100.2.2), ((has, fpl), pos))), ((((fault, plc), (tol, tmany)), ((trc, rmany), mark)), (((pil, pmany), mks), ((cts, turns), stop)))) o103) (As := [.int (3 : Int32)]) (rest := []) hw (by rw [ho103]; exact c_X10_word l g a text size sv stb var tab szs prg o100.2.1 o100.2.2 has fpl pos fault plc tol tmany trc rmany mark pil pmany mks cts turns stop (3 : Int32) hq104) ok_yX10_word ml_X10_128 (rm_ok (by omega) (by decide)) 0 rfl rfl rfl rfl hl.1 (Nat.le_of_ble_eq_true rfl) dX10_codeS_44 ⟨Nat.zero_le _, Nat.zero_le _⟩ (fun H locs hw => ?_)
      have hw : Wd g A s (w_Mdl a g (((((text, size), (sv, stb)), ((var, tab), szs)), (((prg, o103.1), o103.2), ((has, fpl), pos))), ((((fault, plc), (tol, tmany)), ((trc, rmany), mark)), (((pil, pmany), mks), ((cts, turns), stop))))) H locs := hw
      refine W.eq (g2 := F0 m 47 ls []) rfl ?_
      have hok := bdP_use ho103 hok
      refine lv_iload_n hx hb dX10_codeS_47 rfl (lv_at hl 5 rfl) ?_
      refine lv_if_le (tgt := 56) hx hb dX10_codeS_48 (by decide) (fun c105 => ?_) (fun c105 => ?_)
      rotate_left
      · exact absurd c102 c105
      refine lv_aload_n hx hb dX10_codeS_56 rfl (lv_at hl 3 rfl) ?_
      refine lv_iload hx hb dX10_codeS_57 (lv_at hl 1 rfl) ?_
      have hq107 := hok.1
      have hok := hok.2
      obtain ⟨o106, ho106⟩ : ∃ o, o = f_X10_word o103.1 o103.2 v4 := ⟨_, rfl⟩
      refine hI.callV0 (wl := w_Mdl a g) (a := (((((text, size), (sv, stb)), ((var, tab), szs)), (((prg, o103.1), o103.2), ((has, fpl), pos))), ((((fault, plc), (tol, tmany)), ((trc, rmany), mark)), (((pil, pmany), mks), ((cts, turns), stop))))) (r := rb_X10_word (((((text, size), (sv, stb)), ((var, tab), szs)), (((prg, o103.1), o103.2), ((has, fpl), pos))), ((((fault, plc), (tol, tmany)), ((trc, rmany), mark)), (((pil, pmany), mks), ((cts, turns), stop)))) o106) (As := [.int v4]) (rest := []) hw (by rw [ho106]; exact c_X10_word l g a text size sv stb var tab szs prg o103.1 o103.2 has fpl pos fault plc tol tmany trc rmany mark pil pmany mks cts turns stop v4 hq107) ok_yX10_word ml_X10_128 (rm_ok (by omega) (by decide)) 0 rfl rfl rfl rfl hl.1 (Nat.le_of_ble_eq_true rfl) dX10_codeS_59 ⟨Nat.zero_le _, Nat.zero_le _⟩ (fun H locs hw => ?_)
      have hw : Wd g A s (w_Mdl a g (((((text, size), (sv, stb)), ((var, tab), szs)), (((prg, o106.1), o106.2), ((has, fpl), pos))), ((((fault, plc), (tol, tmany)), ((trc, rmany), mark)), (((pil, pmany), mks), ((cts, turns), stop))))) H locs := hw
      refine W.eq (g2 := F0 m 62 ls []) rfl ?_
      have hok := bdP_use ho106 hok
      refine lv_iload hx hb dX10_codeS_62 (lv_at hl 0 rfl) ?_
      exact hI.retI (u := (((((text, size), (sv, stb)), ((var, tab), szs)), (((prg, o106.1), o106.2), ((has, fpl), pos))), ((((fault, plc), (tol, tmany)), ((trc, rmany), mark)), (((pil, pmany), mks), ((cts, turns), stop))))) hw (hr.trans (congrArg (rb_X10_codeS (((((text, size), (sv, stb)), ((var, tab), szs)), (((prg, cod), words), ((has, fpl), pos))), ((((fault, plc), (tol, tmany)), ((trc, rmany), mark)), (((pil, pmany), mks), ((cts, turns), stop))))) ((show f_X10_codeS cA sv stb prg cod words x1 x2 x3 = (o100.1, (o106.1, o106.2)) from bd_of hv2 (bd_of hv4 (it_t c5 (bd_of ho100 (it_t c102 (bd_of ho103 (bd_of ho106 (rfl))))))))))) dX10_codeS_64
    · have hok := ok_f c102 hok
      refine lv_bipush (v := (25 : Int32)) hx hb dX10_codeS_38 (by decide) ?_
      refine lv_goto (tgt := 44) hx hb dX10_codeS_40 (by decide) ?_
      have hq109 := hok.1
      have hok := hok.2
      obtain ⟨o108, ho108⟩ : ∃ o, o = f_X10_word o100.2.1 o100.2.2 (25 : Int32) := ⟨_, rfl⟩
      refine hI.callV0 (wl := w_Mdl a g) (a := (((((text, size), (sv, stb)), ((var, tab), szs)), (((prg, o100.2.1), o100.2.2), ((has, fpl), pos))), ((((fault, plc), (tol, tmany)), ((trc, rmany), mark)), (((pil, pmany), mks), ((cts, turns), stop))))) (r := rb_X10_word (((((text, size), (sv, stb)), ((var, tab), szs)), (((prg, o100.2.1), o100.2.2), ((has, fpl), pos))), ((((fault, plc), (tol, tmany)), ((trc, rmany), mark)), (((pil, pmany), mks), ((cts, turns), stop)))) o108) (As := [.int (25 : Int32)]) (rest := []) hw (by rw [ho108]; exact c_X10_word l g a text size sv stb var tab szs prg o100.2.1 o100.2.2 has fpl pos fault plc tol tmany trc rmany mark pil pmany mks cts turns stop (25 : Int32) hq109) ok_yX10_word ml_X10_128 (rm_ok (by omega) (by decide)) 0 rfl rfl rfl rfl hl.1 (Nat.le_of_ble_eq_true rfl) dX10_codeS_44 ⟨Nat.zero_le _, Nat.zero_le _⟩ (fun H locs hw => ?_)
      have hw : Wd g A s (w_Mdl a g (((((text, size), (sv, stb)), ((var, tab), szs)), (((prg, o108.1), o108.2), ((has, fpl), pos))), ((((fault, plc), (tol, tmany)), ((trc, rmany), mark)), (((pil, pmany), mks), ((cts, turns), stop))))) H locs := hw
      refine W.eq (g2 := F0 m 47 ls []) rfl ?_
      have hok := bdP_use ho108 hok
      refine lv_iload_n hx hb dX10_codeS_47 rfl (lv_at hl 5 rfl) ?_
      refine lv_if_le (tgt := 56) hx hb dX10_codeS_48 (by decide) (fun c110 => ?_) (fun c110 => ?_)
      · exact absurd c110 c102
      refine lv_aload_n hx hb dX10_codeS_51 rfl (lv_at hl 3 rfl) ?_
      refine lv_iload_n hx hb dX10_codeS_52 rfl (lv_at hl 5 rfl) ?_
      have hq112 := hok.1
      have hok := hok.2
      obtain ⟨o111, ho111⟩ : ∃ o, o = f_X10_word o108.1 o108.2 x2 := ⟨_, rfl⟩
      refine hI.callV0 (wl := w_Mdl a g) (a := (((((text, size), (sv, stb)), ((var, tab), szs)), (((prg, o108.1), o108.2), ((has, fpl), pos))), ((((fault, plc), (tol, tmany)), ((trc, rmany), mark)), (((pil, pmany), mks), ((cts, turns), stop))))) (r := rb_X10_word (((((text, size), (sv, stb)), ((var, tab), szs)), (((prg, o108.1), o108.2), ((has, fpl), pos))), ((((fault, plc), (tol, tmany)), ((trc, rmany), mark)), (((pil, pmany), mks), ((cts, turns), stop)))) o111) (As := [.int x2]) (rest := []) hw (by rw [ho111]; exact c_X10_word l g a text size sv stb var tab szs prg o108.1 o108.2 has fpl pos fault plc tol tmany trc rmany mark pil pmany mks cts turns stop x2 hq112) ok_yX10_word ml_X10_128 (rm_ok (by omega) (by decide)) 0 rfl rfl rfl rfl hl.1 (Nat.le_of_ble_eq_true rfl) dX10_codeS_53 ⟨Nat.zero_le _, Nat.zero_le _⟩ (fun H locs hw => ?_)
      have hw : Wd g A s (w_Mdl a g (((((text, size), (sv, stb)), ((var, tab), szs)), (((prg, o111.1), o111.2), ((has, fpl), pos))), ((((fault, plc), (tol, tmany)), ((trc, rmany), mark)), (((pil, pmany), mks), ((cts, turns), stop))))) H locs := hw
      refine W.eq (g2 := F0 m 56 ls []) rfl ?_
      have hok := bdP_use ho111 hok
      refine lv_aload_n hx hb dX10_codeS_56 rfl (lv_at hl 3 rfl) ?_
      refine lv_iload hx hb dX10_codeS_57 (lv_at hl 1 rfl) ?_
      have hq114 := hok.1
      have hok := hok.2
      obtain ⟨o113, ho113⟩ : ∃ o, o = f_X10_word o111.1 o111.2 v4 := ⟨_, rfl⟩
      refine hI.callV0 (wl := w_Mdl a g) (a := (((((text, size), (sv, stb)), ((var, tab), szs)), (((prg, o111.1), o111.2), ((has, fpl), pos))), ((((fault, plc), (tol, tmany)), ((trc, rmany), mark)), (((pil, pmany), mks), ((cts, turns), stop))))) (r := rb_X10_word (((((text, size), (sv, stb)), ((var, tab), szs)), (((prg, o111.1), o111.2), ((has, fpl), pos))), ((((fault, plc), (tol, tmany)), ((trc, rmany), mark)), (((pil, pmany), mks), ((cts, turns), stop)))) o113) (As := [.int v4]) (rest := []) hw (by rw [ho113]; exact c_X10_word l g a text size sv stb var tab szs prg o111.1 o111.2 has fpl pos fault plc tol tmany trc rmany mark pil pmany mks cts turns stop v4 hq114) ok_yX10_word ml_X10_128 (rm_ok (by omega) (by decide)) 0 rfl rfl rfl rfl hl.1 (Nat.le_of_ble_eq_true rfl) dX10_codeS_59 ⟨Nat.zero_le _, Nat.zero_le _⟩ (fun H locs hw => ?_)
      have hw : Wd g A s (w_Mdl a g (((((text, size), (sv, stb)), ((var, tab), szs)), (((prg, o113.1), o113.2), ((has, fpl), pos))), ((((fault, plc), (tol, tmany)), ((trc, rmany), mark)), (((pil, pmany), mks), ((cts, turns), stop))))) H locs := hw
      refine W.eq (g2 := F0 m 62 ls []) rfl ?_
      have hok := bdP_use ho113 hok
      refine lv_iload hx hb dX10_codeS_62 (lv_at hl 0 rfl) ?_
      exact hI.retI (u := (((((text, size), (sv, stb)), ((var, tab), szs)), (((prg, o113.1), o113.2), ((has, fpl), pos))), ((((fault, plc), (tol, tmany)), ((trc, rmany), mark)), (((pil, pmany), mks), ((cts, turns), stop))))) hw (hr.trans (congrArg (rb_X10_codeS (((((text, size), (sv, stb)), ((var, tab), szs)), (((prg, cod), words), ((has, fpl), pos))), ((((fault, plc), (tol, tmany)), ((trc, rmany), mark)), (((pil, pmany), mks), ((cts, turns), stop))))) ((show f_X10_codeS cA sv stb prg cod words x1 x2 x3 = (o100.1, (o113.1, o113.2)) from bd_of hv2 (bd_of hv4 (it_t c5 (bd_of ho100 (it_f c102 (bd_of ho108 (bd_of ho111 (bd_of ho113 (rfl)))))))))))) dX10_codeS_64
def ok_X10_codeAll_3 (cS : (Nat → Int32) → (Nat → Int32) → (Nat → Int32) → (Nat → Int32) → Int32 → Int32 → Int32 → Int32 → (Int32 × ((Nat → Int32) × Int32))) (cSk : (Nat → Int32) → (Nat → Int32) → (Nat → Int32) → (Nat → Int32) → Int32 → Int32 → Int32 → Int32 → Prop) (sv : Nat → Int32) (stb : Nat → Int32) (prg : Nat → Int32) : Nat → (Nat → Int32) → Int32 → Int32 → Int32 → Int32 → Prop
  | 0, _, _, _, _, _ => False
  | k + 1, cod, words, y2, y3, y4 => vp_in y4 400 ∧ (if (prg y4.toNatClampNeg) = 0 then True else vp_in y4 400 ∧ (if (prg y4.toNatClampNeg) = (4 : Int32) then True else cSk sv stb prg cod words y4 y2 y3 ∧ (bdP (cS sv stb prg cod words y4 y2 y3) (fun o5 => ok_X10_codeAll_3 cS cSk sv stb prg k o5.2.1 o5.2.2 y2 y3 o5.1))))
def f_X10_codeAll_3 (cS : (Nat → Int32) → (Nat → Int32) → (Nat → Int32) → (Nat → Int32) → Int32 → Int32 → Int32 → Int32 → (Int32 × ((Nat → Int32) × Int32))) (sv : Nat → Int32) (stb : Nat → Int32) (prg : Nat → Int32) : Nat → (Nat → Int32) → Int32 → Int32 → Int32 → Int32 → (Int32 × ((Nat → Int32) × Int32))
  | 0, cod, words, y2, y3, y4 => (0, (cod, words))
  | k + 1, cod, words, y2, y3, y4 => if (prg y4.toNatClampNeg) = 0 then (y4, (cod, words)) else if (prg y4.toNatClampNeg) = (4 : Int32) then (y4, (cod, words)) else bd (cS sv stb prg cod words y4 y2 y3) (fun o5 => f_X10_codeAll_3 cS sv stb prg k o5.2.1 o5.2.2 y2 y3 o5.1)
def f_X10_codeAll (cS : (Nat → Int32) → (Nat → Int32) → (Nat → Int32) → (Nat → Int32) → Int32 → Int32 → Int32 → Int32 → (Int32 × ((Nat → Int32) × Int32))) (sv : Nat → Int32) (stb : Nat → Int32) (prg : Nat → Int32) (cod : Nat → Int32) (words : Int32) (x1 : Int32) (x2 : Int32) (x3 : Int32) : Int32 × ((Nat → Int32) × Int32) := f_X10_codeAll_3 cS sv stb prg 402 cod words x2 x3 x1
def ok_X10_codeAll (cS : (Nat → Int32) → (Nat → Int32) → (Nat → Int32) → (Nat → Int32) → Int32 → Int32 → Int32 → Int32 → (Int32 × ((Nat → Int32) × Int32))) (cSk : (Nat → Int32) → (Nat → Int32) → (Nat → Int32) → (Nat → Int32) → Int32 → Int32 → Int32 → Int32 → Prop) (sv : Nat → Int32) (stb : Nat → Int32) (prg : Nat → Int32) (cod : Nat → Int32) (words : Int32) (x1 : Int32) (x2 : Int32) (x3 : Int32) : Prop := ok_X10_codeAll_3 cS cSk sv stb prg 402 cod words x2 x3 x1
set_option maxHeartbeats 4000000 in
set_option maxRecDepth 100000 in
theorem lp_X10_codeAll_3 (l : Launch) (g : GG) (a : Nat → Nat) (text : Nat → Int32) (size : Int32) (sv : Nat → Int32) (stb : Nat → Int32) (var : Nat → Int32) (tab : Nat → Int32) (szs : Nat → Int32) (prg : Nat → Int32) (cod₀ : Nat → Int32) (words₀ : Int32) (has : Int32) (fpl : Int32) (pos : Int32) (fault : Int32) (plc : Int32) (tol : Nat → Int32) (tmany : Int32) (trc : Nat → Int32) (rmany : Int32) (mark : Int64) (pil : Nat → Int32) (pmany : Int32) (mks : Nat → Int32) (cts : Nat → Int32) (turns : Int32) (stop : Int32) (cS : (Nat → Int32) → (Nat → Int32) → (Nat → Int32) → (Nat → Int32) → Int32 → Int32 → Int32 → Int32 → (Int32 × ((Nat → Int32) × Int32))) (cSk : (Nat → Int32) → (Nat → Int32) → (Nat → Int32) → (Nat → Int32) → Int32 → Int32 → Int32 → Int32 → Prop) (kM : Nat) (k_cS : Nat) (hk : k_cS + 1 ≤ kM ∧ 30 ≤ kM) (h_cS : ∀ (text : Nat → Int32) (size : Int32) (sv : Nat → Int32) (stb : Nat → Int32) (var : Nat → Int32) (tab : Nat → Int32) (szs : Nat → Int32) (prg : Nat → Int32) (cod : Nat → Int32) (words : Int32) (has : Int32) (fpl : Int32) (pos : Int32) (fault : Int32) (plc : Int32) (tol : Nat → Int32) (tmany : Int32) (trc : Nat → Int32) (rmany : Int32) (mark : Int64) (pil : Nat → Int32) (pmany : Int32) (mks : Nat → Int32) (cts : Nat → Int32) (turns : Int32) (stop : Int32) (y1 y2 y3 : Int32), cSk sv stb prg cod words y1 y2 y3 → CI l g yX10_codeS cX10_codeS 9 (some .int) (rmN k_cS) (w_Mdl a g) [.ref (a 0), .int y1, .int y2, .int y3] (((((text, size), (sv, stb)), ((var, tab), szs)), (((prg, cod), words), ((has, fpl), pos))), ((((fault, plc), (tol, tmany)), ((trc, rmany), mark)), (((pil, pmany), mks), ((cts, turns), stop)))) (rb_X10_codeS (((((text, size), (sv, stb)), ((var, tab), szs)), (((prg, cod), words), ((has, fpl), pos))), ((((fault, plc), (tol, tmany)), ((trc, rmany), mark)), (((pil, pmany), mks), ((cts, turns), stop)))) (cS sv stb prg cod words y1 y2 y3)))  {p : Program} {e : Env} {s : State} {m : MethodId} {args : Array Value} {below : List Frame} {meth : Method} {c : Code} {A : Nat → Prop} (hI : InM p s m args meth c RX10 cX10_codeAll 5 (some .int) g A) : ∀ (k : Nat) (cod : Nat → Int32) (words : Int32) (y2 : Int32) (y3 : Int32) (y4 : Int32), (ok_X10_codeAll_3 cS cSk sv stb prg k cod words y2 y3 y4) → ∀ (r : Int32 × S_Mdl), r = rb_X10_codeAll (((((text, size), (sv, stb)), ((var, tab), szs)), (((prg, cod₀), words₀), ((has, fpl), pos))), ((((fault, plc), (tol, tmany)), ((trc, rmany), mark)), (((pil, pmany), mks), ((cts, turns), stop)))) (f_X10_codeAll_3 cS sv stb prg k cod words y2 y3 y4) → ∀ (H : Heap) (locs : List Loc), Wd g A s (w_Mdl a g (((((text, size), (sv, stb)), ((var, tab), szs)), (((prg, cod), words), ((has, fpl), pos))), ((((fault, plc), (tol, tmany)), ((trc, rmany), mark)), (((pil, pmany), mks), ((cts, turns), stop))))) H locs → ∀ (ls : Array Slot), lv_has ls 5 [(0, .ref (a 0)), (2, .int y2), (3, .int y3), (4, .int y4)] → W p l e (rmN kM) s m args below meth c H locs 0 0 (QI g (w_Mdl a g) A r below args s) (F0 m 3 ls []) := by
  have hx := hI.1
  have hb := hI.2.1
  intro k
  induction k with
  | zero =>
    intro cod words y2 y3 y4 hok
    exact hok.elim
  | succ k ih =>
    intro cod words y2 y3 y4 hok r hr H locs hw ls hl
    refine lv_aload_n hx hb dX10_codeAll_3 rfl (lv_at hl 0 rfl) ?_
    refine hI.get (v := .ref (a 7)) hw fg_X10_29 0 rfl rfl dX10_codeAll_4 ?_
    refine lv_iload hx hb dX10_codeAll_7 (lv_at hl 3 rfl) ?_
    have hq1 := hok.1
    have hok := hok.2
    refine hI.iald hw 7 rfl hq1 dX10_codeAll_9 ?_
    refine lv_if_eq (tgt := 37) hx hb dX10_codeAll_10 (by decide) (fun c2 => ?_) (fun c2 => ?_)
    · have hok := ok_t c2 hok
      refine lv_iload hx hb dX10_codeAll_37 (lv_at hl 3 rfl) ?_
      exact hI.retI (u := (((((text, size), (sv, stb)), ((var, tab), szs)), (((prg, cod), words), ((has, fpl), pos))), ((((fault, plc), (tol, tmany)), ((trc, rmany), mark)), (((pil, pmany), mks), ((cts, turns), stop))))) hw (hr.trans (congrArg (rb_X10_codeAll (((((text, size), (sv, stb)), ((var, tab), szs)), (((prg, cod₀), words₀), ((has, fpl), pos))), ((((fault, plc), (tol, tmany)), ((trc, rmany), mark)), (((pil, pmany), mks), ((cts, turns), stop))))) ((show f_X10_codeAll_3 cS sv stb prg (k + 1) cod words y2 y3 y4 = (y4, (cod, words)) from it_t c2 (rfl))))) dX10_codeAll_39
    · have hok := ok_f c2 hok
      refine lv_aload_n hx hb dX10_codeAll_13 rfl (lv_at hl 0 rfl) ?_
      refine hI.get (v := .ref (a 7)) hw fg_X10_29 0 rfl rfl dX10_codeAll_14 ?_
      refine lv_iload hx hb dX10_codeAll_17 (lv_at hl 3 rfl) ?_
      have hq3 := hok.1
      have hok := hok.2
      refine hI.iald hw 7 rfl hq3 dX10_codeAll_19 ?_
      refine lv_iconst (v := (4 : Int32)) hx hb dX10_codeAll_20 (by decide) ?_
      refine lv_icmp_eq (tgt := 37) hx hb dX10_codeAll_21 (by decide) (fun c4 => ?_) (fun c4 => ?_)
      · have hok := ok_t c4 hok
        refine lv_iload hx hb dX10_codeAll_37 (lv_at hl 3 rfl) ?_
        exact hI.retI (u := (((((text, size), (sv, stb)), ((var, tab), szs)), (((prg, cod), words), ((has, fpl), pos))), ((((fault, plc), (tol, tmany)), ((trc, rmany), mark)), (((pil, pmany), mks), ((cts, turns), stop))))) hw (hr.trans (congrArg (rb_X10_codeAll (((((text, size), (sv, stb)), ((var, tab), szs)), (((prg, cod₀), words₀), ((has, fpl), pos))), ((((fault, plc), (tol, tmany)), ((trc, rmany), mark)), (((pil, pmany), mks), ((cts, turns), stop))))) ((show f_X10_codeAll_3 cS sv stb prg (k + 1) cod words y2 y3 y4 = (y4, (cod, words)) from it_f c2 (it_t c4 (rfl)))))) dX10_codeAll_39
      · have hok := ok_f c4 hok
        refine lv_aload_n hx hb dX10_codeAll_24 rfl (lv_at hl 0 rfl) ?_
        refine lv_iload hx hb dX10_codeAll_25 (lv_at hl 3 rfl) ?_
        refine lv_iload_n hx hb dX10_codeAll_27 rfl (lv_at hl 1 rfl) ?_
        refine lv_iload_n hx hb dX10_codeAll_28 rfl (lv_at hl 2 rfl) ?_
        have hq6 := hok.1
        have hok := hok.2
        obtain ⟨o5, ho5⟩ : ∃ o, o = cS sv stb prg cod words y4 y2 y3 := ⟨_, rfl⟩
        refine hI.callI0 (wl := w_Mdl a g) (a := (((((text, size), (sv, stb)), ((var, tab), szs)), (((prg, cod), words), ((has, fpl), pos))), ((((fault, plc), (tol, tmany)), ((trc, rmany), mark)), (((pil, pmany), mks), ((cts, turns), stop))))) (r := rb_X10_codeS (((((text, size), (sv, stb)), ((var, tab), szs)), (((prg, cod), words), ((has, fpl), pos))), ((((fault, plc), (tol, tmany)), ((trc, rmany), mark)), (((pil, pmany), mks), ((cts, turns), stop)))) o5) (As := [.int y4, .int y2, .int y3]) (rest := []) hw (by rw [ho5]; exact h_cS text size sv stb var tab szs prg cod words has fpl pos fault plc tol tmany trc rmany mark pil pmany mks cts turns stop y4 y2 y3 hq6) ok_yX10_codeS ml_X10_134 (rm_ok (by omega) (by decide)) 0 rfl rfl rfl rfl hl.1 (Nat.le_of_ble_eq_true rfl) dX10_codeAll_29 ⟨Nat.zero_le _, Nat.zero_le _⟩ (fun H locs hw => ?_)
        have hw : Wd g A s (w_Mdl a g (((((text, size), (sv, stb)), ((var, tab), szs)), (((prg, o5.2.1), o5.2.2), ((has, fpl), pos))), ((((fault, plc), (tol, tmany)), ((trc, rmany), mark)), (((pil, pmany), mks), ((cts, turns), stop))))) H locs := hw
        refine W.eq (g2 := F0 m 32 ls [.int o5.1]) rfl ?_
        have hok := bdP_use ho5 hok
        refine lv_istore (lv' := [(4, .int o5.1), (0, .ref (a 0)), (2, .int y2), (3, .int y3)]) hx hb dX10_codeAll_32 hl (by decide) rfl (fun ls hl => ?_)
        refine lv_goto (tgt := 3) hx hb dX10_codeAll_34 (by decide) ?_
        exact ih o5.2.1 o5.2.2 y2 y3 o5.1 hok r (hr.trans (congrArg (rb_X10_codeAll (((((text, size), (sv, stb)), ((var, tab), szs)), (((prg, cod₀), words₀), ((has, fpl), pos))), ((((fault, plc), (tol, tmany)), ((trc, rmany), mark)), (((pil, pmany), mks), ((cts, turns), stop))))) ((show f_X10_codeAll_3 cS sv stb prg (k + 1) cod words y2 y3 y4 = f_X10_codeAll_3 cS sv stb prg k o5.2.1 o5.2.2 y2 y3 o5.1 from it_f c2 (it_f c4 (bd_of ho5 (rfl))))))) _ _ hw _ (lv_sub hl [1, 2, 3, 0] rfl)
set_option maxHeartbeats 4000000 in
set_option maxRecDepth 100000 in
theorem c_X10_codeAll (l : Launch) (g : GG) (a : Nat → Nat) (text : Nat → Int32) (size : Int32) (sv : Nat → Int32) (stb : Nat → Int32) (var : Nat → Int32) (tab : Nat → Int32) (szs : Nat → Int32) (prg : Nat → Int32) (cod : Nat → Int32) (words : Int32) (has : Int32) (fpl : Int32) (pos : Int32) (fault : Int32) (plc : Int32) (tol : Nat → Int32) (tmany : Int32) (trc : Nat → Int32) (rmany : Int32) (mark : Int64) (pil : Nat → Int32) (pmany : Int32) (mks : Nat → Int32) (cts : Nat → Int32) (turns : Int32) (stop : Int32) (cS : (Nat → Int32) → (Nat → Int32) → (Nat → Int32) → (Nat → Int32) → Int32 → Int32 → Int32 → Int32 → (Int32 × ((Nat → Int32) × Int32))) (cSk : (Nat → Int32) → (Nat → Int32) → (Nat → Int32) → (Nat → Int32) → Int32 → Int32 → Int32 → Int32 → Prop) (x1 : Int32) (x2 : Int32) (x3 : Int32) (kM : Nat) (k_cS : Nat) (hk : k_cS + 1 ≤ kM ∧ 30 ≤ kM) (h_cS : ∀ (text : Nat → Int32) (size : Int32) (sv : Nat → Int32) (stb : Nat → Int32) (var : Nat → Int32) (tab : Nat → Int32) (szs : Nat → Int32) (prg : Nat → Int32) (cod : Nat → Int32) (words : Int32) (has : Int32) (fpl : Int32) (pos : Int32) (fault : Int32) (plc : Int32) (tol : Nat → Int32) (tmany : Int32) (trc : Nat → Int32) (rmany : Int32) (mark : Int64) (pil : Nat → Int32) (pmany : Int32) (mks : Nat → Int32) (cts : Nat → Int32) (turns : Int32) (stop : Int32) (y1 y2 y3 : Int32), cSk sv stb prg cod words y1 y2 y3 → CI l g yX10_codeS cX10_codeS 9 (some .int) (rmN k_cS) (w_Mdl a g) [.ref (a 0), .int y1, .int y2, .int y3] (((((text, size), (sv, stb)), ((var, tab), szs)), (((prg, cod), words), ((has, fpl), pos))), ((((fault, plc), (tol, tmany)), ((trc, rmany), mark)), (((pil, pmany), mks), ((cts, turns), stop)))) (rb_X10_codeS (((((text, size), (sv, stb)), ((var, tab), szs)), (((prg, cod), words), ((has, fpl), pos))), ((((fault, plc), (tol, tmany)), ((trc, rmany), mark)), (((pil, pmany), mks), ((cts, turns), stop)))) (cS sv stb prg cod words y1 y2 y3))) (hok : ok_X10_codeAll cS cSk sv stb prg cod words x1 x2 x3) : CI l g yX10_codeAll cX10_codeAll 5 (some .int) (rmN kM) (w_Mdl a g) [.ref (a 0), .int x1, .int x2, .int x3] (((((text, size), (sv, stb)), ((var, tab), szs)), (((prg, cod), words), ((has, fpl), pos))), ((((fault, plc), (tol, tmany)), ((trc, rmany), mark)), (((pil, pmany), mks), ((cts, turns), stop)))) (rb_X10_codeAll (((((text, size), (sv, stb)), ((var, tab), szs)), (((prg, cod), words), ((has, fpl), pos))), ((((fault, plc), (tol, tmany)), ((trc, rmany), mark)), (((pil, pmany), mks), ((cts, turns), stop)))) (f_X10_codeAll cS sv stb prg cod words x1 x2 x3)) := by
  refine CI.mk (by decide) (Nat.le_of_ble_eq_true rfl) ?_
  intro p e s m below meth c A ls hI hw hl
  have hx := hI.1
  have hb := hI.2.1
  obtain ⟨r, hr⟩ : ∃ r, r = rb_X10_codeAll (((((text, size), (sv, stb)), ((var, tab), szs)), (((prg, cod), words), ((has, fpl), pos))), ((((fault, plc), (tol, tmany)), ((trc, rmany), mark)), (((pil, pmany), mks), ((cts, turns), stop)))) (f_X10_codeAll cS sv stb prg cod words x1 x2 x3) := ⟨_, rfl⟩
  rw [← hr]
  have hl : lv_has ls 5 [(0, .ref (a 0)), (1, .int x1), (2, .int x2), (3, .int x3)] := hl
  refine lv_iload_n hx hb dX10_codeAll_0 rfl (lv_at hl 1 rfl) ?_
  refine lv_istore (lv' := [(4, .int x1), (0, .ref (a 0)), (1, .int x1), (2, .int x2), (3, .int x3)]) hx hb dX10_codeAll_1 hl (by decide) rfl (fun ls hl => ?_)
  exact lp_X10_codeAll_3 l g a text size sv stb var tab szs prg cod words has fpl pos fault plc tol tmany trc rmany mark pil pmany mks cts turns stop cS cSk kM k_cS hk h_cS hI 402 cod words x2 x3 x1 hok r (hr.trans (congrArg (rb_X10_codeAll (((((text, size), (sv, stb)), ((var, tab), szs)), (((prg, cod), words), ((has, fpl), pos))), ((((fault, plc), (tol, tmany)), ((trc, rmany), mark)), (((pil, pmany), mks), ((cts, turns), stop))))) ((show f_X10_codeAll cS sv stb prg cod words x1 x2 x3 = f_X10_codeAll_3 cS sv stb prg 402 cod words x2 x3 x1 from rfl)))) _ _ hw _ (lv_sub hl [1, 3, 4, 0] rfl)
def cdS : Nat → (Nat → Int32) → (Nat → Int32) → (Nat → Int32) → (Nat → Int32) → Int32 → Int32 → Int32 → Int32 → (Int32 × ((Nat → Int32) × Int32))
  | 0 => fun sv stb prg cod words _ _ _ => (0, (cod, words))
  | d + 1 => f_X10_codeS (f_X10_codeAll (cdS d))
def cdA (d : Nat) : (Nat → Int32) → (Nat → Int32) → (Nat → Int32) → (Nat → Int32) → Int32 → Int32 → Int32 → Int32 → (Int32 × ((Nat → Int32) × Int32)) := f_X10_codeAll (cdS d)
def cdSk : Nat → (Nat → Int32) → (Nat → Int32) → (Nat → Int32) → (Nat → Int32) → Int32 → Int32 → Int32 → Int32 → Prop
  | 0 => fun _ _ _ _ _ _ _ _ => False
  | d + 1 => ok_X10_codeS (cdA d) (ok_X10_codeAll (cdS d) (cdSk d))
def cdAk (d : Nat) : (Nat → Int32) → (Nat → Int32) → (Nat → Int32) → (Nat → Int32) → Int32 → Int32 → Int32 → Int32 → Prop := ok_X10_codeAll (cdS d) (cdSk d)
theorem k_cdS (l : Launch) (g : GG) (a : Nat → Nat) : ∀ (d : Nat) (text : Nat → Int32) (size : Int32) (sv : Nat → Int32) (stb : Nat → Int32) (var : Nat → Int32) (tab : Nat → Int32) (szs : Nat → Int32) (prg : Nat → Int32) (cod : Nat → Int32) (words : Int32) (has : Int32) (fpl : Int32) (pos : Int32) (fault : Int32) (plc : Int32) (tol : Nat → Int32) (tmany : Int32) (trc : Nat → Int32) (rmany : Int32) (mark : Int64) (pil : Nat → Int32) (pmany : Int32) (mks : Nat → Int32) (cts : Nat → Int32) (turns : Int32) (stop : Int32) (y1 y2 y3 : Int32), cdSk d sv stb prg cod words y1 y2 y3 → CI l g yX10_codeS cX10_codeS 9 (some .int) (rmN (3 * d + 40)) (w_Mdl a g) [.ref (a 0), .int y1, .int y2, .int y3] (((((text, size), (sv, stb)), ((var, tab), szs)), (((prg, cod), words), ((has, fpl), pos))), ((((fault, plc), (tol, tmany)), ((trc, rmany), mark)), (((pil, pmany), mks), ((cts, turns), stop)))) (rb_X10_codeS (((((text, size), (sv, stb)), ((var, tab), szs)), (((prg, cod), words), ((has, fpl), pos))), ((((fault, plc), (tol, tmany)), ((trc, rmany), mark)), (((pil, pmany), mks), ((cts, turns), stop)))) (cdS d sv stb prg cod words y1 y2 y3)) := by
  intro d
  induction d with
  | zero =>
    intro text size sv stb var tab szs prg cod words has fpl pos fault plc tol tmany trc rmany mark pil pmany mks cts turns stop y1 y2 y3 hok
    exact hok.elim
  | succ d ih =>
    intro text size sv stb var tab szs prg cod words has fpl pos fault plc tol tmany trc rmany mark pil pmany mks cts turns stop y1 y2 y3 hok
    exact c_X10_codeS l g a text size sv stb var tab szs prg cod words has fpl pos fault plc tol tmany trc rmany mark pil pmany mks cts turns stop (cdA d) (cdAk d) y1 y2 y3 (3 * (d + 1) + 40) (3 * d + 42) (3 * d + 41) (by omega) (fun text size sv stb var tab szs prg cod words has fpl pos fault plc tol tmany trc rmany mark pil pmany mks cts turns stop y1 y2 y3 hz => c_X10_codeAll l g a text size sv stb var tab szs prg cod words has fpl pos fault plc tol tmany trc rmany mark pil pmany mks cts turns stop (cdS d) (cdSk d) y1 y2 y3 (3 * d + 41) (3 * d + 40) (by omega) (fun text size sv stb var tab szs prg cod words has fpl pos fault plc tol tmany trc rmany mark pil pmany mks cts turns stop y1 y2 y3 hz => ih text size sv stb var tab szs prg cod words has fpl pos fault plc tol tmany trc rmany mark pil pmany mks cts turns stop y1 y2 y3 hz) hz) hok
theorem k_cdA (l : Launch) (g : GG) (a : Nat → Nat) : ∀ (d : Nat) (text : Nat → Int32) (size : Int32) (sv : Nat → Int32) (stb : Nat → Int32) (var : Nat → Int32) (tab : Nat → Int32) (szs : Nat → Int32) (prg : Nat → Int32) (cod : Nat → Int32) (words : Int32) (has : Int32) (fpl : Int32) (pos : Int32) (fault : Int32) (plc : Int32) (tol : Nat → Int32) (tmany : Int32) (trc : Nat → Int32) (rmany : Int32) (mark : Int64) (pil : Nat → Int32) (pmany : Int32) (mks : Nat → Int32) (cts : Nat → Int32) (turns : Int32) (stop : Int32) (y1 y2 y3 : Int32), cdAk d sv stb prg cod words y1 y2 y3 → CI l g yX10_codeAll cX10_codeAll 5 (some .int) (rmN (3 * d + 41)) (w_Mdl a g) [.ref (a 0), .int y1, .int y2, .int y3] (((((text, size), (sv, stb)), ((var, tab), szs)), (((prg, cod), words), ((has, fpl), pos))), ((((fault, plc), (tol, tmany)), ((trc, rmany), mark)), (((pil, pmany), mks), ((cts, turns), stop)))) (rb_X10_codeAll (((((text, size), (sv, stb)), ((var, tab), szs)), (((prg, cod), words), ((has, fpl), pos))), ((((fault, plc), (tol, tmany)), ((trc, rmany), mark)), (((pil, pmany), mks), ((cts, turns), stop)))) (cdA d sv stb prg cod words y1 y2 y3)) := by
  intro d text size sv stb var tab szs prg cod words has fpl pos fault plc tol tmany trc rmany mark pil pmany mks cts turns stop y1 y2 y3 hok
  exact c_X10_codeAll l g a text size sv stb var tab szs prg cod words has fpl pos fault plc tol tmany trc rmany mark pil pmany mks cts turns stop (cdS d) (cdSk d) y1 y2 y3 (3 * d + 41) (3 * d + 40) (by omega) (fun text size sv stb var tab szs prg cod words has fpl pos fault plc tol tmany trc rmany mark pil pmany mks cts turns stop y1 y2 y3 hz => k_cdS l g a d text size sv stb var tab szs prg cod words has fpl pos fault plc tol tmany trc rmany mark pil pmany mks cts turns stop y1 y2 y3 hz) hok
