abbrev S_Walk : Type := (((((Nat → Int32) × (Nat → Int32)) × ((Nat → Int32) × (Nat → Int32))) × ((Int32 × (Nat → Int32)) × (Nat → Int32))) × ((((Nat → Int32) × (Nat → Int32)) × ((Nat → Int32) × (Nat → Int32))) × ((Int32 × Int32) × Int32)))
def w_Walk (h : Nat) (x : Nat → Nat) (q : Nat → Nat) (tt : Nat → Nat) (g : GG) (σ : S_Walk) : va_W := [(h, .inr (7, [.ref (x 0), .ref (q 0), .ref (tt 0), .int σ.2.2.1.2, .int σ.2.2.2])), (x 0, .inr (2, [.ref (x 1), .ref (x 2), .ref (x 3), .ref (x 4), .int σ.1.2.1.1])), (x 1, .inl (g.2.1, 400, .inl σ.1.1.1.1)), (x 2, .inl (g.2.1, 400, .inl σ.1.1.1.2)), (x 3, .inl (g.2.1, 400, .inl σ.1.1.2.1)), (x 4, .inl (g.2.2, 400, .inl σ.1.1.2.2)), (q 0, .inr (4, [.ref (q 1), .ref (q 2), .ref (q 3), .ref (q 4), .ref (q 5)])), (q 1, .inl (g.2.1, 10, .inl σ.1.2.1.2)), (q 2, .inl (g.2.2, 10, .inl σ.1.2.2)), (q 3, .inl (g.2.1, 64, .inl σ.2.1.1.1)), (q 4, .inl (g.2.1, 4, .inl σ.2.1.1.2)), (q 5, .inl (g.2.2, 4, .inl σ.2.1.2.1)), (tt 0, .inr (5, [.ref (tt 1), .int σ.2.2.1.1])), (tt 1, .inl (g.2.1, 300, .inl σ.2.1.2.2))]
def f_X8_takeTurn (turns : Int32) (outc : Int32) : Int32 × (Int32 × Int32) := if turns < (5000 : Int32) then ((1 : Int32), (turns + (1 : Int32), outc)) else ((0 : Int32), (turns, (-4 : Int32)))
def rb_X8_takeTurn (σ : S_Walk) (o : Int32 × (Int32 × Int32)) : Int32 × S_Walk := (o.1, ((((σ.1.1.1.1, σ.1.1.1.2), (σ.1.1.2.1, σ.1.1.2.2)), ((σ.1.2.1.1, σ.1.2.1.2), σ.1.2.2)), (((σ.2.1.1.1, σ.2.1.1.2), (σ.2.1.2.1, σ.2.1.2.2)), ((σ.2.2.1.1, o.2.1), o.2.2))))
set_option maxHeartbeats 4000000 in
set_option maxRecDepth 100000 in
theorem c_X8_takeTurn (l : Launch) (g : GG) (h : Nat) (x : Nat → Nat) (q : Nat → Nat) (tt : Nat → Nat) (tok : Nat → Int32) (beh : Nat → Int32) (msk : Nat → Int32) (sec : Nat → Int32) (siz : Int32) (num : Nat → Int32) (sn : Nat → Int32) (cel : Nat → Int32) (szs : Nat → Int32) (stb : Nat → Int32) (t_kept : Nat → Int32) (t_size : Int32) (turns : Int32) (outc : Int32) : CI l g yX8_takeTurn cX8_takeTurn 1 (some .boolean) (rmN 0) (w_Walk h x q tt g) [.ref h] ((((tok, beh), (msk, sec)), ((siz, num), sn)), (((cel, szs), (stb, t_kept)), ((t_size, turns), outc))) (rb_X8_takeTurn ((((tok, beh), (msk, sec)), ((siz, num), sn)), (((cel, szs), (stb, t_kept)), ((t_size, turns), outc))) (f_X8_takeTurn turns outc)) := by
  refine CI.mk (by decide) (Nat.le_of_ble_eq_true rfl) ?_
  intro p e s m below meth c A ls hI hw hl
  have hx := hI.1
  have hb := hI.2.1
  obtain ⟨r, hr⟩ : ∃ r, r = rb_X8_takeTurn ((((tok, beh), (msk, sec)), ((siz, num), sn)), (((cel, szs), (stb, t_kept)), ((t_size, turns), outc))) (f_X8_takeTurn turns outc) := ⟨_, rfl⟩
  rw [← hr]
  have hl : lv_has ls 1 [(0, .ref h)] := hl
  refine lv_aload_n hx hb dX8_takeTurn_0 rfl (lv_at hl 0 rfl) ?_
  refine hI.get (v := .int turns) hw fg_X8_28 0 rfl rfl dX8_takeTurn_1 ?_
  refine lv_sipush (v := (5000 : Int32)) hx hb dX8_takeTurn_4 (by decide) ?_
  refine lv_icmp_lt (tgt := 18) hx hb dX8_takeTurn_7 (by decide) (fun c1 => ?_) (fun c1 => ?_)
  · refine lv_aload_n hx hb dX8_takeTurn_18 rfl (lv_at hl 0 rfl) ?_
    refine lv_dup hx hb dX8_takeTurn_19 rfl ?_
    refine hI.get (v := .int turns) hw fg_X8_28 0 rfl rfl dX8_takeTurn_20 ?_
    refine lv_iconst (v := (1 : Int32)) hx hb dX8_takeTurn_23 (by decide) ?_
    refine lv_iadd hx hb dX8_takeTurn_24 ?_
    refine hI.put hw fp_X8_28 rfl 0 rfl rfl rfl (Nat.le_of_ble_eq_true rfl) dX8_takeTurn_25 (fun H locs hw => ?_)
    have hw : Wd g A s (w_Walk h x q tt g ((((tok, beh), (msk, sec)), ((siz, num), sn)), (((cel, szs), (stb, t_kept)), ((t_size, turns + (1 : Int32)), outc)))) H locs := hw
    refine lv_iconst (v := (1 : Int32)) hx hb dX8_takeTurn_28 (by decide) ?_
    exact hI.retZ (u := ((((tok, beh), (msk, sec)), ((siz, num), sn)), (((cel, szs), (stb, t_kept)), ((t_size, turns + (1 : Int32)), outc)))) hw rfl (hr.trans (congrArg (rb_X8_takeTurn ((((tok, beh), (msk, sec)), ((siz, num), sn)), (((cel, szs), (stb, t_kept)), ((t_size, turns), outc)))) ((show f_X8_takeTurn turns outc = ((1 : Int32), (turns + (1 : Int32), outc)) from it_t c1 (rfl))))) dX8_takeTurn_29
  · refine lv_aload_n hx hb dX8_takeTurn_10 rfl (lv_at hl 0 rfl) ?_
    refine lv_bipush (v := (-4 : Int32)) hx hb dX8_takeTurn_11 (by decide) ?_
    refine hI.put hw fp_X8_32 rfl 0 rfl rfl rfl (Nat.le_of_ble_eq_true rfl) dX8_takeTurn_13 (fun H locs hw => ?_)
    have hw : Wd g A s (w_Walk h x q tt g ((((tok, beh), (msk, sec)), ((siz, num), sn)), (((cel, szs), (stb, t_kept)), ((t_size, turns), (-4 : Int32))))) H locs := hw
    refine lv_iconst (v := (0 : Int32)) hx hb dX8_takeTurn_16 (by decide) ?_
    exact hI.retZ (u := ((((tok, beh), (msk, sec)), ((siz, num), sn)), (((cel, szs), (stb, t_kept)), ((t_size, turns), (-4 : Int32))))) hw rfl (hr.trans (congrArg (rb_X8_takeTurn ((((tok, beh), (msk, sec)), ((siz, num), sn)), (((cel, szs), (stb, t_kept)), ((t_size, turns), outc)))) ((show f_X8_takeTurn turns outc = ((0 : Int32), (turns, (-4 : Int32))) from it_f c1 (rfl))))) dX8_takeTurn_17
def f_X8_valueOf (vE : (Nat → Int32) → (Nat → Int32) → Int32 → (Nat → Int32) → (Nat → Int32) → (Nat → Int32) → Int32 → Int32 → Int32 → Int32 × Int32) (tok : Nat → Int32) (beh : Nat → Int32) (siz : Int32) (num : Nat → Int32) (cel : Nat → Int32) (szs : Nat → Int32) (outc : Int32) (x1 : Int32) (x2 : Int32) : Int32 × Int32 := if (12 : Int32) ≤ x2 then ((0 : Int32), outc) else if outc = 0 then bd (f_X2_tokenAt tok siz x1) (fun o3 => bd (f_X2_tokenAt tok siz (x1 + (1 : Int32))) (fun o4 => if o3 = (20 : Int32) then (o4, outc) else if o3 = (21 : Int32) then bd (f_X5_numberOf num o4) (fun o24 => (o24, outc)) else bd (f_X2_inside tok siz x1) (fun o7 => bd (vE tok beh siz num cel szs outc o7 (x2 + (1 : Int32))) (fun o8 => if o3 = (35 : Int32) then bd (f_X5_placeIn szs o4 o8.1) (fun o22 => bd (f_X5_cell cel szs o4 o22) (fun o23 => (o23, o8.2))) else if o3 = (32 : Int32) then bd (f_X4_reckon o3 o8.1 (0 : Int32)) (fun o21 => (o21, o8.2)) else bd (f_X2_behind beh siz o7) (fun o11 => bd (vE tok beh siz num cel szs o8.2 o11 (x2 + (1 : Int32))) (fun o12 => if o3 = (36 : Int32) then bd (f_X2_behind beh siz o11) (fun o18 => bd (vE tok beh siz num cel szs o12.2 o18 (x2 + (1 : Int32))) (fun o19 => if o8.1 = 0 then (o19.1, o19.2) else (o12.1, o19.2))) else bd (f_X4_traps o3 o12.1) (fun o14 => if o14 = 0 then bd (f_X4_reckon o3 o8.1 o12.1) (fun o16 => (o16, o12.2)) else bd (f_X4_reckon o3 o8.1 o12.1) (fun o17 => (o17, (-5 : Int32)))))))))) else ((0 : Int32), outc)
def rb_X8_valueOf (σ : S_Walk) (o : Int32 × Int32) : Int32 × S_Walk := (o.1, ((((σ.1.1.1.1, σ.1.1.1.2), (σ.1.1.2.1, σ.1.1.2.2)), ((σ.1.2.1.1, σ.1.2.1.2), σ.1.2.2)), (((σ.2.1.1.1, σ.2.1.1.2), (σ.2.1.2.1, σ.2.1.2.2)), ((σ.2.2.1.1, σ.2.2.1.2), o.2))))
set_option maxHeartbeats 4000000 in
set_option maxRecDepth 100000 in
theorem c_X8_valueOf (l : Launch) (g : GG) (h : Nat) (x : Nat → Nat) (q : Nat → Nat) (tt : Nat → Nat) (tok : Nat → Int32) (beh : Nat → Int32) (msk : Nat → Int32) (sec : Nat → Int32) (siz : Int32) (num : Nat → Int32) (sn : Nat → Int32) (cel : Nat → Int32) (szs : Nat → Int32) (stb : Nat → Int32) (t_kept : Nat → Int32) (t_size : Int32) (turns : Int32) (outc : Int32) (vE : (Nat → Int32) → (Nat → Int32) → Int32 → (Nat → Int32) → (Nat → Int32) → (Nat → Int32) → Int32 → Int32 → Int32 → Int32 × Int32) (x1 : Int32) (x2 : Int32) (PE : Int32 → Prop) (kM : Nat) (kE : Nat) (hk : kE + 1 ≤ kM ∧ 6 ≤ kM) (hE : ∀ (tok : Nat → Int32) (beh : Nat → Int32) (msk : Nat → Int32) (sec : Nat → Int32) (siz : Int32) (num : Nat → Int32) (sn : Nat → Int32) (cel : Nat → Int32) (szs : Nat → Int32) (stb : Nat → Int32) (t_kept : Nat → Int32) (t_size : Int32) (turns : Int32) (outc : Int32) (y1 y2 : Int32), PE y2 → CI l g yX8_valueOf cX8_valueOf 10 (some .int) (rmN kE) (w_Walk h x q tt g) [.ref h, .int y1, .int y2] ((((tok, beh), (msk, sec)), ((siz, num), sn)), (((cel, szs), (stb, t_kept)), ((t_size, turns), outc))) (rb_X8_valueOf ((((tok, beh), (msk, sec)), ((siz, num), sn)), (((cel, szs), (stb, t_kept)), ((t_size, turns), outc))) (vE tok beh siz num cel szs outc y1 y2))) (hP : ¬ (12 : Int32) ≤ x2 → PE (x2 + (1 : Int32))) : CI l g yX8_valueOf cX8_valueOf 10 (some .int) (rmN kM) (w_Walk h x q tt g) [.ref h, .int x1, .int x2] ((((tok, beh), (msk, sec)), ((siz, num), sn)), (((cel, szs), (stb, t_kept)), ((t_size, turns), outc))) (rb_X8_valueOf ((((tok, beh), (msk, sec)), ((siz, num), sn)), (((cel, szs), (stb, t_kept)), ((t_size, turns), outc))) (f_X8_valueOf vE tok beh siz num cel szs outc x1 x2)) := by
  refine CI.mk (by decide) (Nat.le_of_ble_eq_true rfl) ?_
  intro p e s m below meth c A ls hI hw hl
  have hx := hI.1
  have hb := hI.2.1
  obtain ⟨r, hr⟩ : ∃ r, r = rb_X8_valueOf ((((tok, beh), (msk, sec)), ((siz, num), sn)), (((cel, szs), (stb, t_kept)), ((t_size, turns), outc))) (f_X8_valueOf vE tok beh siz num cel szs outc x1 x2) := ⟨_, rfl⟩
  rw [← hr]
  have hl : lv_has ls 10 [(0, .ref h), (1, .int x1), (2, .int x2)] := hl
  refine lv_iload_n hx hb dX8_valueOf_0 rfl (lv_at hl 2 rfl) ?_
  refine lv_bipush (v := (12 : Int32)) hx hb dX8_valueOf_1 (by decide) ?_
  refine lv_icmp_ge (tgt := 13) hx hb dX8_valueOf_3 (by decide) (fun c1 => ?_) (fun c1 => ?_)
  · refine lv_iconst (v := (0 : Int32)) hx hb dX8_valueOf_13 (by decide) ?_
    exact hI.retI (u := ((((tok, beh), (msk, sec)), ((siz, num), sn)), (((cel, szs), (stb, t_kept)), ((t_size, turns), outc)))) hw (hr.trans (congrArg (rb_X8_valueOf ((((tok, beh), (msk, sec)), ((siz, num), sn)), (((cel, szs), (stb, t_kept)), ((t_size, turns), outc)))) ((show f_X8_valueOf vE tok beh siz num cel szs outc x1 x2 = ((0 : Int32), outc) from it_t c1 (rfl))))) dX8_valueOf_14
  · refine lv_aload_n hx hb dX8_valueOf_6 rfl (lv_at hl 0 rfl) ?_
    refine hI.get (v := .int outc) hw fg_X8_32 0 rfl rfl dX8_valueOf_7 ?_
    refine lv_if_eq (tgt := 15) hx hb dX8_valueOf_10 (by decide) (fun c2 => ?_) (fun c2 => ?_)
    · refine lv_aload_n hx hb dX8_valueOf_15 rfl (lv_at hl 0 rfl) ?_
      refine hI.get (v := .ref (x 0)) hw fg_X8_9 0 rfl rfl dX8_valueOf_16 ?_
      refine lv_iload_n hx hb dX8_valueOf_19 rfl (lv_at hl 1 rfl) ?_
      obtain ⟨o3, ho3⟩ : ∃ o, o = f_X2_tokenAt tok siz x1 := ⟨_, rfl⟩
      refine hI.callI (wl := w_Prog x g) (a := (((tok, beh), msk), (sec, siz))) (wr := [(h, .inr (7, [.ref (x 0), .ref (q 0), .ref (tt 0), .int turns, .int outc])), (q 0, .inr (4, [.ref (q 1), .ref (q 2), .ref (q 3), .ref (q 4), .ref (q 5)])), (q 1, .inl (g.2.1, 10, .inl num)), (q 2, .inl (g.2.2, 10, .inl sn)), (q 3, .inl (g.2.1, 64, .inl cel)), (q 4, .inl (g.2.1, 4, .inl szs)), (q 5, .inl (g.2.2, 4, .inl stb)), (tt 0, .inr (5, [.ref (tt 1), .int t_size])), (tt 1, .inl (g.2.1, 300, .inl t_kept))]) (ws1 := w_Walk h x q tt g ((((tok, beh), (msk, sec)), ((siz, num), sn)), (((cel, szs), (stb, t_kept)), ((t_size, turns), outc)))) (r := rb_X2_tokenAt (((tok, beh), msk), (sec, siz)) o3) (As := [.int x1]) (rest := []) hw (by rw [ho3]; exact c_X2_tokenAt l g x tok beh msk sec siz x1 ) ok_yX2_tokenAt ml_X8_56 (rm_ok (by omega) (by decide)) [1, 2, 3, 4, 5] [0, 6, 7, 8, 9, 10, 11, 12, 13] [0, 9, 10, 11, 12, 13, 1, 2, 3, 4, 5, 6, 7, 8] rfl rfl rfl rfl rfl 0 rfl rfl rfl rfl hl.1 (Nat.le_of_ble_eq_true rfl) dX8_valueOf_20 ⟨Nat.zero_le _, Nat.zero_le _⟩ (fun H locs hw => ?_)
      have hw : Wd g A s (w_Walk h x q tt g ((((tok, beh), (msk, sec)), ((siz, num), sn)), (((cel, szs), (stb, t_kept)), ((t_size, turns), outc)))) H locs := hw
      refine W.eq (g2 := F0 m 23 ls [.int o3]) rfl ?_
      refine lv_istore_n (lv' := [(3, .int o3), (0, .ref h), (1, .int x1), (2, .int x2)]) hx hb dX8_valueOf_23 rfl hl (by decide) rfl (fun ls hl => ?_)
      refine lv_aload_n hx hb dX8_valueOf_24 rfl (lv_at hl 1 rfl) ?_
      refine hI.get (v := .ref (x 0)) hw fg_X8_9 0 rfl rfl dX8_valueOf_25 ?_
      refine lv_iload_n hx hb dX8_valueOf_28 rfl (lv_at hl 2 rfl) ?_
      refine lv_iconst (v := (1 : Int32)) hx hb dX8_valueOf_29 (by decide) ?_
      refine lv_iadd hx hb dX8_valueOf_30 ?_
      obtain ⟨o4, ho4⟩ : ∃ o, o = f_X2_tokenAt tok siz (x1 + (1 : Int32)) := ⟨_, rfl⟩
      refine hI.callI (wl := w_Prog x g) (a := (((tok, beh), msk), (sec, siz))) (wr := [(h, .inr (7, [.ref (x 0), .ref (q 0), .ref (tt 0), .int turns, .int outc])), (q 0, .inr (4, [.ref (q 1), .ref (q 2), .ref (q 3), .ref (q 4), .ref (q 5)])), (q 1, .inl (g.2.1, 10, .inl num)), (q 2, .inl (g.2.2, 10, .inl sn)), (q 3, .inl (g.2.1, 64, .inl cel)), (q 4, .inl (g.2.1, 4, .inl szs)), (q 5, .inl (g.2.2, 4, .inl stb)), (tt 0, .inr (5, [.ref (tt 1), .int t_size])), (tt 1, .inl (g.2.1, 300, .inl t_kept))]) (ws1 := w_Walk h x q tt g ((((tok, beh), (msk, sec)), ((siz, num), sn)), (((cel, szs), (stb, t_kept)), ((t_size, turns), outc)))) (r := rb_X2_tokenAt (((tok, beh), msk), (sec, siz)) o4) (As := [.int (x1 + (1 : Int32))]) (rest := []) hw (by rw [ho4]; exact c_X2_tokenAt l g x tok beh msk sec siz (x1 + (1 : Int32)) ) ok_yX2_tokenAt ml_X8_56 (rm_ok (by omega) (by decide)) [1, 2, 3, 4, 5] [0, 6, 7, 8, 9, 10, 11, 12, 13] [0, 9, 10, 11, 12, 13, 1, 2, 3, 4, 5, 6, 7, 8] rfl rfl rfl rfl rfl 0 rfl rfl rfl rfl hl.1 (Nat.le_of_ble_eq_true rfl) dX8_valueOf_31 ⟨Nat.zero_le _, Nat.zero_le _⟩ (fun H locs hw => ?_)
      have hw : Wd g A s (w_Walk h x q tt g ((((tok, beh), (msk, sec)), ((siz, num), sn)), (((cel, szs), (stb, t_kept)), ((t_size, turns), outc)))) H locs := hw
      refine W.eq (g2 := F0 m 34 ls [.int o4]) rfl ?_
      refine lv_istore (lv' := [(4, .int o4), (3, .int o3), (0, .ref h), (1, .int x1), (2, .int x2)]) hx hb dX8_valueOf_34 hl (by decide) rfl (fun ls hl => ?_)
      refine lv_iload_n hx hb dX8_valueOf_36 rfl (lv_at hl 1 rfl) ?_
      refine lv_bipush (v := (20 : Int32)) hx hb dX8_valueOf_37 (by decide) ?_
      refine lv_icmp_ne (tgt := 45) hx hb dX8_valueOf_39 (by decide) (fun c5 => ?_) (fun c5 => ?_)
      · refine lv_iload_n hx hb dX8_valueOf_45 rfl (lv_at hl 1 rfl) ?_
        refine lv_bipush (v := (21 : Int32)) hx hb dX8_valueOf_46 (by decide) ?_
        refine lv_icmp_ne (tgt := 61) hx hb dX8_valueOf_48 (by decide) (fun c6 => ?_) (fun c6 => ?_)
        · refine lv_aload_n hx hb dX8_valueOf_61 rfl (lv_at hl 2 rfl) ?_
          refine hI.get (v := .ref (x 0)) hw fg_X8_9 0 rfl rfl dX8_valueOf_62 ?_
          refine lv_iload_n hx hb dX8_valueOf_65 rfl (lv_at hl 3 rfl) ?_
          obtain ⟨o7, ho7⟩ : ∃ o, o = f_X2_inside tok siz x1 := ⟨_, rfl⟩
          refine hI.callI (wl := w_Prog x g) (a := (((tok, beh), msk), (sec, siz))) (wr := [(h, .inr (7, [.ref (x 0), .ref (q 0), .ref (tt 0), .int turns, .int outc])), (q 0, .inr (4, [.ref (q 1), .ref (q 2), .ref (q 3), .ref (q 4), .ref (q 5)])), (q 1, .inl (g.2.1, 10, .inl num)), (q 2, .inl (g.2.2, 10, .inl sn)), (q 3, .inl (g.2.1, 64, .inl cel)), (q 4, .inl (g.2.1, 4, .inl szs)), (q 5, .inl (g.2.2, 4, .inl stb)), (tt 0, .inr (5, [.ref (tt 1), .int t_size])), (tt 1, .inl (g.2.1, 300, .inl t_kept))]) (ws1 := w_Walk h x q tt g ((((tok, beh), (msk, sec)), ((siz, num), sn)), (((cel, szs), (stb, t_kept)), ((t_size, turns), outc)))) (r := rb_X2_inside (((tok, beh), msk), (sec, siz)) o7) (As := [.int x1]) (rest := []) hw (by rw [ho7]; exact c_X2_inside l g x tok beh msk sec siz x1 ) ok_yX2_inside ml_X8_77 (rm_ok (by omega) (by decide)) [1, 2, 3, 4, 5] [0, 6, 7, 8, 9, 10, 11, 12, 13] [0, 9, 10, 11, 12, 13, 1, 2, 3, 4, 5, 6, 7, 8] rfl rfl rfl rfl rfl 0 rfl rfl rfl rfl hl.1 (Nat.le_of_ble_eq_true rfl) dX8_valueOf_66 ⟨Nat.zero_le _, Nat.zero_le _⟩ (fun H locs hw => ?_)
          have hw : Wd g A s (w_Walk h x q tt g ((((tok, beh), (msk, sec)), ((siz, num), sn)), (((cel, szs), (stb, t_kept)), ((t_size, turns), outc)))) H locs := hw
          refine W.eq (g2 := F0 m 69 ls [.int o7]) rfl ?_
          refine lv_istore (lv' := [(5, .int o7), (4, .int o4), (3, .int o3), (0, .ref h), (1, .int x1), (2, .int x2)]) hx hb dX8_valueOf_69 hl (by decide) rfl (fun ls hl => ?_)
          refine lv_aload_n hx hb dX8_valueOf_71 rfl (lv_at hl 3 rfl) ?_
          refine lv_iload hx hb dX8_valueOf_72 (lv_at hl 0 rfl) ?_
          refine lv_iload_n hx hb dX8_valueOf_74 rfl (lv_at hl 5 rfl) ?_
          refine lv_iconst (v := (1 : Int32)) hx hb dX8_valueOf_75 (by decide) ?_
          refine lv_iadd hx hb dX8_valueOf_76 ?_
          obtain ⟨o8, ho8⟩ : ∃ o, o = vE tok beh siz num cel szs outc o7 (x2 + (1 : Int32)) := ⟨_, rfl⟩
          refine hI.callI0 (wl := w_Walk h x q tt g) (a := ((((tok, beh), (msk, sec)), ((siz, num), sn)), (((cel, szs), (stb, t_kept)), ((t_size, turns), outc)))) (r := rb_X8_valueOf ((((tok, beh), (msk, sec)), ((siz, num), sn)), (((cel, szs), (stb, t_kept)), ((t_size, turns), outc))) o8) (As := [.int o7, .int (x2 + (1 : Int32))]) (rest := []) hw (by rw [ho8]; exact hE tok beh msk sec siz num sn cel szs stb t_kept t_size turns outc o7 (x2 + (1 : Int32)) (hP c1)) ok_yX8_valueOf ml_X8_80 (rm_ok (by omega) (by decide)) 0 rfl rfl rfl rfl hl.1 (Nat.le_of_ble_eq_true rfl) dX8_valueOf_77 ⟨Nat.zero_le _, Nat.zero_le _⟩ (fun H locs hw => ?_)
          have hw : Wd g A s (w_Walk h x q tt g ((((tok, beh), (msk, sec)), ((siz, num), sn)), (((cel, szs), (stb, t_kept)), ((t_size, turns), o8.2)))) H locs := hw
          refine W.eq (g2 := F0 m 80 ls [.int o8.1]) rfl ?_
          refine lv_istore (lv' := [(6, .int o8.1), (5, .int o7), (4, .int o4), (3, .int o3), (0, .ref h), (1, .int x1), (2, .int x2)]) hx hb dX8_valueOf_80 hl (by decide) rfl (fun ls hl => ?_)
          refine lv_iload_n hx hb dX8_valueOf_82 rfl (lv_at hl 3 rfl) ?_
          refine lv_bipush (v := (35 : Int32)) hx hb dX8_valueOf_83 (by decide) ?_
          refine lv_icmp_ne (tgt := 109) hx hb dX8_valueOf_85 (by decide) (fun c9 => ?_) (fun c9 => ?_)
          · refine lv_iload_n hx hb dX8_valueOf_109 rfl (lv_at hl 3 rfl) ?_
            refine lv_bipush (v := (32 : Int32)) hx hb dX8_valueOf_110 (by decide) ?_
            refine lv_icmp_ne (tgt := 123) hx hb dX8_valueOf_112 (by decide) (fun c10 => ?_) (fun c10 => ?_)
            · refine lv_aload_n hx hb dX8_valueOf_123 rfl (lv_at hl 4 rfl) ?_
              refine hI.get (v := .ref (x 0)) hw fg_X8_9 0 rfl rfl dX8_valueOf_124 ?_
              refine lv_iload hx hb dX8_valueOf_127 (lv_at hl 1 rfl) ?_
              obtain ⟨o11, ho11⟩ : ∃ o, o = f_X2_behind beh siz o7 := ⟨_, rfl⟩
              refine hI.callI (wl := w_Prog x g) (a := (((tok, beh), msk), (sec, siz))) (wr := [(h, .inr (7, [.ref (x 0), .ref (q 0), .ref (tt 0), .int turns, .int o8.2])), (q 0, .inr (4, [.ref (q 1), .ref (q 2), .ref (q 3), .ref (q 4), .ref (q 5)])), (q 1, .inl (g.2.1, 10, .inl num)), (q 2, .inl (g.2.2, 10, .inl sn)), (q 3, .inl (g.2.1, 64, .inl cel)), (q 4, .inl (g.2.1, 4, .inl szs)), (q 5, .inl (g.2.2, 4, .inl stb)), (tt 0, .inr (5, [.ref (tt 1), .int t_size])), (tt 1, .inl (g.2.1, 300, .inl t_kept))]) (ws1 := w_Walk h x q tt g ((((tok, beh), (msk, sec)), ((siz, num), sn)), (((cel, szs), (stb, t_kept)), ((t_size, turns), o8.2)))) (r := rb_X2_behind (((tok, beh), msk), (sec, siz)) o11) (As := [.int o7]) (rest := []) hw (by rw [ho11]; exact c_X2_behind l g x tok beh msk sec siz o7 ) ok_yX2_behind ml_X8_48 (rm_ok (by omega) (by decide)) [1, 2, 3, 4, 5] [0, 6, 7, 8, 9, 10, 11, 12, 13] [0, 9, 10, 11, 12, 13, 1, 2, 3, 4, 5, 6, 7, 8] rfl rfl rfl rfl rfl 0 rfl rfl rfl rfl hl.1 (Nat.le_of_ble_eq_true rfl) dX8_valueOf_129 ⟨Nat.zero_le _, Nat.zero_le _⟩ (fun H locs hw => ?_)
              have hw : Wd g A s (w_Walk h x q tt g ((((tok, beh), (msk, sec)), ((siz, num), sn)), (((cel, szs), (stb, t_kept)), ((t_size, turns), o8.2)))) H locs := hw
              refine W.eq (g2 := F0 m 132 ls [.int o11]) rfl ?_
              refine lv_istore (lv' := [(7, .int o11), (6, .int o8.1), (5, .int o7), (4, .int o4), (3, .int o3), (0, .ref h), (1, .int x1), (2, .int x2)]) hx hb dX8_valueOf_132 hl (by decide) rfl (fun ls hl => ?_)
              refine lv_aload_n hx hb dX8_valueOf_134 rfl (lv_at hl 5 rfl) ?_
              refine lv_iload hx hb dX8_valueOf_135 (lv_at hl 0 rfl) ?_
              refine lv_iload_n hx hb dX8_valueOf_137 rfl (lv_at hl 7 rfl) ?_
              refine lv_iconst (v := (1 : Int32)) hx hb dX8_valueOf_138 (by decide) ?_
              refine lv_iadd hx hb dX8_valueOf_139 ?_
              obtain ⟨o12, ho12⟩ : ∃ o, o = vE tok beh siz num cel szs o8.2 o11 (x2 + (1 : Int32)) := ⟨_, rfl⟩
              refine hI.callI0 (wl := w_Walk h x q tt g) (a := ((((tok, beh), (msk, sec)), ((siz, num), sn)), (((cel, szs), (stb, t_kept)), ((t_size, turns), o8.2)))) (r := rb_X8_valueOf ((((tok, beh), (msk, sec)), ((siz, num), sn)), (((cel, szs), (stb, t_kept)), ((t_size, turns), o8.2))) o12) (As := [.int o11, .int (x2 + (1 : Int32))]) (rest := []) hw (by rw [ho12]; exact hE tok beh msk sec siz num sn cel szs stb t_kept t_size turns o8.2 o11 (x2 + (1 : Int32)) (hP c1)) ok_yX8_valueOf ml_X8_80 (rm_ok (by omega) (by decide)) 0 rfl rfl rfl rfl hl.1 (Nat.le_of_ble_eq_true rfl) dX8_valueOf_140 ⟨Nat.zero_le _, Nat.zero_le _⟩ (fun H locs hw => ?_)
              have hw : Wd g A s (w_Walk h x q tt g ((((tok, beh), (msk, sec)), ((siz, num), sn)), (((cel, szs), (stb, t_kept)), ((t_size, turns), o12.2)))) H locs := hw
              refine W.eq (g2 := F0 m 143 ls [.int o12.1]) rfl ?_
              refine lv_istore (lv' := [(8, .int o12.1), (7, .int o11), (6, .int o8.1), (5, .int o7), (4, .int o4), (3, .int o3), (0, .ref h), (1, .int x1), (2, .int x2)]) hx hb dX8_valueOf_143 hl (by decide) rfl (fun ls hl => ?_)
              refine lv_iload_n hx hb dX8_valueOf_145 rfl (lv_at hl 5 rfl) ?_
              refine lv_bipush (v := (36 : Int32)) hx hb dX8_valueOf_146 (by decide) ?_
              refine lv_icmp_ne (tgt := 182) hx hb dX8_valueOf_148 (by decide) (fun c13 => ?_) (fun c13 => ?_)
              · refine lv_iload_n hx hb dX8_valueOf_182 rfl (lv_at hl 5 rfl) ?_
                refine lv_iload hx hb dX8_valueOf_183 (lv_at hl 0 rfl) ?_
                obtain ⟨o14, ho14⟩ : ∃ o, o = f_X4_traps o3 o12.1 := ⟨_, rfl⟩
                refine hI.callSI (r := o14) (As := [.int o3, .int o12.1]) (rest := []) hw (by rw [ho14]; exact c_X4_traps l g o3 o12.1) ok_yX4_traps ml_X8_115 (rm_ok (by omega) (by decide)) rfl rfl hl.1 (Nat.le_of_ble_eq_true rfl) dX8_valueOf_185 ⟨Nat.zero_le _, Nat.zero_le _⟩ (fun H locs hw => ?_)
                refine lv_if_eq (tgt := 197) hx hb dX8_valueOf_188 (by decide) (fun c15 => ?_) (fun c15 => ?_)
                · refine lv_iload_n hx hb dX8_valueOf_197 rfl (lv_at hl 5 rfl) ?_
                  refine lv_iload hx hb dX8_valueOf_198 (lv_at hl 2 rfl) ?_
                  refine lv_iload hx hb dX8_valueOf_200 (lv_at hl 0 rfl) ?_
                  obtain ⟨o16, ho16⟩ : ∃ o, o = f_X4_reckon o3 o8.1 o12.1 := ⟨_, rfl⟩
                  refine hI.callSI (r := o16) (As := [.int o3, .int o8.1, .int o12.1]) (rest := []) hw (by rw [ho16]; exact c_X4_reckon l g o3 o8.1 o12.1) ok_yX4_reckon ml_X8_109 (rm_ok (by omega) (by decide)) rfl rfl hl.1 (Nat.le_of_ble_eq_true rfl) dX8_valueOf_202 ⟨Nat.zero_le _, Nat.zero_le _⟩ (fun H locs hw => ?_)
                  exact hI.retI (u := ((((tok, beh), (msk, sec)), ((siz, num), sn)), (((cel, szs), (stb, t_kept)), ((t_size, turns), o12.2)))) hw (hr.trans (congrArg (rb_X8_valueOf ((((tok, beh), (msk, sec)), ((siz, num), sn)), (((cel, szs), (stb, t_kept)), ((t_size, turns), outc)))) ((show f_X8_valueOf vE tok beh siz num cel szs outc x1 x2 = (o16, o12.2) from it_f c1 (it_t c2 (bd_of ho3 (bd_of ho4 (it_f c5 (it_f c6 (bd_of ho7 (bd_of ho8 (it_f c9 (it_f c10 (bd_of ho11 (bd_of ho12 (it_f c13 (bd_of ho14 (it_t c15 (bd_of ho16 (rfl)))))))))))))))))))) dX8_valueOf_205
                · refine lv_aload_n hx hb dX8_valueOf_191 rfl (lv_at hl 6 rfl) ?_
                  refine lv_bipush (v := (-5 : Int32)) hx hb dX8_valueOf_192 (by decide) ?_
                  refine hI.put hw fp_X8_32 rfl 0 rfl rfl rfl (Nat.le_of_ble_eq_true rfl) dX8_valueOf_194 (fun H locs hw => ?_)
                  have hw : Wd g A s (w_Walk h x q tt g ((((tok, beh), (msk, sec)), ((siz, num), sn)), (((cel, szs), (stb, t_kept)), ((t_size, turns), (-5 : Int32))))) H locs := hw
                  refine lv_iload_n hx hb dX8_valueOf_197 rfl (lv_at hl 5 rfl) ?_
                  refine lv_iload hx hb dX8_valueOf_198 (lv_at hl 2 rfl) ?_
                  refine lv_iload hx hb dX8_valueOf_200 (lv_at hl 0 rfl) ?_
                  obtain ⟨o17, ho17⟩ : ∃ o, o = f_X4_reckon o3 o8.1 o12.1 := ⟨_, rfl⟩
                  refine hI.callSI (r := o17) (As := [.int o3, .int o8.1, .int o12.1]) (rest := []) hw (by rw [ho17]; exact c_X4_reckon l g o3 o8.1 o12.1) ok_yX4_reckon ml_X8_109 (rm_ok (by omega) (by decide)) rfl rfl hl.1 (Nat.le_of_ble_eq_true rfl) dX8_valueOf_202 ⟨Nat.zero_le _, Nat.zero_le _⟩ (fun H locs hw => ?_)
                  exact hI.retI (u := ((((tok, beh), (msk, sec)), ((siz, num), sn)), (((cel, szs), (stb, t_kept)), ((t_size, turns), (-5 : Int32))))) hw (hr.trans (congrArg (rb_X8_valueOf ((((tok, beh), (msk, sec)), ((siz, num), sn)), (((cel, szs), (stb, t_kept)), ((t_size, turns), outc)))) ((show f_X8_valueOf vE tok beh siz num cel szs outc x1 x2 = (o17, (-5 : Int32)) from it_f c1 (it_t c2 (bd_of ho3 (bd_of ho4 (it_f c5 (it_f c6 (bd_of ho7 (bd_of ho8 (it_f c9 (it_f c10 (bd_of ho11 (bd_of ho12 (it_f c13 (bd_of ho14 (it_f c15 (bd_of ho17 (rfl)))))))))))))))))))) dX8_valueOf_205
              · refine lv_aload_n hx hb dX8_valueOf_151 rfl (lv_at hl 6 rfl) ?_
                refine lv_aload_n hx hb dX8_valueOf_152 rfl (lv_at hl 6 rfl) ?_
                refine hI.get (v := .ref (x 0)) hw fg_X8_9 0 rfl rfl dX8_valueOf_153 ?_
                refine lv_iload hx hb dX8_valueOf_156 (lv_at hl 1 rfl) ?_
                obtain ⟨o18, ho18⟩ : ∃ o, o = f_X2_behind beh siz o11 := ⟨_, rfl⟩
                refine hI.callI (wl := w_Prog x g) (a := (((tok, beh), msk), (sec, siz))) (wr := [(h, .inr (7, [.ref (x 0), .ref (q 0), .ref (tt 0), .int turns, .int o12.2])), (q 0, .inr (4, [.ref (q 1), .ref (q 2), .ref (q 3), .ref (q 4), .ref (q 5)])), (q 1, .inl (g.2.1, 10, .inl num)), (q 2, .inl (g.2.2, 10, .inl sn)), (q 3, .inl (g.2.1, 64, .inl cel)), (q 4, .inl (g.2.1, 4, .inl szs)), (q 5, .inl (g.2.2, 4, .inl stb)), (tt 0, .inr (5, [.ref (tt 1), .int t_size])), (tt 1, .inl (g.2.1, 300, .inl t_kept))]) (ws1 := w_Walk h x q tt g ((((tok, beh), (msk, sec)), ((siz, num), sn)), (((cel, szs), (stb, t_kept)), ((t_size, turns), o12.2)))) (r := rb_X2_behind (((tok, beh), msk), (sec, siz)) o18) (As := [.int o11]) (rest := [.ref h]) hw (by rw [ho18]; exact c_X2_behind l g x tok beh msk sec siz o11 ) ok_yX2_behind ml_X8_48 (rm_ok (by omega) (by decide)) [1, 2, 3, 4, 5] [0, 6, 7, 8, 9, 10, 11, 12, 13] [0, 9, 10, 11, 12, 13, 1, 2, 3, 4, 5, 6, 7, 8] rfl rfl rfl rfl rfl 0 rfl rfl rfl rfl hl.1 (Nat.le_of_ble_eq_true rfl) dX8_valueOf_158 ⟨Nat.zero_le _, Nat.zero_le _⟩ (fun H locs hw => ?_)
                have hw : Wd g A s (w_Walk h x q tt g ((((tok, beh), (msk, sec)), ((siz, num), sn)), (((cel, szs), (stb, t_kept)), ((t_size, turns), o12.2)))) H locs := hw
                refine W.eq (g2 := F0 m 161 ls [.int o18, .ref h]) rfl ?_
                refine lv_iload_n hx hb dX8_valueOf_161 rfl (lv_at hl 8 rfl) ?_
                refine lv_iconst (v := (1 : Int32)) hx hb dX8_valueOf_162 (by decide) ?_
                refine lv_iadd hx hb dX8_valueOf_163 ?_
                obtain ⟨o19, ho19⟩ : ∃ o, o = vE tok beh siz num cel szs o12.2 o18 (x2 + (1 : Int32)) := ⟨_, rfl⟩
                refine hI.callI0 (wl := w_Walk h x q tt g) (a := ((((tok, beh), (msk, sec)), ((siz, num), sn)), (((cel, szs), (stb, t_kept)), ((t_size, turns), o12.2)))) (r := rb_X8_valueOf ((((tok, beh), (msk, sec)), ((siz, num), sn)), (((cel, szs), (stb, t_kept)), ((t_size, turns), o12.2))) o19) (As := [.int o18, .int (x2 + (1 : Int32))]) (rest := []) hw (by rw [ho19]; exact hE tok beh msk sec siz num sn cel szs stb t_kept t_size turns o12.2 o18 (x2 + (1 : Int32)) (hP c1)) ok_yX8_valueOf ml_X8_80 (rm_ok (by omega) (by decide)) 0 rfl rfl rfl rfl hl.1 (Nat.le_of_ble_eq_true rfl) dX8_valueOf_164 ⟨Nat.zero_le _, Nat.zero_le _⟩ (fun H locs hw => ?_)
                have hw : Wd g A s (w_Walk h x q tt g ((((tok, beh), (msk, sec)), ((siz, num), sn)), (((cel, szs), (stb, t_kept)), ((t_size, turns), o19.2)))) H locs := hw
                refine W.eq (g2 := F0 m 167 ls [.int o19.1]) rfl ?_
                refine lv_istore (lv' := [(9, .int o19.1), (8, .int o12.1), (7, .int o11), (6, .int o8.1), (5, .int o7), (4, .int o4), (3, .int o3), (0, .ref h), (1, .int x1), (2, .int x2)]) hx hb dX8_valueOf_167 hl (by decide) rfl (fun ls hl => ?_)
                refine lv_iload hx hb dX8_valueOf_169 (lv_at hl 3 rfl) ?_
                refine lv_if_eq (tgt := 179) hx hb dX8_valueOf_171 (by decide) (fun c20 => ?_) (fun c20 => ?_)
                · refine lv_iload hx hb dX8_valueOf_179 (lv_at hl 0 rfl) ?_
                  exact hI.retI (u := ((((tok, beh), (msk, sec)), ((siz, num), sn)), (((cel, szs), (stb, t_kept)), ((t_size, turns), o19.2)))) hw (hr.trans (congrArg (rb_X8_valueOf ((((tok, beh), (msk, sec)), ((siz, num), sn)), (((cel, szs), (stb, t_kept)), ((t_size, turns), outc)))) ((show f_X8_valueOf vE tok beh siz num cel szs outc x1 x2 = (o19.1, o19.2) from it_f c1 (it_t c2 (bd_of ho3 (bd_of ho4 (it_f c5 (it_f c6 (bd_of ho7 (bd_of ho8 (it_f c9 (it_f c10 (bd_of ho11 (bd_of ho12 (it_t c13 (bd_of ho18 (bd_of ho19 (it_t c20 (rfl)))))))))))))))))))) dX8_valueOf_181
                · refine lv_iload hx hb dX8_valueOf_174 (lv_at hl 1 rfl) ?_
                  refine lv_goto (tgt := 181) hx hb dX8_valueOf_176 (by decide) ?_
                  exact hI.retI (u := ((((tok, beh), (msk, sec)), ((siz, num), sn)), (((cel, szs), (stb, t_kept)), ((t_size, turns), o19.2)))) hw (hr.trans (congrArg (rb_X8_valueOf ((((tok, beh), (msk, sec)), ((siz, num), sn)), (((cel, szs), (stb, t_kept)), ((t_size, turns), outc)))) ((show f_X8_valueOf vE tok beh siz num cel szs outc x1 x2 = (o12.1, o19.2) from it_f c1 (it_t c2 (bd_of ho3 (bd_of ho4 (it_f c5 (it_f c6 (bd_of ho7 (bd_of ho8 (it_f c9 (it_f c10 (bd_of ho11 (bd_of ho12 (it_t c13 (bd_of ho18 (bd_of ho19 (it_f c20 (rfl)))))))))))))))))))) dX8_valueOf_181
            · refine lv_iload_n hx hb dX8_valueOf_115 rfl (lv_at hl 3 rfl) ?_
              refine lv_iload hx hb dX8_valueOf_116 (lv_at hl 0 rfl) ?_
              refine lv_iconst (v := (0 : Int32)) hx hb dX8_valueOf_118 (by decide) ?_
              obtain ⟨o21, ho21⟩ : ∃ o, o = f_X4_reckon o3 o8.1 (0 : Int32) := ⟨_, rfl⟩
              refine hI.callSI (r := o21) (As := [.int o3, .int o8.1, .int (0 : Int32)]) (rest := []) hw (by rw [ho21]; exact c_X4_reckon l g o3 o8.1 (0 : Int32)) ok_yX4_reckon ml_X8_109 (rm_ok (by omega) (by decide)) rfl rfl hl.1 (Nat.le_of_ble_eq_true rfl) dX8_valueOf_119 ⟨Nat.zero_le _, Nat.zero_le _⟩ (fun H locs hw => ?_)
              exact hI.retI (u := ((((tok, beh), (msk, sec)), ((siz, num), sn)), (((cel, szs), (stb, t_kept)), ((t_size, turns), o8.2)))) hw (hr.trans (congrArg (rb_X8_valueOf ((((tok, beh), (msk, sec)), ((siz, num), sn)), (((cel, szs), (stb, t_kept)), ((t_size, turns), outc)))) ((show f_X8_valueOf vE tok beh siz num cel szs outc x1 x2 = (o21, o8.2) from it_f c1 (it_t c2 (bd_of ho3 (bd_of ho4 (it_f c5 (it_f c6 (bd_of ho7 (bd_of ho8 (it_f c9 (it_t c10 (bd_of ho21 (rfl))))))))))))))) dX8_valueOf_122
          · refine lv_aload_n hx hb dX8_valueOf_88 rfl (lv_at hl 4 rfl) ?_
            refine hI.get (v := .ref (q 0)) hw fg_X8_15 0 rfl rfl dX8_valueOf_89 ?_
            refine lv_iload hx hb dX8_valueOf_92 (lv_at hl 2 rfl) ?_
            refine lv_aload_n hx hb dX8_valueOf_94 rfl (lv_at hl 4 rfl) ?_
            refine hI.get (v := .ref (q 0)) hw fg_X8_15 0 rfl rfl dX8_valueOf_95 ?_
            refine lv_iload hx hb dX8_valueOf_98 (lv_at hl 2 rfl) ?_
            refine lv_iload hx hb dX8_valueOf_100 (lv_at hl 0 rfl) ?_
            obtain ⟨o22, ho22⟩ : ∃ o, o = f_X5_placeIn szs o4 o8.1 := ⟨_, rfl⟩
            refine hI.callI (wl := w_Store q g) (a := (((num, sn), cel), (szs, stb))) (wr := [(h, .inr (7, [.ref (x 0), .ref (q 0), .ref (tt 0), .int turns, .int o8.2])), (x 0, .inr (2, [.ref (x 1), .ref (x 2), .ref (x 3), .ref (x 4), .int siz])), (x 1, .inl (g.2.1, 400, .inl tok)), (x 2, .inl (g.2.1, 400, .inl beh)), (x 3, .inl (g.2.1, 400, .inl msk)), (x 4, .inl (g.2.2, 400, .inl sec)), (tt 0, .inr (5, [.ref (tt 1), .int t_size])), (tt 1, .inl (g.2.1, 300, .inl t_kept))]) (ws1 := w_Walk h x q tt g ((((tok, beh), (msk, sec)), ((siz, num), sn)), (((cel, szs), (stb, t_kept)), ((t_size, turns), o8.2)))) (r := rb_X5_placeIn (((num, sn), cel), (szs, stb)) o22) (As := [.int o4, .int o8.1]) (rest := [.int o4, .ref (q 0)]) hw (by rw [ho22]; exact c_X5_placeIn l g q num sn cel szs stb o4 o8.1 ) ok_yX5_placeIn ml_X8_89 (rm_ok (by omega) (by decide)) [6, 7, 8, 9, 10, 11] [0, 1, 2, 3, 4, 5, 12, 13] [0, 1, 2, 3, 4, 5, 8, 9, 10, 11, 12, 13, 6, 7] rfl rfl rfl rfl rfl 0 rfl rfl rfl rfl hl.1 (Nat.le_of_ble_eq_true rfl) dX8_valueOf_102 ⟨Nat.zero_le _, Nat.zero_le _⟩ (fun H locs hw => ?_)
            have hw : Wd g A s (w_Walk h x q tt g ((((tok, beh), (msk, sec)), ((siz, num), sn)), (((cel, szs), (stb, t_kept)), ((t_size, turns), o8.2)))) H locs := hw
            refine W.eq (g2 := F0 m 105 ls [.int o22, .int o4, .ref (q 0)]) rfl ?_
            obtain ⟨o23, ho23⟩ : ∃ o, o = f_X5_cell cel szs o4 o22 := ⟨_, rfl⟩
            refine hI.callI (wl := w_Store q g) (a := (((num, sn), cel), (szs, stb))) (wr := [(h, .inr (7, [.ref (x 0), .ref (q 0), .ref (tt 0), .int turns, .int o8.2])), (x 0, .inr (2, [.ref (x 1), .ref (x 2), .ref (x 3), .ref (x 4), .int siz])), (x 1, .inl (g.2.1, 400, .inl tok)), (x 2, .inl (g.2.1, 400, .inl beh)), (x 3, .inl (g.2.1, 400, .inl msk)), (x 4, .inl (g.2.2, 400, .inl sec)), (tt 0, .inr (5, [.ref (tt 1), .int t_size])), (tt 1, .inl (g.2.1, 300, .inl t_kept))]) (ws1 := w_Walk h x q tt g ((((tok, beh), (msk, sec)), ((siz, num), sn)), (((cel, szs), (stb, t_kept)), ((t_size, turns), o8.2)))) (r := rb_X5_cell (((num, sn), cel), (szs, stb)) o23) (As := [.int o4, .int o22]) (rest := []) hw (by rw [ho23]; exact c_X5_cell l g q num sn cel szs stb o4 o22 ) ok_yX5_cell ml_X8_106 (rm_ok (by omega) (by decide)) [6, 7, 8, 9, 10, 11] [0, 1, 2, 3, 4, 5, 12, 13] [0, 1, 2, 3, 4, 5, 8, 9, 10, 11, 12, 13, 6, 7] rfl rfl rfl rfl rfl 0 rfl rfl rfl rfl hl.1 (Nat.le_of_ble_eq_true rfl) dX8_valueOf_105 ⟨Nat.zero_le _, Nat.zero_le _⟩ (fun H locs hw => ?_)
            have hw : Wd g A s (w_Walk h x q tt g ((((tok, beh), (msk, sec)), ((siz, num), sn)), (((cel, szs), (stb, t_kept)), ((t_size, turns), o8.2)))) H locs := hw
            refine W.eq (g2 := F0 m 108 ls [.int o23]) rfl ?_
            exact hI.retI (u := ((((tok, beh), (msk, sec)), ((siz, num), sn)), (((cel, szs), (stb, t_kept)), ((t_size, turns), o8.2)))) hw (hr.trans (congrArg (rb_X8_valueOf ((((tok, beh), (msk, sec)), ((siz, num), sn)), (((cel, szs), (stb, t_kept)), ((t_size, turns), outc)))) ((show f_X8_valueOf vE tok beh siz num cel szs outc x1 x2 = (o23, o8.2) from it_f c1 (it_t c2 (bd_of ho3 (bd_of ho4 (it_f c5 (it_f c6 (bd_of ho7 (bd_of ho8 (it_t c9 (bd_of ho22 (bd_of ho23 (rfl))))))))))))))) dX8_valueOf_108
        · refine lv_aload_n hx hb dX8_valueOf_51 rfl (lv_at hl 2 rfl) ?_
          refine hI.get (v := .ref (q 0)) hw fg_X8_15 0 rfl rfl dX8_valueOf_52 ?_
          refine lv_iload hx hb dX8_valueOf_55 (lv_at hl 0 rfl) ?_
          obtain ⟨o24, ho24⟩ : ∃ o, o = f_X5_numberOf num o4 := ⟨_, rfl⟩
          refine hI.callI (wl := w_Store q g) (a := (((num, sn), cel), (szs, stb))) (wr := [(h, .inr (7, [.ref (x 0), .ref (q 0), .ref (tt 0), .int turns, .int outc])), (x 0, .inr (2, [.ref (x 1), .ref (x 2), .ref (x 3), .ref (x 4), .int siz])), (x 1, .inl (g.2.1, 400, .inl tok)), (x 2, .inl (g.2.1, 400, .inl beh)), (x 3, .inl (g.2.1, 400, .inl msk)), (x 4, .inl (g.2.2, 400, .inl sec)), (tt 0, .inr (5, [.ref (tt 1), .int t_size])), (tt 1, .inl (g.2.1, 300, .inl t_kept))]) (ws1 := w_Walk h x q tt g ((((tok, beh), (msk, sec)), ((siz, num), sn)), (((cel, szs), (stb, t_kept)), ((t_size, turns), outc)))) (r := rb_X5_numberOf (((num, sn), cel), (szs, stb)) o24) (As := [.int o4]) (rest := []) hw (by rw [ho24]; exact c_X5_numberOf l g q num sn cel szs stb o4 ) ok_yX5_numberOf ml_X8_103 (rm_ok (by omega) (by decide)) [6, 7, 8, 9, 10, 11] [0, 1, 2, 3, 4, 5, 12, 13] [0, 1, 2, 3, 4, 5, 8, 9, 10, 11, 12, 13, 6, 7] rfl rfl rfl rfl rfl 0 rfl rfl rfl rfl hl.1 (Nat.le_of_ble_eq_true rfl) dX8_valueOf_57 ⟨Nat.zero_le _, Nat.zero_le _⟩ (fun H locs hw => ?_)
          have hw : Wd g A s (w_Walk h x q tt g ((((tok, beh), (msk, sec)), ((siz, num), sn)), (((cel, szs), (stb, t_kept)), ((t_size, turns), outc)))) H locs := hw
          refine W.eq (g2 := F0 m 60 ls [.int o24]) rfl ?_
          exact hI.retI (u := ((((tok, beh), (msk, sec)), ((siz, num), sn)), (((cel, szs), (stb, t_kept)), ((t_size, turns), outc)))) hw (hr.trans (congrArg (rb_X8_valueOf ((((tok, beh), (msk, sec)), ((siz, num), sn)), (((cel, szs), (stb, t_kept)), ((t_size, turns), outc)))) ((show f_X8_valueOf vE tok beh siz num cel szs outc x1 x2 = (o24, outc) from it_f c1 (it_t c2 (bd_of ho3 (bd_of ho4 (it_f c5 (it_t c6 (bd_of ho24 (rfl))))))))))) dX8_valueOf_60
      · refine lv_iload hx hb dX8_valueOf_42 (lv_at hl 0 rfl) ?_
        exact hI.retI (u := ((((tok, beh), (msk, sec)), ((siz, num), sn)), (((cel, szs), (stb, t_kept)), ((t_size, turns), outc)))) hw (hr.trans (congrArg (rb_X8_valueOf ((((tok, beh), (msk, sec)), ((siz, num), sn)), (((cel, szs), (stb, t_kept)), ((t_size, turns), outc)))) ((show f_X8_valueOf vE tok beh siz num cel szs outc x1 x2 = (o4, outc) from it_f c1 (it_t c2 (bd_of ho3 (bd_of ho4 (it_t c5 (rfl))))))))) dX8_valueOf_44
    · refine lv_iconst (v := (0 : Int32)) hx hb dX8_valueOf_13 (by decide) ?_
      exact hI.retI (u := ((((tok, beh), (msk, sec)), ((siz, num), sn)), (((cel, szs), (stb, t_kept)), ((t_size, turns), outc)))) hw (hr.trans (congrArg (rb_X8_valueOf ((((tok, beh), (msk, sec)), ((siz, num), sn)), (((cel, szs), (stb, t_kept)), ((t_size, turns), outc)))) ((show f_X8_valueOf vE tok beh siz num cel szs outc x1 x2 = ((0 : Int32), outc) from it_f c1 (it_f c2 (rfl)))))) dX8_valueOf_14
