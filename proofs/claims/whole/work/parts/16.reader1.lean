abbrev S_Reader : Type := (((((Nat → Int32) × (Nat → Int32)) × ((Nat → Int32) × (Nat → Int32))) × ((Int32 × (Nat → Int32)) × (Nat → Int32))) × ((((Nat → Int32) × (Nat → Int32)) × (Nat → Int32)) × ((Int32 × Int32) × Int32)))
def w_Reader (h : Nat) (x : Nat → Nat) (q : Nat → Nat) (g : GG) (σ : S_Reader) : va_W := [(h, .inr (3, [.ref (x 0), .ref (q 0), .int σ.2.2.1.1, .int σ.2.2.1.2, .int σ.2.2.2])), (x 0, .inr (2, [.ref (x 1), .ref (x 2), .ref (x 3), .ref (x 4), .int σ.1.2.1.1])), (x 1, .inl (g.2.1, 400, .inl σ.1.1.1.1)), (x 2, .inl (g.2.1, 400, .inl σ.1.1.1.2)), (x 3, .inl (g.2.1, 400, .inl σ.1.1.2.1)), (x 4, .inl (g.2.2, 400, .inl σ.1.1.2.2)), (q 0, .inr (4, [.ref (q 1), .ref (q 2), .ref (q 3), .ref (q 4), .ref (q 5)])), (q 1, .inl (g.2.1, 10, .inl σ.1.2.1.2)), (q 2, .inl (g.2.2, 10, .inl σ.1.2.2)), (q 3, .inl (g.2.1, 64, .inl σ.2.1.1.1)), (q 4, .inl (g.2.1, 4, .inl σ.2.1.1.2)), (q 5, .inl (g.2.2, 4, .inl σ.2.1.2))]
theorem z01_X5_isSecretVariable (sn : Nat → Int32) (x1 : Int32) : f_X5_isSecretVariable sn x1 = 0 ∨ f_X5_isSecretVariable sn x1 = 1 := by
  show zP0 (f_X5_isSecretVariable sn x1)
  unfold f_X5_isSecretVariable
  repeat' (first | with_reducible refine z_ite (fun _ => ?_) (fun _ => ?_) | with_reducible refine z_bd (fun o ho => ?_))
  all_goals first | with_reducible exact z0_0 | with_reducible exact z0_1 | with_reducible exact z1_0 | with_reducible exact z1_1
theorem z01_X5_isSecretTable (stb : Nat → Int32) (x1 : Int32) : f_X5_isSecretTable stb x1 = 0 ∨ f_X5_isSecretTable stb x1 = 1 := by
  show zP0 (f_X5_isSecretTable stb x1)
  unfold f_X5_isSecretTable
  repeat' (first | with_reducible refine z_ite (fun _ => ?_) (fun _ => ?_) | with_reducible refine z_bd (fun o ho => ?_))
  all_goals first | with_reducible exact z0_0 | with_reducible exact z0_1 | with_reducible exact z1_0 | with_reducible exact z1_1
def f_X3_faultPlace (fplace : Int32) : Int32 := (fplace)
def rb_X3_faultPlace (σ : S_Reader) (o : Int32) : Int32 × S_Reader := (o, σ)
set_option maxHeartbeats 4000000 in
set_option maxRecDepth 100000 in
theorem c_X3_faultPlace (l : Launch) (g : GG) (h : Nat) (x : Nat → Nat) (q : Nat → Nat) (tok : Nat → Int32) (beh : Nat → Int32) (msk : Nat → Int32) (sec : Nat → Int32) (siz : Int32) (num : Nat → Int32) (sn : Nat → Int32) (cel : Nat → Int32) (szs : Nat → Int32) (stb : Nat → Int32) (next : Int32) (fault : Int32) (fplace : Int32) : CI l g yX3_faultPlace cX3_faultPlace 1 (some .int) (rmN 0) (w_Reader h x q g) [.ref h] ((((tok, beh), (msk, sec)), ((siz, num), sn)), (((cel, szs), stb), ((next, fault), fplace))) (rb_X3_faultPlace ((((tok, beh), (msk, sec)), ((siz, num), sn)), (((cel, szs), stb), ((next, fault), fplace))) (f_X3_faultPlace fplace)) := by
  refine CI.mk (by decide) (Nat.le_of_ble_eq_true rfl) ?_
  intro p e s m below meth c A ls hI hw hl
  have hx := hI.1
  have hb := hI.2.1
  obtain ⟨r, hr⟩ : ∃ r, r = rb_X3_faultPlace ((((tok, beh), (msk, sec)), ((siz, num), sn)), (((cel, szs), stb), ((next, fault), fplace))) (f_X3_faultPlace fplace) := ⟨_, rfl⟩
  rw [← hr]
  have hl : lv_has ls 1 [(0, .ref h)] := hl
  refine lv_aload_n hx hb dX3_faultPlace_0 rfl (lv_at hl 0 rfl) ?_
  refine hI.get (v := .int fplace) hw fg_X3_19 0 rfl rfl dX3_faultPlace_1 ?_
  exact hI.retI (u := ((((tok, beh), (msk, sec)), ((siz, num), sn)), (((cel, szs), stb), ((next, fault), fplace)))) hw (hr.trans (congrArg (rb_X3_faultPlace ((((tok, beh), (msk, sec)), ((siz, num), sn)), (((cel, szs), stb), ((next, fault), fplace)))) ((show f_X3_faultPlace fplace = (fplace) from rfl)))) dX3_faultPlace_4
def f_X3_blame (fault : Int32) (fplace : Int32) (x1 : Int32) (x2 : Int32) : (Int32 × Int32) := if fault = 0 then ((x1, x2)) else ((fault, fplace))
def rb_X3_blame (σ : S_Reader) (o : (Int32 × Int32)) : S_Reader := ((((σ.1.1.1.1, σ.1.1.1.2), (σ.1.1.2.1, σ.1.1.2.2)), ((σ.1.2.1.1, σ.1.2.1.2), σ.1.2.2)), (((σ.2.1.1.1, σ.2.1.1.2), σ.2.1.2), ((σ.2.2.1.1, o.1), o.2)))
set_option maxHeartbeats 4000000 in
set_option maxRecDepth 100000 in
theorem c_X3_blame (l : Launch) (g : GG) (h : Nat) (x : Nat → Nat) (q : Nat → Nat) (tok : Nat → Int32) (beh : Nat → Int32) (msk : Nat → Int32) (sec : Nat → Int32) (siz : Int32) (num : Nat → Int32) (sn : Nat → Int32) (cel : Nat → Int32) (szs : Nat → Int32) (stb : Nat → Int32) (next : Int32) (fault : Int32) (fplace : Int32) (x1 : Int32) (x2 : Int32) : CV l g yX3_blame cX3_blame 3 none (rmN 0) (w_Reader h x q g) [.ref h, .int x1, .int x2] ((((tok, beh), (msk, sec)), ((siz, num), sn)), (((cel, szs), stb), ((next, fault), fplace))) (rb_X3_blame ((((tok, beh), (msk, sec)), ((siz, num), sn)), (((cel, szs), stb), ((next, fault), fplace))) (f_X3_blame fault fplace x1 x2)) := by
  refine CV.mk (by decide) (Nat.le_of_ble_eq_true rfl) ?_
  intro p e s m below meth c A ls hI hw hl
  have hx := hI.1
  have hb := hI.2.1
  obtain ⟨r, hr⟩ : ∃ r, r = rb_X3_blame ((((tok, beh), (msk, sec)), ((siz, num), sn)), (((cel, szs), stb), ((next, fault), fplace))) (f_X3_blame fault fplace x1 x2) := ⟨_, rfl⟩
  rw [← hr]
  have hl : lv_has ls 3 [(0, .ref h), (1, .int x1), (2, .int x2)] := hl
  refine lv_aload_n hx hb dX3_blame_0 rfl (lv_at hl 0 rfl) ?_
  refine hI.get (v := .int fault) hw fg_X3_26 0 rfl rfl dX3_blame_1 ?_
  refine lv_if_ne (tgt := 17) hx hb dX3_blame_4 (by decide) (fun c1 => ?_) (fun c1 => ?_)
  · exact hI.retV (u := ((((tok, beh), (msk, sec)), ((siz, num), sn)), (((cel, szs), stb), ((next, fault), fplace)))) hw (hr.trans (congrArg (rb_X3_blame ((((tok, beh), (msk, sec)), ((siz, num), sn)), (((cel, szs), stb), ((next, fault), fplace)))) ((show f_X3_blame fault fplace x1 x2 = ((fault, fplace)) from it_f c1 (rfl))))) dX3_blame_17
  · refine lv_aload_n hx hb dX3_blame_7 rfl (lv_at hl 0 rfl) ?_
    refine lv_iload_n hx hb dX3_blame_8 rfl (lv_at hl 1 rfl) ?_
    refine hI.put hw fp_X3_26 rfl 0 rfl rfl rfl (Nat.le_of_ble_eq_true rfl) dX3_blame_9 (fun H locs hw => ?_)
    have hw : Wd g A s (w_Reader h x q g ((((tok, beh), (msk, sec)), ((siz, num), sn)), (((cel, szs), stb), ((next, x1), fplace)))) H locs := hw
    refine lv_aload_n hx hb dX3_blame_12 rfl (lv_at hl 0 rfl) ?_
    refine lv_iload_n hx hb dX3_blame_13 rfl (lv_at hl 2 rfl) ?_
    refine hI.put hw fp_X3_19 rfl 0 rfl rfl rfl (Nat.le_of_ble_eq_true rfl) dX3_blame_14 (fun H locs hw => ?_)
    have hw : Wd g A s (w_Reader h x q g ((((tok, beh), (msk, sec)), ((siz, num), sn)), (((cel, szs), stb), ((next, x1), x2)))) H locs := hw
    exact hI.retV (u := ((((tok, beh), (msk, sec)), ((siz, num), sn)), (((cel, szs), stb), ((next, x1), x2)))) hw (hr.trans (congrArg (rb_X3_blame ((((tok, beh), (msk, sec)), ((siz, num), sn)), (((cel, szs), stb), ((next, fault), fplace)))) ((show f_X3_blame fault fplace x1 x2 = ((x1, x2)) from it_t c1 (rfl))))) dX3_blame_17
def f_X3_mayBegin (siz : Int32) (next : Int32) (fault : Int32) (fplace : Int32) (x1 : Int32) (x2 : Int32) : Int32 × ((Int32 × Int32) × Int32) := if x1 = 0 then bd (f_X3_blame fault fplace (-11 : Int32) next) (fun o2 => if o2.1 = 0 then ((1 : Int32), ((next, o2.1), o2.2)) else ((0 : Int32), ((next, o2.1), o2.2))) else bd (f_X2_has siz next) (fun o4 => if o4 = 0 then bd (f_X3_blame fault fplace (-11 : Int32) next) (fun o10 => if o10.1 = 0 then ((1 : Int32), ((next, o10.1), o10.2)) else ((0 : Int32), ((next, o10.1), o10.2))) else if x2 < (12 : Int32) then if fault = 0 then ((1 : Int32), ((next + (1 : Int32), fault), fplace)) else ((0 : Int32), ((next + (1 : Int32), fault), fplace)) else bd (f_X3_blame fault fplace (-13 : Int32) next) (fun o8 => if o8.1 = 0 then ((1 : Int32), ((next, o8.1), o8.2)) else ((0 : Int32), ((next, o8.1), o8.2))))
def rb_X3_mayBegin (σ : S_Reader) (o : Int32 × ((Int32 × Int32) × Int32)) : Int32 × S_Reader := (o.1, ((((σ.1.1.1.1, σ.1.1.1.2), (σ.1.1.2.1, σ.1.1.2.2)), ((σ.1.2.1.1, σ.1.2.1.2), σ.1.2.2)), (((σ.2.1.1.1, σ.2.1.1.2), σ.2.1.2), ((o.2.1.1, o.2.1.2), o.2.2))))
set_option maxHeartbeats 4000000 in
set_option maxRecDepth 100000 in
theorem c_X3_mayBegin (l : Launch) (g : GG) (h : Nat) (x : Nat → Nat) (q : Nat → Nat) (tok : Nat → Int32) (beh : Nat → Int32) (msk : Nat → Int32) (sec : Nat → Int32) (siz : Int32) (num : Nat → Int32) (sn : Nat → Int32) (cel : Nat → Int32) (szs : Nat → Int32) (stb : Nat → Int32) (next : Int32) (fault : Int32) (fplace : Int32) (x1 : Int32) (x2 : Int32) : CI l g yX3_mayBegin cX3_mayBegin 3 (some .boolean) (rmN 1) (w_Reader h x q g) [.ref h, .int x1, .int x2] ((((tok, beh), (msk, sec)), ((siz, num), sn)), (((cel, szs), stb), ((next, fault), fplace))) (rb_X3_mayBegin ((((tok, beh), (msk, sec)), ((siz, num), sn)), (((cel, szs), stb), ((next, fault), fplace))) (f_X3_mayBegin siz next fault fplace x1 x2)) := by
  refine CI.mk (by decide) (Nat.le_of_ble_eq_true rfl) ?_
  intro p e s m below meth c A ls hI hw hl
  have hx := hI.1
  have hb := hI.2.1
  obtain ⟨r, hr⟩ : ∃ r, r = rb_X3_mayBegin ((((tok, beh), (msk, sec)), ((siz, num), sn)), (((cel, szs), stb), ((next, fault), fplace))) (f_X3_mayBegin siz next fault fplace x1 x2) := ⟨_, rfl⟩
  rw [← hr]
  have hl : lv_has ls 3 [(0, .ref h), (1, .int x1), (2, .int x2)] := hl
  refine lv_iload_n hx hb dX3_mayBegin_0 rfl (lv_at hl 1 rfl) ?_
  refine lv_if_eq (tgt := 18) hx hb dX3_mayBegin_1 (by decide) (fun c1 => ?_) (fun c1 => ?_)
  · refine lv_aload_n hx hb dX3_mayBegin_18 rfl (lv_at hl 0 rfl) ?_
    refine lv_bipush (v := (-11 : Int32)) hx hb dX3_mayBegin_19 (by decide) ?_
    refine lv_aload_n hx hb dX3_mayBegin_21 rfl (lv_at hl 0 rfl) ?_
    refine hI.get (v := .int next) hw fg_X3_23 0 rfl rfl dX3_mayBegin_22 ?_
    obtain ⟨o2, ho2⟩ : ∃ o, o = f_X3_blame fault fplace (-11 : Int32) next := ⟨_, rfl⟩
    refine hI.callV0 (wl := w_Reader h x q g) (a := ((((tok, beh), (msk, sec)), ((siz, num), sn)), (((cel, szs), stb), ((next, fault), fplace)))) (r := rb_X3_blame ((((tok, beh), (msk, sec)), ((siz, num), sn)), (((cel, szs), stb), ((next, fault), fplace))) o2) (As := [.int (-11 : Int32), .int next]) (rest := []) hw (by rw [ho2]; exact c_X3_blame l g h x q tok beh msk sec siz num sn cel szs stb next fault fplace (-11 : Int32) next ) ok_yX3_blame ml_X3_39 (rm_ok (by decide) (by decide)) 0 rfl rfl rfl rfl hl.1 (Nat.le_of_ble_eq_true rfl) dX3_mayBegin_25 ⟨Nat.zero_le _, Nat.zero_le _⟩ (fun H locs hw => ?_)
    have hw : Wd g A s (w_Reader h x q g ((((tok, beh), (msk, sec)), ((siz, num), sn)), (((cel, szs), stb), ((next, o2.1), o2.2)))) H locs := hw
    refine W.eq (g2 := F0 m 28 ls []) rfl ?_
    refine lv_goto (tgt := 60) hx hb dX3_mayBegin_28 (by decide) ?_
    refine lv_aload_n hx hb dX3_mayBegin_60 rfl (lv_at hl 0 rfl) ?_
    refine hI.get (v := .int o2.1) hw fg_X3_26 0 rfl rfl dX3_mayBegin_61 ?_
    refine lv_if_ne (tgt := 71) hx hb dX3_mayBegin_64 (by decide) (fun c3 => ?_) (fun c3 => ?_)
    · refine lv_iconst (v := (0 : Int32)) hx hb dX3_mayBegin_71 (by decide) ?_
      exact hI.retZ (u := ((((tok, beh), (msk, sec)), ((siz, num), sn)), (((cel, szs), stb), ((next, o2.1), o2.2)))) hw rfl (hr.trans (congrArg (rb_X3_mayBegin ((((tok, beh), (msk, sec)), ((siz, num), sn)), (((cel, szs), stb), ((next, fault), fplace)))) ((show f_X3_mayBegin siz next fault fplace x1 x2 = ((0 : Int32), ((next, o2.1), o2.2)) from it_t c1 (bd_of ho2 (it_f c3 (rfl))))))) dX3_mayBegin_72
    · refine lv_iconst (v := (1 : Int32)) hx hb dX3_mayBegin_67 (by decide) ?_
      refine lv_goto (tgt := 72) hx hb dX3_mayBegin_68 (by decide) ?_
      exact hI.retZ (u := ((((tok, beh), (msk, sec)), ((siz, num), sn)), (((cel, szs), stb), ((next, o2.1), o2.2)))) hw rfl (hr.trans (congrArg (rb_X3_mayBegin ((((tok, beh), (msk, sec)), ((siz, num), sn)), (((cel, szs), stb), ((next, fault), fplace)))) ((show f_X3_mayBegin siz next fault fplace x1 x2 = ((1 : Int32), ((next, o2.1), o2.2)) from it_t c1 (bd_of ho2 (it_t c3 (rfl))))))) dX3_mayBegin_72
  · refine lv_aload_n hx hb dX3_mayBegin_4 rfl (lv_at hl 0 rfl) ?_
    refine hI.get (v := .ref (x 0)) hw fg_X3_9 0 rfl rfl dX3_mayBegin_5 ?_
    refine lv_aload_n hx hb dX3_mayBegin_8 rfl (lv_at hl 0 rfl) ?_
    refine hI.get (v := .int next) hw fg_X3_23 0 rfl rfl dX3_mayBegin_9 ?_
    obtain ⟨o4, ho4⟩ : ∃ o, o = f_X2_has siz next := ⟨_, rfl⟩
    refine hI.callI (wl := w_Prog x g) (a := (((tok, beh), msk), (sec, siz))) (wr := [(h, .inr (3, [.ref (x 0), .ref (q 0), .int next, .int fault, .int fplace])), (q 0, .inr (4, [.ref (q 1), .ref (q 2), .ref (q 3), .ref (q 4), .ref (q 5)])), (q 1, .inl (g.2.1, 10, .inl num)), (q 2, .inl (g.2.2, 10, .inl sn)), (q 3, .inl (g.2.1, 64, .inl cel)), (q 4, .inl (g.2.1, 4, .inl szs)), (q 5, .inl (g.2.2, 4, .inl stb))]) (ws1 := w_Reader h x q g ((((tok, beh), (msk, sec)), ((siz, num), sn)), (((cel, szs), stb), ((next, fault), fplace)))) (r := rb_X2_has (((tok, beh), msk), (sec, siz)) o4) (As := [.int next]) (rest := []) hw (by rw [ho4]; exact c_X2_has l g x tok beh msk sec siz next ) ok_yX2_has ml_X3_33 (rm_ok (by decide) (by decide)) [1, 2, 3, 4, 5] [0, 6, 7, 8, 9, 10, 11] [0, 7, 8, 9, 10, 11, 1, 2, 3, 4, 5, 6] rfl rfl rfl rfl rfl 0 rfl rfl rfl rfl hl.1 (Nat.le_of_ble_eq_true rfl) dX3_mayBegin_12 ⟨Nat.zero_le _, Nat.zero_le _⟩ (fun H locs hw => ?_)
    have hw : Wd g A s (w_Reader h x q g ((((tok, beh), (msk, sec)), ((siz, num), sn)), (((cel, szs), stb), ((next, fault), fplace)))) H locs := hw
    refine W.eq (g2 := F0 m 15 ls [.int o4]) rfl ?_
    refine lv_if_ne (tgt := 31) hx hb dX3_mayBegin_15 (by decide) (fun c5 => ?_) (fun c5 => ?_)
    · refine lv_iload_n hx hb dX3_mayBegin_31 rfl (lv_at hl 2 rfl) ?_
      refine lv_bipush (v := (12 : Int32)) hx hb dX3_mayBegin_32 (by decide) ?_
      refine lv_icmp_lt (tgt := 50) hx hb dX3_mayBegin_34 (by decide) (fun c6 => ?_) (fun c6 => ?_)
      · refine lv_aload_n hx hb dX3_mayBegin_50 rfl (lv_at hl 0 rfl) ?_
        refine lv_dup hx hb dX3_mayBegin_51 rfl ?_
        refine hI.get (v := .int next) hw fg_X3_23 0 rfl rfl dX3_mayBegin_52 ?_
        refine lv_iconst (v := (1 : Int32)) hx hb dX3_mayBegin_55 (by decide) ?_
        refine lv_iadd hx hb dX3_mayBegin_56 ?_
        refine hI.put hw fp_X3_23 rfl 0 rfl rfl rfl (Nat.le_of_ble_eq_true rfl) dX3_mayBegin_57 (fun H locs hw => ?_)
        have hw : Wd g A s (w_Reader h x q g ((((tok, beh), (msk, sec)), ((siz, num), sn)), (((cel, szs), stb), ((next + (1 : Int32), fault), fplace)))) H locs := hw
        refine lv_aload_n hx hb dX3_mayBegin_60 rfl (lv_at hl 0 rfl) ?_
        refine hI.get (v := .int fault) hw fg_X3_26 0 rfl rfl dX3_mayBegin_61 ?_
        refine lv_if_ne (tgt := 71) hx hb dX3_mayBegin_64 (by decide) (fun c7 => ?_) (fun c7 => ?_)
        · refine lv_iconst (v := (0 : Int32)) hx hb dX3_mayBegin_71 (by decide) ?_
          exact hI.retZ (u := ((((tok, beh), (msk, sec)), ((siz, num), sn)), (((cel, szs), stb), ((next + (1 : Int32), fault), fplace)))) hw rfl (hr.trans (congrArg (rb_X3_mayBegin ((((tok, beh), (msk, sec)), ((siz, num), sn)), (((cel, szs), stb), ((next, fault), fplace)))) ((show f_X3_mayBegin siz next fault fplace x1 x2 = ((0 : Int32), ((next + (1 : Int32), fault), fplace)) from it_f c1 (bd_of ho4 (it_f c5 (it_t c6 (it_f c7 (rfl))))))))) dX3_mayBegin_72
        · refine lv_iconst (v := (1 : Int32)) hx hb dX3_mayBegin_67 (by decide) ?_
          refine lv_goto (tgt := 72) hx hb dX3_mayBegin_68 (by decide) ?_
          exact hI.retZ (u := ((((tok, beh), (msk, sec)), ((siz, num), sn)), (((cel, szs), stb), ((next + (1 : Int32), fault), fplace)))) hw rfl (hr.trans (congrArg (rb_X3_mayBegin ((((tok, beh), (msk, sec)), ((siz, num), sn)), (((cel, szs), stb), ((next, fault), fplace)))) ((show f_X3_mayBegin siz next fault fplace x1 x2 = ((1 : Int32), ((next + (1 : Int32), fault), fplace)) from it_f c1 (bd_of ho4 (it_f c5 (it_t c6 (it_t c7 (rfl))))))))) dX3_mayBegin_72
      · refine lv_aload_n hx hb dX3_mayBegin_37 rfl (lv_at hl 0 rfl) ?_
        refine lv_bipush (v := (-13 : Int32)) hx hb dX3_mayBegin_38 (by decide) ?_
        refine lv_aload_n hx hb dX3_mayBegin_40 rfl (lv_at hl 0 rfl) ?_
        refine hI.get (v := .int next) hw fg_X3_23 0 rfl rfl dX3_mayBegin_41 ?_
        obtain ⟨o8, ho8⟩ : ∃ o, o = f_X3_blame fault fplace (-13 : Int32) next := ⟨_, rfl⟩
        refine hI.callV0 (wl := w_Reader h x q g) (a := ((((tok, beh), (msk, sec)), ((siz, num), sn)), (((cel, szs), stb), ((next, fault), fplace)))) (r := rb_X3_blame ((((tok, beh), (msk, sec)), ((siz, num), sn)), (((cel, szs), stb), ((next, fault), fplace))) o8) (As := [.int (-13 : Int32), .int next]) (rest := []) hw (by rw [ho8]; exact c_X3_blame l g h x q tok beh msk sec siz num sn cel szs stb next fault fplace (-13 : Int32) next ) ok_yX3_blame ml_X3_39 (rm_ok (by decide) (by decide)) 0 rfl rfl rfl rfl hl.1 (Nat.le_of_ble_eq_true rfl) dX3_mayBegin_44 ⟨Nat.zero_le _, Nat.zero_le _⟩ (fun H locs hw => ?_)
        have hw : Wd g A s (w_Reader h x q g ((((tok, beh), (msk, sec)), ((siz, num), sn)), (((cel, szs), stb), ((next, o8.1), o8.2)))) H locs := hw
        refine W.eq (g2 := F0 m 47 ls []) rfl ?_
        refine lv_goto (tgt := 60) hx hb dX3_mayBegin_47 (by decide) ?_
        refine lv_aload_n hx hb dX3_mayBegin_60 rfl (lv_at hl 0 rfl) ?_
        refine hI.get (v := .int o8.1) hw fg_X3_26 0 rfl rfl dX3_mayBegin_61 ?_
        refine lv_if_ne (tgt := 71) hx hb dX3_mayBegin_64 (by decide) (fun c9 => ?_) (fun c9 => ?_)
        · refine lv_iconst (v := (0 : Int32)) hx hb dX3_mayBegin_71 (by decide) ?_
          exact hI.retZ (u := ((((tok, beh), (msk, sec)), ((siz, num), sn)), (((cel, szs), stb), ((next, o8.1), o8.2)))) hw rfl (hr.trans (congrArg (rb_X3_mayBegin ((((tok, beh), (msk, sec)), ((siz, num), sn)), (((cel, szs), stb), ((next, fault), fplace)))) ((show f_X3_mayBegin siz next fault fplace x1 x2 = ((0 : Int32), ((next, o8.1), o8.2)) from it_f c1 (bd_of ho4 (it_f c5 (it_f c6 (bd_of ho8 (it_f c9 (rfl)))))))))) dX3_mayBegin_72
        · refine lv_iconst (v := (1 : Int32)) hx hb dX3_mayBegin_67 (by decide) ?_
          refine lv_goto (tgt := 72) hx hb dX3_mayBegin_68 (by decide) ?_
          exact hI.retZ (u := ((((tok, beh), (msk, sec)), ((siz, num), sn)), (((cel, szs), stb), ((next, o8.1), o8.2)))) hw rfl (hr.trans (congrArg (rb_X3_mayBegin ((((tok, beh), (msk, sec)), ((siz, num), sn)), (((cel, szs), stb), ((next, fault), fplace)))) ((show f_X3_mayBegin siz next fault fplace x1 x2 = ((1 : Int32), ((next, o8.1), o8.2)) from it_f c1 (bd_of ho4 (it_f c5 (it_f c6 (bd_of ho8 (it_t c9 (rfl)))))))))) dX3_mayBegin_72
    · refine lv_aload_n hx hb dX3_mayBegin_18 rfl (lv_at hl 0 rfl) ?_
      refine lv_bipush (v := (-11 : Int32)) hx hb dX3_mayBegin_19 (by decide) ?_
      refine lv_aload_n hx hb dX3_mayBegin_21 rfl (lv_at hl 0 rfl) ?_
      refine hI.get (v := .int next) hw fg_X3_23 0 rfl rfl dX3_mayBegin_22 ?_
      obtain ⟨o10, ho10⟩ : ∃ o, o = f_X3_blame fault fplace (-11 : Int32) next := ⟨_, rfl⟩
      refine hI.callV0 (wl := w_Reader h x q g) (a := ((((tok, beh), (msk, sec)), ((siz, num), sn)), (((cel, szs), stb), ((next, fault), fplace)))) (r := rb_X3_blame ((((tok, beh), (msk, sec)), ((siz, num), sn)), (((cel, szs), stb), ((next, fault), fplace))) o10) (As := [.int (-11 : Int32), .int next]) (rest := []) hw (by rw [ho10]; exact c_X3_blame l g h x q tok beh msk sec siz num sn cel szs stb next fault fplace (-11 : Int32) next ) ok_yX3_blame ml_X3_39 (rm_ok (by decide) (by decide)) 0 rfl rfl rfl rfl hl.1 (Nat.le_of_ble_eq_true rfl) dX3_mayBegin_25 ⟨Nat.zero_le _, Nat.zero_le _⟩ (fun H locs hw => ?_)
      have hw : Wd g A s (w_Reader h x q g ((((tok, beh), (msk, sec)), ((siz, num), sn)), (((cel, szs), stb), ((next, o10.1), o10.2)))) H locs := hw
      refine W.eq (g2 := F0 m 28 ls []) rfl ?_
      refine lv_goto (tgt := 60) hx hb dX3_mayBegin_28 (by decide) ?_
      refine lv_aload_n hx hb dX3_mayBegin_60 rfl (lv_at hl 0 rfl) ?_
      refine hI.get (v := .int o10.1) hw fg_X3_26 0 rfl rfl dX3_mayBegin_61 ?_
      refine lv_if_ne (tgt := 71) hx hb dX3_mayBegin_64 (by decide) (fun c11 => ?_) (fun c11 => ?_)
      · refine lv_iconst (v := (0 : Int32)) hx hb dX3_mayBegin_71 (by decide) ?_
        exact hI.retZ (u := ((((tok, beh), (msk, sec)), ((siz, num), sn)), (((cel, szs), stb), ((next, o10.1), o10.2)))) hw rfl (hr.trans (congrArg (rb_X3_mayBegin ((((tok, beh), (msk, sec)), ((siz, num), sn)), (((cel, szs), stb), ((next, fault), fplace)))) ((show f_X3_mayBegin siz next fault fplace x1 x2 = ((0 : Int32), ((next, o10.1), o10.2)) from it_f c1 (bd_of ho4 (it_t c5 (bd_of ho10 (it_f c11 (rfl))))))))) dX3_mayBegin_72
      · refine lv_iconst (v := (1 : Int32)) hx hb dX3_mayBegin_67 (by decide) ?_
        refine lv_goto (tgt := 72) hx hb dX3_mayBegin_68 (by decide) ?_
        exact hI.retZ (u := ((((tok, beh), (msk, sec)), ((siz, num), sn)), (((cel, szs), stb), ((next, o10.1), o10.2)))) hw rfl (hr.trans (congrArg (rb_X3_mayBegin ((((tok, beh), (msk, sec)), ((siz, num), sn)), (((cel, szs), stb), ((next, fault), fplace)))) ((show f_X3_mayBegin siz next fault fplace x1 x2 = ((1 : Int32), ((next, o10.1), o10.2)) from it_f c1 (bd_of ho4 (it_t c5 (bd_of ho10 (it_t c11 (rfl))))))))) dX3_mayBegin_72
def f_X3_readBelow (tok : Nat → Int32) (siz : Int32) (next : Int32) (fault : Int32) (fplace : Int32) (x1 : Int32) : Int32 × ((Int32 × Int32) × Int32) := bd (f_X2_tokenAt tok siz next) (fun o1 => bd (f_X2_has siz next) (fun o2 => if o2 = 0 then bd (f_X3_blame fault fplace (-11 : Int32) next) (fun o8 => (o1, ((next, o8.1), o8.2))) else if o1 < 0 then bd (f_X3_blame fault fplace (-12 : Int32) next) (fun o5 => (o1, ((next, o5.1), o5.2))) else if o1 < x1 then (o1, ((next + (1 : Int32), fault), fplace)) else bd (f_X3_blame fault fplace (-12 : Int32) next) (fun o7 => (o1, ((next, o7.1), o7.2)))))
def rb_X3_readBelow (σ : S_Reader) (o : Int32 × ((Int32 × Int32) × Int32)) : Int32 × S_Reader := (o.1, ((((σ.1.1.1.1, σ.1.1.1.2), (σ.1.1.2.1, σ.1.1.2.2)), ((σ.1.2.1.1, σ.1.2.1.2), σ.1.2.2)), (((σ.2.1.1.1, σ.2.1.1.2), σ.2.1.2), ((o.2.1.1, o.2.1.2), o.2.2))))
set_option maxHeartbeats 4000000 in
set_option maxRecDepth 100000 in
theorem c_X3_readBelow (l : Launch) (g : GG) (h : Nat) (x : Nat → Nat) (q : Nat → Nat) (tok : Nat → Int32) (beh : Nat → Int32) (msk : Nat → Int32) (sec : Nat → Int32) (siz : Int32) (num : Nat → Int32) (sn : Nat → Int32) (cel : Nat → Int32) (szs : Nat → Int32) (stb : Nat → Int32) (next : Int32) (fault : Int32) (fplace : Int32) (x1 : Int32) : CI l g yX3_readBelow cX3_readBelow 3 (some .int) (rmN 1) (w_Reader h x q g) [.ref h, .int x1] ((((tok, beh), (msk, sec)), ((siz, num), sn)), (((cel, szs), stb), ((next, fault), fplace))) (rb_X3_readBelow ((((tok, beh), (msk, sec)), ((siz, num), sn)), (((cel, szs), stb), ((next, fault), fplace))) (f_X3_readBelow tok siz next fault fplace x1)) := by
  refine CI.mk (by decide) (Nat.le_of_ble_eq_true rfl) ?_
  intro p e s m below meth c A ls hI hw hl
  have hx := hI.1
  have hb := hI.2.1
  obtain ⟨r, hr⟩ : ∃ r, r = rb_X3_readBelow ((((tok, beh), (msk, sec)), ((siz, num), sn)), (((cel, szs), stb), ((next, fault), fplace))) (f_X3_readBelow tok siz next fault fplace x1) := ⟨_, rfl⟩
  rw [← hr]
  have hl : lv_has ls 3 [(0, .ref h), (1, .int x1)] := hl
  refine lv_aload_n hx hb dX3_readBelow_0 rfl (lv_at hl 0 rfl) ?_
  refine hI.get (v := .ref (x 0)) hw fg_X3_9 0 rfl rfl dX3_readBelow_1 ?_
  refine lv_aload_n hx hb dX3_readBelow_4 rfl (lv_at hl 0 rfl) ?_
  refine hI.get (v := .int next) hw fg_X3_23 0 rfl rfl dX3_readBelow_5 ?_
  obtain ⟨o1, ho1⟩ : ∃ o, o = f_X2_tokenAt tok siz next := ⟨_, rfl⟩
  refine hI.callI (wl := w_Prog x g) (a := (((tok, beh), msk), (sec, siz))) (wr := [(h, .inr (3, [.ref (x 0), .ref (q 0), .int next, .int fault, .int fplace])), (q 0, .inr (4, [.ref (q 1), .ref (q 2), .ref (q 3), .ref (q 4), .ref (q 5)])), (q 1, .inl (g.2.1, 10, .inl num)), (q 2, .inl (g.2.2, 10, .inl sn)), (q 3, .inl (g.2.1, 64, .inl cel)), (q 4, .inl (g.2.1, 4, .inl szs)), (q 5, .inl (g.2.2, 4, .inl stb))]) (ws1 := w_Reader h x q g ((((tok, beh), (msk, sec)), ((siz, num), sn)), (((cel, szs), stb), ((next, fault), fplace)))) (r := rb_X2_tokenAt (((tok, beh), msk), (sec, siz)) o1) (As := [.int next]) (rest := []) hw (by rw [ho1]; exact c_X2_tokenAt l g x tok beh msk sec siz next ) ok_yX2_tokenAt ml_X3_46 (rm_ok (by decide) (by decide)) [1, 2, 3, 4, 5] [0, 6, 7, 8, 9, 10, 11] [0, 7, 8, 9, 10, 11, 1, 2, 3, 4, 5, 6] rfl rfl rfl rfl rfl 0 rfl rfl rfl rfl hl.1 (Nat.le_of_ble_eq_true rfl) dX3_readBelow_8 ⟨Nat.zero_le _, Nat.zero_le _⟩ (fun H locs hw => ?_)
  have hw : Wd g A s (w_Reader h x q g ((((tok, beh), (msk, sec)), ((siz, num), sn)), (((cel, szs), stb), ((next, fault), fplace)))) H locs := hw
  refine W.eq (g2 := F0 m 11 ls [.int o1]) rfl ?_
  refine lv_istore_n (lv' := [(2, .int o1), (0, .ref h), (1, .int x1)]) hx hb dX3_readBelow_11 rfl hl (by decide) rfl (fun ls hl => ?_)
  refine lv_aload_n hx hb dX3_readBelow_12 rfl (lv_at hl 1 rfl) ?_
  refine hI.get (v := .ref (x 0)) hw fg_X3_9 0 rfl rfl dX3_readBelow_13 ?_
  refine lv_aload_n hx hb dX3_readBelow_16 rfl (lv_at hl 1 rfl) ?_
  refine hI.get (v := .int next) hw fg_X3_23 0 rfl rfl dX3_readBelow_17 ?_
  obtain ⟨o2, ho2⟩ : ∃ o, o = f_X2_has siz next := ⟨_, rfl⟩
  refine hI.callI (wl := w_Prog x g) (a := (((tok, beh), msk), (sec, siz))) (wr := [(h, .inr (3, [.ref (x 0), .ref (q 0), .int next, .int fault, .int fplace])), (q 0, .inr (4, [.ref (q 1), .ref (q 2), .ref (q 3), .ref (q 4), .ref (q 5)])), (q 1, .inl (g.2.1, 10, .inl num)), (q 2, .inl (g.2.2, 10, .inl sn)), (q 3, .inl (g.2.1, 64, .inl cel)), (q 4, .inl (g.2.1, 4, .inl szs)), (q 5, .inl (g.2.2, 4, .inl stb))]) (ws1 := w_Reader h x q g ((((tok, beh), (msk, sec)), ((siz, num), sn)), (((cel, szs), stb), ((next, fault), fplace)))) (r := rb_X2_has (((tok, beh), msk), (sec, siz)) o2) (As := [.int next]) (rest := []) hw (by rw [ho2]; exact c_X2_has l g x tok beh msk sec siz next ) ok_yX2_has ml_X3_33 (rm_ok (by decide) (by decide)) [1, 2, 3, 4, 5] [0, 6, 7, 8, 9, 10, 11] [0, 7, 8, 9, 10, 11, 1, 2, 3, 4, 5, 6] rfl rfl rfl rfl rfl 0 rfl rfl rfl rfl hl.1 (Nat.le_of_ble_eq_true rfl) dX3_readBelow_20 ⟨Nat.zero_le _, Nat.zero_le _⟩ (fun H locs hw => ?_)
  have hw : Wd g A s (w_Reader h x q g ((((tok, beh), (msk, sec)), ((siz, num), sn)), (((cel, szs), stb), ((next, fault), fplace)))) H locs := hw
  refine W.eq (g2 := F0 m 23 ls [.int o2]) rfl ?_
  refine lv_if_ne (tgt := 39) hx hb dX3_readBelow_23 (by decide) (fun c3 => ?_) (fun c3 => ?_)
  · refine lv_iload_n hx hb dX3_readBelow_39 rfl (lv_at hl 0 rfl) ?_
    refine lv_if_lt (tgt := 48) hx hb dX3_readBelow_40 (by decide) (fun c4 => ?_) (fun c4 => ?_)
    · refine lv_aload_n hx hb dX3_readBelow_48 rfl (lv_at hl 1 rfl) ?_
      refine lv_bipush (v := (-12 : Int32)) hx hb dX3_readBelow_49 (by decide) ?_
      refine lv_aload_n hx hb dX3_readBelow_51 rfl (lv_at hl 1 rfl) ?_
      refine hI.get (v := .int next) hw fg_X3_23 0 rfl rfl dX3_readBelow_52 ?_
      obtain ⟨o5, ho5⟩ : ∃ o, o = f_X3_blame fault fplace (-12 : Int32) next := ⟨_, rfl⟩
      refine hI.callV0 (wl := w_Reader h x q g) (a := ((((tok, beh), (msk, sec)), ((siz, num), sn)), (((cel, szs), stb), ((next, fault), fplace)))) (r := rb_X3_blame ((((tok, beh), (msk, sec)), ((siz, num), sn)), (((cel, szs), stb), ((next, fault), fplace))) o5) (As := [.int (-12 : Int32), .int next]) (rest := []) hw (by rw [ho5]; exact c_X3_blame l g h x q tok beh msk sec siz num sn cel szs stb next fault fplace (-12 : Int32) next ) ok_yX3_blame ml_X3_39 (rm_ok (by decide) (by decide)) 0 rfl rfl rfl rfl hl.1 (Nat.le_of_ble_eq_true rfl) dX3_readBelow_55 ⟨Nat.zero_le _, Nat.zero_le _⟩ (fun H locs hw => ?_)
      have hw : Wd g A s (w_Reader h x q g ((((tok, beh), (msk, sec)), ((siz, num), sn)), (((cel, szs), stb), ((next, o5.1), o5.2)))) H locs := hw
      refine W.eq (g2 := F0 m 58 ls []) rfl ?_
      refine lv_goto (tgt := 71) hx hb dX3_readBelow_58 (by decide) ?_
      refine lv_iload_n hx hb dX3_readBelow_71 rfl (lv_at hl 0 rfl) ?_
      exact hI.retI (u := ((((tok, beh), (msk, sec)), ((siz, num), sn)), (((cel, szs), stb), ((next, o5.1), o5.2)))) hw (hr.trans (congrArg (rb_X3_readBelow ((((tok, beh), (msk, sec)), ((siz, num), sn)), (((cel, szs), stb), ((next, fault), fplace)))) ((show f_X3_readBelow tok siz next fault fplace x1 = (o1, ((next, o5.1), o5.2)) from bd_of ho1 (bd_of ho2 (it_f c3 (it_t c4 (bd_of ho5 (rfl))))))))) dX3_readBelow_72
    · refine lv_iload_n hx hb dX3_readBelow_43 rfl (lv_at hl 0 rfl) ?_
      refine lv_iload_n hx hb dX3_readBelow_44 rfl (lv_at hl 2 rfl) ?_
      refine lv_icmp_lt (tgt := 61) hx hb dX3_readBelow_45 (by decide) (fun c6 => ?_) (fun c6 => ?_)
      · refine lv_aload_n hx hb dX3_readBelow_61 rfl (lv_at hl 1 rfl) ?_
        refine lv_dup hx hb dX3_readBelow_62 rfl ?_
        refine hI.get (v := .int next) hw fg_X3_23 0 rfl rfl dX3_readBelow_63 ?_
        refine lv_iconst (v := (1 : Int32)) hx hb dX3_readBelow_66 (by decide) ?_
        refine lv_iadd hx hb dX3_readBelow_67 ?_
        refine hI.put hw fp_X3_23 rfl 0 rfl rfl rfl (Nat.le_of_ble_eq_true rfl) dX3_readBelow_68 (fun H locs hw => ?_)
        have hw : Wd g A s (w_Reader h x q g ((((tok, beh), (msk, sec)), ((siz, num), sn)), (((cel, szs), stb), ((next + (1 : Int32), fault), fplace)))) H locs := hw
        refine lv_iload_n hx hb dX3_readBelow_71 rfl (lv_at hl 0 rfl) ?_
        exact hI.retI (u := ((((tok, beh), (msk, sec)), ((siz, num), sn)), (((cel, szs), stb), ((next + (1 : Int32), fault), fplace)))) hw (hr.trans (congrArg (rb_X3_readBelow ((((tok, beh), (msk, sec)), ((siz, num), sn)), (((cel, szs), stb), ((next, fault), fplace)))) ((show f_X3_readBelow tok siz next fault fplace x1 = (o1, ((next + (1 : Int32), fault), fplace)) from bd_of ho1 (bd_of ho2 (it_f c3 (it_f c4 (it_t c6 (rfl))))))))) dX3_readBelow_72
      · refine lv_aload_n hx hb dX3_readBelow_48 rfl (lv_at hl 1 rfl) ?_
        refine lv_bipush (v := (-12 : Int32)) hx hb dX3_readBelow_49 (by decide) ?_
        refine lv_aload_n hx hb dX3_readBelow_51 rfl (lv_at hl 1 rfl) ?_
        refine hI.get (v := .int next) hw fg_X3_23 0 rfl rfl dX3_readBelow_52 ?_
        obtain ⟨o7, ho7⟩ : ∃ o, o = f_X3_blame fault fplace (-12 : Int32) next := ⟨_, rfl⟩
        refine hI.callV0 (wl := w_Reader h x q g) (a := ((((tok, beh), (msk, sec)), ((siz, num), sn)), (((cel, szs), stb), ((next, fault), fplace)))) (r := rb_X3_blame ((((tok, beh), (msk, sec)), ((siz, num), sn)), (((cel, szs), stb), ((next, fault), fplace))) o7) (As := [.int (-12 : Int32), .int next]) (rest := []) hw (by rw [ho7]; exact c_X3_blame l g h x q tok beh msk sec siz num sn cel szs stb next fault fplace (-12 : Int32) next ) ok_yX3_blame ml_X3_39 (rm_ok (by decide) (by decide)) 0 rfl rfl rfl rfl hl.1 (Nat.le_of_ble_eq_true rfl) dX3_readBelow_55 ⟨Nat.zero_le _, Nat.zero_le _⟩ (fun H locs hw => ?_)
        have hw : Wd g A s (w_Reader h x q g ((((tok, beh), (msk, sec)), ((siz, num), sn)), (((cel, szs), stb), ((next, o7.1), o7.2)))) H locs := hw
        refine W.eq (g2 := F0 m 58 ls []) rfl ?_
        refine lv_goto (tgt := 71) hx hb dX3_readBelow_58 (by decide) ?_
        refine lv_iload_n hx hb dX3_readBelow_71 rfl (lv_at hl 0 rfl) ?_
        exact hI.retI (u := ((((tok, beh), (msk, sec)), ((siz, num), sn)), (((cel, szs), stb), ((next, o7.1), o7.2)))) hw (hr.trans (congrArg (rb_X3_readBelow ((((tok, beh), (msk, sec)), ((siz, num), sn)), (((cel, szs), stb), ((next, fault), fplace)))) ((show f_X3_readBelow tok siz next fault fplace x1 = (o1, ((next, o7.1), o7.2)) from bd_of ho1 (bd_of ho2 (it_f c3 (it_f c4 (it_f c6 (bd_of ho7 (rfl)))))))))) dX3_readBelow_72
  · refine lv_aload_n hx hb dX3_readBelow_26 rfl (lv_at hl 1 rfl) ?_
    refine lv_bipush (v := (-11 : Int32)) hx hb dX3_readBelow_27 (by decide) ?_
    refine lv_aload_n hx hb dX3_readBelow_29 rfl (lv_at hl 1 rfl) ?_
    refine hI.get (v := .int next) hw fg_X3_23 0 rfl rfl dX3_readBelow_30 ?_
    obtain ⟨o8, ho8⟩ : ∃ o, o = f_X3_blame fault fplace (-11 : Int32) next := ⟨_, rfl⟩
    refine hI.callV0 (wl := w_Reader h x q g) (a := ((((tok, beh), (msk, sec)), ((siz, num), sn)), (((cel, szs), stb), ((next, fault), fplace)))) (r := rb_X3_blame ((((tok, beh), (msk, sec)), ((siz, num), sn)), (((cel, szs), stb), ((next, fault), fplace))) o8) (As := [.int (-11 : Int32), .int next]) (rest := []) hw (by rw [ho8]; exact c_X3_blame l g h x q tok beh msk sec siz num sn cel szs stb next fault fplace (-11 : Int32) next ) ok_yX3_blame ml_X3_39 (rm_ok (by decide) (by decide)) 0 rfl rfl rfl rfl hl.1 (Nat.le_of_ble_eq_true rfl) dX3_readBelow_33 ⟨Nat.zero_le _, Nat.zero_le _⟩ (fun H locs hw => ?_)
    have hw : Wd g A s (w_Reader h x q g ((((tok, beh), (msk, sec)), ((siz, num), sn)), (((cel, szs), stb), ((next, o8.1), o8.2)))) H locs := hw
    refine W.eq (g2 := F0 m 36 ls []) rfl ?_
    refine lv_goto (tgt := 71) hx hb dX3_readBelow_36 (by decide) ?_
    refine lv_iload_n hx hb dX3_readBelow_71 rfl (lv_at hl 0 rfl) ?_
    exact hI.retI (u := ((((tok, beh), (msk, sec)), ((siz, num), sn)), (((cel, szs), stb), ((next, o8.1), o8.2)))) hw (hr.trans (congrArg (rb_X3_readBelow ((((tok, beh), (msk, sec)), ((siz, num), sn)), (((cel, szs), stb), ((next, fault), fplace)))) ((show f_X3_readBelow tok siz next fault fplace x1 = (o1, ((next, o8.1), o8.2)) from bd_of ho1 (bd_of ho2 (it_t c3 (bd_of ho8 (rfl)))))))) dX3_readBelow_72
def f_X3_readOwnWord (tok : Nat → Int32) (siz : Int32) (sn : Nat → Int32) (stb : Nat → Int32) (next : Int32) (fault : Int32) (fplace : Int32) (x1 : Int32) : Int32 × ((Int32 × Int32) × Int32) := if x1 = (20 : Int32) then bd (f_X2_has siz next) (fun o2 => if o2 = 0 then bd (f_X3_blame fault fplace (-11 : Int32) next) (fun o4 => ((0 : Int32), ((next, o4.1), o4.2))) else ((0 : Int32), ((next + (1 : Int32), fault), fplace))) else if x1 = (21 : Int32) then bd (f_X3_readBelow tok siz next fault fplace (10 : Int32)) (fun o6 => bd (f_X5_isSecretVariable sn o6.1) (fun o7 => (o7, ((o6.2.1.1, o6.2.1.2), o6.2.2)))) else if x1 = (35 : Int32) then bd (f_X3_readBelow tok siz next fault fplace (4 : Int32)) (fun o9 => bd (f_X5_isSecretTable stb o9.1) (fun o10 => (o10, ((o9.2.1.1, o9.2.1.2), o9.2.2)))) else ((0 : Int32), ((next, fault), fplace))
def rb_X3_readOwnWord (σ : S_Reader) (o : Int32 × ((Int32 × Int32) × Int32)) : Int32 × S_Reader := (o.1, ((((σ.1.1.1.1, σ.1.1.1.2), (σ.1.1.2.1, σ.1.1.2.2)), ((σ.1.2.1.1, σ.1.2.1.2), σ.1.2.2)), (((σ.2.1.1.1, σ.2.1.1.2), σ.2.1.2), ((o.2.1.1, o.2.1.2), o.2.2))))
set_option maxHeartbeats 4000000 in
set_option maxRecDepth 100000 in
theorem c_X3_readOwnWord (l : Launch) (g : GG) (h : Nat) (x : Nat → Nat) (q : Nat → Nat) (tok : Nat → Int32) (beh : Nat → Int32) (msk : Nat → Int32) (sec : Nat → Int32) (siz : Int32) (num : Nat → Int32) (sn : Nat → Int32) (cel : Nat → Int32) (szs : Nat → Int32) (stb : Nat → Int32) (next : Int32) (fault : Int32) (fplace : Int32) (x1 : Int32) : CI l g yX3_readOwnWord cX3_readOwnWord 2 (some .boolean) (rmN 2) (w_Reader h x q g) [.ref h, .int x1] ((((tok, beh), (msk, sec)), ((siz, num), sn)), (((cel, szs), stb), ((next, fault), fplace))) (rb_X3_readOwnWord ((((tok, beh), (msk, sec)), ((siz, num), sn)), (((cel, szs), stb), ((next, fault), fplace))) (f_X3_readOwnWord tok siz sn stb next fault fplace x1)) := by
  refine CI.mk (by decide) (Nat.le_of_ble_eq_true rfl) ?_
  intro p e s m below meth c A ls hI hw hl
  have hx := hI.1
  have hb := hI.2.1
  obtain ⟨r, hr⟩ : ∃ r, r = rb_X3_readOwnWord ((((tok, beh), (msk, sec)), ((siz, num), sn)), (((cel, szs), stb), ((next, fault), fplace))) (f_X3_readOwnWord tok siz sn stb next fault fplace x1) := ⟨_, rfl⟩
  rw [← hr]
  have hl : lv_has ls 2 [(0, .ref h), (1, .int x1)] := hl
  refine lv_iload_n hx hb dX3_readOwnWord_0 rfl (lv_at hl 1 rfl) ?_
  by_cases c1 : x1 = (20 : Int32)
  · refine lv_lookup (off := 35) (tgt := 36) hx hb dX3_readOwnWord_1 (by decide) (by rw [c1]; rfl) (by decide) ?_
    refine lv_aload_n hx hb dX3_readOwnWord_36 rfl (lv_at hl 0 rfl) ?_
    refine hI.get (v := .ref (x 0)) hw fg_X3_9 0 rfl rfl dX3_readOwnWord_37 ?_
    refine lv_aload_n hx hb dX3_readOwnWord_40 rfl (lv_at hl 0 rfl) ?_
    refine hI.get (v := .int next) hw fg_X3_23 0 rfl rfl dX3_readOwnWord_41 ?_
    obtain ⟨o2, ho2⟩ : ∃ o, o = f_X2_has siz next := ⟨_, rfl⟩
    refine hI.callI (wl := w_Prog x g) (a := (((tok, beh), msk), (sec, siz))) (wr := [(h, .inr (3, [.ref (x 0), .ref (q 0), .int next, .int fault, .int fplace])), (q 0, .inr (4, [.ref (q 1), .ref (q 2), .ref (q 3), .ref (q 4), .ref (q 5)])), (q 1, .inl (g.2.1, 10, .inl num)), (q 2, .inl (g.2.2, 10, .inl sn)), (q 3, .inl (g.2.1, 64, .inl cel)), (q 4, .inl (g.2.1, 4, .inl szs)), (q 5, .inl (g.2.2, 4, .inl stb))]) (ws1 := w_Reader h x q g ((((tok, beh), (msk, sec)), ((siz, num), sn)), (((cel, szs), stb), ((next, fault), fplace)))) (r := rb_X2_has (((tok, beh), msk), (sec, siz)) o2) (As := [.int next]) (rest := []) hw (by rw [ho2]; exact c_X2_has l g x tok beh msk sec siz next ) ok_yX2_has ml_X3_33 (rm_ok (by decide) (by decide)) [1, 2, 3, 4, 5] [0, 6, 7, 8, 9, 10, 11] [0, 7, 8, 9, 10, 11, 1, 2, 3, 4, 5, 6] rfl rfl rfl rfl rfl 0 rfl rfl rfl rfl hl.1 (Nat.le_of_ble_eq_true rfl) dX3_readOwnWord_44 ⟨Nat.zero_le _, Nat.zero_le _⟩ (fun H locs hw => ?_)
    have hw : Wd g A s (w_Reader h x q g ((((tok, beh), (msk, sec)), ((siz, num), sn)), (((cel, szs), stb), ((next, fault), fplace)))) H locs := hw
    refine W.eq (g2 := F0 m 47 ls [.int o2]) rfl ?_
    refine lv_if_eq (tgt := 63) hx hb dX3_readOwnWord_47 (by decide) (fun c3 => ?_) (fun c3 => ?_)
    · refine lv_aload_n hx hb dX3_readOwnWord_63 rfl (lv_at hl 0 rfl) ?_
      refine lv_bipush (v := (-11 : Int32)) hx hb dX3_readOwnWord_64 (by decide) ?_
      refine lv_aload_n hx hb dX3_readOwnWord_66 rfl (lv_at hl 0 rfl) ?_
      refine hI.get (v := .int next) hw fg_X3_23 0 rfl rfl dX3_readOwnWord_67 ?_
      obtain ⟨o4, ho4⟩ : ∃ o, o = f_X3_blame fault fplace (-11 : Int32) next := ⟨_, rfl⟩
      refine hI.callV0 (wl := w_Reader h x q g) (a := ((((tok, beh), (msk, sec)), ((siz, num), sn)), (((cel, szs), stb), ((next, fault), fplace)))) (r := rb_X3_blame ((((tok, beh), (msk, sec)), ((siz, num), sn)), (((cel, szs), stb), ((next, fault), fplace))) o4) (As := [.int (-11 : Int32), .int next]) (rest := []) hw (by rw [ho4]; exact c_X3_blame l g h x q tok beh msk sec siz num sn cel szs stb next fault fplace (-11 : Int32) next ) ok_yX3_blame ml_X3_39 (rm_ok (by decide) (by decide)) 0 rfl rfl rfl rfl hl.1 (Nat.le_of_ble_eq_true rfl) dX3_readOwnWord_70 ⟨Nat.zero_le _, Nat.zero_le _⟩ (fun H locs hw => ?_)
      have hw : Wd g A s (w_Reader h x q g ((((tok, beh), (msk, sec)), ((siz, num), sn)), (((cel, szs), stb), ((next, o4.1), o4.2)))) H locs := hw
      refine W.eq (g2 := F0 m 73 ls []) rfl ?_
      refine lv_iconst (v := (0 : Int32)) hx hb dX3_readOwnWord_73 (by decide) ?_
      exact hI.retZ (u := ((((tok, beh), (msk, sec)), ((siz, num), sn)), (((cel, szs), stb), ((next, o4.1), o4.2)))) hw rfl (hr.trans (congrArg (rb_X3_readOwnWord ((((tok, beh), (msk, sec)), ((siz, num), sn)), (((cel, szs), stb), ((next, fault), fplace)))) ((show f_X3_readOwnWord tok siz sn stb next fault fplace x1 = ((0 : Int32), ((next, o4.1), o4.2)) from it_t c1 (bd_of ho2 (it_t c3 (bd_of ho4 (rfl)))))))) dX3_readOwnWord_74
    · refine lv_aload_n hx hb dX3_readOwnWord_50 rfl (lv_at hl 0 rfl) ?_
      refine lv_dup hx hb dX3_readOwnWord_51 rfl ?_
      refine hI.get (v := .int next) hw fg_X3_23 0 rfl rfl dX3_readOwnWord_52 ?_
      refine lv_iconst (v := (1 : Int32)) hx hb dX3_readOwnWord_55 (by decide) ?_
      refine lv_iadd hx hb dX3_readOwnWord_56 ?_
      refine hI.put hw fp_X3_23 rfl 0 rfl rfl rfl (Nat.le_of_ble_eq_true rfl) dX3_readOwnWord_57 (fun H locs hw => ?_)
      have hw : Wd g A s (w_Reader h x q g ((((tok, beh), (msk, sec)), ((siz, num), sn)), (((cel, szs), stb), ((next + (1 : Int32), fault), fplace)))) H locs := hw
      refine lv_goto (tgt := 73) hx hb dX3_readOwnWord_60 (by decide) ?_
      refine lv_iconst (v := (0 : Int32)) hx hb dX3_readOwnWord_73 (by decide) ?_
      exact hI.retZ (u := ((((tok, beh), (msk, sec)), ((siz, num), sn)), (((cel, szs), stb), ((next + (1 : Int32), fault), fplace)))) hw rfl (hr.trans (congrArg (rb_X3_readOwnWord ((((tok, beh), (msk, sec)), ((siz, num), sn)), (((cel, szs), stb), ((next, fault), fplace)))) ((show f_X3_readOwnWord tok siz sn stb next fault fplace x1 = ((0 : Int32), ((next + (1 : Int32), fault), fplace)) from it_t c1 (bd_of ho2 (it_f c3 (rfl))))))) dX3_readOwnWord_74
  by_cases c5 : x1 = (21 : Int32)
  · refine lv_lookup (off := 74) (tgt := 75) hx hb dX3_readOwnWord_1 (by decide) (by rw [c5]; rfl) (by decide) ?_
    refine lv_aload_n hx hb dX3_readOwnWord_75 rfl (lv_at hl 0 rfl) ?_
    refine hI.get (v := .ref (q 0)) hw fg_X3_15 0 rfl rfl dX3_readOwnWord_76 ?_
    refine lv_aload_n hx hb dX3_readOwnWord_79 rfl (lv_at hl 0 rfl) ?_
    refine lv_bipush (v := (10 : Int32)) hx hb dX3_readOwnWord_80 (by decide) ?_
    obtain ⟨o6, ho6⟩ : ∃ o, o = f_X3_readBelow tok siz next fault fplace (10 : Int32) := ⟨_, rfl⟩
    refine hI.callI0 (wl := w_Reader h x q g) (a := ((((tok, beh), (msk, sec)), ((siz, num), sn)), (((cel, szs), stb), ((next, fault), fplace)))) (r := rb_X3_readBelow ((((tok, beh), (msk, sec)), ((siz, num), sn)), (((cel, szs), stb), ((next, fault), fplace))) o6) (As := [.int (10 : Int32)]) (rest := [.ref (q 0)]) hw (by rw [ho6]; exact c_X3_readBelow l g h x q tok beh msk sec siz num sn cel szs stb next fault fplace (10 : Int32) ) ok_yX3_readBelow ml_X3_57 (rm_ok (by decide) (by decide)) 0 rfl rfl rfl rfl hl.1 (Nat.le_of_ble_eq_true rfl) dX3_readOwnWord_82 ⟨Nat.zero_le _, Nat.zero_le _⟩ (fun H locs hw => ?_)
    have hw : Wd g A s (w_Reader h x q g ((((tok, beh), (msk, sec)), ((siz, num), sn)), (((cel, szs), stb), ((o6.2.1.1, o6.2.1.2), o6.2.2)))) H locs := hw
    refine W.eq (g2 := F0 m 85 ls [.int o6.1, .ref (q 0)]) rfl ?_
    obtain ⟨o7, ho7⟩ : ∃ o, o = f_X5_isSecretVariable sn o6.1 := ⟨_, rfl⟩
    refine hI.callI (wl := w_Store q g) (a := (((num, sn), cel), (szs, stb))) (wr := [(h, .inr (3, [.ref (x 0), .ref (q 0), .int o6.2.1.1, .int o6.2.1.2, .int o6.2.2])), (x 0, .inr (2, [.ref (x 1), .ref (x 2), .ref (x 3), .ref (x 4), .int siz])), (x 1, .inl (g.2.1, 400, .inl tok)), (x 2, .inl (g.2.1, 400, .inl beh)), (x 3, .inl (g.2.1, 400, .inl msk)), (x 4, .inl (g.2.2, 400, .inl sec))]) (ws1 := w_Reader h x q g ((((tok, beh), (msk, sec)), ((siz, num), sn)), (((cel, szs), stb), ((o6.2.1.1, o6.2.1.2), o6.2.2)))) (r := rb_X5_isSecretVariable (((num, sn), cel), (szs, stb)) o7) (As := [.int o6.1]) (rest := []) hw (by rw [ho7]; exact c_X5_isSecretVariable l g q num sn cel szs stb o6.1 ) ok_yX5_isSecretVariable ml_X3_76 (rm_ok (by decide) (by decide)) [6, 7, 8, 9, 10, 11] [0, 1, 2, 3, 4, 5] [0, 1, 2, 3, 4, 5, 6, 7, 8, 9, 10, 11] rfl rfl rfl rfl rfl 0 rfl rfl rfl rfl hl.1 (Nat.le_of_ble_eq_true rfl) dX3_readOwnWord_85 ⟨Nat.zero_le _, Nat.zero_le _⟩ (fun H locs hw => ?_)
    have hw : Wd g A s (w_Reader h x q g ((((tok, beh), (msk, sec)), ((siz, num), sn)), (((cel, szs), stb), ((o6.2.1.1, o6.2.1.2), o6.2.2)))) H locs := hw
    refine W.eq (g2 := F0 m 88 ls [.int o7]) rfl ?_
    exact hI.retZ (u := ((((tok, beh), (msk, sec)), ((siz, num), sn)), (((cel, szs), stb), ((o6.2.1.1, o6.2.1.2), o6.2.2)))) hw (b01 (by rw [ho7]; exact z01_X5_isSecretVariable ..)) (hr.trans (congrArg (rb_X3_readOwnWord ((((tok, beh), (msk, sec)), ((siz, num), sn)), (((cel, szs), stb), ((next, fault), fplace)))) ((show f_X3_readOwnWord tok siz sn stb next fault fplace x1 = (o7, ((o6.2.1.1, o6.2.1.2), o6.2.2)) from it_f c1 (it_t c5 (bd_of ho6 (bd_of ho7 (rfl)))))))) dX3_readOwnWord_88
  by_cases c8 : x1 = (35 : Int32)
  · refine lv_lookup (off := 88) (tgt := 89) hx hb dX3_readOwnWord_1 (by decide) (by rw [c8]; rfl) (by decide) ?_
    refine lv_aload_n hx hb dX3_readOwnWord_89 rfl (lv_at hl 0 rfl) ?_
    refine hI.get (v := .ref (q 0)) hw fg_X3_15 0 rfl rfl dX3_readOwnWord_90 ?_
    refine lv_aload_n hx hb dX3_readOwnWord_93 rfl (lv_at hl 0 rfl) ?_
    refine lv_iconst (v := (4 : Int32)) hx hb dX3_readOwnWord_94 (by decide) ?_
    obtain ⟨o9, ho9⟩ : ∃ o, o = f_X3_readBelow tok siz next fault fplace (4 : Int32) := ⟨_, rfl⟩
    refine hI.callI0 (wl := w_Reader h x q g) (a := ((((tok, beh), (msk, sec)), ((siz, num), sn)), (((cel, szs), stb), ((next, fault), fplace)))) (r := rb_X3_readBelow ((((tok, beh), (msk, sec)), ((siz, num), sn)), (((cel, szs), stb), ((next, fault), fplace))) o9) (As := [.int (4 : Int32)]) (rest := [.ref (q 0)]) hw (by rw [ho9]; exact c_X3_readBelow l g h x q tok beh msk sec siz num sn cel szs stb next fault fplace (4 : Int32) ) ok_yX3_readBelow ml_X3_57 (rm_ok (by decide) (by decide)) 0 rfl rfl rfl rfl hl.1 (Nat.le_of_ble_eq_true rfl) dX3_readOwnWord_95 ⟨Nat.zero_le _, Nat.zero_le _⟩ (fun H locs hw => ?_)
    have hw : Wd g A s (w_Reader h x q g ((((tok, beh), (msk, sec)), ((siz, num), sn)), (((cel, szs), stb), ((o9.2.1.1, o9.2.1.2), o9.2.2)))) H locs := hw
    refine W.eq (g2 := F0 m 98 ls [.int o9.1, .ref (q 0)]) rfl ?_
    obtain ⟨o10, ho10⟩ : ∃ o, o = f_X5_isSecretTable stb o9.1 := ⟨_, rfl⟩
    refine hI.callI (wl := w_Store q g) (a := (((num, sn), cel), (szs, stb))) (wr := [(h, .inr (3, [.ref (x 0), .ref (q 0), .int o9.2.1.1, .int o9.2.1.2, .int o9.2.2])), (x 0, .inr (2, [.ref (x 1), .ref (x 2), .ref (x 3), .ref (x 4), .int siz])), (x 1, .inl (g.2.1, 400, .inl tok)), (x 2, .inl (g.2.1, 400, .inl beh)), (x 3, .inl (g.2.1, 400, .inl msk)), (x 4, .inl (g.2.2, 400, .inl sec))]) (ws1 := w_Reader h x q g ((((tok, beh), (msk, sec)), ((siz, num), sn)), (((cel, szs), stb), ((o9.2.1.1, o9.2.1.2), o9.2.2)))) (r := rb_X5_isSecretTable (((num, sn), cel), (szs, stb)) o10) (As := [.int o9.1]) (rest := []) hw (by rw [ho10]; exact c_X5_isSecretTable l g q num sn cel szs stb o9.1 ) ok_yX5_isSecretTable ml_X3_81 (rm_ok (by decide) (by decide)) [6, 7, 8, 9, 10, 11] [0, 1, 2, 3, 4, 5] [0, 1, 2, 3, 4, 5, 6, 7, 8, 9, 10, 11] rfl rfl rfl rfl rfl 0 rfl rfl rfl rfl hl.1 (Nat.le_of_ble_eq_true rfl) dX3_readOwnWord_98 ⟨Nat.zero_le _, Nat.zero_le _⟩ (fun H locs hw => ?_)
    have hw : Wd g A s (w_Reader h x q g ((((tok, beh), (msk, sec)), ((siz, num), sn)), (((cel, szs), stb), ((o9.2.1.1, o9.2.1.2), o9.2.2)))) H locs := hw
    refine W.eq (g2 := F0 m 101 ls [.int o10]) rfl ?_
    exact hI.retZ (u := ((((tok, beh), (msk, sec)), ((siz, num), sn)), (((cel, szs), stb), ((o9.2.1.1, o9.2.1.2), o9.2.2)))) hw (b01 (by rw [ho10]; exact z01_X5_isSecretTable ..)) (hr.trans (congrArg (rb_X3_readOwnWord ((((tok, beh), (msk, sec)), ((siz, num), sn)), (((cel, szs), stb), ((next, fault), fplace)))) ((show f_X3_readOwnWord tok siz sn stb next fault fplace x1 = (o10, ((o9.2.1.1, o9.2.1.2), o9.2.2)) from it_f c1 (it_f c5 (it_t c8 (bd_of ho9 (bd_of ho10 (rfl))))))))) dX3_readOwnWord_101
  refine lv_lookup (off := 101) (tgt := 102) hx hb dX3_readOwnWord_1 (by decide) (by rw [lv_osw c1 (show ((20 : Int32)).toInt = 20 by decide)]; rw [lv_osw c5 (show ((21 : Int32)).toInt = 21 by decide)]; rw [lv_osw c8 (show ((35 : Int32)).toInt = 35 by decide)]; rfl) (by decide) ?_
  refine lv_iconst (v := (0 : Int32)) hx hb dX3_readOwnWord_102 (by decide) ?_
  exact hI.retZ (u := ((((tok, beh), (msk, sec)), ((siz, num), sn)), (((cel, szs), stb), ((next, fault), fplace)))) hw rfl (hr.trans (congrArg (rb_X3_readOwnWord ((((tok, beh), (msk, sec)), ((siz, num), sn)), (((cel, szs), stb), ((next, fault), fplace)))) ((show f_X3_readOwnWord tok siz sn stb next fault fplace x1 = ((0 : Int32), ((next, fault), fplace)) from it_f c1 (it_f c5 (it_f c8 (rfl))))))) dX3_readOwnWord_103
theorem z01_X3_readOwnWord (tok : Nat → Int32) (siz : Int32) (sn : Nat → Int32) (stb : Nat → Int32) (next : Int32) (fault : Int32) (fplace : Int32) (x1 : Int32) : (f_X3_readOwnWord tok siz sn stb next fault fplace x1).1 = 0 ∨ (f_X3_readOwnWord tok siz sn stb next fault fplace x1).1 = 1 := by
  show zP1 (f_X3_readOwnWord tok siz sn stb next fault fplace x1)
  unfold f_X3_readOwnWord
  repeat' (first | with_reducible refine z_ite (fun _ => ?_) (fun _ => ?_) | with_reducible refine z_bd (fun o ho => ?_))
  all_goals first | with_reducible exact z0_0 | with_reducible exact z0_1 | with_reducible exact z1_0 | with_reducible exact z1_1 | exact z1_of (by rw [ho]; unfold zP0; with_reducible exact z01_X5_isSecretVariable ..) | (rw [ho]; unfold zP0; with_reducible exact z01_X5_isSecretVariable ..) | exact z1_of (by rw [ho]; unfold zP0; with_reducible exact z01_X5_isSecretTable ..) | (rw [ho]; unfold zP0; with_reducible exact z01_X5_isSecretTable ..)
def f_X3_isOpen (tok : Nat → Int32) (siz : Int32) (sn : Nat → Int32) (stb : Nat → Int32) (x1 : Int32) : Int32 := bd (f_X2_tokenAt tok siz x1) (fun o1 => if o1 = (1 : Int32) then bd (f_X2_tokenAt tok siz (x1 + (1 : Int32))) (fun o3 => bd (f_X5_isSecretVariable sn o3) (fun o4 => if o4 = 0 then ((1 : Int32)) else ((0 : Int32)))) else if o1 = (2 : Int32) then bd (f_X2_tokenAt tok siz (x1 + (1 : Int32))) (fun o7 => bd (f_X5_isSecretTable stb o7) (fun o8 => if o8 = 0 then ((1 : Int32)) else ((0 : Int32)))) else if o1 = (5 : Int32) then ((1 : Int32)) else if o1 = (7 : Int32) then ((1 : Int32)) else if o1 = (33 : Int32) then ((1 : Int32)) else if o1 = (34 : Int32) then ((1 : Int32)) else ((0 : Int32)))
def rb_X3_isOpen (σ : S_Reader) (o : Int32) : Int32 × S_Reader := (o, σ)
set_option maxHeartbeats 4000000 in
set_option maxRecDepth 100000 in
theorem c_X3_isOpen (l : Launch) (g : GG) (h : Nat) (x : Nat → Nat) (q : Nat → Nat) (tok : Nat → Int32) (beh : Nat → Int32) (msk : Nat → Int32) (sec : Nat → Int32) (siz : Int32) (num : Nat → Int32) (sn : Nat → Int32) (cel : Nat → Int32) (szs : Nat → Int32) (stb : Nat → Int32) (next : Int32) (fault : Int32) (fplace : Int32) (x1 : Int32) : CI l g yX3_isOpen cX3_isOpen 2 (some .boolean) (rmN 2) (w_Reader h x q g) [.ref h, .int x1] ((((tok, beh), (msk, sec)), ((siz, num), sn)), (((cel, szs), stb), ((next, fault), fplace))) (rb_X3_isOpen ((((tok, beh), (msk, sec)), ((siz, num), sn)), (((cel, szs), stb), ((next, fault), fplace))) (f_X3_isOpen tok siz sn stb x1)) := by
  refine CI.mk (by decide) (Nat.le_of_ble_eq_true rfl) ?_
  intro p e s m below meth c A ls hI hw hl
  have hx := hI.1
  have hb := hI.2.1
  obtain ⟨r, hr⟩ : ∃ r, r = rb_X3_isOpen ((((tok, beh), (msk, sec)), ((siz, num), sn)), (((cel, szs), stb), ((next, fault), fplace))) (f_X3_isOpen tok siz sn stb x1) := ⟨_, rfl⟩
  rw [← hr]
  have hl : lv_has ls 2 [(0, .ref h), (1, .int x1)] := hl
  refine lv_aload_n hx hb dX3_isOpen_0 rfl (lv_at hl 0 rfl) ?_
  refine hI.get (v := .ref (x 0)) hw fg_X3_9 0 rfl rfl dX3_isOpen_1 ?_
  refine lv_iload_n hx hb dX3_isOpen_4 rfl (lv_at hl 1 rfl) ?_
  obtain ⟨o1, ho1⟩ : ∃ o, o = f_X2_tokenAt tok siz x1 := ⟨_, rfl⟩
  refine hI.callI (wl := w_Prog x g) (a := (((tok, beh), msk), (sec, siz))) (wr := [(h, .inr (3, [.ref (x 0), .ref (q 0), .int next, .int fault, .int fplace])), (q 0, .inr (4, [.ref (q 1), .ref (q 2), .ref (q 3), .ref (q 4), .ref (q 5)])), (q 1, .inl (g.2.1, 10, .inl num)), (q 2, .inl (g.2.2, 10, .inl sn)), (q 3, .inl (g.2.1, 64, .inl cel)), (q 4, .inl (g.2.1, 4, .inl szs)), (q 5, .inl (g.2.2, 4, .inl stb))]) (ws1 := w_Reader h x q g ((((tok, beh), (msk, sec)), ((siz, num), sn)), (((cel, szs), stb), ((next, fault), fplace)))) (r := rb_X2_tokenAt (((tok, beh), msk), (sec, siz)) o1) (As := [.int x1]) (rest := []) hw (by rw [ho1]; exact c_X2_tokenAt l g x tok beh msk sec siz x1 ) ok_yX2_tokenAt ml_X3_46 (rm_ok (by decide) (by decide)) [1, 2, 3, 4, 5] [0, 6, 7, 8, 9, 10, 11] [0, 7, 8, 9, 10, 11, 1, 2, 3, 4, 5, 6] rfl rfl rfl rfl rfl 0 rfl rfl rfl rfl hl.1 (Nat.le_of_ble_eq_true rfl) dX3_isOpen_5 ⟨Nat.zero_le _, Nat.zero_le _⟩ (fun H locs hw => ?_)
  have hw : Wd g A s (w_Reader h x q g ((((tok, beh), (msk, sec)), ((siz, num), sn)), (((cel, szs), stb), ((next, fault), fplace)))) H locs := hw
  refine W.eq (g2 := F0 m 8 ls [.int o1]) rfl ?_
  by_cases c2 : o1 = (1 : Int32)
  · refine lv_lookup (off := 60) (tgt := 68) hx hb dX3_isOpen_8 (by decide) (by rw [c2]; rfl) (by decide) ?_
    refine lv_aload_n hx hb dX3_isOpen_68 rfl (lv_at hl 0 rfl) ?_
    refine hI.get (v := .ref (q 0)) hw fg_X3_15 0 rfl rfl dX3_isOpen_69 ?_
    refine lv_aload_n hx hb dX3_isOpen_72 rfl (lv_at hl 0 rfl) ?_
    refine hI.get (v := .ref (x 0)) hw fg_X3_9 0 rfl rfl dX3_isOpen_73 ?_
    refine lv_iload_n hx hb dX3_isOpen_76 rfl (lv_at hl 1 rfl) ?_
    refine lv_iconst (v := (1 : Int32)) hx hb dX3_isOpen_77 (by decide) ?_
    refine lv_iadd hx hb dX3_isOpen_78 ?_
    obtain ⟨o3, ho3⟩ : ∃ o, o = f_X2_tokenAt tok siz (x1 + (1 : Int32)) := ⟨_, rfl⟩
    refine hI.callI (wl := w_Prog x g) (a := (((tok, beh), msk), (sec, siz))) (wr := [(h, .inr (3, [.ref (x 0), .ref (q 0), .int next, .int fault, .int fplace])), (q 0, .inr (4, [.ref (q 1), .ref (q 2), .ref (q 3), .ref (q 4), .ref (q 5)])), (q 1, .inl (g.2.1, 10, .inl num)), (q 2, .inl (g.2.2, 10, .inl sn)), (q 3, .inl (g.2.1, 64, .inl cel)), (q 4, .inl (g.2.1, 4, .inl szs)), (q 5, .inl (g.2.2, 4, .inl stb))]) (ws1 := w_Reader h x q g ((((tok, beh), (msk, sec)), ((siz, num), sn)), (((cel, szs), stb), ((next, fault), fplace)))) (r := rb_X2_tokenAt (((tok, beh), msk), (sec, siz)) o3) (As := [.int (x1 + (1 : Int32))]) (rest := [.ref (q 0)]) hw (by rw [ho3]; exact c_X2_tokenAt l g x tok beh msk sec siz (x1 + (1 : Int32)) ) ok_yX2_tokenAt ml_X3_46 (rm_ok (by decide) (by decide)) [1, 2, 3, 4, 5] [0, 6, 7, 8, 9, 10, 11] [0, 7, 8, 9, 10, 11, 1, 2, 3, 4, 5, 6] rfl rfl rfl rfl rfl 0 rfl rfl rfl rfl hl.1 (Nat.le_of_ble_eq_true rfl) dX3_isOpen_79 ⟨Nat.zero_le _, Nat.zero_le _⟩ (fun H locs hw => ?_)
    have hw : Wd g A s (w_Reader h x q g ((((tok, beh), (msk, sec)), ((siz, num), sn)), (((cel, szs), stb), ((next, fault), fplace)))) H locs := hw
    refine W.eq (g2 := F0 m 82 ls [.int o3, .ref (q 0)]) rfl ?_
    obtain ⟨o4, ho4⟩ : ∃ o, o = f_X5_isSecretVariable sn o3 := ⟨_, rfl⟩
    refine hI.callI (wl := w_Store q g) (a := (((num, sn), cel), (szs, stb))) (wr := [(h, .inr (3, [.ref (x 0), .ref (q 0), .int next, .int fault, .int fplace])), (x 0, .inr (2, [.ref (x 1), .ref (x 2), .ref (x 3), .ref (x 4), .int siz])), (x 1, .inl (g.2.1, 400, .inl tok)), (x 2, .inl (g.2.1, 400, .inl beh)), (x 3, .inl (g.2.1, 400, .inl msk)), (x 4, .inl (g.2.2, 400, .inl sec))]) (ws1 := w_Reader h x q g ((((tok, beh), (msk, sec)), ((siz, num), sn)), (((cel, szs), stb), ((next, fault), fplace)))) (r := rb_X5_isSecretVariable (((num, sn), cel), (szs, stb)) o4) (As := [.int o3]) (rest := []) hw (by rw [ho4]; exact c_X5_isSecretVariable l g q num sn cel szs stb o3 ) ok_yX5_isSecretVariable ml_X3_76 (rm_ok (by decide) (by decide)) [6, 7, 8, 9, 10, 11] [0, 1, 2, 3, 4, 5] [0, 1, 2, 3, 4, 5, 6, 7, 8, 9, 10, 11] rfl rfl rfl rfl rfl 0 rfl rfl rfl rfl hl.1 (Nat.le_of_ble_eq_true rfl) dX3_isOpen_82 ⟨Nat.zero_le _, Nat.zero_le _⟩ (fun H locs hw => ?_)
    have hw : Wd g A s (w_Reader h x q g ((((tok, beh), (msk, sec)), ((siz, num), sn)), (((cel, szs), stb), ((next, fault), fplace)))) H locs := hw
    refine W.eq (g2 := F0 m 85 ls [.int o4]) rfl ?_
    refine lv_if_ne (tgt := 92) hx hb dX3_isOpen_85 (by decide) (fun c5 => ?_) (fun c5 => ?_)
    · refine lv_iconst (v := (0 : Int32)) hx hb dX3_isOpen_92 (by decide) ?_
      exact hI.retZ (u := ((((tok, beh), (msk, sec)), ((siz, num), sn)), (((cel, szs), stb), ((next, fault), fplace)))) hw rfl (hr.trans (congrArg (rb_X3_isOpen ((((tok, beh), (msk, sec)), ((siz, num), sn)), (((cel, szs), stb), ((next, fault), fplace)))) ((show f_X3_isOpen tok siz sn stb x1 = ((0 : Int32)) from bd_of ho1 (it_t c2 (bd_of ho3 (bd_of ho4 (it_f c5 (rfl))))))))) dX3_isOpen_93
    · refine lv_iconst (v := (1 : Int32)) hx hb dX3_isOpen_88 (by decide) ?_
      refine lv_goto (tgt := 93) hx hb dX3_isOpen_89 (by decide) ?_
      exact hI.retZ (u := ((((tok, beh), (msk, sec)), ((siz, num), sn)), (((cel, szs), stb), ((next, fault), fplace)))) hw rfl (hr.trans (congrArg (rb_X3_isOpen ((((tok, beh), (msk, sec)), ((siz, num), sn)), (((cel, szs), stb), ((next, fault), fplace)))) ((show f_X3_isOpen tok siz sn stb x1 = ((1 : Int32)) from bd_of ho1 (it_t c2 (bd_of ho3 (bd_of ho4 (it_t c5 (rfl))))))))) dX3_isOpen_93
  by_cases c6 : o1 = (2 : Int32)
  · refine lv_lookup (off := 86) (tgt := 94) hx hb dX3_isOpen_8 (by decide) (by rw [c6]; rfl) (by decide) ?_
    refine lv_aload_n hx hb dX3_isOpen_94 rfl (lv_at hl 0 rfl) ?_
    refine hI.get (v := .ref (q 0)) hw fg_X3_15 0 rfl rfl dX3_isOpen_95 ?_
    refine lv_aload_n hx hb dX3_isOpen_98 rfl (lv_at hl 0 rfl) ?_
    refine hI.get (v := .ref (x 0)) hw fg_X3_9 0 rfl rfl dX3_isOpen_99 ?_
    refine lv_iload_n hx hb dX3_isOpen_102 rfl (lv_at hl 1 rfl) ?_
    refine lv_iconst (v := (1 : Int32)) hx hb dX3_isOpen_103 (by decide) ?_
    refine lv_iadd hx hb dX3_isOpen_104 ?_
    obtain ⟨o7, ho7⟩ : ∃ o, o = f_X2_tokenAt tok siz (x1 + (1 : Int32)) := ⟨_, rfl⟩
    refine hI.callI (wl := w_Prog x g) (a := (((tok, beh), msk), (sec, siz))) (wr := [(h, .inr (3, [.ref (x 0), .ref (q 0), .int next, .int fault, .int fplace])), (q 0, .inr (4, [.ref (q 1), .ref (q 2), .ref (q 3), .ref (q 4), .ref (q 5)])), (q 1, .inl (g.2.1, 10, .inl num)), (q 2, .inl (g.2.2, 10, .inl sn)), (q 3, .inl (g.2.1, 64, .inl cel)), (q 4, .inl (g.2.1, 4, .inl szs)), (q 5, .inl (g.2.2, 4, .inl stb))]) (ws1 := w_Reader h x q g ((((tok, beh), (msk, sec)), ((siz, num), sn)), (((cel, szs), stb), ((next, fault), fplace)))) (r := rb_X2_tokenAt (((tok, beh), msk), (sec, siz)) o7) (As := [.int (x1 + (1 : Int32))]) (rest := [.ref (q 0)]) hw (by rw [ho7]; exact c_X2_tokenAt l g x tok beh msk sec siz (x1 + (1 : Int32)) ) ok_yX2_tokenAt ml_X3_46 (rm_ok (by decide) (by decide)) [1, 2, 3, 4, 5] [0, 6, 7, 8, 9, 10, 11] [0, 7, 8, 9, 10, 11, 1, 2, 3, 4, 5, 6] rfl rfl rfl rfl rfl 0 rfl rfl rfl rfl hl.1 (Nat.le_of_ble_eq_true rfl) dX3_isOpen_105 ⟨Nat.zero_le _, Nat.zero_le _⟩ (fun H locs hw => ?_)
    have hw : Wd g A s (w_Reader h x q g ((((tok, beh), (msk, sec)), ((siz, num), sn)), (((cel, szs), stb), ((next, fault), fplace)))) H locs := hw
    refine W.eq (g2 := F0 m 108 ls [.int o7, .ref (q 0)]) rfl ?_
    obtain ⟨o8, ho8⟩ : ∃ o, o = f_X5_isSecretTable stb o7 := ⟨_, rfl⟩
    refine hI.callI (wl := w_Store q g) (a := (((num, sn), cel), (szs, stb))) (wr := [(h, .inr (3, [.ref (x 0), .ref (q 0), .int next, .int fault, .int fplace])), (x 0, .inr (2, [.ref (x 1), .ref (x 2), .ref (x 3), .ref (x 4), .int siz])), (x 1, .inl (g.2.1, 400, .inl tok)), (x 2, .inl (g.2.1, 400, .inl beh)), (x 3, .inl (g.2.1, 400, .inl msk)), (x 4, .inl (g.2.2, 400, .inl sec))]) (ws1 := w_Reader h x q g ((((tok, beh), (msk, sec)), ((siz, num), sn)), (((cel, szs), stb), ((next, fault), fplace)))) (r := rb_X5_isSecretTable (((num, sn), cel), (szs, stb)) o8) (As := [.int o7]) (rest := []) hw (by rw [ho8]; exact c_X5_isSecretTable l g q num sn cel szs stb o7 ) ok_yX5_isSecretTable ml_X3_81 (rm_ok (by decide) (by decide)) [6, 7, 8, 9, 10, 11] [0, 1, 2, 3, 4, 5] [0, 1, 2, 3, 4, 5, 6, 7, 8, 9, 10, 11] rfl rfl rfl rfl rfl 0 rfl rfl rfl rfl hl.1 (Nat.le_of_ble_eq_true rfl) dX3_isOpen_108 ⟨Nat.zero_le _, Nat.zero_le _⟩ (fun H locs hw => ?_)
    have hw : Wd g A s (w_Reader h x q g ((((tok, beh), (msk, sec)), ((siz, num), sn)), (((cel, szs), stb), ((next, fault), fplace)))) H locs := hw
    refine W.eq (g2 := F0 m 111 ls [.int o8]) rfl ?_
    refine lv_if_ne (tgt := 118) hx hb dX3_isOpen_111 (by decide) (fun c9 => ?_) (fun c9 => ?_)
    · refine lv_iconst (v := (0 : Int32)) hx hb dX3_isOpen_118 (by decide) ?_
      exact hI.retZ (u := ((((tok, beh), (msk, sec)), ((siz, num), sn)), (((cel, szs), stb), ((next, fault), fplace)))) hw rfl (hr.trans (congrArg (rb_X3_isOpen ((((tok, beh), (msk, sec)), ((siz, num), sn)), (((cel, szs), stb), ((next, fault), fplace)))) ((show f_X3_isOpen tok siz sn stb x1 = ((0 : Int32)) from bd_of ho1 (it_f c2 (it_t c6 (bd_of ho7 (bd_of ho8 (it_f c9 (rfl)))))))))) dX3_isOpen_119
    · refine lv_iconst (v := (1 : Int32)) hx hb dX3_isOpen_114 (by decide) ?_
      refine lv_goto (tgt := 119) hx hb dX3_isOpen_115 (by decide) ?_
      exact hI.retZ (u := ((((tok, beh), (msk, sec)), ((siz, num), sn)), (((cel, szs), stb), ((next, fault), fplace)))) hw rfl (hr.trans (congrArg (rb_X3_isOpen ((((tok, beh), (msk, sec)), ((siz, num), sn)), (((cel, szs), stb), ((next, fault), fplace)))) ((show f_X3_isOpen tok siz sn stb x1 = ((1 : Int32)) from bd_of ho1 (it_f c2 (it_t c6 (bd_of ho7 (bd_of ho8 (it_t c9 (rfl)))))))))) dX3_isOpen_119
  by_cases c10 : o1 = (5 : Int32)
  · refine lv_lookup (off := 112) (tgt := 120) hx hb dX3_isOpen_8 (by decide) (by rw [c10]; rfl) (by decide) ?_
    refine lv_iconst (v := (1 : Int32)) hx hb dX3_isOpen_120 (by decide) ?_
    exact hI.retZ (u := ((((tok, beh), (msk, sec)), ((siz, num), sn)), (((cel, szs), stb), ((next, fault), fplace)))) hw rfl (hr.trans (congrArg (rb_X3_isOpen ((((tok, beh), (msk, sec)), ((siz, num), sn)), (((cel, szs), stb), ((next, fault), fplace)))) ((show f_X3_isOpen tok siz sn stb x1 = ((1 : Int32)) from bd_of ho1 (it_f c2 (it_f c6 (it_t c10 (rfl)))))))) dX3_isOpen_121
  by_cases c11 : o1 = (7 : Int32)
  · refine lv_lookup (off := 112) (tgt := 120) hx hb dX3_isOpen_8 (by decide) (by rw [c11]; rfl) (by decide) ?_
    refine lv_iconst (v := (1 : Int32)) hx hb dX3_isOpen_120 (by decide) ?_
    exact hI.retZ (u := ((((tok, beh), (msk, sec)), ((siz, num), sn)), (((cel, szs), stb), ((next, fault), fplace)))) hw rfl (hr.trans (congrArg (rb_X3_isOpen ((((tok, beh), (msk, sec)), ((siz, num), sn)), (((cel, szs), stb), ((next, fault), fplace)))) ((show f_X3_isOpen tok siz sn stb x1 = ((1 : Int32)) from bd_of ho1 (it_f c2 (it_f c6 (it_f c10 (it_t c11 (rfl))))))))) dX3_isOpen_121
  by_cases c12 : o1 = (33 : Int32)
  · refine lv_lookup (off := 112) (tgt := 120) hx hb dX3_isOpen_8 (by decide) (by rw [c12]; rfl) (by decide) ?_
    refine lv_iconst (v := (1 : Int32)) hx hb dX3_isOpen_120 (by decide) ?_
    exact hI.retZ (u := ((((tok, beh), (msk, sec)), ((siz, num), sn)), (((cel, szs), stb), ((next, fault), fplace)))) hw rfl (hr.trans (congrArg (rb_X3_isOpen ((((tok, beh), (msk, sec)), ((siz, num), sn)), (((cel, szs), stb), ((next, fault), fplace)))) ((show f_X3_isOpen tok siz sn stb x1 = ((1 : Int32)) from bd_of ho1 (it_f c2 (it_f c6 (it_f c10 (it_f c11 (it_t c12 (rfl)))))))))) dX3_isOpen_121
  by_cases c13 : o1 = (34 : Int32)
  · refine lv_lookup (off := 112) (tgt := 120) hx hb dX3_isOpen_8 (by decide) (by rw [c13]; rfl) (by decide) ?_
    refine lv_iconst (v := (1 : Int32)) hx hb dX3_isOpen_120 (by decide) ?_
    exact hI.retZ (u := ((((tok, beh), (msk, sec)), ((siz, num), sn)), (((cel, szs), stb), ((next, fault), fplace)))) hw rfl (hr.trans (congrArg (rb_X3_isOpen ((((tok, beh), (msk, sec)), ((siz, num), sn)), (((cel, szs), stb), ((next, fault), fplace)))) ((show f_X3_isOpen tok siz sn stb x1 = ((1 : Int32)) from bd_of ho1 (it_f c2 (it_f c6 (it_f c10 (it_f c11 (it_f c12 (it_t c13 (rfl))))))))))) dX3_isOpen_121
  refine lv_lookup (off := 114) (tgt := 122) hx hb dX3_isOpen_8 (by decide) (by rw [lv_osw c2 (show ((1 : Int32)).toInt = 1 by decide)]; rw [lv_osw c6 (show ((2 : Int32)).toInt = 2 by decide)]; rw [lv_osw c10 (show ((5 : Int32)).toInt = 5 by decide)]; rw [lv_osw c11 (show ((7 : Int32)).toInt = 7 by decide)]; rw [lv_osw c12 (show ((33 : Int32)).toInt = 33 by decide)]; rw [lv_osw c13 (show ((34 : Int32)).toInt = 34 by decide)]; rfl) (by decide) ?_
  refine lv_iconst (v := (0 : Int32)) hx hb dX3_isOpen_122 (by decide) ?_
  exact hI.retZ (u := ((((tok, beh), (msk, sec)), ((siz, num), sn)), (((cel, szs), stb), ((next, fault), fplace)))) hw rfl (hr.trans (congrArg (rb_X3_isOpen ((((tok, beh), (msk, sec)), ((siz, num), sn)), (((cel, szs), stb), ((next, fault), fplace)))) ((show f_X3_isOpen tok siz sn stb x1 = ((0 : Int32)) from bd_of ho1 (it_f c2 (it_f c6 (it_f c10 (it_f c11 (it_f c12 (it_f c13 (rfl))))))))))) dX3_isOpen_123
def f_X3_findLeak_2 (tok : Nat → Int32) (beh : Nat → Int32) (msk : Nat → Int32) (sec : Nat → Int32) (siz : Int32) (sn : Nat → Int32) (stb : Nat → Int32) : Nat → Int32 → Int32 → Int32 → (Int32 × Int32)
  | 0, fault, fplace, y1 => ((fault, fplace))
  | k + 1, fault, fplace, y1 => if (400 : Int32) ≤ y1 then ((fault, fplace)) else bd (f_X2_size siz) (fun o2 => if o2 ≤ y1 then ((fault, fplace)) else if fault = 0 then bd (f_X2_begins beh siz y1) (fun o5 => if o5 = 0 then f_X3_findLeak_2 tok beh msk sec siz sn stb k fault fplace (y1 + (1 : Int32)) else bd (f_X3_isOpen tok siz sn stb y1) (fun o7 => if o7 = 0 then f_X3_findLeak_2 tok beh msk sec siz sn stb k fault fplace (y1 + (1 : Int32)) else bd (f_X2_isSecret sec siz y1) (fun o9 => if o9 = 0 then bd (f_X2_masksAround msk siz y1) (fun o12 => if o12 ≤ 0 then f_X3_findLeak_2 tok beh msk sec siz sn stb k fault fplace (y1 + (1 : Int32)) else bd (f_X3_blame fault fplace (-14 : Int32) y1) (fun o14 => f_X3_findLeak_2 tok beh msk sec siz sn stb k o14.1 o14.2 (y1 + (1 : Int32)))) else bd (f_X3_blame fault fplace (-14 : Int32) y1) (fun o11 => f_X3_findLeak_2 tok beh msk sec siz sn stb k o11.1 o11.2 (y1 + (1 : Int32)))))) else ((fault, fplace)))
def f_X3_findLeak (tok : Nat → Int32) (beh : Nat → Int32) (msk : Nat → Int32) (sec : Nat → Int32) (siz : Int32) (sn : Nat → Int32) (stb : Nat → Int32) (fault : Int32) (fplace : Int32) : (Int32 × Int32) := f_X3_findLeak_2 tok beh msk sec siz sn stb 401 fault fplace (0 : Int32)
def rb_X3_findLeak (σ : S_Reader) (o : (Int32 × Int32)) : S_Reader := ((((σ.1.1.1.1, σ.1.1.1.2), (σ.1.1.2.1, σ.1.1.2.2)), ((σ.1.2.1.1, σ.1.2.1.2), σ.1.2.2)), (((σ.2.1.1.1, σ.2.1.1.2), σ.2.1.2), ((σ.2.2.1.1, o.1), o.2)))
set_option maxHeartbeats 4000000 in
set_option maxRecDepth 100000 in
theorem lp_X3_findLeak_2 (l : Launch) (g : GG) (h : Nat) (x : Nat → Nat) (q : Nat → Nat) (tok : Nat → Int32) (beh : Nat → Int32) (msk : Nat → Int32) (sec : Nat → Int32) (siz : Int32) (num : Nat → Int32) (sn : Nat → Int32) (cel : Nat → Int32) (szs : Nat → Int32) (stb : Nat → Int32) (next : Int32) (fault₀ : Int32) (fplace₀ : Int32)  {p : Program} {e : Env} {s : State} {m : MethodId} {args : Array Value} {below : List Frame} {meth : Method} {c : Code} {A : Nat → Prop} (hI : InM p s m args meth c RX3 cX3_findLeak 2 none g A) : ∀ (k : Nat) (fault : Int32) (fplace : Int32) (y1 : Int32), (cnt 400 k y1) → ∀ (r : S_Reader), r = rb_X3_findLeak ((((tok, beh), (msk, sec)), ((siz, num), sn)), (((cel, szs), stb), ((next, fault₀), fplace₀))) (f_X3_findLeak_2 tok beh msk sec siz sn stb k fault fplace y1) → ∀ (H : Heap) (locs : List Loc), Wd g A s (w_Reader h x q g ((((tok, beh), (msk, sec)), ((siz, num), sn)), (((cel, szs), stb), ((next, fault), fplace)))) H locs → ∀ (ls : Array Slot), lv_has ls 2 [(0, .ref h), (1, .int y1)] → W p l e (rmN 3) s m args below meth c H locs 0 0 (QV g (w_Reader h x q g) A r below args s) (F0 m 2 ls []) := by
  have hx := hI.1
  have hb := hI.2.1
  intro k
  induction k with
  | zero =>
    intro fault fplace y1 hc
    exact absurd hc cnt_n
  | succ k ih =>
    intro fault fplace y1 hc r hr H locs hw ls hl
    refine lv_iload_n hx hb dX3_findLeak_2 rfl (lv_at hl 1 rfl) ?_
    refine lv_sipush (v := (400 : Int32)) hx hb dX3_findLeak_3 (by decide) ?_
    refine lv_icmp_ge (tgt := 81) hx hb dX3_findLeak_6 (by decide) (fun c1 => ?_) (fun c1 => ?_)
    · exact hI.retV (u := ((((tok, beh), (msk, sec)), ((siz, num), sn)), (((cel, szs), stb), ((next, fault), fplace)))) hw (hr.trans (congrArg (rb_X3_findLeak ((((tok, beh), (msk, sec)), ((siz, num), sn)), (((cel, szs), stb), ((next, fault₀), fplace₀)))) ((show f_X3_findLeak_2 tok beh msk sec siz sn stb (k + 1) fault fplace y1 = ((fault, fplace)) from it_t c1 (rfl))))) dX3_findLeak_81
    · refine lv_iload_n hx hb dX3_findLeak_9 rfl (lv_at hl 1 rfl) ?_
      refine lv_aload_n hx hb dX3_findLeak_10 rfl (lv_at hl 0 rfl) ?_
      refine hI.get (v := .ref (x 0)) hw fg_X3_9 0 rfl rfl dX3_findLeak_11 ?_
      obtain ⟨o2, ho2⟩ : ∃ o, o = f_X2_size siz := ⟨_, rfl⟩
      refine hI.callI (wl := w_Prog x g) (a := (((tok, beh), msk), (sec, siz))) (wr := [(h, .inr (3, [.ref (x 0), .ref (q 0), .int next, .int fault, .int fplace])), (q 0, .inr (4, [.ref (q 1), .ref (q 2), .ref (q 3), .ref (q 4), .ref (q 5)])), (q 1, .inl (g.2.1, 10, .inl num)), (q 2, .inl (g.2.2, 10, .inl sn)), (q 3, .inl (g.2.1, 64, .inl cel)), (q 4, .inl (g.2.1, 4, .inl szs)), (q 5, .inl (g.2.2, 4, .inl stb))]) (ws1 := w_Reader h x q g ((((tok, beh), (msk, sec)), ((siz, num), sn)), (((cel, szs), stb), ((next, fault), fplace)))) (r := rb_X2_size (((tok, beh), msk), (sec, siz)) o2) (As := []) (rest := [.int y1]) hw (by rw [ho2]; exact c_X2_size l g x tok beh msk sec siz ) ok_yX2_size ml_X3_84 (rm_ok (by decide) (by decide)) [1, 2, 3, 4, 5] [0, 6, 7, 8, 9, 10, 11] [0, 7, 8, 9, 10, 11, 1, 2, 3, 4, 5, 6] rfl rfl rfl rfl rfl 0 rfl rfl rfl rfl hl.1 (Nat.le_of_ble_eq_true rfl) dX3_findLeak_14 ⟨Nat.zero_le _, Nat.zero_le _⟩ (fun H locs hw => ?_)
      have hw : Wd g A s (w_Reader h x q g ((((tok, beh), (msk, sec)), ((siz, num), sn)), (((cel, szs), stb), ((next, fault), fplace)))) H locs := hw
      refine W.eq (g2 := F0 m 17 ls [.int o2, .int y1]) rfl ?_
      refine lv_icmp_ge (tgt := 81) hx hb dX3_findLeak_17 (by decide) (fun c3 => ?_) (fun c3 => ?_)
      · exact hI.retV (u := ((((tok, beh), (msk, sec)), ((siz, num), sn)), (((cel, szs), stb), ((next, fault), fplace)))) hw (hr.trans (congrArg (rb_X3_findLeak ((((tok, beh), (msk, sec)), ((siz, num), sn)), (((cel, szs), stb), ((next, fault₀), fplace₀)))) ((show f_X3_findLeak_2 tok beh msk sec siz sn stb (k + 1) fault fplace y1 = ((fault, fplace)) from it_f c1 (bd_of ho2 (it_t c3 (rfl))))))) dX3_findLeak_81
      · refine lv_aload_n hx hb dX3_findLeak_20 rfl (lv_at hl 0 rfl) ?_
        refine hI.get (v := .int fault) hw fg_X3_26 0 rfl rfl dX3_findLeak_21 ?_
        refine lv_if_ne (tgt := 81) hx hb dX3_findLeak_24 (by decide) (fun c4 => ?_) (fun c4 => ?_)
        · exact hI.retV (u := ((((tok, beh), (msk, sec)), ((siz, num), sn)), (((cel, szs), stb), ((next, fault), fplace)))) hw (hr.trans (congrArg (rb_X3_findLeak ((((tok, beh), (msk, sec)), ((siz, num), sn)), (((cel, szs), stb), ((next, fault₀), fplace₀)))) ((show f_X3_findLeak_2 tok beh msk sec siz sn stb (k + 1) fault fplace y1 = ((fault, fplace)) from it_f c1 (bd_of ho2 (it_f c3 (it_f c4 (rfl)))))))) dX3_findLeak_81
        · refine lv_aload_n hx hb dX3_findLeak_27 rfl (lv_at hl 0 rfl) ?_
          refine hI.get (v := .ref (x 0)) hw fg_X3_9 0 rfl rfl dX3_findLeak_28 ?_
          refine lv_iload_n hx hb dX3_findLeak_31 rfl (lv_at hl 1 rfl) ?_
          obtain ⟨o5, ho5⟩ : ∃ o, o = f_X2_begins beh siz y1 := ⟨_, rfl⟩
          refine hI.callI (wl := w_Prog x g) (a := (((tok, beh), msk), (sec, siz))) (wr := [(h, .inr (3, [.ref (x 0), .ref (q 0), .int next, .int fault, .int fplace])), (q 0, .inr (4, [.ref (q 1), .ref (q 2), .ref (q 3), .ref (q 4), .ref (q 5)])), (q 1, .inl (g.2.1, 10, .inl num)), (q 2, .inl (g.2.2, 10, .inl sn)), (q 3, .inl (g.2.1, 64, .inl cel)), (q 4, .inl (g.2.1, 4, .inl szs)), (q 5, .inl (g.2.2, 4, .inl stb))]) (ws1 := w_Reader h x q g ((((tok, beh), (msk, sec)), ((siz, num), sn)), (((cel, szs), stb), ((next, fault), fplace)))) (r := rb_X2_begins (((tok, beh), msk), (sec, siz)) o5) (As := [.int y1]) (rest := []) hw (by rw [ho5]; exact c_X2_begins l g x tok beh msk sec siz y1 ) ok_yX2_begins ml_X3_88 (rm_ok (by decide) (by decide)) [1, 2, 3, 4, 5] [0, 6, 7, 8, 9, 10, 11] [0, 7, 8, 9, 10, 11, 1, 2, 3, 4, 5, 6] rfl rfl rfl rfl rfl 0 rfl rfl rfl rfl hl.1 (Nat.le_of_ble_eq_true rfl) dX3_findLeak_32 ⟨Nat.zero_le _, Nat.zero_le _⟩ (fun H locs hw => ?_)
          have hw : Wd g A s (w_Reader h x q g ((((tok, beh), (msk, sec)), ((siz, num), sn)), (((cel, szs), stb), ((next, fault), fplace)))) H locs := hw
          refine W.eq (g2 := F0 m 35 ls [.int o5]) rfl ?_
          refine lv_if_eq (tgt := 75) hx hb dX3_findLeak_35 (by decide) (fun c6 => ?_) (fun c6 => ?_)
          · refine lv_iinc (v := y1 + (1 : Int32)) (lv' := [(1, .int (y1 + (1 : Int32))), (0, .ref h)]) hx hb dX3_findLeak_75 hl (k := 1) rfl rfl (by decide) rfl (fun ls hl => ?_)
            refine lv_goto (tgt := 2) hx hb dX3_findLeak_78 (by decide) ?_
            exact ih fault fplace (y1 + (1 : Int32)) (cnt_s (by decide) hc c1) r (hr.trans (congrArg (rb_X3_findLeak ((((tok, beh), (msk, sec)), ((siz, num), sn)), (((cel, szs), stb), ((next, fault₀), fplace₀)))) ((show f_X3_findLeak_2 tok beh msk sec siz sn stb (k + 1) fault fplace y1 = f_X3_findLeak_2 tok beh msk sec siz sn stb k fault fplace (y1 + (1 : Int32)) from it_f c1 (bd_of ho2 (it_f c3 (it_t c4 (bd_of ho5 (it_t c6 (rfl)))))))))) _ _ hw _ (lv_sub hl [1, 0] rfl)
          · refine lv_aload_n hx hb dX3_findLeak_38 rfl (lv_at hl 0 rfl) ?_
            refine lv_iload_n hx hb dX3_findLeak_39 rfl (lv_at hl 1 rfl) ?_
            obtain ⟨o7, ho7⟩ : ∃ o, o = f_X3_isOpen tok siz sn stb y1 := ⟨_, rfl⟩
            refine hI.callI0 (wl := w_Reader h x q g) (a := ((((tok, beh), (msk, sec)), ((siz, num), sn)), (((cel, szs), stb), ((next, fault), fplace)))) (r := rb_X3_isOpen ((((tok, beh), (msk, sec)), ((siz, num), sn)), (((cel, szs), stb), ((next, fault), fplace))) o7) (As := [.int y1]) (rest := []) hw (by rw [ho7]; exact c_X3_isOpen l g h x q tok beh msk sec siz num sn cel szs stb next fault fplace y1 ) ok_yX3_isOpen ml_X3_91 (rm_ok (by decide) (by decide)) 0 rfl rfl rfl rfl hl.1 (Nat.le_of_ble_eq_true rfl) dX3_findLeak_40 ⟨Nat.zero_le _, Nat.zero_le _⟩ (fun H locs hw => ?_)
            have hw : Wd g A s (w_Reader h x q g ((((tok, beh), (msk, sec)), ((siz, num), sn)), (((cel, szs), stb), ((next, fault), fplace)))) H locs := hw
            refine W.eq (g2 := F0 m 43 ls [.int o7]) rfl ?_
            refine lv_if_eq (tgt := 75) hx hb dX3_findLeak_43 (by decide) (fun c8 => ?_) (fun c8 => ?_)
            · refine lv_iinc (v := y1 + (1 : Int32)) (lv' := [(1, .int (y1 + (1 : Int32))), (0, .ref h)]) hx hb dX3_findLeak_75 hl (k := 1) rfl rfl (by decide) rfl (fun ls hl => ?_)
              refine lv_goto (tgt := 2) hx hb dX3_findLeak_78 (by decide) ?_
              exact ih fault fplace (y1 + (1 : Int32)) (cnt_s (by decide) hc c1) r (hr.trans (congrArg (rb_X3_findLeak ((((tok, beh), (msk, sec)), ((siz, num), sn)), (((cel, szs), stb), ((next, fault₀), fplace₀)))) ((show f_X3_findLeak_2 tok beh msk sec siz sn stb (k + 1) fault fplace y1 = f_X3_findLeak_2 tok beh msk sec siz sn stb k fault fplace (y1 + (1 : Int32)) from it_f c1 (bd_of ho2 (it_f c3 (it_t c4 (bd_of ho5 (it_f c6 (bd_of ho7 (it_t c8 (rfl)))))))))))) _ _ hw _ (lv_sub hl [1, 0] rfl)
            · refine lv_aload_n hx hb dX3_findLeak_46 rfl (lv_at hl 0 rfl) ?_
              refine hI.get (v := .ref (x 0)) hw fg_X3_9 0 rfl rfl dX3_findLeak_47 ?_
              refine lv_iload_n hx hb dX3_findLeak_50 rfl (lv_at hl 1 rfl) ?_
              obtain ⟨o9, ho9⟩ : ∃ o, o = f_X2_isSecret sec siz y1 := ⟨_, rfl⟩
              refine hI.callI (wl := w_Prog x g) (a := (((tok, beh), msk), (sec, siz))) (wr := [(h, .inr (3, [.ref (x 0), .ref (q 0), .int next, .int fault, .int fplace])), (q 0, .inr (4, [.ref (q 1), .ref (q 2), .ref (q 3), .ref (q 4), .ref (q 5)])), (q 1, .inl (g.2.1, 10, .inl num)), (q 2, .inl (g.2.2, 10, .inl sn)), (q 3, .inl (g.2.1, 64, .inl cel)), (q 4, .inl (g.2.1, 4, .inl szs)), (q 5, .inl (g.2.2, 4, .inl stb))]) (ws1 := w_Reader h x q g ((((tok, beh), (msk, sec)), ((siz, num), sn)), (((cel, szs), stb), ((next, fault), fplace)))) (r := rb_X2_isSecret (((tok, beh), msk), (sec, siz)) o9) (As := [.int y1]) (rest := []) hw (by rw [ho9]; exact c_X2_isSecret l g x tok beh msk sec siz y1 ) ok_yX2_isSecret ml_X3_94 (rm_ok (by decide) (by decide)) [1, 2, 3, 4, 5] [0, 6, 7, 8, 9, 10, 11] [0, 7, 8, 9, 10, 11, 1, 2, 3, 4, 5, 6] rfl rfl rfl rfl rfl 0 rfl rfl rfl rfl hl.1 (Nat.le_of_ble_eq_true rfl) dX3_findLeak_51 ⟨Nat.zero_le _, Nat.zero_le _⟩ (fun H locs hw => ?_)
              have hw : Wd g A s (w_Reader h x q g ((((tok, beh), (msk, sec)), ((siz, num), sn)), (((cel, szs), stb), ((next, fault), fplace)))) H locs := hw
              refine W.eq (g2 := F0 m 54 ls [.int o9]) rfl ?_
              refine lv_if_ne (tgt := 68) hx hb dX3_findLeak_54 (by decide) (fun c10 => ?_) (fun c10 => ?_)
              · refine lv_aload_n hx hb dX3_findLeak_68 rfl (lv_at hl 0 rfl) ?_
                refine lv_bipush (v := (-14 : Int32)) hx hb dX3_findLeak_69 (by decide) ?_
                refine lv_iload_n hx hb dX3_findLeak_71 rfl (lv_at hl 1 rfl) ?_
                obtain ⟨o11, ho11⟩ : ∃ o, o = f_X3_blame fault fplace (-14 : Int32) y1 := ⟨_, rfl⟩
                refine hI.callV0 (wl := w_Reader h x q g) (a := ((((tok, beh), (msk, sec)), ((siz, num), sn)), (((cel, szs), stb), ((next, fault), fplace)))) (r := rb_X3_blame ((((tok, beh), (msk, sec)), ((siz, num), sn)), (((cel, szs), stb), ((next, fault), fplace))) o11) (As := [.int (-14 : Int32), .int y1]) (rest := []) hw (by rw [ho11]; exact c_X3_blame l g h x q tok beh msk sec siz num sn cel szs stb next fault fplace (-14 : Int32) y1 ) ok_yX3_blame ml_X3_39 (rm_ok (by decide) (by decide)) 0 rfl rfl rfl rfl hl.1 (Nat.le_of_ble_eq_true rfl) dX3_findLeak_72 ⟨Nat.zero_le _, Nat.zero_le _⟩ (fun H locs hw => ?_)
                have hw : Wd g A s (w_Reader h x q g ((((tok, beh), (msk, sec)), ((siz, num), sn)), (((cel, szs), stb), ((next, o11.1), o11.2)))) H locs := hw
                refine W.eq (g2 := F0 m 75 ls []) rfl ?_
                refine lv_iinc (v := y1 + (1 : Int32)) (lv' := [(1, .int (y1 + (1 : Int32))), (0, .ref h)]) hx hb dX3_findLeak_75 hl (k := 1) rfl rfl (by decide) rfl (fun ls hl => ?_)
                refine lv_goto (tgt := 2) hx hb dX3_findLeak_78 (by decide) ?_
                exact ih o11.1 o11.2 (y1 + (1 : Int32)) (cnt_s (by decide) hc c1) r (hr.trans (congrArg (rb_X3_findLeak ((((tok, beh), (msk, sec)), ((siz, num), sn)), (((cel, szs), stb), ((next, fault₀), fplace₀)))) ((show f_X3_findLeak_2 tok beh msk sec siz sn stb (k + 1) fault fplace y1 = f_X3_findLeak_2 tok beh msk sec siz sn stb k o11.1 o11.2 (y1 + (1 : Int32)) from it_f c1 (bd_of ho2 (it_f c3 (it_t c4 (bd_of ho5 (it_f c6 (bd_of ho7 (it_f c8 (bd_of ho9 (it_f c10 (bd_of ho11 (rfl))))))))))))))) _ _ hw _ (lv_sub hl [1, 0] rfl)
              · refine lv_aload_n hx hb dX3_findLeak_57 rfl (lv_at hl 0 rfl) ?_
                refine hI.get (v := .ref (x 0)) hw fg_X3_9 0 rfl rfl dX3_findLeak_58 ?_
                refine lv_iload_n hx hb dX3_findLeak_61 rfl (lv_at hl 1 rfl) ?_
                obtain ⟨o12, ho12⟩ : ∃ o, o = f_X2_masksAround msk siz y1 := ⟨_, rfl⟩
                refine hI.callI (wl := w_Prog x g) (a := (((tok, beh), msk), (sec, siz))) (wr := [(h, .inr (3, [.ref (x 0), .ref (q 0), .int next, .int fault, .int fplace])), (q 0, .inr (4, [.ref (q 1), .ref (q 2), .ref (q 3), .ref (q 4), .ref (q 5)])), (q 1, .inl (g.2.1, 10, .inl num)), (q 2, .inl (g.2.2, 10, .inl sn)), (q 3, .inl (g.2.1, 64, .inl cel)), (q 4, .inl (g.2.1, 4, .inl szs)), (q 5, .inl (g.2.2, 4, .inl stb))]) (ws1 := w_Reader h x q g ((((tok, beh), (msk, sec)), ((siz, num), sn)), (((cel, szs), stb), ((next, fault), fplace)))) (r := rb_X2_masksAround (((tok, beh), msk), (sec, siz)) o12) (As := [.int y1]) (rest := []) hw (by rw [ho12]; exact c_X2_masksAround l g x tok beh msk sec siz y1 ) ok_yX2_masksAround ml_X3_97 (rm_ok (by decide) (by decide)) [1, 2, 3, 4, 5] [0, 6, 7, 8, 9, 10, 11] [0, 7, 8, 9, 10, 11, 1, 2, 3, 4, 5, 6] rfl rfl rfl rfl rfl 0 rfl rfl rfl rfl hl.1 (Nat.le_of_ble_eq_true rfl) dX3_findLeak_62 ⟨Nat.zero_le _, Nat.zero_le _⟩ (fun H locs hw => ?_)
                have hw : Wd g A s (w_Reader h x q g ((((tok, beh), (msk, sec)), ((siz, num), sn)), (((cel, szs), stb), ((next, fault), fplace)))) H locs := hw
                refine W.eq (g2 := F0 m 65 ls [.int o12]) rfl ?_
                refine lv_if_le (tgt := 75) hx hb dX3_findLeak_65 (by decide) (fun c13 => ?_) (fun c13 => ?_)
                · refine lv_iinc (v := y1 + (1 : Int32)) (lv' := [(1, .int (y1 + (1 : Int32))), (0, .ref h)]) hx hb dX3_findLeak_75 hl (k := 1) rfl rfl (by decide) rfl (fun ls hl => ?_)
                  refine lv_goto (tgt := 2) hx hb dX3_findLeak_78 (by decide) ?_
                  exact ih fault fplace (y1 + (1 : Int32)) (cnt_s (by decide) hc c1) r (hr.trans (congrArg (rb_X3_findLeak ((((tok, beh), (msk, sec)), ((siz, num), sn)), (((cel, szs), stb), ((next, fault₀), fplace₀)))) ((show f_X3_findLeak_2 tok beh msk sec siz sn stb (k + 1) fault fplace y1 = f_X3_findLeak_2 tok beh msk sec siz sn stb k fault fplace (y1 + (1 : Int32)) from it_f c1 (bd_of ho2 (it_f c3 (it_t c4 (bd_of ho5 (it_f c6 (bd_of ho7 (it_f c8 (bd_of ho9 (it_t c10 (bd_of ho12 (it_t c13 (rfl)))))))))))))))) _ _ hw _ (lv_sub hl [1, 0] rfl)
                · refine lv_aload_n hx hb dX3_findLeak_68 rfl (lv_at hl 0 rfl) ?_
                  refine lv_bipush (v := (-14 : Int32)) hx hb dX3_findLeak_69 (by decide) ?_
                  refine lv_iload_n hx hb dX3_findLeak_71 rfl (lv_at hl 1 rfl) ?_
                  obtain ⟨o14, ho14⟩ : ∃ o, o = f_X3_blame fault fplace (-14 : Int32) y1 := ⟨_, rfl⟩
                  refine hI.callV0 (wl := w_Reader h x q g) (a := ((((tok, beh), (msk, sec)), ((siz, num), sn)), (((cel, szs), stb), ((next, fault), fplace)))) (r := rb_X3_blame ((((tok, beh), (msk, sec)), ((siz, num), sn)), (((cel, szs), stb), ((next, fault), fplace))) o14) (As := [.int (-14 : Int32), .int y1]) (rest := []) hw (by rw [ho14]; exact c_X3_blame l g h x q tok beh msk sec siz num sn cel szs stb next fault fplace (-14 : Int32) y1 ) ok_yX3_blame ml_X3_39 (rm_ok (by decide) (by decide)) 0 rfl rfl rfl rfl hl.1 (Nat.le_of_ble_eq_true rfl) dX3_findLeak_72 ⟨Nat.zero_le _, Nat.zero_le _⟩ (fun H locs hw => ?_)
                  have hw : Wd g A s (w_Reader h x q g ((((tok, beh), (msk, sec)), ((siz, num), sn)), (((cel, szs), stb), ((next, o14.1), o14.2)))) H locs := hw
                  refine W.eq (g2 := F0 m 75 ls []) rfl ?_
                  refine lv_iinc (v := y1 + (1 : Int32)) (lv' := [(1, .int (y1 + (1 : Int32))), (0, .ref h)]) hx hb dX3_findLeak_75 hl (k := 1) rfl rfl (by decide) rfl (fun ls hl => ?_)
                  refine lv_goto (tgt := 2) hx hb dX3_findLeak_78 (by decide) ?_
                  exact ih o14.1 o14.2 (y1 + (1 : Int32)) (cnt_s (by decide) hc c1) r (hr.trans (congrArg (rb_X3_findLeak ((((tok, beh), (msk, sec)), ((siz, num), sn)), (((cel, szs), stb), ((next, fault₀), fplace₀)))) ((show f_X3_findLeak_2 tok beh msk sec siz sn stb (k + 1) fault fplace y1 = f_X3_findLeak_2 tok beh msk sec siz sn stb k o14.1 o14.2 (y1 + (1 : Int32)) from it_f c1 (bd_of ho2 (it_f c3 (it_t c4 (bd_of ho5 (it_f c6 (bd_of ho7 (it_f c8 (bd_of ho9 (it_t c10 (bd_of ho12 (it_f c13 (bd_of ho14 (rfl))))))))))))))))) _ _ hw _ (lv_sub hl [1, 0] rfl)
set_option maxHeartbeats 4000000 in
set_option maxRecDepth 100000 in
theorem c_X3_findLeak (l : Launch) (g : GG) (h : Nat) (x : Nat → Nat) (q : Nat → Nat) (tok : Nat → Int32) (beh : Nat → Int32) (msk : Nat → Int32) (sec : Nat → Int32) (siz : Int32) (num : Nat → Int32) (sn : Nat → Int32) (cel : Nat → Int32) (szs : Nat → Int32) (stb : Nat → Int32) (next : Int32) (fault : Int32) (fplace : Int32) : CV l g yX3_findLeak cX3_findLeak 2 none (rmN 3) (w_Reader h x q g) [.ref h] ((((tok, beh), (msk, sec)), ((siz, num), sn)), (((cel, szs), stb), ((next, fault), fplace))) (rb_X3_findLeak ((((tok, beh), (msk, sec)), ((siz, num), sn)), (((cel, szs), stb), ((next, fault), fplace))) (f_X3_findLeak tok beh msk sec siz sn stb fault fplace)) := by
  refine CV.mk (by decide) (Nat.le_of_ble_eq_true rfl) ?_
  intro p e s m below meth c A ls hI hw hl
  have hx := hI.1
  have hb := hI.2.1
  obtain ⟨r, hr⟩ : ∃ r, r = rb_X3_findLeak ((((tok, beh), (msk, sec)), ((siz, num), sn)), (((cel, szs), stb), ((next, fault), fplace))) (f_X3_findLeak tok beh msk sec siz sn stb fault fplace) := ⟨_, rfl⟩
  rw [← hr]
  have hl : lv_has ls 2 [(0, .ref h)] := hl
  refine lv_iconst (v := (0 : Int32)) hx hb dX3_findLeak_0 (by decide) ?_
  refine lv_istore_n (lv' := [(1, .int (0 : Int32)), (0, .ref h)]) hx hb dX3_findLeak_1 rfl hl (by decide) rfl (fun ls hl => ?_)
  exact lp_X3_findLeak_2 l g h x q tok beh msk sec siz num sn cel szs stb next fault fplace hI 401 fault fplace (0 : Int32) (cnt_0 400) r (hr.trans (congrArg (rb_X3_findLeak ((((tok, beh), (msk, sec)), ((siz, num), sn)), (((cel, szs), stb), ((next, fault), fplace)))) ((show f_X3_findLeak tok beh msk sec siz sn stb fault fplace = f_X3_findLeak_2 tok beh msk sec siz sn stb 401 fault fplace (0 : Int32) from rfl)))) _ _ hw _ (lv_sub hl [1, 0] rfl)
