def rb_X0_writeLet (σ : S_Coder) (o : ((Nat → Int32) × Int32)) : S_Coder := (((σ.1.1.1, σ.1.1.2), (σ.1.2.1, σ.1.2.2)), ((σ.2.1.1, o.1), o.2))
def rb_X0_writeLay (σ : S_Coder) (o : ((Nat → Int32) × Int32)) : S_Coder := (((σ.1.1.1, σ.1.1.2), (σ.1.2.1, σ.1.2.2)), ((σ.2.1.1, o.1), o.2))
def rb_X0_writeIf (σ : S_Coder) (o : ((Nat → Int32) × Int32)) : S_Coder := (((σ.1.1.1, σ.1.1.2), (σ.1.2.1, σ.1.2.2)), ((σ.2.1.1, o.1), o.2))
def rb_X0_writeWhile (σ : S_Coder) (o : ((Nat → Int32) × Int32)) : S_Coder := (((σ.1.1.1, σ.1.1.2), (σ.1.2.1, σ.1.2.2)), ((σ.2.1.1, o.1), o.2))
def rb_X0_writeTimes (σ : S_Coder) (o : ((Nat → Int32) × Int32)) : S_Coder := (((σ.1.1.1, σ.1.1.2), (σ.1.2.1, σ.1.2.2)), ((σ.2.1.1, o.1), o.2))
def rb_X0_writeStatement (σ : S_Coder) (o : ((Nat → Int32) × Int32)) : S_Coder := (((σ.1.1.1, σ.1.1.2), (σ.1.2.1, σ.1.2.2)), ((σ.2.1.1, o.1), o.2))
def rb_X0_writeStatements (σ : S_Coder) (o : ((Nat → Int32) × Int32)) : S_Coder := (((σ.1.1.1, σ.1.1.2), (σ.1.2.1, σ.1.2.2)), ((σ.2.1.1, o.1), o.2))
def f_X0_writeLet (wE : (Nat → Int32) → (Nat → Int32) → (Nat → Int32) → (Nat → Int32) → Int32 → (Nat → Int32) → Int32 → Int32 → Int32 → ((Nat → Int32) × Int32)) (tok : Nat → Int32) (beh : Nat → Int32) (msk : Nat → Int32) (sec : Nat → Int32) (siz : Int32) (kept : Nat → Int32) (size : Int32) (x1 : Int32) (x2 : Int32) : ((Nat → Int32) × Int32) := bd (f_X2_masksAround msk siz x1) (fun o1 => bd (f_X2_tokenAt tok siz (x1 + (1 : Int32))) (fun o2 => bd (f_X2_inside tok siz x1) (fun o3 => bd (wE tok beh msk sec siz kept size o3 (x2 + (1 : Int32))) (fun o4 => if o1 ≤ 0 then bd (f_X0_write o4.1 o4.2 (3 : Int32) o2) (fun o6 => ((o6.1, o6.2))) else bd (f_X0_writeMasked o4.1 o4.2 (25 : Int32) o1 o2) (fun o7 => ((o7.1, o7.2)))))))
set_option maxHeartbeats 4000000 in
set_option maxRecDepth 100000 in
theorem c_X0_writeLet (l : Launch) (g : GG) (h : Nat) (x : Nat → Nat) (t : Nat → Nat) (tok : Nat → Int32) (beh : Nat → Int32) (msk : Nat → Int32) (sec : Nat → Int32) (siz : Int32) (kept : Nat → Int32) (size : Int32) (wE : (Nat → Int32) → (Nat → Int32) → (Nat → Int32) → (Nat → Int32) → Int32 → (Nat → Int32) → Int32 → Int32 → Int32 → ((Nat → Int32) × Int32)) (x1 : Int32) (x2 : Int32) (PE : Int32 → Prop) (PS : Int32 → Prop) (kM : Nat) (kE : Nat) (kS : Nat) (hk : kE + 1 ≤ kM ∧ kS + 1 ≤ kM ∧ 6 ≤ kM) (hE : ∀ (tok : Nat → Int32) (beh : Nat → Int32) (msk : Nat → Int32) (sec : Nat → Int32) (siz : Int32) (kept : Nat → Int32) (size : Int32) (y1 y2 : Int32), PE y2 → CV l g yX0_writeExpression cX0_writeExpression 8 none (rmN kE) (w_Coder h x t g) [.ref h, .int y1, .int y2] (((tok, beh), (msk, sec)), ((siz, kept), size)) (rb_X0_writeExpression (((tok, beh), (msk, sec)), ((siz, kept), size)) (wE tok beh msk sec siz kept size y1 y2))) (hP : PE (x2 + (1 : Int32)) ∧ PS (x2 + (1 : Int32))) : CV l g yX0_writeLet cX0_writeLet 5 none (rmN kM) (w_Coder h x t g) [.ref h, .int x1, .int x2] (((tok, beh), (msk, sec)), ((siz, kept), size)) (rb_X0_writeLet (((tok, beh), (msk, sec)), ((siz, kept), size)) (f_X0_writeLet wE tok beh msk sec siz kept size x1 x2)) := by
  refine CV.mk (by decide) (Nat.le_of_ble_eq_true rfl) ?_
  intro p e s m below meth c A ls hI hw hl
  have hx := hI.1
  have hb := hI.2.1
  obtain ⟨r, hr⟩ : ∃ r, r = rb_X0_writeLet (((tok, beh), (msk, sec)), ((siz, kept), size)) (f_X0_writeLet wE tok beh msk sec siz kept size x1 x2) := ⟨_, rfl⟩
  rw [← hr]
  have hl : lv_has ls 5 [(0, .ref h), (1, .int x1), (2, .int x2)] := hl
  refine lv_aload_n hx hb dX0_writeLet_0 rfl (lv_at hl 0 rfl) ?_
  refine hI.get (v := .ref (x 0)) hw fg_X0_9 0 rfl rfl dX0_writeLet_1 ?_
  refine lv_iload_n hx hb dX0_writeLet_4 rfl (lv_at hl 1 rfl) ?_
  obtain ⟨o1, ho1⟩ : ∃ o, o = f_X2_masksAround msk siz x1 := ⟨_, rfl⟩
  refine hI.callI (wl := w_Prog x g) (a := (((tok, beh), msk), (sec, siz))) (wr := [(h, .inr (0, [.ref (x 0), .ref (t 0)])), (t 0, .inr (5, [.ref (t 1), .int size])), (t 1, .inl (g.2.1, 2048, .inl kept))]) (ws1 := w_Coder h x t g (((tok, beh), (msk, sec)), ((siz, kept), size))) (r := rb_X2_masksAround (((tok, beh), msk), (sec, siz)) o1) (As := [.int x1]) (rest := []) hw (by rw [ho1]; exact c_X2_masksAround l g x tok beh msk sec siz x1 ) ok_yX2_masksAround ml_X0_70 (rm_ok (by omega) (by decide)) [1, 2, 3, 4, 5] [0, 6, 7] [0, 3, 4, 5, 6, 7, 1, 2] rfl rfl rfl rfl rfl 0 rfl rfl rfl rfl hl.1 (Nat.le_of_ble_eq_true rfl) dX0_writeLet_5 ⟨Nat.zero_le _, Nat.zero_le _⟩ (fun H locs hw => ?_)
  have hw : Wd g A s (w_Coder h x t g (((tok, beh), (msk, sec)), ((siz, kept), size))) H locs := hw
  refine W.eq (g2 := F0 m 8 ls [.int o1]) rfl ?_
  refine lv_istore_n (lv' := [(3, .int o1), (0, .ref h), (1, .int x1), (2, .int x2)]) hx hb dX0_writeLet_8 rfl hl (by decide) rfl (fun ls hl => ?_)
  refine lv_aload_n hx hb dX0_writeLet_9 rfl (lv_at hl 1 rfl) ?_
  refine hI.get (v := .ref (x 0)) hw fg_X0_9 0 rfl rfl dX0_writeLet_10 ?_
  refine lv_iload_n hx hb dX0_writeLet_13 rfl (lv_at hl 2 rfl) ?_
  refine lv_iconst (v := (1 : Int32)) hx hb dX0_writeLet_14 (by decide) ?_
  refine lv_iadd hx hb dX0_writeLet_15 ?_
  obtain ⟨o2, ho2⟩ : ∃ o, o = f_X2_tokenAt tok siz (x1 + (1 : Int32)) := ⟨_, rfl⟩
  refine hI.callI (wl := w_Prog x g) (a := (((tok, beh), msk), (sec, siz))) (wr := [(h, .inr (0, [.ref (x 0), .ref (t 0)])), (t 0, .inr (5, [.ref (t 1), .int size])), (t 1, .inl (g.2.1, 2048, .inl kept))]) (ws1 := w_Coder h x t g (((tok, beh), (msk, sec)), ((siz, kept), size))) (r := rb_X2_tokenAt (((tok, beh), msk), (sec, siz)) o2) (As := [.int (x1 + (1 : Int32))]) (rest := []) hw (by rw [ho2]; exact c_X2_tokenAt l g x tok beh msk sec siz (x1 + (1 : Int32)) ) ok_yX2_tokenAt ml_X0_45 (rm_ok (by omega) (by decide)) [1, 2, 3, 4, 5] [0, 6, 7] [0, 3, 4, 5, 6, 7, 1, 2] rfl rfl rfl rfl rfl 0 rfl rfl rfl rfl hl.1 (Nat.le_of_ble_eq_true rfl) dX0_writeLet_16 ⟨Nat.zero_le _, Nat.zero_le _⟩ (fun H locs hw => ?_)
  have hw : Wd g A s (w_Coder h x t g (((tok, beh), (msk, sec)), ((siz, kept), size))) H locs := hw
  refine W.eq (g2 := F0 m 19 ls [.int o2]) rfl ?_
  refine lv_istore (lv' := [(4, .int o2), (3, .int o1), (0, .ref h), (1, .int x1), (2, .int x2)]) hx hb dX0_writeLet_19 hl (by decide) rfl (fun ls hl => ?_)
  refine lv_aload_n hx hb dX0_writeLet_21 rfl (lv_at hl 2 rfl) ?_
  refine lv_aload_n hx hb dX0_writeLet_22 rfl (lv_at hl 2 rfl) ?_
  refine hI.get (v := .ref (x 0)) hw fg_X0_9 0 rfl rfl dX0_writeLet_23 ?_
  refine lv_iload_n hx hb dX0_writeLet_26 rfl (lv_at hl 3 rfl) ?_
  obtain ⟨o3, ho3⟩ : ∃ o, o = f_X2_inside tok siz x1 := ⟨_, rfl⟩
  refine hI.callI (wl := w_Prog x g) (a := (((tok, beh), msk), (sec, siz))) (wr := [(h, .inr (0, [.ref (x 0), .ref (t 0)])), (t 0, .inr (5, [.ref (t 1), .int size])), (t 1, .inl (g.2.1, 2048, .inl kept))]) (ws1 := w_Coder h x t g (((tok, beh), (msk, sec)), ((siz, kept), size))) (r := rb_X2_inside (((tok, beh), msk), (sec, siz)) o3) (As := [.int x1]) (rest := [.ref h]) hw (by rw [ho3]; exact c_X2_inside l g x tok beh msk sec siz x1 ) ok_yX2_inside ml_X0_64 (rm_ok (by omega) (by decide)) [1, 2, 3, 4, 5] [0, 6, 7] [0, 3, 4, 5, 6, 7, 1, 2] rfl rfl rfl rfl rfl 0 rfl rfl rfl rfl hl.1 (Nat.le_of_ble_eq_true rfl) dX0_writeLet_27 ⟨Nat.zero_le _, Nat.zero_le _⟩ (fun H locs hw => ?_)
  have hw : Wd g A s (w_Coder h x t g (((tok, beh), (msk, sec)), ((siz, kept), size))) H locs := hw
  refine W.eq (g2 := F0 m 30 ls [.int o3, .ref h]) rfl ?_
  refine lv_iload_n hx hb dX0_writeLet_30 rfl (lv_at hl 4 rfl) ?_
  refine lv_iconst (v := (1 : Int32)) hx hb dX0_writeLet_31 (by decide) ?_
  refine lv_iadd hx hb dX0_writeLet_32 ?_
  obtain ⟨o4, ho4⟩ : ∃ o, o = wE tok beh msk sec siz kept size o3 (x2 + (1 : Int32)) := ⟨_, rfl⟩
  refine hI.callV0 (wl := w_Coder h x t g) (a := (((tok, beh), (msk, sec)), ((siz, kept), size))) (r := rb_X0_writeExpression (((tok, beh), (msk, sec)), ((siz, kept), size)) o4) (As := [.int o3, .int (x2 + (1 : Int32))]) (rest := []) hw (by rw [ho4]; exact hE tok beh msk sec siz kept size o3 (x2 + (1 : Int32)) hP.1) ok_yX0_writeExpression ml_X0_67 (rm_ok (by omega) (by decide)) 0 rfl rfl rfl rfl hl.1 (Nat.le_of_ble_eq_true rfl) dX0_writeLet_33 ⟨Nat.zero_le _, Nat.zero_le _⟩ (fun H locs hw => ?_)
  have hw : Wd g A s (w_Coder h x t g (((tok, beh), (msk, sec)), ((siz, o4.1), o4.2))) H locs := hw
  refine W.eq (g2 := F0 m 36 ls []) rfl ?_
  refine lv_iload_n hx hb dX0_writeLet_36 rfl (lv_at hl 1 rfl) ?_
  refine lv_if_le (tgt := 52) hx hb dX0_writeLet_37 (by decide) (fun c5 => ?_) (fun c5 => ?_)
  · refine lv_aload_n hx hb dX0_writeLet_52 rfl (lv_at hl 2 rfl) ?_
    refine lv_iconst (v := (3 : Int32)) hx hb dX0_writeLet_53 (by decide) ?_
    refine lv_iload hx hb dX0_writeLet_54 (lv_at hl 0 rfl) ?_
    obtain ⟨o6, ho6⟩ : ∃ o, o = f_X0_write o4.1 o4.2 (3 : Int32) o2 := ⟨_, rfl⟩
    refine hI.callV0 (wl := w_Coder h x t g) (a := (((tok, beh), (msk, sec)), ((siz, o4.1), o4.2))) (r := rb_X0_write (((tok, beh), (msk, sec)), ((siz, o4.1), o4.2)) o6) (As := [.int (3 : Int32), .int o2]) (rest := []) hw (by rw [ho6]; exact c_X0_write l g h x t tok beh msk sec siz o4.1 o4.2 (3 : Int32) o2 ) ok_yX0_write ml_X0_76 (rm_ok (by omega) (by decide)) 0 rfl rfl rfl rfl hl.1 (Nat.le_of_ble_eq_true rfl) dX0_writeLet_56 ⟨Nat.zero_le _, Nat.zero_le _⟩ (fun H locs hw => ?_)
    have hw : Wd g A s (w_Coder h x t g (((tok, beh), (msk, sec)), ((siz, o6.1), o6.2))) H locs := hw
    refine W.eq (g2 := F0 m 59 ls []) rfl ?_
    exact hI.retV (u := (((tok, beh), (msk, sec)), ((siz, o6.1), o6.2))) hw (hr.trans (congrArg (rb_X0_writeLet (((tok, beh), (msk, sec)), ((siz, kept), size))) ((show f_X0_writeLet wE tok beh msk sec siz kept size x1 x2 = ((o6.1, o6.2)) from bd_of ho1 (bd_of ho2 (bd_of ho3 (bd_of ho4 (it_t c5 (bd_of ho6 (rfl)))))))))) dX0_writeLet_59
  · refine lv_aload_n hx hb dX0_writeLet_40 rfl (lv_at hl 2 rfl) ?_
    refine lv_bipush (v := (25 : Int32)) hx hb dX0_writeLet_41 (by decide) ?_
    refine lv_iload_n hx hb dX0_writeLet_43 rfl (lv_at hl 1 rfl) ?_
    refine lv_iload hx hb dX0_writeLet_44 (lv_at hl 0 rfl) ?_
    obtain ⟨o7, ho7⟩ : ∃ o, o = f_X0_writeMasked o4.1 o4.2 (25 : Int32) o1 o2 := ⟨_, rfl⟩
    refine hI.callV0 (wl := w_Coder h x t g) (a := (((tok, beh), (msk, sec)), ((siz, o4.1), o4.2))) (r := rb_X0_writeMasked (((tok, beh), (msk, sec)), ((siz, o4.1), o4.2)) o7) (As := [.int (25 : Int32), .int o1, .int o2]) (rest := []) hw (by rw [ho7]; exact c_X0_writeMasked l g h x t tok beh msk sec siz o4.1 o4.2 (25 : Int32) o1 o2 ) ok_yX0_writeMasked ml_X0_73 (rm_ok (by omega) (by decide)) 0 rfl rfl rfl rfl hl.1 (Nat.le_of_ble_eq_true rfl) dX0_writeLet_46 ⟨Nat.zero_le _, Nat.zero_le _⟩ (fun H locs hw => ?_)
    have hw : Wd g A s (w_Coder h x t g (((tok, beh), (msk, sec)), ((siz, o7.1), o7.2))) H locs := hw
    refine W.eq (g2 := F0 m 49 ls []) rfl ?_
    refine lv_goto (tgt := 59) hx hb dX0_writeLet_49 (by decide) ?_
    exact hI.retV (u := (((tok, beh), (msk, sec)), ((siz, o7.1), o7.2))) hw (hr.trans (congrArg (rb_X0_writeLet (((tok, beh), (msk, sec)), ((siz, kept), size))) ((show f_X0_writeLet wE tok beh msk sec siz kept size x1 x2 = ((o7.1, o7.2)) from bd_of ho1 (bd_of ho2 (bd_of ho3 (bd_of ho4 (it_f c5 (bd_of ho7 (rfl)))))))))) dX0_writeLet_59
def f_X0_writeLay (wE : (Nat → Int32) → (Nat → Int32) → (Nat → Int32) → (Nat → Int32) → Int32 → (Nat → Int32) → Int32 → Int32 → Int32 → ((Nat → Int32) × Int32)) (tok : Nat → Int32) (beh : Nat → Int32) (msk : Nat → Int32) (sec : Nat → Int32) (siz : Int32) (kept : Nat → Int32) (size : Int32) (x1 : Int32) (x2 : Int32) : ((Nat → Int32) × Int32) := bd (f_X2_masksAround msk siz x1) (fun o1 => bd (f_X2_tokenAt tok siz (x1 + (1 : Int32))) (fun o2 => bd (f_X2_inside tok siz x1) (fun o3 => bd (wE tok beh msk sec siz kept size o3 (x2 + (1 : Int32))) (fun o4 => bd (f_X2_behind beh siz o3) (fun o5 => bd (wE tok beh msk sec siz o4.1 o4.2 o5 (x2 + (1 : Int32))) (fun o6 => bd (f_X2_isSecret sec siz o3) (fun o7 => if o7 = 0 then if o1 ≤ 0 then bd (f_X0_write o6.1 o6.2 (22 : Int32) o2) (fun o10 => ((o10.1, o10.2))) else bd (f_X0_writeMasked o6.1 o6.2 (26 : Int32) o1 o2) (fun o11 => ((o11.1, o11.2))) else bd (f_X0_writeMasked o6.1 o6.2 (28 : Int32) o1 o2) (fun o12 => ((o12.1, o12.2))))))))))
set_option maxHeartbeats 4000000 in
set_option maxRecDepth 100000 in
theorem c_X0_writeLay (l : Launch) (g : GG) (h : Nat) (x : Nat → Nat) (t : Nat → Nat) (tok : Nat → Int32) (beh : Nat → Int32) (msk : Nat → Int32) (sec : Nat → Int32) (siz : Int32) (kept : Nat → Int32) (size : Int32) (wE : (Nat → Int32) → (Nat → Int32) → (Nat → Int32) → (Nat → Int32) → Int32 → (Nat → Int32) → Int32 → Int32 → Int32 → ((Nat → Int32) × Int32)) (x1 : Int32) (x2 : Int32) (PE : Int32 → Prop) (PS : Int32 → Prop) (kM : Nat) (kE : Nat) (kS : Nat) (hk : kE + 1 ≤ kM ∧ kS + 1 ≤ kM ∧ 6 ≤ kM) (hE : ∀ (tok : Nat → Int32) (beh : Nat → Int32) (msk : Nat → Int32) (sec : Nat → Int32) (siz : Int32) (kept : Nat → Int32) (size : Int32) (y1 y2 : Int32), PE y2 → CV l g yX0_writeExpression cX0_writeExpression 8 none (rmN kE) (w_Coder h x t g) [.ref h, .int y1, .int y2] (((tok, beh), (msk, sec)), ((siz, kept), size)) (rb_X0_writeExpression (((tok, beh), (msk, sec)), ((siz, kept), size)) (wE tok beh msk sec siz kept size y1 y2))) (hP : PE (x2 + (1 : Int32)) ∧ PS (x2 + (1 : Int32))) : CV l g yX0_writeLay cX0_writeLay 6 none (rmN kM) (w_Coder h x t g) [.ref h, .int x1, .int x2] (((tok, beh), (msk, sec)), ((siz, kept), size)) (rb_X0_writeLay (((tok, beh), (msk, sec)), ((siz, kept), size)) (f_X0_writeLay wE tok beh msk sec siz kept size x1 x2)) := by
  refine CV.mk (by decide) (Nat.le_of_ble_eq_true rfl) ?_
  intro p e s m below meth c A ls hI hw hl
  have hx := hI.1
  have hb := hI.2.1
  obtain ⟨r, hr⟩ : ∃ r, r = rb_X0_writeLay (((tok, beh), (msk, sec)), ((siz, kept), size)) (f_X0_writeLay wE tok beh msk sec siz kept size x1 x2) := ⟨_, rfl⟩
  rw [← hr]
  have hl : lv_has ls 6 [(0, .ref h), (1, .int x1), (2, .int x2)] := hl
  refine lv_aload_n hx hb dX0_writeLay_0 rfl (lv_at hl 0 rfl) ?_
  refine hI.get (v := .ref (x 0)) hw fg_X0_9 0 rfl rfl dX0_writeLay_1 ?_
  refine lv_iload_n hx hb dX0_writeLay_4 rfl (lv_at hl 1 rfl) ?_
  obtain ⟨o1, ho1⟩ : ∃ o, o = f_X2_masksAround msk siz x1 := ⟨_, rfl⟩
  refine hI.callI (wl := w_Prog x g) (a := (((tok, beh), msk), (sec, siz))) (wr := [(h, .inr (0, [.ref (x 0), .ref (t 0)])), (t 0, .inr (5, [.ref (t 1), .int size])), (t 1, .inl (g.2.1, 2048, .inl kept))]) (ws1 := w_Coder h x t g (((tok, beh), (msk, sec)), ((siz, kept), size))) (r := rb_X2_masksAround (((tok, beh), msk), (sec, siz)) o1) (As := [.int x1]) (rest := []) hw (by rw [ho1]; exact c_X2_masksAround l g x tok beh msk sec siz x1 ) ok_yX2_masksAround ml_X0_70 (rm_ok (by omega) (by decide)) [1, 2, 3, 4, 5] [0, 6, 7] [0, 3, 4, 5, 6, 7, 1, 2] rfl rfl rfl rfl rfl 0 rfl rfl rfl rfl hl.1 (Nat.le_of_ble_eq_true rfl) dX0_writeLay_5 ⟨Nat.zero_le _, Nat.zero_le _⟩ (fun H locs hw => ?_)
  have hw : Wd g A s (w_Coder h x t g (((tok, beh), (msk, sec)), ((siz, kept), size))) H locs := hw
  refine W.eq (g2 := F0 m 8 ls [.int o1]) rfl ?_
  refine lv_istore_n (lv' := [(3, .int o1), (0, .ref h), (1, .int x1), (2, .int x2)]) hx hb dX0_writeLay_8 rfl hl (by decide) rfl (fun ls hl => ?_)
  refine lv_aload_n hx hb dX0_writeLay_9 rfl (lv_at hl 1 rfl) ?_
  refine hI.get (v := .ref (x 0)) hw fg_X0_9 0 rfl rfl dX0_writeLay_10 ?_
  refine lv_iload_n hx hb dX0_writeLay_13 rfl (lv_at hl 2 rfl) ?_
  refine lv_iconst (v := (1 : Int32)) hx hb dX0_writeLay_14 (by decide) ?_
  refine lv_iadd hx hb dX0_writeLay_15 ?_
  obtain ⟨o2, ho2⟩ : ∃ o, o = f_X2_tokenAt tok siz (x1 + (1 : Int32)) := ⟨_, rfl⟩
  refine hI.callI (wl := w_Prog x g) (a := (((tok, beh), msk), (sec, siz))) (wr := [(h, .inr (0, [.ref (x 0), .ref (t 0)])), (t 0, .inr (5, [.ref (t 1), .int size])), (t 1, .inl (g.2.1, 2048, .inl kept))]) (ws1 := w_Coder h x t g (((tok, beh), (msk, sec)), ((siz, kept), size))) (r := rb_X2_tokenAt (((tok, beh), msk), (sec, siz)) o2) (As := [.int (x1 + (1 : Int32))]) (rest := []) hw (by rw [ho2]; exact c_X2_tokenAt l g x tok beh msk sec siz (x1 + (1 : Int32)) ) ok_yX2_tokenAt ml_X0_45 (rm_ok (by omega) (by decide)) [1, 2, 3, 4, 5] [0, 6, 7] [0, 3, 4, 5, 6, 7, 1, 2] rfl rfl rfl rfl rfl 0 rfl rfl rfl rfl hl.1 (Nat.le_of_ble_eq_true rfl) dX0_writeLay_16 ⟨Nat.zero_le _, Nat.zero_le _⟩ (fun H locs hw => ?_)
  have hw : Wd g A s (w_Coder h x t g (((tok, beh), (msk, sec)), ((siz, kept), size))) H locs := hw
  refine W.eq (g2 := F0 m 19 ls [.int o2]) rfl ?_
  refine lv_istore (lv' := [(4, .int o2), (3, .int o1), (0, .ref h), (1, .int x1), (2, .int x2)]) hx hb dX0_writeLay_19 hl (by decide) rfl (fun ls hl => ?_)
  refine lv_aload_n hx hb dX0_writeLay_21 rfl (lv_at hl 2 rfl) ?_
  refine hI.get (v := .ref (x 0)) hw fg_X0_9 0 rfl rfl dX0_writeLay_22 ?_
  refine lv_iload_n hx hb dX0_writeLay_25 rfl (lv_at hl 3 rfl) ?_
  obtain ⟨o3, ho3⟩ : ∃ o, o = f_X2_inside tok siz x1 := ⟨_, rfl⟩
  refine hI.callI (wl := w_Prog x g) (a := (((tok, beh), msk), (sec, siz))) (wr := [(h, .inr (0, [.ref (x 0), .ref (t 0)])), (t 0, .inr (5, [.ref (t 1), .int size])), (t 1, .inl (g.2.1, 2048, .inl kept))]) (ws1 := w_Coder h x t g (((tok, beh), (msk, sec)), ((siz, kept), size))) (r := rb_X2_inside (((tok, beh), msk), (sec, siz)) o3) (As := [.int x1]) (rest := []) hw (by rw [ho3]; exact c_X2_inside l g x tok beh msk sec siz x1 ) ok_yX2_inside ml_X0_64 (rm_ok (by omega) (by decide)) [1, 2, 3, 4, 5] [0, 6, 7] [0, 3, 4, 5, 6, 7, 1, 2] rfl rfl rfl rfl rfl 0 rfl rfl rfl rfl hl.1 (Nat.le_of_ble_eq_true rfl) dX0_writeLay_26 ⟨Nat.zero_le _, Nat.zero_le _⟩ (fun H locs hw => ?_)
  have hw : Wd g A s (w_Coder h x t g (((tok, beh), (msk, sec)), ((siz, kept), size))) H locs := hw
  refine W.eq (g2 := F0 m 29 ls [.int o3]) rfl ?_
  refine lv_istore (lv' := [(5, .int o3), (4, .int o2), (3, .int o1), (0, .ref h), (1, .int x1), (2, .int x2)]) hx hb dX0_writeLay_29 hl (by decide) rfl (fun ls hl => ?_)
  refine lv_aload_n hx hb dX0_writeLay_31 rfl (lv_at hl 3 rfl) ?_
  refine lv_iload hx hb dX0_writeLay_32 (lv_at hl 0 rfl) ?_
  refine lv_iload_n hx hb dX0_writeLay_34 rfl (lv_at hl 5 rfl) ?_
  refine lv_iconst (v := (1 : Int32)) hx hb dX0_writeLay_35 (by decide) ?_
  refine lv_iadd hx hb dX0_writeLay_36 ?_
  obtain ⟨o4, ho4⟩ : ∃ o, o = wE tok beh msk sec siz kept size o3 (x2 + (1 : Int32)) := ⟨_, rfl⟩
  refine hI.callV0 (wl := w_Coder h x t g) (a := (((tok, beh), (msk, sec)), ((siz, kept), size))) (r := rb_X0_writeExpression (((tok, beh), (msk, sec)), ((siz, kept), size)) o4) (As := [.int o3, .int (x2 + (1 : Int32))]) (rest := []) hw (by rw [ho4]; exact hE tok beh msk sec siz kept size o3 (x2 + (1 : Int32)) hP.1) ok_yX0_writeExpression ml_X0_67 (rm_ok (by omega) (by decide)) 0 rfl rfl rfl rfl hl.1 (Nat.le_of_ble_eq_true rfl) dX0_writeLay_37 ⟨Nat.zero_le _, Nat.zero_le _⟩ (fun H locs hw => ?_)
  have hw : Wd g A s (w_Coder h x t g (((tok, beh), (msk, sec)), ((siz, o4.1), o4.2))) H locs := hw
  refine W.eq (g2 := F0 m 40 ls []) rfl ?_
  refine lv_aload_n hx hb dX0_writeLay_40 rfl (lv_at hl 3 rfl) ?_
  refine lv_aload_n hx hb dX0_writeLay_41 rfl (lv_at hl 3 rfl) ?_
  refine hI.get (v := .ref (x 0)) hw fg_X0_9 0 rfl rfl dX0_writeLay_42 ?_
  refine lv_iload hx hb dX0_writeLay_45 (lv_at hl 0 rfl) ?_
  obtain ⟨o5, ho5⟩ : ∃ o, o = f_X2_behind beh siz o3 := ⟨_, rfl⟩
  refine hI.callI (wl := w_Prog x g) (a := (((tok, beh), msk), (sec, siz))) (wr := [(h, .inr (0, [.ref (x 0), .ref (t 0)])), (t 0, .inr (5, [.ref (t 1), .int o4.2])), (t 1, .inl (g.2.1, 2048, .inl o4.1))]) (ws1 := w_Coder h x t g (((tok, beh), (msk, sec)), ((siz, o4.1), o4.2))) (r := rb_X2_behind (((tok, beh), msk), (sec, siz)) o5) (As := [.int o3]) (rest := [.ref h]) hw (by rw [ho5]; exact c_X2_behind l g x tok beh msk sec siz o3 ) ok_yX2_behind ml_X0_41 (rm_ok (by omega) (by decide)) [1, 2, 3, 4, 5] [0, 6, 7] [0, 3, 4, 5, 6, 7, 1, 2] rfl rfl rfl rfl rfl 0 rfl rfl rfl rfl hl.1 (Nat.le_of_ble_eq_true rfl) dX0_writeLay_47 ⟨Nat.zero_le _, Nat.zero_le _⟩ (fun H locs hw => ?_)
  have hw : Wd g A s (w_Coder h x t g (((tok, beh), (msk, sec)), ((siz, o4.1), o4.2))) H locs := hw
  refine W.eq (g2 := F0 m 50 ls [.int o5, .ref h]) rfl ?_
  refine lv_iload_n hx hb dX0_writeLay_50 rfl (lv_at hl 5 rfl) ?_
  refine lv_iconst (v := (1 : Int32)) hx hb dX0_writeLay_51 (by decide) ?_
  refine lv_iadd hx hb dX0_writeLay_52 ?_
  obtain ⟨o6, ho6⟩ : ∃ o, o = wE tok beh msk sec siz o4.1 o4.2 o5 (x2 + (1 : Int32)) := ⟨_, rfl⟩
  refine hI.callV0 (wl := w_Coder h x t g) (a := (((tok, beh), (msk, sec)), ((siz, o4.1), o4.2))) (r := rb_X0_writeExpression (((tok, beh), (msk, sec)), ((siz, o4.1), o4.2)) o6) (As := [.int o5, .int (x2 + (1 : Int32))]) (rest := []) hw (by rw [ho6]; exact hE tok beh msk sec siz o4.1 o4.2 o5 (x2 + (1 : Int32)) hP.1) ok_yX0_writeExpression ml_X0_67 (rm_ok (by omega) (by decide)) 0 rfl rfl rfl rfl hl.1 (Nat.le_of_ble_eq_true rfl) dX0_writeLay_53 ⟨Nat.zero_le _, Nat.zero_le _⟩ (fun H locs hw => ?_)
  have hw : Wd g A s (w_Coder h x t g (((tok, beh), (msk, sec)), ((siz, o6.1), o6.2))) H locs := hw
  refine W.eq (g2 := F0 m 56 ls []) rfl ?_
  refine lv_aload_n hx hb dX0_writeLay_56 rfl (lv_at hl 3 rfl) ?_
  refine hI.get (v := .ref (x 0)) hw fg_X0_9 0 rfl rfl dX0_writeLay_57 ?_
  refine lv_iload hx hb dX0_writeLay_60 (lv_at hl 0 rfl) ?_
  obtain ⟨o7, ho7⟩ : ∃ o, o = f_X2_isSecret sec siz o3 := ⟨_, rfl⟩
  refine hI.callI (wl := w_Prog x g) (a := (((tok, beh), msk), (sec, siz))) (wr := [(h, .inr (0, [.ref (x 0), .ref (t 0)])), (t 0, .inr (5, [.ref (t 1), .int o6.2])), (t 1, .inl (g.2.1, 2048, .inl o6.1))]) (ws1 := w_Coder h x t g (((tok, beh), (msk, sec)), ((siz, o6.1), o6.2))) (r := rb_X2_isSecret (((tok, beh), msk), (sec, siz)) o7) (As := [.int o3]) (rest := []) hw (by rw [ho7]; exact c_X2_isSecret l g x tok beh msk sec siz o3 ) ok_yX2_isSecret ml_X0_79 (rm_ok (by omega) (by decide)) [1, 2, 3, 4, 5] [0, 6, 7] [0, 3, 4, 5, 6, 7, 1, 2] rfl rfl rfl rfl rfl 0 rfl rfl rfl rfl hl.1 (Nat.le_of_ble_eq_true rfl) dX0_writeLay_62 ⟨Nat.zero_le _, Nat.zero_le _⟩ (fun H locs hw => ?_)
  have hw : Wd g A s (w_Coder h x t g (((tok, beh), (msk, sec)), ((siz, o6.1), o6.2))) H locs := hw
  refine W.eq (g2 := F0 m 65 ls [.int o7]) rfl ?_
  refine lv_if_eq (tgt := 80) hx hb dX0_writeLay_65 (by decide) (fun c8 => ?_) (fun c8 => ?_)
  · refine lv_iload_n hx hb dX0_writeLay_80 rfl (lv_at hl 2 rfl) ?_
    refine lv_if_le (tgt := 96) hx hb dX0_writeLay_81 (by decide) (fun c9 => ?_) (fun c9 => ?_)
    · refine lv_aload_n hx hb dX0_writeLay_96 rfl (lv_at hl 3 rfl) ?_
      refine lv_bipush (v := (22 : Int32)) hx hb dX0_writeLay_97 (by decide) ?_
      refine lv_iload hx hb dX0_writeLay_99 (lv_at hl 1 rfl) ?_
      obtain ⟨o10, ho10⟩ : ∃ o, o = f_X0_write o6.1 o6.2 (22 : Int32) o2 := ⟨_, rfl⟩
      refine hI.callV0 (wl := w_Coder h x t g) (a := (((tok, beh), (msk, sec)), ((siz, o6.1), o6.2))) (r := rb_X0_write (((tok, beh), (msk, sec)), ((siz, o6.1), o6.2)) o10) (As := [.int (22 : Int32), .int o2]) (rest := []) hw (by rw [ho10]; exact c_X0_write l g h x t tok beh msk sec siz o6.1 o6.2 (22 : Int32) o2 ) ok_yX0_write ml_X0_76 (rm_ok (by omega) (by decide)) 0 rfl rfl rfl rfl hl.1 (Nat.le_of_ble_eq_true rfl) dX0_writeLay_101 ⟨Nat.zero_le _, Nat.zero_le _⟩ (fun H locs hw => ?_)
      have hw : Wd g A s (w_Coder h x t g (((tok, beh), (msk, sec)), ((siz, o10.1), o10.2))) H locs := hw
      refine W.eq (g2 := F0 m 104 ls []) rfl ?_
      exact hI.retV (u := (((tok, beh), (msk, sec)), ((siz, o10.1), o10.2))) hw (hr.trans (congrArg (rb_X0_writeLay (((tok, beh), (msk, sec)), ((siz, kept), size))) ((show f_X0_writeLay wE tok beh msk sec siz kept size x1 x2 = ((o10.1, o10.2)) from bd_of ho1 (bd_of ho2 (bd_of ho3 (bd_of ho4 (bd_of ho5 (bd_of ho6 (bd_of ho7 (it_t c8 (it_t c9 (bd_of ho10 (rfl)))))))))))))) dX0_writeLay_104
    · refine lv_aload_n hx hb dX0_writeLay_84 rfl (lv_at hl 3 rfl) ?_
      refine lv_bipush (v := (26 : Int32)) hx hb dX0_writeLay_85 (by decide) ?_
      refine lv_iload_n hx hb dX0_writeLay_87 rfl (lv_at hl 2 rfl) ?_
      refine lv_iload hx hb dX0_writeLay_88 (lv_at hl 1 rfl) ?_
      obtain ⟨o11, ho11⟩ : ∃ o, o = f_X0_writeMasked o6.1 o6.2 (26 : Int32) o1 o2 := ⟨_, rfl⟩
      refine hI.callV0 (wl := w_Coder h x t g) (a := (((tok, beh), (msk, sec)), ((siz, o6.1), o6.2))) (r := rb_X0_writeMasked (((tok, beh), (msk, sec)), ((siz, o6.1), o6.2)) o11) (As := [.int (26 : Int32), .int o1, .int o2]) (rest := []) hw (by rw [ho11]; exact c_X0_writeMasked l g h x t tok beh msk sec siz o6.1 o6.2 (26 : Int32) o1 o2 ) ok_yX0_writeMasked ml_X0_73 (rm_ok (by omega) (by decide)) 0 rfl rfl rfl rfl hl.1 (Nat.le_of_ble_eq_true rfl) dX0_writeLay_90 ⟨Nat.zero_le _, Nat.zero_le _⟩ (fun H locs hw => ?_)
      have hw : Wd g A s (w_Coder h x t g (((tok, beh), (msk, sec)), ((siz, o11.1), o11.2))) H locs := hw
      refine W.eq (g2 := F0 m 93 ls []) rfl ?_
      refine lv_goto (tgt := 104) hx hb dX0_writeLay_93 (by decide) ?_
      exact hI.retV (u := (((tok, beh), (msk, sec)), ((siz, o11.1), o11.2))) hw (hr.trans (congrArg (rb_X0_writeLay (((tok, beh), (msk, sec)), ((siz, kept), size))) ((show f_X0_writeLay wE tok beh msk sec siz kept size x1 x2 = ((o11.1, o11.2)) from bd_of ho1 (bd_of ho2 (bd_of ho3 (bd_of ho4 (bd_of ho5 (bd_of ho6 (bd_of ho7 (it_t c8 (it_f c9 (bd_of ho11 (rfl)))))))))))))) dX0_writeLay_104
  · refine lv_aload_n hx hb dX0_writeLay_68 rfl (lv_at hl 3 rfl) ?_
    refine lv_bipush (v := (28 : Int32)) hx hb dX0_writeLay_69 (by decide) ?_
    refine lv_iload_n hx hb dX0_writeLay_71 rfl (lv_at hl 2 rfl) ?_
    refine lv_iload hx hb dX0_writeLay_72 (lv_at hl 1 rfl) ?_
    obtain ⟨o12, ho12⟩ : ∃ o, o = f_X0_writeMasked o6.1 o6.2 (28 : Int32) o1 o2 := ⟨_, rfl⟩
    refine hI.callV0 (wl := w_Coder h x t g) (a := (((tok, beh), (msk, sec)), ((siz, o6.1), o6.2))) (r := rb_X0_writeMasked (((tok, beh), (msk, sec)), ((siz, o6.1), o6.2)) o12) (As := [.int (28 : Int32), .int o1, .int o2]) (rest := []) hw (by rw [ho12]; exact c_X0_writeMasked l g h x t tok beh msk sec siz o6.1 o6.2 (28 : Int32) o1 o2 ) ok_yX0_writeMasked ml_X0_73 (rm_ok (by omega) (by decide)) 0 rfl rfl rfl rfl hl.1 (Nat.le_of_ble_eq_true rfl) dX0_writeLay_74 ⟨Nat.zero_le _, Nat.zero_le _⟩ (fun H locs hw => ?_)
    have hw : Wd g A s (w_Coder h x t g (((tok, beh), (msk, sec)), ((siz, o12.1), o12.2))) H locs := hw
    refine W.eq (g2 := F0 m 77 ls []) rfl ?_
    refine lv_goto (tgt := 104) hx hb dX0_writeLay_77 (by decide) ?_
    exact hI.retV (u := (((tok, beh), (msk, sec)), ((siz, o12.1), o12.2))) hw (hr.trans (congrArg (rb_X0_writeLay (((tok, beh), (msk, sec)), ((siz, kept), size))) ((show f_X0_writeLay wE tok beh msk sec siz kept size x1 x2 = ((o12.1, o12.2)) from bd_of ho1 (bd_of ho2 (bd_of ho3 (bd_of ho4 (bd_of ho5 (bd_of ho6 (bd_of ho7 (it_f c8 (bd_of ho12 (rfl))))))))))))) dX0_writeLay_104
def f_X0_writeIf (wE : (Nat → Int32) → (Nat → Int32) → (Nat → Int32) → (Nat → Int32) → Int32 → (Nat → Int32) → Int32 → Int32 → Int32 → ((Nat → Int32) × Int32)) (wSs : (Nat → Int32) → (Nat → Int32) → (Nat → Int32) → (Nat → Int32) → Int32 → (Nat → Int32) → Int32 → Int32 → Int32 → Int32 → ((Nat → Int32) × Int32)) (tok : Nat → Int32) (beh : Nat → Int32) (msk : Nat → Int32) (sec : Nat → Int32) (siz : Int32) (kept : Nat → Int32) (size : Int32) (x1 : Int32) (x2 : Int32) (x3 : Int32) : ((Nat → Int32) × Int32) := bd (f_X2_inside tok siz x1) (fun o1 => bd (f_X2_behind beh siz o1) (fun o2 => bd (f_X2_endOf beh siz o2) (fun o3 => bd (f_X2_tokenAt tok siz o3) (fun o4 => if o4 = (4 : Int32) then bd (wE tok beh msk sec siz kept size o1 (x2 + (1 : Int32))) (fun o17 => bd (f_X2_isSecret sec siz o1) (fun o18 => if o18 = 0 then bd (f_X0_writeJump o17.1 o17.2 (19 : Int32)) (fun o20 => bd (wSs tok beh msk sec siz o20.2.1 o20.2.2 o2 (x2 + (1 : Int32)) x3) (fun o21 => bd (f_X0_writeJump o21.1 o21.2 (18 : Int32)) (fun o23 => bd (f_X0_land o23.2.1 o23.2.2 o20.1) (fun o24 => bd (wSs tok beh msk sec siz o24 o23.2.2 (o3 + (1 : Int32)) (x2 + (1 : Int32)) x3) (fun o25 => bd (f_X0_land o25.1 o25.2 o23.1) (fun o26 => ((o26, o25.2)))))))) else bd (f_X2_masksAround msk siz x1) (fun o27 => bd (f_X0_write o17.1 o17.2 (23 : Int32) (o27 + (1 : Int32))) (fun o28 => bd (wSs tok beh msk sec siz o28.1 o28.2 o2 (x2 + (1 : Int32)) x3) (fun o29 => bd (f_X0_write o29.1 o29.2 (24 : Int32) (o27 + (1 : Int32))) (fun o31 => bd (wSs tok beh msk sec siz o31.1 o31.2 (o3 + (1 : Int32)) (x2 + (1 : Int32)) x3) (fun o32 => ((o32.1, o32.2))))))))) else bd (wE tok beh msk sec siz kept size o1 (x2 + (1 : Int32))) (fun o6 => bd (f_X2_isSecret sec siz o1) (fun o7 => if o7 = 0 then bd (f_X0_writeJump o6.1 o6.2 (19 : Int32)) (fun o9 => bd (wSs tok beh msk sec siz o9.2.1 o9.2.2 o2 (x2 + (1 : Int32)) x3) (fun o10 => bd (f_X0_land o10.1 o10.2 o9.1) (fun o12 => ((o12, o10.2))))) else bd (f_X2_masksAround msk siz x1) (fun o13 => bd (f_X0_write o6.1 o6.2 (23 : Int32) (o13 + (1 : Int32))) (fun o14 => bd (wSs tok beh msk sec siz o14.1 o14.2 o2 (x2 + (1 : Int32)) x3) (fun o15 => ((o15.1, o15.2)))))))))))
set_option maxHeartbeats 4000000 in
set_option maxRecDepth 100000 in
theorem c_X0_writeIf (l : Launch) (g : GG) (h : Nat) (x : Nat → Nat) (t : Nat → Nat) (tok : Nat → Int32) (beh : Nat → Int32) (msk : Nat → Int32) (sec : Nat → Int32) (siz : Int32) (kept : Nat → Int32) (size : Int32) (wE : (Nat → Int32) → (Nat → Int32) → (Nat → Int32) → (Nat → Int32) → Int32 → (Nat → Int32) → Int32 → Int32 → Int32 → ((Nat → Int32) × Int32)) (wSs : (Nat → Int32) → (Nat → Int32) → (Nat → Int32) → (Nat → Int32) → Int32 → (Nat → Int32) → Int32 → Int32 → Int32 → Int32 → ((Nat → Int32) × Int32)) (x1 : Int32) (x2 : Int32) (x3 : Int32) (PE : Int32 → Prop) (PS : Int32 → Prop) (kM : Nat) (kE : Nat) (kS : Nat) (hk : kE + 1 ≤ kM ∧ kS + 1 ≤ kM ∧ 6 ≤ kM) (hE : ∀ (tok : Nat → Int32) (beh : Nat → Int32) (msk : Nat → Int32) (sec : Nat → Int32) (siz : Int32) (kept : Nat → Int32) (size : Int32) (y1 y2 : Int32), PE y2 → CV l g yX0_writeExpression cX0_writeExpression 8 none (rmN kE) (w_Coder h x t g) [.ref h, .int y1, .int y2] (((tok, beh), (msk, sec)), ((siz, kept), size)) (rb_X0_writeExpression (((tok, beh), (msk, sec)), ((siz, kept), size)) (wE tok beh msk sec siz kept size y1 y2))) (hSs : ∀ (tok : Nat → Int32) (beh : Nat → Int32) (msk : Nat → Int32) (sec : Nat → Int32) (siz : Int32) (kept : Nat → Int32) (size : Int32) (y1 y2 y3 : Int32), PS y2 → CV l g yX0_writeStatements cX0_writeStatements 6 none (rmN kS) (w_Coder h x t g) [.ref h, .int y1, .int y2, .int y3] (((tok, beh), (msk, sec)), ((siz, kept), size)) (rb_X0_writeStatements (((tok, beh), (msk, sec)), ((siz, kept), size)) (wSs tok beh msk sec siz kept size y1 y2 y3))) (hP : PE (x2 + (1 : Int32)) ∧ PS (x2 + (1 : Int32))) : CV l g yX0_writeIf cX0_writeIf 10 none (rmN kM) (w_Coder h x t g) [.ref h, .int x1, .int x2, .int x3] (((tok, beh), (msk, sec)), ((siz, kept), size)) (rb_X0_writeIf (((tok, beh), (msk, sec)), ((siz, kept), size)) (f_X0_writeIf wE wSs tok beh msk sec siz kept size x1 x2 x3)) := by
  refine CV.mk (by decide) (Nat.le_of_ble_eq_true rfl) ?_
  intro p e s m below meth c A ls hI hw hl
  have hx := hI.1
  have hb := hI.2.1
  obtain ⟨r, hr⟩ : ∃ r, r = rb_X0_writeIf (((tok, beh), (msk, sec)), ((siz, kept), size)) (f_X0_writeIf wE wSs tok beh msk sec siz kept size x1 x2 x3) := ⟨_, rfl⟩
  rw [← hr]
  have hl : lv_has ls 10 [(0, .ref h), (1, .int x1), (2, .int x2), (3, .int x3)] := hl
  refine lv_aload_n hx hb dX0_writeIf_0 rfl (lv_at hl 0 rfl) ?_
  refine hI.get (v := .ref (x 0)) hw fg_X0_9 0 rfl rfl dX0_writeIf_1 ?_
  refine lv_iload_n hx hb dX0_writeIf_4 rfl (lv_at hl 1 rfl) ?_
  obtain ⟨o1, ho1⟩ : ∃ o, o = f_X2_inside tok siz x1 := ⟨_, rfl⟩
  refine hI.callI (wl := w_Prog x g) (a := (((tok, beh), msk), (sec, siz))) (wr := [(h, .inr (0, [.ref (x 0), .ref (t 0)])), (t 0, .inr (5, [.ref (t 1), .int size])), (t 1, .inl (g.2.1, 2048, .inl kept))]) (ws1 := w_Coder h x t g (((tok, beh), (msk, sec)), ((siz, kept), size))) (r := rb_X2_inside (((tok, beh), msk), (sec, siz)) o1) (As := [.int x1]) (rest := []) hw (by rw [ho1]; exact c_X2_inside l g x tok beh msk sec siz x1 ) ok_yX2_inside ml_X0_64 (rm_ok (by omega) (by decide)) [1, 2, 3, 4, 5] [0, 6, 7] [0, 3, 4, 5, 6, 7, 1, 2] rfl rfl rfl rfl rfl 0 rfl rfl rfl rfl hl.1 (Nat.le_of_ble_eq_true rfl) dX0_writeIf_5 ⟨Nat.zero_le _, Nat.zero_le _⟩ (fun H locs hw => ?_)
  have hw : Wd g A s (w_Coder h x t g (((tok, beh), (msk, sec)), ((siz, kept), size))) H locs := hw
  refine W.eq (g2 := F0 m 8 ls [.int o1]) rfl ?_
  refine lv_istore (lv' := [(4, .int o1), (0, .ref h), (1, .int x1), (2, .int x2), (3, .int x3)]) hx hb dX0_writeIf_8 hl (by decide) rfl (fun ls hl => ?_)
  refine lv_aload_n hx hb dX0_writeIf_10 rfl (lv_at hl 1 rfl) ?_
  refine hI.get (v := .ref (x 0)) hw fg_X0_9 0 rfl rfl dX0_writeIf_11 ?_
  refine lv_iload hx hb dX0_writeIf_14 (lv_at hl 0 rfl) ?_
  obtain ⟨o2, ho2⟩ : ∃ o, o = f_X2_behind beh siz o1 := ⟨_, rfl⟩
  refine hI.callI (wl := w_Prog x g) (a := (((tok, beh), msk), (sec, siz))) (wr := [(h, .inr (0, [.ref (x 0), .ref (t 0)])), (t 0, .inr (5, [.ref (t 1), .int size])), (t 1, .inl (g.2.1, 2048, .inl kept))]) (ws1 := w_Coder h x t g (((tok, beh), (msk, sec)), ((siz, kept), size))) (r := rb_X2_behind (((tok, beh), msk), (sec, siz)) o2) (As := [.int o1]) (rest := []) hw (by rw [ho2]; exact c_X2_behind l g x tok beh msk sec siz o1 ) ok_yX2_behind ml_X0_41 (rm_ok (by omega) (by decide)) [1, 2, 3, 4, 5] [0, 6, 7] [0, 3, 4, 5, 6, 7, 1, 2] rfl rfl rfl rfl rfl 0 rfl rfl rfl rfl hl.1 (Nat.le_of_ble_eq_true rfl) dX0_writeIf_16 ⟨Nat.zero_le _, Nat.zero_le _⟩ (fun H locs hw => ?_)
  have hw : Wd g A s (w_Coder h x t g (((tok, beh), (msk, sec)), ((siz, kept), size))) H locs := hw
  refine W.eq (g2 := F0 m 19 ls [.int o2]) rfl ?_
  refine lv_istore (lv' := [(5, .int o2), (4, .int o1), (0, .ref h), (1, .int x1), (2, .int x2), (3, .int x3)]) hx hb dX0_writeIf_19 hl (by decide) rfl (fun ls hl => ?_)
  refine lv_aload_n hx hb dX0_writeIf_21 rfl (lv_at hl 2 rfl) ?_
  refine hI.get (v := .ref (x 0)) hw fg_X0_9 0 rfl rfl dX0_writeIf_22 ?_
  refine lv_iload hx hb dX0_writeIf_25 (lv_at hl 0 rfl) ?_
  obtain ⟨o3, ho3⟩ : ∃ o, o = f_X2_endOf beh siz o2 := ⟨_, rfl⟩
  refine hI.callI (wl := w_Prog x g) (a := (((tok, beh), msk), (sec, siz))) (wr := [(h, .inr (0, [.ref (x 0), .ref (t 0)])), (t 0, .inr (5, [.ref (t 1), .int size])), (t 1, .inl (g.2.1, 2048, .inl kept))]) (ws1 := w_Coder h x t g (((tok, beh), (msk, sec)), ((siz, kept), size))) (r := rb_X2_endOf (((tok, beh), msk), (sec, siz)) o3) (As := [.int o2]) (rest := []) hw (by rw [ho3]; exact c_X2_endOf l g x tok beh msk sec siz o2 ) ok_yX2_endOf ml_X0_82 (rm_ok (by omega) (by decide)) [1, 2, 3, 4, 5] [0, 6, 7] [0, 3, 4, 5, 6, 7, 1, 2] rfl rfl rfl rfl rfl 0 rfl rfl rfl rfl hl.1 (Nat.le_of_ble_eq_true rfl) dX0_writeIf_27 ⟨Nat.zero_le _, Nat.zero_le _⟩ (fun H locs hw => ?_)
  have hw : Wd g A s (w_Coder h x t g (((tok, beh), (msk, sec)), ((siz, kept), size))) H locs := hw
  refine W.eq (g2 := F0 m 30 ls [.int o3]) rfl ?_
  refine lv_istore (lv' := [(6, .int o3), (5, .int o2), (4, .int o1), (0, .ref h), (1, .int x1), (2, .int x2), (3, .int x3)]) hx hb dX0_writeIf_30 hl (by decide) rfl (fun ls hl => ?_)
  refine lv_aload_n hx hb dX0_writeIf_32 rfl (lv_at hl 3 rfl) ?_
  refine hI.get (v := .ref (x 0)) hw fg_X0_9 0 rfl rfl dX0_writeIf_33 ?_
  refine lv_iload hx hb dX0_writeIf_36 (lv_at hl 0 rfl) ?_
  obtain ⟨o4, ho4⟩ : ∃ o, o = f_X2_tokenAt tok siz o3 := ⟨_, rfl⟩
  refine hI.callI (wl := w_Prog x g) (a := (((tok, beh), msk), (sec, siz))) (wr := [(h, .inr (0, [.ref (x 0), .ref (t 0)])), (t 0, .inr (5, [.ref (t 1), .int size])), (t 1, .inl (g.2.1, 2048, .inl kept))]) (ws1 := w_Coder h x t g (((tok, beh), (msk, sec)), ((siz, kept), size))) (r := rb_X2_tokenAt (((tok, beh), msk), (sec, siz)) o4) (As := [.int o3]) (rest := []) hw (by rw [ho4]; exact c_X2_tokenAt l g x tok beh msk sec siz o3 ) ok_yX2_tokenAt ml_X0_45 (rm_ok (by omega) (by decide)) [1, 2, 3, 4, 5] [0, 6, 7] [0, 3, 4, 5, 6, 7, 1, 2] rfl rfl rfl rfl rfl 0 rfl rfl rfl rfl hl.1 (Nat.le_of_ble_eq_true rfl) dX0_writeIf_38 ⟨Nat.zero_le _, Nat.zero_le _⟩ (fun H locs hw => ?_)
  have hw : Wd g A s (w_Coder h x t g (((tok, beh), (msk, sec)), ((siz, kept), size))) H locs := hw
  refine W.eq (g2 := F0 m 41 ls [.int o4]) rfl ?_
  refine lv_iconst (v := (4 : Int32)) hx hb dX0_writeIf_41 (by decide) ?_
  refine lv_icmp_ne (tgt := 49) hx hb dX0_writeIf_42 (by decide) (fun c5 => ?_) (fun c5 => ?_)
  · refine lv_iconst (v := (0 : Int32)) hx hb dX0_writeIf_49 (by decide) ?_
    refine lv_istore (lv' := [(7, .int (0 : Int32)), (6, .int o3), (5, .int o2), (4, .int o1), (0, .ref h), (1, .int x1), (2, .int x2), (3, .int x3)]) hx hb dX0_writeIf_50 hl (by decide) rfl (fun ls hl => ?_)
    refine lv_aload_n hx hb dX0_writeIf_52 rfl (lv_at hl 4 rfl) ?_
    refine lv_iload hx hb dX0_writeIf_53 (lv_at hl 3 rfl) ?_
    refine lv_iload_n hx hb dX0_writeIf_55 rfl (lv_at hl 6 rfl) ?_
    refine lv_iconst (v := (1 : Int32)) hx hb dX0_writeIf_56 (by decide) ?_
    refine lv_iadd hx hb dX0_writeIf_57 ?_
    obtain ⟨o6, ho6⟩ : ∃ o, o = wE tok beh msk sec siz kept size o1 (x2 + (1 : Int32)) := ⟨_, rfl⟩
    refine hI.callV0 (wl := w_Coder h x t g) (a := (((tok, beh), (msk, sec)), ((siz, kept), size))) (r := rb_X0_writeExpression (((tok, beh), (msk, sec)), ((siz, kept), size)) o6) (As := [.int o1, .int (x2 + (1 : Int32))]) (rest := []) hw (by rw [ho6]; exact hE tok beh msk sec siz kept size o1 (x2 + (1 : Int32)) hP.1) ok_yX0_writeExpression ml_X0_67 (rm_ok (by omega) (by decide)) 0 rfl rfl rfl rfl hl.1 (Nat.le_of_ble_eq_true rfl) dX0_writeIf_58 ⟨Nat.zero_le _, Nat.zero_le _⟩ (fun H locs hw => ?_)
    have hw : Wd g A s (w_Coder h x t g (((tok, beh), (msk, sec)), ((siz, o6.1), o6.2))) H locs := hw
    refine W.eq (g2 := F0 m 61 ls []) rfl ?_
    refine lv_aload_n hx hb dX0_writeIf_61 rfl (lv_at hl 4 rfl) ?_
    refine hI.get (v := .ref (x 0)) hw fg_X0_9 0 rfl rfl dX0_writeIf_62 ?_
    refine lv_iload hx hb dX0_writeIf_65 (lv_at hl 3 rfl) ?_
    obtain ⟨o7, ho7⟩ : ∃ o, o = f_X2_isSecret sec siz o1 := ⟨_, rfl⟩
    refine hI.callI (wl := w_Prog x g) (a := (((tok, beh), msk), (sec, siz))) (wr := [(h, .inr (0, [.ref (x 0), .ref (t 0)])), (t 0, .inr (5, [.ref (t 1), .int o6.2])), (t 1, .inl (g.2.1, 2048, .inl o6.1))]) (ws1 := w_Coder h x t g (((tok, beh), (msk, sec)), ((siz, o6.1), o6.2))) (r := rb_X2_isSecret (((tok, beh), msk), (sec, siz)) o7) (As := [.int o1]) (rest := []) hw (by rw [ho7]; exact c_X2_isSecret l g x tok beh msk sec siz o1 ) ok_yX2_isSecret ml_X0_79 (rm_ok (by omega) (by decide)) [1, 2, 3, 4, 5] [0, 6, 7] [0, 3, 4, 5, 6, 7, 1, 2] rfl rfl rfl rfl rfl 0 rfl rfl rfl rfl hl.1 (Nat.le_of_ble_eq_true rfl) dX0_writeIf_67 ⟨Nat.zero_le _, Nat.zero_le _⟩ (fun H locs hw => ?_)
    have hw : Wd g A s (w_Coder h x t g (((tok, beh), (msk, sec)), ((siz, o6.1), o6.2))) H locs := hw
    refine W.eq (g2 := F0 m 70 ls [.int o7]) rfl ?_
    refine lv_if_eq (tgt := 129) hx hb dX0_writeIf_70 (by decide) (fun c8 => ?_) (fun c8 => ?_)
    · refine lv_aload_n hx hb dX0_writeIf_129 rfl (lv_at hl 4 rfl) ?_
      refine lv_bipush (v := (19 : Int32)) hx hb dX0_writeIf_130 (by decide) ?_
      obtain ⟨o9, ho9⟩ : ∃ o, o = f_X0_writeJump o6.1 o6.2 (19 : Int32) := ⟨_, rfl⟩
      refine hI.callI0 (wl := w_Coder h x t g) (a := (((tok, beh), (msk, sec)), ((siz, o6.1), o6.2))) (r := rb_X0_writeJump (((tok, beh), (msk, sec)), ((siz, o6.1), o6.2)) o9) (As := [.int (19 : Int32)]) (rest := []) hw (by rw [ho9]; exact c_X0_writeJump l g h x t tok beh msk sec siz o6.1 o6.2 (19 : Int32) ) ok_yX0_writeJump ml_X0_85 (rm_ok (by omega) (by decide)) 0 rfl rfl rfl rfl hl.1 (Nat.le_of_ble_eq_true rfl) dX0_writeIf_132 ⟨Nat.zero_le _, Nat.zero_le _⟩ (fun H locs hw => ?_)
      have hw : Wd g A s (w_Coder h x t g (((tok, beh), (msk, sec)), ((siz, o9.2.1), o9.2.2))) H locs := hw
      refine W.eq (g2 := F0 m 135 ls [.int o9.1]) rfl ?_
      refine lv_istore (lv' := [(8, .int o9.1), (7, .int (0 : Int32)), (6, .int o3), (5, .int o2), (4, .int o1), (0, .ref h), (1, .int x1), (2, .int x2), (3, .int x3)]) hx hb dX0_writeIf_135 hl (by decide) rfl (fun ls hl => ?_)
      refine lv_aload_n hx hb dX0_writeIf_137 rfl (lv_at hl 5 rfl) ?_
      refine lv_iload hx hb dX0_writeIf_138 (lv_at hl 3 rfl) ?_
      refine lv_iload_n hx hb dX0_writeIf_140 rfl (lv_at hl 7 rfl) ?_
      refine lv_iconst (v := (1 : Int32)) hx hb dX0_writeIf_141 (by decide) ?_
      refine lv_iadd hx hb dX0_writeIf_142 ?_
      refine lv_iload_n hx hb dX0_writeIf_143 rfl (lv_at hl 8 rfl) ?_
      obtain ⟨o10, ho10⟩ : ∃ o, o = wSs tok beh msk sec siz o9.2.1 o9.2.2 o2 (x2 + (1 : Int32)) x3 := ⟨_, rfl⟩
      refine hI.callV0 (wl := w_Coder h x t g) (a := (((tok, beh), (msk, sec)), ((siz, o9.2.1), o9.2.2))) (r := rb_X0_writeStatements (((tok, beh), (msk, sec)), ((siz, o9.2.1), o9.2.2)) o10) (As := [.int o2, .int (x2 + (1 : Int32)), .int x3]) (rest := []) hw (by rw [ho10]; exact hSs tok beh msk sec siz o9.2.1 o9.2.2 o2 (x2 + (1 : Int32)) x3 hP.2) ok_yX0_writeStatements ml_X0_24 (rm_ok (by omega) (by decide)) 0 rfl rfl rfl rfl hl.1 (Nat.le_of_ble_eq_true rfl) dX0_writeIf_144 ⟨Nat.zero_le _, Nat.zero_le _⟩ (fun H locs hw => ?_)
      have hw : Wd g A s (w_Coder h x t g (((tok, beh), (msk, sec)), ((siz, o10.1), o10.2))) H locs := hw
      refine W.eq (g2 := F0 m 147 ls []) rfl ?_
      refine lv_iload hx hb dX0_writeIf_147 (lv_at hl 1 rfl) ?_
      refine lv_if_eq (tgt := 187) hx hb dX0_writeIf_149 (by decide) (fun c11 => ?_) (fun c11 => ?_)
      rotate_left
      · exact absurd (by decide) c11
      refine lv_aload_n hx hb dX0_writeIf_187 rfl (lv_at hl 5 rfl) ?_
      refine lv_iload hx hb dX0_writeIf_188 (lv_at hl 0 rfl) ?_
      obtain ⟨o12, ho12⟩ : ∃ o, o = f_X0_land o10.1 o10.2 o9.1 := ⟨_, rfl⟩
      refine hI.callV0 (wl := w_Coder h x t g) (a := (((tok, beh), (msk, sec)), ((siz, o10.1), o10.2))) (r := rb_X0_land (((tok, beh), (msk, sec)), ((siz, o10.1), o10.2)) o12) (As := [.int o9.1]) (rest := []) hw (by rw [ho12]; exact c_X0_land l g h x t tok beh msk sec siz o10.1 o10.2 o9.1 ) ok_yX0_land ml_X0_88 (rm_ok (by omega) (by decide)) 0 rfl rfl rfl rfl hl.1 (Nat.le_of_ble_eq_true rfl) dX0_writeIf_190 ⟨Nat.zero_le _, Nat.zero_le _⟩ (fun H locs hw => ?_)
      have hw : Wd g A s (w_Coder h x t g (((tok, beh), (msk, sec)), ((siz, o12), o10.2))) H locs := hw
      refine W.eq (g2 := F0 m 193 ls []) rfl ?_
      exact hI.retV (u := (((tok, beh), (msk, sec)), ((siz, o12), o10.2))) hw (hr.trans (congrArg (rb_X0_writeIf (((tok, beh), (msk, sec)), ((siz, kept), size))) ((show f_X0_writeIf wE wSs tok beh msk sec siz kept size x1 x2 x3 = ((o12, o10.2)) from bd_of ho1 (bd_of ho2 (bd_of ho3 (bd_of ho4 (it_f c5 (bd_of ho6 (bd_of ho7 (it_t c8 (bd_of ho9 (bd_of ho10 (bd_of ho12 (rfl))))))))))))))) dX0_writeIf_193
    · refine lv_aload_n hx hb dX0_writeIf_73 rfl (lv_at hl 4 rfl) ?_
      refine hI.get (v := .ref (x 0)) hw fg_X0_9 0 rfl rfl dX0_writeIf_74 ?_
      refine lv_iload_n hx hb dX0_writeIf_77 rfl (lv_at hl 5 rfl) ?_
      obtain ⟨o13, ho13⟩ : ∃ o, o = f_X2_masksAround msk siz x1 := ⟨_, rfl⟩
      refine hI.callI (wl := w_Prog x g) (a := (((tok, beh), msk), (sec, siz))) (wr := [(h, .inr (0, [.ref (x 0), .ref (t 0)])), (t 0, .inr (5, [.ref (t 1), .int o6.2])), (t 1, .inl (g.2.1, 2048, .inl o6.1))]) (ws1 := w_Coder h x t g (((tok, beh), (msk, sec)), ((siz, o6.1), o6.2))) (r := rb_X2_masksAround (((tok, beh), msk), (sec, siz)) o13) (As := [.int x1]) (rest := []) hw (by rw [ho13]; exact c_X2_masksAround l g x tok beh msk sec siz x1 ) ok_yX2_masksAround ml_X0_70 (rm_ok (by omega) (by decide)) [1, 2, 3, 4, 5] [0, 6, 7] [0, 3, 4, 5, 6, 7, 1, 2] rfl rfl rfl rfl rfl 0 rfl rfl rfl rfl hl.1 (Nat.le_of_ble_eq_true rfl) dX0_writeIf_78 ⟨Nat.zero_le _, Nat.zero_le _⟩ (fun H locs hw => ?_)
      have hw : Wd g A s (w_Coder h x t g (((tok, beh), (msk, sec)), ((siz, o6.1), o6.2))) H locs := hw
      refine W.eq (g2 := F0 m 81 ls [.int o13]) rfl ?_
      refine lv_iconst (v := (1 : Int32)) hx hb dX0_writeIf_81 (by decide) ?_
      refine lv_iadd hx hb dX0_writeIf_82 ?_
      refine lv_istore (lv' := [(8, .int (o13 + (1 : Int32))), (7, .int (0 : Int32)), (6, .int o3), (5, .int o2), (4, .int o1), (0, .ref h), (1, .int x1), (2, .int x2), (3, .int x3)]) hx hb dX0_writeIf_83 hl (by decide) rfl (fun ls hl => ?_)
      refine lv_aload_n hx hb dX0_writeIf_85 rfl (lv_at hl 5 rfl) ?_
      refine lv_bipush (v := (23 : Int32)) hx hb dX0_writeIf_86 (by decide) ?_
      refine lv_iload hx hb dX0_writeIf_88 (lv_at hl 0 rfl) ?_
      obtain ⟨o14, ho14⟩ : ∃ o, o = f_X0_write o6.1 o6.2 (23 : Int32) (o13 + (1 : Int32)) := ⟨_, rfl⟩
      refine hI.callV0 (wl := w_Coder h x t g) (a := (((tok, beh), (msk, sec)), ((siz, o6.1), o6.2))) (r := rb_X0_write (((tok, beh), (msk, sec)), ((siz, o6.1), o6.2)) o14) (As := [.int (23 : Int32), .int (o13 + (1 : Int32))]) (rest := []) hw (by rw [ho14]; exact c_X0_write l g h x t tok beh msk sec siz o6.1 o6.2 (23 : Int32) (o13 + (1 : Int32)) ) ok_yX0_write ml_X0_76 (rm_ok (by omega) (by decide)) 0 rfl rfl rfl rfl hl.1 (Nat.le_of_ble_eq_true rfl) dX0_writeIf_90 ⟨Nat.zero_le _, Nat.zero_le _⟩ (fun H locs hw => ?_)
      have hw : Wd g A s (w_Coder h x t g (((tok, beh), (msk, sec)), ((siz, o14.1), o14.2))) H locs := hw
      refine W.eq (g2 := F0 m 93 ls []) rfl ?_
      refine lv_aload_n hx hb dX0_writeIf_93 rfl (lv_at hl 5 rfl) ?_
      refine lv_iload hx hb dX0_writeIf_94 (lv_at hl 3 rfl) ?_
      refine lv_iload_n hx hb dX0_writeIf_96 rfl (lv_at hl 7 rfl) ?_
      refine lv_iconst (v := (1 : Int32)) hx hb dX0_writeIf_97 (by decide) ?_
      refine lv_iadd hx hb dX0_writeIf_98 ?_
      refine lv_iload_n hx hb dX0_writeIf_99 rfl (lv_at hl 8 rfl) ?_
      obtain ⟨o15, ho15⟩ : ∃ o, o = wSs tok beh msk sec siz o14.1 o14.2 o2 (x2 + (1 : Int32)) x3 := ⟨_, rfl⟩
      refine hI.callV0 (wl := w_Coder h x t g) (a := (((tok, beh), (msk, sec)), ((siz, o14.1), o14.2))) (r := rb_X0_writeStatements (((tok, beh), (msk, sec)), ((siz, o14.1), o14.2)) o15) (As := [.int o2, .int (x2 + (1 : Int32)), .int x3]) (rest := []) hw (by rw [ho15]; exact hSs tok beh msk sec siz o14.1 o14.2 o2 (x2 + (1 : Int32)) x3 hP.2) ok_yX0_writeStatements ml_X0_24 (rm_ok (by omega) (by decide)) 0 rfl rfl rfl rfl hl.1 (Nat.le_of_ble_eq_true rfl) dX0_writeIf_100 ⟨Nat.zero_le _, Nat.zero_le _⟩ (fun H locs hw => ?_)
      have hw : Wd g A s (w_Coder h x t g (((tok, beh), (msk, sec)), ((siz, o15.1), o15.2))) H locs := hw
      refine W.eq (g2 := F0 m 103 ls []) rfl ?_
      refine lv_iload hx hb dX0_writeIf_103 (lv_at hl 1 rfl) ?_
      refine lv_if_eq (tgt := 128) hx hb dX0_writeIf_105 (by decide) (fun c16 => ?_) (fun c16 => ?_)
      rotate_left
      · exact absurd (by decide) c16
      exact hI.retV (u := (((tok, beh), (msk, sec)), ((siz, o15.1), o15.2))) hw (hr.trans (congrArg (rb_X0_writeIf (((tok, beh), (msk, sec)), ((siz, kept), size))) ((show f_X0_writeIf wE wSs tok beh msk sec siz kept size x1 x2 x3 = ((o15.1, o15.2)) from bd_of ho1 (bd_of ho2 (bd_of ho3 (bd_of ho4 (it_f c5 (bd_of ho6 (bd_of ho7 (it_f c8 (bd_of ho13 (bd_of ho14 (bd_of ho15 (rfl))))))))))))))) dX0_writeIf_128
  · refine lv_iconst (v := (1 : Int32)) hx hb dX0_writeIf_45 (by decide) ?_
    refine lv_goto (tgt := 50) hx hb dX0_writeIf_46 (by decide) ?_
    refine lv_istore (lv' := [(7, .int (1 : Int32)), (6, .int o3), (5, .int o2), (4, .int o1), (0, .ref h), (1, .int x1), (2, .int x2), (3, .int x3)]) hx hb dX0_writeIf_50 hl (by decide) rfl (fun ls hl => ?_)
    refine lv_aload_n hx hb dX0_writeIf_52 rfl (lv_at hl 4 rfl) ?_
    refine lv_iload hx hb dX0_writeIf_53 (lv_at hl 3 rfl) ?_
    refine lv_iload_n hx hb dX0_writeIf_55 rfl (lv_at hl 6 rfl) ?_
    refine lv_iconst (v := (1 : Int32)) hx hb dX0_writeIf_56 (by decide) ?_
    refine lv_iadd hx hb dX0_writeIf_57 ?_
    obtain ⟨o17, ho17⟩ : ∃ o, o = wE tok beh msk sec siz kept size o1 (x2 + (1 : Int32)) := ⟨_, rfl⟩
    refine hI.callV0 (wl := w_Coder h x t g) (a := (((tok, beh), (msk, sec)), ((siz, kept), size))) (r := rb_X0_writeExpression (((tok, beh), (msk, sec)), ((siz, kept), size)) o17) (As := [.int o1, .int (x2 + (1 : Int32))]) (rest := []) hw (by rw [ho17]; exact hE tok beh msk sec siz kept size o1 (x2 + (1 : Int32)) hP.1) ok_yX0_writeExpression ml_X0_67 (rm_ok (by omega) (by decide)) 0 rfl rfl rfl rfl hl.1 (Nat.le_of_ble_eq_true rfl) dX0_writeIf_58 ⟨Nat.zero_le _, Nat.zero_le _⟩ (fun H locs hw => ?_)
    have hw : Wd g A s (w_Coder h x t g (((tok, beh), (msk, sec)), ((siz, o17.1), o17.2))) H locs := hw
    refine W.eq (g2 := F0 m 61 ls []) rfl ?_
    refine lv_aload_n hx hb dX0_writeIf_61 rfl (lv_at hl 4 rfl) ?_
    refine hI.get (v := .ref (x 0)) hw fg_X0_9 0 rfl rfl dX0_writeIf_62 ?_
    refine lv_iload hx hb dX0_writeIf_65 (lv_at hl 3 rfl) ?_
    obtain ⟨o18, ho18⟩ : ∃ o, o = f_X2_isSecret sec siz o1 := ⟨_, rfl⟩
    refine hI.callI (wl := w_Prog x g) (a := (((tok, beh), msk), (sec, siz))) (wr := [(h, .inr (0, [.ref (x 0), .ref (t 0)])), (t 0, .inr (5, [.ref (t 1), .int o17.2])), (t 1, .inl (g.2.1, 2048, .inl o17.1))]) (ws1 := w_Coder h x t g (((tok, beh), (msk, sec)), ((siz, o17.1), o17.2))) (r := rb_X2_isSecret (((tok, beh), msk), (sec, siz)) o18) (As := [.int o1]) (rest := []) hw (by rw [ho18]; exact c_X2_isSecret l g x tok beh msk sec siz o1 ) ok_yX2_isSecret ml_X0_79 (rm_ok (by omega) (by decide)) [1, 2, 3, 4, 5] [0, 6, 7] [0, 3, 4, 5, 6, 7, 1, 2] rfl rfl rfl rfl rfl 0 rfl rfl rfl rfl hl.1 (Nat.le_of_ble_eq_true rfl) dX0_writeIf_67 ⟨Nat.zero_le _, Nat.zero_le _⟩ (fun H locs hw => ?_)
    have hw : Wd g A s (w_Coder h x t g (((tok, beh), (msk, sec)), ((siz, o17.1), o17.2))) H locs := hw
    refine W.eq (g2 := F0 m 70 ls [.int o18]) rfl ?_
    refine lv_if_eq (tgt := 129) hx hb dX0_writeIf_70 (by decide) (fun c19 => ?_) (fun c19 => ?_)
    · refine lv_aload_n hx hb dX0_writeIf_129 rfl (lv_at hl 4 rfl) ?_
      refine lv_bipush (v := (19 : Int32)) hx hb dX0_writeIf_130 (by decide) ?_
      obtain ⟨o20, ho20⟩ : ∃ o, o = f_X0_writeJump o17.1 o17.2 (19 : Int32) := ⟨_, rfl⟩
      refine hI.callI0 (wl := w_Coder h x t g) (a := (((tok, beh), (msk, sec)), ((siz, o17.1), o17.2))) (r := rb_X0_writeJump (((tok, beh), (msk, sec)), ((siz, o17.1), o17.2)) o20) (As := [.int (19 : Int32)]) (rest := []) hw (by rw [ho20]; exact c_X0_writeJump l g h x t tok beh msk sec siz o17.1 o17.2 (19 : Int32) ) ok_yX0_writeJump ml_X0_85 (rm_ok (by omega) (by decide)) 0 rfl rfl rfl rfl hl.1 (Nat.le_of_ble_eq_true rfl) dX0_writeIf_132 ⟨Nat.zero_le _, Nat.zero_le _⟩ (fun H locs hw => ?_)
      have hw : Wd g A s (w_Coder h x t g (((tok, beh), (msk, sec)), ((siz, o20.2.1), o20.2.2))) H locs := hw
      refine W.eq (g2 := F0 m 135 ls [.int o20.1]) rfl ?_
      refine lv_istore (lv' := [(8, .int o20.1), (7, .int (1 : Int32)), (6, .int o3), (5, .int o2), (4, .int o1), (0, .ref h), (1, .int x1), (2, .int x2), (3, .int x3)]) hx hb dX0_writeIf_135 hl (by decide) rfl (fun ls hl => ?_)
      refine lv_aload_n hx hb dX0_writeIf_137 rfl (lv_at hl 5 rfl) ?_
      refine lv_iload hx hb dX0_writeIf_138 (lv_at hl 3 rfl) ?_
      refine lv_iload_n hx hb dX0_writeIf_140 rfl (lv_at hl 7 rfl) ?_
      refine lv_iconst (v := (1 : Int32)) hx hb dX0_writeIf_141 (by decide) ?_
      refine lv_iadd hx hb dX0_writeIf_142 ?_
      refine lv_iload_n hx hb dX0_writeIf_143 rfl (lv_at hl 8 rfl) ?_
      obtain ⟨o21, ho21⟩ : ∃ o, o = wSs tok beh msk sec siz o20.2.1 o20.2.2 o2 (x2 + (1 : Int32)) x3 := ⟨_, rfl⟩
      refine hI.callV0 (wl := w_Coder h x t g) (a := (((tok, beh), (msk, sec)), ((siz, o20.2.1), o20.2.2))) (r := rb_X0_writeStatements (((tok, beh), (msk, sec)), ((siz, o20.2.1), o20.2.2)) o21) (As := [.int o2, .int (x2 + (1 : Int32)), .int x3]) (rest := []) hw (by rw [ho21]; exact hSs tok beh msk sec siz o20.2.1 o20.2.2 o2 (x2 + (1 : Int32)) x3 hP.2) ok_yX0_writeStatements ml_X0_24 (rm_ok (by omega) (by decide)) 0 rfl rfl rfl rfl hl.1 (Nat.le_of_ble_eq_true rfl) dX0_writeIf_144 ⟨Nat.zero_le _, Nat.zero_le _⟩ (fun H locs hw => ?_)
      have hw : Wd g A s (w_Coder h x t g (((tok, beh), (msk, sec)), ((siz, o21.1), o21.2))) H locs := hw
      refine W.eq (g2 := F0 m 147 ls []) rfl ?_
      refine lv_iload hx hb dX0_writeIf_147 (lv_at hl 1 rfl) ?_
      refine lv_if_eq (tgt := 187) hx hb dX0_writeIf_149 (by decide) (fun c22 => ?_) (fun c22 => ?_)
      · exact absurd c22 (by decide)
      refine lv_aload_n hx hb dX0_writeIf_152 rfl (lv_at hl 5 rfl) ?_
      refine lv_bipush (v := (18 : Int32)) hx hb dX0_writeIf_153 (by decide) ?_
      obtain ⟨o23, ho23⟩ : ∃ o, o = f_X0_writeJump o21.1 o21.2 (18 : Int32) := ⟨_, rfl⟩
      refine hI.callI0 (wl := w_Coder h x t g) (a := (((tok, beh), (msk, sec)), ((siz, o21.1), o21.2))) (r := rb_X0_writeJump (((tok, beh), (msk, sec)), ((siz, o21.1), o21.2)) o23) (As := [.int (18 : Int32)]) (rest := []) hw (by rw [ho23]; exact c_X0_writeJump l g h x t tok beh msk sec siz o21.1 o21.2 (18 : Int32) ) ok_yX0_writeJump ml_X0_85 (rm_ok (by omega) (by decide)) 0 rfl rfl rfl rfl hl.1 (Nat.le_of_ble_eq_true rfl) dX0_writeIf_155 ⟨Nat.zero_le _, Nat.zero_le _⟩ (fun H locs hw => ?_)
      have hw : Wd g A s (w_Coder h x t g (((tok, beh), (msk, sec)), ((siz, o23.2.1), o23.2.2))) H locs := hw
      refine W.eq (g2 := F0 m 158 ls [.int o23.1]) rfl ?_
      refine lv_istore (lv' := [(9, .int o23.1), (8, .int o20.1), (7, .int (1 : Int32)), (6, .int o3), (5, .int o2), (4, .int o1), (0, .ref h), (1, .int x1), (2, .int x2), (3, .int x3)]) hx hb dX0_writeIf_158 hl (by decide) rfl (fun ls hl => ?_)
      refine lv_aload_n hx hb dX0_writeIf_160 rfl (lv_at hl 6 rfl) ?_
      refine lv_iload hx hb dX0_writeIf_161 (lv_at hl 1 rfl) ?_
      obtain ⟨o24, ho24⟩ : ∃ o, o = f_X0_land o23.2.1 o23.2.2 o20.1 := ⟨_, rfl⟩
      refine hI.callV0 (wl := w_Coder h x t g) (a := (((tok, beh), (msk, sec)), ((siz, o23.2.1), o23.2.2))) (r := rb_X0_land (((tok, beh), (msk, sec)), ((siz, o23.2.1), o23.2.2)) o24) (As := [.int o20.1]) (rest := []) hw (by rw [ho24]; exact c_X0_land l g h x t tok beh msk sec siz o23.2.1 o23.2.2 o20.1 ) ok_yX0_land ml_X0_88 (rm_ok (by omega) (by decide)) 0 rfl rfl rfl rfl hl.1 (Nat.le_of_ble_eq_true rfl) dX0_writeIf_163 ⟨Nat.zero_le _, Nat.zero_le _⟩ (fun H locs hw => ?_)
      have hw : Wd g A s (w_Coder h x t g (((tok, beh), (msk, sec)), ((siz, o24), o23.2.2))) H locs := hw
      refine W.eq (g2 := F0 m 166 ls []) rfl ?_
      refine lv_aload_n hx hb dX0_writeIf_166 rfl (lv_at hl 6 rfl) ?_
      refine lv_iload hx hb dX0_writeIf_167 (lv_at hl 3 rfl) ?_
      refine lv_iconst (v := (1 : Int32)) hx hb dX0_writeIf_169 (by decide) ?_
      refine lv_iadd hx hb dX0_writeIf_170 ?_
      refine lv_iload_n hx hb dX0_writeIf_171 rfl (lv_at hl 8 rfl) ?_
      refine lv_iconst (v := (1 : Int32)) hx hb dX0_writeIf_172 (by decide) ?_
      refine lv_iadd hx hb dX0_writeIf_173 ?_
      refine lv_iload_n hx hb dX0_writeIf_174 rfl (lv_at hl 9 rfl) ?_
      obtain ⟨o25, ho25⟩ : ∃ o, o = wSs tok beh msk sec siz o24 o23.2.2 (o3 + (1 : Int32)) (x2 + (1 : Int32)) x3 := ⟨_, rfl⟩
      refine hI.callV0 (wl := w_Coder h x t g) (a := (((tok, beh), (msk, sec)), ((siz, o24), o23.2.2))) (r := rb_X0_writeStatements (((tok, beh), (msk, sec)), ((siz, o24), o23.2.2)) o25) (As := [.int (o3 + (1 : Int32)), .int (x2 + (1 : Int32)), .int x3]) (rest := []) hw (by rw [ho25]; exact hSs tok beh msk sec siz o24 o23.2.2 (o3 + (1 : Int32)) (x2 + (1 : Int32)) x3 hP.2) ok_yX0_writeStatements ml_X0_24 (rm_ok (by omega) (by decide)) 0 rfl rfl rfl rfl hl.1 (Nat.le_of_ble_eq_true rfl) dX0_writeIf_175 ⟨Nat.zero_le _, Nat.zero_le _⟩ (fun H locs hw => ?_)
      have hw : Wd g A s (w_Coder h x t g (((tok, beh), (msk, sec)), ((siz, o25.1), o25.2))) H locs := hw
      refine W.eq (g2 := F0 m 178 ls []) rfl ?_
      refine lv_aload_n hx hb dX0_writeIf_178 rfl (lv_at hl 6 rfl) ?_
      refine lv_iload hx hb dX0_writeIf_179 (lv_at hl 0 rfl) ?_
      obtain ⟨o26, ho26⟩ : ∃ o, o = f_X0_land o25.1 o25.2 o23.1 := ⟨_, rfl⟩
      refine hI.callV0 (wl := w_Coder h x t g) (a := (((tok, beh), (msk, sec)), ((siz, o25.1), o25.2))) (r := rb_X0_land (((tok, beh), (msk, sec)), ((siz, o25.1), o25.2)) o26) (As := [.int o23.1]) (rest := []) hw (by rw [ho26]; exact c_X0_land l g h x t tok beh msk sec siz o25.1 o25.2 o23.1 ) ok_yX0_land ml_X0_88 (rm_ok (by omega) (by decide)) 0 rfl rfl rfl rfl hl.1 (Nat.le_of_ble_eq_true rfl) dX0_writeIf_181 ⟨Nat.zero_le _, Nat.zero_le _⟩ (fun H locs hw => ?_)
      have hw : Wd g A s (w_Coder h x t g (((tok, beh), (msk, sec)), ((siz, o26), o25.2))) H locs := hw
      refine W.eq (g2 := F0 m 184 ls []) rfl ?_
      refine lv_goto (tgt := 193) hx hb dX0_writeIf_184 (by decide) ?_
      exact hI.retV (u := (((tok, beh), (msk, sec)), ((siz, o26), o25.2))) hw (hr.trans (congrArg (rb_X0_writeIf (((tok, beh), (msk, sec)), ((siz, kept), size))) ((show f_X0_writeIf wE wSs tok beh msk sec siz kept size x1 x2 x3 = ((o26, o25.2)) from bd_of ho1 (bd_of ho2 (bd_of ho3 (bd_of ho4 (it_t c5 (bd_of ho17 (bd_of ho18 (it_t c19 (bd_of ho20 (bd_of ho21 (bd_of ho23 (bd_of ho24 (bd_of ho25 (bd_of ho26 (rfl)))))))))))))))))) dX0_writeIf_193
    · refine lv_aload_n hx hb dX0_writeIf_73 rfl (lv_at hl 4 rfl) ?_
      refine hI.get (v := .ref (x 0)) hw fg_X0_9 0 rfl rfl dX0_writeIf_74 ?_
      refine lv_iload_n hx hb dX0_writeIf_77 rfl (lv_at hl 5 rfl) ?_
      obtain ⟨o27, ho27⟩ : ∃ o, o = f_X2_masksAround msk siz x1 := ⟨_, rfl⟩
      refine hI.callI (wl := w_Prog x g) (a := (((tok, beh), msk), (sec, siz))) (wr := [(h, .inr (0, [.ref (x 0), .ref (t 0)])), (t 0, .inr (5, [.ref (t 1), .int o17.2])), (t 1, .inl (g.2.1, 2048, .inl o17.1))]) (ws1 := w_Coder h x t g (((tok, beh), (msk, sec)), ((siz, o17.1), o17.2))) (r := rb_X2_masksAround (((tok, beh), msk), (sec, siz)) o27) (As := [.int x1]) (rest := []) hw (by rw [ho27]; exact c_X2_masksAround l g x tok beh msk sec siz x1 ) ok_yX2_masksAround ml_X0_70 (rm_ok (by omega) (by decide)) [1, 2, 3, 4, 5] [0, 6, 7] [0, 3, 4, 5, 6, 7, 1, 2] rfl rfl rfl rfl rfl 0 rfl rfl rfl rfl hl.1 (Nat.le_of_ble_eq_true rfl) dX0_writeIf_78 ⟨Nat.zero_le _, Nat.zero_le _⟩ (fun H locs hw => ?_)
      have hw : Wd g A s (w_Coder h x t g (((tok, beh), (msk, sec)), ((siz, o17.1), o17.2))) H locs := hw
      refine W.eq (g2 := F0 m 81 ls [.int o27]) rfl ?_
      refine lv_iconst (v := (1 : Int32)) hx hb dX0_writeIf_81 (by decide) ?_
      refine lv_iadd hx hb dX0_writeIf_82 ?_
      refine lv_istore (lv' := [(8, .int (o27 + (1 : Int32))), (7, .int (1 : Int32)), (6, .int o3), (5, .int o2), (4, .int o1), (0, .ref h), (1, .int x1), (2, .int x2), (3, .int x3)]) hx hb dX0_writeIf_83 hl (by decide) rfl (fun ls hl => ?_)
      refine lv_aload_n hx hb dX0_writeIf_85 rfl (lv_at hl 5 rfl) ?_
      refine lv_bipush (v := (23 : Int32)) hx hb dX0_writeIf_86 (by decide) ?_
      refine lv_iload hx hb dX0_writeIf_88 (lv_at hl 0 rfl) ?_
      obtain ⟨o28, ho28⟩ : ∃ o, o = f_X0_write o17.1 o17.2 (23 : Int32) (o27 + (1 : Int32)) := ⟨_, rfl⟩
      refine hI.callV0 (wl := w_Coder h x t g) (a := (((tok, beh), (msk, sec)), ((siz, o17.1), o17.2))) (r := rb_X0_write (((tok, beh), (msk, sec)), ((siz, o17.1), o17.2)) o28) (As := [.int (23 : Int32), .int (o27 + (1 : Int32))]) (rest := []) hw (by rw [ho28]; exact c_X0_write l g h x t tok beh msk sec siz o17.1 o17.2 (23 : Int32) (o27 + (1 : Int32)) ) ok_yX0_write ml_X0_76 (rm_ok (by omega) (by decide)) 0 rfl rfl rfl rfl hl.1 (Nat.le_of_ble_eq_true rfl) dX0_writeIf_90 ⟨Nat.zero_le _, Nat.zero_le _⟩ (fun H locs hw => ?_)
      have hw : Wd g A s (w_Coder h x t g (((tok, beh), (msk, sec)), ((siz, o28.1), o28.2))) H locs := hw
      refine W.eq (g2 := F0 m 93 ls []) rfl ?_
      refine lv_aload_n hx hb dX0_writeIf_93 rfl (lv_at hl 5 rfl) ?_
      refine lv_iload hx hb dX0_writeIf_94 (lv_at hl 3 rfl) ?_
      refine lv_iload_n hx hb dX0_writeIf_96 rfl (lv_at hl 7 rfl) ?_
      refine lv_iconst (v := (1 : Int32)) hx hb dX0_writeIf_97 (by decide) ?_
      refine lv_iadd hx hb dX0_writeIf_98 ?_
      refine lv_iload_n hx hb dX0_writeIf_99 rfl (lv_at hl 8 rfl) ?_
      obtain ⟨o29, ho29⟩ : ∃ o, o = wSs tok beh msk sec siz o28.1 o28.2 o2 (x2 + (1 : Int32)) x3 := ⟨_, rfl⟩
      refine hI.callV0 (wl := w_Coder h x t g) (a := (((tok, beh), (msk, sec)), ((siz, o28.1), o28.2))) (r := rb_X0_writeStatements (((tok, beh), (msk, sec)), ((siz, o28.1), o28.2)) o29) (As := [.int o2, .int (x2 + (1 : Int32)), .int x3]) (rest := []) hw (by rw [ho29]; exact hSs tok beh msk sec siz o28.1 o28.2 o2 (x2 + (1 : Int32)) x3 hP.2) ok_yX0_writeStatements ml_X0_24 (rm_ok (by omega) (by decide)) 0 rfl rfl rfl rfl hl.1 (Nat.le_of_ble_eq_true rfl) dX0_writeIf_100 ⟨Nat.zero_le _, Nat.zero_le _⟩ (fun H locs hw => ?_)
      have hw : Wd g A s (w_Coder h x t g (((tok, beh), (msk, sec)), ((siz, o29.1), o29.2))) H locs := hw
      refine W.eq (g2 := F0 m 103 ls []) rfl ?_
      refine lv_iload hx hb dX0_writeIf_103 (lv_at hl 1 rfl) ?_
      refine lv_if_eq (tgt := 128) hx hb dX0_writeIf_105 (by decide) (fun c30 => ?_) (fun c30 => ?_)
      · exact absurd c30 (by decide)
      refine lv_aload_n hx hb dX0_writeIf_108 rfl (lv_at hl 5 rfl) ?_
      refine lv_bipush (v := (24 : Int32)) hx hb dX0_writeIf_109 (by decide) ?_
      refine lv_iload hx hb dX0_writeIf_111 (lv_at hl 0 rfl) ?_
      obtain ⟨o31, ho31⟩ : ∃ o, o = f_X0_write o29.1 o29.2 (24 : Int32) (o27 + (1 : Int32)) := ⟨_, rfl⟩
      refine hI.callV0 (wl := w_Coder h x t g) (a := (((tok, beh), (msk, sec)), ((siz, o29.1), o29.2))) (r := rb_X0_write (((tok, beh), (msk, sec)), ((siz, o29.1), o29.2)) o31) (As := [.int (24 : Int32), .int (o27 + (1 : Int32))]) (rest := []) hw (by rw [ho31]; exact c_X0_write l g h x t tok beh msk sec siz o29.1 o29.2 (24 : Int32) (o27 + (1 : Int32)) ) ok_yX0_write ml_X0_76 (rm_ok (by omega) (by decide)) 0 rfl rfl rfl rfl hl.1 (Nat.le_of_ble_eq_true rfl) dX0_writeIf_113 ⟨Nat.zero_le _, Nat.zero_le _⟩ (fun H locs hw => ?_)
      have hw : Wd g A s (w_Coder h x t g (((tok, beh), (msk, sec)), ((siz, o31.1), o31.2))) H locs := hw
      refine W.eq (g2 := F0 m 116 ls []) rfl ?_
      refine lv_aload_n hx hb dX0_writeIf_116 rfl (lv_at hl 5 rfl) ?_
      refine lv_iload hx hb dX0_writeIf_117 (lv_at hl 2 rfl) ?_
      refine lv_iconst (v := (1 : Int32)) hx hb dX0_writeIf_119 (by decide) ?_
      refine lv_iadd hx hb dX0_writeIf_120 ?_
      refine lv_iload_n hx hb dX0_writeIf_121 rfl (lv_at hl 7 rfl) ?_
      refine lv_iconst (v := (1 : Int32)) hx hb dX0_writeIf_122 (by decide) ?_
      refine lv_iadd hx hb dX0_writeIf_123 ?_
      refine lv_iload_n hx hb dX0_writeIf_124 rfl (lv_at hl 8 rfl) ?_
      obtain ⟨o32, ho32⟩ : ∃ o, o = wSs tok beh msk sec siz o31.1 o31.2 (o3 + (1 : Int32)) (x2 + (1 : Int32)) x3 := ⟨_, rfl⟩
      refine hI.callV0 (wl := w_Coder h x t g) (a := (((tok, beh), (msk, sec)), ((siz, o31.1), o31.2))) (r := rb_X0_writeStatements (((tok, beh), (msk, sec)), ((siz, o31.1), o31.2)) o32) (As := [.int (o3 + (1 : Int32)), .int (x2 + (1 : Int32)), .int x3]) (rest := []) hw (by rw [ho32]; exact hSs tok beh msk sec siz o31.1 o31.2 (o3 + (1 : Int32)) (x2 + (1 : Int32)) x3 hP.2) ok_yX0_writeStatements ml_X0_24 (rm_ok (by omega) (by decide)) 0 rfl rfl rfl rfl hl.1 (Nat.le_of_ble_eq_true rfl) dX0_writeIf_125 ⟨Nat.zero_le _, Nat.zero_le _⟩ (fun H locs hw => ?_)
      have hw : Wd g A s (w_Coder h x t g (((tok, beh), (msk, sec)), ((siz, o32.1), o32.2))) H locs := hw
      refine W.eq (g2 := F0 m 128 ls []) rfl ?_
      exact hI.retV (u := (((tok, beh), (msk, sec)), ((siz, o32.1), o32.2))) hw (hr.trans (congrArg (rb_X0_writeIf (((tok, beh), (msk, sec)), ((siz, kept), size))) ((show f_X0_writeIf wE wSs tok beh msk sec siz kept size x1 x2 x3 = ((o32.1, o32.2)) from bd_of ho1 (bd_of ho2 (bd_of ho3 (bd_of ho4 (it_t c5 (bd_of ho17 (bd_of ho18 (it_f c19 (bd_of ho27 (bd_of ho28 (bd_of ho29 (bd_of ho31 (bd_of ho32 (rfl))))))))))))))))) dX0_writeIf_128
def f_X0_writeWhile (wE : (Nat → Int32) → (Nat → Int32) → (Nat → Int32) → (Nat → Int32) → Int32 → (Nat → Int32) → Int32 → Int32 → Int32 → ((Nat → Int32) × Int32)) (wSs : (Nat → Int32) → (Nat → Int32) → (Nat → Int32) → (Nat → Int32) → Int32 → (Nat → Int32) → Int32 → Int32 → Int32 → Int32 → ((Nat → Int32) × Int32)) (tok : Nat → Int32) (beh : Nat → Int32) (msk : Nat → Int32) (sec : Nat → Int32) (siz : Int32) (kept : Nat → Int32) (size : Int32) (x1 : Int32) (x2 : Int32) (x3 : Int32) : ((Nat → Int32) × Int32) := bd (f_X2_inside tok siz x1) (fun o1 => bd (f_X6_size size) (fun o2 => bd (wE tok beh msk sec siz kept size o1 (x2 + (1 : Int32))) (fun o3 => bd (f_X0_writeJump o3.1 o3.2 (19 : Int32)) (fun o4 => bd (f_X2_behind beh siz o1) (fun o5 => bd (wSs tok beh msk sec siz o4.2.1 o4.2.2 o5 (x2 + (1 : Int32)) x3) (fun o6 => bd (f_X0_write o6.1 o6.2 (18 : Int32) o2) (fun o7 => bd (f_X0_land o7.1 o7.2 o4.1) (fun o8 => ((o8, o7.2))))))))))
set_option maxHeartbeats 4000000 in
set_option maxRecDepth 100000 in
theorem c_X0_writeWhile (l : Launch) (g : GG) (h : Nat) (x : Nat → Nat) (t : Nat → Nat) (tok : Nat → Int32) (beh : Nat → Int32) (msk : Nat → Int32) (sec : Nat → Int32) (siz : Int32) (kept : Nat → Int32) (size : Int32) (wE : (Nat → Int32) → (Nat → Int32) → (Nat → Int32) → (Nat → Int32) → Int32 → (Nat → Int32) → Int32 → Int32 → Int32 → ((Nat → Int32) × Int32)) (wSs : (Nat → Int32) → (Nat → Int32) → (Nat → Int32) → (Nat → Int32) → Int32 → (Nat → Int32) → Int32 → Int32 → Int32 → Int32 → ((Nat → Int32) × Int32)) (x1 : Int32) (x2 : Int32) (x3 : Int32) (PE : Int32 → Prop) (PS : Int32 → Prop) (kM : Nat) (kE : Nat) (kS : Nat) (hk : kE + 1 ≤ kM ∧ kS + 1 ≤ kM ∧ 6 ≤ kM) (hE : ∀ (tok : Nat → Int32) (beh : Nat → Int32) (msk : Nat → Int32) (sec : Nat → Int32) (siz : Int32) (kept : Nat → Int32) (size : Int32) (y1 y2 : Int32), PE y2 → CV l g yX0_writeExpression cX0_writeExpression 8 none (rmN kE) (w_Coder h x t g) [.ref h, .int y1, .int y2] (((tok, beh), (msk, sec)), ((siz, kept), size)) (rb_X0_writeExpression (((tok, beh), (msk, sec)), ((siz, kept), size)) (wE tok beh msk sec siz kept size y1 y2))) (hSs : ∀ (tok : Nat → Int32) (beh : Nat → Int32) (msk : Nat → Int32) (sec : Nat → Int32) (siz : Int32) (kept : Nat → Int32) (size : Int32) (y1 y2 y3 : Int32), PS y2 → CV l g yX0_writeStatements cX0_writeStatements 6 none (rmN kS) (w_Coder h x t g) [.ref h, .int y1, .int y2, .int y3] (((tok, beh), (msk, sec)), ((siz, kept), size)) (rb_X0_writeStatements (((tok, beh), (msk, sec)), ((siz, kept), size)) (wSs tok beh msk sec siz kept size y1 y2 y3))) (hP : PE (x2 + (1 : Int32)) ∧ PS (x2 + (1 : Int32))) : CV l g yX0_writeWhile cX0_writeWhile 7 none (rmN kM) (w_Coder h x t g) [.ref h, .int x1, .int x2, .int x3] (((tok, beh), (msk, sec)), ((siz, kept), size)) (rb_X0_writeWhile (((tok, beh), (msk, sec)), ((siz, kept), size)) (f_X0_writeWhile wE wSs tok beh msk sec siz kept size x1 x2 x3)) := by
  refine CV.mk (by decide) (Nat.le_of_ble_eq_true rfl) ?_
  intro p e s m below meth c A ls hI hw hl
  have hx := hI.1
  have hb := hI.2.1
  obtain ⟨r, hr⟩ : ∃ r, r = rb_X0_writeWhile (((tok, beh), (msk, sec)), ((siz, kept), size)) (f_X0_writeWhile wE wSs tok beh msk sec siz kept size x1 x2 x3) := ⟨_, rfl⟩
  rw [← hr]
  have hl : lv_has ls 7 [(0, .ref h), (1, .int x1), (2, .int x2), (3, .int x3)] := hl
  refine lv_aload_n hx hb dX0_writeWhile_0 rfl (lv_at hl 0 rfl) ?_
  refine hI.get (v := .ref (x 0)) hw fg_X0_9 0 rfl rfl dX0_writeWhile_1 ?_
  refine lv_iload_n hx hb dX0_writeWhile_4 rfl (lv_at hl 1 rfl) ?_
  obtain ⟨o1, ho1⟩ : ∃ o, o = f_X2_inside tok siz x1 := ⟨_, rfl⟩
  refine hI.callI (wl := w_Prog x g) (a := (((tok, beh), msk), (sec, siz))) (wr := [(h, .inr (0, [.ref (x 0), .ref (t 0)])), (t 0, .inr (5, [.ref (t 1), .int size])), (t 1, .inl (g.2.1, 2048, .inl kept))]) (ws1 := w_Coder h x t g (((tok, beh), (msk, sec)), ((siz, kept), size))) (r := rb_X2_inside (((tok, beh), msk), (sec, siz)) o1) (As := [.int x1]) (rest := []) hw (by rw [ho1]; exact c_X2_inside l g x tok beh msk sec siz x1 ) ok_yX2_inside ml_X0_64 (rm_ok (by omega) (by decide)) [1, 2, 3, 4, 5] [0, 6, 7] [0, 3, 4, 5, 6, 7, 1, 2] rfl rfl rfl rfl rfl 0 rfl rfl rfl rfl hl.1 (Nat.le_of_ble_eq_true rfl) dX0_writeWhile_5 ⟨Nat.zero_le _, Nat.zero_le _⟩ (fun H locs hw => ?_)
  have hw : Wd g A s (w_Coder h x t g (((tok, beh), (msk, sec)), ((siz, kept), size))) H locs := hw
  refine W.eq (g2 := F0 m 8 ls [.int o1]) rfl ?_
  refine lv_istore (lv' := [(4, .int o1), (0, .ref h), (1, .int x1), (2, .int x2), (3, .int x3)]) hx hb dX0_writeWhile_8 hl (by decide) rfl (fun ls hl => ?_)
  refine lv_aload_n hx hb dX0_writeWhile_10 rfl (lv_at hl 1 rfl) ?_
  refine hI.get (v := .ref (t 0)) hw fg_X0_15 0 rfl rfl dX0_writeWhile_11 ?_
  obtain ⟨o2, ho2⟩ : ∃ o, o = f_X6_size size := ⟨_, rfl⟩
  refine hI.callI (wl := w_Tape t 2048 g) (a := (kept, size)) (wr := [(h, .inr (0, [.ref (x 0), .ref (t 0)])), (x 0, .inr (2, [.ref (x 1), .ref (x 2), .ref (x 3), .ref (x 4), .int siz])), (x 1, .inl (g.2.1, 400, .inl tok)), (x 2, .inl (g.2.1, 400, .inl beh)), (x 3, .inl (g.2.1, 400, .inl msk)), (x 4, .inl (g.2.2, 400, .inl sec))]) (ws1 := w_Coder h x t g (((tok, beh), (msk, sec)), ((siz, kept), size))) (r := rb_X6_size (kept, size) o2) (As := []) (rest := []) hw (by rw [ho2]; exact c_X6_size l g t 2048 kept size ) ok_yX6_size ml_X0_91 (rm_ok (by omega) (by decide)) [6, 7] [0, 1, 2, 3, 4, 5] [0, 1, 2, 3, 4, 5, 6, 7] rfl rfl rfl rfl rfl 0 rfl rfl rfl rfl hl.1 (Nat.le_of_ble_eq_true rfl) dX0_writeWhile_14 ⟨Nat.zero_le _, Nat.zero_le _⟩ (fun H locs hw => ?_)
  have hw : Wd g A s (w_Coder h x t g (((tok, beh), (msk, sec)), ((siz, kept), size))) H locs := hw
  refine W.eq (g2 := F0 m 17 ls [.int o2]) rfl ?_
  refine lv_istore (lv' := [(5, .int o2), (4, .int o1), (0, .ref h), (1, .int x1), (2, .int x2), (3, .int x3)]) hx hb dX0_writeWhile_17 hl (by decide) rfl (fun ls hl => ?_)
  refine lv_aload_n hx hb dX0_writeWhile_19 rfl (lv_at hl 2 rfl) ?_
  refine lv_iload hx hb dX0_writeWhile_20 (lv_at hl 1 rfl) ?_
  refine lv_iload_n hx hb dX0_writeWhile_22 rfl (lv_at hl 4 rfl) ?_
  refine lv_iconst (v := (1 : Int32)) hx hb dX0_writeWhile_23 (by decide) ?_
  refine lv_iadd hx hb dX0_writeWhile_24 ?_
  obtain ⟨o3, ho3⟩ : ∃ o, o = wE tok beh msk sec siz kept size o1 (x2 + (1 : Int32)) := ⟨_, rfl⟩
  refine hI.callV0 (wl := w_Coder h x t g) (a := (((tok, beh), (msk, sec)), ((siz, kept), size))) (r := rb_X0_writeExpression (((tok, beh), (msk, sec)), ((siz, kept), size)) o3) (As := [.int o1, .int (x2 + (1 : Int32))]) (rest := []) hw (by rw [ho3]; exact hE tok beh msk sec siz kept size o1 (x2 + (1 : Int32)) hP.1) ok_yX0_writeExpression ml_X0_67 (rm_ok (by omega) (by decide)) 0 rfl rfl rfl rfl hl.1 (Nat.le_of_ble_eq_true rfl) dX0_writeWhile_25 ⟨Nat.zero_le _, Nat.zero_le _⟩ (fun H locs hw => ?_)
  have hw : Wd g A s (w_Coder h x t g (((tok, beh), (msk, sec)), ((siz, o3.1), o3.2))) H locs := hw
  refine W.eq (g2 := F0 m 28 ls []) rfl ?_
  refine lv_aload_n hx hb dX0_writeWhile_28 rfl (lv_at hl 2 rfl) ?_
  refine lv_bipush (v := (19 : Int32)) hx hb dX0_writeWhile_29 (by decide) ?_
  obtain ⟨o4, ho4⟩ : ∃ o, o = f_X0_writeJump o3.1 o3.2 (19 : Int32) := ⟨_, rfl⟩
  refine hI.callI0 (wl := w_Coder h x t g) (a := (((tok, beh), (msk, sec)), ((siz, o3.1), o3.2))) (r := rb_X0_writeJump (((tok, beh), (msk, sec)), ((siz, o3.1), o3.2)) o4) (As := [.int (19 : Int32)]) (rest := []) hw (by rw [ho4]; exact c_X0_writeJump l g h x t tok beh msk sec siz o3.1 o3.2 (19 : Int32) ) ok_yX0_writeJump ml_X0_85 (rm_ok (by omega) (by decide)) 0 rfl rfl rfl rfl hl.1 (Nat.le_of_ble_eq_true rfl) dX0_writeWhile_31 ⟨Nat.zero_le _, Nat.zero_le _⟩ (fun H locs hw => ?_)
  have hw : Wd g A s (w_Coder h x t g (((tok, beh), (msk, sec)), ((siz, o4.2.1), o4.2.2))) H locs := hw
  refine W.eq (g2 := F0 m 34 ls [.int o4.1]) rfl ?_
  refine lv_istore (lv' := [(6, .int o4.1), (5, .int o2), (4, .int o1), (0, .ref h), (1, .int x1), (2, .int x2), (3, .int x3)]) hx hb dX0_writeWhile_34 hl (by decide) rfl (fun ls hl => ?_)
  refine lv_aload_n hx hb dX0_writeWhile_36 rfl (lv_at hl 3 rfl) ?_
  refine lv_aload_n hx hb dX0_writeWhile_37 rfl (lv_at hl 3 rfl) ?_
  refine hI.get (v := .ref (x 0)) hw fg_X0_9 0 rfl rfl dX0_writeWhile_38 ?_
  refine lv_iload hx hb dX0_writeWhile_41 (lv_at hl 2 rfl) ?_
  obtain ⟨o5, ho5⟩ : ∃ o, o = f_X2_behind beh siz o1 := ⟨_, rfl⟩
  refine hI.callI (wl := w_Prog x g) (a := (((tok, beh), msk), (sec, siz))) (wr := [(h, .inr (0, [.ref (x 0), .ref (t 0)])), (t 0, .inr (5, [.ref (t 1), .int o4.2.2])), (t 1, .inl (g.2.1, 2048, .inl o4.2.1))]) (ws1 := w_Coder h x t g (((tok, beh), (msk, sec)), ((siz, o4.2.1), o4.2.2))) (r := rb_X2_behind (((tok, beh), msk), (sec, siz)) o5) (As := [.int o1]) (rest := [.ref h]) hw (by rw [ho5]; exact c_X2_behind l g x tok beh msk sec siz o1 ) ok_yX2_behind ml_X0_41 (rm_ok (by omega) (by decide)) [1, 2, 3, 4, 5] [0, 6, 7] [0, 3, 4, 5, 6, 7, 1, 2] rfl rfl rfl rfl rfl 0 rfl rfl rfl rfl hl.1 (Nat.le_of_ble_eq_true rfl) dX0_writeWhile_43 ⟨Nat.zero_le _, Nat.zero_le _⟩ (fun H locs hw => ?_)
  have hw : Wd g A s (w_Coder h x t g (((tok, beh), (msk, sec)), ((siz, o4.2.1), o4.2.2))) H locs := hw
  refine W.eq (g2 := F0 m 46 ls [.int o5, .ref h]) rfl ?_
  refine lv_iload_n hx hb dX0_writeWhile_46 rfl (lv_at hl 5 rfl) ?_
  refine lv_iconst (v := (1 : Int32)) hx hb dX0_writeWhile_47 (by decide) ?_
  refine lv_iadd hx hb dX0_writeWhile_48 ?_
  refine lv_iload_n hx hb dX0_writeWhile_49 rfl (lv_at hl 6 rfl) ?_
  obtain ⟨o6, ho6⟩ : ∃ o, o = wSs tok beh msk sec siz o4.2.1 o4.2.2 o5 (x2 + (1 : Int32)) x3 := ⟨_, rfl⟩
  refine hI.callV0 (wl := w_Coder h x t g) (a := (((tok, beh), (msk, sec)), ((siz, o4.2.1), o4.2.2))) (r := rb_X0_writeStatements (((tok, beh), (msk, sec)), ((siz, o4.2.1), o4.2.2)) o6) (As := [.int o5, .int (x2 + (1 : Int32)), .int x3]) (rest := []) hw (by rw [ho6]; exact hSs tok beh msk sec siz o4.2.1 o4.2.2 o5 (x2 + (1 : Int32)) x3 hP.2) ok_yX0_writeStatements ml_X0_24 (rm_ok (by omega) (by decide)) 0 rfl rfl rfl rfl hl.1 (Nat.le_of_ble_eq_true rfl) dX0_writeWhile_50 ⟨Nat.zero_le _, Nat.zero_le _⟩ (fun H locs hw => ?_)
  have hw : Wd g A s (w_Coder h x t g (((tok, beh), (msk, sec)), ((siz, o6.1), o6.2))) H locs := hw
  refine W.eq (g2 := F0 m 53 ls []) rfl ?_
  refine lv_aload_n hx hb dX0_writeWhile_53 rfl (lv_at hl 3 rfl) ?_
  refine lv_bipush (v := (18 : Int32)) hx hb dX0_writeWhile_54 (by decide) ?_
  refine lv_iload hx hb dX0_writeWhile_56 (lv_at hl 1 rfl) ?_
  obtain ⟨o7, ho7⟩ : ∃ o, o = f_X0_write o6.1 o6.2 (18 : Int32) o2 := ⟨_, rfl⟩
  refine hI.callV0 (wl := w_Coder h x t g) (a := (((tok, beh), (msk, sec)), ((siz, o6.1), o6.2))) (r := rb_X0_write (((tok, beh), (msk, sec)), ((siz, o6.1), o6.2)) o7) (As := [.int (18 : Int32), .int o2]) (rest := []) hw (by rw [ho7]; exact c_X0_write l g h x t tok beh msk sec siz o6.1 o6.2 (18 : Int32) o2 ) ok_yX0_write ml_X0_76 (rm_ok (by omega) (by decide)) 0 rfl rfl rfl rfl hl.1 (Nat.le_of_ble_eq_true rfl) dX0_writeWhile_58 ⟨Nat.zero_le _, Nat.zero_le _⟩ (fun H locs hw => ?_)
  have hw : Wd g A s (w_Coder h x t g (((tok, beh), (msk, sec)), ((siz, o7.1), o7.2))) H locs := hw
  refine W.eq (g2 := F0 m 61 ls []) rfl ?_
  refine lv_aload_n hx hb dX0_writeWhile_61 rfl (lv_at hl 3 rfl) ?_
  refine lv_iload hx hb dX0_writeWhile_62 (lv_at hl 0 rfl) ?_
  obtain ⟨o8, ho8⟩ : ∃ o, o = f_X0_land o7.1 o7.2 o4.1 := ⟨_, rfl⟩
  refine hI.callV0 (wl := w_Coder h x t g) (a := (((tok, beh), (msk, sec)), ((siz, o7.1), o7.2))) (r := rb_X0_land (((tok, beh), (msk, sec)), ((siz, o7.1), o7.2)) o8) (As := [.int o4.1]) (rest := []) hw (by rw [ho8]; exact c_X0_land l g h x t tok beh msk sec siz o7.1 o7.2 o4.1 ) ok_yX0_land ml_X0_88 (rm_ok (by omega) (by decide)) 0 rfl rfl rfl rfl hl.1 (Nat.le_of_ble_eq_true rfl) dX0_writeWhile_64 ⟨Nat.zero_le _, Nat.zero_le _⟩ (fun H locs hw => ?_)
  have hw : Wd g A s (w_Coder h x t g (((tok, beh), (msk, sec)), ((siz, o8), o7.2))) H locs := hw
  refine W.eq (g2 := F0 m 67 ls []) rfl ?_
  exact hI.retV (u := (((tok, beh), (msk, sec)), ((siz, o8), o7.2))) hw (hr.trans (congrArg (rb_X0_writeWhile (((tok, beh), (msk, sec)), ((siz, kept), size))) ((show f_X0_writeWhile wE wSs tok beh msk sec siz kept size x1 x2 x3 = ((o8, o7.2)) from bd_of ho1 (bd_of ho2 (bd_of ho3 (bd_of ho4 (bd_of ho5 (bd_of ho6 (bd_of ho7 (bd_of ho8 (rfl)))))))))))) dX0_writeWhile_67
def f_X0_writeTimes (wSs : (Nat → Int32) → (Nat → Int32) → (Nat → Int32) → (Nat → Int32) → Int32 → (Nat → Int32) → Int32 → Int32 → Int32 → Int32 → ((Nat → Int32) × Int32)) (tok : Nat → Int32) (beh : Nat → Int32) (msk : Nat → Int32) (sec : Nat → Int32) (siz : Int32) (kept : Nat → Int32) (size : Int32) (x1 : Int32) (x2 : Int32) (x3 : Int32) : ((Nat → Int32) × Int32) := bd (f_X0_write kept size (29 : Int32) x3) (fun o1 => bd (f_X6_size o1.2) (fun o2 => bd (f_X0_write o1.1 o1.2 (30 : Int32) x3) (fun o3 => bd (f_X2_tokenAt tok siz (x1 + (1 : Int32))) (fun o4 => bd (f_X0_write o3.1 o3.2 (1 : Int32) o4) (fun o5 => bd (f_X6_add 2048 o5.1 o5.2 (12 : Int32)) (fun o6 => bd (f_X0_writeJump o6.1 o6.2 (19 : Int32)) (fun o7 => bd (f_X2_inside tok siz x1) (fun o8 => bd (wSs tok beh msk sec siz o7.2.1 o7.2.2 o8 (x2 + (1 : Int32)) (x3 + (1 : Int32))) (fun o9 => bd (f_X0_write o9.1 o9.2 (31 : Int32) x3) (fun o10 => bd (f_X0_write o10.1 o10.2 (18 : Int32) o2) (fun o11 => bd (f_X0_land o11.1 o11.2 o7.1) (fun o12 => ((o12, o11.2))))))))))))))
set_option maxHeartbeats 4000000 in
set_option maxRecDepth 100000 in
theorem c_X0_writeTimes (l : Launch) (g : GG) (h : Nat) (x : Nat → Nat) (t : Nat → Nat) (tok : Nat → Int32) (beh : Nat → Int32) (msk : Nat → Int32) (sec : Nat → Int32) (siz : Int32) (kept : Nat → Int32) (size : Int32) (wSs : (Nat → Int32) → (Nat → Int32) → (Nat → Int32) → (Nat → Int32) → Int32 → (Nat → Int32) → Int32 → Int32 → Int32 → Int32 → ((Nat → Int32) × Int32)) (x1 : Int32) (x2 : Int32) (x3 : Int32) (PE : Int32 → Prop) (PS : Int32 → Prop) (kM : Nat) (kE : Nat) (kS : Nat) (hk : kE + 1 ≤ kM ∧ kS + 1 ≤ kM ∧ 6 ≤ kM) (hSs : ∀ (tok : Nat → Int32) (beh : Nat → Int32) (msk : Nat → Int32) (sec : Nat → Int32) (siz : Int32) (kept : Nat → Int32) (size : Int32) (y1 y2 y3 : Int32), PS y2 → CV l g yX0_writeStatements cX0_writeStatements 6 none (rmN kS) (w_Coder h x t g) [.ref h, .int y1, .int y2, .int y3] (((tok, beh), (msk, sec)), ((siz, kept), size)) (rb_X0_writeStatements (((tok, beh), (msk, sec)), ((siz, kept), size)) (wSs tok beh msk sec siz kept size y1 y2 y3))) (hP : PE (x2 + (1 : Int32)) ∧ PS (x2 + (1 : Int32))) : CV l g yX0_writeTimes cX0_writeTimes 6 none (rmN kM) (w_Coder h x t g) [.ref h, .int x1, .int x2, .int x3] (((tok, beh), (msk, sec)), ((siz, kept), size)) (rb_X0_writeTimes (((tok, beh), (msk, sec)), ((siz, kept), size)) (f_X0_writeTimes wSs tok beh msk sec siz kept size x1 x2 x3)) := by
  refine CV.mk (by decide) (Nat.le_of_ble_eq_true rfl) ?_
  intro p e s m below meth c A ls hI hw hl
  have hx := hI.1
  have hb := hI.2.1
  obtain ⟨r, hr⟩ : ∃ r, r = rb_X0_writeTimes (((tok, beh), (msk, sec)), ((siz, kept), size)) (f_X0_writeTimes wSs tok beh msk sec siz kept size x1 x2 x3) := ⟨_, rfl⟩
  rw [← hr]
  have hl : lv_has ls 6 [(0, .ref h), (1, .int x1), (2, .int x2), (3, .int x3)] := hl
  refine lv_aload_n hx hb dX0_writeTimes_0 rfl (lv_at hl 0 rfl) ?_
  refine lv_bipush (v := (29 : Int32)) hx hb dX0_writeTimes_1 (by decide) ?_
  refine lv_iload_n hx hb dX0_writeTimes_3 rfl (lv_at hl 3 rfl) ?_
  obtain ⟨o1, ho1⟩ : ∃ o, o = f_X0_write kept size (29 : Int32) x3 := ⟨_, rfl⟩
  refine hI.callV0 (wl := w_Coder h x t g) (a := (((tok, beh), (msk, sec)), ((siz, kept), size))) (r := rb_X0_write (((tok, beh), (msk, sec)), ((siz, kept), size)) o1) (As := [.int (29 : Int32), .int x3]) (rest := []) hw (by rw [ho1]; exact c_X0_write l g h x t tok beh msk sec siz kept size (29 : Int32) x3 ) ok_yX0_write ml_X0_76 (rm_ok (by omega) (by decide)) 0 rfl rfl rfl rfl hl.1 (Nat.le_of_ble_eq_true rfl) dX0_writeTimes_4 ⟨Nat.zero_le _, Nat.zero_le _⟩ (fun H locs hw => ?_)
  have hw : Wd g A s (w_Coder h x t g (((tok, beh), (msk, sec)), ((siz, o1.1), o1.2))) H locs := hw
  refine W.eq (g2 := F0 m 7 ls []) rfl ?_
  refine lv_aload_n hx hb dX0_writeTimes_7 rfl (lv_at hl 0 rfl) ?_
  refine hI.get (v := .ref (t 0)) hw fg_X0_15 0 rfl rfl dX0_writeTimes_8 ?_
  obtain ⟨o2, ho2⟩ : ∃ o, o = f_X6_size o1.2 := ⟨_, rfl⟩
  refine hI.callI (wl := w_Tape t 2048 g) (a := (o1.1, o1.2)) (wr := [(h, .inr (0, [.ref (x 0), .ref (t 0)])), (x 0, .inr (2, [.ref (x 1), .ref (x 2), .ref (x 3), .ref (x 4), .int siz])), (x 1, .inl (g.2.1, 400, .inl tok)), (x 2, .inl (g.2.1, 400, .inl beh)), (x 3, .inl (g.2.1, 400, .inl msk)), (x 4, .inl (g.2.2, 400, .inl sec))]) (ws1 := w_Coder h x t g (((tok, beh), (msk, sec)), ((siz, o1.1), o1.2))) (r := rb_X6_size (o1.1, o1.2) o2) (As := []) (rest := []) hw (by rw [ho2]; exact c_X6_size l g t 2048 o1.1 o1.2 ) ok_yX6_size ml_X0_91 (rm_ok (by omega) (by decide)) [6, 7] [0, 1, 2, 3, 4, 5] [0, 1, 2, 3, 4, 5, 6, 7] rfl rfl rfl rfl rfl 0 rfl rfl rfl rfl hl.1 (Nat.le_of_ble_eq_true rfl) dX0_writeTimes_11 ⟨Nat.zero_le _, Nat.zero_le _⟩ (fun H locs hw => ?_)
  have hw : Wd g A s (w_Coder h x t g (((tok, beh), (msk, sec)), ((siz, o1.1), o1.2))) H locs := hw
  refine W.eq (g2 := F0 m 14 ls [.int o2]) rfl ?_
  refine lv_istore (lv' := [(4, .int o2), (0, .ref h), (1, .int x1), (2, .int x2), (3, .int x3)]) hx hb dX0_writeTimes_14 hl (by decide) rfl (fun ls hl => ?_)
  refine lv_aload_n hx hb dX0_writeTimes_16 rfl (lv_at hl 1 rfl) ?_
  refine lv_bipush (v := (30 : Int32)) hx hb dX0_writeTimes_17 (by decide) ?_
  refine lv_iload_n hx hb dX0_writeTimes_19 rfl (lv_at hl 4 rfl) ?_
  obtain ⟨o3, ho3⟩ : ∃ o, o = f_X0_write o1.1 o1.2 (30 : Int32) x3 := ⟨_, rfl⟩
  refine hI.callV0 (wl := w_Coder h x t g) (a := (((tok, beh), (msk, sec)), ((siz, o1.1), o1.2))) (r := rb_X0_write (((tok, beh), (msk, sec)), ((siz, o1.1), o1.2)) o3) (As := [.int (30 : Int32), .int x3]) (rest := []) hw (by rw [ho3]; exact c_X0_write l g h x t tok beh msk sec siz o1.1 o1.2 (30 : Int32) x3 ) ok_yX0_write ml_X0_76 (rm_ok (by omega) (by decide)) 0 rfl rfl rfl rfl hl.1 (Nat.le_of_ble_eq_true rfl) dX0_writeTimes_20 ⟨Nat.zero_le _, Nat.zero_le _⟩ (fun H locs hw => ?_)
  have hw : Wd g A s (w_Coder h x t g (((tok, beh), (msk, sec)), ((siz, o3.1), o3.2))) H locs := hw
  refine W.eq (g2 := F0 m 23 ls []) rfl ?_
  refine lv_aload_n hx hb dX0_writeTimes_23 rfl (lv_at hl 1 rfl) ?_
  refine lv_iconst (v := (1 : Int32)) hx hb dX0_writeTimes_24 (by decide) ?_
  refine lv_aload_n hx hb dX0_writeTimes_25 rfl (lv_at hl 1 rfl) ?_
  refine hI.get (v := .ref (x 0)) hw fg_X0_9 0 rfl rfl dX0_writeTimes_26 ?_
  refine lv_iload_n hx hb dX0_writeTimes_29 rfl (lv_at hl 2 rfl) ?_
  refine lv_iconst (v := (1 : Int32)) hx hb dX0_writeTimes_30 (by decide) ?_
  refine lv_iadd hx hb dX0_writeTimes_31 ?_
  obtain ⟨o4, ho4⟩ : ∃ o, o = f_X2_tokenAt tok siz (x1 + (1 : Int32)) := ⟨_, rfl⟩
  refine hI.callI (wl := w_Prog x g) (a := (((tok, beh), msk), (sec, siz))) (wr := [(h, .inr (0, [.ref (x 0), .ref (t 0)])), (t 0, .inr (5, [.ref (t 1), .int o3.2])), (t 1, .inl (g.2.1, 2048, .inl o3.1))]) (ws1 := w_Coder h x t g (((tok, beh), (msk, sec)), ((siz, o3.1), o3.2))) (r := rb_X2_tokenAt (((tok, beh), msk), (sec, siz)) o4) (As := [.int (x1 + (1 : Int32))]) (rest := [.int (1 : Int32), .ref h]) hw (by rw [ho4]; exact c_X2_tokenAt l g x tok beh msk sec siz (x1 + (1 : Int32)) ) ok_yX2_tokenAt ml_X0_45 (rm_ok (by omega) (by decide)) [1, 2, 3, 4, 5] [0, 6, 7] [0, 3, 4, 5, 6, 7, 1, 2] rfl rfl rfl rfl rfl 0 rfl rfl rfl rfl hl.1 (Nat.le_of_ble_eq_true rfl) dX0_writeTimes_32 ⟨Nat.zero_le _, Nat.zero_le _⟩ (fun H locs hw => ?_)
  have hw : Wd g A s (w_Coder h x t g (((tok, beh), (msk, sec)), ((siz, o3.1), o3.2))) H locs := hw
  refine W.eq (g2 := F0 m 35 ls [.int o4, .int (1 : Int32), .ref h]) rfl ?_
  obtain ⟨o5, ho5⟩ : ∃ o, o = f_X0_write o3.1 o3.2 (1 : Int32) o4 := ⟨_, rfl⟩
  refine hI.callV0 (wl := w_Coder h x t g) (a := (((tok, beh), (msk, sec)), ((siz, o3.1), o3.2))) (r := rb_X0_write (((tok, beh), (msk, sec)), ((siz, o3.1), o3.2)) o5) (As := [.int (1 : Int32), .int o4]) (rest := []) hw (by rw [ho5]; exact c_X0_write l g h x t tok beh msk sec siz o3.1 o3.2 (1 : Int32) o4 ) ok_yX0_write ml_X0_76 (rm_ok (by omega) (by decide)) 0 rfl rfl rfl rfl hl.1 (Nat.le_of_ble_eq_true rfl) dX0_writeTimes_35 ⟨Nat.zero_le _, Nat.zero_le _⟩ (fun H locs hw => ?_)
  have hw : Wd g A s (w_Coder h x t g (((tok, beh), (msk, sec)), ((siz, o5.1), o5.2))) H locs := hw
  refine W.eq (g2 := F0 m 38 ls []) rfl ?_
  refine lv_aload_n hx hb dX0_writeTimes_38 rfl (lv_at hl 1 rfl) ?_
  refine hI.get (v := .ref (t 0)) hw fg_X0_15 0 rfl rfl dX0_writeTimes_39 ?_
  refine lv_bipush (v := (12 : Int32)) hx hb dX0_writeTimes_42 (by decide) ?_
  obtain ⟨o6, ho6⟩ : ∃ o, o = f_X6_add 2048 o5.1 o5.2 (12 : Int32) := ⟨_, rfl⟩
  refine hI.callV (wl := w_Tape t 2048 g) (a := (o5.1, o5.2)) (wr := [(h, .inr (0, [.ref (x 0), .ref (t 0)])), (x 0, .inr (2, [.ref (x 1), .ref (x 2), .ref (x 3), .ref (x 4), .int siz])), (x 1, .inl (g.2.1, 400, .inl tok)), (x 2, .inl (g.2.1, 400, .inl beh)), (x 3, .inl (g.2.1, 400, .inl msk)), (x 4, .inl (g.2.2, 400, .inl sec))]) (ws1 := w_Coder h x t g (((tok, beh), (msk, sec)), ((siz, o6.1), o6.2))) (r := rb_X6_add (o5.1, o5.2) o6) (As := [.int (12 : Int32)]) (rest := []) hw (by rw [ho6]; exact c_X6_add l g t 2048 o5.1 o5.2 (12 : Int32) (by decide)) ok_yX6_add ml_X0_28 (rm_ok (by omega) (by decide)) [6, 7] [0, 1, 2, 3, 4, 5] [0, 1, 2, 3, 4, 5, 6, 7] rfl rfl rfl rfl rfl 0 rfl rfl rfl rfl hl.1 (Nat.le_of_ble_eq_true rfl) dX0_writeTimes_44 ⟨Nat.zero_le _, Nat.zero_le _⟩ (fun H locs hw => ?_)
  have hw : Wd g A s (w_Coder h x t g (((tok, beh), (msk, sec)), ((siz, o6.1), o6.2))) H locs := hw
  refine W.eq (g2 := F0 m 47 ls []) rfl ?_
  refine lv_aload_n hx hb dX0_writeTimes_47 rfl (lv_at hl 1 rfl) ?_
  refine lv_bipush (v := (19 : Int32)) hx hb dX0_writeTimes_48 (by decide) ?_
  obtain ⟨o7, ho7⟩ : ∃ o, o = f_X0_writeJump o6.1 o6.2 (19 : Int32) := ⟨_, rfl⟩
  refine hI.callI0 (wl := w_Coder h x t g) (a := (((tok, beh), (msk, sec)), ((siz, o6.1), o6.2))) (r := rb_X0_writeJump (((tok, beh), (msk, sec)), ((siz, o6.1), o6.2)) o7) (As := [.int (19 : Int32)]) (rest := []) hw (by rw [ho7]; exact c_X0_writeJump l g h x t tok beh msk sec siz o6.1 o6.2 (19 : Int32) ) ok_yX0_writeJump ml_X0_85 (rm_ok (by omega) (by decide)) 0 rfl rfl rfl rfl hl.1 (Nat.le_of_ble_eq_true rfl) dX0_writeTimes_50 ⟨Nat.zero_le _, Nat.zero_le _⟩ (fun H locs hw => ?_)
  have hw : Wd g A s (w_Coder h x t g (((tok, beh), (msk, sec)), ((siz, o7.2.1), o7.2.2))) H locs := hw
  refine W.eq (g2 := F0 m 53 ls [.int o7.1]) rfl ?_
  refine lv_istore (lv' := [(5, .int o7.1), (4, .int o2), (0, .ref h), (1, .int x1), (2, .int x2), (3, .int x3)]) hx hb dX0_writeTimes_53 hl (by decide) rfl (fun ls hl => ?_)
  refine lv_aload_n hx hb dX0_writeTimes_55 rfl (lv_at hl 2 rfl) ?_
  refine lv_aload_n hx hb dX0_writeTimes_56 rfl (lv_at hl 2 rfl) ?_
  refine hI.get (v := .ref (x 0)) hw fg_X0_9 0 rfl rfl dX0_writeTimes_57 ?_
  refine lv_iload_n hx hb dX0_writeTimes_60 rfl (lv_at hl 3 rfl) ?_
  obtain ⟨o8, ho8⟩ : ∃ o, o = f_X2_inside tok siz x1 := ⟨_, rfl⟩
  refine hI.callI (wl := w_Prog x g) (a := (((tok, beh), msk), (sec, siz))) (wr := [(h, .inr (0, [.ref (x 0), .ref (t 0)])), (t 0, .inr (5, [.ref (t 1), .int o7.2.2])), (t 1, .inl (g.2.1, 2048, .inl o7.2.1))]) (ws1 := w_Coder h x t g (((tok, beh), (msk, sec)), ((siz, o7.2.1), o7.2.2))) (r := rb_X2_inside (((tok, beh), msk), (sec, siz)) o8) (As := [.int x1]) (rest := [.ref h]) hw (by rw [ho8]; exact c_X2_inside l g x tok beh msk sec siz x1 ) ok_yX2_inside ml_X0_64 (rm_ok (by omega) (by decide)) [1, 2, 3, 4, 5] [0, 6, 7] [0, 3, 4, 5, 6, 7, 1, 2] rfl rfl rfl rfl rfl 0 rfl rfl rfl rfl hl.1 (Nat.le_of_ble_eq_true rfl) dX0_writeTimes_61 ⟨Nat.zero_le _, Nat.zero_le _⟩ (fun H locs hw => ?_)
  have hw : Wd g A s (w_Coder h x t g (((tok, beh), (msk, sec)), ((siz, o7.2.1), o7.2.2))) H locs := hw
  refine W.eq (g2 := F0 m 64 ls [.int o8, .ref h]) rfl ?_
  refine lv_iload_n hx hb dX0_writeTimes_64 rfl (lv_at hl 4 rfl) ?_
  refine lv_iconst (v := (1 : Int32)) hx hb dX0_writeTimes_65 (by decide) ?_
  refine lv_iadd hx hb dX0_writeTimes_66 ?_
  refine lv_iload_n hx hb dX0_writeTimes_67 rfl (lv_at hl 5 rfl) ?_
  refine lv_iconst (v := (1 : Int32)) hx hb dX0_writeTimes_68 (by decide) ?_
  refine lv_iadd hx hb dX0_writeTimes_69 ?_
  obtain ⟨o9, ho9⟩ : ∃ o, o = wSs tok beh msk sec siz o7.2.1 o7.2.2 o8 (x2 + (1 : Int32)) (x3 + (1 : Int32)) := ⟨_, rfl⟩
  refine hI.callV0 (wl := w_Coder h x t g) (a := (((tok, beh), (msk, sec)), ((siz, o7.2.1), o7.2.2))) (r := rb_X0_writeStatements (((tok, beh), (msk, sec)), ((siz, o7.2.1), o7.2.2)) o9) (As := [.int o8, .int (x2 + (1 : Int32)), .int (x3 + (1 : Int32))]) (rest := []) hw (by rw [ho9]; exact hSs tok beh msk sec siz o7.2.1 o7.2.2 o8 (x2 + (1 : Int32)) (x3 + (1 : Int32)) hP.2) ok_yX0_writeStatements ml_X0_24 (rm_ok (by omega) (by decide)) 0 rfl rfl rfl rfl hl.1 (Nat.le_of_ble_eq_true rfl) dX0_writeTimes_70 ⟨Nat.zero_le _, Nat.zero_le _⟩ (fun H locs hw => ?_)
  have hw : Wd g A s (w_Coder h x t g (((tok, beh), (msk, sec)), ((siz, o9.1), o9.2))) H locs := hw
  refine W.eq (g2 := F0 m 73 ls []) rfl ?_
  refine lv_aload_n hx hb dX0_writeTimes_73 rfl (lv_at hl 2 rfl) ?_
  refine lv_bipush (v := (31 : Int32)) hx hb dX0_writeTimes_74 (by decide) ?_
  refine lv_iload_n hx hb dX0_writeTimes_76 rfl (lv_at hl 5 rfl) ?_
  obtain ⟨o10, ho10⟩ : ∃ o, o = f_X0_write o9.1 o9.2 (31 : Int32) x3 := ⟨_, rfl⟩
  refine hI.callV0 (wl := w_Coder h x t g) (a := (((tok, beh), (msk, sec)), ((siz, o9.1), o9.2))) (r := rb_X0_write (((tok, beh), (msk, sec)), ((siz, o9.1), o9.2)) o10) (As := [.int (31 : Int32), .int x3]) (rest := []) hw (by rw [ho10]; exact c_X0_write l g h x t tok beh msk sec siz o9.1 o9.2 (31 : Int32) x3 ) ok_yX0_write ml_X0_76 (rm_ok (by omega) (by decide)) 0 rfl rfl rfl rfl hl.1 (Nat.le_of_ble_eq_true rfl) dX0_writeTimes_77 ⟨Nat.zero_le _, Nat.zero_le _⟩ (fun H locs hw => ?_)
  have hw : Wd g A s (w_Coder h x t g (((tok, beh), (msk, sec)), ((siz, o10.1), o10.2))) H locs := hw
  refine W.eq (g2 := F0 m 80 ls []) rfl ?_
  refine lv_aload_n hx hb dX0_writeTimes_80 rfl (lv_at hl 2 rfl) ?_
  refine lv_bipush (v := (18 : Int32)) hx hb dX0_writeTimes_81 (by decide) ?_
  refine lv_iload hx hb dX0_writeTimes_83 (lv_at hl 1 rfl) ?_
  obtain ⟨o11, ho11⟩ : ∃ o, o = f_X0_write o10.1 o10.2 (18 : Int32) o2 := ⟨_, rfl⟩
  refine hI.callV0 (wl := w_Coder h x t g) (a := (((tok, beh), (msk, sec)), ((siz, o10.1), o10.2))) (r := rb_X0_write (((tok, beh), (msk, sec)), ((siz, o10.1), o10.2)) o11) (As := [.int (18 : Int32), .int o2]) (rest := []) hw (by rw [ho11]; exact c_X0_write l g h x t tok beh msk sec siz o10.1 o10.2 (18 : Int32) o2 ) ok_yX0_write ml_X0_76 (rm_ok (by omega) (by decide)) 0 rfl rfl rfl rfl hl.1 (Nat.le_of_ble_eq_true rfl) dX0_writeTimes_85 ⟨Nat.zero_le _, Nat.zero_le _⟩ (fun H locs hw => ?_)
  have hw : Wd g A s (w_Coder h x t g (((tok, beh), (msk, sec)), ((siz, o11.1), o11.2))) H locs := hw
  refine W.eq (g2 := F0 m 88 ls []) rfl ?_
  refine lv_aload_n hx hb dX0_writeTimes_88 rfl (lv_at hl 2 rfl) ?_
  refine lv_iload hx hb dX0_writeTimes_89 (lv_at hl 0 rfl) ?_
  obtain ⟨o12, ho12⟩ : ∃ o, o = f_X0_land o11.1 o11.2 o7.1 := ⟨_, rfl⟩
  refine hI.callV0 (wl := w_Coder h x t g) (a := (((tok, beh), (msk, sec)), ((siz, o11.1), o11.2))) (r := rb_X0_land (((tok, beh), (msk, sec)), ((siz, o11.1), o11.2)) o12) (As := [.int o7.1]) (rest := []) hw (by rw [ho12]; exact c_X0_land l g h x t tok beh msk sec siz o11.1 o11.2 o7.1 ) ok_yX0_land ml_X0_88 (rm_ok (by omega) (by decide)) 0 rfl rfl rfl rfl hl.1 (Nat.le_of_ble_eq_true rfl) dX0_writeTimes_91 ⟨Nat.zero_le _, Nat.zero_le _⟩ (fun H locs hw => ?_)
  have hw : Wd g A s (w_Coder h x t g (((tok, beh), (msk, sec)), ((siz, o12), o11.2))) H locs := hw
  refine W.eq (g2 := F0 m 94 ls []) rfl ?_
  exact hI.retV (u := (((tok, beh), (msk, sec)), ((siz, o12), o11.2))) hw (hr.trans (congrArg (rb_X0_writeTimes (((tok, beh), (msk, sec)), ((siz, kept), size))) ((show f_X0_writeTimes wSs tok beh msk sec siz kept size x1 x2 x3 = ((o12, o11.2)) from bd_of ho1 (bd_of ho2 (bd_of ho3 (bd_of ho4 (bd_of ho5 (bd_of ho6 (bd_of ho7 (bd_of ho8 (bd_of ho9 (bd_of ho10 (bd_of ho11 (bd_of ho12 (rfl)))))))))))))))) dX0_writeTimes_94
def f_X0_writeStatement (wE : (Nat → Int32) → (Nat → Int32) → (Nat → Int32) → (Nat → Int32) → Int32 → (Nat → Int32) → Int32 → Int32 → Int32 → ((Nat → Int32) × Int32)) (wSs : (Nat → Int32) → (Nat → Int32) → (Nat → Int32) → (Nat → Int32) → Int32 → (Nat → Int32) → Int32 → Int32 → Int32 → Int32 → ((Nat → Int32) × Int32)) (tok : Nat → Int32) (beh : Nat → Int32) (msk : Nat → Int32) (sec : Nat → Int32) (siz : Int32) (kept : Nat → Int32) (size : Int32) (x1 : Int32) (x2 : Int32) (x3 : Int32) : ((Nat → Int32) × Int32) := if x2 < (12 : Int32) then bd (f_X2_tokenAt tok siz x1) (fun o2 => if o2 = (1 : Int32) then bd (f_X0_writeLet wE tok beh msk sec siz kept size x1 x2) (fun o4 => ((o4.1, o4.2))) else if o2 = (2 : Int32) then bd (f_X0_writeLay wE tok beh msk sec siz kept size x1 x2) (fun o6 => ((o6.1, o6.2))) else if o2 = (3 : Int32) then bd (f_X0_writeIf wE wSs tok beh msk sec siz kept size x1 x2 x3) (fun o8 => ((o8.1, o8.2))) else if o2 = (4 : Int32) then bd (f_X2_inside tok siz x1) (fun o10 => bd (wE tok beh msk sec siz kept size o10 (x2 + (1 : Int32))) (fun o11 => bd (f_X6_add 2048 o11.1 o11.2 (20 : Int32)) (fun o12 => ((o12.1, o12.2))))) else if o2 = (5 : Int32) then bd (f_X0_writeWhile wE wSs tok beh msk sec siz kept size x1 x2 x3) (fun o14 => ((o14.1, o14.2))) else if o2 = (6 : Int32) then bd (f_X0_writeTimes wSs tok beh msk sec siz kept size x1 x2 x3) (fun o16 => ((o16.1, o16.2))) else bd (f_X2_inside tok siz x1) (fun o17 => bd (wE tok beh msk sec siz kept size o17 (x2 + (1 : Int32))) (fun o18 => bd (f_X6_add 2048 o18.1 o18.2 (20 : Int32)) (fun o19 => ((o19.1, o19.2)))))) else ((kept, size))
set_option maxHeartbeats 4000000 in
set_option maxRecDepth 100000 in
theorem c_X0_writeStatement (l : Launch) (g : GG) (h : Nat) (x : Nat → Nat) (t : Nat → Nat) (tok : Nat → Int32) (beh : Nat → Int32) (msk : Nat → Int32) (sec : Nat → Int32) (siz : Int32) (kept : Nat → Int32) (size : Int32) (wE : (Nat → Int32) → (Nat → Int32) → (Nat → Int32) → (Nat → Int32) → Int32 → (Nat → Int32) → Int32 → Int32 → Int32 → ((Nat → Int32) × Int32)) (wSs : (Nat → Int32) → (Nat → Int32) → (Nat → Int32) → (Nat → Int32) → Int32 → (Nat → Int32) → Int32 → Int32 → Int32 → Int32 → ((Nat → Int32) × Int32)) (x1 : Int32) (x2 : Int32) (x3 : Int32) (PE : Int32 → Prop) (PS : Int32 → Prop) (kM : Nat) (kL : Nat) (kE : Nat) (kS : Nat) (hk : kE + 1 ≤ kL ∧ kS + 1 ≤ kL ∧ 6 ≤ kL ∧ kL + 1 ≤ kM) (hE : ∀ (tok : Nat → Int32) (beh : Nat → Int32) (msk : Nat → Int32) (sec : Nat → Int32) (siz : Int32) (kept : Nat → Int32) (size : Int32) (y1 y2 : Int32), PE y2 → CV l g yX0_writeExpression cX0_writeExpression 8 none (rmN kE) (w_Coder h x t g) [.ref h, .int y1, .int y2] (((tok, beh), (msk, sec)), ((siz, kept), size)) (rb_X0_writeExpression (((tok, beh), (msk, sec)), ((siz, kept), size)) (wE tok beh msk sec siz kept size y1 y2))) (hSs : ∀ (tok : Nat → Int32) (beh : Nat → Int32) (msk : Nat → Int32) (sec : Nat → Int32) (siz : Int32) (kept : Nat → Int32) (size : Int32) (y1 y2 y3 : Int32), PS y2 → CV l g yX0_writeStatements cX0_writeStatements 6 none (rmN kS) (w_Coder h x t g) [.ref h, .int y1, .int y2, .int y3] (((tok, beh), (msk, sec)), ((siz, kept), size)) (rb_X0_writeStatements (((tok, beh), (msk, sec)), ((siz, kept), size)) (wSs tok beh msk sec siz kept size y1 y2 y3))) (hP : x2 < (12 : Int32) → PE (x2 + (1 : Int32)) ∧ PS (x2 + (1 : Int32))) : CV l g yX0_writeStatement cX0_writeStatement 4 none (rmN kM) (w_Coder h x t g) [.ref h, .int x1, .int x2, .int x3] (((tok, beh), (msk, sec)), ((siz, kept), size)) (rb_X0_writeStatement (((tok, beh), (msk, sec)), ((siz, kept), size)) (f_X0_writeStatement wE wSs tok beh msk sec siz kept size x1 x2 x3)) := by
  refine CV.mk (by decide) (Nat.le_of_ble_eq_true rfl) ?_
  intro p e s m below meth c A ls hI hw hl
  have hx := hI.1
  have hb := hI.2.1
  obtain ⟨r, hr⟩ : ∃ r, r = rb_X0_writeStatement (((tok, beh), (msk, sec)), ((siz, kept), size)) (f_X0_writeStatement wE wSs tok beh msk sec siz kept size x1 x2 x3) := ⟨_, rfl⟩
  rw [← hr]
  have hl : lv_has ls 4 [(0, .ref h), (1, .int x1), (2, .int x2), (3, .int x3)] := hl
  refine lv_iload_n hx hb dX0_writeStatement_0 rfl (lv_at hl 2 rfl) ?_
  refine lv_bipush (v := (12 : Int32)) hx hb dX0_writeStatement_1 (by decide) ?_
  refine lv_icmp_lt (tgt := 7) hx hb dX0_writeStatement_3 (by decide) (fun c1 => ?_) (fun c1 => ?_)
  · refine lv_aload_n hx hb dX0_writeStatement_7 rfl (lv_at hl 0 rfl) ?_
    refine hI.get (v := .ref (x 0)) hw fg_X0_9 0 rfl rfl dX0_writeStatement_8 ?_
    refine lv_iload_n hx hb dX0_writeStatement_11 rfl (lv_at hl 1 rfl) ?_
    obtain ⟨o2, ho2⟩ : ∃ o, o = f_X2_tokenAt tok siz x1 := ⟨_, rfl⟩
    refine hI.callI (wl := w_Prog x g) (a := (((tok, beh), msk), (sec, siz))) (wr := [(h, .inr (0, [.ref (x 0), .ref (t 0)])), (t 0, .inr (5, [.ref (t 1), .int size])), (t 1, .inl (g.2.1, 2048, .inl kept))]) (ws1 := w_Coder h x t g (((tok, beh), (msk, sec)), ((siz, kept), size))) (r := rb_X2_tokenAt (((tok, beh), msk), (sec, siz)) o2) (As := [.int x1]) (rest := []) hw (by rw [ho2]; exact c_X2_tokenAt l g x tok beh msk sec siz x1 ) ok_yX2_tokenAt ml_X0_45 (rm_ok (by omega) (by decide)) [1, 2, 3, 4, 5] [0, 6, 7] [0, 3, 4, 5, 6, 7, 1, 2] rfl rfl rfl rfl rfl 0 rfl rfl rfl rfl hl.1 (Nat.le_of_ble_eq_true rfl) dX0_writeStatement_12 ⟨Nat.zero_le _, Nat.zero_le _⟩ (fun H locs hw => ?_)
    have hw : Wd g A s (w_Coder h x t g (((tok, beh), (msk, sec)), ((siz, kept), size))) H locs := hw
    refine W.eq (g2 := F0 m 15 ls [.int o2]) rfl ?_
    by_cases c3 : o2 = (1 : Int32)
    · refine lv_tableIn (tgt := 52) hx hb dX0_writeStatement_15 (by rw [c3]; decide) (by rw [c3]; decide) (by rw [c3]; rfl) (by decide) ?_
      refine lv_aload_n hx hb dX0_writeStatement_52 rfl (lv_at hl 0 rfl) ?_
      refine lv_iload_n hx hb dX0_writeStatement_53 rfl (lv_at hl 1 rfl) ?_
      refine lv_iload_n hx hb dX0_writeStatement_54 rfl (lv_at hl 2 rfl) ?_
      obtain ⟨o4, ho4⟩ : ∃ o, o = f_X0_writeLet wE tok beh msk sec siz kept size x1 x2 := ⟨_, rfl⟩
      refine hI.callV0 (wl := w_Coder h x t g) (a := (((tok, beh), (msk, sec)), ((siz, kept), size))) (r := rb_X0_writeLet (((tok, beh), (msk, sec)), ((siz, kept), size)) o4) (As := [.int x1, .int x2]) (rest := []) hw (by rw [ho4]; exact c_X0_writeLet l g h x t tok beh msk sec siz kept size wE x1 x2 PE PS kL kE kS (by omega) hE (hP c1)) ok_yX0_writeLet ml_X0_48 (rm_ok (by omega) (by decide)) 0 rfl rfl rfl rfl hl.1 (Nat.le_of_ble_eq_true rfl) dX0_writeStatement_55 ⟨Nat.zero_le _, Nat.zero_le _⟩ (fun H locs hw => ?_)
      have hw : Wd g A s (w_Coder h x t g (((tok, beh), (msk, sec)), ((siz, o4.1), o4.2))) H locs := hw
      refine W.eq (g2 := F0 m 58 ls []) rfl ?_
      refine lv_goto (tgt := 124) hx hb dX0_writeStatement_58 (by decide) ?_
      exact hI.retV (u := (((tok, beh), (msk, sec)), ((siz, o4.1), o4.2))) hw (hr.trans (congrArg (rb_X0_writeStatement (((tok, beh), (msk, sec)), ((siz, kept), size))) ((show f_X0_writeStatement wE wSs tok beh msk sec siz kept size x1 x2 x3 = ((o4.1, o4.2)) from it_t c1 (bd_of ho2 (it_t c3 (bd_of ho4 (rfl)))))))) dX0_writeStatement_124
    by_cases c5 : o2 = (2 : Int32)
    · refine lv_tableIn (tgt := 61) hx hb dX0_writeStatement_15 (by rw [c5]; decide) (by rw [c5]; decide) (by rw [c5]; rfl) (by decide) ?_
      refine lv_aload_n hx hb dX0_writeStatement_61 rfl (lv_at hl 0 rfl) ?_
      refine lv_iload_n hx hb dX0_writeStatement_62 rfl (lv_at hl 1 rfl) ?_
      refine lv_iload_n hx hb dX0_writeStatement_63 rfl (lv_at hl 2 rfl) ?_
      obtain ⟨o6, ho6⟩ : ∃ o, o = f_X0_writeLay wE tok beh msk sec siz kept size x1 x2 := ⟨_, rfl⟩
      refine hI.callV0 (wl := w_Coder h x t g) (a := (((tok, beh), (msk, sec)), ((siz, kept), size))) (r := rb_X0_writeLay (((tok, beh), (msk, sec)), ((siz, kept), size)) o6) (As := [.int x1, .int x2]) (rest := []) hw (by rw [ho6]; exact c_X0_writeLay l g h x t tok beh msk sec siz kept size wE x1 x2 PE PS kL kE kS (by omega) hE (hP c1)) ok_yX0_writeLay ml_X0_52 (rm_ok (by omega) (by decide)) 0 rfl rfl rfl rfl hl.1 (Nat.le_of_ble_eq_true rfl) dX0_writeStatement_64 ⟨Nat.zero_le _, Nat.zero_le _⟩ (fun H locs hw => ?_)
      have hw : Wd g A s (w_Coder h x t g (((tok, beh), (msk, sec)), ((siz, o6.1), o6.2))) H locs := hw
      refine W.eq (g2 := F0 m 67 ls []) rfl ?_
      refine lv_goto (tgt := 124) hx hb dX0_writeStatement_67 (by decide) ?_
      exact hI.retV (u := (((tok, beh), (msk, sec)), ((siz, o6.1), o6.2))) hw (hr.trans (congrArg (rb_X0_writeStatement (((tok, beh), (msk, sec)), ((siz, kept), size))) ((show f_X0_writeStatement wE wSs tok beh msk sec siz kept size x1 x2 x3 = ((o6.1, o6.2)) from it_t c1 (bd_of ho2 (it_f c3 (it_t c5 (bd_of ho6 (rfl))))))))) dX0_writeStatement_124
    by_cases c7 : o2 = (3 : Int32)
    · refine lv_tableIn (tgt := 70) hx hb dX0_writeStatement_15 (by rw [c7]; decide) (by rw [c7]; decide) (by rw [c7]; rfl) (by decide) ?_
      refine lv_aload_n hx hb dX0_writeStatement_70 rfl (lv_at hl 0 rfl) ?_
      refine lv_iload_n hx hb dX0_writeStatement_71 rfl (lv_at hl 1 rfl) ?_
      refine lv_iload_n hx hb dX0_writeStatement_72 rfl (lv_at hl 2 rfl) ?_
      refine lv_iload_n hx hb dX0_writeStatement_73 rfl (lv_at hl 3 rfl) ?_
      obtain ⟨o8, ho8⟩ : ∃ o, o = f_X0_writeIf wE wSs tok beh msk sec siz kept size x1 x2 x3 := ⟨_, rfl⟩
      refine hI.callV0 (wl := w_Coder h x t g) (a := (((tok, beh), (msk, sec)), ((siz, kept), size))) (r := rb_X0_writeIf (((tok, beh), (msk, sec)), ((siz, kept), size)) o8) (As := [.int x1, .int x2, .int x3]) (rest := []) hw (by rw [ho8]; exact c_X0_writeIf l g h x t tok beh msk sec siz kept size wE wSs x1 x2 x3 PE PS kL kE kS (by omega) hE hSs (hP c1)) ok_yX0_writeIf ml_X0_55 (rm_ok (by omega) (by decide)) 0 rfl rfl rfl rfl hl.1 (Nat.le_of_ble_eq_true rfl) dX0_writeStatement_74 ⟨Nat.zero_le _, Nat.zero_le _⟩ (fun H locs hw => ?_)
      have hw : Wd g A s (w_Coder h x t g (((tok, beh), (msk, sec)), ((siz, o8.1), o8.2))) H locs := hw
      refine W.eq (g2 := F0 m 77 ls []) rfl ?_
      refine lv_goto (tgt := 124) hx hb dX0_writeStatement_77 (by decide) ?_
      exact hI.retV (u := (((tok, beh), (msk, sec)), ((siz, o8.1), o8.2))) hw (hr.trans (congrArg (rb_X0_writeStatement (((tok, beh), (msk, sec)), ((siz, kept), size))) ((show f_X0_writeStatement wE wSs tok beh msk sec siz kept size x1 x2 x3 = ((o8.1, o8.2)) from it_t c1 (bd_of ho2 (it_f c3 (it_f c5 (it_t c7 (bd_of ho8 (rfl)))))))))) dX0_writeStatement_124
    by_cases c9 : o2 = (4 : Int32)
    · refine lv_tableIn (tgt := 100) hx hb dX0_writeStatement_15 (by rw [c9]; decide) (by rw [c9]; decide) (by rw [c9]; rfl) (by decide) ?_
      refine lv_aload_n hx hb dX0_writeStatement_100 rfl (lv_at hl 0 rfl) ?_
      refine lv_aload_n hx hb dX0_writeStatement_101 rfl (lv_at hl 0 rfl) ?_
      refine hI.get (v := .ref (x 0)) hw fg_X0_9 0 rfl rfl dX0_writeStatement_102 ?_
      refine lv_iload_n hx hb dX0_writeStatement_105 rfl (lv_at hl 1 rfl) ?_
      obtain ⟨o10, ho10⟩ : ∃ o, o = f_X2_inside tok siz x1 := ⟨_, rfl⟩
      refine hI.callI (wl := w_Prog x g) (a := (((tok, beh), msk), (sec, siz))) (wr := [(h, .inr (0, [.ref (x 0), .ref (t 0)])), (t 0, .inr (5, [.ref (t 1), .int size])), (t 1, .inl (g.2.1, 2048, .inl kept))]) (ws1 := w_Coder h x t g (((tok, beh), (msk, sec)), ((siz, kept), size))) (r := rb_X2_inside (((tok, beh), msk), (sec, siz)) o10) (As := [.int x1]) (rest := [.ref h]) hw (by rw [ho10]; exact c_X2_inside l g x tok beh msk sec siz x1 ) ok_yX2_inside ml_X0_64 (rm_ok (by omega) (by decide)) [1, 2, 3, 4, 5] [0, 6, 7] [0, 3, 4, 5, 6, 7, 1, 2] rfl rfl rfl rfl rfl 0 rfl rfl rfl rfl hl.1 (Nat.le_of_ble_eq_true rfl) dX0_writeStatement_106 ⟨Nat.zero_le _, Nat.zero_le _⟩ (fun H locs hw => ?_)
      have hw : Wd g A s (w_Coder h x t g (((tok, beh), (msk, sec)), ((siz, kept), size))) H locs := hw
      refine W.eq (g2 := F0 m 109 ls [.int o10, .ref h]) rfl ?_
      refine lv_iload_n hx hb dX0_writeStatement_109 rfl (lv_at hl 2 rfl) ?_
      refine lv_iconst (v := (1 : Int32)) hx hb dX0_writeStatement_110 (by decide) ?_
      refine lv_iadd hx hb dX0_writeStatement_111 ?_
      obtain ⟨o11, ho11⟩ : ∃ o, o = wE tok beh msk sec siz kept size o10 (x2 + (1 : Int32)) := ⟨_, rfl⟩
      refine hI.callV0 (wl := w_Coder h x t g) (a := (((tok, beh), (msk, sec)), ((siz, kept), size))) (r := rb_X0_writeExpression (((tok, beh), (msk, sec)), ((siz, kept), size)) o11) (As := [.int o10, .int (x2 + (1 : Int32))]) (rest := []) hw (by rw [ho11]; exact hE tok beh msk sec siz kept size o10 (x2 + (1 : Int32)) (hP c1).1) ok_yX0_writeExpression ml_X0_67 (rm_ok (by omega) (by decide)) 0 rfl rfl rfl rfl hl.1 (Nat.le_of_ble_eq_true rfl) dX0_writeStatement_112 ⟨Nat.zero_le _, Nat.zero_le _⟩ (fun H locs hw => ?_)
      have hw : Wd g A s (w_Coder h x t g (((tok, beh), (msk, sec)), ((siz, o11.1), o11.2))) H locs := hw
      refine W.eq (g2 := F0 m 115 ls []) rfl ?_
      refine lv_aload_n hx hb dX0_writeStatement_115 rfl (lv_at hl 0 rfl) ?_
      refine hI.get (v := .ref (t 0)) hw fg_X0_15 0 rfl rfl dX0_writeStatement_116 ?_
      refine lv_bipush (v := (20 : Int32)) hx hb dX0_writeStatement_119 (by decide) ?_
      obtain ⟨o12, ho12⟩ : ∃ o, o = f_X6_add 2048 o11.1 o11.2 (20 : Int32) := ⟨_, rfl⟩
      refine hI.callV (wl := w_Tape t 2048 g) (a := (o11.1, o11.2)) (wr := [(h, .inr (0, [.ref (x 0), .ref (t 0)])), (x 0, .inr (2, [.ref (x 1), .ref (x 2), .ref (x 3), .ref (x 4), .int siz])), (x 1, .inl (g.2.1, 400, .inl tok)), (x 2, .inl (g.2.1, 400, .inl beh)), (x 3, .inl (g.2.1, 400, .inl msk)), (x 4, .inl (g.2.2, 400, .inl sec))]) (ws1 := w_Coder h x t g (((tok, beh), (msk, sec)), ((siz, o12.1), o12.2))) (r := rb_X6_add (o11.1, o11.2) o12) (As := [.int (20 : Int32)]) (rest := []) hw (by rw [ho12]; exact c_X6_add l g t 2048 o11.1 o11.2 (20 : Int32) (by decide)) ok_yX6_add ml_X0_28 (rm_ok (by omega) (by decide)) [6, 7] [0, 1, 2, 3, 4, 5] [0, 1, 2, 3, 4, 5, 6, 7] rfl rfl rfl rfl rfl 0 rfl rfl rfl rfl hl.1 (Nat.le_of_ble_eq_true rfl) dX0_writeStatement_121 ⟨Nat.zero_le _, Nat.zero_le _⟩ (fun H locs hw => ?_)
      have hw : Wd g A s (w_Coder h x t g (((tok, beh), (msk, sec)), ((siz, o12.1), o12.2))) H locs := hw
      refine W.eq (g2 := F0 m 124 ls []) rfl ?_
      exact hI.retV (u := (((tok, beh), (msk, sec)), ((siz, o12.1), o12.2))) hw (hr.trans (congrArg (rb_X0_writeStatement (((tok, beh), (msk, sec)), ((siz, kept), size))) ((show f_X0_writeStatement wE wSs tok beh msk sec siz kept size x1 x2 x3 = ((o12.1, o12.2)) from it_t c1 (bd_of ho2 (it_f c3 (it_f c5 (it_f c7 (it_t c9 (bd_of ho10 (bd_of ho11 (bd_of ho12 (rfl))))))))))))) dX0_writeStatement_124
    by_cases c13 : o2 = (5 : Int32)
    · refine lv_tableIn (tgt := 80) hx hb dX0_writeStatement_15 (by rw [c13]; decide) (by rw [c13]; decide) (by rw [c13]; rfl) (by decide) ?_
      refine lv_aload_n hx hb dX0_writeStatement_80 rfl (lv_at hl 0 rfl) ?_
      refine lv_iload_n hx hb dX0_writeStatement_81 rfl (lv_at hl 1 rfl) ?_
      refine lv_iload_n hx hb dX0_writeStatement_82 rfl (lv_at hl 2 rfl) ?_
      refine lv_iload_n hx hb dX0_writeStatement_83 rfl (lv_at hl 3 rfl) ?_
      obtain ⟨o14, ho14⟩ : ∃ o, o = f_X0_writeWhile wE wSs tok beh msk sec siz kept size x1 x2 x3 := ⟨_, rfl⟩
      refine hI.callV0 (wl := w_Coder h x t g) (a := (((tok, beh), (msk, sec)), ((siz, kept), size))) (r := rb_X0_writeWhile (((tok, beh), (msk, sec)), ((siz, kept), size)) o14) (As := [.int x1, .int x2, .int x3]) (rest := []) hw (by rw [ho14]; exact c_X0_writeWhile l g h x t tok beh msk sec siz kept size wE wSs x1 x2 x3 PE PS kL kE kS (by omega) hE hSs (hP c1)) ok_yX0_writeWhile ml_X0_58 (rm_ok (by omega) (by decide)) 0 rfl rfl rfl rfl hl.1 (Nat.le_of_ble_eq_true rfl) dX0_writeStatement_84 ⟨Nat.zero_le _, Nat.zero_le _⟩ (fun H locs hw => ?_)
      have hw : Wd g A s (w_Coder h x t g (((tok, beh), (msk, sec)), ((siz, o14.1), o14.2))) H locs := hw
      refine W.eq (g2 := F0 m 87 ls []) rfl ?_
      refine lv_goto (tgt := 124) hx hb dX0_writeStatement_87 (by decide) ?_
      exact hI.retV (u := (((tok, beh), (msk, sec)), ((siz, o14.1), o14.2))) hw (hr.trans (congrArg (rb_X0_writeStatement (((tok, beh), (msk, sec)), ((siz, kept), size))) ((show f_X0_writeStatement wE wSs tok beh msk sec siz kept size x1 x2 x3 = ((o14.1, o14.2)) from it_t c1 (bd_of ho2 (it_f c3 (it_f c5 (it_f c7 (it_f c9 (it_t c13 (bd_of ho14 (rfl)))))))))))) dX0_writeStatement_124
    by_cases c15 : o2 = (6 : Int32)
    · refine lv_tableIn (tgt := 90) hx hb dX0_writeStatement_15 (by rw [c15]; decide) (by rw [c15]; decide) (by rw [c15]; rfl) (by decide) ?_
      refine lv_aload_n hx hb dX0_writeStatement_90 rfl (lv_at hl 0 rfl) ?_
      refine lv_iload_n hx hb dX0_writeStatement_91 rfl (lv_at hl 1 rfl) ?_
      refine lv_iload_n hx hb dX0_writeStatement_92 rfl (lv_at hl 2 rfl) ?_
      refine lv_iload_n hx hb dX0_writeStatement_93 rfl (lv_at hl 3 rfl) ?_
      obtain ⟨o16, ho16⟩ : ∃ o, o = f_X0_writeTimes wSs tok beh msk sec siz kept size x1 x2 x3 := ⟨_, rfl⟩
      refine hI.callV0 (wl := w_Coder h x t g) (a := (((tok, beh), (msk, sec)), ((siz, kept), size))) (r := rb_X0_writeTimes (((tok, beh), (msk, sec)), ((siz, kept), size)) o16) (As := [.int x1, .int x2, .int x3]) (rest := []) hw (by rw [ho16]; exact c_X0_writeTimes l g h x t tok beh msk sec siz kept size wSs x1 x2 x3 PE PS kL kE kS (by omega) hSs (hP c1)) ok_yX0_writeTimes ml_X0_61 (rm_ok (by omega) (by decide)) 0 rfl rfl rfl rfl hl.1 (Nat.le_of_ble_eq_true rfl) dX0_writeStatement_94 ⟨Nat.zero_le _, Nat.zero_le _⟩ (fun H locs hw => ?_)
      have hw : Wd g A s (w_Coder h x t g (((tok, beh), (msk, sec)), ((siz, o16.1), o16.2))) H locs := hw
      refine W.eq (g2 := F0 m 97 ls []) rfl ?_
      refine lv_goto (tgt := 124) hx hb dX0_writeStatement_97 (by decide) ?_
      exact hI.retV (u := (((tok, beh), (msk, sec)), ((siz, o16.1), o16.2))) hw (hr.trans (congrArg (rb_X0_writeStatement (((tok, beh), (msk, sec)), ((siz, kept), size))) ((show f_X0_writeStatement wE wSs tok beh msk sec siz kept size x1 x2 x3 = ((o16.1, o16.2)) from it_t c1 (bd_of ho2 (it_f c3 (it_f c5 (it_f c7 (it_f c9 (it_f c13 (it_t c15 (bd_of ho16 (rfl))))))))))))) dX0_writeStatement_124
    refine lv_tableOut (tgt := 100) hx hb dX0_writeStatement_15 (by have qc3 := lv_neT c3 (show ((1 : Int32)).toInt = 1 by decide); have qc5 := lv_neT c5 (show ((2 : Int32)).toInt = 2 by decide); have qc7 := lv_neT c7 (show ((3 : Int32)).toInt = 3 by decide); have qc9 := lv_neT c9 (show ((4 : Int32)).toInt = 4 by decide); have qc13 := lv_neT c13 (show ((5 : Int32)).toInt = 5 by decide); have qc15 := lv_neT c15 (show ((6 : Int32)).toInt = 6 by decide); omega) (by decide) ?_
    refine lv_aload_n hx hb dX0_writeStatement_100 rfl (lv_at hl 0 rfl) ?_
    refine lv_aload_n hx hb dX0_writeStatement_101 rfl (lv_at hl 0 rfl) ?_
    refine hI.get (v := .ref (x 0)) hw fg_X0_9 0 rfl rfl dX0_writeStatement_102 ?_
    refine lv_iload_n hx hb dX0_writeStatement_105 rfl (lv_at hl 1 rfl) ?_
    obtain ⟨o17, ho17⟩ : ∃ o, o = f_X2_inside tok siz x1 := ⟨_, rfl⟩
    refine hI.callI (wl := w_Prog x g) (a := (((tok, beh), msk), (sec, siz))) (wr := [(h, .inr (0, [.ref (x 0), .ref (t 0)])), (t 0, .inr (5, [.ref (t 1), .int size])), (t 1, .inl (g.2.1, 2048, .inl kept))]) (ws1 := w_Coder h x t g (((tok, beh), (msk, sec)), ((siz, kept), size))) (r := rb_X2_inside (((tok, beh), msk), (sec, siz)) o17) (As := [.int x1]) (rest := [.ref h]) hw (by rw [ho17]; exact c_X2_inside l g x tok beh msk sec siz x1 ) ok_yX2_inside ml_X0_64 (rm_ok (by omega) (by decide)) [1, 2, 3, 4, 5] [0, 6, 7] [0, 3, 4, 5, 6, 7, 1, 2] rfl rfl rfl rfl rfl 0 rfl rfl rfl rfl hl.1 (Nat.le_of_ble_eq_true rfl) dX0_writeStatement_106 ⟨Nat.zero_le _, Nat.zero_le _⟩ (fun H locs hw => ?_)
    have hw : Wd g A s (w_Coder h x t g (((tok, beh), (msk, sec)), ((siz, kept), size))) H locs := hw
    refine W.eq (g2 := F0 m 109 ls [.int o17, .ref h]) rfl ?_
    refine lv_iload_n hx hb dX0_writeStatement_109 rfl (lv_at hl 2 rfl) ?_
    refine lv_iconst (v := (1 : Int32)) hx hb dX0_writeStatement_110 (by decide) ?_
    refine lv_iadd hx hb dX0_writeStatement_111 ?_
    obtain ⟨o18, ho18⟩ : ∃ o, o = wE tok beh msk sec siz kept size o17 (x2 + (1 : Int32)) := ⟨_, rfl⟩
    refine hI.callV0 (wl := w_Coder h x t g) (a := (((tok, beh), (msk, sec)), ((siz, kept), size))) (r := rb_X0_writeExpression (((tok, beh), (msk, sec)), ((siz, kept), size)) o18) (As := [.int o17, .int (x2 + (1 : Int32))]) (rest := []) hw (by rw [ho18]; exact hE tok beh msk sec siz kept size o17 (x2 + (1 : Int32)) (hP c1).1) ok_yX0_writeExpression ml_X0_67 (rm_ok (by omega) (by decide)) 0 rfl rfl rfl rfl hl.1 (Nat.le_of_ble_eq_true rfl) dX0_writeStatement_112 ⟨Nat.zero_le _, Nat.zero_le _⟩ (fun H locs hw => ?_)
    have hw : Wd g A s (w_Coder h x t g (((tok, beh), (msk, sec)), ((siz, o18.1), o18.2))) H locs := hw
    refine W.eq (g2 := F0 m 115 ls []) rfl ?_
    refine lv_aload_n hx hb dX0_writeStatement_115 rfl (lv_at hl 0 rfl) ?_
    refine hI.get (v := .ref (t 0)) hw fg_X0_15 0 rfl rfl dX0_writeStatement_116 ?_
    refine lv_bipush (v := (20 : Int32)) hx hb dX0_writeStatement_119 (by decide) ?_
    obtain ⟨o19, ho19⟩ : ∃ o, o = f_X6_add 2048 o18.1 o18.2 (20 : Int32) := ⟨_, rfl⟩
    refine hI.callV (wl := w_Tape t 2048 g) (a := (o18.1, o18.2)) (wr := [(h, .inr (0, [.ref (x 0), .ref (t 0)])), (x 0, .inr (2, [.ref (x 1), .ref (x 2), .ref (x 3), .ref (x 4), .int siz])), (x 1, .inl (g.2.1, 400, .inl tok)), (x 2, .inl (g.2.1, 400, .inl beh)), (x 3, .inl (g.2.1, 400, .inl msk)), (x 4, .inl (g.2.2, 400, .inl sec))]) (ws1 := w_Coder h x t g (((tok, beh), (msk, sec)), ((siz, o19.1), o19.2))) (r := rb_X6_add (o18.1, o18.2) o19) (As := [.int (20 : Int32)]) (rest := []) hw (by rw [ho19]; exact c_X6_add l g t 2048 o18.1 o18.2 (20 : Int32) (by decide)) ok_yX6_add ml_X0_28 (rm_ok (by omega) (by decide)) [6, 7] [0, 1, 2, 3, 4, 5] [0, 1, 2, 3, 4, 5, 6, 7] rfl rfl rfl rfl rfl 0 rfl rfl rfl rfl hl.1 (Nat.le_of_ble_eq_true rfl) dX0_writeStatement_121 ⟨Nat.zero_le _, Nat.zero_le _⟩ (fun H locs hw => ?_)
    have hw : Wd g A s (w_Coder h x t g (((tok, beh), (msk, sec)), ((siz, o19.1), o19.2))) H locs := hw
    refine W.eq (g2 := F0 m 124 ls []) rfl ?_
    exact hI.retV (u := (((tok, beh), (msk, sec)), ((siz, o19.1), o19.2))) hw (hr.trans (congrArg (rb_X0_writeStatement (((tok, beh), (msk, sec)), ((siz, kept), size))) ((show f_X0_writeStatement wE wSs tok beh msk sec siz kept size x1 x2 x3 = ((o19.1, o19.2)) from it_t c1 (bd_of ho2 (it_f c3 (it_f c5 (it_f c7 (it_f c9 (it_f c13 (it_f c15 (bd_of ho17 (bd_of ho18 (bd_of ho19 (rfl))))))))))))))) dX0_writeStatement_124
  · exact hI.retV (u := (((tok, beh), (msk, sec)), ((siz, kept), size))) hw (hr.trans (congrArg (rb_X0_writeStatement (((tok, beh), (msk, sec)), ((siz, kept), size))) ((show f_X0_writeStatement wE wSs tok beh msk sec siz kept size x1 x2 x3 = ((kept, size)) from it_f c1 (rfl))))) dX0_writeStatement_6
def f_X0_writeStatements_6 (wS : (Nat → Int32) → (Nat → Int32) → (Nat → Int32) → (Nat → Int32) → Int32 → (Nat → Int32) → Int32 → Int32 → Int32 → Int32 → ((Nat → Int32) × Int32)) (tok : Nat → Int32) (beh : Nat → Int32) (msk : Nat → Int32) (sec : Nat → Int32) (siz : Int32) : Nat → (Nat → Int32) → Int32 → Int32 → Int32 → Int32 → Int32 → ((Nat → Int32) × Int32)
  | 0, kept, size, y2, y3, y4, y5 => ((kept, size))
  | k + 1, kept, size, y2, y3, y4, y5 => if (400 : Int32) ≤ y5 then ((kept, size)) else bd (f_X2_begins beh siz y4) (fun o2 => if o2 = 0 then ((kept, size)) else bd (wS tok beh msk sec siz kept size y4 y2 y3) (fun o4 => bd (f_X2_behind beh siz y4) (fun o5 => f_X0_writeStatements_6 wS tok beh msk sec siz k o4.1 o4.2 y2 y3 o5 (y5 + (1 : Int32)))))
def f_X0_writeStatements (wS : (Nat → Int32) → (Nat → Int32) → (Nat → Int32) → (Nat → Int32) → Int32 → (Nat → Int32) → Int32 → Int32 → Int32 → Int32 → ((Nat → Int32) × Int32)) (tok : Nat → Int32) (beh : Nat → Int32) (msk : Nat → Int32) (sec : Nat → Int32) (siz : Int32) (kept : Nat → Int32) (size : Int32) (x1 : Int32) (x2 : Int32) (x3 : Int32) : ((Nat → Int32) × Int32) := f_X0_writeStatements_6 wS tok beh msk sec siz 401 kept size x2 x3 x1 (0 : Int32)
set_option maxHeartbeats 4000000 in
set_option maxRecDepth 100000 in
theorem lp_X0_writeStatements_6 (l : Launch) (g : GG) (h : Nat) (x : Nat → Nat) (t : Nat → Nat) (tok : Nat → Int32) (beh : Nat → Int32) (msk : Nat → Int32) (sec : Nat → Int32) (siz : Int32) (kept₀ : Nat → Int32) (size₀ : Int32) (wS : (Nat → Int32) → (Nat → Int32) → (Nat → Int32) → (Nat → Int32) → Int32 → (Nat → Int32) → Int32 → Int32 → Int32 → Int32 → ((Nat → Int32) × Int32)) (PT : Int32 → Prop) (kM : Nat) (kT : Nat) (hk : kT + 1 ≤ kM ∧ 6 ≤ kM) (hS : ∀ (tok : Nat → Int32) (beh : Nat → Int32) (msk : Nat → Int32) (sec : Nat → Int32) (siz : Int32) (kept : Nat → Int32) (size : Int32) (y1 y2 y3 : Int32), PT y2 → CV l g yX0_writeStatement cX0_writeStatement 4 none (rmN kT) (w_Coder h x t g) [.ref h, .int y1, .int y2, .int y3] (((tok, beh), (msk, sec)), ((siz, kept), size)) (rb_X0_writeStatement (((tok, beh), (msk, sec)), ((siz, kept), size)) (wS tok beh msk sec siz kept size y1 y2 y3)))  {p : Program} {e : Env} {s : State} {m : MethodId} {args : Array Value} {below : List Frame} {meth : Method} {c : Code} {A : Nat → Prop} (hI : InM p s m args meth c RX0 cX0_writeStatements 6 none g A) : ∀ (k : Nat) (kept : Nat → Int32) (size : Int32) (y2 : Int32) (y3 : Int32) (y4 : Int32) (y5 : Int32), (cnt 400 k y5 ∧ PT y2) → ∀ (r : S_Coder), r = rb_X0_writeStatements (((tok, beh), (msk, sec)), ((siz, kept₀), size₀)) (f_X0_writeStatements_6 wS tok beh msk sec siz k kept size y2 y3 y4 y5) → ∀ (H : Heap) (locs : List Loc), Wd g A s (w_Coder h x t g (((tok, beh), (msk, sec)), ((siz, kept), size))) H locs → ∀ (ls : Array Slot), lv_has ls 6 [(0, .ref h), (2, .int y2), (3, .int y3), (4, .int y4), (5, .int y5)] → W p l e (rmN kM) s m args below meth c H locs 0 0 (QV g (w_Coder h x t g) A r below args s) (F0 m 6 ls []) := by
  have hx := hI.1
  have hb := hI.2.1
  intro k
  induction k with
  | zero =>
    intro kept size y2 y3 y4 y5 hc
    exact absurd hc.1 cnt_n
  | succ k ih =>
    intro kept size y2 y3 y4 y5 hc r hr H locs hw ls hl
    refine lv_iload hx hb dX0_writeStatements_6 (lv_at hl 4 rfl) ?_
    refine lv_sipush (v := (400 : Int32)) hx hb dX0_writeStatements_8 (by decide) ?_
    refine lv_icmp_ge (tgt := 51) hx hb dX0_writeStatements_11 (by decide) (fun c1 => ?_) (fun c1 => ?_)
    · exact hI.retV (u := (((tok, beh), (msk, sec)), ((siz, kept), size))) hw (hr.trans (congrArg (rb_X0_writeStatements (((tok, beh), (msk, sec)), ((siz, kept₀), size₀))) ((show f_X0_writeStatements_6 wS tok beh msk sec siz (k + 1) kept size y2 y3 y4 y5 = ((kept, size)) from it_t c1 (rfl))))) dX0_writeStatements_51
    · refine lv_aload_n hx hb dX0_writeStatements_14 rfl (lv_at hl 0 rfl) ?_
      refine hI.get (v := .ref (x 0)) hw fg_X0_9 0 rfl rfl dX0_writeStatements_15 ?_
      refine lv_iload hx hb dX0_writeStatements_18 (lv_at hl 3 rfl) ?_
      obtain ⟨o2, ho2⟩ : ∃ o, o = f_X2_begins beh siz y4 := ⟨_, rfl⟩
      refine hI.callI (wl := w_Prog x g) (a := (((tok, beh), msk), (sec, siz))) (wr := [(h, .inr (0, [.ref (x 0), .ref (t 0)])), (t 0, .inr (5, [.ref (t 1), .int size])), (t 1, .inl (g.2.1, 2048, .inl kept))]) (ws1 := w_Coder h x t g (((tok, beh), (msk, sec)), ((siz, kept), size))) (r := rb_X2_begins (((tok, beh), msk), (sec, siz)) o2) (As := [.int y4]) (rest := []) hw (by rw [ho2]; exact c_X2_begins l g x tok beh msk sec siz y4 ) ok_yX2_begins ml_X0_32 (rm_ok (by omega) (by decide)) [1, 2, 3, 4, 5] [0, 6, 7] [0, 3, 4, 5, 6, 7, 1, 2] rfl rfl rfl rfl rfl 0 rfl rfl rfl rfl hl.1 (Nat.le_of_ble_eq_true rfl) dX0_writeStatements_20 ⟨Nat.zero_le _, Nat.zero_le _⟩ (fun H locs hw => ?_)
      have hw : Wd g A s (w_Coder h x t g (((tok, beh), (msk, sec)), ((siz, kept), size))) H locs := hw
      refine W.eq (g2 := F0 m 23 ls [.int o2]) rfl ?_
      refine lv_if_eq (tgt := 51) hx hb dX0_writeStatements_23 (by decide) (fun c3 => ?_) (fun c3 => ?_)
      · exact hI.retV (u := (((tok, beh), (msk, sec)), ((siz, kept), size))) hw (hr.trans (congrArg (rb_X0_writeStatements (((tok, beh), (msk, sec)), ((siz, kept₀), size₀))) ((show f_X0_writeStatements_6 wS tok beh msk sec siz (k + 1) kept size y2 y3 y4 y5 = ((kept, size)) from it_f c1 (bd_of ho2 (it_t c3 (rfl))))))) dX0_writeStatements_51
      · refine lv_aload_n hx hb dX0_writeStatements_26 rfl (lv_at hl 0 rfl) ?_
        refine lv_iload hx hb dX0_writeStatements_27 (lv_at hl 3 rfl) ?_
        refine lv_iload_n hx hb dX0_writeStatements_29 rfl (lv_at hl 1 rfl) ?_
        refine lv_iload_n hx hb dX0_writeStatements_30 rfl (lv_at hl 2 rfl) ?_
        obtain ⟨o4, ho4⟩ : ∃ o, o = wS tok beh msk sec siz kept size y4 y2 y3 := ⟨_, rfl⟩
        refine hI.callV0 (wl := w_Coder h x t g) (a := (((tok, beh), (msk, sec)), ((siz, kept), size))) (r := rb_X0_writeStatement (((tok, beh), (msk, sec)), ((siz, kept), size)) o4) (As := [.int y4, .int y2, .int y3]) (rest := []) hw (by rw [ho4]; exact hS tok beh msk sec siz kept size y4 y2 y3 hc.2) ok_yX0_writeStatement ml_X0_38 (rm_ok (by omega) (by decide)) 0 rfl rfl rfl rfl hl.1 (Nat.le_of_ble_eq_true rfl) dX0_writeStatements_31 ⟨Nat.zero_le _, Nat.zero_le _⟩ (fun H locs hw => ?_)
        have hw : Wd g A s (w_Coder h x t g (((tok, beh), (msk, sec)), ((siz, o4.1), o4.2))) H locs := hw
        refine W.eq (g2 := F0 m 34 ls []) rfl ?_
        refine lv_aload_n hx hb dX0_writeStatements_34 rfl (lv_at hl 0 rfl) ?_
        refine hI.get (v := .ref (x 0)) hw fg_X0_9 0 rfl rfl dX0_writeStatements_35 ?_
        refine lv_iload hx hb dX0_writeStatements_38 (lv_at hl 3 rfl) ?_
        obtain ⟨o5, ho5⟩ : ∃ o, o = f_X2_behind beh siz y4 := ⟨_, rfl⟩
        refine hI.callI (wl := w_Prog x g) (a := (((tok, beh), msk), (sec, siz))) (wr := [(h, .inr (0, [.ref (x 0), .ref (t 0)])), (t 0, .inr (5, [.ref (t 1), .int o4.2])), (t 1, .inl (g.2.1, 2048, .inl o4.1))]) (ws1 := w_Coder h x t g (((tok, beh), (msk, sec)), ((siz, o4.1), o4.2))) (r := rb_X2_behind (((tok, beh), msk), (sec, siz)) o5) (As := [.int y4]) (rest := []) hw (by rw [ho5]; exact c_X2_behind l g x tok beh msk sec siz y4 ) ok_yX2_behind ml_X0_41 (rm_ok (by omega) (by decide)) [1, 2, 3, 4, 5] [0, 6, 7] [0, 3, 4, 5, 6, 7, 1, 2] rfl rfl rfl rfl rfl 0 rfl rfl rfl rfl hl.1 (Nat.le_of_ble_eq_true rfl) dX0_writeStatements_40 ⟨Nat.zero_le _, Nat.zero_le _⟩ (fun H locs hw => ?_)
        have hw : Wd g A s (w_Coder h x t g (((tok, beh), (msk, sec)), ((siz, o4.1), o4.2))) H locs := hw
        refine W.eq (g2 := F0 m 43 ls [.int o5]) rfl ?_
        refine lv_istore (lv' := [(4, .int o5), (0, .ref h), (2, .int y2), (3, .int y3), (5, .int y5)]) hx hb dX0_writeStatements_43 hl (by decide) rfl (fun ls hl => ?_)
        refine lv_iinc (v := y5 + (1 : Int32)) (lv' := [(5, .int (y5 + (1 : Int32))), (4, .int o5), (0, .ref h), (2, .int y2), (3, .int y3)]) hx hb dX0_writeStatements_45 hl (k := 4) rfl rfl (by decide) rfl (fun ls hl => ?_)
        refine lv_goto (tgt := 6) hx hb dX0_writeStatements_48 (by decide) ?_
        exact ih o4.1 o4.2 y2 y3 o5 (y5 + (1 : Int32)) ⟨cnt_s (by decide) hc.1 c1, hc.2⟩ r (hr.trans (congrArg (rb_X0_writeStatements (((tok, beh), (msk, sec)), ((siz, kept₀), size₀))) ((show f_X0_writeStatements_6 wS tok beh msk sec siz (k + 1) kept size y2 y3 y4 y5 = f_X0_writeStatements_6 wS tok beh msk sec siz k o4.1 o4.2 y2 y3 o5 (y5 + (1 : Int32)) from it_f c1 (bd_of ho2 (it_f c3 (bd_of ho4 (bd_of ho5 (rfl))))))))) _ _ hw _ (lv_sub hl [2, 3, 4, 1, 0] rfl)
set_option maxHeartbeats 4000000 in
set_option maxRecDepth 100000 in
theorem c_X0_writeStatements (l : Launch) (g : GG) (h : Nat) (x : Nat → Nat) (t : Nat → Nat) (tok : Nat → Int32) (beh : Nat → Int32) (msk : Nat → Int32) (sec : Nat → Int32) (siz : Int32) (kept : Nat → Int32) (size : Int32) (wS : (Nat → Int32) → (Nat → Int32) → (Nat → Int32) → (Nat → Int32) → Int32 → (Nat → Int32) → Int32 → Int32 → Int32 → Int32 → ((Nat → Int32) × Int32)) (x1 : Int32) (x2 : Int32) (x3 : Int32) (PT : Int32 → Prop) (kM : Nat) (kT : Nat) (hk : kT + 1 ≤ kM ∧ 6 ≤ kM) (hS : ∀ (tok : Nat → Int32) (beh : Nat → Int32) (msk : Nat → Int32) (sec : Nat → Int32) (siz : Int32) (kept : Nat → Int32) (size : Int32) (y1 y2 y3 : Int32), PT y2 → CV l g yX0_writeStatement cX0_writeStatement 4 none (rmN kT) (w_Coder h x t g) [.ref h, .int y1, .int y2, .int y3] (((tok, beh), (msk, sec)), ((siz, kept), size)) (rb_X0_writeStatement (((tok, beh), (msk, sec)), ((siz, kept), size)) (wS tok beh msk sec siz kept size y1 y2 y3))) (hP : PT x2) : CV l g yX0_writeStatements cX0_writeStatements 6 none (rmN kM) (w_Coder h x t g) [.ref h, .int x1, .int x2, .int x3] (((tok, beh), (msk, sec)), ((siz, kept), size)) (rb_X0_writeStatements (((tok, beh), (msk, sec)), ((siz, kept), size)) (f_X0_writeStatements wS tok beh msk sec siz kept size x1 x2 x3)) := by
  refine CV.mk (by decide) (Nat.le_of_ble_eq_true rfl) ?_
  intro p e s m below meth c A ls hI hw hl
  have hx := hI.1
  have hb := hI.2.1
  obtain ⟨r, hr⟩ : ∃ r, r = rb_X0_writeStatements (((tok, beh), (msk, sec)), ((siz, kept), size)) (f_X0_writeStatements wS tok beh msk sec siz kept size x1 x2 x3) := ⟨_, rfl⟩
  rw [← hr]
  have hl : lv_has ls 6 [(0, .ref h), (1, .int x1), (2, .int x2), (3, .int x3)] := hl
  refine lv_iload_n hx hb dX0_writeStatements_0 rfl (lv_at hl 1 rfl) ?_
  refine lv_istore (lv' := [(4, .int x1), (0, .ref h), (1, .int x1), (2, .int x2), (3, .int x3)]) hx hb dX0_writeStatements_1 hl (by decide) rfl (fun ls hl => ?_)
  refine lv_iconst (v := (0 : Int32)) hx hb dX0_writeStatements_3 (by decide) ?_
  refine lv_istore (lv' := [(5, .int (0 : Int32)), (4, .int x1), (0, .ref h), (1, .int x1), (2, .int x2), (3, .int x3)]) hx hb dX0_writeStatements_4 hl (by decide) rfl (fun ls hl => ?_)
  exact lp_X0_writeStatements_6 l g h x t tok beh msk sec siz kept size wS PT kM kT hk hS hI 401 kept size x2 x3 x1 (0 : Int32) ⟨cnt_0 400, hP⟩ r (hr.trans (congrArg (rb_X0_writeStatements (((tok, beh), (msk, sec)), ((siz, kept), size))) ((show f_X0_writeStatements wS tok beh msk sec siz kept size x1 x2 x3 = f_X0_writeStatements_6 wS tok beh msk sec siz 401 kept size x2 x3 x1 (0 : Int32) from rfl)))) _ _ hw _ (lv_sub hl [2, 4, 5, 1, 0] rfl)
