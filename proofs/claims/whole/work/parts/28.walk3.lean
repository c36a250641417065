def vaE : Nat → (Nat → Int32) → (Nat → Int32) → Int32 → (Nat → Int32) → (Nat → Int32) → (Nat → Int32) → Int32 → Int32 → Int32 → Int32 × Int32
  | 0 => f_X8_valueOf (fun tok beh siz num cel szs outc _ _ => (0, outc))
  | d + 1 => f_X8_valueOf (vaE d)
def doS : Nat → (Nat → Int32) → (Nat → Int32) → Int32 → (Nat → Int32) → (Nat → Int32) → (Nat → Int32) → (Nat → Int32) → Int32 → Int32 → Int32 → Int32 → Int32 → ((((Nat → Int32) × (Nat → Int32)) × (Nat → Int32)) × ((Int32 × Int32) × Int32))
  | 0 => f_X8_doStatement (fun tok beh siz num cel szs outc _ _ => (0, outc)) (fun tok beh siz num cel szs t_kept t_size turns outc _ _ => (((num, cel), t_kept), ((t_size, turns), outc)))
  | d + 1 => f_X8_doStatement (vaE d) (f_X8_doStatements (doS d))
def doSs (d : Nat) : (Nat → Int32) → (Nat → Int32) → Int32 → (Nat → Int32) → (Nat → Int32) → (Nat → Int32) → (Nat → Int32) → Int32 → Int32 → Int32 → Int32 → Int32 → ((((Nat → Int32) × (Nat → Int32)) × (Nat → Int32)) × ((Int32 × Int32) × Int32)) := f_X8_doStatements (doS d)
theorem k_vaE (l : Launch) (g : GG) (h : Nat) (x : Nat → Nat) (q : Nat → Nat) (tt : Nat → Nat) : ∀ (d : Nat), d ≤ 12 → ∀ (tok : Nat → Int32) (beh : Nat → Int32) (msk : Nat → Int32) (sec : Nat → Int32) (siz : Int32) (num : Nat → Int32) (sn : Nat → Int32) (cel : Nat → Int32) (szs : Nat → Int32) (stb : Nat → Int32) (t_kept : Nat → Int32) (t_size : Int32) (turns : Int32) (outc : Int32) (y1 y2 : Int32), y2 = nI (12 - d) → CI l g yX8_valueOf cX8_valueOf 10 (some .int) (rmN (d + 6)) (w_Walk h x q tt g) [.ref h, .int y1, .int y2] ((((tok, beh), (msk, sec)), ((siz, num), sn)), (((cel, szs), (stb, t_kept)), ((t_size, turns), outc))) (rb_X8_valueOf ((((tok, beh), (msk, sec)), ((siz, num), sn)), (((cel, szs), (stb, t_kept)), ((t_size, turns), outc))) (vaE d tok beh siz num cel szs outc y1 y2)) := by
  intro d
  induction d with
  | zero =>
    intro _ tok beh msk sec siz num sn cel szs stb t_kept t_size turns outc y1 y2 hy
    exact c_X8_valueOf l g h x q tt tok beh msk sec siz num sn cel szs stb t_kept t_size turns outc _ y1 y2 (fun _ => False) 6 0 (by omega) (fun tok beh msk sec siz num sn cel szs stb t_kept t_size turns outc y1 y2 hf => hf.elim) (fun hn => hn (dep_0 hy))
  | succ d ih =>
    intro hd tok beh msk sec siz num sn cel szs stb t_kept t_size turns outc y1 y2 hy
    exact c_X8_valueOf l g h x q tt tok beh msk sec siz num sn cel szs stb t_kept t_size turns outc (vaE d) y1 y2 (fun z => z = nI (12 - d)) (d + 1 + 6) (d + 6) (by omega) (fun tok beh msk sec siz num sn cel szs stb t_kept t_size turns outc y1 y2 hz => ih (by omega) tok beh msk sec siz num sn cel szs stb t_kept t_size turns outc y1 y2 hz) (fun _ => dep_s hd hy)
theorem k_doS (l : Launch) (g : GG) (h : Nat) (x : Nat → Nat) (q : Nat → Nat) (tt : Nat → Nat) : ∀ (d : Nat), d ≤ 12 → ∀ (tok : Nat → Int32) (beh : Nat → Int32) (msk : Nat → Int32) (sec : Nat → Int32) (siz : Int32) (num : Nat → Int32) (sn : Nat → Int32) (cel : Nat → Int32) (szs : Nat → Int32) (stb : Nat → Int32) (t_kept : Nat → Int32) (t_size : Int32) (turns : Int32) (outc : Int32) (y1 y2 : Int32), y2 = nI (12 - d) → CV l g yX8_doStatement cX8_doStatement 3 none (rmN (3 * d + 11)) (w_Walk h x q tt g) [.ref h, .int y1, .int y2] ((((tok, beh), (msk, sec)), ((siz, num), sn)), (((cel, szs), (stb, t_kept)), ((t_size, turns), outc))) (rb_X8_doStatement ((((tok, beh), (msk, sec)), ((siz, num), sn)), (((cel, szs), (stb, t_kept)), ((t_size, turns), outc))) (doS d tok beh siz num cel szs t_kept t_size turns outc y1 y2)) := by
  intro d
  induction d with
  | zero =>
    intro _ tok beh msk sec siz num sn cel szs stb t_kept t_size turns outc y1 y2 hy
    exact c_X8_doStatement l g h x q tt tok beh msk sec siz num sn cel szs stb t_kept t_size turns outc _ _ y1 y2 (fun _ => False) (fun _ => False) 11 10 0 0 (by omega) (fun tok beh msk sec siz num sn cel szs stb t_kept t_size turns outc y1 y2 hf => hf.elim) (fun tok beh msk sec siz num sn cel szs stb t_kept t_size turns outc y1 y2 hf => hf.elim) (fun hn => absurd (dep_0 hy) hn)
  | succ d ih =>
    intro hd tok beh msk sec siz num sn cel szs stb t_kept t_size turns outc y1 y2 hy
    exact c_X8_doStatement l g h x q tt tok beh msk sec siz num sn cel szs stb t_kept t_size turns outc (vaE d) (doSs d) y1 y2 (fun z => z = nI (12 - d)) (fun z => z = nI (12 - d)) (3 * (d + 1) + 11) (3 * d + 13) (d + 6) (3 * d + 12) (by omega) (fun tok beh msk sec siz num sn cel szs stb t_kept t_size turns outc y1 y2 hz => k_vaE l g h x q tt d (by omega) tok beh msk sec siz num sn cel szs stb t_kept t_size turns outc y1 y2 hz) (fun tok beh msk sec siz num sn cel szs stb t_kept t_size turns outc y1 y2 hz => c_X8_doStatements l g h x q tt tok beh msk sec siz num sn cel szs stb t_kept t_size turns outc (doS d) y1 y2 (fun z => z = nI (12 - d)) (3 * d + 12) (3 * d + 11) (by omega) (fun tok beh msk sec siz num sn cel szs stb t_kept t_size turns outc y1 y2 hz => ih (by omega) tok beh msk sec siz num sn cel szs stb t_kept t_size turns outc y1 y2 hz) hz) (fun _ => ⟨dep_s hd hy, dep_s hd hy⟩)
theorem k_doSs (l : Launch) (g : GG) (h : Nat) (x : Nat → Nat) (q : Nat → Nat) (tt : Nat → Nat) : ∀ (d : Nat), d ≤ 12 → ∀ (tok : Nat → Int32) (beh : Nat → Int32) (msk : Nat → Int32) (sec : Nat → Int32) (siz : Int32) (num : Nat → Int32) (sn : Nat → Int32) (cel : Nat → Int32) (szs : Nat → Int32) (stb : Nat → Int32) (t_kept : Nat → Int32) (t_size : Int32) (turns : Int32) (outc : Int32) (y1 y2 : Int32), y2 = nI (12 - d) → CV l g yX8_doStatements cX8_doStatements 5 none (rmN (3 * d + 12)) (w_Walk h x q tt g) [.ref h, .int y1, .int y2] ((((tok, beh), (msk, sec)), ((siz, num), sn)), (((cel, szs), (stb, t_kept)), ((t_size, turns), outc))) (rb_X8_doStatements ((((tok, beh), (msk, sec)), ((siz, num), sn)), (((cel, szs), (stb, t_kept)), ((t_size, turns), outc))) (doSs d tok beh siz num cel szs t_kept t_size turns outc y1 y2)) := by
  intro d hd tok beh msk sec siz num sn cel szs stb t_kept t_size turns outc y1 y2 hy
  exact c_X8_doStatements l g h x q tt tok beh msk sec siz num sn cel szs stb t_kept t_size turns outc (doS d) y1 y2 (fun z => z = nI (12 - d)) (3 * d + 12) (3 * d + 11) (by omega) (fun tok beh msk sec siz num sn cel szs stb t_kept t_size turns outc y1 y2 hz => k_doS l g h x q tt d hd tok beh msk sec siz num sn cel szs stb t_kept t_size turns outc y1 y2 hz) hy
def f_X8_walk (tok : Nat → Int32) (beh : Nat → Int32) (siz : Int32) (num : Nat → Int32) (cel : Nat → Int32) (szs : Nat → Int32) (t_kept : Nat → Int32) (t_size : Int32) (turns : Int32) (outc : Int32) : Int32 × ((((Nat → Int32) × (Nat → Int32)) × (Nat → Int32)) × ((Int32 × Int32) × Int32)) := bd (f_X6_clear t_size) (fun o1 => bd (doSs 12 tok beh siz num cel szs t_kept o1 (0 : Int32) (0 : Int32) (0 : Int32) (0 : Int32)) (fun o2 => if o2.2.2 = 0 then (o2.2.1.2, (((o2.1.1.1, o2.1.1.2), o2.1.2), ((o2.2.1.1, o2.2.1.2), o2.2.2))) else (o2.2.2, (((o2.1.1.1, o2.1.1.2), o2.1.2), ((o2.2.1.1, o2.2.1.2), o2.2.2)))))
def rb_X8_walk (σ : S_Walk) (o : Int32 × ((((Nat → Int32) × (Nat → Int32)) × (Nat → Int32)) × ((Int32 × Int32) × Int32))) : Int32 × S_Walk := (o.1, ((((σ.1.1.1.1, σ.1.1.1.2), (σ.1.1.2.1, σ.1.1.2.2)), ((σ.1.2.1.1, o.2.1.1.1), σ.1.2.2)), (((o.2.1.1.2, σ.2.1.1.2), (σ.2.1.2.1, o.2.1.2)), ((o.2.2.1.1, o.2.2.1.2), o.2.2.2))))
set_option maxHeartbeats 4000000 in
set_option maxRecDepth 100000 in
theorem c_X8_walk (l : Launch) (g : GG) (h : Nat) (x : Nat → Nat) (q : Nat → Nat) (tt : Nat → Nat) (tok : Nat → Int32) (beh : Nat → Int32) (msk : Nat → Int32) (sec : Nat → Int32) (siz : Int32) (num : Nat → Int32) (sn : Nat → Int32) (cel : Nat → Int32) (szs : Nat → Int32) (stb : Nat → Int32) (t_kept : Nat → Int32) (t_size : Int32) (turns : Int32) (outc : Int32) : CI l g yX8_walk cX8_walk 1 (some .int) (rmN 49) (w_Walk h x q tt g) [.ref h] ((((tok, beh), (msk, sec)), ((siz, num), sn)), (((cel, szs), (stb, t_kept)), ((t_size, turns), outc))) (rb_X8_walk ((((tok, beh), (msk, sec)), ((siz, num), sn)), (((cel, szs), (stb, t_kept)), ((t_size, turns), outc))) (f_X8_walk tok beh siz num cel szs t_kept t_size turns outc)) := by
  refine CI.mk (by decide) (Nat.le_of_ble_eq_true rfl) ?_
  intro p e s m below meth c A ls hI hw hl
  have hx := hI.1
  have hb := hI.2.1
  obtain ⟨r, hr⟩ : ∃ r, r = rb_X8_walk ((((tok, beh), (msk, sec)), ((siz, num), sn)), (((cel, szs), (stb, t_kept)), ((t_size, turns), outc))) (f_X8_walk tok beh siz num cel szs t_kept t_size turns outc) := ⟨_, rfl⟩
  rw [← hr]
  have hl : lv_has ls 1 [(0, .ref h)] := hl
  refine lv_aload_n hx hb dX8_walk_0 rfl (lv_at hl 0 rfl) ?_
  refine hI.get (v := .ref (tt 0)) hw fg_X8_19 0 rfl rfl dX8_walk_1 ?_
  obtain ⟨o1, ho1⟩ : ∃ o, o = f_X6_clear t_size := ⟨_, rfl⟩
  refine hI.callV (wl := w_Tape tt 300 g) (a := (t_kept, t_size)) (wr := [(h, .inr (7, [.ref (x 0), .ref (q 0), .ref (tt 0), .int turns, .int outc])), (x 0, .inr (2, [.ref (x 1), .ref (x 2), .ref (x 3), .ref (x 4), .int siz])), (x 1, .inl (g.2.1, 400, .inl tok)), (x 2, .inl (g.2.1, 400, .inl beh)), (x 3, .inl (g.2.1, 400, .inl msk)), (x 4, .inl (g.2.2, 400, .inl sec)), (q 0, .inr (4, [.ref (q 1), .ref (q 2), .ref (q 3), .ref (q 4), .ref (q 5)])), (q 1, .inl (g.2.1, 10, .inl num)), (q 2, .inl (g.2.2, 10, .inl sn)), (q 3, .inl (g.2.1, 64, .inl cel)), (q 4, .inl (g.2.1, 4, .inl szs)), (q 5, .inl (g.2.2, 4, .inl stb))]) (ws1 := w_Walk h x q tt g ((((tok, beh), (msk, sec)), ((siz, num), sn)), (((cel, szs), (stb, t_kept)), ((o1, turns), outc)))) (r := rb_X6_clear (t_kept, t_size) o1) (As := []) (rest := []) hw (by rw [ho1]; exact c_X6_clear l g tt 300 t_kept t_size ) ok_yX6_clear ml_X8_23 (rm_ok (by decide) (by decide)) [12, 13] [0, 1, 2, 3, 4, 5, 6, 7, 8, 9, 10, 11] [0, 1, 2, 3, 4, 5, 6, 7, 8, 9, 10, 11, 12, 13] rfl rfl rfl rfl rfl 0 rfl rfl rfl rfl hl.1 (Nat.le_of_ble_eq_true rfl) dX8_walk_4 ⟨Nat.zero_le _, Nat.zero_le _⟩ (fun H locs hw => ?_)
  have hw : Wd g A s (w_Walk h x q tt g ((((tok, beh), (msk, sec)), ((siz, num), sn)), (((cel, szs), (stb, t_kept)), ((o1, turns), outc)))) H locs := hw
  refine W.eq (g2 := F0 m 7 ls []) rfl ?_
  refine lv_aload_n hx hb dX8_walk_7 rfl (lv_at hl 0 rfl) ?_
  refine lv_iconst (v := (0 : Int32)) hx hb dX8_walk_8 (by decide) ?_
  refine hI.put hw fp_X8_28 rfl 0 rfl rfl rfl (Nat.le_of_ble_eq_true rfl) dX8_walk_9 (fun H locs hw => ?_)
  have hw : Wd g A s (w_Walk h x q tt g ((((tok, beh), (msk, sec)), ((siz, num), sn)), (((cel, szs), (stb, t_kept)), ((o1, (0 : Int32)), outc)))) H locs := hw
  refine lv_aload_n hx hb dX8_walk_12 rfl (lv_at hl 0 rfl) ?_
  refine lv_iconst (v := (0 : Int32)) hx hb dX8_walk_13 (by decide) ?_
  refine hI.put hw fp_X8_32 rfl 0 rfl rfl rfl (Nat.le_of_ble_eq_true rfl) dX8_walk_14 (fun H locs hw => ?_)
  have hw : Wd g A s (w_Walk h x q tt g ((((tok, beh), (msk, sec)), ((siz, num), sn)), (((cel, szs), (stb, t_kept)), ((o1, (0 : Int32)), (0 : Int32))))) H locs := hw
  refine lv_aload_n hx hb dX8_walk_17 rfl (lv_at hl 0 rfl) ?_
  refine lv_iconst (v := (0 : Int32)) hx hb dX8_walk_18 (by decide) ?_
  refine lv_iconst (v := (0 : Int32)) hx hb dX8_walk_19 (by decide) ?_
  obtain ⟨o2, ho2⟩ : ∃ o, o = doSs 12 tok beh siz num cel szs t_kept o1 (0 : Int32) (0 : Int32) (0 : Int32) (0 : Int32) := ⟨_, rfl⟩
  refine hI.callV0 (wl := w_Walk h x q tt g) (a := ((((tok, beh), (msk, sec)), ((siz, num), sn)), (((cel, szs), (stb, t_kept)), ((o1, (0 : Int32)), (0 : Int32))))) (r := rb_X8_doStatements ((((tok, beh), (msk, sec)), ((siz, num), sn)), (((cel, szs), (stb, t_kept)), ((o1, (0 : Int32)), (0 : Int32)))) o2) (As := [.int (0 : Int32), .int (0 : Int32)]) (rest := []) hw (by rw [ho2]; exact k_doSs l g h x q tt 12 (by decide) tok beh msk sec siz num sn cel szs stb t_kept o1 (0 : Int32) (0 : Int32) (0 : Int32) (0 : Int32) rfl) ok_yX8_doStatements ml_X8_35 (rm_ok (by decide) (by decide)) 0 rfl rfl rfl rfl hl.1 (Nat.le_of_ble_eq_true rfl) dX8_walk_20 ⟨Nat.zero_le _, Nat.zero_le _⟩ (fun H locs hw => ?_)
  have hw : Wd g A s (w_Walk h x q tt g ((((tok, beh), (msk, sec)), ((siz, o2.1.1.1), sn)), (((o2.1.1.2, szs), (stb, o2.1.2)), ((o2.2.1.1, o2.2.1.2), o2.2.2)))) H locs := hw
  refine W.eq (g2 := F0 m 23 ls []) rfl ?_
  refine lv_aload_n hx hb dX8_walk_23 rfl (lv_at hl 0 rfl) ?_
  refine hI.get (v := .int o2.2.2) hw fg_X8_32 0 rfl rfl dX8_walk_24 ?_
  refine lv_if_ne (tgt := 37) hx hb dX8_walk_27 (by decide) (fun c3 => ?_) (fun c3 => ?_)
  · refine lv_aload_n hx hb dX8_walk_37 rfl (lv_at hl 0 rfl) ?_
    refine hI.get (v := .int o2.2.2) hw fg_X8_32 0 rfl rfl dX8_walk_38 ?_
    exact hI.retI (u := ((((tok, beh), (msk, sec)), ((siz, o2.1.1.1), sn)), (((o2.1.1.2, szs), (stb, o2.1.2)), ((o2.2.1.1, o2.2.1.2), o2.2.2)))) hw (hr.trans (congrArg (rb_X8_walk ((((tok, beh), (msk, sec)), ((siz, num), sn)), (((cel, szs), (stb, t_kept)), ((t_size, turns), outc)))) ((show f_X8_walk tok beh siz num cel szs t_kept t_size turns outc = (o2.2.2, (((o2.1.1.1, o2.1.1.2), o2.1.2), ((o2.2.1.1, o2.2.1.2), o2.2.2))) from bd_of ho1 (bd_of ho2 (it_f c3 (rfl))))))) dX8_walk_41
  · refine lv_aload_n hx hb dX8_walk_30 rfl (lv_at hl 0 rfl) ?_
    refine hI.get (v := .int o2.2.1.2) hw fg_X8_28 0 rfl rfl dX8_walk_31 ?_
    refine lv_goto (tgt := 41) hx hb dX8_walk_34 (by decide) ?_
    exact hI.retI (u := ((((tok, beh), (msk, sec)), ((siz, o2.1.1.1), sn)), (((o2.1.1.2, szs), (stb, o2.1.2)), ((o2.2.1.1, o2.2.1.2), o2.2.2)))) hw (hr.trans (congrArg (rb_X8_walk ((((tok, beh), (msk, sec)), ((siz, num), sn)), (((cel, szs), (stb, t_kept)), ((t_size, turns), outc)))) ((show f_X8_walk tok beh siz num cel szs t_kept t_size turns outc = (o2.2.1.2, (((o2.1.1.1, o2.1.1.2), o2.1.2), ((o2.2.1.1, o2.2.1.2), o2.2.2))) from bd_of ho1 (bd_of ho2 (it_t c3 (rfl))))))) dX8_walk_41
