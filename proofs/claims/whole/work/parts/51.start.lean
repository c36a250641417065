def σ0 : S_SC := ((((((((fun _ => 0) : Nat → Int32), ((fun _ => 0) : Nat → Int32)), ((fun _ => 0) : Nat → Int32)), ((f_J7_fill_53178 4 (fun _ => 0) (4 : Int32) : Nat → Int32), ((fun _ => 0) : Nat → Int32))), ((((fun _ => 0) : Nat → Int32), ((fun _ => 0) : Nat → Int32)), (((fun _ => 0) : Nat → Int32), ((fun _ => 0) : Nat → Int32)))), ((((0 : Int32), ((fun _ => 0) : Nat → Int32)), (((fun _ => 0) : Nat → Int32), ((fun _ => 0) : Nat → Int32))), ((((fun _ => 0) : Nat → Int32), (0 : Int32)), (((fun _ => 0) : Nat → Int32), (0 : Int32))))), ((((((fun _ => 0) : Nat → Int32), (0 : Int32)), (((fun _ => 0) : Nat → Int32), (0 : Int32))), (((0 : Int64), (0 : Int32)), ((0 : Int32), ((-1 : Int32) : Int32)))), (((((fun _ => 0) : Nat → Int32), (upd (fun _ => 0) (0 : Int32).toNatClampNeg (-1 : Int32) : Nat → Int32)), (((fun _ => 0) : Nat → Int32), (0 : Int32))), (((0 : Int32), (0 : Int32)), ((0 : Int32), ((-1 : Int32) : Int32))))))
def μ0 : S_Mdl := (((((((fun _ => 0) : Nat → Int32), (0 : Int32)), (((fun _ => 0) : Nat → Int32), ((fun _ => 0) : Nat → Int32))), ((((fun _ => 0) : Nat → Int32), ((fun _ => 0) : Nat → Int32)), (upd (upd (upd (upd (fun _ => 0) (0 : Int32).toNatClampNeg (4 : Int32)) (1 : Int32).toNatClampNeg (4 : Int32)) (2 : Int32).toNatClampNeg (4 : Int32)) (3 : Int32).toNatClampNeg (4 : Int32) : Nat → Int32))), (((((fun _ => 0) : Nat → Int32), ((fun _ => 0) : Nat → Int32)), (0 : Int32)), (((0 : Int32), ((-1 : Int32) : Int32)), (0 : Int32)))), (((((0 : Int32), (0 : Int32)), (((fun _ => 0) : Nat → Int32), (0 : Int32))), ((((fun _ => 0) : Nat → Int32), (0 : Int32)), (0 : Int64))), (((((fun _ => 0) : Nat → Int32), (0 : Int32)), ((fun _ => 0) : Nat → Int32)), ((((fun _ => 0) : Nat → Int32), (0 : Int32)), (0 : Int32)))))
set_option maxRecDepth 100000 in
theorem wz_law {s : State} {b : Nat} (hts : ∀ w ∈ lw_tbl, w.before #[Value.ref b] s = true) (hgv : (Jvm.Cond.and given_1 narrow_1).before #[Value.ref b] s = true) : WZ (fun q : Nat => s.heap.size ≤ q) s s.heap := by
  have hs := flat_of_before _ hgv
  have harr : (Cond.arrayOf (Term.static "SteadyCompiler$Machine" "WIDTHS" "[I") .int).before #[Value.ref b] s = true := hs _ (by decide +kernel)
  have hlen : (Cond.eq (.length (Term.static "SteadyCompiler$Machine" "WIDTHS" "[I")) (.int 32)).before #[Value.ref b] s = true := hs _ (by decide +kernel)
  have e0 : (Cond.eq (.elem (Term.static "SteadyCompiler$Machine" "WIDTHS" "[I") (.int 0)) (.int 1)).before #[Value.ref b] s = true := hs _ (by decide +kernel)
  have e1 : (Cond.eq (.elem (Term.static "SteadyCompiler$Machine" "WIDTHS" "[I") (.int 1)) (.int 2)).before #[Value.ref b] s = true := hs _ (by decide +kernel)
  have e2 : (Cond.eq (.elem (Term.static "SteadyCompiler$Machine" "WIDTHS" "[I") (.int 2)) (.int 2)).before #[Value.ref b] s = true := hs _ (by decide +kernel)
  have e3 : (Cond.eq (.elem (Term.static "SteadyCompiler$Machine" "WIDTHS" "[I") (.int 3)) (.int 2)).before #[Value.ref b] s = true := hs _ (by decide +kernel)
  have e4 : (Cond.eq (.elem (Term.static "SteadyCompiler$Machine" "WIDTHS" "[I") (.int 4)) (.int 1)).before #[Value.ref b] s = true := hs _ (by decide +kernel)
  have e5 : (Cond.eq (.elem (Term.static "SteadyCompiler$Machine" "WIDTHS" "[I") (.int 5)) (.int 1)).before #[Value.ref b] s = true := hs _ (by decide +kernel)
  have e6 : (Cond.eq (.elem (Term.static "SteadyCompiler$Machine" "WIDTHS" "[I") (.int 6)) (.int 1)).before #[Value.ref b] s = true := hs _ (by decide +kernel)
  have e7 : (Cond.eq (.elem (Term.static "SteadyCompiler$Machine" "WIDTHS" "[I") (.int 7)) (.int 1)).before #[Value.ref b] s = true := hs _ (by decide +kernel)
  have e8 : (Cond.eq (.elem (Term.static "SteadyCompiler$Machine" "WIDTHS" "[I") (.int 8)) (.int 1)).before #[Value.ref b] s = true := hs _ (by decide +kernel)
  have e9 : (Cond.eq (.elem (Term.static "SteadyCompiler$Machine" "WIDTHS" "[I") (.int 9)) (.int 1)).before #[Value.ref b] s = true := hs _ (by decide +kernel)
  have e10 : (Cond.eq (.elem (Term.static "SteadyCompiler$Machine" "WIDTHS" "[I") (.int 10)) (.int 1)).before #[Value.ref b] s = true := hs _ (by decide +kernel)
  have e11 : (Cond.eq (.elem (Term.static "SteadyCompiler$Machine" "WIDTHS" "[I") (.int 11)) (.int 1)).before #[Value.ref b] s = true := hs _ (by decide +kernel)
  have e12 : (Cond.eq (.elem (Term.static "SteadyCompiler$Machine" "WIDTHS" "[I") (.int 12)) (.int 1)).before #[Value.ref b] s = true := hs _ (by decide +kernel)
  have e13 : (Cond.eq (.elem (Term.static "SteadyCompiler$Machine" "WIDTHS" "[I") (.int 13)) (.int 1)).before #[Value.ref b] s = true := hs _ (by decide +kernel)
  have e14 : (Cond.eq (.elem (Term.static "SteadyCompiler$Machine" "WIDTHS" "[I") (.int 14)) (.int 1)).before #[Value.ref b] s = true := hs _ (by decide +kernel)
  have e15 : (Cond.eq (.elem (Term.static "SteadyCompiler$Machine" "WIDTHS" "[I") (.int 15)) (.int 1)).before #[Value.ref b] s = true := hs _ (by decide +kernel)
  have e16 : (Cond.eq (.elem (Term.static "SteadyCompiler$Machine" "WIDTHS" "[I") (.int 16)) (.int 1)).before #[Value.ref b] s = true := hs _ (by decide +kernel)
  have e17 : (Cond.eq (.elem (Term.static "SteadyCompiler$Machine" "WIDTHS" "[I") (.int 17)) (.int 1)).before #[Value.ref b] s = true := hs _ (by decide +kernel)
  have e18 : (Cond.eq (.elem (Term.static "SteadyCompiler$Machine" "WIDTHS" "[I") (.int 18)) (.int 2)).before #[Value.ref b] s = true := hs _ (by decide +kernel)
  have e19 : (Cond.eq (.elem (Term.static "SteadyCompiler$Machine" "WIDTHS" "[I") (.int 19)) (.int 2)).before #[Value.ref b] s = true := hs _ (by decide +kernel)
  have e20 : (Cond.eq (.elem (Term.static "SteadyCompiler$Machine" "WIDTHS" "[I") (.int 20)) (.int 1)).before #[Value.ref b] s = true := hs _ (by decide +kernel)
  have e21 : (Cond.eq (.elem (Term.static "SteadyCompiler$Machine" "WIDTHS" "[I") (.int 21)) (.int 2)).before #[Value.ref b] s = true := hs _ (by decide +kernel)
  have e22 : (Cond.eq (.elem (Term.static "SteadyCompiler$Machine" "WIDTHS" "[I") (.int 22)) (.int 2)).before #[Value.ref b] s = true := hs _ (by decide +kernel)
  have e23 : (Cond.eq (.elem (Term.static "SteadyCompiler$Machine" "WIDTHS" "[I") (.int 23)) (.int 2)).before #[Value.ref b] s = true := hs _ (by decide +kernel)
  have e24 : (Cond.eq (.elem (Term.static "SteadyCompiler$Machine" "WIDTHS" "[I") (.int 24)) (.int 2)).before #[Value.ref b] s = true := hs _ (by decide +kernel)
  have e25 : (Cond.eq (.elem (Term.static "SteadyCompiler$Machine" "WIDTHS" "[I") (.int 25)) (.int 3)).before #[Value.ref b] s = true := hs _ (by decide +kernel)
  have e26 : (Cond.eq (.elem (Term.static "SteadyCompiler$Machine" "WIDTHS" "[I") (.int 26)) (.int 3)).before #[Value.ref b] s = true := hs _ (by decide +kernel)
  have e27 : (Cond.eq (.elem (Term.static "SteadyCompiler$Machine" "WIDTHS" "[I") (.int 27)) (.int 2)).before #[Value.ref b] s = true := hs _ (by decide +kernel)
  have e28 : (Cond.eq (.elem (Term.static "SteadyCompiler$Machine" "WIDTHS" "[I") (.int 28)) (.int 3)).before #[Value.ref b] s = true := hs _ (by decide +kernel)
  have e29 : (Cond.eq (.elem (Term.static "SteadyCompiler$Machine" "WIDTHS" "[I") (.int 29)) (.int 2)).before #[Value.ref b] s = true := hs _ (by decide +kernel)
  have e30 : (Cond.eq (.elem (Term.static "SteadyCompiler$Machine" "WIDTHS" "[I") (.int 30)) (.int 2)).before #[Value.ref b] s = true := hs _ (by decide +kernel)
  have e31 : (Cond.eq (.elem (Term.static "SteadyCompiler$Machine" "WIDTHS" "[I") (.int 31)) (.int 2)).before #[Value.ref b] s = true := hs _ (by decide +kernel)
  obtain ⟨t, ht, hT⟩ := va_Tof (tm := (Term.static "SteadyCompiler$Machine" "WIDTHS" "[I")) (ty := .int) (N := 32) (f := wdV) (A := fun q : Nat => s.heap.size ≤ q) (by decide) harr (va_eqt hlen) (fun j hj => by
    rcases (show j = 0 ∨ j = 1 ∨ j = 2 ∨ j = 3 ∨ j = 4 ∨ j = 5 ∨ j = 6 ∨ j = 7 ∨ j = 8 ∨ j = 9 ∨ j = 10 ∨ j = 11 ∨ j = 12 ∨ j = 13 ∨ j = 14 ∨ j = 15 ∨ j = 16 ∨ j = 17 ∨ j = 18 ∨ j = 19 ∨ j = 20 ∨ j = 21 ∨ j = 22 ∨ j = 23 ∨ j = 24 ∨ j = 25 ∨ j = 26 ∨ j = 27 ∨ j = 28 ∨ j = 29 ∨ j = 30 ∨ j = 31 by omega) with rfl | rfl | rfl | rfl | rfl | rfl | rfl | rfl | rfl | rfl | rfl | rfl | rfl | rfl | rfl | rfl | rfl | rfl | rfl | rfl | rfl | rfl | rfl | rfl | rfl | rfl | rfl | rfl | rfl | rfl | rfl | rfl
    · exact va_eqt e0
    · exact va_eqt e1
    · exact va_eqt e2
    · exact va_eqt e3
    · exact va_eqt e4
    · exact va_eqt e5
    · exact va_eqt e6
    · exact va_eqt e7
    · exact va_eqt e8
    · exact va_eqt e9
    · exact va_eqt e10
    · exact va_eqt e11
    · exact va_eqt e12
    · exact va_eqt e13
    · exact va_eqt e14
    · exact va_eqt e15
    · exact va_eqt e16
    · exact va_eqt e17
    · exact va_eqt e18
    · exact va_eqt e19
    · exact va_eqt e20
    · exact va_eqt e21
    · exact va_eqt e22
    · exact va_eqt e23
    · exact va_eqt e24
    · exact va_eqt e25
    · exact va_eqt e26
    · exact va_eqt e27
    · exact va_eqt e28
    · exact va_eqt e29
    · exact va_eqt e30
    · exact va_eqt e31
    ) (fun a ha => Nat.not_le.mpr ha)
  exact ⟨t, va_Zof (hts _ mlays_WIDTHS) (hts _ (gm_in mini_X1)) ht (fun a ha => Nat.not_le.mpr ha), hT⟩
set_option maxRecDepth 100000 in
theorem kk_law {s : State} {b : Nat} (hts : ∀ w ∈ lw_g, w.before #[Value.ref b] s = true) : ∃ g : GG, KK g s := by
  obtain ⟨c0, iS0, hK0⟩ := u_known (C := RX0) (T := TX0) (N := 2) (n := 2) hts mlay_X0 (hts _ minst_X0)
  obtain ⟨c1, iS1, hK1⟩ := u_known (C := RX1) (T := TX1) (N := 9) (n := 9) hts mlay_X1 (hts _ minst_X1)
  obtain ⟨c2, iS2, hK2⟩ := u_known (C := RX2) (T := TX2) (N := 5) (n := 5) hts mlay_X2 (hts _ minst_X2)
  obtain ⟨c3, iS3, hK3⟩ := u_known (C := RX3) (T := TX3) (N := 5) (n := 5) hts mlay_X3 (hts _ minst_X3)
  obtain ⟨c4, iS4, hK4⟩ := u_known (C := RX5) (T := TX5) (N := 5) (n := 5) hts mlay_X5 (hts _ minst_X5)
  obtain ⟨c5, iS5, hK5⟩ := u_known (C := RX6) (T := TX6) (N := 2) (n := 2) hts mlay_X6 (hts _ minst_X6)
  obtain ⟨c6, iS6, hK6⟩ := u_known (C := RX7) (T := TX7) (N := 2) (n := 2) hts mlay_X7 (hts _ minst_X7)
  obtain ⟨c7, iS7, hK7⟩ := u_known (C := RX8) (T := TX8) (N := 5) (n := 5) hts mlay_X8 (hts _ minst_X8)
  obtain ⟨c8, iS8, hK8⟩ := u_known (C := RX9) (T := TX9) (N := 11) (n := 11) hts mlay_X9 (hts _ minst_X9)
  obtain ⟨c9, iS9, hK9⟩ := u_known (C := RX10) (T := TX10) (N := 26) (n := 26) hts mlay_X10 (hts _ minst_X10)
  obtain ⟨cI, kI, pI, fI, gI, hI⟩ := Cond.arrayClass_spec (hts _ marr_int)
  obtain ⟨cZ, kZ, pZ, fZ, gZ, hZ⟩ := Cond.arrayClass_spec (hts _ marr_boolean)
  refine ⟨((fun k => if k = 0 then c0 else if k = 1 then c1 else if k = 2 then c2 else if k = 3 then c3 else if k = 4 then c4 else if k = 5 then c5 else if k = 6 then c6 else if k = 7 then c7 else if k = 8 then c8 else c9, fun k => if k = 0 then iS0 else if k = 1 then iS1 else if k = 2 then iS2 else if k = 3 then iS3 else if k = 4 then iS4 else if k = 5 then iS5 else if k = 6 then iS6 else if k = 7 then iS7 else if k = 8 then iS8 else iS9), cI, cZ), ⟨?_, ?_⟩⟩
  · intro k q hq
    match k, hq with
    | 0, hq => cases hq; exact hK0
    | 1, hq => cases hq; exact hK1
    | 2, hq => cases hq; exact hK2
    | 3, hq => cases hq; exact hK3
    | 4, hq => cases hq; exact hK4
    | 5, hq => cases hq; exact hK5
    | 6, hq => cases hq; exact hK6
    | 7, hq => cases hq; exact hK7
    | 8, hq => cases hq; exact hK8
    | 9, hq => cases hq; exact hK9
    | k + 10, hq => simp [vwCl] at hq
  · intro k q hq
    match k, hq with
    | 0, hq => cases hq; exact ⟨fun n z => ⟨fun k h => (by cases h), kI, gI, pI, hI⟩, fI⟩
    | 1, hq => cases hq; exact ⟨fun n z => ⟨fun k h => (by cases h), kZ, gZ, pZ, hZ⟩, fZ⟩
    | k + 2, hq => simp at hq
set_option maxHeartbeats 4000000 in
set_option maxRecDepth 100000 in
theorem start_of (Rel : S_SC → S_Mdl → Prop) (hG : GoodR Rel) (h0 : Rel σ0 μ0) {p : Program} {e : Env} {s : State} {m : MethodId} {below : List Frame} {meth : Method} {c : Code} (l : Launch) {b L : Nat} {xs : Nat → Int32} (hL : L ≤ 2048) (C0 : lw_At p s m meth c b L xs) : W p l e room_1 s m #[Value.ref b] below meth c s.heap [] 0 0 (lw_Z below #[Value.ref b] s) (entryFrame m ([Value.ref b] : List Value).toArray 4) := by
  obtain ⟨hx, hb, hr, hml, hown, hts, hX, hbl, hlocks, hgv⟩ := C0
  have htg : ∀ w ∈ lw_g, w.before #[Value.ref b] s = true := fun w h => hts w (gm_in h)
  obtain ⟨g, hK⟩ := kk_law htg
  obtain ⟨A, hAe⟩ : ∃ A : Nat → Prop, A = fun q : Nat => s.heap.size ≤ q := ⟨_, rfl⟩
  have hA : ∀ q, s.heap.size ≤ q → A q := fun q h => by rw [hAe]; exact h
  have hA2 : ∀ q, A q → s.heap.size ≤ q := fun q h => by rw [hAe] at h; exact h
  have hbA : ¬ A b := fun h => absurd (hA2 b h) (Nat.not_le.mpr hbl)
  have hZ : WZ A s s.heap := by rw [hAe]; exact wz_law hts hgv
  have hI : InM p s m #[Value.ref b] meth c RL cL_law 4 ret g A := ⟨hx, hb, hml, hown, htg, hr, hlocks, hK, hA, hZ⟩
  have hw : Wd g A s [] s.heap [] := ⟨fun k q h => by simp at h, ⟨fun i j p q h => by simp at h, fun k q h => by simp at h⟩, va_S.rf⟩
  have hl := lv_entry ([.ref b]) (n := 4) (Nat.le_of_ble_eq_true rfl)
  rw [lg_entry_eq]
  generalize (lg_sl ([.ref b]) ++ List.replicate (4 - (lg_sl ([.ref b])).length) Slot.unset).toArray = ls at hl ⊢
  have hl : lv_has ls 4 [(0, .ref b)] := hl
  refine hI.new (fs := [.null, .null, .null, .null, .null, .null, .null, .null, .null, .null, .int 0]) (ty := tyX9) hw mlay_X9 tyX9_ok mcl_L_7 minst_X9 mini_X9 (ci := 8) rfl (fun j hj => by rcases (show j = 0 ∨ j = 1 ∨ j = 2 ∨ j = 3 ∨ j = 4 ∨ j = 5 ∨ j = 6 ∨ j = 7 ∨ j = 8 ∨ j = 9 ∨ j = 10 by omega) with rfl | rfl | rfl | rfl | rfl | rfl | rfl | rfl | rfl | rfl | rfl <;> rfl) (Nat.le_of_ble_eq_true rfl) (Nat.le_of_ble_eq_true rfl) dL_law_0 (fun qs H hw => ?_)
  have hw : Wd g A s [(qs, .inr (8, [.null, .null, .null, .null, .null, .null, .null, .null, .null, .null, .int 0]))] H _ := hw
  refine lv_dup hx hb dL_law_3 rfl ?_
  refine hI.callN (As := []) (rest := [.ref qs]) hw (n_X9_init l g qs) ok_yX9_init ml_L_9 ⟨rfl, rfl, by decide, by decide⟩ [0] [] rfl rfl (wr := []) rfl rfl rfl rfl hl.1 (Nat.le_of_ble_eq_true rfl) dL_law_4 ⟨Nat.le_of_ble_eq_true rfl, Nat.le_of_ble_eq_true rfl⟩ (fun us H locs hw => ?_)
  have hw : Wd g A s [(qs, .inr (8, [.ref us.1.1.1.1.1, .ref us.1.1.2.2.1, .ref us.1.2.1.2.2, .ref us.2.1.1.1.2, .ref us.2.1.1.2.2, .ref us.2.1.2.1.2, .ref us.2.2.1.1.1, .ref us.2.2.1.1.2, .ref us.2.2.1.2.1, .ref us.2.2.2.2, .int (-1 : Int32)])), (us.1.1.1.1.1, .inr (4, [.ref us.1.1.1.1.2, .ref us.1.1.1.2.1, .ref us.1.1.1.2.2, .ref us.1.1.2.1.1, .ref us.1.1.2.1.2])), (us.1.1.1.1.2, .inl (g.2.1, 10, .inl (fun _ => 0))), (us.1.1.1.2.1, .inl (g.2.2, 10, .inl (fun _ => 0))), (us.1.1.1.2.2, .inl (g.2.1, 64, .inl (fun _ => 0))), (us.1.1.2.1.1, .inl (g.2.1, 4, .inl (f_J7_fill_53178 4 (fun _ => 0) (4 : Int32)))), (us.1.1.2.1.2, .inl (g.2.2, 4, .inl (fun _ => 0))), (us.1.1.2.2.1, .inr (2, [.ref us.1.1.2.2.2, .ref us.1.2.1.1.1, .ref us.1.2.1.1.2, .ref us.1.2.1.2.1, .int 0])), (us.1.1.2.2.2, .inl (g.2.1, 400, .inl (fun _ => 0))), (us.1.2.1.1.1, .inl (g.2.1, 400, .inl (fun _ => 0))), (us.1.2.1.1.2, .inl (g.2.1, 400, .inl (fun _ => 0))), (us.1.2.1.2.1, .inl (g.2.2, 400, .inl (fun _ => 0))), (us.1.2.1.2.2, .inr (2, [.ref us.1.2.2.1.1, .ref us.1.2.2.1.2, .ref us.1.2.2.2, .ref us.2.1.1.1.1, .int 0])), (us.1.2.2.1.1, .inl (g.2.1, 400, .inl (fun _ => 0))), (us.1.2.2.1.2, .inl (g.2.1, 400, .inl (fun _ => 0))), (us.1.2.2.2, .inl (g.2.1, 400, .inl (fun _ => 0))), (us.2.1.1.1.1, .inl (g.2.2, 400, .inl (fun _ => 0))), (us.2.1.1.1.2, .inr (5, [.ref us.2.1.1.2.1, .int 0])), (us.2.1.1.2.1, .inl (g.2.1, 2048, .inl (fun _ => 0))), (us.2.1.1.2.2, .inr (5, [.ref us.2.1.2.1.1, .int 0])), (us.2.1.2.1.1, .inl (g.2.1, 300, .inl (fun _ => 0))), (us.2.1.2.1.2, .inr (6, [.ref us.2.1.2.2.1, .long 0])), (us.2.1.2.2.1, .inr (5, [.ref us.2.1.2.2.2, .int 0])), (us.2.1.2.2.2, .inl (g.2.1, 5000, .inl (fun _ => 0))), (us.2.2.1.1.1, .inr (3, [.ref us.1.1.2.2.1, .ref us.1.1.1.1.1, .int 0, .int 0, .int (-1 : Int32)])), (us.2.2.1.1.2, .inr (0, [.ref us.1.2.1.2.2, .ref us.2.1.1.1.2])), (us.2.2.1.2.1, .inr (1, [.ref us.2.1.1.1.2, .ref us.1.1.1.1.1, .ref us.2.1.1.2.2, .ref us.2.1.2.1.2, .ref us.2.2.1.2.2, .ref us.2.2.2.1.1, .ref us.2.2.2.1.2, .int 0, .int 0])), (us.2.2.1.2.2, .inl (g.2.1, 64, .inl (fun _ => 0))), (us.2.2.2.1.1, .inl (g.2.1, 13, .inl (upd (fun _ => 0) (0 : Int32).toNatClampNeg (-1 : Int32)))), (us.2.2.2.1.2, .inl (g.2.1, 12, .inl (fun _ => 0))), (us.2.2.2.2, .inr (7, [.ref us.1.2.1.2.2, .ref us.1.1.1.1.1, .ref us.2.1.1.2.2, .int 0, .int 0]))] H locs := hw
  refine lv_astore_n (lv' := [(1, .ref qs), (0, .ref b)]) hx hb dL_law_7 rfl hl (by decide) rfl (fun ls hl => ?_)
  refine hI.new (fs := [.null, .int 0, .null, .null, .null, .null, .null, .null, .null, .int 0, .int 0, .int 0, .int 0, .int 0, .int 0, .null, .int 0, .null, .int 0, .long 0, .null, .int 0, .null, .null, .int 0, .int 0]) (ty := tyX10) hw mlay_X10 tyX10_ok mcl_L_10 minst_X10 mini_X10 (ci := 9) rfl (fun j hj => by rcases (show j = 0 ∨ j = 1 ∨ j = 2 ∨ j = 3 ∨ j = 4 ∨ j = 5 ∨ j = 6 ∨ j = 7 ∨ j = 8 ∨ j = 9 ∨ j = 10 ∨ j = 11 ∨ j = 12 ∨ j = 13 ∨ j = 14 ∨ j = 15 ∨ j = 16 ∨ j = 17 ∨ j = 18 ∨ j = 19 ∨ j = 20 ∨ j = 21 ∨ j = 22 ∨ j = 23 ∨ j = 24 ∨ j = 25 by omega) with rfl | rfl | rfl | rfl | rfl | rfl | rfl | rfl | rfl | rfl | rfl | rfl | rfl | rfl | rfl | rfl | rfl | rfl | rfl | rfl | rfl | rfl | rfl | rfl | rfl | rfl <;> rfl) (Nat.le_of_ble_eq_true rfl) (Nat.le_of_ble_eq_true rfl) dL_law_8 (fun qm H hw => ?_)
  have hw : Wd g A s [(qs, .inr (8, [.ref us.1.1.1.1.1, .ref us.1.1.2.2.1, .ref us.1.2.1.2.2, .ref us.2.1.1.1.2, .ref us.2.1.1.2.2, .ref us.2.1.2.1.2, .ref us.2.2.1.1.1, .ref us.2.2.1.1.2, .ref us.2.2.1.2.1, .ref us.2.2.2.2, .int (-1 : Int32)])), (us.1.1.1.1.1, .inr (4, [.ref us.1.1.1.1.2, .ref us.1.1.1.2.1, .ref us.1.1.1.2.2, .ref us.1.1.2.1.1, .ref us.1.1.2.1.2])), (us.1.1.1.1.2, .inl (g.2.1, 10, .inl (fun _ => 0))), (us.1.1.1.2.1, .inl (g.2.2, 10, .inl (fun _ => 0))), (us.1.1.1.2.2, .inl (g.2.1, 64, .inl (fun _ => 0))), (us.1.1.2.1.1, .inl (g.2.1, 4, .inl (f_J7_fill_53178 4 (fun _ => 0) (4 : Int32)))), (us.1.1.2.1.2, .inl (g.2.2, 4, .inl (fun _ => 0))), (us.1.1.2.2.1, .inr (2, [.ref us.1.1.2.2.2, .ref us.1.2.1.1.1, .ref us.1.2.1.1.2, .ref us.1.2.1.2.1, .int 0])), (us.1.1.2.2.2, .inl (g.2.1, 400, .inl (fun _ => 0))), (us.1.2.1.1.1, .inl (g.2.1, 400, .inl (fun _ => 0))), (us.1.2.1.1.2, .inl (g.2.1, 400, .inl (fun _ => 0))), (us.1.2.1.2.1, .inl (g.2.2, 400, .inl (fun _ => 0))), (us.1.2.1.2.2, .inr (2, [.ref us.1.2.2.1.1, .ref us.1.2.2.1.2, .ref us.1.2.2.2, .ref us.2.1.1.1.1, .int 0])), (us.1.2.2.1.1, .inl (g.2.1, 400, .inl (fun _ => 0))), (us.1.2.2.1.2, .inl (g.2.1, 400, .inl (fun _ => 0))), (us.1.2.2.2, .inl (g.2.1, 400, .inl (fun _ => 0))), (us.2.1.1.1.1, .inl (g.2.2, 400, .inl (fun _ => 0))), (us.2.1.1.1.2, .inr (5, [.ref us.2.1.1.2.1, .int 0])), (us.2.1.1.2.1, .inl (g.2.1, 2048, .inl (fun _ => 0))), (us.2.1.1.2.2, .inr (5, [.ref us.2.1.2.1.1, .int 0])), (us.2.1.2.1.1, .inl (g.2.1, 300, .inl (fun _ => 0))), (us.2.1.2.1.2, .inr (6, [.ref us.2.1.2.2.1, .long 0])), (us.2.1.2.2.1, .inr (5, [.ref us.2.1.2.2.2, .int 0])), (us.2.1.2.2.2, .inl (g.2.1, 5000, .inl (fun _ => 0))), (us.2.2.1.1.1, .inr (3, [.ref us.1.1.2.2.1, .ref us.1.1.1.1.1, .int 0, .int 0, .int (-1 : Int32)])), (us.2.2.1.1.2, .inr (0, [.ref us.1.2.1.2.2, .ref us.2.1.1.1.2])), (us.2.2.1.2.1, .inr (1, [.ref us.2.1.1.1.2, .ref us.1.1.1.1.1, .ref us.2.1.1.2.2, .ref us.2.1.2.1.2, .ref us.2.2.1.2.2, .ref us.2.2.2.1.1, .ref us.2.2.2.1.2, .int 0, .int 0])), (us.2.2.1.2.2, .inl (g.2.1, 64, .inl (fun _ => 0))), (us.2.2.2.1.1, .inl (g.2.1, 13, .inl (upd (fun _ => 0) (0 : Int32).toNatClampNeg (-1 : Int32)))), (us.2.2.2.1.2, .inl (g.2.1, 12, .inl (fun _ => 0))), (us.2.2.2.2, .inr (7, [.ref us.1.2.1.2.2, .ref us.1.1.1.1.1, .ref us.2.1.1.2.2, .int 0, .int 0])), (qm, .inr (9, [.null, .int 0, .null, .null, .null, .null, .null, .null, .null, .int 0, .int 0, .int 0, .int 0, .int 0, .int 0, .null, .int 0, .null, .int 0, .long 0, .null, .int 0, .null, .null, .int 0, .int 0]))] H _ := hw
  refine lv_dup hx hb dL_law_11 rfl ?_
  refine hI.callN (As := []) (rest := [.ref qm]) hw (n_X10_init l g qm) ok_yX10_init ml_L_12 ⟨rfl, rfl, by decide, by decide⟩ [31] [0, 1, 2, 3, 4, 5, 6, 7, 8, 9, 10, 11, 12, 13, 14, 15, 16, 17, 18, 19, 20, 21, 22, 23, 24, 25, 26, 27, 28, 29, 30] rfl rfl (wr := [(qs, .inr (8, [.ref us.1.1.1.1.1, .ref us.1.1.2.2.1, .ref us.1.2.1.2.2, .ref us.2.1.1.1.2, .ref us.2.1.1.2.2, .ref us.2.1.2.1.2, .ref us.2.2.1.1.1, .ref us.2.2.1.1.2, .ref us.2.2.1.2.1, .ref us.2.2.2.2, .int (-1 : Int32)])), (us.1.1.1.1.1, .inr (4, [.ref us.1.1.1.1.2, .ref us.1.1.1.2.1, .ref us.1.1.1.2.2, .ref us.1.1.2.1.1, .ref us.1.1.2.1.2])), (us.1.1.1.1.2, .inl (g.2.1, 10, .inl (fun _ => 0))), (us.1.1.1.2.1, .inl (g.2.2, 10, .inl (fun _ => 0))), (us.1.1.1.2.2, .inl (g.2.1, 64, .inl (fun _ => 0))), (us.1.1.2.1.1, .inl (g.2.1, 4, .inl (f_J7_fill_53178 4 (fun _ => 0) (4 : Int32)))), (us.1.1.2.1.2, .inl (g.2.2, 4, .inl (fun _ => 0))), (us.1.1.2.2.1, .inr (2, [.ref us.1.1.2.2.2, .ref us.1.2.1.1.1, .ref us.1.2.1.1.2, .ref us.1.2.1.2.1, .int 0])), (us.1.1.2.2.2, .inl (g.2.1, 400, .inl (fun _ => 0))), (us.1.2.1.1.1, .inl (g.2.1, 400, .inl (fun _ => 0))), (us.1.2.1.1.2, .inl (g.2.1, 400, .inl (fun _ => 0))), (us.1.2.1.2.1, .inl (g.2.2, 400, .inl (fun _ => 0))), (us.1.2.1.2.2, .inr (2, [.ref us.1.2.2.1.1, .ref us.1.2.2.1.2, .ref us.1.2.2.2, .ref us.2.1.1.1.1, .int 0])), (us.1.2.2.1.1, .inl (g.2.1, 400, .inl (fun _ => 0))), (us.1.2.2.1.2, .inl (g.2.1, 400, .inl (fun _ => 0))), (us.1.2.2.2, .inl (g.2.1, 400, .inl (fun _ => 0))), (us.2.1.1.1.1, .inl (g.2.2, 400, .inl (fun _ => 0))), (us.2.1.1.1.2, .inr (5, [.ref us.2.1.1.2.1, .int 0])), (us.2.1.1.2.1, .inl (g.2.1, 2048, .inl (fun _ => 0))), (us.2.1.1.2.2, .inr (5, [.ref us.2.1.2.1.1, .int 0])), (us.2.1.2.1.1, .inl (g.2.1, 300, .inl (fun _ => 0))), (us.2.1.2.1.2, .inr (6, [.ref us.2.1.2.2.1, .long 0])), (us.2.1.2.2.1, .inr (5, [.ref us.2.1.2.2.2, .int 0])), (us.2.1.2.2.2, .inl (g.2.1, 5000, .inl (fun _ => 0))), (us.2.2.1.1.1, .inr (3, [.ref us.1.1.2.2.1, .ref us.1.1.1.1.1, .int 0, .int 0, .int (-1 : Int32)])), (us.2.2.1.1.2, .inr (0, [.ref us.1.2.1.2.2, .ref us.2.1.1.1.2])), (us.2.2.1.2.1, .inr (1, [.ref us.2.1.1.1.2, .ref us.1.1.1.1.1, .ref us.2.1.1.2.2, .ref us.2.1.2.1.2, .ref us.2.2.1.2.2, .ref us.2.2.2.1.1, .ref us.2.2.2.1.2, .int 0, .int 0])), (us.2.2.1.2.2, .inl (g.2.1, 64, .inl (fun _ => 0))), (us.2.2.2.1.1, .inl (g.2.1, 13, .inl (upd (fun _ => 0) (0 : Int32).toNatClampNeg (-1 : Int32)))), (us.2.2.2.1.2, .inl (g.2.1, 12, .inl (fun _ => 0))), (us.2.2.2.2, .inr (7, [.ref us.1.2.1.2.2, .ref us.1.1.1.1.1, .ref us.2.1.1.2.2, .int 0, .int 0]))]) rfl rfl rfl rfl hl.1 (Nat.le_of_ble_eq_true rfl) dL_law_12 ⟨Nat.le_of_ble_eq_true rfl, Nat.le_of_ble_eq_true rfl⟩ (fun um H locs hw => ?_)
  have hw : Wd g A s [(qs, .inr (8, [.ref us.1.1.1.1.1, .ref us.1.1.2.2.1, .ref us.1.2.1.2.2, .ref us.2.1.1.1.2, .ref us.2.1.1.2.2, .ref us.2.1.2.1.2, .ref us.2.2.1.1.1, .ref us.2.2.1.1.2, .ref us.2.2.1.2.1, .ref us.2.2.2.2, .int (-1 : Int32)])), (us.1.1.1.1.1, .inr (4, [.ref us.1.1.1.1.2, .ref us.1.1.1.2.1, .ref us.1.1.1.2.2, .ref us.1.1.2.1.1, .ref us.1.1.2.1.2])), (us.1.1.1.1.2, .inl (g.2.1, 10, .inl (fun _ => 0))), (us.1.1.1.2.1, .inl (g.2.2, 10, .inl (fun _ => 0))), (us.1.1.1.2.2, .inl (g.2.1, 64, .inl (fun _ => 0))), (us.1.1.2.1.1, .inl (g.2.1, 4, .inl (f_J7_fill_53178 4 (fun _ => 0) (4 : Int32)))), (us.1.1.2.1.2, .inl (g.2.2, 4, .inl (fun _ => 0))), (us.1.1.2.2.1, .inr (2, [.ref us.1.1.2.2.2, .ref us.1.2.1.1.1, .ref us.1.2.1.1.2, .ref us.1.2.1.2.1, .int 0])), (us.1.1.2.2.2, .inl (g.2.1, 400, .inl (fun _ => 0))), (us.1.2.1.1.1, .inl (g.2.1, 400, .inl (fun _ => 0))), (us.1.2.1.1.2, .inl (g.2.1, 400, .inl (fun _ => 0))), (us.1.2.1.2.1, .inl (g.2.2, 400, .inl (fun _ => 0))), (us.1.2.1.2.2, .inr (2, [.ref us.1.2.2.1.1, .ref us.1.2.2.1.2, .ref us.1.2.2.2, .ref us.2.1.1.1.1, .int 0])), (us.1.2.2.1.1, .inl (g.2.1, 400, .inl (fun _ => 0))), (us.1.2.2.1.2, .inl (g.2.1, 400, .inl (fun _ => 0))), (us.1.2.2.2, .inl (g.2.1, 400, .inl (fun _ => 0))), (us.2.1.1.1.1, .inl (g.2.2, 400, .inl (fun _ => 0))), (us.2.1.1.1.2, .inr (5, [.ref us.2.1.1.2.1, .int 0])), (us.2.1.1.2.1, .inl (g.2.1, 2048, .inl (fun _ => 0))), (us.2.1.1.2.2, .inr (5, [.ref us.2.1.2.1.1, .int 0])), (us.2.1.2.1.1, .inl (g.2.1, 300, .inl (fun _ => 0))), (us.2.1.2.1.2, .inr (6, [.ref us.2.1.2.2.1, .long 0])), (us.2.1.2.2.1, .inr (5, [.ref us.2.1.2.2.2, .int 0])), (us.2.1.2.2.2, .inl (g.2.1, 5000, .inl (fun _ => 0))), (us.2.2.1.1.1, .inr (3, [.ref us.1.1.2.2.1, .ref us.1.1.1.1.1, .int 0, .int 0, .int (-1 : Int32)])), (us.2.2.1.1.2, .inr (0, [.ref us.1.2.1.2.2, .ref us.2.1.1.1.2])), (us.2.2.1.2.1, .inr (1, [.ref us.2.1.1.1.2, .ref us.1.1.1.1.1, .ref us.2.1.1.2.2, .ref us.2.1.2.1.2, .ref us.2.2.1.2.2, .ref us.2.2.2.1.1, .ref us.2.2.2.1.2, .int 0, .int 0])), (us.2.2.1.2.2, .inl (g.2.1, 64, .inl (fun _ => 0))), (us.2.2.2.1.1, .inl (g.2.1, 13, .inl (upd (fun _ => 0) (0 : Int32).toNatClampNeg (-1 : Int32)))), (us.2.2.2.1.2, .inl (g.2.1, 12, .inl (fun _ => 0))), (us.2.2.2.2, .inr (7, [.ref us.1.2.1.2.2, .ref us.1.1.1.1.1, .ref us.2.1.1.2.2, .int 0, .int 0])), (qm, .inr (9, [.ref um.1.1.1.1, .int 0, .ref um.1.1.1.2, .ref um.1.1.2.1, .ref um.1.1.2.2, .ref um.1.2.1.1, .ref um.1.2.1.2, .ref um.1.2.2, .ref um.2.1.1.1, .int 0, .int 0, .int (-1 : Int32), .int 0, .int 0, .int 0, .ref um.2.1.1.2, .int 0, .ref um.2.1.2, .int 0, .long 0, .ref um.2.2.1.1, .int 0, .ref um.2.2.1.2, .ref um.2.2.2, .int 0, .int 0])), (um.1.1.1.1, .inl (g.2.1, 400, .inl (fun _ => 0))), (um.1.1.1.2, .inl (g.2.2, 10, .inl (fun _ => 0))), (um.1.1.2.1, .inl (g.2.2, 4, .inl (fun _ => 0))), (um.1.1.2.2, .inl (g.2.1, 10, .inl (fun _ => 0))), (um.1.2.1.1, .inl (g.2.1, 64, .inl (fun _ => 0))), (um.1.2.1.2, .inl (g.2.1, 4, .inl (upd (upd (upd (upd (fun _ => 0) (0 : Int32).toNatClampNeg (4 : Int32)) (1 : Int32).toNatClampNeg (4 : Int32)) (2 : Int32).toNatClampNeg (4 : Int32)) (3 : Int32).toNatClampNeg (4 : Int32)))), (um.1.2.2, .inl (g.2.1, 400, .inl (fun _ => 0))), (um.2.1.1.1, .inl (g.2.1, 4000, .inl (fun _ => 0))), (um.2.1.1.2, .inl (g.2.1, 300, .inl (fun _ => 0))), (um.2.1.2, .inl (g.2.1, 5000, .inl (fun _ => 0))), (um.2.2.1.1, .inl (g.2.1, 200, .inl (fun _ => 0))), (um.2.2.1.2, .inl (g.2.1, 14, .inl (fun _ => 0))), (um.2.2.2, .inl (g.2.1, 14, .inl (fun _ => 0)))] H locs := hw
  refine lv_astore_n (lv' := [(2, .ref qm), (1, .ref qs), (0, .ref b)]) hx hb dL_law_15 rfl hl (by decide) rfl (fun ls hl => ?_)
  refine lv_iconst (v := (0 : Int32)) hx hb dL_law_16 (by decide) ?_
  refine lv_istore_n (lv' := [(3, .int 0), (2, .ref qm), (1, .ref qs), (0, .ref b)]) hx hb dL_law_17 rfl hl (by decide) rfl (fun ls hl => ?_)
  have hw : Wd g A s (wL qs (adL [us.1.1.1.1.1, us.1.1.1.1.2, us.1.1.1.2.1, us.1.1.1.2.2, us.1.1.2.1.1, us.1.1.2.1.2]) (adL [us.1.1.2.2.1, us.1.1.2.2.2, us.1.2.1.1.1, us.1.2.1.1.2, us.1.2.1.2.1]) (adL [us.1.2.1.2.2, us.1.2.2.1.1, us.1.2.2.1.2, us.1.2.2.2, us.2.1.1.1.1]) (adL [us.2.1.1.1.2, us.2.1.1.2.1]) (adL [us.2.1.1.2.2, us.2.1.2.1.1]) us.2.1.2.1.2 (adL [us.2.1.2.2.1, us.2.1.2.2.2]) us.2.2.1.1.1 us.2.2.1.1.2 (adL [us.2.2.1.2.1, us.2.2.1.2.2, us.2.2.2.1.1, us.2.2.2.1.2]) us.2.2.2.2 (adL [qm, um.1.1.1.1, um.1.1.1.2, um.1.1.2.1, um.1.1.2.2, um.1.2.1.1, um.1.2.1.2, um.1.2.2, um.2.1.1.1, um.2.1.1.2, um.2.1.2, um.2.2.1.1, um.2.2.1.2, um.2.2.2]) g σ0 μ0) H locs := hw.perm [0, 1, 2, 3, 4, 5, 6, 7, 8, 9, 10, 11, 12, 13, 14, 15, 16, 17, 18, 19, 20, 21, 22, 23, 24, 25, 26, 27, 28, 29, 30, 31, 32, 33, 34, 35, 36, 37, 38, 39, 40, 41, 42, 43, 44] rfl rfl
  refine W.widen (k := 600000) (n := 7302250) (Nat.le_of_ble_eq_true rfl) (Nat.le_of_ble_eq_true rfl) ?_
  exact law_loop l Rel hG qs (adL [us.1.1.1.1.1, us.1.1.1.1.2, us.1.1.1.2.1, us.1.1.1.2.2, us.1.1.2.1.1, us.1.1.2.1.2]) (adL [us.1.1.2.2.1, us.1.1.2.2.2, us.1.2.1.1.1, us.1.2.1.1.2, us.1.2.1.2.1]) (adL [us.1.2.1.2.2, us.1.2.2.1.1, us.1.2.2.1.2, us.1.2.2.2, us.2.1.1.1.1]) (adL [us.2.1.1.1.2, us.2.1.1.2.1]) (adL [us.2.1.1.2.2, us.2.1.2.1.1]) us.2.1.2.1.2 (adL [us.2.1.2.2.1, us.2.1.2.2.2]) us.2.2.1.1.1 us.2.2.1.1.2 (adL [us.2.2.1.2.1, us.2.2.1.2.2, us.2.2.2.1.1, us.2.2.2.1.2]) us.2.2.2.2 (adL [qm, um.1.1.1.1, um.1.1.1.2, um.1.1.2.1, um.1.1.2.2, um.1.2.1.1, um.1.2.1.2, um.1.2.2, um.2.1.1.1, um.2.1.1.2, um.2.1.2, um.2.2.1.1, um.2.2.1.2, um.2.2.2]) hL hI hA2 hX hbl hbA (L + 1) 0 0 (Nat.zero_le L) (by omega) rfl σ0 μ0 h0 H locs hw ls hl
