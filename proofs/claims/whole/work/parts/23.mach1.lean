abbrev S_Mach : Type := ((((((Nat → Int32) × (Nat → Int32)) × (Nat → Int32)) × (Int32 × Int32)) × (((Nat → Int32) × Int32) × ((Nat → Int32) × (Nat → Int32)))) × ((((Nat → Int32) × (Nat → Int32)) × ((Nat → Int32) × (Nat → Int32))) × ((Int32 × (Nat → Int32)) × (Int32 × Int64))))
def w_Mach (u : Nat → Nat) (tc : Nat → Nat) (q : Nat → Nat) (tt : Nat → Nat) (z : Nat) (tr : Nat → Nat) (g : GG) (σ : S_Mach) : va_W := [(u 0, .inr (1, [.ref (tc 0), .ref (q 0), .ref (tt 0), .ref z, .ref (u 1), .ref (u 2), .ref (u 3), .int σ.1.1.2.1, .int σ.1.1.2.2])), (u 1, .inl (g.2.1, 64, .inl σ.1.1.1.1.1)), (u 2, .inl (g.2.1, 13, .inl σ.1.1.1.1.2)), (u 3, .inl (g.2.1, 12, .inl σ.1.1.1.2)), (tc 0, .inr (5, [.ref (tc 1), .int σ.1.2.1.2])), (tc 1, .inl (g.2.1, 2048, .inl σ.1.2.1.1)), (q 0, .inr (4, [.ref (q 1), .ref (q 2), .ref (q 3), .ref (q 4), .ref (q 5)])), (q 1, .inl (g.2.1, 10, .inl σ.1.2.2.1)), (q 2, .inl (g.2.2, 10, .inl σ.1.2.2.2)), (q 3, .inl (g.2.1, 64, .inl σ.2.1.1.1)), (q 4, .inl (g.2.1, 4, .inl σ.2.1.1.2)), (q 5, .inl (g.2.2, 4, .inl σ.2.1.2.1)), (tt 0, .inr (5, [.ref (tt 1), .int σ.2.2.1.1])), (tt 1, .inl (g.2.1, 300, .inl σ.2.1.2.2)), (z, .inr (6, [.ref (tr 0), .long σ.2.2.2.2])), (tr 0, .inr (5, [.ref (tr 1), .int σ.2.2.2.1])), (tr 1, .inl (g.2.1, 5000, .inl σ.2.2.1.2))]
theorem pop_in {h : Int32} (h1 : ¬ h ≤ 0) (h2 : h ≤ (64 : Int32)) : vp_in (h - 1) 64 := by
  obtain ⟨j, hj, rfl⟩ := nI_of (x := h) (fun z => h1 (Int32.le_of_lt z))
  have h0 : 0 < j := by
    rcases Nat.eq_zero_or_pos j with z | z
    · subst z; exact absurd (by decide) h1
    · exact z
  have h3 : j ≤ 64 := (nI_leI hj (by decide)).mp h2
  obtain ⟨i, rfl⟩ : ∃ i, j = i + 1 := ⟨j - 1, by omega⟩
  rw [show ((1 : Int32)) = 1 from rfl, nI_pred]
  exact vp_in_nI (by omega) (by decide)
def f_X1_push (pile : Nat → Int32) (hgt : Int32) (x1 : Int32) : ((Nat → Int32) × Int32) := if hgt < 0 then ((pile, hgt)) else if (64 : Int32) ≤ hgt then ((pile, hgt)) else ((upd pile hgt.toNatClampNeg x1, hgt + (1 : Int32)))
def rb_X1_push (σ : S_Mach) (o : ((Nat → Int32) × Int32)) : S_Mach := (((((o.1, σ.1.1.1.1.2), σ.1.1.1.2), (o.2, σ.1.1.2.2)), ((σ.1.2.1.1, σ.1.2.1.2), (σ.1.2.2.1, σ.1.2.2.2))), (((σ.2.1.1.1, σ.2.1.1.2), (σ.2.1.2.1, σ.2.1.2.2)), ((σ.2.2.1.1, σ.2.2.1.2), (σ.2.2.2.1, σ.2.2.2.2))))
set_option maxHeartbeats 4000000 in
set_option maxRecDepth 100000 in
theorem c_X1_push (l : Launch) (g : GG) (u : Nat → Nat) (tc : Nat → Nat) (q : Nat → Nat) (tt : Nat → Nat) (z : Nat) (tr : Nat → Nat) (pile : Nat → Int32) (mks : Nat → Int32) (cts : Nat → Int32) (hgt : Int32) (nxt : Int32) (c_kept : Nat → Int32) (c_size : Int32) (num : Nat → Int32) (sn : Nat → Int32) (cel : Nat → Int32) (szs : Nat → Int32) (stb : Nat → Int32) (t_kept : Nat → Int32) (t_size : Int32) (r_kept : Nat → Int32) (r_size : Int32) (sum : Int64) (x1 : Int32) : CV l g yX1_push cX1_push 2 none (rmN 0) (w_Mach u tc q tt z tr g) [.ref (u 0), .int x1] (((((pile, mks), cts), (hgt, nxt)), ((c_kept, c_size), (num, sn))), (((cel, szs), (stb, t_kept)), ((t_size, r_kept), (r_size, sum)))) (rb_X1_push (((((pile, mks), cts), (hgt, nxt)), ((c_kept, c_size), (num, sn))), (((cel, szs), (stb, t_kept)), ((t_size, r_kept), (r_size, sum)))) (f_X1_push pile hgt x1)) := by
  refine CV.mk (by decide) (Nat.le_of_ble_eq_true rfl) ?_
  intro p e s m below meth c A ls hI hw hl
  have hx := hI.1
  have hb := hI.2.1
  obtain ⟨r, hr⟩ : ∃ r, r = rb_X1_push (((((pile, mks), cts), (hgt, nxt)), ((c_kept, c_size), (num, sn))), (((cel, szs), (stb, t_kept)), ((t_size, r_kept), (r_size, sum)))) (f_X1_push pile hgt x1) := ⟨_, rfl⟩
  rw [← hr]
  have hl : lv_has ls 2 [(0, .ref (u 0)), (1, .int x1)] := hl
  refine lv_aload_n hx hb dX1_push_0 rfl (lv_at hl 0 rfl) ?_
  refine hI.get (v := .int hgt) hw fg_X1_44 0 rfl rfl dX1_push_1 ?_
  refine lv_if_lt (tgt := 39) hx hb dX1_push_4 (by decide) (fun c1 => ?_) (fun c1 => ?_)
  · exact hI.retV (u := (((((pile, mks), cts), (hgt, nxt)), ((c_kept, c_size), (num, sn))), (((cel, szs), (stb, t_kept)), ((t_size, r_kept), (r_size, sum))))) hw (hr.trans (congrArg (rb_X1_push (((((pile, mks), cts), (hgt, nxt)), ((c_kept, c_size), (num, sn))), (((cel, szs), (stb, t_kept)), ((t_size, r_kept), (r_size, sum))))) ((show f_X1_push pile hgt x1 = ((pile, hgt)) from it_t c1 (rfl))))) dX1_push_39
  · refine lv_aload_n hx hb dX1_push_7 rfl (lv_at hl 0 rfl) ?_
    refine hI.get (v := .int hgt) hw fg_X1_44 0 rfl rfl dX1_push_8 ?_
    refine lv_aload_n hx hb dX1_push_11 rfl (lv_at hl 0 rfl) ?_
    refine hI.get (v := .ref (u 1)) hw fg_X1_26 0 rfl rfl dX1_push_12 ?_
    refine hI.alenI hw 1 rfl dX1_push_15 ?_
    refine W.eq (g2 := F0 m 16 ls [.int (64 : Int32), .int hgt]) rfl ?_
    refine lv_icmp_ge (tgt := 39) hx hb dX1_push_16 (by decide) (fun c2 => ?_) (fun c2 => ?_)
    · exact hI.retV (u := (((((pile, mks), cts), (hgt, nxt)), ((c_kept, c_size), (num, sn))), (((cel, szs), (stb, t_kept)), ((t_size, r_kept), (r_size, sum))))) hw (hr.trans (congrArg (rb_X1_push (((((pile, mks), cts), (hgt, nxt)), ((c_kept, c_size), (num, sn))), (((cel, szs), (stb, t_kept)), ((t_size, r_kept), (r_size, sum))))) ((show f_X1_push pile hgt x1 = ((pile, hgt)) from it_f c1 (it_t c2 (rfl)))))) dX1_push_39
    · refine lv_aload_n hx hb dX1_push_19 rfl (lv_at hl 0 rfl) ?_
      refine hI.get (v := .ref (u 1)) hw fg_X1_26 0 rfl rfl dX1_push_20 ?_
      refine lv_aload_n hx hb dX1_push_23 rfl (lv_at hl 0 rfl) ?_
      refine hI.get (v := .int hgt) hw fg_X1_44 0 rfl rfl dX1_push_24 ?_
      refine lv_iload_n hx hb dX1_push_27 rfl (lv_at hl 1 rfl) ?_
      refine hI.iast hw 1 rfl (vin_c (n := 64) c1 c2 (by decide)) dX1_push_28 (fun H locs hw => ?_)
      have hw : Wd g A s (w_Mach u tc q tt z tr g (((((upd pile hgt.toNatClampNeg x1, mks), cts), (hgt, nxt)), ((c_kept, c_size), (num, sn))), (((cel, szs), (stb, t_kept)), ((t_size, r_kept), (r_size, sum))))) H locs := hw
      refine lv_aload_n hx hb dX1_push_29 rfl (lv_at hl 0 rfl) ?_
      refine lv_dup hx hb dX1_push_30 rfl ?_
      refine hI.get (v := .int hgt) hw fg_X1_44 0 rfl rfl dX1_push_31 ?_
      refine lv_iconst (v := (1 : Int32)) hx hb dX1_push_34 (by decide) ?_
      refine lv_iadd hx hb dX1_push_35 ?_
      refine hI.put hw fp_X1_44 rfl 0 rfl rfl rfl (Nat.le_of_ble_eq_true rfl) dX1_push_36 (fun H locs hw => ?_)
      have hw : Wd g A s (w_Mach u tc q tt z tr g (((((upd pile hgt.toNatClampNeg x1, mks), cts), (hgt + (1 : Int32), nxt)), ((c_kept, c_size), (num, sn))), (((cel, szs), (stb, t_kept)), ((t_size, r_kept), (r_size, sum))))) H locs := hw
      exact hI.retV (u := (((((upd pile hgt.toNatClampNeg x1, mks), cts), (hgt + (1 : Int32), nxt)), ((c_kept, c_size), (num, sn))), (((cel, szs), (stb, t_kept)), ((t_size, r_kept), (r_size, sum))))) hw (hr.trans (congrArg (rb_X1_push (((((pile, mks), cts), (hgt, nxt)), ((c_kept, c_size), (num, sn))), (((cel, szs), (stb, t_kept)), ((t_size, r_kept), (r_size, sum))))) ((show f_X1_push pile hgt x1 = ((upd pile hgt.toNatClampNeg x1, hgt + (1 : Int32))) from it_f c1 (it_f c2 (rfl)))))) dX1_push_39
def f_X1_pop (pile : Nat → Int32) (hgt : Int32) : Int32 × Int32 := if hgt ≤ 0 then ((0 : Int32), hgt) else if hgt ≤ (64 : Int32) then (pile (hgt - (1 : Int32)).toNatClampNeg, hgt - (1 : Int32)) else ((0 : Int32), hgt)
def rb_X1_pop (σ : S_Mach) (o : Int32 × Int32) : Int32 × S_Mach := (o.1, (((((σ.1.1.1.1.1, σ.1.1.1.1.2), σ.1.1.1.2), (o.2, σ.1.1.2.2)), ((σ.1.2.1.1, σ.1.2.1.2), (σ.1.2.2.1, σ.1.2.2.2))), (((σ.2.1.1.1, σ.2.1.1.2), (σ.2.1.2.1, σ.2.1.2.2)), ((σ.2.2.1.1, σ.2.2.1.2), (σ.2.2.2.1, σ.2.2.2.2)))))
set_option maxHeartbeats 4000000 in
set_option maxRecDepth 100000 in
theorem c_X1_pop (l : Launch) (g : GG) (u : Nat → Nat) (tc : Nat → Nat) (q : Nat → Nat) (tt : Nat → Nat) (z : Nat) (tr : Nat → Nat) (pile : Nat → Int32) (mks : Nat → Int32) (cts : Nat → Int32) (hgt : Int32) (nxt : Int32) (c_kept : Nat → Int32) (c_size : Int32) (num : Nat → Int32) (sn : Nat → Int32) (cel : Nat → Int32) (szs : Nat → Int32) (stb : Nat → Int32) (t_kept : Nat → Int32) (t_size : Int32) (r_kept : Nat → Int32) (r_size : Int32) (sum : Int64) : CI l g yX1_pop cX1_pop 1 (some .int) (rmN 0) (w_Mach u tc q tt z tr g) [.ref (u 0)] (((((pile, mks), cts), (hgt, nxt)), ((c_kept, c_size), (num, sn))), (((cel, szs), (stb, t_kept)), ((t_size, r_kept), (r_size, sum)))) (rb_X1_pop (((((pile, mks), cts), (hgt, nxt)), ((c_kept, c_size), (num, sn))), (((cel, szs), (stb, t_kept)), ((t_size, r_kept), (r_size, sum)))) (f_X1_pop pile hgt)) := by
  refine CI.mk (by decide) (Nat.le_of_ble_eq_true rfl) ?_
  intro p e s m below meth c A ls hI hw hl
  have hx := hI.1
  have hb := hI.2.1
  obtain ⟨r, hr⟩ : ∃ r, r = rb_X1_pop (((((pile, mks), cts), (hgt, nxt)), ((c_kept, c_size), (num, sn))), (((cel, szs), (stb, t_kept)), ((t_size, r_kept), (r_size, sum)))) (f_X1_pop pile hgt) := ⟨_, rfl⟩
  rw [← hr]
  have hl : lv_has ls 1 [(0, .ref (u 0))] := hl
  refine lv_aload_n hx hb dX1_pop_0 rfl (lv_at hl 0 rfl) ?_
  refine hI.get (v := .int hgt) hw fg_X1_44 0 rfl rfl dX1_pop_1 ?_
  refine lv_if_le (tgt := 19) hx hb dX1_pop_4 (by decide) (fun c1 => ?_) (fun c1 => ?_)
  · refine lv_iconst (v := (0 : Int32)) hx hb dX1_pop_19 (by decide) ?_
    exact hI.retI (u := (((((pile, mks), cts), (hgt, nxt)), ((c_kept, c_size), (num, sn))), (((cel, szs), (stb, t_kept)), ((t_size, r_kept), (r_size, sum))))) hw (hr.trans (congrArg (rb_X1_pop (((((pile, mks), cts), (hgt, nxt)), ((c_kept, c_size), (num, sn))), (((cel, szs), (stb, t_kept)), ((t_size, r_kept), (r_size, sum))))) ((show f_X1_pop pile hgt = ((0 : Int32), hgt) from it_t c1 (rfl))))) dX1_pop_20
  · refine lv_aload_n hx hb dX1_pop_7 rfl (lv_at hl 0 rfl) ?_
    refine hI.get (v := .int hgt) hw fg_X1_44 0 rfl rfl dX1_pop_8 ?_
    refine lv_aload_n hx hb dX1_pop_11 rfl (lv_at hl 0 rfl) ?_
    refine hI.get (v := .ref (u 1)) hw fg_X1_26 0 rfl rfl dX1_pop_12 ?_
    refine hI.alenI hw 1 rfl dX1_pop_15 ?_
    refine W.eq (g2 := F0 m 16 ls [.int (64 : Int32), .int hgt]) rfl ?_
    refine lv_icmp_le (tgt := 21) hx hb dX1_pop_16 (by decide) (fun c2 => ?_) (fun c2 => ?_)
    · refine lv_aload_n hx hb dX1_pop_21 rfl (lv_at hl 0 rfl) ?_
      refine lv_dup hx hb dX1_pop_22 rfl ?_
      refine hI.get (v := .int hgt) hw fg_X1_44 0 rfl rfl dX1_pop_23 ?_
      refine lv_iconst (v := (1 : Int32)) hx hb dX1_pop_26 (by decide) ?_
      refine lv_isub hx hb dX1_pop_27 ?_
      refine hI.put hw fp_X1_44 rfl 0 rfl rfl rfl (Nat.le_of_ble_eq_true rfl) dX1_pop_28 (fun H locs hw => ?_)
      have hw : Wd g A s (w_Mach u tc q tt z tr g (((((pile, mks), cts), (hgt - (1 : Int32), nxt)), ((c_kept, c_size), (num, sn))), (((cel, szs), (stb, t_kept)), ((t_size, r_kept), (r_size, sum))))) H locs := hw
      refine lv_aload_n hx hb dX1_pop_31 rfl (lv_at hl 0 rfl) ?_
      refine hI.get (v := .ref (u 1)) hw fg_X1_26 0 rfl rfl dX1_pop_32 ?_
      refine lv_aload_n hx hb dX1_pop_35 rfl (lv_at hl 0 rfl) ?_
      refine hI.get (v := .int (hgt - (1 : Int32))) hw fg_X1_44 0 rfl rfl dX1_pop_36 ?_
      refine hI.iald hw 1 rfl (pop_in c1 c2) dX1_pop_39 ?_
      exact hI.retI (u := (((((pile, mks), cts), (hgt - (1 : Int32), nxt)), ((c_kept, c_size), (num, sn))), (((cel, szs), (stb, t_kept)), ((t_size, r_kept), (r_size, sum))))) hw (hr.trans (congrArg (rb_X1_pop (((((pile, mks), cts), (hgt, nxt)), ((c_kept, c_size), (num, sn))), (((cel, szs), (stb, t_kept)), ((t_size, r_kept), (r_size, sum))))) ((show f_X1_pop pile hgt = (pile (hgt - (1 : Int32)).toNatClampNeg, hgt - (1 : Int32)) from it_f c1 (it_t c2 (rfl)))))) dX1_pop_40
    · refine lv_iconst (v := (0 : Int32)) hx hb dX1_pop_19 (by decide) ?_
      exact hI.retI (u := (((((pile, mks), cts), (hgt, nxt)), ((c_kept, c_size), (num, sn))), (((cel, szs), (stb, t_kept)), ((t_size, r_kept), (r_size, sum))))) hw (hr.trans (congrArg (rb_X1_pop (((((pile, mks), cts), (hgt, nxt)), ((c_kept, c_size), (num, sn))), (((cel, szs), (stb, t_kept)), ((t_size, r_kept), (r_size, sum))))) ((show f_X1_pop pile hgt = ((0 : Int32), hgt) from it_f c1 (it_f c2 (rfl)))))) dX1_pop_20
def f_X1_maskAt (mks : Nat → Int32) (x1 : Int32) : Int32 := if x1 < 0 then ((0 : Int32)) else if (13 : Int32) ≤ x1 then ((0 : Int32)) else (mks x1.toNatClampNeg)
def rb_X1_maskAt (σ : S_Mach) (o : Int32) : Int32 × S_Mach := (o, σ)
set_option maxHeartbeats 4000000 in
set_option maxRecDepth 100000 in
theorem c_X1_maskAt (l : Launch) (g : GG) (u : Nat → Nat) (tc : Nat → Nat) (q : Nat → Nat) (tt : Nat → Nat) (z : Nat) (tr : Nat → Nat) (pile : Nat → Int32) (mks : Nat → Int32) (cts : Nat → Int32) (hgt : Int32) (nxt : Int32) (c_kept : Nat → Int32) (c_size : Int32) (num : Nat → Int32) (sn : Nat → Int32) (cel : Nat → Int32) (szs : Nat → Int32) (stb : Nat → Int32) (t_kept : Nat → Int32) (t_size : Int32) (r_kept : Nat → Int32) (r_size : Int32) (sum : Int64) (x1 : Int32) : CI l g yX1_maskAt cX1_maskAt 2 (some .int) (rmN 0) (w_Mach u tc q tt z tr g) [.ref (u 0), .int x1] (((((pile, mks), cts), (hgt, nxt)), ((c_kept, c_size), (num, sn))), (((cel, szs), (stb, t_kept)), ((t_size, r_kept), (r_size, sum)))) (rb_X1_maskAt (((((pile, mks), cts), (hgt, nxt)), ((c_kept, c_size), (num, sn))), (((cel, szs), (stb, t_kept)), ((t_size, r_kept), (r_size, sum)))) (f_X1_maskAt mks x1)) := by
  refine CI.mk (by decide) (Nat.le_of_ble_eq_true rfl) ?_
  intro p e s m below meth c A ls hI hw hl
  have hx := hI.1
  have hb := hI.2.1
  obtain ⟨r, hr⟩ : ∃ r, r = rb_X1_maskAt (((((pile, mks), cts), (hgt, nxt)), ((c_kept, c_size), (num, sn))), (((cel, szs), (stb, t_kept)), ((t_size, r_kept), (r_size, sum)))) (f_X1_maskAt mks x1) := ⟨_, rfl⟩
  rw [← hr]
  have hl : lv_has ls 2 [(0, .ref (u 0)), (1, .int x1)] := hl
  refine lv_iload_n hx hb dX1_maskAt_0 rfl (lv_at hl 1 rfl) ?_
  refine lv_if_lt (tgt := 22) hx hb dX1_maskAt_1 (by decide) (fun c1 => ?_) (fun c1 => ?_)
  · refine lv_iconst (v := (0 : Int32)) hx hb dX1_maskAt_22 (by decide) ?_
    exact hI.retI (u := (((((pile, mks), cts), (hgt, nxt)), ((c_kept, c_size), (num, sn))), (((cel, szs), (stb, t_kept)), ((t_size, r_kept), (r_size, sum))))) hw (hr.trans (congrArg (rb_X1_maskAt (((((pile, mks), cts), (hgt, nxt)), ((c_kept, c_size), (num, sn))), (((cel, szs), (stb, t_kept)), ((t_size, r_kept), (r_size, sum))))) ((show f_X1_maskAt mks x1 = ((0 : Int32)) from it_t c1 (rfl))))) dX1_maskAt_23
  · refine lv_iload_n hx hb dX1_maskAt_4 rfl (lv_at hl 1 rfl) ?_
    refine lv_aload_n hx hb dX1_maskAt_5 rfl (lv_at hl 0 rfl) ?_
    refine hI.get (v := .ref (u 2)) hw fg_X1_30 0 rfl rfl dX1_maskAt_6 ?_
    refine hI.alenI hw 2 rfl dX1_maskAt_9 ?_
    refine W.eq (g2 := F0 m 10 ls [.int (13 : Int32), .int x1]) rfl ?_
    refine lv_icmp_ge (tgt := 22) hx hb dX1_maskAt_10 (by decide) (fun c2 => ?_) (fun c2 => ?_)
    · refine lv_iconst (v := (0 : Int32)) hx hb dX1_maskAt_22 (by decide) ?_
      exact hI.retI (u := (((((pile, mks), cts), (hgt, nxt)), ((c_kept, c_size), (num, sn))), (((cel, szs), (stb, t_kept)), ((t_size, r_kept), (r_size, sum))))) hw (hr.trans (congrArg (rb_X1_maskAt (((((pile, mks), cts), (hgt, nxt)), ((c_kept, c_size), (num, sn))), (((cel, szs), (stb, t_kept)), ((t_size, r_kept), (r_size, sum))))) ((show f_X1_maskAt mks x1 = ((0 : Int32)) from it_f c1 (it_t c2 (rfl)))))) dX1_maskAt_23
    · refine lv_aload_n hx hb dX1_maskAt_13 rfl (lv_at hl 0 rfl) ?_
      refine hI.get (v := .ref (u 2)) hw fg_X1_30 0 rfl rfl dX1_maskAt_14 ?_
      refine lv_iload_n hx hb dX1_maskAt_17 rfl (lv_at hl 1 rfl) ?_
      refine hI.iald hw 2 rfl (vin_c (n := 13) c1 c2 (by decide)) dX1_maskAt_18 ?_
      refine lv_goto (tgt := 23) hx hb dX1_maskAt_19 (by decide) ?_
      exact hI.retI (u := (((((pile, mks), cts), (hgt, nxt)), ((c_kept, c_size), (num, sn))), (((cel, szs), (stb, t_kept)), ((t_size, r_kept), (r_size, sum))))) hw (hr.trans (congrArg (rb_X1_maskAt (((((pile, mks), cts), (hgt, nxt)), ((c_kept, c_size), (num, sn))), (((cel, szs), (stb, t_kept)), ((t_size, r_kept), (r_size, sum))))) ((show f_X1_maskAt mks x1 = (mks x1.toNatClampNeg) from it_f c1 (it_f c2 (rfl)))))) dX1_maskAt_23
def f_X1_setMask (mks : Nat → Int32) (x1 : Int32) (x2 : Int32) : (Nat → Int32) := if x1 ≤ 0 then (mks) else if (13 : Int32) ≤ x1 then (mks) else (upd mks x1.toNatClampNeg x2)
def rb_X1_setMask (σ : S_Mach) (o : (Nat → Int32)) : S_Mach := (((((σ.1.1.1.1.1, o), σ.1.1.1.2), (σ.1.1.2.1, σ.1.1.2.2)), ((σ.1.2.1.1, σ.1.2.1.2), (σ.1.2.2.1, σ.1.2.2.2))), (((σ.2.1.1.1, σ.2.1.1.2), (σ.2.1.2.1, σ.2.1.2.2)), ((σ.2.2.1.1, σ.2.2.1.2), (σ.2.2.2.1, σ.2.2.2.2))))
set_option maxHeartbeats 4000000 in
set_option maxRecDepth 100000 in
theorem c_X1_setMask (l : Launch) (g : GG) (u : Nat → Nat) (tc : Nat → Nat) (q : Nat → Nat) (tt : Nat → Nat) (z : Nat) (tr : Nat → Nat) (pile : Nat → Int32) (mks : Nat → Int32) (cts : Nat → Int32) (hgt : Int32) (nxt : Int32) (c_kept : Nat → Int32) (c_size : Int32) (num : Nat → Int32) (sn : Nat → Int32) (cel : Nat → Int32) (szs : Nat → Int32) (stb : Nat → Int32) (t_kept : Nat → Int32) (t_size : Int32) (r_kept : Nat → Int32) (r_size : Int32) (sum : Int64) (x1 : Int32) (x2 : Int32) : CV l g yX1_setMask cX1_setMask 3 none (rmN 0) (w_Mach u tc q tt z tr g) [.ref (u 0), .int x1, .int x2] (((((pile, mks), cts), (hgt, nxt)), ((c_kept, c_size), (num, sn))), (((cel, szs), (stb, t_kept)), ((t_size, r_kept), (r_size, sum)))) (rb_X1_setMask (((((pile, mks), cts), (hgt, nxt)), ((c_kept, c_size), (num, sn))), (((cel, szs), (stb, t_kept)), ((t_size, r_kept), (r_size, sum)))) (f_X1_setMask mks x1 x2)) := by
  refine CV.mk (by decide) (Nat.le_of_ble_eq_true rfl) ?_
  intro p e s m below meth c A ls hI hw hl
  have hx := hI.1
  have hb := hI.2.1
  obtain ⟨r, hr⟩ : ∃ r, r = rb_X1_setMask (((((pile, mks), cts), (hgt, nxt)), ((c_kept, c_size), (num, sn))), (((cel, szs), (stb, t_kept)), ((t_size, r_kept), (r_size, sum)))) (f_X1_setMask mks x1 x2) := ⟨_, rfl⟩
  rw [← hr]
  have hl : lv_has ls 3 [(0, .ref (u 0)), (1, .int x1), (2, .int x2)] := hl
  refine lv_iload_n hx hb dX1_setMask_0 rfl (lv_at hl 1 rfl) ?_
  refine lv_if_le (tgt := 20) hx hb dX1_setMask_1 (by decide) (fun c1 => ?_) (fun c1 => ?_)
  · exact hI.retV (u := (((((pile, mks), cts), (hgt, nxt)), ((c_kept, c_size), (num, sn))), (((cel, szs), (stb, t_kept)), ((t_size, r_kept), (r_size, sum))))) hw (hr.trans (congrArg (rb_X1_setMask (((((pile, mks), cts), (hgt, nxt)), ((c_kept, c_size), (num, sn))), (((cel, szs), (stb, t_kept)), ((t_size, r_kept), (r_size, sum))))) ((show f_X1_setMask mks x1 x2 = (mks) from it_t c1 (rfl))))) dX1_setMask_20
  · refine lv_iload_n hx hb dX1_setMask_4 rfl (lv_at hl 1 rfl) ?_
    refine lv_aload_n hx hb dX1_setMask_5 rfl (lv_at hl 0 rfl) ?_
    refine hI.get (v := .ref (u 2)) hw fg_X1_30 0 rfl rfl dX1_setMask_6 ?_
    refine hI.alenI hw 2 rfl dX1_setMask_9 ?_
    refine W.eq (g2 := F0 m 10 ls [.int (13 : Int32), .int x1]) rfl ?_
    refine lv_icmp_ge (tgt := 20) hx hb dX1_setMask_10 (by decide) (fun c2 => ?_) (fun c2 => ?_)
    · exact hI.retV (u := (((((pile, mks), cts), (hgt, nxt)), ((c_kept, c_size), (num, sn))), (((cel, szs), (stb, t_kept)), ((t_size, r_kept), (r_size, sum))))) hw (hr.trans (congrArg (rb_X1_setMask (((((pile, mks), cts), (hgt, nxt)), ((c_kept, c_size), (num, sn))), (((cel, szs), (stb, t_kept)), ((t_size, r_kept), (r_size, sum))))) ((show f_X1_setMask mks x1 x2 = (mks) from it_f c1 (it_t c2 (rfl)))))) dX1_setMask_20
    · refine lv_aload_n hx hb dX1_setMask_13 rfl (lv_at hl 0 rfl) ?_
      refine hI.get (v := .ref (u 2)) hw fg_X1_30 0 rfl rfl dX1_setMask_14 ?_
      refine lv_iload_n hx hb dX1_setMask_17 rfl (lv_at hl 1 rfl) ?_
      refine lv_iload_n hx hb dX1_setMask_18 rfl (lv_at hl 2 rfl) ?_
      refine hI.iast hw 2 rfl (vin_c (n := 13) (fun z => c1 (Int32.le_of_lt z)) c2 (by decide)) dX1_setMask_19 (fun H locs hw => ?_)
      have hw : Wd g A s (w_Mach u tc q tt z tr g (((((pile, upd mks x1.toNatClampNeg x2), cts), (hgt, nxt)), ((c_kept, c_size), (num, sn))), (((cel, szs), (stb, t_kept)), ((t_size, r_kept), (r_size, sum))))) H locs := hw
      exact hI.retV (u := (((((pile, upd mks x1.toNatClampNeg x2), cts), (hgt, nxt)), ((c_kept, c_size), (num, sn))), (((cel, szs), (stb, t_kept)), ((t_size, r_kept), (r_size, sum))))) hw (hr.trans (congrArg (rb_X1_setMask (((((pile, mks), cts), (hgt, nxt)), ((c_kept, c_size), (num, sn))), (((cel, szs), (stb, t_kept)), ((t_size, r_kept), (r_size, sum))))) ((show f_X1_setMask mks x1 x2 = (upd mks x1.toNatClampNeg x2) from it_f c1 (it_f c2 (rfl)))))) dX1_setMask_20
def f_X1_blend (x1 : Int32) (x2 : Int32) (x3 : Int32) : Int32 := ((x1 &&& (x3 ^^^ (-1 : Int32))) ||| (x2 &&& x3))
def rb_X1_blend (σ : Unit) (o : Int32) : Int32 × Unit := (o, ())
set_option maxHeartbeats 4000000 in
set_option maxRecDepth 100000 in
theorem c_X1_blend (l : Launch) (g : GG) (x1 : Int32) (x2 : Int32) (x3 : Int32) : CI l g yX1_blend cX1_blend 3 (some .int) (rmN 0) (fun _ : Unit => []) [.int x1, .int x2, .int x3] () (rb_X1_blend () (f_X1_blend x1 x2 x3)) := by
  refine CI.mk (by decide) (Nat.le_of_ble_eq_true rfl) ?_
  intro p e s m below meth c A ls hI hw hl
  have hx := hI.1
  have hb := hI.2.1
  obtain ⟨r, hr⟩ : ∃ r, r = rb_X1_blend () (f_X1_blend x1 x2 x3) := ⟨_, rfl⟩
  rw [← hr]
  have hl : lv_has ls 3 [(0, .int x1), (1, .int x2), (2, .int x3)] := hl
  refine lv_iload_n hx hb dX1_blend_0 rfl (lv_at hl 0 rfl) ?_
  refine lv_iload_n hx hb dX1_blend_1 rfl (lv_at hl 2 rfl) ?_
  refine lv_iconst (v := (-1 : Int32)) hx hb dX1_blend_2 (by decide) ?_
  refine lv_ixor hx hb dX1_blend_3 ?_
  refine lv_iand hx hb dX1_blend_4 ?_
  refine lv_iload_n hx hb dX1_blend_5 rfl (lv_at hl 1 rfl) ?_
  refine lv_iload_n hx hb dX1_blend_6 rfl (lv_at hl 2 rfl) ?_
  refine lv_iand hx hb dX1_blend_7 ?_
  refine lv_ior hx hb dX1_blend_8 ?_
  exact hI.retI (u := ()) hw (hr.trans (congrArg (rb_X1_blend ()) ((show f_X1_blend x1 x2 x3 = ((x1 &&& (x3 ^^^ (-1 : Int32))) ||| (x2 &&& x3)) from rfl)))) dX1_blend_9
def f_X1_choose (pile : Nat → Int32) (hgt : Int32) : ((Nat → Int32) × Int32) := bd (f_X1_pop pile hgt) (fun o1 => bd (f_X1_pop pile o1.2) (fun o2 => bd (f_X1_pop pile o2.2) (fun o3 => if o3.1 = 0 then bd (f_X1_push pile o3.2 o1.1) (fun o5 => ((o5.1, o5.2))) else bd (f_X1_push pile o3.2 o2.1) (fun o6 => ((o6.1, o6.2))))))
def rb_X1_choose (σ : S_Mach) (o : ((Nat → Int32) × Int32)) : S_Mach := (((((o.1, σ.1.1.1.1.2), σ.1.1.1.2), (o.2, σ.1.1.2.2)), ((σ.1.2.1.1, σ.1.2.1.2), (σ.1.2.2.1, σ.1.2.2.2))), (((σ.2.1.1.1, σ.2.1.1.2), (σ.2.1.2.1, σ.2.1.2.2)), ((σ.2.2.1.1, σ.2.2.1.2), (σ.2.2.2.1, σ.2.2.2.2))))
set_option maxHeartbeats 4000000 in
set_option maxRecDepth 100000 in
theorem c_X1_choose (l : Launch) (g : GG) (u : Nat → Nat) (tc : Nat → Nat) (q : Nat → Nat) (tt : Nat → Nat) (z : Nat) (tr : Nat → Nat) (pile : Nat → Int32) (mks : Nat → Int32) (cts : Nat → Int32) (hgt : Int32) (nxt : Int32) (c_kept : Nat → Int32) (c_size : Int32) (num : Nat → Int32) (sn : Nat → Int32) (cel : Nat → Int32) (szs : Nat → Int32) (stb : Nat → Int32) (t_kept : Nat → Int32) (t_size : Int32) (r_kept : Nat → Int32) (r_size : Int32) (sum : Int64) : CV l g yX1_choose cX1_choose 3 none (rmN 1) (w_Mach u tc q tt z tr g) [.ref (u 0)] (((((pile, mks), cts), (hgt, nxt)), ((c_kept, c_size), (num, sn))), (((cel, szs), (stb, t_kept)), ((t_size, r_kept), (r_size, sum)))) (rb_X1_choose (((((pile, mks), cts), (hgt, nxt)), ((c_kept, c_size), (num, sn))), (((cel, szs), (stb, t_kept)), ((t_size, r_kept), (r_size, sum)))) (f_X1_choose pile hgt)) := by
  refine CV.mk (by decide) (Nat.le_of_ble_eq_true rfl) ?_
  intro p e s m below meth c A ls hI hw hl
  have hx := hI.1
  have hb := hI.2.1
  obtain ⟨r, hr⟩ : ∃ r, r = rb_X1_choose (((((pile, mks), cts), (hgt, nxt)), ((c_kept, c_size), (num, sn))), (((cel, szs), (stb, t_kept)), ((t_size, r_kept), (r_size, sum)))) (f_X1_choose pile hgt) := ⟨_, rfl⟩
  rw [← hr]
  have hl : lv_has ls 3 [(0, .ref (u 0))] := hl
  refine lv_aload_n hx hb dX1_choose_0 rfl (lv_at hl 0 rfl) ?_
  obtain ⟨o1, ho1⟩ : ∃ o, o = f_X1_pop pile hgt := ⟨_, rfl⟩
  refine hI.callI0 (wl := w_Mach u tc q tt z tr g) (a := (((((pile, mks), cts), (hgt, nxt)), ((c_kept, c_size), (num, sn))), (((cel, szs), (stb, t_kept)), ((t_size, r_kept), (r_size, sum))))) (r := rb_X1_pop (((((pile, mks), cts), (hgt, nxt)), ((c_kept, c_size), (num, sn))), (((cel, szs), (stb, t_kept)), ((t_size, r_kept), (r_size, sum)))) o1) (As := []) (rest := []) hw (by rw [ho1]; exact c_X1_pop l g u tc q tt z tr pile mks cts hgt nxt c_kept c_size num sn cel szs stb t_kept t_size r_kept r_size sum ) ok_yX1_pop ml_X1_80 (rm_ok (by decide) (by decide)) 0 rfl rfl rfl rfl hl.1 (Nat.le_of_ble_eq_true rfl) dX1_choose_1 ⟨Nat.zero_le _, Nat.zero_le _⟩ (fun H locs hw => ?_)
  have hw : Wd g A s (w_Mach u tc q tt z tr g (((((pile, mks), cts), (o1.2, nxt)), ((c_kept, c_size), (num, sn))), (((cel, szs), (stb, t_kept)), ((t_size, r_kept), (r_size, sum))))) H locs := hw
  refine W.eq (g2 := F0 m 4 ls [.int o1.1]) rfl ?_
  refine lv_istore_n (lv' := [(1, .int o1.1), (0, .ref (u 0))]) hx hb dX1_choose_4 rfl hl (by decide) rfl (fun ls hl => ?_)
  refine lv_aload_n hx hb dX1_choose_5 rfl (lv_at hl 1 rfl) ?_
  obtain ⟨o2, ho2⟩ : ∃ o, o = f_X1_pop pile o1.2 := ⟨_, rfl⟩
  refine hI.callI0 (wl := w_Mach u tc q tt z tr g) (a := (((((pile, mks), cts), (o1.2, nxt)), ((c_kept, c_size), (num, sn))), (((cel, szs), (stb, t_kept)), ((t_size, r_kept), (r_size, sum))))) (r := rb_X1_pop (((((pile, mks), cts), (o1.2, nxt)), ((c_kept, c_size), (num, sn))), (((cel, szs), (stb, t_kept)), ((t_size, r_kept), (r_size, sum)))) o2) (As := []) (rest := []) hw (by rw [ho2]; exact c_X1_pop l g u tc q tt z tr pile mks cts o1.2 nxt c_kept c_size num sn cel szs stb t_kept t_size r_kept r_size sum ) ok_yX1_pop ml_X1_80 (rm_ok (by decide) (by decide)) 0 rfl rfl rfl rfl hl.1 (Nat.le_of_ble_eq_true rfl) dX1_choose_6 ⟨Nat.zero_le _, Nat.zero_le _⟩ (fun H locs hw => ?_)
  have hw : Wd g A s (w_Mach u tc q tt z tr g (((((pile, mks), cts), (o2.2, nxt)), ((c_kept, c_size), (num, sn))), (((cel, szs), (stb, t_kept)), ((t_size, r_kept), (r_size, sum))))) H locs := hw
  refine W.eq (g2 := F0 m 9 ls [.int o2.1]) rfl ?_
  refine lv_istore_n (lv' := [(2, .int o2.1), (1, .int o1.1), (0, .ref (u 0))]) hx hb dX1_choose_9 rfl hl (by decide) rfl (fun ls hl => ?_)
  refine lv_aload_n hx hb dX1_choose_10 rfl (lv_at hl 2 rfl) ?_
  refine lv_aload_n hx hb dX1_choose_11 rfl (lv_at hl 2 rfl) ?_
  obtain ⟨o3, ho3⟩ : ∃ o, o = f_X1_pop pile o2.2 := ⟨_, rfl⟩
  refine hI.callI0 (wl := w_Mach u tc q tt z tr g) (a := (((((pile, mks), cts), (o2.2, nxt)), ((c_kept, c_size), (num, sn))), (((cel, szs), (stb, t_kept)), ((t_size, r_kept), (r_size, sum))))) (r := rb_X1_pop (((((pile, mks), cts), (o2.2, nxt)), ((c_kept, c_size), (num, sn))), (((cel, szs), (stb, t_kept)), ((t_size, r_kept), (r_size, sum)))) o3) (As := []) (rest := [.ref (u 0)]) hw (by rw [ho3]; exact c_X1_pop l g u tc q tt z tr pile mks cts o2.2 nxt c_kept c_size num sn cel szs stb t_kept t_size r_kept r_size sum ) ok_yX1_pop ml_X1_80 (rm_ok (by decide) (by decide)) 0 rfl rfl rfl rfl hl.1 (Nat.le_of_ble_eq_true rfl) dX1_choose_12 ⟨Nat.zero_le _, Nat.zero_le _⟩ (fun H locs hw => ?_)
  have hw : Wd g A s (w_Mach u tc q tt z tr g (((((pile, mks), cts), (o3.2, nxt)), ((c_kept, c_size), (num, sn))), (((cel, szs), (stb, t_kept)), ((t_size, r_kept), (r_size, sum))))) H locs := hw
  refine W.eq (g2 := F0 m 15 ls [.int o3.1, .ref (u 0)]) rfl ?_
  refine lv_if_eq (tgt := 22) hx hb dX1_choose_15 (by decide) (fun c4 => ?_) (fun c4 => ?_)
  · refine lv_iload_n hx hb dX1_choose_22 rfl (lv_at hl 1 rfl) ?_
    obtain ⟨o5, ho5⟩ : ∃ o, o = f_X1_push pile o3.2 o1.1 := ⟨_, rfl⟩
    refine hI.callV0 (wl := w_Mach u tc q tt z tr g) (a := (((((pile, mks), cts), (o3.2, nxt)), ((c_kept, c_size), (num, sn))), (((cel, szs), (stb, t_kept)), ((t_size, r_kept), (r_size, sum))))) (r := rb_X1_push (((((pile, mks), cts), (o3.2, nxt)), ((c_kept, c_size), (num, sn))), (((cel, szs), (stb, t_kept)), ((t_size, r_kept), (r_size, sum)))) o5) (As := [.int o1.1]) (rest := []) hw (by rw [ho5]; exact c_X1_push l g u tc q tt z tr pile mks cts o3.2 nxt c_kept c_size num sn cel szs stb t_kept t_size r_kept r_size sum o1.1 ) ok_yX1_push ml_X1_94 (rm_ok (by decide) (by decide)) 0 rfl rfl rfl rfl hl.1 (Nat.le_of_ble_eq_true rfl) dX1_choose_23 ⟨Nat.zero_le _, Nat.zero_le _⟩ (fun H locs hw => ?_)
    have hw : Wd g A s (w_Mach u tc q tt z tr g (((((o5.1, mks), cts), (o5.2, nxt)), ((c_kept, c_size), (num, sn))), (((cel, szs), (stb, t_kept)), ((t_size, r_kept), (r_size, sum))))) H locs := hw
    refine W.eq (g2 := F0 m 26 ls []) rfl ?_
    exact hI.retV (u := (((((o5.1, mks), cts), (o5.2, nxt)), ((c_kept, c_size), (num, sn))), (((cel, szs), (stb, t_kept)), ((t_size, r_kept), (r_size, sum))))) hw (hr.trans (congrArg (rb_X1_choose (((((pile, mks), cts), (hgt, nxt)), ((c_kept, c_size), (num, sn))), (((cel, szs), (stb, t_kept)), ((t_size, r_kept), (r_size, sum))))) ((show f_X1_choose pile hgt = ((o5.1, o5.2)) from bd_of ho1 (bd_of ho2 (bd_of ho3 (it_t c4 (bd_of ho5 (rfl))))))))) dX1_choose_26
  · refine lv_iload_n hx hb dX1_choose_18 rfl (lv_at hl 0 rfl) ?_
    refine lv_goto (tgt := 23) hx hb dX1_choose_19 (by decide) ?_
    obtain ⟨o6, ho6⟩ : ∃ o, o = f_X1_push pile o3.2 o2.1 := ⟨_, rfl⟩
    refine hI.callV0 (wl := w_Mach u tc q tt z tr g) (a := (((((pile, mks), cts), (o3.2, nxt)), ((c_kept, c_size), (num, sn))), (((cel, szs), (stb, t_kept)), ((t_size, r_kept), (r_size, sum))))) (r := rb_X1_push (((((pile, mks), cts), (o3.2, nxt)), ((c_kept, c_size), (num, sn))), (((cel, szs), (stb, t_kept)), ((t_size, r_kept), (r_size, sum)))) o6) (As := [.int o2.1]) (rest := []) hw (by rw [ho6]; exact c_X1_push l g u tc q tt z tr pile mks cts o3.2 nxt c_kept c_size num sn cel szs stb t_kept t_size r_kept r_size sum o2.1 ) ok_yX1_push ml_X1_94 (rm_ok (by decide) (by decide)) 0 rfl rfl rfl rfl hl.1 (Nat.le_of_ble_eq_true rfl) dX1_choose_23 ⟨Nat.zero_le _, Nat.zero_le _⟩ (fun H locs hw => ?_)
    have hw : Wd g A s (w_Mach u tc q tt z tr g (((((o6.1, mks), cts), (o6.2, nxt)), ((c_kept, c_size), (num, sn))), (((cel, szs), (stb, t_kept)), ((t_size, r_kept), (r_size, sum))))) H locs := hw
    refine W.eq (g2 := F0 m 26 ls []) rfl ?_
    exact hI.retV (u := (((((o6.1, mks), cts), (o6.2, nxt)), ((c_kept, c_size), (num, sn))), (((cel, szs), (stb, t_kept)), ((t_size, r_kept), (r_size, sum))))) hw (hr.trans (congrArg (rb_X1_choose (((((pile, mks), cts), (hgt, nxt)), ((c_kept, c_size), (num, sn))), (((cel, szs), (stb, t_kept)), ((t_size, r_kept), (r_size, sum))))) ((show f_X1_choose pile hgt = ((o6.1, o6.2)) from bd_of ho1 (bd_of ho2 (bd_of ho3 (it_f c4 (bd_of ho6 (rfl))))))))) dX1_choose_26
def f_X1_reckonTop (pile : Nat → Int32) (hgt : Int32) (x1 : Int32) : Int32 × ((Nat → Int32) × Int32) := if x1 = (14 : Int32) then bd (f_X1_pop pile hgt) (fun o8 => bd (f_X4_traps (x1 + (18 : Int32)) (0 : Int32)) (fun o9 => if o9 = 0 then bd (f_X4_reckon (x1 + (18 : Int32)) o8.1 (0 : Int32)) (fun o11 => bd (f_X1_push pile o8.2 o11) (fun o12 => ((1 : Int32), (o12.1, o12.2)))) else ((0 : Int32), (pile, o8.2)))) else bd (f_X1_pop pile hgt) (fun o2 => bd (f_X1_pop pile o2.2) (fun o3 => bd (f_X4_traps (x1 + (18 : Int32)) o2.1) (fun o4 => if o4 = 0 then bd (f_X4_reckon (x1 + (18 : Int32)) o3.1 o2.1) (fun o6 => bd (f_X1_push pile o3.2 o6) (fun o7 => ((1 : Int32), (o7.1, o7.2)))) else ((0 : Int32), (pile, o3.2)))))
def rb_X1_reckonTop (σ : S_Mach) (o : Int32 × ((Nat → Int32) × Int32)) : Int32 × S_Mach := (o.1, (((((o.2.1, σ.1.1.1.1.2), σ.1.1.1.2), (o.2.2, σ.1.1.2.2)), ((σ.1.2.1.1, σ.1.2.1.2), (σ.1.2.2.1, σ.1.2.2.2))), (((σ.2.1.1.1, σ.2.1.1.2), (σ.2.1.2.1, σ.2.1.2.2)), ((σ.2.2.1.1, σ.2.2.1.2), (σ.2.2.2.1, σ.2.2.2.2)))))
set_option maxHeartbeats 4000000 in
set_option maxRecDepth 100000 in
theorem c_X1_reckonTop (l : Launch) (g : GG) (u : Nat → Nat) (tc : Nat → Nat) (q : Nat → Nat) (tt : Nat → Nat) (z : Nat) (tr : Nat → Nat) (pile : Nat → Int32) (mks : Nat → Int32) (cts : Nat → Int32) (hgt : Int32) (nxt : Int32) (c_kept : Nat → Int32) (c_size : Int32) (num : Nat → Int32) (sn : Nat → Int32) (cel : Nat → Int32) (szs : Nat → Int32) (stb : Nat → Int32) (t_kept : Nat → Int32) (t_size : Int32) (r_kept : Nat → Int32) (r_size : Int32) (sum : Int64) (x1 : Int32) : CI l g yX1_reckonTop cX1_reckonTop 5 (some .boolean) (rmN 1) (w_Mach u tc q tt z tr g) [.ref (u 0), .int x1] (((((pile, mks), cts), (hgt, nxt)), ((c_kept, c_size), (num, sn))), (((cel, szs), (stb, t_kept)), ((t_size, r_kept), (r_size, sum)))) (rb_X1_reckonTop (((((pile, mks), cts), (hgt, nxt)), ((c_kept, c_size), (num, sn))), (((cel, szs), (stb, t_kept)), ((t_size, r_kept), (r_size, sum)))) (f_X1_reckonTop pile hgt x1)) := by
  refine CI.mk (by decide) (Nat.le_of_ble_eq_true rfl) ?_
  intro p e s m below meth c A ls hI hw hl
  have hx := hI.1
  have hb := hI.2.1
  obtain ⟨r, hr⟩ : ∃ r, r = rb_X1_reckonTop (((((pile, mks), cts), (hgt, nxt)), ((c_kept, c_size), (num, sn))), (((cel, szs), (stb, t_kept)), ((t_size, r_kept), (r_size, sum)))) (f_X1_reckonTop pile hgt x1) := ⟨_, rfl⟩
  rw [← hr]
  have hl : lv_has ls 5 [(0, .ref (u 0)), (1, .int x1)] := hl
  refine lv_iload_n hx hb dX1_reckonTop_0 rfl (lv_at hl 1 rfl) ?_
  refine lv_bipush (v := (18 : Int32)) hx hb dX1_reckonTop_1 (by decide) ?_
  refine lv_iadd hx hb dX1_reckonTop_3 ?_
  refine lv_istore_n (lv' := [(2, .int (x1 + (18 : Int32))), (0, .ref (u 0)), (1, .int x1)]) hx hb dX1_reckonTop_4 rfl hl (by decide) rfl (fun ls hl => ?_)
  refine lv_iload_n hx hb dX1_reckonTop_5 rfl (lv_at hl 2 rfl) ?_
  refine lv_bipush (v := (14 : Int32)) hx hb dX1_reckonTop_6 (by decide) ?_
  refine lv_icmp_ne (tgt := 15) hx hb dX1_reckonTop_8 (by decide) (fun c1 => ?_) (fun c1 => ?_)
  · refine lv_aload_n hx hb dX1_reckonTop_15 rfl (lv_at hl 1 rfl) ?_
    obtain ⟨o2, ho2⟩ : ∃ o, o = f_X1_pop pile hgt := ⟨_, rfl⟩
    refine hI.callI0 (wl := w_Mach u tc q tt z tr g) (a := (((((pile, mks), cts), (hgt, nxt)), ((c_kept, c_size), (num, sn))), (((cel, szs), (stb, t_kept)), ((t_size, r_kept), (r_size, sum))))) (r := rb_X1_pop (((((pile, mks), cts), (hgt, nxt)), ((c_kept, c_size), (num, sn))), (((cel, szs), (stb, t_kept)), ((t_size, r_kept), (r_size, sum)))) o2) (As := []) (rest := []) hw (by rw [ho2]; exact c_X1_pop l g u tc q tt z tr pile mks cts hgt nxt c_kept c_size num sn cel szs stb t_kept t_size r_kept r_size sum ) ok_yX1_pop ml_X1_80 (rm_ok (by decide) (by decide)) 0 rfl rfl rfl rfl hl.1 (Nat.le_of_ble_eq_true rfl) dX1_reckonTop_16 ⟨Nat.zero_le _, Nat.zero_le _⟩ (fun H locs hw => ?_)
    have hw : Wd g A s (w_Mach u tc q tt z tr g (((((pile, mks), cts), (o2.2, nxt)), ((c_kept, c_size), (num, sn))), (((cel, szs), (stb, t_kept)), ((t_size, r_kept), (r_size, sum))))) H locs := hw
    refine W.eq (g2 := F0 m 19 ls [.int o2.1]) rfl ?_
    refine lv_istore_n (lv' := [(3, .int o2.1), (2, .int (x1 + (18 : Int32))), (0, .ref (u 0)), (1, .int x1)]) hx hb dX1_reckonTop_19 rfl hl (by decide) rfl (fun ls hl => ?_)
    refine lv_aload_n hx hb dX1_reckonTop_20 rfl (lv_at hl 2 rfl) ?_
    obtain ⟨o3, ho3⟩ : ∃ o, o = f_X1_pop pile o2.2 := ⟨_, rfl⟩
    refine hI.callI0 (wl := w_Mach u tc q tt z tr g) (a := (((((pile, mks), cts), (o2.2, nxt)), ((c_kept, c_size), (num, sn))), (((cel, szs), (stb, t_kept)), ((t_size, r_kept), (r_size, sum))))) (r := rb_X1_pop (((((pile, mks), cts), (o2.2, nxt)), ((c_kept, c_size), (num, sn))), (((cel, szs), (stb, t_kept)), ((t_size, r_kept), (r_size, sum)))) o3) (As := []) (rest := []) hw (by rw [ho3]; exact c_X1_pop l g u tc q tt z tr pile mks cts o2.2 nxt c_kept c_size num sn cel szs stb t_kept t_size r_kept r_size sum ) ok_yX1_pop ml_X1_80 (rm_ok (by decide) (by decide)) 0 rfl rfl rfl rfl hl.1 (Nat.le_of_ble_eq_true rfl) dX1_reckonTop_21 ⟨Nat.zero_le _, Nat.zero_le _⟩ (fun H locs hw => ?_)
    have hw : Wd g A s (w_Mach u tc q tt z tr g (((((pile, mks), cts), (o3.2, nxt)), ((c_kept, c_size), (num, sn))), (((cel, szs), (stb, t_kept)), ((t_size, r_kept), (r_size, sum))))) H locs := hw
    refine W.eq (g2 := F0 m 24 ls [.int o3.1]) rfl ?_
    refine lv_istore (lv' := [(4, .int o3.1), (3, .int o2.1), (2, .int (x1 + (18 : Int32))), (0, .ref (u 0)), (1, .int x1)]) hx hb dX1_reckonTop_24 hl (by decide) rfl (fun ls hl => ?_)
    refine lv_iload_n hx hb dX1_reckonTop_26 rfl (lv_at hl 2 rfl) ?_
    refine lv_iload_n hx hb dX1_reckonTop_27 rfl (lv_at hl 1 rfl) ?_
    obtain ⟨o4, ho4⟩ : ∃ o, o = f_X4_traps (x1 + (18 : Int32)) o2.1 := ⟨_, rfl⟩
    refine hI.callSI (r := o4) (As := [.int (x1 + (18 : Int32)), .int o2.1]) (rest := []) hw (by rw [ho4]; exact c_X4_traps l g (x1 + (18 : Int32)) o2.1) ok_yX4_traps ml_X1_84 (rm_ok (by decide) (by decide)) rfl rfl hl.1 (Nat.le_of_ble_eq_true rfl) dX1_reckonTop_28 ⟨Nat.zero_le _, Nat.zero_le _⟩ (fun H locs hw => ?_)
    refine lv_if_eq (tgt := 36) hx hb dX1_reckonTop_31 (by decide) (fun c5 => ?_) (fun c5 => ?_)
    · refine lv_aload_n hx hb dX1_reckonTop_36 rfl (lv_at hl 3 rfl) ?_
      refine lv_iload_n hx hb dX1_reckonTop_37 rfl (lv_at hl 2 rfl) ?_
      refine lv_iload hx hb dX1_reckonTop_38 (lv_at hl 0 rfl) ?_
      refine lv_iload_n hx hb dX1_reckonTop_40 rfl (lv_at hl 1 rfl) ?_
      obtain ⟨o6, ho6⟩ : ∃ o, o = f_X4_reckon (x1 + (18 : Int32)) o3.1 o2.1 := ⟨_, rfl⟩
      refine hI.callSI (r := o6) (As := [.int (x1 + (18 : Int32)), .int o3.1, .int o2.1]) (rest := [.ref (u 0)]) hw (by rw [ho6]; exact c_X4_reckon l g (x1 + (18 : Int32)) o3.1 o2.1) ok_yX4_reckon ml_X1_90 (rm_ok (by decide) (by decide)) rfl rfl hl.1 (Nat.le_of_ble_eq_true rfl) dX1_reckonTop_41 ⟨Nat.zero_le _, Nat.zero_le _⟩ (fun H locs hw => ?_)
      obtain ⟨o7, ho7⟩ : ∃ o, o = f_X1_push pile o3.2 o6 := ⟨_, rfl⟩
      refine hI.callV0 (wl := w_Mach u tc q tt z tr g) (a := (((((pile, mks), cts), (o3.2, nxt)), ((c_kept, c_size), (num, sn))), (((cel, szs), (stb, t_kept)), ((t_size, r_kept), (r_size, sum))))) (r := rb_X1_push (((((pile, mks), cts), (o3.2, nxt)), ((c_kept, c_size), (num, sn))), (((cel, szs), (stb, t_kept)), ((t_size, r_kept), (r_size, sum)))) o7) (As := [.int o6]) (rest := []) hw (by rw [ho7]; exact c_X1_push l g u tc q tt z tr pile mks cts o3.2 nxt c_kept c_size num sn cel szs stb t_kept t_size r_kept r_size sum o6 ) ok_yX1_push ml_X1_94 (rm_ok (by decide) (by decide)) 0 rfl rfl rfl rfl hl.1 (Nat.le_of_ble_eq_true rfl) dX1_reckonTop_44 ⟨Nat.zero_le _, Nat.zero_le _⟩ (fun H locs hw => ?_)
      have hw : Wd g A s (w_Mach u tc q tt z tr g (((((o7.1, mks), cts), (o7.2, nxt)), ((c_kept, c_size), (num, sn))), (((cel, szs), (stb, t_kept)), ((t_size, r_kept), (r_size, sum))))) H locs := hw
      refine W.eq (g2 := F0 m 47 ls []) rfl ?_
      refine lv_iconst (v := (1 : Int32)) hx hb dX1_reckonTop_47 (by decide) ?_
      exact hI.retZ (u := (((((o7.1, mks), cts), (o7.2, nxt)), ((c_kept, c_size), (num, sn))), (((cel, szs), (stb, t_kept)), ((t_size, r_kept), (r_size, sum))))) hw rfl (hr.trans (congrArg (rb_X1_reckonTop (((((pile, mks), cts), (hgt, nxt)), ((c_kept, c_size), (num, sn))), (((cel, szs), (stb, t_kept)), ((t_size, r_kept), (r_size, sum))))) ((show f_X1_reckonTop pile hgt x1 = ((1 : Int32), (o7.1, o7.2)) from it_f c1 (bd_of ho2 (bd_of ho3 (bd_of ho4 (it_t c5 (bd_of ho6 (bd_of ho7 (rfl))))))))))) dX1_reckonTop_48
    · refine lv_iconst (v := (0 : Int32)) hx hb dX1_reckonTop_34 (by decide) ?_
      exact hI.retZ (u := (((((pile, mks), cts), (o3.2, nxt)), ((c_kept, c_size), (num, sn))), (((cel, szs), (stb, t_kept)), ((t_size, r_kept), (r_size, sum))))) hw rfl (hr.trans (congrArg (rb_X1_reckonTop (((((pile, mks), cts), (hgt, nxt)), ((c_kept, c_size), (num, sn))), (((cel, szs), (stb, t_kept)), ((t_size, r_kept), (r_size, sum))))) ((show f_X1_reckonTop pile hgt x1 = ((0 : Int32), (pile, o3.2)) from it_f c1 (bd_of ho2 (bd_of ho3 (bd_of ho4 (it_f c5 (rfl))))))))) dX1_reckonTop_35
  · refine lv_iconst (v := (0 : Int32)) hx hb dX1_reckonTop_11 (by decide) ?_
    refine lv_goto (tgt := 19) hx hb dX1_reckonTop_12 (by decide) ?_
    refine lv_istore_n (lv' := [(3, .int (0 : Int32)), (2, .int (x1 + (18 : Int32))), (0, .ref (u 0)), (1, .int x1)]) hx hb dX1_reckonTop_19 rfl hl (by decide) rfl (fun ls hl => ?_)
    refine lv_aload_n hx hb dX1_reckonTop_20 rfl (lv_at hl 2 rfl) ?_
    obtain ⟨o8, ho8⟩ : ∃ o, o = f_X1_pop pile hgt := ⟨_, rfl⟩
    refine hI.callI0 (wl := w_Mach u tc q tt z tr g) (a := (((((pile, mks), cts), (hgt, nxt)), ((c_kept, c_size), (num, sn))), (((cel, szs), (stb, t_kept)), ((t_size, r_kept), (r_size, sum))))) (r := rb_X1_pop (((((pile, mks), cts), (hgt, nxt)), ((c_kept, c_size), (num, sn))), (((cel, szs), (stb, t_kept)), ((t_size, r_kept), (r_size, sum)))) o8) (As := []) (rest := []) hw (by rw [ho8]; exact c_X1_pop l g u tc q tt z tr pile mks cts hgt nxt c_kept c_size num sn cel szs stb t_kept t_size r_kept r_size sum ) ok_yX1_pop ml_X1_80 (rm_ok (by decide) (by decide)) 0 rfl rfl rfl rfl hl.1 (Nat.le_of_ble_eq_true rfl) dX1_reckonTop_21 ⟨Nat.zero_le _, Nat.zero_le _⟩ (fun H locs hw => ?_)
    have hw : Wd g A s (w_Mach u tc q tt z tr g (((((pile, mks), cts), (o8.2, nxt)), ((c_kept, c_size), (num, sn))), (((cel, szs), (stb, t_kept)), ((t_size, r_kept), (r_size, sum))))) H locs := hw
    refine W.eq (g2 := F0 m 24 ls [.int o8.1]) rfl ?_
    refine lv_istore (lv' := [(4, .int o8.1), (3, .int (0 : Int32)), (2, .int (x1 + (18 : Int32))), (0, .ref (u 0)), (1, .int x1)]) hx hb dX1_reckonTop_24 hl (by decide) rfl (fun ls hl => ?_)
    refine lv_iload_n hx hb dX1_reckonTop_26 rfl (lv_at hl 2 rfl) ?_
    refine lv_iload_n hx hb dX1_reckonTop_27 rfl (lv_at hl 1 rfl) ?_
    obtain ⟨o9, ho9⟩ : ∃ o, o = f_X4_traps (x1 + (18 : Int32)) (0 : Int32) := ⟨_, rfl⟩
    refine hI.callSI (r := o9) (As := [.int (x1 + (18 : Int32)), .int (0 : Int32)]) (rest := []) hw (by rw [ho9]; exact c_X4_traps l g (x1 + (18 : Int32)) (0 : Int32)) ok_yX4_traps ml_X1_84 (rm_ok (by decide) (by decide)) rfl rfl hl.1 (Nat.le_of_ble_eq_true rfl) dX1_reckonTop_28 ⟨Nat.zero_le _, Nat.zero_le _⟩ (fun H locs hw => ?_)
    refine lv_if_eq (tgt := 36) hx hb dX1_reckonTop_31 (by decide) (fun c10 => ?_) (fun c10 => ?_)
    · refine lv_aload_n hx hb dX1_reckonTop_36 rfl (lv_at hl 3 rfl) ?_
      refine lv_iload_n hx hb dX1_reckonTop_37 rfl (lv_at hl 2 rfl) ?_
      refine lv_iload hx hb dX1_reckonTop_38 (lv_at hl 0 rfl) ?_
      refine lv_iload_n hx hb dX1_reckonTop_40 rfl (lv_at hl 1 rfl) ?_
      obtain ⟨o11, ho11⟩ : ∃ o, o = f_X4_reckon (x1 + (18 : Int32)) o8.1 (0 : Int32) := ⟨_, rfl⟩
      refine hI.callSI (r := o11) (As := [.int (x1 + (18 : Int32)), .int o8.1, .int (0 : Int32)]) (rest := [.ref (u 0)]) hw (by rw [ho11]; exact c_X4_reckon l g (x1 + (18 : Int32)) o8.1 (0 : Int32)) ok_yX4_reckon ml_X1_90 (rm_ok (by decide) (by decide)) rfl rfl hl.1 (Nat.le_of_ble_eq_true rfl) dX1_reckonTop_41 ⟨Nat.zero_le _, Nat.zero_le _⟩ (fun H locs hw => ?_)
      obtain ⟨o12, ho12⟩ : ∃ o, o = f_X1_push pile o8.2 o11 := ⟨_, rfl⟩
      refine hI.callV0 (wl := w_Mach u tc q tt z tr g) (a := (((((pile, mks), cts), (o8.2, nxt)), ((c_kept, c_size), (num, sn))), (((cel, szs), (stb, t_kept)), ((t_size, r_kept), (r_size, sum))))) (r := rb_X1_push (((((pile, mks), cts), (o8.2, nxt)), ((c_kept, c_size), (num, sn))), (((cel, szs), (stb, t_kept)), ((t_size, r_kept), (r_size, sum)))) o12) (As := [.int o11]) (rest := []) hw (by rw [ho12]; exact c_X1_push l g u tc q tt z tr pile mks cts o8.2 nxt c_kept c_size num sn cel szs stb t_kept t_size r_kept r_size sum o11 ) ok_yX1_push ml_X1_94 (rm_ok (by decide) (by decide)) 0 rfl rfl rfl rfl hl.1 (Nat.le_of_ble_eq_true rfl) dX1_reckonTop_44 ⟨Nat.zero_le _, Nat.zero_le _⟩ (fun H locs hw => ?_)
      have hw : Wd g A s (w_Mach u tc q tt z tr g (((((o12.1, mks), cts), (o12.2, nxt)), ((c_kept, c_size), (num, sn))), (((cel, szs), (stb, t_kept)), ((t_size, r_kept), (r_size, sum))))) H locs := hw
      refine W.eq (g2 := F0 m 47 ls []) rfl ?_
      refine lv_iconst (v := (1 : Int32)) hx hb dX1_reckonTop_47 (by decide) ?_
      exact hI.retZ (u := (((((o12.1, mks), cts), (o12.2, nxt)), ((c_kept, c_size), (num, sn))), (((cel, szs), (stb, t_kept)), ((t_size, r_kept), (r_size, sum))))) hw rfl (hr.trans (congrArg (rb_X1_reckonTop (((((pile, mks), cts), (hgt, nxt)), ((c_kept, c_size), (num, sn))), (((cel, szs), (stb, t_kept)), ((t_size, r_kept), (r_size, sum))))) ((show f_X1_reckonTop pile hgt x1 = ((1 : Int32), (o12.1, o12.2)) from it_t c1 (bd_of ho8 (bd_of ho9 (it_t c10 (bd_of ho11 (bd_of ho12 (rfl)))))))))) dX1_reckonTop_48
    · refine lv_iconst (v := (0 : Int32)) hx hb dX1_reckonTop_34 (by decide) ?_
      exact hI.retZ (u := (((((pile, mks), cts), (o8.2, nxt)), ((c_kept, c_size), (num, sn))), (((cel, szs), (stb, t_kept)), ((t_size, r_kept), (r_size, sum))))) hw rfl (hr.trans (congrArg (rb_X1_reckonTop (((((pile, mks), cts), (hgt, nxt)), ((c_kept, c_size), (num, sn))), (((cel, szs), (stb, t_kept)), ((t_size, r_kept), (r_size, sum))))) ((show f_X1_reckonTop pile hgt x1 = ((0 : Int32), (pile, o8.2)) from it_t c1 (bd_of ho8 (bd_of ho9 (it_f c10 (rfl)))))))) dX1_reckonTop_35
theorem z01_X1_reckonTop (pile : Nat → Int32) (hgt : Int32) (x1 : Int32) : (f_X1_reckonTop pile hgt x1).1 = 0 ∨ (f_X1_reckonTop pile hgt x1).1 = 1 := by
  show zP1 (f_X1_reckonTop pile hgt x1)
  unfold f_X1_reckonTop
  repeat' (first | with_reducible refine z_ite (fun _ => ?_) (fun _ => ?_) | with_reducible refine z_bd (fun o ho => ?_))
  all_goals first | with_reducible exact z0_0 | with_reducible exact z0_1 | with_reducible exact z1_0 | with_reducible exact z1_1
