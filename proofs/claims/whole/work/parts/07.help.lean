/-! words of the pure functions: a named value, a branch; the rooms of calls -/
def bd {α β : Type} (x : α) (f : α → β) : β := f x
theorem bd_of {α β : Type} {x o : α} {f : α → β} {y : β} (h : o = x) (k : f o = y) : bd x f = y := by
  rw [bd, ← h]
  exact k
theorem it_t {β : Type} {c : Prop} [Decidable c] {a b y : β} (h : c) (k : a = y) : (if c then a else b) = y := by
  rw [if_pos h]
  exact k
theorem it_f {β : Type} {c : Prop} [Decidable c] {a b y : β} (h : ¬ c) (k : b = y) : (if c then a else b) = y := by
  rw [if_neg h]
  exact k
def rmN (k : Nat) : Room := { frames := k, cells := 0, slots := 0, locals := 40 * k }
theorem rm_ok {a b nL : Nat} (h : a + 1 ≤ b) (hn : nL ≤ 21) : RoomOk (rmN a) (rmN b) nL := ⟨rfl, rfl, h, by show 8 + (nL + 11) + 40 * a ≤ 40 * b; omega⟩
/-- a counter that goes up to N, by what is left -/
def cnt (N k : Nat) (x : Int32) : Prop := 1 ≤ k ∧ k ≤ N + 1 ∧ x = nI (N + 1 - k)
theorem cnt_0 (N : Nat) : cnt N (N + 1) 0 := ⟨Nat.le_add_left 1 N, Nat.le_refl _, by rw [Nat.sub_self]; rfl⟩
theorem cnt_s {N k : Nat} {x : Int32} (hN : N < 2 ^ 31) (h : cnt N (k + 1) x) (hx : ¬ nI N ≤ x) : cnt N k (x + 1) := by
  obtain ⟨h1, h2, rfl⟩ := h
  have hk : 1 ≤ k := by
    rcases Nat.eq_zero_or_pos k with h0 | h0
    · subst h0
      exact absurd (nI_le (by omega) (by omega)) hx
    · exact h0
  refine ⟨hk, by omega, ?_⟩
  rw [nI_1]
  congr 1
  omega
theorem cnt_n {N : Nat} {x : Int32} (h : cnt N 0 x) : False := absurd h.1 (by decide)
theorem b01 {v : Int32} (h : v = 0 ∨ v = 1) : narrow .boolean (.int v) = .int v := by
  rcases h with rfl | rfl <;> rfl
theorem cnt_in {N k : Nat} {x : Int32} (hN : N < 2 ^ 31) (h : cnt N k x) (hx : ¬ nI N ≤ x) : vp_in x N := by
  obtain ⟨h1, h2, rfl⟩ := h
  refine vp_in_nI (Nat.lt_of_not_le fun h => hx (nI_le h (by omega))) hN
theorem cell_in {t i : Int32} (ht : vp_in t 4) (hi : vp_in i 16) : vp_in (16 * t + i) 64 := by
  obtain ⟨a, ha, rfl⟩ := vp_in_of ht (by decide)
  obtain ⟨b, hb, rfl⟩ := vp_in_of hi (by decide)
  have e : (16 : Int32) * nI a + nI b = nI (16 * a + b) := by
    rw [← nI_add, ← pk_mul]
    rfl
  rw [e]
  exact vp_in_nI (by omega) (by decide)
theorem l_nz {x : Int32} (h : (1 : Int32) ≤ x) : ¬ x.toInt64 = 0 := by
  intro h0
  have h1 : x.toInt64.toInt = 0 := by rw [h0]; rfl
  rw [Int32.toInt_toInt64] at h1
  have h2 := Int32.le_iff_toInt_le.mp h
  rw [h1] at h2
  exact absurd h2 (by decide)
section CALLSV
variable {p : Program} {l : Launch} {e : Env} {R : Room} {s : State} {m : MethodId} {args : Array Value} {below : List Frame} {meth : Method} {c : Code} {H : Heap} {locs : List Loc} {cells slots : Nat} {Q : State → Prop}
variable {own C : String} {cc : ByteArray} {nL : Nat} {ret : Option FieldType} {g : GG} {A : Nat → Prop} {ws : va_W} {pc : Nat} {ls : Array Slot} {rest st0 As : List Value}
variable {S : Type} {wl : S → va_W} {a : S} {y : MethodName} {b : ByteArray} {nLy n idx : Nat} {rety : Option FieldType} {rm : Room} {o : Nat}
/-- a static call without an answer, of a part of the world -/
theorem InM.callSV (hI : InM p s m args meth c own cc nL ret g A) (hw : Wd g A s ws H locs) {r : S} (hM : CV l g y b nLy rety rm wl As a r) (ok : CalS y b nLy rety n) (hl : Cond.methodLink own idx y ∈ lw_g) (hR : RoomOk rm R nLy) (isC isR isB : List Nat) (hp : okP isC isR isB = true) (hnC : va_nd isC = true) {wr ws1 : va_W} (hC : isC.map (fun i => ws[i]?) = (wl a).map some) (hRr : isR.map (fun i => ws[i]?) = wr.map some) (hB : isB.map (fun i => (wr ++ wl r)[i]?) = ws1.map some)
    (hst : st0 = As.reverse ++ rest) (hn : As.length = n) (hsz : ls.size = nL) (hrest : (rest.map fun v => v.category).sum ≤ 8) (hdg : decode cc pc = .ok (.invokestatic idx, 3)) (hcs : cells ≤ R.cells ∧ slots ≤ R.slots)
    (kk : ∀ (H1 : Heap) (locs1 : List Loc), Wd g A s ws1 H1 locs1 → W p l e R s m args below meth c H1 locs1 cells slots Q (F0 m (pc + 3) ls rest)) : W p l e R s m args below meth c H locs cells slots Q (F0 m pc ls st0) := by
  obtain ⟨hx, hb, hml, hown, hts, hr, hlk, hK, hA, hZ⟩ := id hI
  obtain ⟨hnR, hdis, hnB⟩ := okP_spec hp
  obtain ⟨hFc, hpre⟩ := hI.pre (wl := wl) (a := a) hw isC hnC hC
  refine va_callv (va_runS (As := As) (rest := rest) ⟨hx, hb, hml, hown, hts⟩ (hM H.size) (hR.1 ▸ hR.2.1 ▸ ok.cw hts hl hR.2.2) ⟨PreC.blind, fun U hU hW => ⟨rfl, hpre U hU hW⟩⟩ rfl hn hsz hst (lv_room hrest) hdg hcs) hw.2.2 (fun q _ h => hFc q h) hFc (fun u t H1 locs1 ht hvm hr' hB' hz1 hk1 hS1 => ?_)
  subst hr'
  obtain ⟨hP1, hK1, hD1⟩ := hB'
  rw [ht] at hP1
  obtain ⟨hP2, hD2⟩ := va_join hw.1 hw.2.1 isC isR hC hRr hnR hdis hk1 hFc hP1 hD1
  exact kk H1 locs1 ⟨hP2.perm isB hB, hD2.sub isB hnB hB, hS1⟩
end CALLSV
def zP0 (o : Int32) : Prop := o = 0 ∨ o = 1
def zP1 {β : Type} (o : Int32 × β) : Prop := o.1 = 0 ∨ o.1 = 1
theorem z_ite {β : Type} {P : β → Prop} {c : Prop} [Decidable c] {a b : β} (h1 : c → P a) (h2 : ¬ c → P b) : P (if c then a else b) := by
  by_cases h : c
  · rw [if_pos h]; exact h1 h
  · rw [if_neg h]; exact h2 h
theorem z_bd {α β : Type} {P : β → Prop} {x : α} {f : α → β} (h : ∀ o, o = x → P (f o)) : P (bd x f) := h x rfl
theorem z0_0 : zP0 0 := Or.inl rfl
theorem z0_1 : zP0 1 := Or.inr rfl
theorem z1_0 {β : Type} {x : β} : zP1 ((0 : Int32), x) := Or.inl rfl
theorem z1_1 {β : Type} {x : β} : zP1 ((1 : Int32), x) := Or.inr rfl
theorem z1_of {β : Type} {o : Int32} {x : β} (h : zP0 o) : zP1 (o, x) := h
