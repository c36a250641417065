/-! one step of the machine, on both sides -/
def AgP (c m : Nat → Int32) (h : Nat) : Prop := ∀ i, i < h → c i = m i
theorem AgP.up {c m : Nat → Int32} {h : Nat} (a : AgP c m h) (x : Int32) : AgP (upd c h x) (upd m h x) (h + 1) := by
  intro i hi
  by_cases z : i = h
  · subst z; rw [upd_eq, upd_eq]
  · rw [upd_ne _ _ z, upd_ne _ _ z]; exact a i (by omega)
theorem AgP.sub {c m : Nat → Int32} {h k : Nat} (a : AgP c m h) (hk : k ≤ h) : AgP c m k := fun i hi => a i (by omega)
theorem AgP.upin {c m : Nat → Int32} {h : Nat} (a : AgP c m h) (j : Nat) (x : Int32) : AgP (upd c j x) (upd m j x) h := by
  intro i hi
  by_cases z : i = j
  · subst z; rw [upd_eq, upd_eq]
  · rw [upd_ne _ _ z, upd_ne _ _ z]; exact a i hi
theorem pushC {h : Nat} (hh : h < 64) (c : Nat → Int32) (x : Int32) : f_X1_push c (nI h) x = (upd c h x, nI (h + 1)) := by
  unfold f_X1_push
  rw [if_neg (nI_pos (by omega)), if_neg (show ¬ (64 : Int32) ≤ nI h from nI_ge (b := 64) hh (by decide)), cl_nI (by omega), show nI h + (1 : Int32) = nI (h + 1) from nI_1 h]
theorem pushM {h : Nat} (hh : h < 64) (c : Nat → Int32) (x : Int32) : f_X10_push c (nI h) x = (upd c h x, nI (h + 1)) := by
  unfold f_X10_push
  rw [cl_nI (by omega), show nI h + (1 : Int32) = nI (h + 1) from nI_1 h]
theorem popC {h : Nat} (hh : h < 64) (c : Nat → Int32) : f_X1_pop c (nI (h + 1)) = (c h, nI h) := by
  unfold f_X1_pop
  rw [if_neg (nI_nle (by omega) (by omega)), if_pos (show nI (h + 1) ≤ (64 : Int32) from nI_le (b := 64) (by omega) (by decide)), nI_pred, cl_nI (by omega)]
theorem popM {h : Nat} (hh : h < 64) (c : Nat → Int32) : f_X10_pop c (nI (h + 1)) = (c h, nI h) := by
  unfold f_X10_pop
  rw [nI_pred, cl_nI (by omega)]
theorem pin {h : Nat} (hh : h < 64) : vp_in (nI (h + 1) - 1) 200 := by
  rw [nI_pred]
  exact vp_in_nI (by omega) (by decide)
theorem pin0 {h : Nat} (hh : h < 64) : vp_in (nI h) 200 := vp_in_nI (by omega) (by decide)
theorem see_eq {j : Nat} (hj : j ≤ 1000000) (rk : Nat → Int32) (sum : Int64) (x : Int32) : ∃ rk' sum', f_X7_add rk (nI j) sum x = ((rk', nI (j + 1)), sum') ∧ f_X10_see rk (nI j) sum x = ((rk', nI (j + 1)), sum') := by
  unfold f_X7_add f_X10_see f_X6_add
  simp only [bd]
  rw [if_neg (nI_pos (by omega)), show nI j + (1 : Int32) = nI (j + 1) from nI_1 j]
  by_cases h1 : nI 5000 ≤ nI j
  · rw [if_pos h1, if_pos (show (5000 : Int32) ≤ nI j from h1)]
    exact ⟨_, _, rfl, rfl⟩
  · rw [if_neg h1, if_neg (show ¬ (5000 : Int32) ≤ nI j from h1)]
    exact ⟨_, _, rfl, rfl⟩
section STEP
variable {szs : Nat → Int32}
theorem touchA {t : Int32} (ht : vp_in t 4) {k : Nat} (hk : k ≤ 16) (hs : szs t.toNatClampNeg = nI k) : ∀ (q y f g : Nat) (rk : Nat → Int32) (j : Nat) (sum : Int64), y + q = k → q + 1 ≤ f → q + 1 ≤ g → j + q ≤ 1000000 → ∃ rk' sum', f_X1_touch_39 szs f rk (nI j) sum ((4096 : Int32) + (16 : Int32) * t) (nI k) (nI y) = ((rk', nI (j + q)), sum') ∧ f_X10_seeAll_2 szs g rk (nI j) sum t (nI y) = ((rk', nI (j + q)), sum') ∧ ok_X10_seeAll_2 szs g rk (nI j) sum t (nI y) := by
  intro q
  induction q with
  | zero =>
    intro y f g rk j sum hy hf hg hj
    obtain ⟨f, rfl⟩ : ∃ f', f = f' + 1 := ⟨f - 1, by omega⟩
    obtain ⟨g, rfl⟩ : ∃ f', g = f' + 1 := ⟨g - 1, by omega⟩
    have hle : nI k ≤ nI y := nI_le (by omega) (by omega)
    refine ⟨rk, sum, ?_, ?_, ?_⟩
    · rw [f_X1_touch_39, if_pos hle]
      split <;> rfl
    · rw [f_X10_seeAll_2, hs, if_pos hle]
      rfl
    · rw [ok_X10_seeAll_2, hs, if_pos hle]
      exact ⟨ht, trivial⟩
  | succ q ih =>
    intro y f g rk j sum hy hf hg hj
    obtain ⟨f, rfl⟩ : ∃ f', f = f' + 1 := ⟨f - 1, by omega⟩
    obtain ⟨g, rfl⟩ : ∃ f', g = f' + 1 := ⟨g - 1, by omega⟩
    have hle : ¬ nI k ≤ nI y := nI_ge (by omega) (by omega)
    have h16 : ¬ (16 : Int32) ≤ nI y := nI_ge (b := 16) (by omega) (by decide)
    obtain ⟨rk1, sum1, s1, s2⟩ := see_eq (j := j) (by omega) rk sum ((4096 : Int32) + (16 : Int32) * t + nI y)
    obtain ⟨rk2, sum2, r1, r2, r3⟩ := ih (y + 1) f g rk1 (j + 1) sum1 (by omega) (by omega) (by omega) (by omega)
    have ej : j + (q + 1) = j + 1 + q := by omega
    rw [ej]
    refine ⟨rk2, sum2, ?_, ?_, ?_⟩
    · rw [f_X1_touch_39, if_neg h16, if_neg hle, bd_d, s1, show nI y + (1 : Int32) = nI (y + 1) from nI_1 y]
      exact r1
    · rw [f_X10_seeAll_2, hs, if_neg hle, bd_d, s2, show nI y + (1 : Int32) = nI (y + 1) from nI_1 y]
      exact r2
    · rw [ok_X10_seeAll_2, hs, if_neg hle, bdP_d, s2, show nI y + (1 : Int32) = nI (y + 1) from nI_1 y]
      exact ⟨ht, ⟨j, by omega, rfl⟩, r3⟩
theorem touchA' (hz : SZ szs) {t : Int32} (ht : vp_in t 4) (rk : Nat → Int32) {j : Nat} (sum : Int64) (pl : Int32) (hj : j + 16 ≤ 1000000) : ∃ rk' sum' j', j' ≤ j + 16 ∧ f_X1_touch szs rk (nI j) sum t pl 1 = ((rk', nI j'), sum') ∧ f_X10_seeAll szs rk (nI j) sum t = ((rk', nI j'), sum') ∧ ok_X10_seeAll szs rk (nI j) sum t := by
  obtain ⟨k, h1, h2, h3⟩ := hz.at ht
  obtain ⟨rk', sum', r1, r2, r3⟩ := touchA ht h2 h3 k 0 17 17 rk j sum (by omega) (by omega) (by omega) (by omega)
  refine ⟨rk', sum', j + k, by omega, ?_, r2, r3⟩
  have hso : f_X5_sizeOf szs t = nI k := by
    unfold f_X5_sizeOf
    rw [bd_d, if_neg (hasT_in ht), h3]
  unfold f_X1_touch
  rw [if_neg (show ¬ (1 : Int32) = 0 by decide), bd_d, hso]
  exact r1
theorem touch0 (rk : Nat → Int32) (j : Nat) (sum : Int64) (t pl : Int32) : f_X1_touch szs rk (nI j) sum t pl 0 = f_X7_add rk (nI j) sum ((4096 : Int32) + (16 : Int32) * t + pl) := rfl
theorem cell_rd (hz : SZ szs) {t : Int32} (ht : vp_in t 4) {j k : Nat} (hj : j < k) (hk : k ≤ 16) (hs : szs t.toNatClampNeg = nI k) (cel : Nat → Int32) : f_X5_cell cel szs t (nI j) = cel ((16 : Int32) * t + nI j).toNatClampNeg := by
  unfold f_X5_cell
  rw [bd_d, if_neg (cell_ok hz ht hj hk hs).1]
theorem cell_wr (hz : SZ szs) {t : Int32} (ht : vp_in t 4) {j k : Nat} (hj : j < k) (hk : k ≤ 16) (hs : szs t.toNatClampNeg = nI k) (cel : Nat → Int32) (x : Int32) : f_X5_lay cel szs t (nI j) x = upd cel ((16 : Int32) * t + nI j).toNatClampNeg x := by
  unfold f_X5_lay
  rw [bd_d, if_neg (cell_ok hz ht hj hk hs).1]
theorem wt_eq (hz : SZ szs) {t : Int32} (ht : vp_in t 4) {cp mp : Nat → Int32} {k : Nat} (hk : k + 1 < 64) (hA : AgP cp mp (k + 2)) (cel rk : Nat → Int32) {j : Nat} (hj : j + 16 ≤ 1000000) (sum : Int64) (mask all : Int32) (ha : all = 0 ∨ all = 1) : ∃ cel' rk' sum' j', j' ≤ j + 16 ∧ f_X1_writeTable cp (nI (k + 2)) cel szs rk (nI j) sum t mask all = (((nI k, cel'), rk'), (nI j', sum')) ∧ f_X10_store cel szs rk (nI j) sum mp (nI (k + 2)) mask t all = (((cel', rk'), nI j'), (sum', nI k)) ∧ ok_X10_store cel szs rk (nI j) sum mp (nI (k + 2)) mask t all := by
  obtain ⟨pe, pj, pk, pjk, pk16, psz, ppl⟩ := place_eq hz ht (mp k)
  have hc2 := (cell_ok hz ht pjk pk16 psz).2
  have a1 : cp (k + 1) = mp (k + 1) := hA (k + 1) (by omega)
  have a0 : cp k = mp k := hA k (by omega)
  rcases ha with rfl | rfl
  · obtain ⟨rk1, sum1, s1, s2⟩ := see_eq (j := j) (by omega) rk sum ((4096 : Int32) + (16 : Int32) * t + nI pj)
    refine ⟨upd cel ((16 : Int32) * t + nI pj).toNatClampNeg ((cel ((16 : Int32) * t + nI pj).toNatClampNeg &&& (mask ^^^ (-1 : Int32))) ||| (mp (k + 1) &&& mask)), rk1, sum1, j + 1, by omega, ?_, ?_, ?_⟩
    · unfold f_X1_writeTable f_X1_blend
      simp only [bd_d, popC (show k + 1 < 64 by omega), popC (show k < 64 by omega), a0, a1, pe, ppl, touch0, s1, cell_rd hz ht pjk pk16 psz, cell_wr hz ht pjk pk16 psz]
    · unfold f_X10_store
      simp only [bd_d, popM (show k + 1 < 64 by omega), popM (show k < 64 by omega), ppl, if_true, s2]
    · unfold ok_X10_store
      simp only [bdP_d, popM (show k + 1 < 64 by omega), popM (show k < 64 by omega), ppl, if_true, s2]
      exact ⟨pin hk, pin (by omega), hz, ht, ⟨j, by omega, rfl⟩, hc2, hc2, trivial⟩
  · obtain ⟨rk1, sum1, j1, hj1, s1, s2, s3⟩ := touchA' hz ht rk sum (nI pj) hj
    refine ⟨upd cel ((16 : Int32) * t + nI pj).toNatClampNeg ((cel ((16 : Int32) * t + nI pj).toNatClampNeg &&& (mask ^^^ (-1 : Int32))) ||| (mp (k + 1) &&& mask)), rk1, sum1, j1, hj1, ?_, ?_, ?_⟩
    · unfold f_X1_writeTable f_X1_blend
      simp only [bd_d, popC (show k + 1 < 64 by omega), popC (show k < 64 by omega), a0, a1, pe, ppl, s1, cell_rd hz ht pjk pk16 psz, cell_wr hz ht pjk pk16 psz]
    · unfold f_X10_store
      simp only [bd_d, popM (show k + 1 < 64 by omega), popM (show k < 64 by omega), ppl, if_neg (show ¬ (1 : Int32) = 0 by decide), s2]
    · unfold ok_X10_store
      simp only [bdP_d, popM (show k + 1 < 64 by omega), popM (show k < 64 by omega), ppl, if_neg (show ¬ (1 : Int32) = 0 by decide), s2]
      exact ⟨pin hk, pin (by omega), hz, ht, s3, hc2, hc2, trivial⟩
theorem rt_eq (hz : SZ szs) {t : Int32} (ht : vp_in t 4) {cp : Nat → Int32} (mp : Nat → Int32) {k : Nat} (hk : k < 64) (hA : AgP cp mp (k + 1)) (cel rk : Nat → Int32) {j : Nat} (hj : j + 16 ≤ 1000000) (sum : Int64) : (∃ rk' sum', f_X1_readTable cp (nI (k + 1)) cel szs rk (nI j) sum t 0 = (((upd cp k (cel ((16 : Int32) * t + f_X10_placeOf szs t (mp k)).toNatClampNeg), nI (k + 1)), rk'), (nI (j + 1), sum')) ∧ f_X10_see rk (nI j) sum ((4096 : Int32) + (16 : Int32) * t + f_X10_placeOf szs t (mp k)) = ((rk', nI (j + 1)), sum')) ∧ (∃ rk' sum' j', j' ≤ j + 16 ∧ f_X1_readTable cp (nI (k + 1)) cel szs rk (nI j) sum t 1 = (((upd cp k (cel ((16 : Int32) * t + f_X10_placeOf szs t (mp k)).toNatClampNeg), nI (k + 1)), rk'), (nI j', sum')) ∧ f_X10_seeAll szs rk (nI j) sum t = ((rk', nI j'), sum') ∧ ok_X10_seeAll szs rk (nI j) sum t) ∧ vp_in ((16 : Int32) * t + f_X10_placeOf szs t (mp k)) 64 := by
  obtain ⟨pe, pj, pk, pjk, pk16, psz, ppl⟩ := place_eq hz ht (mp k)
  have hc2 := (cell_ok hz ht pjk pk16 psz).2
  have a0 : cp k = mp k := hA k (by omega)
  refine ⟨?_, ?_, ?_⟩
  · obtain ⟨rk1, sum1, s1, s2⟩ := see_eq (j := j) (by omega) rk sum ((4096 : Int32) + (16 : Int32) * t + nI pj)
    refine ⟨rk1, sum1, ?_, ?_⟩
    · unfold f_X1_readTable
      simp only [bd_d, popC hk, a0, pe, ppl, touch0, s1, cell_rd hz ht pjk pk16 psz, pushC hk]
    · rw [ppl, s2]
  · obtain ⟨rk1, sum1, j1, hj1, s1, s2, s3⟩ := touchA' hz ht rk sum (nI pj) hj
    refine ⟨rk1, sum1, j1, hj1, ?_, s2, s3⟩
    unfold f_X1_readTable
    simp only [bd_d, popC hk, a0, pe, ppl, s1, cell_rd hz ht pjk pk16 psz, pushC hk]
  · rw [ppl]; exact hc2
theorem rd_eq {ck cod : Nat → Int32} {W i : Nat} (hW : W ≤ 2048) (hc : ∀ i, i < W → ck i = cod i) (hi : i < W) : f_X6_read 2048 ck (nI W) (nI i) 0 = cod i := by
  unfold f_X6_read
  rw [if_neg (nI_pos (by omega)), if_neg (nI_ge hi (by omega)), if_neg (nI_ge (show i < 2048 by omega) (by decide)), cl_nI (by omega)]
  exact hc i hi
end STEP
