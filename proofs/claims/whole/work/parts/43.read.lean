/-! the reference's reading: its place only goes on -/
def RM (size p p' : Int32) : Prop := ∃ a b n : Nat, p = nI a ∧ p' = nI b ∧ size = nI n ∧ a ≤ b ∧ b ≤ n ∧ n ≤ 400
theorem RM.refl {size p : Int32} (h : RI size p) : RM size p p := by
  obtain ⟨a, n, h1, h2, h3, h4⟩ := h
  exact ⟨a, a, n, h1, h1, h2, Nat.le_refl _, h3, h4⟩
theorem RM.ri {size p p' : Int32} (h : RM size p p') : RI size p' := by
  obtain ⟨a, b, n, h1, h2, h3, h4, h5, h6⟩ := h
  exact ⟨b, n, h2, h3, h5, h6⟩
theorem RM.trans {size p q r : Int32} (h : RM size p q) (k : RM size q r) : RM size p r := by
  obtain ⟨a, b, n, h1, h2, h3, h4, h5, h6⟩ := h
  obtain ⟨b', c, n', k1, k2, k3, k4, k5, k6⟩ := k
  have e1 : b = b' := (nI_eq (by omega) (by omega)).mp (h2.symm.trans k1)
  have e2 : n = n' := (nI_eq (by omega) (by omega)).mp (h3.symm.trans k3)
  subst e1; subst e2
  exact ⟨a, c, n, h1, k2, h3, by omega, k5, h6⟩
theorem RM.succ2 {size p : Int32} (h : RI size p) (hlt : ¬ size ≤ p) : RM size p (p + 1) := by
  obtain ⟨a, n, rfl, rfl, h1, h2⟩ := h
  have : a < n := Nat.lt_of_not_le fun z => hlt (nI_le z (by omega))
  exact ⟨a, a + 1, n, rfl, nI_1 a, rfl, by omega, by omega, h2⟩
theorem RM.succ {size p : Int32} (h : RI size p) (hne : ¬ p = size) : RM size p (p + 1) := RM.succ2 h (h.ne2 hne)
theorem RM.lt {size p q : Int32} (h0 : RI size p) (hne : ¬ p = size) (h : RM size (p + 1) q) : p < q := by
  obtain ⟨a, n, rfl, rfl, h1, h2⟩ := h0
  obtain ⟨a', b, n', k1, rfl, k3, k4, k5, k6⟩ := h
  rw [nI_1] at k1
  have e1 : a + 1 = a' := (nI_eq (by omega) (by omega)).mp k1
  exact nI_lt (by omega) (by omega)
theorem rm_number {text : Nat → Int32} {size pos fault plc x : Int32} (hi : RI size pos) : RM size pos (f_X10_number text size pos fault plc x).1.1 := by
  unfold f_X10_number
  simp only [bd]
  repeat' split
  all_goals first | exact RM.refl hi | exact RM.succ hi ‹_›
theorem rm_end {text : Nat → Int32} {size pos fault : Int32} (hi : RI size pos) : RM size pos (f_X10_end text size pos fault) := by
  unfold f_X10_end
  simp only [bd]
  repeat' split
  all_goals first | exact RM.refl hi | exact RM.succ2 hi (ish_lt ‹_›)
abbrev TRd : Type := (Nat → Int32) → Int32 → Int32 → Int32 → Int32 → Int32 → ((Int32 × Int32) × Int32)
abbrev TRa : Type := (Nat → Int32) → Int32 → Int32 → Int32 → Int32 → Int32 → Int32 → ((Int32 × Int32) × Int32)
def MoE (rE : TRd) : Prop := ∀ (text : Nat → Int32) (size pos fault plc y : Int32), RI size pos → RM size pos (rE text size pos fault plc y).1.1
def MoA (rA : TRa) : Prop := ∀ (text : Nat → Int32) (size pos fault plc y z : Int32), RI size pos → RM size pos (rA text size pos fault plc y z).1.1
theorem rm_readE_170 {rE : TRd} (rM : MoE rE) {text : Nat → Int32} {size : Int32} : ∀ (k : Nat) {pos fault plc y1 y2 y3 : Int32}, RI size pos → RM size pos (f_X10_readE_170 rE text size k pos fault plc y1 y2 y3).1.1 := by
  intro k
  induction k with
  | zero => intro pos fault plc y1 y2 y3 hi; exact RM.refl hi
  | succ k ih =>
    intro pos fault plc y1 y2 y3 hi
    unfold f_X10_readE_170
    simp only [bd]
    split
    · exact RM.refl hi
    · have h1 := rM text size pos fault plc (y1 + 1) hi
      exact h1.trans (ih h1.ri)
theorem rm_readE {rE : TRd} (rM : MoE rE) : MoE (f_X10_readE rE) := by
  intro text size pos fault plc x1 hi
  unfold f_X10_readE
  by_cases h0 : fault = 0
  · rw [if_pos h0]
    by_cases h1 : pos = size
    · rw [if_pos h1]; exact RM.refl hi
    · rw [if_neg h1]
      have hs := hi.succ h1
      have m1 := RM.succ hi h1
      simp only [bd]
      split
      · exact RM.refl hi
      · split
        · split
          · split
            · exact m1
            · exact m1.trans (RM.succ hs ‹_›)
          · split
            · exact m1.trans (rm_number hs)
            · split
              · have m2 := rm_number (text := text) (fault := fault) (plc := plc) (x := 3) hs
                exact (m1.trans m2).trans (rM _ _ _ _ _ _ m2.ri)
              · exact m1.trans (rm_readE_170 rM 4 hs)
        · exact RM.refl hi
  · rw [if_neg h0]; exact RM.refl hi
theorem rm_readS_47 {rE : TRd} {rA : TRa} (rM : MoE rE) (aM : MoA rA) {text : Nat → Int32} {size pos fault plc y1 y2 : Int32} (hi : RI size pos) (hne : ¬ pos = size) (hy : y1 ≤ (12 : Int32)) : RM size (pos + 1) (f_X10_readS_47 rE rA text size pos fault plc y1 y2).1.1 := by
  have hs := hi.succ hne
  unfold f_X10_readS_47
  rw [if_pos hy]
  simp only [bd]
  split
  · have m2 := rm_number (text := text) (fault := fault) (plc := plc) (x := 9) hs
    exact m2.trans (rM _ _ _ _ _ _ m2.ri)
  · split
    · have m2 := rm_number (text := text) (fault := fault) (plc := plc) (x := 3) hs
      have m3 := m2.trans (rM text size _ (f_X10_number text size (pos + 1) fault plc 3).1.2 (f_X10_number text size (pos + 1) fault plc 3).2 (y1 + 1) m2.ri)
      exact m3.trans (rM _ _ _ _ _ _ m3.ri)
    · split
      · have m2 := rm_number (text := text) (fault := fault) (plc := plc) (x := 20) hs
        have m3 := m2.trans (aM text size _ (f_X10_number text size (pos + 1) fault plc 20).1.2 (f_X10_number text size (pos + 1) fault plc 20).2 (y1 + 1) 0 m2.ri)
        exact m3.trans (rm_end m3.ri)
      · have m2 := rM text size (pos + 1) fault plc (y1 + 1) hs
        split
        · have m3 := m2.trans (aM text size _ (rE text size (pos + 1) fault plc (y1 + 1)).1.2 (rE text size (pos + 1) fault plc (y1 + 1)).2 (y1 + 1) 1 m2.ri)
          split
          · split
            · exact m3.trans (rm_end m3.ri)
            · have m4 := m3.trans (RM.succ2 m3.ri (ish_lt ‹_›))
              exact (m4.trans (aM _ _ _ _ _ (y1 + 1) 0 m4.ri)).trans (rm_end (m4.trans (aM _ _ _ _ _ (y1 + 1) 0 m4.ri)).ri)
          · exact m3.trans (rm_end m3.ri)
        · split
          · have m3 := m2.trans (aM text size _ (rE text size (pos + 1) fault plc (y1 + 1)).1.2 (rE text size (pos + 1) fault plc (y1 + 1)).2 (y1 + 1) 0 m2.ri)
            exact m3.trans (rm_end m3.ri)
          · exact m2
theorem fail_ne {fault plc w p : Int32} (hw : ¬ w = 0) : ¬ (f_X10_fail fault plc w p).2.1 = 0 := by
  unfold f_X10_fail
  split
  · exact hw
  · exact ‹_›
def MoS (rS : TRd) : Prop := ∀ (text : Nat → Int32) (size pos fault plc y : Int32), RI size pos → RM size pos (rS text size pos fault plc y).1.1 ∧ ((rS text size pos fault plc y).1.2 = 0 → pos < (rS text size pos fault plc y).1.1)
theorem rm_readS {rE : TRd} {rA : TRa} (rM : MoE rE) (aM : MoA rA) : MoS (f_X10_readS rE rA) := by
  intro text size pos fault plc x1 hi
  have key : ∀ y2 : Int32, ¬ pos = size → RM size pos (f_X10_readS_47 rE rA text size pos fault plc x1 y2).1.1 ∧ ((f_X10_readS_47 rE rA text size pos fault plc x1 y2).1.2 = 0 → pos < (f_X10_readS_47 rE rA text size pos fault plc x1 y2).1.1) := by
    intro y2 hne
    by_cases hy : x1 ≤ (12 : Int32)
    · have h := rm_readS_47 rM aM (text := text) (fault := fault) (plc := plc) (y2 := y2) hi hne hy
      exact ⟨(RM.succ hi hne).trans h, fun _ => RM.lt hi hne h⟩
    · unfold f_X10_readS_47
      rw [if_neg hy]
      exact ⟨RM.refl hi, fun z => absurd z (fail_ne (by decide))⟩
  unfold f_X10_readS
  simp only [bd]
  by_cases h1 : pos = size
  · rw [if_pos h1]
    exact ⟨RM.refl hi, fun z => absurd z (fail_ne (by decide))⟩
  · rw [if_neg h1]
    split
    · split
      · exact ⟨RM.refl hi, fun z => absurd z (fail_ne (by decide))⟩
      · exact key _ h1
    · exact key _ h1
theorem rm_readAll_0 {rS : TRd} (sM : MoS rS) {text : Nat → Int32} {size : Int32} : ∀ (k : Nat) {pos fault plc y1 y2 : Int32}, RI size pos → RM size pos (f_X10_readAll_0 rS text size k pos fault plc y1 y2).1.1 := by
  intro k
  induction k with
  | zero => intro pos fault plc y1 y2 hi; exact RM.refl hi
  | succ k ih =>
    intro pos fault plc y1 y2 hi
    unfold f_X10_readAll_0
    simp only [bd]
    have h1 := (sM text size pos fault plc y1 hi).1
    split
    · split
      · split
        · exact h1.trans (ih h1.ri)
        · split
          · exact h1.trans (ih h1.ri)
          · exact RM.refl hi
      · exact RM.refl hi
    · exact RM.refl hi
theorem rm_readAll {rS : TRd} (sM : MoS rS) : MoA (f_X10_readAll rS) := fun _ _ _ _ _ _ _ hi => rm_readAll_0 sM 402 hi
/-! the knots of reading -/
def mE : Nat → TRd
  | 0 => f_X10_readE (fun _ _ pos fault plc _ => ((pos, fault), plc))
  | d + 1 => f_X10_readE (mE d)
def mS : Nat → TRd
  | 0 => f_X10_readS (fun _ _ pos fault plc _ => ((pos, fault), plc)) (fun _ _ pos fault plc _ _ => ((pos, fault), plc))
  | d + 1 => f_X10_readS (mE d) (f_X10_readAll (mS d))
def mA (d : Nat) : TRa := f_X10_readAll (mS d)
theorem mo_mE : ∀ d, MoE (mE d)
  | 0 => rm_readE (fun _ _ _ _ _ _ hi => RM.refl hi)
  | d + 1 => rm_readE (mo_mE d)
theorem mo_mS : ∀ d, MoS (mS d)
  | 0 => rm_readS (fun _ _ _ _ _ _ hi => RM.refl hi) (fun _ _ _ _ _ _ _ hi => RM.refl hi)
  | d + 1 => rm_readS (mo_mE d) (rm_readAll (mo_mS d))
theorem mo_mA (d : Nat) : MoA (mA d) := rm_readAll (mo_mS d)
theorem dpm_s {d : Nat} (h : d + 1 ≤ 12) {y : Int32} (hy : y = nI (13 - (d + 1))) : y + (1 : Int32) = nI (13 - d) := by
  subst hy
  rw [nI_1]
  congr 1
  omega
theorem dpm_0 {y : Int32} (hy : y = nI (13 - 0)) (h : y ≤ (12 : Int32)) : False := by subst hy; exact absurd h (by decide)
theorem k_mE (l : Launch) (g : GG) (a : Nat → Nat) : ∀ (d : Nat), d ≤ 12 → ∀ (text : Nat → Int32) (size : Int32) (sv : Nat → Int32) (stb : Nat → Int32) (var : Nat → Int32) (tab : Nat → Int32) (szs : Nat → Int32) (prg : Nat → Int32) (cod : Nat → Int32) (words : Int32) (has : Int32) (fpl : Int32) (pos : Int32) (fault : Int32) (plc : Int32) (tol : Nat → Int32) (tmany : Int32) (trc : Nat → Int32) (rmany : Int32) (mark : Int64) (pil : Nat → Int32) (pmany : Int32) (mks : Nat → Int32) (cts : Nat → Int32) (turns : Int32) (stop : Int32) (y1 : Int32), RI size pos → y1 = nI (13 - d) → CV l g yX10_readE cX10_readE 4 none (rmN (d + 8)) (w_Mdl a g) [.ref (a 0), .int y1] (((((text, size), (sv, stb)), ((var, tab), szs)), (((prg, cod), words), ((has, fpl), pos))), ((((fault, plc), (tol, tmany)), ((trc, rmany), mark)), (((pil, pmany), mks), ((cts, turns), stop)))) (rb_X10_readE (((((text, size), (sv, stb)), ((var, tab), szs)), (((prg, cod), words), ((has, fpl), pos))), ((((fault, plc), (tol, tmany)), ((trc, rmany), mark)), (((pil, pmany), mks), ((cts, turns), stop)))) (mE d text size pos fault plc y1)) := by
  intro d
  induction d with
  | zero =>
    intro _ text size sv stb var tab szs prg cod words has fpl pos fault plc tol tmany trc rmany mark pil pmany mks cts turns stop y1 hi hy
    exact c_X10_readE l g a text size sv stb var tab szs prg cod words has fpl pos fault plc tol tmany trc rmany mark pil pmany mks cts turns stop _ y1 (fun _ => False) 8 0 (by omega) (fun text size sv stb var tab szs prg cod words has fpl pos fault plc tol tmany trc rmany mark pil pmany mks cts turns stop y1 _ hf => hf.elim) (fun _ _ _ _ _ _ h => h) hi (fun h => dpm_0 hy h)
  | succ d ih =>
    intro hd text size sv stb var tab szs prg cod words has fpl pos fault plc tol tmany trc rmany mark pil pmany mks cts turns stop y1 hi hy
    exact c_X10_readE l g a text size sv stb var tab szs prg cod words has fpl pos fault plc tol tmany trc rmany mark pil pmany mks cts turns stop (mE d) y1 (fun z => z = nI (13 - d)) (d + 1 + 8) (d + 8) (by omega) (fun text size sv stb var tab szs prg cod words has fpl pos fault plc tol tmany trc rmany mark pil pmany mks cts turns stop y1 hi hz => ih (by omega) text size sv stb var tab szs prg cod words has fpl pos fault plc tol tmany trc rmany mark pil pmany mks cts turns stop y1 hi hz) (fun _ _ _ _ _ _ h => (mo_mE d _ _ _ _ _ _ h).ri) hi (fun _ => dpm_s hd hy)
theorem k_mS (l : Launch) (g : GG) (a : Nat → Nat) : ∀ (d : Nat), d ≤ 12 → ∀ (text : Nat → Int32) (size : Int32) (sv : Nat → Int32) (stb : Nat → Int32) (var : Nat → Int32) (tab : Nat → Int32) (szs : Nat → Int32) (prg : Nat → Int32) (cod : Nat → Int32) (words : Int32) (has : Int32) (fpl : Int32) (pos : Int32) (fault : Int32) (plc : Int32) (tol : Nat → Int32) (tmany : Int32) (trc : Nat → Int32) (rmany : Int32) (mark : Int64) (pil : Nat → Int32) (pmany : Int32) (mks : Nat → Int32) (cts : Nat → Int32) (turns : Int32) (stop : Int32) (y1 : Int32), RI size pos → y1 = nI (13 - d) → CV l g yX10_readS cX10_readS 3 none (rmN (2 * d + 10)) (w_Mdl a g) [.ref (a 0), .int y1] (((((text, size), (sv, stb)), ((var, tab), szs)), (((prg, cod), words), ((has, fpl), pos))), ((((fault, plc), (tol, tmany)), ((trc, rmany), mark)), (((pil, pmany), mks), ((cts, turns), stop)))) (rb_X10_readS (((((text, size), (sv, stb)), ((var, tab), szs)), (((prg, cod), words), ((has, fpl), pos))), ((((fault, plc), (tol, tmany)), ((trc, rmany), mark)), (((pil, pmany), mks), ((cts, turns), stop)))) (mS d text size pos fault plc y1)) := by
  intro d
  induction d with
  | zero =>
    intro _ text size sv stb var tab szs prg cod words has fpl pos fault plc tol tmany trc rmany mark pil pmany mks cts turns stop y1 hi hy
    exact c_X10_readS l g a text size sv stb var tab szs prg cod words has fpl pos fault plc tol tmany trc rmany mark pil pmany mks cts turns stop _ _ y1 (fun _ => False) (fun _ => False) 10 0 0 (by omega) (fun text size sv stb var tab szs prg cod words has fpl pos fault plc tol tmany trc rmany mark pil pmany mks cts turns stop y1 _ hf => hf.elim) (fun text size sv stb var tab szs prg cod words has fpl pos fault plc tol tmany trc rmany mark pil pmany mks cts turns stop y1 y2 _ hf => hf.elim) (fun _ _ _ _ _ _ h => h) (fun _ _ _ _ _ _ _ h => h) hi (fun h => (dpm_0 hy h).elim)
  | succ d ih =>
    intro hd text size sv stb var tab szs prg cod words has fpl pos fault plc tol tmany trc rmany mark pil pmany mks cts turns stop y1 hi hy
    exact c_X10_readS l g a text size sv stb var tab szs prg cod words has fpl pos fault plc tol tmany trc rmany mark pil pmany mks cts turns stop (mE d) (mA d) y1 (fun z => z = nI (13 - d)) (fun z => z = nI (13 - d)) (2 * (d + 1) + 10) (d + 8) (2 * d + 11) (by omega) (fun text size sv stb var tab szs prg cod words has fpl pos fault plc tol tmany trc rmany mark pil pmany mks cts turns stop y1 hi hz => k_mE l g a d (by omega) text size sv stb var tab szs prg cod words has fpl pos fault plc tol tmany trc rmany mark pil pmany mks cts turns stop y1 hi hz) (fun text size sv stb var tab szs prg cod words has fpl pos fault plc tol tmany trc rmany mark pil pmany mks cts turns stop y1 y2 hi hz => c_X10_readAll l g a text size sv stb var tab szs prg cod words has fpl pos fault plc tol tmany trc rmany mark pil pmany mks cts turns stop (mS d) y1 y2 (fun z => z = nI (13 - d)) (2 * d + 11) (2 * d + 10) (by omega) (fun text size sv stb var tab szs prg cod words has fpl pos fault plc tol tmany trc rmany mark pil pmany mks cts turns stop y1 hi hz => ih (by omega) text size sv stb var tab szs prg cod words has fpl pos fault plc tol tmany trc rmany mark pil pmany mks cts turns stop y1 hi hz) (fun _ _ _ _ _ _ h => ⟨(mo_mS d _ _ _ _ _ _ h).1.ri, fun _ => (mo_mS d _ _ _ _ _ _ h).2⟩) hi hz) (fun _ _ _ _ _ _ h => (mo_mE d _ _ _ _ _ _ h).ri) (fun _ _ _ _ _ _ _ h => (mo_mA d _ _ _ _ _ _ _ h).ri) hi (fun _ => ⟨dpm_s hd hy, dpm_s hd hy⟩)
theorem k_mA (l : Launch) (g : GG) (a : Nat → Nat) : ∀ (d : Nat), d ≤ 12 → ∀ (text : Nat → Int32) (size : Int32) (sv : Nat → Int32) (stb : Nat → Int32) (var : Nat → Int32) (tab : Nat → Int32) (szs : Nat → Int32) (prg : Nat → Int32) (cod : Nat → Int32) (words : Int32) (has : Int32) (fpl : Int32) (pos : Int32) (fault : Int32) (plc : Int32) (tol : Nat → Int32) (tmany : Int32) (trc : Nat → Int32) (rmany : Int32) (mark : Int64) (pil : Nat → Int32) (pmany : Int32) (mks : Nat → Int32) (cts : Nat → Int32) (turns : Int32) (stop : Int32) (y1 y2 : Int32), RI size pos → y1 = nI (13 - d) → CV l g yX10_readAll cX10_readAll 3 none (rmN (2 * d + 11)) (w_Mdl a g) [.ref (a 0), .int y1, .int y2] (((((text, size), (sv, stb)), ((var, tab), szs)), (((prg, cod), words), ((has, fpl), pos))), ((((fault, plc), (tol, tmany)), ((trc, rmany), mark)), (((pil, pmany), mks), ((cts, turns), stop)))) (rb_X10_readAll (((((text, size), (sv, stb)), ((var, tab), szs)), (((prg, cod), words), ((has, fpl), pos))), ((((fault, plc), (tol, tmany)), ((trc, rmany), mark)), (((pil, pmany), mks), ((cts, turns), stop)))) (mA d text size pos fault plc y1 y2)) := by
  intro d hd text size sv stb var tab szs prg cod words has fpl pos fault plc tol tmany trc rmany mark pil pmany mks cts turns stop y1 y2 hi hy
  exact c_X10_readAll l g a text size sv stb var tab szs prg cod words has fpl pos fault plc tol tmany trc rmany mark pil pmany mks cts turns stop (mS d) y1 y2 (fun z => z = nI (13 - d)) (2 * d + 11) (2 * d + 10) (by omega) (fun text size sv stb var tab szs prg cod words has fpl pos fault plc tol tmany trc rmany mark pil pmany mks cts turns stop y1 hi hz => k_mS l g a d hd text size sv stb var tab szs prg cod words has fpl pos fault plc tol tmany trc rmany mark pil pmany mks cts turns stop y1 hi hz) (fun _ _ _ _ _ _ h => ⟨(mo_mS d _ _ _ _ _ _ h).1.ri, fun _ => (mo_mS d _ _ _ _ _ _ h).2⟩) hi hy
