/-! words of the pure functions: a named value, a branch; the rooms of calls -/
def bd {α β : Type} (x : α) (f : α → β) : β := f x
theorem bd_of {α β : Type} {x o : α} {f : α → β} {y : β} (h : o = x) (k : f o = y) : bd x f = y := by
  rw [bd, ← h]
  exact k
theorem it_t {β : Type} {c : Prop} [Decidable c] {a b y : β} (h : c) (k : a = y) : (if c then a else b) = y := by
  rw [if_pos h]
  exact k
theorem it_f {β : Type} {c : Prop} [Decidable c] {a b y : β} (h : ¬ c) (k : b = y) : (if c then a else b) = y := by
  rw [if_neg h]
  exact k
def rmN (k : Nat) : Room := { frames := k, cells := 0, slots := 0, locals := 40 * k }
theorem rm_ok {a b nL : Nat} (h : a + 1 ≤ b) (hn : nL ≤ 21) : RoomOk (rmN a) (rmN b) nL := ⟨rfl, rfl, h, by show 8 + (nL + 11) + 40 * a ≤ 40 * b; omega⟩
/-- a counter that goes up to N, by what is left -/
def cnt (N k : Nat) (x : Int32) : Prop := 1 ≤ k ∧ k ≤ N + 1 ∧ x = nI (N + 1 - k)
theorem cnt_0 (N : Nat) : cnt N (N + 1) 0 := ⟨Nat.le_add_left 1 N, Nat.le_refl _, by rw [Nat.sub_self]; rfl⟩
theorem cnt_s {N k : Nat} {x : Int32} (hN : N < 2 ^ 31) (h : cnt N (k + 1) x) (hx : ¬ nI N ≤ x) : cnt N k (x + 1) := by
  obtain ⟨h1, h2, rfl⟩ := h
  have hk : 1 ≤ k := by
    rcases Nat.eq_zero_or_pos k with h0 | h0
    · subst h0
      exact absurd (nI_le (by omega) (by omega)) hx
    · exact h0
  refine ⟨hk, by omega, ?_⟩
  rw [nI_1]
  congr 1
  omega
theorem cnt_n {N : Nat} {x : Int32} (h : cnt N 0 x) : False := absurd h.1 (by decide)
theorem b01 {v : Int32} (h : v = 0 ∨ v = 1) : narrow .boolean (.int v) = .int v := by
  rcases h with rfl | rfl <;> rfl
