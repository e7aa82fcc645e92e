/-! ===== what the constructors leave ===== -/
def xgl (l : List Int) (j : Int) : Int := if j < 0 then -1 else l.getD j.toNat (-1)
theorem xgl_out {l : List Int} {j : Int} (h : j < 0 ∨ (l.length : Int) ≤ j) : xgl l j = -1 := by
  unfold xgl
  by_cases hj : j < 0
  · rw [if_pos hj]
  · rw [if_neg hj, List.getD_eq_getElem?_getD, List.getElem?_eq_none (by omega)]
    rfl
theorem xRF_none {k : Nat} (h : ∀ j, xRF k j = xgl [] j) (j : Int) : xRF k j = -1 := by
  rw [h]
  unfold xgl
  split <;> rfl
theorem st_rl : ∀ c ∈ xsts, ∀ j, xRF c j = xgl [((c + 1 : Nat) : Int), ((c + 2 : Nat) : Int), ((c + 3 : Nat) : Int), ((c + 4 : Nat) : Int)] j ∧ xRF (c + 1) j = xgl [] j ∧ xRF (c + 2) j = xgl [] j ∧ xRF (c + 3) j = xgl [] j ∧ xRF (c + 4) j = xgl [] j := by
  intro c hc j
  have key : ∀ L : List Nat, (∀ c ∈ L, c ∈ xsts) → c ∈ L → (c ∈ L) := fun _ _ h => h
  simp only [xsts, List.mem_cons, List.not_mem_nil, or_false] at hc
  rcases hc with h | h | h | h | h | h | h | h | h | h | h | h | h | h | h | h | h | h | h <;> subst h <;> exact ⟨rfl, rfl, rfl, rfl, rfl⟩
theorem xRF_lt (k : Nat) (j : Int) : xRF k j < 138 := by
  unfold xRF
  split
  · omega
  · rename_i hj
    rw [List.getD_eq_getElem?_getD]
    cases e : (List.getD _ k [])[j.toNat]? with
    | none => show (-1 : Int) < 138; omega
    | some v =>
      show v < 138
      have hv := List.mem_of_getElem? e
      rw [List.getD_eq_getElem?_getD] at hv
      cases e2 : (_ : List (List Int))[k]? with
      | none => rw [e2] at hv; simp at hv
      | some l =>
        rw [e2] at hv
        have hl := List.mem_of_getElem? e2
        exact (by decide +kernel : ∀ l ∈ _, ∀ v ∈ l, v < (138 : Int)) l hl v hv
/-- behind a constructor: the cells from c on are as they are to be, below n; from n on nothing is -/
def CK (c n : Nat) (rf : Nat → Int → Int) (w : xW) (μ : xM) : Prop := ∃ rf' : Nat → Int → Int, w = (n, xSH, rf') ∧ (∀ k j, k < c → rf' k j = rf k j) ∧ (∀ k j, c ≤ k → k < n → rf' k j = xRF k j) ∧ (∀ k j, n ≤ k → rf' k j = -1) ∧ (∀ k j, n ≤ k → μ k j = 0) ∧ BI μ
/-- ahead of it -/
def CP (c : Nat) (rf : Nat → Int → Int) (μ : xM) : Prop := (∀ k j, c ≤ k → rf k j = -1) ∧ (∀ k j, c ≤ k → μ k j = 0) ∧ BI μ
