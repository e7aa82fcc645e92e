/-! ===== what the constructors leave ===== -/
def xgl (l : List Int) (j : Int) : Int := if j < 0 then -1 else l.getD j.toNat (-1)
theorem xgl_out {l : List Int} {j : Int} (h : j < 0 ∨ (l.length : Int) ≤ j) : xgl l j = -1 := by
  unfold xgl
  by_cases hj : j < 0
  · rw [if_pos hj]
  · rw [if_neg hj, List.getD_eq_getElem?_getD, List.getElem?_eq_none (by omega)]
    rfl
theorem xRF_none {k : Nat} (h : ∀ j, xRF k j = xgl [] j) (j : Int) : xRF k j = -1 := by
  rw [h]
  unfold xgl
  split <;> rfl
theorem st_rl : ∀ c ∈ xsts, ∀ j, xRF c j = xgl [((c + 1 : Nat) : Int), ((c + 2 : Nat) : Int), ((c + 3 : Nat) : Int), ((c + 4 : Nat) : Int)] j ∧ xRF (c + 1) j = xgl [] j ∧ xRF (c + 2) j = xgl [] j ∧ xRF (c + 3) j = xgl [] j ∧ xRF (c + 4) j = xgl [] j := by
  intro c hc j
  have key : ∀ L : List Nat, (∀ c ∈ L, c ∈ xsts) → c ∈ L → (c ∈ L) := fun _ _ h => h
  simp only [xsts, List.mem_cons, List.not_mem_nil, or_false] at hc
  rcases hc with h | h | h | h | h | h | h | h | h | h | h | h | h | h | h | h | h | h | h <;> subst h <;> exact ⟨rfl, rfl, rfl, rfl, rfl⟩
theorem xRF_lt (k : Nat) (j : Int) : xRF k j < 138 := by
  unfold xRF
  split
  · omega
  · rename_i hj
    rw [List.getD_eq_getElem?_getD]
    cases e : (List.getD _ k [])[j.toNat]? with
    | none => show (-1 : Int) < 138; omega
    | some v =>
      show v < 138
      have hv := List.mem_of_getElem? e
      rw [List.getD_eq_getElem?_getD] at hv
      cases e2 : (_ : List (List Int))[k]? with
      | none => rw [e2] at hv; simp at hv
      | some l =>
        rw [e2] at hv
        have hl := List.mem_of_getElem? e2
        exact (by decide +kernel : ∀ l ∈ _, ∀ v ∈ l, v < (138 : Int)) l hl v hv
/-- what the constructors leave 0 -/
def zs (k : Nat) (j : Int) : Prop := (k = 0 ∧ (j = 7 ∨ j = 8)) ∨ (k = 1 ∧ (j = 4 ∨ j = 5)) ∨ k = 5 ∨ (k = 88 ∧ j = 3) ∨ (k = 6 ∧ j = 1) ∨ (k = 108 ∧ j = 2) ∨ (k = 114 ∧ j = 2) ∨ (k = 120 ∧ (j = 2 ∨ j = 6 ∨ j = 8 ∨ j = 9)) ∨ (k = 121 ∧ (j = 0 ∨ j = 1 ∨ 22 ≤ j)) ∨ k = 124 ∨ (k = 0 ∧ j = 9)
def BZ (μ : xM) : Prop := BI μ ∧ ∀ k j, zs k j → μ k j = 0
theorem BZ.up {μ : xM} (h : BZ μ) {k : Nat} {j v : Int} (hv : bd (bk k) j v) (hz : zs k j → v = 0) : BZ (xup μ k j v) := by
  refine ⟨h.1.up hv, fun a b hab => ?_⟩
  by_cases e : a = k ∧ b = j
  · obtain ⟨rfl, rfl⟩ := e
    rw [xup_s]
    exact hz hab
  · simp only [xup, if_neg e]
    exact h.2 a b hab
def cst (μ : xM) : Prop := μ 4 0 = 2 ∧ μ 4 1 = 2 ∧ μ 4 2 = 1 ∧ μ 4 3 = 3
def cst2 (μ : xM) : Prop := μ 121 2 = 2 ∧ μ 121 3 = 2 ∧ μ 121 4 = 1 ∧ μ 121 5 = 3
theorem cst.keep {μ μ' : xM} (h : cst μ) (e : ∀ j, μ' 4 j = μ 4 j) : cst μ' := by
  unfold cst
  rw [e, e, e, e]
  exact h
theorem st_rn : ∀ c ∈ xsts, c = 1 ∨ (8 ≤ c ∧ c ≤ 83) ∨ c = 109 ∨ c = 115 := by decide +kernel
/-- behind a constructor: the cells from c on are as they are to be, below n; from n on nothing is -/
def CK (c n : Nat) (rf : Nat → Int → Int) (μ0 : xM) (w : xW) (μ : xM) : Prop := ∃ rf' : Nat → Int → Int, w = (n, xSH, rf') ∧ (∀ k j, k < c → rf' k j = rf k j) ∧ (∀ k j, c ≤ k → k < n → rf' k j = xRF k j) ∧ (∀ k j, n ≤ k → rf' k j = -1) ∧ (∀ k j, n ≤ k → μ k j = 0) ∧ BZ μ ∧ (∀ k j, k < c → μ k j = μ0 k j) ∧ (c ≤ 1 → cst μ) ∧ (c = 120 → cst2 μ)
/-- ahead of it -/
def CP (c : Nat) (rf : Nat → Int → Int) (μ : xM) : Prop := (∀ k j, c ≤ k → rf k j = -1) ∧ (∀ k j, c ≤ k → μ k j = 0) ∧ BZ μ
