/-! ===== the tree side by side ===== -/
theorem R_node {t u r r' : Int} {μ ν : xM} (h : Rel μ ν) (hB : BI μ) (hN : BI ν) (hC : C_node t u μ r) (hD : D_node t u ν r') : r = r' := by
  have e0 : μ 1 4 = ν 121 0 := h.1.1
  have e1 : μ 1 5 = ν 121 1 := h.1.2.1
  have b8 := bi_14 hB
  rcases hC with ⟨a1, a2⟩ | ⟨a1, hC⟩ <;> rcases hD with ⟨b1, b2⟩ | ⟨b1, hD⟩
  · omega
  · omega
  · omega
  · have hE : ∀ i j : Nat, i < (ν 121 0).toNat → j < (ν 121 0).toNat → edc μ (i : Int) (j : Int) = edm ν (i : Int) (j : Int) := fun i j hi hj => h.ed hB hN (by omega) (by omega) (by omega) (by omega)
    obtain ⟨c1, c2, c3⟩ := tree_cg (kd := ν 121 1) (c := (ν 121 0).toNat) (by omega) hE t.toNat (by omega)
    rw [e0, e1] at hC
    rcases hC with ⟨x, a⟩ | ⟨x, a⟩ | ⟨x, a⟩ | ⟨x, a⟩ | ⟨x, a⟩ <;> rcases hD with ⟨y, b⟩ | ⟨y, b⟩ | ⟨y, b⟩ | ⟨y, b⟩ | ⟨y, b⟩ <;> first | (exfalso; omega) | skip
    · rw [a, b, c1]
    · rw [a, b, c2]
    · rw [a, b, c3]
    · rw [a, b, c2]
      unfold mdw
      refine congrArg Prod.fst (mnf_cg _ (fun k hk => ⟨rfl, fun _ => ?_⟩))
      exact sme_cg _ (fun j hj _ => hE k j hk hj)
    · omega
