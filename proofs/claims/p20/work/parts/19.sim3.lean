/-! ===== two tales side by side ===== -/
theorem R_pair {t u v r r' : Int} {μ ν : xM} (h : Rel μ ν) (hB : BI μ) (hN : BI ν) (hC : C_pair t u v μ r) (hD : D_pair t u v ν r') : r = r' := by
  have e0 : μ 1 4 = ν 121 0 := h.1.1
  have ec : ∀ k, 0 ≤ k → k < 4 → μ 4 k = ν 121 (2 + k) := (stN_iff.mp h.1).2.2.1
  rcases hC with ⟨a1, a2⟩ | ⟨a1, a2, a3⟩ | ⟨a1, a2, a3⟩ | ⟨a1, a2, a3⟩ | ⟨a1, a2, w, a3⟩ | ⟨a1, a2, a3⟩ <;> rcases hD with ⟨b1, b2⟩ | ⟨b1, b2, b3⟩ | ⟨b1, b2, b3⟩ | ⟨b1, b2, b3⟩ | ⟨b1, b2, w', b3⟩ | ⟨b1, b2, b3⟩ <;> first | omega | skip
  · obtain ⟨t1, t2, t3⟩ := h.tl hB hN a1.1.1 a1.1.2
    obtain ⟨u1, u2, u3⟩ := h.tl hB hN a1.2.1 a1.2.2
    rw [t1, u1] at a3
    exact PR0_uq t2.1 u2.1 t3 u3 ec a3 b3
  · obtain ⟨t1, t2, t3⟩ := h.tl hB hN a1.1.1 a1.1.2
    obtain ⟨u1, u2, u3⟩ := h.tl hB hN a1.2.1 a1.2.2
    rw [t1, u1] at a3
    exact PR1_uq t2.1 u2.1 t3 u3 ec a3 b3
  · obtain ⟨t1, t2, t3⟩ := h.tl hB hN a1.1.1 a1.1.2
    obtain ⟨u1, u2, u3⟩ := h.tl hB hN a1.2.1 a1.2.2
    rw [t1, u1] at a3
    exact (PRw_uq t3 u3 ec a3 b3).1
  · obtain ⟨t1, t2, t3⟩ := h.tl hB hN a1.1.1 a1.1.2
    obtain ⟨u1, u2, u3⟩ := h.tl hB hN a1.2.1 a1.2.2
    rw [t1, u1] at a3
    exact CS_CP t2.1 u2.1 t3 u3 a3 b3
theorem R_step {t u v r r' : Int} {μ ν : xM} (h : Rel μ ν) (hB : BI μ) (hN : BI ν) (hC : C_step t u v μ r) (hD : D_step t u v ν r') : r = r' := by
  have e0 : μ 1 4 = ν 121 0 := h.1.1
  have ec : ∀ k, 0 ≤ k → k < 4 → μ 4 k = ν 121 (2 + k) := (stN_iff.mp h.1).2.2.1
  rcases hC with ⟨a1, a2⟩ | ⟨a1, a3⟩ <;> rcases hD with ⟨b1, b2⟩ | ⟨b1, b3⟩
  · omega
  · omega
  · omega
  · obtain ⟨t1, t2, t3⟩ := h.tl hB hN a1.1.1 a1.1.2
    obtain ⟨u1, u2, u3⟩ := h.tl hB hN a1.2.1 a1.2.2
    rw [t1, u1] at a3
    exact PRs_uq t3 u3 ec a3 b3
