/-! ===== readers side by side: places, motifs ===== -/
theorem Rel.pl {μ ν : xM} (h : Rel μ ν) : ∀ q, 0 ≤ q → q < μ 1 4 → 0 ≤ μ 3 q ∧ μ 3 q ≤ 255 := fun q a b => ((stN_iff.mp h.1).2.2.2.2.1 q a b).2
theorem Rel.rd {μ ν : xM} (h : Rel μ ν) : ∀ p : Nat, p < 8 → μ 5 (p : Int) = ν 121 (22 + (p : Int)) := fun p hp => ((stN_iff.mp h.1).2.2.2.2.2 (p : Int) (by omega) (by omega)).1
theorem ov_rel {μ ν : xM} (h : Rel μ ν) (s : Int) : ov (μ 5) s 256 = ov (fun p => ν 121 (22 + p)) s 256 := ov_cg (R' := fun p => ν 121 (22 + p)) (fun p hp => h.rd p hp) 256
/-- a tale of the one beside that of the other -/
theorem Rel.tl {μ ν : xM} (h : Rel μ ν) (hB : BI μ) (hN : BI ν) {t : Int} (h0 : 0 ≤ t) (h1 : t < μ 1 4) : μ 2 t / 4294967296 = ν 121 (6 + t) ∧ (0 ≤ ν 121 (6 + t) ∧ ν 121 (6 + t) ≤ 10) ∧ ∀ i, 0 ≤ i → i < ν 121 (6 + t) → cmot (μ 2 t) i = ν 121 (30 + 10 * t + i) := by
  have b8 := bi_14 hB
  have hl := (mB_st hN).2 t h0 (by omega)
  simp only [Int.zero_add] at hl
  have hc := (stN_iff.mp h.1).2.2.2.1 t h0 h1
  have hf : ∀ i, 0 ≤ i → i < ν 121 (6 + t) → 0 ≤ ν 121 (30 + 10 * t + i) ∧ ν 121 (30 + 10 * t + i) ≤ 7 := fun i i0 i1 => hl.2 i i0 (by omega)
  refine ⟨by rw [hc]; exact (chv_len hl.1.1 hl.1.2 hf).1, hl.1, fun i i0 i1 => ?_⟩
  rw [hc]
  exact chv_mot (f := fun i => ν 121 (30 + 10 * t + i)) hl.1.2 hf i0 i1
theorem mal_rel {μ ν : xM} (h : Rel μ ν) (hB : BI μ) (hN : BI ν) {s s' : Int} (hs : ∀ i : Nat, (i : Int) < μ 1 4 → (xand (xshr s (i : Int)) 1 = 1 ↔ xand (xshr s' (i : Int)) 1 = 1)) : mal s (fun t => mos (cmot (μ 2 t)) (μ 2 t / 4294967296).toNat) (μ 1 4).toNat = mal s' (fun t => mos (fun i => ν 121 (30 + 10 * t + i)) (ν 121 (6 + t)).toNat) (ν 121 0).toNat := by
  have e0 : μ 1 4 = ν 121 0 := h.1.1
  rw [← e0]
  refine mal_cg _ (fun i hi => ⟨?_, hs i (by omega)⟩)
  obtain ⟨e1, e2, e3⟩ := h.tl hB hN (t := (i : Int)) (by omega) (by omega)
  show mos (cmot (μ 2 (i : Int))) (μ 2 (i : Int) / 4294967296).toNat = mos (fun q => ν 121 (30 + 10 * (i : Int) + q)) (ν 121 (6 + (i : Int))).toNat
  rw [e1]
  exact mos_cg _ (fun q hq => e3 (q : Int) (by omega) (by omega))
theorem R_taleAt {t u r r' : Int} {μ ν : xM} (h : Rel μ ν) (hB : BI μ) (hN : BI ν) (hC : C_taleAt t u μ r) (hD : D_taleAt t u ν r') : r = r' := by
  have e0 : μ 1 4 = ν 121 0 := h.1.1
  rcases hC with ⟨a1, a2⟩ | ⟨a1, hC⟩ <;> rcases hD with ⟨b1, b2⟩ | ⟨b1, hD⟩
  · omega
  · omega
  · omega
  · have e1 := (h.tl hB hN a1.1 a1.2).1
    have s5 := ((stN_iff.mp h.1).2.2.2.2.1 t a1.1 a1.2).1
    have eo := ov_rel h (μ 3 t)
    rw [s5] at eo
    rcases hC with ⟨c1, c2⟩ | ⟨c1, c2⟩ | ⟨c1, c2⟩ | ⟨c1, c2⟩ | ⟨c1, c2⟩ <;> rcases hD with ⟨d1, d2⟩ | ⟨d1, d2⟩ | ⟨d1, d2⟩ | ⟨d1, d2⟩ | ⟨d1, d2⟩ <;> first | omega | (rw [c2, d2, s5, eo])
theorem R_wandered {t u r r' : Int} {μ ν : xM} (h : Rel μ ν) (hC : C_wandered t u μ r) (hD : D_wandered t u ν r') : r = r' := by
  have eo := ov_rel h t
  rcases hC with ⟨a1, a2⟩ | ⟨a1, hC⟩ <;> rcases hD with ⟨b1, b2⟩ | ⟨b1, hD⟩
  · omega
  · omega
  · omega
  · rcases hC with ⟨c1, c2⟩ | ⟨c1, c2⟩ | ⟨c1, c2⟩ <;> rcases hD with ⟨d1, d2⟩ | ⟨d1, d2⟩ | ⟨d1, d2⟩ <;> first | omega | (rw [c2, d2, eo])
theorem R_common {t r r' : Int} {μ ν : xM} (h : Rel μ ν) (hB : BI μ) (hN : BI ν) (hC : C_common t μ r) (hD : D_common t ν r') : r = r' := by
  have e0 : μ 1 4 = ν 121 0 := h.1.1
  rcases hC with ⟨a1, a2⟩ | ⟨a1, a2⟩ <;> rcases hD with ⟨b1, b2⟩ | ⟨b1, b2⟩
  · omega
  · rw [e0] at a1; exact absurd b1 a1
  · rw [e0] at a1; exact absurd a1 b1
  · rw [a2, b2]
    exact mal_rel h hB hN (fun i _ => Iff.rfl)
