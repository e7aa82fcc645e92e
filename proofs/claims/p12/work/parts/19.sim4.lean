/-! ===== distances side by side ===== -/
theorem Rel.ed {μ ν : xM} (h : Rel μ ν) (hB : BI μ) (hN : BI ν) {t u : Int} (t0 : 0 ≤ t) (t1 : t < μ 1 4) (u0 : 0 ≤ u) (u1 : u < μ 1 4) : edc μ t u = edm ν t u := by
  obtain ⟨a1, a2, a3⟩ := h.tl hB hN t0 t1
  obtain ⟨b1, b2, b3⟩ := h.tl hB hN u0 u1
  unfold edc edm
  rw [a1, b1]
  exact ed_cg a3 b3 (stN_iff.mp h.1).2.2.1
theorem R_middle {t r r' : Int} {μ ν : xM} (h : Rel μ ν) (hB : BI μ) (hN : BI ν) (hC : C_middle t μ r) (hD : D_middle t ν r') : r = r' := by
  have e0 : μ 1 4 = ν 121 0 := h.1.1
  rcases hC with ⟨a1, a2⟩ | ⟨a1, a2⟩ <;> rcases hD with ⟨b1, b2⟩ | ⟨b1, b2⟩
  · omega
  · rw [e0] at a1; exact absurd b1 a1
  · rw [e0] at a1; exact absurd a1 b1
  · rw [a2, b2, e0]
    refine congrArg Prod.fst (mnf_cg _ (fun k hk => ⟨rfl, fun _ => ?_⟩))
    exact sme_cg _ (fun j hj _ => h.ed hB hN (by omega) (by omega) (by omega) (by omega))
theorem R_like {μ ν : xM} (h : Rel μ ν) (hB : BI μ) (hN : BI ν) : lkc μ = lkm ν := by
  have e0 : μ 1 4 = ν 121 0 := h.1.1
  have b6 := bi_m6 hN
  have hT : μ 0 7 = chv (ν 120 6) (fun i => ν 125 i) := h.2.1
  have hlen := (chv_len (f := fun i => ν 125 i) b6.1 b6.2 (fun i _ _ => bi_125 hN i)).1
  have hmot : ∀ i, 0 ≤ i → i < ν 120 6 → cmot (μ 0 7) i = ν 125 i := fun i i0 i1 => by
    rw [hT]
    exact chv_mot (f := fun i => ν 125 i) b6.2 (fun i _ _ => bi_125 hN i) i0 i1
  rw [← hT] at hlen
  unfold lkc lkm
  rw [hlen]
  by_cases z : ν 120 6 = 0
  · rw [if_pos z, if_pos z]
  · rw [if_neg z, if_neg z, e0]
    refine congrArg Prod.fst (mnf_cg _ (fun k hk => ⟨rfl, fun _ => ?_⟩))
    obtain ⟨a1, a2, a3⟩ := h.tl hB hN (t := (k : Int)) (by omega) (by omega)
    unfold edt edn
    rw [hlen, a1]
    refine (ed_cg hmot a3 (stN_iff.mp h.1).2.2.1).trans (ed_sy b6 a2 (fun k k0 k1 => ?_))
    exact (show _ ∧ _ ∧ _ ∧ _ ∧ _ from hN 121 (2 + k)).2.2.1 (by omega)
theorem R_bad {μ ν : xM} (h : Rel μ ν) (hB : BI μ) (hN : BI ν) {q : Int} (q0 : 0 ≤ q) (q1 : q < μ 88 3) : badc μ q ↔ badm ν q := by
  have e0 : μ 1 4 = ν 121 0 := h.1.1
  obtain ⟨e1, e2, e3⟩ := h.2.2.2.1.2 q q0 q1
  have p1 : 0 ≤ μ 89 q ∧ μ 89 q ≤ 7 := hB 89 q
  have p2 : 0 ≤ μ 90 q ∧ μ 90 q ≤ 7 := hB 90 q
  unfold badc badm
  rw [← e1, ← e2, ← e3, ← e0]
  by_cases hl : μ 89 q < μ 1 4 ∧ μ 90 q < μ 1 4
  · rw [h.ed hB hN p1.1 hl.1 p2.1 hl.2]
    constructor
    · rintro (a | a)
      · exact absurd hl a
      · exact Or.inr a
    · rintro (a | a)
      · exact absurd ⟨⟨p1.1, hl.1⟩, p2.1, hl.2⟩ a
      · exact Or.inr a
  · exact ⟨fun _ => Or.inl (fun z => hl ⟨z.1.2, z.2.2⟩), fun _ => Or.inl hl⟩
theorem R_told {t r r' : Int} {μ ν : xM} (h : Rel μ ν) (hB : BI μ) (hN : BI ν) (hC : C_told t μ r) (hD : D_told t ν r') : r = r' := by
  have e0 : μ 1 4 = ν 121 0 := h.1.1
  have b8 := bi_14 hB
  rcases hC with ⟨rfl, a⟩ | ⟨rfl, a⟩ | ⟨rfl, a⟩ | ⟨rfl, a⟩ | ⟨rfl, a⟩ | ⟨rfl, a⟩ | ⟨rfl, a⟩ | ⟨rfl, a⟩ | ⟨rfl, a⟩ | ⟨hw, a⟩ <;> rcases hD with ⟨e, b⟩ | ⟨e, b⟩ | ⟨e, b⟩ | ⟨e, b⟩ | ⟨e, b⟩ | ⟨e, b⟩ | ⟨e, b⟩ | ⟨e, b⟩ | ⟨e, b⟩ | ⟨e, b⟩ <;> first | exact absurd e (by decide) | exact absurd ⟨by omega, by omega⟩ hw | skip
  · rw [a, b, e0]
  · have b6 := bi_m6 hN
    have hT : μ 0 7 = chv (ν 120 6) (fun i => ν 125 i) := h.2.1
    have hlen := (chv_len (f := fun i => ν 125 i) b6.1 b6.2 (fun i _ _ => bi_125 hN i)).1
    rw [a, b, hT, hlen]
  · rw [a, b]; exact h.1.2.1
  · rw [a, b, e0]
  · rw [a, b]; exact R_like h hB hN
  · rw [a, b]
    refine mal_rel h hB hN (fun i hi => ⟨fun _ => all_255 i (by omega), fun _ => ?_⟩)
    have := all_bit (μ 1 4).toNat (by omega) i (by omega)
    rw [Int.toNat_of_nonneg b8.1] at this
    exact this
  · rw [a, b]; exact h.2.2.2.1.1
  · rw [← h.2.2.2.1.1] at b
    exact FW_uq (fun q q0 q1 => R_bad h hB hN q0 q1) a b
  · rw [a, b]; exact h.2.2.2.2.1.1
  · rw [a, b]
/-! what is measured is kept, or forgotten -/
theorem M_feed {t r : Int} {μ μ' : xM} (h : Mz μ) (hC : C_feed t μ r μ') : Mz μ' := by
  rcases hC with ⟨a1, a2, rfl⟩ | ⟨a1, a2, a3, rfl⟩ | ⟨a1, a2, rfl, a3⟩
  · exact h
  · exact h
  · exact h.cg (xup_j (by omega)) (congrFun (xup_c (by decide)) _) (fun j => congrFun (xup_c (by decide)) j) (fun j => congrFun (xup_c (by decide)) j) (fun j => congrFun (xup_c (by decide)) j)
theorem M_tale {r : Int} {μ μ' : xM} (h : Mz μ) (hC : C_tale μ r μ') : Mz μ' := by
  rcases hC with ⟨a1, a2, rfl⟩ | ⟨a1, a2, a3, rfl⟩ | ⟨a1, a2, a3, μ1, μ2, a4, a5, rfl⟩
  · exact h
  · exact h
  · exact Or.inl (by rw [xup_j (by omega), a5.1 0 9 (by unfold AD; omega)]; exact a4.2.2.2.2)
theorem M_take {t r : Int} {μ μ' : xM} (h : Mz μ) (hC : C_take t μ r μ') : Mz μ' := by
  rcases hC with ⟨a1, a2, rfl⟩ | ⟨a1, a2, μ1, a3, a4⟩
  · exact h
  · exact Or.inl (by rw [a4.1 0 9 (by unfold AD; omega)]; exact a3.2.2.2.2)
theorem M_cost {w v r : Int} {μ μ' : xM} (h : Mz μ) (hC : C_cost w v μ r μ') : Mz μ' := by
  rcases hC with ⟨a1, a2, rfl⟩ | ⟨a1, a2, μ1, a3, rfl⟩
  · exact h
  · exact Or.inl (by rw [congrFun (xup_c (by decide)) _]; exact a3.2.2.2.2)
theorem M_kind {v r : Int} {μ μ' : xM} (h : Mz μ) (hC : C_kind v μ r μ') : Mz μ' := by
  rcases hC with ⟨a1, a2, rfl⟩ | ⟨a1, a2, μ1, a3, rfl⟩
  · exact h
  · exact Or.inl (by rw [congrFun (xup_c (by decide)) _]; exact a3.2.2.2.2)
theorem M_road {p q v r : Int} {μ μ' : xM} (h : Mz μ) (hC : C_road p q v μ r μ') : Mz μ' := by
  rcases hC with ⟨a1, a2, rfl⟩ | ⟨a1, a2, μ1, a3, a4⟩
  · exact h
  · exact Or.inl (by rw [a4.1 0 9 (by unfold F5; omega)]; exact a3.2.2.2.2)
theorem M_at {t s r : Int} {μ μ' : xM} (h : Mz μ) (hC : C_at t s μ r μ') : Mz μ' := by
  rcases hC with ⟨a1, a2, rfl⟩ | ⟨a1, a2, a3, rfl⟩ | ⟨a1, a2, ar, μ1, a3, rfl⟩
  · exact h
  · exact h
  · exact Or.inl (by rw [congrFun (xup_c (by decide)) _]; exact a3.2.2.2.2)
theorem M_drift {n r : Int} {μ μ' : xM} (h : Mz μ) (hC : C_drift n μ r μ') : Mz μ' := by
  rcases hC with ⟨a1, a2, rfl⟩ | ⟨a1, a2, k, a3, _⟩
  · exact h
  · cases k with
    | zero => rw [show μ' = μ from a3]; exact h
    | succ k =>
      obtain ⟨κ, κ1, c1, c2, c3, c4, c5⟩ := a3
      exact Or.inl (by rw [c5.1 0 9 (by unfold ADs AD; omega)]; exact c4.2.2.2.2)
theorem M_undo {n r : Int} {μ μ' : xM} (h : Mz μ) (hC : C_undo n μ r μ') : Mz μ' := by
  rcases hC with ⟨a1, a2, rfl⟩ | ⟨a1, a2, a3, rfl⟩ | ⟨a1, a2, a3, a4, _⟩
  · exact h
  · exact h
  · exact Or.inl a4
theorem M_write {t u v r : Int} {μ μ' : xM} (h : Mz μ) (hC : C_write t u v μ r μ') : Mz μ' := by
  rcases hC with ⟨a1, a2, rfl⟩ | ⟨a1, a2, a3, rfl⟩ | ⟨a1, a2, a3, rfl⟩
  · exact h
  · exact h
  · have fc : ∀ k j, k < 88 ∨ 92 ≤ k → xup (xup (xup (xup μ 89 (μ 88 3) t) 90 (μ 88 3) u) 91 (μ 88 3) v) 88 3 (μ 88 3 + 1) k j = μ k j := fun k j hk => by
      rw [congrFun (xup_c (by omega)) j, congrFun (xup_c (by omega)) j, congrFun (xup_c (by omega)) j, congrFun (xup_c (by omega)) j]
    exact h.cg (fc _ _ (by omega)) (fc _ _ (by omega)) (fun j => fc _ _ (by omega)) (fun j => fc _ _ (by omega)) (fun j => fc _ _ (by omega))
theorem M_tear {r : Int} {μ μ' : xM} (h : Mz μ) (hC : C_tear μ r μ') : Mz μ' := by
  obtain ⟨a1, rfl⟩ := hC
  exact h.cg (congrFun (xup_c (by decide)) _) (congrFun (xup_c (by decide)) _) (fun j => congrFun (xup_c (by decide)) j) (fun j => congrFun (xup_c (by decide)) j) (fun j => congrFun (xup_c (by decide)) j)
theorem M_seed {v r : Int} {μ μ' : xM} (h : Mz μ) (hC : C_seed v μ r μ') : Mz μ' := by
  rcases hC with ⟨a1, a2, rfl⟩ | ⟨a1, a2, rfl⟩
  · exact h
  · exact h.cg (xup_j (by omega)) (congrFun (xup_c (by decide)) _) (fun j => congrFun (xup_c (by decide)) j) (fun j => congrFun (xup_c (by decide)) j) (fun j => congrFun (xup_c (by decide)) j)
theorem M_keep {i r : Int} {μ μ' : xM} (h : Mz μ) (hC : C_keep i μ r μ') : Mz μ' := by
  rcases hC with ⟨a1, a2, rfl⟩ | ⟨a1, q, μ1, a2, a3, a4, rfl⟩
  · exact h
  · have fc : ∀ k j, k < 107 → k ≠ 6 → xup (xup (xup μ1 q 1 (μ 0 8)) q 2 1) 6 1 0 k j = μ k j := fun k j x y => by
      rw [congrFun (xup_c y) j, congrFun (xup_c (by omega)) j, congrFun (xup_c (by omega)) j]
      exact a3 k j (by unfold SA; omega)
    exact h.cg (fc _ _ (by omega) (by omega)) (fc _ _ (by omega) (by omega)) (fun j => fc _ _ (by omega) (by omega)) (fun j => fc _ _ (by omega) (by omega)) (fun j => fc _ _ (by omega) (by omega))
theorem M_goBack {i r : Int} {μ μ' : xM} (h : Mz μ) (hC : C_goBack i μ r μ') : Mz μ' := by
  rcases hC with ⟨a1, a2, rfl⟩ | ⟨q, a2, ⟨c1, c2, rfl⟩ | ⟨c1, c2, μ1, c3, c4, rfl⟩⟩
  · exact h
  · exact h
  · exact Or.inl (xup_s _ _ _ _)
