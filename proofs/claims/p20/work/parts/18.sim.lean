/-! ===== the two side by side ===== -/
def stN (μ ν : xM) : Prop :=
  μ 1 4 = ν 121 0 ∧ μ 1 5 = ν 121 1 ∧ (∀ k, 0 ≤ k → k < 4 → μ 4 k = ν 121 (2 + k)) ∧
  (∀ t, 0 ≤ t → t < μ 1 4 → μ 2 t = chv (ν 121 (6 + t)) (fun i => ν 121 (30 + 10 * t + i))) ∧
  (∀ t, 0 ≤ t → t < μ 1 4 → μ 3 t = ν 121 (14 + t) ∧ 0 ≤ μ 3 t ∧ μ 3 t ≤ 255) ∧
  (∀ p, 0 ≤ p → p < 8 → μ 5 p = ν 121 (22 + p) ∧ 0 ≤ μ 5 p ∧ μ 5 p ≤ 255)
theorem stN_iff {μ ν : xM} : stR μ 1 ν 121 0 ↔ stN μ ν := by
  unfold stR stN
  simp only [Int.zero_add]
theorem mB_st {ν : xM} (h : BI ν) : mB ν 121 0 := by
  refine ⟨(show _ ∧ _ from h 121 0).1 (by omega), fun t t0 t8 => ⟨(show _ ∧ _ ∧ _ ∧ _ ∧ _ from h 121 (0 + (6 + t))).2.2.2.1 (by omega), fun i i0 i1 => (show _ ∧ _ ∧ _ ∧ _ ∧ _ from h 121 (0 + (30 + 10 * t + i))).2.2.2.2 (by omega)⟩⟩
theorem bk_122 : bk 122 = 13 := by decide +kernel
theorem bk_123 : bk 123 = 14 := by decide +kernel
theorem mB_pa {ν : xM} (h : BI ν) {q : Int} (h0 : 0 ≤ q) (h1 : q < 16) : mB ν 122 (110 * q) := by
  have hh : ∀ j, bd 13 j (ν 122 j) := fun j => by have := h 122 j; rw [bk_122] at this; exact this
  refine ⟨(show _ ∧ _ ∧ _ ∧ _ ∧ _ from hh (110 * q)).1 (by omega), fun t t0 t8 => ⟨(show _ ∧ _ ∧ _ ∧ _ ∧ _ from hh (110 * q + (6 + t))).2.2.2.1 (by omega), fun i i0 i1 => (show _ ∧ _ ∧ _ ∧ _ ∧ _ from hh (110 * q + (30 + 10 * t + i))).2.2.2.2 (by omega)⟩⟩
theorem mB_im {ν : xM} (h : BI ν) {q : Int} (h0 : 0 ≤ q) (h1 : q < 2) : mB ν 123 (111 * q) := by
  have hh : ∀ j, bd 14 j (ν 123 j) := fun j => by have := h 123 j; rw [bk_123] at this; exact this
  refine ⟨(show _ ∧ _ ∧ _ ∧ _ ∧ _ ∧ _ from hh (111 * q)).1 (by omega), fun t t0 t8 => ⟨(show _ ∧ _ ∧ _ ∧ _ ∧ _ ∧ _ from hh (111 * q + (6 + t))).2.2.2.1 (by omega), fun i i0 i1 => (show _ ∧ _ ∧ _ ∧ _ ∧ _ ∧ _ from hh (111 * q + (30 + 10 * t + i))).2.2.2.2.1 (by have e : (111 * q + (30 + 10 * t + i)) % 111 = 30 + 10 * t + i := (by rw [Int.add_comm, Int.add_mul_emod_self_left]; exact Int.emod_eq_of_lt (by omega) (by omega)); omega)⟩⟩
theorem bi_61 {μ : xM} (h : BI μ) : 0 ≤ μ 6 1 ∧ μ 6 1 ≤ 16 := (show _ ∧ _ from h 6 1).1 (by omega)
theorem bi_62 {μ : xM} (h : BI μ) : 0 ≤ μ 6 2 ∧ μ 6 2 ≤ 15 := (show _ ∧ _ from h 6 2).2 (by omega)
theorem bi_14 {μ : xM} (h : BI μ) : 0 ≤ μ 1 4 ∧ μ 1 4 ≤ 8 := (show _ ∧ _ from h 1 4).1 (by omega)
theorem bi_m6 {ν : xM} (h : BI ν) : 0 ≤ ν 120 6 ∧ ν 120 6 ≤ 10 := (show _ ∧ _ ∧ _ ∧ _ ∧ _ ∧ _ ∧ _ from h 120 6).2.1 (by omega)
theorem bi_m8 {ν : xM} (h : BI ν) : 0 ≤ ν 120 8 ∧ ν 120 8 ≤ 20 := (show _ ∧ _ ∧ _ ∧ _ ∧ _ ∧ _ ∧ _ from h 120 8).2.2.1 (by omega)
theorem bi_125 {ν : xM} (h : BI ν) (j : Int) : 0 ≤ ν 125 j ∧ ν 125 j ≤ 7 := h 125 j
theorem Rel.now {μ μ' ν ν' : xM} (h : Rel μ ν) (hs : stR μ' 1 ν' 121 0) (c : ∀ k j, ¬ (1 ≤ k ∧ k ≤ 5) → k < 120 → ¬ (k = 0 ∧ j = 9) → μ' k j = μ k j) (d : ∀ k j, 120 ≤ k → k ≤ 126 → k ≠ 121 → ν' k j = ν k j) : Rel μ' ν' := by
  obtain ⟨a1, a2, a3, a4, a5, a6, a7⟩ := h
  exact ⟨hs, a2.cg (c _ _ (by omega) (by omega) (by omega)) (d _ _ (by omega) (by omega) (by omega)) (fun j => d _ _ (by omega) (by omega) (by omega)),
    a3.cg (c _ _ (by omega) (by omega) (by omega)) (d _ _ (by omega) (by omega) (by omega)),
    a4.cg (fun k j x y => c k j (by omega) (by omega) (by omega)) (d _ _ (by omega) (by omega) (by omega)) (fun j => d _ _ (by omega) (by omega) (by omega)),
    a5.cg (c _ _ (by omega) (by omega) (by omega)) (c _ _ (by omega) (by omega) (by omega)) (fun k j x y => c k j (by omega) (by omega) (by omega)) (d _ _ (by omega) (by omega) (by omega)) (fun j => d _ _ (by omega) (by omega) (by omega)),
    a6.cg (fun k j x y => c k j (by omega) (by omega) (by omega)) (fun j => d _ _ (by omega) (by omega) (by omega)) (fun j => d _ _ (by omega) (by omega) (by omega)),
    a7.cg (fun k j x y => c k j (by omega) (by omega) (by omega)) (fun j => d _ _ (by omega) (by omega) (by omega)) (fun j => d _ _ (by omega) (by omega) (by omega))⟩
theorem R_rm {μ μ1 ν ν1 : xM} (h : Rel μ ν) (hB : BI μ) (hN : BI ν) (hC : cRm μ μ1) (hD : mNt ν ν1) : Rel μ1 ν1 := by
  obtain ⟨a1, a2, a3, a4, a5, a6, a7⟩ := h
  obtain ⟨c1, c2, c3, c4⟩ := hC
  obtain ⟨d1, d2, d3, d4⟩ := hD
  have hr := rgc_bd (μ 6 2)
  have b1 := bi_61 hB
  have b2 := bi_62 hB
  have f1 : ∀ k j, ¬ (k = 0 ∧ j = 9) → k ≠ 6 → (k < 8 ∨ 88 ≤ k) → μ1 k j = μ k j := fun k j x y z => c1 k j (by unfold RBf; omega)
  have f2 : ∀ k j, k ≠ 122 → ¬ (k = 120 ∧ j = 2) → ν1 k j = ν k j := fun k j x y => d1 k j (by unfold NT; omega)
  refine ⟨a1.cg (fun k j x y => f1 k j (by omega) (by omega) (by omega)) (fun j => f2 _ _ (by omega) (by omega)),
    a2.cg (f1 _ _ (by omega) (by omega) (by omega)) (f2 _ _ (by omega) (by omega)) (fun j => f2 _ _ (by omega) (by omega)),
    a3.cg (f1 _ _ (by omega) (by omega) (by omega)) (f2 _ _ (by omega) (by omega)),
    a4.cg (fun k j x y => f1 k j (by omega) (by omega) (by omega)) (f2 _ _ (by omega) (by omega)) (fun j => f2 _ _ (by omega) (by omega)), ?_,
    a6.cg (fun k j x y => f1 k j (by omega) (by omega) (by omega)) (fun j => f2 _ _ (by omega) (by omega)) (fun j => f2 _ _ (by omega) (by omega)),
    a7.cg (fun k j x y => f1 k j (by omega) (by omega) (by omega)) (fun j => f2 _ _ (by omega) (by omega)) (fun j => f2 _ _ (by omega) (by omega))⟩
  obtain ⟨g1, g2⟩ := a5
  refine ⟨by rw [c4, d2, g1], fun i i0 i1 => ?_⟩
  rw [c4] at i1
  by_cases hl : i = min (μ 6 1 + 1) 16 - 1
  · have e : rgc (μ1 6 2 - μ1 6 1 + i) = rgc (μ 6 2) := by rw [c3, c4]; unfold rgc; omega
    rw [e]
    refine a1.mv c2 (fun j j0 j1 => ?_) (mB_st hN)
    rw [show 110 * i + j = 110 * (ν1 120 2 - 1) + j by omega, d3 j j0 j1, Int.zero_add]
  · obtain ⟨q, hq⟩ : ∃ q, q = i + (μ 6 1 + 1 - min (μ 6 1 + 1) 16) := ⟨_, rfl⟩
    have e : rgc (μ1 6 2 - μ1 6 1 + i) = rgc (μ 6 2 - μ 6 1 + q) := by rw [c3, c4]; unfold rgc; omega
    rw [e]
    have hne : rgc (μ 6 2 - μ 6 1 + q) + 4 < rgc (μ 6 2) ∨ rgc (μ 6 2) + 4 < rgc (μ 6 2 - μ 6 1 + q) := by unfold rgc; omega
    have hb := rgc_bd (μ 6 2 - μ 6 1 + q)
    refine (g2 q (by omega) (by omega)).mv (SE.same (fun k j x y => c1 k j (by unfold RBf; omega))) (fun j j0 j1 => ?_) (mB_pa hN (by omega) (by omega))
    rw [d4 (110 * i + j) (by omega) (by omega), show 110 * i + j + 110 * (ν 120 2 + 1 - ν1 120 2) = 110 * q + j by omega]
theorem mB.cg {ν ν' : xM} {m : Nat} {o : Int} (h : mB ν m o) (hh : ∀ j, ν' m j = ν m j) : mB ν' m o := by
  unfold mB
  simp only [hh]
  exact h
theorem nt_121 {ν ν1 : xM} (h : mNt ν ν1) (j : Int) : ν1 121 j = ν 121 j := h.1 121 j (by unfold NT; omega)
theorem rm_now {μ μ1 : xM} (h : cRm μ μ1) {k : Nat} (j : Int) (h1 : 1 ≤ k) (h2 : k ≤ 5) : μ1 k j = μ k j := h.1 k j (by have := rgc_bd (μ 6 2); unfold RBf; omega)
theorem R_kind {v r r' : Int} {μ μ' ν ν' : xM} (h : Rel μ ν) (hB : BI μ) (hN : BI ν) (hC : C_kind v μ r μ') (hD : D_kind v ν r' ν') : r = r' ∧ Rel μ' ν' := by
  rcases hC with ⟨a1, a2, rfl⟩ | ⟨a1, a2, μ1, a3, rfl⟩ <;> rcases hD with ⟨b1, b2, rfl⟩ | ⟨b1, b2, ν1, b3, rfl⟩
  · exact ⟨by omega, h⟩
  · exact absurd b1 a1
  · exact absurd a1 b1
  · have h1 := R_rm h hB hN a3 b3
    refine ⟨by rw [a2, b2]; exact h.1.2.1, h1.now ?_ (fun k j x y z => congrFun (xup_c (by omega)) j) (fun k j x y z => congrFun (xup_c z) j)⟩
    obtain ⟨s1, s2, s3, s4, s5, s6⟩ := stN_iff.mp h1.1
    refine stN_iff.mpr ⟨?_, ?_, fun k k0 k1 => ?_, fun t t0 t1 => ?_, fun t t0 t1 => ?_, fun p p0 p1 => ?_⟩
    · rw [xup_j (by omega), xup_j (by omega)]; exact s1
    · rw [xup_s, xup_s]
    · rw [congrFun (xup_c (by decide)) k, xup_j (by omega)]; exact s3 k k0 k1
    · rw [xup_j (by omega)] at t1
      rw [congrFun (xup_c (by decide)) t, xup_j (by omega), s4 t t0 t1]
      exact chv_cg (fun i i0 i1 => (xup_j (by omega)).symm)
    · rw [xup_j (by omega)] at t1
      rw [congrFun (xup_c (by decide)) t, xup_j (by omega)]; exact s5 t t0 t1
    · rw [congrFun (xup_c (by decide)) p, xup_j (by omega)]; exact s6 p p0 p1
theorem R_cost {w v r r' : Int} {μ μ' ν ν' : xM} (h : Rel μ ν) (hB : BI μ) (hN : BI ν) (hC : C_cost w v μ r μ') (hD : D_cost w v ν r' ν') : r = r' ∧ Rel μ' ν' := by
  rcases hC with ⟨a1, a2, rfl⟩ | ⟨a1, a2, μ1, a3, rfl⟩ <;> rcases hD with ⟨b1, b2, rfl⟩ | ⟨b1, b2, ν1, b3, rfl⟩
  · exact ⟨by omega, h⟩
  · exact absurd b1 a1
  · exact absurd a1 b1
  · have h1 := R_rm h hB hN a3 b3
    have hw := a1.1
    refine ⟨by rw [a2, b2]; exact (stN_iff.mp h.1).2.2.1 w hw.1 (by omega), h1.now ?_ (fun k j x y z => congrFun (xup_c (by omega)) j) (fun k j x y z => congrFun (xup_c z) j)⟩
    obtain ⟨s1, s2, s3, s4, s5, s6⟩ := stN_iff.mp h1.1
    refine stN_iff.mpr ⟨?_, ?_, fun k k0 k1 => ?_, fun t t0 t1 => ?_, fun t t0 t1 => ?_, fun p p0 p1 => ?_⟩
    · rw [congrFun (xup_c (by decide)) _, xup_j (by omega)]; exact s1
    · rw [congrFun (xup_c (by decide)) _, xup_j (by omega)]; exact s2
    · by_cases e : k = w
      · rw [e, xup_s, xup_s]
      · rw [xup_j e, xup_j (by omega)]; exact s3 k k0 k1
    · rw [congrFun (xup_c (by decide)) _] at t1
      rw [congrFun (xup_c (by decide)) t, xup_j (by omega), s4 t t0 t1]
      exact chv_cg (fun i i0 i1 => (xup_j (by omega)).symm)
    · rw [congrFun (xup_c (by decide)) _] at t1
      rw [congrFun (xup_c (by decide)) t, xup_j (by omega)]; exact s5 t t0 t1
    · rw [congrFun (xup_c (by decide)) p, xup_j (by omega)]; exact s6 p p0 p1
theorem R_at {t s r r' : Int} {μ μ' ν ν' : xM} (h : Rel μ ν) (hB : BI μ) (hN : BI ν) (hC : C_at t s μ r μ') (hD : D_at t s ν r' ν') : r = r' ∧ Rel μ' ν' := by
  have e0 : μ 1 4 = ν 121 0 := h.1.1
  have b8 := bi_14 hB
  rcases hC with ⟨a1, a2, rfl⟩ | ⟨a1, a2, a3, rfl⟩ | ⟨a1, a2, ar, μ1, a3, rfl⟩ <;> rcases hD with ⟨b1, b2, rfl⟩ | ⟨b1, b2, b3, rfl⟩ | ⟨b1, b2, br, ν1, b3, rfl⟩
  · exact ⟨by omega, h⟩
  · omega
  · omega
  · omega
  · exact ⟨by omega, h⟩
  · omega
  · omega
  · omega
  · have h1 := R_rm h hB hN a3 b3
    have e1 := rm_now a3 4 (k := 1) (by omega) (by omega)
    refine ⟨?_, h1.now ?_ (fun k j x y z => congrFun (xup_c (by omega)) j) (fun k j x y z => congrFun (xup_c z) j)⟩
    · rw [ar, br]; refine congrArg wnd (ov_cg (fun p hp => ?_) 256); rw [congrFun (xup_c (by decide)) _]; show μ1 5 (p : Int) = xup ν1 121 (14 + t) s 121 (22 + (p : Int)); rw [xup_j (by omega)]; exact ((stN_iff.mp h1.1).2.2.2.2.2 (p : Int) (by omega) (by omega)).1
    obtain ⟨s1, s2, s3, s4, s5, s6⟩ := stN_iff.mp h1.1
    refine stN_iff.mpr ⟨?_, ?_, fun k k0 k1 => ?_, fun q t0 t1 => ?_, fun q t0 t1 => ?_, fun p p0 p1 => ?_⟩
    · rw [congrFun (xup_c (by decide)) _, xup_j (by omega)]; exact s1
    · rw [congrFun (xup_c (by decide)) _, xup_j (by omega)]; exact s2
    · rw [congrFun (xup_c (by decide)) _, xup_j (by omega)]; exact s3 k k0 k1
    · rw [congrFun (xup_c (by decide)) _] at t1
      rw [congrFun (xup_c (by decide)) q, xup_j (by omega), s4 q t0 t1]
      exact chv_cg (fun i i0 i1 => (xup_j (by omega)).symm)
    · rw [congrFun (xup_c (by decide)) _] at t1
      by_cases e : q = t
      · rw [e, xup_s, xup_s]; exact ⟨rfl, a2.1, a2.2⟩
      · rw [xup_j e, xup_j (by omega)]; exact s5 q t0 t1
    · rw [congrFun (xup_c (by decide)) p, xup_j (by omega)]; exact s6 p p0 p1
theorem srd_bd {v x q : Int} (x0 : 0 ≤ x) (x1 : x ≤ 255) (q0 : 0 ≤ q) (q1 : q < 8) : 0 ≤ srd v x q ∧ srd v x q ≤ 255 := by
  obtain ⟨n, rfl⟩ := Int.eq_ofNat_of_zero_le x0
  obtain ⟨k, rfl⟩ := Int.eq_ofNat_of_zero_le q0
  have key : ∀ n : Nat, n < 256 → ∀ k : Nat, k < 8 → (0 ≤ xand (n : Int) (xxor (xshl 1 (k : Int)) (-1)) ∧ xand (n : Int) (xxor (xshl 1 (k : Int)) (-1)) ≤ 255) ∧ (0 ≤ xor' (n : Int) (xshl 1 (k : Int)) ∧ xor' (n : Int) (xshl 1 (k : Int)) ≤ 255) := by decide +kernel
  have := key n (by omega) k (by omega)
  unfold srd
  split
  · exact this.1
  · exact this.2
theorem sumf_cg {f g : Int → Int} : ∀ n : Nat, (∀ i : Nat, i < n → f (i : Int) = g (i : Int)) → sumf f n = sumf g n := by
  intro n
  induction n with
  | zero => intro _; rfl
  | succ n ih =>
    intro h
    simp only [sumf]
    rw [ih (fun i hi => h i (by omega)), h n (by omega)]
theorem R_road {p q v r r' : Int} {μ μ' ν ν' : xM} (h : Rel μ ν) (hB : BI μ) (hN : BI ν) (hC : C_road p q v μ r μ') (hD : D_road p q v ν r' ν') : r = r' ∧ Rel μ' ν' := by
  rcases hC with ⟨a1, a2, rfl⟩ | ⟨a1, a2, μ1, a3, a4, a5⟩ <;> rcases hD with ⟨b1, b2, rfl⟩ | ⟨b1, b2, ν1, b3, b4, b5⟩
  · exact ⟨by omega, h⟩
  · exact absurd b1 a1
  · exact absurd a1 b1
  · have h1 := R_rm h hB hN a3 b3
    obtain ⟨p0, q0, hpq⟩ := a1
    obtain ⟨s1, s2, s3, s4, s5, s6⟩ := stN_iff.mp h1.1
    have f1 : ∀ k j, k ≠ 5 → μ' k j = μ1 k j := fun k j x => a4 k j x
    have f2 : ∀ k j, k ≠ 121 → ν' k j = ν1 k j := fun k j x => b4 k j x
    have g2 : ∀ j, j < 22 ∨ 30 ≤ j → ν' 121 j = ν1 121 j := fun j x => by rw [b5 j, if_neg (by omega), if_neg (by omega)]
    have g6 : ∀ k, 0 ≤ k → k < 8 → μ' 5 k = ν' 121 (22 + k) ∧ 0 ≤ μ' 5 k ∧ μ' 5 k ≤ 255 := by
      intro k k0 k1
      rw [a5 k, b5 (22 + k)]
      obtain ⟨u1, u2, u3⟩ := s6 p (by omega) (by omega)
      obtain ⟨v1, v2, v3⟩ := s6 q (by omega) (by omega)
      by_cases e : k = q
      · rw [if_pos e, if_pos (by omega), ← v1]
        exact ⟨rfl, srd_bd v2 v3 (by omega) (by omega)⟩
      · rw [if_neg e, if_neg (show ¬ 22 + k = 22 + q by omega)]
        by_cases e2 : k = p
        · rw [if_pos e2, if_pos (show 22 + k = 22 + p by omega), ← u1]
          exact ⟨rfl, srd_bd u2 u3 (by omega) (by omega)⟩
        · rw [if_neg e2, if_neg (show ¬ 22 + k = 22 + p by omega)]
          exact s6 k k0 k1
    constructor
    · rw [a2, b2]
      congr 1
      refine sumf_cg 8 (fun i hi => ?_)
      obtain ⟨w1, w2, w3⟩ := g6 (i : Int) (by omega) (by omega)
      show xbc (μ' 5 (i : Int)) = xonf (ν' 121 (22 + (i : Int))) 8
      rw [← w1]
      obtain ⟨n, hn⟩ := Int.eq_ofNat_of_zero_le w2
      rw [hn]
      exact bc_on n (by omega)
    · refine h1.now ?_ (fun k j x y z => f1 k j (by omega)) (fun k j x y z => f2 k j z)
      refine stN_iff.mpr ⟨?_, ?_, fun k k0 k1 => ?_, fun t t0 t1 => ?_, fun t t0 t1 => ?_, g6⟩
      · rw [f1 1 _ (by omega), g2 _ (by omega)]; exact s1
      · rw [f1 1 _ (by omega), g2 _ (by omega)]; exact s2
      · rw [f1 4 _ (by omega), g2 _ (by omega)]; exact s3 k k0 k1
      · rw [f1 1 _ (by omega)] at t1
        have := bi_14 hB
        have := rm_now a3 4 (k := 1) (by omega) (by omega)
        rw [f1 2 _ (by omega), g2 _ (by omega), s4 t t0 t1]
        exact chv_cg (fun i i0 i1 => (g2 _ (by omega)).symm)
      · rw [f1 1 _ (by omega)] at t1
        have := bi_14 hB
        have := rm_now a3 4 (k := 1) (by omega) (by omega)
        rw [f1 3 _ (by omega), g2 _ (by omega)]; exact s5 t t0 t1
theorem R_take {t r r' : Int} {μ μ' ν ν' : xM} (h : Rel μ ν) (hB : BI μ) (hN : BI ν) (hC : C_take t μ r μ') (hD : D_take t ν r' ν') : r = r' ∧ Rel μ' ν' := by
  have e0 : μ 1 4 = ν 121 0 := h.1.1
  have b8 := bi_14 hB
  rcases hC with ⟨a1, a2, rfl⟩ | ⟨a1, a2, μ1, a3, a4, a5, a6⟩ <;> rcases hD with ⟨b1, b2, rfl⟩ | ⟨b1, b2, ν1, b3, b4, b5, b6, b7, b9⟩
  · exact ⟨by omega, h⟩
  · omega
  · omega
  · have h1 := R_rm h hB hN a3 b3
    have hm := (mB_st hN).cg (nt_121 b3)
    refine ⟨by omega, h1.now ?_ (fun k j x y z => a4 k j (by unfold AD; omega)) (fun k j x y z => b4 k j z)⟩
    obtain ⟨s1, s2, s3, s4, s5, s6⟩ := stN_iff.mp h1.1
    have e1 := rm_now a3 4 (k := 1) (by omega) (by omega)
    refine stN_iff.mpr ⟨?_, ?_, fun k k0 k1 => ?_, fun q t0 t1 => ?_, fun q t0 t1 => ?_, fun p p0 p1 => ?_⟩
    · rw [a5, b5, s1]
    · rw [a4 1 5 (by unfold AD; omega), b6 1 (by omega) (by omega)]; exact s2
    · rw [a4 4 k (by unfold AD; omega), b6 _ (by omega) (by omega)]; exact s3 k k0 k1
    · rw [a5] at t1
      have hsk : 0 ≤ sk t q ∧ sk t q < μ1 1 4 := by unfold sk; split <;> omega
      obtain ⟨u1, u2, u3⟩ := b9 q t0 (by omega)
      rw [(a6 q t0 t1).1, s4 _ hsk.1 hsk.2, u1]
      have hl := (hm.2 (sk t q) hsk.1 (by omega)).1
      rw [Int.zero_add] at hl
      exact chv_cg (fun i i0 i1 => (u3 i i0 (by omega)).symm)
    · rw [a5] at t1
      have hsk : 0 ≤ sk t q ∧ sk t q < μ1 1 4 := by unfold sk; split <;> omega
      obtain ⟨u1, u2, u3⟩ := b9 q t0 (by omega)
      rw [(a6 q t0 t1).2, u2]
      exact s5 _ hsk.1 hsk.2
    · rw [a4 5 p (by unfold AD; omega), b7 _ (by omega) (by omega)]; exact s6 p p0 p1
theorem stN.add {μ μ' ν ν' : xM} {c s L : Int} {f : Int → Int} (h : stN μ ν) (f1 : μ' 1 4 = μ 1 4 + 1) (f5 : μ' 1 5 = μ 1 5) (f4 : ∀ j, μ' 4 j = μ 4 j) (fr : ∀ j, μ' 5 j = μ 5 j) (f2 : ∀ j, μ' 2 j = (if j = μ 1 4 then c else μ 2 j) ∧ μ' 3 j = (if j = μ 1 4 then s else μ 3 j))
    (hd : mAd L s f ν ν') (hc : c = chv L f) (hL : 0 ≤ L ∧ L ≤ 10) (hs : 0 ≤ s ∧ s ≤ 255) (hn : 0 ≤ μ 1 4 ∧ μ 1 4 ≤ 7) (hm : mB ν 121 0) : stN μ' ν' := by
  obtain ⟨s1, s2, s3, s4, s5, s6⟩ := h
  refine ⟨?_, ?_, fun k k0 k1 => ?_, fun q t0 t1 => ?_, fun q t0 t1 => ?_, fun p p0 p1 => ?_⟩
  · rw [f1, hd 0 (by omega) (by omega), if_pos rfl, s1]
  · rw [f5, hd 1 (by omega) (by omega), if_neg (by omega), if_neg (by omega), if_neg (by omega), if_neg (by omega)]; exact s2
  · rw [f4, hd _ (by omega) (by omega), if_neg (by omega), if_neg (by omega), if_neg (by omega), if_neg (by omega)]; exact s3 k k0 k1
  · rw [f1] at t1
    rw [(f2 q).1]
    by_cases e : q = μ 1 4
    · rw [if_pos e, hd (6 + q) (by omega) (by omega), if_neg (by omega), if_pos (by omega), hc]
      refine chv_cg (fun i i0 i1 => ?_)
      rw [hd _ (by omega) (by omega), if_neg (by omega), if_neg (by omega), if_neg (by omega), if_pos (by omega), show 30 + 10 * q + i - (30 + 10 * ν 121 0) = i by omega]
    · rw [if_neg e, s4 q t0 (by omega), hd (6 + q) (by omega) (by omega), if_neg (by omega), if_neg (by omega), if_neg (by omega), if_neg (by omega)]
      have hl := (hm.2 q t0 (by omega)).1
      rw [Int.zero_add] at hl
      refine chv_cg (fun i i0 i1 => ?_)
      rw [hd _ (by omega) (by omega), if_neg (by omega), if_neg (by omega), if_neg (by omega), if_neg (by omega)]
  · rw [f1] at t1
    rw [(f2 q).2]
    by_cases e : q = μ 1 4
    · rw [if_pos e, hd (14 + q) (by omega) (by omega), if_neg (by omega), if_neg (by omega), if_pos (by omega)]
      exact ⟨rfl, hs⟩
    · rw [if_neg e, hd (14 + q) (by omega) (by omega), if_neg (by omega), if_neg (by omega), if_neg (by omega), if_neg (by omega)]
      exact s5 q t0 (by omega)
  · rw [fr, hd (22 + p) (by omega) (by omega), if_neg (by omega), if_neg (by omega), if_neg (by omega), if_neg (by omega)]
    exact s6 p p0 p1
theorem R_tale {r r' : Int} {μ μ' ν ν' : xM} (h : Rel μ ν) (hB : BI μ) (hN : BI ν) (hC : C_tale μ r μ') (hD : D_tale ν r' ν') : r = r' ∧ Rel μ' ν' := by
  have e0 : μ 1 4 = ν 121 0 := h.1.1
  have b8 := bi_14 hB
  have b6 := bi_m6 hN
  have hT : μ 0 7 = chv (ν 120 6) (fun i => ν 125 i) := h.2.1
  have hlen := (chv_len (f := fun i => ν 125 i) b6.1 b6.2 (fun i _ _ => bi_125 hN i)).1
  rw [← hT] at hlen
  rcases hC with ⟨a1, a2, rfl⟩ | ⟨a1, a2, a3, rfl⟩ | ⟨a1, a2, a3, μ1, μ2, a4, a5, rfl⟩ <;> rcases hD with ⟨b1, b2, rfl⟩ | ⟨b1, b2, b3, rfl⟩ | ⟨b1, b2, b3, ν1, b4, b5, b6, b7⟩
  · exact ⟨by omega, h⟩
  · omega
  · omega
  · omega
  · exact ⟨by omega, h⟩
  · omega
  · omega
  · omega
  · have h1 := R_rm h hB hN a4 b4
    have hm := (mB_st hN).cg (nt_121 b4)
    have e1 := rm_now a4 4 (k := 1) (by omega) (by omega)
    obtain ⟨c1, c2, c3⟩ := a5
    have hst : stN μ2 ν' := (stN_iff.mp h1.1).add c2 (c1 1 5 (by unfold AD; omega)) (fun j => c1 4 j (by unfold AD; omega)) (fun j => c1 5 j (by unfold AD; omega)) c3 b7 hT (by omega) (by omega) (by omega) hm
    have fm : ∀ k j, k ≠ 121 → ¬ (k = 120 ∧ j = 6) → ν' k j = ν1 k j := fun k j x y => b5 k j (by unfold TLf; omega)
    have fc : ∀ k j, ¬ (1 ≤ k ∧ k ≤ 5) → ¬ (k = 0 ∧ j = 7) → xup μ2 0 7 0 k j = μ1 k j := fun k j x y => by
      simp only [xup, if_neg y]
      exact c1 k j (by unfold AD; omega)
    obtain ⟨g1, g2, g3, g4, g5, g6, g7⟩ := h1
    refine ⟨by omega, (stN_iff.mpr hst).cg (fun k j x y => congrFun (xup_c (by omega)) j) (fun j => rfl), ?_,
      g3.cg (fc _ _ (by omega) (by omega)) (fm _ _ (by omega) (by omega)),
      g4.cg (fun k j x y => fc k j (by omega) (by omega)) (fm _ _ (by omega) (by omega)) (fun j => fm _ _ (by omega) (by omega)),
      g5.cg (fc _ _ (by omega) (by omega)) (fc _ _ (by omega) (by omega)) (fun k j x y => fc k j (by omega) (by omega)) (fm _ _ (by omega) (by omega)) (fun j => fm _ _ (by omega) (by omega)),
      g6.cg (fun k j x y => fc k j (by omega) (by omega)) (fun j => fm _ _ (by omega) (by omega)) (fun j => fm _ _ (by omega) (by omega)),
      g7.cg (fun k j x y => fc k j (by omega) (by omega)) (fun j => fm _ _ (by omega) (by omega)) (fun j => fm _ _ (by omega) (by omega))⟩
    unfold rT
    rw [xup_s, b6, chv_0]
theorem R_dw {μ μ' ν ν' : xM} (h : Rel μ ν) (h7 : 0 ≤ μ 1 4 ∧ μ 1 4 ≤ 7) (hm : mB ν 121 0) (hC : cDw μ μ') (hD : mDw ν ν') : Rel μ' ν' := by
  obtain ⟨c1, c2, c3, c4⟩ := hC
  obtain ⟨d1, d2, d3⟩ := hD
  obtain ⟨g1, g2, g3, g4, g5, g6, g7⟩ := h
  have hs : μ 0 8 = ν 120 9 := g3
  have hb := dL_bd (ν 120 9)
  have hp := drw_bd (ν 120 9) ((dL (ν 120 9)).toNat + 2) (n := 256) (by omega)
  rw [hs] at c2 c4
  have fc : ∀ k j, ¬ (k = 1 ∧ j = 4) → k ≠ 2 → k ≠ 3 → ¬ (k = 0 ∧ j = 8) → μ' k j = μ k j := fun k j x y z w => c1 k j (by unfold ADs AD; omega)
  have fm : ∀ k j, k ≠ 121 → ¬ (k = 120 ∧ j = 9) → ν' k j = ν k j := fun k j x y => d1 k j (by unfold DRf; omega)
  have hst : stN μ' ν' := (stN_iff.mp g1).add c3 (fc _ _ (by omega) (by omega) (by omega) (by omega)) (fun j => fc _ _ (by omega) (by omega) (by omega) (by omega)) (fun j => fc _ _ (by omega) (by omega) (by omega) (by omega)) c4 d3 rfl (by omega) (by unfold dP; omega) h7 hm
  exact ⟨stN_iff.mpr hst, g2.cg (fc _ _ (by omega) (by omega) (by omega) (by omega)) (fm _ _ (by omega) (by omega)) (fun j => fm _ _ (by omega) (by omega)),
    by unfold rS; rw [c2, d2],
    g4.cg (fun k j x y => fc k j (by omega) (by omega) (by omega) (by omega)) (fm _ _ (by omega) (by omega)) (fun j => fm _ _ (by omega) (by omega)),
    g5.cg (fc _ _ (by omega) (by omega) (by omega) (by omega)) (fc _ _ (by omega) (by omega) (by omega) (by omega)) (fun k j x y => fc k j (by omega) (by omega) (by omega) (by omega)) (fm _ _ (by omega) (by omega)) (fun j => fm _ _ (by omega) (by omega)),
    g6.cg (fun k j x y => fc k j (by omega) (by omega) (by omega) (by omega)) (fun j => fm _ _ (by omega) (by omega)) (fun j => fm _ _ (by omega) (by omega)),
    g7.cg (fun k j x y => fc k j (by omega) (by omega) (by omega) (by omega)) (fun j => fm _ _ (by omega) (by omega)) (fun j => fm _ _ (by omega) (by omega))⟩
theorem cDs_cnt {μ : xM} (h8 : μ 1 4 ≤ 8) : ∀ (n : Nat) (μ' : xM), cDs n μ μ' → μ' 1 4 = μ 1 4 + n ∧ μ' 1 4 ≤ 8 := by
  intro n
  induction n with
  | zero => intro μ' h; rw [show μ' = μ from h]; omega
  | succ n ih =>
    rintro μ' ⟨κ, κ1, h1, hb, h2, h3, h4⟩
    have e1 := (ih κ h1).1
    have e2 := rm_now h3 4 (k := 1) (by omega) (by omega)
    have e3 := h4.2.2.1
    omega
theorem mDs_cnt {ν : xM} (h8 : ν 121 0 ≤ 8) : ∀ (n : Nat) (ν' : xM), mDs n ν ν' → ν' 121 0 = ν 121 0 + n ∧ ν' 121 0 ≤ 8 := by
  intro n
  induction n with
  | zero => intro ν' h; rw [show ν' = ν from h]; omega
  | succ n ih =>
    rintro ν' ⟨κ, κ1, h1, hb, h2, h3, h4⟩
    have e1 := (ih κ h1).1
    have e2 := nt_121 h3 0
    have e3 := h4.2.2 0 (by omega) (by omega)
    rw [if_pos rfl] at e3
    omega
theorem R_ds {μ ν : xM} (h : Rel μ ν) : ∀ (n : Nat) (μ' ν' : xM), cDs n μ μ' → mDs n ν ν' → Rel μ' ν' := by
  intro n
  induction n with
  | zero => intro μ' ν' h1 h2; rw [show μ' = μ from h1, show ν' = ν from h2]; exact h
  | succ n ih =>
    rintro μ' ν' ⟨κ, κ1, c1, c2, c3, c4, c5⟩ ⟨π, π1, d1, d2, d3, d4, d5⟩
    have h1 := R_rm (ih κ π c1 d1) c2 d2 c4 d4
    have e2 := rm_now c4 4 (k := 1) (by omega) (by omega)
    have := bi_14 c2
    exact R_dw h1 (by omega) ((mB_st d2).cg (nt_121 d4)) c5 d5
theorem R_drift {n r r' : Int} {μ μ' ν ν' : xM} (h : Rel μ ν) (hB : BI μ) (hN : BI ν) (hC : C_drift n μ r μ') (hD : D_drift n ν r' ν') : r = r' ∧ Rel μ' ν' := by
  have e0 : μ 1 4 = ν 121 0 := h.1.1
  have b8 := bi_14 hB
  rcases hC with ⟨a1, a2, rfl⟩ | ⟨a1, a2, k, a3, a4, a5⟩ <;> rcases hD with ⟨b1, b2, rfl⟩ | ⟨b1, b2, q, b3, b4, b5⟩
  · exact ⟨by omega, h⟩
  · omega
  · omega
  · obtain ⟨x1, x2⟩ := cDs_cnt b8.2 k μ' a3
    obtain ⟨y1, y2⟩ := mDs_cnt (by omega) q ν' b3
    have hkq : k = q := by omega
    subst hkq
    have h1 := R_ds h k μ' ν' a3 b3
    exact ⟨by rw [a2, b2]; exact h1.1.1, h1⟩
theorem R_undo {n r r' : Int} {μ μ' ν ν' : xM} (h : Rel μ ν) (hB : BI μ) (hN : BI ν) (hC : C_undo n μ r μ') (hD : D_undo n ν r' ν') : r = r' ∧ Rel μ' ν' := by
  have e0 : μ 6 1 = ν 120 2 := h.2.2.2.2.1.1
  have b1 := bi_61 hB
  have b2 := bi_62 hB
  rcases hC with ⟨a1, a2, rfl⟩ | ⟨a1, a2, a3, rfl⟩ | ⟨a1, a2, a3, c1, c2, c3, c4⟩ <;> rcases hD with ⟨p1, p2, rfl⟩ | ⟨p1, p2, p3, rfl⟩ | ⟨p1, p2, p3, d1, d2, d3⟩
  · exact ⟨by omega, h⟩
  · omega
  · omega
  · omega
  · exact ⟨by omega, h⟩
  · omega
  · omega
  · omega
  · obtain ⟨g1, g2, g3, g4, g5, g6, g7⟩ := h
    have fc : ∀ k j, ¬ (1 ≤ k ∧ k ≤ 5) → k ≠ 6 → ¬ (k = 0 ∧ j = 9) → μ' k j = μ k j := fun k j x y z => c1 k j (by unfold TBf; omega)
    have fm : ∀ k j, k ≠ 121 → ¬ (k = 120 ∧ j = 2) → ν' k j = ν k j := fun k j x y => d1 k j (by unfold UDf; omega)
    have hs : stR μ' 1 ν' 121 0 := by
      have g := g5.2 (μ 6 1 - n) (by omega) (by omega)
      rw [show μ 6 2 - μ 6 1 + (μ 6 1 - n) = μ 6 2 - n by omega] at g
      refine g.mv c2 (fun j j0 j1 => ?_) (mB_pa hN (by omega) (by omega))
      rw [Int.zero_add, d3 j j0 j1, e0]
    refine ⟨by rw [a3, p3]; exact hs.1, hs, g2.cg (fc _ _ (by omega) (by omega) (by omega)) (fm _ _ (by omega) (by omega)) (fun j => fm _ _ (by omega) (by omega)),
      g3.cg (fc _ _ (by omega) (by omega) (by omega)) (fm _ _ (by omega) (by omega)),
      g4.cg (fun k j x y => fc k j (by omega) (by omega) (by omega)) (fm _ _ (by omega) (by omega)) (fun j => fm _ _ (by omega) (by omega)), ⟨by omega, fun i i0 i1 => ?_⟩,
      g6.cg (fun k j x y => fc k j (by omega) (by omega) (by omega)) (fun j => fm _ _ (by omega) (by omega)) (fun j => fm _ _ (by omega) (by omega)),
      g7.cg (fun k j x y => fc k j (by omega) (by omega) (by omega)) (fun j => fm _ _ (by omega) (by omega)) (fun j => fm _ _ (by omega) (by omega))⟩
    have e : rgc (μ' 6 2 - μ' 6 1 + i) = rgc (μ 6 2 - μ 6 1 + i) := by rw [c3, c4]; unfold rgc; omega
    rw [e]
    have hb := rgc_bd (μ 6 2 - μ 6 1 + i)
    exact (g5.2 i i0 (by omega)).cg (fun k j x y => fc k j (by omega) (by omega) (by omega)) (fun j => fm _ _ (by omega) (by omega))
theorem R_write {t u v r r' : Int} {μ μ' ν ν' : xM} (h : Rel μ ν) (hB : BI μ) (hN : BI ν) (hC : C_write t u v μ r μ') (hD : D_write t u v ν r' ν') : r = r' ∧ Rel μ' ν' := by
  have e0 : μ 1 4 = ν 121 0 := h.1.1
  have e1 : μ 88 3 = ν 120 8 := h.2.2.2.1.1
  have b1 := bi_m8 hN
  rcases hC with ⟨a1, a2, rfl⟩ | ⟨a1, a2, a3, rfl⟩ | ⟨a1, a2, a3, rfl⟩ <;> rcases hD with ⟨p1, p2, rfl⟩ | ⟨p1, p2, p3, rfl⟩ | ⟨p1, p2, p3, rfl⟩
  · exact ⟨by omega, h⟩
  · omega
  · omega
  · omega
  · exact ⟨by omega, h⟩
  · omega
  · omega
  · omega
  · obtain ⟨g1, g2, g3, g4, g5, g6, g7⟩ := h
    have fc : ∀ k j, ¬ (88 ≤ k ∧ k ≤ 91) → xup (xup (xup (xup μ 89 (μ 88 3) t) 90 (μ 88 3) u) 91 (μ 88 3) v) 88 3 (μ 88 3 + 1) k j = μ k j := fun k j x => by
      rw [congrFun (xup_c (by omega)) j, congrFun (xup_c (by omega)) j, congrFun (xup_c (by omega)) j, congrFun (xup_c (by omega)) j]
    have fm : ∀ k j, k ≠ 126 → ¬ (k = 120 ∧ j = 8) → xup (xup (xup (xup ν 126 (3 * ν 120 8) t) 126 (3 * ν 120 8 + 1) u) 126 (3 * ν 120 8 + 2) v) 120 8 (ν 120 8 + 1) k j = ν k j := fun k j x y => by
      simp only [xup, if_neg y, x, false_and, if_false]
    refine ⟨by omega, g1.cg (fun k j x y => fc k j (by omega)) (fun j => fm _ _ (by omega) (by omega)), g2.cg (fc _ _ (by omega)) (fm _ _ (by omega) (by omega)) (fun j => fm _ _ (by omega) (by omega)),
      g3.cg (fc _ _ (by omega)) (fm _ _ (by omega) (by omega)), ⟨by rw [xup_s, xup_s, e1], fun k k0 k1 => ?_⟩,
      g5.cg (fc _ _ (by omega)) (fc _ _ (by omega)) (fun k j x y => fc k j (by omega)) (fm _ _ (by omega) (by omega)) (fun j => fm _ _ (by omega) (by omega)),
      g6.cg (fun k j x y => fc k j (by omega)) (fun j => fm _ _ (by omega) (by omega)) (fun j => fm _ _ (by omega) (by omega)),
      g7.cg (fun k j x y => fc k j (by omega)) (fun j => fm _ _ (by omega) (by omega)) (fun j => fm _ _ (by omega) (by omega))⟩
    rw [xup_s] at k1
    have w1 : (xup (xup (xup (xup μ 89 (μ 88 3) t) 90 (μ 88 3) u) 91 (μ 88 3) v) 88 3 (μ 88 3 + 1)) 89 k = if k = μ 88 3 then t else μ 89 k := by simp [xup]
    have w2 : (xup (xup (xup (xup μ 89 (μ 88 3) t) 90 (μ 88 3) u) 91 (μ 88 3) v) 88 3 (μ 88 3 + 1)) 90 k = if k = μ 88 3 then u else μ 90 k := by simp [xup]
    have w3 : (xup (xup (xup (xup μ 89 (μ 88 3) t) 90 (μ 88 3) u) 91 (μ 88 3) v) 88 3 (μ 88 3 + 1)) 91 k = if k = μ 88 3 then v else μ 91 k := by simp [xup]
    have n1 : ∀ j, (xup (xup (xup (xup ν 126 (3 * ν 120 8) t) 126 (3 * ν 120 8 + 1) u) 126 (3 * ν 120 8 + 2) v) 120 8 (ν 120 8 + 1)) 126 j = if j = 3 * ν 120 8 + 2 then v else if j = 3 * ν 120 8 + 1 then u else if j = 3 * ν 120 8 then t else ν 126 j := fun j => by simp [xup]
    rw [w1, w2, w3, n1, n1, n1]
    by_cases e : k = μ 88 3
    · rw [if_pos e, if_pos e, if_pos e, if_neg (show ¬ 3 * k = 3 * ν 120 8 + 2 by omega), if_neg (show ¬ 3 * k = 3 * ν 120 8 + 1 by omega), if_pos (show 3 * k = 3 * ν 120 8 by omega), if_neg (show ¬ 3 * k + 1 = 3 * ν 120 8 + 2 by omega), if_pos (show 3 * k + 1 = 3 * ν 120 8 + 1 by omega), if_pos (show 3 * k + 2 = 3 * ν 120 8 + 2 by omega)]
      exact ⟨rfl, rfl, rfl⟩
    · obtain ⟨q1, q2, q3⟩ := g4.2 k k0 (by omega)
      rw [if_neg e, if_neg e, if_neg e, if_neg (show ¬ 3 * k = 3 * ν 120 8 + 2 by omega), if_neg (show ¬ 3 * k = 3 * ν 120 8 + 1 by omega), if_neg (show ¬ 3 * k = 3 * ν 120 8 by omega), if_neg (show ¬ 3 * k + 1 = 3 * ν 120 8 + 2 by omega), if_neg (show ¬ 3 * k + 1 = 3 * ν 120 8 + 1 by omega), if_neg (show ¬ 3 * k + 1 = 3 * ν 120 8 by omega), if_neg (show ¬ 3 * k + 2 = 3 * ν 120 8 + 2 by omega), if_neg (show ¬ 3 * k + 2 = 3 * ν 120 8 + 1 by omega), if_neg (show ¬ 3 * k + 2 = 3 * ν 120 8 by omega)]
      exact ⟨q1, q2, q3⟩
theorem R_tear {r r' : Int} {μ μ' ν ν' : xM} (h : Rel μ ν) (hC : C_tear μ r μ') (hD : D_tear ν r' ν') : r = r' ∧ Rel μ' ν' := by
  obtain ⟨a1, rfl⟩ := hC
  obtain ⟨b1, rfl⟩ := hD
  obtain ⟨g1, g2, g3, g4, g5, g6, g7⟩ := h
  refine ⟨by rw [a1, b1]; exact g4.1, g1.cg (fun k j x y => congrFun (xup_c (by omega)) j) (fun j => congrFun (xup_c (by decide)) j), g2.cg (congrFun (xup_c (by decide)) _) (xup_j (by omega)) (fun j => congrFun (xup_c (by decide)) j),
    g3.cg (congrFun (xup_c (by decide)) _) (xup_j (by omega)), ⟨by rw [xup_s, xup_s], fun k k0 k1 => ?_⟩,
    g5.cg (congrFun (xup_c (by decide)) _) (congrFun (xup_c (by decide)) _) (fun k j x y => congrFun (xup_c (by omega)) j) (xup_j (by omega)) (fun j => congrFun (xup_c (by decide)) j),
    g6.cg (fun k j x y => congrFun (xup_c (by omega)) j) (fun j => congrFun (xup_c (by decide)) j) (fun j => congrFun (xup_c (by decide)) j),
    g7.cg (fun k j x y => congrFun (xup_c (by omega)) j) (fun j => congrFun (xup_c (by decide)) j) (fun j => congrFun (xup_c (by decide)) j)⟩
  rw [xup_s] at k1
  omega
theorem R_seed {v r r' : Int} {μ μ' ν ν' : xM} (h : Rel μ ν) (hC : C_seed v μ r μ') (hD : D_seed v ν r' ν') : r = r' ∧ Rel μ' ν' := by
  rcases hC with ⟨a1, a2, rfl⟩ | ⟨a1, a2, rfl⟩ <;> rcases hD with ⟨b1, b2, rfl⟩ | ⟨b1, b2, rfl⟩
  · exact ⟨by omega, h⟩
  · omega
  · omega
  · obtain ⟨g1, g2, g3, g4, g5, g6, g7⟩ := h
    exact ⟨by rw [a2, b2]; exact g3, g1.cg (fun k j x y => congrFun (xup_c (by omega)) j) (fun j => congrFun (xup_c (by decide)) j), g2.cg (xup_j (by omega)) (xup_j (by omega)) (fun j => congrFun (xup_c (by decide)) j),
      by unfold rS; rw [xup_s, xup_s],
      g4.cg (fun k j x y => congrFun (xup_c (by omega)) j) (xup_j (by omega)) (fun j => congrFun (xup_c (by decide)) j),
      g5.cg (congrFun (xup_c (by decide)) _) (congrFun (xup_c (by decide)) _) (fun k j x y => congrFun (xup_c (by omega)) j) (xup_j (by omega)) (fun j => congrFun (xup_c (by decide)) j),
      g6.cg (fun k j x y => congrFun (xup_c (by omega)) j) (fun j => congrFun (xup_c (by decide)) j) (fun j => congrFun (xup_c (by decide)) j),
      g7.cg (fun k j x y => congrFun (xup_c (by omega)) j) (fun j => congrFun (xup_c (by decide)) j) (fun j => congrFun (xup_c (by decide)) j)⟩
theorem R_feed {t r r' : Int} {μ μ' ν ν' : xM} (h : Rel μ ν) (hN : BI ν) (hC : C_feed t μ r μ') (hD : D_feed t ν r' ν') : r = r' ∧ Rel μ' ν' := by
  have b6 := bi_m6 hN
  have hT : μ 0 7 = chv (ν 120 6) (fun i => ν 125 i) := h.2.1
  have hlen := (chv_len (f := fun i => ν 125 i) b6.1 b6.2 (fun i _ _ => bi_125 hN i)).1
  rw [← hT] at hlen
  rcases hC with ⟨a1, a2, rfl⟩ | ⟨a1, a2, a3, rfl⟩ | ⟨a1, a2, rfl, a3⟩ <;> rcases hD with ⟨p1, p2, rfl⟩ | ⟨p1, p2, p3, rfl⟩ | ⟨p1, p2, rfl, p3⟩
  · exact ⟨by omega, h⟩
  · omega
  · omega
  · omega
  · exact ⟨by omega, h⟩
  · omega
  · omega
  · omega
  · obtain ⟨g1, g2, g3, g4, g5, g6, g7⟩ := h
    have hl := chv_longer (f := fun i => ν 125 i) (n := ν 120 6) (q := t - 97) b6.1 (by omega) (fun i _ _ => bi_125 hN i) (by omega) (by omega)
    rw [← hT] at hl
    have hl2 := (chv_len (n := ν 120 6 + 1) (f := fun i => if i = ν 120 6 then t - 97 else ν 125 i) (by omega) (by omega) (fun i _ _ => by
      show 0 ≤ (if i = ν 120 6 then t - 97 else ν 125 i) ∧ (if i = ν 120 6 then t - 97 else ν 125 i) ≤ 7
      split
      · omega
      · exact bi_125 hN i)).1
    have fm : ∀ k j, k ≠ 125 → ¬ (k = 120 ∧ j = 6) → xup (xup ν 125 (ν 120 6) (t - 97)) 120 6 (ν 120 6 + 1) k j = ν k j := fun k j x y => by
      simp only [xup, if_neg y, x, false_and, if_false]
    refine ⟨by rw [a3, p3, hl, hl2], g1.cg (fun k j x y => congrFun (xup_c (by omega)) j) (fun j => fm _ _ (by omega) (by omega)), ?_, g3.cg (xup_j (by omega)) (fm _ _ (by omega) (by omega)),
      g4.cg (fun k j x y => congrFun (xup_c (by omega)) j) (fm _ _ (by omega) (by omega)) (fun j => fm _ _ (by omega) (by omega)),
      g5.cg (congrFun (xup_c (by decide)) _) (congrFun (xup_c (by decide)) _) (fun k j x y => congrFun (xup_c (by omega)) j) (fm _ _ (by omega) (by omega)) (fun j => fm _ _ (by omega) (by omega)),
      g6.cg (fun k j x y => congrFun (xup_c (by omega)) j) (fun j => fm _ _ (by omega) (by omega)) (fun j => fm _ _ (by omega) (by omega)),
      g7.cg (fun k j x y => congrFun (xup_c (by omega)) j) (fun j => fm _ _ (by omega) (by omega)) (fun j => fm _ _ (by omega) (by omega))⟩
    unfold rT
    rw [xup_s, xup_s, hl]
    refine chv_cg (fun i _ _ => ?_)
    rw [congrFun (xup_c (by decide)) _]
    simp [xup]
theorem rI.cg2 {q : Nat} {i : Int} {μ μ' ν ν' : xM} (h : rI q i μ ν) (hm : mB ν 123 (111 * i)) (h1 : ∀ k j, q ≤ k → k ≤ q + 5 → μ' k j = μ k j) (h2 : ν' 124 i = ν 124 i) (h3 : ∀ j, 111 * i ≤ j → j ≤ 111 * i + 110 → ν' 123 j = ν 123 j) : rI q i μ' ν' := by
  refine ⟨by rw [h1 _ _ (by omega) (by omega), h2]; exact h.1, fun hn => ?_⟩
  rw [h2] at hn
  obtain ⟨a, b⟩ := h.2 hn
  exact ⟨a.mv (SE.same (fun k j b0 b1 => h1 k j (by omega) (by omega))) (fun j j0 j1 => h3 _ (by omega) (by omega)) hm, by rw [h1 _ _ (by omega) (by omega), h3 _ (by omega) (by omega)]; exact b⟩
theorem rD_0 {μ ν : xM} (h1 : μ 6 1 = 0) (h2 : ν 120 2 = 0) : rD μ ν := ⟨by omega, fun i i0 i1 => by omega⟩
theorem R_keep {i r r' : Int} {μ μ' ν ν' : xM} (h : Rel μ ν) (hN : BI ν) (hC : C_keep i μ r μ') (hD : D_keep i ν r' ν') : r = r' ∧ Rel μ' ν' := by
  rcases hC with ⟨a1, a2, rfl⟩ | ⟨a1, q, μ1, a2, a3, a4, rfl⟩ <;> rcases hD with ⟨b1, b2, rfl⟩ | ⟨b1, b2, b3, b4, b5, b6⟩
  · exact ⟨by omega, h⟩
  · omega
  · omega
  · obtain ⟨g1, g2, g3, g4, g5, g6, g7⟩ := h
    have hs : μ 0 8 = ν 120 9 := g3
    have fc : ∀ k j, ¬ (q ≤ k ∧ k ≤ q + 5) → k ≠ 6 → xup (xup (xup μ1 q 1 (μ 0 8)) q 2 1) 6 1 0 k j = μ k j := fun k j x y => by
      rw [congrFun (xup_c y) j, congrFun (xup_c (by omega)) j, congrFun (xup_c (by omega)) j]
      exact a3 k j (by unfold SA; omega)
    have fm : ∀ k j, k ≠ 123 → k ≠ 124 → ¬ (k = 120 ∧ j = 2) → ν' k j = ν k j := fun k j x y z => b3 k j (by unfold KPf; omega)
    have me : rI q i (xup (xup (xup μ1 q 1 (μ 0 8)) q 2 1) 6 1 0) ν' := by
      refine ⟨?_, fun _ => ⟨g1.mv (a4.st (fun k j x y => ?_)) (fun j j0 j1 => ?_) (mB_st hN), ?_⟩⟩
      · rw [congrFun (xup_c (by omega)) _, xup_s, b4, if_pos rfl]
      · rw [congrFun (xup_c (by omega)) j, congrFun (xup_c (by omega)) j, congrFun (xup_c (by omega)) j]
      · rw [b5, if_neg (by omega), if_pos (by omega), show 111 * i + j - 111 * i = 0 + j by omega]
      · rw [congrFun (xup_c (by omega)) _, xup_j (by omega), xup_s, b5, if_pos rfl, hs]
    refine ⟨by omega, g1.cg (fun k j x y => fc k j (by omega) (by omega)) (fun j => fm _ _ (by omega) (by omega) (by omega)), g2.cg (fc _ _ (by omega) (by omega)) (fm _ _ (by omega) (by omega) (by omega)) (fun j => fm _ _ (by omega) (by omega) (by omega)),
      g3.cg (fc _ _ (by omega) (by omega)) (fm _ _ (by omega) (by omega) (by omega)),
      g4.cg (fun k j x y => fc k j (by omega) (by omega)) (fm _ _ (by omega) (by omega) (by omega)) (fun j => fm _ _ (by omega) (by omega) (by omega)), rD_0 (xup_s _ _ _ _) b6, ?_, ?_⟩
    · rcases a2 with ⟨e1, e2⟩ | ⟨e1, e2⟩
      · rw [e1, e2] at me; rw [e2]; exact me
      · exact g6.cg2 (mB_im hN (by omega) (by omega)) (fun k j x y => fc k j (by omega) (by omega)) (by rw [b4, if_neg (by omega)]) (fun j x y => by rw [b5, if_neg (by omega), if_neg (by omega)])
    · rcases a2 with ⟨e1, e2⟩ | ⟨e1, e2⟩
      · exact g7.cg2 (mB_im hN (by omega) (by omega)) (fun k j x y => fc k j (by omega) (by omega)) (by rw [b4, if_neg (by omega)]) (fun j x y => by rw [b5, if_neg (by omega), if_neg (by omega)])
      · rw [e1, e2] at me; rw [e2]; exact me
theorem R_goBack {i r r' : Int} {μ μ' ν ν' : xM} (h : Rel μ ν) (hN : BI ν) (hC : C_goBack i μ r μ') (hD : D_goBack i ν r' ν') : r = r' ∧ Rel μ' ν' := by
  obtain ⟨g1, g2, g3, g4, g5, g6, g7⟩ := h
  rcases hC with ⟨a1, a2, rfl⟩ | ⟨q, a2, hC⟩
  · rcases hD with ⟨b1, b2, rfl⟩ | ⟨b1, b2, b3, rfl⟩ | ⟨b1, b2, b3, b4, b5, b6, b7⟩
    · exact ⟨by omega, g1, g2, g3, g4, g5, g6, g7⟩
    · omega
    · omega
  · have me : rI q i μ ν := by
      rcases a2 with ⟨e1, e2⟩ | ⟨e1, e2⟩
      · rw [e1, e2]; exact g6
      · rw [e1, e2]; exact g7
    have m1 := me.1
    rcases hC with ⟨c1, c2, rfl⟩ | ⟨c1, c2, μ1, c3, c4, rfl⟩
    · rcases hD with ⟨b1, b2, rfl⟩ | ⟨b1, b2, b3, rfl⟩ | ⟨b1, b2, b3, b4, b5, b6, b7⟩
      · omega
      · exact ⟨by omega, g1, g2, g3, g4, g5, g6, g7⟩
      · omega
    · rcases hD with ⟨b1, b2, rfl⟩ | ⟨b1, b2, b3, rfl⟩ | ⟨b1, b2, b3, b4, b5, b6, b7⟩
      · omega
      · omega
      · obtain ⟨m2, m3⟩ := me.2 b2
        have fc : ∀ k j, ¬ (1 ≤ k ∧ k ≤ 5) → k ≠ 6 → ¬ (k = 0 ∧ j = 9) → ¬ (k = 0 ∧ j = 8) → xup (xup (xup μ1 0 8 (μ q 1)) 6 1 0) 0 9 0 k j = μ k j := fun k j x y z w => by
          simp only [xup, if_neg z, if_neg w, y, false_and, if_false]
          exact c3 k j (by unfold SA; omega)
        have fm : ∀ k j, k ≠ 121 → ¬ (k = 120 ∧ (j = 2 ∨ j = 9)) → ν' k j = ν k j := fun k j x y => b4 k j (by unfold GBf; omega)
        have hs : stR (xup (xup (xup μ1 0 8 (μ q 1)) 6 1 0) 0 9 0) 1 ν' 121 0 := by
          refine m2.mv (c4.st (fun k j x y => ?_)) (fun j j0 j1 => ?_) (mB_im hN (by omega) (by omega))
          · rw [congrFun (xup_c (by omega)) j, congrFun (xup_c (by omega)) j, congrFun (xup_c (by omega)) j]
          · rw [Int.zero_add, b5 j j0 j1]
        refine ⟨by omega, hs, g2.cg (fc _ _ (by omega) (by omega) (by omega) (by omega)) (fm _ _ (by omega) (by omega)) (fun j => fm _ _ (by omega) (by omega)), ?_,
          g4.cg (fun k j x y => fc k j (by omega) (by omega) (by omega) (by omega)) (fm _ _ (by omega) (by omega)) (fun j => fm _ _ (by omega) (by omega)), rD_0 ?_ b7,
          g6.cg (fun k j x y => fc k j (by omega) (by omega) (by omega) (by omega)) (fun j => fm _ _ (by omega) (by omega)) (fun j => fm _ _ (by omega) (by omega)),
          g7.cg (fun k j x y => fc k j (by omega) (by omega) (by omega) (by omega)) (fun j => fm _ _ (by omega) (by omega)) (fun j => fm _ _ (by omega) (by omega))⟩
        · unfold rS
          rw [xup_j (by omega), congrFun (xup_c (by decide)) _, xup_s, b6, m3]
        · rw [congrFun (xup_c (by decide)) _, xup_s]
theorem R_motif {t i r r' : Int} {μ ν : xM} (h : Rel μ ν) (hB : BI μ) (hN : BI ν) (hC : C_motif t i μ r) (hD : D_motif t i ν r') : r = r' := by
  have e0 : μ 1 4 = ν 121 0 := h.1.1
  have b8 := bi_14 hB
  have hm := mB_st hN
  have key : 0 ≤ t ∧ t < μ 1 4 → μ 2 t / 4294967296 = ν 121 (6 + t) ∧ ∀ i, 0 ≤ i → i < ν 121 (6 + t) → cmot (μ 2 t) i = ν 121 (30 + 10 * t + i) := by
    intro ht
    have hl := hm.2 t ht.1 (by omega)
    simp only [Int.zero_add] at hl
    have hc := (stN_iff.mp h.1).2.2.2.1 t ht.1 ht.2
    have hf : ∀ i, 0 ≤ i → i < ν 121 (6 + t) → 0 ≤ ν 121 (30 + 10 * t + i) ∧ ν 121 (30 + 10 * t + i) ≤ 7 := fun i i0 i1 => hl.2 i i0 (by omega)
    refine ⟨by rw [hc]; exact (chv_len hl.1.1 hl.1.2 hf).1, fun i i0 i1 => ?_⟩
    rw [hc]
    exact chv_mot (f := fun i => ν 121 (30 + 10 * t + i)) hl.1.2 hf i0 i1
  rcases hC with ⟨a1, a2⟩ | ⟨a1, a2, a3⟩ | ⟨a1, a2, a3⟩ <;> rcases hD with ⟨p1, p2⟩ | ⟨p1, p2, p3⟩ | ⟨p1, p2, p3⟩
  · omega
  · omega
  · omega
  · omega
  · omega
  · have := (key a1).1; omega
  · omega
  · have := (key a1).1; omega
  · rw [a3, p3]; exact (key a1).2 i p2.1 p2.2
theorem R_costAt {w r r' : Int} {μ ν : xM} (h : Rel μ ν) (hC : C_costAt w μ r) (hD : D_costAt w ν r') : r = r' := by
  rcases hC with ⟨a1, a2⟩ | ⟨a1, a2⟩ <;> rcases hD with ⟨p1, p2⟩ | ⟨p1, p2⟩
  · omega
  · omega
  · omega
  · rw [a2, p2]; exact (stN_iff.mp h.1).2.2.1 w a1.1 (by omega)
theorem Rel.two {μ μ1 μ2 : xM} (h : Rel μ μ) (h1 : Fr RO μ μ1) (h2 : Fr RM μ1 μ2) : Rel μ2 μ2 :=
  h.cg (fun k j hk => (h2 k j (by unfold RM; omega)).trans (h1 k j (by unfold RO; omega))) (fun k j a b => (h2 k j (by unfold RM; omega)).trans (h1 k j (by unfold RO; omega))) (fun j a b c => (h2 120 j (by unfold RM; omega)).trans (h1 120 j (by unfold RO; omega)))
theorem ro_cf {μ μ' : xM} (h : Fr RO μ μ') : Fr CF μ μ' := h.sub (fun k j hk => by unfold RO at hk; unfold CF; omega)
theorem Rel_0 {μ : xM} (h : BZ μ) (h1 : cst μ) (h2 : cst2 μ) : Rel μ μ := by
  have z : ∀ k j, zs k j → μ k j = 0 := h.2
  have e04 : μ 1 4 = 0 := z _ _ (by unfold zs; omega)
  have e88 : μ 88 3 = 0 := z _ _ (by unfold zs; omega)
  have e61 : μ 6 1 = 0 := z _ _ (by unfold zs; omega)
  have r : ∀ (q : Nat) (i : Int), (q = 108 ∨ q = 114) → rI q i μ μ := fun q i hq => ⟨by rw [z q 2 (by unfold zs; omega), z 124 i (by unfold zs; omega)], fun hn => absurd (z 124 i (by unfold zs; omega)) hn⟩
  refine ⟨stN_iff.mpr ⟨?_, ?_, fun k k0 k1 => ?_, fun t t0 t1 => by omega, fun t t0 t1 => by omega, fun p p0 p1 => ?_⟩, ?_, ?_, ⟨?_, fun k k0 k1 => by omega⟩, ⟨?_, fun i i0 i1 => by omega⟩, r 108 0 (by omega), r 114 1 (by omega)⟩
  · rw [e04, z 121 0 (by unfold zs; omega)]
  · rw [z 1 5 (by unfold zs; omega), z 121 1 (by unfold zs; omega)]
  · obtain ⟨a1, a2, a3, a4⟩ := h1
    obtain ⟨b1, b2, b3, b4⟩ := h2
    rcases (show k = 0 ∨ k = 1 ∨ k = 2 ∨ k = 3 by omega) with rfl | rfl | rfl | rfl
    · rw [a1]; exact b1.symm
    · rw [a2]; exact b2.symm
    · rw [a3]; exact b3.symm
    · rw [a4]; exact b4.symm
  · have e5 : μ 5 p = 0 := z _ _ (by unfold zs; omega)
    rw [e5, z 121 (22 + p) (by unfold zs; omega)]
    omega
  · unfold rT
    rw [z 0 7 (by unfold zs; omega), z 120 6 (by unfold zs; omega)]
    exact (chv_0 _).symm
  · unfold rS
    rw [z 0 8 (by unfold zs; omega), z 120 9 (by unfold zs; omega)]
  · rw [e88, z 120 8 (by unfold zs; omega)]
  · rw [e61, z 120 2 (by unfold zs; omega)]
