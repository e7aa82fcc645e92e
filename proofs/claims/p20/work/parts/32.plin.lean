set_option maxHeartbeats 4000000 in
set_option maxRecDepth 20000 in
theorem m_X8_apart {K : Option xV → xW → xM → Prop} {μ : xM} (hB0 : BI μ) (t : Int) (ht : 0 ≤ t ∧ t ≤ 7) (u : Int) (hu : 0 ≤ u ∧ u ≤ 7) (hK : ∀ r μ', BI μ' → Fr RM μ μ' → MD μ' → r = μ' 129 0 → MQx t u μ μ' → 0 ≤ r ∧ r ≤ 180 → K (some (xI r)) WW μ') : xMet yX8_apart cX8_apart 3 (some .int) 4 96 0 0 [xR 120, xI t, xI u] WW μ K := by
  refine xMet.go RX8 "apart" rfl rfl (by decide) [some (xR 120), some (xI t), some (xI u)] (Nat.le_of_ble_eq_true rfl) rfl (fun X hL => ?_)
  have hB := hB0
  have hF : Fr RM μ μ := Fr.rf
  refine r_aload_n hL (x := 120) dX8_apart_0 rfl ?_
  refine r_iload_n hL (x := t) dX8_apart_1 rfl ?_
  refine r_iload_n hL (x := u) dX8_apart_2 rfl ?_
  refine r_callV hL (st := []) (av := [xI t, xI u]) (k := 120) (m_X8_takes (μ := μ) hB t (by omega) u (by omega) (fun μ3c hB3c hG3 hMT3 => ⟨rfl, ?_⟩)) ce_yX8_takes im_yX8_takes se_yX8_takes ml_X8_103 xcl8 (by decide) s_120 dX8_apart_3 rfl (Nat.le_of_ble_eq_true rfl) ⟨Nat.le_of_ble_eq_true rfl, Nat.le_of_ble_eq_true rfl⟩ ⟨Nat.le_of_ble_eq_true rfl, Nat.le_of_ble_eq_true rfl⟩
  show X 0 0 WW μ3c 6 [some (xR 120), some (xI t), some (xI u)] []
  have hF3c : Fr RM μ μ3c := hF.trans hG3
  refine r_aload_n hL (x := 120) dX8_apart_6 rfl ?_
  refine r_callV hL (st := []) (av := []) (k := 120) (m_X8_linesUp (μ := μ3c) hB3c  (fun z7 μ7c hB7c hG7 hD7c heq7 hLQ7 hLW7 hc7 => ⟨rfl, ?_⟩)) ce_yX8_linesUp im_yX8_linesUp se_yX8_linesUp ml_X8_107 xcl8 (by decide) s_120 dX8_apart_7 rfl (Nat.le_of_ble_eq_true rfl) ⟨Nat.le_of_ble_eq_true rfl, Nat.le_of_ble_eq_true rfl⟩ ⟨Nat.le_of_ble_eq_true rfl, Nat.le_of_ble_eq_true rfl⟩
  show X 0 0 WW μ7c 10 [some (xR 120), some (xI t), some (xI u)] [xI z7]
  have hF7c : Fr RM μ μ7c := hF3c.trans (hG7.sub (fun k j h => by unfold LN at h; unfold RM; omega))
  exact r_iret hL dX8_apart_10 rfl (hK _ _ hB7c hF7c hD7c heq7 ⟨hMT3.fr (fun k q hk => hG7 k q (by unfold LN; omega)), fun k _ _ => hF7c 121 (2 + k) (by unfold RM; omega), by rw [mCo_ff (ν := μ7c) (μ := μ3c) (fun k q hk => hG7 k q (by unfold LN; omega)), hG7 120 11 (by unfold LN; omega), hG7 120 13 (by unfold LN; omega)]; exact hLQ7, by rw [mCo_ff (ν := μ7c) (μ := μ3c) (fun k q hk => hG7 k q (by unfold LN; omega)), hG7 120 11 (by unfold LN; omega), hG7 120 13 (by unfold LN; omega)]; exact hLW7⟩ (by omega))

set_option maxHeartbeats 4000000 in
set_option maxRecDepth 20000 in
theorem m_X8_isOfLeast {K : Option xV → xW → xM → Prop} {μ : xM} (hB0 : BI μ) (i : Int) (hi : 0 ≤ i ∧ i ≤ μ 120 11) (j : Int) (hj : 0 ≤ j ∧ j ≤ μ 120 13) (s : Int) (hs : 0 ≤ s ∧ s ≤ 3) (l : Int) (hl : xrg l) (hD : MD μ) (hK : ∀ r, (r = 1 ∧ mCo μ i j s ≤ 9 ∧ mCo μ i j s + μ 129 (11 * (i + xOF s) + (j + xOO s)) = l) ∨ (r = 0 ∧ ¬ (mCo μ i j s ≤ 9 ∧ mCo μ i j s + μ 129 (11 * (i + xOF s) + (j + xOO s)) = l)) → K (some (xI r)) WW μ) : xMet yX8_isOfLeast cX8_isOfLeast 6 (some .boolean) 3 67 0 0 [xR 120, xI i, xI j, xI s, xI l] WW μ K := by
  refine xMet.go RX8 "isOfLeast" rfl rfl (by decide) [some (xR 120), some (xI i), some (xI j), some (xI s), some (xI l), none] (Nat.le_of_ble_eq_true rfl) rfl (fun X hL => ?_)
  have hB := hB0
  have hm11 : 0 ≤ μ 120 11 ∧ μ 120 11 ≤ 10 := (show ((11 : Int) = 2 → 0 ≤ (μ 120 11) ∧ (μ 120 11) ≤ 16) ∧ ((11 : Int) = 6 → 0 ≤ (μ 120 11) ∧ (μ 120 11) ≤ 10) ∧ ((11 : Int) = 8 → 0 ≤ (μ 120 11) ∧ (μ 120 11) ≤ 20) ∧ ((11 : Int) = 9 → 0 ≤ (μ 120 11) ∧ (μ 120 11) ≤ 2147483647) ∧ ((11 : Int) = 11 → 0 ≤ (μ 120 11) ∧ (μ 120 11) ≤ 10) ∧ ((11 : Int) = 13 → 0 ≤ (μ 120 11) ∧ (μ 120 11) ≤ 10) ∧ ((11 : Int) = 20 → 0 ≤ (μ 120 11) ∧ (μ 120 11) ≤ 8) from hB 120 11).2.2.2.2.1 (by omega)
  have hm13 : 0 ≤ μ 120 13 ∧ μ 120 13 ≤ 10 := (show ((13 : Int) = 2 → 0 ≤ (μ 120 13) ∧ (μ 120 13) ≤ 16) ∧ ((13 : Int) = 6 → 0 ≤ (μ 120 13) ∧ (μ 120 13) ≤ 10) ∧ ((13 : Int) = 8 → 0 ≤ (μ 120 13) ∧ (μ 120 13) ≤ 20) ∧ ((13 : Int) = 9 → 0 ≤ (μ 120 13) ∧ (μ 120 13) ≤ 2147483647) ∧ ((13 : Int) = 11 → 0 ≤ (μ 120 13) ∧ (μ 120 13) ≤ 10) ∧ ((13 : Int) = 13 → 0 ≤ (μ 120 13) ∧ (μ 120 13) ≤ 10) ∧ ((13 : Int) = 20 → 0 ≤ (μ 120 13) ∧ (μ 120 13) ≤ 8) from hB 120 13).2.2.2.2.2.1 (by omega)
  refine r_aload_n hL (x := 120) dX8_isOfLeast_0 rfl ?_
  refine r_iload_n hL (x := i) dX8_isOfLeast_1 rfl ?_
  refine r_iload_n hL (x := j) dX8_isOfLeast_2 rfl ?_
  refine r_iload_n hL (x := s) dX8_isOfLeast_3 rfl ?_
  refine r_callV hL (st := []) (av := [xI i, xI j, xI s]) (k := 120) (m_X8_stepCost (μ := μ) hB i (by omega) j (by omega) s (by omega) (fun z4 hc4 hc4_1 hc4_2 hc4_3 => ⟨rfl, ?_⟩)) ce_yX8_stepCost im_yX8_stepCost se_yX8_stepCost ml_X8_89 xcl8 (by decide) s_120 dX8_isOfLeast_4 rfl (Nat.le_of_ble_eq_true rfl) ⟨Nat.le_of_ble_eq_true rfl, Nat.le_of_ble_eq_true rfl⟩ ⟨Nat.le_of_ble_eq_true rfl, Nat.le_of_ble_eq_true rfl⟩
  show X 0 0 WW μ 7 [some (xR 120), some (xI i), some (xI j), some (xI s), some (xI l), none] [xI z4]
  refine r_istore hL (lo' := [some (xR 120), some (xI i), some (xI j), some (xI s), some (xI l), some (xI z4)]) dX8_isOfLeast_7 (by decide) rfl ?_
  refine r_iload hL (x := z4) dX8_isOfLeast_9 rfl ?_
  refine r_ldc hL (n := 100000) dX8_isOfLeast_11 kc_X8_84 (by decide) ?_
  refine r_icmp_ge hL (tgt := 48) dX8_isOfLeast_13 (by decide) (by omega) (by omega) (fun c13 => ?_) (fun c13 => ?_)
  · skip
    refine r_iconst hL dX8_isOfLeast_48 ?_
    exact r_zret hL dX8_isOfLeast_49 rfl (by omega) (hK _ (by first | (rw [← hc4, ← hc24, ← hc30, ← hc34, ← hz37]; omega) | (rw [← hc4]; omega)))
  · skip
    refine r_iload hL (x := z4) dX8_isOfLeast_16 rfl ?_
    refine r_aload_n hL (x := 120) dX8_isOfLeast_18 rfl ?_
    refine r_getr hL xcl8 14 (by decide) s_120 (by decide) fl_X8_35 (by decide) f_120_14 dX8_isOfLeast_19 ?_
    refine r_iload_n hL (x := i) dX8_isOfLeast_22 rfl ?_
    refine r_iload_n hL (x := s) dX8_isOfLeast_23 rfl ?_
    refine r_callS hL (st := [xI i, xR 129, xI z4]) (av := [xI s]) (m_X8_firstBy (μ := μ) s (by omega) (fun z24 hc24 hc24_1 => ⟨rfl, ?_⟩)) ce_yX8_firstBy sm_yX8_firstBy ml_X8_93 dX8_isOfLeast_24 rfl (Nat.le_of_ble_eq_true rfl) ⟨Nat.le_of_ble_eq_true rfl, Nat.le_of_ble_eq_true rfl⟩ ⟨Nat.le_of_ble_eq_true rfl, Nat.le_of_ble_eq_true rfl⟩
    show X 0 0 WW μ 27 [some (xR 120), some (xI i), some (xI j), some (xI s), some (xI l), some (xI z4)] [xI z24, xI i, xR 129, xI z4]
    refine r_iadd hL dX8_isOfLeast_27 ?_
    refine r_iload_n hL (x := j) dX8_isOfLeast_28 rfl ?_
    refine r_iload_n hL (x := s) dX8_isOfLeast_29 rfl ?_
    refine r_callS hL (st := [xI j, xI (i + z24), xR 129, xI z4]) (av := [xI s]) (m_X8_otherBy (μ := μ) s (by omega) (fun z30 hc30 hc30_1 => ⟨rfl, ?_⟩)) ce_yX8_otherBy sm_yX8_otherBy ml_X8_97 dX8_isOfLeast_30 rfl (Nat.le_of_ble_eq_true rfl) ⟨Nat.le_of_ble_eq_true rfl, Nat.le_of_ble_eq_true rfl⟩ ⟨Nat.le_of_ble_eq_true rfl, Nat.le_of_ble_eq_true rfl⟩
    show X 0 0 WW μ 33 [some (xR 120), some (xI i), some (xI j), some (xI s), some (xI l), some (xI z4)] [xI z30, xI j, xI (i + z24), xR 129, xI z4]
    refine r_iadd hL dX8_isOfLeast_33 ?_
    refine r_callS hL (st := [xR 129, xI z4]) (av := [xI (i + z24), xI (j + z30)]) (m_X8_cellOf (μ := μ) (i + z24) (j + z30) (fun z34 hc34 => ⟨rfl, ?_⟩)) ce_yX8_cellOf sm_yX8_cellOf ml_X8_100 dX8_isOfLeast_34 rfl (Nat.le_of_ble_eq_true rfl) ⟨Nat.le_of_ble_eq_true rfl, Nat.le_of_ble_eq_true rfl⟩ ⟨Nat.le_of_ble_eq_true rfl, Nat.le_of_ble_eq_true rfl⟩
    show X 0 0 WW μ 37 [some (xR 120), some (xI i), some (xI j), some (xI s), some (xI l), some (xI z4)] [xI z34, xR 129, xI z4]
    refine r_iald hL dX8_isOfLeast_37 (by decide) s_129 (by decide) (by omega) (by omega) (fun hr37 => ?_)
    obtain ⟨z37, hz37⟩ : ∃ z, z = μ 129 z34 := ⟨_, rfl⟩
    rw [← hz37] at hr37 ⊢
    have hnx := (hD.at (a := i + z24) (b := j + z30) (by omega) (by omega) (by omega) (by omega)).1
    have hn37 : 0 ≤ z37 ∧ z37 ≤ 180 := by rw [hz37, hc34]; omega
    refine r_iadd hL dX8_isOfLeast_38 ?_
    refine r_iload hL (x := l) dX8_isOfLeast_39 rfl ?_
    refine r_icmp_ne hL (tgt := 48) dX8_isOfLeast_41 (by decide) (by omega) (by omega) (fun c41 => ?_) (fun c41 => ?_)
    · skip
      refine r_iconst hL dX8_isOfLeast_48 ?_
      exact r_zret hL dX8_isOfLeast_49 rfl (by omega) (hK _ (by first | (rw [← hc4, ← hc24, ← hc30, ← hc34, ← hz37]; omega) | (rw [← hc4]; omega)))
    · skip
      refine r_iconst hL dX8_isOfLeast_44 ?_
      refine r_goto hL (tgt := 49) dX8_isOfLeast_45 (by decide) ?_
      exact r_zret hL dX8_isOfLeast_49 rfl (by omega) (hK _ (by first | (rw [← hc4, ← hc24, ← hc30, ← hc34, ← hz37]; omega) | (rw [← hc4]; omega)))
