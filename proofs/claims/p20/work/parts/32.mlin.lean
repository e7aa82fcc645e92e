set_option maxHeartbeats 4000000 in
set_option maxRecDepth 20000 in
theorem m_X8_takes {K : Option xV → xW → xM → Prop} {μ : xM} (hB0 : BI μ) (t : Int) (ht : 0 ≤ t ∧ t ≤ 7) (u : Int) (hu : 0 ≤ u ∧ u ≤ 7) (hK : ∀ μ', BI μ' → Fr RM μ μ' → MT t u μ μ' → K none WW μ') : xMet yX8_takes cX8_takes 3 none 1 25 0 0 [xR 120, xI t, xI u] WW μ K := by
  refine xMet.go RX8 "takes" rfl rfl (by decide) [some (xR 120), some (xI t), some (xI u)] (Nat.le_of_ble_eq_true rfl) rfl (fun X hL => ?_)
  have hB := hB0
  have hF : Fr RM μ μ := Fr.rf
  refine r_aload_n hL (x := 120) dX8_takes_0 rfl ?_
  refine r_aload_n hL (x := 120) dX8_takes_1 rfl ?_
  refine r_getr hL xcl8 0 (by decide) s_120 (by decide) fl_X8_7 (by decide) f_120_0 dX8_takes_2 ?_
  refine r_bipush hL dX8_takes_5 (by decide) ?_
  refine r_iload_n hL (x := t) dX8_takes_7 rfl ?_
  refine r_iadd hL dX8_takes_8 ?_
  refine r_iald hL dX8_takes_9 (by decide) s_121 (by decide) (by omega) (by omega) (fun hr9 => ?_)
  obtain ⟨z9, hz9⟩ : ∃ z, z = μ 121 (6 + t) := ⟨_, rfl⟩
  rw [← hz9] at hr9 ⊢
  have hb9 : 0 ≤ μ 121 (6 + t) ∧ μ 121 (6 + t) ≤ 10 := (show ((6 + t) = 0 → 0 ≤ (μ 121 (6 + t)) ∧ (μ 121 (6 + t)) ≤ 8) ∧ ((6 + t) = 1 → 0 ≤ (μ 121 (6 + t)) ∧ (μ 121 (6 + t)) ≤ 2) ∧ (2 ≤ (6 + t) ∧ (6 + t) ≤ 5 → 0 ≤ (μ 121 (6 + t)) ∧ (μ 121 (6 + t)) ≤ 9) ∧ (6 ≤ (6 + t) ∧ (6 + t) ≤ 13 → 0 ≤ (μ 121 (6 + t)) ∧ (μ 121 (6 + t)) ≤ 10) ∧ (30 ≤ (6 + t) → 0 ≤ (μ 121 (6 + t)) ∧ (μ 121 (6 + t)) ≤ 7) from hB 121 (6 + t)).2.2.2.1 (by omega)
  refine r_puti hL xcl8 11 (j' := 11) rfl (by decide) s_120 (by decide) fl_X8_66 rfl rfl (by omega) dX8_takes_10 (fun μ1 hm1 => ?_)
  have hB1 : BI μ1 := by rw [hm1]; exact hB.up (by show ((11 : Int) = 2 → 0 ≤ z9 ∧ z9 ≤ 16) ∧ ((11 : Int) = 6 → 0 ≤ z9 ∧ z9 ≤ 10) ∧ ((11 : Int) = 8 → 0 ≤ z9 ∧ z9 ≤ 20) ∧ ((11 : Int) = 9 → 0 ≤ z9 ∧ z9 ≤ 2147483647) ∧ ((11 : Int) = 11 → 0 ≤ z9 ∧ z9 ≤ 10) ∧ ((11 : Int) = 13 → 0 ≤ z9 ∧ z9 ≤ 10) ∧ ((11 : Int) = 20 → 0 ≤ z9 ∧ z9 ≤ 8); omega)
  have hF1 : Fr RM μ μ1 := by rw [hm1]; exact hF.up (by unfold RM; omega)
  have hk1_120_11 : μ1 120 11 = z9 := by rw [hm1]; exact xup_s _ _ _ _
  have hk1_120_13 : μ1 120 13 = μ 120 13 := by rw [hm1]; exact xup_j (by omega)
  have hS1 : ∀ q, μ1 121 q = μ 121 q := fun q => by rw [hm1]; exact congrFun (xup_c (by decide)) q
  refine r_aload_n hL (x := 120) dX8_takes_13 rfl ?_
  refine r_aload_n hL (x := 120) dX8_takes_14 rfl ?_
  refine r_getr hL xcl8 0 (by decide) s_120 (by decide) fl_X8_7 (by decide) f_120_0 dX8_takes_15 ?_
  refine r_bipush hL dX8_takes_18 (by decide) ?_
  refine r_iload_n hL (x := u) dX8_takes_20 rfl ?_
  refine r_iadd hL dX8_takes_21 ?_
  refine r_iald hL dX8_takes_22 (by decide) s_121 (by decide) (by omega) (by omega) (fun hr22 => ?_)
  obtain ⟨z22, hz22⟩ : ∃ z, z = μ1 121 (6 + u) := ⟨_, rfl⟩
  rw [← hz22] at hr22 ⊢
  have hb22 : 0 ≤ μ1 121 (6 + u) ∧ μ1 121 (6 + u) ≤ 10 := (show ((6 + u) = 0 → 0 ≤ (μ1 121 (6 + u)) ∧ (μ1 121 (6 + u)) ≤ 8) ∧ ((6 + u) = 1 → 0 ≤ (μ1 121 (6 + u)) ∧ (μ1 121 (6 + u)) ≤ 2) ∧ (2 ≤ (6 + u) ∧ (6 + u) ≤ 5 → 0 ≤ (μ1 121 (6 + u)) ∧ (μ1 121 (6 + u)) ≤ 9) ∧ (6 ≤ (6 + u) ∧ (6 + u) ≤ 13 → 0 ≤ (μ1 121 (6 + u)) ∧ (μ1 121 (6 + u)) ≤ 10) ∧ (30 ≤ (6 + u) → 0 ≤ (μ1 121 (6 + u)) ∧ (μ1 121 (6 + u)) ≤ 7) from hB1 121 (6 + u)).2.2.2.1 (by omega)
  refine r_puti hL xcl8 13 (j' := 13) rfl (by decide) s_120 (by decide) fl_X8_70 rfl rfl (by omega) dX8_takes_23 (fun μ2 hm2 => ?_)
  have hB2 : BI μ2 := by rw [hm2]; exact hB1.up (by show ((13 : Int) = 2 → 0 ≤ z22 ∧ z22 ≤ 16) ∧ ((13 : Int) = 6 → 0 ≤ z22 ∧ z22 ≤ 10) ∧ ((13 : Int) = 8 → 0 ≤ z22 ∧ z22 ≤ 20) ∧ ((13 : Int) = 9 → 0 ≤ z22 ∧ z22 ≤ 2147483647) ∧ ((13 : Int) = 11 → 0 ≤ z22 ∧ z22 ≤ 10) ∧ ((13 : Int) = 13 → 0 ≤ z22 ∧ z22 ≤ 10) ∧ ((13 : Int) = 20 → 0 ≤ z22 ∧ z22 ≤ 8); omega)
  have hF2 : Fr RM μ μ2 := by rw [hm2]; exact hF1.up (by unfold RM; omega)
  have hk2_120_11 : μ2 120 11 = μ1 120 11 := by rw [hm2]; exact xup_j (by omega)
  have hk2_120_13 : μ2 120 13 = z22 := by rw [hm2]; exact xup_s _ _ _ _
  refine r_aload_n hL (x := 120) dX8_takes_26 rfl ?_
  refine r_getr hL xcl8 0 (by decide) s_120 (by decide) fl_X8_7 (by decide) f_120_0 dX8_takes_27 ?_
  refine r_bipush hL dX8_takes_30 (by decide) ?_
  refine r_bipush hL dX8_takes_32 (by decide) ?_
  refine r_iload_n hL (x := t) dX8_takes_34 rfl ?_
  refine r_imul hL dX8_takes_35 ?_
  refine r_iadd hL dX8_takes_36 ?_
  refine r_aload_n hL (x := 120) dX8_takes_37 rfl ?_
  refine r_getr hL xcl8 10 (by decide) s_120 (by decide) fl_X8_29 (by decide) f_120_10 dX8_takes_38 ?_
  refine r_iconst hL dX8_takes_41 ?_
  refine r_aload_n hL (x := 120) dX8_takes_42 rfl ?_
  refine r_geti hL xcl8 11 (j' := 11) rfl (by decide) s_120 (by decide) fl_X8_66 (by decide) (by decide) dX8_takes_43 (fun hr43 => ?_)
  obtain ⟨z43, hz43⟩ : ∃ z, z = μ2 120 11 := ⟨_, rfl⟩
  rw [← hz43] at hr43 ⊢
  have hb43 : 0 ≤ μ2 120 11 ∧ μ2 120 11 ≤ 10 := (show ((11 : Int) = 2 → 0 ≤ (μ2 120 11) ∧ (μ2 120 11) ≤ 16) ∧ ((11 : Int) = 6 → 0 ≤ (μ2 120 11) ∧ (μ2 120 11) ≤ 10) ∧ ((11 : Int) = 8 → 0 ≤ (μ2 120 11) ∧ (μ2 120 11) ≤ 20) ∧ ((11 : Int) = 9 → 0 ≤ (μ2 120 11) ∧ (μ2 120 11) ≤ 2147483647) ∧ ((11 : Int) = 11 → 0 ≤ (μ2 120 11) ∧ (μ2 120 11) ≤ 10) ∧ ((11 : Int) = 13 → 0 ≤ (μ2 120 11) ∧ (μ2 120 11) ≤ 10) ∧ ((11 : Int) = 20 → 0 ≤ (μ2 120 11) ∧ (μ2 120 11) ≤ 8) from hB2 120 11).2.2.2.2.1 (by omega)
  refine r_callS hL (st := []) (av := [xR 121, xI (30 + (10 * t)), xR 127, xI 0, xI z43]) (m_X8_bring (μ := μ2) 121 110 (by decide) s_121 (by decide) (30 + (10 * t)) 127 10 (by decide) s_127 (by decide) 0 z43 (by omega) (by omega) (fun h => absurd h (by decide)) (fun μ46c hm46c => ⟨rfl, ?_⟩)) ce_yX8_bring sm_yX8_bring ml_X8_73 dX8_takes_46 rfl (Nat.le_of_ble_eq_true rfl) ⟨Nat.le_of_ble_eq_true rfl, Nat.le_of_ble_eq_true rfl⟩ ⟨Nat.le_of_ble_eq_true rfl, Nat.le_of_ble_eq_true rfl⟩
  show X 0 0 WW μ46c 49 [some (xR 120), some (xI t), some (xI u)] []
  have hB46c : BI μ46c := by rw [hm46c]; exact hB2.br (fun k hk0 hk1 => by have hq : (((30 + (10 * t)) + k) = 0 → 0 ≤ (μ2 121 ((30 + (10 * t)) + k)) ∧ (μ2 121 ((30 + (10 * t)) + k)) ≤ 8) ∧ (((30 + (10 * t)) + k) = 1 → 0 ≤ (μ2 121 ((30 + (10 * t)) + k)) ∧ (μ2 121 ((30 + (10 * t)) + k)) ≤ 2) ∧ (2 ≤ ((30 + (10 * t)) + k) ∧ ((30 + (10 * t)) + k) ≤ 5 → 0 ≤ (μ2 121 ((30 + (10 * t)) + k)) ∧ (μ2 121 ((30 + (10 * t)) + k)) ≤ 9) ∧ (6 ≤ ((30 + (10 * t)) + k) ∧ ((30 + (10 * t)) + k) ≤ 13 → 0 ≤ (μ2 121 ((30 + (10 * t)) + k)) ∧ (μ2 121 ((30 + (10 * t)) + k)) ≤ 10) ∧ (30 ≤ ((30 + (10 * t)) + k) → 0 ≤ (μ2 121 ((30 + (10 * t)) + k)) ∧ (μ2 121 ((30 + (10 * t)) + k)) ≤ 7) := hB2 121 _; show 0 ≤ (μ2 121 ((30 + (10 * t)) + k)) ∧ (μ2 121 ((30 + (10 * t)) + k)) ≤ 7; omega)
  have hF46c : Fr RM μ μ46c := by rw [hm46c]; exact hF2.br (fun b _ _ => by unfold RM; omega)
  have hk46c_120_11 : μ46c 120 11 = μ2 120 11 := by rw [hm46c]; exact congrFun (xbr_c (by decide)) _
  have hk46c_120_13 : μ46c 120 13 = μ2 120 13 := by rw [hm46c]; exact congrFun (xbr_c (by decide)) _
  refine r_aload_n hL (x := 120) dX8_takes_49 rfl ?_
  refine r_getr hL xcl8 0 (by decide) s_120 (by decide) fl_X8_7 (by decide) f_120_0 dX8_takes_50 ?_
  refine r_bipush hL dX8_takes_53 (by decide) ?_
  refine r_bipush hL dX8_takes_55 (by decide) ?_
  refine r_iload_n hL (x := u) dX8_takes_57 rfl ?_
  refine r_imul hL dX8_takes_58 ?_
  refine r_iadd hL dX8_takes_59 ?_
  refine r_aload_n hL (x := 120) dX8_takes_60 rfl ?_
  refine r_getr hL xcl8 12 (by decide) s_120 (by decide) fl_X8_32 (by decide) f_120_12 dX8_takes_61 ?_
  refine r_iconst hL dX8_takes_64 ?_
  refine r_aload_n hL (x := 120) dX8_takes_65 rfl ?_
  refine r_geti hL xcl8 13 (j' := 13) rfl (by decide) s_120 (by decide) fl_X8_70 (by decide) (by decide) dX8_takes_66 (fun hr66 => ?_)
  obtain ⟨z66, hz66⟩ : ∃ z, z = μ46c 120 13 := ⟨_, rfl⟩
  rw [← hz66] at hr66 ⊢
  have hb66 : 0 ≤ μ46c 120 13 ∧ μ46c 120 13 ≤ 10 := (show ((13 : Int) = 2 → 0 ≤ (μ46c 120 13) ∧ (μ46c 120 13) ≤ 16) ∧ ((13 : Int) = 6 → 0 ≤ (μ46c 120 13) ∧ (μ46c 120 13) ≤ 10) ∧ ((13 : Int) = 8 → 0 ≤ (μ46c 120 13) ∧ (μ46c 120 13) ≤ 20) ∧ ((13 : Int) = 9 → 0 ≤ (μ46c 120 13) ∧ (μ46c 120 13) ≤ 2147483647) ∧ ((13 : Int) = 11 → 0 ≤ (μ46c 120 13) ∧ (μ46c 120 13) ≤ 10) ∧ ((13 : Int) = 13 → 0 ≤ (μ46c 120 13) ∧ (μ46c 120 13) ≤ 10) ∧ ((13 : Int) = 20 → 0 ≤ (μ46c 120 13) ∧ (μ46c 120 13) ≤ 8) from hB46c 120 13).2.2.2.2.2.1 (by omega)
  refine r_callS hL (st := []) (av := [xR 121, xI (30 + (10 * u)), xR 128, xI 0, xI z66]) (m_X8_bring (μ := μ46c) 121 110 (by decide) s_121 (by decide) (30 + (10 * u)) 128 10 (by decide) s_128 (by decide) 0 z66 (by omega) (by omega) (fun h => absurd h (by decide)) (fun μ69c hm69c => ⟨rfl, ?_⟩)) ce_yX8_bring sm_yX8_bring ml_X8_73 dX8_takes_69 rfl (Nat.le_of_ble_eq_true rfl) ⟨Nat.le_of_ble_eq_true rfl, Nat.le_of_ble_eq_true rfl⟩ ⟨Nat.le_of_ble_eq_true rfl, Nat.le_of_ble_eq_true rfl⟩
  show X 0 0 WW μ69c 72 [some (xR 120), some (xI t), some (xI u)] []
  have hB69c : BI μ69c := by rw [hm69c]; exact hB46c.br (fun k hk0 hk1 => by have hq : (((30 + (10 * u)) + k) = 0 → 0 ≤ (μ46c 121 ((30 + (10 * u)) + k)) ∧ (μ46c 121 ((30 + (10 * u)) + k)) ≤ 8) ∧ (((30 + (10 * u)) + k) = 1 → 0 ≤ (μ46c 121 ((30 + (10 * u)) + k)) ∧ (μ46c 121 ((30 + (10 * u)) + k)) ≤ 2) ∧ (2 ≤ ((30 + (10 * u)) + k) ∧ ((30 + (10 * u)) + k) ≤ 5 → 0 ≤ (μ46c 121 ((30 + (10 * u)) + k)) ∧ (μ46c 121 ((30 + (10 * u)) + k)) ≤ 9) ∧ (6 ≤ ((30 + (10 * u)) + k) ∧ ((30 + (10 * u)) + k) ≤ 13 → 0 ≤ (μ46c 121 ((30 + (10 * u)) + k)) ∧ (μ46c 121 ((30 + (10 * u)) + k)) ≤ 10) ∧ (30 ≤ ((30 + (10 * u)) + k) → 0 ≤ (μ46c 121 ((30 + (10 * u)) + k)) ∧ (μ46c 121 ((30 + (10 * u)) + k)) ≤ 7) := hB46c 121 _; show 0 ≤ (μ46c 121 ((30 + (10 * u)) + k)) ∧ (μ46c 121 ((30 + (10 * u)) + k)) ≤ 7; omega)
  have hF69c : Fr RM μ μ69c := by rw [hm69c]; exact hF46c.br (fun b _ _ => by unfold RM; omega)
  have hk69c_120_11 : μ69c 120 11 = μ46c 120 11 := by rw [hm69c]; exact congrFun (xbr_c (by decide)) _
  have hk69c_120_13 : μ69c 120 13 = μ46c 120 13 := by rw [hm69c]; exact congrFun (xbr_c (by decide)) _
  have hs6u := hS1 (6 + u)
  exact r_vret hL dX8_takes_72 rfl (hK _ hB69c hF69c ⟨by omega, by omega, fun q q0 q1 => by rw [hm69c, congrFun (xbr_c (by decide)) q, hm46c]; exact (if_pos ⟨rfl, by omega, by omega⟩).trans (by rw [hm2, congrFun (xup_c (by decide)) _, hm1, congrFun (xup_c (by decide)) _, show 30 + 10 * t + (q - 0) = 30 + 10 * t + q by omega]), fun q q0 q1 => by rw [hm69c]; exact (if_pos ⟨rfl, by omega, by omega⟩).trans (by rw [hm46c, congrFun (xbr_c (by decide)) _, hm2, congrFun (xup_c (by decide)) _, hm1, congrFun (xup_c (by decide)) _, show 30 + 10 * u + (q - 0) = 30 + 10 * u + q by omega])⟩)

set_option maxHeartbeats 4000000 in
set_option maxRecDepth 20000 in
theorem m_X8_changeOf {K : Option xV → xW → xM → Prop} {μ : xM} (hB0 : BI μ) (a : Int) (ha : 0 ≤ a ∧ a ≤ 7) (b : Int) (hb0 : 0 ≤ b ∧ b ≤ 7) (hK : ∀ r, r = mCh μ a b → 0 ≤ r ∧ r ≤ 9 → K (some (xI r)) WW μ) : xMet yX8_changeOf cX8_changeOf 4 (some .int) 1 21 0 0 [xR 120, xI a, xI b] WW μ K := by
  refine xMet.go RX8 "changeOf" rfl rfl (by decide) [some (xR 120), some (xI a), some (xI b), none] (Nat.le_of_ble_eq_true rfl) rfl (fun X hL => ?_)
  have hB := hB0
  refine r_iload_n hL (x := a) dX8_changeOf_0 rfl ?_
  refine r_iload_n hL (x := b) dX8_changeOf_1 rfl ?_
  refine r_icmp_ge hL (tgt := 11) dX8_changeOf_2 (by decide) (by omega) (by omega) (fun c2 => ?_) (fun c2 => ?_)
  · skip
    refine r_iload_n hL (x := a) dX8_changeOf_11 rfl ?_
    refine r_iload_n hL (x := b) dX8_changeOf_12 rfl ?_
    refine r_isub hL dX8_changeOf_13 ?_
    refine r_istore_n hL (lo' := [some (xR 120), some (xI a), some (xI b), some (xI (a - b))]) dX8_changeOf_14 (by decide) rfl ?_
    refine r_iload_n hL (x := a - b) dX8_changeOf_15 rfl ?_
    refine r_aload_n hL (x := 120) dX8_changeOf_16 rfl ?_
    refine r_getr hL xcl8 0 (by decide) s_120 (by decide) fl_X8_7 (by decide) f_120_0 dX8_changeOf_17 ?_
    refine r_iconst hL dX8_changeOf_20 ?_
    refine r_iald hL dX8_changeOf_21 (by decide) s_121 (by decide) (by omega) (by omega) (fun hr21 => ?_)
    obtain ⟨z21, hz21⟩ : ∃ z, z = μ 121 4 := ⟨_, rfl⟩
    rw [← hz21] at hr21 ⊢
    have hb21 : 0 ≤ μ 121 4 ∧ μ 121 4 ≤ 9 := (show ((4 : Int) = 0 → 0 ≤ (μ 121 4) ∧ (μ 121 4) ≤ 8) ∧ ((4 : Int) = 1 → 0 ≤ (μ 121 4) ∧ (μ 121 4) ≤ 2) ∧ (2 ≤ (4 : Int) ∧ (4 : Int) ≤ 5 → 0 ≤ (μ 121 4) ∧ (μ 121 4) ≤ 9) ∧ (6 ≤ (4 : Int) ∧ (4 : Int) ≤ 13 → 0 ≤ (μ 121 4) ∧ (μ 121 4) ≤ 10) ∧ (30 ≤ (4 : Int) → 0 ≤ (μ 121 4) ∧ (μ 121 4) ≤ 7) from hB 121 4).2.2.1 (by omega)
    have hp := xmul_bd (a := b - a) (b := z21) (A := b - a) (B := 9)
    have hp2 := xmul_bd (a := a - b) (b := z21) (A := a - b) (B := 9)
    have hp3 : (a < b → 0 ≤ (b - a) * z21 ∧ (b - a) * z21 ≤ (b - a) * 9) := fun h => hp (by omega) (by omega) (by omega) (by omega)
    have hp4 : (¬ a < b → 0 ≤ (a - b) * z21 ∧ (a - b) * z21 ≤ (a - b) * 9) := fun h => hp2 (by omega) (by omega) (by omega) (by omega)
    clear hp hp2
    refine r_imul hL dX8_changeOf_22 ?_
    refine r_iload_n hL (x := a - b) dX8_changeOf_23 rfl ?_
    refine r_if_ne hL (tgt := 31) dX8_changeOf_24 (by decide) (by omega) (fun c24 => ?_) (fun c24 => ?_)
    · skip
      refine r_aload_n hL (x := 120) dX8_changeOf_31 rfl ?_
      refine r_getr hL xcl8 0 (by decide) s_120 (by decide) fl_X8_7 (by decide) f_120_0 dX8_changeOf_32 ?_
      refine r_iconst hL dX8_changeOf_35 ?_
      refine r_iald hL dX8_changeOf_36 (by decide) s_121 (by decide) (by omega) (by omega) (fun hr36 => ?_)
      obtain ⟨z36, hz36⟩ : ∃ z, z = μ 121 5 := ⟨_, rfl⟩
      rw [← hz36] at hr36 ⊢
      have hb36 : 0 ≤ μ 121 5 ∧ μ 121 5 ≤ 9 := (show ((5 : Int) = 0 → 0 ≤ (μ 121 5) ∧ (μ 121 5) ≤ 8) ∧ ((5 : Int) = 1 → 0 ≤ (μ 121 5) ∧ (μ 121 5) ≤ 2) ∧ (2 ≤ (5 : Int) ∧ (5 : Int) ≤ 5 → 0 ≤ (μ 121 5) ∧ (μ 121 5) ≤ 9) ∧ (6 ≤ (5 : Int) ∧ (5 : Int) ≤ 13 → 0 ≤ (μ 121 5) ∧ (μ 121 5) ≤ 10) ∧ (30 ≤ (5 : Int) → 0 ≤ (μ 121 5) ∧ (μ 121 5) ≤ 7) from hB 121 5).2.2.1 (by omega)
      refine r_callS hL (st := []) (av := [xI ((a - b) * z21), xI z36]) (m_X8_lesser (μ := μ) ((a - b) * z21) (by omega) z36 (by omega) (fun z37 hc37 => ⟨rfl, ?_⟩)) ce_yX8_lesser sm_yX8_lesser ml_X8_77 dX8_changeOf_37 rfl (Nat.le_of_ble_eq_true rfl) ⟨Nat.le_of_ble_eq_true rfl, Nat.le_of_ble_eq_true rfl⟩ ⟨Nat.le_of_ble_eq_true rfl, Nat.le_of_ble_eq_true rfl⟩
      show X 0 0 WW μ 40 [some (xR 120), some (xI a), some (xI b), some (xI (a - b))] [xI z37]
      exact r_iret hL dX8_changeOf_40 rfl (hK _ (by unfold mCh; rw [← hz21]; (try rw [← hz36]); repeat (first | omega | split)) (by omega))
    · skip
      refine r_iconst hL dX8_changeOf_27 ?_
      refine r_goto hL (tgt := 37) dX8_changeOf_28 (by decide) ?_
      refine r_callS hL (st := []) (av := [xI ((a - b) * z21), xI 0]) (m_X8_lesser (μ := μ) ((a - b) * z21) (by omega) 0 (by omega) (fun z37 hc37 => ⟨rfl, ?_⟩)) ce_yX8_lesser sm_yX8_lesser ml_X8_77 dX8_changeOf_37 rfl (Nat.le_of_ble_eq_true rfl) ⟨Nat.le_of_ble_eq_true rfl, Nat.le_of_ble_eq_true rfl⟩ ⟨Nat.le_of_ble_eq_true rfl, Nat.le_of_ble_eq_true rfl⟩
      show X 0 0 WW μ 40 [some (xR 120), some (xI a), some (xI b), some (xI (a - b))] [xI z37]
      exact r_iret hL dX8_changeOf_40 rfl (hK _ (by unfold mCh; rw [← hz21]; (try rw [← hz36]); repeat (first | omega | split)) (by omega))
  · skip
    refine r_iload_n hL (x := b) dX8_changeOf_5 rfl ?_
    refine r_iload_n hL (x := a) dX8_changeOf_6 rfl ?_
    refine r_isub hL dX8_changeOf_7 ?_
    refine r_goto hL (tgt := 14) dX8_changeOf_8 (by decide) ?_
    refine r_istore_n hL (lo' := [some (xR 120), some (xI a), some (xI b), some (xI (b - a))]) dX8_changeOf_14 (by decide) rfl ?_
    refine r_iload_n hL (x := b - a) dX8_changeOf_15 rfl ?_
    refine r_aload_n hL (x := 120) dX8_changeOf_16 rfl ?_
    refine r_getr hL xcl8 0 (by decide) s_120 (by decide) fl_X8_7 (by decide) f_120_0 dX8_changeOf_17 ?_
    refine r_iconst hL dX8_changeOf_20 ?_
    refine r_iald hL dX8_changeOf_21 (by decide) s_121 (by decide) (by omega) (by omega) (fun hr21 => ?_)
    obtain ⟨z21, hz21⟩ : ∃ z, z = μ 121 4 := ⟨_, rfl⟩
    rw [← hz21] at hr21 ⊢
    have hb21 : 0 ≤ μ 121 4 ∧ μ 121 4 ≤ 9 := (show ((4 : Int) = 0 → 0 ≤ (μ 121 4) ∧ (μ 121 4) ≤ 8) ∧ ((4 : Int) = 1 → 0 ≤ (μ 121 4) ∧ (μ 121 4) ≤ 2) ∧ (2 ≤ (4 : Int) ∧ (4 : Int) ≤ 5 → 0 ≤ (μ 121 4) ∧ (μ 121 4) ≤ 9) ∧ (6 ≤ (4 : Int) ∧ (4 : Int) ≤ 13 → 0 ≤ (μ 121 4) ∧ (μ 121 4) ≤ 10) ∧ (30 ≤ (4 : Int) → 0 ≤ (μ 121 4) ∧ (μ 121 4) ≤ 7) from hB 121 4).2.2.1 (by omega)
    have hp := xmul_bd (a := b - a) (b := z21) (A := b - a) (B := 9)
    have hp2 := xmul_bd (a := a - b) (b := z21) (A := a - b) (B := 9)
    have hp3 : (a < b → 0 ≤ (b - a) * z21 ∧ (b - a) * z21 ≤ (b - a) * 9) := fun h => hp (by omega) (by omega) (by omega) (by omega)
    have hp4 : (¬ a < b → 0 ≤ (a - b) * z21 ∧ (a - b) * z21 ≤ (a - b) * 9) := fun h => hp2 (by omega) (by omega) (by omega) (by omega)
    clear hp hp2
    refine r_imul hL dX8_changeOf_22 ?_
    refine r_iload_n hL (x := b - a) dX8_changeOf_23 rfl ?_
    refine r_if_ne hL (tgt := 31) dX8_changeOf_24 (by decide) (by omega) (fun c24 => ?_) (fun c24 => ?_)
    · skip
      refine r_aload_n hL (x := 120) dX8_changeOf_31 rfl ?_
      refine r_getr hL xcl8 0 (by decide) s_120 (by decide) fl_X8_7 (by decide) f_120_0 dX8_changeOf_32 ?_
      refine r_iconst hL dX8_changeOf_35 ?_
      refine r_iald hL dX8_changeOf_36 (by decide) s_121 (by decide) (by omega) (by omega) (fun hr36 => ?_)
      obtain ⟨z36, hz36⟩ : ∃ z, z = μ 121 5 := ⟨_, rfl⟩
      rw [← hz36] at hr36 ⊢
      have hb36 : 0 ≤ μ 121 5 ∧ μ 121 5 ≤ 9 := (show ((5 : Int) = 0 → 0 ≤ (μ 121 5) ∧ (μ 121 5) ≤ 8) ∧ ((5 : Int) = 1 → 0 ≤ (μ 121 5) ∧ (μ 121 5) ≤ 2) ∧ (2 ≤ (5 : Int) ∧ (5 : Int) ≤ 5 → 0 ≤ (μ 121 5) ∧ (μ 121 5) ≤ 9) ∧ (6 ≤ (5 : Int) ∧ (5 : Int) ≤ 13 → 0 ≤ (μ 121 5) ∧ (μ 121 5) ≤ 10) ∧ (30 ≤ (5 : Int) → 0 ≤ (μ 121 5) ∧ (μ 121 5) ≤ 7) from hB 121 5).2.2.1 (by omega)
      refine r_callS hL (st := []) (av := [xI ((b - a) * z21), xI z36]) (m_X8_lesser (μ := μ) ((b - a) * z21) (by omega) z36 (by omega) (fun z37 hc37 => ⟨rfl, ?_⟩)) ce_yX8_lesser sm_yX8_lesser ml_X8_77 dX8_changeOf_37 rfl (Nat.le_of_ble_eq_true rfl) ⟨Nat.le_of_ble_eq_true rfl, Nat.le_of_ble_eq_true rfl⟩ ⟨Nat.le_of_ble_eq_true rfl, Nat.le_of_ble_eq_true rfl⟩
      show X 0 0 WW μ 40 [some (xR 120), some (xI a), some (xI b), some (xI (b - a))] [xI z37]
      exact r_iret hL dX8_changeOf_40 rfl (hK _ (by unfold mCh; rw [← hz21]; (try rw [← hz36]); repeat (first | omega | split)) (by omega))
    · skip
      refine r_iconst hL dX8_changeOf_27 ?_
      refine r_goto hL (tgt := 37) dX8_changeOf_28 (by decide) ?_
      refine r_callS hL (st := []) (av := [xI ((b - a) * z21), xI 0]) (m_X8_lesser (μ := μ) ((b - a) * z21) (by omega) 0 (by omega) (fun z37 hc37 => ⟨rfl, ?_⟩)) ce_yX8_lesser sm_yX8_lesser ml_X8_77 dX8_changeOf_37 rfl (Nat.le_of_ble_eq_true rfl) ⟨Nat.le_of_ble_eq_true rfl, Nat.le_of_ble_eq_true rfl⟩ ⟨Nat.le_of_ble_eq_true rfl, Nat.le_of_ble_eq_true rfl⟩
      show X 0 0 WW μ 40 [some (xR 120), some (xI a), some (xI b), some (xI (b - a))] [xI z37]
      exact r_iret hL dX8_changeOf_40 rfl (hK _ (by unfold mCh; rw [← hz21]; (try rw [← hz36]); repeat (first | omega | split)) (by omega))

set_option maxHeartbeats 4000000 in
set_option maxRecDepth 20000 in
theorem m_X8_isTurned {K : Option xV → xW → xM → Prop} {μ : xM} (hB0 : BI μ) (i : Int) (hi : 0 ≤ i ∧ i ≤ 10) (j : Int) (hj : 0 ≤ j ∧ j ≤ 10) (hK : ∀ r, (r = 1 ∧ mTu μ i j) ∨ (r = 0 ∧ ¬ mTu μ i j) → K (some (xI r)) WW μ) : xMet yX8_isTurned cX8_isTurned 4 (some .boolean) 0 0 0 0 [xR 120, xI i, xI j] WW μ K := by
  refine xMet.go RX8 "isTurned" rfl rfl (by decide) [some (xR 120), some (xI i), some (xI j), none] (Nat.le_of_ble_eq_true rfl) rfl (fun X hL => ?_)
  have hB := hB0
  refine r_iload_n hL (x := i) dX8_isTurned_0 rfl ?_
  refine r_iconst hL dX8_isTurned_1 ?_
  refine r_iadd hL dX8_isTurned_2 ?_
  refine r_aload_n hL (x := 120) dX8_isTurned_3 rfl ?_
  refine r_geti hL xcl8 11 (j' := 11) rfl (by decide) s_120 (by decide) fl_X8_66 (by decide) (by decide) dX8_isTurned_4 (fun hr4 => ?_)
  obtain ⟨z4, hz4⟩ : ∃ z, z = μ 120 11 := ⟨_, rfl⟩
  rw [← hz4] at hr4 ⊢
  have hb4 : 0 ≤ μ 120 11 ∧ μ 120 11 ≤ 10 := (show ((11 : Int) = 2 → 0 ≤ (μ 120 11) ∧ (μ 120 11) ≤ 16) ∧ ((11 : Int) = 6 → 0 ≤ (μ 120 11) ∧ (μ 120 11) ≤ 10) ∧ ((11 : Int) = 8 → 0 ≤ (μ 120 11) ∧ (μ 120 11) ≤ 20) ∧ ((11 : Int) = 9 → 0 ≤ (μ 120 11) ∧ (μ 120 11) ≤ 2147483647) ∧ ((11 : Int) = 11 → 0 ≤ (μ 120 11) ∧ (μ 120 11) ≤ 10) ∧ ((11 : Int) = 13 → 0 ≤ (μ 120 11) ∧ (μ 120 11) ≤ 10) ∧ ((11 : Int) = 20 → 0 ≤ (μ 120 11) ∧ (μ 120 11) ≤ 8) from hB 120 11).2.2.2.2.1 (by omega)
  refine r_icmp_ge hL (tgt := 24) dX8_isTurned_7 (by decide) (by omega) (by omega) (fun c7 => ?_) (fun c7 => ?_)
  · skip
    refine r_iconst hL dX8_isTurned_24 ?_
    refine r_istore_n hL (lo' := [some (xR 120), some (xI i), some (xI j), some (xI 0)]) dX8_isTurned_25 (by decide) rfl ?_
    refine r_iload_n hL (x := 0) dX8_isTurned_26 rfl ?_
    refine r_if_eq hL (tgt := 83) dX8_isTurned_27 (by decide) (by omega) (fun c27 => ?_) (fun c27 => ?_)
    · skip
      refine r_iconst hL dX8_isTurned_83 ?_
      exact r_zret hL dX8_isTurned_84 rfl (by omega) (hK _ (by omega))
    · skip
      exact absurd c27 (by decide)
  · skip
    refine r_iload_n hL (x := j) dX8_isTurned_10 rfl ?_
    refine r_iconst hL dX8_isTurned_11 ?_
    refine r_iadd hL dX8_isTurned_12 ?_
    refine r_aload_n hL (x := 120) dX8_isTurned_13 rfl ?_
    refine r_geti hL xcl8 13 (j' := 13) rfl (by decide) s_120 (by decide) fl_X8_70 (by decide) (by decide) dX8_isTurned_14 (fun hr14 => ?_)
    obtain ⟨z14, hz14⟩ : ∃ z, z = μ 120 13 := ⟨_, rfl⟩
    rw [← hz14] at hr14 ⊢
    have hb14 : 0 ≤ μ 120 13 ∧ μ 120 13 ≤ 10 := (show ((13 : Int) = 2 → 0 ≤ (μ 120 13) ∧ (μ 120 13) ≤ 16) ∧ ((13 : Int) = 6 → 0 ≤ (μ 120 13) ∧ (μ 120 13) ≤ 10) ∧ ((13 : Int) = 8 → 0 ≤ (μ 120 13) ∧ (μ 120 13) ≤ 20) ∧ ((13 : Int) = 9 → 0 ≤ (μ 120 13) ∧ (μ 120 13) ≤ 2147483647) ∧ ((13 : Int) = 11 → 0 ≤ (μ 120 13) ∧ (μ 120 13) ≤ 10) ∧ ((13 : Int) = 13 → 0 ≤ (μ 120 13) ∧ (μ 120 13) ≤ 10) ∧ ((13 : Int) = 20 → 0 ≤ (μ 120 13) ∧ (μ 120 13) ≤ 8) from hB 120 13).2.2.2.2.2.1 (by omega)
    refine r_icmp_ge hL (tgt := 24) dX8_isTurned_17 (by decide) (by omega) (by omega) (fun c17 => ?_) (fun c17 => ?_)
    · skip
      refine r_iconst hL dX8_isTurned_24 ?_
      refine r_istore_n hL (lo' := [some (xR 120), some (xI i), some (xI j), some (xI 0)]) dX8_isTurned_25 (by decide) rfl ?_
      refine r_iload_n hL (x := 0) dX8_isTurned_26 rfl ?_
      refine r_if_eq hL (tgt := 83) dX8_isTurned_27 (by decide) (by omega) (fun c27 => ?_) (fun c27 => ?_)
      · skip
        refine r_iconst hL dX8_isTurned_83 ?_
        exact r_zret hL dX8_isTurned_84 rfl (by omega) (hK _ (by omega))
      · skip
        exact absurd c27 (by decide)
    · skip
      refine r_iconst hL dX8_isTurned_20 ?_
      refine r_goto hL (tgt := 25) dX8_isTurned_21 (by decide) ?_
      refine r_istore_n hL (lo' := [some (xR 120), some (xI i), some (xI j), some (xI 1)]) dX8_isTurned_25 (by decide) rfl ?_
      refine r_iload_n hL (x := 1) dX8_isTurned_26 rfl ?_
      refine r_if_eq hL (tgt := 83) dX8_isTurned_27 (by decide) (by omega) (fun c27 => ?_) (fun c27 => ?_)
      · skip
        exact absurd c27 (by decide)
      · skip
        refine r_aload_n hL (x := 120) dX8_isTurned_30 rfl ?_
        refine r_getr hL xcl8 10 (by decide) s_120 (by decide) fl_X8_29 (by decide) f_120_10 dX8_isTurned_31 ?_
        refine r_iload_n hL (x := i) dX8_isTurned_34 rfl ?_
        refine r_iald hL dX8_isTurned_35 (by decide) s_127 (by decide) (by omega) (by omega) (fun hr35 => ?_)
        obtain ⟨z35, hz35⟩ : ∃ z, z = μ 127 i := ⟨_, rfl⟩
        rw [← hz35] at hr35 ⊢
        have hb35 : 0 ≤ (μ 127 i) ∧ (μ 127 i) ≤ 7 := hB 127 i
        refine r_aload_n hL (x := 120) dX8_isTurned_36 rfl ?_
        refine r_getr hL xcl8 12 (by decide) s_120 (by decide) fl_X8_32 (by decide) f_120_12 dX8_isTurned_37 ?_
        refine r_iload_n hL (x := j) dX8_isTurned_40 rfl ?_
        refine r_iconst hL dX8_isTurned_41 ?_
        refine r_iadd hL dX8_isTurned_42 ?_
        refine r_iald hL dX8_isTurned_43 (by decide) s_128 (by decide) (by omega) (by omega) (fun hr43 => ?_)
        obtain ⟨z43, hz43⟩ : ∃ z, z = μ 128 (j + 1) := ⟨_, rfl⟩
        rw [← hz43] at hr43 ⊢
        have hb43 : 0 ≤ (μ 128 (j + 1)) ∧ (μ 128 (j + 1)) ≤ 7 := hB 128 (j + 1)
        refine r_icmp_ne hL (tgt := 83) dX8_isTurned_44 (by decide) (by omega) (by omega) (fun c44 => ?_) (fun c44 => ?_)
        · skip
          refine r_iconst hL dX8_isTurned_83 ?_
          exact r_zret hL dX8_isTurned_84 rfl (by omega) (hK _ (by omega))
        · skip
          refine r_aload_n hL (x := 120) dX8_isTurned_47 rfl ?_
          refine r_getr hL xcl8 10 (by decide) s_120 (by decide) fl_X8_29 (by decide) f_120_10 dX8_isTurned_48 ?_
          refine r_iload_n hL (x := i) dX8_isTurned_51 rfl ?_
          refine r_iconst hL dX8_isTurned_52 ?_
          refine r_iadd hL dX8_isTurned_53 ?_
          refine r_iald hL dX8_isTurned_54 (by decide) s_127 (by decide) (by omega) (by omega) (fun hr54 => ?_)
          obtain ⟨z54, hz54⟩ : ∃ z, z = μ 127 (i + 1) := ⟨_, rfl⟩
          rw [← hz54] at hr54 ⊢
          have hb54 : 0 ≤ (μ 127 (i + 1)) ∧ (μ 127 (i + 1)) ≤ 7 := hB 127 (i + 1)
          refine r_aload_n hL (x := 120) dX8_isTurned_55 rfl ?_
          refine r_getr hL xcl8 12 (by decide) s_120 (by decide) fl_X8_32 (by decide) f_120_12 dX8_isTurned_56 ?_
          refine r_iload_n hL (x := j) dX8_isTurned_59 rfl ?_
          refine r_iald hL dX8_isTurned_60 (by decide) s_128 (by decide) (by omega) (by omega) (fun hr60 => ?_)
          obtain ⟨z60, hz60⟩ : ∃ z, z = μ 128 j := ⟨_, rfl⟩
          rw [← hz60] at hr60 ⊢
          have hb60 : 0 ≤ (μ 128 j) ∧ (μ 128 j) ≤ 7 := hB 128 j
          refine r_icmp_ne hL (tgt := 83) dX8_isTurned_61 (by decide) (by omega) (by omega) (fun c61 => ?_) (fun c61 => ?_)
          · skip
            refine r_iconst hL dX8_isTurned_83 ?_
            exact r_zret hL dX8_isTurned_84 rfl (by omega) (hK _ (by omega))
          · skip
            refine r_aload_n hL (x := 120) dX8_isTurned_64 rfl ?_
            refine r_getr hL xcl8 10 (by decide) s_120 (by decide) fl_X8_29 (by decide) f_120_10 dX8_isTurned_65 ?_
            refine r_iload_n hL (x := i) dX8_isTurned_68 rfl ?_
            refine r_iald hL dX8_isTurned_69 (by decide) s_127 (by decide) (by omega) (by omega) (fun hr69 => ?_)
            obtain ⟨z69, hz69⟩ : ∃ z, z = μ 127 i := ⟨_, rfl⟩
            rw [← hz69] at hr69 ⊢
            have hb69 : 0 ≤ (μ 127 i) ∧ (μ 127 i) ≤ 7 := hB 127 i
            refine r_aload_n hL (x := 120) dX8_isTurned_70 rfl ?_
            refine r_getr hL xcl8 12 (by decide) s_120 (by decide) fl_X8_32 (by decide) f_120_12 dX8_isTurned_71 ?_
            refine r_iload_n hL (x := j) dX8_isTurned_74 rfl ?_
            refine r_iald hL dX8_isTurned_75 (by decide) s_128 (by decide) (by omega) (by omega) (fun hr75 => ?_)
            obtain ⟨z75, hz75⟩ : ∃ z, z = μ 128 j := ⟨_, rfl⟩
            rw [← hz75] at hr75 ⊢
            have hb75 : 0 ≤ (μ 128 j) ∧ (μ 128 j) ≤ 7 := hB 128 j
            refine r_icmp_eq hL (tgt := 83) dX8_isTurned_76 (by decide) (by omega) (by omega) (fun c76 => ?_) (fun c76 => ?_)
            · skip
              refine r_iconst hL dX8_isTurned_83 ?_
              exact r_zret hL dX8_isTurned_84 rfl (by omega) (hK _ (by omega))
            · skip
              refine r_iconst hL dX8_isTurned_79 ?_
              refine r_goto hL (tgt := 84) dX8_isTurned_80 (by decide) ?_
              exact r_zret hL dX8_isTurned_84 rfl (by omega) (hK _ (by omega))
