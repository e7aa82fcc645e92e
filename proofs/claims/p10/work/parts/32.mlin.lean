set_option maxHeartbeats 4000000 in
set_option maxRecDepth 20000 in
theorem m_X8_takes {K : Option xV → xW → xM → Prop} {μ : xM} (hB0 : BI μ) (t : Int) (ht : 0 ≤ t ∧ t ≤ 7) (u : Int) (hu : 0 ≤ u ∧ u ≤ 7) (hK : ∀ μ', BI μ' → Fr AF μ μ' → MT t u μ μ' → K none WW μ') : xMet yX8_takes cX8_takes 3 none 1 25 0 0 [xR 120, xI t, xI u] WW μ K := by
  refine xMet.go RX8 "takes" rfl rfl (by decide) [some (xR 120), some (xI t), some (xI u)] (Nat.le_of_ble_eq_true rfl) rfl (fun X hL => ?_)
  have hB := hB0
  have hF : Fr AF μ μ := Fr.rf
  refine r_aload_n hL (x := 120) dX8_takes_0 rfl ?_
  refine r_aload_n hL (x := 120) dX8_takes_1 rfl ?_
  refine r_getr hL xcl8 0 (by decide) s_120 (by decide) fl_X8_7 (by decide) f_120_0 dX8_takes_2 ?_
  refine r_bipush hL dX8_takes_5 (by decide) ?_
  refine r_iload_n hL (x := t) dX8_takes_7 rfl ?_
  refine r_iadd hL dX8_takes_8 ?_
  refine r_iald hL dX8_takes_9 (by decide) s_121 (by decide) (by omega) (by omega) (fun hr9 => ?_)
  obtain ⟨z9, hz9⟩ : ∃ z, z = μ 121 (6 + t) := ⟨_, rfl⟩
  rw [← hz9] at hr9 ⊢
  have hb9 : 0 ≤ μ 121 (6 + t) ∧ μ 121 (6 + t) ≤ 10 := (show ((6 + t) = 0 → 0 ≤ (μ 121 (6 + t)) ∧ (μ 121 (6 + t)) ≤ 8) ∧ ((6 + t) = 1 → 0 ≤ (μ 121 (6 + t)) ∧ (μ 121 (6 + t)) ≤ 2) ∧ (2 ≤ (6 + t) ∧ (6 + t) ≤ 5 → 0 ≤ (μ 121 (6 + t)) ∧ (μ 121 (6 + t)) ≤ 9) ∧ (6 ≤ (6 + t) ∧ (6 + t) ≤ 13 → 0 ≤ (μ 121 (6 + t)) ∧ (μ 121 (6 + t)) ≤ 10) ∧ (30 ≤ (6 + t) → 0 ≤ (μ 121 (6 + t)) ∧ (μ 121 (6 + t)) ≤ 7) from hB 121 (6 + t)).2.2.2.1 (by omega)
  refine r_puti hL xcl8 11 (j' := 11) rfl (by decide) s_120 (by decide) fl_X8_66 rfl rfl (by omega) dX8_takes_10 (fun μ1 hm1 => ?_)
  have hB1 : BI μ1 := by rw [hm1]; exact hB.up (by show ((11 : Int) = 2 → 0 ≤ z9 ∧ z9 ≤ 16) ∧ ((11 : Int) = 6 → 0 ≤ z9 ∧ z9 ≤ 10) ∧ ((11 : Int) = 8 → 0 ≤ z9 ∧ z9 ≤ 20) ∧ ((11 : Int) = 9 → 0 ≤ z9 ∧ z9 ≤ 2147483647) ∧ ((11 : Int) = 11 → 0 ≤ z9 ∧ z9 ≤ 10) ∧ ((11 : Int) = 13 → 0 ≤ z9 ∧ z9 ≤ 10) ∧ ((11 : Int) = 20 → 0 ≤ z9 ∧ z9 ≤ 8); omega)
  have hF1 : Fr AF μ μ1 := by rw [hm1]; exact hF.up (by unfold AF; omega)
  have hk1_120_11 : μ1 120 11 = z9 := by rw [hm1]; exact xup_s _ _ _ _
  have hk1_120_13 : μ1 120 13 = μ 120 13 := by rw [hm1]; exact xup_j (by omega)
  have hS1 : ∀ q, μ1 121 q = μ 121 q := fun q => by rw [hm1]; exact congrFun (xup_c (by decide)) q
  refine r_aload_n hL (x := 120) dX8_takes_13 rfl ?_
  refine r_aload_n hL (x := 120) dX8_takes_14 rfl ?_
  refine r_getr hL xcl8 0 (by decide) s_120 (by decide) fl_X8_7 (by decide) f_120_0 dX8_takes_15 ?_
  refine r_bipush hL dX8_takes_18 (by decide) ?_
  refine r_iload_n hL (x := u) dX8_takes_20 rfl ?_
  refine r_iadd hL dX8_takes_21 ?_
  refine r_iald hL dX8_takes_22 (by decide) s_121 (by decide) (by omega) (by omega) (fun hr22 => ?_)
  obtain ⟨z22, hz22⟩ : ∃ z, z = μ1 121 (6 + u) := ⟨_, rfl⟩
  rw [← hz22] at hr22 ⊢
  have hb22 : 0 ≤ μ1 121 (6 + u) ∧ μ1 121 (6 + u) ≤ 10 := (show ((6 + u) = 0 → 0 ≤ (μ1 121 (6 + u)) ∧ (μ1 121 (6 + u)) ≤ 8) ∧ ((6 + u) = 1 → 0 ≤ (μ1 121 (6 + u)) ∧ (μ1 121 (6 + u)) ≤ 2) ∧ (2 ≤ (6 + u) ∧ (6 + u) ≤ 5 → 0 ≤ (μ1 121 (6 + u)) ∧ (μ1 121 (6 + u)) ≤ 9) ∧ (6 ≤ (6 + u) ∧ (6 + u) ≤ 13 → 0 ≤ (μ1 121 (6 + u)) ∧ (μ1 121 (6 + u)) ≤ 10) ∧ (30 ≤ (6 + u) → 0 ≤ (μ1 121 (6 + u)) ∧ (μ1 121 (6 + u)) ≤ 7) from hB1 121 (6 + u)).2.2.2.1 (by omega)
  refine r_puti hL xcl8 13 (j' := 13) rfl (by decide) s_120 (by decide) fl_X8_70 rfl rfl (by omega) dX8_takes_23 (fun μ2 hm2 => ?_)
  have hB2 : BI μ2 := by rw [hm2]; exact hB1.up (by show ((13 : Int) = 2 → 0 ≤ z22 ∧ z22 ≤ 16) ∧ ((13 : Int) = 6 → 0 ≤ z22 ∧ z22 ≤ 10) ∧ ((13 : Int) = 8 → 0 ≤ z22 ∧ z22 ≤ 20) ∧ ((13 : Int) = 9 → 0 ≤ z22 ∧ z22 ≤ 2147483647) ∧ ((13 : Int) = 11 → 0 ≤ z22 ∧ z22 ≤ 10) ∧ ((13 : Int) = 13 → 0 ≤ z22 ∧ z22 ≤ 10) ∧ ((13 : Int) = 20 → 0 ≤ z22 ∧ z22 ≤ 8); omega)
  have hF2 : Fr AF μ μ2 := by rw [hm2]; exact hF1.up (by unfold AF; omega)
  have hk2_120_11 : μ2 120 11 = μ1 120 11 := by rw [hm2]; exact xup_j (by omega)
  have hk2_120_13 : μ2 120 13 = z22 := by rw [hm2]; exact xup_s _ _ _ _
  refine r_aload_n hL (x := 120) dX8_takes_26 rfl ?_
  refine r_getr hL xcl8 0 (by decide) s_120 (by decide) fl_X8_7 (by decide) f_120_0 dX8_takes_27 ?_
  refine r_bipush hL dX8_takes_30 (by decide) ?_
  refine r_bipush hL dX8_takes_32 (by decide) ?_
  refine r_iload_n hL (x := t) dX8_takes_34 rfl ?_
  refine r_imul hL dX8_takes_35 ?_
  refine r_iadd hL dX8_takes_36 ?_
  refine r_aload_n hL (x := 120) dX8_takes_37 rfl ?_
  refine r_getr hL xcl8 10 (by decide) s_120 (by decide) fl_X8_29 (by decide) f_120_10 dX8_takes_38 ?_
  refine r_iconst hL dX8_takes_41 ?_
  refine r_aload_n hL (x := 120) dX8_takes_42 rfl ?_
  refine r_geti hL xcl8 11 (j' := 11) rfl (by decide) s_120 (by decide) fl_X8_66 (by decide) (by decide) dX8_takes_43 (fun hr43 => ?_)
  obtain ⟨z43, hz43⟩ : ∃ z, z = μ2 120 11 := ⟨_, rfl⟩
  rw [← hz43] at hr43 ⊢
  have hb43 : 0 ≤ μ2 120 11 ∧ μ2 120 11 ≤ 10 := (show ((11 : Int) = 2 → 0 ≤ (μ2 120 11) ∧ (μ2 120 11) ≤ 16) ∧ ((11 : Int) = 6 → 0 ≤ (μ2 120 11) ∧ (μ2 120 11) ≤ 10) ∧ ((11 : Int) = 8 → 0 ≤ (μ2 120 11) ∧ (μ2 120 11) ≤ 20) ∧ ((11 : Int) = 9 → 0 ≤ (μ2 120 11) ∧ (μ2 120 11) ≤ 2147483647) ∧ ((11 : Int) = 11 → 0 ≤ (μ2 120 11) ∧ (μ2 120 11) ≤ 10) ∧ ((11 : Int) = 13 → 0 ≤ (μ2 120 11) ∧ (μ2 120 11) ≤ 10) ∧ ((11 : Int) = 20 → 0 ≤ (μ2 120 11) ∧ (μ2 120 11) ≤ 8) from hB2 120 11).2.2.2.2.1 (by omega)
  refine r_callS hL (st := []) (av := [xR 121, xI (30 + (10 * t)), xR 127, xI 0, xI z43]) (m_X8_bring (μ := μ2) 121 110 (by decide) s_121 (by decide) (30 + (10 * t)) 127 10 (by decide) s_127 (by decide) 0 z43 (by omega) (by omega) (fun h => absurd h (by decide)) (fun μ46c hm46c => ⟨rfl, ?_⟩)) ce_yX8_bring sm_yX8_bring ml_X8_73 dX8_takes_46 rfl (Nat.le_of_ble_eq_true rfl) ⟨Nat.le_of_ble_eq_true rfl, Nat.le_of_ble_eq_true rfl⟩ ⟨Nat.le_of_ble_eq_true rfl, Nat.le_of_ble_eq_true rfl⟩
  show X 0 0 WW μ46c 49 [some (xR 120), some (xI t), some (xI u)] []
  have hB46c : BI μ46c := by rw [hm46c]; exact hB2.br (fun k hk0 hk1 => by have hq : (((30 + (10 * t)) + k) = 0 → 0 ≤ (μ2 121 ((30 + (10 * t)) + k)) ∧ (μ2 121 ((30 + (10 * t)) + k)) ≤ 8) ∧ (((30 + (10 * t)) + k) = 1 → 0 ≤ (μ2 121 ((30 + (10 * t)) + k)) ∧ (μ2 121 ((30 + (10 * t)) + k)) ≤ 2) ∧ (2 ≤ ((30 + (10 * t)) + k) ∧ ((30 + (10 * t)) + k) ≤ 5 → 0 ≤ (μ2 121 ((30 + (10 * t)) + k)) ∧ (μ2 121 ((30 + (10 * t)) + k)) ≤ 9) ∧ (6 ≤ ((30 + (10 * t)) + k) ∧ ((30 + (10 * t)) + k) ≤ 13 → 0 ≤ (μ2 121 ((30 + (10 * t)) + k)) ∧ (μ2 121 ((30 + (10 * t)) + k)) ≤ 10) ∧ (30 ≤ ((30 + (10 * t)) + k) → 0 ≤ (μ2 121 ((30 + (10 * t)) + k)) ∧ (μ2 121 ((30 + (10 * t)) + k)) ≤ 7) := hB2 121 _; show 0 ≤ (μ2 121 ((30 + (10 * t)) + k)) ∧ (μ2 121 ((30 + (10 * t)) + k)) ≤ 7; omega)
  have hF46c : Fr AF μ μ46c := by rw [hm46c]; exact hF2.br (fun b _ _ => by unfold AF; omega)
  have hk46c_120_11 : μ46c 120 11 = μ2 120 11 := by rw [hm46c]; exact congrFun (xbr_c (by decide)) _
  have hk46c_120_13 : μ46c 120 13 = μ2 120 13 := by rw [hm46c]; exact congrFun (xbr_c (by decide)) _
  refine r_aload_n hL (x := 120) dX8_takes_49 rfl ?_
  refine r_getr hL xcl8 0 (by decide) s_120 (by decide) fl_X8_7 (by decide) f_120_0 dX8_takes_50 ?_
  refine r_bipush hL dX8_takes_53 (by decide) ?_
  refine r_bipush hL dX8_takes_55 (by decide) ?_
  refine r_iload_n hL (x := u) dX8_takes_57 rfl ?_
  refine r_imul hL dX8_takes_58 ?_
  refine r_iadd hL dX8_takes_59 ?_
  refine r_aload_n hL (x := 120) dX8_takes_60 rfl ?_
  refine r_getr hL xcl8 12 (by decide) s_120 (by decide) fl_X8_32 (by decide) f_120_12 dX8_takes_61 ?_
  refine r_iconst hL dX8_takes_64 ?_
  refine r_aload_n hL (x := 120) dX8_takes_65 rfl ?_
  refine r_geti hL xcl8 13 (j' := 13) rfl (by decide) s_120 (by decide) fl_X8_70 (by decide) (by decide) dX8_takes_66 (fun hr66 => ?_)
  obtain ⟨z66, hz66⟩ : ∃ z, z = μ46c 120 13 := ⟨_, rfl⟩
  rw [← hz66] at hr66 ⊢
  have hb66 : 0 ≤ μ46c 120 13 ∧ μ46c 120 13 ≤ 10 := (show ((13 : Int) = 2 → 0 ≤ (μ46c 120 13) ∧ (μ46c 120 13) ≤ 16) ∧ ((13 : Int) = 6 → 0 ≤ (μ46c 120 13) ∧ (μ46c 120 13) ≤ 10) ∧ ((13 : Int) = 8 → 0 ≤ (μ46c 120 13) ∧ (μ46c 120 13) ≤ 20) ∧ ((13 : Int) = 9 → 0 ≤ (μ46c 120 13) ∧ (μ46c 120 13) ≤ 2147483647) ∧ ((13 : Int) = 11 → 0 ≤ (μ46c 120 13) ∧ (μ46c 120 13) ≤ 10) ∧ ((13 : Int) = 13 → 0 ≤ (μ46c 120 13) ∧ (μ46c 120 13) ≤ 10) ∧ ((13 : Int) = 20 → 0 ≤ (μ46c 120 13) ∧ (μ46c 120 13) ≤ 8) from hB46c 120 13).2.2.2.2.2.1 (by omega)
  refine r_callS hL (st := []) (av := [xR 121, xI (30 + (10 * u)), xR 128, xI 0, xI z66]) (m_X8_bring (μ := μ46c) 121 110 (by decide) s_121 (by decide) (30 + (10 * u)) 128 10 (by decide) s_128 (by decide) 0 z66 (by omega) (by omega) (fun h => absurd h (by decide)) (fun μ69c hm69c => ⟨rfl, ?_⟩)) ce_yX8_bring sm_yX8_bring ml_X8_73 dX8_takes_69 rfl (Nat.le_of_ble_eq_true rfl) ⟨Nat.le_of_ble_eq_true rfl, Nat.le_of_ble_eq_true rfl⟩ ⟨Nat.le_of_ble_eq_true rfl, Nat.le_of_ble_eq_true rfl⟩
  show X 0 0 WW μ69c 72 [some (xR 120), some (xI t), some (xI u)] []
  have hB69c : BI μ69c := by rw [hm69c]; exact hB46c.br (fun k hk0 hk1 => by have hq : (((30 + (10 * u)) + k) = 0 → 0 ≤ (μ46c 121 ((30 + (10 * u)) + k)) ∧ (μ46c 121 ((30 + (10 * u)) + k)) ≤ 8) ∧ (((30 + (10 * u)) + k) = 1 → 0 ≤ (μ46c 121 ((30 + (10 * u)) + k)) ∧ (μ46c 121 ((30 + (10 * u)) + k)) ≤ 2) ∧ (2 ≤ ((30 + (10 * u)) + k) ∧ ((30 + (10 * u)) + k) ≤ 5 → 0 ≤ (μ46c 121 ((30 + (10 * u)) + k)) ∧ (μ46c 121 ((30 + (10 * u)) + k)) ≤ 9) ∧ (6 ≤ ((30 + (10 * u)) + k) ∧ ((30 + (10 * u)) + k) ≤ 13 → 0 ≤ (μ46c 121 ((30 + (10 * u)) + k)) ∧ (μ46c 121 ((30 + (10 * u)) + k)) ≤ 10) ∧ (30 ≤ ((30 + (10 * u)) + k) → 0 ≤ (μ46c 121 ((30 + (10 * u)) + k)) ∧ (μ46c 121 ((30 + (10 * u)) + k)) ≤ 7) := hB46c 121 _; show 0 ≤ (μ46c 121 ((30 + (10 * u)) + k)) ∧ (μ46c 121 ((30 + (10 * u)) + k)) ≤ 7; omega)
  have hF69c : Fr AF μ μ69c := by rw [hm69c]; exact hF46c.br (fun b _ _ => by unfold AF; omega)
  have hk69c_120_11 : μ69c 120 11 = μ46c 120 11 := by rw [hm69c]; exact congrFun (xbr_c (by decide)) _
  have hk69c_120_13 : μ69c 120 13 = μ46c 120 13 := by rw [hm69c]; exact congrFun (xbr_c (by decide)) _
  have hs6u := hS1 (6 + u)
  exact r_vret hL dX8_takes_72 rfl (hK _ hB69c hF69c ⟨by omega, by omega, fun q q0 q1 => by rw [hm69c, congrFun (xbr_c (by decide)) q, hm46c]; exact (if_pos ⟨rfl, by omega, by omega⟩).trans (by rw [hm2, congrFun (xup_c (by decide)) _, hm1, congrFun (xup_c (by decide)) _, show 30 + 10 * t + (q - 0) = 30 + 10 * t + q by omega]), fun q q0 q1 => by rw [hm69c]; exact (if_pos ⟨rfl, by omega, by omega⟩).trans (by rw [hm46c, congrFun (xbr_c (by decide)) _, hm2, congrFun (xup_c (by decide)) _, hm1, congrFun (xup_c (by decide)) _, show 30 + 10 * u + (q - 0) = 30 + 10 * u + q by omega])⟩)

set_option maxHeartbeats 4000000 in
set_option maxRecDepth 20000 in
theorem m_X8_changeOf {K : Option xV → xW → xM → Prop} {μ : xM} (hB0 : BI μ) (a : Int) (ha : 0 ≤ a ∧ a ≤ 7) (b : Int) (hb0 : 0 ≤ b ∧ b ≤ 7) (hK : ∀ r, r = mCh μ a b → 0 ≤ r ∧ r ≤ 9 → K (some (xI r)) WW μ) : xMet yX8_changeOf cX8_changeOf 4 (some .int) 1 21 0 0 [xR 120, xI a, xI b] WW μ K := by
  refine xMet.go RX8 "changeOf" rfl rfl (by decide) [some (xR 120), some (xI a), some (xI b), none] (Nat.le_of_ble_eq_true rfl) rfl (fun X hL => ?_)
  have hB := hB0
  refine r_iload_n hL (x := a) dX8_changeOf_0 rfl ?_
  refine r_iload_n hL (x := b) dX8_changeOf_1 rfl ?_
  refine r_icmp_ge hL (tgt := 11) dX8_changeOf_2 (by decide) (by omega) (by omega) (fun c2 => ?_) (fun c2 => ?_)
  · skip
    refine r_iload_n hL (x := a) dX8_changeOf_11 rfl ?_
    refine r_iload_n hL (x := b) dX8_changeOf_12 rfl ?_
    refine r_isub hL dX8_changeOf_13 ?_
    refine r_istore_n hL (lo' := [some (xR 120), some (xI a), some (xI b), some (xI (a - b))]) dX8_changeOf_14 (by decide) rfl ?_
    refine r_iload_n hL (x := a - b) dX8_changeOf_15 rfl ?_
    refine r_aload_n hL (x := 120) dX8_changeOf_16 rfl ?_
    refine r_getr hL xcl8 0 (by decide) s_120 (by decide) fl_X8_7 (by decide) f_120_0 dX8_changeOf_17 ?_
    refine r_iconst hL dX8_changeOf_20 ?_
    refine r_iald hL dX8_changeOf_21 (by decide) s_121 (by decide) (by omega) (by omega) (fun hr21 => ?_)
    obtain ⟨z21, hz21⟩ : ∃ z, z = μ 121 4 := ⟨_, rfl⟩
    rw [← hz21] at hr21 ⊢
    have hb21 : 0 ≤ μ 121 4 ∧ μ 121 4 ≤ 9 := (show ((4 : Int) = 0 → 0 ≤ (μ 121 4) ∧ (μ 121 4) ≤ 8) ∧ ((4 : Int) = 1 → 0 ≤ (μ 121 4) ∧ (μ 121 4) ≤ 2) ∧ (2 ≤ (4 : Int) ∧ (4 : Int) ≤ 5 → 0 ≤ (μ 121 4) ∧ (μ 121 4) ≤ 9) ∧ (6 ≤ (4 : Int) ∧ (4 : Int) ≤ 13 → 0 ≤ (μ 121 4) ∧ (μ 121 4) ≤ 10) ∧ (30 ≤ (4 : Int) → 0 ≤ (μ 121 4) ∧ (μ 121 4) ≤ 7) from hB 121 4).2.2.1 (by omega)
    have hp := xmul_bd (a := b - a) (b := z21) (A := b - a) (B := 9)
    have hp2 := xmul_bd (a := a - b) (b := z21) (A := a - b) (B := 9)
    have hp3 : (a < b → 0 ≤ (b - a) * z21 ∧ (b - a) * z21 ≤ (b - a) * 9) := fun h => hp (by omega) (by omega) (by omega) (by omega)
    have hp4 : (¬ a < b → 0 ≤ (a - b) * z21 ∧ (a - b) * z21 ≤ (a - b) * 9) := fun h => hp2 (by omega) (by omega) (by omega) (by omega)
    clear hp hp2
    refine r_imul hL dX8_changeOf_22 ?_
    refine r_iload_n hL (x := a - b) dX8_changeOf_23 rfl ?_
    refine r_if_ne hL (tgt := 31) dX8_changeOf_24 (by decide) (by omega) (fun c24 => ?_) (fun c24 => ?_)
    · skip
      refine r_aload_n hL (x := 120) dX8_changeOf_31 rfl ?_
      refine r_getr hL xcl8 0 (by decide) s_120 (by decide) fl_X8_7 (by decide) f_120_0 dX8_changeOf_32 ?_
      refine r_iconst hL dX8_changeOf_35 ?_
      refine r_iald hL dX8_changeOf_36 (by decide) s_121 (by decide) (by omega) (by omega) (fun hr36 => ?_)
      obtain ⟨z36, hz36⟩ : ∃ z, z = μ 121 5 := ⟨_, rfl⟩
      rw [← hz36] at hr36 ⊢
      have hb36 : 0 ≤ μ 121 5 ∧ μ 121 5 ≤ 9 := (show ((5 : Int) = 0 → 0 ≤ (μ 121 5) ∧ (μ 121 5) ≤ 8) ∧ ((5 : Int) = 1 → 0 ≤ (μ 121 5) ∧ (μ 121 5) ≤ 2) ∧ (2 ≤ (5 : Int) ∧ (5 : Int) ≤ 5 → 0 ≤ (μ 121 5) ∧ (μ 121 5) ≤ 9) ∧ (6 ≤ (5 : Int) ∧ (5 : Int) ≤ 13 → 0 ≤ (μ 121 5) ∧ (μ 121 5) ≤ 10) ∧ (30 ≤ (5 : Int) → 0 ≤ (μ 121 5) ∧ (μ 121 5) ≤ 7) from hB 121 5).2.2.1 (by omega)
      refine r_callS hL (st := []) (av := [xI ((a - b) * z21), xI z36]) (m_X8_lesser (μ := μ) ((a - b) * z21) (by omega) z36 (by omega) (fun z37 hc37 => ⟨rfl, ?_⟩)) ce_yX8_lesser sm_yX8_lesser ml_X8_77 dX8_changeOf_37 rfl (Nat.le_of_ble_eq_true rfl) ⟨Nat.le_of_ble_eq_true rfl, Nat.le_of_ble_eq_true rfl⟩ ⟨Nat.le_of_ble_eq_true rfl, Nat.le_of_ble_eq_true rfl⟩
      show X 0 0 WW μ 40 [some (xR 120), some (xI a), some (xI b), some (xI (a - b))] [xI z37]
      exact r_iret hL dX8_changeOf_40 rfl (hK _ (by unfold mCh; rw [← hz21]; (try rw [← hz36]); repeat (first | omega | split)) (by omega))
    · skip
      refine r_iconst hL dX8_changeOf_27 ?_
      refine r_goto hL (tgt := 37) dX8_changeOf_28 (by decide) ?_
      refine r_callS hL (st := []) (av := [xI ((a - b) * z21), xI 0]) (m_X8_lesser (μ := μ) ((a - b) * z21) (by omega) 0 (by omega) (fun z37 hc37 => ⟨rfl, ?_⟩)) ce_yX8_lesser sm_yX8_lesser ml_X8_77 dX8_changeOf_37 rfl (Nat.le_of_ble_eq_true rfl) ⟨Nat.le_of_ble_eq_true rfl, Nat.le_of_ble_eq_true rfl⟩ ⟨Nat.le_of_ble_eq_true rfl, Nat.le_of_ble_eq_true rfl⟩
      show X 0 0 WW μ 40 [some (xR 120), some (xI a), some (xI b), some (xI (a - b))] [xI z37]
      exact r_iret hL dX8_changeOf_40 rfl (hK _ (by unfold mCh; rw [← hz21]; (try rw [← hz36]); repeat (first | omega | split)) (by omega))
  · skip
    refine r_iload_n hL (x := b) dX8_changeOf_5 rfl ?_
    refine r_iload_n hL (x := a) dX8_changeOf_6 rfl ?_
    refine r_isub hL dX8_changeOf_7 ?_
    refine r_goto hL (tgt := 14) dX8_changeOf_8 (by decide) ?_
    refine r_istore_n hL (lo' := [some (xR 120), some (xI a), some (xI b), some (xI (b - a))]) dX8_changeOf_14 (by decide) rfl ?_
    refine r_iload_n hL (x := b - a) dX8_changeOf_15 rfl ?_
    refine r_aload_n hL (x := 120) dX8_changeOf_16 rfl ?_
    refine r_getr hL xcl8 0 (by decide) s_120 (by decide) fl_X8_7 (by decide) f_120_0 dX8_changeOf_17 ?_
    refine r_iconst hL dX8_changeOf_20 ?_
    refine r_iald hL dX8_changeOf_21 (by decide) s_121 (by decide) (by omega) (by omega) (fun hr21 => ?_)
    obtain ⟨z21, hz21⟩ : ∃ z, z = μ 121 4 := ⟨_, rfl⟩
    rw [← hz21] at hr21 ⊢
    have hb21 : 0 ≤ μ 121 4 ∧ μ 121 4 ≤ 9 := (show ((4 : Int) = 0 → 0 ≤ (μ 121 4) ∧ (μ 121 4) ≤ 8) ∧ ((4 : Int) = 1 → 0 ≤ (μ 121 4) ∧ (μ 121 4) ≤ 2) ∧ (2 ≤ (4 : Int) ∧ (4 : Int) ≤ 5 → 0 ≤ (μ 121 4) ∧ (μ 121 4) ≤ 9) ∧ (6 ≤ (4 : Int) ∧ (4 : Int) ≤ 13 → 0 ≤ (μ 121 4) ∧ (μ 121 4) ≤ 10) ∧ (30 ≤ (4 : Int) → 0 ≤ (μ 121 4) ∧ (μ 121 4) ≤ 7) from hB 121 4).2.2.1 (by omega)
    have hp := xmul_bd (a := b - a) (b := z21) (A := b - a) (B := 9)
    have hp2 := xmul_bd (a := a - b) (b := z21) (A := a - b) (B := 9)
    have hp3 : (a < b → 0 ≤ (b - a) * z21 ∧ (b - a) * z21 ≤ (b - a) * 9) := fun h => hp (by omega) (by omega) (by omega) (by omega)
    have hp4 : (¬ a < b → 0 ≤ (a - b) * z21 ∧ (a - b) * z21 ≤ (a - b) * 9) := fun h => hp2 (by omega) (by omega) (by omega) (by omega)
    clear hp hp2
    refine r_imul hL dX8_changeOf_22 ?_
    refine r_iload_n hL (x := b - a) dX8_changeOf_23 rfl ?_
    refine r_if_ne hL (tgt := 31) dX8_changeOf_24 (by decide) (by omega) (fun c24 => ?_) (fun c24 => ?_)
    · skip
      refine r_aload_n hL (x := 120) dX8_changeOf_31 rfl ?_
      refine r_getr hL xcl8 0 (by decide) s_120 (by decide) fl_X8_7 (by decide) f_120_0 dX8_changeOf_32 ?_
      refine r_iconst hL dX8_changeOf_35 ?_
      refine r_iald hL dX8_changeOf_36 (by decide) s_121 (by decide) (by omega) (by omega) (fun hr36 => ?_)
      obtain ⟨z36, hz36⟩ : ∃ z, z = μ 121 5 := ⟨_, rfl⟩
      rw [← hz36] at hr36 ⊢
      have hb36 : 0 ≤ μ 121 5 ∧ μ 121 5 ≤ 9 := (show ((5 : Int) = 0 → 0 ≤ (μ 121 5) ∧ (μ 121 5) ≤ 8) ∧ ((5 : Int) = 1 → 0 ≤ (μ 121 5) ∧ (μ 121 5) ≤ 2) ∧ (2 ≤ (5 : Int) ∧ (5 : Int) ≤ 5 → 0 ≤ (μ 121 5) ∧ (μ 121 5) ≤ 9) ∧ (6 ≤ (5 : Int) ∧ (5 : Int) ≤ 13 → 0 ≤ (μ 121 5) ∧ (μ 121 5) ≤ 10) ∧ (30 ≤ (5 : Int) → 0 ≤ (μ 121 5) ∧ (μ 121 5) ≤ 7) from hB 121 5).2.2.1 (by omega)
      refine r_callS hL (st := []) (av := [xI ((b - a) * z21), xI z36]) (m_X8_lesser (μ := μ) ((b - a) * z21) (by omega) z36 (by omega) (fun z37 hc37 => ⟨rfl, ?_⟩)) ce_yX8_lesser sm_yX8_lesser ml_X8_77 dX8_changeOf_37 rfl (Nat.le_of_ble_eq_true rfl) ⟨Nat.le_of_ble_eq_true rfl, Nat.le_of_ble_eq_true rfl⟩ ⟨Nat.le_of_ble_eq_true rfl, Nat.le_of_ble_eq_true rfl⟩
      show X 0 0 WW μ 40 [some (xR 120), some (xI a), some (xI b), some (xI (b - a))] [xI z37]
      exact r_iret hL dX8_changeOf_40 rfl (hK _ (by unfold mCh; rw [← hz21]; (try rw [← hz36]); repeat (first | omega | split)) (by omega))
    · skip
      refine r_iconst hL dX8_changeOf_27 ?_
      refine r_goto hL (tgt := 37) dX8_changeOf_28 (by decide) ?_
      refine r_callS hL (st := []) (av := [xI ((b - a) * z21), xI 0]) (m_X8_lesser (μ := μ) ((b - a) * z21) (by omega) 0 (by omega) (fun z37 hc37 => ⟨rfl, ?_⟩)) ce_yX8_lesser sm_yX8_lesser ml_X8_77 dX8_changeOf_37 rfl (Nat.le_of_ble_eq_true rfl) ⟨Nat.le_of_ble_eq_true rfl, Nat.le_of_ble_eq_true rfl⟩ ⟨Nat.le_of_ble_eq_true rfl, Nat.le_of_ble_eq_true rfl⟩
      show X 0 0 WW μ 40 [some (xR 120), some (xI a), some (xI b), some (xI (b - a))] [xI z37]
      exact r_iret hL dX8_changeOf_40 rfl (hK _ (by unfold mCh; rw [← hz21]; (try rw [← hz36]); repeat (first | omega | split)) (by omega))

set_option maxHeartbeats 4000000 in
set_option maxRecDepth 20000 in
theorem m_X8_isTurned {K : Option xV → xW → xM → Prop} {μ : xM} (hB0 : BI μ) (i : Int) (hi : 0 ≤ i ∧ i ≤ 10) (j : Int) (hj : 0 ≤ j ∧ j ≤ 10) (hK : ∀ r, (r = 1 ∧ mTu μ i j) ∨ (r = 0 ∧ ¬ mTu μ i j) → K (some (xI r)) WW μ) : xMet yX8_isTurned cX8_isTurned 4 (some .boolean) 0 0 0 0 [xR 120, xI i, xI j] WW μ K := by
  refine xMet.go RX8 "isTurned" rfl rfl (by decide) [some (xR 120), some (xI i), some (xI j), none] (Nat.le_of_ble_eq_true rfl) rfl (fun X hL => ?_)
  have hB := hB0
  refine r_iload_n hL (x := i) dX8_isTurned_0 rfl ?_
  refine r_iconst hL dX8_isTurned_1 ?_
  refine r_iadd hL dX8_isTurned_2 ?_
  refine r_aload_n hL (x := 120) dX8_isTurned_3 rfl ?_
  refine r_geti hL xcl8 11 (j' := 11) rfl (by decide) s_120 (by decide) fl_X8_66 (by decide) (by decide) dX8_isTurned_4 (fun hr4 => ?_)
  obtain ⟨z4, hz4⟩ : ∃ z, z = μ 120 11 := ⟨_, rfl⟩
  rw [← hz4] at hr4 ⊢
  have hb4 : 0 ≤ μ 120 11 ∧ μ 120 11 ≤ 10 := (show ((11 : Int) = 2 → 0 ≤ (μ 120 11) ∧ (μ 120 11) ≤ 16) ∧ ((11 : Int) = 6 → 0 ≤ (μ 120 11) ∧ (μ 120 11) ≤ 10) ∧ ((11 : Int) = 8 → 0 ≤ (μ 120 11) ∧ (μ 120 11) ≤ 20) ∧ ((11 : Int) = 9 → 0 ≤ (μ 120 11) ∧ (μ 120 11) ≤ 2147483647) ∧ ((11 : Int) = 11 → 0 ≤ (μ 120 11) ∧ (μ 120 11) ≤ 10) ∧ ((11 : Int) = 13 → 0 ≤ (μ 120 11) ∧ (μ 120 11) ≤ 10) ∧ ((11 : Int) = 20 → 0 ≤ (μ 120 11) ∧ (μ 120 11) ≤ 8) from hB 120 11).2.2.2.2.1 (by omega)
  refine r_icmp_ge hL (tgt := 24) dX8_isTurned_7 (by decide) (by omega) (by omega) (fun c7 => ?_) (fun c7 => ?_)
  · skip
    refine r_iconst hL dX8_isTurned_24 ?_
    refine r_istore_n hL (lo' := [some (xR 120), some (xI i), some (xI j), some (xI 0)]) dX8_isTurned_25 (by decide) rfl ?_
    refine r_iload_n hL (x := 0) dX8_isTurned_26 rfl ?_
    refine r_if_eq hL (tgt := 83) dX8_isTurned_27 (by decide) (by omega) (fun c27 => ?_) (fun c27 => ?_)
    · skip
      refine r_iconst hL dX8_isTurned_83 ?_
      exact r_zret hL dX8_isTurned_84 rfl (by omega) (hK _ (by omega))
    · skip
      exact absurd c27 (by decide)
  · skip
    refine r_iload_n hL (x := j) dX8_isTurned_10 rfl ?_
    refine r_iconst hL dX8_isTurned_11 ?_
    refine r_iadd hL dX8_isTurned_12 ?_
    refine r_aload_n hL (x := 120) dX8_isTurned_13 rfl ?_
    refine r_geti hL xcl8 13 (j' := 13) rfl (by decide) s_120 (by decide) fl_X8_70 (by decide) (by decide) dX8_isTurned_14 (fun hr14 => ?_)
    obtain ⟨z14, hz14⟩ : ∃ z, z = μ 120 13 := ⟨_, rfl⟩
    rw [← hz14] at hr14 ⊢
    have hb14 : 0 ≤ μ 120 13 ∧ μ 120 13 ≤ 10 := (show ((13 : Int) = 2 → 0 ≤ (μ 120 13) ∧ (μ 120 13) ≤ 16) ∧ ((13 : Int) = 6 → 0 ≤ (μ 120 13) ∧ (μ 120 13) ≤ 10) ∧ ((13 : Int) = 8 → 0 ≤ (μ 120 13) ∧ (μ 120 13) ≤ 20) ∧ ((13 : Int) = 9 → 0 ≤ (μ 120 13) ∧ (μ 120 13) ≤ 2147483647) ∧ ((13 : Int) = 11 → 0 ≤ (μ 120 13) ∧ (μ 120 13) ≤ 10) ∧ ((13 : Int) = 13 → 0 ≤ (μ 120 13) ∧ (μ 120 13) ≤ 10) ∧ ((13 : Int) = 20 → 0 ≤ (μ 120 13) ∧ (μ 120 13) ≤ 8) from hB 120 13).2.2.2.2.2.1 (by omega)
    refine r_icmp_ge hL (tgt := 24) dX8_isTurned_17 (by decide) (by omega) (by omega) (fun c17 => ?_) (fun c17 => ?_)
    · skip
      refine r_iconst hL dX8_isTurned_24 ?_
      refine r_istore_n hL (lo' := [some (xR 120), some (xI i), some (xI j), some (xI 0)]) dX8_isTurned_25 (by decide) rfl ?_
      refine r_iload_n hL (x := 0) dX8_isTurned_26 rfl ?_
      refine r_if_eq hL (tgt := 83) dX8_isTurned_27 (by decide) (by omega) (fun c27 => ?_) (fun c27 => ?_)
      · skip
        refine r_iconst hL dX8_isTurned_83 ?_
        exact r_zret hL dX8_isTurned_84 rfl (by omega) (hK _ (by omega))
      · skip
        exact absurd c27 (by decide)
    · skip
      refine r_iconst hL dX8_isTurned_20 ?_
      refine r_goto hL (tgt := 25) dX8_isTurned_21 (by decide) ?_
      refine r_istore_n hL (lo' := [some (xR 120), some (xI i), some (xI j), some (xI 1)]) dX8_isTurned_25 (by decide) rfl ?_
      refine r_iload_n hL (x := 1) dX8_isTurned_26 rfl ?_
      refine r_if_eq hL (tgt := 83) dX8_isTurned_27 (by decide) (by omega) (fun c27 => ?_) (fun c27 => ?_)
      · skip
        exact absurd c27 (by decide)
      · skip
        refine r_aload_n hL (x := 120) dX8_isTurned_30 rfl ?_
        refine r_getr hL xcl8 10 (by decide) s_120 (by decide) fl_X8_29 (by decide) f_120_10 dX8_isTurned_31 ?_
        refine r_iload_n hL (x := i) dX8_isTurned_34 rfl ?_
        refine r_iald hL dX8_isTurned_35 (by decide) s_127 (by decide) (by omega) (by omega) (fun hr35 => ?_)
        obtain ⟨z35, hz35⟩ : ∃ z, z = μ 127 i := ⟨_, rfl⟩
        rw [← hz35] at hr35 ⊢
        have hb35 : 0 ≤ (μ 127 i) ∧ (μ 127 i) ≤ 7 := hB 127 i
        refine r_aload_n hL (x := 120) dX8_isTurned_36 rfl ?_
        refine r_getr hL xcl8 12 (by decide) s_120 (by decide) fl_X8_32 (by decide) f_120_12 dX8_isTurned_37 ?_
        refine r_iload_n hL (x := j) dX8_isTurned_40 rfl ?_
        refine r_iconst hL dX8_isTurned_41 ?_
        refine r_iadd hL dX8_isTurned_42 ?_
        refine r_iald hL dX8_isTurned_43 (by decide) s_128 (by decide) (by omega) (by omega) (fun hr43 => ?_)
        obtain ⟨z43, hz43⟩ : ∃ z, z = μ 128 (j + 1) := ⟨_, rfl⟩
        rw [← hz43] at hr43 ⊢
        have hb43 : 0 ≤ (μ 128 (j + 1)) ∧ (μ 128 (j + 1)) ≤ 7 := hB 128 (j + 1)
        refine r_icmp_ne hL (tgt := 83) dX8_isTurned_44 (by decide) (by omega) (by omega) (fun c44 => ?_) (fun c44 => ?_)
        · skip
          refine r_iconst hL dX8_isTurned_83 ?_
          exact r_zret hL dX8_isTurned_84 rfl (by omega) (hK _ (by omega))
        · skip
          refine r_aload_n hL (x := 120) dX8_isTurned_47 rfl ?_
          refine r_getr hL xcl8 10 (by decide) s_120 (by decide) fl_X8_29 (by decide) f_120_10 dX8_isTurned_48 ?_
          refine r_iload_n hL (x := i) dX8_isTurned_51 rfl ?_
          refine r_iconst hL dX8_isTurned_52 ?_
          refine r_iadd hL dX8_isTurned_53 ?_
          refine r_iald hL dX8_isTurned_54 (by decide) s_127 (by decide) (by omega) (by omega) (fun hr54 => ?_)
          obtain ⟨z54, hz54⟩ : ∃ z, z = μ 127 (i + 1) := ⟨_, rfl⟩
          rw [← hz54] at hr54 ⊢
          have hb54 : 0 ≤ (μ 127 (i + 1)) ∧ (μ 127 (i + 1)) ≤ 7 := hB 127 (i + 1)
          refine r_aload_n hL (x := 120) dX8_isTurned_55 rfl ?_
          refine r_getr hL xcl8 12 (by decide) s_120 (by decide) fl_X8_32 (by decide) f_120_12 dX8_isTurned_56 ?_
          refine r_iload_n hL (x := j) dX8_isTurned_59 rfl ?_
          refine r_iald hL dX8_isTurned_60 (by decide) s_128 (by decide) (by omega) (by omega) (fun hr60 => ?_)
          obtain ⟨z60, hz60⟩ : ∃ z, z = μ 128 j := ⟨_, rfl⟩
          rw [← hz60] at hr60 ⊢
          have hb60 : 0 ≤ (μ 128 j) ∧ (μ 128 j) ≤ 7 := hB 128 j
          refine r_icmp_ne hL (tgt := 83) dX8_isTurned_61 (by decide) (by omega) (by omega) (fun c61 => ?_) (fun c61 => ?_)
          · skip
            refine r_iconst hL dX8_isTurned_83 ?_
            exact r_zret hL dX8_isTurned_84 rfl (by omega) (hK _ (by omega))
          · skip
            refine r_aload_n hL (x := 120) dX8_isTurned_64 rfl ?_
            refine r_getr hL xcl8 10 (by decide) s_120 (by decide) fl_X8_29 (by decide) f_120_10 dX8_isTurned_65 ?_
            refine r_iload_n hL (x := i) dX8_isTurned_68 rfl ?_
            refine r_iald hL dX8_isTurned_69 (by decide) s_127 (by decide) (by omega) (by omega) (fun hr69 => ?_)
            obtain ⟨z69, hz69⟩ : ∃ z, z = μ 127 i := ⟨_, rfl⟩
            rw [← hz69] at hr69 ⊢
            have hb69 : 0 ≤ (μ 127 i) ∧ (μ 127 i) ≤ 7 := hB 127 i
            refine r_aload_n hL (x := 120) dX8_isTurned_70 rfl ?_
            refine r_getr hL xcl8 12 (by decide) s_120 (by decide) fl_X8_32 (by decide) f_120_12 dX8_isTurned_71 ?_
            refine r_iload_n hL (x := j) dX8_isTurned_74 rfl ?_
            refine r_iald hL dX8_isTurned_75 (by decide) s_128 (by decide) (by omega) (by omega) (fun hr75 => ?_)
            obtain ⟨z75, hz75⟩ : ∃ z, z = μ 128 j := ⟨_, rfl⟩
            rw [← hz75] at hr75 ⊢
            have hb75 : 0 ≤ (μ 128 j) ∧ (μ 128 j) ≤ 7 := hB 128 j
            refine r_icmp_eq hL (tgt := 83) dX8_isTurned_76 (by decide) (by omega) (by omega) (fun c76 => ?_) (fun c76 => ?_)
            · skip
              refine r_iconst hL dX8_isTurned_83 ?_
              exact r_zret hL dX8_isTurned_84 rfl (by omega) (hK _ (by omega))
            · skip
              refine r_iconst hL dX8_isTurned_79 ?_
              refine r_goto hL (tgt := 84) dX8_isTurned_80 (by decide) ?_
              exact r_zret hL dX8_isTurned_84 rfl (by omega) (hK _ (by omega))

set_option maxHeartbeats 4000000 in
set_option maxRecDepth 20000 in
theorem m_X8_stepCost {K : Option xV → xW → xM → Prop} {μ : xM} (hB0 : BI μ) (i : Int) (hi : 0 ≤ i ∧ i ≤ 10) (j : Int) (hj : 0 ≤ j ∧ j ≤ 10) (s : Int) (hs : 0 ≤ s ∧ s ≤ 3) (hK : ∀ r, r = mCo μ i j s → (r = 100000 ∨ (0 ≤ r ∧ r ≤ 9 ∧ i + xOF s ≤ max i (μ 120 11) ∧ j + xOO s ≤ max j (μ 120 13))) → (s = 1 → i < μ 120 11 → r ≤ 9) → (s = 2 → j < μ 120 13 → r ≤ 9) → K (some (xI r)) WW μ) : xMet yX8_stepCost cX8_stepCost 4 (some .int) 2 44 0 0 [xR 120, xI i, xI j, xI s] WW μ K := by
  refine xMet.go RX8 "stepCost" rfl rfl (by decide) [some (xR 120), some (xI i), some (xI j), some (xI s)] (Nat.le_of_ble_eq_true rfl) rfl (fun X hL => ?_)
  have hB := hB0
  have hvF := xOF_v s
  have hvO := xOO_v s
  refine r_iload_n hL (x := s) dX8_stepCost_0 rfl ?_
  by_cases e1 : 0 ≤ s ∧ s ≤ 2
  · skip
    rcases (show s = 0 ∨ s = 1 ∨ s = 2 by omega) with e1 | e1 | e1
    · skip
      refine r_tableIn hL (tgt := 28) (off := 27) 0 dX8_stepCost_1 (by omega) e1 (by decide) (by decide) rfl (by decide) ?_
      refine r_iload_n hL (x := i) dX8_stepCost_28 rfl ?_
      refine r_aload_n hL (x := 120) dX8_stepCost_29 rfl ?_
      refine r_geti hL xcl8 11 (j' := 11) rfl (by decide) s_120 (by decide) fl_X8_66 (by decide) (by decide) dX8_stepCost_30 (fun hr30 => ?_)
      obtain ⟨z30, hz30⟩ : ∃ z, z = μ 120 11 := ⟨_, rfl⟩
      rw [← hz30] at hr30 ⊢
      have hb30 : 0 ≤ μ 120 11 ∧ μ 120 11 ≤ 10 := (show ((11 : Int) = 2 → 0 ≤ (μ 120 11) ∧ (μ 120 11) ≤ 16) ∧ ((11 : Int) = 6 → 0 ≤ (μ 120 11) ∧ (μ 120 11) ≤ 10) ∧ ((11 : Int) = 8 → 0 ≤ (μ 120 11) ∧ (μ 120 11) ≤ 20) ∧ ((11 : Int) = 9 → 0 ≤ (μ 120 11) ∧ (μ 120 11) ≤ 2147483647) ∧ ((11 : Int) = 11 → 0 ≤ (μ 120 11) ∧ (μ 120 11) ≤ 10) ∧ ((11 : Int) = 13 → 0 ≤ (μ 120 11) ∧ (μ 120 11) ≤ 10) ∧ ((11 : Int) = 20 → 0 ≤ (μ 120 11) ∧ (μ 120 11) ≤ 8) from hB 120 11).2.2.2.2.1 (by omega)
      refine r_icmp_ge hL (tgt := 63) dX8_stepCost_33 (by decide) (by omega) (by omega) (fun c33 => ?_) (fun c33 => ?_)
      · skip
        refine r_ldc hL (n := 100000) dX8_stepCost_63 kc_X8_84 (by decide) ?_
        exact r_iret hL dX8_stepCost_65 rfl (hK _ (by unfold mCo; rw [if_pos (by omega)]; first | (rw [if_pos (by omega), ← hz50, ← hz56]; exact hc57) | rw [if_neg (by omega)]) (by omega) (by omega) (by omega))
      · skip
        refine r_iload_n hL (x := j) dX8_stepCost_36 rfl ?_
        refine r_aload_n hL (x := 120) dX8_stepCost_37 rfl ?_
        refine r_geti hL xcl8 13 (j' := 13) rfl (by decide) s_120 (by decide) fl_X8_70 (by decide) (by decide) dX8_stepCost_38 (fun hr38 => ?_)
        obtain ⟨z38, hz38⟩ : ∃ z, z = μ 120 13 := ⟨_, rfl⟩
        rw [← hz38] at hr38 ⊢
        have hb38 : 0 ≤ μ 120 13 ∧ μ 120 13 ≤ 10 := (show ((13 : Int) = 2 → 0 ≤ (μ 120 13) ∧ (μ 120 13) ≤ 16) ∧ ((13 : Int) = 6 → 0 ≤ (μ 120 13) ∧ (μ 120 13) ≤ 10) ∧ ((13 : Int) = 8 → 0 ≤ (μ 120 13) ∧ (μ 120 13) ≤ 20) ∧ ((13 : Int) = 9 → 0 ≤ (μ 120 13) ∧ (μ 120 13) ≤ 2147483647) ∧ ((13 : Int) = 11 → 0 ≤ (μ 120 13) ∧ (μ 120 13) ≤ 10) ∧ ((13 : Int) = 13 → 0 ≤ (μ 120 13) ∧ (μ 120 13) ≤ 10) ∧ ((13 : Int) = 20 → 0 ≤ (μ 120 13) ∧ (μ 120 13) ≤ 8) from hB 120 13).2.2.2.2.2.1 (by omega)
        refine r_icmp_ge hL (tgt := 63) dX8_stepCost_41 (by decide) (by omega) (by omega) (fun c41 => ?_) (fun c41 => ?_)
        · skip
          refine r_ldc hL (n := 100000) dX8_stepCost_63 kc_X8_84 (by decide) ?_
          exact r_iret hL dX8_stepCost_65 rfl (hK _ (by unfold mCo; rw [if_pos (by omega)]; first | (rw [if_pos (by omega), ← hz50, ← hz56]; exact hc57) | rw [if_neg (by omega)]) (by omega) (by omega) (by omega))
        · skip
          refine r_aload_n hL (x := 120) dX8_stepCost_44 rfl ?_
          refine r_aload_n hL (x := 120) dX8_stepCost_45 rfl ?_
          refine r_getr hL xcl8 10 (by decide) s_120 (by decide) fl_X8_29 (by decide) f_120_10 dX8_stepCost_46 ?_
          refine r_iload_n hL (x := i) dX8_stepCost_49 rfl ?_
          refine r_iald hL dX8_stepCost_50 (by decide) s_127 (by decide) (by omega) (by omega) (fun hr50 => ?_)
          obtain ⟨z50, hz50⟩ : ∃ z, z = μ 127 i := ⟨_, rfl⟩
          rw [← hz50] at hr50 ⊢
          have hb50 : 0 ≤ (μ 127 i) ∧ (μ 127 i) ≤ 7 := hB 127 i
          refine r_aload_n hL (x := 120) dX8_stepCost_51 rfl ?_
          refine r_getr hL xcl8 12 (by decide) s_120 (by decide) fl_X8_32 (by decide) f_120_12 dX8_stepCost_52 ?_
          refine r_iload_n hL (x := j) dX8_stepCost_55 rfl ?_
          refine r_iald hL dX8_stepCost_56 (by decide) s_128 (by decide) (by omega) (by omega) (fun hr56 => ?_)
          obtain ⟨z56, hz56⟩ : ∃ z, z = μ 128 j := ⟨_, rfl⟩
          rw [← hz56] at hr56 ⊢
          have hb56 : 0 ≤ (μ 128 j) ∧ (μ 128 j) ≤ 7 := hB 128 j
          refine r_callV hL (st := []) (av := [xI z50, xI z56]) (k := 120) (m_X8_changeOf (μ := μ) hB z50 (by omega) z56 (by omega) (fun z57 hc57 hc57_1 => ⟨rfl, ?_⟩)) ce_yX8_changeOf im_yX8_changeOf se_yX8_changeOf ml_X8_81 xcl8 (by decide) s_120 dX8_stepCost_57 rfl (Nat.le_of_ble_eq_true rfl) ⟨Nat.le_of_ble_eq_true rfl, Nat.le_of_ble_eq_true rfl⟩ ⟨Nat.le_of_ble_eq_true rfl, Nat.le_of_ble_eq_true rfl⟩
          show X 0 0 WW μ 60 [some (xR 120), some (xI i), some (xI j), some (xI s)] [xI z57]
          refine r_goto hL (tgt := 65) dX8_stepCost_60 (by decide) ?_
          exact r_iret hL dX8_stepCost_65 rfl (hK _ (by unfold mCo; rw [if_pos (by omega)]; first | (rw [if_pos (by omega), ← hz50, ← hz56]; exact hc57) | rw [if_neg (by omega)]) (by omega) (by omega) (by omega))
    · skip
      refine r_tableIn hL (tgt := 66) (off := 65) 1 dX8_stepCost_1 (by omega) e1 (by decide) (by decide) rfl (by decide) ?_
      refine r_iload_n hL (x := i) dX8_stepCost_66 rfl ?_
      refine r_aload_n hL (x := 120) dX8_stepCost_67 rfl ?_
      refine r_geti hL xcl8 11 (j' := 11) rfl (by decide) s_120 (by decide) fl_X8_66 (by decide) (by decide) dX8_stepCost_68 (fun hr68 => ?_)
      obtain ⟨z68, hz68⟩ : ∃ z, z = μ 120 11 := ⟨_, rfl⟩
      rw [← hz68] at hr68 ⊢
      have hb68 : 0 ≤ μ 120 11 ∧ μ 120 11 ≤ 10 := (show ((11 : Int) = 2 → 0 ≤ (μ 120 11) ∧ (μ 120 11) ≤ 16) ∧ ((11 : Int) = 6 → 0 ≤ (μ 120 11) ∧ (μ 120 11) ≤ 10) ∧ ((11 : Int) = 8 → 0 ≤ (μ 120 11) ∧ (μ 120 11) ≤ 20) ∧ ((11 : Int) = 9 → 0 ≤ (μ 120 11) ∧ (μ 120 11) ≤ 2147483647) ∧ ((11 : Int) = 11 → 0 ≤ (μ 120 11) ∧ (μ 120 11) ≤ 10) ∧ ((11 : Int) = 13 → 0 ≤ (μ 120 11) ∧ (μ 120 11) ≤ 10) ∧ ((11 : Int) = 20 → 0 ≤ (μ 120 11) ∧ (μ 120 11) ≤ 8) from hB 120 11).2.2.2.2.1 (by omega)
      refine r_icmp_ge hL (tgt := 83) dX8_stepCost_71 (by decide) (by omega) (by omega) (fun c71 => ?_) (fun c71 => ?_)
      · skip
        refine r_ldc hL (n := 100000) dX8_stepCost_83 kc_X8_84 (by decide) ?_
        exact r_iret hL dX8_stepCost_85 rfl (hK _ (by unfold mCo; rw [if_neg (by omega), if_pos (by omega)]; first | (rw [if_pos (by omega)]; exact hz79) | rw [if_neg (by omega)]) (by omega) (by omega) (by omega))
      · skip
        refine r_aload_n hL (x := 120) dX8_stepCost_74 rfl ?_
        refine r_getr hL xcl8 0 (by decide) s_120 (by decide) fl_X8_7 (by decide) f_120_0 dX8_stepCost_75 ?_
        refine r_iconst hL dX8_stepCost_78 ?_
        refine r_iald hL dX8_stepCost_79 (by decide) s_121 (by decide) (by omega) (by omega) (fun hr79 => ?_)
        obtain ⟨z79, hz79⟩ : ∃ z, z = μ 121 2 := ⟨_, rfl⟩
        rw [← hz79] at hr79 ⊢
        have hb79 : 0 ≤ μ 121 2 ∧ μ 121 2 ≤ 9 := (show ((2 : Int) = 0 → 0 ≤ (μ 121 2) ∧ (μ 121 2) ≤ 8) ∧ ((2 : Int) = 1 → 0 ≤ (μ 121 2) ∧ (μ 121 2) ≤ 2) ∧ (2 ≤ (2 : Int) ∧ (2 : Int) ≤ 5 → 0 ≤ (μ 121 2) ∧ (μ 121 2) ≤ 9) ∧ (6 ≤ (2 : Int) ∧ (2 : Int) ≤ 13 → 0 ≤ (μ 121 2) ∧ (μ 121 2) ≤ 10) ∧ (30 ≤ (2 : Int) → 0 ≤ (μ 121 2) ∧ (μ 121 2) ≤ 7) from hB 121 2).2.2.1 (by omega)
        refine r_goto hL (tgt := 85) dX8_stepCost_80 (by decide) ?_
        exact r_iret hL dX8_stepCost_85 rfl (hK _ (by unfold mCo; rw [if_neg (by omega), if_pos (by omega)]; first | (rw [if_pos (by omega)]; exact hz79) | rw [if_neg (by omega)]) (by omega) (by omega) (by omega))
    · skip
      refine r_tableIn hL (tgt := 86) (off := 85) 2 dX8_stepCost_1 (by omega) e1 (by decide) (by decide) rfl (by decide) ?_
      refine r_iload_n hL (x := j) dX8_stepCost_86 rfl ?_
      refine r_aload_n hL (x := 120) dX8_stepCost_87 rfl ?_
      refine r_geti hL xcl8 13 (j' := 13) rfl (by decide) s_120 (by decide) fl_X8_70 (by decide) (by decide) dX8_stepCost_88 (fun hr88 => ?_)
      obtain ⟨z88, hz88⟩ : ∃ z, z = μ 120 13 := ⟨_, rfl⟩
      rw [← hz88] at hr88 ⊢
      have hb88 : 0 ≤ μ 120 13 ∧ μ 120 13 ≤ 10 := (show ((13 : Int) = 2 → 0 ≤ (μ 120 13) ∧ (μ 120 13) ≤ 16) ∧ ((13 : Int) = 6 → 0 ≤ (μ 120 13) ∧ (μ 120 13) ≤ 10) ∧ ((13 : Int) = 8 → 0 ≤ (μ 120 13) ∧ (μ 120 13) ≤ 20) ∧ ((13 : Int) = 9 → 0 ≤ (μ 120 13) ∧ (μ 120 13) ≤ 2147483647) ∧ ((13 : Int) = 11 → 0 ≤ (μ 120 13) ∧ (μ 120 13) ≤ 10) ∧ ((13 : Int) = 13 → 0 ≤ (μ 120 13) ∧ (μ 120 13) ≤ 10) ∧ ((13 : Int) = 20 → 0 ≤ (μ 120 13) ∧ (μ 120 13) ≤ 8) from hB 120 13).2.2.2.2.2.1 (by omega)
      refine r_icmp_ge hL (tgt := 103) dX8_stepCost_91 (by decide) (by omega) (by omega) (fun c91 => ?_) (fun c91 => ?_)
      · skip
        refine r_ldc hL (n := 100000) dX8_stepCost_103 kc_X8_84 (by decide) ?_
        exact r_iret hL dX8_stepCost_105 rfl (hK _ (by unfold mCo; rw [if_neg (by omega), if_neg (by omega), if_pos (by omega)]; first | (rw [if_pos (by omega)]; exact hz99) | rw [if_neg (by omega)]) (by omega) (by omega) (by omega))
      · skip
        refine r_aload_n hL (x := 120) dX8_stepCost_94 rfl ?_
        refine r_getr hL xcl8 0 (by decide) s_120 (by decide) fl_X8_7 (by decide) f_120_0 dX8_stepCost_95 ?_
        refine r_iconst hL dX8_stepCost_98 ?_
        refine r_iald hL dX8_stepCost_99 (by decide) s_121 (by decide) (by omega) (by omega) (fun hr99 => ?_)
        obtain ⟨z99, hz99⟩ : ∃ z, z = μ 121 2 := ⟨_, rfl⟩
        rw [← hz99] at hr99 ⊢
        have hb99 : 0 ≤ μ 121 2 ∧ μ 121 2 ≤ 9 := (show ((2 : Int) = 0 → 0 ≤ (μ 121 2) ∧ (μ 121 2) ≤ 8) ∧ ((2 : Int) = 1 → 0 ≤ (μ 121 2) ∧ (μ 121 2) ≤ 2) ∧ (2 ≤ (2 : Int) ∧ (2 : Int) ≤ 5 → 0 ≤ (μ 121 2) ∧ (μ 121 2) ≤ 9) ∧ (6 ≤ (2 : Int) ∧ (2 : Int) ≤ 13 → 0 ≤ (μ 121 2) ∧ (μ 121 2) ≤ 10) ∧ (30 ≤ (2 : Int) → 0 ≤ (μ 121 2) ∧ (μ 121 2) ≤ 7) from hB 121 2).2.2.1 (by omega)
        refine r_goto hL (tgt := 105) dX8_stepCost_100 (by decide) ?_
        exact r_iret hL dX8_stepCost_105 rfl (hK _ (by unfold mCo; rw [if_neg (by omega), if_neg (by omega), if_pos (by omega)]; first | (rw [if_pos (by omega)]; exact hz99) | rw [if_neg (by omega)]) (by omega) (by omega) (by omega))
  · skip
    refine r_tableOut hL (tgt := 106) dX8_stepCost_1 (by omega) (by omega) (by decide) ?_
    refine r_aload_n hL (x := 120) dX8_stepCost_106 rfl ?_
    refine r_iload_n hL (x := i) dX8_stepCost_107 rfl ?_
    refine r_iload_n hL (x := j) dX8_stepCost_108 rfl ?_
    refine r_callV hL (st := []) (av := [xI i, xI j]) (k := 120) (m_X8_isTurned (μ := μ) hB i (by omega) j (by omega) (fun z109 hc109 => ⟨rfl, ?_⟩)) ce_yX8_isTurned im_yX8_isTurned se_yX8_isTurned ml_X8_85 xcl8 (by decide) s_120 dX8_stepCost_109 rfl (Nat.le_of_ble_eq_true rfl) ⟨Nat.le_of_ble_eq_true rfl, Nat.le_of_ble_eq_true rfl⟩ ⟨Nat.le_of_ble_eq_true rfl, Nat.le_of_ble_eq_true rfl⟩
    show X 0 0 WW μ 112 [some (xR 120), some (xI i), some (xI j), some (xI s)] [xI z109]
    refine r_if_eq hL (tgt := 124) dX8_stepCost_112 (by decide) (by omega) (fun c112 => ?_) (fun c112 => ?_)
    · skip
      refine r_ldc hL (n := 100000) dX8_stepCost_124 kc_X8_84 (by decide) ?_
      exact r_iret hL dX8_stepCost_126 rfl (hK _ (by unfold mCo; rw [if_neg (by omega), if_neg (by omega), if_neg (by omega)]; first | (rw [if_pos (show mTu μ i j by omega)]; exact hz120) | rw [if_neg (show ¬ mTu μ i j by omega)]) (by omega) (by omega) (by omega))
    · skip
      refine r_aload_n hL (x := 120) dX8_stepCost_115 rfl ?_
      refine r_getr hL xcl8 0 (by decide) s_120 (by decide) fl_X8_7 (by decide) f_120_0 dX8_stepCost_116 ?_
      refine r_iconst hL dX8_stepCost_119 ?_
      refine r_iald hL dX8_stepCost_120 (by decide) s_121 (by decide) (by omega) (by omega) (fun hr120 => ?_)
      obtain ⟨z120, hz120⟩ : ∃ z, z = μ 121 3 := ⟨_, rfl⟩
      rw [← hz120] at hr120 ⊢
      have hb120 : 0 ≤ μ 121 3 ∧ μ 121 3 ≤ 9 := (show ((3 : Int) = 0 → 0 ≤ (μ 121 3) ∧ (μ 121 3) ≤ 8) ∧ ((3 : Int) = 1 → 0 ≤ (μ 121 3) ∧ (μ 121 3) ≤ 2) ∧ (2 ≤ (3 : Int) ∧ (3 : Int) ≤ 5 → 0 ≤ (μ 121 3) ∧ (μ 121 3) ≤ 9) ∧ (6 ≤ (3 : Int) ∧ (3 : Int) ≤ 13 → 0 ≤ (μ 121 3) ∧ (μ 121 3) ≤ 10) ∧ (30 ≤ (3 : Int) → 0 ≤ (μ 121 3) ∧ (μ 121 3) ≤ 7) from hB 121 3).2.2.1 (by omega)
      refine r_goto hL (tgt := 126) dX8_stepCost_121 (by decide) ?_
      exact r_iret hL dX8_stepCost_126 rfl (hK _ (by unfold mCo; rw [if_neg (by omega), if_neg (by omega), if_neg (by omega)]; first | (rw [if_pos (show mTu μ i j by omega)]; exact hz120) | rw [if_neg (show ¬ mTu μ i j by omega)]) (by omega) (by omega) (by omega))

set_option maxHeartbeats 4000000 in
set_option maxRecDepth 20000 in
theorem m_X8_linesUp {K : Option xV → xW → xM → Prop} {μ : xM} (hB0 : BI μ)  (hK : ∀ r μ', BI μ' → Fr LN μ μ' → MD μ' → r = μ' 129 0 → LQ (μ 120 11) (μ 120 13) (mCo μ) (μ' 129) → LW (μ 120 11) (μ 120 13) (mCo μ) (μ' 129) (μ' 130) → 0 ≤ r ∧ r ≤ 180 → K (some (xI r)) WW μ') : xMet yX8_linesUp cX8_linesUp 10 (some .int) 3 67 0 0 [xR 120] WW μ K := by
  refine xMet.go RX8 "linesUp" rfl rfl (by decide) [some (xR 120), none, none, none, none, none, none, none, none, none] (Nat.le_of_ble_eq_true rfl) rfl (fun X hL => ?_)
  have hB := hB0
  have hm11 : 0 ≤ μ 120 11 ∧ μ 120 11 ≤ 10 := (show ((11 : Int) = 2 → 0 ≤ (μ 120 11) ∧ (μ 120 11) ≤ 16) ∧ ((11 : Int) = 6 → 0 ≤ (μ 120 11) ∧ (μ 120 11) ≤ 10) ∧ ((11 : Int) = 8 → 0 ≤ (μ 120 11) ∧ (μ 120 11) ≤ 20) ∧ ((11 : Int) = 9 → 0 ≤ (μ 120 11) ∧ (μ 120 11) ≤ 2147483647) ∧ ((11 : Int) = 11 → 0 ≤ (μ 120 11) ∧ (μ 120 11) ≤ 10) ∧ ((11 : Int) = 13 → 0 ≤ (μ 120 11) ∧ (μ 120 11) ≤ 10) ∧ ((11 : Int) = 20 → 0 ≤ (μ 120 11) ∧ (μ 120 11) ≤ 8) from hB 120 11).2.2.2.2.1 (by omega)
  have hm13 : 0 ≤ μ 120 13 ∧ μ 120 13 ≤ 10 := (show ((13 : Int) = 2 → 0 ≤ (μ 120 13) ∧ (μ 120 13) ≤ 16) ∧ ((13 : Int) = 6 → 0 ≤ (μ 120 13) ∧ (μ 120 13) ≤ 10) ∧ ((13 : Int) = 8 → 0 ≤ (μ 120 13) ∧ (μ 120 13) ≤ 20) ∧ ((13 : Int) = 9 → 0 ≤ (μ 120 13) ∧ (μ 120 13) ≤ 2147483647) ∧ ((13 : Int) = 11 → 0 ≤ (μ 120 13) ∧ (μ 120 13) ≤ 10) ∧ ((13 : Int) = 13 → 0 ≤ (μ 120 13) ∧ (μ 120 13) ≤ 10) ∧ ((13 : Int) = 20 → 0 ≤ (μ 120 13) ∧ (μ 120 13) ≤ 8) from hB 120 13).2.2.2.2.2.1 (by omega)
  have hOK := mCo_ok hB
  have hF : Fr LN μ μ := Fr.rf
  refine r_aload_n hL (x := 120) dX8_linesUp_0 rfl ?_
  refine r_geti hL xcl8 11 (j' := 11) rfl (by decide) s_120 (by decide) fl_X8_66 (by decide) (by decide) dX8_linesUp_1 (fun hr1 => ?_)
  obtain ⟨z1, hz1⟩ : ∃ z, z = μ 120 11 := ⟨_, rfl⟩
  rw [← hz1] at hr1 ⊢
  have hb1 : 0 ≤ μ 120 11 ∧ μ 120 11 ≤ 10 := (show ((11 : Int) = 2 → 0 ≤ (μ 120 11) ∧ (μ 120 11) ≤ 16) ∧ ((11 : Int) = 6 → 0 ≤ (μ 120 11) ∧ (μ 120 11) ≤ 10) ∧ ((11 : Int) = 8 → 0 ≤ (μ 120 11) ∧ (μ 120 11) ≤ 20) ∧ ((11 : Int) = 9 → 0 ≤ (μ 120 11) ∧ (μ 120 11) ≤ 2147483647) ∧ ((11 : Int) = 11 → 0 ≤ (μ 120 11) ∧ (μ 120 11) ≤ 10) ∧ ((11 : Int) = 13 → 0 ≤ (μ 120 11) ∧ (μ 120 11) ≤ 10) ∧ ((11 : Int) = 20 → 0 ≤ (μ 120 11) ∧ (μ 120 11) ≤ 8) from hB 120 11).2.2.2.2.1 (by omega)
  refine r_istore_n hL (lo' := [some (xR 120), some (xI z1), none, none, none, none, none, none, none, none]) dX8_linesUp_4 (by decide) rfl ?_
  have lp5 : ∀ (n5 : Nat) (i : Int) (μ105 : xM), (BI μ105) → (Fr LN μ μ105) → (-1 ≤ i ∧ i ≤ μ 120 11) → (MDp μ (μ105 129) i (μ 120 13)) → (LQp (μ 120 11) (μ 120 13) (mCo μ) (μ105 129) i (μ 120 13)) → (LWp (μ 120 11) (μ 120 13) (mCo μ) (μ105 129) (μ105 130) i (μ 120 13)) → ((i + 1).toNat) < n5 → X 0 0 WW μ105 5 [some (xR 120), some (xI i), none, none, none, none, none, none, none, none] [] := by
    intro n5
    induction n5 with
    | zero => intro i μ105 hB105 hF105 h3 h4 h5 h6 hn; exact absurd hn (Nat.not_lt_zero _)
    | succ n5 ih5 =>
      intro i μ105 hB105 hF105 h3 h4 h5 h6 hn5
      have e11_105 : μ105 120 11 = μ 120 11 := hF105 120 11 (by unfold LN; omega)
      have e13_105 : μ105 120 13 = μ 120 13 := hF105 120 13 (by unfold LN; omega)
      refine r_iload_n hL (x := i) dX8_linesUp_5 rfl ?_
      refine r_if_lt hL (tgt := 212) dX8_linesUp_6 (by decide) (by omega) (fun c6 => ?_) (fun c6 => ?_)
      · skip
        refine r_aload_n hL (x := 120) dX8_linesUp_212 rfl ?_
        refine r_getr hL xcl8 14 (by decide) s_120 (by decide) fl_X8_35 (by decide) f_120_14 dX8_linesUp_213 ?_
        refine r_iconst hL dX8_linesUp_216 ?_
        refine r_iald hL dX8_linesUp_217 (by decide) s_129 (by decide) (by omega) (by omega) (fun hr217 => ?_)
        obtain ⟨z217, hz217⟩ : ∃ z, z = μ105 129 0 := ⟨_, rfl⟩
        rw [← hz217] at hr217 ⊢
        exact r_iret hL dX8_linesUp_218 rfl (hK _ _ hB105 hF105 (by unfold MD; rw [show (-1 : Int) = i by omega, e13_105]; exact MDp.fr (fun k q hk => hF105 k q (by unfold LN; omega)) h4) hz217 (by unfold LQ; rw [show (-1 : Int) = i by omega]; exact h5) (by unfold LW; rw [show (-1 : Int) = i by omega]; exact h6) (by have hz := (h4 0 0 (by omega) (by omega) (by omega) (by omega) (by omega)).1; rw [show (11 * (0 : Int) + 0) = 0 from rfl] at hz; omega))
      · skip
        refine r_aload_n hL (x := 120) dX8_linesUp_9 rfl ?_
        refine r_geti hL xcl8 13 (j' := 13) rfl (by decide) s_120 (by decide) fl_X8_70 (by decide) (by decide) dX8_linesUp_10 (fun hr10 => ?_)
        obtain ⟨z10, hz10⟩ : ∃ z, z = μ105 120 13 := ⟨_, rfl⟩
        rw [← hz10] at hr10 ⊢
        have hb10 : 0 ≤ μ105 120 13 ∧ μ105 120 13 ≤ 10 := (show ((13 : Int) = 2 → 0 ≤ (μ105 120 13) ∧ (μ105 120 13) ≤ 16) ∧ ((13 : Int) = 6 → 0 ≤ (μ105 120 13) ∧ (μ105 120 13) ≤ 10) ∧ ((13 : Int) = 8 → 0 ≤ (μ105 120 13) ∧ (μ105 120 13) ≤ 20) ∧ ((13 : Int) = 9 → 0 ≤ (μ105 120 13) ∧ (μ105 120 13) ≤ 2147483647) ∧ ((13 : Int) = 11 → 0 ≤ (μ105 120 13) ∧ (μ105 120 13) ≤ 10) ∧ ((13 : Int) = 13 → 0 ≤ (μ105 120 13) ∧ (μ105 120 13) ≤ 10) ∧ ((13 : Int) = 20 → 0 ≤ (μ105 120 13) ∧ (μ105 120 13) ≤ 8) from hB105 120 13).2.2.2.2.2.1 (by omega)
        refine r_istore_n hL (lo' := [some (xR 120), some (xI i), some (xI z10), none, none, none, none, none, none, none]) dX8_linesUp_13 (by decide) rfl ?_
        have lp14 : ∀ (n14 : Nat) (j : Int) (μ114 : xM), (BI μ114) → (Fr LN μ μ114) → (-1 ≤ j ∧ j ≤ μ 120 13) → (MDp μ (μ114 129) i j) → (LQp (μ 120 11) (μ 120 13) (mCo μ) (μ114 129) i j) → (LWp (μ 120 11) (μ 120 13) (mCo μ) (μ114 129) (μ114 130) i j) → ((j + 1).toNat) < n14 → X 0 0 WW μ114 14 [some (xR 120), some (xI i), some (xI j), none, none, none, none, none, none, none] [] := by
          intro n14
          induction n14 with
          | zero => intro j μ114 hB114 hF114 h7 h8 h15 h16 hn; exact absurd hn (Nat.not_lt_zero _)
          | succ n14 ih14 =>
            intro j μ114 hB114 hF114 h7 h8 h15 h16 hn14
            have e11_114 : μ114 120 11 = μ 120 11 := hF114 120 11 (by unfold LN; omega)
            have e13_114 : μ114 120 13 = μ 120 13 := hF114 120 13 (by unfold LN; omega)
            refine r_iload_n hL (x := j) dX8_linesUp_14 rfl ?_
            refine r_if_lt hL (tgt := 206) dX8_linesUp_15 (by decide) (by omega) (fun c15 => ?_) (fun c15 => ?_)
            · skip
              refine r_iinc hL (x := i) (lo' := [some (xR 120), some (xI (i + (-1))), some (xI j), none, none, none, none, none, none, none]) dX8_linesUp_206 (by decide) rfl rfl ?_
              refine r_goto hL (tgt := 5) dX8_linesUp_209 (by decide) ?_
              refine r_drop hL (lo' := [some (xR 120), some (xI (i + (-1))), none, none, none, none, none, none, none, none]) [2] rfl ?_
              exact ih5 (i + (-1)) μ114 hB114 hF114 (by omega) (MDp.up (by rw [show (-1 : Int) = j by omega]; exact h8)) (LQp.up (by rw [show (-1 : Int) = j by omega]; exact h15)) (LWp.up (by rw [show (-1 : Int) = j by omega]; exact h16)) (by omega)
            · skip
              have lp66 : ∀ (n66 : Nat) (v : Int) (n : Int) (s : Int), (mLe μ (μ114 129) i j v) → (xrg n) → (0 ≤ s ∧ s ≤ 4) → (2 ≤ s → i < μ 120 11 → v ≠ 100000) → (3 ≤ s → j < μ 120 13 → v ≠ 100000) → (lmB (μ 120 11) (μ 120 13) (mCo μ) (μ114 129) (μ114 130) i j s.toNat v n) → ((4 - s).toNat) < n66 → X 0 0 WW μ114 66 [some (xR 120), some (xI i), some (xI j), none, some (xI v), some (xI n), some (xI s), none, none, none] [] := by
                intro n66
                induction n66 with
                | zero => intro v n s h9 h10 h11 h12 h13 h14 hn; exact absurd hn (Nat.not_lt_zero _)
                | succ n66 ih66 =>
                  intro v n s h9 h10 h11 h12 h13 h14 hn66
                  have hvb := h9.bd (by omega) (by omega) (by omega) (by omega)
                  refine r_iload hL (x := s) dX8_linesUp_66 rfl ?_
                  refine r_iconst hL dX8_linesUp_68 ?_
                  refine r_icmp_ge hL (tgt := 176) dX8_linesUp_69 (by decide) (by omega) (by omega) (fun c69 => ?_) (fun c69 => ?_)
                  · skip
                    refine r_aload_n hL (x := 120) dX8_linesUp_176 rfl ?_
                    refine r_getr hL xcl8 14 (by decide) s_120 (by decide) fl_X8_35 (by decide) f_120_14 dX8_linesUp_177 ?_
                    refine r_iload_n hL (x := i) dX8_linesUp_180 rfl ?_
                    refine r_iload_n hL (x := j) dX8_linesUp_181 rfl ?_
                    refine r_callS hL (st := [xR 129]) (av := [xI i, xI j]) (m_X8_cellOf (μ := μ114) i j (fun z182 hc182 => ⟨rfl, ?_⟩)) ce_yX8_cellOf sm_yX8_cellOf ml_X8_100 dX8_linesUp_182 rfl (Nat.le_of_ble_eq_true rfl) ⟨Nat.le_of_ble_eq_true rfl, Nat.le_of_ble_eq_true rfl⟩ ⟨Nat.le_of_ble_eq_true rfl, Nat.le_of_ble_eq_true rfl⟩
                    show X 0 0 WW μ114 185 [some (xR 120), some (xI i), some (xI j), none, some (xI v), some (xI n), some (xI s), none, none, none] [xI z182, xR 129]
                    refine r_iload hL (x := v) dX8_linesUp_185 rfl ?_
                    refine r_iast hL dX8_linesUp_187 (by decide) s_129 (by decide) (by omega) (by omega) (by omega) (fun μ1 hm1 => ?_)
                    have hB1 : BI μ1 := by rw [hm1]; exact hB114.up trivial
                    have hF1 : Fr LN μ μ1 := by rw [hm1]; exact hF114.up (by unfold LN; omega)
                    have hS1 : ∀ q, μ1 129 q = if q = z182 then v else μ114 129 q := fun q => by rw [hm1]; simp [xup]
                    have hS0 : ∀ q, μ1 130 q = μ114 130 q := fun q => by rw [hm1]; exact congrFun (xup_c (by decide)) q
                    refine r_aload_n hL (x := 120) dX8_linesUp_188 rfl ?_
                    refine r_getr hL xcl8 15 (by decide) s_120 (by decide) fl_X8_38 (by decide) f_120_15 dX8_linesUp_189 ?_
                    refine r_iload_n hL (x := i) dX8_linesUp_192 rfl ?_
                    refine r_iload_n hL (x := j) dX8_linesUp_193 rfl ?_
                    refine r_callS hL (st := [xR 130]) (av := [xI i, xI j]) (m_X8_cellOf (μ := μ1) i j (fun z194 hc194 => ⟨rfl, ?_⟩)) ce_yX8_cellOf sm_yX8_cellOf ml_X8_100 dX8_linesUp_194 rfl (Nat.le_of_ble_eq_true rfl) ⟨Nat.le_of_ble_eq_true rfl, Nat.le_of_ble_eq_true rfl⟩ ⟨Nat.le_of_ble_eq_true rfl, Nat.le_of_ble_eq_true rfl⟩
                    show X 0 0 WW μ1 197 [some (xR 120), some (xI i), some (xI j), none, some (xI v), some (xI n), some (xI s), none, none, none] [xI z194, xR 130]
                    refine r_iload hL (x := n) dX8_linesUp_197 rfl ?_
                    refine r_iast hL dX8_linesUp_199 (by decide) s_130 (by decide) (by omega) (by omega) (by omega) (fun μ2 hm2 => ?_)
                    have hB2 : BI μ2 := by rw [hm2]; exact hB1.up trivial
                    have hF2 : Fr LN μ μ2 := by rw [hm2]; exact hF1.up (by unfold LN; omega)
                    have hS2 : ∀ q, μ2 129 q = μ1 129 q := fun q => by rw [hm2]; exact congrFun (xup_c (by decide)) q
                    have hS3 : ∀ q, μ2 130 q = if q = z194 then n else μ1 130 q := fun q => by rw [hm2]; simp [xup]
                    refine r_iinc hL (x := j) (lo' := [some (xR 120), some (xI i), some (xI (j + (-1))), none, some (xI v), some (xI n), some (xI s), none, none, none]) dX8_linesUp_200 (by decide) rfl rfl ?_
                    refine r_goto hL (tgt := 14) dX8_linesUp_203 (by decide) ?_
                    refine r_drop hL (lo' := [some (xR 120), some (xI i), some (xI (j + (-1))), none, none, none, none, none, none, none]) [4, 5, 6] rfl ?_
                    exact ih14 (j + (-1)) μ2 hB2 hF2 (by omega) (MDp.step (v := v) h8 (by omega) (by omega) (by omega) (by rcases h9 with ⟨g1, g2, g3⟩ | ⟨g1, g2 | ⟨g3, g4, _⟩⟩ <;> omega) (fun hne => by rcases h9 with ⟨g1, g2, g3⟩ | ⟨g1, g2 | ⟨g3, g4, g5⟩⟩ <;> first | exact g5 | omega) (by omega) (fun q => (hS2 q).trans ((hS1 q).trans (by rw [hc182])))) (LQp.step (v := v) h15 hOK (by omega) (by omega) (by omega) (h14.val (by omega)).1 (fun q => (hS2 q).trans ((hS1 q).trans (by rw [hc182])))) (LWp.step (v := n) h16 hOK (by omega) (by omega) (by omega) (h14.val (by omega)).2 (fun q hq => (hS2 q).trans ((hS1 q).trans (by rw [hc182, if_neg hq]))) (fun q => (hS3 q).trans (by rw [hc194, hS0]))) (by omega)
                  · skip
                    refine r_aload_n hL (x := 120) dX8_linesUp_72 rfl ?_
                    refine r_iload_n hL (x := i) dX8_linesUp_73 rfl ?_
                    refine r_iload_n hL (x := j) dX8_linesUp_74 rfl ?_
                    refine r_iload hL (x := s) dX8_linesUp_75 rfl ?_
                    refine r_callV hL (st := []) (av := [xI i, xI j, xI s]) (k := 120) (m_X8_stepCost (μ := μ114) hB114 i (by omega) j (by omega) s (by omega) (fun z77 hc77 hc77_1 hc77_2 hc77_3 => ⟨rfl, ?_⟩)) ce_yX8_stepCost im_yX8_stepCost se_yX8_stepCost ml_X8_89 xcl8 (by decide) s_120 dX8_linesUp_77 rfl (Nat.le_of_ble_eq_true rfl) ⟨Nat.le_of_ble_eq_true rfl, Nat.le_of_ble_eq_true rfl⟩ ⟨Nat.le_of_ble_eq_true rfl, Nat.le_of_ble_eq_true rfl⟩
                    show X 0 0 WW μ114 80 [some (xR 120), some (xI i), some (xI j), none, some (xI v), some (xI n), some (xI s), none, none, none] [xI z77]
                    have hcm : mCo μ114 i j s = mCo μ i j s := mCo_fr (fun k q hk => hF114 k q (by unfold LN; omega)) i j s
                    refine r_istore hL (lo' := [some (xR 120), some (xI i), some (xI j), none, some (xI v), some (xI n), some (xI s), some (xI z77), none, none]) dX8_linesUp_80 (by decide) rfl ?_
                    refine r_iload hL (x := z77) dX8_linesUp_82 rfl ?_
                    refine r_ldc hL (n := 100000) dX8_linesUp_84 kc_X8_84 (by decide) ?_
                    refine r_icmp_ge hL (tgt := 170) dX8_linesUp_86 (by decide) (by omega) (by omega) (fun c86 => ?_) (fun c86 => ?_)
                    · skip
                      refine r_iinc hL (x := s) (lo' := [some (xR 120), some (xI i), some (xI j), none, some (xI v), some (xI n), some (xI (s + 1)), some (xI z77), none, none]) dX8_linesUp_170 (by decide) rfl rfl ?_
                      refine r_goto hL (tgt := 66) dX8_linesUp_173 (by decide) ?_
                      refine r_drop hL (lo' := [some (xR 120), some (xI i), some (xI j), none, some (xI v), some (xI n), some (xI (s + 1)), none, none, none]) [7] rfl ?_
                      exact ih66 v n (s + 1) (by first | exact h9 | (rw [hc165]; exact h9.least (s := s) (by omega) (by omega) (hc77.trans hcm) (by omega) (by omega) (by omega) (by omega) (by rw [hz116, hc103, hc92, hc99]) (by rw [← hc92, ← hc99]; omega))) (by omega) (by omega) (by omega) (by omega) (lmB.up h14 (by omega) (fun e1 e2 hlt => by rcases hOK i j s (by omega) (by omega) (by omega) (by omega) (by omega) (by omega) with e | ⟨_, _, g1, g2, g3⟩ <;> omega) (by first | (have h_ := hz133; exact Or.inl ⟨by rw [← hcm, ← hc77]; omega, by rw [← hcm, ← hc77, ← ht116]; exact hc165, by rw [← hcm, ← hc77, ← ht116]; exact Or.inl ⟨by omega, by rw [hz133, hc103, hc92, hc99]; rfl⟩⟩) | (have h_ := hy153; exact Or.inl ⟨by rw [← hcm, ← hc77]; omega, by rw [← hcm, ← hc77, ← ht116]; exact hc165, by rw [← hcm, ← hc77, ← ht116]; exact Or.inr (Or.inl ⟨by omega, by omega, by rw [hy153, hz152, hc103, hc92, hc99]; rfl⟩)⟩) | (have h_ := hc165; exact Or.inl ⟨by rw [← hcm, ← hc77]; omega, by rw [← hcm, ← hc77, ← ht116]; exact hc165, by rw [← hcm, ← hc77, ← ht116]; exact Or.inr (Or.inr ⟨by omega, by omega, rfl⟩)⟩) | exact Or.inr ⟨by rw [← hcm, ← hc77]; omega, rfl, rfl⟩)) (by omega)
                    · skip
                      refine r_iload_n hL (x := i) dX8_linesUp_89 rfl ?_
                      refine r_iload hL (x := s) dX8_linesUp_90 rfl ?_
                      refine r_callS hL (st := [xI i]) (av := [xI s]) (m_X8_firstBy (μ := μ114) s (by omega) (fun z92 hc92 hc92_1 => ⟨rfl, ?_⟩)) ce_yX8_firstBy sm_yX8_firstBy ml_X8_93 dX8_linesUp_92 rfl (Nat.le_of_ble_eq_true rfl) ⟨Nat.le_of_ble_eq_true rfl, Nat.le_of_ble_eq_true rfl⟩ ⟨Nat.le_of_ble_eq_true rfl, Nat.le_of_ble_eq_true rfl⟩
                      show X 0 0 WW μ114 95 [some (xR 120), some (xI i), some (xI j), none, some (xI v), some (xI n), some (xI s), some (xI z77), none, none] [xI z92, xI i]
                      refine r_iadd hL dX8_linesUp_95 ?_
                      refine r_iload_n hL (x := j) dX8_linesUp_96 rfl ?_
                      refine r_iload hL (x := s) dX8_linesUp_97 rfl ?_
                      refine r_callS hL (st := [xI j, xI (i + z92)]) (av := [xI s]) (m_X8_otherBy (μ := μ114) s (by omega) (fun z99 hc99 hc99_1 => ⟨rfl, ?_⟩)) ce_yX8_otherBy sm_yX8_otherBy ml_X8_97 dX8_linesUp_99 rfl (Nat.le_of_ble_eq_true rfl) ⟨Nat.le_of_ble_eq_true rfl, Nat.le_of_ble_eq_true rfl⟩ ⟨Nat.le_of_ble_eq_true rfl, Nat.le_of_ble_eq_true rfl⟩
                      show X 0 0 WW μ114 102 [some (xR 120), some (xI i), some (xI j), none, some (xI v), some (xI n), some (xI s), some (xI z77), none, none] [xI z99, xI j, xI (i + z92)]
                      refine r_iadd hL dX8_linesUp_102 ?_
                      refine r_callS hL (st := []) (av := [xI (i + z92), xI (j + z99)]) (m_X8_cellOf (μ := μ114) (i + z92) (j + z99) (fun z103 hc103 => ⟨rfl, ?_⟩)) ce_yX8_cellOf sm_yX8_cellOf ml_X8_100 dX8_linesUp_103 rfl (Nat.le_of_ble_eq_true rfl) ⟨Nat.le_of_ble_eq_true rfl, Nat.le_of_ble_eq_true rfl⟩ ⟨Nat.le_of_ble_eq_true rfl, Nat.le_of_ble_eq_true rfl⟩
                      show X 0 0 WW μ114 106 [some (xR 120), some (xI i), some (xI j), none, some (xI v), some (xI n), some (xI s), some (xI z77), none, none] [xI z103]
                      refine r_istore hL (lo' := [some (xR 120), some (xI i), some (xI j), none, some (xI v), some (xI n), some (xI s), some (xI z77), some (xI z103), none]) dX8_linesUp_106 (by decide) rfl ?_
                      refine r_iload hL (x := z77) dX8_linesUp_108 rfl ?_
                      refine r_aload_n hL (x := 120) dX8_linesUp_110 rfl ?_
                      refine r_getr hL xcl8 14 (by decide) s_120 (by decide) fl_X8_35 (by decide) f_120_14 dX8_linesUp_111 ?_
                      refine r_iload hL (x := z103) dX8_linesUp_114 rfl ?_
                      refine r_iald hL dX8_linesUp_116 (by decide) s_129 (by decide) (by omega) (by omega) (fun hr116 => ?_)
                      obtain ⟨z116, hz116⟩ : ∃ z, z = μ114 129 z103 := ⟨_, rfl⟩
                      rw [← hz116] at hr116 ⊢
                      have hvF := xOF_v s
                      have hvO := xOO_v s
                      have hnx := (h8 (i + z92) (j + z99) (by omega) (by omega) (by omega) (by omega) (by omega)).1
                      have hn116 : 0 ≤ z116 ∧ z116 ≤ 9 * ((μ 120 11 - (i + z92)) + (μ 120 13 - (j + z99))) := by rw [hz116, hc103]; exact hnx
                      have ht116 : z116 = μ114 129 (lnx i j s) := by rw [hz116, hc103, hc92, hc99]; rfl
                      refine r_iadd hL dX8_linesUp_117 ?_
                      refine r_istore hL (lo' := [some (xR 120), some (xI i), some (xI j), none, some (xI v), some (xI n), some (xI s), some (xI z77), some (xI z103), some (xI (z77 + z116))]) dX8_linesUp_118 (by decide) rfl ?_
                      refine r_iload hL (x := z77 + z116) dX8_linesUp_120 rfl ?_
                      refine r_iload hL (x := v) dX8_linesUp_122 rfl ?_
                      refine r_icmp_ge hL (tgt := 137) dX8_linesUp_124 (by decide) (by omega) (by omega) (fun c124 => ?_) (fun c124 => ?_)
                      · skip
                        refine r_iload hL (x := z77 + z116) dX8_linesUp_137 rfl ?_
                        refine r_iload hL (x := v) dX8_linesUp_139 rfl ?_
                        refine r_icmp_ne hL (tgt := 157) dX8_linesUp_141 (by decide) (by omega) (by omega) (fun c141 => ?_) (fun c141 => ?_)
                        · skip
                          refine r_iload hL (x := n) dX8_linesUp_157 rfl ?_
                          refine r_istore hL (lo' := [some (xR 120), some (xI i), some (xI j), none, some (xI v), some (xI n), some (xI s), some (xI z77), some (xI z103), some (xI (z77 + z116))]) dX8_linesUp_159 (by decide) rfl ?_
                          refine r_iload hL (x := z77 + z116) dX8_linesUp_161 rfl ?_
                          refine r_iload hL (x := v) dX8_linesUp_163 rfl ?_
                          refine r_callS hL (st := []) (av := [xI (z77 + z116), xI v]) (m_X8_lesser (μ := μ114) (z77 + z116) (by omega) v (by omega) (fun z165 hc165 => ⟨rfl, ?_⟩)) ce_yX8_lesser sm_yX8_lesser ml_X8_77 dX8_linesUp_165 rfl (Nat.le_of_ble_eq_true rfl) ⟨Nat.le_of_ble_eq_true rfl, Nat.le_of_ble_eq_true rfl⟩ ⟨Nat.le_of_ble_eq_true rfl, Nat.le_of_ble_eq_true rfl⟩
                          show X 0 0 WW μ114 168 [some (xR 120), some (xI i), some (xI j), none, some (xI v), some (xI n), some (xI s), some (xI z77), some (xI z103), some (xI (z77 + z116))] [xI z165]
                          refine r_istore hL (lo' := [some (xR 120), some (xI i), some (xI j), none, some (xI z165), some (xI n), some (xI s), some (xI z77), some (xI z103), some (xI (z77 + z116))]) dX8_linesUp_168 (by decide) rfl ?_
                          refine r_iinc hL (x := s) (lo' := [some (xR 120), some (xI i), some (xI j), none, some (xI z165), some (xI n), some (xI (s + 1)), some (xI z77), some (xI z103), some (xI (z77 + z116))]) dX8_linesUp_170 (by decide) rfl rfl ?_
                          refine r_goto hL (tgt := 66) dX8_linesUp_173 (by decide) ?_
                          refine r_drop hL (lo' := [some (xR 120), some (xI i), some (xI j), none, some (xI z165), some (xI n), some (xI (s + 1)), none, none, none]) [7, 8, 9] rfl ?_
                          exact ih66 z165 n (s + 1) (by first | exact h9 | (rw [hc165]; exact h9.least (s := s) (by omega) (by omega) (hc77.trans hcm) (by omega) (by omega) (by omega) (by omega) (by rw [hz116, hc103, hc92, hc99]) (by rw [← hc92, ← hc99]; omega))) (by omega) (by omega) (by omega) (by omega) (lmB.up h14 (by omega) (fun e1 e2 hlt => by rcases hOK i j s (by omega) (by omega) (by omega) (by omega) (by omega) (by omega) with e | ⟨_, _, g1, g2, g3⟩ <;> omega) (by first | (have h_ := hz133; exact Or.inl ⟨by rw [← hcm, ← hc77]; omega, by rw [← hcm, ← hc77, ← ht116]; exact hc165, by rw [← hcm, ← hc77, ← ht116]; exact Or.inl ⟨by omega, by rw [hz133, hc103, hc92, hc99]; rfl⟩⟩) | (have h_ := hy153; exact Or.inl ⟨by rw [← hcm, ← hc77]; omega, by rw [← hcm, ← hc77, ← ht116]; exact hc165, by rw [← hcm, ← hc77, ← ht116]; exact Or.inr (Or.inl ⟨by omega, by omega, by rw [hy153, hz152, hc103, hc92, hc99]; rfl⟩)⟩) | (have h_ := hc165; exact Or.inl ⟨by rw [← hcm, ← hc77]; omega, by rw [← hcm, ← hc77, ← ht116]; exact hc165, by rw [← hcm, ← hc77, ← ht116]; exact Or.inr (Or.inr ⟨by omega, by omega, rfl⟩)⟩) | exact Or.inr ⟨by rw [← hcm, ← hc77]; omega, rfl, rfl⟩)) (by omega)
                        · skip
                          refine r_iload hL (x := n) dX8_linesUp_144 rfl ?_
                          refine r_aload_n hL (x := 120) dX8_linesUp_146 rfl ?_
                          refine r_getr hL xcl8 15 (by decide) s_120 (by decide) fl_X8_38 (by decide) f_120_15 dX8_linesUp_147 ?_
                          refine r_iload hL (x := z103) dX8_linesUp_150 rfl ?_
                          refine r_iald hL dX8_linesUp_152 (by decide) s_130 (by decide) (by omega) (by omega) (fun hr152 => ?_)
                          obtain ⟨z152, hz152⟩ : ∃ z, z = μ114 130 z103 := ⟨_, rfl⟩
                          rw [← hz152] at hr152 ⊢
                          refine r_iadd hL dX8_linesUp_153 ?_
                          refine r_norm hL (fun y153 hy153 hyr153 => ?_)
                          refine r_goto hL (tgt := 159) dX8_linesUp_154 (by decide) ?_
                          refine r_istore hL (lo' := [some (xR 120), some (xI i), some (xI j), none, some (xI v), some (xI y153), some (xI s), some (xI z77), some (xI z103), some (xI (z77 + z116))]) dX8_linesUp_159 (by decide) rfl ?_
                          refine r_iload hL (x := z77 + z116) dX8_linesUp_161 rfl ?_
                          refine r_iload hL (x := v) dX8_linesUp_163 rfl ?_
                          refine r_callS hL (st := []) (av := [xI (z77 + z116), xI v]) (m_X8_lesser (μ := μ114) (z77 + z116) (by omega) v (by omega) (fun z165 hc165 => ⟨rfl, ?_⟩)) ce_yX8_lesser sm_yX8_lesser ml_X8_77 dX8_linesUp_165 rfl (Nat.le_of_ble_eq_true rfl) ⟨Nat.le_of_ble_eq_true rfl, Nat.le_of_ble_eq_true rfl⟩ ⟨Nat.le_of_ble_eq_true rfl, Nat.le_of_ble_eq_true rfl⟩
                          show X 0 0 WW μ114 168 [some (xR 120), some (xI i), some (xI j), none, some (xI v), some (xI y153), some (xI s), some (xI z77), some (xI z103), some (xI (z77 + z116))] [xI z165]
                          refine r_istore hL (lo' := [some (xR 120), some (xI i), some (xI j), none, some (xI z165), some (xI y153), some (xI s), some (xI z77), some (xI z103), some (xI (z77 + z116))]) dX8_linesUp_168 (by decide) rfl ?_
                          refine r_iinc hL (x := s) (lo' := [some (xR 120), some (xI i), some (xI j), none, some (xI z165), some (xI y153), some (xI (s + 1)), some (xI z77), some (xI z103), some (xI (z77 + z116))]) dX8_linesUp_170 (by decide) rfl rfl ?_
                          refine r_goto hL (tgt := 66) dX8_linesUp_173 (by decide) ?_
                          refine r_drop hL (lo' := [some (xR 120), some (xI i), some (xI j), none, some (xI z165), some (xI y153), some (xI (s + 1)), none, none, none]) [7, 8, 9] rfl ?_
                          exact ih66 z165 y153 (s + 1) (by first | exact h9 | (rw [hc165]; exact h9.least (s := s) (by omega) (by omega) (hc77.trans hcm) (by omega) (by omega) (by omega) (by omega) (by rw [hz116, hc103, hc92, hc99]) (by rw [← hc92, ← hc99]; omega))) (by omega) (by omega) (by omega) (by omega) (lmB.up h14 (by omega) (fun e1 e2 hlt => by rcases hOK i j s (by omega) (by omega) (by omega) (by omega) (by omega) (by omega) with e | ⟨_, _, g1, g2, g3⟩ <;> omega) (by first | (have h_ := hz133; exact Or.inl ⟨by rw [← hcm, ← hc77]; omega, by rw [← hcm, ← hc77, ← ht116]; exact hc165, by rw [← hcm, ← hc77, ← ht116]; exact Or.inl ⟨by omega, by rw [hz133, hc103, hc92, hc99]; rfl⟩⟩) | (have h_ := hy153; exact Or.inl ⟨by rw [← hcm, ← hc77]; omega, by rw [← hcm, ← hc77, ← ht116]; exact hc165, by rw [← hcm, ← hc77, ← ht116]; exact Or.inr (Or.inl ⟨by omega, by omega, by rw [hy153, hz152, hc103, hc92, hc99]; rfl⟩)⟩) | (have h_ := hc165; exact Or.inl ⟨by rw [← hcm, ← hc77]; omega, by rw [← hcm, ← hc77, ← ht116]; exact hc165, by rw [← hcm, ← hc77, ← ht116]; exact Or.inr (Or.inr ⟨by omega, by omega, rfl⟩)⟩) | exact Or.inr ⟨by rw [← hcm, ← hc77]; omega, rfl, rfl⟩)) (by omega)
                      · skip
                        refine r_aload_n hL (x := 120) dX8_linesUp_127 rfl ?_
                        refine r_getr hL xcl8 15 (by decide) s_120 (by decide) fl_X8_38 (by decide) f_120_15 dX8_linesUp_128 ?_
                        refine r_iload hL (x := z103) dX8_linesUp_131 rfl ?_
                        refine r_iald hL dX8_linesUp_133 (by decide) s_130 (by decide) (by omega) (by omega) (fun hr133 => ?_)
                        obtain ⟨z133, hz133⟩ : ∃ z, z = μ114 130 z103 := ⟨_, rfl⟩
                        rw [← hz133] at hr133 ⊢
                        refine r_goto hL (tgt := 159) dX8_linesUp_134 (by decide) ?_
                        refine r_istore hL (lo' := [some (xR 120), some (xI i), some (xI j), none, some (xI v), some (xI z133), some (xI s), some (xI z77), some (xI z103), some (xI (z77 + z116))]) dX8_linesUp_159 (by decide) rfl ?_
                        refine r_iload hL (x := z77 + z116) dX8_linesUp_161 rfl ?_
                        refine r_iload hL (x := v) dX8_linesUp_163 rfl ?_
                        refine r_callS hL (st := []) (av := [xI (z77 + z116), xI v]) (m_X8_lesser (μ := μ114) (z77 + z116) (by omega) v (by omega) (fun z165 hc165 => ⟨rfl, ?_⟩)) ce_yX8_lesser sm_yX8_lesser ml_X8_77 dX8_linesUp_165 rfl (Nat.le_of_ble_eq_true rfl) ⟨Nat.le_of_ble_eq_true rfl, Nat.le_of_ble_eq_true rfl⟩ ⟨Nat.le_of_ble_eq_true rfl, Nat.le_of_ble_eq_true rfl⟩
                        show X 0 0 WW μ114 168 [some (xR 120), some (xI i), some (xI j), none, some (xI v), some (xI z133), some (xI s), some (xI z77), some (xI z103), some (xI (z77 + z116))] [xI z165]
                        refine r_istore hL (lo' := [some (xR 120), some (xI i), some (xI j), none, some (xI z165), some (xI z133), some (xI s), some (xI z77), some (xI z103), some (xI (z77 + z116))]) dX8_linesUp_168 (by decide) rfl ?_
                        refine r_iinc hL (x := s) (lo' := [some (xR 120), some (xI i), some (xI j), none, some (xI z165), some (xI z133), some (xI (s + 1)), some (xI z77), some (xI z103), some (xI (z77 + z116))]) dX8_linesUp_170 (by decide) rfl rfl ?_
                        refine r_goto hL (tgt := 66) dX8_linesUp_173 (by decide) ?_
                        refine r_drop hL (lo' := [some (xR 120), some (xI i), some (xI j), none, some (xI z165), some (xI z133), some (xI (s + 1)), none, none, none]) [7, 8, 9] rfl ?_
                        exact ih66 z165 z133 (s + 1) (by first | exact h9 | (rw [hc165]; exact h9.least (s := s) (by omega) (by omega) (hc77.trans hcm) (by omega) (by omega) (by omega) (by omega) (by rw [hz116, hc103, hc92, hc99]) (by rw [← hc92, ← hc99]; omega))) (by omega) (by omega) (by omega) (by omega) (lmB.up h14 (by omega) (fun e1 e2 hlt => by rcases hOK i j s (by omega) (by omega) (by omega) (by omega) (by omega) (by omega) with e | ⟨_, _, g1, g2, g3⟩ <;> omega) (by first | (have h_ := hz133; exact Or.inl ⟨by rw [← hcm, ← hc77]; omega, by rw [← hcm, ← hc77, ← ht116]; exact hc165, by rw [← hcm, ← hc77, ← ht116]; exact Or.inl ⟨by omega, by rw [hz133, hc103, hc92, hc99]; rfl⟩⟩) | (have h_ := hy153; exact Or.inl ⟨by rw [← hcm, ← hc77]; omega, by rw [← hcm, ← hc77, ← ht116]; exact hc165, by rw [← hcm, ← hc77, ← ht116]; exact Or.inr (Or.inl ⟨by omega, by omega, by rw [hy153, hz152, hc103, hc92, hc99]; rfl⟩)⟩) | (have h_ := hc165; exact Or.inl ⟨by rw [← hcm, ← hc77]; omega, by rw [← hcm, ← hc77, ← ht116]; exact hc165, by rw [← hcm, ← hc77, ← ht116]; exact Or.inr (Or.inr ⟨by omega, by omega, rfl⟩)⟩) | exact Or.inr ⟨by rw [← hcm, ← hc77]; omega, rfl, rfl⟩)) (by omega)
              refine r_iload_n hL (x := i) dX8_linesUp_18 rfl ?_
              refine r_aload_n hL (x := 120) dX8_linesUp_19 rfl ?_
              refine r_geti hL xcl8 11 (j' := 11) rfl (by decide) s_120 (by decide) fl_X8_66 (by decide) (by decide) dX8_linesUp_20 (fun hr20 => ?_)
              obtain ⟨z20, hz20⟩ : ∃ z, z = μ114 120 11 := ⟨_, rfl⟩
              rw [← hz20] at hr20 ⊢
              have hb20 : 0 ≤ μ114 120 11 ∧ μ114 120 11 ≤ 10 := (show ((11 : Int) = 2 → 0 ≤ (μ114 120 11) ∧ (μ114 120 11) ≤ 16) ∧ ((11 : Int) = 6 → 0 ≤ (μ114 120 11) ∧ (μ114 120 11) ≤ 10) ∧ ((11 : Int) = 8 → 0 ≤ (μ114 120 11) ∧ (μ114 120 11) ≤ 20) ∧ ((11 : Int) = 9 → 0 ≤ (μ114 120 11) ∧ (μ114 120 11) ≤ 2147483647) ∧ ((11 : Int) = 11 → 0 ≤ (μ114 120 11) ∧ (μ114 120 11) ≤ 10) ∧ ((11 : Int) = 13 → 0 ≤ (μ114 120 11) ∧ (μ114 120 11) ≤ 10) ∧ ((11 : Int) = 20 → 0 ≤ (μ114 120 11) ∧ (μ114 120 11) ≤ 8) from hB114 120 11).2.2.2.2.1 (by omega)
              refine r_icmp_ne hL (tgt := 38) dX8_linesUp_23 (by decide) (by omega) (by omega) (fun c23 => ?_) (fun c23 => ?_)
              · skip
                refine r_iconst hL dX8_linesUp_38 ?_
                refine r_istore_n hL (lo' := [some (xR 120), some (xI i), some (xI j), some (xI 0), none, none, none, none, none, none]) dX8_linesUp_39 (by decide) rfl ?_
                refine r_iload_n hL (x := 0) dX8_linesUp_40 rfl ?_
                refine r_if_eq hL (tgt := 48) dX8_linesUp_41 (by decide) (by omega) (fun c41 => ?_) (fun c41 => ?_)
                · skip
                  refine r_ldc hL (n := 100000) dX8_linesUp_48 kc_X8_84 (by decide) ?_
                  refine r_istore hL (lo' := [some (xR 120), some (xI i), some (xI j), some (xI 0), some (xI 100000), none, none, none, none, none]) dX8_linesUp_50 (by decide) rfl ?_
                  refine r_iload_n hL (x := 0) dX8_linesUp_52 rfl ?_
                  refine r_if_eq hL (tgt := 60) dX8_linesUp_53 (by decide) (by omega) (fun c53 => ?_) (fun c53 => ?_)
                  · skip
                    refine r_iconst hL dX8_linesUp_60 ?_
                    refine r_istore hL (lo' := [some (xR 120), some (xI i), some (xI j), some (xI 0), some (xI 100000), some (xI 0), none, none, none, none]) dX8_linesUp_61 (by decide) rfl ?_
                    refine r_iconst hL dX8_linesUp_63 ?_
                    refine r_istore hL (lo' := [some (xR 120), some (xI i), some (xI j), some (xI 0), some (xI 100000), some (xI 0), some (xI 0), none, none, none]) dX8_linesUp_64 (by decide) rfl ?_
                    refine r_drop hL (lo' := [some (xR 120), some (xI i), some (xI j), none, some (xI 100000), some (xI 0), some (xI 0), none, none, none]) [3] rfl ?_
                    exact lp66 _ 100000 0 0 (by first | exact Or.inl ⟨by omega, by omega, rfl⟩ | exact Or.inr ⟨by omega, Or.inl rfl⟩) (by omega) (by omega) (by omega) (by omega) (by first | exact Or.inl ⟨by omega, by omega, rfl, rfl⟩ | exact Or.inr ⟨by omega, rfl, rfl⟩) (Nat.lt_succ_self _)
                  · skip
                    exact absurd c53 (by decide)
                · skip
                  exact absurd c41 (by decide)
              · skip
                refine r_iload_n hL (x := j) dX8_linesUp_26 rfl ?_
                refine r_aload_n hL (x := 120) dX8_linesUp_27 rfl ?_
                refine r_geti hL xcl8 13 (j' := 13) rfl (by decide) s_120 (by decide) fl_X8_70 (by decide) (by decide) dX8_linesUp_28 (fun hr28 => ?_)
                obtain ⟨z28, hz28⟩ : ∃ z, z = μ114 120 13 := ⟨_, rfl⟩
                rw [← hz28] at hr28 ⊢
                have hb28 : 0 ≤ μ114 120 13 ∧ μ114 120 13 ≤ 10 := (show ((13 : Int) = 2 → 0 ≤ (μ114 120 13) ∧ (μ114 120 13) ≤ 16) ∧ ((13 : Int) = 6 → 0 ≤ (μ114 120 13) ∧ (μ114 120 13) ≤ 10) ∧ ((13 : Int) = 8 → 0 ≤ (μ114 120 13) ∧ (μ114 120 13) ≤ 20) ∧ ((13 : Int) = 9 → 0 ≤ (μ114 120 13) ∧ (μ114 120 13) ≤ 2147483647) ∧ ((13 : Int) = 11 → 0 ≤ (μ114 120 13) ∧ (μ114 120 13) ≤ 10) ∧ ((13 : Int) = 13 → 0 ≤ (μ114 120 13) ∧ (μ114 120 13) ≤ 10) ∧ ((13 : Int) = 20 → 0 ≤ (μ114 120 13) ∧ (μ114 120 13) ≤ 8) from hB114 120 13).2.2.2.2.2.1 (by omega)
                refine r_icmp_ne hL (tgt := 38) dX8_linesUp_31 (by decide) (by omega) (by omega) (fun c31 => ?_) (fun c31 => ?_)
                · skip
                  refine r_iconst hL dX8_linesUp_38 ?_
                  refine r_istore_n hL (lo' := [some (xR 120), some (xI i), some (xI j), some (xI 0), none, none, none, none, none, none]) dX8_linesUp_39 (by decide) rfl ?_
                  refine r_iload_n hL (x := 0) dX8_linesUp_40 rfl ?_
                  refine r_if_eq hL (tgt := 48) dX8_linesUp_41 (by decide) (by omega) (fun c41 => ?_) (fun c41 => ?_)
                  · skip
                    refine r_ldc hL (n := 100000) dX8_linesUp_48 kc_X8_84 (by decide) ?_
                    refine r_istore hL (lo' := [some (xR 120), some (xI i), some (xI j), some (xI 0), some (xI 100000), none, none, none, none, none]) dX8_linesUp_50 (by decide) rfl ?_
                    refine r_iload_n hL (x := 0) dX8_linesUp_52 rfl ?_
                    refine r_if_eq hL (tgt := 60) dX8_linesUp_53 (by decide) (by omega) (fun c53 => ?_) (fun c53 => ?_)
                    · skip
                      refine r_iconst hL dX8_linesUp_60 ?_
                      refine r_istore hL (lo' := [some (xR 120), some (xI i), some (xI j), some (xI 0), some (xI 100000), some (xI 0), none, none, none, none]) dX8_linesUp_61 (by decide) rfl ?_
                      refine r_iconst hL dX8_linesUp_63 ?_
                      refine r_istore hL (lo' := [some (xR 120), some (xI i), some (xI j), some (xI 0), some (xI 100000), some (xI 0), some (xI 0), none, none, none]) dX8_linesUp_64 (by decide) rfl ?_
                      refine r_drop hL (lo' := [some (xR 120), some (xI i), some (xI j), none, some (xI 100000), some (xI 0), some (xI 0), none, none, none]) [3] rfl ?_
                      exact lp66 _ 100000 0 0 (by first | exact Or.inl ⟨by omega, by omega, rfl⟩ | exact Or.inr ⟨by omega, Or.inl rfl⟩) (by omega) (by omega) (by omega) (by omega) (by first | exact Or.inl ⟨by omega, by omega, rfl, rfl⟩ | exact Or.inr ⟨by omega, rfl, rfl⟩) (Nat.lt_succ_self _)
                    · skip
                      exact absurd c53 (by decide)
                  · skip
                    exact absurd c41 (by decide)
                · skip
                  refine r_iconst hL dX8_linesUp_34 ?_
                  refine r_goto hL (tgt := 39) dX8_linesUp_35 (by decide) ?_
                  refine r_istore_n hL (lo' := [some (xR 120), some (xI i), some (xI j), some (xI 1), none, none, none, none, none, none]) dX8_linesUp_39 (by decide) rfl ?_
                  refine r_iload_n hL (x := 1) dX8_linesUp_40 rfl ?_
                  refine r_if_eq hL (tgt := 48) dX8_linesUp_41 (by decide) (by omega) (fun c41 => ?_) (fun c41 => ?_)
                  · skip
                    exact absurd c41 (by decide)
                  · skip
                    refine r_iconst hL dX8_linesUp_44 ?_
                    refine r_goto hL (tgt := 50) dX8_linesUp_45 (by decide) ?_
                    refine r_istore hL (lo' := [some (xR 120), some (xI i), some (xI j), some (xI 1), some (xI 0), none, none, none, none, none]) dX8_linesUp_50 (by decide) rfl ?_
                    refine r_iload_n hL (x := 1) dX8_linesUp_52 rfl ?_
                    refine r_if_eq hL (tgt := 60) dX8_linesUp_53 (by decide) (by omega) (fun c53 => ?_) (fun c53 => ?_)
                    · skip
                      exact absurd c53 (by decide)
                    · skip
                      refine r_iconst hL dX8_linesUp_56 ?_
                      refine r_goto hL (tgt := 61) dX8_linesUp_57 (by decide) ?_
                      refine r_istore hL (lo' := [some (xR 120), some (xI i), some (xI j), some (xI 1), some (xI 0), some (xI 1), none, none, none, none]) dX8_linesUp_61 (by decide) rfl ?_
                      refine r_iconst hL dX8_linesUp_63 ?_
                      refine r_istore hL (lo' := [some (xR 120), some (xI i), some (xI j), some (xI 1), some (xI 0), some (xI 1), some (xI 0), none, none, none]) dX8_linesUp_64 (by decide) rfl ?_
                      refine r_drop hL (lo' := [some (xR 120), some (xI i), some (xI j), none, some (xI 0), some (xI 1), some (xI 0), none, none, none]) [3] rfl ?_
                      exact lp66 _ 0 1 0 (by first | exact Or.inl ⟨by omega, by omega, rfl⟩ | exact Or.inr ⟨by omega, Or.inl rfl⟩) (by omega) (by omega) (by omega) (by omega) (by first | exact Or.inl ⟨by omega, by omega, rfl, rfl⟩ | exact Or.inr ⟨by omega, rfl, rfl⟩) (Nat.lt_succ_self _)
        exact lp14 _ z10 μ105 hB105 hF105 (by omega) (by rw [show z10 = μ 120 13 by omega]; exact h4) (by rw [show z10 = μ 120 13 by omega]; exact h5) (by rw [show z10 = μ 120 13 by omega]; exact h6) (Nat.lt_succ_self _)
  exact lp5 _ z1 μ hB hF (by omega) (by rw [hz1]; exact MDp.none) (by rw [hz1]; exact LQp.none) (by rw [hz1]; exact LWp.none) (Nat.lt_succ_self _)

set_option maxHeartbeats 4000000 in
set_option maxRecDepth 20000 in
theorem m_X8_apart {K : Option xV → xW → xM → Prop} {μ : xM} (hB0 : BI μ) (t : Int) (ht : 0 ≤ t ∧ t ≤ 7) (u : Int) (hu : 0 ≤ u ∧ u ≤ 7) (hK : ∀ r μ', BI μ' → Fr AF μ μ' → MD μ' → r = μ' 129 0 → MQx t u μ μ' → 0 ≤ r ∧ r ≤ 180 → K (some (xI r)) WW μ') : xMet yX8_apart cX8_apart 3 (some .int) 4 96 0 0 [xR 120, xI t, xI u] WW μ K := by
  refine xMet.go RX8 "apart" rfl rfl (by decide) [some (xR 120), some (xI t), some (xI u)] (Nat.le_of_ble_eq_true rfl) rfl (fun X hL => ?_)
  have hB := hB0
  have hF : Fr AF μ μ := Fr.rf
  refine r_aload_n hL (x := 120) dX8_apart_0 rfl ?_
  refine r_iload_n hL (x := t) dX8_apart_1 rfl ?_
  refine r_iload_n hL (x := u) dX8_apart_2 rfl ?_
  refine r_callV hL (st := []) (av := [xI t, xI u]) (k := 120) (m_X8_takes (μ := μ) hB t (by omega) u (by omega) (fun μ3c hB3c hG3 hMT3 => ⟨rfl, ?_⟩)) ce_yX8_takes im_yX8_takes se_yX8_takes ml_X8_103 xcl8 (by decide) s_120 dX8_apart_3 rfl (Nat.le_of_ble_eq_true rfl) ⟨Nat.le_of_ble_eq_true rfl, Nat.le_of_ble_eq_true rfl⟩ ⟨Nat.le_of_ble_eq_true rfl, Nat.le_of_ble_eq_true rfl⟩
  show X 0 0 WW μ3c 6 [some (xR 120), some (xI t), some (xI u)] []
  have hF3c : Fr AF μ μ3c := hF.trans hG3
  refine r_aload_n hL (x := 120) dX8_apart_6 rfl ?_
  refine r_callV hL (st := []) (av := []) (k := 120) (m_X8_linesUp (μ := μ3c) hB3c  (fun z7 μ7c hB7c hG7 hD7c heq7 hLQ7 hLW7 hc7 => ⟨rfl, ?_⟩)) ce_yX8_linesUp im_yX8_linesUp se_yX8_linesUp ml_X8_107 xcl8 (by decide) s_120 dX8_apart_7 rfl (Nat.le_of_ble_eq_true rfl) ⟨Nat.le_of_ble_eq_true rfl, Nat.le_of_ble_eq_true rfl⟩ ⟨Nat.le_of_ble_eq_true rfl, Nat.le_of_ble_eq_true rfl⟩
  show X 0 0 WW μ7c 10 [some (xR 120), some (xI t), some (xI u)] [xI z7]
  have hF7c : Fr AF μ μ7c := hF3c.trans (hG7.sub (fun k j h => by unfold LN at h; unfold AF; omega))
  exact r_iret hL dX8_apart_10 rfl (hK _ _ hB7c hF7c hD7c heq7 ⟨hMT3.fr (fun k q hk => hG7 k q (by unfold LN; omega)), fun k _ _ => hF7c 121 (2 + k) (by unfold AF; omega), by rw [mCo_ff (ν := μ7c) (μ := μ3c) (fun k q hk => hG7 k q (by unfold LN; omega)), hG7 120 11 (by unfold LN; omega), hG7 120 13 (by unfold LN; omega)]; exact hLQ7, by rw [mCo_ff (ν := μ7c) (μ := μ3c) (fun k q hk => hG7 k q (by unfold LN; omega)), hG7 120 11 (by unfold LN; omega), hG7 120 13 (by unfold LN; omega)]; exact hLW7⟩ (by omega))

set_option maxHeartbeats 4000000 in
set_option maxRecDepth 20000 in
theorem m_X8_isOfLeast {K : Option xV → xW → xM → Prop} {μ : xM} (hB0 : BI μ) (i : Int) (hi : 0 ≤ i ∧ i ≤ μ 120 11) (j : Int) (hj : 0 ≤ j ∧ j ≤ μ 120 13) (s : Int) (hs : 0 ≤ s ∧ s ≤ 3) (l : Int) (hl : xrg l) (hD : MD μ) (hK : ∀ r, (r = 1 ∧ mCo μ i j s ≤ 9 ∧ mCo μ i j s + μ 129 (11 * (i + xOF s) + (j + xOO s)) = l) ∨ (r = 0 ∧ ¬ (mCo μ i j s ≤ 9 ∧ mCo μ i j s + μ 129 (11 * (i + xOF s) + (j + xOO s)) = l)) → K (some (xI r)) WW μ) : xMet yX8_isOfLeast cX8_isOfLeast 6 (some .boolean) 3 67 0 0 [xR 120, xI i, xI j, xI s, xI l] WW μ K := by
  refine xMet.go RX8 "isOfLeast" rfl rfl (by decide) [some (xR 120), some (xI i), some (xI j), some (xI s), some (xI l), none] (Nat.le_of_ble_eq_true rfl) rfl (fun X hL => ?_)
  have hB := hB0
  have hm11 : 0 ≤ μ 120 11 ∧ μ 120 11 ≤ 10 := (show ((11 : Int) = 2 → 0 ≤ (μ 120 11) ∧ (μ 120 11) ≤ 16) ∧ ((11 : Int) = 6 → 0 ≤ (μ 120 11) ∧ (μ 120 11) ≤ 10) ∧ ((11 : Int) = 8 → 0 ≤ (μ 120 11) ∧ (μ 120 11) ≤ 20) ∧ ((11 : Int) = 9 → 0 ≤ (μ 120 11) ∧ (μ 120 11) ≤ 2147483647) ∧ ((11 : Int) = 11 → 0 ≤ (μ 120 11) ∧ (μ 120 11) ≤ 10) ∧ ((11 : Int) = 13 → 0 ≤ (μ 120 11) ∧ (μ 120 11) ≤ 10) ∧ ((11 : Int) = 20 → 0 ≤ (μ 120 11) ∧ (μ 120 11) ≤ 8) from hB 120 11).2.2.2.2.1 (by omega)
  have hm13 : 0 ≤ μ 120 13 ∧ μ 120 13 ≤ 10 := (show ((13 : Int) = 2 → 0 ≤ (μ 120 13) ∧ (μ 120 13) ≤ 16) ∧ ((13 : Int) = 6 → 0 ≤ (μ 120 13) ∧ (μ 120 13) ≤ 10) ∧ ((13 : Int) = 8 → 0 ≤ (μ 120 13) ∧ (μ 120 13) ≤ 20) ∧ ((13 : Int) = 9 → 0 ≤ (μ 120 13) ∧ (μ 120 13) ≤ 2147483647) ∧ ((13 : Int) = 11 → 0 ≤ (μ 120 13) ∧ (μ 120 13) ≤ 10) ∧ ((13 : Int) = 13 → 0 ≤ (μ 120 13) ∧ (μ 120 13) ≤ 10) ∧ ((13 : Int) = 20 → 0 ≤ (μ 120 13) ∧ (μ 120 13) ≤ 8) from hB 120 13).2.2.2.2.2.1 (by omega)
  refine r_aload_n hL (x := 120) dX8_isOfLeast_0 rfl ?_
  refine r_iload_n hL (x := i) dX8_isOfLeast_1 rfl ?_
  refine r_iload_n hL (x := j) dX8_isOfLeast_2 rfl ?_
  refine r_iload_n hL (x := s) dX8_isOfLeast_3 rfl ?_
  refine r_callV hL (st := []) (av := [xI i, xI j, xI s]) (k := 120) (m_X8_stepCost (μ := μ) hB i (by omega) j (by omega) s (by omega) (fun z4 hc4 hc4_1 hc4_2 hc4_3 => ⟨rfl, ?_⟩)) ce_yX8_stepCost im_yX8_stepCost se_yX8_stepCost ml_X8_89 xcl8 (by decide) s_120 dX8_isOfLeast_4 rfl (Nat.le_of_ble_eq_true rfl) ⟨Nat.le_of_ble_eq_true rfl, Nat.le_of_ble_eq_true rfl⟩ ⟨Nat.le_of_ble_eq_true rfl, Nat.le_of_ble_eq_true rfl⟩
  show X 0 0 WW μ 7 [some (xR 120), some (xI i), some (xI j), some (xI s), some (xI l), none] [xI z4]
  refine r_istore hL (lo' := [some (xR 120), some (xI i), some (xI j), some (xI s), some (xI l), some (xI z4)]) dX8_isOfLeast_7 (by decide) rfl ?_
  refine r_iload hL (x := z4) dX8_isOfLeast_9 rfl ?_
  refine r_ldc hL (n := 100000) dX8_isOfLeast_11 kc_X8_84 (by decide) ?_
  refine r_icmp_ge hL (tgt := 48) dX8_isOfLeast_13 (by decide) (by omega) (by omega) (fun c13 => ?_) (fun c13 => ?_)
  · skip
    refine r_iconst hL dX8_isOfLeast_48 ?_
    exact r_zret hL dX8_isOfLeast_49 rfl (by omega) (hK _ (by first | (rw [← hc4, ← hc24, ← hc30, ← hc34, ← hz37]; omega) | (rw [← hc4]; omega)))
  · skip
    refine r_iload hL (x := z4) dX8_isOfLeast_16 rfl ?_
    refine r_aload_n hL (x := 120) dX8_isOfLeast_18 rfl ?_
    refine r_getr hL xcl8 14 (by decide) s_120 (by decide) fl_X8_35 (by decide) f_120_14 dX8_isOfLeast_19 ?_
    refine r_iload_n hL (x := i) dX8_isOfLeast_22 rfl ?_
    refine r_iload_n hL (x := s) dX8_isOfLeast_23 rfl ?_
    refine r_callS hL (st := [xI i, xR 129, xI z4]) (av := [xI s]) (m_X8_firstBy (μ := μ) s (by omega) (fun z24 hc24 hc24_1 => ⟨rfl, ?_⟩)) ce_yX8_firstBy sm_yX8_firstBy ml_X8_93 dX8_isOfLeast_24 rfl (Nat.le_of_ble_eq_true rfl) ⟨Nat.le_of_ble_eq_true rfl, Nat.le_of_ble_eq_true rfl⟩ ⟨Nat.le_of_ble_eq_true rfl, Nat.le_of_ble_eq_true rfl⟩
    show X 0 0 WW μ 27 [some (xR 120), some (xI i), some (xI j), some (xI s), some (xI l), some (xI z4)] [xI z24, xI i, xR 129, xI z4]
    refine r_iadd hL dX8_isOfLeast_27 ?_
    refine r_iload_n hL (x := j) dX8_isOfLeast_28 rfl ?_
    refine r_iload_n hL (x := s) dX8_isOfLeast_29 rfl ?_
    refine r_callS hL (st := [xI j, xI (i + z24), xR 129, xI z4]) (av := [xI s]) (m_X8_otherBy (μ := μ) s (by omega) (fun z30 hc30 hc30_1 => ⟨rfl, ?_⟩)) ce_yX8_otherBy sm_yX8_otherBy ml_X8_97 dX8_isOfLeast_30 rfl (Nat.le_of_ble_eq_true rfl) ⟨Nat.le_of_ble_eq_true rfl, Nat.le_of_ble_eq_true rfl⟩ ⟨Nat.le_of_ble_eq_true rfl, Nat.le_of_ble_eq_true rfl⟩
    show X 0 0 WW μ 33 [some (xR 120), some (xI i), some (xI j), some (xI s), some (xI l), some (xI z4)] [xI z30, xI j, xI (i + z24), xR 129, xI z4]
    refine r_iadd hL dX8_isOfLeast_33 ?_
    refine r_callS hL (st := [xR 129, xI z4]) (av := [xI (i + z24), xI (j + z30)]) (m_X8_cellOf (μ := μ) (i + z24) (j + z30) (fun z34 hc34 => ⟨rfl, ?_⟩)) ce_yX8_cellOf sm_yX8_cellOf ml_X8_100 dX8_isOfLeast_34 rfl (Nat.le_of_ble_eq_true rfl) ⟨Nat.le_of_ble_eq_true rfl, Nat.le_of_ble_eq_true rfl⟩ ⟨Nat.le_of_ble_eq_true rfl, Nat.le_of_ble_eq_true rfl⟩
    show X 0 0 WW μ 37 [some (xR 120), some (xI i), some (xI j), some (xI s), some (xI l), some (xI z4)] [xI z34, xR 129, xI z4]
    refine r_iald hL dX8_isOfLeast_37 (by decide) s_129 (by decide) (by omega) (by omega) (fun hr37 => ?_)
    obtain ⟨z37, hz37⟩ : ∃ z, z = μ 129 z34 := ⟨_, rfl⟩
    rw [← hz37] at hr37 ⊢
    have hnx := (hD.at (a := i + z24) (b := j + z30) (by omega) (by omega) (by omega) (by omega)).1
    have hn37 : 0 ≤ z37 ∧ z37 ≤ 180 := by rw [hz37, hc34]; omega
    refine r_iadd hL dX8_isOfLeast_38 ?_
    refine r_iload hL (x := l) dX8_isOfLeast_39 rfl ?_
    refine r_icmp_ne hL (tgt := 48) dX8_isOfLeast_41 (by decide) (by omega) (by omega) (fun c41 => ?_) (fun c41 => ?_)
    · skip
      refine r_iconst hL dX8_isOfLeast_48 ?_
      exact r_zret hL dX8_isOfLeast_49 rfl (by omega) (hK _ (by first | (rw [← hc4, ← hc24, ← hc30, ← hc34, ← hz37]; omega) | (rw [← hc4]; omega)))
    · skip
      refine r_iconst hL dX8_isOfLeast_44 ?_
      refine r_goto hL (tgt := 49) dX8_isOfLeast_45 (by decide) ?_
      exact r_zret hL dX8_isOfLeast_49 rfl (by omega) (hK _ (by first | (rw [← hc4, ← hc24, ← hc30, ← hc34, ← hz37]; omega) | (rw [← hc4]; omega)))
