set_option maxHeartbeats 4000000 in
set_option maxRecDepth 20000 in
theorem m_X7_isTale {K : Option xV → xW → xM → Prop} {μ : xM} (hB0 : BI μ) (t : Int) (ht : xrg t) (hK : ∀ r, (0 ≤ t ∧ t < μ 1 4 ∧ t ≤ 7 ∧ r = 1) ∨ (¬ (0 ≤ t ∧ t < μ 1 4) ∧ r = 0) → K (some (xI r)) WW μ) : xMet yX7_isTale cX7_isTale 2 (some .boolean) 0 0 0 0 [xR 0, xI t] WW μ K := by
  refine xMet.go RX7 "isTale" rfl rfl (by decide) [some (xR 0), some (xI t)] (Nat.le_of_ble_eq_true rfl) rfl (fun X hL => ?_)
  have hB := hB0
  refine r_iload_n hL (x := t) dX7_isTale_0 rfl ?_
  refine r_if_lt hL (tgt := 19) dX7_isTale_1 (by decide) (by omega) (fun c1 => ?_) (fun c1 => ?_)
  · skip
    refine r_iconst hL dX7_isTale_19 ?_
    exact r_zret hL dX7_isTale_20 rfl (by omega) (hK _ (by omega))
  · skip
    refine r_iload_n hL (x := t) dX7_isTale_4 rfl ?_
    refine r_aload_n hL (x := 0) dX7_isTale_5 rfl ?_
    refine r_getr hL xcl7 0 (by decide) s_0 (by decide) fl_X7_10 (by decide) f_0_0 dX7_isTale_6 ?_
    refine r_geti hL xcl5 4 (j' := 4) rfl (by decide) s_1 (by decide) fl_X7_80 (by decide) (by decide) dX7_isTale_9 (fun hr9 => ?_)
    obtain ⟨z9, hz9⟩ : ∃ z, z = μ 1 4 := ⟨_, rfl⟩
    rw [← hz9] at hr9 ⊢
    have hb9 : ((4 : Int) = 4 → 0 ≤ (μ 1 4) ∧ (μ 1 4) ≤ 8) ∧ ((4 : Int) = 5 → 0 ≤ (μ 1 4) ∧ (μ 1 4) ≤ 2) := hB 1 4
    refine r_icmp_ge hL (tgt := 19) dX7_isTale_12 (by decide) (by omega) (by omega) (fun c12 => ?_) (fun c12 => ?_)
    · skip
      refine r_iconst hL dX7_isTale_19 ?_
      exact r_zret hL dX7_isTale_20 rfl (by omega) (hK _ (by omega))
    · skip
      refine r_iconst hL dX7_isTale_15 ?_
      refine r_goto hL (tgt := 20) dX7_isTale_16 (by decide) ?_
      exact r_zret hL dX7_isTale_20 rfl (by omega) (hK _ (by omega))

set_option maxHeartbeats 4000000 in
set_option maxRecDepth 20000 in
theorem m_X7_allTales {K : Option xV → xW → xM → Prop} {μ : xM} (hB0 : BI μ)  (hK : ∀ r, xrg r → K (some (xI r)) WW μ) : xMet yX7_allTales cX7_allTales 1 (some .int) 0 0 0 0 [xR 0] WW μ K := by
  refine xMet.go RX7 "allTales" rfl rfl (by decide) [some (xR 0)] (Nat.le_of_ble_eq_true rfl) rfl (fun X hL => ?_)
  have hB := hB0
  refine r_iconst hL dX7_allTales_0 ?_
  refine r_aload_n hL (x := 0) dX7_allTales_1 rfl ?_
  refine r_getr hL xcl7 0 (by decide) s_0 (by decide) fl_X7_10 (by decide) f_0_0 dX7_allTales_2 ?_
  refine r_geti hL xcl5 4 (j' := 4) rfl (by decide) s_1 (by decide) fl_X7_80 (by decide) (by decide) dX7_allTales_5 (fun hr5 => ?_)
  obtain ⟨z5, hz5⟩ : ∃ z, z = μ 1 4 := ⟨_, rfl⟩
  rw [← hz5] at hr5 ⊢
  have hb5 : ((4 : Int) = 4 → 0 ≤ (μ 1 4) ∧ (μ 1 4) ≤ 8) ∧ ((4 : Int) = 5 → 0 ≤ (μ 1 4) ∧ (μ 1 4) ≤ 2) := hB 1 4
  refine r_ishl hL dX7_allTales_8 ?_
  obtain ⟨z8, hz8⟩ : ∃ z, z = xshl 1 z5 := ⟨_, rfl⟩
  rw [← hz8]
  have hr8 : xrg z8 := by rw [hz8]; exact xshl_rg _ _
  refine r_iconst hL dX7_allTales_9 ?_
  refine r_isub hL dX7_allTales_10 ?_
  refine r_norm hL (fun y10 hy10 hyr10 => ?_)
  exact r_iret hL dX7_allTales_11 rfl (hK _ (by omega))

set_option maxHeartbeats 4000000 in
set_option maxRecDepth 20000 in
theorem m_X7_areTales {K : Option xV → xW → xM → Prop} {μ : xM} (hB0 : BI μ) (t : Int) (ht : xrg t) (hK : ∀ r, r = 0 ∨ r = 1 → K (some (xI r)) WW μ) : xMet yX7_areTales cX7_areTales 2 (some .boolean) 1 20 0 0 [xR 0, xI t] WW μ K := by
  refine xMet.go RX7 "areTales" rfl rfl (by decide) [some (xR 0), some (xI t)] (Nat.le_of_ble_eq_true rfl) rfl (fun X hL => ?_)
  have hB := hB0
  refine r_iload_n hL (x := t) dX7_areTales_0 rfl ?_
  refine r_aload_n hL (x := 0) dX7_areTales_1 rfl ?_
  refine r_callV hL (st := [xI t]) (av := []) (k := 0) (m_X7_allTales (μ := μ) hB  (fun z2 hc2 => ⟨rfl, ?_⟩)) ce_yX7_allTales im_yX7_allTales se_yX7_allTales ml_X7_101 xcl7 (by decide) s_0 dX7_areTales_2 rfl (Nat.le_of_ble_eq_true rfl) ⟨Nat.le_of_ble_eq_true rfl, Nat.le_of_ble_eq_true rfl⟩ ⟨Nat.le_of_ble_eq_true rfl, Nat.le_of_ble_eq_true rfl⟩
  show X 0 0 WW μ 5 [some (xR 0), some (xI t)] [xI z2, xI t]
  refine r_iconst hL dX7_areTales_5 ?_
  refine r_ixor hL dX7_areTales_6 ?_
  obtain ⟨z6, hz6⟩ : ∃ z, z = xxor z2 (-1) := ⟨_, rfl⟩
  rw [← hz6]
  have hr6 : xrg z6 := by rw [hz6]; exact xxor_rg _ _
  refine r_iand hL dX7_areTales_7 ?_
  obtain ⟨z7, hz7⟩ : ∃ z, z = xand t z6 := ⟨_, rfl⟩
  rw [← hz7]
  have hr7 : xrg z7 := by rw [hz7]; exact xand_rg _ _
  refine r_if_ne hL (tgt := 15) dX7_areTales_8 (by decide) (by omega) (fun c8 => ?_) (fun c8 => ?_)
  · skip
    refine r_iconst hL dX7_areTales_15 ?_
    exact r_zret hL dX7_areTales_16 rfl (by omega) (hK _ (by omega))
  · skip
    refine r_iconst hL dX7_areTales_11 ?_
    refine r_goto hL (tgt := 16) dX7_areTales_12 (by decide) ?_
    exact r_zret hL dX7_areTales_16 rfl (by omega) (hK _ (by omega))

set_option maxHeartbeats 4000000 in
set_option maxRecDepth 20000 in
theorem m_X7_nodeCount {K : Option xV → xW → xM → Prop} {μ : xM} (hB0 : BI μ)  (hK : ∀ r, 0 ≤ r ∧ r ≤ 7 → K (some (xI r)) WW μ) : xMet yX7_nodeCount cX7_nodeCount 1 (some .int) 0 0 0 0 [xR 0] WW μ K := by
  refine xMet.go RX7 "nodeCount" rfl rfl (by decide) [some (xR 0)] (Nat.le_of_ble_eq_true rfl) rfl (fun X hL => ?_)
  have hB := hB0
  refine r_aload_n hL (x := 0) dX7_nodeCount_0 rfl ?_
  refine r_getr hL xcl7 0 (by decide) s_0 (by decide) fl_X7_10 (by decide) f_0_0 dX7_nodeCount_1 ?_
  refine r_geti hL xcl5 4 (j' := 4) rfl (by decide) s_1 (by decide) fl_X7_80 (by decide) (by decide) dX7_nodeCount_4 (fun hr4 => ?_)
  obtain ⟨z4, hz4⟩ : ∃ z, z = μ 1 4 := ⟨_, rfl⟩
  rw [← hz4] at hr4 ⊢
  have hb4 : ((4 : Int) = 4 → 0 ≤ (μ 1 4) ∧ (μ 1 4) ≤ 8) ∧ ((4 : Int) = 5 → 0 ≤ (μ 1 4) ∧ (μ 1 4) ≤ 2) := hB 1 4
  refine r_if_le hL (tgt := 22) dX7_nodeCount_7 (by decide) (by omega) (fun c7 => ?_) (fun c7 => ?_)
  · skip
    refine r_iconst hL dX7_nodeCount_22 ?_
    exact r_iret hL dX7_nodeCount_23 rfl (hK _ (by omega))
  · skip
    refine r_aload_n hL (x := 0) dX7_nodeCount_10 rfl ?_
    refine r_getr hL xcl7 0 (by decide) s_0 (by decide) fl_X7_10 (by decide) f_0_0 dX7_nodeCount_11 ?_
    refine r_geti hL xcl5 4 (j' := 4) rfl (by decide) s_1 (by decide) fl_X7_80 (by decide) (by decide) dX7_nodeCount_14 (fun hr14 => ?_)
    obtain ⟨z14, hz14⟩ : ∃ z, z = μ 1 4 := ⟨_, rfl⟩
    rw [← hz14] at hr14 ⊢
    have hb14 : ((4 : Int) = 4 → 0 ≤ (μ 1 4) ∧ (μ 1 4) ≤ 8) ∧ ((4 : Int) = 5 → 0 ≤ (μ 1 4) ∧ (μ 1 4) ≤ 2) := hB 1 4
    refine r_iconst hL dX7_nodeCount_17 ?_
    refine r_isub hL dX7_nodeCount_18 ?_
    refine r_goto hL (tgt := 23) dX7_nodeCount_19 (by decide) ?_
    exact r_iret hL dX7_nodeCount_23 rfl (hK _ (by omega))

set_option maxHeartbeats 4000000 in
set_option maxRecDepth 20000 in
theorem m_X7_beginDeed {K : Option xV → xW → xM → Prop} {μ : xM} (hB0 : BI μ)  (hK : ∀ μ', BI μ' → K none WW μ') : xMet yX7_beginDeed cX7_beginDeed 1 none 3 68 0 0 [xR 0] WW μ K := by
  refine xMet.go RX7 "beginDeed" rfl rfl (by decide) [some (xR 0)] (Nat.le_of_ble_eq_true rfl) rfl (fun X hL => ?_)
  have hB := hB0
  refine r_aload_n hL (x := 0) dX7_beginDeed_0 rfl ?_
  refine r_getr hL xcl7 1 (by decide) s_0 (by decide) fl_X7_19 (by decide) f_0_1 dX7_beginDeed_1 ?_
  refine r_aload_n hL (x := 0) dX7_beginDeed_4 rfl ?_
  refine r_getr hL xcl7 0 (by decide) s_0 (by decide) fl_X7_10 (by decide) f_0_0 dX7_beginDeed_5 ?_
  refine r_callV hL (st := []) (av := [xR 1]) (k := 6) (m_X1_remember (μ := μ) hB  (fun μ8c hB8c => ⟨rfl, ?_⟩)) ce_yX1_remember im_yX1_remember se_yX1_remember ml_X7_230 xcl1 (by decide) s_6 dX7_beginDeed_8 rfl (Nat.le_of_ble_eq_true rfl) ⟨Nat.le_of_ble_eq_true rfl, Nat.le_of_ble_eq_true rfl⟩ ⟨Nat.le_of_ble_eq_true rfl, Nat.le_of_ble_eq_true rfl⟩
  show X 0 0 WW μ8c 11 [some (xR 0)] []
  refine r_aload_n hL (x := 0) dX7_beginDeed_11 rfl ?_
  refine r_iconst hL dX7_beginDeed_12 ?_
  refine r_putz hL xcl7 9 (j' := 9) rfl (by decide) s_0 (by decide) fl_X7_65 rfl rfl (by omega) dX7_beginDeed_13 (fun μ1 hm1 => ?_)
  have hB1 : BI μ1 := by rw [hm1]; exact hB8c.up (by show (9 : Int) = 7 → 0 ≤ 0 ∧ 0 ≤ 47244640255; omega)
  exact r_vret hL dX7_beginDeed_16 rfl (hK _ hB1)

set_option maxHeartbeats 4000000 in
set_option maxRecDepth 20000 in
theorem m_X7_measureAnew {K : Option xV → xW → xM → Prop} {μ : xM} (hB0 : BI μ)  (hK : ∀ μ', BI μ' → Fr RO μ μ' → K none WW μ') : xMet yX7_measureAnew cX7_measureAnew 1 none 5 128 0 0 [xR 0] WW μ K := by
  refine xMet.go RX7 "measureAnew" rfl rfl (by decide) [some (xR 0)] (Nat.le_of_ble_eq_true rfl) rfl (fun X hL => ?_)
  have hB := hB0
  have hF : Fr RO μ μ := Fr.rf
  refine r_aload_n hL (x := 0) dX7_measureAnew_0 rfl ?_
  refine r_geti hL xcl7 9 (j' := 9) rfl (by decide) s_0 (by decide) fl_X7_65 (by decide) (by decide) dX7_measureAnew_1 (fun hr1 => ?_)
  obtain ⟨z1, hz1⟩ : ∃ z, z = μ 0 9 := ⟨_, rfl⟩
  rw [← hz1] at hr1 ⊢
  have hb1 : (9 : Int) = 7 → 0 ≤ (μ 0 9) ∧ (μ 0 9) ≤ 47244640255 := hB 0 9
  refine r_if_eq hL (tgt := 8) dX7_measureAnew_4 (by decide) (by omega) (fun c4 => ?_) (fun c4 => ?_)
  · skip
    refine r_aload_n hL (x := 0) dX7_measureAnew_8 rfl ?_
    refine r_getr hL xcl7 4 (by decide) s_0 (by decide) fl_X7_40 (by decide) f_0_4 dX7_measureAnew_9 ?_
    refine r_aload_n hL (x := 0) dX7_measureAnew_12 rfl ?_
    refine r_getr hL xcl7 0 (by decide) s_0 (by decide) fl_X7_10 (by decide) f_0_0 dX7_measureAnew_13 ?_
    refine r_aload_n hL (x := 0) dX7_measureAnew_16 rfl ?_
    refine r_getr hL xcl7 3 (by decide) s_0 (by decide) fl_X7_33 (by decide) f_0_3 dX7_measureAnew_17 ?_
    refine r_callV hL (st := []) (av := [xR 1, xR 92]) (k := 100) (m_X2_measure (μ := μ) hB  (fun μ20c hB20c hG20 => ⟨rfl, ?_⟩)) ce_yX2_measure im_yX2_measure se_yX2_measure ml_X7_233 xcl2 (by decide) s_100 dX7_measureAnew_20 rfl (Nat.le_of_ble_eq_true rfl) ⟨Nat.le_of_ble_eq_true rfl, Nat.le_of_ble_eq_true rfl⟩ ⟨Nat.le_of_ble_eq_true rfl, Nat.le_of_ble_eq_true rfl⟩
    show X 0 0 WW μ20c 23 [some (xR 0)] []
    have hF20c : Fr RO μ μ20c := hF.trans hG20
    refine r_aload_n hL (x := 0) dX7_measureAnew_23 rfl ?_
    refine r_getr hL xcl7 5 (by decide) s_0 (by decide) fl_X7_47 (by decide) f_0_5 dX7_measureAnew_24 ?_
    refine r_aload_n hL (x := 0) dX7_measureAnew_27 rfl ?_
    refine r_getr hL xcl7 4 (by decide) s_0 (by decide) fl_X7_40 (by decide) f_0_4 dX7_measureAnew_28 ?_
    refine r_aload_n hL (x := 0) dX7_measureAnew_31 rfl ?_
    refine r_getr hL xcl7 0 (by decide) s_0 (by decide) fl_X7_10 (by decide) f_0_0 dX7_measureAnew_32 ?_
    refine r_geti hL xcl5 4 (j' := 4) rfl (by decide) s_1 (by decide) fl_X7_80 (by decide) (by decide) dX7_measureAnew_35 (fun hr35 => ?_)
    obtain ⟨z35, hz35⟩ : ∃ z, z = μ20c 1 4 := ⟨_, rfl⟩
    rw [← hz35] at hr35 ⊢
    have hb35 : ((4 : Int) = 4 → 0 ≤ (μ20c 1 4) ∧ (μ20c 1 4) ≤ 8) ∧ ((4 : Int) = 5 → 0 ≤ (μ20c 1 4) ∧ (μ20c 1 4) ≤ 2) := hB20c 1 4
    refine r_aload_n hL (x := 0) dX7_measureAnew_38 rfl ?_
    refine r_getr hL xcl7 0 (by decide) s_0 (by decide) fl_X7_10 (by decide) f_0_0 dX7_measureAnew_39 ?_
    refine r_geti hL xcl5 5 (j' := 5) rfl (by decide) s_1 (by decide) fl_X7_91 (by decide) (by decide) dX7_measureAnew_42 (fun hr42 => ?_)
    obtain ⟨z42, hz42⟩ : ∃ z, z = μ20c 1 5 := ⟨_, rfl⟩
    rw [← hz42] at hr42 ⊢
    have hb42 : ((5 : Int) = 4 → 0 ≤ (μ20c 1 5) ∧ (μ20c 1 5) ≤ 8) ∧ ((5 : Int) = 5 → 0 ≤ (μ20c 1 5) ∧ (μ20c 1 5) ≤ 2) := hB20c 1 5
    refine r_callV hL (st := []) (av := [xR 100, xI z35, xI z42]) (k := 102) (m_X6_grow (μ := μ20c) hB20c z35 (by omega) z42 (by omega) (fun μ45c hB45c hG45 => ⟨rfl, ?_⟩)) ce_yX6_grow im_yX6_grow se_yX6_grow ml_X7_237 xcl6 (by decide) s_102 dX7_measureAnew_45 rfl (Nat.le_of_ble_eq_true rfl) ⟨Nat.le_of_ble_eq_true rfl, Nat.le_of_ble_eq_true rfl⟩ ⟨Nat.le_of_ble_eq_true rfl, Nat.le_of_ble_eq_true rfl⟩
    show X 0 0 WW μ45c 48 [some (xR 0)] []
    have hF45c : Fr RO μ μ45c := hF20c.trans hG45
    refine r_aload_n hL (x := 0) dX7_measureAnew_48 rfl ?_
    refine r_iconst hL dX7_measureAnew_49 ?_
    refine r_putz hL xcl7 9 (j' := 9) rfl (by decide) s_0 (by decide) fl_X7_65 rfl rfl (by omega) dX7_measureAnew_50 (fun μ1 hm1 => ?_)
    have hB1 : BI μ1 := by rw [hm1]; exact hB45c.up (by show (9 : Int) = 7 → 0 ≤ 1 ∧ 1 ≤ 47244640255; omega)
    have hF1 : Fr RO μ μ1 := by rw [hm1]; exact hF45c.up (by unfold RO; omega)
    exact r_vret hL dX7_measureAnew_53 rfl (hK _ hB1 hF1)
  · skip
    exact r_vret hL dX7_measureAnew_7 rfl (hK _ hB hF)

set_option maxHeartbeats 4000000 in
set_option maxRecDepth 20000 in
theorem m_X7_likeTyped {K : Option xV → xW → xM → Prop} {μ : xM} (hB0 : BI μ)  (hK : ∀ r μ', BI μ' → Fr RO μ μ' → xrg r → K (some (xI r)) WW μ') : xMet yX7_likeTyped cX7_likeTyped 4 (some .int) 4 104 0 0 [xR 0] WW μ K := by
  refine xMet.go RX7 "likeTyped" rfl rfl (by decide) [some (xR 0), none, none, none] (Nat.le_of_ble_eq_true rfl) rfl (fun X hL => ?_)
  have hB := hB0
  have hF : Fr RO μ μ := Fr.rf
  refine r_aload_n hL (x := 0) dX7_likeTyped_0 rfl ?_
  refine r_getl hL xcl7 7 (j' := 7) rfl (by decide) s_0 (by decide) fl_X7_57 (by decide) dX7_likeTyped_1 (fun hr1 => ?_)
  obtain ⟨z1, hz1⟩ : ∃ z, z = μ 0 7 := ⟨_, rfl⟩
  rw [← hz1] at hr1 ⊢
  have hb1 : (7 : Int) = 7 → 0 ≤ (μ 0 7) ∧ (μ 0 7) ≤ 47244640255 := hB 0 7
  refine r_callS hL (st := []) (av := [xL z1]) (m_X7_lengthOf (μ := μ) z1 (by omega) (by omega) (fun z4 hz4 => ⟨rfl, ?_⟩)) ce_yX7_lengthOf sm_yX7_lengthOf ml_X7_71 dX7_likeTyped_4 rfl (Nat.le_of_ble_eq_true rfl) ⟨Nat.le_of_ble_eq_true rfl, Nat.le_of_ble_eq_true rfl⟩ ⟨Nat.le_of_ble_eq_true rfl, Nat.le_of_ble_eq_true rfl⟩
  show X 0 0 WW μ 7 [some (xR 0), none, none, none] [xI z4]
  refine r_if_ne hL (tgt := 12) dX7_likeTyped_7 (by decide) (by omega) (fun c7 => ?_) (fun c7 => ?_)
  · skip
    refine r_iconst hL dX7_likeTyped_12 ?_
    refine r_istore_n hL (lo' := [some (xR 0), some (xI (-1)), none, none]) dX7_likeTyped_13 (by decide) rfl ?_
    refine r_iconst hL dX7_likeTyped_14 ?_
    refine r_istore_n hL (lo' := [some (xR 0), some (xI (-1)), some (xI 0), none]) dX7_likeTyped_15 (by decide) rfl ?_
    refine r_iconst hL dX7_likeTyped_16 ?_
    refine r_istore_n hL (lo' := [some (xR 0), some (xI (-1)), some (xI 0), some (xI 0)]) dX7_likeTyped_17 (by decide) rfl ?_
    have lp18 : ∀ (n18 : Nat) (q : Int) (n : Int) (t : Int) (μ118 : xM), (BI μ118) → (Fr RO μ μ118) → (-1 ≤ q ∧ q ≤ 7) → (0 ≤ n ∧ n ≤ 180) → (0 ≤ t ∧ t ≤ 8) → ((8 - t).toNat) < n18 → X 0 0 WW μ118 18 [some (xR 0), some (xI q), some (xI n), some (xI t)] [] := by
      intro n18
      induction n18 with
      | zero => intro q n t μ118 hB118 hF118 h1 h2 h3 hn; exact absurd hn (Nat.not_lt_zero _)
      | succ n18 ih18 =>
        intro q n t μ118 hB118 hF118 h1 h2 h3 hn18
        refine r_iload_n hL (x := t) dX7_likeTyped_18 rfl ?_
        refine r_aload_n hL (x := 0) dX7_likeTyped_19 rfl ?_
        refine r_getr hL xcl7 0 (by decide) s_0 (by decide) fl_X7_10 (by decide) f_0_0 dX7_likeTyped_20 ?_
        refine r_geti hL xcl5 4 (j' := 4) rfl (by decide) s_1 (by decide) fl_X7_80 (by decide) (by decide) dX7_likeTyped_23 (fun hr23 => ?_)
        obtain ⟨z23, hz23⟩ : ∃ z, z = μ118 1 4 := ⟨_, rfl⟩
        rw [← hz23] at hr23 ⊢
        have hb23 : ((4 : Int) = 4 → 0 ≤ (μ118 1 4) ∧ (μ118 1 4) ≤ 8) ∧ ((4 : Int) = 5 → 0 ≤ (μ118 1 4) ∧ (μ118 1 4) ≤ 2) := hB118 1 4
        refine r_icmp_ge hL (tgt := 88) dX7_likeTyped_26 (by decide) (by omega) (by omega) (fun c26 => ?_) (fun c26 => ?_)
        · skip
          refine r_iload_n hL (x := q) dX7_likeTyped_88 rfl ?_
          exact r_iret hL dX7_likeTyped_89 rfl (hK _ _ hB118 hF118 (by omega))
        · skip
          refine r_aload_n hL (x := 0) dX7_likeTyped_29 rfl ?_
          refine r_getr hL xcl7 3 (by decide) s_0 (by decide) fl_X7_33 (by decide) f_0_3 dX7_likeTyped_30 ?_
          refine r_aload_n hL (x := 0) dX7_likeTyped_33 rfl ?_
          refine r_getl hL xcl7 7 (j' := 7) rfl (by decide) s_0 (by decide) fl_X7_57 (by decide) dX7_likeTyped_34 (fun hr34 => ?_)
          obtain ⟨z34, hz34⟩ : ∃ z, z = μ118 0 7 := ⟨_, rfl⟩
          rw [← hz34] at hr34 ⊢
          have hb34 : (7 : Int) = 7 → 0 ≤ (μ118 0 7) ∧ (μ118 0 7) ≤ 47244640255 := hB118 0 7
          refine r_aload_n hL (x := 0) dX7_likeTyped_37 rfl ?_
          refine r_getr hL xcl7 0 (by decide) s_0 (by decide) fl_X7_10 (by decide) f_0_0 dX7_likeTyped_38 ?_
          refine r_getr hL xcl5 0 (by decide) s_1 (by decide) fl_X7_124 (by decide) f_1_0 dX7_likeTyped_41 ?_
          refine r_iload_n hL (x := t) dX7_likeTyped_44 rfl ?_
          refine r_lald hL dX7_likeTyped_45 (by decide) s_2 (by decide) (by omega) (by omega) (fun hr45 => ?_)
          obtain ⟨z45, hz45⟩ : ∃ z, z = μ118 2 t := ⟨_, rfl⟩
          rw [← hz45] at hr45 ⊢
          have hb45 : 0 ≤ (μ118 2 t) ∧ (μ118 2 t) ≤ 47244640255 := hB118 2 t
          refine r_aload_n hL (x := 0) dX7_likeTyped_46 rfl ?_
          refine r_getr hL xcl7 0 (by decide) s_0 (by decide) fl_X7_10 (by decide) f_0_0 dX7_likeTyped_47 ?_
          refine r_getr hL xcl5 2 (by decide) s_1 (by decide) fl_X7_146 (by decide) f_1_2 dX7_likeTyped_50 ?_
          refine r_callV hL (st := []) (av := [xL z34, xL z45, xR 4]) (k := 92) (m_X4_lineUp (μ := μ118) hB118 z34 (by omega) z45 (by omega) (fun μ53c hB53c hG53 hU53c => ⟨rfl, ?_⟩)) ce_yX4_lineUp im_yX4_lineUp se_yX4_lineUp ml_X7_149 xcl4 (by decide) s_92 dX7_likeTyped_53 rfl (Nat.le_of_ble_eq_true rfl) ⟨Nat.le_of_ble_eq_true rfl, Nat.le_of_ble_eq_true rfl⟩ ⟨Nat.le_of_ble_eq_true rfl, Nat.le_of_ble_eq_true rfl⟩
          show X 0 0 WW μ53c 56 [some (xR 0), some (xI q), some (xI n), some (xI t)] []
          have hF53c : Fr RO μ μ53c := hF118.trans hG53
          refine r_iload_n hL (x := q) dX7_likeTyped_56 rfl ?_
          refine r_iconst hL dX7_likeTyped_57 ?_
          refine r_icmp_eq hL (tgt := 72) dX7_likeTyped_58 (by decide) (by omega) (by omega) (fun c58 => ?_) (fun c58 => ?_)
          · skip
            refine r_iload_n hL (x := t) dX7_likeTyped_72 rfl ?_
            refine r_istore_n hL (lo' := [some (xR 0), some (xI t), some (xI n), some (xI t)]) dX7_likeTyped_73 (by decide) rfl ?_
            refine r_aload_n hL (x := 0) dX7_likeTyped_74 rfl ?_
            refine r_getr hL xcl7 3 (by decide) s_0 (by decide) fl_X7_33 (by decide) f_0_3 dX7_likeTyped_75 ?_
            refine r_callV hL (st := []) (av := []) (k := 92) (m_X4_apart (μ := μ53c) hB53c hU53c (fun z78 hc78 => ⟨rfl, ?_⟩)) ce_yX4_apart im_yX4_apart se_yX4_apart ml_X7_153 xcl4 (by decide) s_92 dX7_likeTyped_78 rfl (Nat.le_of_ble_eq_true rfl) ⟨Nat.le_of_ble_eq_true rfl, Nat.le_of_ble_eq_true rfl⟩ ⟨Nat.le_of_ble_eq_true rfl, Nat.le_of_ble_eq_true rfl⟩
            show X 0 0 WW μ53c 81 [some (xR 0), some (xI t), some (xI n), some (xI t)] [xI z78]
            refine r_istore_n hL (lo' := [some (xR 0), some (xI t), some (xI z78), some (xI t)]) dX7_likeTyped_81 (by decide) rfl ?_
            refine r_iinc hL (x := t) (lo' := [some (xR 0), some (xI t), some (xI z78), some (xI (t + 1))]) dX7_likeTyped_82 (by decide) rfl rfl ?_
            refine r_goto hL (tgt := 18) dX7_likeTyped_85 (by decide) ?_
            exact ih18 t z78 (t + 1) μ53c hB53c hF53c (by omega) (by omega) (by omega) (by omega)
          · skip
            refine r_aload_n hL (x := 0) dX7_likeTyped_61 rfl ?_
            refine r_getr hL xcl7 3 (by decide) s_0 (by decide) fl_X7_33 (by decide) f_0_3 dX7_likeTyped_62 ?_
            refine r_callV hL (st := []) (av := []) (k := 92) (m_X4_apart (μ := μ53c) hB53c hU53c (fun z65 hc65 => ⟨rfl, ?_⟩)) ce_yX4_apart im_yX4_apart se_yX4_apart ml_X7_153 xcl4 (by decide) s_92 dX7_likeTyped_65 rfl (Nat.le_of_ble_eq_true rfl) ⟨Nat.le_of_ble_eq_true rfl, Nat.le_of_ble_eq_true rfl⟩ ⟨Nat.le_of_ble_eq_true rfl, Nat.le_of_ble_eq_true rfl⟩
            show X 0 0 WW μ53c 68 [some (xR 0), some (xI q), some (xI n), some (xI t)] [xI z65]
            refine r_iload_n hL (x := n) dX7_likeTyped_68 rfl ?_
            refine r_icmp_ge hL (tgt := 82) dX7_likeTyped_69 (by decide) (by omega) (by omega) (fun c69 => ?_) (fun c69 => ?_)
            · skip
              refine r_iinc hL (x := t) (lo' := [some (xR 0), some (xI q), some (xI n), some (xI (t + 1))]) dX7_likeTyped_82 (by decide) rfl rfl ?_
              refine r_goto hL (tgt := 18) dX7_likeTyped_85 (by decide) ?_
              exact ih18 q n (t + 1) μ53c hB53c hF53c (by omega) (by omega) (by omega) (by omega)
            · skip
              refine r_iload_n hL (x := t) dX7_likeTyped_72 rfl ?_
              refine r_istore_n hL (lo' := [some (xR 0), some (xI t), some (xI n), some (xI t)]) dX7_likeTyped_73 (by decide) rfl ?_
              refine r_aload_n hL (x := 0) dX7_likeTyped_74 rfl ?_
              refine r_getr hL xcl7 3 (by decide) s_0 (by decide) fl_X7_33 (by decide) f_0_3 dX7_likeTyped_75 ?_
              refine r_callV hL (st := []) (av := []) (k := 92) (m_X4_apart (μ := μ53c) hB53c hU53c (fun z78 hc78 => ⟨rfl, ?_⟩)) ce_yX4_apart im_yX4_apart se_yX4_apart ml_X7_153 xcl4 (by decide) s_92 dX7_likeTyped_78 rfl (Nat.le_of_ble_eq_true rfl) ⟨Nat.le_of_ble_eq_true rfl, Nat.le_of_ble_eq_true rfl⟩ ⟨Nat.le_of_ble_eq_true rfl, Nat.le_of_ble_eq_true rfl⟩
              show X 0 0 WW μ53c 81 [some (xR 0), some (xI t), some (xI n), some (xI t)] [xI z78]
              refine r_istore_n hL (lo' := [some (xR 0), some (xI t), some (xI z78), some (xI t)]) dX7_likeTyped_81 (by decide) rfl ?_
              refine r_iinc hL (x := t) (lo' := [some (xR 0), some (xI t), some (xI z78), some (xI (t + 1))]) dX7_likeTyped_82 (by decide) rfl rfl ?_
              refine r_goto hL (tgt := 18) dX7_likeTyped_85 (by decide) ?_
              exact ih18 t z78 (t + 1) μ53c hB53c hF53c (by omega) (by omega) (by omega) (by omega)
    exact lp18 _ (-1) 0 0 μ hB hF (by omega) (by omega) (by omega) (Nat.lt_succ_self _)
  · skip
    refine r_iconst hL dX7_likeTyped_10 ?_
    exact r_iret hL dX7_likeTyped_11 rfl (hK _ _ hB hF (by omega))

set_option maxHeartbeats 4000000 in
set_option maxRecDepth 20000 in
theorem m_X7_draw {K : Option xV → xW → xM → Prop} {μ : xM} (hB0 : BI μ) (n : Int) (hn : 1 ≤ n ∧ n ≤ 1000) (hK : ∀ r μ', BI μ' → 0 ≤ r ∧ r < n → K (some (xI r)) WW μ') : xMet yX7_draw cX7_draw 4 (some .int) 0 0 0 0 [xR 0, xI n] WW μ K := by
  refine xMet.go RX7 "draw" rfl rfl (by decide) [some (xR 0), some (xI n), none, none] (Nat.le_of_ble_eq_true rfl) rfl (fun X hL => ?_)
  have hB := hB0
  refine r_aload_n hL (x := 0) dX7_draw_0 rfl ?_
  refine r_geti hL xcl7 8 (j' := 8) rfl (by decide) s_0 (by decide) fl_X7_61 (by decide) (by decide) dX7_draw_1 (fun hr1 => ?_)
  obtain ⟨z1, hz1⟩ : ∃ z, z = μ 0 8 := ⟨_, rfl⟩
  rw [← hz1] at hr1 ⊢
  have hb1 : (8 : Int) = 7 → 0 ≤ (μ 0 8) ∧ (μ 0 8) ≤ 47244640255 := hB 0 8
  refine r_i2l hL dX7_draw_4 (by omega) ?_
  refine r_ldc2 hL (n := 1103515245) dX7_draw_5 kl_X7_244 (by decide) ?_
  refine r_lmul hL dX7_draw_8 ?_
  refine r_ldc2 hL (n := 12345) dX7_draw_9 kl_X7_246 (by decide) ?_
  refine r_ladd hL dX7_draw_12 ?_
  refine r_lstore_n hL (lo' := [some (xR 0), some (xI n), some (xL ((z1 * 1103515245) + 12345)), none]) dX7_draw_13 (by decide) rfl ?_
  refine r_aload_n hL (x := 0) dX7_draw_14 rfl ?_
  refine r_lload_n hL (x := (z1 * 1103515245) + 12345) dX7_draw_15 rfl ?_
  refine r_ldc2 hL (n := 2147483647) dX7_draw_16 kl_X7_248 (by decide) ?_
  refine r_land hL dX7_draw_19 ?_
  obtain ⟨z19, hz19⟩ : ∃ z, z = xland ((z1 * 1103515245) + 12345) 2147483647 := ⟨_, rfl⟩
  rw [← hz19]
  have hr19 : xrl z19 := by rw [hz19]; exact xland_rg _ _
  have hl19 : 0 ≤ z19 ∧ z19 ≤ 2147483647 := by rw [hz19]; exact xland_31 _
  refine r_l2i hL dX7_draw_20 ?_
  refine r_puti hL xcl7 8 (j' := 8) rfl (by decide) s_0 (by decide) fl_X7_61 rfl rfl (by omega) dX7_draw_21 (fun μ1 hm1 => ?_)
  have hB1 : BI μ1 := by rw [hm1]; exact hB.up (by show (8 : Int) = 7 → 0 ≤ z19 ∧ z19 ≤ 47244640255; omega)
  have hk1_0_8 : μ1 0 8 = z19 := by rw [hm1]; exact xup_s _ _ _ _
  refine r_iload_n hL (x := n) dX7_draw_24 rfl ?_
  refine r_if_le hL (tgt := 40) dX7_draw_25 (by decide) (by omega) (fun c25 => ?_) (fun c25 => ?_)
  · skip
    refine r_iconst hL dX7_draw_40 ?_
    exact r_iret hL dX7_draw_41 rfl (hK _ _ hB1 (by omega))
  · skip
    refine r_aload_n hL (x := 0) dX7_draw_28 rfl ?_
    refine r_geti hL xcl7 8 (j' := 8) rfl (by decide) s_0 (by decide) fl_X7_61 (by decide) (by decide) dX7_draw_29 (fun hr29 => ?_)
    obtain ⟨z29, hz29⟩ : ∃ z, z = μ1 0 8 := ⟨_, rfl⟩
    rw [← hz29] at hr29 ⊢
    have hb29 : (8 : Int) = 7 → 0 ≤ (μ1 0 8) ∧ (μ1 0 8) ≤ 47244640255 := hB1 0 8
    refine r_ldc hL (n := 65536) dX7_draw_32 kc_X7_250 (by decide) ?_
    refine r_idiv hL dX7_draw_34 (by omega) (by omega) ?_
    obtain ⟨z34, hz34⟩ : ∃ z, z = xdiv z29 65536 := ⟨_, rfl⟩
    rw [← hz34]
    have hr34 : xrg z34 := by rw [hz34]; exact xdiv_rg _ _
    have hq34 := xdiv_nn (x := z29) (y := 65536) (by omega) (by omega) (by omega) (by omega)
    rw [← hz34] at hq34
    refine r_iload_n hL (x := n) dX7_draw_35 rfl ?_
    refine r_irem hL dX7_draw_36 (by omega) (by omega) ?_
    obtain ⟨z36, hz36⟩ : ∃ z, z = xrem z34 n := ⟨_, rfl⟩
    rw [← hz36]
    have hr36 : xrg z36 := by rw [hz36]; exact xrem_rg _ _
    have hq36 := xrem_nn (x := z34) (y := n) (by omega) (by omega) (by omega) (by omega)
    rw [← hz36] at hq36
    have hm1 := Int.emod_nonneg z34 (show n ≠ 0 by omega)
    have hm2 := Int.emod_lt_of_pos z34 (show 0 < n by omega)
    refine r_goto hL (tgt := 41) dX7_draw_37 (by decide) ?_
    exact r_iret hL dX7_draw_41 rfl (hK _ _ hB1 (by omega))

set_option maxHeartbeats 4000000 in
set_option maxRecDepth 20000 in
theorem m_X7_addDrawn {K : Option xV → xW → xM → Prop} {μ : xM} (hB0 : BI μ)  (hK : ∀ μ', BI μ' → K none WW μ') : xMet yX7_addDrawn cX7_addDrawn 5 none 2 43 0 0 [xR 0] WW μ K := by
  refine xMet.go RX7 "addDrawn" rfl rfl (by decide) [some (xR 0), none, none, none, none] (Nat.le_of_ble_eq_true rfl) rfl (fun X hL => ?_)
  have hB := hB0
  refine r_aload_n hL (x := 0) dX7_addDrawn_0 rfl ?_
  refine r_bipush hL dX7_addDrawn_1 (by decide) ?_
  refine r_callV hL (st := []) (av := [xI 7]) (k := 0) (m_X7_draw (μ := μ) hB 7 (by omega) (fun z3 μ3c hB3c hc3 => ⟨rfl, ?_⟩)) ce_yX7_draw im_yX7_draw se_yX7_draw ml_X7_241 xcl7 (by decide) s_0 dX7_addDrawn_3 rfl (Nat.le_of_ble_eq_true rfl) ⟨Nat.le_of_ble_eq_true rfl, Nat.le_of_ble_eq_true rfl⟩ ⟨Nat.le_of_ble_eq_true rfl, Nat.le_of_ble_eq_true rfl⟩
  show X 0 0 WW μ3c 6 [some (xR 0), none, none, none, none] [xI z3]
  refine r_iconst hL dX7_addDrawn_6 ?_
  refine r_iadd hL dX7_addDrawn_7 ?_
  refine r_istore_n hL (lo' := [some (xR 0), some (xI (z3 + 2)), none, none, none]) dX7_addDrawn_8 (by decide) rfl ?_
  refine r_lconst hL (n := 0) dX7_addDrawn_9 rfl ?_
  refine r_lstore_n hL (lo' := [some (xR 0), some (xI (z3 + 2)), some (xL 0), none, none]) dX7_addDrawn_10 (by decide) rfl ?_
  refine r_iconst hL dX7_addDrawn_11 ?_
  refine r_istore hL (lo' := [some (xR 0), some (xI (z3 + 2)), some (xL 0), none, some (xI 0)]) dX7_addDrawn_12 (by decide) rfl ?_
  have lp14 : ∀ (n14 : Nat) (c : Int) (i : Int) (μ114 : xM), (BI μ114) → (0 ≤ c ∧ c ≤ 47244640255 ∧ c / 4294967296 = i) → (0 ≤ i ∧ i ≤ 8) → ((8 - i).toNat) < n14 → X 0 0 WW μ114 14 [some (xR 0), some (xI (z3 + 2)), some (xL c), none, some (xI i)] [] := by
    intro n14
    induction n14 with
    | zero => intro c i μ114 hB114 h1 h2 hn; exact absurd hn (Nat.not_lt_zero _)
    | succ n14 ih14 =>
      intro c i μ114 hB114 h1 h2 hn14
      refine r_iload hL (x := i) dX7_addDrawn_14 rfl ?_
      refine r_iload_n hL (x := z3 + 2) dX7_addDrawn_16 rfl ?_
      refine r_icmp_ge hL (tgt := 36) dX7_addDrawn_17 (by decide) (by omega) (by omega) (fun c17 => ?_) (fun c17 => ?_)
      · skip
        refine r_aload_n hL (x := 0) dX7_addDrawn_36 rfl ?_
        refine r_getr hL xcl7 0 (by decide) s_0 (by decide) fl_X7_10 (by decide) f_0_0 dX7_addDrawn_37 ?_
        refine r_lload_n hL (x := c) dX7_addDrawn_40 rfl ?_
        refine r_aload_n hL (x := 0) dX7_addDrawn_41 rfl ?_
        refine r_sipush hL dX7_addDrawn_42 (by decide) ?_
        refine r_callV hL (st := [xL c, xR 1]) (av := [xI 256]) (k := 0) (m_X7_draw (μ := μ114) hB114 256 (by omega) (fun z45 μ45c hB45c hc45 => ⟨rfl, ?_⟩)) ce_yX7_draw im_yX7_draw se_yX7_draw ml_X7_241 xcl7 (by decide) s_0 dX7_addDrawn_45 rfl (Nat.le_of_ble_eq_true rfl) ⟨Nat.le_of_ble_eq_true rfl, Nat.le_of_ble_eq_true rfl⟩ ⟨Nat.le_of_ble_eq_true rfl, Nat.le_of_ble_eq_true rfl⟩
        show X 0 0 WW μ45c 48 [some (xR 0), some (xI (z3 + 2)), some (xL c), none, some (xI i)] [xI z45, xL c, xR 1]
        refine r_callV hL (st := []) (av := [xL c, xI z45]) (k := 1) (m_X5_add (μ := μ45c) hB45c c (by omega) z45 (by omega) (fun μ48c hB48c => ⟨rfl, ?_⟩)) ce_yX5_add im_yX5_add se_yX5_add ml_X7_87 xcl5 (by decide) s_1 dX7_addDrawn_48 rfl (Nat.le_of_ble_eq_true rfl) ⟨Nat.le_of_ble_eq_true rfl, Nat.le_of_ble_eq_true rfl⟩ ⟨Nat.le_of_ble_eq_true rfl, Nat.le_of_ble_eq_true rfl⟩
        show X 0 0 WW μ48c 51 [some (xR 0), some (xI (z3 + 2)), some (xL c), none, some (xI i)] []
        exact r_vret hL dX7_addDrawn_51 rfl (hK _ hB48c)
      · skip
        refine r_lload_n hL (x := c) dX7_addDrawn_20 rfl ?_
        refine r_aload_n hL (x := 0) dX7_addDrawn_21 rfl ?_
        refine r_iconst hL dX7_addDrawn_22 ?_
        refine r_callV hL (st := [xL c]) (av := [xI 5]) (k := 0) (m_X7_draw (μ := μ114) hB114 5 (by omega) (fun z23 μ23c hB23c hc23 => ⟨rfl, ?_⟩)) ce_yX7_draw im_yX7_draw se_yX7_draw ml_X7_241 xcl7 (by decide) s_0 dX7_addDrawn_23 rfl (Nat.le_of_ble_eq_true rfl) ⟨Nat.le_of_ble_eq_true rfl, Nat.le_of_ble_eq_true rfl⟩ ⟨Nat.le_of_ble_eq_true rfl, Nat.le_of_ble_eq_true rfl⟩
        show X 0 0 WW μ23c 26 [some (xR 0), some (xI (z3 + 2)), some (xL c), none, some (xI i)] [xI z23, xL c]
        refine r_callS hL (st := []) (av := [xL c, xI z23]) (m_X7_longer (μ := μ23c) c z23 (by omega) (by omega) (by omega) (by omega) (fun z26 hc26 => ⟨rfl, ?_⟩)) ce_yX7_longer sm_yX7_longer ml_X7_76 dX7_addDrawn_26 rfl (Nat.le_of_ble_eq_true rfl) ⟨Nat.le_of_ble_eq_true rfl, Nat.le_of_ble_eq_true rfl⟩ ⟨Nat.le_of_ble_eq_true rfl, Nat.le_of_ble_eq_true rfl⟩
        show X 0 0 WW μ23c 29 [some (xR 0), some (xI (z3 + 2)), some (xL c), none, some (xI i)] [xL z26]
        refine r_lstore_n hL (lo' := [some (xR 0), some (xI (z3 + 2)), some (xL z26), none, some (xI i)]) dX7_addDrawn_29 (by decide) rfl ?_
        refine r_iinc hL (x := i) (lo' := [some (xR 0), some (xI (z3 + 2)), some (xL z26), none, some (xI (i + 1))]) dX7_addDrawn_30 (by decide) rfl rfl ?_
        refine r_goto hL (tgt := 14) dX7_addDrawn_33 (by decide) ?_
        exact ih14 z26 (i + 1) μ23c hB23c (by omega) (by omega) (by omega)
  exact lp14 _ 0 0 μ3c hB3c (by omega) (by omega) (Nat.lt_succ_self _)

set_option maxHeartbeats 4000000 in
set_option maxRecDepth 20000 in
theorem m_X7_feed {K : Option xV → xW → xM → Prop} {μ : xM} (hB0 : BI μ) (t : Int) (ht : xrg t) (hK : ∀ r μ', BI μ' → xrg r → K (some (xI r)) WW μ') : xMet yX7_feed cX7_feed 2 (some .int) 2 43 0 0 [xR 0, xI t] WW μ K := by
  refine xMet.go RX7 "feed" rfl rfl (by decide) [some (xR 0), some (xI t)] (Nat.le_of_ble_eq_true rfl) rfl (fun X hL => ?_)
  have hB := hB0
  refine r_iload_n hL (x := t) dX7_feed_0 rfl ?_
  refine r_bipush hL dX7_feed_1 (by decide) ?_
  refine r_icmp_lt hL (tgt := 12) dX7_feed_3 (by decide) (by omega) (by omega) (fun c3 => ?_) (fun c3 => ?_)
  · skip
    refine r_ldc hL (n := -1000000002) dX7_feed_12 kc_X7_70 (by decide) ?_
    exact r_iret hL dX7_feed_14 rfl (hK _ _ hB (by omega))
  · skip
    refine r_iload_n hL (x := t) dX7_feed_6 rfl ?_
    refine r_bipush hL dX7_feed_7 (by decide) ?_
    refine r_icmp_le hL (tgt := 15) dX7_feed_9 (by decide) (by omega) (by omega) (fun c9 => ?_) (fun c9 => ?_)
    · skip
      refine r_aload_n hL (x := 0) dX7_feed_15 rfl ?_
      refine r_getl hL xcl7 7 (j' := 7) rfl (by decide) s_0 (by decide) fl_X7_57 (by decide) dX7_feed_16 (fun hr16 => ?_)
      obtain ⟨z16, hz16⟩ : ∃ z, z = μ 0 7 := ⟨_, rfl⟩
      rw [← hz16] at hr16 ⊢
      have hb16 : (7 : Int) = 7 → 0 ≤ (μ 0 7) ∧ (μ 0 7) ≤ 47244640255 := hB 0 7
      refine r_callS hL (st := []) (av := [xL z16]) (m_X7_lengthOf (μ := μ) z16 (by omega) (by omega) (fun z19 hz19 => ⟨rfl, ?_⟩)) ce_yX7_lengthOf sm_yX7_lengthOf ml_X7_71 dX7_feed_19 rfl (Nat.le_of_ble_eq_true rfl) ⟨Nat.le_of_ble_eq_true rfl, Nat.le_of_ble_eq_true rfl⟩ ⟨Nat.le_of_ble_eq_true rfl, Nat.le_of_ble_eq_true rfl⟩
      show X 0 0 WW μ 22 [some (xR 0), some (xI t)] [xI z19]
      refine r_bipush hL dX7_feed_22 (by decide) ?_
      refine r_icmp_lt hL (tgt := 30) dX7_feed_24 (by decide) (by omega) (by omega) (fun c24 => ?_) (fun c24 => ?_)
      · skip
        refine r_aload_n hL (x := 0) dX7_feed_30 rfl ?_
        refine r_aload_n hL (x := 0) dX7_feed_31 rfl ?_
        refine r_getl hL xcl7 7 (j' := 7) rfl (by decide) s_0 (by decide) fl_X7_57 (by decide) dX7_feed_32 (fun hr32 => ?_)
        obtain ⟨z32, hz32⟩ : ∃ z, z = μ 0 7 := ⟨_, rfl⟩
        rw [← hz32] at hr32 ⊢
        have hb32 : (7 : Int) = 7 → 0 ≤ (μ 0 7) ∧ (μ 0 7) ≤ 47244640255 := hB 0 7
        refine r_iload_n hL (x := t) dX7_feed_35 rfl ?_
        refine r_bipush hL dX7_feed_36 (by decide) ?_
        refine r_isub hL dX7_feed_38 ?_
        refine r_callS hL (st := [xR 0]) (av := [xL z32, xI (t - 97)]) (m_X7_longer (μ := μ) z32 (t - 97) (by omega) (by omega) (by omega) (by omega) (fun z39 hc39 => ⟨rfl, ?_⟩)) ce_yX7_longer sm_yX7_longer ml_X7_76 dX7_feed_39 rfl (Nat.le_of_ble_eq_true rfl) ⟨Nat.le_of_ble_eq_true rfl, Nat.le_of_ble_eq_true rfl⟩ ⟨Nat.le_of_ble_eq_true rfl, Nat.le_of_ble_eq_true rfl⟩
        show X 0 0 WW μ 42 [some (xR 0), some (xI t)] [xL z39, xR 0]
        refine r_putl hL xcl7 7 (j' := 7) rfl (by decide) s_0 (by decide) fl_X7_57 rfl rfl (by omega) dX7_feed_42 (fun μ1 hm1 => ?_)
        have hB1 : BI μ1 := by rw [hm1]; exact hB.up (by show (7 : Int) = 7 → 0 ≤ z39 ∧ z39 ≤ 47244640255; omega)
        refine r_aload_n hL (x := 0) dX7_feed_45 rfl ?_
        refine r_getl hL xcl7 7 (j' := 7) rfl (by decide) s_0 (by decide) fl_X7_57 (by decide) dX7_feed_46 (fun hr46 => ?_)
        obtain ⟨z46, hz46⟩ : ∃ z, z = μ1 0 7 := ⟨_, rfl⟩
        rw [← hz46] at hr46 ⊢
        have hb46 : (7 : Int) = 7 → 0 ≤ (μ1 0 7) ∧ (μ1 0 7) ≤ 47244640255 := hB1 0 7
        refine r_callS hL (st := []) (av := [xL z46]) (m_X7_lengthOf (μ := μ1) z46 (by omega) (by omega) (fun z49 hz49 => ⟨rfl, ?_⟩)) ce_yX7_lengthOf sm_yX7_lengthOf ml_X7_71 dX7_feed_49 rfl (Nat.le_of_ble_eq_true rfl) ⟨Nat.le_of_ble_eq_true rfl, Nat.le_of_ble_eq_true rfl⟩ ⟨Nat.le_of_ble_eq_true rfl, Nat.le_of_ble_eq_true rfl⟩
        show X 0 0 WW μ1 52 [some (xR 0), some (xI t)] [xI z49]
        exact r_iret hL dX7_feed_52 rfl (hK _ _ hB1 (by omega))
      · skip
        refine r_ldc hL (n := -1000000004) dX7_feed_27 kc_X7_75 (by decide) ?_
        exact r_iret hL dX7_feed_29 rfl (hK _ _ hB (by omega))
    · skip
      refine r_ldc hL (n := -1000000002) dX7_feed_12 kc_X7_70 (by decide) ?_
      exact r_iret hL dX7_feed_14 rfl (hK _ _ hB (by omega))

set_option maxHeartbeats 4000000 in
set_option maxRecDepth 20000 in
theorem m_X7_tale {K : Option xV → xW → xM → Prop} {μ : xM} (hB0 : BI μ)  (hK : ∀ r μ', BI μ' → xrg r → K (some (xI r)) WW μ') : xMet yX7_tale cX7_tale 1 (some .int) 4 88 0 0 [xR 0] WW μ K := by
  refine xMet.go RX7 "tale" rfl rfl (by decide) [some (xR 0)] (Nat.le_of_ble_eq_true rfl) rfl (fun X hL => ?_)
  have hB := hB0
  refine r_aload_n hL (x := 0) dX7_tale_0 rfl ?_
  refine r_getr hL xcl7 0 (by decide) s_0 (by decide) fl_X7_10 (by decide) f_0_0 dX7_tale_1 ?_
  refine r_geti hL xcl5 4 (j' := 4) rfl (by decide) s_1 (by decide) fl_X7_80 (by decide) (by decide) dX7_tale_4 (fun hr4 => ?_)
  obtain ⟨z4, hz4⟩ : ∃ z, z = μ 1 4 := ⟨_, rfl⟩
  rw [← hz4] at hr4 ⊢
  have hb4 : ((4 : Int) = 4 → 0 ≤ (μ 1 4) ∧ (μ 1 4) ≤ 8) ∧ ((4 : Int) = 5 → 0 ≤ (μ 1 4) ∧ (μ 1 4) ≤ 2) := hB 1 4
  refine r_bipush hL dX7_tale_7 (by decide) ?_
  refine r_icmp_lt hL (tgt := 15) dX7_tale_9 (by decide) (by omega) (by omega) (fun c9 => ?_) (fun c9 => ?_)
  · skip
    refine r_aload_n hL (x := 0) dX7_tale_15 rfl ?_
    refine r_getl hL xcl7 7 (j' := 7) rfl (by decide) s_0 (by decide) fl_X7_57 (by decide) dX7_tale_16 (fun hr16 => ?_)
    obtain ⟨z16, hz16⟩ : ∃ z, z = μ 0 7 := ⟨_, rfl⟩
    rw [← hz16] at hr16 ⊢
    have hb16 : (7 : Int) = 7 → 0 ≤ (μ 0 7) ∧ (μ 0 7) ≤ 47244640255 := hB 0 7
    refine r_callS hL (st := []) (av := [xL z16]) (m_X7_lengthOf (μ := μ) z16 (by omega) (by omega) (fun z19 hz19 => ⟨rfl, ?_⟩)) ce_yX7_lengthOf sm_yX7_lengthOf ml_X7_71 dX7_tale_19 rfl (Nat.le_of_ble_eq_true rfl) ⟨Nat.le_of_ble_eq_true rfl, Nat.le_of_ble_eq_true rfl⟩ ⟨Nat.le_of_ble_eq_true rfl, Nat.le_of_ble_eq_true rfl⟩
    show X 0 0 WW μ 22 [some (xR 0)] [xI z19]
    refine r_if_ne hL (tgt := 28) dX7_tale_22 (by decide) (by omega) (fun c22 => ?_) (fun c22 => ?_)
    · skip
      refine r_aload_n hL (x := 0) dX7_tale_28 rfl ?_
      refine r_callV hL (st := []) (av := []) (k := 0) (m_X7_beginDeed (μ := μ) hB  (fun μ29c hB29c => ⟨rfl, ?_⟩)) ce_yX7_beginDeed im_yX7_beginDeed se_yX7_beginDeed ml_X7_84 xcl7 (by decide) s_0 dX7_tale_29 rfl (Nat.le_of_ble_eq_true rfl) ⟨Nat.le_of_ble_eq_true rfl, Nat.le_of_ble_eq_true rfl⟩ ⟨Nat.le_of_ble_eq_true rfl, Nat.le_of_ble_eq_true rfl⟩
      show X 0 0 WW μ29c 32 [some (xR 0)] []
      refine r_aload_n hL (x := 0) dX7_tale_32 rfl ?_
      refine r_getr hL xcl7 0 (by decide) s_0 (by decide) fl_X7_10 (by decide) f_0_0 dX7_tale_33 ?_
      refine r_aload_n hL (x := 0) dX7_tale_36 rfl ?_
      refine r_getl hL xcl7 7 (j' := 7) rfl (by decide) s_0 (by decide) fl_X7_57 (by decide) dX7_tale_37 (fun hr37 => ?_)
      obtain ⟨z37, hz37⟩ : ∃ z, z = μ29c 0 7 := ⟨_, rfl⟩
      rw [← hz37] at hr37 ⊢
      have hb37 : (7 : Int) = 7 → 0 ≤ (μ29c 0 7) ∧ (μ29c 0 7) ≤ 47244640255 := hB29c 0 7
      refine r_iconst hL dX7_tale_40 ?_
      refine r_callV hL (st := []) (av := [xL z37, xI 0]) (k := 1) (m_X5_add (μ := μ29c) hB29c z37 (by omega) 0 (by omega) (fun μ41c hB41c => ⟨rfl, ?_⟩)) ce_yX5_add im_yX5_add se_yX5_add ml_X7_87 xcl5 (by decide) s_1 dX7_tale_41 rfl (Nat.le_of_ble_eq_true rfl) ⟨Nat.le_of_ble_eq_true rfl, Nat.le_of_ble_eq_true rfl⟩ ⟨Nat.le_of_ble_eq_true rfl, Nat.le_of_ble_eq_true rfl⟩
      show X 0 0 WW μ41c 44 [some (xR 0)] []
      refine r_aload_n hL (x := 0) dX7_tale_44 rfl ?_
      refine r_lconst hL (n := 0) dX7_tale_45 rfl ?_
      refine r_putl hL xcl7 7 (j' := 7) rfl (by decide) s_0 (by decide) fl_X7_57 rfl rfl (by omega) dX7_tale_46 (fun μ1 hm1 => ?_)
      have hB1 : BI μ1 := by rw [hm1]; exact hB41c.up (by show (7 : Int) = 7 → 0 ≤ 0 ∧ 0 ≤ 47244640255; omega)
      refine r_aload_n hL (x := 0) dX7_tale_49 rfl ?_
      refine r_getr hL xcl7 0 (by decide) s_0 (by decide) fl_X7_10 (by decide) f_0_0 dX7_tale_50 ?_
      refine r_geti hL xcl5 4 (j' := 4) rfl (by decide) s_1 (by decide) fl_X7_80 (by decide) (by decide) dX7_tale_53 (fun hr53 => ?_)
      obtain ⟨z53, hz53⟩ : ∃ z, z = μ1 1 4 := ⟨_, rfl⟩
      rw [← hz53] at hr53 ⊢
      have hb53 : ((4 : Int) = 4 → 0 ≤ (μ1 1 4) ∧ (μ1 1 4) ≤ 8) ∧ ((4 : Int) = 5 → 0 ≤ (μ1 1 4) ∧ (μ1 1 4) ≤ 2) := hB1 1 4
      refine r_iconst hL dX7_tale_56 ?_
      refine r_isub hL dX7_tale_57 ?_
      exact r_iret hL dX7_tale_58 rfl (hK _ _ hB1 (by omega))
    · skip
      refine r_ldc hL (n := -1000000003) dX7_tale_25 kc_X7_83 (by decide) ?_
      exact r_iret hL dX7_tale_27 rfl (hK _ _ hB (by omega))
  · skip
    refine r_ldc hL (n := -1000000004) dX7_tale_12 kc_X7_75 (by decide) ?_
    exact r_iret hL dX7_tale_14 rfl (hK _ _ hB (by omega))

set_option maxHeartbeats 4000000 in
set_option maxRecDepth 20000 in
theorem m_X7_told {K : Option xV → xW → xM → Prop} {μ : xM} (hB0 : BI μ) (t : Int) (ht : xrg t) (hK : ∀ r μ', BI μ' → Fr RO μ μ' → xrg r → K (some (xI r)) WW μ') : xMet yX7_told cX7_told 2 (some .int) 6 148 0 0 [xR 0, xI t] WW μ K := by
  refine xMet.go RX7 "told" rfl rfl (by decide) [some (xR 0), some (xI t)] (Nat.le_of_ble_eq_true rfl) rfl (fun X hL => ?_)
  have hB := hB0
  have hF : Fr RO μ μ := Fr.rf
  refine r_iload_n hL (x := t) dX7_told_0 rfl ?_
  by_cases e1 : 0 ≤ t ∧ t ≤ 8
  · skip
    rcases (show t = 0 ∨ t = 1 ∨ t = 2 ∨ t = 3 ∨ t = 4 ∨ t = 5 ∨ t = 6 ∨ t = 7 ∨ t = 8 by omega) with e1 | e1 | e1 | e1 | e1 | e1 | e1 | e1 | e1
    · skip
      refine r_tableIn hL (tgt := 52) (off := 51) 0 dX7_told_1 (by omega) e1 (by decide) (by decide) rfl (by decide) ?_
      refine r_aload_n hL (x := 0) dX7_told_52 rfl ?_
      refine r_getr hL xcl7 0 (by decide) s_0 (by decide) fl_X7_10 (by decide) f_0_0 dX7_told_53 ?_
      refine r_geti hL xcl5 4 (j' := 4) rfl (by decide) s_1 (by decide) fl_X7_80 (by decide) (by decide) dX7_told_56 (fun hr56 => ?_)
      obtain ⟨z56, hz56⟩ : ∃ z, z = μ 1 4 := ⟨_, rfl⟩
      rw [← hz56] at hr56 ⊢
      have hb56 : ((4 : Int) = 4 → 0 ≤ (μ 1 4) ∧ (μ 1 4) ≤ 8) ∧ ((4 : Int) = 5 → 0 ≤ (μ 1 4) ∧ (μ 1 4) ≤ 2) := hB 1 4
      exact r_iret hL dX7_told_59 rfl (hK _ _ hB hF (by omega))
    · skip
      refine r_tableIn hL (tgt := 60) (off := 59) 1 dX7_told_1 (by omega) e1 (by decide) (by decide) rfl (by decide) ?_
      refine r_aload_n hL (x := 0) dX7_told_60 rfl ?_
      refine r_getl hL xcl7 7 (j' := 7) rfl (by decide) s_0 (by decide) fl_X7_57 (by decide) dX7_told_61 (fun hr61 => ?_)
      obtain ⟨z61, hz61⟩ : ∃ z, z = μ 0 7 := ⟨_, rfl⟩
      rw [← hz61] at hr61 ⊢
      have hb61 : (7 : Int) = 7 → 0 ≤ (μ 0 7) ∧ (μ 0 7) ≤ 47244640255 := hB 0 7
      refine r_callS hL (st := []) (av := [xL z61]) (m_X7_lengthOf (μ := μ) z61 (by omega) (by omega) (fun z64 hz64 => ⟨rfl, ?_⟩)) ce_yX7_lengthOf sm_yX7_lengthOf ml_X7_71 dX7_told_64 rfl (Nat.le_of_ble_eq_true rfl) ⟨Nat.le_of_ble_eq_true rfl, Nat.le_of_ble_eq_true rfl⟩ ⟨Nat.le_of_ble_eq_true rfl, Nat.le_of_ble_eq_true rfl⟩
      show X 0 0 WW μ 67 [some (xR 0), some (xI t)] [xI z64]
      exact r_iret hL dX7_told_67 rfl (hK _ _ hB hF (by omega))
    · skip
      refine r_tableIn hL (tgt := 68) (off := 67) 2 dX7_told_1 (by omega) e1 (by decide) (by decide) rfl (by decide) ?_
      refine r_aload_n hL (x := 0) dX7_told_68 rfl ?_
      refine r_getr hL xcl7 0 (by decide) s_0 (by decide) fl_X7_10 (by decide) f_0_0 dX7_told_69 ?_
      refine r_geti hL xcl5 5 (j' := 5) rfl (by decide) s_1 (by decide) fl_X7_91 (by decide) (by decide) dX7_told_72 (fun hr72 => ?_)
      obtain ⟨z72, hz72⟩ : ∃ z, z = μ 1 5 := ⟨_, rfl⟩
      rw [← hz72] at hr72 ⊢
      have hb72 : ((5 : Int) = 4 → 0 ≤ (μ 1 5) ∧ (μ 1 5) ≤ 8) ∧ ((5 : Int) = 5 → 0 ≤ (μ 1 5) ∧ (μ 1 5) ≤ 2) := hB 1 5
      exact r_iret hL dX7_told_75 rfl (hK _ _ hB hF (by omega))
    · skip
      refine r_tableIn hL (tgt := 76) (off := 75) 3 dX7_told_1 (by omega) e1 (by decide) (by decide) rfl (by decide) ?_
      refine r_aload_n hL (x := 0) dX7_told_76 rfl ?_
      refine r_callV hL (st := []) (av := []) (k := 0) (m_X7_nodeCount (μ := μ) hB  (fun z77 hc77 => ⟨rfl, ?_⟩)) ce_yX7_nodeCount im_yX7_nodeCount se_yX7_nodeCount ml_X7_94 xcl7 (by decide) s_0 dX7_told_77 rfl (Nat.le_of_ble_eq_true rfl) ⟨Nat.le_of_ble_eq_true rfl, Nat.le_of_ble_eq_true rfl⟩ ⟨Nat.le_of_ble_eq_true rfl, Nat.le_of_ble_eq_true rfl⟩
      show X 0 0 WW μ 80 [some (xR 0), some (xI t)] [xI z77]
      exact r_iret hL dX7_told_80 rfl (hK _ _ hB hF (by omega))
    · skip
      refine r_tableIn hL (tgt := 81) (off := 80) 4 dX7_told_1 (by omega) e1 (by decide) (by decide) rfl (by decide) ?_
      refine r_aload_n hL (x := 0) dX7_told_81 rfl ?_
      refine r_callV hL (st := []) (av := []) (k := 0) (m_X7_likeTyped (μ := μ) hB  (fun z82 μ82c hB82c hG82 hc82 => ⟨rfl, ?_⟩)) ce_yX7_likeTyped im_yX7_likeTyped se_yX7_likeTyped ml_X7_98 xcl7 (by decide) s_0 dX7_told_82 rfl (Nat.le_of_ble_eq_true rfl) ⟨Nat.le_of_ble_eq_true rfl, Nat.le_of_ble_eq_true rfl⟩ ⟨Nat.le_of_ble_eq_true rfl, Nat.le_of_ble_eq_true rfl⟩
      show X 0 0 WW μ82c 85 [some (xR 0), some (xI t)] [xI z82]
      have hF82c : Fr RO μ μ82c := hF.trans hG82
      exact r_iret hL dX7_told_85 rfl (hK _ _ hB82c hF82c (by omega))
    · skip
      refine r_tableIn hL (tgt := 86) (off := 85) 5 dX7_told_1 (by omega) e1 (by decide) (by decide) rfl (by decide) ?_
      refine r_aload_n hL (x := 0) dX7_told_86 rfl ?_
      refine r_getr hL xcl7 0 (by decide) s_0 (by decide) fl_X7_10 (by decide) f_0_0 dX7_told_87 ?_
      refine r_aload_n hL (x := 0) dX7_told_90 rfl ?_
      refine r_callV hL (st := [xR 1]) (av := []) (k := 0) (m_X7_allTales (μ := μ) hB  (fun z91 hc91 => ⟨rfl, ?_⟩)) ce_yX7_allTales im_yX7_allTales se_yX7_allTales ml_X7_101 xcl7 (by decide) s_0 dX7_told_91 rfl (Nat.le_of_ble_eq_true rfl) ⟨Nat.le_of_ble_eq_true rfl, Nat.le_of_ble_eq_true rfl⟩ ⟨Nat.le_of_ble_eq_true rfl, Nat.le_of_ble_eq_true rfl⟩
      show X 0 0 WW μ 94 [some (xR 0), some (xI t)] [xI z91, xR 1]
      refine r_callV hL (st := []) (av := [xI z91]) (k := 1) (m_X5_motifsOfAll (μ := μ) hB z91 (by omega) (fun z94 hc94 => ⟨rfl, ?_⟩)) ce_yX5_motifsOfAll im_yX5_motifsOfAll se_yX5_motifsOfAll ml_X7_104 xcl5 (by decide) s_1 dX7_told_94 rfl (Nat.le_of_ble_eq_true rfl) ⟨Nat.le_of_ble_eq_true rfl, Nat.le_of_ble_eq_true rfl⟩ ⟨Nat.le_of_ble_eq_true rfl, Nat.le_of_ble_eq_true rfl⟩
      show X 0 0 WW μ 97 [some (xR 0), some (xI t)] [xI z94]
      exact r_iret hL dX7_told_97 rfl (hK _ _ hB hF (by omega))
    · skip
      refine r_tableIn hL (tgt := 98) (off := 97) 6 dX7_told_1 (by omega) e1 (by decide) (by decide) rfl (by decide) ?_
      refine r_aload_n hL (x := 0) dX7_told_98 rfl ?_
      refine r_getr hL xcl7 2 (by decide) s_0 (by decide) fl_X7_26 (by decide) f_0_2 dX7_told_99 ?_
      refine r_geti hL xcl0 3 (j' := 3) rfl (by decide) s_88 (by decide) fl_X7_108 (by decide) (by decide) dX7_told_102 (fun hr102 => ?_)
      obtain ⟨z102, hz102⟩ : ∃ z, z = μ 88 3 := ⟨_, rfl⟩
      rw [← hz102] at hr102 ⊢
      have hb102 : (3 : Int) = 3 → 0 ≤ (μ 88 3) ∧ (μ 88 3) ≤ 20 := hB 88 3
      exact r_iret hL dX7_told_105 rfl (hK _ _ hB hF (by omega))
    · skip
      refine r_tableIn hL (tgt := 106) (off := 105) 7 dX7_told_1 (by omega) e1 (by decide) (by decide) rfl (by decide) ?_
      refine r_aload_n hL (x := 0) dX7_told_106 rfl ?_
      refine r_callV hL (st := []) (av := []) (k := 0) (m_X7_measureAnew (μ := μ) hB  (fun μ107c hB107c hG107 => ⟨rfl, ?_⟩)) ce_yX7_measureAnew im_yX7_measureAnew se_yX7_measureAnew ml_X7_111 xcl7 (by decide) s_0 dX7_told_107 rfl (Nat.le_of_ble_eq_true rfl) ⟨Nat.le_of_ble_eq_true rfl, Nat.le_of_ble_eq_true rfl⟩ ⟨Nat.le_of_ble_eq_true rfl, Nat.le_of_ble_eq_true rfl⟩
      show X 0 0 WW μ107c 110 [some (xR 0), some (xI t)] []
      have hF107c : Fr RO μ μ107c := hF.trans hG107
      refine r_aload_n hL (x := 0) dX7_told_110 rfl ?_
      refine r_getr hL xcl7 2 (by decide) s_0 (by decide) fl_X7_26 (by decide) f_0_2 dX7_told_111 ?_
      refine r_aload_n hL (x := 0) dX7_told_114 rfl ?_
      refine r_getr hL xcl7 4 (by decide) s_0 (by decide) fl_X7_40 (by decide) f_0_4 dX7_told_115 ?_
      refine r_aload_n hL (x := 0) dX7_told_118 rfl ?_
      refine r_getr hL xcl7 0 (by decide) s_0 (by decide) fl_X7_10 (by decide) f_0_0 dX7_told_119 ?_
      refine r_geti hL xcl5 4 (j' := 4) rfl (by decide) s_1 (by decide) fl_X7_80 (by decide) (by decide) dX7_told_122 (fun hr122 => ?_)
      obtain ⟨z122, hz122⟩ : ∃ z, z = μ107c 1 4 := ⟨_, rfl⟩
      rw [← hz122] at hr122 ⊢
      have hb122 : ((4 : Int) = 4 → 0 ≤ (μ107c 1 4) ∧ (μ107c 1 4) ≤ 8) ∧ ((4 : Int) = 5 → 0 ≤ (μ107c 1 4) ∧ (μ107c 1 4) ≤ 2) := hB107c 1 4
      refine r_callV hL (st := []) (av := [xR 100, xI z122]) (k := 88) (m_X0_firstOtherwise (μ := μ107c) hB107c z122 (by omega) (fun z125 hc125 => ⟨rfl, ?_⟩)) ce_yX0_firstOtherwise im_yX0_firstOtherwise se_yX0_firstOtherwise ml_X7_114 xcl0 (by decide) s_88 dX7_told_125 rfl (Nat.le_of_ble_eq_true rfl) ⟨Nat.le_of_ble_eq_true rfl, Nat.le_of_ble_eq_true rfl⟩ ⟨Nat.le_of_ble_eq_true rfl, Nat.le_of_ble_eq_true rfl⟩
      show X 0 0 WW μ107c 128 [some (xR 0), some (xI t)] [xI z125]
      exact r_iret hL dX7_told_128 rfl (hK _ _ hB107c hF107c (by omega))
    · skip
      refine r_tableIn hL (tgt := 129) (off := 128) 8 dX7_told_1 (by omega) e1 (by decide) (by decide) rfl (by decide) ?_
      refine r_aload_n hL (x := 0) dX7_told_129 rfl ?_
      refine r_getr hL xcl7 1 (by decide) s_0 (by decide) fl_X7_19 (by decide) f_0_1 dX7_told_130 ?_
      refine r_geti hL xcl1 1 (j' := 1) rfl (by decide) s_6 (by decide) fl_X7_118 (by decide) (by decide) dX7_told_133 (fun hr133 => ?_)
      obtain ⟨z133, hz133⟩ : ∃ z, z = μ 6 1 := ⟨_, rfl⟩
      rw [← hz133] at hr133 ⊢
      have hb133 : ((1 : Int) = 1 → 0 ≤ (μ 6 1) ∧ (μ 6 1) ≤ 16) ∧ ((1 : Int) = 2 → 0 ≤ (μ 6 1) ∧ (μ 6 1) ≤ 15) := hB 6 1
      exact r_iret hL dX7_told_136 rfl (hK _ _ hB hF (by omega))
  · skip
    refine r_tableOut hL (tgt := 137) dX7_told_1 (by omega) (by omega) (by decide) ?_
    refine r_ldc hL (n := -1000000002) dX7_told_137 kc_X7_70 (by decide) ?_
    exact r_iret hL dX7_told_139 rfl (hK _ _ hB hF (by omega))

set_option maxHeartbeats 4000000 in
set_option maxRecDepth 20000 in
theorem m_X7_taleAt {K : Option xV → xW → xM → Prop} {μ : xM} (hB0 : BI μ) (t : Int) (ht : xrg t) (u : Int) (hu : xrg u) (hK : ∀ r, xrg r → K (some (xI r)) WW μ) : xMet yX7_taleAt cX7_taleAt 3 (some .int) 2 48 0 0 [xR 0, xI t, xI u] WW μ K := by
  refine xMet.go RX7 "taleAt" rfl rfl (by decide) [some (xR 0), some (xI t), some (xI u)] (Nat.le_of_ble_eq_true rfl) rfl (fun X hL => ?_)
  have hB := hB0
  refine r_aload_n hL (x := 0) dX7_taleAt_0 rfl ?_
  refine r_iload_n hL (x := t) dX7_taleAt_1 rfl ?_
  refine r_callV hL (st := []) (av := [xI t]) (k := 0) (m_X7_isTale (μ := μ) hB t (by omega) (fun z2 hc2 => ⟨rfl, ?_⟩)) ce_yX7_isTale im_yX7_isTale se_yX7_isTale ml_X7_119 xcl7 (by decide) s_0 dX7_taleAt_2 rfl (Nat.le_of_ble_eq_true rfl) ⟨Nat.le_of_ble_eq_true rfl, Nat.le_of_ble_eq_true rfl⟩ ⟨Nat.le_of_ble_eq_true rfl, Nat.le_of_ble_eq_true rfl⟩
  show X 0 0 WW μ 5 [some (xR 0), some (xI t), some (xI u)] [xI z2]
  refine r_if_ne hL (tgt := 11) dX7_taleAt_5 (by decide) (by omega) (fun c5 => ?_) (fun c5 => ?_)
  · skip
    refine r_iload_n hL (x := u) dX7_taleAt_11 rfl ?_
    by_cases e12 : 0 ≤ u ∧ u ≤ 3
    · skip
      rcases (show u = 0 ∨ u = 1 ∨ u = 2 ∨ u = 3 by omega) with e12 | e12 | e12 | e12
      · skip
        refine r_tableIn hL (tgt := 44) (off := 32) 0 dX7_taleAt_12 (by omega) e12 (by decide) (by decide) rfl (by decide) ?_
        refine r_aload_n hL (x := 0) dX7_taleAt_44 rfl ?_
        refine r_getr hL xcl7 0 (by decide) s_0 (by decide) fl_X7_10 (by decide) f_0_0 dX7_taleAt_45 ?_
        refine r_getr hL xcl5 0 (by decide) s_1 (by decide) fl_X7_124 (by decide) f_1_0 dX7_taleAt_48 ?_
        refine r_iload_n hL (x := t) dX7_taleAt_51 rfl ?_
        refine r_lald hL dX7_taleAt_52 (by decide) s_2 (by decide) (by omega) (by omega) (fun hr52 => ?_)
        obtain ⟨z52, hz52⟩ : ∃ z, z = μ 2 t := ⟨_, rfl⟩
        rw [← hz52] at hr52 ⊢
        have hb52 : 0 ≤ (μ 2 t) ∧ (μ 2 t) ≤ 47244640255 := hB 2 t
        refine r_callS hL (st := []) (av := [xL z52]) (m_X7_lengthOf (μ := μ) z52 (by omega) (by omega) (fun z53 hz53 => ⟨rfl, ?_⟩)) ce_yX7_lengthOf sm_yX7_lengthOf ml_X7_71 dX7_taleAt_53 rfl (Nat.le_of_ble_eq_true rfl) ⟨Nat.le_of_ble_eq_true rfl, Nat.le_of_ble_eq_true rfl⟩ ⟨Nat.le_of_ble_eq_true rfl, Nat.le_of_ble_eq_true rfl⟩
        show X 0 0 WW μ 56 [some (xR 0), some (xI t), some (xI u)] [xI z53]
        exact r_iret hL dX7_taleAt_56 rfl (hK _ (by omega))
      · skip
        refine r_tableIn hL (tgt := 57) (off := 45) 1 dX7_taleAt_12 (by omega) e12 (by decide) (by decide) rfl (by decide) ?_
        refine r_aload_n hL (x := 0) dX7_taleAt_57 rfl ?_
        refine r_getr hL xcl7 0 (by decide) s_0 (by decide) fl_X7_10 (by decide) f_0_0 dX7_taleAt_58 ?_
        refine r_getr hL xcl5 1 (by decide) s_1 (by decide) fl_X7_128 (by decide) f_1_1 dX7_taleAt_61 ?_
        refine r_iload_n hL (x := t) dX7_taleAt_64 rfl ?_
        refine r_iald hL dX7_taleAt_65 (by decide) s_3 (by decide) (by omega) (by omega) (fun hr65 => ?_)
        obtain ⟨z65, hz65⟩ : ∃ z, z = μ 3 t := ⟨_, rfl⟩
        rw [← hz65] at hr65 ⊢
        exact r_iret hL dX7_taleAt_66 rfl (hK _ (by omega))
      · skip
        refine r_tableIn hL (tgt := 67) (off := 55) 2 dX7_taleAt_12 (by omega) e12 (by decide) (by decide) rfl (by decide) ?_
        refine r_aload_n hL (x := 0) dX7_taleAt_67 rfl ?_
        refine r_getr hL xcl7 0 (by decide) s_0 (by decide) fl_X7_10 (by decide) f_0_0 dX7_taleAt_68 ?_
        refine r_getr hL xcl5 1 (by decide) s_1 (by decide) fl_X7_128 (by decide) f_1_1 dX7_taleAt_71 ?_
        refine r_iload_n hL (x := t) dX7_taleAt_74 rfl ?_
        refine r_iald hL dX7_taleAt_75 (by decide) s_3 (by decide) (by omega) (by omega) (fun hr75 => ?_)
        obtain ⟨z75, hz75⟩ : ∃ z, z = μ 3 t := ⟨_, rfl⟩
        rw [← hz75] at hr75 ⊢
        refine r_aload_n hL (x := 0) dX7_taleAt_76 rfl ?_
        refine r_getr hL xcl7 0 (by decide) s_0 (by decide) fl_X7_10 (by decide) f_0_0 dX7_taleAt_77 ?_
        refine r_getr hL xcl5 3 (by decide) s_1 (by decide) fl_X7_132 (by decide) f_1_3 dX7_taleAt_80 ?_
        refine r_callS hL (st := []) (av := [xI z75, xR 5]) (m_X7_hull (μ := μ) z75 (by omega) 5 (by decide) s_5 (fun z83 hc83 => ⟨rfl, ?_⟩)) ce_yX7_hull sm_yX7_hull ml_X7_135 dX7_taleAt_83 rfl (Nat.le_of_ble_eq_true rfl) ⟨Nat.le_of_ble_eq_true rfl, Nat.le_of_ble_eq_true rfl⟩ ⟨Nat.le_of_ble_eq_true rfl, Nat.le_of_ble_eq_true rfl⟩
        show X 0 0 WW μ 86 [some (xR 0), some (xI t), some (xI u)] [xI z83]
        refine r_callS hL (st := []) (av := [xI z83]) (m_X7_roadsOf (μ := μ) z83 (by omega) (fun z86 hc86 => ⟨rfl, ?_⟩)) ce_yX7_roadsOf sm_yX7_roadsOf ml_X7_139 dX7_taleAt_86 rfl (Nat.le_of_ble_eq_true rfl) ⟨Nat.le_of_ble_eq_true rfl, Nat.le_of_ble_eq_true rfl⟩ ⟨Nat.le_of_ble_eq_true rfl, Nat.le_of_ble_eq_true rfl⟩
        show X 0 0 WW μ 89 [some (xR 0), some (xI t), some (xI u)] [xI z86]
        exact r_iret hL dX7_taleAt_89 rfl (hK _ (by omega))
      · skip
        refine r_tableIn hL (tgt := 90) (off := 78) 3 dX7_taleAt_12 (by omega) e12 (by decide) (by decide) rfl (by decide) ?_
        refine r_aload_n hL (x := 0) dX7_taleAt_90 rfl ?_
        refine r_getr hL xcl7 0 (by decide) s_0 (by decide) fl_X7_10 (by decide) f_0_0 dX7_taleAt_91 ?_
        refine r_getr hL xcl5 1 (by decide) s_1 (by decide) fl_X7_128 (by decide) f_1_1 dX7_taleAt_94 ?_
        refine r_iload_n hL (x := t) dX7_taleAt_97 rfl ?_
        refine r_iald hL dX7_taleAt_98 (by decide) s_3 (by decide) (by omega) (by omega) (fun hr98 => ?_)
        obtain ⟨z98, hz98⟩ : ∃ z, z = μ 3 t := ⟨_, rfl⟩
        rw [← hz98] at hr98 ⊢
        refine r_aload_n hL (x := 0) dX7_taleAt_99 rfl ?_
        refine r_getr hL xcl7 0 (by decide) s_0 (by decide) fl_X7_10 (by decide) f_0_0 dX7_taleAt_100 ?_
        refine r_getr hL xcl5 3 (by decide) s_1 (by decide) fl_X7_132 (by decide) f_1_3 dX7_taleAt_103 ?_
        refine r_callS hL (st := []) (av := [xI z98, xR 5]) (m_X7_hull (μ := μ) z98 (by omega) 5 (by decide) s_5 (fun z106 hc106 => ⟨rfl, ?_⟩)) ce_yX7_hull sm_yX7_hull ml_X7_135 dX7_taleAt_106 rfl (Nat.le_of_ble_eq_true rfl) ⟨Nat.le_of_ble_eq_true rfl, Nat.le_of_ble_eq_true rfl⟩ ⟨Nat.le_of_ble_eq_true rfl, Nat.le_of_ble_eq_true rfl⟩
        show X 0 0 WW μ 109 [some (xR 0), some (xI t), some (xI u)] [xI z106]
        exact r_iret hL dX7_taleAt_109 rfl (hK _ (by omega))
    · skip
      refine r_tableOut hL (tgt := 110) dX7_taleAt_12 (by omega) (by omega) (by decide) ?_
      refine r_ldc hL (n := -1000000002) dX7_taleAt_110 kc_X7_70 (by decide) ?_
      exact r_iret hL dX7_taleAt_112 rfl (hK _ (by omega))
  · skip
    refine r_ldc hL (n := -1000000001) dX7_taleAt_8 kc_X7_123 (by decide) ?_
    exact r_iret hL dX7_taleAt_10 rfl (hK _ (by omega))

set_option maxHeartbeats 4000000 in
set_option maxRecDepth 20000 in
theorem m_X7_motif {K : Option xV → xW → xM → Prop} {μ : xM} (hB0 : BI μ) (t : Int) (ht : xrg t) (u : Int) (hu : xrg u) (hK : ∀ r, xrg r → K (some (xI r)) WW μ) : xMet yX7_motif cX7_motif 3 (some .int) 1 22 0 0 [xR 0, xI t, xI u] WW μ K := by
  refine xMet.go RX7 "motif" rfl rfl (by decide) [some (xR 0), some (xI t), some (xI u)] (Nat.le_of_ble_eq_true rfl) rfl (fun X hL => ?_)
  have hB := hB0
  refine r_aload_n hL (x := 0) dX7_motif_0 rfl ?_
  refine r_iload_n hL (x := t) dX7_motif_1 rfl ?_
  refine r_callV hL (st := []) (av := [xI t]) (k := 0) (m_X7_isTale (μ := μ) hB t (by omega) (fun z2 hc2 => ⟨rfl, ?_⟩)) ce_yX7_isTale im_yX7_isTale se_yX7_isTale ml_X7_119 xcl7 (by decide) s_0 dX7_motif_2 rfl (Nat.le_of_ble_eq_true rfl) ⟨Nat.le_of_ble_eq_true rfl, Nat.le_of_ble_eq_true rfl⟩ ⟨Nat.le_of_ble_eq_true rfl, Nat.le_of_ble_eq_true rfl⟩
  show X 0 0 WW μ 5 [some (xR 0), some (xI t), some (xI u)] [xI z2]
  refine r_if_ne hL (tgt := 11) dX7_motif_5 (by decide) (by omega) (fun c5 => ?_) (fun c5 => ?_)
  · skip
    refine r_iload_n hL (x := u) dX7_motif_11 rfl ?_
    refine r_if_lt hL (tgt := 31) dX7_motif_12 (by decide) (by omega) (fun c12 => ?_) (fun c12 => ?_)
    · skip
      refine r_iconst hL dX7_motif_31 ?_
      exact r_iret hL dX7_motif_32 rfl (hK _ (by omega))
    · skip
      refine r_iload_n hL (x := u) dX7_motif_15 rfl ?_
      refine r_aload_n hL (x := 0) dX7_motif_16 rfl ?_
      refine r_getr hL xcl7 0 (by decide) s_0 (by decide) fl_X7_10 (by decide) f_0_0 dX7_motif_17 ?_
      refine r_getr hL xcl5 0 (by decide) s_1 (by decide) fl_X7_124 (by decide) f_1_0 dX7_motif_20 ?_
      refine r_iload_n hL (x := t) dX7_motif_23 rfl ?_
      refine r_lald hL dX7_motif_24 (by decide) s_2 (by decide) (by omega) (by omega) (fun hr24 => ?_)
      obtain ⟨z24, hz24⟩ : ∃ z, z = μ 2 t := ⟨_, rfl⟩
      rw [← hz24] at hr24 ⊢
      have hb24 : 0 ≤ (μ 2 t) ∧ (μ 2 t) ≤ 47244640255 := hB 2 t
      refine r_callS hL (st := [xI u]) (av := [xL z24]) (m_X7_lengthOf (μ := μ) z24 (by omega) (by omega) (fun z25 hz25 => ⟨rfl, ?_⟩)) ce_yX7_lengthOf sm_yX7_lengthOf ml_X7_71 dX7_motif_25 rfl (Nat.le_of_ble_eq_true rfl) ⟨Nat.le_of_ble_eq_true rfl, Nat.le_of_ble_eq_true rfl⟩ ⟨Nat.le_of_ble_eq_true rfl, Nat.le_of_ble_eq_true rfl⟩
      show X 0 0 WW μ 28 [some (xR 0), some (xI t), some (xI u)] [xI z25, xI u]
      refine r_icmp_lt hL (tgt := 33) dX7_motif_28 (by decide) (by omega) (by omega) (fun c28 => ?_) (fun c28 => ?_)
      · skip
        refine r_aload_n hL (x := 0) dX7_motif_33 rfl ?_
        refine r_getr hL xcl7 0 (by decide) s_0 (by decide) fl_X7_10 (by decide) f_0_0 dX7_motif_34 ?_
        refine r_getr hL xcl5 0 (by decide) s_1 (by decide) fl_X7_124 (by decide) f_1_0 dX7_motif_37 ?_
        refine r_iload_n hL (x := t) dX7_motif_40 rfl ?_
        refine r_lald hL dX7_motif_41 (by decide) s_2 (by decide) (by omega) (by omega) (fun hr41 => ?_)
        obtain ⟨z41, hz41⟩ : ∃ z, z = μ 2 t := ⟨_, rfl⟩
        rw [← hz41] at hr41 ⊢
        have hb41 : 0 ≤ (μ 2 t) ∧ (μ 2 t) ≤ 47244640255 := hB 2 t
        refine r_iload_n hL (x := u) dX7_motif_42 rfl ?_
        refine r_callS hL (st := []) (av := [xL z41, xI u]) (m_X7_motifOf (μ := μ) z41 u (fun z43 hc43 => ⟨rfl, ?_⟩)) ce_yX7_motifOf sm_yX7_motifOf ml_X7_142 dX7_motif_43 rfl (Nat.le_of_ble_eq_true rfl) ⟨Nat.le_of_ble_eq_true rfl, Nat.le_of_ble_eq_true rfl⟩ ⟨Nat.le_of_ble_eq_true rfl, Nat.le_of_ble_eq_true rfl⟩
        show X 0 0 WW μ 46 [some (xR 0), some (xI t), some (xI u)] [xI z43]
        exact r_iret hL dX7_motif_46 rfl (hK _ (by omega))
      · skip
        refine r_iconst hL dX7_motif_31 ?_
        exact r_iret hL dX7_motif_32 rfl (hK _ (by omega))
  · skip
    refine r_ldc hL (n := -1000000001) dX7_motif_8 kc_X7_123 (by decide) ?_
    exact r_iret hL dX7_motif_10 rfl (hK _ (by omega))

set_option maxHeartbeats 4000000 in
set_option maxRecDepth 20000 in
theorem m_X7_costAt {K : Option xV → xW → xM → Prop} {μ : xM} (hB0 : BI μ) (t : Int) (ht : xrg t) (hK : ∀ r, xrg r → K (some (xI r)) WW μ) : xMet yX7_costAt cX7_costAt 2 (some .int) 0 0 0 0 [xR 0, xI t] WW μ K := by
  refine xMet.go RX7 "costAt" rfl rfl (by decide) [some (xR 0), some (xI t)] (Nat.le_of_ble_eq_true rfl) rfl (fun X hL => ?_)
  have hB := hB0
  refine r_iload_n hL (x := t) dX7_costAt_0 rfl ?_
  refine r_if_lt hL (tgt := 9) dX7_costAt_1 (by decide) (by omega) (fun c1 => ?_) (fun c1 => ?_)
  · skip
    refine r_ldc hL (n := -1000000002) dX7_costAt_9 kc_X7_70 (by decide) ?_
    exact r_iret hL dX7_costAt_11 rfl (hK _ (by omega))
  · skip
    refine r_iload_n hL (x := t) dX7_costAt_4 rfl ?_
    refine r_iconst hL dX7_costAt_5 ?_
    refine r_icmp_lt hL (tgt := 12) dX7_costAt_6 (by decide) (by omega) (by omega) (fun c6 => ?_) (fun c6 => ?_)
    · skip
      refine r_aload_n hL (x := 0) dX7_costAt_12 rfl ?_
      refine r_getr hL xcl7 0 (by decide) s_0 (by decide) fl_X7_10 (by decide) f_0_0 dX7_costAt_13 ?_
      refine r_getr hL xcl5 2 (by decide) s_1 (by decide) fl_X7_146 (by decide) f_1_2 dX7_costAt_16 ?_
      refine r_iload_n hL (x := t) dX7_costAt_19 rfl ?_
      refine r_iald hL dX7_costAt_20 (by decide) s_4 (by decide) (by omega) (by omega) (fun hr20 => ?_)
      obtain ⟨z20, hz20⟩ : ∃ z, z = μ 4 t := ⟨_, rfl⟩
      rw [← hz20] at hr20 ⊢
      have hb20 : 0 ≤ (μ 4 t) ∧ (μ 4 t) ≤ 9 := hB 4 t
      exact r_iret hL dX7_costAt_21 rfl (hK _ (by omega))
    · skip
      refine r_ldc hL (n := -1000000002) dX7_costAt_9 kc_X7_70 (by decide) ?_
      exact r_iret hL dX7_costAt_11 rfl (hK _ (by omega))

set_option maxHeartbeats 4000000 in
set_option maxRecDepth 20000 in
theorem m_X7_pair {K : Option xV → xW → xM → Prop} {μ : xM} (hB0 : BI μ) (t : Int) (ht : xrg t) (u : Int) (hu : xrg u) (v : Int) (hv : xrg v) (hK : ∀ r μ', BI μ' → Fr RO μ μ' → xrg r → K (some (xI r)) WW μ') : xMet yX7_pair cX7_pair 4 (some .int) 4 104 0 0 [xR 0, xI t, xI u, xI v] WW μ K := by
  refine xMet.go RX7 "pair" rfl rfl (by decide) [some (xR 0), some (xI t), some (xI u), some (xI v)] (Nat.le_of_ble_eq_true rfl) rfl (fun X hL => ?_)
  have hB := hB0
  have hF : Fr RO μ μ := Fr.rf
  refine r_aload_n hL (x := 0) dX7_pair_0 rfl ?_
  refine r_iload_n hL (x := t) dX7_pair_1 rfl ?_
  refine r_callV hL (st := []) (av := [xI t]) (k := 0) (m_X7_isTale (μ := μ) hB t (by omega) (fun z2 hc2 => ⟨rfl, ?_⟩)) ce_yX7_isTale im_yX7_isTale se_yX7_isTale ml_X7_119 xcl7 (by decide) s_0 dX7_pair_2 rfl (Nat.le_of_ble_eq_true rfl) ⟨Nat.le_of_ble_eq_true rfl, Nat.le_of_ble_eq_true rfl⟩ ⟨Nat.le_of_ble_eq_true rfl, Nat.le_of_ble_eq_true rfl⟩
  show X 0 0 WW μ 5 [some (xR 0), some (xI t), some (xI u), some (xI v)] [xI z2]
  refine r_if_eq hL (tgt := 16) dX7_pair_5 (by decide) (by omega) (fun c5 => ?_) (fun c5 => ?_)
  · skip
    refine r_ldc hL (n := -1000000001) dX7_pair_16 kc_X7_123 (by decide) ?_
    exact r_iret hL dX7_pair_18 rfl (hK _ _ hB hF (by omega))
  · skip
    refine r_aload_n hL (x := 0) dX7_pair_8 rfl ?_
    refine r_iload_n hL (x := u) dX7_pair_9 rfl ?_
    refine r_callV hL (st := []) (av := [xI u]) (k := 0) (m_X7_isTale (μ := μ) hB u (by omega) (fun z10 hc10 => ⟨rfl, ?_⟩)) ce_yX7_isTale im_yX7_isTale se_yX7_isTale ml_X7_119 xcl7 (by decide) s_0 dX7_pair_10 rfl (Nat.le_of_ble_eq_true rfl) ⟨Nat.le_of_ble_eq_true rfl, Nat.le_of_ble_eq_true rfl⟩ ⟨Nat.le_of_ble_eq_true rfl, Nat.le_of_ble_eq_true rfl⟩
    show X 0 0 WW μ 13 [some (xR 0), some (xI t), some (xI u), some (xI v)] [xI z10]
    refine r_if_ne hL (tgt := 19) dX7_pair_13 (by decide) (by omega) (fun c13 => ?_) (fun c13 => ?_)
    · skip
      refine r_iload_n hL (x := v) dX7_pair_19 rfl ?_
      refine r_if_lt hL (tgt := 28) dX7_pair_20 (by decide) (by omega) (fun c20 => ?_) (fun c20 => ?_)
      · skip
        refine r_ldc hL (n := -1000000002) dX7_pair_28 kc_X7_70 (by decide) ?_
        exact r_iret hL dX7_pair_30 rfl (hK _ _ hB hF (by omega))
      · skip
        refine r_iload_n hL (x := v) dX7_pair_23 rfl ?_
        refine r_iconst hL dX7_pair_24 ?_
        refine r_icmp_le hL (tgt := 31) dX7_pair_25 (by decide) (by omega) (by omega) (fun c25 => ?_) (fun c25 => ?_)
        · skip
          refine r_aload_n hL (x := 0) dX7_pair_31 rfl ?_
          refine r_getr hL xcl7 3 (by decide) s_0 (by decide) fl_X7_33 (by decide) f_0_3 dX7_pair_32 ?_
          refine r_aload_n hL (x := 0) dX7_pair_35 rfl ?_
          refine r_getr hL xcl7 0 (by decide) s_0 (by decide) fl_X7_10 (by decide) f_0_0 dX7_pair_36 ?_
          refine r_getr hL xcl5 0 (by decide) s_1 (by decide) fl_X7_124 (by decide) f_1_0 dX7_pair_39 ?_
          refine r_iload_n hL (x := t) dX7_pair_42 rfl ?_
          refine r_lald hL dX7_pair_43 (by decide) s_2 (by decide) (by omega) (by omega) (fun hr43 => ?_)
          obtain ⟨z43, hz43⟩ : ∃ z, z = μ 2 t := ⟨_, rfl⟩
          rw [← hz43] at hr43 ⊢
          have hb43 : 0 ≤ (μ 2 t) ∧ (μ 2 t) ≤ 47244640255 := hB 2 t
          refine r_aload_n hL (x := 0) dX7_pair_44 rfl ?_
          refine r_getr hL xcl7 0 (by decide) s_0 (by decide) fl_X7_10 (by decide) f_0_0 dX7_pair_45 ?_
          refine r_getr hL xcl5 0 (by decide) s_1 (by decide) fl_X7_124 (by decide) f_1_0 dX7_pair_48 ?_
          refine r_iload_n hL (x := u) dX7_pair_51 rfl ?_
          refine r_lald hL dX7_pair_52 (by decide) s_2 (by decide) (by omega) (by omega) (fun hr52 => ?_)
          obtain ⟨z52, hz52⟩ : ∃ z, z = μ 2 u := ⟨_, rfl⟩
          rw [← hz52] at hr52 ⊢
          have hb52 : 0 ≤ (μ 2 u) ∧ (μ 2 u) ≤ 47244640255 := hB 2 u
          refine r_aload_n hL (x := 0) dX7_pair_53 rfl ?_
          refine r_getr hL xcl7 0 (by decide) s_0 (by decide) fl_X7_10 (by decide) f_0_0 dX7_pair_54 ?_
          refine r_getr hL xcl5 2 (by decide) s_1 (by decide) fl_X7_146 (by decide) f_1_2 dX7_pair_57 ?_
          refine r_callV hL (st := []) (av := [xL z43, xL z52, xR 4]) (k := 92) (m_X4_lineUp (μ := μ) hB z43 (by omega) z52 (by omega) (fun μ60c hB60c hG60 hU60c => ⟨rfl, ?_⟩)) ce_yX4_lineUp im_yX4_lineUp se_yX4_lineUp ml_X7_149 xcl4 (by decide) s_92 dX7_pair_60 rfl (Nat.le_of_ble_eq_true rfl) ⟨Nat.le_of_ble_eq_true rfl, Nat.le_of_ble_eq_true rfl⟩ ⟨Nat.le_of_ble_eq_true rfl, Nat.le_of_ble_eq_true rfl⟩
          show X 0 0 WW μ60c 63 [some (xR 0), some (xI t), some (xI u), some (xI v)] []
          have hF60c : Fr RO μ μ60c := hF.trans hG60
          refine r_iload_n hL (x := v) dX7_pair_63 rfl ?_
          by_cases e64 : 0 ≤ v ∧ v ≤ 2
          · skip
            rcases (show v = 0 ∨ v = 1 ∨ v = 2 by omega) with e64 | e64 | e64
            · skip
              refine r_tableIn hL (tgt := 92) (off := 28) 0 dX7_pair_64 (by omega) e64 (by decide) (by decide) rfl (by decide) ?_
              refine r_aload_n hL (x := 0) dX7_pair_92 rfl ?_
              refine r_getr hL xcl7 3 (by decide) s_0 (by decide) fl_X7_33 (by decide) f_0_3 dX7_pair_93 ?_
              refine r_callV hL (st := []) (av := []) (k := 92) (m_X4_apart (μ := μ60c) hB60c hU60c (fun z96 hc96 => ⟨rfl, ?_⟩)) ce_yX4_apart im_yX4_apart se_yX4_apart ml_X7_153 xcl4 (by decide) s_92 dX7_pair_96 rfl (Nat.le_of_ble_eq_true rfl) ⟨Nat.le_of_ble_eq_true rfl, Nat.le_of_ble_eq_true rfl⟩ ⟨Nat.le_of_ble_eq_true rfl, Nat.le_of_ble_eq_true rfl⟩
              show X 0 0 WW μ60c 99 [some (xR 0), some (xI t), some (xI u), some (xI v)] [xI z96]
              exact r_iret hL dX7_pair_99 rfl (hK _ _ hB60c hF60c (by omega))
            · skip
              refine r_tableIn hL (tgt := 100) (off := 36) 1 dX7_pair_64 (by omega) e64 (by decide) (by decide) rfl (by decide) ?_
              refine r_aload_n hL (x := 0) dX7_pair_100 rfl ?_
              refine r_getr hL xcl7 3 (by decide) s_0 (by decide) fl_X7_33 (by decide) f_0_3 dX7_pair_101 ?_
              refine r_callV hL (st := []) (av := []) (k := 92) (m_X4_ways (μ := μ60c) hB60c hU60c (fun z104 μ104c hB104c hG104 hc104 => ⟨rfl, ?_⟩)) ce_yX4_ways im_yX4_ways se_yX4_ways ml_X7_156 xcl4 (by decide) s_92 dX7_pair_104 rfl (Nat.le_of_ble_eq_true rfl) ⟨Nat.le_of_ble_eq_true rfl, Nat.le_of_ble_eq_true rfl⟩ ⟨Nat.le_of_ble_eq_true rfl, Nat.le_of_ble_eq_true rfl⟩
              show X 0 0 WW μ104c 107 [some (xR 0), some (xI t), some (xI u), some (xI v)] [xI z104]
              have hF104c : Fr RO μ μ104c := hF60c.trans hG104
              exact r_iret hL dX7_pair_107 rfl (hK _ _ hB104c hF104c (by omega))
            · skip
              refine r_tableIn hL (tgt := 108) (off := 44) 2 dX7_pair_64 (by omega) e64 (by decide) (by decide) rfl (by decide) ?_
              refine r_aload_n hL (x := 0) dX7_pair_108 rfl ?_
              refine r_getr hL xcl7 3 (by decide) s_0 (by decide) fl_X7_33 (by decide) f_0_3 dX7_pair_109 ?_
              refine r_callV hL (st := []) (av := []) (k := 92) (m_X4_wayLength (μ := μ60c) hB60c hU60c (fun z112 μ112c hB112c hG112 hc112 => ⟨rfl, ?_⟩)) ce_yX4_wayLength im_yX4_wayLength se_yX4_wayLength ml_X7_159 xcl4 (by decide) s_92 dX7_pair_112 rfl (Nat.le_of_ble_eq_true rfl) ⟨Nat.le_of_ble_eq_true rfl, Nat.le_of_ble_eq_true rfl⟩ ⟨Nat.le_of_ble_eq_true rfl, Nat.le_of_ble_eq_true rfl⟩
              show X 0 0 WW μ112c 115 [some (xR 0), some (xI t), some (xI u), some (xI v)] [xI z112]
              have hF112c : Fr RO μ μ112c := hF60c.trans hG112
              exact r_iret hL dX7_pair_115 rfl (hK _ _ hB112c hF112c (by omega))
          · skip
            refine r_tableOut hL (tgt := 116) dX7_pair_64 (by omega) (by omega) (by decide) ?_
            refine r_aload_n hL (x := 0) dX7_pair_116 rfl ?_
            refine r_getr hL xcl7 3 (by decide) s_0 (by decide) fl_X7_33 (by decide) f_0_3 dX7_pair_117 ?_
            refine r_callV hL (st := []) (av := []) (k := 92) (m_X4_commonLength (μ := μ60c) hB60c  (fun z120 μ120c hB120c hG120 hc120 => ⟨rfl, ?_⟩)) ce_yX4_commonLength im_yX4_commonLength se_yX4_commonLength ml_X7_162 xcl4 (by decide) s_92 dX7_pair_120 rfl (Nat.le_of_ble_eq_true rfl) ⟨Nat.le_of_ble_eq_true rfl, Nat.le_of_ble_eq_true rfl⟩ ⟨Nat.le_of_ble_eq_true rfl, Nat.le_of_ble_eq_true rfl⟩
            show X 0 0 WW μ120c 123 [some (xR 0), some (xI t), some (xI u), some (xI v)] [xI z120]
            have hF120c : Fr RO μ μ120c := hF60c.trans hG120
            exact r_iret hL dX7_pair_123 rfl (hK _ _ hB120c hF120c (by omega))
        · skip
          refine r_ldc hL (n := -1000000002) dX7_pair_28 kc_X7_70 (by decide) ?_
          exact r_iret hL dX7_pair_30 rfl (hK _ _ hB hF (by omega))
    · skip
      refine r_ldc hL (n := -1000000001) dX7_pair_16 kc_X7_123 (by decide) ?_
      exact r_iret hL dX7_pair_18 rfl (hK _ _ hB hF (by omega))

set_option maxHeartbeats 4000000 in
set_option maxRecDepth 20000 in
theorem m_X7_step {K : Option xV → xW → xM → Prop} {μ : xM} (hB0 : BI μ) (t : Int) (ht : xrg t) (u : Int) (hu : xrg u) (v : Int) (hv : xrg v) (hK : ∀ r μ', BI μ' → Fr RO μ μ' → xrg r → K (some (xI r)) WW μ') : xMet yX7_step cX7_step 4 (some .int) 5 122 0 0 [xR 0, xI t, xI u, xI v] WW μ K := by
  refine xMet.go RX7 "step" rfl rfl (by decide) [some (xR 0), some (xI t), some (xI u), some (xI v)] (Nat.le_of_ble_eq_true rfl) rfl (fun X hL => ?_)
  have hB := hB0
  have hF : Fr RO μ μ := Fr.rf
  refine r_aload_n hL (x := 0) dX7_step_0 rfl ?_
  refine r_iload_n hL (x := t) dX7_step_1 rfl ?_
  refine r_callV hL (st := []) (av := [xI t]) (k := 0) (m_X7_isTale (μ := μ) hB t (by omega) (fun z2 hc2 => ⟨rfl, ?_⟩)) ce_yX7_isTale im_yX7_isTale se_yX7_isTale ml_X7_119 xcl7 (by decide) s_0 dX7_step_2 rfl (Nat.le_of_ble_eq_true rfl) ⟨Nat.le_of_ble_eq_true rfl, Nat.le_of_ble_eq_true rfl⟩ ⟨Nat.le_of_ble_eq_true rfl, Nat.le_of_ble_eq_true rfl⟩
  show X 0 0 WW μ 5 [some (xR 0), some (xI t), some (xI u), some (xI v)] [xI z2]
  refine r_if_eq hL (tgt := 16) dX7_step_5 (by decide) (by omega) (fun c5 => ?_) (fun c5 => ?_)
  · skip
    refine r_ldc hL (n := -1000000001) dX7_step_16 kc_X7_123 (by decide) ?_
    exact r_iret hL dX7_step_18 rfl (hK _ _ hB hF (by omega))
  · skip
    refine r_aload_n hL (x := 0) dX7_step_8 rfl ?_
    refine r_iload_n hL (x := u) dX7_step_9 rfl ?_
    refine r_callV hL (st := []) (av := [xI u]) (k := 0) (m_X7_isTale (μ := μ) hB u (by omega) (fun z10 hc10 => ⟨rfl, ?_⟩)) ce_yX7_isTale im_yX7_isTale se_yX7_isTale ml_X7_119 xcl7 (by decide) s_0 dX7_step_10 rfl (Nat.le_of_ble_eq_true rfl) ⟨Nat.le_of_ble_eq_true rfl, Nat.le_of_ble_eq_true rfl⟩ ⟨Nat.le_of_ble_eq_true rfl, Nat.le_of_ble_eq_true rfl⟩
    show X 0 0 WW μ 13 [some (xR 0), some (xI t), some (xI u), some (xI v)] [xI z10]
    refine r_if_ne hL (tgt := 19) dX7_step_13 (by decide) (by omega) (fun c13 => ?_) (fun c13 => ?_)
    · skip
      refine r_aload_n hL (x := 0) dX7_step_19 rfl ?_
      refine r_getr hL xcl7 3 (by decide) s_0 (by decide) fl_X7_33 (by decide) f_0_3 dX7_step_20 ?_
      refine r_aload_n hL (x := 0) dX7_step_23 rfl ?_
      refine r_getr hL xcl7 0 (by decide) s_0 (by decide) fl_X7_10 (by decide) f_0_0 dX7_step_24 ?_
      refine r_getr hL xcl5 0 (by decide) s_1 (by decide) fl_X7_124 (by decide) f_1_0 dX7_step_27 ?_
      refine r_iload_n hL (x := t) dX7_step_30 rfl ?_
      refine r_lald hL dX7_step_31 (by decide) s_2 (by decide) (by omega) (by omega) (fun hr31 => ?_)
      obtain ⟨z31, hz31⟩ : ∃ z, z = μ 2 t := ⟨_, rfl⟩
      rw [← hz31] at hr31 ⊢
      have hb31 : 0 ≤ (μ 2 t) ∧ (μ 2 t) ≤ 47244640255 := hB 2 t
      refine r_aload_n hL (x := 0) dX7_step_32 rfl ?_
      refine r_getr hL xcl7 0 (by decide) s_0 (by decide) fl_X7_10 (by decide) f_0_0 dX7_step_33 ?_
      refine r_getr hL xcl5 0 (by decide) s_1 (by decide) fl_X7_124 (by decide) f_1_0 dX7_step_36 ?_
      refine r_iload_n hL (x := u) dX7_step_39 rfl ?_
      refine r_lald hL dX7_step_40 (by decide) s_2 (by decide) (by omega) (by omega) (fun hr40 => ?_)
      obtain ⟨z40, hz40⟩ : ∃ z, z = μ 2 u := ⟨_, rfl⟩
      rw [← hz40] at hr40 ⊢
      have hb40 : 0 ≤ (μ 2 u) ∧ (μ 2 u) ≤ 47244640255 := hB 2 u
      refine r_aload_n hL (x := 0) dX7_step_41 rfl ?_
      refine r_getr hL xcl7 0 (by decide) s_0 (by decide) fl_X7_10 (by decide) f_0_0 dX7_step_42 ?_
      refine r_getr hL xcl5 2 (by decide) s_1 (by decide) fl_X7_146 (by decide) f_1_2 dX7_step_45 ?_
      refine r_callV hL (st := []) (av := [xL z31, xL z40, xR 4]) (k := 92) (m_X4_lineUp (μ := μ) hB z31 (by omega) z40 (by omega) (fun μ48c hB48c hG48 hU48c => ⟨rfl, ?_⟩)) ce_yX4_lineUp im_yX4_lineUp se_yX4_lineUp ml_X7_149 xcl4 (by decide) s_92 dX7_step_48 rfl (Nat.le_of_ble_eq_true rfl) ⟨Nat.le_of_ble_eq_true rfl, Nat.le_of_ble_eq_true rfl⟩ ⟨Nat.le_of_ble_eq_true rfl, Nat.le_of_ble_eq_true rfl⟩
      show X 0 0 WW μ48c 51 [some (xR 0), some (xI t), some (xI u), some (xI v)] []
      have hF48c : Fr RO μ μ48c := hF.trans hG48
      refine r_aload_n hL (x := 0) dX7_step_51 rfl ?_
      refine r_getr hL xcl7 3 (by decide) s_0 (by decide) fl_X7_33 (by decide) f_0_3 dX7_step_52 ?_
      refine r_iload_n hL (x := v) dX7_step_55 rfl ?_
      refine r_callV hL (st := []) (av := [xI v]) (k := 92) (m_X4_stepOfWay (μ := μ48c) hB48c v (by omega) hU48c (fun z56 μ56c hB56c hG56 hc56 => ⟨rfl, ?_⟩)) ce_yX4_stepOfWay im_yX4_stepOfWay se_yX4_stepOfWay ml_X7_165 xcl4 (by decide) s_92 dX7_step_56 rfl (Nat.le_of_ble_eq_true rfl) ⟨Nat.le_of_ble_eq_true rfl, Nat.le_of_ble_eq_true rfl⟩ ⟨Nat.le_of_ble_eq_true rfl, Nat.le_of_ble_eq_true rfl⟩
      show X 0 0 WW μ56c 59 [some (xR 0), some (xI t), some (xI u), some (xI v)] [xI z56]
      have hF56c : Fr RO μ μ56c := hF48c.trans hG56
      exact r_iret hL dX7_step_59 rfl (hK _ _ hB56c hF56c (by omega))
    · skip
      refine r_ldc hL (n := -1000000001) dX7_step_16 kc_X7_123 (by decide) ?_
      exact r_iret hL dX7_step_18 rfl (hK _ _ hB hF (by omega))

set_option maxHeartbeats 4000000 in
set_option maxRecDepth 20000 in
theorem m_X7_node {K : Option xV → xW → xM → Prop} {μ : xM} (hB0 : BI μ) (t : Int) (ht : xrg t) (u : Int) (hu : xrg u) (hK : ∀ r μ', BI μ' → Fr RO μ μ' → xrg r → K (some (xI r)) WW μ') : xMet yX7_node cX7_node 3 (some .int) 6 148 0 0 [xR 0, xI t, xI u] WW μ K := by
  refine xMet.go RX7 "node" rfl rfl (by decide) [some (xR 0), some (xI t), some (xI u)] (Nat.le_of_ble_eq_true rfl) rfl (fun X hL => ?_)
  have hB := hB0
  have hF : Fr RO μ μ := Fr.rf
  refine r_iload_n hL (x := t) dX7_node_0 rfl ?_
  refine r_if_lt hL (tgt := 12) dX7_node_1 (by decide) (by omega) (fun c1 => ?_) (fun c1 => ?_)
  · skip
    refine r_ldc hL (n := -1000000001) dX7_node_12 kc_X7_123 (by decide) ?_
    exact r_iret hL dX7_node_14 rfl (hK _ _ hB hF (by omega))
  · skip
    refine r_iload_n hL (x := t) dX7_node_4 rfl ?_
    refine r_aload_n hL (x := 0) dX7_node_5 rfl ?_
    refine r_callV hL (st := [xI t]) (av := []) (k := 0) (m_X7_nodeCount (μ := μ) hB  (fun z6 hc6 => ⟨rfl, ?_⟩)) ce_yX7_nodeCount im_yX7_nodeCount se_yX7_nodeCount ml_X7_94 xcl7 (by decide) s_0 dX7_node_6 rfl (Nat.le_of_ble_eq_true rfl) ⟨Nat.le_of_ble_eq_true rfl, Nat.le_of_ble_eq_true rfl⟩ ⟨Nat.le_of_ble_eq_true rfl, Nat.le_of_ble_eq_true rfl⟩
    show X 0 0 WW μ 9 [some (xR 0), some (xI t), some (xI u)] [xI z6, xI t]
    refine r_icmp_lt hL (tgt := 15) dX7_node_9 (by decide) (by omega) (by omega) (fun c9 => ?_) (fun c9 => ?_)
    · skip
      refine r_aload_n hL (x := 0) dX7_node_15 rfl ?_
      refine r_callV hL (st := []) (av := []) (k := 0) (m_X7_measureAnew (μ := μ) hB  (fun μ16c hB16c hG16 => ⟨rfl, ?_⟩)) ce_yX7_measureAnew im_yX7_measureAnew se_yX7_measureAnew ml_X7_111 xcl7 (by decide) s_0 dX7_node_16 rfl (Nat.le_of_ble_eq_true rfl) ⟨Nat.le_of_ble_eq_true rfl, Nat.le_of_ble_eq_true rfl⟩ ⟨Nat.le_of_ble_eq_true rfl, Nat.le_of_ble_eq_true rfl⟩
      show X 0 0 WW μ16c 19 [some (xR 0), some (xI t), some (xI u)] []
      have hF16c : Fr RO μ μ16c := hF.trans hG16
      refine r_iload_n hL (x := u) dX7_node_19 rfl ?_
      by_cases e20 : 0 ≤ u ∧ u ≤ 3
      · skip
        rcases (show u = 0 ∨ u = 1 ∨ u = 2 ∨ u = 3 by omega) with e20 | e20 | e20 | e20
        · skip
          refine r_tableIn hL (tgt := 52) (off := 32) 0 dX7_node_20 (by omega) e20 (by decide) (by decide) rfl (by decide) ?_
          refine r_aload_n hL (x := 0) dX7_node_52 rfl ?_
          refine r_getr hL xcl7 5 (by decide) s_0 (by decide) fl_X7_47 (by decide) f_0_5 dX7_node_53 ?_
          refine r_getr hL xcl6 0 (by decide) s_102 (by decide) fl_X7_168 (by decide) f_102_0 dX7_node_56 ?_
          refine r_iload_n hL (x := t) dX7_node_59 rfl ?_
          refine r_iald hL dX7_node_60 (by decide) s_103 (by decide) (by omega) (by omega) (fun hr60 => ?_)
          obtain ⟨z60, hz60⟩ : ∃ z, z = μ16c 103 t := ⟨_, rfl⟩
          rw [← hz60] at hr60 ⊢
          exact r_iret hL dX7_node_61 rfl (hK _ _ hB16c hF16c (by omega))
        · skip
          refine r_tableIn hL (tgt := 62) (off := 42) 1 dX7_node_20 (by omega) e20 (by decide) (by decide) rfl (by decide) ?_
          refine r_aload_n hL (x := 0) dX7_node_62 rfl ?_
          refine r_getr hL xcl7 5 (by decide) s_0 (by decide) fl_X7_47 (by decide) f_0_5 dX7_node_63 ?_
          refine r_getr hL xcl6 1 (by decide) s_102 (by decide) fl_X7_171 (by decide) f_102_1 dX7_node_66 ?_
          refine r_iload_n hL (x := t) dX7_node_69 rfl ?_
          refine r_iald hL dX7_node_70 (by decide) s_104 (by decide) (by omega) (by omega) (fun hr70 => ?_)
          obtain ⟨z70, hz70⟩ : ∃ z, z = μ16c 104 t := ⟨_, rfl⟩
          rw [← hz70] at hr70 ⊢
          exact r_iret hL dX7_node_71 rfl (hK _ _ hB16c hF16c (by omega))
        · skip
          refine r_tableIn hL (tgt := 72) (off := 52) 2 dX7_node_20 (by omega) e20 (by decide) (by decide) rfl (by decide) ?_
          refine r_aload_n hL (x := 0) dX7_node_72 rfl ?_
          refine r_getr hL xcl7 5 (by decide) s_0 (by decide) fl_X7_47 (by decide) f_0_5 dX7_node_73 ?_
          refine r_getr hL xcl6 2 (by decide) s_102 (by decide) fl_X7_174 (by decide) f_102_2 dX7_node_76 ?_
          refine r_iload_n hL (x := t) dX7_node_79 rfl ?_
          refine r_iald hL dX7_node_80 (by decide) s_105 (by decide) (by omega) (by omega) (fun hr80 => ?_)
          obtain ⟨z80, hz80⟩ : ∃ z, z = μ16c 105 t := ⟨_, rfl⟩
          rw [← hz80] at hr80 ⊢
          exact r_iret hL dX7_node_81 rfl (hK _ _ hB16c hF16c (by omega))
        · skip
          refine r_tableIn hL (tgt := 82) (off := 62) 3 dX7_node_20 (by omega) e20 (by decide) (by decide) rfl (by decide) ?_
          refine r_aload_n hL (x := 0) dX7_node_82 rfl ?_
          refine r_getr hL xcl7 4 (by decide) s_0 (by decide) fl_X7_40 (by decide) f_0_4 dX7_node_83 ?_
          refine r_aload_n hL (x := 0) dX7_node_86 rfl ?_
          refine r_getr hL xcl7 5 (by decide) s_0 (by decide) fl_X7_47 (by decide) f_0_5 dX7_node_87 ?_
          refine r_getr hL xcl6 1 (by decide) s_102 (by decide) fl_X7_171 (by decide) f_102_1 dX7_node_90 ?_
          refine r_iload_n hL (x := t) dX7_node_93 rfl ?_
          refine r_iald hL dX7_node_94 (by decide) s_104 (by decide) (by omega) (by omega) (fun hr94 => ?_)
          obtain ⟨z94, hz94⟩ : ∃ z, z = μ16c 104 t := ⟨_, rfl⟩
          rw [← hz94] at hr94 ⊢
          refine r_callV hL (st := []) (av := [xI z94]) (k := 100) (m_X2_middleOf (μ := μ16c) hB16c z94 (by omega) (fun z95 hc95 => ⟨rfl, ?_⟩)) ce_yX2_middleOf im_yX2_middleOf se_yX2_middleOf ml_X7_177 xcl2 (by decide) s_100 dX7_node_95 rfl (Nat.le_of_ble_eq_true rfl) ⟨Nat.le_of_ble_eq_true rfl, Nat.le_of_ble_eq_true rfl⟩ ⟨Nat.le_of_ble_eq_true rfl, Nat.le_of_ble_eq_true rfl⟩
          show X 0 0 WW μ16c 98 [some (xR 0), some (xI t), some (xI u)] [xI z95]
          exact r_iret hL dX7_node_98 rfl (hK _ _ hB16c hF16c (by omega))
      · skip
        refine r_tableOut hL (tgt := 99) dX7_node_20 (by omega) (by omega) (by decide) ?_
        refine r_ldc hL (n := -1000000002) dX7_node_99 kc_X7_70 (by decide) ?_
        exact r_iret hL dX7_node_101 rfl (hK _ _ hB16c hF16c (by omega))
    · skip
      refine r_ldc hL (n := -1000000001) dX7_node_12 kc_X7_123 (by decide) ?_
      exact r_iret hL dX7_node_14 rfl (hK _ _ hB hF (by omega))

set_option maxHeartbeats 4000000 in
set_option maxRecDepth 20000 in
theorem m_X7_types {K : Option xV → xW → xM → Prop} {μ : xM} (hB0 : BI μ) (t : Int) (ht : xrg t) (u : Int) (hu : xrg u) (hK : ∀ r μ', BI μ' → Fr RO μ μ' → xrg r → K (some (xI r)) WW μ') : xMet yX7_types cX7_types 3 (some .int) 6 148 0 0 [xR 0, xI t, xI u] WW μ K := by
  refine xMet.go RX7 "types" rfl rfl (by decide) [some (xR 0), some (xI t), some (xI u)] (Nat.le_of_ble_eq_true rfl) rfl (fun X hL => ?_)
  have hB := hB0
  have hF : Fr RO μ μ := Fr.rf
  refine r_iload_n hL (x := u) dX7_types_0 rfl ?_
  refine r_if_lt hL (tgt := 15) dX7_types_1 (by decide) (by omega) (fun c1 => ?_) (fun c1 => ?_)
  · skip
    refine r_ldc hL (n := -1000000001) dX7_types_15 kc_X7_123 (by decide) ?_
    exact r_iret hL dX7_types_17 rfl (hK _ _ hB hF (by omega))
  · skip
    refine r_iload_n hL (x := u) dX7_types_4 rfl ?_
    refine r_aload_n hL (x := 0) dX7_types_5 rfl ?_
    refine r_getr hL xcl7 0 (by decide) s_0 (by decide) fl_X7_10 (by decide) f_0_0 dX7_types_6 ?_
    refine r_geti hL xcl5 4 (j' := 4) rfl (by decide) s_1 (by decide) fl_X7_80 (by decide) (by decide) dX7_types_9 (fun hr9 => ?_)
    obtain ⟨z9, hz9⟩ : ∃ z, z = μ 1 4 := ⟨_, rfl⟩
    rw [← hz9] at hr9 ⊢
    have hb9 : ((4 : Int) = 4 → 0 ≤ (μ 1 4) ∧ (μ 1 4) ≤ 8) ∧ ((4 : Int) = 5 → 0 ≤ (μ 1 4) ∧ (μ 1 4) ≤ 2) := hB 1 4
    refine r_icmp_le hL (tgt := 18) dX7_types_12 (by decide) (by omega) (by omega) (fun c12 => ?_) (fun c12 => ?_)
    · skip
      refine r_iload_n hL (x := t) dX7_types_18 rfl ?_
      refine r_if_lt hL (tgt := 29) dX7_types_19 (by decide) (by omega) (fun c19 => ?_) (fun c19 => ?_)
      · skip
        refine r_ldc hL (n := -1000000002) dX7_types_29 kc_X7_70 (by decide) ?_
        exact r_iret hL dX7_types_31 rfl (hK _ _ hB hF (by omega))
      · skip
        refine r_iload_n hL (x := t) dX7_types_22 rfl ?_
        refine r_sipush hL dX7_types_23 (by decide) ?_
        refine r_icmp_le hL (tgt := 32) dX7_types_26 (by decide) (by omega) (by omega) (fun c26 => ?_) (fun c26 => ?_)
        · skip
          refine r_aload_n hL (x := 0) dX7_types_32 rfl ?_
          refine r_callV hL (st := []) (av := []) (k := 0) (m_X7_measureAnew (μ := μ) hB  (fun μ33c hB33c hG33 => ⟨rfl, ?_⟩)) ce_yX7_measureAnew im_yX7_measureAnew se_yX7_measureAnew ml_X7_111 xcl7 (by decide) s_0 dX7_types_33 rfl (Nat.le_of_ble_eq_true rfl) ⟨Nat.le_of_ble_eq_true rfl, Nat.le_of_ble_eq_true rfl⟩ ⟨Nat.le_of_ble_eq_true rfl, Nat.le_of_ble_eq_true rfl⟩
          show X 0 0 WW μ33c 36 [some (xR 0), some (xI t), some (xI u)] []
          have hF33c : Fr RO μ μ33c := hF.trans hG33
          refine r_iload_n hL (x := u) dX7_types_36 rfl ?_
          refine r_if_ne hL (tgt := 57) dX7_types_37 (by decide) (by omega) (fun c37 => ?_) (fun c37 => ?_)
          · skip
            refine r_aload_n hL (x := 0) dX7_types_57 rfl ?_
            refine r_getr hL xcl7 5 (by decide) s_0 (by decide) fl_X7_47 (by decide) f_0_5 dX7_types_58 ?_
            refine r_iload_n hL (x := u) dX7_types_61 rfl ?_
            refine r_iconst hL dX7_types_62 ?_
            refine r_isub hL dX7_types_63 ?_
            refine r_iload_n hL (x := t) dX7_types_64 rfl ?_
            refine r_callV hL (st := []) (av := [xI (u - 1), xI t]) (k := 102) (m_X6_typeOf (μ := μ33c) hB33c (u - 1) (by omega) t (by omega) (fun z65 hc65 => ⟨rfl, ?_⟩)) ce_yX6_typeOf im_yX6_typeOf se_yX6_typeOf ml_X7_183 xcl6 (by decide) s_102 dX7_types_65 rfl (Nat.le_of_ble_eq_true rfl) ⟨Nat.le_of_ble_eq_true rfl, Nat.le_of_ble_eq_true rfl⟩ ⟨Nat.le_of_ble_eq_true rfl, Nat.le_of_ble_eq_true rfl⟩
            show X 0 0 WW μ33c 68 [some (xR 0), some (xI t), some (xI u)] [xI z65]
            exact r_iret hL dX7_types_68 rfl (hK _ _ hB33c hF33c (by omega))
          · skip
            refine r_aload_n hL (x := 0) dX7_types_40 rfl ?_
            refine r_getr hL xcl7 0 (by decide) s_0 (by decide) fl_X7_10 (by decide) f_0_0 dX7_types_41 ?_
            refine r_geti hL xcl5 4 (j' := 4) rfl (by decide) s_1 (by decide) fl_X7_80 (by decide) (by decide) dX7_types_44 (fun hr44 => ?_)
            obtain ⟨z44, hz44⟩ : ∃ z, z = μ33c 1 4 := ⟨_, rfl⟩
            rw [← hz44] at hr44 ⊢
            have hb44 : ((4 : Int) = 4 → 0 ≤ (μ33c 1 4) ∧ (μ33c 1 4) ≤ 8) ∧ ((4 : Int) = 5 → 0 ≤ (μ33c 1 4) ∧ (μ33c 1 4) ≤ 2) := hB33c 1 4
            refine r_aload_n hL (x := 0) dX7_types_47 rfl ?_
            refine r_getr hL xcl7 5 (by decide) s_0 (by decide) fl_X7_47 (by decide) f_0_5 dX7_types_48 ?_
            refine r_iload_n hL (x := t) dX7_types_51 rfl ?_
            refine r_callV hL (st := [xI z44]) (av := [xI t]) (k := 102) (m_X6_nodesUpTo (μ := μ33c) hB33c t (by omega) (fun z52 hc52 => ⟨rfl, ?_⟩)) ce_yX6_nodesUpTo im_yX6_nodesUpTo se_yX6_nodesUpTo ml_X7_180 xcl6 (by decide) s_102 dX7_types_52 rfl (Nat.le_of_ble_eq_true rfl) ⟨Nat.le_of_ble_eq_true rfl, Nat.le_of_ble_eq_true rfl⟩ ⟨Nat.le_of_ble_eq_true rfl, Nat.le_of_ble_eq_true rfl⟩
            show X 0 0 WW μ33c 55 [some (xR 0), some (xI t), some (xI u)] [xI z52, xI z44]
            refine r_isub hL dX7_types_55 ?_
            exact r_iret hL dX7_types_56 rfl (hK _ _ hB33c hF33c (by omega))
        · skip
          refine r_ldc hL (n := -1000000002) dX7_types_29 kc_X7_70 (by decide) ?_
          exact r_iret hL dX7_types_31 rfl (hK _ _ hB hF (by omega))
    · skip
      refine r_ldc hL (n := -1000000001) dX7_types_15 kc_X7_123 (by decide) ?_
      exact r_iret hL dX7_types_17 rfl (hK _ _ hB hF (by omega))

set_option maxHeartbeats 4000000 in
set_option maxRecDepth 20000 in
theorem m_X7_middle {K : Option xV → xW → xM → Prop} {μ : xM} (hB0 : BI μ) (t : Int) (ht : xrg t) (hK : ∀ r μ', BI μ' → Fr RO μ μ' → xrg r → K (some (xI r)) WW μ') : xMet yX7_middle cX7_middle 2 (some .int) 6 148 0 0 [xR 0, xI t] WW μ K := by
  refine xMet.go RX7 "middle" rfl rfl (by decide) [some (xR 0), some (xI t)] (Nat.le_of_ble_eq_true rfl) rfl (fun X hL => ?_)
  have hB := hB0
  have hF : Fr RO μ μ := Fr.rf
  refine r_aload_n hL (x := 0) dX7_middle_0 rfl ?_
  refine r_iload_n hL (x := t) dX7_middle_1 rfl ?_
  refine r_callV hL (st := []) (av := [xI t]) (k := 0) (m_X7_areTales (μ := μ) hB t (by omega) (fun z2 hc2 => ⟨rfl, ?_⟩)) ce_yX7_areTales im_yX7_areTales se_yX7_areTales ml_X7_187 xcl7 (by decide) s_0 dX7_middle_2 rfl (Nat.le_of_ble_eq_true rfl) ⟨Nat.le_of_ble_eq_true rfl, Nat.le_of_ble_eq_true rfl⟩ ⟨Nat.le_of_ble_eq_true rfl, Nat.le_of_ble_eq_true rfl⟩
  show X 0 0 WW μ 5 [some (xR 0), some (xI t)] [xI z2]
  refine r_if_ne hL (tgt := 11) dX7_middle_5 (by decide) (by omega) (fun c5 => ?_) (fun c5 => ?_)
  · skip
    refine r_aload_n hL (x := 0) dX7_middle_11 rfl ?_
    refine r_callV hL (st := []) (av := []) (k := 0) (m_X7_measureAnew (μ := μ) hB  (fun μ12c hB12c hG12 => ⟨rfl, ?_⟩)) ce_yX7_measureAnew im_yX7_measureAnew se_yX7_measureAnew ml_X7_111 xcl7 (by decide) s_0 dX7_middle_12 rfl (Nat.le_of_ble_eq_true rfl) ⟨Nat.le_of_ble_eq_true rfl, Nat.le_of_ble_eq_true rfl⟩ ⟨Nat.le_of_ble_eq_true rfl, Nat.le_of_ble_eq_true rfl⟩
    show X 0 0 WW μ12c 15 [some (xR 0), some (xI t)] []
    have hF12c : Fr RO μ μ12c := hF.trans hG12
    refine r_aload_n hL (x := 0) dX7_middle_15 rfl ?_
    refine r_getr hL xcl7 4 (by decide) s_0 (by decide) fl_X7_40 (by decide) f_0_4 dX7_middle_16 ?_
    refine r_iload_n hL (x := t) dX7_middle_19 rfl ?_
    refine r_callV hL (st := []) (av := [xI t]) (k := 100) (m_X2_middleOf (μ := μ12c) hB12c t (by omega) (fun z20 hc20 => ⟨rfl, ?_⟩)) ce_yX2_middleOf im_yX2_middleOf se_yX2_middleOf ml_X7_177 xcl2 (by decide) s_100 dX7_middle_20 rfl (Nat.le_of_ble_eq_true rfl) ⟨Nat.le_of_ble_eq_true rfl, Nat.le_of_ble_eq_true rfl⟩ ⟨Nat.le_of_ble_eq_true rfl, Nat.le_of_ble_eq_true rfl⟩
    show X 0 0 WW μ12c 23 [some (xR 0), some (xI t)] [xI z20]
    exact r_iret hL dX7_middle_23 rfl (hK _ _ hB12c hF12c (by omega))
  · skip
    refine r_ldc hL (n := -1000000001) dX7_middle_8 kc_X7_123 (by decide) ?_
    exact r_iret hL dX7_middle_10 rfl (hK _ _ hB hF (by omega))

set_option maxHeartbeats 4000000 in
set_option maxRecDepth 20000 in
theorem m_X7_common {K : Option xV → xW → xM → Prop} {μ : xM} (hB0 : BI μ) (t : Int) (ht : xrg t) (hK : ∀ r, xrg r → K (some (xI r)) WW μ) : xMet yX7_common cX7_common 2 (some .int) 3 68 0 0 [xR 0, xI t] WW μ K := by
  refine xMet.go RX7 "common" rfl rfl (by decide) [some (xR 0), some (xI t)] (Nat.le_of_ble_eq_true rfl) rfl (fun X hL => ?_)
  have hB := hB0
  refine r_aload_n hL (x := 0) dX7_common_0 rfl ?_
  refine r_iload_n hL (x := t) dX7_common_1 rfl ?_
  refine r_callV hL (st := []) (av := [xI t]) (k := 0) (m_X7_areTales (μ := μ) hB t (by omega) (fun z2 hc2 => ⟨rfl, ?_⟩)) ce_yX7_areTales im_yX7_areTales se_yX7_areTales ml_X7_187 xcl7 (by decide) s_0 dX7_common_2 rfl (Nat.le_of_ble_eq_true rfl) ⟨Nat.le_of_ble_eq_true rfl, Nat.le_of_ble_eq_true rfl⟩ ⟨Nat.le_of_ble_eq_true rfl, Nat.le_of_ble_eq_true rfl⟩
  show X 0 0 WW μ 5 [some (xR 0), some (xI t)] [xI z2]
  refine r_if_ne hL (tgt := 11) dX7_common_5 (by decide) (by omega) (fun c5 => ?_) (fun c5 => ?_)
  · skip
    refine r_aload_n hL (x := 0) dX7_common_11 rfl ?_
    refine r_getr hL xcl7 0 (by decide) s_0 (by decide) fl_X7_10 (by decide) f_0_0 dX7_common_12 ?_
    refine r_iload_n hL (x := t) dX7_common_15 rfl ?_
    refine r_callV hL (st := []) (av := [xI t]) (k := 1) (m_X5_motifsOfAll (μ := μ) hB t (by omega) (fun z16 hc16 => ⟨rfl, ?_⟩)) ce_yX5_motifsOfAll im_yX5_motifsOfAll se_yX5_motifsOfAll ml_X7_104 xcl5 (by decide) s_1 dX7_common_16 rfl (Nat.le_of_ble_eq_true rfl) ⟨Nat.le_of_ble_eq_true rfl, Nat.le_of_ble_eq_true rfl⟩ ⟨Nat.le_of_ble_eq_true rfl, Nat.le_of_ble_eq_true rfl⟩
    show X 0 0 WW μ 19 [some (xR 0), some (xI t)] [xI z16]
    exact r_iret hL dX7_common_19 rfl (hK _ (by omega))
  · skip
    refine r_ldc hL (n := -1000000001) dX7_common_8 kc_X7_123 (by decide) ?_
    exact r_iret hL dX7_common_10 rfl (hK _ (by omega))

set_option maxHeartbeats 4000000 in
set_option maxRecDepth 20000 in
theorem m_X7_wandered {K : Option xV → xW → xM → Prop} {μ : xM} (hB0 : BI μ) (t : Int) (ht : xrg t) (u : Int) (hu : xrg u) (hK : ∀ r, xrg r → K (some (xI r)) WW μ) : xMet yX7_wandered cX7_wandered 3 (some .int) 2 48 0 0 [xR 0, xI t, xI u] WW μ K := by
  refine xMet.go RX7 "wandered" rfl rfl (by decide) [some (xR 0), some (xI t), some (xI u)] (Nat.le_of_ble_eq_true rfl) rfl (fun X hL => ?_)
  have hB := hB0
  refine r_iload_n hL (x := t) dX7_wandered_0 rfl ?_
  refine r_callS hL (st := []) (av := [xI t]) (m_X7_arePlaces (μ := μ) t (by omega) (fun z1 hc1 => ⟨rfl, ?_⟩)) ce_yX7_arePlaces sm_yX7_arePlaces ml_X7_190 dX7_wandered_1 rfl (Nat.le_of_ble_eq_true rfl) ⟨Nat.le_of_ble_eq_true rfl, Nat.le_of_ble_eq_true rfl⟩ ⟨Nat.le_of_ble_eq_true rfl, Nat.le_of_ble_eq_true rfl⟩
  show X 0 0 WW μ 4 [some (xR 0), some (xI t), some (xI u)] [xI z1]
  refine r_if_ne hL (tgt := 10) dX7_wandered_4 (by decide) (by omega) (fun c4 => ?_) (fun c4 => ?_)
  · skip
    refine r_iload_n hL (x := u) dX7_wandered_10 rfl ?_
    by_cases e11_0 : u = 0
    · skip
      refine r_lookup hL (tgt := 36) (off := 25) dX7_wandered_11 (by omega) (by decide) (by rw [e11_0]; decide) (by decide) ?_
      refine r_iload_n hL (x := t) dX7_wandered_36 rfl ?_
      refine r_aload_n hL (x := 0) dX7_wandered_37 rfl ?_
      refine r_getr hL xcl7 0 (by decide) s_0 (by decide) fl_X7_10 (by decide) f_0_0 dX7_wandered_38 ?_
      refine r_getr hL xcl5 3 (by decide) s_1 (by decide) fl_X7_132 (by decide) f_1_3 dX7_wandered_41 ?_
      refine r_callS hL (st := []) (av := [xI t, xR 5]) (m_X7_hull (μ := μ) t (by omega) 5 (by decide) s_5 (fun z44 hc44 => ⟨rfl, ?_⟩)) ce_yX7_hull sm_yX7_hull ml_X7_135 dX7_wandered_44 rfl (Nat.le_of_ble_eq_true rfl) ⟨Nat.le_of_ble_eq_true rfl, Nat.le_of_ble_eq_true rfl⟩ ⟨Nat.le_of_ble_eq_true rfl, Nat.le_of_ble_eq_true rfl⟩
      show X 0 0 WW μ 47 [some (xR 0), some (xI t), some (xI u)] [xI z44]
      refine r_callS hL (st := []) (av := [xI z44]) (m_X7_roadsOf (μ := μ) z44 (by omega) (fun z47 hc47 => ⟨rfl, ?_⟩)) ce_yX7_roadsOf sm_yX7_roadsOf ml_X7_139 dX7_wandered_47 rfl (Nat.le_of_ble_eq_true rfl) ⟨Nat.le_of_ble_eq_true rfl, Nat.le_of_ble_eq_true rfl⟩ ⟨Nat.le_of_ble_eq_true rfl, Nat.le_of_ble_eq_true rfl⟩
      show X 0 0 WW μ 50 [some (xR 0), some (xI t), some (xI u)] [xI z47]
      exact r_iret hL dX7_wandered_50 rfl (hK _ (by omega))
    by_cases e11_1 : u = 1
    · skip
      refine r_lookup hL (tgt := 51) (off := 40) dX7_wandered_11 (by omega) (by decide) (by rw [e11_1]; decide) (by decide) ?_
      refine r_iload_n hL (x := t) dX7_wandered_51 rfl ?_
      refine r_aload_n hL (x := 0) dX7_wandered_52 rfl ?_
      refine r_getr hL xcl7 0 (by decide) s_0 (by decide) fl_X7_10 (by decide) f_0_0 dX7_wandered_53 ?_
      refine r_getr hL xcl5 3 (by decide) s_1 (by decide) fl_X7_132 (by decide) f_1_3 dX7_wandered_56 ?_
      refine r_callS hL (st := []) (av := [xI t, xR 5]) (m_X7_hull (μ := μ) t (by omega) 5 (by decide) s_5 (fun z59 hc59 => ⟨rfl, ?_⟩)) ce_yX7_hull sm_yX7_hull ml_X7_135 dX7_wandered_59 rfl (Nat.le_of_ble_eq_true rfl) ⟨Nat.le_of_ble_eq_true rfl, Nat.le_of_ble_eq_true rfl⟩ ⟨Nat.le_of_ble_eq_true rfl, Nat.le_of_ble_eq_true rfl⟩
      show X 0 0 WW μ 62 [some (xR 0), some (xI t), some (xI u)] [xI z59]
      exact r_iret hL dX7_wandered_62 rfl (hK _ (by omega))
    refine r_lookup hL (tgt := 63) (off := 52) dX7_wandered_11 (by omega) (by decide) (by simp [Op.lookupswitch.offset, e11_0, Ne.symm e11_0, e11_1, Ne.symm e11_1]) (by decide) ?_
    refine r_ldc hL (n := -1000000002) dX7_wandered_63 kc_X7_70 (by decide) ?_
    exact r_iret hL dX7_wandered_65 rfl (hK _ (by omega))
  · skip
    refine r_ldc hL (n := -1000000001) dX7_wandered_7 kc_X7_123 (by decide) ?_
    exact r_iret hL dX7_wandered_9 rfl (hK _ (by omega))

set_option maxHeartbeats 4000000 in
set_option maxRecDepth 20000 in
theorem m_X7_take {K : Option xV → xW → xM → Prop} {μ : xM} (hB0 : BI μ) (t : Int) (ht : xrg t) (hK : ∀ r μ', BI μ' → xrg r → K (some (xI r)) WW μ') : xMet yX7_take cX7_take 2 (some .int) 4 88 0 0 [xR 0, xI t] WW μ K := by
  refine xMet.go RX7 "take" rfl rfl (by decide) [some (xR 0), some (xI t)] (Nat.le_of_ble_eq_true rfl) rfl (fun X hL => ?_)
  have hB := hB0
  refine r_aload_n hL (x := 0) dX7_take_0 rfl ?_
  refine r_iload_n hL (x := t) dX7_take_1 rfl ?_
  refine r_callV hL (st := []) (av := [xI t]) (k := 0) (m_X7_isTale (μ := μ) hB t (by omega) (fun z2 hc2 => ⟨rfl, ?_⟩)) ce_yX7_isTale im_yX7_isTale se_yX7_isTale ml_X7_119 xcl7 (by decide) s_0 dX7_take_2 rfl (Nat.le_of_ble_eq_true rfl) ⟨Nat.le_of_ble_eq_true rfl, Nat.le_of_ble_eq_true rfl⟩ ⟨Nat.le_of_ble_eq_true rfl, Nat.le_of_ble_eq_true rfl⟩
  show X 0 0 WW μ 5 [some (xR 0), some (xI t)] [xI z2]
  refine r_if_ne hL (tgt := 11) dX7_take_5 (by decide) (by omega) (fun c5 => ?_) (fun c5 => ?_)
  · skip
    refine r_aload_n hL (x := 0) dX7_take_11 rfl ?_
    refine r_callV hL (st := []) (av := []) (k := 0) (m_X7_beginDeed (μ := μ) hB  (fun μ12c hB12c => ⟨rfl, ?_⟩)) ce_yX7_beginDeed im_yX7_beginDeed se_yX7_beginDeed ml_X7_84 xcl7 (by decide) s_0 dX7_take_12 rfl (Nat.le_of_ble_eq_true rfl) ⟨Nat.le_of_ble_eq_true rfl, Nat.le_of_ble_eq_true rfl⟩ ⟨Nat.le_of_ble_eq_true rfl, Nat.le_of_ble_eq_true rfl⟩
    show X 0 0 WW μ12c 15 [some (xR 0), some (xI t)] []
    refine r_aload_n hL (x := 0) dX7_take_15 rfl ?_
    refine r_getr hL xcl7 0 (by decide) s_0 (by decide) fl_X7_10 (by decide) f_0_0 dX7_take_16 ?_
    refine r_iload_n hL (x := t) dX7_take_19 rfl ?_
    refine r_callV hL (st := []) (av := [xI t]) (k := 1) (m_X5_remove (μ := μ12c) hB12c t (by omega) (fun μ20c hB20c => ⟨rfl, ?_⟩)) ce_yX5_remove im_yX5_remove se_yX5_remove ml_X7_193 xcl5 (by decide) s_1 dX7_take_20 rfl (Nat.le_of_ble_eq_true rfl) ⟨Nat.le_of_ble_eq_true rfl, Nat.le_of_ble_eq_true rfl⟩ ⟨Nat.le_of_ble_eq_true rfl, Nat.le_of_ble_eq_true rfl⟩
    show X 0 0 WW μ20c 23 [some (xR 0), some (xI t)] []
    refine r_aload_n hL (x := 0) dX7_take_23 rfl ?_
    refine r_getr hL xcl7 0 (by decide) s_0 (by decide) fl_X7_10 (by decide) f_0_0 dX7_take_24 ?_
    refine r_geti hL xcl5 4 (j' := 4) rfl (by decide) s_1 (by decide) fl_X7_80 (by decide) (by decide) dX7_take_27 (fun hr27 => ?_)
    obtain ⟨z27, hz27⟩ : ∃ z, z = μ20c 1 4 := ⟨_, rfl⟩
    rw [← hz27] at hr27 ⊢
    have hb27 : ((4 : Int) = 4 → 0 ≤ (μ20c 1 4) ∧ (μ20c 1 4) ≤ 8) ∧ ((4 : Int) = 5 → 0 ≤ (μ20c 1 4) ∧ (μ20c 1 4) ≤ 2) := hB20c 1 4
    exact r_iret hL dX7_take_30 rfl (hK _ _ hB20c (by omega))
  · skip
    refine r_ldc hL (n := -1000000001) dX7_take_8 kc_X7_123 (by decide) ?_
    exact r_iret hL dX7_take_10 rfl (hK _ _ hB (by omega))

set_option maxHeartbeats 4000000 in
set_option maxRecDepth 20000 in
theorem m_X7_cost {K : Option xV → xW → xM → Prop} {μ : xM} (hB0 : BI μ) (t : Int) (ht : xrg t) (u : Int) (hu : xrg u) (hK : ∀ r μ', BI μ' → xrg r → K (some (xI r)) WW μ') : xMet yX7_cost cX7_cost 5 (some .int) 4 88 0 0 [xR 0, xI t, xI u] WW μ K := by
  refine xMet.go RX7 "cost" rfl rfl (by decide) [some (xR 0), some (xI t), some (xI u), none, none] (Nat.le_of_ble_eq_true rfl) rfl (fun X hL => ?_)
  have hB := hB0
  refine r_iload_n hL (x := t) dX7_cost_0 rfl ?_
  refine r_if_lt hL (tgt := 9) dX7_cost_1 (by decide) (by omega) (fun c1 => ?_) (fun c1 => ?_)
  · skip
    refine r_ldc hL (n := -1000000002) dX7_cost_9 kc_X7_70 (by decide) ?_
    exact r_iret hL dX7_cost_11 rfl (hK _ _ hB (by omega))
  · skip
    refine r_iload_n hL (x := t) dX7_cost_4 rfl ?_
    refine r_iconst hL dX7_cost_5 ?_
    refine r_icmp_lt hL (tgt := 12) dX7_cost_6 (by decide) (by omega) (by omega) (fun c6 => ?_) (fun c6 => ?_)
    · skip
      refine r_iload_n hL (x := t) dX7_cost_12 rfl ?_
      refine r_iconst hL dX7_cost_13 ?_
      refine r_icmp_ne hL (tgt := 21) dX7_cost_14 (by decide) (by omega) (by omega) (fun c14 => ?_) (fun c14 => ?_)
      · skip
        refine r_iconst hL dX7_cost_21 ?_
        refine r_istore_n hL (lo' := [some (xR 0), some (xI t), some (xI u), some (xI 1), none]) dX7_cost_22 (by decide) rfl ?_
        refine r_iload_n hL (x := u) dX7_cost_23 rfl ?_
        refine r_iload_n hL (x := 1) dX7_cost_24 rfl ?_
        refine r_icmp_lt hL (tgt := 34) dX7_cost_25 (by decide) (by omega) (by omega) (fun c25 => ?_) (fun c25 => ?_)
        · skip
          refine r_ldc hL (n := -1000000002) dX7_cost_34 kc_X7_70 (by decide) ?_
          exact r_iret hL dX7_cost_36 rfl (hK _ _ hB (by omega))
        · skip
          refine r_iload_n hL (x := u) dX7_cost_28 rfl ?_
          refine r_bipush hL dX7_cost_29 (by decide) ?_
          refine r_icmp_le hL (tgt := 37) dX7_cost_31 (by decide) (by omega) (by omega) (fun c31 => ?_) (fun c31 => ?_)
          · skip
            refine r_aload_n hL (x := 0) dX7_cost_37 rfl ?_
            refine r_callV hL (st := []) (av := []) (k := 0) (m_X7_beginDeed (μ := μ) hB  (fun μ38c hB38c => ⟨rfl, ?_⟩)) ce_yX7_beginDeed im_yX7_beginDeed se_yX7_beginDeed ml_X7_84 xcl7 (by decide) s_0 dX7_cost_38 rfl (Nat.le_of_ble_eq_true rfl) ⟨Nat.le_of_ble_eq_true rfl, Nat.le_of_ble_eq_true rfl⟩ ⟨Nat.le_of_ble_eq_true rfl, Nat.le_of_ble_eq_true rfl⟩
            show X 0 0 WW μ38c 41 [some (xR 0), some (xI t), some (xI u), some (xI 1), none] []
            refine r_aload_n hL (x := 0) dX7_cost_41 rfl ?_
            refine r_getr hL xcl7 0 (by decide) s_0 (by decide) fl_X7_10 (by decide) f_0_0 dX7_cost_42 ?_
            refine r_getr hL xcl5 2 (by decide) s_1 (by decide) fl_X7_146 (by decide) f_1_2 dX7_cost_45 ?_
            refine r_iload_n hL (x := t) dX7_cost_48 rfl ?_
            refine r_iald hL dX7_cost_49 (by decide) s_4 (by decide) (by omega) (by omega) (fun hr49 => ?_)
            obtain ⟨z49, hz49⟩ : ∃ z, z = μ38c 4 t := ⟨_, rfl⟩
            rw [← hz49] at hr49 ⊢
            have hb49 : 0 ≤ (μ38c 4 t) ∧ (μ38c 4 t) ≤ 9 := hB38c 4 t
            refine r_istore hL (lo' := [some (xR 0), some (xI t), some (xI u), some (xI 1), some (xI z49)]) dX7_cost_50 (by decide) rfl ?_
            refine r_aload_n hL (x := 0) dX7_cost_52 rfl ?_
            refine r_getr hL xcl7 0 (by decide) s_0 (by decide) fl_X7_10 (by decide) f_0_0 dX7_cost_53 ?_
            refine r_getr hL xcl5 2 (by decide) s_1 (by decide) fl_X7_146 (by decide) f_1_2 dX7_cost_56 ?_
            refine r_iload_n hL (x := t) dX7_cost_59 rfl ?_
            refine r_iload_n hL (x := u) dX7_cost_60 rfl ?_
            refine r_iast hL dX7_cost_61 (by decide) s_4 (by decide) (by omega) (by omega) (by omega) (fun μ1 hm1 => ?_)
            have hB1 : BI μ1 := by rw [hm1]; exact hB38c.up (by show 0 ≤ u ∧ u ≤ 9; omega)
            refine r_iload hL (x := z49) dX7_cost_62 rfl ?_
            exact r_iret hL dX7_cost_64 rfl (hK _ _ hB1 (by omega))
          · skip
            refine r_ldc hL (n := -1000000002) dX7_cost_34 kc_X7_70 (by decide) ?_
            exact r_iret hL dX7_cost_36 rfl (hK _ _ hB (by omega))
      · skip
        refine r_iconst hL dX7_cost_17 ?_
        refine r_goto hL (tgt := 22) dX7_cost_18 (by decide) ?_
        refine r_istore_n hL (lo' := [some (xR 0), some (xI t), some (xI u), some (xI 0), none]) dX7_cost_22 (by decide) rfl ?_
        refine r_iload_n hL (x := u) dX7_cost_23 rfl ?_
        refine r_iload_n hL (x := 0) dX7_cost_24 rfl ?_
        refine r_icmp_lt hL (tgt := 34) dX7_cost_25 (by decide) (by omega) (by omega) (fun c25 => ?_) (fun c25 => ?_)
        · skip
          refine r_ldc hL (n := -1000000002) dX7_cost_34 kc_X7_70 (by decide) ?_
          exact r_iret hL dX7_cost_36 rfl (hK _ _ hB (by omega))
        · skip
          refine r_iload_n hL (x := u) dX7_cost_28 rfl ?_
          refine r_bipush hL dX7_cost_29 (by decide) ?_
          refine r_icmp_le hL (tgt := 37) dX7_cost_31 (by decide) (by omega) (by omega) (fun c31 => ?_) (fun c31 => ?_)
          · skip
            refine r_aload_n hL (x := 0) dX7_cost_37 rfl ?_
            refine r_callV hL (st := []) (av := []) (k := 0) (m_X7_beginDeed (μ := μ) hB  (fun μ38c hB38c => ⟨rfl, ?_⟩)) ce_yX7_beginDeed im_yX7_beginDeed se_yX7_beginDeed ml_X7_84 xcl7 (by decide) s_0 dX7_cost_38 rfl (Nat.le_of_ble_eq_true rfl) ⟨Nat.le_of_ble_eq_true rfl, Nat.le_of_ble_eq_true rfl⟩ ⟨Nat.le_of_ble_eq_true rfl, Nat.le_of_ble_eq_true rfl⟩
            show X 0 0 WW μ38c 41 [some (xR 0), some (xI t), some (xI u), some (xI 0), none] []
            refine r_aload_n hL (x := 0) dX7_cost_41 rfl ?_
            refine r_getr hL xcl7 0 (by decide) s_0 (by decide) fl_X7_10 (by decide) f_0_0 dX7_cost_42 ?_
            refine r_getr hL xcl5 2 (by decide) s_1 (by decide) fl_X7_146 (by decide) f_1_2 dX7_cost_45 ?_
            refine r_iload_n hL (x := t) dX7_cost_48 rfl ?_
            refine r_iald hL dX7_cost_49 (by decide) s_4 (by decide) (by omega) (by omega) (fun hr49 => ?_)
            obtain ⟨z49, hz49⟩ : ∃ z, z = μ38c 4 t := ⟨_, rfl⟩
            rw [← hz49] at hr49 ⊢
            have hb49 : 0 ≤ (μ38c 4 t) ∧ (μ38c 4 t) ≤ 9 := hB38c 4 t
            refine r_istore hL (lo' := [some (xR 0), some (xI t), some (xI u), some (xI 0), some (xI z49)]) dX7_cost_50 (by decide) rfl ?_
            refine r_aload_n hL (x := 0) dX7_cost_52 rfl ?_
            refine r_getr hL xcl7 0 (by decide) s_0 (by decide) fl_X7_10 (by decide) f_0_0 dX7_cost_53 ?_
            refine r_getr hL xcl5 2 (by decide) s_1 (by decide) fl_X7_146 (by decide) f_1_2 dX7_cost_56 ?_
            refine r_iload_n hL (x := t) dX7_cost_59 rfl ?_
            refine r_iload_n hL (x := u) dX7_cost_60 rfl ?_
            refine r_iast hL dX7_cost_61 (by decide) s_4 (by decide) (by omega) (by omega) (by omega) (fun μ2 hm2 => ?_)
            have hB2 : BI μ2 := by rw [hm2]; exact hB38c.up (by show 0 ≤ u ∧ u ≤ 9; omega)
            refine r_iload hL (x := z49) dX7_cost_62 rfl ?_
            exact r_iret hL dX7_cost_64 rfl (hK _ _ hB2 (by omega))
          · skip
            refine r_ldc hL (n := -1000000002) dX7_cost_34 kc_X7_70 (by decide) ?_
            exact r_iret hL dX7_cost_36 rfl (hK _ _ hB (by omega))
    · skip
      refine r_ldc hL (n := -1000000002) dX7_cost_9 kc_X7_70 (by decide) ?_
      exact r_iret hL dX7_cost_11 rfl (hK _ _ hB (by omega))

set_option maxHeartbeats 4000000 in
set_option maxRecDepth 20000 in
theorem m_X7_kind {K : Option xV → xW → xM → Prop} {μ : xM} (hB0 : BI μ) (t : Int) (ht : xrg t) (hK : ∀ r μ', BI μ' → xrg r → K (some (xI r)) WW μ') : xMet yX7_kind cX7_kind 3 (some .int) 4 88 0 0 [xR 0, xI t] WW μ K := by
  refine xMet.go RX7 "kind" rfl rfl (by decide) [some (xR 0), some (xI t), none] (Nat.le_of_ble_eq_true rfl) rfl (fun X hL => ?_)
  have hB := hB0
  refine r_iload_n hL (x := t) dX7_kind_0 rfl ?_
  refine r_if_lt hL (tgt := 9) dX7_kind_1 (by decide) (by omega) (fun c1 => ?_) (fun c1 => ?_)
  · skip
    refine r_ldc hL (n := -1000000002) dX7_kind_9 kc_X7_70 (by decide) ?_
    exact r_iret hL dX7_kind_11 rfl (hK _ _ hB (by omega))
  · skip
    refine r_iload_n hL (x := t) dX7_kind_4 rfl ?_
    refine r_iconst hL dX7_kind_5 ?_
    refine r_icmp_le hL (tgt := 12) dX7_kind_6 (by decide) (by omega) (by omega) (fun c6 => ?_) (fun c6 => ?_)
    · skip
      refine r_aload_n hL (x := 0) dX7_kind_12 rfl ?_
      refine r_callV hL (st := []) (av := []) (k := 0) (m_X7_beginDeed (μ := μ) hB  (fun μ13c hB13c => ⟨rfl, ?_⟩)) ce_yX7_beginDeed im_yX7_beginDeed se_yX7_beginDeed ml_X7_84 xcl7 (by decide) s_0 dX7_kind_13 rfl (Nat.le_of_ble_eq_true rfl) ⟨Nat.le_of_ble_eq_true rfl, Nat.le_of_ble_eq_true rfl⟩ ⟨Nat.le_of_ble_eq_true rfl, Nat.le_of_ble_eq_true rfl⟩
      show X 0 0 WW μ13c 16 [some (xR 0), some (xI t), none] []
      refine r_aload_n hL (x := 0) dX7_kind_16 rfl ?_
      refine r_getr hL xcl7 0 (by decide) s_0 (by decide) fl_X7_10 (by decide) f_0_0 dX7_kind_17 ?_
      refine r_geti hL xcl5 5 (j' := 5) rfl (by decide) s_1 (by decide) fl_X7_91 (by decide) (by decide) dX7_kind_20 (fun hr20 => ?_)
      obtain ⟨z20, hz20⟩ : ∃ z, z = μ13c 1 5 := ⟨_, rfl⟩
      rw [← hz20] at hr20 ⊢
      have hb20 : ((5 : Int) = 4 → 0 ≤ (μ13c 1 5) ∧ (μ13c 1 5) ≤ 8) ∧ ((5 : Int) = 5 → 0 ≤ (μ13c 1 5) ∧ (μ13c 1 5) ≤ 2) := hB13c 1 5
      refine r_istore_n hL (lo' := [some (xR 0), some (xI t), some (xI z20)]) dX7_kind_23 (by decide) rfl ?_
      refine r_aload_n hL (x := 0) dX7_kind_24 rfl ?_
      refine r_getr hL xcl7 0 (by decide) s_0 (by decide) fl_X7_10 (by decide) f_0_0 dX7_kind_25 ?_
      refine r_iload_n hL (x := t) dX7_kind_28 rfl ?_
      refine r_puti hL xcl5 5 (j' := 5) rfl (by decide) s_1 (by decide) fl_X7_91 rfl rfl (by omega) dX7_kind_29 (fun μ1 hm1 => ?_)
      have hB1 : BI μ1 := by rw [hm1]; exact hB13c.up (by show ((5 : Int) = 4 → 0 ≤ t ∧ t ≤ 8) ∧ ((5 : Int) = 5 → 0 ≤ t ∧ t ≤ 2); omega)
      refine r_iload_n hL (x := z20) dX7_kind_32 rfl ?_
      exact r_iret hL dX7_kind_33 rfl (hK _ _ hB1 (by omega))
    · skip
      refine r_ldc hL (n := -1000000002) dX7_kind_9 kc_X7_70 (by decide) ?_
      exact r_iret hL dX7_kind_11 rfl (hK _ _ hB (by omega))

set_option maxHeartbeats 4000000 in
set_option maxRecDepth 20000 in
theorem m_X7_road {K : Option xV → xW → xM → Prop} {μ : xM} (hB0 : BI μ) (t : Int) (ht : xrg t) (u : Int) (hu : xrg u) (v : Int) (hv : xrg v) (hK : ∀ r μ', BI μ' → xrg r → K (some (xI r)) WW μ') : xMet yX7_road cX7_road 4 (some .int) 4 88 0 0 [xR 0, xI t, xI u, xI v] WW μ K := by
  refine xMet.go RX7 "road" rfl rfl (by decide) [some (xR 0), some (xI t), some (xI u), some (xI v)] (Nat.le_of_ble_eq_true rfl) rfl (fun X hL => ?_)
  have hB := hB0
  refine r_iload_n hL (x := t) dX7_road_0 rfl ?_
  refine r_callS hL (st := []) (av := [xI t]) (m_X7_isPlace (μ := μ) t (by omega) (fun z1 hc1 => ⟨rfl, ?_⟩)) ce_yX7_isPlace sm_yX7_isPlace ml_X7_197 dX7_road_1 rfl (Nat.le_of_ble_eq_true rfl) ⟨Nat.le_of_ble_eq_true rfl, Nat.le_of_ble_eq_true rfl⟩ ⟨Nat.le_of_ble_eq_true rfl, Nat.le_of_ble_eq_true rfl⟩
  show X 0 0 WW μ 4 [some (xR 0), some (xI t), some (xI u), some (xI v)] [xI z1]
  refine r_if_eq hL (tgt := 19) dX7_road_4 (by decide) (by omega) (fun c4 => ?_) (fun c4 => ?_)
  · skip
    refine r_ldc hL (n := -1000000001) dX7_road_19 kc_X7_123 (by decide) ?_
    exact r_iret hL dX7_road_21 rfl (hK _ _ hB (by omega))
  · skip
    refine r_iload_n hL (x := u) dX7_road_7 rfl ?_
    refine r_callS hL (st := []) (av := [xI u]) (m_X7_isPlace (μ := μ) u (by omega) (fun z8 hc8 => ⟨rfl, ?_⟩)) ce_yX7_isPlace sm_yX7_isPlace ml_X7_197 dX7_road_8 rfl (Nat.le_of_ble_eq_true rfl) ⟨Nat.le_of_ble_eq_true rfl, Nat.le_of_ble_eq_true rfl⟩ ⟨Nat.le_of_ble_eq_true rfl, Nat.le_of_ble_eq_true rfl⟩
    show X 0 0 WW μ 11 [some (xR 0), some (xI t), some (xI u), some (xI v)] [xI z8]
    refine r_if_eq hL (tgt := 19) dX7_road_11 (by decide) (by omega) (fun c11 => ?_) (fun c11 => ?_)
    · skip
      refine r_ldc hL (n := -1000000001) dX7_road_19 kc_X7_123 (by decide) ?_
      exact r_iret hL dX7_road_21 rfl (hK _ _ hB (by omega))
    · skip
      refine r_iload_n hL (x := t) dX7_road_14 rfl ?_
      refine r_iload_n hL (x := u) dX7_road_15 rfl ?_
      refine r_icmp_ne hL (tgt := 22) dX7_road_16 (by decide) (by omega) (by omega) (fun c16 => ?_) (fun c16 => ?_)
      · skip
        refine r_aload_n hL (x := 0) dX7_road_22 rfl ?_
        refine r_callV hL (st := []) (av := []) (k := 0) (m_X7_beginDeed (μ := μ) hB  (fun μ23c hB23c => ⟨rfl, ?_⟩)) ce_yX7_beginDeed im_yX7_beginDeed se_yX7_beginDeed ml_X7_84 xcl7 (by decide) s_0 dX7_road_23 rfl (Nat.le_of_ble_eq_true rfl) ⟨Nat.le_of_ble_eq_true rfl, Nat.le_of_ble_eq_true rfl⟩ ⟨Nat.le_of_ble_eq_true rfl, Nat.le_of_ble_eq_true rfl⟩
        show X 0 0 WW μ23c 26 [some (xR 0), some (xI t), some (xI u), some (xI v)] []
        refine r_aload_n hL (x := 0) dX7_road_26 rfl ?_
        refine r_getr hL xcl7 0 (by decide) s_0 (by decide) fl_X7_10 (by decide) f_0_0 dX7_road_27 ?_
        refine r_iload_n hL (x := t) dX7_road_30 rfl ?_
        refine r_iload_n hL (x := u) dX7_road_31 rfl ?_
        refine r_iload_n hL (x := v) dX7_road_32 rfl ?_
        refine r_callV hL (st := []) (av := [xI t, xI u, xI v]) (k := 1) (m_X5_setRoad (μ := μ23c) hB23c t (by omega) u (by omega) v (by omega) (fun μ33c hB33c => ⟨rfl, ?_⟩)) ce_yX5_setRoad im_yX5_setRoad se_yX5_setRoad ml_X7_200 xcl5 (by decide) s_1 dX7_road_33 rfl (Nat.le_of_ble_eq_true rfl) ⟨Nat.le_of_ble_eq_true rfl, Nat.le_of_ble_eq_true rfl⟩ ⟨Nat.le_of_ble_eq_true rfl, Nat.le_of_ble_eq_true rfl⟩
        show X 0 0 WW μ33c 36 [some (xR 0), some (xI t), some (xI u), some (xI v)] []
        refine r_aload_n hL (x := 0) dX7_road_36 rfl ?_
        refine r_getr hL xcl7 0 (by decide) s_0 (by decide) fl_X7_10 (by decide) f_0_0 dX7_road_37 ?_
        refine r_callV hL (st := []) (av := []) (k := 1) (m_X5_countRoads (μ := μ33c)  (fun z40 hc40 => ⟨rfl, ?_⟩)) ce_yX5_countRoads im_yX5_countRoads se_yX5_countRoads ml_X7_204 xcl5 (by decide) s_1 dX7_road_40 rfl (Nat.le_of_ble_eq_true rfl) ⟨Nat.le_of_ble_eq_true rfl, Nat.le_of_ble_eq_true rfl⟩ ⟨Nat.le_of_ble_eq_true rfl, Nat.le_of_ble_eq_true rfl⟩
        show X 0 0 WW μ33c 43 [some (xR 0), some (xI t), some (xI u), some (xI v)] [xI z40]
        exact r_iret hL dX7_road_43 rfl (hK _ _ hB33c (by omega))
      · skip
        refine r_ldc hL (n := -1000000001) dX7_road_19 kc_X7_123 (by decide) ?_
        exact r_iret hL dX7_road_21 rfl (hK _ _ hB (by omega))

set_option maxHeartbeats 4000000 in
set_option maxRecDepth 20000 in
theorem m_X7_at {K : Option xV → xW → xM → Prop} {μ : xM} (hB0 : BI μ) (t : Int) (ht : xrg t) (u : Int) (hu : xrg u) (hK : ∀ r μ', BI μ' → xrg r → K (some (xI r)) WW μ') : xMet yX7_at cX7_at 3 (some .int) 4 88 0 0 [xR 0, xI t, xI u] WW μ K := by
  refine xMet.go RX7 "at" rfl rfl (by decide) [some (xR 0), some (xI t), some (xI u)] (Nat.le_of_ble_eq_true rfl) rfl (fun X hL => ?_)
  have hB := hB0
  refine r_aload_n hL (x := 0) dX7_at_0 rfl ?_
  refine r_iload_n hL (x := t) dX7_at_1 rfl ?_
  refine r_callV hL (st := []) (av := [xI t]) (k := 0) (m_X7_isTale (μ := μ) hB t (by omega) (fun z2 hc2 => ⟨rfl, ?_⟩)) ce_yX7_isTale im_yX7_isTale se_yX7_isTale ml_X7_119 xcl7 (by decide) s_0 dX7_at_2 rfl (Nat.le_of_ble_eq_true rfl) ⟨Nat.le_of_ble_eq_true rfl, Nat.le_of_ble_eq_true rfl⟩ ⟨Nat.le_of_ble_eq_true rfl, Nat.le_of_ble_eq_true rfl⟩
  show X 0 0 WW μ 5 [some (xR 0), some (xI t), some (xI u)] [xI z2]
  refine r_if_ne hL (tgt := 11) dX7_at_5 (by decide) (by omega) (fun c5 => ?_) (fun c5 => ?_)
  · skip
    refine r_iload_n hL (x := u) dX7_at_11 rfl ?_
    refine r_callS hL (st := []) (av := [xI u]) (m_X7_arePlaces (μ := μ) u (by omega) (fun z12 hc12 => ⟨rfl, ?_⟩)) ce_yX7_arePlaces sm_yX7_arePlaces ml_X7_190 dX7_at_12 rfl (Nat.le_of_ble_eq_true rfl) ⟨Nat.le_of_ble_eq_true rfl, Nat.le_of_ble_eq_true rfl⟩ ⟨Nat.le_of_ble_eq_true rfl, Nat.le_of_ble_eq_true rfl⟩
    show X 0 0 WW μ 15 [some (xR 0), some (xI t), some (xI u)] [xI z12]
    refine r_if_ne hL (tgt := 21) dX7_at_15 (by decide) (by omega) (fun c15 => ?_) (fun c15 => ?_)
    · skip
      refine r_aload_n hL (x := 0) dX7_at_21 rfl ?_
      refine r_callV hL (st := []) (av := []) (k := 0) (m_X7_beginDeed (μ := μ) hB  (fun μ22c hB22c => ⟨rfl, ?_⟩)) ce_yX7_beginDeed im_yX7_beginDeed se_yX7_beginDeed ml_X7_84 xcl7 (by decide) s_0 dX7_at_22 rfl (Nat.le_of_ble_eq_true rfl) ⟨Nat.le_of_ble_eq_true rfl, Nat.le_of_ble_eq_true rfl⟩ ⟨Nat.le_of_ble_eq_true rfl, Nat.le_of_ble_eq_true rfl⟩
      show X 0 0 WW μ22c 25 [some (xR 0), some (xI t), some (xI u)] []
      refine r_aload_n hL (x := 0) dX7_at_25 rfl ?_
      refine r_getr hL xcl7 0 (by decide) s_0 (by decide) fl_X7_10 (by decide) f_0_0 dX7_at_26 ?_
      refine r_getr hL xcl5 1 (by decide) s_1 (by decide) fl_X7_128 (by decide) f_1_1 dX7_at_29 ?_
      refine r_iload_n hL (x := t) dX7_at_32 rfl ?_
      refine r_iload_n hL (x := u) dX7_at_33 rfl ?_
      refine r_iast hL dX7_at_34 (by decide) s_3 (by decide) (by omega) (by omega) (by omega) (fun μ1 hm1 => ?_)
      have hB1 : BI μ1 := by rw [hm1]; exact hB22c.up trivial
      refine r_iload_n hL (x := u) dX7_at_35 rfl ?_
      refine r_aload_n hL (x := 0) dX7_at_36 rfl ?_
      refine r_getr hL xcl7 0 (by decide) s_0 (by decide) fl_X7_10 (by decide) f_0_0 dX7_at_37 ?_
      refine r_getr hL xcl5 3 (by decide) s_1 (by decide) fl_X7_132 (by decide) f_1_3 dX7_at_40 ?_
      refine r_callS hL (st := []) (av := [xI u, xR 5]) (m_X7_hull (μ := μ1) u (by omega) 5 (by decide) s_5 (fun z43 hc43 => ⟨rfl, ?_⟩)) ce_yX7_hull sm_yX7_hull ml_X7_135 dX7_at_43 rfl (Nat.le_of_ble_eq_true rfl) ⟨Nat.le_of_ble_eq_true rfl, Nat.le_of_ble_eq_true rfl⟩ ⟨Nat.le_of_ble_eq_true rfl, Nat.le_of_ble_eq_true rfl⟩
      show X 0 0 WW μ1 46 [some (xR 0), some (xI t), some (xI u)] [xI z43]
      refine r_callS hL (st := []) (av := [xI z43]) (m_X7_roadsOf (μ := μ1) z43 (by omega) (fun z46 hc46 => ⟨rfl, ?_⟩)) ce_yX7_roadsOf sm_yX7_roadsOf ml_X7_139 dX7_at_46 rfl (Nat.le_of_ble_eq_true rfl) ⟨Nat.le_of_ble_eq_true rfl, Nat.le_of_ble_eq_true rfl⟩ ⟨Nat.le_of_ble_eq_true rfl, Nat.le_of_ble_eq_true rfl⟩
      show X 0 0 WW μ1 49 [some (xR 0), some (xI t), some (xI u)] [xI z46]
      exact r_iret hL dX7_at_49 rfl (hK _ _ hB1 (by omega))
    · skip
      refine r_ldc hL (n := -1000000002) dX7_at_18 kc_X7_70 (by decide) ?_
      exact r_iret hL dX7_at_20 rfl (hK _ _ hB (by omega))
  · skip
    refine r_ldc hL (n := -1000000001) dX7_at_8 kc_X7_123 (by decide) ?_
    exact r_iret hL dX7_at_10 rfl (hK _ _ hB (by omega))

set_option maxHeartbeats 4000000 in
set_option maxRecDepth 20000 in
theorem m_X7_drift {K : Option xV → xW → xM → Prop} {μ : xM} (hB0 : BI μ) (t : Int) (ht : xrg t) (hK : ∀ r μ', BI μ' → xrg r → K (some (xI r)) WW μ') : xMet yX7_drift cX7_drift 3 (some .int) 4 88 0 0 [xR 0, xI t] WW μ K := by
  refine xMet.go RX7 "drift" rfl rfl (by decide) [some (xR 0), some (xI t), none] (Nat.le_of_ble_eq_true rfl) rfl (fun X hL => ?_)
  have hB := hB0
  refine r_iload_n hL (x := t) dX7_drift_0 rfl ?_
  refine r_iconst hL dX7_drift_1 ?_
  refine r_icmp_lt hL (tgt := 11) dX7_drift_2 (by decide) (by omega) (by omega) (fun c2 => ?_) (fun c2 => ?_)
  · skip
    refine r_ldc hL (n := -1000000002) dX7_drift_11 kc_X7_70 (by decide) ?_
    exact r_iret hL dX7_drift_13 rfl (hK _ _ hB (by omega))
  · skip
    refine r_iload_n hL (x := t) dX7_drift_5 rfl ?_
    refine r_bipush hL dX7_drift_6 (by decide) ?_
    refine r_icmp_le hL (tgt := 14) dX7_drift_8 (by decide) (by omega) (by omega) (fun c8 => ?_) (fun c8 => ?_)
    · skip
      refine r_iconst hL dX7_drift_14 ?_
      refine r_istore_n hL (lo' := [some (xR 0), some (xI t), some (xI 0)]) dX7_drift_15 (by decide) rfl ?_
      have lp16 : ∀ (n16 : Nat) (k : Int) (μ116 : xM), (BI μ116) → (0 ≤ k ∧ k ≤ 8) → ((8 - k).toNat) < n16 → X 0 0 WW μ116 16 [some (xR 0), some (xI t), some (xI k)] [] := by
        intro n16
        induction n16 with
        | zero => intro k μ116 hB116 h1 hn; exact absurd hn (Nat.not_lt_zero _)
        | succ n16 ih16 =>
          intro k μ116 hB116 h1 hn16
          refine r_iload_n hL (x := k) dX7_drift_16 rfl ?_
          refine r_iload_n hL (x := t) dX7_drift_17 rfl ?_
          refine r_icmp_ge hL (tgt := 47) dX7_drift_18 (by decide) (by omega) (by omega) (fun c18 => ?_) (fun c18 => ?_)
          · skip
            refine r_aload_n hL (x := 0) dX7_drift_47 rfl ?_
            refine r_getr hL xcl7 0 (by decide) s_0 (by decide) fl_X7_10 (by decide) f_0_0 dX7_drift_48 ?_
            refine r_geti hL xcl5 4 (j' := 4) rfl (by decide) s_1 (by decide) fl_X7_80 (by decide) (by decide) dX7_drift_51 (fun hr51 => ?_)
            obtain ⟨z51, hz51⟩ : ∃ z, z = μ116 1 4 := ⟨_, rfl⟩
            rw [← hz51] at hr51 ⊢
            have hb51 : ((4 : Int) = 4 → 0 ≤ (μ116 1 4) ∧ (μ116 1 4) ≤ 8) ∧ ((4 : Int) = 5 → 0 ≤ (μ116 1 4) ∧ (μ116 1 4) ≤ 2) := hB116 1 4
            exact r_iret hL dX7_drift_54 rfl (hK _ _ hB116 (by omega))
          · skip
            refine r_aload_n hL (x := 0) dX7_drift_21 rfl ?_
            refine r_getr hL xcl7 0 (by decide) s_0 (by decide) fl_X7_10 (by decide) f_0_0 dX7_drift_22 ?_
            refine r_geti hL xcl5 4 (j' := 4) rfl (by decide) s_1 (by decide) fl_X7_80 (by decide) (by decide) dX7_drift_25 (fun hr25 => ?_)
            obtain ⟨z25, hz25⟩ : ∃ z, z = μ116 1 4 := ⟨_, rfl⟩
            rw [← hz25] at hr25 ⊢
            have hb25 : ((4 : Int) = 4 → 0 ≤ (μ116 1 4) ∧ (μ116 1 4) ≤ 8) ∧ ((4 : Int) = 5 → 0 ≤ (μ116 1 4) ∧ (μ116 1 4) ≤ 2) := hB116 1 4
            refine r_bipush hL dX7_drift_28 (by decide) ?_
            refine r_icmp_ge hL (tgt := 47) dX7_drift_30 (by decide) (by omega) (by omega) (fun c30 => ?_) (fun c30 => ?_)
            · skip
              refine r_aload_n hL (x := 0) dX7_drift_47 rfl ?_
              refine r_getr hL xcl7 0 (by decide) s_0 (by decide) fl_X7_10 (by decide) f_0_0 dX7_drift_48 ?_
              refine r_geti hL xcl5 4 (j' := 4) rfl (by decide) s_1 (by decide) fl_X7_80 (by decide) (by decide) dX7_drift_51 (fun hr51 => ?_)
              obtain ⟨z51, hz51⟩ : ∃ z, z = μ116 1 4 := ⟨_, rfl⟩
              rw [← hz51] at hr51 ⊢
              have hb51 : ((4 : Int) = 4 → 0 ≤ (μ116 1 4) ∧ (μ116 1 4) ≤ 8) ∧ ((4 : Int) = 5 → 0 ≤ (μ116 1 4) ∧ (μ116 1 4) ≤ 2) := hB116 1 4
              exact r_iret hL dX7_drift_54 rfl (hK _ _ hB116 (by omega))
            · skip
              refine r_aload_n hL (x := 0) dX7_drift_33 rfl ?_
              refine r_callV hL (st := []) (av := []) (k := 0) (m_X7_beginDeed (μ := μ116) hB116  (fun μ34c hB34c => ⟨rfl, ?_⟩)) ce_yX7_beginDeed im_yX7_beginDeed se_yX7_beginDeed ml_X7_84 xcl7 (by decide) s_0 dX7_drift_34 rfl (Nat.le_of_ble_eq_true rfl) ⟨Nat.le_of_ble_eq_true rfl, Nat.le_of_ble_eq_true rfl⟩ ⟨Nat.le_of_ble_eq_true rfl, Nat.le_of_ble_eq_true rfl⟩
              show X 0 0 WW μ34c 37 [some (xR 0), some (xI t), some (xI k)] []
              refine r_aload_n hL (x := 0) dX7_drift_37 rfl ?_
              refine r_callV hL (st := []) (av := []) (k := 0) (m_X7_addDrawn (μ := μ34c) hB34c  (fun μ38c hB38c => ⟨rfl, ?_⟩)) ce_yX7_addDrawn im_yX7_addDrawn se_yX7_addDrawn ml_X7_207 xcl7 (by decide) s_0 dX7_drift_38 rfl (Nat.le_of_ble_eq_true rfl) ⟨Nat.le_of_ble_eq_true rfl, Nat.le_of_ble_eq_true rfl⟩ ⟨Nat.le_of_ble_eq_true rfl, Nat.le_of_ble_eq_true rfl⟩
              show X 0 0 WW μ38c 41 [some (xR 0), some (xI t), some (xI k)] []
              refine r_iinc hL (x := k) (lo' := [some (xR 0), some (xI t), some (xI (k + 1))]) dX7_drift_41 (by decide) rfl rfl ?_
              refine r_goto hL (tgt := 16) dX7_drift_44 (by decide) ?_
              exact ih16 (k + 1) μ38c hB38c (by omega) (by omega)
      exact lp16 _ 0 μ hB (by omega) (Nat.lt_succ_self _)
    · skip
      refine r_ldc hL (n := -1000000002) dX7_drift_11 kc_X7_70 (by decide) ?_
      exact r_iret hL dX7_drift_13 rfl (hK _ _ hB (by omega))

set_option maxHeartbeats 4000000 in
set_option maxRecDepth 20000 in
theorem m_X7_undo {K : Option xV → xW → xM → Prop} {μ : xM} (hB0 : BI μ) (t : Int) (ht : xrg t) (hK : ∀ r μ', BI μ' → xrg r → K (some (xI r)) WW μ') : xMet yX7_undo cX7_undo 2 (some .int) 3 69 0 0 [xR 0, xI t] WW μ K := by
  refine xMet.go RX7 "undo" rfl rfl (by decide) [some (xR 0), some (xI t)] (Nat.le_of_ble_eq_true rfl) rfl (fun X hL => ?_)
  have hB := hB0
  refine r_iload_n hL (x := t) dX7_undo_0 rfl ?_
  refine r_iconst hL dX7_undo_1 ?_
  refine r_icmp_lt hL (tgt := 11) dX7_undo_2 (by decide) (by omega) (by omega) (fun c2 => ?_) (fun c2 => ?_)
  · skip
    refine r_ldc hL (n := -1000000002) dX7_undo_11 kc_X7_70 (by decide) ?_
    exact r_iret hL dX7_undo_13 rfl (hK _ _ hB (by omega))
  · skip
    refine r_iload_n hL (x := t) dX7_undo_5 rfl ?_
    refine r_bipush hL dX7_undo_6 (by decide) ?_
    refine r_icmp_le hL (tgt := 14) dX7_undo_8 (by decide) (by omega) (by omega) (fun c8 => ?_) (fun c8 => ?_)
    · skip
      refine r_iload_n hL (x := t) dX7_undo_14 rfl ?_
      refine r_aload_n hL (x := 0) dX7_undo_15 rfl ?_
      refine r_getr hL xcl7 1 (by decide) s_0 (by decide) fl_X7_19 (by decide) f_0_1 dX7_undo_16 ?_
      refine r_geti hL xcl1 1 (j' := 1) rfl (by decide) s_6 (by decide) fl_X7_118 (by decide) (by decide) dX7_undo_19 (fun hr19 => ?_)
      obtain ⟨z19, hz19⟩ : ∃ z, z = μ 6 1 := ⟨_, rfl⟩
      rw [← hz19] at hr19 ⊢
      have hb19 : ((1 : Int) = 1 → 0 ≤ (μ 6 1) ∧ (μ 6 1) ≤ 16) ∧ ((1 : Int) = 2 → 0 ≤ (μ 6 1) ∧ (μ 6 1) ≤ 15) := hB 6 1
      refine r_icmp_le hL (tgt := 28) dX7_undo_22 (by decide) (by omega) (by omega) (fun c22 => ?_) (fun c22 => ?_)
      · skip
        refine r_aload_n hL (x := 0) dX7_undo_28 rfl ?_
        refine r_getr hL xcl7 1 (by decide) s_0 (by decide) fl_X7_19 (by decide) f_0_1 dX7_undo_29 ?_
        refine r_iload_n hL (x := t) dX7_undo_32 rfl ?_
        refine r_aload_n hL (x := 0) dX7_undo_33 rfl ?_
        refine r_getr hL xcl7 0 (by decide) s_0 (by decide) fl_X7_10 (by decide) f_0_0 dX7_undo_34 ?_
        refine r_callV hL (st := []) (av := [xI t, xR 1]) (k := 6) (m_X1_takeBack (μ := μ) hB t (by omega) (fun μ37c hB37c => ⟨rfl, ?_⟩)) ce_yX1_takeBack im_yX1_takeBack se_yX1_takeBack ml_X7_210 xcl1 (by decide) s_6 dX7_undo_37 rfl (Nat.le_of_ble_eq_true rfl) ⟨Nat.le_of_ble_eq_true rfl, Nat.le_of_ble_eq_true rfl⟩ ⟨Nat.le_of_ble_eq_true rfl, Nat.le_of_ble_eq_true rfl⟩
        show X 0 0 WW μ37c 40 [some (xR 0), some (xI t)] []
        refine r_aload_n hL (x := 0) dX7_undo_40 rfl ?_
        refine r_iconst hL dX7_undo_41 ?_
        refine r_putz hL xcl7 9 (j' := 9) rfl (by decide) s_0 (by decide) fl_X7_65 rfl rfl (by omega) dX7_undo_42 (fun μ1 hm1 => ?_)
        have hB1 : BI μ1 := by rw [hm1]; exact hB37c.up (by show (9 : Int) = 7 → 0 ≤ 0 ∧ 0 ≤ 47244640255; omega)
        refine r_aload_n hL (x := 0) dX7_undo_45 rfl ?_
        refine r_getr hL xcl7 0 (by decide) s_0 (by decide) fl_X7_10 (by decide) f_0_0 dX7_undo_46 ?_
        refine r_geti hL xcl5 4 (j' := 4) rfl (by decide) s_1 (by decide) fl_X7_80 (by decide) (by decide) dX7_undo_49 (fun hr49 => ?_)
        obtain ⟨z49, hz49⟩ : ∃ z, z = μ1 1 4 := ⟨_, rfl⟩
        rw [← hz49] at hr49 ⊢
        have hb49 : ((4 : Int) = 4 → 0 ≤ (μ1 1 4) ∧ (μ1 1 4) ≤ 8) ∧ ((4 : Int) = 5 → 0 ≤ (μ1 1 4) ∧ (μ1 1 4) ≤ 2) := hB1 1 4
        exact r_iret hL dX7_undo_52 rfl (hK _ _ hB1 (by omega))
      · skip
        refine r_ldc hL (n := -1000000003) dX7_undo_25 kc_X7_83 (by decide) ?_
        exact r_iret hL dX7_undo_27 rfl (hK _ _ hB (by omega))
    · skip
      refine r_ldc hL (n := -1000000002) dX7_undo_11 kc_X7_70 (by decide) ?_
      exact r_iret hL dX7_undo_13 rfl (hK _ _ hB (by omega))

set_option maxHeartbeats 4000000 in
set_option maxRecDepth 20000 in
theorem m_X7_write {K : Option xV → xW → xM → Prop} {μ : xM} (hB0 : BI μ) (t : Int) (ht : xrg t) (u : Int) (hu : xrg u) (v : Int) (hv : xrg v) (hK : ∀ r μ', BI μ' → xrg r → K (some (xI r)) WW μ') : xMet yX7_write cX7_write 4 (some .int) 1 23 0 0 [xR 0, xI t, xI u, xI v] WW μ K := by
  refine xMet.go RX7 "write" rfl rfl (by decide) [some (xR 0), some (xI t), some (xI u), some (xI v)] (Nat.le_of_ble_eq_true rfl) rfl (fun X hL => ?_)
  have hB := hB0
  refine r_aload_n hL (x := 0) dX7_write_0 rfl ?_
  refine r_iload_n hL (x := t) dX7_write_1 rfl ?_
  refine r_callV hL (st := []) (av := [xI t]) (k := 0) (m_X7_isTale (μ := μ) hB t (by omega) (fun z2 hc2 => ⟨rfl, ?_⟩)) ce_yX7_isTale im_yX7_isTale se_yX7_isTale ml_X7_119 xcl7 (by decide) s_0 dX7_write_2 rfl (Nat.le_of_ble_eq_true rfl) ⟨Nat.le_of_ble_eq_true rfl, Nat.le_of_ble_eq_true rfl⟩ ⟨Nat.le_of_ble_eq_true rfl, Nat.le_of_ble_eq_true rfl⟩
  show X 0 0 WW μ 5 [some (xR 0), some (xI t), some (xI u), some (xI v)] [xI z2]
  refine r_if_eq hL (tgt := 16) dX7_write_5 (by decide) (by omega) (fun c5 => ?_) (fun c5 => ?_)
  · skip
    refine r_ldc hL (n := -1000000001) dX7_write_16 kc_X7_123 (by decide) ?_
    exact r_iret hL dX7_write_18 rfl (hK _ _ hB (by omega))
  · skip
    refine r_aload_n hL (x := 0) dX7_write_8 rfl ?_
    refine r_iload_n hL (x := u) dX7_write_9 rfl ?_
    refine r_callV hL (st := []) (av := [xI u]) (k := 0) (m_X7_isTale (μ := μ) hB u (by omega) (fun z10 hc10 => ⟨rfl, ?_⟩)) ce_yX7_isTale im_yX7_isTale se_yX7_isTale ml_X7_119 xcl7 (by decide) s_0 dX7_write_10 rfl (Nat.le_of_ble_eq_true rfl) ⟨Nat.le_of_ble_eq_true rfl, Nat.le_of_ble_eq_true rfl⟩ ⟨Nat.le_of_ble_eq_true rfl, Nat.le_of_ble_eq_true rfl⟩
    show X 0 0 WW μ 13 [some (xR 0), some (xI t), some (xI u), some (xI v)] [xI z10]
    refine r_if_ne hL (tgt := 19) dX7_write_13 (by decide) (by omega) (fun c13 => ?_) (fun c13 => ?_)
    · skip
      refine r_aload_n hL (x := 0) dX7_write_19 rfl ?_
      refine r_getr hL xcl7 2 (by decide) s_0 (by decide) fl_X7_26 (by decide) f_0_2 dX7_write_20 ?_
      refine r_geti hL xcl0 3 (j' := 3) rfl (by decide) s_88 (by decide) fl_X7_108 (by decide) (by decide) dX7_write_23 (fun hr23 => ?_)
      obtain ⟨z23, hz23⟩ : ∃ z, z = μ 88 3 := ⟨_, rfl⟩
      rw [← hz23] at hr23 ⊢
      have hb23 : (3 : Int) = 3 → 0 ≤ (μ 88 3) ∧ (μ 88 3) ≤ 20 := hB 88 3
      refine r_bipush hL dX7_write_26 (by decide) ?_
      refine r_icmp_lt hL (tgt := 34) dX7_write_28 (by decide) (by omega) (by omega) (fun c28 => ?_) (fun c28 => ?_)
      · skip
        refine r_aload_n hL (x := 0) dX7_write_34 rfl ?_
        refine r_getr hL xcl7 2 (by decide) s_0 (by decide) fl_X7_26 (by decide) f_0_2 dX7_write_35 ?_
        refine r_iload_n hL (x := t) dX7_write_38 rfl ?_
        refine r_iload_n hL (x := u) dX7_write_39 rfl ?_
        refine r_iload_n hL (x := v) dX7_write_40 rfl ?_
        refine r_callV hL (st := []) (av := [xI t, xI u, xI v]) (k := 88) (m_X0_add (μ := μ) hB t (by omega) u (by omega) v (by omega) (fun μ41c hB41c => ⟨rfl, ?_⟩)) ce_yX0_add im_yX0_add se_yX0_add ml_X7_214 xcl0 (by decide) s_88 dX7_write_41 rfl (Nat.le_of_ble_eq_true rfl) ⟨Nat.le_of_ble_eq_true rfl, Nat.le_of_ble_eq_true rfl⟩ ⟨Nat.le_of_ble_eq_true rfl, Nat.le_of_ble_eq_true rfl⟩
        show X 0 0 WW μ41c 44 [some (xR 0), some (xI t), some (xI u), some (xI v)] []
        refine r_aload_n hL (x := 0) dX7_write_44 rfl ?_
        refine r_getr hL xcl7 2 (by decide) s_0 (by decide) fl_X7_26 (by decide) f_0_2 dX7_write_45 ?_
        refine r_geti hL xcl0 3 (j' := 3) rfl (by decide) s_88 (by decide) fl_X7_108 (by decide) (by decide) dX7_write_48 (fun hr48 => ?_)
        obtain ⟨z48, hz48⟩ : ∃ z, z = μ41c 88 3 := ⟨_, rfl⟩
        rw [← hz48] at hr48 ⊢
        have hb48 : (3 : Int) = 3 → 0 ≤ (μ41c 88 3) ∧ (μ41c 88 3) ≤ 20 := hB41c 88 3
        exact r_iret hL dX7_write_51 rfl (hK _ _ hB41c (by omega))
      · skip
        refine r_ldc hL (n := -1000000004) dX7_write_31 kc_X7_75 (by decide) ?_
        exact r_iret hL dX7_write_33 rfl (hK _ _ hB (by omega))
    · skip
      refine r_ldc hL (n := -1000000001) dX7_write_16 kc_X7_123 (by decide) ?_
      exact r_iret hL dX7_write_18 rfl (hK _ _ hB (by omega))

set_option maxHeartbeats 4000000 in
set_option maxRecDepth 20000 in
theorem m_X7_tear {K : Option xV → xW → xM → Prop} {μ : xM} (hB0 : BI μ)  (hK : ∀ r μ', BI μ' → xrg r → K (some (xI r)) WW μ') : xMet yX7_tear cX7_tear 2 (some .int) 0 0 0 0 [xR 0] WW μ K := by
  refine xMet.go RX7 "tear" rfl rfl (by decide) [some (xR 0), none] (Nat.le_of_ble_eq_true rfl) rfl (fun X hL => ?_)
  have hB := hB0
  refine r_aload_n hL (x := 0) dX7_tear_0 rfl ?_
  refine r_getr hL xcl7 2 (by decide) s_0 (by decide) fl_X7_26 (by decide) f_0_2 dX7_tear_1 ?_
  refine r_geti hL xcl0 3 (j' := 3) rfl (by decide) s_88 (by decide) fl_X7_108 (by decide) (by decide) dX7_tear_4 (fun hr4 => ?_)
  obtain ⟨z4, hz4⟩ : ∃ z, z = μ 88 3 := ⟨_, rfl⟩
  rw [← hz4] at hr4 ⊢
  have hb4 : (3 : Int) = 3 → 0 ≤ (μ 88 3) ∧ (μ 88 3) ≤ 20 := hB 88 3
  refine r_istore_n hL (lo' := [some (xR 0), some (xI z4)]) dX7_tear_7 (by decide) rfl ?_
  refine r_aload_n hL (x := 0) dX7_tear_8 rfl ?_
  refine r_getr hL xcl7 2 (by decide) s_0 (by decide) fl_X7_26 (by decide) f_0_2 dX7_tear_9 ?_
  refine r_iconst hL dX7_tear_12 ?_
  refine r_puti hL xcl0 3 (j' := 3) rfl (by decide) s_88 (by decide) fl_X7_108 rfl rfl (by omega) dX7_tear_13 (fun μ1 hm1 => ?_)
  have hB1 : BI μ1 := by rw [hm1]; exact hB.up (by show (3 : Int) = 3 → 0 ≤ 0 ∧ 0 ≤ 20; omega)
  refine r_iload_n hL (x := z4) dX7_tear_16 rfl ?_
  exact r_iret hL dX7_tear_17 rfl (hK _ _ hB1 (by omega))

set_option maxHeartbeats 4000000 in
set_option maxRecDepth 20000 in
theorem m_X7_seed {K : Option xV → xW → xM → Prop} {μ : xM} (hB0 : BI μ) (t : Int) (ht : xrg t) (hK : ∀ r μ', BI μ' → xrg r → K (some (xI r)) WW μ') : xMet yX7_seed cX7_seed 3 (some .int) 0 0 0 0 [xR 0, xI t] WW μ K := by
  refine xMet.go RX7 "seed" rfl rfl (by decide) [some (xR 0), some (xI t), none] (Nat.le_of_ble_eq_true rfl) rfl (fun X hL => ?_)
  have hB := hB0
  refine r_iload_n hL (x := t) dX7_seed_0 rfl ?_
  refine r_if_ge hL (tgt := 7) dX7_seed_1 (by decide) (by omega) (fun c1 => ?_) (fun c1 => ?_)
  · skip
    refine r_aload_n hL (x := 0) dX7_seed_7 rfl ?_
    refine r_geti hL xcl7 8 (j' := 8) rfl (by decide) s_0 (by decide) fl_X7_61 (by decide) (by decide) dX7_seed_8 (fun hr8 => ?_)
    obtain ⟨z8, hz8⟩ : ∃ z, z = μ 0 8 := ⟨_, rfl⟩
    rw [← hz8] at hr8 ⊢
    have hb8 : (8 : Int) = 7 → 0 ≤ (μ 0 8) ∧ (μ 0 8) ≤ 47244640255 := hB 0 8
    refine r_istore_n hL (lo' := [some (xR 0), some (xI t), some (xI z8)]) dX7_seed_11 (by decide) rfl ?_
    refine r_aload_n hL (x := 0) dX7_seed_12 rfl ?_
    refine r_iload_n hL (x := t) dX7_seed_13 rfl ?_
    refine r_puti hL xcl7 8 (j' := 8) rfl (by decide) s_0 (by decide) fl_X7_61 rfl rfl (by omega) dX7_seed_14 (fun μ1 hm1 => ?_)
    have hB1 : BI μ1 := by rw [hm1]; exact hB.up (by show (8 : Int) = 7 → 0 ≤ t ∧ t ≤ 47244640255; omega)
    refine r_iload_n hL (x := z8) dX7_seed_17 rfl ?_
    exact r_iret hL dX7_seed_18 rfl (hK _ _ hB1 (by omega))
  · skip
    refine r_ldc hL (n := -1000000002) dX7_seed_4 kc_X7_70 (by decide) ?_
    exact r_iret hL dX7_seed_6 rfl (hK _ _ hB (by omega))

set_option maxHeartbeats 4000000 in
set_option maxRecDepth 20000 in
theorem m_X7_keep {K : Option xV → xW → xM → Prop} {μ : xM} (hB0 : BI μ) (t : Int) (ht : xrg t) (hK : ∀ r μ', BI μ' → (0 ≤ t ∧ t ≤ 1 ∧ r = 1) ∨ (¬ (0 ≤ t ∧ t ≤ 1) ∧ r = -1000000001) → K (some (xI r)) WW μ') : xMet yX7_keep cX7_keep 3 (some .int) 2 47 0 0 [xR 0, xI t] WW μ K := by
  refine xMet.go RX7 "keep" rfl rfl (by decide) [some (xR 0), some (xI t), none] (Nat.le_of_ble_eq_true rfl) rfl (fun X hL => ?_)
  have hB := hB0
  refine r_iload_n hL (x := t) dX7_keep_0 rfl ?_
  refine r_if_lt hL (tgt := 9) dX7_keep_1 (by decide) (by omega) (fun c1 => ?_) (fun c1 => ?_)
  · skip
    refine r_ldc hL (n := -1000000001) dX7_keep_9 kc_X7_123 (by decide) ?_
    exact r_iret hL dX7_keep_11 rfl (hK _ _ hB (by omega))
  · skip
    refine r_iload_n hL (x := t) dX7_keep_4 rfl ?_
    refine r_iconst hL dX7_keep_5 ?_
    refine r_icmp_lt hL (tgt := 12) dX7_keep_6 (by decide) (by omega) (by omega) (fun c6 => ?_) (fun c6 => ?_)
    · skip
      refine r_aload_n hL (x := 0) dX7_keep_12 rfl ?_
      refine r_getr hL xcl7 6 (by decide) s_0 (by decide) fl_X7_53 (by decide) f_0_6 dX7_keep_13 ?_
      refine r_iload_n hL (x := t) dX7_keep_16 rfl ?_
      rcases (show t = 0 ∨ t = 1 by omega) with e17 | e17
      · skip
        refine r_aald hL (t := 1) (q := 108) dX7_keep_17 (by decide) s_107 (by decide) (by decide) (by omega) (by omega) (by rw [e17]; exact f_107_0) ?_
        refine r_astore_n hL (lo' := [some (xR 0), some (xI t), some (xR 108)]) dX7_keep_18 (by decide) rfl ?_
        refine r_aload_n hL (x := 108) dX7_keep_19 rfl ?_
        refine r_getr hL xcl3 0 (by decide) s_108 (by decide) fl_X7_217 (by decide) f_108_0 dX7_keep_20 ?_
        refine r_aload_n hL (x := 0) dX7_keep_23 rfl ?_
        refine r_getr hL xcl7 0 (by decide) s_0 (by decide) fl_X7_10 (by decide) f_0_0 dX7_keep_24 ?_
        refine r_callV hL (st := []) (av := [xR 1]) (k := 109) (m_X5_become (μ := μ) hB 109 1 (by decide) (by decide) (fun μ27c hB27c => ⟨rfl, ?_⟩)) ce_yX5_become im_yX5_become se_yX5_become ml_X7_220 xcl5 (by decide) s_109 dX7_keep_27 rfl (Nat.le_of_ble_eq_true rfl) ⟨Nat.le_of_ble_eq_true rfl, Nat.le_of_ble_eq_true rfl⟩ ⟨Nat.le_of_ble_eq_true rfl, Nat.le_of_ble_eq_true rfl⟩
        show X 0 0 WW μ27c 30 [some (xR 0), some (xI t), some (xR 108)] []
        refine r_aload_n hL (x := 108) dX7_keep_30 rfl ?_
        refine r_aload_n hL (x := 0) dX7_keep_31 rfl ?_
        refine r_geti hL xcl7 8 (j' := 8) rfl (by decide) s_0 (by decide) fl_X7_61 (by decide) (by decide) dX7_keep_32 (fun hr32 => ?_)
        obtain ⟨z32, hz32⟩ : ∃ z, z = μ27c 0 8 := ⟨_, rfl⟩
        rw [← hz32] at hr32 ⊢
        have hb32 : (8 : Int) = 7 → 0 ≤ (μ27c 0 8) ∧ (μ27c 0 8) ≤ 47244640255 := hB27c 0 8
        refine r_puti hL xcl3 1 (j' := 1) rfl (by decide) s_108 (by decide) fl_X7_224 rfl rfl (by omega) dX7_keep_35 (fun μ1 hm1 => ?_)
        have hB1 : BI μ1 := by rw [hm1]; exact hB27c.up trivial
        refine r_aload_n hL (x := 108) dX7_keep_38 rfl ?_
        refine r_iconst hL dX7_keep_39 ?_
        refine r_putz hL xcl3 2 (j' := 2) rfl (by decide) s_108 (by decide) fl_X7_227 rfl rfl (by omega) dX7_keep_40 (fun μ2 hm2 => ?_)
        have hB2 : BI μ2 := by rw [hm2]; exact hB1.up trivial
        refine r_aload_n hL (x := 0) dX7_keep_43 rfl ?_
        refine r_getr hL xcl7 1 (by decide) s_0 (by decide) fl_X7_19 (by decide) f_0_1 dX7_keep_44 ?_
        refine r_iconst hL dX7_keep_47 ?_
        refine r_puti hL xcl1 1 (j' := 1) rfl (by decide) s_6 (by decide) fl_X7_118 rfl rfl (by omega) dX7_keep_48 (fun μ3 hm3 => ?_)
        have hB3 : BI μ3 := by rw [hm3]; exact hB2.up (by show ((1 : Int) = 1 → 0 ≤ 0 ∧ 0 ≤ 16) ∧ ((1 : Int) = 2 → 0 ≤ 0 ∧ 0 ≤ 15); omega)
        refine r_iconst hL dX7_keep_51 ?_
        exact r_iret hL dX7_keep_52 rfl (hK _ _ hB3 (by omega))
      · skip
        refine r_aald hL (t := 1) (q := 114) dX7_keep_17 (by decide) s_107 (by decide) (by decide) (by omega) (by omega) (by rw [e17]; exact f_107_1) ?_
        refine r_astore_n hL (lo' := [some (xR 0), some (xI t), some (xR 114)]) dX7_keep_18 (by decide) rfl ?_
        refine r_aload_n hL (x := 114) dX7_keep_19 rfl ?_
        refine r_getr hL xcl3 0 (by decide) s_114 (by decide) fl_X7_217 (by decide) f_114_0 dX7_keep_20 ?_
        refine r_aload_n hL (x := 0) dX7_keep_23 rfl ?_
        refine r_getr hL xcl7 0 (by decide) s_0 (by decide) fl_X7_10 (by decide) f_0_0 dX7_keep_24 ?_
        refine r_callV hL (st := []) (av := [xR 1]) (k := 115) (m_X5_become (μ := μ) hB 115 1 (by decide) (by decide) (fun μ27c hB27c => ⟨rfl, ?_⟩)) ce_yX5_become im_yX5_become se_yX5_become ml_X7_220 xcl5 (by decide) s_115 dX7_keep_27 rfl (Nat.le_of_ble_eq_true rfl) ⟨Nat.le_of_ble_eq_true rfl, Nat.le_of_ble_eq_true rfl⟩ ⟨Nat.le_of_ble_eq_true rfl, Nat.le_of_ble_eq_true rfl⟩
        show X 0 0 WW μ27c 30 [some (xR 0), some (xI t), some (xR 114)] []
        refine r_aload_n hL (x := 114) dX7_keep_30 rfl ?_
        refine r_aload_n hL (x := 0) dX7_keep_31 rfl ?_
        refine r_geti hL xcl7 8 (j' := 8) rfl (by decide) s_0 (by decide) fl_X7_61 (by decide) (by decide) dX7_keep_32 (fun hr32 => ?_)
        obtain ⟨z32, hz32⟩ : ∃ z, z = μ27c 0 8 := ⟨_, rfl⟩
        rw [← hz32] at hr32 ⊢
        have hb32 : (8 : Int) = 7 → 0 ≤ (μ27c 0 8) ∧ (μ27c 0 8) ≤ 47244640255 := hB27c 0 8
        refine r_puti hL xcl3 1 (j' := 1) rfl (by decide) s_114 (by decide) fl_X7_224 rfl rfl (by omega) dX7_keep_35 (fun μ4 hm4 => ?_)
        have hB4 : BI μ4 := by rw [hm4]; exact hB27c.up trivial
        refine r_aload_n hL (x := 114) dX7_keep_38 rfl ?_
        refine r_iconst hL dX7_keep_39 ?_
        refine r_putz hL xcl3 2 (j' := 2) rfl (by decide) s_114 (by decide) fl_X7_227 rfl rfl (by omega) dX7_keep_40 (fun μ5 hm5 => ?_)
        have hB5 : BI μ5 := by rw [hm5]; exact hB4.up trivial
        refine r_aload_n hL (x := 0) dX7_keep_43 rfl ?_
        refine r_getr hL xcl7 1 (by decide) s_0 (by decide) fl_X7_19 (by decide) f_0_1 dX7_keep_44 ?_
        refine r_iconst hL dX7_keep_47 ?_
        refine r_puti hL xcl1 1 (j' := 1) rfl (by decide) s_6 (by decide) fl_X7_118 rfl rfl (by omega) dX7_keep_48 (fun μ6 hm6 => ?_)
        have hB6 : BI μ6 := by rw [hm6]; exact hB5.up (by show ((1 : Int) = 1 → 0 ≤ 0 ∧ 0 ≤ 16) ∧ ((1 : Int) = 2 → 0 ≤ 0 ∧ 0 ≤ 15); omega)
        refine r_iconst hL dX7_keep_51 ?_
        exact r_iret hL dX7_keep_52 rfl (hK _ _ hB6 (by omega))
    · skip
      refine r_ldc hL (n := -1000000001) dX7_keep_9 kc_X7_123 (by decide) ?_
      exact r_iret hL dX7_keep_11 rfl (hK _ _ hB (by omega))

set_option maxHeartbeats 4000000 in
set_option maxRecDepth 20000 in
theorem m_X7_goBack {K : Option xV → xW → xM → Prop} {μ : xM} (hB0 : BI μ) (t : Int) (ht : xrg t) (hK : ∀ r μ', BI μ' → xrg r → K (some (xI r)) WW μ') : xMet yX7_goBack cX7_goBack 3 (some .int) 2 47 0 0 [xR 0, xI t] WW μ K := by
  refine xMet.go RX7 "goBack" rfl rfl (by decide) [some (xR 0), some (xI t), none] (Nat.le_of_ble_eq_true rfl) rfl (fun X hL => ?_)
  have hB := hB0
  refine r_iload_n hL (x := t) dX7_goBack_0 rfl ?_
  refine r_if_lt hL (tgt := 9) dX7_goBack_1 (by decide) (by omega) (fun c1 => ?_) (fun c1 => ?_)
  · skip
    refine r_ldc hL (n := -1000000001) dX7_goBack_9 kc_X7_123 (by decide) ?_
    exact r_iret hL dX7_goBack_11 rfl (hK _ _ hB (by omega))
  · skip
    refine r_iload_n hL (x := t) dX7_goBack_4 rfl ?_
    refine r_iconst hL dX7_goBack_5 ?_
    refine r_icmp_lt hL (tgt := 12) dX7_goBack_6 (by decide) (by omega) (by omega) (fun c6 => ?_) (fun c6 => ?_)
    · skip
      refine r_aload_n hL (x := 0) dX7_goBack_12 rfl ?_
      refine r_getr hL xcl7 6 (by decide) s_0 (by decide) fl_X7_53 (by decide) f_0_6 dX7_goBack_13 ?_
      refine r_iload_n hL (x := t) dX7_goBack_16 rfl ?_
      rcases (show t = 0 ∨ t = 1 by omega) with e17 | e17
      · skip
        refine r_aald hL (t := 1) (q := 108) dX7_goBack_17 (by decide) s_107 (by decide) (by decide) (by omega) (by omega) (by rw [e17]; exact f_107_0) ?_
        refine r_astore_n hL (lo' := [some (xR 0), some (xI t), some (xR 108)]) dX7_goBack_18 (by decide) rfl ?_
        refine r_aload_n hL (x := 108) dX7_goBack_19 rfl ?_
        refine r_geti hL xcl3 2 (j' := 2) rfl (by decide) s_108 (by decide) fl_X7_227 (by decide) (by decide) dX7_goBack_20 (fun hr20 => ?_)
        obtain ⟨z20, hz20⟩ : ∃ z, z = μ 108 2 := ⟨_, rfl⟩
        rw [← hz20] at hr20 ⊢
        refine r_if_ne hL (tgt := 29) dX7_goBack_23 (by decide) (by omega) (fun c23 => ?_) (fun c23 => ?_)
        · skip
          refine r_aload_n hL (x := 0) dX7_goBack_29 rfl ?_
          refine r_getr hL xcl7 0 (by decide) s_0 (by decide) fl_X7_10 (by decide) f_0_0 dX7_goBack_30 ?_
          refine r_aload_n hL (x := 108) dX7_goBack_33 rfl ?_
          refine r_getr hL xcl3 0 (by decide) s_108 (by decide) fl_X7_217 (by decide) f_108_0 dX7_goBack_34 ?_
          refine r_callV hL (st := []) (av := [xR 109]) (k := 1) (m_X5_become (μ := μ) hB 1 109 (by decide) (by decide) (fun μ37c hB37c => ⟨rfl, ?_⟩)) ce_yX5_become im_yX5_become se_yX5_become ml_X7_220 xcl5 (by decide) s_1 dX7_goBack_37 rfl (Nat.le_of_ble_eq_true rfl) ⟨Nat.le_of_ble_eq_true rfl, Nat.le_of_ble_eq_true rfl⟩ ⟨Nat.le_of_ble_eq_true rfl, Nat.le_of_ble_eq_true rfl⟩
          show X 0 0 WW μ37c 40 [some (xR 0), some (xI t), some (xR 108)] []
          refine r_aload_n hL (x := 0) dX7_goBack_40 rfl ?_
          refine r_aload_n hL (x := 108) dX7_goBack_41 rfl ?_
          refine r_geti hL xcl3 1 (j' := 1) rfl (by decide) s_108 (by decide) fl_X7_224 (by decide) (by decide) dX7_goBack_42 (fun hr42 => ?_)
          obtain ⟨z42, hz42⟩ : ∃ z, z = μ37c 108 1 := ⟨_, rfl⟩
          rw [← hz42] at hr42 ⊢
          refine r_puti hL xcl7 8 (j' := 8) rfl (by decide) s_0 (by decide) fl_X7_61 rfl rfl (by omega) dX7_goBack_45 (fun μ1 hm1 => ?_)
          have hB1 : BI μ1 := by rw [hm1]; exact hB37c.up (by show (8 : Int) = 7 → 0 ≤ z42 ∧ z42 ≤ 47244640255; omega)
          refine r_aload_n hL (x := 0) dX7_goBack_48 rfl ?_
          refine r_getr hL xcl7 1 (by decide) s_0 (by decide) fl_X7_19 (by decide) f_0_1 dX7_goBack_49 ?_
          refine r_iconst hL dX7_goBack_52 ?_
          refine r_puti hL xcl1 1 (j' := 1) rfl (by decide) s_6 (by decide) fl_X7_118 rfl rfl (by omega) dX7_goBack_53 (fun μ2 hm2 => ?_)
          have hB2 : BI μ2 := by rw [hm2]; exact hB1.up (by show ((1 : Int) = 1 → 0 ≤ 0 ∧ 0 ≤ 16) ∧ ((1 : Int) = 2 → 0 ≤ 0 ∧ 0 ≤ 15); omega)
          refine r_aload_n hL (x := 0) dX7_goBack_56 rfl ?_
          refine r_iconst hL dX7_goBack_57 ?_
          refine r_putz hL xcl7 9 (j' := 9) rfl (by decide) s_0 (by decide) fl_X7_65 rfl rfl (by omega) dX7_goBack_58 (fun μ3 hm3 => ?_)
          have hB3 : BI μ3 := by rw [hm3]; exact hB2.up (by show (9 : Int) = 7 → 0 ≤ 0 ∧ 0 ≤ 47244640255; omega)
          refine r_iconst hL dX7_goBack_61 ?_
          exact r_iret hL dX7_goBack_62 rfl (hK _ _ hB3 (by omega))
        · skip
          refine r_ldc hL (n := -1000000003) dX7_goBack_26 kc_X7_83 (by decide) ?_
          exact r_iret hL dX7_goBack_28 rfl (hK _ _ hB (by omega))
      · skip
        refine r_aald hL (t := 1) (q := 114) dX7_goBack_17 (by decide) s_107 (by decide) (by decide) (by omega) (by omega) (by rw [e17]; exact f_107_1) ?_
        refine r_astore_n hL (lo' := [some (xR 0), some (xI t), some (xR 114)]) dX7_goBack_18 (by decide) rfl ?_
        refine r_aload_n hL (x := 114) dX7_goBack_19 rfl ?_
        refine r_geti hL xcl3 2 (j' := 2) rfl (by decide) s_114 (by decide) fl_X7_227 (by decide) (by decide) dX7_goBack_20 (fun hr20 => ?_)
        obtain ⟨z20, hz20⟩ : ∃ z, z = μ 114 2 := ⟨_, rfl⟩
        rw [← hz20] at hr20 ⊢
        refine r_if_ne hL (tgt := 29) dX7_goBack_23 (by decide) (by omega) (fun c23 => ?_) (fun c23 => ?_)
        · skip
          refine r_aload_n hL (x := 0) dX7_goBack_29 rfl ?_
          refine r_getr hL xcl7 0 (by decide) s_0 (by decide) fl_X7_10 (by decide) f_0_0 dX7_goBack_30 ?_
          refine r_aload_n hL (x := 114) dX7_goBack_33 rfl ?_
          refine r_getr hL xcl3 0 (by decide) s_114 (by decide) fl_X7_217 (by decide) f_114_0 dX7_goBack_34 ?_
          refine r_callV hL (st := []) (av := [xR 115]) (k := 1) (m_X5_become (μ := μ) hB 1 115 (by decide) (by decide) (fun μ37c hB37c => ⟨rfl, ?_⟩)) ce_yX5_become im_yX5_become se_yX5_become ml_X7_220 xcl5 (by decide) s_1 dX7_goBack_37 rfl (Nat.le_of_ble_eq_true rfl) ⟨Nat.le_of_ble_eq_true rfl, Nat.le_of_ble_eq_true rfl⟩ ⟨Nat.le_of_ble_eq_true rfl, Nat.le_of_ble_eq_true rfl⟩
          show X 0 0 WW μ37c 40 [some (xR 0), some (xI t), some (xR 114)] []
          refine r_aload_n hL (x := 0) dX7_goBack_40 rfl ?_
          refine r_aload_n hL (x := 114) dX7_goBack_41 rfl ?_
          refine r_geti hL xcl3 1 (j' := 1) rfl (by decide) s_114 (by decide) fl_X7_224 (by decide) (by decide) dX7_goBack_42 (fun hr42 => ?_)
          obtain ⟨z42, hz42⟩ : ∃ z, z = μ37c 114 1 := ⟨_, rfl⟩
          rw [← hz42] at hr42 ⊢
          refine r_puti hL xcl7 8 (j' := 8) rfl (by decide) s_0 (by decide) fl_X7_61 rfl rfl (by omega) dX7_goBack_45 (fun μ4 hm4 => ?_)
          have hB4 : BI μ4 := by rw [hm4]; exact hB37c.up (by show (8 : Int) = 7 → 0 ≤ z42 ∧ z42 ≤ 47244640255; omega)
          refine r_aload_n hL (x := 0) dX7_goBack_48 rfl ?_
          refine r_getr hL xcl7 1 (by decide) s_0 (by decide) fl_X7_19 (by decide) f_0_1 dX7_goBack_49 ?_
          refine r_iconst hL dX7_goBack_52 ?_
          refine r_puti hL xcl1 1 (j' := 1) rfl (by decide) s_6 (by decide) fl_X7_118 rfl rfl (by omega) dX7_goBack_53 (fun μ5 hm5 => ?_)
          have hB5 : BI μ5 := by rw [hm5]; exact hB4.up (by show ((1 : Int) = 1 → 0 ≤ 0 ∧ 0 ≤ 16) ∧ ((1 : Int) = 2 → 0 ≤ 0 ∧ 0 ≤ 15); omega)
          refine r_aload_n hL (x := 0) dX7_goBack_56 rfl ?_
          refine r_iconst hL dX7_goBack_57 ?_
          refine r_putz hL xcl7 9 (j' := 9) rfl (by decide) s_0 (by decide) fl_X7_65 rfl rfl (by omega) dX7_goBack_58 (fun μ6 hm6 => ?_)
          have hB6 : BI μ6 := by rw [hm6]; exact hB5.up (by show (9 : Int) = 7 → 0 ≤ 0 ∧ 0 ≤ 47244640255; omega)
          refine r_iconst hL dX7_goBack_61 ?_
          exact r_iret hL dX7_goBack_62 rfl (hK _ _ hB6 (by omega))
        · skip
          refine r_ldc hL (n := -1000000003) dX7_goBack_26 kc_X7_83 (by decide) ?_
          exact r_iret hL dX7_goBack_28 rfl (hK _ _ hB (by omega))
    · skip
      refine r_ldc hL (n := -1000000001) dX7_goBack_9 kc_X7_123 (by decide) ?_
      exact r_iret hL dX7_goBack_11 rfl (hK _ _ hB (by omega))
