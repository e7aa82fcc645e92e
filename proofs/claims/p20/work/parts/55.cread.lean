set_option maxHeartbeats 4000000 in
set_option maxRecDepth 20000 in
theorem m_X7_allTales {K : Option xV → xW → xM → Prop} {μ : xM} (hB0 : BI μ)  (hK : ∀ r, r = xshl 1 (μ 1 4) - 1 → 0 ≤ r ∧ r ≤ 255 → K (some (xI r)) WW μ) : xMet yX7_allTales cX7_allTales 1 (some .int) 0 0 0 0 [xR 0] WW μ K := by
  refine xMet.go RX7 "allTales" rfl rfl (by decide) [some (xR 0)] (Nat.le_of_ble_eq_true rfl) rfl (fun X hL => ?_)
  have hB := hB0
  refine r_iconst hL dX7_allTales_0 ?_
  refine r_aload_n hL (x := 0) dX7_allTales_1 rfl ?_
  refine r_getr hL xcl7 0 (by decide) s_0 (by decide) fl_X7_10 (by decide) f_0_0 dX7_allTales_2 ?_
  refine r_geti hL xcl5 4 (j' := 4) rfl (by decide) s_1 (by decide) fl_X7_80 (by decide) (by decide) dX7_allTales_5 (fun hr5 => ?_)
  obtain ⟨z5, hz5⟩ : ∃ z, z = μ 1 4 := ⟨_, rfl⟩
  rw [← hz5] at hr5 ⊢
  have hb5 : 0 ≤ μ 1 4 ∧ μ 1 4 ≤ 8 := (show ((4 : Int) = 4 → 0 ≤ (μ 1 4) ∧ (μ 1 4) ≤ 8) ∧ ((4 : Int) = 5 → 0 ≤ (μ 1 4) ∧ (μ 1 4) ≤ 2) from hB 1 4).1 (by omega)
  refine r_ishl hL dX7_allTales_8 ?_
  obtain ⟨z8, hz8⟩ : ∃ z, z = xshl 1 z5 := ⟨_, rfl⟩
  rw [← hz8]
  have hr8 : xrg z8 := by rw [hz8]; exact xshl_rg _ _
  have hs8 : 1 ≤ z8 ∧ z8 ≤ 256 := by rw [hz8]; exact xsh_bd (by omega) (by omega)
  refine r_iconst hL dX7_allTales_9 ?_
  refine r_isub hL dX7_allTales_10 ?_
  exact r_iret hL dX7_allTales_11 rfl (hK _ (by rw [hz8, hz5]) (by omega))

set_option maxHeartbeats 4000000 in
set_option maxRecDepth 20000 in
theorem m_X7_areTales {K : Option xV → xW → xM → Prop} {μ : xM} (hB0 : BI μ) (t : Int) (ht : xrg t) (hK : ∀ r, (r = 1 ∧ (0 ≤ t ∧ t ≤ xshl 1 (μ 1 4) - 1)) ∨ (r = 0 ∧ ¬ (0 ≤ t ∧ t ≤ xshl 1 (μ 1 4) - 1)) → K (some (xI r)) WW μ) : xMet yX7_areTales cX7_areTales 2 (some .boolean) 1 20 0 0 [xR 0, xI t] WW μ K := by
  refine xMet.go RX7 "areTales" rfl rfl (by decide) [some (xR 0), some (xI t)] (Nat.le_of_ble_eq_true rfl) rfl (fun X hL => ?_)
  have hB := hB0
  have hm4 : 0 ≤ μ 1 4 ∧ μ 1 4 ≤ 8 := (show ((4 : Int) = 4 → 0 ≤ (μ 1 4) ∧ (μ 1 4) ≤ 8) ∧ ((4 : Int) = 5 → 0 ≤ (μ 1 4) ∧ (μ 1 4) ≤ 2) from hB 1 4).1 (by omega)
  refine r_iload_n hL (x := t) dX7_areTales_0 rfl ?_
  refine r_aload_n hL (x := 0) dX7_areTales_1 rfl ?_
  refine r_callV hL (st := [xI t]) (av := []) (k := 0) (m_X7_allTales (μ := μ) hB  (fun z2 heq2 hc2 => ⟨rfl, ?_⟩)) ce_yX7_allTales im_yX7_allTales se_yX7_allTales ml_X7_101 xcl7 (by decide) s_0 dX7_areTales_2 rfl (Nat.le_of_ble_eq_true rfl) ⟨Nat.le_of_ble_eq_true rfl, Nat.le_of_ble_eq_true rfl⟩ ⟨Nat.le_of_ble_eq_true rfl, Nat.le_of_ble_eq_true rfl⟩
  show X 0 0 WW μ 5 [some (xR 0), some (xI t)] [xI z2, xI t]
  refine r_iconst hL dX7_areTales_5 ?_
  refine r_ixor hL dX7_areTales_6 ?_
  obtain ⟨z6, hz6⟩ : ∃ z, z = xxor z2 (-1) := ⟨_, rfl⟩
  rw [← hz6]
  have hr6 : xrg z6 := by rw [hz6]; exact xxor_rg _ _
  refine r_iand hL dX7_areTales_7 ?_
  obtain ⟨z7, hz7⟩ : ∃ z, z = xand t z6 := ⟨_, rfl⟩
  rw [← hz7]
  have hr7 : xrg z7 := by rw [hz7]; exact xand_rg _ _
  have ha := are_tl ht (n := μ 1 4) (by omega) (by omega)
  rw [← heq2, ← hz6, ← hz7] at ha
  refine r_if_ne hL (tgt := 15) dX7_areTales_8 (by decide) (by omega) (fun c8 => ?_) (fun c8 => ?_)
  · skip
    refine r_iconst hL dX7_areTales_15 ?_
    exact r_zret hL dX7_areTales_16 rfl (by omega) (hK _ (by omega))
  · skip
    refine r_iconst hL dX7_areTales_11 ?_
    refine r_goto hL (tgt := 16) dX7_areTales_12 (by decide) ?_
    exact r_zret hL dX7_areTales_16 rfl (by omega) (hK _ (by omega))

set_option maxHeartbeats 4000000 in
set_option maxRecDepth 20000 in
theorem m_X7_nodeCount {K : Option xV → xW → xM → Prop} {μ : xM} (hB0 : BI μ)  (hK : ∀ r, 0 ≤ r ∧ r ≤ 7 → K (some (xI r)) WW μ) : xMet yX7_nodeCount cX7_nodeCount 1 (some .int) 0 0 0 0 [xR 0] WW μ K := by
  refine xMet.go RX7 "nodeCount" rfl rfl (by decide) [some (xR 0)] (Nat.le_of_ble_eq_true rfl) rfl (fun X hL => ?_)
  have hB := hB0
  refine r_aload_n hL (x := 0) dX7_nodeCount_0 rfl ?_
  refine r_getr hL xcl7 0 (by decide) s_0 (by decide) fl_X7_10 (by decide) f_0_0 dX7_nodeCount_1 ?_
  refine r_geti hL xcl5 4 (j' := 4) rfl (by decide) s_1 (by decide) fl_X7_80 (by decide) (by decide) dX7_nodeCount_4 (fun hr4 => ?_)
  obtain ⟨z4, hz4⟩ : ∃ z, z = μ 1 4 := ⟨_, rfl⟩
  rw [← hz4] at hr4 ⊢
  have hb4 : 0 ≤ μ 1 4 ∧ μ 1 4 ≤ 8 := (show ((4 : Int) = 4 → 0 ≤ (μ 1 4) ∧ (μ 1 4) ≤ 8) ∧ ((4 : Int) = 5 → 0 ≤ (μ 1 4) ∧ (μ 1 4) ≤ 2) from hB 1 4).1 (by omega)
  refine r_if_le hL (tgt := 22) dX7_nodeCount_7 (by decide) (by omega) (fun c7 => ?_) (fun c7 => ?_)
  · skip
    refine r_iconst hL dX7_nodeCount_22 ?_
    exact r_iret hL dX7_nodeCount_23 rfl (hK _ (by omega))
  · skip
    refine r_aload_n hL (x := 0) dX7_nodeCount_10 rfl ?_
    refine r_getr hL xcl7 0 (by decide) s_0 (by decide) fl_X7_10 (by decide) f_0_0 dX7_nodeCount_11 ?_
    refine r_geti hL xcl5 4 (j' := 4) rfl (by decide) s_1 (by decide) fl_X7_80 (by decide) (by decide) dX7_nodeCount_14 (fun hr14 => ?_)
    obtain ⟨z14, hz14⟩ : ∃ z, z = μ 1 4 := ⟨_, rfl⟩
    rw [← hz14] at hr14 ⊢
    have hb14 : 0 ≤ μ 1 4 ∧ μ 1 4 ≤ 8 := (show ((4 : Int) = 4 → 0 ≤ (μ 1 4) ∧ (μ 1 4) ≤ 8) ∧ ((4 : Int) = 5 → 0 ≤ (μ 1 4) ∧ (μ 1 4) ≤ 2) from hB 1 4).1 (by omega)
    refine r_iconst hL dX7_nodeCount_17 ?_
    refine r_isub hL dX7_nodeCount_18 ?_
    refine r_goto hL (tgt := 23) dX7_nodeCount_19 (by decide) ?_
    exact r_iret hL dX7_nodeCount_23 rfl (hK _ (by omega))

set_option maxHeartbeats 4000000 in
set_option maxRecDepth 20000 in
theorem m_X7_measureAnew {K : Option xV → xW → xM → Prop} {μ : xM} (hB0 : BI μ)  (hK : ∀ μ', BI μ' → Fr RO μ μ' → K none WW μ') : xMet yX7_measureAnew cX7_measureAnew 1 none 5 128 0 0 [xR 0] WW μ K := by
  refine xMet.go RX7 "measureAnew" rfl rfl (by decide) [some (xR 0)] (Nat.le_of_ble_eq_true rfl) rfl (fun X hL => ?_)
  have hB := hB0
  have hF : Fr RO μ μ := Fr.rf
  refine r_aload_n hL (x := 0) dX7_measureAnew_0 rfl ?_
  refine r_geti hL xcl7 9 (j' := 9) rfl (by decide) s_0 (by decide) fl_X7_65 (by decide) (by decide) dX7_measureAnew_1 (fun hr1 => ?_)
  obtain ⟨z1, hz1⟩ : ∃ z, z = μ 0 9 := ⟨_, rfl⟩
  rw [← hz1] at hr1 ⊢
  refine r_if_eq hL (tgt := 8) dX7_measureAnew_4 (by decide) (by omega) (fun c4 => ?_) (fun c4 => ?_)
  · skip
    refine r_aload_n hL (x := 0) dX7_measureAnew_8 rfl ?_
    refine r_getr hL xcl7 4 (by decide) s_0 (by decide) fl_X7_40 (by decide) f_0_4 dX7_measureAnew_9 ?_
    refine r_aload_n hL (x := 0) dX7_measureAnew_12 rfl ?_
    refine r_getr hL xcl7 0 (by decide) s_0 (by decide) fl_X7_10 (by decide) f_0_0 dX7_measureAnew_13 ?_
    refine r_aload_n hL (x := 0) dX7_measureAnew_16 rfl ?_
    refine r_getr hL xcl7 3 (by decide) s_0 (by decide) fl_X7_33 (by decide) f_0_3 dX7_measureAnew_17 ?_
    refine r_callV hL (st := []) (av := [xR 1, xR 92]) (k := 100) (m_X2_measure (μ := μ) hB  (fun μ20c hB20c hG20 => ⟨rfl, ?_⟩)) ce_yX2_measure im_yX2_measure se_yX2_measure ml_X7_233 xcl2 (by decide) s_100 dX7_measureAnew_20 rfl (Nat.le_of_ble_eq_true rfl) ⟨Nat.le_of_ble_eq_true rfl, Nat.le_of_ble_eq_true rfl⟩ ⟨Nat.le_of_ble_eq_true rfl, Nat.le_of_ble_eq_true rfl⟩
    show X 0 0 WW μ20c 23 [some (xR 0)] []
    have hF20c : Fr RO μ μ20c := hF.trans hG20
    refine r_aload_n hL (x := 0) dX7_measureAnew_23 rfl ?_
    refine r_getr hL xcl7 5 (by decide) s_0 (by decide) fl_X7_47 (by decide) f_0_5 dX7_measureAnew_24 ?_
    refine r_aload_n hL (x := 0) dX7_measureAnew_27 rfl ?_
    refine r_getr hL xcl7 4 (by decide) s_0 (by decide) fl_X7_40 (by decide) f_0_4 dX7_measureAnew_28 ?_
    refine r_aload_n hL (x := 0) dX7_measureAnew_31 rfl ?_
    refine r_getr hL xcl7 0 (by decide) s_0 (by decide) fl_X7_10 (by decide) f_0_0 dX7_measureAnew_32 ?_
    refine r_geti hL xcl5 4 (j' := 4) rfl (by decide) s_1 (by decide) fl_X7_80 (by decide) (by decide) dX7_measureAnew_35 (fun hr35 => ?_)
    obtain ⟨z35, hz35⟩ : ∃ z, z = μ20c 1 4 := ⟨_, rfl⟩
    rw [← hz35] at hr35 ⊢
    have hb35 : 0 ≤ μ20c 1 4 ∧ μ20c 1 4 ≤ 8 := (show ((4 : Int) = 4 → 0 ≤ (μ20c 1 4) ∧ (μ20c 1 4) ≤ 8) ∧ ((4 : Int) = 5 → 0 ≤ (μ20c 1 4) ∧ (μ20c 1 4) ≤ 2) from hB20c 1 4).1 (by omega)
    refine r_aload_n hL (x := 0) dX7_measureAnew_38 rfl ?_
    refine r_getr hL xcl7 0 (by decide) s_0 (by decide) fl_X7_10 (by decide) f_0_0 dX7_measureAnew_39 ?_
    refine r_geti hL xcl5 5 (j' := 5) rfl (by decide) s_1 (by decide) fl_X7_91 (by decide) (by decide) dX7_measureAnew_42 (fun hr42 => ?_)
    obtain ⟨z42, hz42⟩ : ∃ z, z = μ20c 1 5 := ⟨_, rfl⟩
    rw [← hz42] at hr42 ⊢
    have hb42 : 0 ≤ μ20c 1 5 ∧ μ20c 1 5 ≤ 2 := (show ((5 : Int) = 4 → 0 ≤ (μ20c 1 5) ∧ (μ20c 1 5) ≤ 8) ∧ ((5 : Int) = 5 → 0 ≤ (μ20c 1 5) ∧ (μ20c 1 5) ≤ 2) from hB20c 1 5).2 (by omega)
    refine r_callV hL (st := []) (av := [xR 100, xI z35, xI z42]) (k := 102) (m_X6_grow (μ := μ20c) hB20c z35 (by omega) z42 (by omega) (fun μ45c hB45c hG45 => ⟨rfl, ?_⟩)) ce_yX6_grow im_yX6_grow se_yX6_grow ml_X7_237 xcl6 (by decide) s_102 dX7_measureAnew_45 rfl (Nat.le_of_ble_eq_true rfl) ⟨Nat.le_of_ble_eq_true rfl, Nat.le_of_ble_eq_true rfl⟩ ⟨Nat.le_of_ble_eq_true rfl, Nat.le_of_ble_eq_true rfl⟩
    show X 0 0 WW μ45c 48 [some (xR 0)] []
    have hF45c : Fr RO μ μ45c := hF20c.trans hG45
    refine r_aload_n hL (x := 0) dX7_measureAnew_48 rfl ?_
    refine r_iconst hL dX7_measureAnew_49 ?_
    refine r_putz hL xcl7 9 (j' := 9) rfl (by decide) s_0 (by decide) fl_X7_65 rfl rfl (by omega) dX7_measureAnew_50 (fun μ1 hm1 => ?_)
    have hB1 : BI μ1 := by rw [hm1]; exact hB45c.up (by show (9 : Int) = 7 → 0 ≤ 1 ∧ 1 ≤ 47244640255; omega)
    have hF1 : Fr RO μ μ1 := by rw [hm1]; exact hF45c.up (by unfold RO; omega)
    exact r_vret hL dX7_measureAnew_53 rfl (hK _ hB1 hF1)
  · skip
    exact r_vret hL dX7_measureAnew_7 rfl (hK _ hB hF)

set_option maxHeartbeats 4000000 in
set_option maxRecDepth 20000 in
theorem m_X7_likeTyped {K : Option xV → xW → xM → Prop} {μ : xM} (hB0 : BI μ)  (hK : ∀ r μ', BI μ' → Fr RO μ μ' → xrg r → K (some (xI r)) WW μ') : xMet yX7_likeTyped cX7_likeTyped 4 (some .int) 4 104 0 0 [xR 0] WW μ K := by
  refine xMet.go RX7 "likeTyped" rfl rfl (by decide) [some (xR 0), none, none, none] (Nat.le_of_ble_eq_true rfl) rfl (fun X hL => ?_)
  have hB := hB0
  have hF : Fr RO μ μ := Fr.rf
  refine r_aload_n hL (x := 0) dX7_likeTyped_0 rfl ?_
  refine r_getl hL xcl7 7 (j' := 7) rfl (by decide) s_0 (by decide) fl_X7_57 (by decide) dX7_likeTyped_1 (fun hr1 => ?_)
  obtain ⟨z1, hz1⟩ : ∃ z, z = μ 0 7 := ⟨_, rfl⟩
  rw [← hz1] at hr1 ⊢
  have hb1 : 0 ≤ μ 0 7 ∧ μ 0 7 ≤ 47244640255 := (show (7 : Int) = 7 → 0 ≤ (μ 0 7) ∧ (μ 0 7) ≤ 47244640255 from hB 0 7) (by omega)
  refine r_callS hL (st := []) (av := [xL z1]) (m_X7_lengthOf (μ := μ) z1 (by omega) (by omega) (fun z4 hz4 => ⟨rfl, ?_⟩)) ce_yX7_lengthOf sm_yX7_lengthOf ml_X7_71 dX7_likeTyped_4 rfl (Nat.le_of_ble_eq_true rfl) ⟨Nat.le_of_ble_eq_true rfl, Nat.le_of_ble_eq_true rfl⟩ ⟨Nat.le_of_ble_eq_true rfl, Nat.le_of_ble_eq_true rfl⟩
  show X 0 0 WW μ 7 [some (xR 0), none, none, none] [xI z4]
  refine r_if_ne hL (tgt := 12) dX7_likeTyped_7 (by decide) (by omega) (fun c7 => ?_) (fun c7 => ?_)
  · skip
    refine r_iconst hL dX7_likeTyped_12 ?_
    refine r_istore_n hL (lo' := [some (xR 0), some (xI (-1)), none, none]) dX7_likeTyped_13 (by decide) rfl ?_
    refine r_iconst hL dX7_likeTyped_14 ?_
    refine r_istore_n hL (lo' := [some (xR 0), some (xI (-1)), some (xI 0), none]) dX7_likeTyped_15 (by decide) rfl ?_
    refine r_iconst hL dX7_likeTyped_16 ?_
    refine r_istore_n hL (lo' := [some (xR 0), some (xI (-1)), some (xI 0), some (xI 0)]) dX7_likeTyped_17 (by decide) rfl ?_
    have lp18 : ∀ (n18 : Nat) (q : Int) (n : Int) (t : Int) (μ118 : xM), (BI μ118) → (Fr RO μ μ118) → (-1 ≤ q ∧ q ≤ 7) → (0 ≤ n ∧ n ≤ 180) → (0 ≤ t ∧ t ≤ 8) → ((8 - t).toNat) < n18 → X 0 0 WW μ118 18 [some (xR 0), some (xI q), some (xI n), some (xI t)] [] := by
      intro n18
      induction n18 with
      | zero => intro q n t μ118 hB118 hF118 h1 h2 h3 hn; exact absurd hn (Nat.not_lt_zero _)
      | succ n18 ih18 =>
        intro q n t μ118 hB118 hF118 h1 h2 h3 hn18
        refine r_iload_n hL (x := t) dX7_likeTyped_18 rfl ?_
        refine r_aload_n hL (x := 0) dX7_likeTyped_19 rfl ?_
        refine r_getr hL xcl7 0 (by decide) s_0 (by decide) fl_X7_10 (by decide) f_0_0 dX7_likeTyped_20 ?_
        refine r_geti hL xcl5 4 (j' := 4) rfl (by decide) s_1 (by decide) fl_X7_80 (by decide) (by decide) dX7_likeTyped_23 (fun hr23 => ?_)
        obtain ⟨z23, hz23⟩ : ∃ z, z = μ118 1 4 := ⟨_, rfl⟩
        rw [← hz23] at hr23 ⊢
        have hb23 : 0 ≤ μ118 1 4 ∧ μ118 1 4 ≤ 8 := (show ((4 : Int) = 4 → 0 ≤ (μ118 1 4) ∧ (μ118 1 4) ≤ 8) ∧ ((4 : Int) = 5 → 0 ≤ (μ118 1 4) ∧ (μ118 1 4) ≤ 2) from hB118 1 4).1 (by omega)
        refine r_icmp_ge hL (tgt := 88) dX7_likeTyped_26 (by decide) (by omega) (by omega) (fun c26 => ?_) (fun c26 => ?_)
        · skip
          refine r_iload_n hL (x := q) dX7_likeTyped_88 rfl ?_
          exact r_iret hL dX7_likeTyped_89 rfl (hK _ _ hB118 hF118 (by omega))
        · skip
          refine r_aload_n hL (x := 0) dX7_likeTyped_29 rfl ?_
          refine r_getr hL xcl7 3 (by decide) s_0 (by decide) fl_X7_33 (by decide) f_0_3 dX7_likeTyped_30 ?_
          refine r_aload_n hL (x := 0) dX7_likeTyped_33 rfl ?_
          refine r_getl hL xcl7 7 (j' := 7) rfl (by decide) s_0 (by decide) fl_X7_57 (by decide) dX7_likeTyped_34 (fun hr34 => ?_)
          obtain ⟨z34, hz34⟩ : ∃ z, z = μ118 0 7 := ⟨_, rfl⟩
          rw [← hz34] at hr34 ⊢
          have hb34 : 0 ≤ μ118 0 7 ∧ μ118 0 7 ≤ 47244640255 := (show (7 : Int) = 7 → 0 ≤ (μ118 0 7) ∧ (μ118 0 7) ≤ 47244640255 from hB118 0 7) (by omega)
          refine r_aload_n hL (x := 0) dX7_likeTyped_37 rfl ?_
          refine r_getr hL xcl7 0 (by decide) s_0 (by decide) fl_X7_10 (by decide) f_0_0 dX7_likeTyped_38 ?_
          refine r_getr hL xcl5 0 (by decide) s_1 (by decide) fl_X7_124 (by decide) f_1_0 dX7_likeTyped_41 ?_
          refine r_iload_n hL (x := t) dX7_likeTyped_44 rfl ?_
          refine r_lald hL dX7_likeTyped_45 (by decide) s_2 (by decide) (by omega) (by omega) (fun hr45 => ?_)
          obtain ⟨z45, hz45⟩ : ∃ z, z = μ118 2 t := ⟨_, rfl⟩
          rw [← hz45] at hr45 ⊢
          have hb45 : 0 ≤ (μ118 2 t) ∧ (μ118 2 t) ≤ 47244640255 := hB118 2 t
          refine r_aload_n hL (x := 0) dX7_likeTyped_46 rfl ?_
          refine r_getr hL xcl7 0 (by decide) s_0 (by decide) fl_X7_10 (by decide) f_0_0 dX7_likeTyped_47 ?_
          refine r_getr hL xcl5 2 (by decide) s_1 (by decide) fl_X7_146 (by decide) f_1_2 dX7_likeTyped_50 ?_
          refine r_callV hL (st := []) (av := [xL z34, xL z45, xR 4]) (k := 92) (m_X4_lineUp (μ := μ118) hB118 z34 (by omega) z45 (by omega) (fun μ53c hB53c hG53 hU53c hS53 => ⟨rfl, ?_⟩)) ce_yX4_lineUp im_yX4_lineUp se_yX4_lineUp ml_X7_149 xcl4 (by decide) s_92 dX7_likeTyped_53 rfl (Nat.le_of_ble_eq_true rfl) ⟨Nat.le_of_ble_eq_true rfl, Nat.le_of_ble_eq_true rfl⟩ ⟨Nat.le_of_ble_eq_true rfl, Nat.le_of_ble_eq_true rfl⟩
          show X 0 0 WW μ53c 56 [some (xR 0), some (xI q), some (xI n), some (xI t)] []
          have hF53c : Fr RO μ μ53c := hF118.trans hG53
          refine r_iload_n hL (x := q) dX7_likeTyped_56 rfl ?_
          refine r_iconst hL dX7_likeTyped_57 ?_
          refine r_icmp_eq hL (tgt := 72) dX7_likeTyped_58 (by decide) (by omega) (by omega) (fun c58 => ?_) (fun c58 => ?_)
          · skip
            refine r_iload_n hL (x := t) dX7_likeTyped_72 rfl ?_
            refine r_istore_n hL (lo' := [some (xR 0), some (xI t), some (xI n), some (xI t)]) dX7_likeTyped_73 (by decide) rfl ?_
            refine r_aload_n hL (x := 0) dX7_likeTyped_74 rfl ?_
            refine r_getr hL xcl7 3 (by decide) s_0 (by decide) fl_X7_33 (by decide) f_0_3 dX7_likeTyped_75 ?_
            refine r_callV hL (st := []) (av := []) (k := 92) (m_X4_apart (μ := μ53c) hB53c hU53c (fun z78 hc78 heq78 => ⟨rfl, ?_⟩)) ce_yX4_apart im_yX4_apart se_yX4_apart ml_X7_153 xcl4 (by decide) s_92 dX7_likeTyped_78 rfl (Nat.le_of_ble_eq_true rfl) ⟨Nat.le_of_ble_eq_true rfl, Nat.le_of_ble_eq_true rfl⟩ ⟨Nat.le_of_ble_eq_true rfl, Nat.le_of_ble_eq_true rfl⟩
            show X 0 0 WW μ53c 81 [some (xR 0), some (xI t), some (xI n), some (xI t)] [xI z78]
            refine r_istore_n hL (lo' := [some (xR 0), some (xI t), some (xI z78), some (xI t)]) dX7_likeTyped_81 (by decide) rfl ?_
            refine r_iinc hL (x := t) (lo' := [some (xR 0), some (xI t), some (xI z78), some (xI (t + 1))]) dX7_likeTyped_82 (by decide) rfl rfl ?_
            refine r_goto hL (tgt := 18) dX7_likeTyped_85 (by decide) ?_
            exact ih18 t z78 (t + 1) μ53c hB53c hF53c (by omega) (by omega) (by omega) (by omega)
          · skip
            refine r_aload_n hL (x := 0) dX7_likeTyped_61 rfl ?_
            refine r_getr hL xcl7 3 (by decide) s_0 (by decide) fl_X7_33 (by decide) f_0_3 dX7_likeTyped_62 ?_
            refine r_callV hL (st := []) (av := []) (k := 92) (m_X4_apart (μ := μ53c) hB53c hU53c (fun z65 hc65 heq65 => ⟨rfl, ?_⟩)) ce_yX4_apart im_yX4_apart se_yX4_apart ml_X7_153 xcl4 (by decide) s_92 dX7_likeTyped_65 rfl (Nat.le_of_ble_eq_true rfl) ⟨Nat.le_of_ble_eq_true rfl, Nat.le_of_ble_eq_true rfl⟩ ⟨Nat.le_of_ble_eq_true rfl, Nat.le_of_ble_eq_true rfl⟩
            show X 0 0 WW μ53c 68 [some (xR 0), some (xI q), some (xI n), some (xI t)] [xI z65]
            refine r_iload_n hL (x := n) dX7_likeTyped_68 rfl ?_
            refine r_icmp_ge hL (tgt := 82) dX7_likeTyped_69 (by decide) (by omega) (by omega) (fun c69 => ?_) (fun c69 => ?_)
            · skip
              refine r_iinc hL (x := t) (lo' := [some (xR 0), some (xI q), some (xI n), some (xI (t + 1))]) dX7_likeTyped_82 (by decide) rfl rfl ?_
              refine r_goto hL (tgt := 18) dX7_likeTyped_85 (by decide) ?_
              exact ih18 q n (t + 1) μ53c hB53c hF53c (by omega) (by omega) (by omega) (by omega)
            · skip
              refine r_iload_n hL (x := t) dX7_likeTyped_72 rfl ?_
              refine r_istore_n hL (lo' := [some (xR 0), some (xI t), some (xI n), some (xI t)]) dX7_likeTyped_73 (by decide) rfl ?_
              refine r_aload_n hL (x := 0) dX7_likeTyped_74 rfl ?_
              refine r_getr hL xcl7 3 (by decide) s_0 (by decide) fl_X7_33 (by decide) f_0_3 dX7_likeTyped_75 ?_
              refine r_callV hL (st := []) (av := []) (k := 92) (m_X4_apart (μ := μ53c) hB53c hU53c (fun z78 hc78 heq78 => ⟨rfl, ?_⟩)) ce_yX4_apart im_yX4_apart se_yX4_apart ml_X7_153 xcl4 (by decide) s_92 dX7_likeTyped_78 rfl (Nat.le_of_ble_eq_true rfl) ⟨Nat.le_of_ble_eq_true rfl, Nat.le_of_ble_eq_true rfl⟩ ⟨Nat.le_of_ble_eq_true rfl, Nat.le_of_ble_eq_true rfl⟩
              show X 0 0 WW μ53c 81 [some (xR 0), some (xI t), some (xI n), some (xI t)] [xI z78]
              refine r_istore_n hL (lo' := [some (xR 0), some (xI t), some (xI z78), some (xI t)]) dX7_likeTyped_81 (by decide) rfl ?_
              refine r_iinc hL (x := t) (lo' := [some (xR 0), some (xI t), some (xI z78), some (xI (t + 1))]) dX7_likeTyped_82 (by decide) rfl rfl ?_
              refine r_goto hL (tgt := 18) dX7_likeTyped_85 (by decide) ?_
              exact ih18 t z78 (t + 1) μ53c hB53c hF53c (by omega) (by omega) (by omega) (by omega)
    exact lp18 _ (-1) 0 0 μ hB hF (by omega) (by omega) (by omega) (Nat.lt_succ_self _)
  · skip
    refine r_iconst hL dX7_likeTyped_10 ?_
    exact r_iret hL dX7_likeTyped_11 rfl (hK _ _ hB hF (by omega))

set_option maxHeartbeats 4000000 in
set_option maxRecDepth 20000 in
theorem m_X7_told {K : Option xV → xW → xM → Prop} {μ : xM} (hB0 : BI μ) (t : Int) (ht : xrg t) (hK : ∀ r μ', BI μ' → Fr RO μ μ' → xrg r → K (some (xI r)) WW μ') : xMet yX7_told cX7_told 2 (some .int) 6 148 0 0 [xR 0, xI t] WW μ K := by
  refine xMet.go RX7 "told" rfl rfl (by decide) [some (xR 0), some (xI t)] (Nat.le_of_ble_eq_true rfl) rfl (fun X hL => ?_)
  have hB := hB0
  have hF : Fr RO μ μ := Fr.rf
  refine r_iload_n hL (x := t) dX7_told_0 rfl ?_
  by_cases e1 : 0 ≤ t ∧ t ≤ 8
  · skip
    rcases (show t = 0 ∨ t = 1 ∨ t = 2 ∨ t = 3 ∨ t = 4 ∨ t = 5 ∨ t = 6 ∨ t = 7 ∨ t = 8 by omega) with e1 | e1 | e1 | e1 | e1 | e1 | e1 | e1 | e1
    · skip
      refine r_tableIn hL (tgt := 52) (off := 51) 0 dX7_told_1 (by omega) e1 (by decide) (by decide) rfl (by decide) ?_
      refine r_aload_n hL (x := 0) dX7_told_52 rfl ?_
      refine r_getr hL xcl7 0 (by decide) s_0 (by decide) fl_X7_10 (by decide) f_0_0 dX7_told_53 ?_
      refine r_geti hL xcl5 4 (j' := 4) rfl (by decide) s_1 (by decide) fl_X7_80 (by decide) (by decide) dX7_told_56 (fun hr56 => ?_)
      obtain ⟨z56, hz56⟩ : ∃ z, z = μ 1 4 := ⟨_, rfl⟩
      rw [← hz56] at hr56 ⊢
      have hb56 : 0 ≤ μ 1 4 ∧ μ 1 4 ≤ 8 := (show ((4 : Int) = 4 → 0 ≤ (μ 1 4) ∧ (μ 1 4) ≤ 8) ∧ ((4 : Int) = 5 → 0 ≤ (μ 1 4) ∧ (μ 1 4) ≤ 2) from hB 1 4).1 (by omega)
      exact r_iret hL dX7_told_59 rfl (hK _ _ hB hF (by omega))
    · skip
      refine r_tableIn hL (tgt := 60) (off := 59) 1 dX7_told_1 (by omega) e1 (by decide) (by decide) rfl (by decide) ?_
      refine r_aload_n hL (x := 0) dX7_told_60 rfl ?_
      refine r_getl hL xcl7 7 (j' := 7) rfl (by decide) s_0 (by decide) fl_X7_57 (by decide) dX7_told_61 (fun hr61 => ?_)
      obtain ⟨z61, hz61⟩ : ∃ z, z = μ 0 7 := ⟨_, rfl⟩
      rw [← hz61] at hr61 ⊢
      have hb61 : 0 ≤ μ 0 7 ∧ μ 0 7 ≤ 47244640255 := (show (7 : Int) = 7 → 0 ≤ (μ 0 7) ∧ (μ 0 7) ≤ 47244640255 from hB 0 7) (by omega)
      refine r_callS hL (st := []) (av := [xL z61]) (m_X7_lengthOf (μ := μ) z61 (by omega) (by omega) (fun z64 hz64 => ⟨rfl, ?_⟩)) ce_yX7_lengthOf sm_yX7_lengthOf ml_X7_71 dX7_told_64 rfl (Nat.le_of_ble_eq_true rfl) ⟨Nat.le_of_ble_eq_true rfl, Nat.le_of_ble_eq_true rfl⟩ ⟨Nat.le_of_ble_eq_true rfl, Nat.le_of_ble_eq_true rfl⟩
      show X 0 0 WW μ 67 [some (xR 0), some (xI t)] [xI z64]
      exact r_iret hL dX7_told_67 rfl (hK _ _ hB hF (by omega))
    · skip
      refine r_tableIn hL (tgt := 68) (off := 67) 2 dX7_told_1 (by omega) e1 (by decide) (by decide) rfl (by decide) ?_
      refine r_aload_n hL (x := 0) dX7_told_68 rfl ?_
      refine r_getr hL xcl7 0 (by decide) s_0 (by decide) fl_X7_10 (by decide) f_0_0 dX7_told_69 ?_
      refine r_geti hL xcl5 5 (j' := 5) rfl (by decide) s_1 (by decide) fl_X7_91 (by decide) (by decide) dX7_told_72 (fun hr72 => ?_)
      obtain ⟨z72, hz72⟩ : ∃ z, z = μ 1 5 := ⟨_, rfl⟩
      rw [← hz72] at hr72 ⊢
      have hb72 : 0 ≤ μ 1 5 ∧ μ 1 5 ≤ 2 := (show ((5 : Int) = 4 → 0 ≤ (μ 1 5) ∧ (μ 1 5) ≤ 8) ∧ ((5 : Int) = 5 → 0 ≤ (μ 1 5) ∧ (μ 1 5) ≤ 2) from hB 1 5).2 (by omega)
      exact r_iret hL dX7_told_75 rfl (hK _ _ hB hF (by omega))
    · skip
      refine r_tableIn hL (tgt := 76) (off := 75) 3 dX7_told_1 (by omega) e1 (by decide) (by decide) rfl (by decide) ?_
      refine r_aload_n hL (x := 0) dX7_told_76 rfl ?_
      refine r_callV hL (st := []) (av := []) (k := 0) (m_X7_nodeCount (μ := μ) hB  (fun z77 hc77 => ⟨rfl, ?_⟩)) ce_yX7_nodeCount im_yX7_nodeCount se_yX7_nodeCount ml_X7_94 xcl7 (by decide) s_0 dX7_told_77 rfl (Nat.le_of_ble_eq_true rfl) ⟨Nat.le_of_ble_eq_true rfl, Nat.le_of_ble_eq_true rfl⟩ ⟨Nat.le_of_ble_eq_true rfl, Nat.le_of_ble_eq_true rfl⟩
      show X 0 0 WW μ 80 [some (xR 0), some (xI t)] [xI z77]
      exact r_iret hL dX7_told_80 rfl (hK _ _ hB hF (by omega))
    · skip
      refine r_tableIn hL (tgt := 81) (off := 80) 4 dX7_told_1 (by omega) e1 (by decide) (by decide) rfl (by decide) ?_
      refine r_aload_n hL (x := 0) dX7_told_81 rfl ?_
      refine r_callV hL (st := []) (av := []) (k := 0) (m_X7_likeTyped (μ := μ) hB  (fun z82 μ82c hB82c hG82 hc82 => ⟨rfl, ?_⟩)) ce_yX7_likeTyped im_yX7_likeTyped se_yX7_likeTyped ml_X7_98 xcl7 (by decide) s_0 dX7_told_82 rfl (Nat.le_of_ble_eq_true rfl) ⟨Nat.le_of_ble_eq_true rfl, Nat.le_of_ble_eq_true rfl⟩ ⟨Nat.le_of_ble_eq_true rfl, Nat.le_of_ble_eq_true rfl⟩
      show X 0 0 WW μ82c 85 [some (xR 0), some (xI t)] [xI z82]
      have hF82c : Fr RO μ μ82c := hF.trans hG82
      exact r_iret hL dX7_told_85 rfl (hK _ _ hB82c hF82c (by omega))
    · skip
      refine r_tableIn hL (tgt := 86) (off := 85) 5 dX7_told_1 (by omega) e1 (by decide) (by decide) rfl (by decide) ?_
      refine r_aload_n hL (x := 0) dX7_told_86 rfl ?_
      refine r_getr hL xcl7 0 (by decide) s_0 (by decide) fl_X7_10 (by decide) f_0_0 dX7_told_87 ?_
      refine r_aload_n hL (x := 0) dX7_told_90 rfl ?_
      refine r_callV hL (st := [xR 1]) (av := []) (k := 0) (m_X7_allTales (μ := μ) hB  (fun z91 heq91 hc91 => ⟨rfl, ?_⟩)) ce_yX7_allTales im_yX7_allTales se_yX7_allTales ml_X7_101 xcl7 (by decide) s_0 dX7_told_91 rfl (Nat.le_of_ble_eq_true rfl) ⟨Nat.le_of_ble_eq_true rfl, Nat.le_of_ble_eq_true rfl⟩ ⟨Nat.le_of_ble_eq_true rfl, Nat.le_of_ble_eq_true rfl⟩
      show X 0 0 WW μ 94 [some (xR 0), some (xI t)] [xI z91, xR 1]
      refine r_callV hL (st := []) (av := [xI z91]) (k := 1) (m_X5_motifsOfAll (μ := μ) hB z91 (by omega) (fun z94 heq94 hc94 => ⟨rfl, ?_⟩)) ce_yX5_motifsOfAll im_yX5_motifsOfAll se_yX5_motifsOfAll ml_X7_104 xcl5 (by decide) s_1 dX7_told_94 rfl (Nat.le_of_ble_eq_true rfl) ⟨Nat.le_of_ble_eq_true rfl, Nat.le_of_ble_eq_true rfl⟩ ⟨Nat.le_of_ble_eq_true rfl, Nat.le_of_ble_eq_true rfl⟩
      show X 0 0 WW μ 97 [some (xR 0), some (xI t)] [xI z94]
      exact r_iret hL dX7_told_97 rfl (hK _ _ hB hF (by omega))
    · skip
      refine r_tableIn hL (tgt := 98) (off := 97) 6 dX7_told_1 (by omega) e1 (by decide) (by decide) rfl (by decide) ?_
      refine r_aload_n hL (x := 0) dX7_told_98 rfl ?_
      refine r_getr hL xcl7 2 (by decide) s_0 (by decide) fl_X7_26 (by decide) f_0_2 dX7_told_99 ?_
      refine r_geti hL xcl0 3 (j' := 3) rfl (by decide) s_88 (by decide) fl_X7_108 (by decide) (by decide) dX7_told_102 (fun hr102 => ?_)
      obtain ⟨z102, hz102⟩ : ∃ z, z = μ 88 3 := ⟨_, rfl⟩
      rw [← hz102] at hr102 ⊢
      have hb102 : 0 ≤ μ 88 3 ∧ μ 88 3 ≤ 20 := (show (3 : Int) = 3 → 0 ≤ (μ 88 3) ∧ (μ 88 3) ≤ 20 from hB 88 3) (by omega)
      exact r_iret hL dX7_told_105 rfl (hK _ _ hB hF (by omega))
    · skip
      refine r_tableIn hL (tgt := 106) (off := 105) 7 dX7_told_1 (by omega) e1 (by decide) (by decide) rfl (by decide) ?_
      refine r_aload_n hL (x := 0) dX7_told_106 rfl ?_
      refine r_callV hL (st := []) (av := []) (k := 0) (m_X7_measureAnew (μ := μ) hB  (fun μ107c hB107c hG107 => ⟨rfl, ?_⟩)) ce_yX7_measureAnew im_yX7_measureAnew se_yX7_measureAnew ml_X7_111 xcl7 (by decide) s_0 dX7_told_107 rfl (Nat.le_of_ble_eq_true rfl) ⟨Nat.le_of_ble_eq_true rfl, Nat.le_of_ble_eq_true rfl⟩ ⟨Nat.le_of_ble_eq_true rfl, Nat.le_of_ble_eq_true rfl⟩
      show X 0 0 WW μ107c 110 [some (xR 0), some (xI t)] []
      have hF107c : Fr RO μ μ107c := hF.trans hG107
      refine r_aload_n hL (x := 0) dX7_told_110 rfl ?_
      refine r_getr hL xcl7 2 (by decide) s_0 (by decide) fl_X7_26 (by decide) f_0_2 dX7_told_111 ?_
      refine r_aload_n hL (x := 0) dX7_told_114 rfl ?_
      refine r_getr hL xcl7 4 (by decide) s_0 (by decide) fl_X7_40 (by decide) f_0_4 dX7_told_115 ?_
      refine r_aload_n hL (x := 0) dX7_told_118 rfl ?_
      refine r_getr hL xcl7 0 (by decide) s_0 (by decide) fl_X7_10 (by decide) f_0_0 dX7_told_119 ?_
      refine r_geti hL xcl5 4 (j' := 4) rfl (by decide) s_1 (by decide) fl_X7_80 (by decide) (by decide) dX7_told_122 (fun hr122 => ?_)
      obtain ⟨z122, hz122⟩ : ∃ z, z = μ107c 1 4 := ⟨_, rfl⟩
      rw [← hz122] at hr122 ⊢
      have hb122 : 0 ≤ μ107c 1 4 ∧ μ107c 1 4 ≤ 8 := (show ((4 : Int) = 4 → 0 ≤ (μ107c 1 4) ∧ (μ107c 1 4) ≤ 8) ∧ ((4 : Int) = 5 → 0 ≤ (μ107c 1 4) ∧ (μ107c 1 4) ≤ 2) from hB107c 1 4).1 (by omega)
      refine r_callV hL (st := []) (av := [xR 100, xI z122]) (k := 88) (m_X0_firstOtherwise (μ := μ107c) hB107c z122 (by omega) (fun z125 hc125 => ⟨rfl, ?_⟩)) ce_yX0_firstOtherwise im_yX0_firstOtherwise se_yX0_firstOtherwise ml_X7_114 xcl0 (by decide) s_88 dX7_told_125 rfl (Nat.le_of_ble_eq_true rfl) ⟨Nat.le_of_ble_eq_true rfl, Nat.le_of_ble_eq_true rfl⟩ ⟨Nat.le_of_ble_eq_true rfl, Nat.le_of_ble_eq_true rfl⟩
      show X 0 0 WW μ107c 128 [some (xR 0), some (xI t)] [xI z125]
      exact r_iret hL dX7_told_128 rfl (hK _ _ hB107c hF107c (by omega))
    · skip
      refine r_tableIn hL (tgt := 129) (off := 128) 8 dX7_told_1 (by omega) e1 (by decide) (by decide) rfl (by decide) ?_
      refine r_aload_n hL (x := 0) dX7_told_129 rfl ?_
      refine r_getr hL xcl7 1 (by decide) s_0 (by decide) fl_X7_19 (by decide) f_0_1 dX7_told_130 ?_
      refine r_geti hL xcl1 1 (j' := 1) rfl (by decide) s_6 (by decide) fl_X7_118 (by decide) (by decide) dX7_told_133 (fun hr133 => ?_)
      obtain ⟨z133, hz133⟩ : ∃ z, z = μ 6 1 := ⟨_, rfl⟩
      rw [← hz133] at hr133 ⊢
      have hb133 : 0 ≤ μ 6 1 ∧ μ 6 1 ≤ 16 := (show ((1 : Int) = 1 → 0 ≤ (μ 6 1) ∧ (μ 6 1) ≤ 16) ∧ ((1 : Int) = 2 → 0 ≤ (μ 6 1) ∧ (μ 6 1) ≤ 15) from hB 6 1).1 (by omega)
      exact r_iret hL dX7_told_136 rfl (hK _ _ hB hF (by omega))
  · skip
    refine r_tableOut hL (tgt := 137) dX7_told_1 (by omega) (by omega) (by decide) ?_
    refine r_ldc hL (n := -1000000002) dX7_told_137 kc_X7_70 (by decide) ?_
    exact r_iret hL dX7_told_139 rfl (hK _ _ hB hF (by omega))

set_option maxHeartbeats 4000000 in
set_option maxRecDepth 20000 in
theorem m_X7_taleAt {K : Option xV → xW → xM → Prop} {μ : xM} (hB0 : BI μ) (t : Int) (ht : xrg t) (u : Int) (hu : xrg u) (hP : ∀ q, 0 ≤ q → q < μ 1 4 → 0 ≤ μ 3 q ∧ μ 3 q ≤ 255) (hK : ∀ r, C_taleAt t u μ r → xrg r → K (some (xI r)) WW μ) : xMet yX7_taleAt cX7_taleAt 3 (some .int) 2 48 0 0 [xR 0, xI t, xI u] WW μ K := by
  refine xMet.go RX7 "taleAt" rfl rfl (by decide) [some (xR 0), some (xI t), some (xI u)] (Nat.le_of_ble_eq_true rfl) rfl (fun X hL => ?_)
  have hB := hB0
  refine r_aload_n hL (x := 0) dX7_taleAt_0 rfl ?_
  refine r_iload_n hL (x := t) dX7_taleAt_1 rfl ?_
  refine r_callV hL (st := []) (av := [xI t]) (k := 0) (m_X7_isTale (μ := μ) hB t (by omega) (fun z2 hc2 => ⟨rfl, ?_⟩)) ce_yX7_isTale im_yX7_isTale se_yX7_isTale ml_X7_119 xcl7 (by decide) s_0 dX7_taleAt_2 rfl (Nat.le_of_ble_eq_true rfl) ⟨Nat.le_of_ble_eq_true rfl, Nat.le_of_ble_eq_true rfl⟩ ⟨Nat.le_of_ble_eq_true rfl, Nat.le_of_ble_eq_true rfl⟩
  show X 0 0 WW μ 5 [some (xR 0), some (xI t), some (xI u)] [xI z2]
  refine r_if_ne hL (tgt := 11) dX7_taleAt_5 (by decide) (by omega) (fun c5 => ?_) (fun c5 => ?_)
  · skip
    refine r_iload_n hL (x := u) dX7_taleAt_11 rfl ?_
    by_cases e12 : 0 ≤ u ∧ u ≤ 3
    · skip
      rcases (show u = 0 ∨ u = 1 ∨ u = 2 ∨ u = 3 by omega) with e12 | e12 | e12 | e12
      · skip
        refine r_tableIn hL (tgt := 44) (off := 32) 0 dX7_taleAt_12 (by omega) e12 (by decide) (by decide) rfl (by decide) ?_
        refine r_aload_n hL (x := 0) dX7_taleAt_44 rfl ?_
        refine r_getr hL xcl7 0 (by decide) s_0 (by decide) fl_X7_10 (by decide) f_0_0 dX7_taleAt_45 ?_
        refine r_getr hL xcl5 0 (by decide) s_1 (by decide) fl_X7_124 (by decide) f_1_0 dX7_taleAt_48 ?_
        refine r_iload_n hL (x := t) dX7_taleAt_51 rfl ?_
        refine r_lald hL dX7_taleAt_52 (by decide) s_2 (by decide) (by omega) (by omega) (fun hr52 => ?_)
        obtain ⟨z52, hz52⟩ : ∃ z, z = μ 2 t := ⟨_, rfl⟩
        rw [← hz52] at hr52 ⊢
        have hb52 : 0 ≤ (μ 2 t) ∧ (μ 2 t) ≤ 47244640255 := hB 2 t
        refine r_callS hL (st := []) (av := [xL z52]) (m_X7_lengthOf (μ := μ) z52 (by omega) (by omega) (fun z53 hz53 => ⟨rfl, ?_⟩)) ce_yX7_lengthOf sm_yX7_lengthOf ml_X7_71 dX7_taleAt_53 rfl (Nat.le_of_ble_eq_true rfl) ⟨Nat.le_of_ble_eq_true rfl, Nat.le_of_ble_eq_true rfl⟩ ⟨Nat.le_of_ble_eq_true rfl, Nat.le_of_ble_eq_true rfl⟩
        show X 0 0 WW μ 56 [some (xR 0), some (xI t), some (xI u)] [xI z53]
        exact r_iret hL dX7_taleAt_56 rfl (hK _ (Or.inr ⟨by omega, Or.inl ⟨by omega, by rw [hz53, hz52]⟩⟩) (by omega))
      · skip
        refine r_tableIn hL (tgt := 57) (off := 45) 1 dX7_taleAt_12 (by omega) e12 (by decide) (by decide) rfl (by decide) ?_
        refine r_aload_n hL (x := 0) dX7_taleAt_57 rfl ?_
        refine r_getr hL xcl7 0 (by decide) s_0 (by decide) fl_X7_10 (by decide) f_0_0 dX7_taleAt_58 ?_
        refine r_getr hL xcl5 1 (by decide) s_1 (by decide) fl_X7_128 (by decide) f_1_1 dX7_taleAt_61 ?_
        refine r_iload_n hL (x := t) dX7_taleAt_64 rfl ?_
        refine r_iald hL dX7_taleAt_65 (by decide) s_3 (by decide) (by omega) (by omega) (fun hr65 => ?_)
        obtain ⟨z65, hz65⟩ : ∃ z, z = μ 3 t := ⟨_, rfl⟩
        rw [← hz65] at hr65 ⊢
        exact r_iret hL dX7_taleAt_66 rfl (hK _ (Or.inr ⟨by omega, Or.inr (Or.inl ⟨by omega, hz65⟩)⟩) (by omega))
      · skip
        refine r_tableIn hL (tgt := 67) (off := 55) 2 dX7_taleAt_12 (by omega) e12 (by decide) (by decide) rfl (by decide) ?_
        refine r_aload_n hL (x := 0) dX7_taleAt_67 rfl ?_
        refine r_getr hL xcl7 0 (by decide) s_0 (by decide) fl_X7_10 (by decide) f_0_0 dX7_taleAt_68 ?_
        refine r_getr hL xcl5 1 (by decide) s_1 (by decide) fl_X7_128 (by decide) f_1_1 dX7_taleAt_71 ?_
        refine r_iload_n hL (x := t) dX7_taleAt_74 rfl ?_
        refine r_iald hL dX7_taleAt_75 (by decide) s_3 (by decide) (by omega) (by omega) (fun hr75 => ?_)
        obtain ⟨z75, hz75⟩ : ∃ z, z = μ 3 t := ⟨_, rfl⟩
        rw [← hz75] at hr75 ⊢
        have hp75 := hP t (by omega) (by omega)
        rw [← hz75] at hp75
        refine r_aload_n hL (x := 0) dX7_taleAt_76 rfl ?_
        refine r_getr hL xcl7 0 (by decide) s_0 (by decide) fl_X7_10 (by decide) f_0_0 dX7_taleAt_77 ?_
        refine r_getr hL xcl5 3 (by decide) s_1 (by decide) fl_X7_132 (by decide) f_1_3 dX7_taleAt_80 ?_
        refine r_callS hL (st := []) (av := [xI z75, xR 5]) (m_X7_hull (μ := μ) z75 (by omega) 5 (by decide) s_5 (fun z83 hv83 hc83 => ⟨rfl, ?_⟩)) ce_yX7_hull sm_yX7_hull ml_X7_135 dX7_taleAt_83 rfl (Nat.le_of_ble_eq_true rfl) ⟨Nat.le_of_ble_eq_true rfl, Nat.le_of_ble_eq_true rfl⟩ ⟨Nat.le_of_ble_eq_true rfl, Nat.le_of_ble_eq_true rfl⟩
        show X 0 0 WW μ 86 [some (xR 0), some (xI t), some (xI u)] [xI z83]
        refine r_callS hL (st := []) (av := [xI z83]) (m_X7_roadsOf (μ := μ) z83 (by omega) (fun z86 heq86 hc86 => ⟨rfl, ?_⟩)) ce_yX7_roadsOf sm_yX7_roadsOf ml_X7_139 dX7_taleAt_86 rfl (Nat.le_of_ble_eq_true rfl) ⟨Nat.le_of_ble_eq_true rfl, Nat.le_of_ble_eq_true rfl⟩ ⟨Nat.le_of_ble_eq_true rfl, Nat.le_of_ble_eq_true rfl⟩
        show X 0 0 WW μ 89 [some (xR 0), some (xI t), some (xI u)] [xI z86]
        exact r_iret hL dX7_taleAt_89 rfl (hK _ (Or.inr ⟨by omega, Or.inr (Or.inr (Or.inl ⟨by omega, by rw [heq86, hv83, hz75]⟩))⟩) (by omega))
      · skip
        refine r_tableIn hL (tgt := 90) (off := 78) 3 dX7_taleAt_12 (by omega) e12 (by decide) (by decide) rfl (by decide) ?_
        refine r_aload_n hL (x := 0) dX7_taleAt_90 rfl ?_
        refine r_getr hL xcl7 0 (by decide) s_0 (by decide) fl_X7_10 (by decide) f_0_0 dX7_taleAt_91 ?_
        refine r_getr hL xcl5 1 (by decide) s_1 (by decide) fl_X7_128 (by decide) f_1_1 dX7_taleAt_94 ?_
        refine r_iload_n hL (x := t) dX7_taleAt_97 rfl ?_
        refine r_iald hL dX7_taleAt_98 (by decide) s_3 (by decide) (by omega) (by omega) (fun hr98 => ?_)
        obtain ⟨z98, hz98⟩ : ∃ z, z = μ 3 t := ⟨_, rfl⟩
        rw [← hz98] at hr98 ⊢
        have hp98 := hP t (by omega) (by omega)
        rw [← hz98] at hp98
        refine r_aload_n hL (x := 0) dX7_taleAt_99 rfl ?_
        refine r_getr hL xcl7 0 (by decide) s_0 (by decide) fl_X7_10 (by decide) f_0_0 dX7_taleAt_100 ?_
        refine r_getr hL xcl5 3 (by decide) s_1 (by decide) fl_X7_132 (by decide) f_1_3 dX7_taleAt_103 ?_
        refine r_callS hL (st := []) (av := [xI z98, xR 5]) (m_X7_hull (μ := μ) z98 (by omega) 5 (by decide) s_5 (fun z106 hv106 hc106 => ⟨rfl, ?_⟩)) ce_yX7_hull sm_yX7_hull ml_X7_135 dX7_taleAt_106 rfl (Nat.le_of_ble_eq_true rfl) ⟨Nat.le_of_ble_eq_true rfl, Nat.le_of_ble_eq_true rfl⟩ ⟨Nat.le_of_ble_eq_true rfl, Nat.le_of_ble_eq_true rfl⟩
        show X 0 0 WW μ 109 [some (xR 0), some (xI t), some (xI u)] [xI z106]
        exact r_iret hL dX7_taleAt_109 rfl (hK _ (Or.inr ⟨by omega, Or.inr (Or.inr (Or.inr (Or.inl ⟨by omega, by rw [hv106, hz98]⟩)))⟩) (by omega))
    · skip
      refine r_tableOut hL (tgt := 110) dX7_taleAt_12 (by omega) (by omega) (by decide) ?_
      refine r_ldc hL (n := -1000000002) dX7_taleAt_110 kc_X7_70 (by decide) ?_
      exact r_iret hL dX7_taleAt_112 rfl (hK _ (Or.inr ⟨by omega, Or.inr (Or.inr (Or.inr (Or.inr ⟨by omega, rfl⟩)))⟩) (by omega))
  · skip
    refine r_ldc hL (n := -1000000001) dX7_taleAt_8 kc_X7_123 (by decide) ?_
    exact r_iret hL dX7_taleAt_10 rfl (hK _ (Or.inl ⟨by omega, rfl⟩) (by omega))

set_option maxHeartbeats 4000000 in
set_option maxRecDepth 20000 in
theorem m_X7_pair {K : Option xV → xW → xM → Prop} {μ : xM} (hB0 : BI μ) (t : Int) (ht : xrg t) (u : Int) (hu : xrg u) (v : Int) (hv : xrg v) (hK : ∀ r μ', BI μ' → Fr RO μ μ' → C_pair t u v μ r → xrg r → K (some (xI r)) WW μ') : xMet yX7_pair cX7_pair 4 (some .int) 4 104 0 0 [xR 0, xI t, xI u, xI v] WW μ K := by
  refine xMet.go RX7 "pair" rfl rfl (by decide) [some (xR 0), some (xI t), some (xI u), some (xI v)] (Nat.le_of_ble_eq_true rfl) rfl (fun X hL => ?_)
  have hB := hB0
  have hF : Fr RO μ μ := Fr.rf
  refine r_aload_n hL (x := 0) dX7_pair_0 rfl ?_
  refine r_iload_n hL (x := t) dX7_pair_1 rfl ?_
  refine r_callV hL (st := []) (av := [xI t]) (k := 0) (m_X7_isTale (μ := μ) hB t (by omega) (fun z2 hc2 => ⟨rfl, ?_⟩)) ce_yX7_isTale im_yX7_isTale se_yX7_isTale ml_X7_119 xcl7 (by decide) s_0 dX7_pair_2 rfl (Nat.le_of_ble_eq_true rfl) ⟨Nat.le_of_ble_eq_true rfl, Nat.le_of_ble_eq_true rfl⟩ ⟨Nat.le_of_ble_eq_true rfl, Nat.le_of_ble_eq_true rfl⟩
  show X 0 0 WW μ 5 [some (xR 0), some (xI t), some (xI u), some (xI v)] [xI z2]
  refine r_if_eq hL (tgt := 16) dX7_pair_5 (by decide) (by omega) (fun c5 => ?_) (fun c5 => ?_)
  · skip
    refine r_ldc hL (n := -1000000001) dX7_pair_16 kc_X7_123 (by decide) ?_
    exact r_iret hL dX7_pair_18 rfl (hK _ _ hB hF (Or.inl (⟨by omega, rfl⟩)) (by omega))
  · skip
    refine r_aload_n hL (x := 0) dX7_pair_8 rfl ?_
    refine r_iload_n hL (x := u) dX7_pair_9 rfl ?_
    refine r_callV hL (st := []) (av := [xI u]) (k := 0) (m_X7_isTale (μ := μ) hB u (by omega) (fun z10 hc10 => ⟨rfl, ?_⟩)) ce_yX7_isTale im_yX7_isTale se_yX7_isTale ml_X7_119 xcl7 (by decide) s_0 dX7_pair_10 rfl (Nat.le_of_ble_eq_true rfl) ⟨Nat.le_of_ble_eq_true rfl, Nat.le_of_ble_eq_true rfl⟩ ⟨Nat.le_of_ble_eq_true rfl, Nat.le_of_ble_eq_true rfl⟩
    show X 0 0 WW μ 13 [some (xR 0), some (xI t), some (xI u), some (xI v)] [xI z10]
    refine r_if_ne hL (tgt := 19) dX7_pair_13 (by decide) (by omega) (fun c13 => ?_) (fun c13 => ?_)
    · skip
      refine r_iload_n hL (x := v) dX7_pair_19 rfl ?_
      refine r_if_lt hL (tgt := 28) dX7_pair_20 (by decide) (by omega) (fun c20 => ?_) (fun c20 => ?_)
      · skip
        refine r_ldc hL (n := -1000000002) dX7_pair_28 kc_X7_70 (by decide) ?_
        exact r_iret hL dX7_pair_30 rfl (hK _ _ hB hF (Or.inr (Or.inl (⟨by omega, by omega, rfl⟩))) (by omega))
      · skip
        refine r_iload_n hL (x := v) dX7_pair_23 rfl ?_
        refine r_iconst hL dX7_pair_24 ?_
        refine r_icmp_le hL (tgt := 31) dX7_pair_25 (by decide) (by omega) (by omega) (fun c25 => ?_) (fun c25 => ?_)
        · skip
          refine r_aload_n hL (x := 0) dX7_pair_31 rfl ?_
          refine r_getr hL xcl7 3 (by decide) s_0 (by decide) fl_X7_33 (by decide) f_0_3 dX7_pair_32 ?_
          refine r_aload_n hL (x := 0) dX7_pair_35 rfl ?_
          refine r_getr hL xcl7 0 (by decide) s_0 (by decide) fl_X7_10 (by decide) f_0_0 dX7_pair_36 ?_
          refine r_getr hL xcl5 0 (by decide) s_1 (by decide) fl_X7_124 (by decide) f_1_0 dX7_pair_39 ?_
          refine r_iload_n hL (x := t) dX7_pair_42 rfl ?_
          refine r_lald hL dX7_pair_43 (by decide) s_2 (by decide) (by omega) (by omega) (fun hr43 => ?_)
          obtain ⟨z43, hz43⟩ : ∃ z, z = μ 2 t := ⟨_, rfl⟩
          rw [← hz43] at hr43 ⊢
          have hb43 : 0 ≤ (μ 2 t) ∧ (μ 2 t) ≤ 47244640255 := hB 2 t
          refine r_aload_n hL (x := 0) dX7_pair_44 rfl ?_
          refine r_getr hL xcl7 0 (by decide) s_0 (by decide) fl_X7_10 (by decide) f_0_0 dX7_pair_45 ?_
          refine r_getr hL xcl5 0 (by decide) s_1 (by decide) fl_X7_124 (by decide) f_1_0 dX7_pair_48 ?_
          refine r_iload_n hL (x := u) dX7_pair_51 rfl ?_
          refine r_lald hL dX7_pair_52 (by decide) s_2 (by decide) (by omega) (by omega) (fun hr52 => ?_)
          obtain ⟨z52, hz52⟩ : ∃ z, z = μ 2 u := ⟨_, rfl⟩
          rw [← hz52] at hr52 ⊢
          have hb52 : 0 ≤ (μ 2 u) ∧ (μ 2 u) ≤ 47244640255 := hB 2 u
          refine r_aload_n hL (x := 0) dX7_pair_53 rfl ?_
          refine r_getr hL xcl7 0 (by decide) s_0 (by decide) fl_X7_10 (by decide) f_0_0 dX7_pair_54 ?_
          refine r_getr hL xcl5 2 (by decide) s_1 (by decide) fl_X7_146 (by decide) f_1_2 dX7_pair_57 ?_
          refine r_callV hL (st := []) (av := [xL z43, xL z52, xR 4]) (k := 92) (m_X4_lineUp (μ := μ) hB z43 (by omega) z52 (by omega) (fun μ60c hB60c hG60 hU60c hS60 => ⟨rfl, ?_⟩)) ce_yX4_lineUp im_yX4_lineUp se_yX4_lineUp ml_X7_149 xcl4 (by decide) s_92 dX7_pair_60 rfl (Nat.le_of_ble_eq_true rfl) ⟨Nat.le_of_ble_eq_true rfl, Nat.le_of_ble_eq_true rfl⟩ ⟨Nat.le_of_ble_eq_true rfl, Nat.le_of_ble_eq_true rfl⟩
          show X 0 0 WW μ60c 63 [some (xR 0), some (xI t), some (xI u), some (xI v)] []
          have hF60c : Fr RO μ μ60c := hF.trans hG60
          have hQ60c := hS60.2.2.2.2.2
          rw [hz43, hz52] at hS60
          refine r_iload_n hL (x := v) dX7_pair_63 rfl ?_
          by_cases e64 : 0 ≤ v ∧ v ≤ 2
          · skip
            rcases (show v = 0 ∨ v = 1 ∨ v = 2 by omega) with e64 | e64 | e64
            · skip
              refine r_tableIn hL (tgt := 92) (off := 28) 0 dX7_pair_64 (by omega) e64 (by decide) (by decide) rfl (by decide) ?_
              refine r_aload_n hL (x := 0) dX7_pair_92 rfl ?_
              refine r_getr hL xcl7 3 (by decide) s_0 (by decide) fl_X7_33 (by decide) f_0_3 dX7_pair_93 ?_
              refine r_callV hL (st := []) (av := []) (k := 92) (m_X4_apart (μ := μ60c) hB60c hU60c (fun z96 hc96 heq96 => ⟨rfl, ?_⟩)) ce_yX4_apart im_yX4_apart se_yX4_apart ml_X7_153 xcl4 (by decide) s_92 dX7_pair_96 rfl (Nat.le_of_ble_eq_true rfl) ⟨Nat.le_of_ble_eq_true rfl, Nat.le_of_ble_eq_true rfl⟩ ⟨Nat.le_of_ble_eq_true rfl, Nat.le_of_ble_eq_true rfl⟩
              show X 0 0 WW μ60c 99 [some (xR 0), some (xI t), some (xI u), some (xI v)] [xI z96]
              exact r_iret hL dX7_pair_99 rfl (hK _ _ hB60c hF60c (Or.inr (Or.inr (Or.inl (⟨by omega, by omega, hS60.p0 hB60c heq96⟩)))) (by omega))
            · skip
              refine r_tableIn hL (tgt := 100) (off := 36) 1 dX7_pair_64 (by omega) e64 (by decide) (by decide) rfl (by decide) ?_
              refine r_aload_n hL (x := 0) dX7_pair_100 rfl ?_
              refine r_getr hL xcl7 3 (by decide) s_0 (by decide) fl_X7_33 (by decide) f_0_3 dX7_pair_101 ?_
              refine r_callV hL (st := []) (av := []) (k := 92) (m_X4_ways (μ := μ60c) hB60c hU60c hQ60c (fun z104 μ104c hB104c hG104 heq104 hW104 hx104 => ⟨rfl, ?_⟩)) ce_yX4_ways im_yX4_ways se_yX4_ways ml_X7_156 xcl4 (by decide) s_92 dX7_pair_104 rfl (Nat.le_of_ble_eq_true rfl) ⟨Nat.le_of_ble_eq_true rfl, Nat.le_of_ble_eq_true rfl⟩ ⟨Nat.le_of_ble_eq_true rfl, Nat.le_of_ble_eq_true rfl⟩
              show X 0 0 WW μ104c 107 [some (xR 0), some (xI t), some (xI u), some (xI v)] [xI z104]
              have hF104c : Fr RO μ μ104c := hF60c.trans (hG104.sub (fun k j h => by unfold W97 at h; unfold RO; omega))
              exact r_iret hL dX7_pair_107 rfl (hK _ _ hB104c hF104c (Or.inr (Or.inr (Or.inr (Or.inl (⟨by omega, by omega, hS60.p1 hB60c hW104 heq104⟩))))) (by omega))
            · skip
              refine r_tableIn hL (tgt := 108) (off := 44) 2 dX7_pair_64 (by omega) e64 (by decide) (by decide) rfl (by decide) ?_
              refine r_aload_n hL (x := 0) dX7_pair_108 rfl ?_
              refine r_getr hL xcl7 3 (by decide) s_0 (by decide) fl_X7_33 (by decide) f_0_3 dX7_pair_109 ?_
              refine r_callV hL (st := []) (av := []) (k := 92) (m_X4_wayLength (μ := μ60c) hB60c hU60c hQ60c (fun z112 μ112c hB112c hG112 hY112 hc112 => ⟨rfl, ?_⟩)) ce_yX4_wayLength im_yX4_wayLength se_yX4_wayLength ml_X7_159 xcl4 (by decide) s_92 dX7_pair_112 rfl (Nat.le_of_ble_eq_true rfl) ⟨Nat.le_of_ble_eq_true rfl, Nat.le_of_ble_eq_true rfl⟩ ⟨Nat.le_of_ble_eq_true rfl, Nat.le_of_ble_eq_true rfl⟩
              show X 0 0 WW μ112c 115 [some (xR 0), some (xI t), some (xI u), some (xI v)] [xI z112]
              have hF112c : Fr RO μ μ112c := hF60c.trans (hG112.sub (fun k j h => by unfold W99 at h; unfold RO; omega))
              exact r_iret hL dX7_pair_115 rfl (hK _ _ hB112c hF112c (Or.inr (Or.inr (Or.inr (Or.inr (Or.inl (⟨by omega, by omega, _, hS60.pw hB60c hY112⟩)))))) (by omega))
          · skip
            refine r_tableOut hL (tgt := 116) dX7_pair_64 (by omega) (by omega) (by decide) ?_
            refine r_aload_n hL (x := 0) dX7_pair_116 rfl ?_
            refine r_getr hL xcl7 3 (by decide) s_0 (by decide) fl_X7_33 (by decide) f_0_3 dX7_pair_117 ?_
            refine r_callV hL (st := []) (av := []) (k := 92) (m_X4_commonLength (μ := μ60c) hB60c  (fun z120 μ120c hB120c hG120 hM120 hx120 => ⟨rfl, ?_⟩)) ce_yX4_commonLength im_yX4_commonLength se_yX4_commonLength ml_X7_162 xcl4 (by decide) s_92 dX7_pair_120 rfl (Nat.le_of_ble_eq_true rfl) ⟨Nat.le_of_ble_eq_true rfl, Nat.le_of_ble_eq_true rfl⟩ ⟨Nat.le_of_ble_eq_true rfl, Nat.le_of_ble_eq_true rfl⟩
            show X 0 0 WW μ120c 123 [some (xR 0), some (xI t), some (xI u), some (xI v)] [xI z120]
            have hF120c : Fr RO μ μ120c := hF60c.trans (hG120.sub (fun k j h => by unfold W98 at h; unfold RO; omega))
            exact r_iret hL dX7_pair_123 rfl (hK _ _ hB120c hF120c (Or.inr (Or.inr (Or.inr (Or.inr (Or.inr (⟨by omega, by omega, hS60.pc hM120⟩)))))) (by omega))
        · skip
          refine r_ldc hL (n := -1000000002) dX7_pair_28 kc_X7_70 (by decide) ?_
          exact r_iret hL dX7_pair_30 rfl (hK _ _ hB hF (Or.inr (Or.inl (⟨by omega, by omega, rfl⟩))) (by omega))
    · skip
      refine r_ldc hL (n := -1000000001) dX7_pair_16 kc_X7_123 (by decide) ?_
      exact r_iret hL dX7_pair_18 rfl (hK _ _ hB hF (Or.inl (⟨by omega, rfl⟩)) (by omega))

set_option maxHeartbeats 4000000 in
set_option maxRecDepth 20000 in
theorem m_X7_step {K : Option xV → xW → xM → Prop} {μ : xM} (hB0 : BI μ) (t : Int) (ht : xrg t) (u : Int) (hu : xrg u) (v : Int) (hv : xrg v) (hK : ∀ r μ', BI μ' → Fr RO μ μ' → C_step t u v μ r → xrg r → K (some (xI r)) WW μ') : xMet yX7_step cX7_step 4 (some .int) 5 122 0 0 [xR 0, xI t, xI u, xI v] WW μ K := by
  refine xMet.go RX7 "step" rfl rfl (by decide) [some (xR 0), some (xI t), some (xI u), some (xI v)] (Nat.le_of_ble_eq_true rfl) rfl (fun X hL => ?_)
  have hB := hB0
  have hF : Fr RO μ μ := Fr.rf
  refine r_aload_n hL (x := 0) dX7_step_0 rfl ?_
  refine r_iload_n hL (x := t) dX7_step_1 rfl ?_
  refine r_callV hL (st := []) (av := [xI t]) (k := 0) (m_X7_isTale (μ := μ) hB t (by omega) (fun z2 hc2 => ⟨rfl, ?_⟩)) ce_yX7_isTale im_yX7_isTale se_yX7_isTale ml_X7_119 xcl7 (by decide) s_0 dX7_step_2 rfl (Nat.le_of_ble_eq_true rfl) ⟨Nat.le_of_ble_eq_true rfl, Nat.le_of_ble_eq_true rfl⟩ ⟨Nat.le_of_ble_eq_true rfl, Nat.le_of_ble_eq_true rfl⟩
  show X 0 0 WW μ 5 [some (xR 0), some (xI t), some (xI u), some (xI v)] [xI z2]
  refine r_if_eq hL (tgt := 16) dX7_step_5 (by decide) (by omega) (fun c5 => ?_) (fun c5 => ?_)
  · skip
    refine r_ldc hL (n := -1000000001) dX7_step_16 kc_X7_123 (by decide) ?_
    exact r_iret hL dX7_step_18 rfl (hK _ _ hB hF (Or.inl ⟨by omega, rfl⟩) (by omega))
  · skip
    refine r_aload_n hL (x := 0) dX7_step_8 rfl ?_
    refine r_iload_n hL (x := u) dX7_step_9 rfl ?_
    refine r_callV hL (st := []) (av := [xI u]) (k := 0) (m_X7_isTale (μ := μ) hB u (by omega) (fun z10 hc10 => ⟨rfl, ?_⟩)) ce_yX7_isTale im_yX7_isTale se_yX7_isTale ml_X7_119 xcl7 (by decide) s_0 dX7_step_10 rfl (Nat.le_of_ble_eq_true rfl) ⟨Nat.le_of_ble_eq_true rfl, Nat.le_of_ble_eq_true rfl⟩ ⟨Nat.le_of_ble_eq_true rfl, Nat.le_of_ble_eq_true rfl⟩
    show X 0 0 WW μ 13 [some (xR 0), some (xI t), some (xI u), some (xI v)] [xI z10]
    refine r_if_ne hL (tgt := 19) dX7_step_13 (by decide) (by omega) (fun c13 => ?_) (fun c13 => ?_)
    · skip
      refine r_aload_n hL (x := 0) dX7_step_19 rfl ?_
      refine r_getr hL xcl7 3 (by decide) s_0 (by decide) fl_X7_33 (by decide) f_0_3 dX7_step_20 ?_
      refine r_aload_n hL (x := 0) dX7_step_23 rfl ?_
      refine r_getr hL xcl7 0 (by decide) s_0 (by decide) fl_X7_10 (by decide) f_0_0 dX7_step_24 ?_
      refine r_getr hL xcl5 0 (by decide) s_1 (by decide) fl_X7_124 (by decide) f_1_0 dX7_step_27 ?_
      refine r_iload_n hL (x := t) dX7_step_30 rfl ?_
      refine r_lald hL dX7_step_31 (by decide) s_2 (by decide) (by omega) (by omega) (fun hr31 => ?_)
      obtain ⟨z31, hz31⟩ : ∃ z, z = μ 2 t := ⟨_, rfl⟩
      rw [← hz31] at hr31 ⊢
      have hb31 : 0 ≤ (μ 2 t) ∧ (μ 2 t) ≤ 47244640255 := hB 2 t
      refine r_aload_n hL (x := 0) dX7_step_32 rfl ?_
      refine r_getr hL xcl7 0 (by decide) s_0 (by decide) fl_X7_10 (by decide) f_0_0 dX7_step_33 ?_
      refine r_getr hL xcl5 0 (by decide) s_1 (by decide) fl_X7_124 (by decide) f_1_0 dX7_step_36 ?_
      refine r_iload_n hL (x := u) dX7_step_39 rfl ?_
      refine r_lald hL dX7_step_40 (by decide) s_2 (by decide) (by omega) (by omega) (fun hr40 => ?_)
      obtain ⟨z40, hz40⟩ : ∃ z, z = μ 2 u := ⟨_, rfl⟩
      rw [← hz40] at hr40 ⊢
      have hb40 : 0 ≤ (μ 2 u) ∧ (μ 2 u) ≤ 47244640255 := hB 2 u
      refine r_aload_n hL (x := 0) dX7_step_41 rfl ?_
      refine r_getr hL xcl7 0 (by decide) s_0 (by decide) fl_X7_10 (by decide) f_0_0 dX7_step_42 ?_
      refine r_getr hL xcl5 2 (by decide) s_1 (by decide) fl_X7_146 (by decide) f_1_2 dX7_step_45 ?_
      refine r_callV hL (st := []) (av := [xL z31, xL z40, xR 4]) (k := 92) (m_X4_lineUp (μ := μ) hB z31 (by omega) z40 (by omega) (fun μ48c hB48c hG48 hU48c hS48 => ⟨rfl, ?_⟩)) ce_yX4_lineUp im_yX4_lineUp se_yX4_lineUp ml_X7_149 xcl4 (by decide) s_92 dX7_step_48 rfl (Nat.le_of_ble_eq_true rfl) ⟨Nat.le_of_ble_eq_true rfl, Nat.le_of_ble_eq_true rfl⟩ ⟨Nat.le_of_ble_eq_true rfl, Nat.le_of_ble_eq_true rfl⟩
      show X 0 0 WW μ48c 51 [some (xR 0), some (xI t), some (xI u), some (xI v)] []
      have hF48c : Fr RO μ μ48c := hF.trans hG48
      have hQ48c := hS48.2.2.2.2.2
      rw [hz31, hz40] at hS48
      refine r_aload_n hL (x := 0) dX7_step_51 rfl ?_
      refine r_getr hL xcl7 3 (by decide) s_0 (by decide) fl_X7_33 (by decide) f_0_3 dX7_step_52 ?_
      refine r_iload_n hL (x := v) dX7_step_55 rfl ?_
      refine r_callV hL (st := []) (av := [xI v]) (k := 92) (m_X4_stepOfWay (μ := μ48c) hB48c v (by omega) hU48c hQ48c (fun z56 μ56c hB56c hG56 hY56 hx56 => ⟨rfl, ?_⟩)) ce_yX4_stepOfWay im_yX4_stepOfWay se_yX4_stepOfWay ml_X7_165 xcl4 (by decide) s_92 dX7_step_56 rfl (Nat.le_of_ble_eq_true rfl) ⟨Nat.le_of_ble_eq_true rfl, Nat.le_of_ble_eq_true rfl⟩ ⟨Nat.le_of_ble_eq_true rfl, Nat.le_of_ble_eq_true rfl⟩
      show X 0 0 WW μ56c 59 [some (xR 0), some (xI t), some (xI u), some (xI v)] [xI z56]
      have hF56c : Fr RO μ μ56c := hF48c.trans (hG56.sub (fun k j h => by unfold W99 at h; unfold RO; omega))
      obtain ⟨l56, hl56, hv56⟩ := hY56
      exact r_iret hL dX7_step_59 rfl (hK _ _ hB56c hF56c (Or.inr ⟨by omega, _, _, hS48.pw hB48c hl56, hv56⟩) (by omega))
    · skip
      refine r_ldc hL (n := -1000000001) dX7_step_16 kc_X7_123 (by decide) ?_
      exact r_iret hL dX7_step_18 rfl (hK _ _ hB hF (Or.inl ⟨by omega, rfl⟩) (by omega))

set_option maxHeartbeats 4000000 in
set_option maxRecDepth 20000 in
theorem m_X7_node {K : Option xV → xW → xM → Prop} {μ : xM} (hB0 : BI μ) (t : Int) (ht : xrg t) (u : Int) (hu : xrg u) (hK : ∀ r μ', BI μ' → Fr RO μ μ' → xrg r → K (some (xI r)) WW μ') : xMet yX7_node cX7_node 3 (some .int) 6 148 0 0 [xR 0, xI t, xI u] WW μ K := by
  refine xMet.go RX7 "node" rfl rfl (by decide) [some (xR 0), some (xI t), some (xI u)] (Nat.le_of_ble_eq_true rfl) rfl (fun X hL => ?_)
  have hB := hB0
  have hF : Fr RO μ μ := Fr.rf
  refine r_iload_n hL (x := t) dX7_node_0 rfl ?_
  refine r_if_lt hL (tgt := 12) dX7_node_1 (by decide) (by omega) (fun c1 => ?_) (fun c1 => ?_)
  · skip
    refine r_ldc hL (n := -1000000001) dX7_node_12 kc_X7_123 (by decide) ?_
    exact r_iret hL dX7_node_14 rfl (hK _ _ hB hF (by omega))
  · skip
    refine r_iload_n hL (x := t) dX7_node_4 rfl ?_
    refine r_aload_n hL (x := 0) dX7_node_5 rfl ?_
    refine r_callV hL (st := [xI t]) (av := []) (k := 0) (m_X7_nodeCount (μ := μ) hB  (fun z6 hc6 => ⟨rfl, ?_⟩)) ce_yX7_nodeCount im_yX7_nodeCount se_yX7_nodeCount ml_X7_94 xcl7 (by decide) s_0 dX7_node_6 rfl (Nat.le_of_ble_eq_true rfl) ⟨Nat.le_of_ble_eq_true rfl, Nat.le_of_ble_eq_true rfl⟩ ⟨Nat.le_of_ble_eq_true rfl, Nat.le_of_ble_eq_true rfl⟩
    show X 0 0 WW μ 9 [some (xR 0), some (xI t), some (xI u)] [xI z6, xI t]
    refine r_icmp_lt hL (tgt := 15) dX7_node_9 (by decide) (by omega) (by omega) (fun c9 => ?_) (fun c9 => ?_)
    · skip
      refine r_aload_n hL (x := 0) dX7_node_15 rfl ?_
      refine r_callV hL (st := []) (av := []) (k := 0) (m_X7_measureAnew (μ := μ) hB  (fun μ16c hB16c hG16 => ⟨rfl, ?_⟩)) ce_yX7_measureAnew im_yX7_measureAnew se_yX7_measureAnew ml_X7_111 xcl7 (by decide) s_0 dX7_node_16 rfl (Nat.le_of_ble_eq_true rfl) ⟨Nat.le_of_ble_eq_true rfl, Nat.le_of_ble_eq_true rfl⟩ ⟨Nat.le_of_ble_eq_true rfl, Nat.le_of_ble_eq_true rfl⟩
      show X 0 0 WW μ16c 19 [some (xR 0), some (xI t), some (xI u)] []
      have hF16c : Fr RO μ μ16c := hF.trans hG16
      refine r_iload_n hL (x := u) dX7_node_19 rfl ?_
      by_cases e20 : 0 ≤ u ∧ u ≤ 3
      · skip
        rcases (show u = 0 ∨ u = 1 ∨ u = 2 ∨ u = 3 by omega) with e20 | e20 | e20 | e20
        · skip
          refine r_tableIn hL (tgt := 52) (off := 32) 0 dX7_node_20 (by omega) e20 (by decide) (by decide) rfl (by decide) ?_
          refine r_aload_n hL (x := 0) dX7_node_52 rfl ?_
          refine r_getr hL xcl7 5 (by decide) s_0 (by decide) fl_X7_47 (by decide) f_0_5 dX7_node_53 ?_
          refine r_getr hL xcl6 0 (by decide) s_102 (by decide) fl_X7_168 (by decide) f_102_0 dX7_node_56 ?_
          refine r_iload_n hL (x := t) dX7_node_59 rfl ?_
          refine r_iald hL dX7_node_60 (by decide) s_103 (by decide) (by omega) (by omega) (fun hr60 => ?_)
          obtain ⟨z60, hz60⟩ : ∃ z, z = μ16c 103 t := ⟨_, rfl⟩
          rw [← hz60] at hr60 ⊢
          exact r_iret hL dX7_node_61 rfl (hK _ _ hB16c hF16c (by omega))
        · skip
          refine r_tableIn hL (tgt := 62) (off := 42) 1 dX7_node_20 (by omega) e20 (by decide) (by decide) rfl (by decide) ?_
          refine r_aload_n hL (x := 0) dX7_node_62 rfl ?_
          refine r_getr hL xcl7 5 (by decide) s_0 (by decide) fl_X7_47 (by decide) f_0_5 dX7_node_63 ?_
          refine r_getr hL xcl6 1 (by decide) s_102 (by decide) fl_X7_171 (by decide) f_102_1 dX7_node_66 ?_
          refine r_iload_n hL (x := t) dX7_node_69 rfl ?_
          refine r_iald hL dX7_node_70 (by decide) s_104 (by decide) (by omega) (by omega) (fun hr70 => ?_)
          obtain ⟨z70, hz70⟩ : ∃ z, z = μ16c 104 t := ⟨_, rfl⟩
          rw [← hz70] at hr70 ⊢
          exact r_iret hL dX7_node_71 rfl (hK _ _ hB16c hF16c (by omega))
        · skip
          refine r_tableIn hL (tgt := 72) (off := 52) 2 dX7_node_20 (by omega) e20 (by decide) (by decide) rfl (by decide) ?_
          refine r_aload_n hL (x := 0) dX7_node_72 rfl ?_
          refine r_getr hL xcl7 5 (by decide) s_0 (by decide) fl_X7_47 (by decide) f_0_5 dX7_node_73 ?_
          refine r_getr hL xcl6 2 (by decide) s_102 (by decide) fl_X7_174 (by decide) f_102_2 dX7_node_76 ?_
          refine r_iload_n hL (x := t) dX7_node_79 rfl ?_
          refine r_iald hL dX7_node_80 (by decide) s_105 (by decide) (by omega) (by omega) (fun hr80 => ?_)
          obtain ⟨z80, hz80⟩ : ∃ z, z = μ16c 105 t := ⟨_, rfl⟩
          rw [← hz80] at hr80 ⊢
          exact r_iret hL dX7_node_81 rfl (hK _ _ hB16c hF16c (by omega))
        · skip
          refine r_tableIn hL (tgt := 82) (off := 62) 3 dX7_node_20 (by omega) e20 (by decide) (by decide) rfl (by decide) ?_
          refine r_aload_n hL (x := 0) dX7_node_82 rfl ?_
          refine r_getr hL xcl7 4 (by decide) s_0 (by decide) fl_X7_40 (by decide) f_0_4 dX7_node_83 ?_
          refine r_aload_n hL (x := 0) dX7_node_86 rfl ?_
          refine r_getr hL xcl7 5 (by decide) s_0 (by decide) fl_X7_47 (by decide) f_0_5 dX7_node_87 ?_
          refine r_getr hL xcl6 1 (by decide) s_102 (by decide) fl_X7_171 (by decide) f_102_1 dX7_node_90 ?_
          refine r_iload_n hL (x := t) dX7_node_93 rfl ?_
          refine r_iald hL dX7_node_94 (by decide) s_104 (by decide) (by omega) (by omega) (fun hr94 => ?_)
          obtain ⟨z94, hz94⟩ : ∃ z, z = μ16c 104 t := ⟨_, rfl⟩
          rw [← hz94] at hr94 ⊢
          refine r_callV hL (st := []) (av := [xI z94]) (k := 100) (m_X2_middleOf (μ := μ16c) hB16c z94 (by omega) (fun z95 hc95 => ⟨rfl, ?_⟩)) ce_yX2_middleOf im_yX2_middleOf se_yX2_middleOf ml_X7_177 xcl2 (by decide) s_100 dX7_node_95 rfl (Nat.le_of_ble_eq_true rfl) ⟨Nat.le_of_ble_eq_true rfl, Nat.le_of_ble_eq_true rfl⟩ ⟨Nat.le_of_ble_eq_true rfl, Nat.le_of_ble_eq_true rfl⟩
          show X 0 0 WW μ16c 98 [some (xR 0), some (xI t), some (xI u)] [xI z95]
          exact r_iret hL dX7_node_98 rfl (hK _ _ hB16c hF16c (by omega))
      · skip
        refine r_tableOut hL (tgt := 99) dX7_node_20 (by omega) (by omega) (by decide) ?_
        refine r_ldc hL (n := -1000000002) dX7_node_99 kc_X7_70 (by decide) ?_
        exact r_iret hL dX7_node_101 rfl (hK _ _ hB16c hF16c (by omega))
    · skip
      refine r_ldc hL (n := -1000000001) dX7_node_12 kc_X7_123 (by decide) ?_
      exact r_iret hL dX7_node_14 rfl (hK _ _ hB hF (by omega))

set_option maxHeartbeats 4000000 in
set_option maxRecDepth 20000 in
theorem m_X7_types {K : Option xV → xW → xM → Prop} {μ : xM} (hB0 : BI μ) (t : Int) (ht : xrg t) (u : Int) (hu : xrg u) (hK : ∀ r μ', BI μ' → Fr RO μ μ' → xrg r → K (some (xI r)) WW μ') : xMet yX7_types cX7_types 3 (some .int) 6 148 0 0 [xR 0, xI t, xI u] WW μ K := by
  refine xMet.go RX7 "types" rfl rfl (by decide) [some (xR 0), some (xI t), some (xI u)] (Nat.le_of_ble_eq_true rfl) rfl (fun X hL => ?_)
  have hB := hB0
  have hF : Fr RO μ μ := Fr.rf
  refine r_iload_n hL (x := u) dX7_types_0 rfl ?_
  refine r_if_lt hL (tgt := 15) dX7_types_1 (by decide) (by omega) (fun c1 => ?_) (fun c1 => ?_)
  · skip
    refine r_ldc hL (n := -1000000001) dX7_types_15 kc_X7_123 (by decide) ?_
    exact r_iret hL dX7_types_17 rfl (hK _ _ hB hF (by omega))
  · skip
    refine r_iload_n hL (x := u) dX7_types_4 rfl ?_
    refine r_aload_n hL (x := 0) dX7_types_5 rfl ?_
    refine r_getr hL xcl7 0 (by decide) s_0 (by decide) fl_X7_10 (by decide) f_0_0 dX7_types_6 ?_
    refine r_geti hL xcl5 4 (j' := 4) rfl (by decide) s_1 (by decide) fl_X7_80 (by decide) (by decide) dX7_types_9 (fun hr9 => ?_)
    obtain ⟨z9, hz9⟩ : ∃ z, z = μ 1 4 := ⟨_, rfl⟩
    rw [← hz9] at hr9 ⊢
    have hb9 : 0 ≤ μ 1 4 ∧ μ 1 4 ≤ 8 := (show ((4 : Int) = 4 → 0 ≤ (μ 1 4) ∧ (μ 1 4) ≤ 8) ∧ ((4 : Int) = 5 → 0 ≤ (μ 1 4) ∧ (μ 1 4) ≤ 2) from hB 1 4).1 (by omega)
    refine r_icmp_le hL (tgt := 18) dX7_types_12 (by decide) (by omega) (by omega) (fun c12 => ?_) (fun c12 => ?_)
    · skip
      refine r_iload_n hL (x := t) dX7_types_18 rfl ?_
      refine r_if_lt hL (tgt := 29) dX7_types_19 (by decide) (by omega) (fun c19 => ?_) (fun c19 => ?_)
      · skip
        refine r_ldc hL (n := -1000000002) dX7_types_29 kc_X7_70 (by decide) ?_
        exact r_iret hL dX7_types_31 rfl (hK _ _ hB hF (by omega))
      · skip
        refine r_iload_n hL (x := t) dX7_types_22 rfl ?_
        refine r_sipush hL dX7_types_23 (by decide) ?_
        refine r_icmp_le hL (tgt := 32) dX7_types_26 (by decide) (by omega) (by omega) (fun c26 => ?_) (fun c26 => ?_)
        · skip
          refine r_aload_n hL (x := 0) dX7_types_32 rfl ?_
          refine r_callV hL (st := []) (av := []) (k := 0) (m_X7_measureAnew (μ := μ) hB  (fun μ33c hB33c hG33 => ⟨rfl, ?_⟩)) ce_yX7_measureAnew im_yX7_measureAnew se_yX7_measureAnew ml_X7_111 xcl7 (by decide) s_0 dX7_types_33 rfl (Nat.le_of_ble_eq_true rfl) ⟨Nat.le_of_ble_eq_true rfl, Nat.le_of_ble_eq_true rfl⟩ ⟨Nat.le_of_ble_eq_true rfl, Nat.le_of_ble_eq_true rfl⟩
          show X 0 0 WW μ33c 36 [some (xR 0), some (xI t), some (xI u)] []
          have hF33c : Fr RO μ μ33c := hF.trans hG33
          refine r_iload_n hL (x := u) dX7_types_36 rfl ?_
          refine r_if_ne hL (tgt := 57) dX7_types_37 (by decide) (by omega) (fun c37 => ?_) (fun c37 => ?_)
          · skip
            refine r_aload_n hL (x := 0) dX7_types_57 rfl ?_
            refine r_getr hL xcl7 5 (by decide) s_0 (by decide) fl_X7_47 (by decide) f_0_5 dX7_types_58 ?_
            refine r_iload_n hL (x := u) dX7_types_61 rfl ?_
            refine r_iconst hL dX7_types_62 ?_
            refine r_isub hL dX7_types_63 ?_
            refine r_iload_n hL (x := t) dX7_types_64 rfl ?_
            refine r_callV hL (st := []) (av := [xI (u - 1), xI t]) (k := 102) (m_X6_typeOf (μ := μ33c) hB33c (u - 1) (by omega) t (by omega) (fun z65 hc65 => ⟨rfl, ?_⟩)) ce_yX6_typeOf im_yX6_typeOf se_yX6_typeOf ml_X7_183 xcl6 (by decide) s_102 dX7_types_65 rfl (Nat.le_of_ble_eq_true rfl) ⟨Nat.le_of_ble_eq_true rfl, Nat.le_of_ble_eq_true rfl⟩ ⟨Nat.le_of_ble_eq_true rfl, Nat.le_of_ble_eq_true rfl⟩
            show X 0 0 WW μ33c 68 [some (xR 0), some (xI t), some (xI u)] [xI z65]
            exact r_iret hL dX7_types_68 rfl (hK _ _ hB33c hF33c (by omega))
          · skip
            refine r_aload_n hL (x := 0) dX7_types_40 rfl ?_
            refine r_getr hL xcl7 0 (by decide) s_0 (by decide) fl_X7_10 (by decide) f_0_0 dX7_types_41 ?_
            refine r_geti hL xcl5 4 (j' := 4) rfl (by decide) s_1 (by decide) fl_X7_80 (by decide) (by decide) dX7_types_44 (fun hr44 => ?_)
            obtain ⟨z44, hz44⟩ : ∃ z, z = μ33c 1 4 := ⟨_, rfl⟩
            rw [← hz44] at hr44 ⊢
            have hb44 : 0 ≤ μ33c 1 4 ∧ μ33c 1 4 ≤ 8 := (show ((4 : Int) = 4 → 0 ≤ (μ33c 1 4) ∧ (μ33c 1 4) ≤ 8) ∧ ((4 : Int) = 5 → 0 ≤ (μ33c 1 4) ∧ (μ33c 1 4) ≤ 2) from hB33c 1 4).1 (by omega)
            refine r_aload_n hL (x := 0) dX7_types_47 rfl ?_
            refine r_getr hL xcl7 5 (by decide) s_0 (by decide) fl_X7_47 (by decide) f_0_5 dX7_types_48 ?_
            refine r_iload_n hL (x := t) dX7_types_51 rfl ?_
            refine r_callV hL (st := [xI z44]) (av := [xI t]) (k := 102) (m_X6_nodesUpTo (μ := μ33c) hB33c t (by omega) (fun z52 hc52 => ⟨rfl, ?_⟩)) ce_yX6_nodesUpTo im_yX6_nodesUpTo se_yX6_nodesUpTo ml_X7_180 xcl6 (by decide) s_102 dX7_types_52 rfl (Nat.le_of_ble_eq_true rfl) ⟨Nat.le_of_ble_eq_true rfl, Nat.le_of_ble_eq_true rfl⟩ ⟨Nat.le_of_ble_eq_true rfl, Nat.le_of_ble_eq_true rfl⟩
            show X 0 0 WW μ33c 55 [some (xR 0), some (xI t), some (xI u)] [xI z52, xI z44]
            refine r_isub hL dX7_types_55 ?_
            exact r_iret hL dX7_types_56 rfl (hK _ _ hB33c hF33c (by omega))
        · skip
          refine r_ldc hL (n := -1000000002) dX7_types_29 kc_X7_70 (by decide) ?_
          exact r_iret hL dX7_types_31 rfl (hK _ _ hB hF (by omega))
    · skip
      refine r_ldc hL (n := -1000000001) dX7_types_15 kc_X7_123 (by decide) ?_
      exact r_iret hL dX7_types_17 rfl (hK _ _ hB hF (by omega))

set_option maxHeartbeats 4000000 in
set_option maxRecDepth 20000 in
theorem m_X7_middle {K : Option xV → xW → xM → Prop} {μ : xM} (hB0 : BI μ) (t : Int) (ht : xrg t) (hK : ∀ r μ', BI μ' → Fr RO μ μ' → xrg r → K (some (xI r)) WW μ') : xMet yX7_middle cX7_middle 2 (some .int) 6 148 0 0 [xR 0, xI t] WW μ K := by
  refine xMet.go RX7 "middle" rfl rfl (by decide) [some (xR 0), some (xI t)] (Nat.le_of_ble_eq_true rfl) rfl (fun X hL => ?_)
  have hB := hB0
  have hF : Fr RO μ μ := Fr.rf
  refine r_aload_n hL (x := 0) dX7_middle_0 rfl ?_
  refine r_iload_n hL (x := t) dX7_middle_1 rfl ?_
  refine r_callV hL (st := []) (av := [xI t]) (k := 0) (m_X7_areTales (μ := μ) hB t (by omega) (fun z2 hc2 => ⟨rfl, ?_⟩)) ce_yX7_areTales im_yX7_areTales se_yX7_areTales ml_X7_187 xcl7 (by decide) s_0 dX7_middle_2 rfl (Nat.le_of_ble_eq_true rfl) ⟨Nat.le_of_ble_eq_true rfl, Nat.le_of_ble_eq_true rfl⟩ ⟨Nat.le_of_ble_eq_true rfl, Nat.le_of_ble_eq_true rfl⟩
  show X 0 0 WW μ 5 [some (xR 0), some (xI t)] [xI z2]
  refine r_if_ne hL (tgt := 11) dX7_middle_5 (by decide) (by omega) (fun c5 => ?_) (fun c5 => ?_)
  · skip
    refine r_aload_n hL (x := 0) dX7_middle_11 rfl ?_
    refine r_callV hL (st := []) (av := []) (k := 0) (m_X7_measureAnew (μ := μ) hB  (fun μ12c hB12c hG12 => ⟨rfl, ?_⟩)) ce_yX7_measureAnew im_yX7_measureAnew se_yX7_measureAnew ml_X7_111 xcl7 (by decide) s_0 dX7_middle_12 rfl (Nat.le_of_ble_eq_true rfl) ⟨Nat.le_of_ble_eq_true rfl, Nat.le_of_ble_eq_true rfl⟩ ⟨Nat.le_of_ble_eq_true rfl, Nat.le_of_ble_eq_true rfl⟩
    show X 0 0 WW μ12c 15 [some (xR 0), some (xI t)] []
    have hF12c : Fr RO μ μ12c := hF.trans hG12
    refine r_aload_n hL (x := 0) dX7_middle_15 rfl ?_
    refine r_getr hL xcl7 4 (by decide) s_0 (by decide) fl_X7_40 (by decide) f_0_4 dX7_middle_16 ?_
    refine r_iload_n hL (x := t) dX7_middle_19 rfl ?_
    refine r_callV hL (st := []) (av := [xI t]) (k := 100) (m_X2_middleOf (μ := μ12c) hB12c t (by omega) (fun z20 hc20 => ⟨rfl, ?_⟩)) ce_yX2_middleOf im_yX2_middleOf se_yX2_middleOf ml_X7_177 xcl2 (by decide) s_100 dX7_middle_20 rfl (Nat.le_of_ble_eq_true rfl) ⟨Nat.le_of_ble_eq_true rfl, Nat.le_of_ble_eq_true rfl⟩ ⟨Nat.le_of_ble_eq_true rfl, Nat.le_of_ble_eq_true rfl⟩
    show X 0 0 WW μ12c 23 [some (xR 0), some (xI t)] [xI z20]
    exact r_iret hL dX7_middle_23 rfl (hK _ _ hB12c hF12c (by omega))
  · skip
    refine r_ldc hL (n := -1000000001) dX7_middle_8 kc_X7_123 (by decide) ?_
    exact r_iret hL dX7_middle_10 rfl (hK _ _ hB hF (by omega))

set_option maxHeartbeats 4000000 in
set_option maxRecDepth 20000 in
theorem m_X7_common {K : Option xV → xW → xM → Prop} {μ : xM} (hB0 : BI μ) (t : Int) (ht : xrg t) (hK : ∀ r, C_common t μ r → xrg r → K (some (xI r)) WW μ) : xMet yX7_common cX7_common 2 (some .int) 3 68 0 0 [xR 0, xI t] WW μ K := by
  refine xMet.go RX7 "common" rfl rfl (by decide) [some (xR 0), some (xI t)] (Nat.le_of_ble_eq_true rfl) rfl (fun X hL => ?_)
  have hB := hB0
  refine r_aload_n hL (x := 0) dX7_common_0 rfl ?_
  refine r_iload_n hL (x := t) dX7_common_1 rfl ?_
  refine r_callV hL (st := []) (av := [xI t]) (k := 0) (m_X7_areTales (μ := μ) hB t (by omega) (fun z2 hc2 => ⟨rfl, ?_⟩)) ce_yX7_areTales im_yX7_areTales se_yX7_areTales ml_X7_187 xcl7 (by decide) s_0 dX7_common_2 rfl (Nat.le_of_ble_eq_true rfl) ⟨Nat.le_of_ble_eq_true rfl, Nat.le_of_ble_eq_true rfl⟩ ⟨Nat.le_of_ble_eq_true rfl, Nat.le_of_ble_eq_true rfl⟩
  show X 0 0 WW μ 5 [some (xR 0), some (xI t)] [xI z2]
  refine r_if_ne hL (tgt := 11) dX7_common_5 (by decide) (by omega) (fun c5 => ?_) (fun c5 => ?_)
  · skip
    refine r_aload_n hL (x := 0) dX7_common_11 rfl ?_
    refine r_getr hL xcl7 0 (by decide) s_0 (by decide) fl_X7_10 (by decide) f_0_0 dX7_common_12 ?_
    refine r_iload_n hL (x := t) dX7_common_15 rfl ?_
    refine r_callV hL (st := []) (av := [xI t]) (k := 1) (m_X5_motifsOfAll (μ := μ) hB t (by omega) (fun z16 heq16 hc16 => ⟨rfl, ?_⟩)) ce_yX5_motifsOfAll im_yX5_motifsOfAll se_yX5_motifsOfAll ml_X7_104 xcl5 (by decide) s_1 dX7_common_16 rfl (Nat.le_of_ble_eq_true rfl) ⟨Nat.le_of_ble_eq_true rfl, Nat.le_of_ble_eq_true rfl⟩ ⟨Nat.le_of_ble_eq_true rfl, Nat.le_of_ble_eq_true rfl⟩
    show X 0 0 WW μ 19 [some (xR 0), some (xI t)] [xI z16]
    exact r_iret hL dX7_common_19 rfl (hK _ (Or.inr ⟨by omega, heq16⟩) (by omega))
  · skip
    refine r_ldc hL (n := -1000000001) dX7_common_8 kc_X7_123 (by decide) ?_
    exact r_iret hL dX7_common_10 rfl (hK _ (Or.inl ⟨by omega, rfl⟩) (by omega))

set_option maxHeartbeats 4000000 in
set_option maxRecDepth 20000 in
theorem m_X7_wandered {K : Option xV → xW → xM → Prop} {μ : xM} (hB0 : BI μ) (t : Int) (ht : xrg t) (u : Int) (hu : xrg u) (hK : ∀ r, C_wandered t u μ r → xrg r → K (some (xI r)) WW μ) : xMet yX7_wandered cX7_wandered 3 (some .int) 2 48 0 0 [xR 0, xI t, xI u] WW μ K := by
  refine xMet.go RX7 "wandered" rfl rfl (by decide) [some (xR 0), some (xI t), some (xI u)] (Nat.le_of_ble_eq_true rfl) rfl (fun X hL => ?_)
  have hB := hB0
  refine r_iload_n hL (x := t) dX7_wandered_0 rfl ?_
  refine r_callS hL (st := []) (av := [xI t]) (m_X7_arePlaces (μ := μ) t (by omega) (fun z1 hc1 => ⟨rfl, ?_⟩)) ce_yX7_arePlaces sm_yX7_arePlaces ml_X7_190 dX7_wandered_1 rfl (Nat.le_of_ble_eq_true rfl) ⟨Nat.le_of_ble_eq_true rfl, Nat.le_of_ble_eq_true rfl⟩ ⟨Nat.le_of_ble_eq_true rfl, Nat.le_of_ble_eq_true rfl⟩
  show X 0 0 WW μ 4 [some (xR 0), some (xI t), some (xI u)] [xI z1]
  refine r_if_ne hL (tgt := 10) dX7_wandered_4 (by decide) (by omega) (fun c4 => ?_) (fun c4 => ?_)
  · skip
    refine r_iload_n hL (x := u) dX7_wandered_10 rfl ?_
    by_cases e11_0 : u = 0
    · skip
      refine r_lookup hL (tgt := 36) (off := 25) dX7_wandered_11 (by omega) (by decide) (by rw [e11_0]; decide) (by decide) ?_
      refine r_iload_n hL (x := t) dX7_wandered_36 rfl ?_
      refine r_aload_n hL (x := 0) dX7_wandered_37 rfl ?_
      refine r_getr hL xcl7 0 (by decide) s_0 (by decide) fl_X7_10 (by decide) f_0_0 dX7_wandered_38 ?_
      refine r_getr hL xcl5 3 (by decide) s_1 (by decide) fl_X7_132 (by decide) f_1_3 dX7_wandered_41 ?_
      refine r_callS hL (st := []) (av := [xI t, xR 5]) (m_X7_hull (μ := μ) t (by omega) 5 (by decide) s_5 (fun z44 hv44 hc44 => ⟨rfl, ?_⟩)) ce_yX7_hull sm_yX7_hull ml_X7_135 dX7_wandered_44 rfl (Nat.le_of_ble_eq_true rfl) ⟨Nat.le_of_ble_eq_true rfl, Nat.le_of_ble_eq_true rfl⟩ ⟨Nat.le_of_ble_eq_true rfl, Nat.le_of_ble_eq_true rfl⟩
      show X 0 0 WW μ 47 [some (xR 0), some (xI t), some (xI u)] [xI z44]
      refine r_callS hL (st := []) (av := [xI z44]) (m_X7_roadsOf (μ := μ) z44 (by omega) (fun z47 heq47 hc47 => ⟨rfl, ?_⟩)) ce_yX7_roadsOf sm_yX7_roadsOf ml_X7_139 dX7_wandered_47 rfl (Nat.le_of_ble_eq_true rfl) ⟨Nat.le_of_ble_eq_true rfl, Nat.le_of_ble_eq_true rfl⟩ ⟨Nat.le_of_ble_eq_true rfl, Nat.le_of_ble_eq_true rfl⟩
      show X 0 0 WW μ 50 [some (xR 0), some (xI t), some (xI u)] [xI z47]
      exact r_iret hL dX7_wandered_50 rfl (hK _ (Or.inr ⟨by omega, Or.inl ⟨by omega, by rw [heq47, hv44]⟩⟩) (by omega))
    by_cases e11_1 : u = 1
    · skip
      refine r_lookup hL (tgt := 51) (off := 40) dX7_wandered_11 (by omega) (by decide) (by rw [e11_1]; decide) (by decide) ?_
      refine r_iload_n hL (x := t) dX7_wandered_51 rfl ?_
      refine r_aload_n hL (x := 0) dX7_wandered_52 rfl ?_
      refine r_getr hL xcl7 0 (by decide) s_0 (by decide) fl_X7_10 (by decide) f_0_0 dX7_wandered_53 ?_
      refine r_getr hL xcl5 3 (by decide) s_1 (by decide) fl_X7_132 (by decide) f_1_3 dX7_wandered_56 ?_
      refine r_callS hL (st := []) (av := [xI t, xR 5]) (m_X7_hull (μ := μ) t (by omega) 5 (by decide) s_5 (fun z59 hv59 hc59 => ⟨rfl, ?_⟩)) ce_yX7_hull sm_yX7_hull ml_X7_135 dX7_wandered_59 rfl (Nat.le_of_ble_eq_true rfl) ⟨Nat.le_of_ble_eq_true rfl, Nat.le_of_ble_eq_true rfl⟩ ⟨Nat.le_of_ble_eq_true rfl, Nat.le_of_ble_eq_true rfl⟩
      show X 0 0 WW μ 62 [some (xR 0), some (xI t), some (xI u)] [xI z59]
      exact r_iret hL dX7_wandered_62 rfl (hK _ (Or.inr ⟨by omega, Or.inr (Or.inl ⟨by omega, hv59⟩)⟩) (by omega))
    refine r_lookup hL (tgt := 63) (off := 52) dX7_wandered_11 (by omega) (by decide) (by simp [Op.lookupswitch.offset, e11_0, Ne.symm e11_0, e11_1, Ne.symm e11_1]) (by decide) ?_
    refine r_ldc hL (n := -1000000002) dX7_wandered_63 kc_X7_70 (by decide) ?_
    exact r_iret hL dX7_wandered_65 rfl (hK _ (Or.inr ⟨by omega, Or.inr (Or.inr ⟨by omega, rfl⟩)⟩) (by omega))
  · skip
    refine r_ldc hL (n := -1000000001) dX7_wandered_7 kc_X7_123 (by decide) ?_
    exact r_iret hL dX7_wandered_9 rfl (hK _ (Or.inl ⟨by omega, rfl⟩) (by omega))
