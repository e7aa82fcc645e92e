set_option maxHeartbeats 4000000 in
set_option maxRecDepth 20000 in
theorem m_X7_isTale {K : Option xV → xW → xM → Prop} {μ : xM} (hB0 : BI μ) (t : Int) (ht : xrg t) (hK : ∀ r, (0 ≤ t ∧ t < μ 1 4 ∧ t ≤ 7 ∧ r = 1) ∨ (¬ (0 ≤ t ∧ t < μ 1 4) ∧ r = 0) → K (some (xI r)) WW μ) : xMet yX7_isTale cX7_isTale 2 (some .boolean) 0 0 0 0 [xR 0, xI t] WW μ K := by
  refine xMet.go RX7 "isTale" rfl rfl (by decide) [some (xR 0), some (xI t)] (Nat.le_of_ble_eq_true rfl) rfl (fun X hL => ?_)
  have hB := hB0
  refine r_iload_n hL (x := t) dX7_isTale_0 rfl ?_
  refine r_if_lt hL (tgt := 19) dX7_isTale_1 (by decide) (by omega) (fun c1 => ?_) (fun c1 => ?_)
  · skip
    refine r_iconst hL dX7_isTale_19 ?_
    exact r_zret hL dX7_isTale_20 rfl (by omega) (hK _ (by omega))
  · skip
    refine r_iload_n hL (x := t) dX7_isTale_4 rfl ?_
    refine r_aload_n hL (x := 0) dX7_isTale_5 rfl ?_
    refine r_getr hL xcl7 0 (by decide) s_0 (by decide) fl_X7_10 (by decide) f_0_0 dX7_isTale_6 ?_
    refine r_geti hL xcl5 4 (j' := 4) rfl (by decide) s_1 (by decide) fl_X7_80 (by decide) (by decide) dX7_isTale_9 (fun hr9 => ?_)
    obtain ⟨z9, hz9⟩ : ∃ z, z = μ 1 4 := ⟨_, rfl⟩
    rw [← hz9] at hr9 ⊢
    have hb9 : 0 ≤ μ 1 4 ∧ μ 1 4 ≤ 8 := (show ((4 : Int) = 4 → 0 ≤ (μ 1 4) ∧ (μ 1 4) ≤ 8) ∧ ((4 : Int) = 5 → 0 ≤ (μ 1 4) ∧ (μ 1 4) ≤ 2) from hB 1 4).1 (by omega)
    refine r_icmp_ge hL (tgt := 19) dX7_isTale_12 (by decide) (by omega) (by omega) (fun c12 => ?_) (fun c12 => ?_)
    · skip
      refine r_iconst hL dX7_isTale_19 ?_
      exact r_zret hL dX7_isTale_20 rfl (by omega) (hK _ (by omega))
    · skip
      refine r_iconst hL dX7_isTale_15 ?_
      refine r_goto hL (tgt := 20) dX7_isTale_16 (by decide) ?_
      exact r_zret hL dX7_isTale_20 rfl (by omega) (hK _ (by omega))

set_option maxHeartbeats 4000000 in
set_option maxRecDepth 20000 in
theorem m_X7_feed {K : Option xV → xW → xM → Prop} {μ : xM} (hB0 : BI μ) (t : Int) (ht : xrg t) (hK : ∀ r μ', BI μ' → Fr CF μ μ' → C_feed t μ r μ' → xrg r → K (some (xI r)) WW μ') : xMet yX7_feed cX7_feed 2 (some .int) 2 43 0 0 [xR 0, xI t] WW μ K := by
  refine xMet.go RX7 "feed" rfl rfl (by decide) [some (xR 0), some (xI t)] (Nat.le_of_ble_eq_true rfl) rfl (fun X hL => ?_)
  have hB := hB0
  have hF : Fr CF μ μ := Fr.rf
  refine r_iload_n hL (x := t) dX7_feed_0 rfl ?_
  refine r_bipush hL dX7_feed_1 (by decide) ?_
  refine r_icmp_lt hL (tgt := 12) dX7_feed_3 (by decide) (by omega) (by omega) (fun c3 => ?_) (fun c3 => ?_)
  · skip
    refine r_ldc hL (n := -1000000002) dX7_feed_12 kc_X7_70 (by decide) ?_
    exact r_iret hL dX7_feed_14 rfl (hK _ _ hB hF (Or.inl ⟨by omega, rfl, rfl⟩) (by omega))
  · skip
    refine r_iload_n hL (x := t) dX7_feed_6 rfl ?_
    refine r_bipush hL dX7_feed_7 (by decide) ?_
    refine r_icmp_le hL (tgt := 15) dX7_feed_9 (by decide) (by omega) (by omega) (fun c9 => ?_) (fun c9 => ?_)
    · skip
      refine r_aload_n hL (x := 0) dX7_feed_15 rfl ?_
      refine r_getl hL xcl7 7 (j' := 7) rfl (by decide) s_0 (by decide) fl_X7_57 (by decide) dX7_feed_16 (fun hr16 => ?_)
      obtain ⟨z16, hz16⟩ : ∃ z, z = μ 0 7 := ⟨_, rfl⟩
      rw [← hz16] at hr16 ⊢
      have hb16 : 0 ≤ μ 0 7 ∧ μ 0 7 ≤ 47244640255 := (show (7 : Int) = 7 → 0 ≤ (μ 0 7) ∧ (μ 0 7) ≤ 47244640255 from hB 0 7) (by omega)
      refine r_callS hL (st := []) (av := [xL z16]) (m_X7_lengthOf (μ := μ) z16 (by omega) (by omega) (fun z19 hz19 => ⟨rfl, ?_⟩)) ce_yX7_lengthOf sm_yX7_lengthOf ml_X7_71 dX7_feed_19 rfl (Nat.le_of_ble_eq_true rfl) ⟨Nat.le_of_ble_eq_true rfl, Nat.le_of_ble_eq_true rfl⟩ ⟨Nat.le_of_ble_eq_true rfl, Nat.le_of_ble_eq_true rfl⟩
      show X 0 0 WW μ 22 [some (xR 0), some (xI t)] [xI z19]
      refine r_bipush hL dX7_feed_22 (by decide) ?_
      refine r_icmp_lt hL (tgt := 30) dX7_feed_24 (by decide) (by omega) (by omega) (fun c24 => ?_) (fun c24 => ?_)
      · skip
        refine r_aload_n hL (x := 0) dX7_feed_30 rfl ?_
        refine r_aload_n hL (x := 0) dX7_feed_31 rfl ?_
        refine r_getl hL xcl7 7 (j' := 7) rfl (by decide) s_0 (by decide) fl_X7_57 (by decide) dX7_feed_32 (fun hr32 => ?_)
        obtain ⟨z32, hz32⟩ : ∃ z, z = μ 0 7 := ⟨_, rfl⟩
        rw [← hz32] at hr32 ⊢
        have hb32 : 0 ≤ μ 0 7 ∧ μ 0 7 ≤ 47244640255 := (show (7 : Int) = 7 → 0 ≤ (μ 0 7) ∧ (μ 0 7) ≤ 47244640255 from hB 0 7) (by omega)
        refine r_iload_n hL (x := t) dX7_feed_35 rfl ?_
        refine r_bipush hL dX7_feed_36 (by decide) ?_
        refine r_isub hL dX7_feed_38 ?_
        refine r_callS hL (st := [xR 0]) (av := [xL z32, xI (t - 97)]) (m_X7_longer (μ := μ) z32 (t - 97) (by omega) (by omega) (by omega) (by omega) (fun z39 hl39 hc39 => ⟨rfl, ?_⟩)) ce_yX7_longer sm_yX7_longer ml_X7_76 dX7_feed_39 rfl (Nat.le_of_ble_eq_true rfl) ⟨Nat.le_of_ble_eq_true rfl, Nat.le_of_ble_eq_true rfl⟩ ⟨Nat.le_of_ble_eq_true rfl, Nat.le_of_ble_eq_true rfl⟩
        show X 0 0 WW μ 42 [some (xR 0), some (xI t)] [xL z39, xR 0]
        refine r_putl hL xcl7 7 (j' := 7) rfl (by decide) s_0 (by decide) fl_X7_57 rfl rfl (by omega) dX7_feed_42 (fun μ1 hm1 => ?_)
        have hB1 : BI μ1 := by rw [hm1]; exact hB.up (by show (7 : Int) = 7 → 0 ≤ z39 ∧ z39 ≤ 47244640255; omega)
        have hF1 : Fr CF μ μ1 := by rw [hm1]; exact hF.up (by unfold CF; omega)
        refine r_aload_n hL (x := 0) dX7_feed_45 rfl ?_
        refine r_getl hL xcl7 7 (j' := 7) rfl (by decide) s_0 (by decide) fl_X7_57 (by decide) dX7_feed_46 (fun hr46 => ?_)
        obtain ⟨z46, hz46⟩ : ∃ z, z = μ1 0 7 := ⟨_, rfl⟩
        rw [← hz46] at hr46 ⊢
        have hb46 : 0 ≤ μ1 0 7 ∧ μ1 0 7 ≤ 47244640255 := (show (7 : Int) = 7 → 0 ≤ (μ1 0 7) ∧ (μ1 0 7) ≤ 47244640255 from hB1 0 7) (by omega)
        refine r_callS hL (st := []) (av := [xL z46]) (m_X7_lengthOf (μ := μ1) z46 (by omega) (by omega) (fun z49 hz49 => ⟨rfl, ?_⟩)) ce_yX7_lengthOf sm_yX7_lengthOf ml_X7_71 dX7_feed_49 rfl (Nat.le_of_ble_eq_true rfl) ⟨Nat.le_of_ble_eq_true rfl, Nat.le_of_ble_eq_true rfl⟩ ⟨Nat.le_of_ble_eq_true rfl, Nat.le_of_ble_eq_true rfl⟩
        show X 0 0 WW μ1 52 [some (xR 0), some (xI t)] [xI z49]
        exact r_iret hL dX7_feed_52 rfl (hK _ _ hB1 hF1 (Or.inr (Or.inr ⟨by omega, by omega, by rw [hm1, hl39, hz32], by rw [hz49, hz46, hm1, xup_s, hl39, hz32]⟩)) (by omega))
      · skip
        refine r_ldc hL (n := -1000000004) dX7_feed_27 kc_X7_75 (by decide) ?_
        exact r_iret hL dX7_feed_29 rfl (hK _ _ hB hF (Or.inr (Or.inl ⟨by omega, by omega, rfl, rfl⟩)) (by omega))
    · skip
      refine r_ldc hL (n := -1000000002) dX7_feed_12 kc_X7_70 (by decide) ?_
      exact r_iret hL dX7_feed_14 rfl (hK _ _ hB hF (Or.inl ⟨by omega, rfl, rfl⟩) (by omega))

set_option maxHeartbeats 4000000 in
set_option maxRecDepth 20000 in
theorem m_X7_tale {K : Option xV → xW → xM → Prop} {μ : xM} (hB0 : BI μ)  (hK : ∀ r μ', BI μ' → Fr CF μ μ' → C_tale μ r μ' → xrg r → K (some (xI r)) WW μ') : xMet yX7_tale cX7_tale 1 (some .int) 4 88 0 0 [xR 0] WW μ K := by
  refine xMet.go RX7 "tale" rfl rfl (by decide) [some (xR 0)] (Nat.le_of_ble_eq_true rfl) rfl (fun X hL => ?_)
  have hB := hB0
  have hF : Fr CF μ μ := Fr.rf
  refine r_aload_n hL (x := 0) dX7_tale_0 rfl ?_
  refine r_getr hL xcl7 0 (by decide) s_0 (by decide) fl_X7_10 (by decide) f_0_0 dX7_tale_1 ?_
  refine r_geti hL xcl5 4 (j' := 4) rfl (by decide) s_1 (by decide) fl_X7_80 (by decide) (by decide) dX7_tale_4 (fun hr4 => ?_)
  obtain ⟨z4, hz4⟩ : ∃ z, z = μ 1 4 := ⟨_, rfl⟩
  rw [← hz4] at hr4 ⊢
  have hb4 : 0 ≤ μ 1 4 ∧ μ 1 4 ≤ 8 := (show ((4 : Int) = 4 → 0 ≤ (μ 1 4) ∧ (μ 1 4) ≤ 8) ∧ ((4 : Int) = 5 → 0 ≤ (μ 1 4) ∧ (μ 1 4) ≤ 2) from hB 1 4).1 (by omega)
  refine r_bipush hL dX7_tale_7 (by decide) ?_
  refine r_icmp_lt hL (tgt := 15) dX7_tale_9 (by decide) (by omega) (by omega) (fun c9 => ?_) (fun c9 => ?_)
  · skip
    refine r_aload_n hL (x := 0) dX7_tale_15 rfl ?_
    refine r_getl hL xcl7 7 (j' := 7) rfl (by decide) s_0 (by decide) fl_X7_57 (by decide) dX7_tale_16 (fun hr16 => ?_)
    obtain ⟨z16, hz16⟩ : ∃ z, z = μ 0 7 := ⟨_, rfl⟩
    rw [← hz16] at hr16 ⊢
    have hb16 : 0 ≤ μ 0 7 ∧ μ 0 7 ≤ 47244640255 := (show (7 : Int) = 7 → 0 ≤ (μ 0 7) ∧ (μ 0 7) ≤ 47244640255 from hB 0 7) (by omega)
    refine r_callS hL (st := []) (av := [xL z16]) (m_X7_lengthOf (μ := μ) z16 (by omega) (by omega) (fun z19 hz19 => ⟨rfl, ?_⟩)) ce_yX7_lengthOf sm_yX7_lengthOf ml_X7_71 dX7_tale_19 rfl (Nat.le_of_ble_eq_true rfl) ⟨Nat.le_of_ble_eq_true rfl, Nat.le_of_ble_eq_true rfl⟩ ⟨Nat.le_of_ble_eq_true rfl, Nat.le_of_ble_eq_true rfl⟩
    show X 0 0 WW μ 22 [some (xR 0)] [xI z19]
    refine r_if_ne hL (tgt := 28) dX7_tale_22 (by decide) (by omega) (fun c22 => ?_) (fun c22 => ?_)
    · skip
      refine r_aload_n hL (x := 0) dX7_tale_28 rfl ?_
      refine r_callV hL (st := []) (av := []) (k := 0) (m_X7_beginDeed (μ := μ) hB (fun μ29c hB29c hR29 => ⟨rfl, ?_⟩)) ce_yX7_beginDeed im_yX7_beginDeed se_yX7_beginDeed ml_X7_84 xcl7 (by decide) s_0 dX7_tale_29 rfl (Nat.le_of_ble_eq_true rfl) ⟨Nat.le_of_ble_eq_true rfl, Nat.le_of_ble_eq_true rfl⟩ ⟨Nat.le_of_ble_eq_true rfl, Nat.le_of_ble_eq_true rfl⟩
      show X 0 0 WW μ29c 32 [some (xR 0)] []
      have hG29 := hR29.1
      have hrg29 := rgc_bd (μ 6 2)
      have hF29c : Fr CF μ μ29c := hF.trans (hG29.sub (fun k j h => by unfold RBf at h; unfold CF; omega))
      have hk29c_1_4 : μ29c 1 4 = μ 1 4 := hG29 1 4 (by unfold RBf; omega)
      have hk29c_0_7 : μ29c 0 7 = μ 0 7 := hG29 0 7 (by unfold RBf; omega)
      refine r_aload_n hL (x := 0) dX7_tale_32 rfl ?_
      refine r_getr hL xcl7 0 (by decide) s_0 (by decide) fl_X7_10 (by decide) f_0_0 dX7_tale_33 ?_
      refine r_aload_n hL (x := 0) dX7_tale_36 rfl ?_
      refine r_getl hL xcl7 7 (j' := 7) rfl (by decide) s_0 (by decide) fl_X7_57 (by decide) dX7_tale_37 (fun hr37 => ?_)
      obtain ⟨z37, hz37⟩ : ∃ z, z = μ29c 0 7 := ⟨_, rfl⟩
      rw [← hz37] at hr37 ⊢
      have hb37 : 0 ≤ μ29c 0 7 ∧ μ29c 0 7 ≤ 47244640255 := (show (7 : Int) = 7 → 0 ≤ (μ29c 0 7) ∧ (μ29c 0 7) ≤ 47244640255 from hB29c 0 7) (by omega)
      refine r_iconst hL dX7_tale_40 ?_
      refine r_callV hL (st := []) (av := [xL z37, xI 0]) (k := 1) (m_X5_add (μ := μ29c) hB29c z37 (by omega) 0 (by omega) (by omega) (fun μ41c hB41c hA41 => ⟨rfl, ?_⟩)) ce_yX5_add im_yX5_add se_yX5_add ml_X7_87 xcl5 (by decide) s_1 dX7_tale_41 rfl (Nat.le_of_ble_eq_true rfl) ⟨Nat.le_of_ble_eq_true rfl, Nat.le_of_ble_eq_true rfl⟩ ⟨Nat.le_of_ble_eq_true rfl, Nat.le_of_ble_eq_true rfl⟩
      show X 0 0 WW μ41c 44 [some (xR 0)] []
      have hF41c : Fr CF μ μ41c := hF29c.trans (hA41.1.sub (fun k j h => by unfold AD at h; unfold CF; omega))
      have hG41 := hA41.1
      have hk41c_1_4 : μ41c 1 4 = μ29c 1 4 + 1 := hA41.2.1
      have hk41c_0_7 : μ41c 0 7 = μ29c 0 7 := hA41.1 0 7 (by unfold AD; omega)
      refine r_aload_n hL (x := 0) dX7_tale_44 rfl ?_
      refine r_lconst hL (n := 0) dX7_tale_45 rfl ?_
      refine r_putl hL xcl7 7 (j' := 7) rfl (by decide) s_0 (by decide) fl_X7_57 rfl rfl (by omega) dX7_tale_46 (fun μ1 hm1 => ?_)
      have hB1 : BI μ1 := by rw [hm1]; exact hB41c.up (by show (7 : Int) = 7 → 0 ≤ 0 ∧ 0 ≤ 47244640255; omega)
      have hF1 : Fr CF μ μ1 := by rw [hm1]; exact hF41c.up (by unfold CF; omega)
      have hk1_1_4 : μ1 1 4 = μ41c 1 4 := by rw [hm1]; exact congrFun (xup_c (by decide)) _
      have hk1_0_7 : μ1 0 7 = 0 := by rw [hm1]; exact xup_s _ _ _ _
      refine r_aload_n hL (x := 0) dX7_tale_49 rfl ?_
      refine r_getr hL xcl7 0 (by decide) s_0 (by decide) fl_X7_10 (by decide) f_0_0 dX7_tale_50 ?_
      refine r_geti hL xcl5 4 (j' := 4) rfl (by decide) s_1 (by decide) fl_X7_80 (by decide) (by decide) dX7_tale_53 (fun hr53 => ?_)
      obtain ⟨z53, hz53⟩ : ∃ z, z = μ1 1 4 := ⟨_, rfl⟩
      rw [← hz53] at hr53 ⊢
      have hb53 : 0 ≤ μ1 1 4 ∧ μ1 1 4 ≤ 8 := (show ((4 : Int) = 4 → 0 ≤ (μ1 1 4) ∧ (μ1 1 4) ≤ 8) ∧ ((4 : Int) = 5 → 0 ≤ (μ1 1 4) ∧ (μ1 1 4) ≤ 2) from hB1 1 4).1 (by omega)
      refine r_iconst hL dX7_tale_56 ?_
      refine r_isub hL dX7_tale_57 ?_
      exact r_iret hL dX7_tale_58 rfl (hK _ _ hB1 hF1 (Or.inr (Or.inr ⟨by omega, by omega, by omega, μ29c, μ41c, hR29, by rw [← show z37 = μ 0 7 by omega]; exact hA41, hm1⟩)) (by omega))
    · skip
      refine r_ldc hL (n := -1000000003) dX7_tale_25 kc_X7_83 (by decide) ?_
      exact r_iret hL dX7_tale_27 rfl (hK _ _ hB hF (Or.inr (Or.inl ⟨by omega, by omega, rfl, rfl⟩)) (by omega))
  · skip
    refine r_ldc hL (n := -1000000004) dX7_tale_12 kc_X7_75 (by decide) ?_
    exact r_iret hL dX7_tale_14 rfl (hK _ _ hB hF (Or.inl ⟨by omega, rfl, rfl⟩) (by omega))

set_option maxHeartbeats 4000000 in
set_option maxRecDepth 20000 in
theorem m_X7_take {K : Option xV → xW → xM → Prop} {μ : xM} (hB0 : BI μ) (t : Int) (ht : xrg t) (hK : ∀ r μ', BI μ' → Fr CF μ μ' → C_take t μ r μ' → xrg r → K (some (xI r)) WW μ') : xMet yX7_take cX7_take 2 (some .int) 4 88 0 0 [xR 0, xI t] WW μ K := by
  refine xMet.go RX7 "take" rfl rfl (by decide) [some (xR 0), some (xI t)] (Nat.le_of_ble_eq_true rfl) rfl (fun X hL => ?_)
  have hB := hB0
  have hF : Fr CF μ μ := Fr.rf
  refine r_aload_n hL (x := 0) dX7_take_0 rfl ?_
  refine r_iload_n hL (x := t) dX7_take_1 rfl ?_
  refine r_callV hL (st := []) (av := [xI t]) (k := 0) (m_X7_isTale (μ := μ) hB t (by omega) (fun z2 hc2 => ⟨rfl, ?_⟩)) ce_yX7_isTale im_yX7_isTale se_yX7_isTale ml_X7_119 xcl7 (by decide) s_0 dX7_take_2 rfl (Nat.le_of_ble_eq_true rfl) ⟨Nat.le_of_ble_eq_true rfl, Nat.le_of_ble_eq_true rfl⟩ ⟨Nat.le_of_ble_eq_true rfl, Nat.le_of_ble_eq_true rfl⟩
  show X 0 0 WW μ 5 [some (xR 0), some (xI t)] [xI z2]
  refine r_if_ne hL (tgt := 11) dX7_take_5 (by decide) (by omega) (fun c5 => ?_) (fun c5 => ?_)
  · skip
    refine r_aload_n hL (x := 0) dX7_take_11 rfl ?_
    refine r_callV hL (st := []) (av := []) (k := 0) (m_X7_beginDeed (μ := μ) hB (fun μ12c hB12c hR12 => ⟨rfl, ?_⟩)) ce_yX7_beginDeed im_yX7_beginDeed se_yX7_beginDeed ml_X7_84 xcl7 (by decide) s_0 dX7_take_12 rfl (Nat.le_of_ble_eq_true rfl) ⟨Nat.le_of_ble_eq_true rfl, Nat.le_of_ble_eq_true rfl⟩ ⟨Nat.le_of_ble_eq_true rfl, Nat.le_of_ble_eq_true rfl⟩
    show X 0 0 WW μ12c 15 [some (xR 0), some (xI t)] []
    have hG12 := hR12.1
    have hrg12 := rgc_bd (μ 6 2)
    have hF12c : Fr CF μ μ12c := hF.trans (hG12.sub (fun k j h => by unfold RBf at h; unfold CF; omega))
    have hk12c_1_4 : μ12c 1 4 = μ 1 4 := hG12 1 4 (by unfold RBf; omega)
    refine r_aload_n hL (x := 0) dX7_take_15 rfl ?_
    refine r_getr hL xcl7 0 (by decide) s_0 (by decide) fl_X7_10 (by decide) f_0_0 dX7_take_16 ?_
    refine r_iload_n hL (x := t) dX7_take_19 rfl ?_
    refine r_callV hL (st := []) (av := [xI t]) (k := 1) (m_X5_remove (μ := μ12c) hB12c t (by omega) (fun μ20c hB20c hA20 => ⟨rfl, ?_⟩)) ce_yX5_remove im_yX5_remove se_yX5_remove ml_X7_193 xcl5 (by decide) s_1 dX7_take_20 rfl (Nat.le_of_ble_eq_true rfl) ⟨Nat.le_of_ble_eq_true rfl, Nat.le_of_ble_eq_true rfl⟩ ⟨Nat.le_of_ble_eq_true rfl, Nat.le_of_ble_eq_true rfl⟩
    show X 0 0 WW μ20c 23 [some (xR 0), some (xI t)] []
    have hF20c : Fr CF μ μ20c := hF12c.trans (hA20.1.sub (fun k j h => by unfold AD at h; unfold CF; omega))
    have hk20c_1_4 : μ20c 1 4 = μ12c 1 4 - 1 := hA20.2.1
    refine r_aload_n hL (x := 0) dX7_take_23 rfl ?_
    refine r_getr hL xcl7 0 (by decide) s_0 (by decide) fl_X7_10 (by decide) f_0_0 dX7_take_24 ?_
    refine r_geti hL xcl5 4 (j' := 4) rfl (by decide) s_1 (by decide) fl_X7_80 (by decide) (by decide) dX7_take_27 (fun hr27 => ?_)
    obtain ⟨z27, hz27⟩ : ∃ z, z = μ20c 1 4 := ⟨_, rfl⟩
    rw [← hz27] at hr27 ⊢
    have hb27 : 0 ≤ μ20c 1 4 ∧ μ20c 1 4 ≤ 8 := (show ((4 : Int) = 4 → 0 ≤ (μ20c 1 4) ∧ (μ20c 1 4) ≤ 8) ∧ ((4 : Int) = 5 → 0 ≤ (μ20c 1 4) ∧ (μ20c 1 4) ≤ 2) from hB20c 1 4).1 (by omega)
    exact r_iret hL dX7_take_30 rfl (hK _ _ hB20c hF20c (Or.inr ⟨by omega, by omega, μ12c, hR12, hA20⟩) (by omega))
  · skip
    refine r_ldc hL (n := -1000000001) dX7_take_8 kc_X7_123 (by decide) ?_
    exact r_iret hL dX7_take_10 rfl (hK _ _ hB hF (Or.inl ⟨by omega, rfl, rfl⟩) (by omega))

set_option maxHeartbeats 4000000 in
set_option maxRecDepth 20000 in
theorem m_X7_cost {K : Option xV → xW → xM → Prop} {μ : xM} (hB0 : BI μ) (t : Int) (ht : xrg t) (u : Int) (hu : xrg u) (hK : ∀ r μ', BI μ' → Fr CF μ μ' → C_cost t u μ r μ' → xrg r → K (some (xI r)) WW μ') : xMet yX7_cost cX7_cost 5 (some .int) 4 88 0 0 [xR 0, xI t, xI u] WW μ K := by
  refine xMet.go RX7 "cost" rfl rfl (by decide) [some (xR 0), some (xI t), some (xI u), none, none] (Nat.le_of_ble_eq_true rfl) rfl (fun X hL => ?_)
  have hB := hB0
  have hF : Fr CF μ μ := Fr.rf
  refine r_iload_n hL (x := t) dX7_cost_0 rfl ?_
  refine r_if_lt hL (tgt := 9) dX7_cost_1 (by decide) (by omega) (fun c1 => ?_) (fun c1 => ?_)
  · skip
    refine r_ldc hL (n := -1000000002) dX7_cost_9 kc_X7_70 (by decide) ?_
    exact r_iret hL dX7_cost_11 rfl (hK _ _ hB hF (Or.inl ⟨by unfold okco; omega, rfl, rfl⟩) (by omega))
  · skip
    refine r_iload_n hL (x := t) dX7_cost_4 rfl ?_
    refine r_iconst hL dX7_cost_5 ?_
    refine r_icmp_lt hL (tgt := 12) dX7_cost_6 (by decide) (by omega) (by omega) (fun c6 => ?_) (fun c6 => ?_)
    · skip
      refine r_iload_n hL (x := t) dX7_cost_12 rfl ?_
      refine r_iconst hL dX7_cost_13 ?_
      refine r_icmp_ne hL (tgt := 21) dX7_cost_14 (by decide) (by omega) (by omega) (fun c14 => ?_) (fun c14 => ?_)
      · skip
        refine r_iconst hL dX7_cost_21 ?_
        refine r_istore_n hL (lo' := [some (xR 0), some (xI t), some (xI u), some (xI 1), none]) dX7_cost_22 (by decide) rfl ?_
        refine r_iload_n hL (x := u) dX7_cost_23 rfl ?_
        refine r_iload_n hL (x := 1) dX7_cost_24 rfl ?_
        refine r_icmp_lt hL (tgt := 34) dX7_cost_25 (by decide) (by omega) (by omega) (fun c25 => ?_) (fun c25 => ?_)
        · skip
          refine r_ldc hL (n := -1000000002) dX7_cost_34 kc_X7_70 (by decide) ?_
          exact r_iret hL dX7_cost_36 rfl (hK _ _ hB hF (Or.inl ⟨by unfold okco; omega, rfl, rfl⟩) (by omega))
        · skip
          refine r_iload_n hL (x := u) dX7_cost_28 rfl ?_
          refine r_bipush hL dX7_cost_29 (by decide) ?_
          refine r_icmp_le hL (tgt := 37) dX7_cost_31 (by decide) (by omega) (by omega) (fun c31 => ?_) (fun c31 => ?_)
          · skip
            refine r_aload_n hL (x := 0) dX7_cost_37 rfl ?_
            refine r_callV hL (st := []) (av := []) (k := 0) (m_X7_beginDeed (μ := μ) hB (fun μ38c hB38c hR38 => ⟨rfl, ?_⟩)) ce_yX7_beginDeed im_yX7_beginDeed se_yX7_beginDeed ml_X7_84 xcl7 (by decide) s_0 dX7_cost_38 rfl (Nat.le_of_ble_eq_true rfl) ⟨Nat.le_of_ble_eq_true rfl, Nat.le_of_ble_eq_true rfl⟩ ⟨Nat.le_of_ble_eq_true rfl, Nat.le_of_ble_eq_true rfl⟩
            show X 0 0 WW μ38c 41 [some (xR 0), some (xI t), some (xI u), some (xI 1), none] []
            have hG38 := hR38.1
            have hrg38 := rgc_bd (μ 6 2)
            have hF38c : Fr CF μ μ38c := hF.trans (hG38.sub (fun k j h => by unfold RBf at h; unfold CF; omega))
            refine r_aload_n hL (x := 0) dX7_cost_41 rfl ?_
            refine r_getr hL xcl7 0 (by decide) s_0 (by decide) fl_X7_10 (by decide) f_0_0 dX7_cost_42 ?_
            refine r_getr hL xcl5 2 (by decide) s_1 (by decide) fl_X7_146 (by decide) f_1_2 dX7_cost_45 ?_
            refine r_iload_n hL (x := t) dX7_cost_48 rfl ?_
            refine r_iald hL dX7_cost_49 (by decide) s_4 (by decide) (by omega) (by omega) (fun hr49 => ?_)
            obtain ⟨z49, hz49⟩ : ∃ z, z = μ38c 4 t := ⟨_, rfl⟩
            rw [← hz49] at hr49 ⊢
            have hb49 : 0 ≤ (μ38c 4 t) ∧ (μ38c 4 t) ≤ 9 := hB38c 4 t
            refine r_istore hL (lo' := [some (xR 0), some (xI t), some (xI u), some (xI 1), some (xI z49)]) dX7_cost_50 (by decide) rfl ?_
            refine r_aload_n hL (x := 0) dX7_cost_52 rfl ?_
            refine r_getr hL xcl7 0 (by decide) s_0 (by decide) fl_X7_10 (by decide) f_0_0 dX7_cost_53 ?_
            refine r_getr hL xcl5 2 (by decide) s_1 (by decide) fl_X7_146 (by decide) f_1_2 dX7_cost_56 ?_
            refine r_iload_n hL (x := t) dX7_cost_59 rfl ?_
            refine r_iload_n hL (x := u) dX7_cost_60 rfl ?_
            refine r_iast hL dX7_cost_61 (by decide) s_4 (by decide) (by omega) (by omega) (by omega) (fun μ1 hm1 => ?_)
            have hB1 : BI μ1 := by rw [hm1]; exact hB38c.up (by show 0 ≤ u ∧ u ≤ 9; omega)
            have hF1 : Fr CF μ μ1 := by rw [hm1]; exact hF38c.up (by unfold CF; omega)
            refine r_iload hL (x := z49) dX7_cost_62 rfl ?_
            exact r_iret hL dX7_cost_64 rfl (hK _ _ hB1 hF1 (Or.inr ⟨by unfold okco; omega, by rw [hz49]; exact hG38 4 t (by unfold RBf; omega), μ38c, hR38, hm1⟩) (by omega))
          · skip
            refine r_ldc hL (n := -1000000002) dX7_cost_34 kc_X7_70 (by decide) ?_
            exact r_iret hL dX7_cost_36 rfl (hK _ _ hB hF (Or.inl ⟨by unfold okco; omega, rfl, rfl⟩) (by omega))
      · skip
        refine r_iconst hL dX7_cost_17 ?_
        refine r_goto hL (tgt := 22) dX7_cost_18 (by decide) ?_
        refine r_istore_n hL (lo' := [some (xR 0), some (xI t), some (xI u), some (xI 0), none]) dX7_cost_22 (by decide) rfl ?_
        refine r_iload_n hL (x := u) dX7_cost_23 rfl ?_
        refine r_iload_n hL (x := 0) dX7_cost_24 rfl ?_
        refine r_icmp_lt hL (tgt := 34) dX7_cost_25 (by decide) (by omega) (by omega) (fun c25 => ?_) (fun c25 => ?_)
        · skip
          refine r_ldc hL (n := -1000000002) dX7_cost_34 kc_X7_70 (by decide) ?_
          exact r_iret hL dX7_cost_36 rfl (hK _ _ hB hF (Or.inl ⟨by unfold okco; omega, rfl, rfl⟩) (by omega))
        · skip
          refine r_iload_n hL (x := u) dX7_cost_28 rfl ?_
          refine r_bipush hL dX7_cost_29 (by decide) ?_
          refine r_icmp_le hL (tgt := 37) dX7_cost_31 (by decide) (by omega) (by omega) (fun c31 => ?_) (fun c31 => ?_)
          · skip
            refine r_aload_n hL (x := 0) dX7_cost_37 rfl ?_
            refine r_callV hL (st := []) (av := []) (k := 0) (m_X7_beginDeed (μ := μ) hB (fun μ38c hB38c hR38 => ⟨rfl, ?_⟩)) ce_yX7_beginDeed im_yX7_beginDeed se_yX7_beginDeed ml_X7_84 xcl7 (by decide) s_0 dX7_cost_38 rfl (Nat.le_of_ble_eq_true rfl) ⟨Nat.le_of_ble_eq_true rfl, Nat.le_of_ble_eq_true rfl⟩ ⟨Nat.le_of_ble_eq_true rfl, Nat.le_of_ble_eq_true rfl⟩
            show X 0 0 WW μ38c 41 [some (xR 0), some (xI t), some (xI u), some (xI 0), none] []
            have hG38 := hR38.1
            have hrg38 := rgc_bd (μ 6 2)
            have hF38c : Fr CF μ μ38c := hF.trans (hG38.sub (fun k j h => by unfold RBf at h; unfold CF; omega))
            refine r_aload_n hL (x := 0) dX7_cost_41 rfl ?_
            refine r_getr hL xcl7 0 (by decide) s_0 (by decide) fl_X7_10 (by decide) f_0_0 dX7_cost_42 ?_
            refine r_getr hL xcl5 2 (by decide) s_1 (by decide) fl_X7_146 (by decide) f_1_2 dX7_cost_45 ?_
            refine r_iload_n hL (x := t) dX7_cost_48 rfl ?_
            refine r_iald hL dX7_cost_49 (by decide) s_4 (by decide) (by omega) (by omega) (fun hr49 => ?_)
            obtain ⟨z49, hz49⟩ : ∃ z, z = μ38c 4 t := ⟨_, rfl⟩
            rw [← hz49] at hr49 ⊢
            have hb49 : 0 ≤ (μ38c 4 t) ∧ (μ38c 4 t) ≤ 9 := hB38c 4 t
            refine r_istore hL (lo' := [some (xR 0), some (xI t), some (xI u), some (xI 0), some (xI z49)]) dX7_cost_50 (by decide) rfl ?_
            refine r_aload_n hL (x := 0) dX7_cost_52 rfl ?_
            refine r_getr hL xcl7 0 (by decide) s_0 (by decide) fl_X7_10 (by decide) f_0_0 dX7_cost_53 ?_
            refine r_getr hL xcl5 2 (by decide) s_1 (by decide) fl_X7_146 (by decide) f_1_2 dX7_cost_56 ?_
            refine r_iload_n hL (x := t) dX7_cost_59 rfl ?_
            refine r_iload_n hL (x := u) dX7_cost_60 rfl ?_
            refine r_iast hL dX7_cost_61 (by decide) s_4 (by decide) (by omega) (by omega) (by omega) (fun μ2 hm2 => ?_)
            have hB2 : BI μ2 := by rw [hm2]; exact hB38c.up (by show 0 ≤ u ∧ u ≤ 9; omega)
            have hF2 : Fr CF μ μ2 := by rw [hm2]; exact hF38c.up (by unfold CF; omega)
            refine r_iload hL (x := z49) dX7_cost_62 rfl ?_
            exact r_iret hL dX7_cost_64 rfl (hK _ _ hB2 hF2 (Or.inr ⟨by unfold okco; omega, by rw [hz49]; exact hG38 4 t (by unfold RBf; omega), μ38c, hR38, hm2⟩) (by omega))
          · skip
            refine r_ldc hL (n := -1000000002) dX7_cost_34 kc_X7_70 (by decide) ?_
            exact r_iret hL dX7_cost_36 rfl (hK _ _ hB hF (Or.inl ⟨by unfold okco; omega, rfl, rfl⟩) (by omega))
    · skip
      refine r_ldc hL (n := -1000000002) dX7_cost_9 kc_X7_70 (by decide) ?_
      exact r_iret hL dX7_cost_11 rfl (hK _ _ hB hF (Or.inl ⟨by unfold okco; omega, rfl, rfl⟩) (by omega))

set_option maxHeartbeats 4000000 in
set_option maxRecDepth 20000 in
theorem m_X7_kind {K : Option xV → xW → xM → Prop} {μ : xM} (hB0 : BI μ) (t : Int) (ht : xrg t) (hK : ∀ r μ', BI μ' → Fr CF μ μ' → C_kind t μ r μ' → xrg r → K (some (xI r)) WW μ') : xMet yX7_kind cX7_kind 3 (some .int) 4 88 0 0 [xR 0, xI t] WW μ K := by
  refine xMet.go RX7 "kind" rfl rfl (by decide) [some (xR 0), some (xI t), none] (Nat.le_of_ble_eq_true rfl) rfl (fun X hL => ?_)
  have hB := hB0
  have hF : Fr CF μ μ := Fr.rf
  refine r_iload_n hL (x := t) dX7_kind_0 rfl ?_
  refine r_if_lt hL (tgt := 9) dX7_kind_1 (by decide) (by omega) (fun c1 => ?_) (fun c1 => ?_)
  · skip
    refine r_ldc hL (n := -1000000002) dX7_kind_9 kc_X7_70 (by decide) ?_
    exact r_iret hL dX7_kind_11 rfl (hK _ _ hB hF (Or.inl ⟨by omega, rfl, rfl⟩) (by omega))
  · skip
    refine r_iload_n hL (x := t) dX7_kind_4 rfl ?_
    refine r_iconst hL dX7_kind_5 ?_
    refine r_icmp_le hL (tgt := 12) dX7_kind_6 (by decide) (by omega) (by omega) (fun c6 => ?_) (fun c6 => ?_)
    · skip
      refine r_aload_n hL (x := 0) dX7_kind_12 rfl ?_
      refine r_callV hL (st := []) (av := []) (k := 0) (m_X7_beginDeed (μ := μ) hB (fun μ13c hB13c hR13 => ⟨rfl, ?_⟩)) ce_yX7_beginDeed im_yX7_beginDeed se_yX7_beginDeed ml_X7_84 xcl7 (by decide) s_0 dX7_kind_13 rfl (Nat.le_of_ble_eq_true rfl) ⟨Nat.le_of_ble_eq_true rfl, Nat.le_of_ble_eq_true rfl⟩ ⟨Nat.le_of_ble_eq_true rfl, Nat.le_of_ble_eq_true rfl⟩
      show X 0 0 WW μ13c 16 [some (xR 0), some (xI t), none] []
      have hG13 := hR13.1
      have hrg13 := rgc_bd (μ 6 2)
      have hF13c : Fr CF μ μ13c := hF.trans (hG13.sub (fun k j h => by unfold RBf at h; unfold CF; omega))
      have hk13c_1_5 : μ13c 1 5 = μ 1 5 := hG13 1 5 (by unfold RBf; omega)
      refine r_aload_n hL (x := 0) dX7_kind_16 rfl ?_
      refine r_getr hL xcl7 0 (by decide) s_0 (by decide) fl_X7_10 (by decide) f_0_0 dX7_kind_17 ?_
      refine r_geti hL xcl5 5 (j' := 5) rfl (by decide) s_1 (by decide) fl_X7_91 (by decide) (by decide) dX7_kind_20 (fun hr20 => ?_)
      obtain ⟨z20, hz20⟩ : ∃ z, z = μ13c 1 5 := ⟨_, rfl⟩
      rw [← hz20] at hr20 ⊢
      have hb20 : 0 ≤ μ13c 1 5 ∧ μ13c 1 5 ≤ 2 := (show ((5 : Int) = 4 → 0 ≤ (μ13c 1 5) ∧ (μ13c 1 5) ≤ 8) ∧ ((5 : Int) = 5 → 0 ≤ (μ13c 1 5) ∧ (μ13c 1 5) ≤ 2) from hB13c 1 5).2 (by omega)
      refine r_istore_n hL (lo' := [some (xR 0), some (xI t), some (xI z20)]) dX7_kind_23 (by decide) rfl ?_
      refine r_aload_n hL (x := 0) dX7_kind_24 rfl ?_
      refine r_getr hL xcl7 0 (by decide) s_0 (by decide) fl_X7_10 (by decide) f_0_0 dX7_kind_25 ?_
      refine r_iload_n hL (x := t) dX7_kind_28 rfl ?_
      refine r_puti hL xcl5 5 (j' := 5) rfl (by decide) s_1 (by decide) fl_X7_91 rfl rfl (by omega) dX7_kind_29 (fun μ1 hm1 => ?_)
      have hB1 : BI μ1 := by rw [hm1]; exact hB13c.up (by show ((5 : Int) = 4 → 0 ≤ t ∧ t ≤ 8) ∧ ((5 : Int) = 5 → 0 ≤ t ∧ t ≤ 2); omega)
      have hF1 : Fr CF μ μ1 := by rw [hm1]; exact hF13c.up (by unfold CF; omega)
      have hk1_1_5 : μ1 1 5 = t := by rw [hm1]; exact xup_s _ _ _ _
      refine r_iload_n hL (x := z20) dX7_kind_32 rfl ?_
      exact r_iret hL dX7_kind_33 rfl (hK _ _ hB1 hF1 (Or.inr ⟨by omega, by omega, μ13c, hR13, hm1⟩) (by omega))
    · skip
      refine r_ldc hL (n := -1000000002) dX7_kind_9 kc_X7_70 (by decide) ?_
      exact r_iret hL dX7_kind_11 rfl (hK _ _ hB hF (Or.inl ⟨by omega, rfl, rfl⟩) (by omega))

set_option maxHeartbeats 4000000 in
set_option maxRecDepth 20000 in
theorem m_X7_road {K : Option xV → xW → xM → Prop} {μ : xM} (hB0 : BI μ) (t : Int) (ht : xrg t) (u : Int) (hu : xrg u) (v : Int) (hv : xrg v) (hK : ∀ r μ', BI μ' → Fr CF μ μ' → C_road t u v μ r μ' → xrg r → K (some (xI r)) WW μ') : xMet yX7_road cX7_road 4 (some .int) 4 88 0 0 [xR 0, xI t, xI u, xI v] WW μ K := by
  refine xMet.go RX7 "road" rfl rfl (by decide) [some (xR 0), some (xI t), some (xI u), some (xI v)] (Nat.le_of_ble_eq_true rfl) rfl (fun X hL => ?_)
  have hB := hB0
  have hF : Fr CF μ μ := Fr.rf
  refine r_iload_n hL (x := t) dX7_road_0 rfl ?_
  refine r_callS hL (st := []) (av := [xI t]) (m_X7_isPlace (μ := μ) t (by omega) (fun z1 hc1 => ⟨rfl, ?_⟩)) ce_yX7_isPlace sm_yX7_isPlace ml_X7_197 dX7_road_1 rfl (Nat.le_of_ble_eq_true rfl) ⟨Nat.le_of_ble_eq_true rfl, Nat.le_of_ble_eq_true rfl⟩ ⟨Nat.le_of_ble_eq_true rfl, Nat.le_of_ble_eq_true rfl⟩
  show X 0 0 WW μ 4 [some (xR 0), some (xI t), some (xI u), some (xI v)] [xI z1]
  refine r_if_eq hL (tgt := 19) dX7_road_4 (by decide) (by omega) (fun c4 => ?_) (fun c4 => ?_)
  · skip
    refine r_ldc hL (n := -1000000001) dX7_road_19 kc_X7_123 (by decide) ?_
    exact r_iret hL dX7_road_21 rfl (hK _ _ hB hF (Or.inl ⟨by unfold okro; omega, rfl, rfl⟩) (by omega))
  · skip
    refine r_iload_n hL (x := u) dX7_road_7 rfl ?_
    refine r_callS hL (st := []) (av := [xI u]) (m_X7_isPlace (μ := μ) u (by omega) (fun z8 hc8 => ⟨rfl, ?_⟩)) ce_yX7_isPlace sm_yX7_isPlace ml_X7_197 dX7_road_8 rfl (Nat.le_of_ble_eq_true rfl) ⟨Nat.le_of_ble_eq_true rfl, Nat.le_of_ble_eq_true rfl⟩ ⟨Nat.le_of_ble_eq_true rfl, Nat.le_of_ble_eq_true rfl⟩
    show X 0 0 WW μ 11 [some (xR 0), some (xI t), some (xI u), some (xI v)] [xI z8]
    refine r_if_eq hL (tgt := 19) dX7_road_11 (by decide) (by omega) (fun c11 => ?_) (fun c11 => ?_)
    · skip
      refine r_ldc hL (n := -1000000001) dX7_road_19 kc_X7_123 (by decide) ?_
      exact r_iret hL dX7_road_21 rfl (hK _ _ hB hF (Or.inl ⟨by unfold okro; omega, rfl, rfl⟩) (by omega))
    · skip
      refine r_iload_n hL (x := t) dX7_road_14 rfl ?_
      refine r_iload_n hL (x := u) dX7_road_15 rfl ?_
      refine r_icmp_ne hL (tgt := 22) dX7_road_16 (by decide) (by omega) (by omega) (fun c16 => ?_) (fun c16 => ?_)
      · skip
        refine r_aload_n hL (x := 0) dX7_road_22 rfl ?_
        refine r_callV hL (st := []) (av := []) (k := 0) (m_X7_beginDeed (μ := μ) hB (fun μ23c hB23c hR23 => ⟨rfl, ?_⟩)) ce_yX7_beginDeed im_yX7_beginDeed se_yX7_beginDeed ml_X7_84 xcl7 (by decide) s_0 dX7_road_23 rfl (Nat.le_of_ble_eq_true rfl) ⟨Nat.le_of_ble_eq_true rfl, Nat.le_of_ble_eq_true rfl⟩ ⟨Nat.le_of_ble_eq_true rfl, Nat.le_of_ble_eq_true rfl⟩
        show X 0 0 WW μ23c 26 [some (xR 0), some (xI t), some (xI u), some (xI v)] []
        have hG23 := hR23.1
        have hrg23 := rgc_bd (μ 6 2)
        have hF23c : Fr CF μ μ23c := hF.trans (hG23.sub (fun k j h => by unfold RBf at h; unfold CF; omega))
        refine r_aload_n hL (x := 0) dX7_road_26 rfl ?_
        refine r_getr hL xcl7 0 (by decide) s_0 (by decide) fl_X7_10 (by decide) f_0_0 dX7_road_27 ?_
        refine r_iload_n hL (x := t) dX7_road_30 rfl ?_
        refine r_iload_n hL (x := u) dX7_road_31 rfl ?_
        refine r_iload_n hL (x := v) dX7_road_32 rfl ?_
        refine r_callV hL (st := []) (av := [xI t, xI u, xI v]) (k := 1) (m_X5_setRoad (μ := μ23c) hB23c t (by omega) u (by omega) v (by omega) (by omega) (fun μ33c hB33c hA33 => ⟨rfl, ?_⟩)) ce_yX5_setRoad im_yX5_setRoad se_yX5_setRoad ml_X7_200 xcl5 (by decide) s_1 dX7_road_33 rfl (Nat.le_of_ble_eq_true rfl) ⟨Nat.le_of_ble_eq_true rfl, Nat.le_of_ble_eq_true rfl⟩ ⟨Nat.le_of_ble_eq_true rfl, Nat.le_of_ble_eq_true rfl⟩
        show X 0 0 WW μ33c 36 [some (xR 0), some (xI t), some (xI u), some (xI v)] []
        have hF33c : Fr CF μ μ33c := hF23c.trans (hA33.1.sub (fun k j h => by unfold F5 at h; unfold CF; omega))
        refine r_aload_n hL (x := 0) dX7_road_36 rfl ?_
        refine r_getr hL xcl7 0 (by decide) s_0 (by decide) fl_X7_10 (by decide) f_0_0 dX7_road_37 ?_
        refine r_callV hL (st := []) (av := []) (k := 1) (m_X5_countRoads (μ := μ33c)  (fun z40 heq40 hc40 => ⟨rfl, ?_⟩)) ce_yX5_countRoads im_yX5_countRoads se_yX5_countRoads ml_X7_204 xcl5 (by decide) s_1 dX7_road_40 rfl (Nat.le_of_ble_eq_true rfl) ⟨Nat.le_of_ble_eq_true rfl, Nat.le_of_ble_eq_true rfl⟩ ⟨Nat.le_of_ble_eq_true rfl, Nat.le_of_ble_eq_true rfl⟩
        show X 0 0 WW μ33c 43 [some (xR 0), some (xI t), some (xI u), some (xI v)] [xI z40]
        exact r_iret hL dX7_road_43 rfl (hK _ _ hB33c hF33c (Or.inr ⟨by unfold okro; omega, heq40, μ23c, hR23, hA33⟩) (by omega))
      · skip
        refine r_ldc hL (n := -1000000001) dX7_road_19 kc_X7_123 (by decide) ?_
        exact r_iret hL dX7_road_21 rfl (hK _ _ hB hF (Or.inl ⟨by unfold okro; omega, rfl, rfl⟩) (by omega))

set_option maxHeartbeats 4000000 in
set_option maxRecDepth 20000 in
theorem m_X7_at {K : Option xV → xW → xM → Prop} {μ : xM} (hB0 : BI μ) (t : Int) (ht : xrg t) (u : Int) (hu : xrg u) (hK : ∀ r μ', BI μ' → Fr CF μ μ' → C_at t u μ r μ' → xrg r → K (some (xI r)) WW μ') : xMet yX7_at cX7_at 3 (some .int) 4 88 0 0 [xR 0, xI t, xI u] WW μ K := by
  refine xMet.go RX7 "at" rfl rfl (by decide) [some (xR 0), some (xI t), some (xI u)] (Nat.le_of_ble_eq_true rfl) rfl (fun X hL => ?_)
  have hB := hB0
  have hF : Fr CF μ μ := Fr.rf
  refine r_aload_n hL (x := 0) dX7_at_0 rfl ?_
  refine r_iload_n hL (x := t) dX7_at_1 rfl ?_
  refine r_callV hL (st := []) (av := [xI t]) (k := 0) (m_X7_isTale (μ := μ) hB t (by omega) (fun z2 hc2 => ⟨rfl, ?_⟩)) ce_yX7_isTale im_yX7_isTale se_yX7_isTale ml_X7_119 xcl7 (by decide) s_0 dX7_at_2 rfl (Nat.le_of_ble_eq_true rfl) ⟨Nat.le_of_ble_eq_true rfl, Nat.le_of_ble_eq_true rfl⟩ ⟨Nat.le_of_ble_eq_true rfl, Nat.le_of_ble_eq_true rfl⟩
  show X 0 0 WW μ 5 [some (xR 0), some (xI t), some (xI u)] [xI z2]
  refine r_if_ne hL (tgt := 11) dX7_at_5 (by decide) (by omega) (fun c5 => ?_) (fun c5 => ?_)
  · skip
    refine r_iload_n hL (x := u) dX7_at_11 rfl ?_
    refine r_callS hL (st := []) (av := [xI u]) (m_X7_arePlaces (μ := μ) u (by omega) (fun z12 hc12 => ⟨rfl, ?_⟩)) ce_yX7_arePlaces sm_yX7_arePlaces ml_X7_190 dX7_at_12 rfl (Nat.le_of_ble_eq_true rfl) ⟨Nat.le_of_ble_eq_true rfl, Nat.le_of_ble_eq_true rfl⟩ ⟨Nat.le_of_ble_eq_true rfl, Nat.le_of_ble_eq_true rfl⟩
    show X 0 0 WW μ 15 [some (xR 0), some (xI t), some (xI u)] [xI z12]
    refine r_if_ne hL (tgt := 21) dX7_at_15 (by decide) (by omega) (fun c15 => ?_) (fun c15 => ?_)
    · skip
      refine r_aload_n hL (x := 0) dX7_at_21 rfl ?_
      refine r_callV hL (st := []) (av := []) (k := 0) (m_X7_beginDeed (μ := μ) hB (fun μ22c hB22c hR22 => ⟨rfl, ?_⟩)) ce_yX7_beginDeed im_yX7_beginDeed se_yX7_beginDeed ml_X7_84 xcl7 (by decide) s_0 dX7_at_22 rfl (Nat.le_of_ble_eq_true rfl) ⟨Nat.le_of_ble_eq_true rfl, Nat.le_of_ble_eq_true rfl⟩ ⟨Nat.le_of_ble_eq_true rfl, Nat.le_of_ble_eq_true rfl⟩
      show X 0 0 WW μ22c 25 [some (xR 0), some (xI t), some (xI u)] []
      have hG22 := hR22.1
      have hrg22 := rgc_bd (μ 6 2)
      have hF22c : Fr CF μ μ22c := hF.trans (hG22.sub (fun k j h => by unfold RBf at h; unfold CF; omega))
      refine r_aload_n hL (x := 0) dX7_at_25 rfl ?_
      refine r_getr hL xcl7 0 (by decide) s_0 (by decide) fl_X7_10 (by decide) f_0_0 dX7_at_26 ?_
      refine r_getr hL xcl5 1 (by decide) s_1 (by decide) fl_X7_128 (by decide) f_1_1 dX7_at_29 ?_
      refine r_iload_n hL (x := t) dX7_at_32 rfl ?_
      refine r_iload_n hL (x := u) dX7_at_33 rfl ?_
      refine r_iast hL dX7_at_34 (by decide) s_3 (by decide) (by omega) (by omega) (by omega) (fun μ1 hm1 => ?_)
      have hB1 : BI μ1 := by rw [hm1]; exact hB22c.up trivial
      have hF1 : Fr CF μ μ1 := by rw [hm1]; exact hF22c.up (by unfold CF; omega)
      refine r_iload_n hL (x := u) dX7_at_35 rfl ?_
      refine r_aload_n hL (x := 0) dX7_at_36 rfl ?_
      refine r_getr hL xcl7 0 (by decide) s_0 (by decide) fl_X7_10 (by decide) f_0_0 dX7_at_37 ?_
      refine r_getr hL xcl5 3 (by decide) s_1 (by decide) fl_X7_132 (by decide) f_1_3 dX7_at_40 ?_
      refine r_callS hL (st := []) (av := [xI u, xR 5]) (m_X7_hull (μ := μ1) u (by omega) 5 (by decide) s_5 (fun z43 hv43 hc43 => ⟨rfl, ?_⟩)) ce_yX7_hull sm_yX7_hull ml_X7_135 dX7_at_43 rfl (Nat.le_of_ble_eq_true rfl) ⟨Nat.le_of_ble_eq_true rfl, Nat.le_of_ble_eq_true rfl⟩ ⟨Nat.le_of_ble_eq_true rfl, Nat.le_of_ble_eq_true rfl⟩
      show X 0 0 WW μ1 46 [some (xR 0), some (xI t), some (xI u)] [xI z43]
      refine r_callS hL (st := []) (av := [xI z43]) (m_X7_roadsOf (μ := μ1) z43 (by omega) (fun z46 heq46 hc46 => ⟨rfl, ?_⟩)) ce_yX7_roadsOf sm_yX7_roadsOf ml_X7_139 dX7_at_46 rfl (Nat.le_of_ble_eq_true rfl) ⟨Nat.le_of_ble_eq_true rfl, Nat.le_of_ble_eq_true rfl⟩ ⟨Nat.le_of_ble_eq_true rfl, Nat.le_of_ble_eq_true rfl⟩
      show X 0 0 WW μ1 49 [some (xR 0), some (xI t), some (xI u)] [xI z46]
      exact r_iret hL dX7_at_49 rfl (hK _ _ hB1 hF1 (Or.inr (Or.inr ⟨by omega, by omega, by rw [heq46, hv43], μ22c, hR22, hm1⟩)) (by omega))
    · skip
      refine r_ldc hL (n := -1000000002) dX7_at_18 kc_X7_70 (by decide) ?_
      exact r_iret hL dX7_at_20 rfl (hK _ _ hB hF (Or.inr (Or.inl ⟨by omega, by omega, rfl, rfl⟩)) (by omega))
  · skip
    refine r_ldc hL (n := -1000000001) dX7_at_8 kc_X7_123 (by decide) ?_
    exact r_iret hL dX7_at_10 rfl (hK _ _ hB hF (Or.inl ⟨by omega, rfl, rfl⟩) (by omega))

set_option maxHeartbeats 4000000 in
set_option maxRecDepth 20000 in
theorem m_X7_drift {K : Option xV → xW → xM → Prop} {μ : xM} (hB0 : BI μ) (t : Int) (ht : xrg t) (hK : ∀ r μ', BI μ' → Fr CF μ μ' → C_drift t μ r μ' → xrg r → K (some (xI r)) WW μ') : xMet yX7_drift cX7_drift 3 (some .int) 4 88 0 0 [xR 0, xI t] WW μ K := by
  refine xMet.go RX7 "drift" rfl rfl (by decide) [some (xR 0), some (xI t), none] (Nat.le_of_ble_eq_true rfl) rfl (fun X hL => ?_)
  have hB := hB0
  have hF : Fr CF μ μ := Fr.rf
  refine r_iload_n hL (x := t) dX7_drift_0 rfl ?_
  refine r_iconst hL dX7_drift_1 ?_
  refine r_icmp_lt hL (tgt := 11) dX7_drift_2 (by decide) (by omega) (by omega) (fun c2 => ?_) (fun c2 => ?_)
  · skip
    refine r_ldc hL (n := -1000000002) dX7_drift_11 kc_X7_70 (by decide) ?_
    exact r_iret hL dX7_drift_13 rfl (hK _ _ hB hF (Or.inl ⟨by omega, rfl, rfl⟩) (by omega))
  · skip
    refine r_iload_n hL (x := t) dX7_drift_5 rfl ?_
    refine r_bipush hL dX7_drift_6 (by decide) ?_
    refine r_icmp_le hL (tgt := 14) dX7_drift_8 (by decide) (by omega) (by omega) (fun c8 => ?_) (fun c8 => ?_)
    · skip
      refine r_iconst hL dX7_drift_14 ?_
      refine r_istore_n hL (lo' := [some (xR 0), some (xI t), some (xI 0)]) dX7_drift_15 (by decide) rfl ?_
      have lp16 : ∀ (n16 : Nat) (k : Int) (μ116 : xM), (BI μ116) → (Fr CF μ μ116) → (0 ≤ k ∧ k ≤ t) → (cDs k.toNat μ μ116) → ((t - k).toNat) < n16 → X 0 0 WW μ116 16 [some (xR 0), some (xI t), some (xI k)] [] := by
        intro n16
        induction n16 with
        | zero => intro k μ116 hB116 hF116 h1 h2 hn; exact absurd hn (Nat.not_lt_zero _)
        | succ n16 ih16 =>
          intro k μ116 hB116 hF116 h1 h2 hn16
          refine r_iload_n hL (x := k) dX7_drift_16 rfl ?_
          refine r_iload_n hL (x := t) dX7_drift_17 rfl ?_
          refine r_icmp_ge hL (tgt := 47) dX7_drift_18 (by decide) (by omega) (by omega) (fun c18 => ?_) (fun c18 => ?_)
          · skip
            refine r_aload_n hL (x := 0) dX7_drift_47 rfl ?_
            refine r_getr hL xcl7 0 (by decide) s_0 (by decide) fl_X7_10 (by decide) f_0_0 dX7_drift_48 ?_
            refine r_geti hL xcl5 4 (j' := 4) rfl (by decide) s_1 (by decide) fl_X7_80 (by decide) (by decide) dX7_drift_51 (fun hr51 => ?_)
            obtain ⟨z51, hz51⟩ : ∃ z, z = μ116 1 4 := ⟨_, rfl⟩
            rw [← hz51] at hr51 ⊢
            have hb51 : 0 ≤ μ116 1 4 ∧ μ116 1 4 ≤ 8 := (show ((4 : Int) = 4 → 0 ≤ (μ116 1 4) ∧ (μ116 1 4) ≤ 8) ∧ ((4 : Int) = 5 → 0 ≤ (μ116 1 4) ∧ (μ116 1 4) ≤ 2) from hB116 1 4).1 (by omega)
            exact r_iret hL dX7_drift_54 rfl (hK _ _ hB116 hF116 (Or.inr ⟨by omega, hz51, k.toNat, h2, by omega, by omega⟩) (by omega))
          · skip
            refine r_aload_n hL (x := 0) dX7_drift_21 rfl ?_
            refine r_getr hL xcl7 0 (by decide) s_0 (by decide) fl_X7_10 (by decide) f_0_0 dX7_drift_22 ?_
            refine r_geti hL xcl5 4 (j' := 4) rfl (by decide) s_1 (by decide) fl_X7_80 (by decide) (by decide) dX7_drift_25 (fun hr25 => ?_)
            obtain ⟨z25, hz25⟩ : ∃ z, z = μ116 1 4 := ⟨_, rfl⟩
            rw [← hz25] at hr25 ⊢
            have hb25 : 0 ≤ μ116 1 4 ∧ μ116 1 4 ≤ 8 := (show ((4 : Int) = 4 → 0 ≤ (μ116 1 4) ∧ (μ116 1 4) ≤ 8) ∧ ((4 : Int) = 5 → 0 ≤ (μ116 1 4) ∧ (μ116 1 4) ≤ 2) from hB116 1 4).1 (by omega)
            refine r_bipush hL dX7_drift_28 (by decide) ?_
            refine r_icmp_ge hL (tgt := 47) dX7_drift_30 (by decide) (by omega) (by omega) (fun c30 => ?_) (fun c30 => ?_)
            · skip
              refine r_aload_n hL (x := 0) dX7_drift_47 rfl ?_
              refine r_getr hL xcl7 0 (by decide) s_0 (by decide) fl_X7_10 (by decide) f_0_0 dX7_drift_48 ?_
              refine r_geti hL xcl5 4 (j' := 4) rfl (by decide) s_1 (by decide) fl_X7_80 (by decide) (by decide) dX7_drift_51 (fun hr51 => ?_)
              obtain ⟨z51, hz51⟩ : ∃ z, z = μ116 1 4 := ⟨_, rfl⟩
              rw [← hz51] at hr51 ⊢
              have hb51 : 0 ≤ μ116 1 4 ∧ μ116 1 4 ≤ 8 := (show ((4 : Int) = 4 → 0 ≤ (μ116 1 4) ∧ (μ116 1 4) ≤ 8) ∧ ((4 : Int) = 5 → 0 ≤ (μ116 1 4) ∧ (μ116 1 4) ≤ 2) from hB116 1 4).1 (by omega)
              exact r_iret hL dX7_drift_54 rfl (hK _ _ hB116 hF116 (Or.inr ⟨by omega, hz51, k.toNat, h2, by omega, by omega⟩) (by omega))
            · skip
              refine r_aload_n hL (x := 0) dX7_drift_33 rfl ?_
              refine r_callV hL (st := []) (av := []) (k := 0) (m_X7_beginDeed (μ := μ116) hB116 (fun μ34c hB34c hR34 => ⟨rfl, ?_⟩)) ce_yX7_beginDeed im_yX7_beginDeed se_yX7_beginDeed ml_X7_84 xcl7 (by decide) s_0 dX7_drift_34 rfl (Nat.le_of_ble_eq_true rfl) ⟨Nat.le_of_ble_eq_true rfl, Nat.le_of_ble_eq_true rfl⟩ ⟨Nat.le_of_ble_eq_true rfl, Nat.le_of_ble_eq_true rfl⟩
              show X 0 0 WW μ34c 37 [some (xR 0), some (xI t), some (xI k)] []
              have hG34 := hR34.1
              have hrg34 := rgc_bd (μ116 6 2)
              have hF34c : Fr CF μ μ34c := hF116.trans (hG34.sub (fun k j h => by unfold RBf at h; unfold CF; omega))
              have hk34c_1_4 : μ34c 1 4 = μ116 1 4 := hG34 1 4 (by unfold RBf; omega)
              refine r_aload_n hL (x := 0) dX7_drift_37 rfl ?_
              refine r_callV hL (st := []) (av := []) (k := 0) (m_X7_addDrawn (μ := μ34c) hB34c (by omega) (fun μ38c hB38c hW38 => ⟨rfl, ?_⟩)) ce_yX7_addDrawn im_yX7_addDrawn se_yX7_addDrawn ml_X7_207 xcl7 (by decide) s_0 dX7_drift_38 rfl (Nat.le_of_ble_eq_true rfl) ⟨Nat.le_of_ble_eq_true rfl, Nat.le_of_ble_eq_true rfl⟩ ⟨Nat.le_of_ble_eq_true rfl, Nat.le_of_ble_eq_true rfl⟩
              show X 0 0 WW μ38c 41 [some (xR 0), some (xI t), some (xI k)] []
              have hF38c : Fr CF μ μ38c := hF34c.trans (hW38.1.sub (fun k j h => by unfold ADs AD at h; unfold CF; omega))
              refine r_iinc hL (x := k) (lo' := [some (xR 0), some (xI t), some (xI (k + 1))]) dX7_drift_41 (by decide) rfl rfl ?_
              refine r_goto hL (tgt := 16) dX7_drift_44 (by decide) ?_
              exact ih16 (k + 1) μ38c hB38c hF38c (by omega) (by rw [show (k + 1).toNat = k.toNat + 1 by omega]; exact ⟨_, _, h2, hB116, by omega, hR34, hW38⟩) (by omega)
      exact lp16 _ 0 μ hB hF (by omega) (show cDs 0 μ μ from rfl) (Nat.lt_succ_self _)
    · skip
      refine r_ldc hL (n := -1000000002) dX7_drift_11 kc_X7_70 (by decide) ?_
      exact r_iret hL dX7_drift_13 rfl (hK _ _ hB hF (Or.inl ⟨by omega, rfl, rfl⟩) (by omega))

set_option maxHeartbeats 4000000 in
set_option maxRecDepth 20000 in
theorem m_X7_undo {K : Option xV → xW → xM → Prop} {μ : xM} (hB0 : BI μ) (t : Int) (ht : xrg t) (hK : ∀ r μ', BI μ' → Fr CF μ μ' → C_undo t μ r μ' → xrg r → K (some (xI r)) WW μ') : xMet yX7_undo cX7_undo 2 (some .int) 3 69 0 0 [xR 0, xI t] WW μ K := by
  refine xMet.go RX7 "undo" rfl rfl (by decide) [some (xR 0), some (xI t)] (Nat.le_of_ble_eq_true rfl) rfl (fun X hL => ?_)
  have hB := hB0
  have hF : Fr CF μ μ := Fr.rf
  refine r_iload_n hL (x := t) dX7_undo_0 rfl ?_
  refine r_iconst hL dX7_undo_1 ?_
  refine r_icmp_lt hL (tgt := 11) dX7_undo_2 (by decide) (by omega) (by omega) (fun c2 => ?_) (fun c2 => ?_)
  · skip
    refine r_ldc hL (n := -1000000002) dX7_undo_11 kc_X7_70 (by decide) ?_
    exact r_iret hL dX7_undo_13 rfl (hK _ _ hB hF (Or.inl ⟨by omega, rfl, rfl⟩) (by omega))
  · skip
    refine r_iload_n hL (x := t) dX7_undo_5 rfl ?_
    refine r_bipush hL dX7_undo_6 (by decide) ?_
    refine r_icmp_le hL (tgt := 14) dX7_undo_8 (by decide) (by omega) (by omega) (fun c8 => ?_) (fun c8 => ?_)
    · skip
      refine r_iload_n hL (x := t) dX7_undo_14 rfl ?_
      refine r_aload_n hL (x := 0) dX7_undo_15 rfl ?_
      refine r_getr hL xcl7 1 (by decide) s_0 (by decide) fl_X7_19 (by decide) f_0_1 dX7_undo_16 ?_
      refine r_geti hL xcl1 1 (j' := 1) rfl (by decide) s_6 (by decide) fl_X7_118 (by decide) (by decide) dX7_undo_19 (fun hr19 => ?_)
      obtain ⟨z19, hz19⟩ : ∃ z, z = μ 6 1 := ⟨_, rfl⟩
      rw [← hz19] at hr19 ⊢
      have hb19 : 0 ≤ μ 6 1 ∧ μ 6 1 ≤ 16 := (show ((1 : Int) = 1 → 0 ≤ (μ 6 1) ∧ (μ 6 1) ≤ 16) ∧ ((1 : Int) = 2 → 0 ≤ (μ 6 1) ∧ (μ 6 1) ≤ 15) from hB 6 1).1 (by omega)
      refine r_icmp_le hL (tgt := 28) dX7_undo_22 (by decide) (by omega) (by omega) (fun c22 => ?_) (fun c22 => ?_)
      · skip
        refine r_aload_n hL (x := 0) dX7_undo_28 rfl ?_
        refine r_getr hL xcl7 1 (by decide) s_0 (by decide) fl_X7_19 (by decide) f_0_1 dX7_undo_29 ?_
        refine r_iload_n hL (x := t) dX7_undo_32 rfl ?_
        refine r_aload_n hL (x := 0) dX7_undo_33 rfl ?_
        refine r_getr hL xcl7 0 (by decide) s_0 (by decide) fl_X7_10 (by decide) f_0_0 dX7_undo_34 ?_
        refine r_callV hL (st := []) (av := [xI t, xR 1]) (k := 6) (m_X1_takeBack (μ := μ) hB t (by omega) (fun μ37c hB37c hT37 => ⟨rfl, ?_⟩)) ce_yX1_takeBack im_yX1_takeBack se_yX1_takeBack ml_X7_210 xcl1 (by decide) s_6 dX7_undo_37 rfl (Nat.le_of_ble_eq_true rfl) ⟨Nat.le_of_ble_eq_true rfl, Nat.le_of_ble_eq_true rfl⟩ ⟨Nat.le_of_ble_eq_true rfl, Nat.le_of_ble_eq_true rfl⟩
        show X 0 0 WW μ37c 40 [some (xR 0), some (xI t)] []
        have hF37c : Fr CF μ μ37c := hF.trans (hT37.1.sub (fun k j h => by unfold TBf at h; unfold CF; omega))
        refine r_aload_n hL (x := 0) dX7_undo_40 rfl ?_
        refine r_iconst hL dX7_undo_41 ?_
        refine r_putz hL xcl7 9 (j' := 9) rfl (by decide) s_0 (by decide) fl_X7_65 rfl rfl (by omega) dX7_undo_42 (fun μ1 hm1 => ?_)
        have hB1 : BI μ1 := by rw [hm1]; exact hB37c.up (by show (9 : Int) = 7 → 0 ≤ 0 ∧ 0 ≤ 47244640255; omega)
        have hF1 : Fr CF μ μ1 := by rw [hm1]; exact hF37c.up (by unfold CF; omega)
        refine r_aload_n hL (x := 0) dX7_undo_45 rfl ?_
        refine r_getr hL xcl7 0 (by decide) s_0 (by decide) fl_X7_10 (by decide) f_0_0 dX7_undo_46 ?_
        refine r_geti hL xcl5 4 (j' := 4) rfl (by decide) s_1 (by decide) fl_X7_80 (by decide) (by decide) dX7_undo_49 (fun hr49 => ?_)
        obtain ⟨z49, hz49⟩ : ∃ z, z = μ1 1 4 := ⟨_, rfl⟩
        rw [← hz49] at hr49 ⊢
        have hb49 : 0 ≤ μ1 1 4 ∧ μ1 1 4 ≤ 8 := (show ((4 : Int) = 4 → 0 ≤ (μ1 1 4) ∧ (μ1 1 4) ≤ 8) ∧ ((4 : Int) = 5 → 0 ≤ (μ1 1 4) ∧ (μ1 1 4) ≤ 2) from hB1 1 4).1 (by omega)
        exact r_iret hL dX7_undo_52 rfl (hK _ _ hB1 hF1 (Or.inr (Or.inr ⟨by omega, by omega, hz49, by rw [hm1]; exact hT37.1.up (by unfold TBf; omega), hT37.2.1.st (fun k j a0 a1 => by rw [hm1]; exact congrFun (xup_c (by omega)) j), by rw [hm1, congrFun (xup_c (by decide)) _]; exact hT37.2.2.1, by rw [hm1, congrFun (xup_c (by decide)) _]; exact hT37.2.2.2⟩)) (by omega))
      · skip
        refine r_ldc hL (n := -1000000003) dX7_undo_25 kc_X7_83 (by decide) ?_
        exact r_iret hL dX7_undo_27 rfl (hK _ _ hB hF (Or.inr (Or.inl ⟨by omega, by omega, rfl, rfl⟩)) (by omega))
    · skip
      refine r_ldc hL (n := -1000000002) dX7_undo_11 kc_X7_70 (by decide) ?_
      exact r_iret hL dX7_undo_13 rfl (hK _ _ hB hF (Or.inl ⟨by omega, rfl, rfl⟩) (by omega))

set_option maxHeartbeats 4000000 in
set_option maxRecDepth 20000 in
theorem m_X7_write {K : Option xV → xW → xM → Prop} {μ : xM} (hB0 : BI μ) (t : Int) (ht : xrg t) (u : Int) (hu : xrg u) (v : Int) (hv : xrg v) (hK : ∀ r μ', BI μ' → Fr CF μ μ' → C_write t u v μ r μ' → xrg r → K (some (xI r)) WW μ') : xMet yX7_write cX7_write 4 (some .int) 1 23 0 0 [xR 0, xI t, xI u, xI v] WW μ K := by
  refine xMet.go RX7 "write" rfl rfl (by decide) [some (xR 0), some (xI t), some (xI u), some (xI v)] (Nat.le_of_ble_eq_true rfl) rfl (fun X hL => ?_)
  have hB := hB0
  have hF : Fr CF μ μ := Fr.rf
  refine r_aload_n hL (x := 0) dX7_write_0 rfl ?_
  refine r_iload_n hL (x := t) dX7_write_1 rfl ?_
  refine r_callV hL (st := []) (av := [xI t]) (k := 0) (m_X7_isTale (μ := μ) hB t (by omega) (fun z2 hc2 => ⟨rfl, ?_⟩)) ce_yX7_isTale im_yX7_isTale se_yX7_isTale ml_X7_119 xcl7 (by decide) s_0 dX7_write_2 rfl (Nat.le_of_ble_eq_true rfl) ⟨Nat.le_of_ble_eq_true rfl, Nat.le_of_ble_eq_true rfl⟩ ⟨Nat.le_of_ble_eq_true rfl, Nat.le_of_ble_eq_true rfl⟩
  show X 0 0 WW μ 5 [some (xR 0), some (xI t), some (xI u), some (xI v)] [xI z2]
  refine r_if_eq hL (tgt := 16) dX7_write_5 (by decide) (by omega) (fun c5 => ?_) (fun c5 => ?_)
  · skip
    refine r_ldc hL (n := -1000000001) dX7_write_16 kc_X7_123 (by decide) ?_
    exact r_iret hL dX7_write_18 rfl (hK _ _ hB hF (Or.inl ⟨by omega, rfl, rfl⟩) (by omega))
  · skip
    refine r_aload_n hL (x := 0) dX7_write_8 rfl ?_
    refine r_iload_n hL (x := u) dX7_write_9 rfl ?_
    refine r_callV hL (st := []) (av := [xI u]) (k := 0) (m_X7_isTale (μ := μ) hB u (by omega) (fun z10 hc10 => ⟨rfl, ?_⟩)) ce_yX7_isTale im_yX7_isTale se_yX7_isTale ml_X7_119 xcl7 (by decide) s_0 dX7_write_10 rfl (Nat.le_of_ble_eq_true rfl) ⟨Nat.le_of_ble_eq_true rfl, Nat.le_of_ble_eq_true rfl⟩ ⟨Nat.le_of_ble_eq_true rfl, Nat.le_of_ble_eq_true rfl⟩
    show X 0 0 WW μ 13 [some (xR 0), some (xI t), some (xI u), some (xI v)] [xI z10]
    refine r_if_ne hL (tgt := 19) dX7_write_13 (by decide) (by omega) (fun c13 => ?_) (fun c13 => ?_)
    · skip
      refine r_aload_n hL (x := 0) dX7_write_19 rfl ?_
      refine r_getr hL xcl7 2 (by decide) s_0 (by decide) fl_X7_26 (by decide) f_0_2 dX7_write_20 ?_
      refine r_geti hL xcl0 3 (j' := 3) rfl (by decide) s_88 (by decide) fl_X7_108 (by decide) (by decide) dX7_write_23 (fun hr23 => ?_)
      obtain ⟨z23, hz23⟩ : ∃ z, z = μ 88 3 := ⟨_, rfl⟩
      rw [← hz23] at hr23 ⊢
      have hb23 : 0 ≤ μ 88 3 ∧ μ 88 3 ≤ 20 := (show (3 : Int) = 3 → 0 ≤ (μ 88 3) ∧ (μ 88 3) ≤ 20 from hB 88 3) (by omega)
      refine r_bipush hL dX7_write_26 (by decide) ?_
      refine r_icmp_lt hL (tgt := 34) dX7_write_28 (by decide) (by omega) (by omega) (fun c28 => ?_) (fun c28 => ?_)
      · skip
        refine r_aload_n hL (x := 0) dX7_write_34 rfl ?_
        refine r_getr hL xcl7 2 (by decide) s_0 (by decide) fl_X7_26 (by decide) f_0_2 dX7_write_35 ?_
        refine r_iload_n hL (x := t) dX7_write_38 rfl ?_
        refine r_iload_n hL (x := u) dX7_write_39 rfl ?_
        refine r_iload_n hL (x := v) dX7_write_40 rfl ?_
        refine r_callV hL (st := []) (av := [xI t, xI u, xI v]) (k := 88) (m_X0_add (μ := μ) hB t (by omega) u (by omega) v (by omega) (by omega) (fun μ41c hB41c hm41c => ⟨rfl, ?_⟩)) ce_yX0_add im_yX0_add se_yX0_add ml_X7_214 xcl0 (by decide) s_88 dX7_write_41 rfl (Nat.le_of_ble_eq_true rfl) ⟨Nat.le_of_ble_eq_true rfl, Nat.le_of_ble_eq_true rfl⟩ ⟨Nat.le_of_ble_eq_true rfl, Nat.le_of_ble_eq_true rfl⟩
        show X 0 0 WW μ41c 44 [some (xR 0), some (xI t), some (xI u), some (xI v)] []
        have hF41c : Fr CF μ μ41c := by rw [hm41c]; exact (((hF.up (by unfold CF; omega)).up (by unfold CF; omega)).up (by unfold CF; omega)).up (by unfold CF; omega)
        refine r_aload_n hL (x := 0) dX7_write_44 rfl ?_
        refine r_getr hL xcl7 2 (by decide) s_0 (by decide) fl_X7_26 (by decide) f_0_2 dX7_write_45 ?_
        refine r_geti hL xcl0 3 (j' := 3) rfl (by decide) s_88 (by decide) fl_X7_108 (by decide) (by decide) dX7_write_48 (fun hr48 => ?_)
        obtain ⟨z48, hz48⟩ : ∃ z, z = μ41c 88 3 := ⟨_, rfl⟩
        rw [← hz48] at hr48 ⊢
        have hb48 : 0 ≤ μ41c 88 3 ∧ μ41c 88 3 ≤ 20 := (show (3 : Int) = 3 → 0 ≤ (μ41c 88 3) ∧ (μ41c 88 3) ≤ 20 from hB41c 88 3) (by omega)
        exact r_iret hL dX7_write_51 rfl (hK _ _ hB41c hF41c (Or.inr (Or.inr ⟨by omega, by omega, by rw [hz48, hm41c]; exact xup_s _ _ _ _, hm41c⟩)) (by omega))
      · skip
        refine r_ldc hL (n := -1000000004) dX7_write_31 kc_X7_75 (by decide) ?_
        exact r_iret hL dX7_write_33 rfl (hK _ _ hB hF (Or.inr (Or.inl ⟨by omega, by omega, rfl, rfl⟩)) (by omega))
    · skip
      refine r_ldc hL (n := -1000000001) dX7_write_16 kc_X7_123 (by decide) ?_
      exact r_iret hL dX7_write_18 rfl (hK _ _ hB hF (Or.inl ⟨by omega, rfl, rfl⟩) (by omega))

set_option maxHeartbeats 4000000 in
set_option maxRecDepth 20000 in
theorem m_X7_tear {K : Option xV → xW → xM → Prop} {μ : xM} (hB0 : BI μ)  (hK : ∀ r μ', BI μ' → Fr CF μ μ' → C_tear μ r μ' → xrg r → K (some (xI r)) WW μ') : xMet yX7_tear cX7_tear 2 (some .int) 0 0 0 0 [xR 0] WW μ K := by
  refine xMet.go RX7 "tear" rfl rfl (by decide) [some (xR 0), none] (Nat.le_of_ble_eq_true rfl) rfl (fun X hL => ?_)
  have hB := hB0
  have hF : Fr CF μ μ := Fr.rf
  refine r_aload_n hL (x := 0) dX7_tear_0 rfl ?_
  refine r_getr hL xcl7 2 (by decide) s_0 (by decide) fl_X7_26 (by decide) f_0_2 dX7_tear_1 ?_
  refine r_geti hL xcl0 3 (j' := 3) rfl (by decide) s_88 (by decide) fl_X7_108 (by decide) (by decide) dX7_tear_4 (fun hr4 => ?_)
  obtain ⟨z4, hz4⟩ : ∃ z, z = μ 88 3 := ⟨_, rfl⟩
  rw [← hz4] at hr4 ⊢
  have hb4 : 0 ≤ μ 88 3 ∧ μ 88 3 ≤ 20 := (show (3 : Int) = 3 → 0 ≤ (μ 88 3) ∧ (μ 88 3) ≤ 20 from hB 88 3) (by omega)
  refine r_istore_n hL (lo' := [some (xR 0), some (xI z4)]) dX7_tear_7 (by decide) rfl ?_
  refine r_aload_n hL (x := 0) dX7_tear_8 rfl ?_
  refine r_getr hL xcl7 2 (by decide) s_0 (by decide) fl_X7_26 (by decide) f_0_2 dX7_tear_9 ?_
  refine r_iconst hL dX7_tear_12 ?_
  refine r_puti hL xcl0 3 (j' := 3) rfl (by decide) s_88 (by decide) fl_X7_108 rfl rfl (by omega) dX7_tear_13 (fun μ1 hm1 => ?_)
  have hB1 : BI μ1 := by rw [hm1]; exact hB.up (by show (3 : Int) = 3 → 0 ≤ 0 ∧ 0 ≤ 20; omega)
  have hF1 : Fr CF μ μ1 := by rw [hm1]; exact hF.up (by unfold CF; omega)
  refine r_iload_n hL (x := z4) dX7_tear_16 rfl ?_
  exact r_iret hL dX7_tear_17 rfl (hK _ _ hB1 hF1 (⟨hz4, hm1⟩) (by omega))

set_option maxHeartbeats 4000000 in
set_option maxRecDepth 20000 in
theorem m_X7_seed {K : Option xV → xW → xM → Prop} {μ : xM} (hB0 : BI μ) (t : Int) (ht : xrg t) (hK : ∀ r μ', BI μ' → Fr CF μ μ' → C_seed t μ r μ' → xrg r → K (some (xI r)) WW μ') : xMet yX7_seed cX7_seed 3 (some .int) 0 0 0 0 [xR 0, xI t] WW μ K := by
  refine xMet.go RX7 "seed" rfl rfl (by decide) [some (xR 0), some (xI t), none] (Nat.le_of_ble_eq_true rfl) rfl (fun X hL => ?_)
  have hB := hB0
  have hF : Fr CF μ μ := Fr.rf
  refine r_iload_n hL (x := t) dX7_seed_0 rfl ?_
  refine r_if_ge hL (tgt := 7) dX7_seed_1 (by decide) (by omega) (fun c1 => ?_) (fun c1 => ?_)
  · skip
    refine r_aload_n hL (x := 0) dX7_seed_7 rfl ?_
    refine r_geti hL xcl7 8 (j' := 8) rfl (by decide) s_0 (by decide) fl_X7_61 (by decide) (by decide) dX7_seed_8 (fun hr8 => ?_)
    obtain ⟨z8, hz8⟩ : ∃ z, z = μ 0 8 := ⟨_, rfl⟩
    rw [← hz8] at hr8 ⊢
    refine r_istore_n hL (lo' := [some (xR 0), some (xI t), some (xI z8)]) dX7_seed_11 (by decide) rfl ?_
    refine r_aload_n hL (x := 0) dX7_seed_12 rfl ?_
    refine r_iload_n hL (x := t) dX7_seed_13 rfl ?_
    refine r_puti hL xcl7 8 (j' := 8) rfl (by decide) s_0 (by decide) fl_X7_61 rfl rfl (by omega) dX7_seed_14 (fun μ1 hm1 => ?_)
    have hB1 : BI μ1 := by rw [hm1]; exact hB.up (by show (8 : Int) = 7 → 0 ≤ t ∧ t ≤ 47244640255; omega)
    have hF1 : Fr CF μ μ1 := by rw [hm1]; exact hF.up (by unfold CF; omega)
    refine r_iload_n hL (x := z8) dX7_seed_17 rfl ?_
    exact r_iret hL dX7_seed_18 rfl (hK _ _ hB1 hF1 (Or.inr ⟨by omega, hz8, hm1⟩) (by omega))
  · skip
    refine r_ldc hL (n := -1000000002) dX7_seed_4 kc_X7_70 (by decide) ?_
    exact r_iret hL dX7_seed_6 rfl (hK _ _ hB hF (Or.inl ⟨by omega, rfl, rfl⟩) (by omega))

set_option maxHeartbeats 4000000 in
set_option maxRecDepth 20000 in
theorem m_X7_keep {K : Option xV → xW → xM → Prop} {μ : xM} (hB0 : BI μ) (t : Int) (ht : xrg t) (hK : ∀ r μ', BI μ' → Fr CF μ μ' → C_keep t μ r μ' → xrg r → K (some (xI r)) WW μ') : xMet yX7_keep cX7_keep 3 (some .int) 2 47 0 0 [xR 0, xI t] WW μ K := by
  refine xMet.go RX7 "keep" rfl rfl (by decide) [some (xR 0), some (xI t), none] (Nat.le_of_ble_eq_true rfl) rfl (fun X hL => ?_)
  have hB := hB0
  have hF : Fr CF μ μ := Fr.rf
  refine r_iload_n hL (x := t) dX7_keep_0 rfl ?_
  refine r_if_lt hL (tgt := 9) dX7_keep_1 (by decide) (by omega) (fun c1 => ?_) (fun c1 => ?_)
  · skip
    refine r_ldc hL (n := -1000000001) dX7_keep_9 kc_X7_123 (by decide) ?_
    exact r_iret hL dX7_keep_11 rfl (hK _ _ hB hF (Or.inl ⟨by omega, rfl, rfl⟩) (by omega))
  · skip
    refine r_iload_n hL (x := t) dX7_keep_4 rfl ?_
    refine r_iconst hL dX7_keep_5 ?_
    refine r_icmp_lt hL (tgt := 12) dX7_keep_6 (by decide) (by omega) (by omega) (fun c6 => ?_) (fun c6 => ?_)
    · skip
      refine r_aload_n hL (x := 0) dX7_keep_12 rfl ?_
      refine r_getr hL xcl7 6 (by decide) s_0 (by decide) fl_X7_53 (by decide) f_0_6 dX7_keep_13 ?_
      refine r_iload_n hL (x := t) dX7_keep_16 rfl ?_
      rcases (show t = 0 ∨ t = 1 by omega) with e17 | e17
      · skip
        refine r_aald hL (t := 1) (q := 108) dX7_keep_17 (by decide) s_107 (by decide) (by decide) (by omega) (by omega) (by rw [e17]; exact f_107_0) ?_
        refine r_astore_n hL (lo' := [some (xR 0), some (xI t), some (xR 108)]) dX7_keep_18 (by decide) rfl ?_
        refine r_aload_n hL (x := 108) dX7_keep_19 rfl ?_
        refine r_getr hL xcl3 0 (by decide) s_108 (by decide) fl_X7_217 (by decide) f_108_0 dX7_keep_20 ?_
        refine r_aload_n hL (x := 0) dX7_keep_23 rfl ?_
        refine r_getr hL xcl7 0 (by decide) s_0 (by decide) fl_X7_10 (by decide) f_0_0 dX7_keep_24 ?_
        refine r_callV hL (st := []) (av := [xR 1]) (k := 109) (m_X5_become (μ := μ) hB 109 1 (by decide) (by decide) (fun μ27c hB27c hG27 hE27 => ⟨rfl, ?_⟩)) ce_yX5_become im_yX5_become se_yX5_become ml_X7_220 xcl5 (by decide) s_109 dX7_keep_27 rfl (Nat.le_of_ble_eq_true rfl) ⟨Nat.le_of_ble_eq_true rfl, Nat.le_of_ble_eq_true rfl⟩ ⟨Nat.le_of_ble_eq_true rfl, Nat.le_of_ble_eq_true rfl⟩
        show X 0 0 WW μ27c 30 [some (xR 0), some (xI t), some (xR 108)] []
        have hF27c : Fr CF μ μ27c := hF.trans (hG27.sub (fun k j h => by unfold SA at h; unfold CF; omega))
        have hk27c_0_8 : μ27c 0 8 = μ 0 8 := hG27 0 8 (by unfold SA; omega)
        refine r_aload_n hL (x := 108) dX7_keep_30 rfl ?_
        refine r_aload_n hL (x := 0) dX7_keep_31 rfl ?_
        refine r_geti hL xcl7 8 (j' := 8) rfl (by decide) s_0 (by decide) fl_X7_61 (by decide) (by decide) dX7_keep_32 (fun hr32 => ?_)
        obtain ⟨z32, hz32⟩ : ∃ z, z = μ27c 0 8 := ⟨_, rfl⟩
        rw [← hz32] at hr32 ⊢
        refine r_puti hL xcl3 1 (j' := 1) rfl (by decide) s_108 (by decide) fl_X7_224 rfl rfl (by omega) dX7_keep_35 (fun μ1 hm1 => ?_)
        have hB1 : BI μ1 := by rw [hm1]; exact hB27c.up trivial
        have hF1 : Fr CF μ μ1 := by rw [hm1]; exact hF27c.up (by unfold CF; omega)
        have hk1_0_8 : μ1 0 8 = μ27c 0 8 := by rw [hm1]; exact congrFun (xup_c (by decide)) _
        refine r_aload_n hL (x := 108) dX7_keep_38 rfl ?_
        refine r_iconst hL dX7_keep_39 ?_
        refine r_putz hL xcl3 2 (j' := 2) rfl (by decide) s_108 (by decide) fl_X7_227 rfl rfl (by omega) dX7_keep_40 (fun μ2 hm2 => ?_)
        have hB2 : BI μ2 := by rw [hm2]; exact hB1.up trivial
        have hF2 : Fr CF μ μ2 := by rw [hm2]; exact hF1.up (by unfold CF; omega)
        have hk2_0_8 : μ2 0 8 = μ1 0 8 := by rw [hm2]; exact congrFun (xup_c (by decide)) _
        refine r_aload_n hL (x := 0) dX7_keep_43 rfl ?_
        refine r_getr hL xcl7 1 (by decide) s_0 (by decide) fl_X7_19 (by decide) f_0_1 dX7_keep_44 ?_
        refine r_iconst hL dX7_keep_47 ?_
        refine r_puti hL xcl1 1 (j' := 1) rfl (by decide) s_6 (by decide) fl_X7_118 rfl rfl (by omega) dX7_keep_48 (fun μ3 hm3 => ?_)
        have hB3 : BI μ3 := by rw [hm3]; exact hB2.up (by show ((1 : Int) = 1 → 0 ≤ 0 ∧ 0 ≤ 16) ∧ ((1 : Int) = 2 → 0 ≤ 0 ∧ 0 ≤ 15); omega)
        have hF3 : Fr CF μ μ3 := by rw [hm3]; exact hF2.up (by unfold CF; omega)
        have hk3_0_8 : μ3 0 8 = μ2 0 8 := by rw [hm3]; exact congrFun (xup_c (by decide)) _
        refine r_iconst hL dX7_keep_51 ?_
        exact r_iret hL dX7_keep_52 rfl (hK _ _ hB3 hF3 (Or.inr ⟨rfl, by first | exact ⟨108, μ27c, Or.inl ⟨by omega, rfl⟩, hG27, hE27, by rw [hm3, hm2, hm1, show z32 = μ 0 8 by omega]⟩ | exact ⟨114, μ27c, Or.inr ⟨by omega, rfl⟩, hG27, hE27, by rw [hm6, hm5, hm4, show z32 = μ 0 8 by omega]⟩⟩) (by omega))
      · skip
        refine r_aald hL (t := 1) (q := 114) dX7_keep_17 (by decide) s_107 (by decide) (by decide) (by omega) (by omega) (by rw [e17]; exact f_107_1) ?_
        refine r_astore_n hL (lo' := [some (xR 0), some (xI t), some (xR 114)]) dX7_keep_18 (by decide) rfl ?_
        refine r_aload_n hL (x := 114) dX7_keep_19 rfl ?_
        refine r_getr hL xcl3 0 (by decide) s_114 (by decide) fl_X7_217 (by decide) f_114_0 dX7_keep_20 ?_
        refine r_aload_n hL (x := 0) dX7_keep_23 rfl ?_
        refine r_getr hL xcl7 0 (by decide) s_0 (by decide) fl_X7_10 (by decide) f_0_0 dX7_keep_24 ?_
        refine r_callV hL (st := []) (av := [xR 1]) (k := 115) (m_X5_become (μ := μ) hB 115 1 (by decide) (by decide) (fun μ27c hB27c hG27 hE27 => ⟨rfl, ?_⟩)) ce_yX5_become im_yX5_become se_yX5_become ml_X7_220 xcl5 (by decide) s_115 dX7_keep_27 rfl (Nat.le_of_ble_eq_true rfl) ⟨Nat.le_of_ble_eq_true rfl, Nat.le_of_ble_eq_true rfl⟩ ⟨Nat.le_of_ble_eq_true rfl, Nat.le_of_ble_eq_true rfl⟩
        show X 0 0 WW μ27c 30 [some (xR 0), some (xI t), some (xR 114)] []
        have hF27c : Fr CF μ μ27c := hF.trans (hG27.sub (fun k j h => by unfold SA at h; unfold CF; omega))
        have hk27c_0_8 : μ27c 0 8 = μ 0 8 := hG27 0 8 (by unfold SA; omega)
        refine r_aload_n hL (x := 114) dX7_keep_30 rfl ?_
        refine r_aload_n hL (x := 0) dX7_keep_31 rfl ?_
        refine r_geti hL xcl7 8 (j' := 8) rfl (by decide) s_0 (by decide) fl_X7_61 (by decide) (by decide) dX7_keep_32 (fun hr32 => ?_)
        obtain ⟨z32, hz32⟩ : ∃ z, z = μ27c 0 8 := ⟨_, rfl⟩
        rw [← hz32] at hr32 ⊢
        refine r_puti hL xcl3 1 (j' := 1) rfl (by decide) s_114 (by decide) fl_X7_224 rfl rfl (by omega) dX7_keep_35 (fun μ4 hm4 => ?_)
        have hB4 : BI μ4 := by rw [hm4]; exact hB27c.up trivial
        have hF4 : Fr CF μ μ4 := by rw [hm4]; exact hF27c.up (by unfold CF; omega)
        have hk4_0_8 : μ4 0 8 = μ27c 0 8 := by rw [hm4]; exact congrFun (xup_c (by decide)) _
        refine r_aload_n hL (x := 114) dX7_keep_38 rfl ?_
        refine r_iconst hL dX7_keep_39 ?_
        refine r_putz hL xcl3 2 (j' := 2) rfl (by decide) s_114 (by decide) fl_X7_227 rfl rfl (by omega) dX7_keep_40 (fun μ5 hm5 => ?_)
        have hB5 : BI μ5 := by rw [hm5]; exact hB4.up trivial
        have hF5 : Fr CF μ μ5 := by rw [hm5]; exact hF4.up (by unfold CF; omega)
        have hk5_0_8 : μ5 0 8 = μ4 0 8 := by rw [hm5]; exact congrFun (xup_c (by decide)) _
        refine r_aload_n hL (x := 0) dX7_keep_43 rfl ?_
        refine r_getr hL xcl7 1 (by decide) s_0 (by decide) fl_X7_19 (by decide) f_0_1 dX7_keep_44 ?_
        refine r_iconst hL dX7_keep_47 ?_
        refine r_puti hL xcl1 1 (j' := 1) rfl (by decide) s_6 (by decide) fl_X7_118 rfl rfl (by omega) dX7_keep_48 (fun μ6 hm6 => ?_)
        have hB6 : BI μ6 := by rw [hm6]; exact hB5.up (by show ((1 : Int) = 1 → 0 ≤ 0 ∧ 0 ≤ 16) ∧ ((1 : Int) = 2 → 0 ≤ 0 ∧ 0 ≤ 15); omega)
        have hF6 : Fr CF μ μ6 := by rw [hm6]; exact hF5.up (by unfold CF; omega)
        have hk6_0_8 : μ6 0 8 = μ5 0 8 := by rw [hm6]; exact congrFun (xup_c (by decide)) _
        refine r_iconst hL dX7_keep_51 ?_
        exact r_iret hL dX7_keep_52 rfl (hK _ _ hB6 hF6 (Or.inr ⟨rfl, by first | exact ⟨108, μ27c, Or.inl ⟨by omega, rfl⟩, hG27, hE27, by rw [hm3, hm2, hm1, show z32 = μ 0 8 by omega]⟩ | exact ⟨114, μ27c, Or.inr ⟨by omega, rfl⟩, hG27, hE27, by rw [hm6, hm5, hm4, show z32 = μ 0 8 by omega]⟩⟩) (by omega))
    · skip
      refine r_ldc hL (n := -1000000001) dX7_keep_9 kc_X7_123 (by decide) ?_
      exact r_iret hL dX7_keep_11 rfl (hK _ _ hB hF (Or.inl ⟨by omega, rfl, rfl⟩) (by omega))

set_option maxHeartbeats 4000000 in
set_option maxRecDepth 20000 in
theorem m_X7_goBack {K : Option xV → xW → xM → Prop} {μ : xM} (hB0 : BI μ) (t : Int) (ht : xrg t) (hK : ∀ r μ', BI μ' → Fr CF μ μ' → C_goBack t μ r μ' → xrg r → K (some (xI r)) WW μ') : xMet yX7_goBack cX7_goBack 3 (some .int) 2 47 0 0 [xR 0, xI t] WW μ K := by
  refine xMet.go RX7 "goBack" rfl rfl (by decide) [some (xR 0), some (xI t), none] (Nat.le_of_ble_eq_true rfl) rfl (fun X hL => ?_)
  have hB := hB0
  have hF : Fr CF μ μ := Fr.rf
  refine r_iload_n hL (x := t) dX7_goBack_0 rfl ?_
  refine r_if_lt hL (tgt := 9) dX7_goBack_1 (by decide) (by omega) (fun c1 => ?_) (fun c1 => ?_)
  · skip
    refine r_ldc hL (n := -1000000001) dX7_goBack_9 kc_X7_123 (by decide) ?_
    exact r_iret hL dX7_goBack_11 rfl (hK _ _ hB hF (Or.inl ⟨by omega, rfl, rfl⟩) (by omega))
  · skip
    refine r_iload_n hL (x := t) dX7_goBack_4 rfl ?_
    refine r_iconst hL dX7_goBack_5 ?_
    refine r_icmp_lt hL (tgt := 12) dX7_goBack_6 (by decide) (by omega) (by omega) (fun c6 => ?_) (fun c6 => ?_)
    · skip
      refine r_aload_n hL (x := 0) dX7_goBack_12 rfl ?_
      refine r_getr hL xcl7 6 (by decide) s_0 (by decide) fl_X7_53 (by decide) f_0_6 dX7_goBack_13 ?_
      refine r_iload_n hL (x := t) dX7_goBack_16 rfl ?_
      rcases (show t = 0 ∨ t = 1 by omega) with e17 | e17
      · skip
        refine r_aald hL (t := 1) (q := 108) dX7_goBack_17 (by decide) s_107 (by decide) (by decide) (by omega) (by omega) (by rw [e17]; exact f_107_0) ?_
        refine r_astore_n hL (lo' := [some (xR 0), some (xI t), some (xR 108)]) dX7_goBack_18 (by decide) rfl ?_
        refine r_aload_n hL (x := 108) dX7_goBack_19 rfl ?_
        refine r_geti hL xcl3 2 (j' := 2) rfl (by decide) s_108 (by decide) fl_X7_227 (by decide) (by decide) dX7_goBack_20 (fun hr20 => ?_)
        obtain ⟨z20, hz20⟩ : ∃ z, z = μ 108 2 := ⟨_, rfl⟩
        rw [← hz20] at hr20 ⊢
        refine r_if_ne hL (tgt := 29) dX7_goBack_23 (by decide) (by omega) (fun c23 => ?_) (fun c23 => ?_)
        · skip
          refine r_aload_n hL (x := 0) dX7_goBack_29 rfl ?_
          refine r_getr hL xcl7 0 (by decide) s_0 (by decide) fl_X7_10 (by decide) f_0_0 dX7_goBack_30 ?_
          refine r_aload_n hL (x := 108) dX7_goBack_33 rfl ?_
          refine r_getr hL xcl3 0 (by decide) s_108 (by decide) fl_X7_217 (by decide) f_108_0 dX7_goBack_34 ?_
          refine r_callV hL (st := []) (av := [xR 109]) (k := 1) (m_X5_become (μ := μ) hB 1 109 (by decide) (by decide) (fun μ37c hB37c hG37 hE37 => ⟨rfl, ?_⟩)) ce_yX5_become im_yX5_become se_yX5_become ml_X7_220 xcl5 (by decide) s_1 dX7_goBack_37 rfl (Nat.le_of_ble_eq_true rfl) ⟨Nat.le_of_ble_eq_true rfl, Nat.le_of_ble_eq_true rfl⟩ ⟨Nat.le_of_ble_eq_true rfl, Nat.le_of_ble_eq_true rfl⟩
          show X 0 0 WW μ37c 40 [some (xR 0), some (xI t), some (xR 108)] []
          have hF37c : Fr CF μ μ37c := hF.trans (hG37.sub (fun k j h => by unfold SA at h; unfold CF; omega))
          refine r_aload_n hL (x := 0) dX7_goBack_40 rfl ?_
          refine r_aload_n hL (x := 108) dX7_goBack_41 rfl ?_
          refine r_geti hL xcl3 1 (j' := 1) rfl (by decide) s_108 (by decide) fl_X7_224 (by decide) (by decide) dX7_goBack_42 (fun hr42 => ?_)
          obtain ⟨z42, hz42⟩ : ∃ z, z = μ37c 108 1 := ⟨_, rfl⟩
          rw [← hz42] at hr42 ⊢
          refine r_puti hL xcl7 8 (j' := 8) rfl (by decide) s_0 (by decide) fl_X7_61 rfl rfl (by omega) dX7_goBack_45 (fun μ1 hm1 => ?_)
          have hB1 : BI μ1 := by rw [hm1]; exact hB37c.up (by show (8 : Int) = 7 → 0 ≤ z42 ∧ z42 ≤ 47244640255; omega)
          have hF1 : Fr CF μ μ1 := by rw [hm1]; exact hF37c.up (by unfold CF; omega)
          refine r_aload_n hL (x := 0) dX7_goBack_48 rfl ?_
          refine r_getr hL xcl7 1 (by decide) s_0 (by decide) fl_X7_19 (by decide) f_0_1 dX7_goBack_49 ?_
          refine r_iconst hL dX7_goBack_52 ?_
          refine r_puti hL xcl1 1 (j' := 1) rfl (by decide) s_6 (by decide) fl_X7_118 rfl rfl (by omega) dX7_goBack_53 (fun μ2 hm2 => ?_)
          have hB2 : BI μ2 := by rw [hm2]; exact hB1.up (by show ((1 : Int) = 1 → 0 ≤ 0 ∧ 0 ≤ 16) ∧ ((1 : Int) = 2 → 0 ≤ 0 ∧ 0 ≤ 15); omega)
          have hF2 : Fr CF μ μ2 := by rw [hm2]; exact hF1.up (by unfold CF; omega)
          refine r_aload_n hL (x := 0) dX7_goBack_56 rfl ?_
          refine r_iconst hL dX7_goBack_57 ?_
          refine r_putz hL xcl7 9 (j' := 9) rfl (by decide) s_0 (by decide) fl_X7_65 rfl rfl (by omega) dX7_goBack_58 (fun μ3 hm3 => ?_)
          have hB3 : BI μ3 := by rw [hm3]; exact hB2.up (by show (9 : Int) = 7 → 0 ≤ 0 ∧ 0 ≤ 47244640255; omega)
          have hF3 : Fr CF μ μ3 := by rw [hm3]; exact hF2.up (by unfold CF; omega)
          refine r_iconst hL dX7_goBack_61 ?_
          exact r_iret hL dX7_goBack_62 rfl (hK _ _ hB3 hF3 (Or.inr (by first | exact ⟨108, Or.inl ⟨by omega, rfl⟩, Or.inr ⟨by omega, rfl, μ37c, hG37, hE37, by rw [hm3, hm2, hm1, hz42, hG37 108 1 (by unfold SA; omega)]⟩⟩ | exact ⟨114, Or.inr ⟨by omega, rfl⟩, Or.inr ⟨by omega, rfl, μ37c, hG37, hE37, by rw [hm6, hm5, hm4, hz42, hG37 114 1 (by unfold SA; omega)]⟩⟩)) (by omega))
        · skip
          refine r_ldc hL (n := -1000000003) dX7_goBack_26 kc_X7_83 (by decide) ?_
          exact r_iret hL dX7_goBack_28 rfl (hK _ _ hB hF (Or.inr (by first | exact ⟨108, Or.inl ⟨by omega, rfl⟩, Or.inl ⟨by omega, rfl, rfl⟩⟩ | exact ⟨114, Or.inr ⟨by omega, rfl⟩, Or.inl ⟨by omega, rfl, rfl⟩⟩)) (by omega))
      · skip
        refine r_aald hL (t := 1) (q := 114) dX7_goBack_17 (by decide) s_107 (by decide) (by decide) (by omega) (by omega) (by rw [e17]; exact f_107_1) ?_
        refine r_astore_n hL (lo' := [some (xR 0), some (xI t), some (xR 114)]) dX7_goBack_18 (by decide) rfl ?_
        refine r_aload_n hL (x := 114) dX7_goBack_19 rfl ?_
        refine r_geti hL xcl3 2 (j' := 2) rfl (by decide) s_114 (by decide) fl_X7_227 (by decide) (by decide) dX7_goBack_20 (fun hr20 => ?_)
        obtain ⟨z20, hz20⟩ : ∃ z, z = μ 114 2 := ⟨_, rfl⟩
        rw [← hz20] at hr20 ⊢
        refine r_if_ne hL (tgt := 29) dX7_goBack_23 (by decide) (by omega) (fun c23 => ?_) (fun c23 => ?_)
        · skip
          refine r_aload_n hL (x := 0) dX7_goBack_29 rfl ?_
          refine r_getr hL xcl7 0 (by decide) s_0 (by decide) fl_X7_10 (by decide) f_0_0 dX7_goBack_30 ?_
          refine r_aload_n hL (x := 114) dX7_goBack_33 rfl ?_
          refine r_getr hL xcl3 0 (by decide) s_114 (by decide) fl_X7_217 (by decide) f_114_0 dX7_goBack_34 ?_
          refine r_callV hL (st := []) (av := [xR 115]) (k := 1) (m_X5_become (μ := μ) hB 1 115 (by decide) (by decide) (fun μ37c hB37c hG37 hE37 => ⟨rfl, ?_⟩)) ce_yX5_become im_yX5_become se_yX5_become ml_X7_220 xcl5 (by decide) s_1 dX7_goBack_37 rfl (Nat.le_of_ble_eq_true rfl) ⟨Nat.le_of_ble_eq_true rfl, Nat.le_of_ble_eq_true rfl⟩ ⟨Nat.le_of_ble_eq_true rfl, Nat.le_of_ble_eq_true rfl⟩
          show X 0 0 WW μ37c 40 [some (xR 0), some (xI t), some (xR 114)] []
          have hF37c : Fr CF μ μ37c := hF.trans (hG37.sub (fun k j h => by unfold SA at h; unfold CF; omega))
          refine r_aload_n hL (x := 0) dX7_goBack_40 rfl ?_
          refine r_aload_n hL (x := 114) dX7_goBack_41 rfl ?_
          refine r_geti hL xcl3 1 (j' := 1) rfl (by decide) s_114 (by decide) fl_X7_224 (by decide) (by decide) dX7_goBack_42 (fun hr42 => ?_)
          obtain ⟨z42, hz42⟩ : ∃ z, z = μ37c 114 1 := ⟨_, rfl⟩
          rw [← hz42] at hr42 ⊢
          refine r_puti hL xcl7 8 (j' := 8) rfl (by decide) s_0 (by decide) fl_X7_61 rfl rfl (by omega) dX7_goBack_45 (fun μ4 hm4 => ?_)
          have hB4 : BI μ4 := by rw [hm4]; exact hB37c.up (by show (8 : Int) = 7 → 0 ≤ z42 ∧ z42 ≤ 47244640255; omega)
          have hF4 : Fr CF μ μ4 := by rw [hm4]; exact hF37c.up (by unfold CF; omega)
          refine r_aload_n hL (x := 0) dX7_goBack_48 rfl ?_
          refine r_getr hL xcl7 1 (by decide) s_0 (by decide) fl_X7_19 (by decide) f_0_1 dX7_goBack_49 ?_
          refine r_iconst hL dX7_goBack_52 ?_
          refine r_puti hL xcl1 1 (j' := 1) rfl (by decide) s_6 (by decide) fl_X7_118 rfl rfl (by omega) dX7_goBack_53 (fun μ5 hm5 => ?_)
          have hB5 : BI μ5 := by rw [hm5]; exact hB4.up (by show ((1 : Int) = 1 → 0 ≤ 0 ∧ 0 ≤ 16) ∧ ((1 : Int) = 2 → 0 ≤ 0 ∧ 0 ≤ 15); omega)
          have hF5 : Fr CF μ μ5 := by rw [hm5]; exact hF4.up (by unfold CF; omega)
          refine r_aload_n hL (x := 0) dX7_goBack_56 rfl ?_
          refine r_iconst hL dX7_goBack_57 ?_
          refine r_putz hL xcl7 9 (j' := 9) rfl (by decide) s_0 (by decide) fl_X7_65 rfl rfl (by omega) dX7_goBack_58 (fun μ6 hm6 => ?_)
          have hB6 : BI μ6 := by rw [hm6]; exact hB5.up (by show (9 : Int) = 7 → 0 ≤ 0 ∧ 0 ≤ 47244640255; omega)
          have hF6 : Fr CF μ μ6 := by rw [hm6]; exact hF5.up (by unfold CF; omega)
          refine r_iconst hL dX7_goBack_61 ?_
          exact r_iret hL dX7_goBack_62 rfl (hK _ _ hB6 hF6 (Or.inr (by first | exact ⟨108, Or.inl ⟨by omega, rfl⟩, Or.inr ⟨by omega, rfl, μ37c, hG37, hE37, by rw [hm3, hm2, hm1, hz42, hG37 108 1 (by unfold SA; omega)]⟩⟩ | exact ⟨114, Or.inr ⟨by omega, rfl⟩, Or.inr ⟨by omega, rfl, μ37c, hG37, hE37, by rw [hm6, hm5, hm4, hz42, hG37 114 1 (by unfold SA; omega)]⟩⟩)) (by omega))
        · skip
          refine r_ldc hL (n := -1000000003) dX7_goBack_26 kc_X7_83 (by decide) ?_
          exact r_iret hL dX7_goBack_28 rfl (hK _ _ hB hF (Or.inr (by first | exact ⟨108, Or.inl ⟨by omega, rfl⟩, Or.inl ⟨by omega, rfl, rfl⟩⟩ | exact ⟨114, Or.inr ⟨by omega, rfl⟩, Or.inl ⟨by omega, rfl, rfl⟩⟩)) (by omega))
    · skip
      refine r_ldc hL (n := -1000000001) dX7_goBack_9 kc_X7_123 (by decide) ?_
      exact r_iret hL dX7_goBack_11 rfl (hK _ _ hB hF (Or.inl ⟨by omega, rfl, rfl⟩) (by omega))

set_option maxHeartbeats 4000000 in
set_option maxRecDepth 20000 in
theorem m_X7_motif {K : Option xV → xW → xM → Prop} {μ : xM} (hB0 : BI μ) (t : Int) (ht : xrg t) (u : Int) (hu : xrg u) (hK : ∀ r, C_motif t u μ r → xrg r → K (some (xI r)) WW μ) : xMet yX7_motif cX7_motif 3 (some .int) 1 22 0 0 [xR 0, xI t, xI u] WW μ K := by
  refine xMet.go RX7 "motif" rfl rfl (by decide) [some (xR 0), some (xI t), some (xI u)] (Nat.le_of_ble_eq_true rfl) rfl (fun X hL => ?_)
  have hB := hB0
  refine r_aload_n hL (x := 0) dX7_motif_0 rfl ?_
  refine r_iload_n hL (x := t) dX7_motif_1 rfl ?_
  refine r_callV hL (st := []) (av := [xI t]) (k := 0) (m_X7_isTale (μ := μ) hB t (by omega) (fun z2 hc2 => ⟨rfl, ?_⟩)) ce_yX7_isTale im_yX7_isTale se_yX7_isTale ml_X7_119 xcl7 (by decide) s_0 dX7_motif_2 rfl (Nat.le_of_ble_eq_true rfl) ⟨Nat.le_of_ble_eq_true rfl, Nat.le_of_ble_eq_true rfl⟩ ⟨Nat.le_of_ble_eq_true rfl, Nat.le_of_ble_eq_true rfl⟩
  show X 0 0 WW μ 5 [some (xR 0), some (xI t), some (xI u)] [xI z2]
  refine r_if_ne hL (tgt := 11) dX7_motif_5 (by decide) (by omega) (fun c5 => ?_) (fun c5 => ?_)
  · skip
    refine r_iload_n hL (x := u) dX7_motif_11 rfl ?_
    refine r_if_lt hL (tgt := 31) dX7_motif_12 (by decide) (by omega) (fun c12 => ?_) (fun c12 => ?_)
    · skip
      refine r_iconst hL dX7_motif_31 ?_
      exact r_iret hL dX7_motif_32 rfl (hK _ (Or.inr (Or.inl ⟨by omega, by omega, rfl⟩)) (by omega))
    · skip
      refine r_iload_n hL (x := u) dX7_motif_15 rfl ?_
      refine r_aload_n hL (x := 0) dX7_motif_16 rfl ?_
      refine r_getr hL xcl7 0 (by decide) s_0 (by decide) fl_X7_10 (by decide) f_0_0 dX7_motif_17 ?_
      refine r_getr hL xcl5 0 (by decide) s_1 (by decide) fl_X7_124 (by decide) f_1_0 dX7_motif_20 ?_
      refine r_iload_n hL (x := t) dX7_motif_23 rfl ?_
      refine r_lald hL dX7_motif_24 (by decide) s_2 (by decide) (by omega) (by omega) (fun hr24 => ?_)
      obtain ⟨z24, hz24⟩ : ∃ z, z = μ 2 t := ⟨_, rfl⟩
      rw [← hz24] at hr24 ⊢
      have hb24 : 0 ≤ (μ 2 t) ∧ (μ 2 t) ≤ 47244640255 := hB 2 t
      refine r_callS hL (st := [xI u]) (av := [xL z24]) (m_X7_lengthOf (μ := μ) z24 (by omega) (by omega) (fun z25 hz25 => ⟨rfl, ?_⟩)) ce_yX7_lengthOf sm_yX7_lengthOf ml_X7_71 dX7_motif_25 rfl (Nat.le_of_ble_eq_true rfl) ⟨Nat.le_of_ble_eq_true rfl, Nat.le_of_ble_eq_true rfl⟩ ⟨Nat.le_of_ble_eq_true rfl, Nat.le_of_ble_eq_true rfl⟩
      show X 0 0 WW μ 28 [some (xR 0), some (xI t), some (xI u)] [xI z25, xI u]
      refine r_icmp_lt hL (tgt := 33) dX7_motif_28 (by decide) (by omega) (by omega) (fun c28 => ?_) (fun c28 => ?_)
      · skip
        refine r_aload_n hL (x := 0) dX7_motif_33 rfl ?_
        refine r_getr hL xcl7 0 (by decide) s_0 (by decide) fl_X7_10 (by decide) f_0_0 dX7_motif_34 ?_
        refine r_getr hL xcl5 0 (by decide) s_1 (by decide) fl_X7_124 (by decide) f_1_0 dX7_motif_37 ?_
        refine r_iload_n hL (x := t) dX7_motif_40 rfl ?_
        refine r_lald hL dX7_motif_41 (by decide) s_2 (by decide) (by omega) (by omega) (fun hr41 => ?_)
        obtain ⟨z41, hz41⟩ : ∃ z, z = μ 2 t := ⟨_, rfl⟩
        rw [← hz41] at hr41 ⊢
        have hb41 : 0 ≤ (μ 2 t) ∧ (μ 2 t) ≤ 47244640255 := hB 2 t
        refine r_iload_n hL (x := u) dX7_motif_42 rfl ?_
        refine r_callS hL (st := []) (av := [xL z41, xI u]) (m_X7_motifOf (μ := μ) z41 u (fun z43 hcm43 hc43 => ⟨rfl, ?_⟩)) ce_yX7_motifOf sm_yX7_motifOf ml_X7_142 dX7_motif_43 rfl (Nat.le_of_ble_eq_true rfl) ⟨Nat.le_of_ble_eq_true rfl, Nat.le_of_ble_eq_true rfl⟩ ⟨Nat.le_of_ble_eq_true rfl, Nat.le_of_ble_eq_true rfl⟩
        show X 0 0 WW μ 46 [some (xR 0), some (xI t), some (xI u)] [xI z43]
        exact r_iret hL dX7_motif_46 rfl (hK _ (Or.inr (Or.inr ⟨by omega, by omega, by rw [hcm43, hz41]⟩)) (by omega))
      · skip
        refine r_iconst hL dX7_motif_31 ?_
        exact r_iret hL dX7_motif_32 rfl (hK _ (Or.inr (Or.inl ⟨by omega, by omega, rfl⟩)) (by omega))
  · skip
    refine r_ldc hL (n := -1000000001) dX7_motif_8 kc_X7_123 (by decide) ?_
    exact r_iret hL dX7_motif_10 rfl (hK _ (Or.inl ⟨by omega, rfl⟩) (by omega))

set_option maxHeartbeats 4000000 in
set_option maxRecDepth 20000 in
theorem m_X7_costAt {K : Option xV → xW → xM → Prop} {μ : xM} (hB0 : BI μ) (t : Int) (ht : xrg t) (hK : ∀ r, C_costAt t μ r → xrg r → K (some (xI r)) WW μ) : xMet yX7_costAt cX7_costAt 2 (some .int) 0 0 0 0 [xR 0, xI t] WW μ K := by
  refine xMet.go RX7 "costAt" rfl rfl (by decide) [some (xR 0), some (xI t)] (Nat.le_of_ble_eq_true rfl) rfl (fun X hL => ?_)
  have hB := hB0
  refine r_iload_n hL (x := t) dX7_costAt_0 rfl ?_
  refine r_if_lt hL (tgt := 9) dX7_costAt_1 (by decide) (by omega) (fun c1 => ?_) (fun c1 => ?_)
  · skip
    refine r_ldc hL (n := -1000000002) dX7_costAt_9 kc_X7_70 (by decide) ?_
    exact r_iret hL dX7_costAt_11 rfl (hK _ (Or.inl ⟨by omega, rfl⟩) (by omega))
  · skip
    refine r_iload_n hL (x := t) dX7_costAt_4 rfl ?_
    refine r_iconst hL dX7_costAt_5 ?_
    refine r_icmp_lt hL (tgt := 12) dX7_costAt_6 (by decide) (by omega) (by omega) (fun c6 => ?_) (fun c6 => ?_)
    · skip
      refine r_aload_n hL (x := 0) dX7_costAt_12 rfl ?_
      refine r_getr hL xcl7 0 (by decide) s_0 (by decide) fl_X7_10 (by decide) f_0_0 dX7_costAt_13 ?_
      refine r_getr hL xcl5 2 (by decide) s_1 (by decide) fl_X7_146 (by decide) f_1_2 dX7_costAt_16 ?_
      refine r_iload_n hL (x := t) dX7_costAt_19 rfl ?_
      refine r_iald hL dX7_costAt_20 (by decide) s_4 (by decide) (by omega) (by omega) (fun hr20 => ?_)
      obtain ⟨z20, hz20⟩ : ∃ z, z = μ 4 t := ⟨_, rfl⟩
      rw [← hz20] at hr20 ⊢
      have hb20 : 0 ≤ (μ 4 t) ∧ (μ 4 t) ≤ 9 := hB 4 t
      exact r_iret hL dX7_costAt_21 rfl (hK _ (Or.inr ⟨by omega, hz20⟩) (by omega))
    · skip
      refine r_ldc hL (n := -1000000002) dX7_costAt_9 kc_X7_70 (by decide) ?_
      exact r_iret hL dX7_costAt_11 rfl (hK _ (Or.inl ⟨by omega, rfl⟩) (by omega))
