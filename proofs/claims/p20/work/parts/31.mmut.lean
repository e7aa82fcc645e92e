set_option maxHeartbeats 4000000 in
set_option maxRecDepth 20000 in
theorem m_X8_feed {K : Option xV → xW → xM → Prop} {μ : xM} (hB0 : BI μ) (t : Int) (ht : xrg t) (hK : ∀ r μ', BI μ' → Fr MF μ μ' → D_feed t μ r μ' → xrg r → K (some (xI r)) WW μ') : xMet yX8_feed cX8_feed 2 (some .int) 1 22 0 0 [xR 120, xI t] WW μ K := by
  refine xMet.go RX8 "feed" rfl rfl (by decide) [some (xR 120), some (xI t)] (Nat.le_of_ble_eq_true rfl) rfl (fun X hL => ?_)
  have hB := hB0
  have hF : Fr MF μ μ := Fr.rf
  refine r_iload_n hL (x := t) dX8_feed_0 rfl ?_
  refine r_bipush hL dX8_feed_1 (by decide) ?_
  refine r_bipush hL dX8_feed_3 (by decide) ?_
  refine r_callS hL (st := []) (av := [xI t, xI 97, xI 104]) (m_X8_in (μ := μ) t (by omega) 97 (by omega) 104 (by omega) (fun z5 hc5 => ⟨rfl, ?_⟩)) ce_yX8_in sm_yX8_in ml_X8_62 dX8_feed_5 rfl (Nat.le_of_ble_eq_true rfl) ⟨Nat.le_of_ble_eq_true rfl, Nat.le_of_ble_eq_true rfl⟩ ⟨Nat.le_of_ble_eq_true rfl, Nat.le_of_ble_eq_true rfl⟩
  show X 0 0 WW μ 8 [some (xR 120), some (xI t)] [xI z5]
  refine r_if_ne hL (tgt := 14) dX8_feed_8 (by decide) (by omega) (fun c8 => ?_) (fun c8 => ?_)
  · skip
    refine r_aload_n hL (x := 120) dX8_feed_14 rfl ?_
    refine r_geti hL xcl8 6 (j' := 6) rfl (by decide) s_120 (by decide) fl_X8_149 (by decide) (by decide) dX8_feed_15 (fun hr15 => ?_)
    obtain ⟨z15, hz15⟩ : ∃ z, z = μ 120 6 := ⟨_, rfl⟩
    rw [← hz15] at hr15 ⊢
    have hb15 : 0 ≤ μ 120 6 ∧ μ 120 6 ≤ 10 := (show ((6 : Int) = 2 → 0 ≤ (μ 120 6) ∧ (μ 120 6) ≤ 16) ∧ ((6 : Int) = 6 → 0 ≤ (μ 120 6) ∧ (μ 120 6) ≤ 10) ∧ ((6 : Int) = 8 → 0 ≤ (μ 120 6) ∧ (μ 120 6) ≤ 20) ∧ ((6 : Int) = 9 → 0 ≤ (μ 120 6) ∧ (μ 120 6) ≤ 2147483647) ∧ ((6 : Int) = 11 → 0 ≤ (μ 120 6) ∧ (μ 120 6) ≤ 10) ∧ ((6 : Int) = 13 → 0 ≤ (μ 120 6) ∧ (μ 120 6) ≤ 10) ∧ ((6 : Int) = 20 → 0 ≤ (μ 120 6) ∧ (μ 120 6) ≤ 8) from hB 120 6).2.1 (by omega)
    refine r_bipush hL dX8_feed_18 (by decide) ?_
    refine r_icmp_ne hL (tgt := 26) dX8_feed_20 (by decide) (by omega) (by omega) (fun c20 => ?_) (fun c20 => ?_)
    · skip
      refine r_aload_n hL (x := 120) dX8_feed_26 rfl ?_
      refine r_getr hL xcl8 5 (by decide) s_120 (by decide) fl_X8_23 (by decide) f_120_5 dX8_feed_27 ?_
      refine r_aload_n hL (x := 120) dX8_feed_30 rfl ?_
      refine r_geti hL xcl8 6 (j' := 6) rfl (by decide) s_120 (by decide) fl_X8_149 (by decide) (by decide) dX8_feed_31 (fun hr31 => ?_)
      obtain ⟨z31, hz31⟩ : ∃ z, z = μ 120 6 := ⟨_, rfl⟩
      rw [← hz31] at hr31 ⊢
      have hb31 : 0 ≤ μ 120 6 ∧ μ 120 6 ≤ 10 := (show ((6 : Int) = 2 → 0 ≤ (μ 120 6) ∧ (μ 120 6) ≤ 16) ∧ ((6 : Int) = 6 → 0 ≤ (μ 120 6) ∧ (μ 120 6) ≤ 10) ∧ ((6 : Int) = 8 → 0 ≤ (μ 120 6) ∧ (μ 120 6) ≤ 20) ∧ ((6 : Int) = 9 → 0 ≤ (μ 120 6) ∧ (μ 120 6) ≤ 2147483647) ∧ ((6 : Int) = 11 → 0 ≤ (μ 120 6) ∧ (μ 120 6) ≤ 10) ∧ ((6 : Int) = 13 → 0 ≤ (μ 120 6) ∧ (μ 120 6) ≤ 10) ∧ ((6 : Int) = 20 → 0 ≤ (μ 120 6) ∧ (μ 120 6) ≤ 8) from hB 120 6).2.1 (by omega)
      refine r_iload_n hL (x := t) dX8_feed_34 rfl ?_
      refine r_bipush hL dX8_feed_35 (by decide) ?_
      refine r_isub hL dX8_feed_37 ?_
      refine r_iast hL dX8_feed_38 (by decide) s_125 (by decide) (by omega) (by omega) (by omega) (fun μ1 hm1 => ?_)
      have hB1 : BI μ1 := by rw [hm1]; exact hB.up (by show 0 ≤ (t - 97) ∧ (t - 97) ≤ 7; omega)
      have hF1 : Fr MF μ μ1 := by rw [hm1]; exact hF.up (by unfold MF; omega)
      have hk1_120_6 : μ1 120 6 = μ 120 6 := by rw [hm1]; exact congrFun (xup_c (by decide)) _
      refine r_aload_n hL (x := 120) dX8_feed_39 rfl ?_
      refine r_dup hL dX8_feed_40 rfl ?_
      refine r_geti hL xcl8 6 (j' := 6) rfl (by decide) s_120 (by decide) fl_X8_149 (by decide) (by decide) dX8_feed_41 (fun hr41 => ?_)
      obtain ⟨z41, hz41⟩ : ∃ z, z = μ1 120 6 := ⟨_, rfl⟩
      rw [← hz41] at hr41 ⊢
      have hb41 : 0 ≤ μ1 120 6 ∧ μ1 120 6 ≤ 10 := (show ((6 : Int) = 2 → 0 ≤ (μ1 120 6) ∧ (μ1 120 6) ≤ 16) ∧ ((6 : Int) = 6 → 0 ≤ (μ1 120 6) ∧ (μ1 120 6) ≤ 10) ∧ ((6 : Int) = 8 → 0 ≤ (μ1 120 6) ∧ (μ1 120 6) ≤ 20) ∧ ((6 : Int) = 9 → 0 ≤ (μ1 120 6) ∧ (μ1 120 6) ≤ 2147483647) ∧ ((6 : Int) = 11 → 0 ≤ (μ1 120 6) ∧ (μ1 120 6) ≤ 10) ∧ ((6 : Int) = 13 → 0 ≤ (μ1 120 6) ∧ (μ1 120 6) ≤ 10) ∧ ((6 : Int) = 20 → 0 ≤ (μ1 120 6) ∧ (μ1 120 6) ≤ 8) from hB1 120 6).2.1 (by omega)
      refine r_iconst hL dX8_feed_44 ?_
      refine r_iadd hL dX8_feed_45 ?_
      refine r_puti hL xcl8 6 (j' := 6) rfl (by decide) s_120 (by decide) fl_X8_149 rfl rfl (by omega) dX8_feed_46 (fun μ2 hm2 => ?_)
      have hB2 : BI μ2 := by rw [hm2]; exact hB1.up (by show ((6 : Int) = 2 → 0 ≤ (z41 + 1) ∧ (z41 + 1) ≤ 16) ∧ ((6 : Int) = 6 → 0 ≤ (z41 + 1) ∧ (z41 + 1) ≤ 10) ∧ ((6 : Int) = 8 → 0 ≤ (z41 + 1) ∧ (z41 + 1) ≤ 20) ∧ ((6 : Int) = 9 → 0 ≤ (z41 + 1) ∧ (z41 + 1) ≤ 2147483647) ∧ ((6 : Int) = 11 → 0 ≤ (z41 + 1) ∧ (z41 + 1) ≤ 10) ∧ ((6 : Int) = 13 → 0 ≤ (z41 + 1) ∧ (z41 + 1) ≤ 10) ∧ ((6 : Int) = 20 → 0 ≤ (z41 + 1) ∧ (z41 + 1) ≤ 8); omega)
      have hF2 : Fr MF μ μ2 := by rw [hm2]; exact hF1.up (by unfold MF; omega)
      have hk2_120_6 : μ2 120 6 = z41 + 1 := by rw [hm2]; exact xup_s _ _ _ _
      refine r_aload_n hL (x := 120) dX8_feed_49 rfl ?_
      refine r_geti hL xcl8 6 (j' := 6) rfl (by decide) s_120 (by decide) fl_X8_149 (by decide) (by decide) dX8_feed_50 (fun hr50 => ?_)
      obtain ⟨z50, hz50⟩ : ∃ z, z = μ2 120 6 := ⟨_, rfl⟩
      rw [← hz50] at hr50 ⊢
      have hb50 : 0 ≤ μ2 120 6 ∧ μ2 120 6 ≤ 10 := (show ((6 : Int) = 2 → 0 ≤ (μ2 120 6) ∧ (μ2 120 6) ≤ 16) ∧ ((6 : Int) = 6 → 0 ≤ (μ2 120 6) ∧ (μ2 120 6) ≤ 10) ∧ ((6 : Int) = 8 → 0 ≤ (μ2 120 6) ∧ (μ2 120 6) ≤ 20) ∧ ((6 : Int) = 9 → 0 ≤ (μ2 120 6) ∧ (μ2 120 6) ≤ 2147483647) ∧ ((6 : Int) = 11 → 0 ≤ (μ2 120 6) ∧ (μ2 120 6) ≤ 10) ∧ ((6 : Int) = 13 → 0 ≤ (μ2 120 6) ∧ (μ2 120 6) ≤ 10) ∧ ((6 : Int) = 20 → 0 ≤ (μ2 120 6) ∧ (μ2 120 6) ≤ 8) from hB2 120 6).2.1 (by omega)
      exact r_iret hL dX8_feed_53 rfl (hK _ _ hB2 hF2 (Or.inr (Or.inr ⟨by omega, by omega, by rw [hm2, hm1, show z41 = μ 120 6 by omega, show z31 = μ 120 6 by omega], by omega⟩)) (by omega))
    · skip
      refine r_ldc hL (n := -1000000004) dX8_feed_23 kc_X8_160 (by decide) ?_
      exact r_iret hL dX8_feed_25 rfl (hK _ _ hB hF (Or.inr (Or.inl ⟨by omega, by omega, rfl, rfl⟩)) (by omega))
  · skip
    refine r_ldc hL (n := -1000000002) dX8_feed_11 kc_X8_159 (by decide) ?_
    exact r_iret hL dX8_feed_13 rfl (hK _ _ hB hF (Or.inl ⟨by omega, rfl, rfl⟩) (by omega))

set_option maxHeartbeats 4000000 in
set_option maxRecDepth 20000 in
theorem m_X8_tale {K : Option xV → xW → xM → Prop} {μ : xM} (hB0 : BI μ)  (hK : ∀ r μ', BI μ' → Fr MF μ μ' → D_tale μ r μ' → xrg r → K (some (xI r)) WW μ') : xMet yX8_tale cX8_tale 2 (some .int) 2 45 0 0 [xR 120] WW μ K := by
  refine xMet.go RX8 "tale" rfl rfl (by decide) [some (xR 120), none] (Nat.le_of_ble_eq_true rfl) rfl (fun X hL => ?_)
  have hB := hB0
  have hF : Fr MF μ μ := Fr.rf
  refine r_aload_n hL (x := 120) dX8_tale_0 rfl ?_
  refine r_getr hL xcl8 0 (by decide) s_120 (by decide) fl_X8_7 (by decide) f_120_0 dX8_tale_1 ?_
  refine r_iconst hL dX8_tale_4 ?_
  refine r_iald hL dX8_tale_5 (by decide) s_121 (by decide) (by omega) (by omega) (fun hr5 => ?_)
  obtain ⟨z5, hz5⟩ : ∃ z, z = μ 121 0 := ⟨_, rfl⟩
  rw [← hz5] at hr5 ⊢
  have hb5 : 0 ≤ μ 121 0 ∧ μ 121 0 ≤ 8 := (show ((0 : Int) = 0 → 0 ≤ (μ 121 0) ∧ (μ 121 0) ≤ 8) ∧ ((0 : Int) = 1 → 0 ≤ (μ 121 0) ∧ (μ 121 0) ≤ 2) ∧ (2 ≤ (0 : Int) ∧ (0 : Int) ≤ 5 → 0 ≤ (μ 121 0) ∧ (μ 121 0) ≤ 9) ∧ (6 ≤ (0 : Int) ∧ (0 : Int) ≤ 13 → 0 ≤ (μ 121 0) ∧ (μ 121 0) ≤ 10) ∧ (30 ≤ (0 : Int) → 0 ≤ (μ 121 0) ∧ (μ 121 0) ≤ 7) from hB 121 0).1 (by omega)
  refine r_bipush hL dX8_tale_6 (by decide) ?_
  refine r_icmp_ne hL (tgt := 14) dX8_tale_8 (by decide) (by omega) (by omega) (fun c8 => ?_) (fun c8 => ?_)
  · skip
    refine r_aload_n hL (x := 120) dX8_tale_14 rfl ?_
    refine r_geti hL xcl8 6 (j' := 6) rfl (by decide) s_120 (by decide) fl_X8_149 (by decide) (by decide) dX8_tale_15 (fun hr15 => ?_)
    obtain ⟨z15, hz15⟩ : ∃ z, z = μ 120 6 := ⟨_, rfl⟩
    rw [← hz15] at hr15 ⊢
    have hb15 : 0 ≤ μ 120 6 ∧ μ 120 6 ≤ 10 := (show ((6 : Int) = 2 → 0 ≤ (μ 120 6) ∧ (μ 120 6) ≤ 16) ∧ ((6 : Int) = 6 → 0 ≤ (μ 120 6) ∧ (μ 120 6) ≤ 10) ∧ ((6 : Int) = 8 → 0 ≤ (μ 120 6) ∧ (μ 120 6) ≤ 20) ∧ ((6 : Int) = 9 → 0 ≤ (μ 120 6) ∧ (μ 120 6) ≤ 2147483647) ∧ ((6 : Int) = 11 → 0 ≤ (μ 120 6) ∧ (μ 120 6) ≤ 10) ∧ ((6 : Int) = 13 → 0 ≤ (μ 120 6) ∧ (μ 120 6) ≤ 10) ∧ ((6 : Int) = 20 → 0 ≤ (μ 120 6) ∧ (μ 120 6) ≤ 8) from hB 120 6).2.1 (by omega)
    refine r_if_ne hL (tgt := 24) dX8_tale_18 (by decide) (by omega) (fun c18 => ?_) (fun c18 => ?_)
    · skip
      refine r_aload_n hL (x := 120) dX8_tale_24 rfl ?_
      refine r_callV hL (st := []) (av := []) (k := 120) (m_X8_notes (μ := μ) hB (fun μ25c hB25c hN25 => ⟨rfl, ?_⟩)) ce_yX8_notes im_yX8_notes se_yX8_notes ml_X8_165 xcl8 (by decide) s_120 dX8_tale_25 rfl (Nat.le_of_ble_eq_true rfl) ⟨Nat.le_of_ble_eq_true rfl, Nat.le_of_ble_eq_true rfl⟩ ⟨Nat.le_of_ble_eq_true rfl, Nat.le_of_ble_eq_true rfl⟩
      show X 0 0 WW μ25c 28 [some (xR 120), none] []
      have hF25c : Fr MF μ μ25c := hF.trans (hN25.1.sub (fun k j h => by unfold NT at h; unfold MF; omega))
      have hk25c_121_0 : μ25c 121 0 = μ 121 0 := hN25.1 121 0 (by unfold NT; omega)
      have hk25c_120_6 : μ25c 120 6 = μ 120 6 := hN25.1 120 6 (by unfold NT; omega)
      refine r_aload_n hL (x := 120) dX8_tale_28 rfl ?_
      refine r_getr hL xcl8 0 (by decide) s_120 (by decide) fl_X8_7 (by decide) f_120_0 dX8_tale_29 ?_
      refine r_iconst hL dX8_tale_32 ?_
      refine r_iald hL dX8_tale_33 (by decide) s_121 (by decide) (by omega) (by omega) (fun hr33 => ?_)
      obtain ⟨z33, hz33⟩ : ∃ z, z = μ25c 121 0 := ⟨_, rfl⟩
      rw [← hz33] at hr33 ⊢
      have hb33 : 0 ≤ μ25c 121 0 ∧ μ25c 121 0 ≤ 8 := (show ((0 : Int) = 0 → 0 ≤ (μ25c 121 0) ∧ (μ25c 121 0) ≤ 8) ∧ ((0 : Int) = 1 → 0 ≤ (μ25c 121 0) ∧ (μ25c 121 0) ≤ 2) ∧ (2 ≤ (0 : Int) ∧ (0 : Int) ≤ 5 → 0 ≤ (μ25c 121 0) ∧ (μ25c 121 0) ≤ 9) ∧ (6 ≤ (0 : Int) ∧ (0 : Int) ≤ 13 → 0 ≤ (μ25c 121 0) ∧ (μ25c 121 0) ≤ 10) ∧ (30 ≤ (0 : Int) → 0 ≤ (μ25c 121 0) ∧ (μ25c 121 0) ≤ 7) from hB25c 121 0).1 (by omega)
      refine r_istore_n hL (lo' := [some (xR 120), some (xI z33)]) dX8_tale_34 (by decide) rfl ?_
      refine r_aload_n hL (x := 120) dX8_tale_35 rfl ?_
      refine r_getr hL xcl8 0 (by decide) s_120 (by decide) fl_X8_7 (by decide) f_120_0 dX8_tale_36 ?_
      refine r_bipush hL dX8_tale_39 (by decide) ?_
      refine r_iload_n hL (x := z33) dX8_tale_41 rfl ?_
      refine r_iadd hL dX8_tale_42 ?_
      refine r_aload_n hL (x := 120) dX8_tale_43 rfl ?_
      refine r_geti hL xcl8 6 (j' := 6) rfl (by decide) s_120 (by decide) fl_X8_149 (by decide) (by decide) dX8_tale_44 (fun hr44 => ?_)
      obtain ⟨z44, hz44⟩ : ∃ z, z = μ25c 120 6 := ⟨_, rfl⟩
      rw [← hz44] at hr44 ⊢
      have hb44 : 0 ≤ μ25c 120 6 ∧ μ25c 120 6 ≤ 10 := (show ((6 : Int) = 2 → 0 ≤ (μ25c 120 6) ∧ (μ25c 120 6) ≤ 16) ∧ ((6 : Int) = 6 → 0 ≤ (μ25c 120 6) ∧ (μ25c 120 6) ≤ 10) ∧ ((6 : Int) = 8 → 0 ≤ (μ25c 120 6) ∧ (μ25c 120 6) ≤ 20) ∧ ((6 : Int) = 9 → 0 ≤ (μ25c 120 6) ∧ (μ25c 120 6) ≤ 2147483647) ∧ ((6 : Int) = 11 → 0 ≤ (μ25c 120 6) ∧ (μ25c 120 6) ≤ 10) ∧ ((6 : Int) = 13 → 0 ≤ (μ25c 120 6) ∧ (μ25c 120 6) ≤ 10) ∧ ((6 : Int) = 20 → 0 ≤ (μ25c 120 6) ∧ (μ25c 120 6) ≤ 8) from hB25c 120 6).2.1 (by omega)
      refine r_iast hL dX8_tale_47 (by decide) s_121 (by decide) (by omega) (by omega) (by omega) (fun μ1 hm1 => ?_)
      have hB1 : BI μ1 := by rw [hm1]; exact hB25c.up (by show ((6 + z33) = 0 → 0 ≤ z44 ∧ z44 ≤ 8) ∧ ((6 + z33) = 1 → 0 ≤ z44 ∧ z44 ≤ 2) ∧ (2 ≤ (6 + z33) ∧ (6 + z33) ≤ 5 → 0 ≤ z44 ∧ z44 ≤ 9) ∧ (6 ≤ (6 + z33) ∧ (6 + z33) ≤ 13 → 0 ≤ z44 ∧ z44 ≤ 10) ∧ (30 ≤ (6 + z33) → 0 ≤ z44 ∧ z44 ≤ 7); omega)
      have hF1 : Fr MF μ μ1 := by rw [hm1]; exact hF25c.up (by unfold MF; omega)
      have hk1_121_0 : μ1 121 0 = μ25c 121 0 := by rw [hm1]; exact xup_j (by omega)
      have hk1_120_6 : μ1 120 6 = μ25c 120 6 := by rw [hm1]; exact congrFun (xup_c (by decide)) _
      refine r_aload_n hL (x := 120) dX8_tale_48 rfl ?_
      refine r_getr hL xcl8 0 (by decide) s_120 (by decide) fl_X8_7 (by decide) f_120_0 dX8_tale_49 ?_
      refine r_bipush hL dX8_tale_52 (by decide) ?_
      refine r_iload_n hL (x := z33) dX8_tale_54 rfl ?_
      refine r_iadd hL dX8_tale_55 ?_
      refine r_iconst hL dX8_tale_56 ?_
      refine r_iast hL dX8_tale_57 (by decide) s_121 (by decide) (by omega) (by omega) (by omega) (fun μ2 hm2 => ?_)
      have hB2 : BI μ2 := by rw [hm2]; exact hB1.up (by show ((14 + z33) = 0 → 0 ≤ 0 ∧ 0 ≤ 8) ∧ ((14 + z33) = 1 → 0 ≤ 0 ∧ 0 ≤ 2) ∧ (2 ≤ (14 + z33) ∧ (14 + z33) ≤ 5 → 0 ≤ 0 ∧ 0 ≤ 9) ∧ (6 ≤ (14 + z33) ∧ (14 + z33) ≤ 13 → 0 ≤ 0 ∧ 0 ≤ 10) ∧ (30 ≤ (14 + z33) → 0 ≤ 0 ∧ 0 ≤ 7); omega)
      have hF2 : Fr MF μ μ2 := by rw [hm2]; exact hF1.up (by unfold MF; omega)
      have hk2_121_0 : μ2 121 0 = μ1 121 0 := by rw [hm2]; exact xup_j (by omega)
      have hk2_120_6 : μ2 120 6 = μ1 120 6 := by rw [hm2]; exact congrFun (xup_c (by decide)) _
      refine r_aload_n hL (x := 120) dX8_tale_58 rfl ?_
      refine r_getr hL xcl8 5 (by decide) s_120 (by decide) fl_X8_23 (by decide) f_120_5 dX8_tale_59 ?_
      refine r_iconst hL dX8_tale_62 ?_
      refine r_aload_n hL (x := 120) dX8_tale_63 rfl ?_
      refine r_getr hL xcl8 0 (by decide) s_120 (by decide) fl_X8_7 (by decide) f_120_0 dX8_tale_64 ?_
      refine r_bipush hL dX8_tale_67 (by decide) ?_
      refine r_bipush hL dX8_tale_69 (by decide) ?_
      refine r_iload_n hL (x := z33) dX8_tale_71 rfl ?_
      refine r_imul hL dX8_tale_72 ?_
      refine r_iadd hL dX8_tale_73 ?_
      refine r_aload_n hL (x := 120) dX8_tale_74 rfl ?_
      refine r_geti hL xcl8 6 (j' := 6) rfl (by decide) s_120 (by decide) fl_X8_149 (by decide) (by decide) dX8_tale_75 (fun hr75 => ?_)
      obtain ⟨z75, hz75⟩ : ∃ z, z = μ2 120 6 := ⟨_, rfl⟩
      rw [← hz75] at hr75 ⊢
      have hb75 : 0 ≤ μ2 120 6 ∧ μ2 120 6 ≤ 10 := (show ((6 : Int) = 2 → 0 ≤ (μ2 120 6) ∧ (μ2 120 6) ≤ 16) ∧ ((6 : Int) = 6 → 0 ≤ (μ2 120 6) ∧ (μ2 120 6) ≤ 10) ∧ ((6 : Int) = 8 → 0 ≤ (μ2 120 6) ∧ (μ2 120 6) ≤ 20) ∧ ((6 : Int) = 9 → 0 ≤ (μ2 120 6) ∧ (μ2 120 6) ≤ 2147483647) ∧ ((6 : Int) = 11 → 0 ≤ (μ2 120 6) ∧ (μ2 120 6) ≤ 10) ∧ ((6 : Int) = 13 → 0 ≤ (μ2 120 6) ∧ (μ2 120 6) ≤ 10) ∧ ((6 : Int) = 20 → 0 ≤ (μ2 120 6) ∧ (μ2 120 6) ≤ 8) from hB2 120 6).2.1 (by omega)
      refine r_callS hL (st := []) (av := [xR 125, xI 0, xR 121, xI (30 + (10 * z33)), xI z75]) (m_X8_bring (μ := μ2) 125 10 (by decide) s_125 (by decide) 0 121 110 (by decide) s_121 (by decide) (30 + (10 * z33)) z75 (by omega) (by omega) (fun h => absurd h (by decide)) (fun μ78c hm78c => ⟨rfl, ?_⟩)) ce_yX8_bring sm_yX8_bring ml_X8_73 dX8_tale_78 rfl (Nat.le_of_ble_eq_true rfl) ⟨Nat.le_of_ble_eq_true rfl, Nat.le_of_ble_eq_true rfl⟩ ⟨Nat.le_of_ble_eq_true rfl, Nat.le_of_ble_eq_true rfl⟩
      show X 0 0 WW μ78c 81 [some (xR 120), some (xI z33)] []
      have hB78c : BI μ78c := by rw [hm78c]; exact hB2.br (fun k hk0 hk1 => by have hq : 0 ≤ (μ2 125 (0 + k)) ∧ (μ2 125 (0 + k)) ≤ 7 := hB2 125 _; show (((30 + (10 * z33)) + k) = 0 → 0 ≤ (μ2 125 (0 + k)) ∧ (μ2 125 (0 + k)) ≤ 8) ∧ (((30 + (10 * z33)) + k) = 1 → 0 ≤ (μ2 125 (0 + k)) ∧ (μ2 125 (0 + k)) ≤ 2) ∧ (2 ≤ ((30 + (10 * z33)) + k) ∧ ((30 + (10 * z33)) + k) ≤ 5 → 0 ≤ (μ2 125 (0 + k)) ∧ (μ2 125 (0 + k)) ≤ 9) ∧ (6 ≤ ((30 + (10 * z33)) + k) ∧ ((30 + (10 * z33)) + k) ≤ 13 → 0 ≤ (μ2 125 (0 + k)) ∧ (μ2 125 (0 + k)) ≤ 10) ∧ (30 ≤ ((30 + (10 * z33)) + k) → 0 ≤ (μ2 125 (0 + k)) ∧ (μ2 125 (0 + k)) ≤ 7); omega)
      have hF78c : Fr MF μ μ78c := by rw [hm78c]; exact hF2.br (fun b _ _ => by unfold MF; omega)
      have hk78c_121_0 : μ78c 121 0 = μ2 121 0 := by rw [hm78c]; exact xbr_j (by omega)
      have hk78c_120_6 : μ78c 120 6 = μ2 120 6 := by rw [hm78c]; exact congrFun (xbr_c (by decide)) _
      refine r_aload_n hL (x := 120) dX8_tale_81 rfl ?_
      refine r_getr hL xcl8 0 (by decide) s_120 (by decide) fl_X8_7 (by decide) f_120_0 dX8_tale_82 ?_
      refine r_iconst hL dX8_tale_85 ?_
      refine r_dup2 hL dX8_tale_86 rfl rfl ?_
      refine r_iald hL dX8_tale_87 (by decide) s_121 (by decide) (by omega) (by omega) (fun hr87 => ?_)
      obtain ⟨z87, hz87⟩ : ∃ z, z = μ78c 121 0 := ⟨_, rfl⟩
      rw [← hz87] at hr87 ⊢
      have hb87 : 0 ≤ μ78c 121 0 ∧ μ78c 121 0 ≤ 8 := (show ((0 : Int) = 0 → 0 ≤ (μ78c 121 0) ∧ (μ78c 121 0) ≤ 8) ∧ ((0 : Int) = 1 → 0 ≤ (μ78c 121 0) ∧ (μ78c 121 0) ≤ 2) ∧ (2 ≤ (0 : Int) ∧ (0 : Int) ≤ 5 → 0 ≤ (μ78c 121 0) ∧ (μ78c 121 0) ≤ 9) ∧ (6 ≤ (0 : Int) ∧ (0 : Int) ≤ 13 → 0 ≤ (μ78c 121 0) ∧ (μ78c 121 0) ≤ 10) ∧ (30 ≤ (0 : Int) → 0 ≤ (μ78c 121 0) ∧ (μ78c 121 0) ≤ 7) from hB78c 121 0).1 (by omega)
      refine r_iconst hL dX8_tale_88 ?_
      refine r_iadd hL dX8_tale_89 ?_
      refine r_iast hL dX8_tale_90 (by decide) s_121 (by decide) (by omega) (by omega) (by omega) (fun μ3 hm3 => ?_)
      have hB3 : BI μ3 := by rw [hm3]; exact hB78c.up (by show ((0 : Int) = 0 → 0 ≤ (z87 + 1) ∧ (z87 + 1) ≤ 8) ∧ ((0 : Int) = 1 → 0 ≤ (z87 + 1) ∧ (z87 + 1) ≤ 2) ∧ (2 ≤ (0 : Int) ∧ (0 : Int) ≤ 5 → 0 ≤ (z87 + 1) ∧ (z87 + 1) ≤ 9) ∧ (6 ≤ (0 : Int) ∧ (0 : Int) ≤ 13 → 0 ≤ (z87 + 1) ∧ (z87 + 1) ≤ 10) ∧ (30 ≤ (0 : Int) → 0 ≤ (z87 + 1) ∧ (z87 + 1) ≤ 7); omega)
      have hF3 : Fr MF μ μ3 := by rw [hm3]; exact hF78c.up (by unfold MF; omega)
      have hk3_121_0 : μ3 121 0 = z87 + 1 := by rw [hm3]; exact xup_s _ _ _ _
      have hk3_120_6 : μ3 120 6 = μ78c 120 6 := by rw [hm3]; exact congrFun (xup_c (by decide)) _
      refine r_aload_n hL (x := 120) dX8_tale_91 rfl ?_
      refine r_iconst hL dX8_tale_92 ?_
      refine r_puti hL xcl8 6 (j' := 6) rfl (by decide) s_120 (by decide) fl_X8_149 rfl rfl (by omega) dX8_tale_93 (fun μ4 hm4 => ?_)
      have hB4 : BI μ4 := by rw [hm4]; exact hB3.up (by show ((6 : Int) = 2 → 0 ≤ 0 ∧ 0 ≤ 16) ∧ ((6 : Int) = 6 → 0 ≤ 0 ∧ 0 ≤ 10) ∧ ((6 : Int) = 8 → 0 ≤ 0 ∧ 0 ≤ 20) ∧ ((6 : Int) = 9 → 0 ≤ 0 ∧ 0 ≤ 2147483647) ∧ ((6 : Int) = 11 → 0 ≤ 0 ∧ 0 ≤ 10) ∧ ((6 : Int) = 13 → 0 ≤ 0 ∧ 0 ≤ 10) ∧ ((6 : Int) = 20 → 0 ≤ 0 ∧ 0 ≤ 8); omega)
      have hF4 : Fr MF μ μ4 := by rw [hm4]; exact hF3.up (by unfold MF; omega)
      have hk4_121_0 : μ4 121 0 = μ3 121 0 := by rw [hm4]; exact congrFun (xup_c (by decide)) _
      have hk4_120_6 : μ4 120 6 = 0 := by rw [hm4]; exact xup_s _ _ _ _
      refine r_iload_n hL (x := z33) dX8_tale_96 rfl ?_
      exact r_iret hL dX8_tale_97 rfl (hK _ _ hB4 hF4 (Or.inr (Or.inr ⟨by omega, by omega, by omega, μ25c, hN25, by have hx : (fun i => μ 125 i) = (fun i => μ25c 125 i) := funext fun i => (hN25.1 125 i (by unfold NT; omega)).symm; rw [hx, ← show z44 = μ 120 6 by omega]; exact tl_add hm1 hm2 hm78c hm3 hm4 hz33 (by omega) (by omega) (by omega) (by omega)⟩)) (by omega))
    · skip
      refine r_ldc hL (n := -1000000003) dX8_tale_21 kc_X8_164 (by decide) ?_
      exact r_iret hL dX8_tale_23 rfl (hK _ _ hB hF (Or.inr (Or.inl ⟨by omega, by omega, rfl, rfl⟩)) (by omega))
  · skip
    refine r_ldc hL (n := -1000000004) dX8_tale_11 kc_X8_160 (by decide) ?_
    exact r_iret hL dX8_tale_13 rfl (hK _ _ hB hF (Or.inl ⟨by omega, rfl, rfl⟩) (by omega))

set_option maxHeartbeats 4000000 in
set_option maxRecDepth 20000 in
theorem m_X8_take {K : Option xV → xW → xM → Prop} {μ : xM} (hB0 : BI μ) (t : Int) (ht : xrg t) (hK : ∀ r μ', BI μ' → Fr MF μ μ' → D_take t μ r μ' → xrg r → K (some (xI r)) WW μ') : xMet yX8_take cX8_take 3 (some .int) 2 45 0 0 [xR 120, xI t] WW μ K := by
  refine xMet.go RX8 "take" rfl rfl (by decide) [some (xR 120), some (xI t), none] (Nat.le_of_ble_eq_true rfl) rfl (fun X hL => ?_)
  have hB := hB0
  have hF : Fr MF μ μ := Fr.rf
  refine r_aload_n hL (x := 120) dX8_take_0 rfl ?_
  refine r_iload_n hL (x := t) dX8_take_1 rfl ?_
  refine r_callV hL (st := []) (av := [xI t]) (k := 120) (m_X8_isTale (μ := μ) hB t (by omega) (fun z2 hc2 => ⟨rfl, ?_⟩)) ce_yX8_isTale im_yX8_isTale se_yX8_isTale ml_X8_171 xcl8 (by decide) s_120 dX8_take_2 rfl (Nat.le_of_ble_eq_true rfl) ⟨Nat.le_of_ble_eq_true rfl, Nat.le_of_ble_eq_true rfl⟩ ⟨Nat.le_of_ble_eq_true rfl, Nat.le_of_ble_eq_true rfl⟩
  show X 0 0 WW μ 5 [some (xR 120), some (xI t), none] [xI z2]
  refine r_if_ne hL (tgt := 11) dX8_take_5 (by decide) (by omega) (fun c5 => ?_) (fun c5 => ?_)
  · skip
    refine r_aload_n hL (x := 120) dX8_take_11 rfl ?_
    refine r_callV hL (st := []) (av := []) (k := 120) (m_X8_notes (μ := μ) hB (fun μ12c hB12c hN12 => ⟨rfl, ?_⟩)) ce_yX8_notes im_yX8_notes se_yX8_notes ml_X8_165 xcl8 (by decide) s_120 dX8_take_12 rfl (Nat.le_of_ble_eq_true rfl) ⟨Nat.le_of_ble_eq_true rfl, Nat.le_of_ble_eq_true rfl⟩ ⟨Nat.le_of_ble_eq_true rfl, Nat.le_of_ble_eq_true rfl⟩
    show X 0 0 WW μ12c 15 [some (xR 120), some (xI t), none] []
    have hF12c : Fr MF μ μ12c := hF.trans (hN12.1.sub (fun k j h => by unfold NT at h; unfold MF; omega))
    have hk12c_121_0 : μ12c 121 0 = μ 121 0 := hN12.1 121 0 (by unfold NT; omega)
    refine r_aload_n hL (x := 120) dX8_take_15 rfl ?_
    refine r_getr hL xcl8 0 (by decide) s_120 (by decide) fl_X8_7 (by decide) f_120_0 dX8_take_16 ?_
    refine r_iconst hL dX8_take_19 ?_
    refine r_dup2 hL dX8_take_20 rfl rfl ?_
    refine r_iald hL dX8_take_21 (by decide) s_121 (by decide) (by omega) (by omega) (fun hr21 => ?_)
    obtain ⟨z21, hz21⟩ : ∃ z, z = μ12c 121 0 := ⟨_, rfl⟩
    rw [← hz21] at hr21 ⊢
    have hb21 : 0 ≤ μ12c 121 0 ∧ μ12c 121 0 ≤ 8 := (show ((0 : Int) = 0 → 0 ≤ (μ12c 121 0) ∧ (μ12c 121 0) ≤ 8) ∧ ((0 : Int) = 1 → 0 ≤ (μ12c 121 0) ∧ (μ12c 121 0) ≤ 2) ∧ (2 ≤ (0 : Int) ∧ (0 : Int) ≤ 5 → 0 ≤ (μ12c 121 0) ∧ (μ12c 121 0) ≤ 9) ∧ (6 ≤ (0 : Int) ∧ (0 : Int) ≤ 13 → 0 ≤ (μ12c 121 0) ∧ (μ12c 121 0) ≤ 10) ∧ (30 ≤ (0 : Int) → 0 ≤ (μ12c 121 0) ∧ (μ12c 121 0) ≤ 7) from hB12c 121 0).1 (by omega)
    refine r_iconst hL dX8_take_22 ?_
    refine r_isub hL dX8_take_23 ?_
    refine r_iast hL dX8_take_24 (by decide) s_121 (by decide) (by omega) (by omega) (by omega) (fun μ1 hm1 => ?_)
    have hB1 : BI μ1 := by rw [hm1]; exact hB12c.up (by show ((0 : Int) = 0 → 0 ≤ (z21 - 1) ∧ (z21 - 1) ≤ 8) ∧ ((0 : Int) = 1 → 0 ≤ (z21 - 1) ∧ (z21 - 1) ≤ 2) ∧ (2 ≤ (0 : Int) ∧ (0 : Int) ≤ 5 → 0 ≤ (z21 - 1) ∧ (z21 - 1) ≤ 9) ∧ (6 ≤ (0 : Int) ∧ (0 : Int) ≤ 13 → 0 ≤ (z21 - 1) ∧ (z21 - 1) ≤ 10) ∧ (30 ≤ (0 : Int) → 0 ≤ (z21 - 1) ∧ (z21 - 1) ≤ 7); omega)
    have hF1 : Fr MF μ μ1 := by rw [hm1]; exact hF12c.up (by unfold MF; omega)
    have hk1_121_0 : μ1 121 0 = z21 - 1 := by rw [hm1]; exact xup_s _ _ _ _
    refine r_aload_n hL (x := 120) dX8_take_25 rfl ?_
    refine r_getr hL xcl8 0 (by decide) s_120 (by decide) fl_X8_7 (by decide) f_120_0 dX8_take_26 ?_
    refine r_iconst hL dX8_take_29 ?_
    refine r_iald hL dX8_take_30 (by decide) s_121 (by decide) (by omega) (by omega) (fun hr30 => ?_)
    obtain ⟨z30, hz30⟩ : ∃ z, z = μ1 121 0 := ⟨_, rfl⟩
    rw [← hz30] at hr30 ⊢
    have hb30 : 0 ≤ μ1 121 0 ∧ μ1 121 0 ≤ 8 := (show ((0 : Int) = 0 → 0 ≤ (μ1 121 0) ∧ (μ1 121 0) ≤ 8) ∧ ((0 : Int) = 1 → 0 ≤ (μ1 121 0) ∧ (μ1 121 0) ≤ 2) ∧ (2 ≤ (0 : Int) ∧ (0 : Int) ≤ 5 → 0 ≤ (μ1 121 0) ∧ (μ1 121 0) ≤ 9) ∧ (6 ≤ (0 : Int) ∧ (0 : Int) ≤ 13 → 0 ≤ (μ1 121 0) ∧ (μ1 121 0) ≤ 10) ∧ (30 ≤ (0 : Int) → 0 ≤ (μ1 121 0) ∧ (μ1 121 0) ≤ 7) from hB1 121 0).1 (by omega)
    refine r_iload_n hL (x := t) dX8_take_31 rfl ?_
    refine r_isub hL dX8_take_32 ?_
    refine r_istore_n hL (lo' := [some (xR 120), some (xI t), some (xI (z30 - t))]) dX8_take_33 (by decide) rfl ?_
    refine r_aload_n hL (x := 120) dX8_take_34 rfl ?_
    refine r_getr hL xcl8 0 (by decide) s_120 (by decide) fl_X8_7 (by decide) f_120_0 dX8_take_35 ?_
    refine r_bipush hL dX8_take_38 (by decide) ?_
    refine r_iload_n hL (x := t) dX8_take_40 rfl ?_
    refine r_iadd hL dX8_take_41 ?_
    refine r_iconst hL dX8_take_42 ?_
    refine r_iadd hL dX8_take_43 ?_
    refine r_aload_n hL (x := 120) dX8_take_44 rfl ?_
    refine r_getr hL xcl8 0 (by decide) s_120 (by decide) fl_X8_7 (by decide) f_120_0 dX8_take_45 ?_
    refine r_bipush hL dX8_take_48 (by decide) ?_
    refine r_iload_n hL (x := t) dX8_take_50 rfl ?_
    refine r_iadd hL dX8_take_51 ?_
    refine r_iload_n hL (x := z30 - t) dX8_take_52 rfl ?_
    refine r_callS hL (st := []) (av := [xR 121, xI ((6 + t) + 1), xR 121, xI (6 + t), xI (z30 - t)]) (m_X8_bring (μ := μ1) 121 110 (by decide) s_121 (by decide) ((6 + t) + 1) 121 110 (by decide) s_121 (by decide) (6 + t) (z30 - t) (by omega) (by omega) (fun _ => by omega) (fun μ53c hm53c => ⟨rfl, ?_⟩)) ce_yX8_bring sm_yX8_bring ml_X8_73 dX8_take_53 rfl (Nat.le_of_ble_eq_true rfl) ⟨Nat.le_of_ble_eq_true rfl, Nat.le_of_ble_eq_true rfl⟩ ⟨Nat.le_of_ble_eq_true rfl, Nat.le_of_ble_eq_true rfl⟩
    show X 0 0 WW μ53c 56 [some (xR 120), some (xI t), some (xI (z30 - t))] []
    have hB53c : BI μ53c := by rw [hm53c]; exact hB1.br (fun k hk0 hk1 => by have hq : ((((6 + t) + 1) + k) = 0 → 0 ≤ (μ1 121 (((6 + t) + 1) + k)) ∧ (μ1 121 (((6 + t) + 1) + k)) ≤ 8) ∧ ((((6 + t) + 1) + k) = 1 → 0 ≤ (μ1 121 (((6 + t) + 1) + k)) ∧ (μ1 121 (((6 + t) + 1) + k)) ≤ 2) ∧ (2 ≤ (((6 + t) + 1) + k) ∧ (((6 + t) + 1) + k) ≤ 5 → 0 ≤ (μ1 121 (((6 + t) + 1) + k)) ∧ (μ1 121 (((6 + t) + 1) + k)) ≤ 9) ∧ (6 ≤ (((6 + t) + 1) + k) ∧ (((6 + t) + 1) + k) ≤ 13 → 0 ≤ (μ1 121 (((6 + t) + 1) + k)) ∧ (μ1 121 (((6 + t) + 1) + k)) ≤ 10) ∧ (30 ≤ (((6 + t) + 1) + k) → 0 ≤ (μ1 121 (((6 + t) + 1) + k)) ∧ (μ1 121 (((6 + t) + 1) + k)) ≤ 7) := hB1 121 _; have h1 := hq.2.2.2.1 (by omega); clear hq; show (((6 + t) + k) = 0 → 0 ≤ (μ1 121 (((6 + t) + 1) + k)) ∧ (μ1 121 (((6 + t) + 1) + k)) ≤ 8) ∧ (((6 + t) + k) = 1 → 0 ≤ (μ1 121 (((6 + t) + 1) + k)) ∧ (μ1 121 (((6 + t) + 1) + k)) ≤ 2) ∧ (2 ≤ ((6 + t) + k) ∧ ((6 + t) + k) ≤ 5 → 0 ≤ (μ1 121 (((6 + t) + 1) + k)) ∧ (μ1 121 (((6 + t) + 1) + k)) ≤ 9) ∧ (6 ≤ ((6 + t) + k) ∧ ((6 + t) + k) ≤ 13 → 0 ≤ (μ1 121 (((6 + t) + 1) + k)) ∧ (μ1 121 (((6 + t) + 1) + k)) ≤ 10) ∧ (30 ≤ ((6 + t) + k) → 0 ≤ (μ1 121 (((6 + t) + 1) + k)) ∧ (μ1 121 (((6 + t) + 1) + k)) ≤ 7); omega)
    have hF53c : Fr MF μ μ53c := by rw [hm53c]; exact hF1.br (fun b _ _ => by unfold MF; omega)
    have hk53c_121_0 : μ53c 121 0 = μ1 121 0 := by rw [hm53c]; exact xbr_j (by omega)
    refine r_aload_n hL (x := 120) dX8_take_56 rfl ?_
    refine r_getr hL xcl8 0 (by decide) s_120 (by decide) fl_X8_7 (by decide) f_120_0 dX8_take_57 ?_
    refine r_bipush hL dX8_take_60 (by decide) ?_
    refine r_iload_n hL (x := t) dX8_take_62 rfl ?_
    refine r_iadd hL dX8_take_63 ?_
    refine r_iconst hL dX8_take_64 ?_
    refine r_iadd hL dX8_take_65 ?_
    refine r_aload_n hL (x := 120) dX8_take_66 rfl ?_
    refine r_getr hL xcl8 0 (by decide) s_120 (by decide) fl_X8_7 (by decide) f_120_0 dX8_take_67 ?_
    refine r_bipush hL dX8_take_70 (by decide) ?_
    refine r_iload_n hL (x := t) dX8_take_72 rfl ?_
    refine r_iadd hL dX8_take_73 ?_
    refine r_iload_n hL (x := z30 - t) dX8_take_74 rfl ?_
    refine r_callS hL (st := []) (av := [xR 121, xI ((14 + t) + 1), xR 121, xI (14 + t), xI (z30 - t)]) (m_X8_bring (μ := μ53c) 121 110 (by decide) s_121 (by decide) ((14 + t) + 1) 121 110 (by decide) s_121 (by decide) (14 + t) (z30 - t) (by omega) (by omega) (fun _ => by omega) (fun μ75c hm75c => ⟨rfl, ?_⟩)) ce_yX8_bring sm_yX8_bring ml_X8_73 dX8_take_75 rfl (Nat.le_of_ble_eq_true rfl) ⟨Nat.le_of_ble_eq_true rfl, Nat.le_of_ble_eq_true rfl⟩ ⟨Nat.le_of_ble_eq_true rfl, Nat.le_of_ble_eq_true rfl⟩
    show X 0 0 WW μ75c 78 [some (xR 120), some (xI t), some (xI (z30 - t))] []
    have hB75c : BI μ75c := by rw [hm75c]; exact hB53c.br (fun k hk0 hk1 => by have hq : ((((14 + t) + 1) + k) = 0 → 0 ≤ (μ53c 121 (((14 + t) + 1) + k)) ∧ (μ53c 121 (((14 + t) + 1) + k)) ≤ 8) ∧ ((((14 + t) + 1) + k) = 1 → 0 ≤ (μ53c 121 (((14 + t) + 1) + k)) ∧ (μ53c 121 (((14 + t) + 1) + k)) ≤ 2) ∧ (2 ≤ (((14 + t) + 1) + k) ∧ (((14 + t) + 1) + k) ≤ 5 → 0 ≤ (μ53c 121 (((14 + t) + 1) + k)) ∧ (μ53c 121 (((14 + t) + 1) + k)) ≤ 9) ∧ (6 ≤ (((14 + t) + 1) + k) ∧ (((14 + t) + 1) + k) ≤ 13 → 0 ≤ (μ53c 121 (((14 + t) + 1) + k)) ∧ (μ53c 121 (((14 + t) + 1) + k)) ≤ 10) ∧ (30 ≤ (((14 + t) + 1) + k) → 0 ≤ (μ53c 121 (((14 + t) + 1) + k)) ∧ (μ53c 121 (((14 + t) + 1) + k)) ≤ 7) := hB53c 121 _; clear hq; show (((14 + t) + k) = 0 → 0 ≤ (μ53c 121 (((14 + t) + 1) + k)) ∧ (μ53c 121 (((14 + t) + 1) + k)) ≤ 8) ∧ (((14 + t) + k) = 1 → 0 ≤ (μ53c 121 (((14 + t) + 1) + k)) ∧ (μ53c 121 (((14 + t) + 1) + k)) ≤ 2) ∧ (2 ≤ ((14 + t) + k) ∧ ((14 + t) + k) ≤ 5 → 0 ≤ (μ53c 121 (((14 + t) + 1) + k)) ∧ (μ53c 121 (((14 + t) + 1) + k)) ≤ 9) ∧ (6 ≤ ((14 + t) + k) ∧ ((14 + t) + k) ≤ 13 → 0 ≤ (μ53c 121 (((14 + t) + 1) + k)) ∧ (μ53c 121 (((14 + t) + 1) + k)) ≤ 10) ∧ (30 ≤ ((14 + t) + k) → 0 ≤ (μ53c 121 (((14 + t) + 1) + k)) ∧ (μ53c 121 (((14 + t) + 1) + k)) ≤ 7); omega)
    have hF75c : Fr MF μ μ75c := by rw [hm75c]; exact hF53c.br (fun b _ _ => by unfold MF; omega)
    have hk75c_121_0 : μ75c 121 0 = μ53c 121 0 := by rw [hm75c]; exact xbr_j (by omega)
    refine r_aload_n hL (x := 120) dX8_take_78 rfl ?_
    refine r_getr hL xcl8 0 (by decide) s_120 (by decide) fl_X8_7 (by decide) f_120_0 dX8_take_79 ?_
    refine r_bipush hL dX8_take_82 (by decide) ?_
    refine r_bipush hL dX8_take_84 (by decide) ?_
    refine r_iload_n hL (x := t) dX8_take_86 rfl ?_
    refine r_iconst hL dX8_take_87 ?_
    refine r_iadd hL dX8_take_88 ?_
    refine r_imul hL dX8_take_89 ?_
    refine r_iadd hL dX8_take_90 ?_
    refine r_aload_n hL (x := 120) dX8_take_91 rfl ?_
    refine r_getr hL xcl8 0 (by decide) s_120 (by decide) fl_X8_7 (by decide) f_120_0 dX8_take_92 ?_
    refine r_bipush hL dX8_take_95 (by decide) ?_
    refine r_bipush hL dX8_take_97 (by decide) ?_
    refine r_iload_n hL (x := t) dX8_take_99 rfl ?_
    refine r_imul hL dX8_take_100 ?_
    refine r_iadd hL dX8_take_101 ?_
    refine r_bipush hL dX8_take_102 (by decide) ?_
    refine r_iload_n hL (x := z30 - t) dX8_take_104 rfl ?_
    refine r_imul hL dX8_take_105 ?_
    refine r_callS hL (st := []) (av := [xR 121, xI (30 + (10 * (t + 1))), xR 121, xI (30 + (10 * t)), xI (10 * (z30 - t))]) (m_X8_bring (μ := μ75c) 121 110 (by decide) s_121 (by decide) (30 + (10 * (t + 1))) 121 110 (by decide) s_121 (by decide) (30 + (10 * t)) (10 * (z30 - t)) (by omega) (by omega) (fun _ => by omega) (fun μ106c hm106c => ⟨rfl, ?_⟩)) ce_yX8_bring sm_yX8_bring ml_X8_73 dX8_take_106 rfl (Nat.le_of_ble_eq_true rfl) ⟨Nat.le_of_ble_eq_true rfl, Nat.le_of_ble_eq_true rfl⟩ ⟨Nat.le_of_ble_eq_true rfl, Nat.le_of_ble_eq_true rfl⟩
    show X 0 0 WW μ106c 109 [some (xR 120), some (xI t), some (xI (z30 - t))] []
    have hB106c : BI μ106c := by rw [hm106c]; exact hB75c.br (fun k hk0 hk1 => by have hq : (((30 + (10 * (t + 1))) + k) = 0 → 0 ≤ (μ75c 121 ((30 + (10 * (t + 1))) + k)) ∧ (μ75c 121 ((30 + (10 * (t + 1))) + k)) ≤ 8) ∧ (((30 + (10 * (t + 1))) + k) = 1 → 0 ≤ (μ75c 121 ((30 + (10 * (t + 1))) + k)) ∧ (μ75c 121 ((30 + (10 * (t + 1))) + k)) ≤ 2) ∧ (2 ≤ ((30 + (10 * (t + 1))) + k) ∧ ((30 + (10 * (t + 1))) + k) ≤ 5 → 0 ≤ (μ75c 121 ((30 + (10 * (t + 1))) + k)) ∧ (μ75c 121 ((30 + (10 * (t + 1))) + k)) ≤ 9) ∧ (6 ≤ ((30 + (10 * (t + 1))) + k) ∧ ((30 + (10 * (t + 1))) + k) ≤ 13 → 0 ≤ (μ75c 121 ((30 + (10 * (t + 1))) + k)) ∧ (μ75c 121 ((30 + (10 * (t + 1))) + k)) ≤ 10) ∧ (30 ≤ ((30 + (10 * (t + 1))) + k) → 0 ≤ (μ75c 121 ((30 + (10 * (t + 1))) + k)) ∧ (μ75c 121 ((30 + (10 * (t + 1))) + k)) ≤ 7) := hB75c 121 _; have h1 := hq.2.2.2.2 (by omega); clear hq; show (((30 + (10 * t)) + k) = 0 → 0 ≤ (μ75c 121 ((30 + (10 * (t + 1))) + k)) ∧ (μ75c 121 ((30 + (10 * (t + 1))) + k)) ≤ 8) ∧ (((30 + (10 * t)) + k) = 1 → 0 ≤ (μ75c 121 ((30 + (10 * (t + 1))) + k)) ∧ (μ75c 121 ((30 + (10 * (t + 1))) + k)) ≤ 2) ∧ (2 ≤ ((30 + (10 * t)) + k) ∧ ((30 + (10 * t)) + k) ≤ 5 → 0 ≤ (μ75c 121 ((30 + (10 * (t + 1))) + k)) ∧ (μ75c 121 ((30 + (10 * (t + 1))) + k)) ≤ 9) ∧ (6 ≤ ((30 + (10 * t)) + k) ∧ ((30 + (10 * t)) + k) ≤ 13 → 0 ≤ (μ75c 121 ((30 + (10 * (t + 1))) + k)) ∧ (μ75c 121 ((30 + (10 * (t + 1))) + k)) ≤ 10) ∧ (30 ≤ ((30 + (10 * t)) + k) → 0 ≤ (μ75c 121 ((30 + (10 * (t + 1))) + k)) ∧ (μ75c 121 ((30 + (10 * (t + 1))) + k)) ≤ 7); omega)
    have hF106c : Fr MF μ μ106c := by rw [hm106c]; exact hF75c.br (fun b _ _ => by unfold MF; omega)
    have hk106c_121_0 : μ106c 121 0 = μ75c 121 0 := by rw [hm106c]; exact xbr_j (by omega)
    refine r_aload_n hL (x := 120) dX8_take_109 rfl ?_
    refine r_getr hL xcl8 0 (by decide) s_120 (by decide) fl_X8_7 (by decide) f_120_0 dX8_take_110 ?_
    refine r_iconst hL dX8_take_113 ?_
    refine r_iald hL dX8_take_114 (by decide) s_121 (by decide) (by omega) (by omega) (fun hr114 => ?_)
    obtain ⟨z114, hz114⟩ : ∃ z, z = μ106c 121 0 := ⟨_, rfl⟩
    rw [← hz114] at hr114 ⊢
    have hb114 : 0 ≤ μ106c 121 0 ∧ μ106c 121 0 ≤ 8 := (show ((0 : Int) = 0 → 0 ≤ (μ106c 121 0) ∧ (μ106c 121 0) ≤ 8) ∧ ((0 : Int) = 1 → 0 ≤ (μ106c 121 0) ∧ (μ106c 121 0) ≤ 2) ∧ (2 ≤ (0 : Int) ∧ (0 : Int) ≤ 5 → 0 ≤ (μ106c 121 0) ∧ (μ106c 121 0) ≤ 9) ∧ (6 ≤ (0 : Int) ∧ (0 : Int) ≤ 13 → 0 ≤ (μ106c 121 0) ∧ (μ106c 121 0) ≤ 10) ∧ (30 ≤ (0 : Int) → 0 ≤ (μ106c 121 0) ∧ (μ106c 121 0) ≤ 7) from hB106c 121 0).1 (by omega)
    exact r_iret hL dX8_take_115 rfl (hK _ _ hB106c hF106c (Or.inr ⟨by omega, by omega, μ12c, hN12, mRv_mk hm1 hm53c hm75c hm106c (by omega) (by omega) (by omega) (by omega) (by omega)⟩) (by omega))
  · skip
    refine r_ldc hL (n := -1000000001) dX8_take_8 kc_X8_183 (by decide) ?_
    exact r_iret hL dX8_take_10 rfl (hK _ _ hB hF (Or.inl ⟨by omega, rfl, rfl⟩) (by omega))

set_option maxHeartbeats 4000000 in
set_option maxRecDepth 20000 in
theorem m_X8_cost {K : Option xV → xW → xM → Prop} {μ : xM} (hB0 : BI μ) (t : Int) (ht : xrg t) (u : Int) (hu : xrg u) (hK : ∀ r μ', BI μ' → Fr MF μ μ' → D_cost t u μ r μ' → xrg r → K (some (xI r)) WW μ') : xMet yX8_cost cX8_cost 4 (some .int) 2 45 0 0 [xR 120, xI t, xI u] WW μ K := by
  refine xMet.go RX8 "cost" rfl rfl (by decide) [some (xR 120), some (xI t), some (xI u), none] (Nat.le_of_ble_eq_true rfl) rfl (fun X hL => ?_)
  have hB := hB0
  have hF : Fr MF μ μ := Fr.rf
  refine r_iload_n hL (x := t) dX8_cost_0 rfl ?_
  refine r_iconst hL dX8_cost_1 ?_
  refine r_iconst hL dX8_cost_2 ?_
  refine r_callS hL (st := []) (av := [xI t, xI 0, xI 3]) (m_X8_in (μ := μ) t (by omega) 0 (by omega) 3 (by omega) (fun z3 hc3 => ⟨rfl, ?_⟩)) ce_yX8_in sm_yX8_in ml_X8_62 dX8_cost_3 rfl (Nat.le_of_ble_eq_true rfl) ⟨Nat.le_of_ble_eq_true rfl, Nat.le_of_ble_eq_true rfl⟩ ⟨Nat.le_of_ble_eq_true rfl, Nat.le_of_ble_eq_true rfl⟩
  show X 0 0 WW μ 6 [some (xR 120), some (xI t), some (xI u), none] [xI z3]
  refine r_if_eq hL (tgt := 28) dX8_cost_6 (by decide) (by omega) (fun c6 => ?_) (fun c6 => ?_)
  · skip
    refine r_ldc hL (n := -1000000002) dX8_cost_28 kc_X8_159 (by decide) ?_
    exact r_iret hL dX8_cost_30 rfl (hK _ _ hB hF (Or.inl ⟨by unfold okco; omega, rfl, rfl⟩) (by omega))
  · skip
    refine r_iload_n hL (x := u) dX8_cost_9 rfl ?_
    refine r_iload_n hL (x := t) dX8_cost_10 rfl ?_
    refine r_iconst hL dX8_cost_11 ?_
    refine r_icmp_ne hL (tgt := 19) dX8_cost_12 (by decide) (by omega) (by omega) (fun c12 => ?_) (fun c12 => ?_)
    · skip
      refine r_iconst hL dX8_cost_19 ?_
      refine r_bipush hL dX8_cost_20 (by decide) ?_
      refine r_callS hL (st := []) (av := [xI u, xI 1, xI 9]) (m_X8_in (μ := μ) u (by omega) 1 (by omega) 9 (by omega) (fun z22 hc22 => ⟨rfl, ?_⟩)) ce_yX8_in sm_yX8_in ml_X8_62 dX8_cost_22 rfl (Nat.le_of_ble_eq_true rfl) ⟨Nat.le_of_ble_eq_true rfl, Nat.le_of_ble_eq_true rfl⟩ ⟨Nat.le_of_ble_eq_true rfl, Nat.le_of_ble_eq_true rfl⟩
      show X 0 0 WW μ 25 [some (xR 120), some (xI t), some (xI u), none] [xI z22]
      refine r_if_ne hL (tgt := 31) dX8_cost_25 (by decide) (by omega) (fun c25 => ?_) (fun c25 => ?_)
      · skip
        refine r_aload_n hL (x := 120) dX8_cost_31 rfl ?_
        refine r_getr hL xcl8 0 (by decide) s_120 (by decide) fl_X8_7 (by decide) f_120_0 dX8_cost_32 ?_
        refine r_iconst hL dX8_cost_35 ?_
        refine r_iload_n hL (x := t) dX8_cost_36 rfl ?_
        refine r_iadd hL dX8_cost_37 ?_
        refine r_iald hL dX8_cost_38 (by decide) s_121 (by decide) (by omega) (by omega) (fun hr38 => ?_)
        obtain ⟨z38, hz38⟩ : ∃ z, z = μ 121 (2 + t) := ⟨_, rfl⟩
        rw [← hz38] at hr38 ⊢
        have hb38 : 0 ≤ μ 121 (2 + t) ∧ μ 121 (2 + t) ≤ 9 := (show ((2 + t) = 0 → 0 ≤ (μ 121 (2 + t)) ∧ (μ 121 (2 + t)) ≤ 8) ∧ ((2 + t) = 1 → 0 ≤ (μ 121 (2 + t)) ∧ (μ 121 (2 + t)) ≤ 2) ∧ (2 ≤ (2 + t) ∧ (2 + t) ≤ 5 → 0 ≤ (μ 121 (2 + t)) ∧ (μ 121 (2 + t)) ≤ 9) ∧ (6 ≤ (2 + t) ∧ (2 + t) ≤ 13 → 0 ≤ (μ 121 (2 + t)) ∧ (μ 121 (2 + t)) ≤ 10) ∧ (30 ≤ (2 + t) → 0 ≤ (μ 121 (2 + t)) ∧ (μ 121 (2 + t)) ≤ 7) from hB 121 (2 + t)).2.2.1 (by omega)
        refine r_istore_n hL (lo' := [some (xR 120), some (xI t), some (xI u), some (xI z38)]) dX8_cost_39 (by decide) rfl ?_
        refine r_aload_n hL (x := 120) dX8_cost_40 rfl ?_
        refine r_callV hL (st := []) (av := []) (k := 120) (m_X8_notes (μ := μ) hB (fun μ41c hB41c hN41 => ⟨rfl, ?_⟩)) ce_yX8_notes im_yX8_notes se_yX8_notes ml_X8_165 xcl8 (by decide) s_120 dX8_cost_41 rfl (Nat.le_of_ble_eq_true rfl) ⟨Nat.le_of_ble_eq_true rfl, Nat.le_of_ble_eq_true rfl⟩ ⟨Nat.le_of_ble_eq_true rfl, Nat.le_of_ble_eq_true rfl⟩
        show X 0 0 WW μ41c 44 [some (xR 120), some (xI t), some (xI u), some (xI z38)] []
        have hF41c : Fr MF μ μ41c := hF.trans (hN41.1.sub (fun k j h => by unfold NT at h; unfold MF; omega))
        refine r_aload_n hL (x := 120) dX8_cost_44 rfl ?_
        refine r_getr hL xcl8 0 (by decide) s_120 (by decide) fl_X8_7 (by decide) f_120_0 dX8_cost_45 ?_
        refine r_iconst hL dX8_cost_48 ?_
        refine r_iload_n hL (x := t) dX8_cost_49 rfl ?_
        refine r_iadd hL dX8_cost_50 ?_
        refine r_iload_n hL (x := u) dX8_cost_51 rfl ?_
        refine r_iast hL dX8_cost_52 (by decide) s_121 (by decide) (by omega) (by omega) (by omega) (fun μ1 hm1 => ?_)
        have hB1 : BI μ1 := by rw [hm1]; exact hB41c.up (by show ((2 + t) = 0 → 0 ≤ u ∧ u ≤ 8) ∧ ((2 + t) = 1 → 0 ≤ u ∧ u ≤ 2) ∧ (2 ≤ (2 + t) ∧ (2 + t) ≤ 5 → 0 ≤ u ∧ u ≤ 9) ∧ (6 ≤ (2 + t) ∧ (2 + t) ≤ 13 → 0 ≤ u ∧ u ≤ 10) ∧ (30 ≤ (2 + t) → 0 ≤ u ∧ u ≤ 7); omega)
        have hF1 : Fr MF μ μ1 := by rw [hm1]; exact hF41c.up (by unfold MF; omega)
        refine r_iload_n hL (x := z38) dX8_cost_53 rfl ?_
        exact r_iret hL dX8_cost_54 rfl (hK _ _ hB1 hF1 (Or.inr ⟨by unfold okco; omega, hz38, μ41c, hN41, hm1⟩) (by omega))
      · skip
        refine r_ldc hL (n := -1000000002) dX8_cost_28 kc_X8_159 (by decide) ?_
        exact r_iret hL dX8_cost_30 rfl (hK _ _ hB hF (Or.inl ⟨by unfold okco; omega, rfl, rfl⟩) (by omega))
    · skip
      refine r_iconst hL dX8_cost_15 ?_
      refine r_goto hL (tgt := 20) dX8_cost_16 (by decide) ?_
      refine r_bipush hL dX8_cost_20 (by decide) ?_
      refine r_callS hL (st := []) (av := [xI u, xI 0, xI 9]) (m_X8_in (μ := μ) u (by omega) 0 (by omega) 9 (by omega) (fun z22 hc22 => ⟨rfl, ?_⟩)) ce_yX8_in sm_yX8_in ml_X8_62 dX8_cost_22 rfl (Nat.le_of_ble_eq_true rfl) ⟨Nat.le_of_ble_eq_true rfl, Nat.le_of_ble_eq_true rfl⟩ ⟨Nat.le_of_ble_eq_true rfl, Nat.le_of_ble_eq_true rfl⟩
      show X 0 0 WW μ 25 [some (xR 120), some (xI t), some (xI u), none] [xI z22]
      refine r_if_ne hL (tgt := 31) dX8_cost_25 (by decide) (by omega) (fun c25 => ?_) (fun c25 => ?_)
      · skip
        refine r_aload_n hL (x := 120) dX8_cost_31 rfl ?_
        refine r_getr hL xcl8 0 (by decide) s_120 (by decide) fl_X8_7 (by decide) f_120_0 dX8_cost_32 ?_
        refine r_iconst hL dX8_cost_35 ?_
        refine r_iload_n hL (x := t) dX8_cost_36 rfl ?_
        refine r_iadd hL dX8_cost_37 ?_
        refine r_iald hL dX8_cost_38 (by decide) s_121 (by decide) (by omega) (by omega) (fun hr38 => ?_)
        obtain ⟨z38, hz38⟩ : ∃ z, z = μ 121 (2 + t) := ⟨_, rfl⟩
        rw [← hz38] at hr38 ⊢
        have hb38 : 0 ≤ μ 121 (2 + t) ∧ μ 121 (2 + t) ≤ 9 := (show ((2 + t) = 0 → 0 ≤ (μ 121 (2 + t)) ∧ (μ 121 (2 + t)) ≤ 8) ∧ ((2 + t) = 1 → 0 ≤ (μ 121 (2 + t)) ∧ (μ 121 (2 + t)) ≤ 2) ∧ (2 ≤ (2 + t) ∧ (2 + t) ≤ 5 → 0 ≤ (μ 121 (2 + t)) ∧ (μ 121 (2 + t)) ≤ 9) ∧ (6 ≤ (2 + t) ∧ (2 + t) ≤ 13 → 0 ≤ (μ 121 (2 + t)) ∧ (μ 121 (2 + t)) ≤ 10) ∧ (30 ≤ (2 + t) → 0 ≤ (μ 121 (2 + t)) ∧ (μ 121 (2 + t)) ≤ 7) from hB 121 (2 + t)).2.2.1 (by omega)
        refine r_istore_n hL (lo' := [some (xR 120), some (xI t), some (xI u), some (xI z38)]) dX8_cost_39 (by decide) rfl ?_
        refine r_aload_n hL (x := 120) dX8_cost_40 rfl ?_
        refine r_callV hL (st := []) (av := []) (k := 120) (m_X8_notes (μ := μ) hB (fun μ41c hB41c hN41 => ⟨rfl, ?_⟩)) ce_yX8_notes im_yX8_notes se_yX8_notes ml_X8_165 xcl8 (by decide) s_120 dX8_cost_41 rfl (Nat.le_of_ble_eq_true rfl) ⟨Nat.le_of_ble_eq_true rfl, Nat.le_of_ble_eq_true rfl⟩ ⟨Nat.le_of_ble_eq_true rfl, Nat.le_of_ble_eq_true rfl⟩
        show X 0 0 WW μ41c 44 [some (xR 120), some (xI t), some (xI u), some (xI z38)] []
        have hF41c : Fr MF μ μ41c := hF.trans (hN41.1.sub (fun k j h => by unfold NT at h; unfold MF; omega))
        refine r_aload_n hL (x := 120) dX8_cost_44 rfl ?_
        refine r_getr hL xcl8 0 (by decide) s_120 (by decide) fl_X8_7 (by decide) f_120_0 dX8_cost_45 ?_
        refine r_iconst hL dX8_cost_48 ?_
        refine r_iload_n hL (x := t) dX8_cost_49 rfl ?_
        refine r_iadd hL dX8_cost_50 ?_
        refine r_iload_n hL (x := u) dX8_cost_51 rfl ?_
        refine r_iast hL dX8_cost_52 (by decide) s_121 (by decide) (by omega) (by omega) (by omega) (fun μ2 hm2 => ?_)
        have hB2 : BI μ2 := by rw [hm2]; exact hB41c.up (by show ((2 + t) = 0 → 0 ≤ u ∧ u ≤ 8) ∧ ((2 + t) = 1 → 0 ≤ u ∧ u ≤ 2) ∧ (2 ≤ (2 + t) ∧ (2 + t) ≤ 5 → 0 ≤ u ∧ u ≤ 9) ∧ (6 ≤ (2 + t) ∧ (2 + t) ≤ 13 → 0 ≤ u ∧ u ≤ 10) ∧ (30 ≤ (2 + t) → 0 ≤ u ∧ u ≤ 7); omega)
        have hF2 : Fr MF μ μ2 := by rw [hm2]; exact hF41c.up (by unfold MF; omega)
        refine r_iload_n hL (x := z38) dX8_cost_53 rfl ?_
        exact r_iret hL dX8_cost_54 rfl (hK _ _ hB2 hF2 (Or.inr ⟨by unfold okco; omega, hz38, μ41c, hN41, hm2⟩) (by omega))
      · skip
        refine r_ldc hL (n := -1000000002) dX8_cost_28 kc_X8_159 (by decide) ?_
        exact r_iret hL dX8_cost_30 rfl (hK _ _ hB hF (Or.inl ⟨by unfold okco; omega, rfl, rfl⟩) (by omega))

set_option maxHeartbeats 4000000 in
set_option maxRecDepth 20000 in
theorem m_X8_kind {K : Option xV → xW → xM → Prop} {μ : xM} (hB0 : BI μ) (t : Int) (ht : xrg t) (hK : ∀ r μ', BI μ' → Fr MF μ μ' → D_kind t μ r μ' → xrg r → K (some (xI r)) WW μ') : xMet yX8_kind cX8_kind 3 (some .int) 2 45 0 0 [xR 120, xI t] WW μ K := by
  refine xMet.go RX8 "kind" rfl rfl (by decide) [some (xR 120), some (xI t), none] (Nat.le_of_ble_eq_true rfl) rfl (fun X hL => ?_)
  have hB := hB0
  have hF : Fr MF μ μ := Fr.rf
  refine r_iload_n hL (x := t) dX8_kind_0 rfl ?_
  refine r_iconst hL dX8_kind_1 ?_
  refine r_iconst hL dX8_kind_2 ?_
  refine r_callS hL (st := []) (av := [xI t, xI 0, xI 2]) (m_X8_in (μ := μ) t (by omega) 0 (by omega) 2 (by omega) (fun z3 hc3 => ⟨rfl, ?_⟩)) ce_yX8_in sm_yX8_in ml_X8_62 dX8_kind_3 rfl (Nat.le_of_ble_eq_true rfl) ⟨Nat.le_of_ble_eq_true rfl, Nat.le_of_ble_eq_true rfl⟩ ⟨Nat.le_of_ble_eq_true rfl, Nat.le_of_ble_eq_true rfl⟩
  show X 0 0 WW μ 6 [some (xR 120), some (xI t), none] [xI z3]
  refine r_if_ne hL (tgt := 12) dX8_kind_6 (by decide) (by omega) (fun c6 => ?_) (fun c6 => ?_)
  · skip
    refine r_aload_n hL (x := 120) dX8_kind_12 rfl ?_
    refine r_getr hL xcl8 0 (by decide) s_120 (by decide) fl_X8_7 (by decide) f_120_0 dX8_kind_13 ?_
    refine r_iconst hL dX8_kind_16 ?_
    refine r_iald hL dX8_kind_17 (by decide) s_121 (by decide) (by omega) (by omega) (fun hr17 => ?_)
    obtain ⟨z17, hz17⟩ : ∃ z, z = μ 121 1 := ⟨_, rfl⟩
    rw [← hz17] at hr17 ⊢
    have hb17 : 0 ≤ μ 121 1 ∧ μ 121 1 ≤ 2 := (show ((1 : Int) = 0 → 0 ≤ (μ 121 1) ∧ (μ 121 1) ≤ 8) ∧ ((1 : Int) = 1 → 0 ≤ (μ 121 1) ∧ (μ 121 1) ≤ 2) ∧ (2 ≤ (1 : Int) ∧ (1 : Int) ≤ 5 → 0 ≤ (μ 121 1) ∧ (μ 121 1) ≤ 9) ∧ (6 ≤ (1 : Int) ∧ (1 : Int) ≤ 13 → 0 ≤ (μ 121 1) ∧ (μ 121 1) ≤ 10) ∧ (30 ≤ (1 : Int) → 0 ≤ (μ 121 1) ∧ (μ 121 1) ≤ 7) from hB 121 1).2.1 (by omega)
    refine r_istore_n hL (lo' := [some (xR 120), some (xI t), some (xI z17)]) dX8_kind_18 (by decide) rfl ?_
    refine r_aload_n hL (x := 120) dX8_kind_19 rfl ?_
    refine r_callV hL (st := []) (av := []) (k := 120) (m_X8_notes (μ := μ) hB (fun μ20c hB20c hN20 => ⟨rfl, ?_⟩)) ce_yX8_notes im_yX8_notes se_yX8_notes ml_X8_165 xcl8 (by decide) s_120 dX8_kind_20 rfl (Nat.le_of_ble_eq_true rfl) ⟨Nat.le_of_ble_eq_true rfl, Nat.le_of_ble_eq_true rfl⟩ ⟨Nat.le_of_ble_eq_true rfl, Nat.le_of_ble_eq_true rfl⟩
    show X 0 0 WW μ20c 23 [some (xR 120), some (xI t), some (xI z17)] []
    have hF20c : Fr MF μ μ20c := hF.trans (hN20.1.sub (fun k j h => by unfold NT at h; unfold MF; omega))
    refine r_aload_n hL (x := 120) dX8_kind_23 rfl ?_
    refine r_getr hL xcl8 0 (by decide) s_120 (by decide) fl_X8_7 (by decide) f_120_0 dX8_kind_24 ?_
    refine r_iconst hL dX8_kind_27 ?_
    refine r_iload_n hL (x := t) dX8_kind_28 rfl ?_
    refine r_iast hL dX8_kind_29 (by decide) s_121 (by decide) (by omega) (by omega) (by omega) (fun μ1 hm1 => ?_)
    have hB1 : BI μ1 := by rw [hm1]; exact hB20c.up (by show ((1 : Int) = 0 → 0 ≤ t ∧ t ≤ 8) ∧ ((1 : Int) = 1 → 0 ≤ t ∧ t ≤ 2) ∧ (2 ≤ (1 : Int) ∧ (1 : Int) ≤ 5 → 0 ≤ t ∧ t ≤ 9) ∧ (6 ≤ (1 : Int) ∧ (1 : Int) ≤ 13 → 0 ≤ t ∧ t ≤ 10) ∧ (30 ≤ (1 : Int) → 0 ≤ t ∧ t ≤ 7); omega)
    have hF1 : Fr MF μ μ1 := by rw [hm1]; exact hF20c.up (by unfold MF; omega)
    refine r_iload_n hL (x := z17) dX8_kind_30 rfl ?_
    exact r_iret hL dX8_kind_31 rfl (hK _ _ hB1 hF1 (Or.inr ⟨by omega, hz17, μ20c, hN20, hm1⟩) (by omega))
  · skip
    refine r_ldc hL (n := -1000000002) dX8_kind_9 kc_X8_159 (by decide) ?_
    exact r_iret hL dX8_kind_11 rfl (hK _ _ hB hF (Or.inl ⟨by omega, rfl, rfl⟩) (by omega))

set_option maxHeartbeats 4000000 in
set_option maxRecDepth 20000 in
theorem m_X8_road {K : Option xV → xW → xM → Prop} {μ : xM} (hB0 : BI μ) (t : Int) (ht : xrg t) (u : Int) (hu : xrg u) (v : Int) (hv : xrg v) (hK : ∀ r μ', BI μ' → Fr MF μ μ' → D_road t u v μ r μ' → xrg r → K (some (xI r)) WW μ') : xMet yX8_road cX8_road 6 (some .int) 2 45 0 0 [xR 120, xI t, xI u, xI v] WW μ K := by
  refine xMet.go RX8 "road" rfl rfl (by decide) [some (xR 120), some (xI t), some (xI u), some (xI v), none, none] (Nat.le_of_ble_eq_true rfl) rfl (fun X hL => ?_)
  have hB := hB0
  have hF : Fr MF μ μ := Fr.rf
  refine r_iload_n hL (x := t) dX8_road_0 rfl ?_
  refine r_callS hL (st := []) (av := [xI t]) (m_X8_isPlace (μ := μ) t (by omega) (fun z1 hc1 => ⟨rfl, ?_⟩)) ce_yX8_isPlace sm_yX8_isPlace ml_X8_202 dX8_road_1 rfl (Nat.le_of_ble_eq_true rfl) ⟨Nat.le_of_ble_eq_true rfl, Nat.le_of_ble_eq_true rfl⟩ ⟨Nat.le_of_ble_eq_true rfl, Nat.le_of_ble_eq_true rfl⟩
  show X 0 0 WW μ 4 [some (xR 120), some (xI t), some (xI u), some (xI v), none, none] [xI z1]
  refine r_if_eq hL (tgt := 19) dX8_road_4 (by decide) (by omega) (fun c4 => ?_) (fun c4 => ?_)
  · skip
    refine r_ldc hL (n := -1000000001) dX8_road_19 kc_X8_183 (by decide) ?_
    exact r_iret hL dX8_road_21 rfl (hK _ _ hB hF (Or.inl ⟨by unfold okro; omega, rfl, rfl⟩) (by omega))
  · skip
    refine r_iload_n hL (x := u) dX8_road_7 rfl ?_
    refine r_callS hL (st := []) (av := [xI u]) (m_X8_isPlace (μ := μ) u (by omega) (fun z8 hc8 => ⟨rfl, ?_⟩)) ce_yX8_isPlace sm_yX8_isPlace ml_X8_202 dX8_road_8 rfl (Nat.le_of_ble_eq_true rfl) ⟨Nat.le_of_ble_eq_true rfl, Nat.le_of_ble_eq_true rfl⟩ ⟨Nat.le_of_ble_eq_true rfl, Nat.le_of_ble_eq_true rfl⟩
    show X 0 0 WW μ 11 [some (xR 120), some (xI t), some (xI u), some (xI v), none, none] [xI z8]
    refine r_if_eq hL (tgt := 19) dX8_road_11 (by decide) (by omega) (fun c11 => ?_) (fun c11 => ?_)
    · skip
      refine r_ldc hL (n := -1000000001) dX8_road_19 kc_X8_183 (by decide) ?_
      exact r_iret hL dX8_road_21 rfl (hK _ _ hB hF (Or.inl ⟨by unfold okro; omega, rfl, rfl⟩) (by omega))
    · skip
      refine r_iload_n hL (x := t) dX8_road_14 rfl ?_
      refine r_iload_n hL (x := u) dX8_road_15 rfl ?_
      refine r_icmp_ne hL (tgt := 22) dX8_road_16 (by decide) (by omega) (by omega) (fun c16 => ?_) (fun c16 => ?_)
      · skip
        refine r_aload_n hL (x := 120) dX8_road_22 rfl ?_
        refine r_callV hL (st := []) (av := []) (k := 120) (m_X8_notes (μ := μ) hB (fun μ23c hB23c hN23 => ⟨rfl, ?_⟩)) ce_yX8_notes im_yX8_notes se_yX8_notes ml_X8_165 xcl8 (by decide) s_120 dX8_road_23 rfl (Nat.le_of_ble_eq_true rfl) ⟨Nat.le_of_ble_eq_true rfl, Nat.le_of_ble_eq_true rfl⟩ ⟨Nat.le_of_ble_eq_true rfl, Nat.le_of_ble_eq_true rfl⟩
        show X 0 0 WW μ23c 26 [some (xR 120), some (xI t), some (xI u), some (xI v), none, none] []
        have hF23c : Fr MF μ μ23c := hF.trans (hN23.1.sub (fun k j h => by unfold NT at h; unfold MF; omega))
        refine r_aload_n hL (x := 120) dX8_road_26 rfl ?_
        refine r_getr hL xcl8 0 (by decide) s_120 (by decide) fl_X8_7 (by decide) f_120_0 dX8_road_27 ?_
        refine r_bipush hL dX8_road_30 (by decide) ?_
        refine r_iload_n hL (x := t) dX8_road_32 rfl ?_
        refine r_iadd hL dX8_road_33 ?_
        refine r_iload_n hL (x := v) dX8_road_34 rfl ?_
        refine r_if_eq hL (tgt := 54) dX8_road_35 (by decide) (by omega) (fun c35 => ?_) (fun c35 => ?_)
        · skip
          refine r_aload_n hL (x := 120) dX8_road_54 rfl ?_
          refine r_getr hL xcl8 0 (by decide) s_120 (by decide) fl_X8_7 (by decide) f_120_0 dX8_road_55 ?_
          refine r_bipush hL dX8_road_58 (by decide) ?_
          refine r_iload_n hL (x := t) dX8_road_60 rfl ?_
          refine r_iadd hL dX8_road_61 ?_
          refine r_iald hL dX8_road_62 (by decide) s_121 (by decide) (by omega) (by omega) (fun hr62 => ?_)
          obtain ⟨z62, hz62⟩ : ∃ z, z = μ23c 121 (22 + t) := ⟨_, rfl⟩
          rw [← hz62] at hr62 ⊢
          refine r_iconst hL dX8_road_63 ?_
          refine r_iload_n hL (x := u) dX8_road_64 rfl ?_
          refine r_ishl hL dX8_road_65 ?_
          obtain ⟨z65, hz65⟩ : ∃ z, z = xshl 1 u := ⟨_, rfl⟩
          rw [← hz65]
          have hr65 : xrg z65 := by rw [hz65]; exact xshl_rg _ _
          refine r_iconst hL dX8_road_66 ?_
          refine r_ixor hL dX8_road_67 ?_
          obtain ⟨z67, hz67⟩ : ∃ z, z = xxor z65 (-1) := ⟨_, rfl⟩
          rw [← hz67]
          have hr67 : xrg z67 := by rw [hz67]; exact xxor_rg _ _
          refine r_iand hL dX8_road_68 ?_
          obtain ⟨z68, hz68⟩ : ∃ z, z = xand z62 z67 := ⟨_, rfl⟩
          rw [← hz68]
          have hr68 : xrg z68 := by rw [hz68]; exact xand_rg _ _
          refine r_iast hL dX8_road_69 (by decide) s_121 (by decide) (by omega) (by omega) (by omega) (fun μ1 hm1 => ?_)
          have hB1 : BI μ1 := by rw [hm1]; exact hB23c.up (by show ((22 + t) = 0 → 0 ≤ z68 ∧ z68 ≤ 8) ∧ ((22 + t) = 1 → 0 ≤ z68 ∧ z68 ≤ 2) ∧ (2 ≤ (22 + t) ∧ (22 + t) ≤ 5 → 0 ≤ z68 ∧ z68 ≤ 9) ∧ (6 ≤ (22 + t) ∧ (22 + t) ≤ 13 → 0 ≤ z68 ∧ z68 ≤ 10) ∧ (30 ≤ (22 + t) → 0 ≤ z68 ∧ z68 ≤ 7); omega)
          have hF1 : Fr MF μ μ1 := by rw [hm1]; exact hF23c.up (by unfold MF; omega)
          have hs1 : ∀ j, μ1 121 j = if j = 22 + t then srd v (μ23c 121 (22 + t)) u else μ23c 121 j := fun j => by first | (rw [hm1, hz50, hz46, hz49]; simp [xup, srd, c35]; done) | (rw [hm1, hz68, hz62, hz67, hz65]; simp [xup, srd, c35]; done)
          have hf1 : Fr F121 μ23c μ1 := by rw [hm1]; exact Fr.rf.up (by unfold F121; omega)
          refine r_aload_n hL (x := 120) dX8_road_70 rfl ?_
          refine r_getr hL xcl8 0 (by decide) s_120 (by decide) fl_X8_7 (by decide) f_120_0 dX8_road_71 ?_
          refine r_bipush hL dX8_road_74 (by decide) ?_
          refine r_iload_n hL (x := u) dX8_road_76 rfl ?_
          refine r_iadd hL dX8_road_77 ?_
          refine r_iload_n hL (x := v) dX8_road_78 rfl ?_
          refine r_if_eq hL (tgt := 98) dX8_road_79 (by decide) (by omega) (fun c79 => ?_) (fun c79 => ?_)
          · skip
            refine r_aload_n hL (x := 120) dX8_road_98 rfl ?_
            refine r_getr hL xcl8 0 (by decide) s_120 (by decide) fl_X8_7 (by decide) f_120_0 dX8_road_99 ?_
            refine r_bipush hL dX8_road_102 (by decide) ?_
            refine r_iload_n hL (x := u) dX8_road_104 rfl ?_
            refine r_iadd hL dX8_road_105 ?_
            refine r_iald hL dX8_road_106 (by decide) s_121 (by decide) (by omega) (by omega) (fun hr106 => ?_)
            obtain ⟨z106, hz106⟩ : ∃ z, z = μ1 121 (22 + u) := ⟨_, rfl⟩
            rw [← hz106] at hr106 ⊢
            refine r_iconst hL dX8_road_107 ?_
            refine r_iload_n hL (x := t) dX8_road_108 rfl ?_
            refine r_ishl hL dX8_road_109 ?_
            obtain ⟨z109, hz109⟩ : ∃ z, z = xshl 1 t := ⟨_, rfl⟩
            rw [← hz109]
            have hr109 : xrg z109 := by rw [hz109]; exact xshl_rg _ _
            refine r_iconst hL dX8_road_110 ?_
            refine r_ixor hL dX8_road_111 ?_
            obtain ⟨z111, hz111⟩ : ∃ z, z = xxor z109 (-1) := ⟨_, rfl⟩
            rw [← hz111]
            have hr111 : xrg z111 := by rw [hz111]; exact xxor_rg _ _
            refine r_iand hL dX8_road_112 ?_
            obtain ⟨z112, hz112⟩ : ∃ z, z = xand z106 z111 := ⟨_, rfl⟩
            rw [← hz112]
            have hr112 : xrg z112 := by rw [hz112]; exact xand_rg _ _
            refine r_iast hL dX8_road_113 (by decide) s_121 (by decide) (by omega) (by omega) (by omega) (fun μ2 hm2 => ?_)
            have hB2 : BI μ2 := by rw [hm2]; exact hB1.up (by show ((22 + u) = 0 → 0 ≤ z112 ∧ z112 ≤ 8) ∧ ((22 + u) = 1 → 0 ≤ z112 ∧ z112 ≤ 2) ∧ (2 ≤ (22 + u) ∧ (22 + u) ≤ 5 → 0 ≤ z112 ∧ z112 ≤ 9) ∧ (6 ≤ (22 + u) ∧ (22 + u) ≤ 13 → 0 ≤ z112 ∧ z112 ≤ 10) ∧ (30 ≤ (22 + u) → 0 ≤ z112 ∧ z112 ≤ 7); omega)
            have hF2 : Fr MF μ μ2 := by rw [hm2]; exact hF1.up (by unfold MF; omega)
            have hs2 : ∀ j, μ2 121 j = if j = 22 + u then srd v (μ23c 121 (22 + u)) t else if j = 22 + t then srd v (μ23c 121 (22 + t)) u else μ23c 121 j := fun j => by first | exact absurd c35 c79 | exact absurd c79 c35 | (rw [hm2, hz94, hz90, hz93, hs1 (22 + u), if_neg (by omega)]; simp only [xup, true_and, hs1 j]; simp [srd, c35]; done) | (rw [hm2, hz112, hz106, hz111, hz109, hs1 (22 + u), if_neg (by omega)]; simp only [xup, true_and, hs1 j]; simp [srd, c35]; done)
            have hf2 : Fr F121 μ23c μ2 := by rw [hm2]; exact hf1.up (by unfold F121; omega)
            refine r_iconst hL dX8_road_114 ?_
            refine r_istore hL (lo' := [some (xR 120), some (xI t), some (xI u), some (xI v), some (xI 0), none]) dX8_road_115 (by decide) rfl ?_
            refine r_iconst hL dX8_road_117 ?_
            refine r_istore hL (lo' := [some (xR 120), some (xI t), some (xI u), some (xI v), some (xI 0), some (xI 0)]) dX8_road_118 (by decide) rfl ?_
            have lp120 : ∀ (n120 : Nat) (n : Int) (k : Int), (n = sumf (fun k => xonf (μ2 121 (22 + k)) 8) k.toNat ∧ 0 ≤ n ∧ n ≤ 8 * k) → (0 ≤ k ∧ k ≤ 8) → ((8 - k).toNat) < n120 → X 0 0 WW μ2 120 [some (xR 120), some (xI t), some (xI u), some (xI v), some (xI n), some (xI k)] [] := by
              intro n120
              induction n120 with
              | zero => intro n k h1 h2 hn; exact absurd hn (Nat.not_lt_zero _)
              | succ n120 ih120 =>
                intro n k h1 h2 hn120
                refine r_iload hL (x := k) dX8_road_120 rfl ?_
                refine r_bipush hL dX8_road_122 (by decide) ?_
                refine r_icmp_ge hL (tgt := 151) dX8_road_124 (by decide) (by omega) (by omega) (fun c124 => ?_) (fun c124 => ?_)
                · skip
                  refine r_iload hL (x := n) dX8_road_151 rfl ?_
                  refine r_iconst hL dX8_road_153 ?_
                  refine r_idiv hL dX8_road_154 (by omega) (by omega) ?_
                  obtain ⟨z154, hz154⟩ : ∃ z, z = xdiv n 2 := ⟨_, rfl⟩
                  rw [← hz154]
                  have hr154 : xrg z154 := by rw [hz154]; exact xdiv_rg _ _
                  have hq154 := xdiv_nn (x := n) (y := 2) (by omega) (by omega) (by omega) (by omega)
                  rw [← hz154] at hq154
                  exact r_iret hL dX8_road_155 rfl (hK _ _ hB2 hF2 (Or.inr ⟨by unfold okro; omega, by rw [hq154, h1.1, show k = 8 by omega]; rfl, μ23c, hN23, hf2, hs2⟩) (by omega))
                · skip
                  refine r_iload hL (x := n) dX8_road_127 rfl ?_
                  refine r_aload_n hL (x := 120) dX8_road_129 rfl ?_
                  refine r_getr hL xcl8 0 (by decide) s_120 (by decide) fl_X8_7 (by decide) f_120_0 dX8_road_130 ?_
                  refine r_bipush hL dX8_road_133 (by decide) ?_
                  refine r_iload hL (x := k) dX8_road_135 rfl ?_
                  refine r_iadd hL dX8_road_137 ?_
                  refine r_iald hL dX8_road_138 (by decide) s_121 (by decide) (by omega) (by omega) (fun hr138 => ?_)
                  obtain ⟨z138, hz138⟩ : ∃ z, z = μ2 121 (22 + k) := ⟨_, rfl⟩
                  rw [← hz138] at hr138 ⊢
                  refine r_callS hL (st := [xI n]) (av := [xI z138]) (m_X8_ones (μ := μ2) z138 (fun z139 hc139 hc139_1 => ⟨rfl, ?_⟩)) ce_yX8_ones sm_yX8_ones ml_X8_121 dX8_road_139 rfl (Nat.le_of_ble_eq_true rfl) ⟨Nat.le_of_ble_eq_true rfl, Nat.le_of_ble_eq_true rfl⟩ ⟨Nat.le_of_ble_eq_true rfl, Nat.le_of_ble_eq_true rfl⟩
                  show X 0 0 WW μ2 142 [some (xR 120), some (xI t), some (xI u), some (xI v), some (xI n), some (xI k)] [xI z139, xI n]
                  refine r_iadd hL dX8_road_142 ?_
                  refine r_istore hL (lo' := [some (xR 120), some (xI t), some (xI u), some (xI v), some (xI (n + z139)), some (xI k)]) dX8_road_143 (by decide) rfl ?_
                  refine r_iinc hL (x := k) (lo' := [some (xR 120), some (xI t), some (xI u), some (xI v), some (xI (n + z139)), some (xI (k + 1))]) dX8_road_145 (by decide) rfl rfl ?_
                  refine r_goto hL (tgt := 120) dX8_road_148 (by decide) ?_
                  exact ih120 (n + z139) (k + 1) ⟨by rw [show (k + 1).toNat = k.toNat + 1 by omega]; show _ = sumf _ k.toNat + xonf (μ2 121 (22 + (k.toNat : Int))) 8; rw [Int.toNat_of_nonneg h2.1, ← hz138, ← hc139, h1.1], by omega, by omega⟩ (by omega) (by omega)
            exact lp120 _ 0 0 ⟨rfl, by omega, by omega⟩ (by omega) (Nat.lt_succ_self _)
          · skip
            refine r_aload_n hL (x := 120) dX8_road_82 rfl ?_
            refine r_getr hL xcl8 0 (by decide) s_120 (by decide) fl_X8_7 (by decide) f_120_0 dX8_road_83 ?_
            refine r_bipush hL dX8_road_86 (by decide) ?_
            refine r_iload_n hL (x := u) dX8_road_88 rfl ?_
            refine r_iadd hL dX8_road_89 ?_
            refine r_iald hL dX8_road_90 (by decide) s_121 (by decide) (by omega) (by omega) (fun hr90 => ?_)
            obtain ⟨z90, hz90⟩ : ∃ z, z = μ1 121 (22 + u) := ⟨_, rfl⟩
            rw [← hz90] at hr90 ⊢
            refine r_iconst hL dX8_road_91 ?_
            refine r_iload_n hL (x := t) dX8_road_92 rfl ?_
            refine r_ishl hL dX8_road_93 ?_
            obtain ⟨z93, hz93⟩ : ∃ z, z = xshl 1 t := ⟨_, rfl⟩
            rw [← hz93]
            have hr93 : xrg z93 := by rw [hz93]; exact xshl_rg _ _
            refine r_ior hL dX8_road_94 ?_
            obtain ⟨z94, hz94⟩ : ∃ z, z = xor' z90 z93 := ⟨_, rfl⟩
            rw [← hz94]
            have hr94 : xrg z94 := by rw [hz94]; exact xor_rg _ _
            refine r_goto hL (tgt := 113) dX8_road_95 (by decide) ?_
            refine r_iast hL dX8_road_113 (by decide) s_121 (by decide) (by omega) (by omega) (by omega) (fun μ3 hm3 => ?_)
            have hB3 : BI μ3 := by rw [hm3]; exact hB1.up (by show ((22 + u) = 0 → 0 ≤ z94 ∧ z94 ≤ 8) ∧ ((22 + u) = 1 → 0 ≤ z94 ∧ z94 ≤ 2) ∧ (2 ≤ (22 + u) ∧ (22 + u) ≤ 5 → 0 ≤ z94 ∧ z94 ≤ 9) ∧ (6 ≤ (22 + u) ∧ (22 + u) ≤ 13 → 0 ≤ z94 ∧ z94 ≤ 10) ∧ (30 ≤ (22 + u) → 0 ≤ z94 ∧ z94 ≤ 7); omega)
            have hF3 : Fr MF μ μ3 := by rw [hm3]; exact hF1.up (by unfold MF; omega)
            have hs2 : ∀ j, μ3 121 j = if j = 22 + u then srd v (μ23c 121 (22 + u)) t else if j = 22 + t then srd v (μ23c 121 (22 + t)) u else μ23c 121 j := fun j => by first | exact absurd c35 c79 | exact absurd c79 c35 | (rw [hm3, hz94, hz90, hz93, hs1 (22 + u), if_neg (by omega)]; simp only [xup, true_and, hs1 j]; simp [srd, c35]; done) | (rw [hm3, hz112, hz106, hz111, hz109, hs1 (22 + u), if_neg (by omega)]; simp only [xup, true_and, hs1 j]; simp [srd, c35]; done)
            have hf2 : Fr F121 μ23c μ3 := by rw [hm3]; exact hf1.up (by unfold F121; omega)
            refine r_iconst hL dX8_road_114 ?_
            refine r_istore hL (lo' := [some (xR 120), some (xI t), some (xI u), some (xI v), some (xI 0), none]) dX8_road_115 (by decide) rfl ?_
            refine r_iconst hL dX8_road_117 ?_
            refine r_istore hL (lo' := [some (xR 120), some (xI t), some (xI u), some (xI v), some (xI 0), some (xI 0)]) dX8_road_118 (by decide) rfl ?_
            have lp120 : ∀ (n120 : Nat) (n : Int) (k : Int), (n = sumf (fun k => xonf (μ3 121 (22 + k)) 8) k.toNat ∧ 0 ≤ n ∧ n ≤ 8 * k) → (0 ≤ k ∧ k ≤ 8) → ((8 - k).toNat) < n120 → X 0 0 WW μ3 120 [some (xR 120), some (xI t), some (xI u), some (xI v), some (xI n), some (xI k)] [] := by
              intro n120
              induction n120 with
              | zero => intro n k h1 h2 hn; exact absurd hn (Nat.not_lt_zero _)
              | succ n120 ih120 =>
                intro n k h1 h2 hn120
                refine r_iload hL (x := k) dX8_road_120 rfl ?_
                refine r_bipush hL dX8_road_122 (by decide) ?_
                refine r_icmp_ge hL (tgt := 151) dX8_road_124 (by decide) (by omega) (by omega) (fun c124 => ?_) (fun c124 => ?_)
                · skip
                  refine r_iload hL (x := n) dX8_road_151 rfl ?_
                  refine r_iconst hL dX8_road_153 ?_
                  refine r_idiv hL dX8_road_154 (by omega) (by omega) ?_
                  obtain ⟨z154, hz154⟩ : ∃ z, z = xdiv n 2 := ⟨_, rfl⟩
                  rw [← hz154]
                  have hr154 : xrg z154 := by rw [hz154]; exact xdiv_rg _ _
                  have hq154 := xdiv_nn (x := n) (y := 2) (by omega) (by omega) (by omega) (by omega)
                  rw [← hz154] at hq154
                  exact r_iret hL dX8_road_155 rfl (hK _ _ hB3 hF3 (Or.inr ⟨by unfold okro; omega, by rw [hq154, h1.1, show k = 8 by omega]; rfl, μ23c, hN23, hf2, hs2⟩) (by omega))
                · skip
                  refine r_iload hL (x := n) dX8_road_127 rfl ?_
                  refine r_aload_n hL (x := 120) dX8_road_129 rfl ?_
                  refine r_getr hL xcl8 0 (by decide) s_120 (by decide) fl_X8_7 (by decide) f_120_0 dX8_road_130 ?_
                  refine r_bipush hL dX8_road_133 (by decide) ?_
                  refine r_iload hL (x := k) dX8_road_135 rfl ?_
                  refine r_iadd hL dX8_road_137 ?_
                  refine r_iald hL dX8_road_138 (by decide) s_121 (by decide) (by omega) (by omega) (fun hr138 => ?_)
                  obtain ⟨z138, hz138⟩ : ∃ z, z = μ3 121 (22 + k) := ⟨_, rfl⟩
                  rw [← hz138] at hr138 ⊢
                  refine r_callS hL (st := [xI n]) (av := [xI z138]) (m_X8_ones (μ := μ3) z138 (fun z139 hc139 hc139_1 => ⟨rfl, ?_⟩)) ce_yX8_ones sm_yX8_ones ml_X8_121 dX8_road_139 rfl (Nat.le_of_ble_eq_true rfl) ⟨Nat.le_of_ble_eq_true rfl, Nat.le_of_ble_eq_true rfl⟩ ⟨Nat.le_of_ble_eq_true rfl, Nat.le_of_ble_eq_true rfl⟩
                  show X 0 0 WW μ3 142 [some (xR 120), some (xI t), some (xI u), some (xI v), some (xI n), some (xI k)] [xI z139, xI n]
                  refine r_iadd hL dX8_road_142 ?_
                  refine r_istore hL (lo' := [some (xR 120), some (xI t), some (xI u), some (xI v), some (xI (n + z139)), some (xI k)]) dX8_road_143 (by decide) rfl ?_
                  refine r_iinc hL (x := k) (lo' := [some (xR 120), some (xI t), some (xI u), some (xI v), some (xI (n + z139)), some (xI (k + 1))]) dX8_road_145 (by decide) rfl rfl ?_
                  refine r_goto hL (tgt := 120) dX8_road_148 (by decide) ?_
                  exact ih120 (n + z139) (k + 1) ⟨by rw [show (k + 1).toNat = k.toNat + 1 by omega]; show _ = sumf _ k.toNat + xonf (μ3 121 (22 + (k.toNat : Int))) 8; rw [Int.toNat_of_nonneg h2.1, ← hz138, ← hc139, h1.1], by omega, by omega⟩ (by omega) (by omega)
            exact lp120 _ 0 0 ⟨rfl, by omega, by omega⟩ (by omega) (Nat.lt_succ_self _)
        · skip
          refine r_aload_n hL (x := 120) dX8_road_38 rfl ?_
          refine r_getr hL xcl8 0 (by decide) s_120 (by decide) fl_X8_7 (by decide) f_120_0 dX8_road_39 ?_
          refine r_bipush hL dX8_road_42 (by decide) ?_
          refine r_iload_n hL (x := t) dX8_road_44 rfl ?_
          refine r_iadd hL dX8_road_45 ?_
          refine r_iald hL dX8_road_46 (by decide) s_121 (by decide) (by omega) (by omega) (fun hr46 => ?_)
          obtain ⟨z46, hz46⟩ : ∃ z, z = μ23c 121 (22 + t) := ⟨_, rfl⟩
          rw [← hz46] at hr46 ⊢
          refine r_iconst hL dX8_road_47 ?_
          refine r_iload_n hL (x := u) dX8_road_48 rfl ?_
          refine r_ishl hL dX8_road_49 ?_
          obtain ⟨z49, hz49⟩ : ∃ z, z = xshl 1 u := ⟨_, rfl⟩
          rw [← hz49]
          have hr49 : xrg z49 := by rw [hz49]; exact xshl_rg _ _
          refine r_ior hL dX8_road_50 ?_
          obtain ⟨z50, hz50⟩ : ∃ z, z = xor' z46 z49 := ⟨_, rfl⟩
          rw [← hz50]
          have hr50 : xrg z50 := by rw [hz50]; exact xor_rg _ _
          refine r_goto hL (tgt := 69) dX8_road_51 (by decide) ?_
          refine r_iast hL dX8_road_69 (by decide) s_121 (by decide) (by omega) (by omega) (by omega) (fun μ4 hm4 => ?_)
          have hB4 : BI μ4 := by rw [hm4]; exact hB23c.up (by show ((22 + t) = 0 → 0 ≤ z50 ∧ z50 ≤ 8) ∧ ((22 + t) = 1 → 0 ≤ z50 ∧ z50 ≤ 2) ∧ (2 ≤ (22 + t) ∧ (22 + t) ≤ 5 → 0 ≤ z50 ∧ z50 ≤ 9) ∧ (6 ≤ (22 + t) ∧ (22 + t) ≤ 13 → 0 ≤ z50 ∧ z50 ≤ 10) ∧ (30 ≤ (22 + t) → 0 ≤ z50 ∧ z50 ≤ 7); omega)
          have hF4 : Fr MF μ μ4 := by rw [hm4]; exact hF23c.up (by unfold MF; omega)
          have hs1 : ∀ j, μ4 121 j = if j = 22 + t then srd v (μ23c 121 (22 + t)) u else μ23c 121 j := fun j => by first | (rw [hm4, hz50, hz46, hz49]; simp [xup, srd, c35]; done) | (rw [hm4, hz68, hz62, hz67, hz65]; simp [xup, srd, c35]; done)
          have hf1 : Fr F121 μ23c μ4 := by rw [hm4]; exact Fr.rf.up (by unfold F121; omega)
          refine r_aload_n hL (x := 120) dX8_road_70 rfl ?_
          refine r_getr hL xcl8 0 (by decide) s_120 (by decide) fl_X8_7 (by decide) f_120_0 dX8_road_71 ?_
          refine r_bipush hL dX8_road_74 (by decide) ?_
          refine r_iload_n hL (x := u) dX8_road_76 rfl ?_
          refine r_iadd hL dX8_road_77 ?_
          refine r_iload_n hL (x := v) dX8_road_78 rfl ?_
          refine r_if_eq hL (tgt := 98) dX8_road_79 (by decide) (by omega) (fun c79 => ?_) (fun c79 => ?_)
          · skip
            refine r_aload_n hL (x := 120) dX8_road_98 rfl ?_
            refine r_getr hL xcl8 0 (by decide) s_120 (by decide) fl_X8_7 (by decide) f_120_0 dX8_road_99 ?_
            refine r_bipush hL dX8_road_102 (by decide) ?_
            refine r_iload_n hL (x := u) dX8_road_104 rfl ?_
            refine r_iadd hL dX8_road_105 ?_
            refine r_iald hL dX8_road_106 (by decide) s_121 (by decide) (by omega) (by omega) (fun hr106 => ?_)
            obtain ⟨z106, hz106⟩ : ∃ z, z = μ4 121 (22 + u) := ⟨_, rfl⟩
            rw [← hz106] at hr106 ⊢
            refine r_iconst hL dX8_road_107 ?_
            refine r_iload_n hL (x := t) dX8_road_108 rfl ?_
            refine r_ishl hL dX8_road_109 ?_
            obtain ⟨z109, hz109⟩ : ∃ z, z = xshl 1 t := ⟨_, rfl⟩
            rw [← hz109]
            have hr109 : xrg z109 := by rw [hz109]; exact xshl_rg _ _
            refine r_iconst hL dX8_road_110 ?_
            refine r_ixor hL dX8_road_111 ?_
            obtain ⟨z111, hz111⟩ : ∃ z, z = xxor z109 (-1) := ⟨_, rfl⟩
            rw [← hz111]
            have hr111 : xrg z111 := by rw [hz111]; exact xxor_rg _ _
            refine r_iand hL dX8_road_112 ?_
            obtain ⟨z112, hz112⟩ : ∃ z, z = xand z106 z111 := ⟨_, rfl⟩
            rw [← hz112]
            have hr112 : xrg z112 := by rw [hz112]; exact xand_rg _ _
            refine r_iast hL dX8_road_113 (by decide) s_121 (by decide) (by omega) (by omega) (by omega) (fun μ5 hm5 => ?_)
            have hB5 : BI μ5 := by rw [hm5]; exact hB4.up (by show ((22 + u) = 0 → 0 ≤ z112 ∧ z112 ≤ 8) ∧ ((22 + u) = 1 → 0 ≤ z112 ∧ z112 ≤ 2) ∧ (2 ≤ (22 + u) ∧ (22 + u) ≤ 5 → 0 ≤ z112 ∧ z112 ≤ 9) ∧ (6 ≤ (22 + u) ∧ (22 + u) ≤ 13 → 0 ≤ z112 ∧ z112 ≤ 10) ∧ (30 ≤ (22 + u) → 0 ≤ z112 ∧ z112 ≤ 7); omega)
            have hF5 : Fr MF μ μ5 := by rw [hm5]; exact hF4.up (by unfold MF; omega)
            have hs2 : ∀ j, μ5 121 j = if j = 22 + u then srd v (μ23c 121 (22 + u)) t else if j = 22 + t then srd v (μ23c 121 (22 + t)) u else μ23c 121 j := fun j => by first | exact absurd c35 c79 | exact absurd c79 c35 | (rw [hm5, hz94, hz90, hz93, hs1 (22 + u), if_neg (by omega)]; simp only [xup, true_and, hs1 j]; simp [srd, c35]; done) | (rw [hm5, hz112, hz106, hz111, hz109, hs1 (22 + u), if_neg (by omega)]; simp only [xup, true_and, hs1 j]; simp [srd, c35]; done)
            have hf2 : Fr F121 μ23c μ5 := by rw [hm5]; exact hf1.up (by unfold F121; omega)
            refine r_iconst hL dX8_road_114 ?_
            refine r_istore hL (lo' := [some (xR 120), some (xI t), some (xI u), some (xI v), some (xI 0), none]) dX8_road_115 (by decide) rfl ?_
            refine r_iconst hL dX8_road_117 ?_
            refine r_istore hL (lo' := [some (xR 120), some (xI t), some (xI u), some (xI v), some (xI 0), some (xI 0)]) dX8_road_118 (by decide) rfl ?_
            have lp120 : ∀ (n120 : Nat) (n : Int) (k : Int), (n = sumf (fun k => xonf (μ5 121 (22 + k)) 8) k.toNat ∧ 0 ≤ n ∧ n ≤ 8 * k) → (0 ≤ k ∧ k ≤ 8) → ((8 - k).toNat) < n120 → X 0 0 WW μ5 120 [some (xR 120), some (xI t), some (xI u), some (xI v), some (xI n), some (xI k)] [] := by
              intro n120
              induction n120 with
              | zero => intro n k h1 h2 hn; exact absurd hn (Nat.not_lt_zero _)
              | succ n120 ih120 =>
                intro n k h1 h2 hn120
                refine r_iload hL (x := k) dX8_road_120 rfl ?_
                refine r_bipush hL dX8_road_122 (by decide) ?_
                refine r_icmp_ge hL (tgt := 151) dX8_road_124 (by decide) (by omega) (by omega) (fun c124 => ?_) (fun c124 => ?_)
                · skip
                  refine r_iload hL (x := n) dX8_road_151 rfl ?_
                  refine r_iconst hL dX8_road_153 ?_
                  refine r_idiv hL dX8_road_154 (by omega) (by omega) ?_
                  obtain ⟨z154, hz154⟩ : ∃ z, z = xdiv n 2 := ⟨_, rfl⟩
                  rw [← hz154]
                  have hr154 : xrg z154 := by rw [hz154]; exact xdiv_rg _ _
                  have hq154 := xdiv_nn (x := n) (y := 2) (by omega) (by omega) (by omega) (by omega)
                  rw [← hz154] at hq154
                  exact r_iret hL dX8_road_155 rfl (hK _ _ hB5 hF5 (Or.inr ⟨by unfold okro; omega, by rw [hq154, h1.1, show k = 8 by omega]; rfl, μ23c, hN23, hf2, hs2⟩) (by omega))
                · skip
                  refine r_iload hL (x := n) dX8_road_127 rfl ?_
                  refine r_aload_n hL (x := 120) dX8_road_129 rfl ?_
                  refine r_getr hL xcl8 0 (by decide) s_120 (by decide) fl_X8_7 (by decide) f_120_0 dX8_road_130 ?_
                  refine r_bipush hL dX8_road_133 (by decide) ?_
                  refine r_iload hL (x := k) dX8_road_135 rfl ?_
                  refine r_iadd hL dX8_road_137 ?_
                  refine r_iald hL dX8_road_138 (by decide) s_121 (by decide) (by omega) (by omega) (fun hr138 => ?_)
                  obtain ⟨z138, hz138⟩ : ∃ z, z = μ5 121 (22 + k) := ⟨_, rfl⟩
                  rw [← hz138] at hr138 ⊢
                  refine r_callS hL (st := [xI n]) (av := [xI z138]) (m_X8_ones (μ := μ5) z138 (fun z139 hc139 hc139_1 => ⟨rfl, ?_⟩)) ce_yX8_ones sm_yX8_ones ml_X8_121 dX8_road_139 rfl (Nat.le_of_ble_eq_true rfl) ⟨Nat.le_of_ble_eq_true rfl, Nat.le_of_ble_eq_true rfl⟩ ⟨Nat.le_of_ble_eq_true rfl, Nat.le_of_ble_eq_true rfl⟩
                  show X 0 0 WW μ5 142 [some (xR 120), some (xI t), some (xI u), some (xI v), some (xI n), some (xI k)] [xI z139, xI n]
                  refine r_iadd hL dX8_road_142 ?_
                  refine r_istore hL (lo' := [some (xR 120), some (xI t), some (xI u), some (xI v), some (xI (n + z139)), some (xI k)]) dX8_road_143 (by decide) rfl ?_
                  refine r_iinc hL (x := k) (lo' := [some (xR 120), some (xI t), some (xI u), some (xI v), some (xI (n + z139)), some (xI (k + 1))]) dX8_road_145 (by decide) rfl rfl ?_
                  refine r_goto hL (tgt := 120) dX8_road_148 (by decide) ?_
                  exact ih120 (n + z139) (k + 1) ⟨by rw [show (k + 1).toNat = k.toNat + 1 by omega]; show _ = sumf _ k.toNat + xonf (μ5 121 (22 + (k.toNat : Int))) 8; rw [Int.toNat_of_nonneg h2.1, ← hz138, ← hc139, h1.1], by omega, by omega⟩ (by omega) (by omega)
            exact lp120 _ 0 0 ⟨rfl, by omega, by omega⟩ (by omega) (Nat.lt_succ_self _)
          · skip
            refine r_aload_n hL (x := 120) dX8_road_82 rfl ?_
            refine r_getr hL xcl8 0 (by decide) s_120 (by decide) fl_X8_7 (by decide) f_120_0 dX8_road_83 ?_
            refine r_bipush hL dX8_road_86 (by decide) ?_
            refine r_iload_n hL (x := u) dX8_road_88 rfl ?_
            refine r_iadd hL dX8_road_89 ?_
            refine r_iald hL dX8_road_90 (by decide) s_121 (by decide) (by omega) (by omega) (fun hr90 => ?_)
            obtain ⟨z90, hz90⟩ : ∃ z, z = μ4 121 (22 + u) := ⟨_, rfl⟩
            rw [← hz90] at hr90 ⊢
            refine r_iconst hL dX8_road_91 ?_
            refine r_iload_n hL (x := t) dX8_road_92 rfl ?_
            refine r_ishl hL dX8_road_93 ?_
            obtain ⟨z93, hz93⟩ : ∃ z, z = xshl 1 t := ⟨_, rfl⟩
            rw [← hz93]
            have hr93 : xrg z93 := by rw [hz93]; exact xshl_rg _ _
            refine r_ior hL dX8_road_94 ?_
            obtain ⟨z94, hz94⟩ : ∃ z, z = xor' z90 z93 := ⟨_, rfl⟩
            rw [← hz94]
            have hr94 : xrg z94 := by rw [hz94]; exact xor_rg _ _
            refine r_goto hL (tgt := 113) dX8_road_95 (by decide) ?_
            refine r_iast hL dX8_road_113 (by decide) s_121 (by decide) (by omega) (by omega) (by omega) (fun μ6 hm6 => ?_)
            have hB6 : BI μ6 := by rw [hm6]; exact hB4.up (by show ((22 + u) = 0 → 0 ≤ z94 ∧ z94 ≤ 8) ∧ ((22 + u) = 1 → 0 ≤ z94 ∧ z94 ≤ 2) ∧ (2 ≤ (22 + u) ∧ (22 + u) ≤ 5 → 0 ≤ z94 ∧ z94 ≤ 9) ∧ (6 ≤ (22 + u) ∧ (22 + u) ≤ 13 → 0 ≤ z94 ∧ z94 ≤ 10) ∧ (30 ≤ (22 + u) → 0 ≤ z94 ∧ z94 ≤ 7); omega)
            have hF6 : Fr MF μ μ6 := by rw [hm6]; exact hF4.up (by unfold MF; omega)
            have hs2 : ∀ j, μ6 121 j = if j = 22 + u then srd v (μ23c 121 (22 + u)) t else if j = 22 + t then srd v (μ23c 121 (22 + t)) u else μ23c 121 j := fun j => by first | exact absurd c35 c79 | exact absurd c79 c35 | (rw [hm6, hz94, hz90, hz93, hs1 (22 + u), if_neg (by omega)]; simp only [xup, true_and, hs1 j]; simp [srd, c35]; done) | (rw [hm6, hz112, hz106, hz111, hz109, hs1 (22 + u), if_neg (by omega)]; simp only [xup, true_and, hs1 j]; simp [srd, c35]; done)
            have hf2 : Fr F121 μ23c μ6 := by rw [hm6]; exact hf1.up (by unfold F121; omega)
            refine r_iconst hL dX8_road_114 ?_
            refine r_istore hL (lo' := [some (xR 120), some (xI t), some (xI u), some (xI v), some (xI 0), none]) dX8_road_115 (by decide) rfl ?_
            refine r_iconst hL dX8_road_117 ?_
            refine r_istore hL (lo' := [some (xR 120), some (xI t), some (xI u), some (xI v), some (xI 0), some (xI 0)]) dX8_road_118 (by decide) rfl ?_
            have lp120 : ∀ (n120 : Nat) (n : Int) (k : Int), (n = sumf (fun k => xonf (μ6 121 (22 + k)) 8) k.toNat ∧ 0 ≤ n ∧ n ≤ 8 * k) → (0 ≤ k ∧ k ≤ 8) → ((8 - k).toNat) < n120 → X 0 0 WW μ6 120 [some (xR 120), some (xI t), some (xI u), some (xI v), some (xI n), some (xI k)] [] := by
              intro n120
              induction n120 with
              | zero => intro n k h1 h2 hn; exact absurd hn (Nat.not_lt_zero _)
              | succ n120 ih120 =>
                intro n k h1 h2 hn120
                refine r_iload hL (x := k) dX8_road_120 rfl ?_
                refine r_bipush hL dX8_road_122 (by decide) ?_
                refine r_icmp_ge hL (tgt := 151) dX8_road_124 (by decide) (by omega) (by omega) (fun c124 => ?_) (fun c124 => ?_)
                · skip
                  refine r_iload hL (x := n) dX8_road_151 rfl ?_
                  refine r_iconst hL dX8_road_153 ?_
                  refine r_idiv hL dX8_road_154 (by omega) (by omega) ?_
                  obtain ⟨z154, hz154⟩ : ∃ z, z = xdiv n 2 := ⟨_, rfl⟩
                  rw [← hz154]
                  have hr154 : xrg z154 := by rw [hz154]; exact xdiv_rg _ _
                  have hq154 := xdiv_nn (x := n) (y := 2) (by omega) (by omega) (by omega) (by omega)
                  rw [← hz154] at hq154
                  exact r_iret hL dX8_road_155 rfl (hK _ _ hB6 hF6 (Or.inr ⟨by unfold okro; omega, by rw [hq154, h1.1, show k = 8 by omega]; rfl, μ23c, hN23, hf2, hs2⟩) (by omega))
                · skip
                  refine r_iload hL (x := n) dX8_road_127 rfl ?_
                  refine r_aload_n hL (x := 120) dX8_road_129 rfl ?_
                  refine r_getr hL xcl8 0 (by decide) s_120 (by decide) fl_X8_7 (by decide) f_120_0 dX8_road_130 ?_
                  refine r_bipush hL dX8_road_133 (by decide) ?_
                  refine r_iload hL (x := k) dX8_road_135 rfl ?_
                  refine r_iadd hL dX8_road_137 ?_
                  refine r_iald hL dX8_road_138 (by decide) s_121 (by decide) (by omega) (by omega) (fun hr138 => ?_)
                  obtain ⟨z138, hz138⟩ : ∃ z, z = μ6 121 (22 + k) := ⟨_, rfl⟩
                  rw [← hz138] at hr138 ⊢
                  refine r_callS hL (st := [xI n]) (av := [xI z138]) (m_X8_ones (μ := μ6) z138 (fun z139 hc139 hc139_1 => ⟨rfl, ?_⟩)) ce_yX8_ones sm_yX8_ones ml_X8_121 dX8_road_139 rfl (Nat.le_of_ble_eq_true rfl) ⟨Nat.le_of_ble_eq_true rfl, Nat.le_of_ble_eq_true rfl⟩ ⟨Nat.le_of_ble_eq_true rfl, Nat.le_of_ble_eq_true rfl⟩
                  show X 0 0 WW μ6 142 [some (xR 120), some (xI t), some (xI u), some (xI v), some (xI n), some (xI k)] [xI z139, xI n]
                  refine r_iadd hL dX8_road_142 ?_
                  refine r_istore hL (lo' := [some (xR 120), some (xI t), some (xI u), some (xI v), some (xI (n + z139)), some (xI k)]) dX8_road_143 (by decide) rfl ?_
                  refine r_iinc hL (x := k) (lo' := [some (xR 120), some (xI t), some (xI u), some (xI v), some (xI (n + z139)), some (xI (k + 1))]) dX8_road_145 (by decide) rfl rfl ?_
                  refine r_goto hL (tgt := 120) dX8_road_148 (by decide) ?_
                  exact ih120 (n + z139) (k + 1) ⟨by rw [show (k + 1).toNat = k.toNat + 1 by omega]; show _ = sumf _ k.toNat + xonf (μ6 121 (22 + (k.toNat : Int))) 8; rw [Int.toNat_of_nonneg h2.1, ← hz138, ← hc139, h1.1], by omega, by omega⟩ (by omega) (by omega)
            exact lp120 _ 0 0 ⟨rfl, by omega, by omega⟩ (by omega) (Nat.lt_succ_self _)
      · skip
        refine r_ldc hL (n := -1000000001) dX8_road_19 kc_X8_183 (by decide) ?_
        exact r_iret hL dX8_road_21 rfl (hK _ _ hB hF (Or.inl ⟨by unfold okro; omega, rfl, rfl⟩) (by omega))

set_option maxHeartbeats 4000000 in
set_option maxRecDepth 20000 in
theorem m_X8_at {K : Option xV → xW → xM → Prop} {μ : xM} (hB0 : BI μ) (t : Int) (ht : xrg t) (u : Int) (hu : xrg u) (hK : ∀ r μ', BI μ' → Fr MF μ μ' → D_at t u μ r μ' → xrg r → K (some (xI r)) WW μ') : xMet yX8_at cX8_at 3 (some .int) 4 90 0 0 [xR 120, xI t, xI u] WW μ K := by
  refine xMet.go RX8 "at" rfl rfl (by decide) [some (xR 120), some (xI t), some (xI u)] (Nat.le_of_ble_eq_true rfl) rfl (fun X hL => ?_)
  have hB := hB0
  have hF : Fr MF μ μ := Fr.rf
  refine r_aload_n hL (x := 120) dX8_at_0 rfl ?_
  refine r_iload_n hL (x := t) dX8_at_1 rfl ?_
  refine r_callV hL (st := []) (av := [xI t]) (k := 120) (m_X8_isTale (μ := μ) hB t (by omega) (fun z2 hc2 => ⟨rfl, ?_⟩)) ce_yX8_isTale im_yX8_isTale se_yX8_isTale ml_X8_171 xcl8 (by decide) s_120 dX8_at_2 rfl (Nat.le_of_ble_eq_true rfl) ⟨Nat.le_of_ble_eq_true rfl, Nat.le_of_ble_eq_true rfl⟩ ⟨Nat.le_of_ble_eq_true rfl, Nat.le_of_ble_eq_true rfl⟩
  show X 0 0 WW μ 5 [some (xR 120), some (xI t), some (xI u)] [xI z2]
  refine r_if_ne hL (tgt := 11) dX8_at_5 (by decide) (by omega) (fun c5 => ?_) (fun c5 => ?_)
  · skip
    refine r_iload_n hL (x := u) dX8_at_11 rfl ?_
    refine r_iconst hL dX8_at_12 ?_
    refine r_sipush hL dX8_at_13 (by decide) ?_
    refine r_callS hL (st := []) (av := [xI u, xI 0, xI 255]) (m_X8_in (μ := μ) u (by omega) 0 (by omega) 255 (by omega) (fun z16 hc16 => ⟨rfl, ?_⟩)) ce_yX8_in sm_yX8_in ml_X8_62 dX8_at_16 rfl (Nat.le_of_ble_eq_true rfl) ⟨Nat.le_of_ble_eq_true rfl, Nat.le_of_ble_eq_true rfl⟩ ⟨Nat.le_of_ble_eq_true rfl, Nat.le_of_ble_eq_true rfl⟩
    show X 0 0 WW μ 19 [some (xR 120), some (xI t), some (xI u)] [xI z16]
    refine r_if_ne hL (tgt := 25) dX8_at_19 (by decide) (by omega) (fun c19 => ?_) (fun c19 => ?_)
    · skip
      refine r_aload_n hL (x := 120) dX8_at_25 rfl ?_
      refine r_callV hL (st := []) (av := []) (k := 120) (m_X8_notes (μ := μ) hB (fun μ26c hB26c hN26 => ⟨rfl, ?_⟩)) ce_yX8_notes im_yX8_notes se_yX8_notes ml_X8_165 xcl8 (by decide) s_120 dX8_at_26 rfl (Nat.le_of_ble_eq_true rfl) ⟨Nat.le_of_ble_eq_true rfl, Nat.le_of_ble_eq_true rfl⟩ ⟨Nat.le_of_ble_eq_true rfl, Nat.le_of_ble_eq_true rfl⟩
      show X 0 0 WW μ26c 29 [some (xR 120), some (xI t), some (xI u)] []
      have hF26c : Fr MF μ μ26c := hF.trans (hN26.1.sub (fun k j h => by unfold NT at h; unfold MF; omega))
      have hk26c_121_0 : μ26c 121 0 = μ 121 0 := hN26.1 121 0 (by unfold NT; omega)
      refine r_aload_n hL (x := 120) dX8_at_29 rfl ?_
      refine r_getr hL xcl8 0 (by decide) s_120 (by decide) fl_X8_7 (by decide) f_120_0 dX8_at_30 ?_
      refine r_bipush hL dX8_at_33 (by decide) ?_
      refine r_iload_n hL (x := t) dX8_at_35 rfl ?_
      refine r_iadd hL dX8_at_36 ?_
      refine r_iload_n hL (x := u) dX8_at_37 rfl ?_
      refine r_iast hL dX8_at_38 (by decide) s_121 (by decide) (by omega) (by omega) (by omega) (fun μ1 hm1 => ?_)
      have hB1 : BI μ1 := by rw [hm1]; exact hB26c.up (by show ((14 + t) = 0 → 0 ≤ u ∧ u ≤ 8) ∧ ((14 + t) = 1 → 0 ≤ u ∧ u ≤ 2) ∧ (2 ≤ (14 + t) ∧ (14 + t) ≤ 5 → 0 ≤ u ∧ u ≤ 9) ∧ (6 ≤ (14 + t) ∧ (14 + t) ≤ 13 → 0 ≤ u ∧ u ≤ 10) ∧ (30 ≤ (14 + t) → 0 ≤ u ∧ u ≤ 7); omega)
      have hF1 : Fr MF μ μ1 := by rw [hm1]; exact hF26c.up (by unfold MF; omega)
      have hk1_121_0 : μ1 121 0 = μ26c 121 0 := by rw [hm1]; exact xup_j (by omega)
      refine r_aload_n hL (x := 120) dX8_at_39 rfl ?_
      refine r_iload_n hL (x := u) dX8_at_40 rfl ?_
      refine r_callV hL (st := []) (av := [xI u]) (k := 120) (m_X8_wanders (μ := μ1) u (by omega) (fun z41 heq41 hc41 => ⟨rfl, ?_⟩)) ce_yX8_wanders im_yX8_wanders se_yX8_wanders ml_X8_184 xcl8 (by decide) s_120 dX8_at_41 rfl (Nat.le_of_ble_eq_true rfl) ⟨Nat.le_of_ble_eq_true rfl, Nat.le_of_ble_eq_true rfl⟩ ⟨Nat.le_of_ble_eq_true rfl, Nat.le_of_ble_eq_true rfl⟩
      show X 0 0 WW μ1 44 [some (xR 120), some (xI t), some (xI u)] [xI z41]
      exact r_iret hL dX8_at_44 rfl (hK _ _ hB1 hF1 (Or.inr (Or.inr ⟨by omega, by omega, heq41, μ26c, hN26, hm1⟩)) (by omega))
    · skip
      refine r_ldc hL (n := -1000000002) dX8_at_22 kc_X8_159 (by decide) ?_
      exact r_iret hL dX8_at_24 rfl (hK _ _ hB hF (Or.inr (Or.inl ⟨by omega, by omega, rfl, rfl⟩)) (by omega))
  · skip
    refine r_ldc hL (n := -1000000001) dX8_at_8 kc_X8_183 (by decide) ?_
    exact r_iret hL dX8_at_10 rfl (hK _ _ hB hF (Or.inl ⟨by omega, rfl, rfl⟩) (by omega))

set_option maxHeartbeats 4000000 in
set_option maxRecDepth 20000 in
theorem m_X8_drift {K : Option xV → xW → xM → Prop} {μ : xM} (hB0 : BI μ) (t : Int) (ht : xrg t) (hK : ∀ r μ', BI μ' → Fr MF μ μ' → D_drift t μ r μ' → xrg r → K (some (xI r)) WW μ') : xMet yX8_drift cX8_drift 5 (some .int) 2 45 0 0 [xR 120, xI t] WW μ K := by
  refine xMet.go RX8 "drift" rfl rfl (by decide) [some (xR 120), some (xI t), none, none, none] (Nat.le_of_ble_eq_true rfl) rfl (fun X hL => ?_)
  have hB := hB0
  have hF : Fr MF μ μ := Fr.rf
  refine r_iload_n hL (x := t) dX8_drift_0 rfl ?_
  refine r_iconst hL dX8_drift_1 ?_
  refine r_bipush hL dX8_drift_2 (by decide) ?_
  refine r_callS hL (st := []) (av := [xI t, xI 1, xI 8]) (m_X8_in (μ := μ) t (by omega) 1 (by omega) 8 (by omega) (fun z4 hc4 => ⟨rfl, ?_⟩)) ce_yX8_in sm_yX8_in ml_X8_62 dX8_drift_4 rfl (Nat.le_of_ble_eq_true rfl) ⟨Nat.le_of_ble_eq_true rfl, Nat.le_of_ble_eq_true rfl⟩ ⟨Nat.le_of_ble_eq_true rfl, Nat.le_of_ble_eq_true rfl⟩
  show X 0 0 WW μ 7 [some (xR 120), some (xI t), none, none, none] [xI z4]
  refine r_if_ne hL (tgt := 13) dX8_drift_7 (by decide) (by omega) (fun c7 => ?_) (fun c7 => ?_)
  · skip
    refine r_iconst hL dX8_drift_13 ?_
    refine r_istore_n hL (lo' := [some (xR 120), some (xI t), some (xI 0), none, none]) dX8_drift_14 (by decide) rfl ?_
    have lp15 : ∀ (n15 : Nat) (k : Int) (μ115 : xM), (BI μ115) → (Fr MF μ μ115) → (0 ≤ k ∧ k ≤ t) → (mDs k.toNat μ μ115) → ((t - k).toNat) < n15 → X 0 0 WW μ115 15 [some (xR 120), some (xI t), some (xI k), none, none] [] := by
      intro n15
      induction n15 with
      | zero => intro k μ115 hB115 hF115 h1 h2 hn; exact absurd hn (Nat.not_lt_zero _)
      | succ n15 ih15 =>
        intro k μ115 hB115 hF115 h1 h2 hn15
        refine r_iload_n hL (x := k) dX8_drift_15 rfl ?_
        refine r_iload_n hL (x := t) dX8_drift_16 rfl ?_
        refine r_icmp_ge hL (tgt := 134) dX8_drift_17 (by decide) (by omega) (by omega) (fun c17 => ?_) (fun c17 => ?_)
        · skip
          refine r_aload_n hL (x := 120) dX8_drift_134 rfl ?_
          refine r_getr hL xcl8 0 (by decide) s_120 (by decide) fl_X8_7 (by decide) f_120_0 dX8_drift_135 ?_
          refine r_iconst hL dX8_drift_138 ?_
          refine r_iald hL dX8_drift_139 (by decide) s_121 (by decide) (by omega) (by omega) (fun hr139 => ?_)
          obtain ⟨z139, hz139⟩ : ∃ z, z = μ115 121 0 := ⟨_, rfl⟩
          rw [← hz139] at hr139 ⊢
          have hb139 : 0 ≤ μ115 121 0 ∧ μ115 121 0 ≤ 8 := (show ((0 : Int) = 0 → 0 ≤ (μ115 121 0) ∧ (μ115 121 0) ≤ 8) ∧ ((0 : Int) = 1 → 0 ≤ (μ115 121 0) ∧ (μ115 121 0) ≤ 2) ∧ (2 ≤ (0 : Int) ∧ (0 : Int) ≤ 5 → 0 ≤ (μ115 121 0) ∧ (μ115 121 0) ≤ 9) ∧ (6 ≤ (0 : Int) ∧ (0 : Int) ≤ 13 → 0 ≤ (μ115 121 0) ∧ (μ115 121 0) ≤ 10) ∧ (30 ≤ (0 : Int) → 0 ≤ (μ115 121 0) ∧ (μ115 121 0) ≤ 7) from hB115 121 0).1 (by omega)
          exact r_iret hL dX8_drift_140 rfl (hK _ _ hB115 hF115 (Or.inr ⟨by omega, hz139, k.toNat, h2, by omega, by omega⟩) (by omega))
        · skip
          refine r_aload_n hL (x := 120) dX8_drift_20 rfl ?_
          refine r_getr hL xcl8 0 (by decide) s_120 (by decide) fl_X8_7 (by decide) f_120_0 dX8_drift_21 ?_
          refine r_iconst hL dX8_drift_24 ?_
          refine r_iald hL dX8_drift_25 (by decide) s_121 (by decide) (by omega) (by omega) (fun hr25 => ?_)
          obtain ⟨z25, hz25⟩ : ∃ z, z = μ115 121 0 := ⟨_, rfl⟩
          rw [← hz25] at hr25 ⊢
          have hb25 : 0 ≤ μ115 121 0 ∧ μ115 121 0 ≤ 8 := (show ((0 : Int) = 0 → 0 ≤ (μ115 121 0) ∧ (μ115 121 0) ≤ 8) ∧ ((0 : Int) = 1 → 0 ≤ (μ115 121 0) ∧ (μ115 121 0) ≤ 2) ∧ (2 ≤ (0 : Int) ∧ (0 : Int) ≤ 5 → 0 ≤ (μ115 121 0) ∧ (μ115 121 0) ≤ 9) ∧ (6 ≤ (0 : Int) ∧ (0 : Int) ≤ 13 → 0 ≤ (μ115 121 0) ∧ (μ115 121 0) ≤ 10) ∧ (30 ≤ (0 : Int) → 0 ≤ (μ115 121 0) ∧ (μ115 121 0) ≤ 7) from hB115 121 0).1 (by omega)
          refine r_bipush hL dX8_drift_26 (by decide) ?_
          refine r_icmp_ge hL (tgt := 134) dX8_drift_28 (by decide) (by omega) (by omega) (fun c28 => ?_) (fun c28 => ?_)
          · skip
            refine r_aload_n hL (x := 120) dX8_drift_134 rfl ?_
            refine r_getr hL xcl8 0 (by decide) s_120 (by decide) fl_X8_7 (by decide) f_120_0 dX8_drift_135 ?_
            refine r_iconst hL dX8_drift_138 ?_
            refine r_iald hL dX8_drift_139 (by decide) s_121 (by decide) (by omega) (by omega) (fun hr139 => ?_)
            obtain ⟨z139, hz139⟩ : ∃ z, z = μ115 121 0 := ⟨_, rfl⟩
            rw [← hz139] at hr139 ⊢
            have hb139 : 0 ≤ μ115 121 0 ∧ μ115 121 0 ≤ 8 := (show ((0 : Int) = 0 → 0 ≤ (μ115 121 0) ∧ (μ115 121 0) ≤ 8) ∧ ((0 : Int) = 1 → 0 ≤ (μ115 121 0) ∧ (μ115 121 0) ≤ 2) ∧ (2 ≤ (0 : Int) ∧ (0 : Int) ≤ 5 → 0 ≤ (μ115 121 0) ∧ (μ115 121 0) ≤ 9) ∧ (6 ≤ (0 : Int) ∧ (0 : Int) ≤ 13 → 0 ≤ (μ115 121 0) ∧ (μ115 121 0) ≤ 10) ∧ (30 ≤ (0 : Int) → 0 ≤ (μ115 121 0) ∧ (μ115 121 0) ≤ 7) from hB115 121 0).1 (by omega)
            exact r_iret hL dX8_drift_140 rfl (hK _ _ hB115 hF115 (Or.inr ⟨by omega, hz139, k.toNat, h2, by omega, by omega⟩) (by omega))
          · skip
            refine r_aload_n hL (x := 120) dX8_drift_31 rfl ?_
            refine r_callV hL (st := []) (av := []) (k := 120) (m_X8_notes (μ := μ115) hB115 (fun μ32c hB32c hN32 => ⟨rfl, ?_⟩)) ce_yX8_notes im_yX8_notes se_yX8_notes ml_X8_165 xcl8 (by decide) s_120 dX8_drift_32 rfl (Nat.le_of_ble_eq_true rfl) ⟨Nat.le_of_ble_eq_true rfl, Nat.le_of_ble_eq_true rfl⟩ ⟨Nat.le_of_ble_eq_true rfl, Nat.le_of_ble_eq_true rfl⟩
            show X 0 0 WW μ32c 35 [some (xR 120), some (xI t), some (xI k), none, none] []
            have hF32c : Fr MF μ μ32c := hF115.trans (hN32.1.sub (fun k j h => by unfold NT at h; unfold MF; omega))
            have hk32c_121_0 : μ32c 121 0 = μ115 121 0 := hN32.1 121 0 (by unfold NT; omega)
            have hk32c_120_9 : μ32c 120 9 = μ115 120 9 := hN32.1 120 9 (by unfold NT; omega)
            refine r_aload_n hL (x := 120) dX8_drift_35 rfl ?_
            refine r_getr hL xcl8 0 (by decide) s_120 (by decide) fl_X8_7 (by decide) f_120_0 dX8_drift_36 ?_
            refine r_iconst hL dX8_drift_39 ?_
            refine r_iald hL dX8_drift_40 (by decide) s_121 (by decide) (by omega) (by omega) (fun hr40 => ?_)
            obtain ⟨z40, hz40⟩ : ∃ z, z = μ32c 121 0 := ⟨_, rfl⟩
            rw [← hz40] at hr40 ⊢
            have hb40 : 0 ≤ μ32c 121 0 ∧ μ32c 121 0 ≤ 8 := (show ((0 : Int) = 0 → 0 ≤ (μ32c 121 0) ∧ (μ32c 121 0) ≤ 8) ∧ ((0 : Int) = 1 → 0 ≤ (μ32c 121 0) ∧ (μ32c 121 0) ≤ 2) ∧ (2 ≤ (0 : Int) ∧ (0 : Int) ≤ 5 → 0 ≤ (μ32c 121 0) ∧ (μ32c 121 0) ≤ 9) ∧ (6 ≤ (0 : Int) ∧ (0 : Int) ≤ 13 → 0 ≤ (μ32c 121 0) ∧ (μ32c 121 0) ≤ 10) ∧ (30 ≤ (0 : Int) → 0 ≤ (μ32c 121 0) ∧ (μ32c 121 0) ≤ 7) from hB32c 121 0).1 (by omega)
            refine r_istore_n hL (lo' := [some (xR 120), some (xI t), some (xI k), some (xI z40), none]) dX8_drift_41 (by decide) rfl ?_
            refine r_aload_n hL (x := 120) dX8_drift_42 rfl ?_
            refine r_getr hL xcl8 0 (by decide) s_120 (by decide) fl_X8_7 (by decide) f_120_0 dX8_drift_43 ?_
            refine r_bipush hL dX8_drift_46 (by decide) ?_
            refine r_iload_n hL (x := z40) dX8_drift_48 rfl ?_
            refine r_iadd hL dX8_drift_49 ?_
            refine r_aload_n hL (x := 120) dX8_drift_50 rfl ?_
            refine r_bipush hL dX8_drift_51 (by decide) ?_
            refine r_callV hL (st := [xI (6 + z40), xR 121]) (av := [xI 7]) (k := 120) (m_X8_draw (μ := μ32c) hB32c 7 (by omega) (fun z53 μ53c hB53c hm53c hd53 hc53 => ⟨rfl, ?_⟩)) ce_yX8_draw im_yX8_draw se_yX8_draw ml_X8_215 xcl8 (by decide) s_120 dX8_drift_53 rfl (Nat.le_of_ble_eq_true rfl) ⟨Nat.le_of_ble_eq_true rfl, Nat.le_of_ble_eq_true rfl⟩ ⟨Nat.le_of_ble_eq_true rfl, Nat.le_of_ble_eq_true rfl⟩
            show X 0 0 WW μ53c 56 [some (xR 120), some (xI t), some (xI k), some (xI z40), none] [xI z53, xI (6 + z40), xR 121]
            have hF53c : Fr MF μ μ53c := by rw [hm53c]; exact hF32c.up (by unfold MF; omega)
            have hk53c_121_0 : μ53c 121 0 = μ32c 121 0 := by rw [hm53c]; exact congrFun (xup_c (by decide)) _
            have hk53c_120_9 : μ53c 120 9 = sd (μ32c 120 9) := by rw [hm53c]; exact xup_s _ _ _ _
            have hdL : z53 + 2 = dL (μ32c 120 9) := by rw [hd53]; rfl
            refine r_iconst hL dX8_drift_56 ?_
            refine r_iadd hL dX8_drift_57 ?_
            refine r_iast hL dX8_drift_58 (by decide) s_121 (by decide) (by omega) (by omega) (by omega) (fun μ1 hm1 => ?_)
            have hB1 : BI μ1 := by rw [hm1]; exact hB53c.up (by show ((6 + z40) = 0 → 0 ≤ (z53 + 2) ∧ (z53 + 2) ≤ 8) ∧ ((6 + z40) = 1 → 0 ≤ (z53 + 2) ∧ (z53 + 2) ≤ 2) ∧ (2 ≤ (6 + z40) ∧ (6 + z40) ≤ 5 → 0 ≤ (z53 + 2) ∧ (z53 + 2) ≤ 9) ∧ (6 ≤ (6 + z40) ∧ (6 + z40) ≤ 13 → 0 ≤ (z53 + 2) ∧ (z53 + 2) ≤ 10) ∧ (30 ≤ (6 + z40) → 0 ≤ (z53 + 2) ∧ (z53 + 2) ≤ 7); omega)
            have hF1 : Fr MF μ μ1 := by rw [hm1]; exact hF53c.up (by unfold MF; omega)
            have hk1_121_0 : μ1 121 0 = μ53c 121 0 := by rw [hm1]; exact xup_j (by omega)
            have hk1_120_9 : μ1 120 9 = μ53c 120 9 := by rw [hm1]; exact congrFun (xup_c (by decide)) _
            refine r_iconst hL dX8_drift_59 ?_
            refine r_istore hL (lo' := [some (xR 120), some (xI t), some (xI k), some (xI z40), some (xI 0)]) dX8_drift_60 (by decide) rfl ?_
            have lp62 : ∀ (n62 : Nat) (i : Int) (μ162 : xM), (BI μ162) → (Fr MF μ μ162) → (0 ≤ i ∧ i ≤ z53 + 2) → (dwI μ32c μ162 z40 (z53 + 2) i) → ((10 - i).toNat) < n62 → X 0 0 WW μ162 62 [some (xR 120), some (xI t), some (xI k), some (xI z40), some (xI i)] [] := by
              intro n62
              induction n62 with
              | zero => intro i μ162 hB162 hF162 h3 h4 hn; exact absurd hn (Nat.not_lt_zero _)
              | succ n62 ih62 =>
                intro i μ162 hB162 hF162 h3 h4 hn62
                have h60 : μ162 121 0 = z40 := by rw [h4.2.1 0, if_neg (by omega), if_neg (by omega)]; exact hz40.symm
                refine r_iload hL (x := i) dX8_drift_62 rfl ?_
                refine r_aload_n hL (x := 120) dX8_drift_64 rfl ?_
                refine r_getr hL xcl8 0 (by decide) s_120 (by decide) fl_X8_7 (by decide) f_120_0 dX8_drift_65 ?_
                refine r_bipush hL dX8_drift_68 (by decide) ?_
                refine r_iload_n hL (x := z40) dX8_drift_70 rfl ?_
                refine r_iadd hL dX8_drift_71 ?_
                refine r_iald hL dX8_drift_72 (by decide) s_121 (by decide) (by omega) (by omega) (fun hr72 => ?_)
                obtain ⟨z72, hz72⟩ : ∃ z, z = μ162 121 (6 + z40) := ⟨_, rfl⟩
                rw [← hz72] at hr72 ⊢
                have hb72 : 0 ≤ μ162 121 (6 + z40) ∧ μ162 121 (6 + z40) ≤ 10 := (show ((6 + z40) = 0 → 0 ≤ (μ162 121 (6 + z40)) ∧ (μ162 121 (6 + z40)) ≤ 8) ∧ ((6 + z40) = 1 → 0 ≤ (μ162 121 (6 + z40)) ∧ (μ162 121 (6 + z40)) ≤ 2) ∧ (2 ≤ (6 + z40) ∧ (6 + z40) ≤ 5 → 0 ≤ (μ162 121 (6 + z40)) ∧ (μ162 121 (6 + z40)) ≤ 9) ∧ (6 ≤ (6 + z40) ∧ (6 + z40) ≤ 13 → 0 ≤ (μ162 121 (6 + z40)) ∧ (μ162 121 (6 + z40)) ≤ 10) ∧ (30 ≤ (6 + z40) → 0 ≤ (μ162 121 (6 + z40)) ∧ (μ162 121 (6 + z40)) ≤ 7) from hB162 121 (6 + z40)).2.2.2.1 (by omega)
                have hL72 : z72 = z53 + 2 := by rw [hz72, h4.2.1 _, if_pos rfl]
                refine r_icmp_ge hL (tgt := 102) dX8_drift_73 (by decide) (by omega) (by omega) (fun c73 => ?_) (fun c73 => ?_)
                · skip
                  refine r_aload_n hL (x := 120) dX8_drift_102 rfl ?_
                  refine r_getr hL xcl8 0 (by decide) s_120 (by decide) fl_X8_7 (by decide) f_120_0 dX8_drift_103 ?_
                  refine r_bipush hL dX8_drift_106 (by decide) ?_
                  refine r_iload_n hL (x := z40) dX8_drift_108 rfl ?_
                  refine r_iadd hL dX8_drift_109 ?_
                  refine r_aload_n hL (x := 120) dX8_drift_110 rfl ?_
                  refine r_sipush hL dX8_drift_111 (by decide) ?_
                  refine r_callV hL (st := [xI (14 + z40), xR 121]) (av := [xI 256]) (k := 120) (m_X8_draw (μ := μ162) hB162 256 (by omega) (fun z114 μ114c hB114c hm114c hd114 hc114 => ⟨rfl, ?_⟩)) ce_yX8_draw im_yX8_draw se_yX8_draw ml_X8_215 xcl8 (by decide) s_120 dX8_drift_114 rfl (Nat.le_of_ble_eq_true rfl) ⟨Nat.le_of_ble_eq_true rfl, Nat.le_of_ble_eq_true rfl⟩ ⟨Nat.le_of_ble_eq_true rfl, Nat.le_of_ble_eq_true rfl⟩
                  show X 0 0 WW μ114c 117 [some (xR 120), some (xI t), some (xI k), some (xI z40), some (xI i)] [xI z114, xI (14 + z40), xR 121]
                  have hF114c : Fr MF μ μ114c := by rw [hm114c]; exact hF162.up (by unfold MF; omega)
                  have hk114c_121_0 : μ114c 121 0 = μ162 121 0 := by rw [hm114c]; exact congrFun (xup_c (by decide)) _
                  have hk114c_120_9 : μ114c 120 9 = sd (μ162 120 9) := by rw [hm114c]; exact xup_s _ _ _ _
                  refine r_iast hL dX8_drift_117 (by decide) s_121 (by decide) (by omega) (by omega) (by omega) (fun μ2 hm2 => ?_)
                  have hB2 : BI μ2 := by rw [hm2]; exact hB114c.up (by show ((14 + z40) = 0 → 0 ≤ z114 ∧ z114 ≤ 8) ∧ ((14 + z40) = 1 → 0 ≤ z114 ∧ z114 ≤ 2) ∧ (2 ≤ (14 + z40) ∧ (14 + z40) ≤ 5 → 0 ≤ z114 ∧ z114 ≤ 9) ∧ (6 ≤ (14 + z40) ∧ (14 + z40) ≤ 13 → 0 ≤ z114 ∧ z114 ≤ 10) ∧ (30 ≤ (14 + z40) → 0 ≤ z114 ∧ z114 ≤ 7); omega)
                  have hF2 : Fr MF μ μ2 := by rw [hm2]; exact hF114c.up (by unfold MF; omega)
                  have hk2_121_0 : μ2 121 0 = μ114c 121 0 := by rw [hm2]; exact xup_j (by omega)
                  have hk2_120_9 : μ2 120 9 = μ114c 120 9 := by rw [hm2]; exact congrFun (xup_c (by decide)) _
                  have hmA := hm2
                  refine r_aload_n hL (x := 120) dX8_drift_118 rfl ?_
                  refine r_getr hL xcl8 0 (by decide) s_120 (by decide) fl_X8_7 (by decide) f_120_0 dX8_drift_119 ?_
                  refine r_iconst hL dX8_drift_122 ?_
                  refine r_dup2 hL dX8_drift_123 rfl rfl ?_
                  refine r_iald hL dX8_drift_124 (by decide) s_121 (by decide) (by omega) (by omega) (fun hr124 => ?_)
                  obtain ⟨z124, hz124⟩ : ∃ z, z = μ2 121 0 := ⟨_, rfl⟩
                  rw [← hz124] at hr124 ⊢
                  have hb124 : 0 ≤ μ2 121 0 ∧ μ2 121 0 ≤ 8 := (show ((0 : Int) = 0 → 0 ≤ (μ2 121 0) ∧ (μ2 121 0) ≤ 8) ∧ ((0 : Int) = 1 → 0 ≤ (μ2 121 0) ∧ (μ2 121 0) ≤ 2) ∧ (2 ≤ (0 : Int) ∧ (0 : Int) ≤ 5 → 0 ≤ (μ2 121 0) ∧ (μ2 121 0) ≤ 9) ∧ (6 ≤ (0 : Int) ∧ (0 : Int) ≤ 13 → 0 ≤ (μ2 121 0) ∧ (μ2 121 0) ≤ 10) ∧ (30 ≤ (0 : Int) → 0 ≤ (μ2 121 0) ∧ (μ2 121 0) ≤ 7) from hB2 121 0).1 (by omega)
                  refine r_iconst hL dX8_drift_125 ?_
                  refine r_iadd hL dX8_drift_126 ?_
                  refine r_iast hL dX8_drift_127 (by decide) s_121 (by decide) (by omega) (by omega) (by omega) (fun μ3 hm3 => ?_)
                  have hB3 : BI μ3 := by rw [hm3]; exact hB2.up (by show ((0 : Int) = 0 → 0 ≤ (z124 + 1) ∧ (z124 + 1) ≤ 8) ∧ ((0 : Int) = 1 → 0 ≤ (z124 + 1) ∧ (z124 + 1) ≤ 2) ∧ (2 ≤ (0 : Int) ∧ (0 : Int) ≤ 5 → 0 ≤ (z124 + 1) ∧ (z124 + 1) ≤ 9) ∧ (6 ≤ (0 : Int) ∧ (0 : Int) ≤ 13 → 0 ≤ (z124 + 1) ∧ (z124 + 1) ≤ 10) ∧ (30 ≤ (0 : Int) → 0 ≤ (z124 + 1) ∧ (z124 + 1) ≤ 7); omega)
                  have hF3 : Fr MF μ μ3 := by rw [hm3]; exact hF2.up (by unfold MF; omega)
                  have hk3_121_0 : μ3 121 0 = z124 + 1 := by rw [hm3]; exact xup_s _ _ _ _
                  have hk3_120_9 : μ3 120 9 = μ2 120 9 := by rw [hm3]; exact congrFun (xup_c (by decide)) _
                  have hmB := hm3
                  refine r_iinc hL (x := k) (lo' := [some (xR 120), some (xI t), some (xI (k + 1)), some (xI z40), some (xI i)]) dX8_drift_128 (by decide) rfl rfl ?_
                  refine r_goto hL (tgt := 15) dX8_drift_131 (by decide) ?_
                  refine r_drop hL (lo' := [some (xR 120), some (xI t), some (xI (k + 1)), none, none]) [3, 4] rfl ?_
                  exact ih15 (k + 1) μ3 hB3 hF3 (by omega) (by rw [show (k + 1).toNat = k.toNat + 1 by omega]; exact ⟨_, _, h2, hB115, by omega, hN32, dwI.fin h4 hm114c hd114 hmA hmB (by omega) hz40 (by omega) hdL (by omega)⟩) (by omega)
                · skip
                  refine r_aload_n hL (x := 120) dX8_drift_76 rfl ?_
                  refine r_getr hL xcl8 0 (by decide) s_120 (by decide) fl_X8_7 (by decide) f_120_0 dX8_drift_77 ?_
                  refine r_bipush hL dX8_drift_80 (by decide) ?_
                  refine r_bipush hL dX8_drift_82 (by decide) ?_
                  refine r_iload_n hL (x := z40) dX8_drift_84 rfl ?_
                  refine r_imul hL dX8_drift_85 ?_
                  refine r_iadd hL dX8_drift_86 ?_
                  refine r_iload hL (x := i) dX8_drift_87 rfl ?_
                  refine r_iadd hL dX8_drift_89 ?_
                  refine r_aload_n hL (x := 120) dX8_drift_90 rfl ?_
                  refine r_iconst hL dX8_drift_91 ?_
                  refine r_callV hL (st := [xI ((30 + (10 * z40)) + i), xR 121]) (av := [xI 5]) (k := 120) (m_X8_draw (μ := μ162) hB162 5 (by omega) (fun z92 μ92c hB92c hm92c hd92 hc92 => ⟨rfl, ?_⟩)) ce_yX8_draw im_yX8_draw se_yX8_draw ml_X8_215 xcl8 (by decide) s_120 dX8_drift_92 rfl (Nat.le_of_ble_eq_true rfl) ⟨Nat.le_of_ble_eq_true rfl, Nat.le_of_ble_eq_true rfl⟩ ⟨Nat.le_of_ble_eq_true rfl, Nat.le_of_ble_eq_true rfl⟩
                  show X 0 0 WW μ92c 95 [some (xR 120), some (xI t), some (xI k), some (xI z40), some (xI i)] [xI z92, xI ((30 + (10 * z40)) + i), xR 121]
                  have hF92c : Fr MF μ μ92c := by rw [hm92c]; exact hF162.up (by unfold MF; omega)
                  have hk92c_121_0 : μ92c 121 0 = μ162 121 0 := by rw [hm92c]; exact congrFun (xup_c (by decide)) _
                  have hk92c_120_9 : μ92c 120 9 = sd (μ162 120 9) := by rw [hm92c]; exact xup_s _ _ _ _
                  refine r_iast hL dX8_drift_95 (by decide) s_121 (by decide) (by omega) (by omega) (by omega) (fun μ4 hm4 => ?_)
                  have hB4 : BI μ4 := by rw [hm4]; exact hB92c.up (by show (((30 + (10 * z40)) + i) = 0 → 0 ≤ z92 ∧ z92 ≤ 8) ∧ (((30 + (10 * z40)) + i) = 1 → 0 ≤ z92 ∧ z92 ≤ 2) ∧ (2 ≤ ((30 + (10 * z40)) + i) ∧ ((30 + (10 * z40)) + i) ≤ 5 → 0 ≤ z92 ∧ z92 ≤ 9) ∧ (6 ≤ ((30 + (10 * z40)) + i) ∧ ((30 + (10 * z40)) + i) ≤ 13 → 0 ≤ z92 ∧ z92 ≤ 10) ∧ (30 ≤ ((30 + (10 * z40)) + i) → 0 ≤ z92 ∧ z92 ≤ 7); omega)
                  have hF4 : Fr MF μ μ4 := by rw [hm4]; exact hF92c.up (by unfold MF; omega)
                  have hk4_121_0 : μ4 121 0 = μ92c 121 0 := by rw [hm4]; exact xup_j (by omega)
                  have hk4_120_9 : μ4 120 9 = μ92c 120 9 := by rw [hm4]; exact congrFun (xup_c (by decide)) _
                  refine r_iinc hL (x := i) (lo' := [some (xR 120), some (xI t), some (xI k), some (xI z40), some (xI (i + 1))]) dX8_drift_96 (by decide) rfl rfl ?_
                  refine r_goto hL (tgt := 62) dX8_drift_99 (by decide) ?_
                  exact ih62 (i + 1) μ4 hB4 hF4 (by omega) (dwI.go h4 hm92c hd92 rfl hm4 (by omega) (by omega) (by omega)) (by omega)
            exact lp62 _ 0 μ1 hB1 hF1 (by omega) (dwI.zero hm53c hm1) (Nat.lt_succ_self _)
    exact lp15 _ 0 μ hB hF (by omega) (show mDs 0 μ μ from rfl) (Nat.lt_succ_self _)
  · skip
    refine r_ldc hL (n := -1000000002) dX8_drift_10 kc_X8_159 (by decide) ?_
    exact r_iret hL dX8_drift_12 rfl (hK _ _ hB hF (Or.inl ⟨by omega, rfl, rfl⟩) (by omega))

set_option maxHeartbeats 4000000 in
set_option maxRecDepth 20000 in
theorem m_X8_undo {K : Option xV → xW → xM → Prop} {μ : xM} (hB0 : BI μ) (t : Int) (ht : xrg t) (hK : ∀ r μ', BI μ' → Fr MF μ μ' → D_undo t μ r μ' → xrg r → K (some (xI r)) WW μ') : xMet yX8_undo cX8_undo 2 (some .int) 1 25 0 0 [xR 120, xI t] WW μ K := by
  refine xMet.go RX8 "undo" rfl rfl (by decide) [some (xR 120), some (xI t)] (Nat.le_of_ble_eq_true rfl) rfl (fun X hL => ?_)
  have hB := hB0
  have hF : Fr MF μ μ := Fr.rf
  refine r_iload_n hL (x := t) dX8_undo_0 rfl ?_
  refine r_iconst hL dX8_undo_1 ?_
  refine r_bipush hL dX8_undo_2 (by decide) ?_
  refine r_callS hL (st := []) (av := [xI t, xI 1, xI 16]) (m_X8_in (μ := μ) t (by omega) 1 (by omega) 16 (by omega) (fun z4 hc4 => ⟨rfl, ?_⟩)) ce_yX8_in sm_yX8_in ml_X8_62 dX8_undo_4 rfl (Nat.le_of_ble_eq_true rfl) ⟨Nat.le_of_ble_eq_true rfl, Nat.le_of_ble_eq_true rfl⟩ ⟨Nat.le_of_ble_eq_true rfl, Nat.le_of_ble_eq_true rfl⟩
  show X 0 0 WW μ 7 [some (xR 120), some (xI t)] [xI z4]
  refine r_if_ne hL (tgt := 13) dX8_undo_7 (by decide) (by omega) (fun c7 => ?_) (fun c7 => ?_)
  · skip
    refine r_iload_n hL (x := t) dX8_undo_13 rfl ?_
    refine r_aload_n hL (x := 120) dX8_undo_14 rfl ?_
    refine r_geti hL xcl8 2 (j' := 2) rfl (by decide) s_120 (by decide) fl_X8_161 (by decide) (by decide) dX8_undo_15 (fun hr15 => ?_)
    obtain ⟨z15, hz15⟩ : ∃ z, z = μ 120 2 := ⟨_, rfl⟩
    rw [← hz15] at hr15 ⊢
    have hb15 : 0 ≤ μ 120 2 ∧ μ 120 2 ≤ 16 := (show ((2 : Int) = 2 → 0 ≤ (μ 120 2) ∧ (μ 120 2) ≤ 16) ∧ ((2 : Int) = 6 → 0 ≤ (μ 120 2) ∧ (μ 120 2) ≤ 10) ∧ ((2 : Int) = 8 → 0 ≤ (μ 120 2) ∧ (μ 120 2) ≤ 20) ∧ ((2 : Int) = 9 → 0 ≤ (μ 120 2) ∧ (μ 120 2) ≤ 2147483647) ∧ ((2 : Int) = 11 → 0 ≤ (μ 120 2) ∧ (μ 120 2) ≤ 10) ∧ ((2 : Int) = 13 → 0 ≤ (μ 120 2) ∧ (μ 120 2) ≤ 10) ∧ ((2 : Int) = 20 → 0 ≤ (μ 120 2) ∧ (μ 120 2) ≤ 8) from hB 120 2).1 (by omega)
    refine r_icmp_le hL (tgt := 24) dX8_undo_18 (by decide) (by omega) (by omega) (fun c18 => ?_) (fun c18 => ?_)
    · skip
      refine r_aload_n hL (x := 120) dX8_undo_24 rfl ?_
      refine r_dup hL dX8_undo_25 rfl ?_
      refine r_geti hL xcl8 2 (j' := 2) rfl (by decide) s_120 (by decide) fl_X8_161 (by decide) (by decide) dX8_undo_26 (fun hr26 => ?_)
      obtain ⟨z26, hz26⟩ : ∃ z, z = μ 120 2 := ⟨_, rfl⟩
      rw [← hz26] at hr26 ⊢
      have hb26 : 0 ≤ μ 120 2 ∧ μ 120 2 ≤ 16 := (show ((2 : Int) = 2 → 0 ≤ (μ 120 2) ∧ (μ 120 2) ≤ 16) ∧ ((2 : Int) = 6 → 0 ≤ (μ 120 2) ∧ (μ 120 2) ≤ 10) ∧ ((2 : Int) = 8 → 0 ≤ (μ 120 2) ∧ (μ 120 2) ≤ 20) ∧ ((2 : Int) = 9 → 0 ≤ (μ 120 2) ∧ (μ 120 2) ≤ 2147483647) ∧ ((2 : Int) = 11 → 0 ≤ (μ 120 2) ∧ (μ 120 2) ≤ 10) ∧ ((2 : Int) = 13 → 0 ≤ (μ 120 2) ∧ (μ 120 2) ≤ 10) ∧ ((2 : Int) = 20 → 0 ≤ (μ 120 2) ∧ (μ 120 2) ≤ 8) from hB 120 2).1 (by omega)
      refine r_iload_n hL (x := t) dX8_undo_29 rfl ?_
      refine r_isub hL dX8_undo_30 ?_
      refine r_puti hL xcl8 2 (j' := 2) rfl (by decide) s_120 (by decide) fl_X8_161 rfl rfl (by omega) dX8_undo_31 (fun μ1 hm1 => ?_)
      have hB1 : BI μ1 := by rw [hm1]; exact hB.up (by show ((2 : Int) = 2 → 0 ≤ (z26 - t) ∧ (z26 - t) ≤ 16) ∧ ((2 : Int) = 6 → 0 ≤ (z26 - t) ∧ (z26 - t) ≤ 10) ∧ ((2 : Int) = 8 → 0 ≤ (z26 - t) ∧ (z26 - t) ≤ 20) ∧ ((2 : Int) = 9 → 0 ≤ (z26 - t) ∧ (z26 - t) ≤ 2147483647) ∧ ((2 : Int) = 11 → 0 ≤ (z26 - t) ∧ (z26 - t) ≤ 10) ∧ ((2 : Int) = 13 → 0 ≤ (z26 - t) ∧ (z26 - t) ≤ 10) ∧ ((2 : Int) = 20 → 0 ≤ (z26 - t) ∧ (z26 - t) ≤ 8); omega)
      have hF1 : Fr MF μ μ1 := by rw [hm1]; exact hF.up (by unfold MF; omega)
      have hk1_120_2 : μ1 120 2 = z26 - t := by rw [hm1]; exact xup_s _ _ _ _
      refine r_aload_n hL (x := 120) dX8_undo_34 rfl ?_
      refine r_getr hL xcl8 1 (by decide) s_120 (by decide) fl_X8_13 (by decide) f_120_1 dX8_undo_35 ?_
      refine r_bipush hL dX8_undo_38 (by decide) ?_
      refine r_aload_n hL (x := 120) dX8_undo_40 rfl ?_
      refine r_geti hL xcl8 2 (j' := 2) rfl (by decide) s_120 (by decide) fl_X8_161 (by decide) (by decide) dX8_undo_41 (fun hr41 => ?_)
      obtain ⟨z41, hz41⟩ : ∃ z, z = μ1 120 2 := ⟨_, rfl⟩
      rw [← hz41] at hr41 ⊢
      have hb41 : 0 ≤ μ1 120 2 ∧ μ1 120 2 ≤ 16 := (show ((2 : Int) = 2 → 0 ≤ (μ1 120 2) ∧ (μ1 120 2) ≤ 16) ∧ ((2 : Int) = 6 → 0 ≤ (μ1 120 2) ∧ (μ1 120 2) ≤ 10) ∧ ((2 : Int) = 8 → 0 ≤ (μ1 120 2) ∧ (μ1 120 2) ≤ 20) ∧ ((2 : Int) = 9 → 0 ≤ (μ1 120 2) ∧ (μ1 120 2) ≤ 2147483647) ∧ ((2 : Int) = 11 → 0 ≤ (μ1 120 2) ∧ (μ1 120 2) ≤ 10) ∧ ((2 : Int) = 13 → 0 ≤ (μ1 120 2) ∧ (μ1 120 2) ≤ 10) ∧ ((2 : Int) = 20 → 0 ≤ (μ1 120 2) ∧ (μ1 120 2) ≤ 8) from hB1 120 2).1 (by omega)
      refine r_imul hL dX8_undo_44 ?_
      refine r_aload_n hL (x := 120) dX8_undo_45 rfl ?_
      refine r_getr hL xcl8 0 (by decide) s_120 (by decide) fl_X8_7 (by decide) f_120_0 dX8_undo_46 ?_
      refine r_iconst hL dX8_undo_49 ?_
      refine r_bipush hL dX8_undo_50 (by decide) ?_
      refine r_callS hL (st := []) (av := [xR 122, xI (110 * z41), xR 121, xI 0, xI 110]) (m_X8_bring (μ := μ1) 122 1760 (by decide) s_122 (by decide) (110 * z41) 121 110 (by decide) s_121 (by decide) 0 110 (by omega) (by omega) (fun h => absurd h (by decide)) (fun μ52c hm52c => ⟨rfl, ?_⟩)) ce_yX8_bring sm_yX8_bring ml_X8_73 dX8_undo_52 rfl (Nat.le_of_ble_eq_true rfl) ⟨Nat.le_of_ble_eq_true rfl, Nat.le_of_ble_eq_true rfl⟩ ⟨Nat.le_of_ble_eq_true rfl, Nat.le_of_ble_eq_true rfl⟩
      show X 0 0 WW μ52c 55 [some (xR 120), some (xI t)] []
      have hB52c : BI μ52c := by rw [hm52c]; exact hB1.br (fun k hk0 hk1 => by have hq : (((110 * z41) + k) % 110 = 0 → 0 ≤ (μ1 122 ((110 * z41) + k)) ∧ (μ1 122 ((110 * z41) + k)) ≤ 8) ∧ (((110 * z41) + k) % 110 = 1 → 0 ≤ (μ1 122 ((110 * z41) + k)) ∧ (μ1 122 ((110 * z41) + k)) ≤ 2) ∧ (2 ≤ ((110 * z41) + k) % 110 ∧ ((110 * z41) + k) % 110 ≤ 5 → 0 ≤ (μ1 122 ((110 * z41) + k)) ∧ (μ1 122 ((110 * z41) + k)) ≤ 9) ∧ (6 ≤ ((110 * z41) + k) % 110 ∧ ((110 * z41) + k) % 110 ≤ 13 → 0 ≤ (μ1 122 ((110 * z41) + k)) ∧ (μ1 122 ((110 * z41) + k)) ≤ 10) ∧ (30 ≤ ((110 * z41) + k) % 110 → 0 ≤ (μ1 122 ((110 * z41) + k)) ∧ (μ1 122 ((110 * z41) + k)) ≤ 7) := hB1 122 _; show ((0 + k) = 0 → 0 ≤ (μ1 122 ((110 * z41) + k)) ∧ (μ1 122 ((110 * z41) + k)) ≤ 8) ∧ ((0 + k) = 1 → 0 ≤ (μ1 122 ((110 * z41) + k)) ∧ (μ1 122 ((110 * z41) + k)) ≤ 2) ∧ (2 ≤ (0 + k) ∧ (0 + k) ≤ 5 → 0 ≤ (μ1 122 ((110 * z41) + k)) ∧ (μ1 122 ((110 * z41) + k)) ≤ 9) ∧ (6 ≤ (0 + k) ∧ (0 + k) ≤ 13 → 0 ≤ (μ1 122 ((110 * z41) + k)) ∧ (μ1 122 ((110 * z41) + k)) ≤ 10) ∧ (30 ≤ (0 + k) → 0 ≤ (μ1 122 ((110 * z41) + k)) ∧ (μ1 122 ((110 * z41) + k)) ≤ 7); rw [show ((110 * z41) + k) % 110 = 0 + k by omega] at hq; exact hq)
      have hF52c : Fr MF μ μ52c := by rw [hm52c]; exact hF1.br (fun b _ _ => by unfold MF; omega)
      have hk52c_120_2 : μ52c 120 2 = μ1 120 2 := by rw [hm52c]; exact congrFun (xbr_c (by decide)) _
      refine r_aload_n hL (x := 120) dX8_undo_55 rfl ?_
      refine r_getr hL xcl8 0 (by decide) s_120 (by decide) fl_X8_7 (by decide) f_120_0 dX8_undo_56 ?_
      refine r_iconst hL dX8_undo_59 ?_
      refine r_iald hL dX8_undo_60 (by decide) s_121 (by decide) (by omega) (by omega) (fun hr60 => ?_)
      obtain ⟨z60, hz60⟩ : ∃ z, z = μ52c 121 0 := ⟨_, rfl⟩
      rw [← hz60] at hr60 ⊢
      have hb60 : 0 ≤ μ52c 121 0 ∧ μ52c 121 0 ≤ 8 := (show ((0 : Int) = 0 → 0 ≤ (μ52c 121 0) ∧ (μ52c 121 0) ≤ 8) ∧ ((0 : Int) = 1 → 0 ≤ (μ52c 121 0) ∧ (μ52c 121 0) ≤ 2) ∧ (2 ≤ (0 : Int) ∧ (0 : Int) ≤ 5 → 0 ≤ (μ52c 121 0) ∧ (μ52c 121 0) ≤ 9) ∧ (6 ≤ (0 : Int) ∧ (0 : Int) ≤ 13 → 0 ≤ (μ52c 121 0) ∧ (μ52c 121 0) ≤ 10) ∧ (30 ≤ (0 : Int) → 0 ≤ (μ52c 121 0) ∧ (μ52c 121 0) ≤ 7) from hB52c 121 0).1 (by omega)
      exact r_iret hL dX8_undo_61 rfl (hK _ _ hB52c hF52c (Or.inr (Or.inr ⟨by omega, by omega, hz60, by rw [hm52c]; exact (show Fr UDf μ μ1 by rw [hm1]; exact Fr.rf.up (by unfold UDf; omega)).br (fun b _ _ => by unfold UDf; omega), by omega, fun j j0 j1 => by rw [hm52c, show μ 120 2 - t = z41 by omega]; exact (if_pos ⟨rfl, by omega, by omega⟩).trans (by rw [hm1, congrFun (xup_c (by decide)) _, show 110 * z41 + (j - 0) = 110 * z41 + j by omega])⟩)) (by omega))
    · skip
      refine r_ldc hL (n := -1000000003) dX8_undo_21 kc_X8_164 (by decide) ?_
      exact r_iret hL dX8_undo_23 rfl (hK _ _ hB hF (Or.inr (Or.inl ⟨by omega, by omega, rfl, rfl⟩)) (by omega))
  · skip
    refine r_ldc hL (n := -1000000002) dX8_undo_10 kc_X8_159 (by decide) ?_
    exact r_iret hL dX8_undo_12 rfl (hK _ _ hB hF (Or.inl ⟨by omega, rfl, rfl⟩) (by omega))

set_option maxHeartbeats 4000000 in
set_option maxRecDepth 20000 in
theorem m_X8_write {K : Option xV → xW → xM → Prop} {μ : xM} (hB0 : BI μ) (t : Int) (ht : xrg t) (u : Int) (hu : xrg u) (v : Int) (hv : xrg v) (hK : ∀ r μ', BI μ' → Fr MF μ μ' → D_write t u v μ r μ' → xrg r → K (some (xI r)) WW μ') : xMet yX8_write cX8_write 4 (some .int) 2 43 0 0 [xR 120, xI t, xI u, xI v] WW μ K := by
  refine xMet.go RX8 "write" rfl rfl (by decide) [some (xR 120), some (xI t), some (xI u), some (xI v)] (Nat.le_of_ble_eq_true rfl) rfl (fun X hL => ?_)
  have hB := hB0
  have hF : Fr MF μ μ := Fr.rf
  refine r_aload_n hL (x := 120) dX8_write_0 rfl ?_
  refine r_iload_n hL (x := t) dX8_write_1 rfl ?_
  refine r_callV hL (st := []) (av := [xI t]) (k := 120) (m_X8_isTale (μ := μ) hB t (by omega) (fun z2 hc2 => ⟨rfl, ?_⟩)) ce_yX8_isTale im_yX8_isTale se_yX8_isTale ml_X8_171 xcl8 (by decide) s_120 dX8_write_2 rfl (Nat.le_of_ble_eq_true rfl) ⟨Nat.le_of_ble_eq_true rfl, Nat.le_of_ble_eq_true rfl⟩ ⟨Nat.le_of_ble_eq_true rfl, Nat.le_of_ble_eq_true rfl⟩
  show X 0 0 WW μ 5 [some (xR 120), some (xI t), some (xI u), some (xI v)] [xI z2]
  refine r_if_eq hL (tgt := 16) dX8_write_5 (by decide) (by omega) (fun c5 => ?_) (fun c5 => ?_)
  · skip
    refine r_ldc hL (n := -1000000001) dX8_write_16 kc_X8_183 (by decide) ?_
    exact r_iret hL dX8_write_18 rfl (hK _ _ hB hF (Or.inl ⟨by omega, rfl, rfl⟩) (by omega))
  · skip
    refine r_aload_n hL (x := 120) dX8_write_8 rfl ?_
    refine r_iload_n hL (x := u) dX8_write_9 rfl ?_
    refine r_callV hL (st := []) (av := [xI u]) (k := 120) (m_X8_isTale (μ := μ) hB u (by omega) (fun z10 hc10 => ⟨rfl, ?_⟩)) ce_yX8_isTale im_yX8_isTale se_yX8_isTale ml_X8_171 xcl8 (by decide) s_120 dX8_write_10 rfl (Nat.le_of_ble_eq_true rfl) ⟨Nat.le_of_ble_eq_true rfl, Nat.le_of_ble_eq_true rfl⟩ ⟨Nat.le_of_ble_eq_true rfl, Nat.le_of_ble_eq_true rfl⟩
    show X 0 0 WW μ 13 [some (xR 120), some (xI t), some (xI u), some (xI v)] [xI z10]
    refine r_if_ne hL (tgt := 19) dX8_write_13 (by decide) (by omega) (fun c13 => ?_) (fun c13 => ?_)
    · skip
      refine r_aload_n hL (x := 120) dX8_write_19 rfl ?_
      refine r_geti hL xcl8 8 (j' := 8) rfl (by decide) s_120 (by decide) fl_X8_168 (by decide) (by decide) dX8_write_20 (fun hr20 => ?_)
      obtain ⟨z20, hz20⟩ : ∃ z, z = μ 120 8 := ⟨_, rfl⟩
      rw [← hz20] at hr20 ⊢
      have hb20 : 0 ≤ μ 120 8 ∧ μ 120 8 ≤ 20 := (show ((8 : Int) = 2 → 0 ≤ (μ 120 8) ∧ (μ 120 8) ≤ 16) ∧ ((8 : Int) = 6 → 0 ≤ (μ 120 8) ∧ (μ 120 8) ≤ 10) ∧ ((8 : Int) = 8 → 0 ≤ (μ 120 8) ∧ (μ 120 8) ≤ 20) ∧ ((8 : Int) = 9 → 0 ≤ (μ 120 8) ∧ (μ 120 8) ≤ 2147483647) ∧ ((8 : Int) = 11 → 0 ≤ (μ 120 8) ∧ (μ 120 8) ≤ 10) ∧ ((8 : Int) = 13 → 0 ≤ (μ 120 8) ∧ (μ 120 8) ≤ 10) ∧ ((8 : Int) = 20 → 0 ≤ (μ 120 8) ∧ (μ 120 8) ≤ 8) from hB 120 8).2.2.1 (by omega)
      refine r_bipush hL dX8_write_23 (by decide) ?_
      refine r_icmp_ne hL (tgt := 31) dX8_write_25 (by decide) (by omega) (by omega) (fun c25 => ?_) (fun c25 => ?_)
      · skip
        refine r_aload_n hL (x := 120) dX8_write_31 rfl ?_
        refine r_getr hL xcl8 7 (by decide) s_120 (by decide) fl_X8_26 (by decide) f_120_7 dX8_write_32 ?_
        refine r_iconst hL dX8_write_35 ?_
        refine r_aload_n hL (x := 120) dX8_write_36 rfl ?_
        refine r_geti hL xcl8 8 (j' := 8) rfl (by decide) s_120 (by decide) fl_X8_168 (by decide) (by decide) dX8_write_37 (fun hr37 => ?_)
        obtain ⟨z37, hz37⟩ : ∃ z, z = μ 120 8 := ⟨_, rfl⟩
        rw [← hz37] at hr37 ⊢
        have hb37 : 0 ≤ μ 120 8 ∧ μ 120 8 ≤ 20 := (show ((8 : Int) = 2 → 0 ≤ (μ 120 8) ∧ (μ 120 8) ≤ 16) ∧ ((8 : Int) = 6 → 0 ≤ (μ 120 8) ∧ (μ 120 8) ≤ 10) ∧ ((8 : Int) = 8 → 0 ≤ (μ 120 8) ∧ (μ 120 8) ≤ 20) ∧ ((8 : Int) = 9 → 0 ≤ (μ 120 8) ∧ (μ 120 8) ≤ 2147483647) ∧ ((8 : Int) = 11 → 0 ≤ (μ 120 8) ∧ (μ 120 8) ≤ 10) ∧ ((8 : Int) = 13 → 0 ≤ (μ 120 8) ∧ (μ 120 8) ≤ 10) ∧ ((8 : Int) = 20 → 0 ≤ (μ 120 8) ∧ (μ 120 8) ≤ 8) from hB 120 8).2.2.1 (by omega)
        refine r_imul hL dX8_write_40 ?_
        refine r_iload_n hL (x := t) dX8_write_41 rfl ?_
        refine r_iast hL dX8_write_42 (by decide) s_126 (by decide) (by omega) (by omega) (by omega) (fun μ1 hm1 => ?_)
        have hB1 : BI μ1 := by rw [hm1]; exact hB.up (by show (3 * z37) % 3 ≤ 1 → 0 ≤ t ∧ t ≤ 7; omega)
        have hF1 : Fr MF μ μ1 := by rw [hm1]; exact hF.up (by unfold MF; omega)
        have hk1_120_8 : μ1 120 8 = μ 120 8 := by rw [hm1]; exact congrFun (xup_c (by decide)) _
        refine r_aload_n hL (x := 120) dX8_write_43 rfl ?_
        refine r_getr hL xcl8 7 (by decide) s_120 (by decide) fl_X8_26 (by decide) f_120_7 dX8_write_44 ?_
        refine r_iconst hL dX8_write_47 ?_
        refine r_aload_n hL (x := 120) dX8_write_48 rfl ?_
        refine r_geti hL xcl8 8 (j' := 8) rfl (by decide) s_120 (by decide) fl_X8_168 (by decide) (by decide) dX8_write_49 (fun hr49 => ?_)
        obtain ⟨z49, hz49⟩ : ∃ z, z = μ1 120 8 := ⟨_, rfl⟩
        rw [← hz49] at hr49 ⊢
        have hb49 : 0 ≤ μ1 120 8 ∧ μ1 120 8 ≤ 20 := (show ((8 : Int) = 2 → 0 ≤ (μ1 120 8) ∧ (μ1 120 8) ≤ 16) ∧ ((8 : Int) = 6 → 0 ≤ (μ1 120 8) ∧ (μ1 120 8) ≤ 10) ∧ ((8 : Int) = 8 → 0 ≤ (μ1 120 8) ∧ (μ1 120 8) ≤ 20) ∧ ((8 : Int) = 9 → 0 ≤ (μ1 120 8) ∧ (μ1 120 8) ≤ 2147483647) ∧ ((8 : Int) = 11 → 0 ≤ (μ1 120 8) ∧ (μ1 120 8) ≤ 10) ∧ ((8 : Int) = 13 → 0 ≤ (μ1 120 8) ∧ (μ1 120 8) ≤ 10) ∧ ((8 : Int) = 20 → 0 ≤ (μ1 120 8) ∧ (μ1 120 8) ≤ 8) from hB1 120 8).2.2.1 (by omega)
        refine r_imul hL dX8_write_52 ?_
        refine r_iconst hL dX8_write_53 ?_
        refine r_iadd hL dX8_write_54 ?_
        refine r_iload_n hL (x := u) dX8_write_55 rfl ?_
        refine r_iast hL dX8_write_56 (by decide) s_126 (by decide) (by omega) (by omega) (by omega) (fun μ2 hm2 => ?_)
        have hB2 : BI μ2 := by rw [hm2]; exact hB1.up (by show ((3 * z49) + 1) % 3 ≤ 1 → 0 ≤ u ∧ u ≤ 7; omega)
        have hF2 : Fr MF μ μ2 := by rw [hm2]; exact hF1.up (by unfold MF; omega)
        have hk2_120_8 : μ2 120 8 = μ1 120 8 := by rw [hm2]; exact congrFun (xup_c (by decide)) _
        refine r_aload_n hL (x := 120) dX8_write_57 rfl ?_
        refine r_getr hL xcl8 7 (by decide) s_120 (by decide) fl_X8_26 (by decide) f_120_7 dX8_write_58 ?_
        refine r_iconst hL dX8_write_61 ?_
        refine r_aload_n hL (x := 120) dX8_write_62 rfl ?_
        refine r_geti hL xcl8 8 (j' := 8) rfl (by decide) s_120 (by decide) fl_X8_168 (by decide) (by decide) dX8_write_63 (fun hr63 => ?_)
        obtain ⟨z63, hz63⟩ : ∃ z, z = μ2 120 8 := ⟨_, rfl⟩
        rw [← hz63] at hr63 ⊢
        have hb63 : 0 ≤ μ2 120 8 ∧ μ2 120 8 ≤ 20 := (show ((8 : Int) = 2 → 0 ≤ (μ2 120 8) ∧ (μ2 120 8) ≤ 16) ∧ ((8 : Int) = 6 → 0 ≤ (μ2 120 8) ∧ (μ2 120 8) ≤ 10) ∧ ((8 : Int) = 8 → 0 ≤ (μ2 120 8) ∧ (μ2 120 8) ≤ 20) ∧ ((8 : Int) = 9 → 0 ≤ (μ2 120 8) ∧ (μ2 120 8) ≤ 2147483647) ∧ ((8 : Int) = 11 → 0 ≤ (μ2 120 8) ∧ (μ2 120 8) ≤ 10) ∧ ((8 : Int) = 13 → 0 ≤ (μ2 120 8) ∧ (μ2 120 8) ≤ 10) ∧ ((8 : Int) = 20 → 0 ≤ (μ2 120 8) ∧ (μ2 120 8) ≤ 8) from hB2 120 8).2.2.1 (by omega)
        refine r_imul hL dX8_write_66 ?_
        refine r_iconst hL dX8_write_67 ?_
        refine r_iadd hL dX8_write_68 ?_
        refine r_iload_n hL (x := v) dX8_write_69 rfl ?_
        refine r_iast hL dX8_write_70 (by decide) s_126 (by decide) (by omega) (by omega) (by omega) (fun μ3 hm3 => ?_)
        have hB3 : BI μ3 := by rw [hm3]; exact hB2.up (by show ((3 * z63) + 2) % 3 ≤ 1 → 0 ≤ v ∧ v ≤ 7; omega)
        have hF3 : Fr MF μ μ3 := by rw [hm3]; exact hF2.up (by unfold MF; omega)
        have hk3_120_8 : μ3 120 8 = μ2 120 8 := by rw [hm3]; exact congrFun (xup_c (by decide)) _
        refine r_aload_n hL (x := 120) dX8_write_71 rfl ?_
        refine r_dup hL dX8_write_72 rfl ?_
        refine r_geti hL xcl8 8 (j' := 8) rfl (by decide) s_120 (by decide) fl_X8_168 (by decide) (by decide) dX8_write_73 (fun hr73 => ?_)
        obtain ⟨z73, hz73⟩ : ∃ z, z = μ3 120 8 := ⟨_, rfl⟩
        rw [← hz73] at hr73 ⊢
        have hb73 : 0 ≤ μ3 120 8 ∧ μ3 120 8 ≤ 20 := (show ((8 : Int) = 2 → 0 ≤ (μ3 120 8) ∧ (μ3 120 8) ≤ 16) ∧ ((8 : Int) = 6 → 0 ≤ (μ3 120 8) ∧ (μ3 120 8) ≤ 10) ∧ ((8 : Int) = 8 → 0 ≤ (μ3 120 8) ∧ (μ3 120 8) ≤ 20) ∧ ((8 : Int) = 9 → 0 ≤ (μ3 120 8) ∧ (μ3 120 8) ≤ 2147483647) ∧ ((8 : Int) = 11 → 0 ≤ (μ3 120 8) ∧ (μ3 120 8) ≤ 10) ∧ ((8 : Int) = 13 → 0 ≤ (μ3 120 8) ∧ (μ3 120 8) ≤ 10) ∧ ((8 : Int) = 20 → 0 ≤ (μ3 120 8) ∧ (μ3 120 8) ≤ 8) from hB3 120 8).2.2.1 (by omega)
        refine r_iconst hL dX8_write_76 ?_
        refine r_iadd hL dX8_write_77 ?_
        refine r_puti hL xcl8 8 (j' := 8) rfl (by decide) s_120 (by decide) fl_X8_168 rfl rfl (by omega) dX8_write_78 (fun μ4 hm4 => ?_)
        have hB4 : BI μ4 := by rw [hm4]; exact hB3.up (by show ((8 : Int) = 2 → 0 ≤ (z73 + 1) ∧ (z73 + 1) ≤ 16) ∧ ((8 : Int) = 6 → 0 ≤ (z73 + 1) ∧ (z73 + 1) ≤ 10) ∧ ((8 : Int) = 8 → 0 ≤ (z73 + 1) ∧ (z73 + 1) ≤ 20) ∧ ((8 : Int) = 9 → 0 ≤ (z73 + 1) ∧ (z73 + 1) ≤ 2147483647) ∧ ((8 : Int) = 11 → 0 ≤ (z73 + 1) ∧ (z73 + 1) ≤ 10) ∧ ((8 : Int) = 13 → 0 ≤ (z73 + 1) ∧ (z73 + 1) ≤ 10) ∧ ((8 : Int) = 20 → 0 ≤ (z73 + 1) ∧ (z73 + 1) ≤ 8); omega)
        have hF4 : Fr MF μ μ4 := by rw [hm4]; exact hF3.up (by unfold MF; omega)
        have hk4_120_8 : μ4 120 8 = z73 + 1 := by rw [hm4]; exact xup_s _ _ _ _
        refine r_aload_n hL (x := 120) dX8_write_81 rfl ?_
        refine r_geti hL xcl8 8 (j' := 8) rfl (by decide) s_120 (by decide) fl_X8_168 (by decide) (by decide) dX8_write_82 (fun hr82 => ?_)
        obtain ⟨z82, hz82⟩ : ∃ z, z = μ4 120 8 := ⟨_, rfl⟩
        rw [← hz82] at hr82 ⊢
        have hb82 : 0 ≤ μ4 120 8 ∧ μ4 120 8 ≤ 20 := (show ((8 : Int) = 2 → 0 ≤ (μ4 120 8) ∧ (μ4 120 8) ≤ 16) ∧ ((8 : Int) = 6 → 0 ≤ (μ4 120 8) ∧ (μ4 120 8) ≤ 10) ∧ ((8 : Int) = 8 → 0 ≤ (μ4 120 8) ∧ (μ4 120 8) ≤ 20) ∧ ((8 : Int) = 9 → 0 ≤ (μ4 120 8) ∧ (μ4 120 8) ≤ 2147483647) ∧ ((8 : Int) = 11 → 0 ≤ (μ4 120 8) ∧ (μ4 120 8) ≤ 10) ∧ ((8 : Int) = 13 → 0 ≤ (μ4 120 8) ∧ (μ4 120 8) ≤ 10) ∧ ((8 : Int) = 20 → 0 ≤ (μ4 120 8) ∧ (μ4 120 8) ≤ 8) from hB4 120 8).2.2.1 (by omega)
        exact r_iret hL dX8_write_85 rfl (hK _ _ hB4 hF4 (Or.inr (Or.inr ⟨by omega, by omega, by omega, by rw [hm4, hm3, hm2, hm1, show z73 = μ 120 8 by omega, show z63 = μ 120 8 by omega, show z49 = μ 120 8 by omega, show z37 = μ 120 8 by omega]⟩)) (by omega))
      · skip
        refine r_ldc hL (n := -1000000004) dX8_write_28 kc_X8_160 (by decide) ?_
        exact r_iret hL dX8_write_30 rfl (hK _ _ hB hF (Or.inr (Or.inl ⟨by omega, by omega, rfl, rfl⟩)) (by omega))
    · skip
      refine r_ldc hL (n := -1000000001) dX8_write_16 kc_X8_183 (by decide) ?_
      exact r_iret hL dX8_write_18 rfl (hK _ _ hB hF (Or.inl ⟨by omega, rfl, rfl⟩) (by omega))

set_option maxHeartbeats 4000000 in
set_option maxRecDepth 20000 in
theorem m_X8_tear {K : Option xV → xW → xM → Prop} {μ : xM} (hB0 : BI μ)  (hK : ∀ r μ', BI μ' → Fr MF μ μ' → D_tear μ r μ' → xrg r → K (some (xI r)) WW μ') : xMet yX8_tear cX8_tear 2 (some .int) 0 0 0 0 [xR 120] WW μ K := by
  refine xMet.go RX8 "tear" rfl rfl (by decide) [some (xR 120), none] (Nat.le_of_ble_eq_true rfl) rfl (fun X hL => ?_)
  have hB := hB0
  have hF : Fr MF μ μ := Fr.rf
  refine r_aload_n hL (x := 120) dX8_tear_0 rfl ?_
  refine r_geti hL xcl8 8 (j' := 8) rfl (by decide) s_120 (by decide) fl_X8_168 (by decide) (by decide) dX8_tear_1 (fun hr1 => ?_)
  obtain ⟨z1, hz1⟩ : ∃ z, z = μ 120 8 := ⟨_, rfl⟩
  rw [← hz1] at hr1 ⊢
  have hb1 : 0 ≤ μ 120 8 ∧ μ 120 8 ≤ 20 := (show ((8 : Int) = 2 → 0 ≤ (μ 120 8) ∧ (μ 120 8) ≤ 16) ∧ ((8 : Int) = 6 → 0 ≤ (μ 120 8) ∧ (μ 120 8) ≤ 10) ∧ ((8 : Int) = 8 → 0 ≤ (μ 120 8) ∧ (μ 120 8) ≤ 20) ∧ ((8 : Int) = 9 → 0 ≤ (μ 120 8) ∧ (μ 120 8) ≤ 2147483647) ∧ ((8 : Int) = 11 → 0 ≤ (μ 120 8) ∧ (μ 120 8) ≤ 10) ∧ ((8 : Int) = 13 → 0 ≤ (μ 120 8) ∧ (μ 120 8) ≤ 10) ∧ ((8 : Int) = 20 → 0 ≤ (μ 120 8) ∧ (μ 120 8) ≤ 8) from hB 120 8).2.2.1 (by omega)
  refine r_istore_n hL (lo' := [some (xR 120), some (xI z1)]) dX8_tear_4 (by decide) rfl ?_
  refine r_aload_n hL (x := 120) dX8_tear_5 rfl ?_
  refine r_iconst hL dX8_tear_6 ?_
  refine r_puti hL xcl8 8 (j' := 8) rfl (by decide) s_120 (by decide) fl_X8_168 rfl rfl (by omega) dX8_tear_7 (fun μ1 hm1 => ?_)
  have hB1 : BI μ1 := by rw [hm1]; exact hB.up (by show ((8 : Int) = 2 → 0 ≤ 0 ∧ 0 ≤ 16) ∧ ((8 : Int) = 6 → 0 ≤ 0 ∧ 0 ≤ 10) ∧ ((8 : Int) = 8 → 0 ≤ 0 ∧ 0 ≤ 20) ∧ ((8 : Int) = 9 → 0 ≤ 0 ∧ 0 ≤ 2147483647) ∧ ((8 : Int) = 11 → 0 ≤ 0 ∧ 0 ≤ 10) ∧ ((8 : Int) = 13 → 0 ≤ 0 ∧ 0 ≤ 10) ∧ ((8 : Int) = 20 → 0 ≤ 0 ∧ 0 ≤ 8); omega)
  have hF1 : Fr MF μ μ1 := by rw [hm1]; exact hF.up (by unfold MF; omega)
  refine r_iload_n hL (x := z1) dX8_tear_10 rfl ?_
  exact r_iret hL dX8_tear_11 rfl (hK _ _ hB1 hF1 (⟨hz1, hm1⟩) (by omega))

set_option maxHeartbeats 4000000 in
set_option maxRecDepth 20000 in
theorem m_X8_seed {K : Option xV → xW → xM → Prop} {μ : xM} (hB0 : BI μ) (t : Int) (ht : xrg t) (hK : ∀ r μ', BI μ' → Fr MF μ μ' → D_seed t μ r μ' → xrg r → K (some (xI r)) WW μ') : xMet yX8_seed cX8_seed 3 (some .int) 0 0 0 0 [xR 120, xI t] WW μ K := by
  refine xMet.go RX8 "seed" rfl rfl (by decide) [some (xR 120), some (xI t), none] (Nat.le_of_ble_eq_true rfl) rfl (fun X hL => ?_)
  have hB := hB0
  have hF : Fr MF μ μ := Fr.rf
  refine r_iload_n hL (x := t) dX8_seed_0 rfl ?_
  refine r_if_ge hL (tgt := 7) dX8_seed_1 (by decide) (by omega) (fun c1 => ?_) (fun c1 => ?_)
  · skip
    refine r_aload_n hL (x := 120) dX8_seed_7 rfl ?_
    refine r_geti hL xcl8 9 (j' := 9) rfl (by decide) s_120 (by decide) fl_X8_205 (by decide) (by decide) dX8_seed_8 (fun hr8 => ?_)
    obtain ⟨z8, hz8⟩ : ∃ z, z = μ 120 9 := ⟨_, rfl⟩
    rw [← hz8] at hr8 ⊢
    have hb8 : 0 ≤ μ 120 9 ∧ μ 120 9 ≤ 2147483647 := (show ((9 : Int) = 2 → 0 ≤ (μ 120 9) ∧ (μ 120 9) ≤ 16) ∧ ((9 : Int) = 6 → 0 ≤ (μ 120 9) ∧ (μ 120 9) ≤ 10) ∧ ((9 : Int) = 8 → 0 ≤ (μ 120 9) ∧ (μ 120 9) ≤ 20) ∧ ((9 : Int) = 9 → 0 ≤ (μ 120 9) ∧ (μ 120 9) ≤ 2147483647) ∧ ((9 : Int) = 11 → 0 ≤ (μ 120 9) ∧ (μ 120 9) ≤ 10) ∧ ((9 : Int) = 13 → 0 ≤ (μ 120 9) ∧ (μ 120 9) ≤ 10) ∧ ((9 : Int) = 20 → 0 ≤ (μ 120 9) ∧ (μ 120 9) ≤ 8) from hB 120 9).2.2.2.1 (by omega)
    refine r_istore_n hL (lo' := [some (xR 120), some (xI t), some (xI z8)]) dX8_seed_11 (by decide) rfl ?_
    refine r_aload_n hL (x := 120) dX8_seed_12 rfl ?_
    refine r_iload_n hL (x := t) dX8_seed_13 rfl ?_
    refine r_puti hL xcl8 9 (j' := 9) rfl (by decide) s_120 (by decide) fl_X8_205 rfl rfl (by omega) dX8_seed_14 (fun μ1 hm1 => ?_)
    have hB1 : BI μ1 := by rw [hm1]; exact hB.up (by show ((9 : Int) = 2 → 0 ≤ t ∧ t ≤ 16) ∧ ((9 : Int) = 6 → 0 ≤ t ∧ t ≤ 10) ∧ ((9 : Int) = 8 → 0 ≤ t ∧ t ≤ 20) ∧ ((9 : Int) = 9 → 0 ≤ t ∧ t ≤ 2147483647) ∧ ((9 : Int) = 11 → 0 ≤ t ∧ t ≤ 10) ∧ ((9 : Int) = 13 → 0 ≤ t ∧ t ≤ 10) ∧ ((9 : Int) = 20 → 0 ≤ t ∧ t ≤ 8); omega)
    have hF1 : Fr MF μ μ1 := by rw [hm1]; exact hF.up (by unfold MF; omega)
    refine r_iload_n hL (x := z8) dX8_seed_17 rfl ?_
    exact r_iret hL dX8_seed_18 rfl (hK _ _ hB1 hF1 (Or.inr ⟨by omega, hz8, hm1⟩) (by omega))
  · skip
    refine r_ldc hL (n := -1000000002) dX8_seed_4 kc_X8_159 (by decide) ?_
    exact r_iret hL dX8_seed_6 rfl (hK _ _ hB hF (Or.inl ⟨by omega, rfl, rfl⟩) (by omega))

set_option maxHeartbeats 4000000 in
set_option maxRecDepth 20000 in
theorem m_X8_keep {K : Option xV → xW → xM → Prop} {μ : xM} (hB0 : BI μ) (t : Int) (ht : xrg t) (hK : ∀ r μ', BI μ' → Fr MF μ μ' → D_keep t μ r μ' → xrg r → K (some (xI r)) WW μ') : xMet yX8_keep cX8_keep 2 (some .int) 1 25 0 0 [xR 120, xI t] WW μ K := by
  refine xMet.go RX8 "keep" rfl rfl (by decide) [some (xR 120), some (xI t)] (Nat.le_of_ble_eq_true rfl) rfl (fun X hL => ?_)
  have hB := hB0
  have hF : Fr MF μ μ := Fr.rf
  refine r_iload_n hL (x := t) dX8_keep_0 rfl ?_
  refine r_iconst hL dX8_keep_1 ?_
  refine r_iconst hL dX8_keep_2 ?_
  refine r_callS hL (st := []) (av := [xI t, xI 0, xI 1]) (m_X8_in (μ := μ) t (by omega) 0 (by omega) 1 (by omega) (fun z3 hc3 => ⟨rfl, ?_⟩)) ce_yX8_in sm_yX8_in ml_X8_62 dX8_keep_3 rfl (Nat.le_of_ble_eq_true rfl) ⟨Nat.le_of_ble_eq_true rfl, Nat.le_of_ble_eq_true rfl⟩ ⟨Nat.le_of_ble_eq_true rfl, Nat.le_of_ble_eq_true rfl⟩
  show X 0 0 WW μ 6 [some (xR 120), some (xI t)] [xI z3]
  refine r_if_ne hL (tgt := 12) dX8_keep_6 (by decide) (by omega) (fun c6 => ?_) (fun c6 => ?_)
  · skip
    refine r_aload_n hL (x := 120) dX8_keep_12 rfl ?_
    refine r_getr hL xcl8 4 (by decide) s_120 (by decide) fl_X8_19 (by decide) f_120_4 dX8_keep_13 ?_
    refine r_iload_n hL (x := t) dX8_keep_16 rfl ?_
    refine r_iconst hL dX8_keep_17 ?_
    refine r_zast hL dX8_keep_18 (by decide) s_124 (by decide) (by omega) (by omega) (by omega) (fun μ1 hm1 => ?_)
    have hB1 : BI μ1 := by rw [hm1]; exact hB.up trivial
    have hF1 : Fr MF μ μ1 := by rw [hm1]; exact hF.up (by unfold MF; omega)
    have hk1_120_9 : μ1 120 9 = μ 120 9 := by rw [hm1]; exact congrFun (xup_c (by decide)) _
    refine r_aload_n hL (x := 120) dX8_keep_19 rfl ?_
    refine r_getr hL xcl8 0 (by decide) s_120 (by decide) fl_X8_7 (by decide) f_120_0 dX8_keep_20 ?_
    refine r_iconst hL dX8_keep_23 ?_
    refine r_aload_n hL (x := 120) dX8_keep_24 rfl ?_
    refine r_getr hL xcl8 3 (by decide) s_120 (by decide) fl_X8_16 (by decide) f_120_3 dX8_keep_25 ?_
    refine r_bipush hL dX8_keep_28 (by decide) ?_
    refine r_iload_n hL (x := t) dX8_keep_30 rfl ?_
    refine r_imul hL dX8_keep_31 ?_
    refine r_bipush hL dX8_keep_32 (by decide) ?_
    refine r_callS hL (st := []) (av := [xR 121, xI 0, xR 123, xI (111 * t), xI 110]) (m_X8_bring (μ := μ1) 121 110 (by decide) s_121 (by decide) 0 123 222 (by decide) s_123 (by decide) (111 * t) 110 (by omega) (by omega) (fun h => absurd h (by decide)) (fun μ34c hm34c => ⟨rfl, ?_⟩)) ce_yX8_bring sm_yX8_bring ml_X8_73 dX8_keep_34 rfl (Nat.le_of_ble_eq_true rfl) ⟨Nat.le_of_ble_eq_true rfl, Nat.le_of_ble_eq_true rfl⟩ ⟨Nat.le_of_ble_eq_true rfl, Nat.le_of_ble_eq_true rfl⟩
    show X 0 0 WW μ34c 37 [some (xR 120), some (xI t)] []
    have hB34c : BI μ34c := by rw [hm34c]; exact hB1.br (fun k hk0 hk1 => by have hq : ((0 + k) = 0 → 0 ≤ (μ1 121 (0 + k)) ∧ (μ1 121 (0 + k)) ≤ 8) ∧ ((0 + k) = 1 → 0 ≤ (μ1 121 (0 + k)) ∧ (μ1 121 (0 + k)) ≤ 2) ∧ (2 ≤ (0 + k) ∧ (0 + k) ≤ 5 → 0 ≤ (μ1 121 (0 + k)) ∧ (μ1 121 (0 + k)) ≤ 9) ∧ (6 ≤ (0 + k) ∧ (0 + k) ≤ 13 → 0 ≤ (μ1 121 (0 + k)) ∧ (μ1 121 (0 + k)) ≤ 10) ∧ (30 ≤ (0 + k) → 0 ≤ (μ1 121 (0 + k)) ∧ (μ1 121 (0 + k)) ≤ 7) := hB1 121 _; show (((111 * t) + k) % 111 = 0 → 0 ≤ (μ1 121 (0 + k)) ∧ (μ1 121 (0 + k)) ≤ 8) ∧ (((111 * t) + k) % 111 = 1 → 0 ≤ (μ1 121 (0 + k)) ∧ (μ1 121 (0 + k)) ≤ 2) ∧ (2 ≤ ((111 * t) + k) % 111 ∧ ((111 * t) + k) % 111 ≤ 5 → 0 ≤ (μ1 121 (0 + k)) ∧ (μ1 121 (0 + k)) ≤ 9) ∧ (6 ≤ ((111 * t) + k) % 111 ∧ ((111 * t) + k) % 111 ≤ 13 → 0 ≤ (μ1 121 (0 + k)) ∧ (μ1 121 (0 + k)) ≤ 10) ∧ (30 ≤ ((111 * t) + k) % 111 ∧ ((111 * t) + k) % 111 ≤ 109 → 0 ≤ (μ1 121 (0 + k)) ∧ (μ1 121 (0 + k)) ≤ 7) ∧ (((111 * t) + k) % 111 = 110 → 0 ≤ (μ1 121 (0 + k)) ∧ (μ1 121 (0 + k)) ≤ 2147483647); rw [show ((111 * t) + k) % 111 = 0 + k by omega]; exact ⟨hq.1, hq.2.1, hq.2.2.1, hq.2.2.2.1, fun h => hq.2.2.2.2 h.1, fun h => by omega⟩)
    have hF34c : Fr MF μ μ34c := by rw [hm34c]; exact hF1.br (fun b _ _ => by unfold MF; omega)
    have hk34c_120_9 : μ34c 120 9 = μ1 120 9 := by rw [hm34c]; exact congrFun (xbr_c (by decide)) _
    refine r_aload_n hL (x := 120) dX8_keep_37 rfl ?_
    refine r_getr hL xcl8 3 (by decide) s_120 (by decide) fl_X8_16 (by decide) f_120_3 dX8_keep_38 ?_
    refine r_bipush hL dX8_keep_41 (by decide) ?_
    refine r_iload_n hL (x := t) dX8_keep_43 rfl ?_
    refine r_imul hL dX8_keep_44 ?_
    refine r_bipush hL dX8_keep_45 (by decide) ?_
    refine r_iadd hL dX8_keep_47 ?_
    refine r_aload_n hL (x := 120) dX8_keep_48 rfl ?_
    refine r_geti hL xcl8 9 (j' := 9) rfl (by decide) s_120 (by decide) fl_X8_205 (by decide) (by decide) dX8_keep_49 (fun hr49 => ?_)
    obtain ⟨z49, hz49⟩ : ∃ z, z = μ34c 120 9 := ⟨_, rfl⟩
    rw [← hz49] at hr49 ⊢
    have hb49 : 0 ≤ μ34c 120 9 ∧ μ34c 120 9 ≤ 2147483647 := (show ((9 : Int) = 2 → 0 ≤ (μ34c 120 9) ∧ (μ34c 120 9) ≤ 16) ∧ ((9 : Int) = 6 → 0 ≤ (μ34c 120 9) ∧ (μ34c 120 9) ≤ 10) ∧ ((9 : Int) = 8 → 0 ≤ (μ34c 120 9) ∧ (μ34c 120 9) ≤ 20) ∧ ((9 : Int) = 9 → 0 ≤ (μ34c 120 9) ∧ (μ34c 120 9) ≤ 2147483647) ∧ ((9 : Int) = 11 → 0 ≤ (μ34c 120 9) ∧ (μ34c 120 9) ≤ 10) ∧ ((9 : Int) = 13 → 0 ≤ (μ34c 120 9) ∧ (μ34c 120 9) ≤ 10) ∧ ((9 : Int) = 20 → 0 ≤ (μ34c 120 9) ∧ (μ34c 120 9) ≤ 8) from hB34c 120 9).2.2.2.1 (by omega)
    refine r_iast hL dX8_keep_52 (by decide) s_123 (by decide) (by omega) (by omega) (by omega) (fun μ2 hm2 => ?_)
    have hB2 : BI μ2 := by rw [hm2]; exact hB34c.up (by show (((111 * t) + 110) % 111 = 0 → 0 ≤ z49 ∧ z49 ≤ 8) ∧ (((111 * t) + 110) % 111 = 1 → 0 ≤ z49 ∧ z49 ≤ 2) ∧ (2 ≤ ((111 * t) + 110) % 111 ∧ ((111 * t) + 110) % 111 ≤ 5 → 0 ≤ z49 ∧ z49 ≤ 9) ∧ (6 ≤ ((111 * t) + 110) % 111 ∧ ((111 * t) + 110) % 111 ≤ 13 → 0 ≤ z49 ∧ z49 ≤ 10) ∧ (30 ≤ ((111 * t) + 110) % 111 ∧ ((111 * t) + 110) % 111 ≤ 109 → 0 ≤ z49 ∧ z49 ≤ 7) ∧ (((111 * t) + 110) % 111 = 110 → 0 ≤ z49 ∧ z49 ≤ 2147483647); rw [show ((111 * t) + 110) % 111 = 110 by omega]; omega)
    have hF2 : Fr MF μ μ2 := by rw [hm2]; exact hF34c.up (by unfold MF; omega)
    have hk2_120_9 : μ2 120 9 = μ34c 120 9 := by rw [hm2]; exact congrFun (xup_c (by decide)) _
    refine r_aload_n hL (x := 120) dX8_keep_53 rfl ?_
    refine r_iconst hL dX8_keep_54 ?_
    refine r_puti hL xcl8 2 (j' := 2) rfl (by decide) s_120 (by decide) fl_X8_161 rfl rfl (by omega) dX8_keep_55 (fun μ3 hm3 => ?_)
    have hB3 : BI μ3 := by rw [hm3]; exact hB2.up (by show ((2 : Int) = 2 → 0 ≤ 0 ∧ 0 ≤ 16) ∧ ((2 : Int) = 6 → 0 ≤ 0 ∧ 0 ≤ 10) ∧ ((2 : Int) = 8 → 0 ≤ 0 ∧ 0 ≤ 20) ∧ ((2 : Int) = 9 → 0 ≤ 0 ∧ 0 ≤ 2147483647) ∧ ((2 : Int) = 11 → 0 ≤ 0 ∧ 0 ≤ 10) ∧ ((2 : Int) = 13 → 0 ≤ 0 ∧ 0 ≤ 10) ∧ ((2 : Int) = 20 → 0 ≤ 0 ∧ 0 ≤ 8); omega)
    have hF3 : Fr MF μ μ3 := by rw [hm3]; exact hF2.up (by unfold MF; omega)
    have hk3_120_9 : μ3 120 9 = μ2 120 9 := by rw [hm3]; exact xup_j (by omega)
    refine r_iconst hL dX8_keep_58 ?_
    exact r_iret hL dX8_keep_59 rfl (hK _ _ hB3 hF3 (Or.inr ⟨by omega, rfl, by rw [hm3]; exact Fr.up (by rw [hm2]; exact Fr.up (by rw [hm34c]; exact Fr.br (by rw [hm1]; exact Fr.rf.up (by unfold KPf; omega)) (fun b _ _ => by unfold KPf; omega)) (by unfold KPf; omega)) (by unfold KPf; omega), fun j => by rw [hm3, congrFun (xup_c (by decide)) j, hm2, congrFun (xup_c (by decide)) j, hm34c, congrFun (xbr_c (by decide)) j, hm1]; simp [xup], fun j => by rw [hm3, congrFun (xup_c (by decide)) j, hm2, show z49 = μ 120 9 by omega, hm34c, hm1]; simp [xup, xbr], by rw [hm3]; exact xup_s _ _ _ _⟩) (by omega))
  · skip
    refine r_ldc hL (n := -1000000001) dX8_keep_9 kc_X8_183 (by decide) ?_
    exact r_iret hL dX8_keep_11 rfl (hK _ _ hB hF (Or.inl ⟨by omega, rfl, rfl⟩) (by omega))

set_option maxHeartbeats 4000000 in
set_option maxRecDepth 20000 in
theorem m_X8_goBack {K : Option xV → xW → xM → Prop} {μ : xM} (hB0 : BI μ) (t : Int) (ht : xrg t) (hK : ∀ r μ', BI μ' → Fr MF μ μ' → D_goBack t μ r μ' → xrg r → K (some (xI r)) WW μ') : xMet yX8_goBack cX8_goBack 2 (some .int) 1 25 0 0 [xR 120, xI t] WW μ K := by
  refine xMet.go RX8 "goBack" rfl rfl (by decide) [some (xR 120), some (xI t)] (Nat.le_of_ble_eq_true rfl) rfl (fun X hL => ?_)
  have hB := hB0
  have hF : Fr MF μ μ := Fr.rf
  refine r_iload_n hL (x := t) dX8_goBack_0 rfl ?_
  refine r_iconst hL dX8_goBack_1 ?_
  refine r_iconst hL dX8_goBack_2 ?_
  refine r_callS hL (st := []) (av := [xI t, xI 0, xI 1]) (m_X8_in (μ := μ) t (by omega) 0 (by omega) 1 (by omega) (fun z3 hc3 => ⟨rfl, ?_⟩)) ce_yX8_in sm_yX8_in ml_X8_62 dX8_goBack_3 rfl (Nat.le_of_ble_eq_true rfl) ⟨Nat.le_of_ble_eq_true rfl, Nat.le_of_ble_eq_true rfl⟩ ⟨Nat.le_of_ble_eq_true rfl, Nat.le_of_ble_eq_true rfl⟩
  show X 0 0 WW μ 6 [some (xR 120), some (xI t)] [xI z3]
  refine r_if_ne hL (tgt := 12) dX8_goBack_6 (by decide) (by omega) (fun c6 => ?_) (fun c6 => ?_)
  · skip
    refine r_aload_n hL (x := 120) dX8_goBack_12 rfl ?_
    refine r_getr hL xcl8 4 (by decide) s_120 (by decide) fl_X8_19 (by decide) f_120_4 dX8_goBack_13 ?_
    refine r_iload_n hL (x := t) dX8_goBack_16 rfl ?_
    refine r_zald hL dX8_goBack_17 (by decide) s_124 (by decide) (by omega) (by omega) (fun hr17 => ?_)
    obtain ⟨z17, hz17⟩ : ∃ z, z = μ 124 t := ⟨_, rfl⟩
    rw [← hz17] at hr17 ⊢
    refine r_if_ne hL (tgt := 24) dX8_goBack_18 (by decide) (by omega) (fun c18 => ?_) (fun c18 => ?_)
    · skip
      refine r_aload_n hL (x := 120) dX8_goBack_24 rfl ?_
      refine r_getr hL xcl8 3 (by decide) s_120 (by decide) fl_X8_16 (by decide) f_120_3 dX8_goBack_25 ?_
      refine r_bipush hL dX8_goBack_28 (by decide) ?_
      refine r_iload_n hL (x := t) dX8_goBack_30 rfl ?_
      refine r_imul hL dX8_goBack_31 ?_
      refine r_aload_n hL (x := 120) dX8_goBack_32 rfl ?_
      refine r_getr hL xcl8 0 (by decide) s_120 (by decide) fl_X8_7 (by decide) f_120_0 dX8_goBack_33 ?_
      refine r_iconst hL dX8_goBack_36 ?_
      refine r_bipush hL dX8_goBack_37 (by decide) ?_
      refine r_callS hL (st := []) (av := [xR 123, xI (111 * t), xR 121, xI 0, xI 110]) (m_X8_bring (μ := μ) 123 222 (by decide) s_123 (by decide) (111 * t) 121 110 (by decide) s_121 (by decide) 0 110 (by omega) (by omega) (fun h => absurd h (by decide)) (fun μ39c hm39c => ⟨rfl, ?_⟩)) ce_yX8_bring sm_yX8_bring ml_X8_73 dX8_goBack_39 rfl (Nat.le_of_ble_eq_true rfl) ⟨Nat.le_of_ble_eq_true rfl, Nat.le_of_ble_eq_true rfl⟩ ⟨Nat.le_of_ble_eq_true rfl, Nat.le_of_ble_eq_true rfl⟩
      show X 0 0 WW μ39c 42 [some (xR 120), some (xI t)] []
      have hB39c : BI μ39c := by rw [hm39c]; exact hB.br (fun k hk0 hk1 => by have hq : (((111 * t) + k) % 111 = 0 → 0 ≤ (μ 123 ((111 * t) + k)) ∧ (μ 123 ((111 * t) + k)) ≤ 8) ∧ (((111 * t) + k) % 111 = 1 → 0 ≤ (μ 123 ((111 * t) + k)) ∧ (μ 123 ((111 * t) + k)) ≤ 2) ∧ (2 ≤ ((111 * t) + k) % 111 ∧ ((111 * t) + k) % 111 ≤ 5 → 0 ≤ (μ 123 ((111 * t) + k)) ∧ (μ 123 ((111 * t) + k)) ≤ 9) ∧ (6 ≤ ((111 * t) + k) % 111 ∧ ((111 * t) + k) % 111 ≤ 13 → 0 ≤ (μ 123 ((111 * t) + k)) ∧ (μ 123 ((111 * t) + k)) ≤ 10) ∧ (30 ≤ ((111 * t) + k) % 111 ∧ ((111 * t) + k) % 111 ≤ 109 → 0 ≤ (μ 123 ((111 * t) + k)) ∧ (μ 123 ((111 * t) + k)) ≤ 7) ∧ (((111 * t) + k) % 111 = 110 → 0 ≤ (μ 123 ((111 * t) + k)) ∧ (μ 123 ((111 * t) + k)) ≤ 2147483647) := hB 123 _; show ((0 + k) = 0 → 0 ≤ (μ 123 ((111 * t) + k)) ∧ (μ 123 ((111 * t) + k)) ≤ 8) ∧ ((0 + k) = 1 → 0 ≤ (μ 123 ((111 * t) + k)) ∧ (μ 123 ((111 * t) + k)) ≤ 2) ∧ (2 ≤ (0 + k) ∧ (0 + k) ≤ 5 → 0 ≤ (μ 123 ((111 * t) + k)) ∧ (μ 123 ((111 * t) + k)) ≤ 9) ∧ (6 ≤ (0 + k) ∧ (0 + k) ≤ 13 → 0 ≤ (μ 123 ((111 * t) + k)) ∧ (μ 123 ((111 * t) + k)) ≤ 10) ∧ (30 ≤ (0 + k) → 0 ≤ (μ 123 ((111 * t) + k)) ∧ (μ 123 ((111 * t) + k)) ≤ 7); rw [show ((111 * t) + k) % 111 = 0 + k by omega] at hq; exact ⟨hq.1, hq.2.1, hq.2.2.1, hq.2.2.2.1, fun h => hq.2.2.2.2.1 ⟨h, by omega⟩⟩)
      have hF39c : Fr MF μ μ39c := by rw [hm39c]; exact hF.br (fun b _ _ => by unfold MF; omega)
      refine r_aload_n hL (x := 120) dX8_goBack_42 rfl ?_
      refine r_aload_n hL (x := 120) dX8_goBack_43 rfl ?_
      refine r_getr hL xcl8 3 (by decide) s_120 (by decide) fl_X8_16 (by decide) f_120_3 dX8_goBack_44 ?_
      refine r_bipush hL dX8_goBack_47 (by decide) ?_
      refine r_iload_n hL (x := t) dX8_goBack_49 rfl ?_
      refine r_imul hL dX8_goBack_50 ?_
      refine r_bipush hL dX8_goBack_51 (by decide) ?_
      refine r_iadd hL dX8_goBack_53 ?_
      refine r_iald hL dX8_goBack_54 (by decide) s_123 (by decide) (by omega) (by omega) (fun hr54 => ?_)
      obtain ⟨z54, hz54⟩ : ∃ z, z = μ39c 123 ((111 * t) + 110) := ⟨_, rfl⟩
      rw [← hz54] at hr54 ⊢
      have hb54 : 0 ≤ μ39c 123 ((111 * t) + 110) ∧ μ39c 123 ((111 * t) + 110) ≤ 2147483647 := (show (((111 * t) + 110) % 111 = 0 → 0 ≤ (μ39c 123 ((111 * t) + 110)) ∧ (μ39c 123 ((111 * t) + 110)) ≤ 8) ∧ (((111 * t) + 110) % 111 = 1 → 0 ≤ (μ39c 123 ((111 * t) + 110)) ∧ (μ39c 123 ((111 * t) + 110)) ≤ 2) ∧ (2 ≤ ((111 * t) + 110) % 111 ∧ ((111 * t) + 110) % 111 ≤ 5 → 0 ≤ (μ39c 123 ((111 * t) + 110)) ∧ (μ39c 123 ((111 * t) + 110)) ≤ 9) ∧ (6 ≤ ((111 * t) + 110) % 111 ∧ ((111 * t) + 110) % 111 ≤ 13 → 0 ≤ (μ39c 123 ((111 * t) + 110)) ∧ (μ39c 123 ((111 * t) + 110)) ≤ 10) ∧ (30 ≤ ((111 * t) + 110) % 111 ∧ ((111 * t) + 110) % 111 ≤ 109 → 0 ≤ (μ39c 123 ((111 * t) + 110)) ∧ (μ39c 123 ((111 * t) + 110)) ≤ 7) ∧ (((111 * t) + 110) % 111 = 110 → 0 ≤ (μ39c 123 ((111 * t) + 110)) ∧ (μ39c 123 ((111 * t) + 110)) ≤ 2147483647) from hB39c 123 ((111 * t) + 110)).2.2.2.2.2 (by omega)
      refine r_puti hL xcl8 9 (j' := 9) rfl (by decide) s_120 (by decide) fl_X8_205 rfl rfl (by omega) dX8_goBack_55 (fun μ1 hm1 => ?_)
      have hB1 : BI μ1 := by rw [hm1]; exact hB39c.up (by show ((9 : Int) = 2 → 0 ≤ z54 ∧ z54 ≤ 16) ∧ ((9 : Int) = 6 → 0 ≤ z54 ∧ z54 ≤ 10) ∧ ((9 : Int) = 8 → 0 ≤ z54 ∧ z54 ≤ 20) ∧ ((9 : Int) = 9 → 0 ≤ z54 ∧ z54 ≤ 2147483647) ∧ ((9 : Int) = 11 → 0 ≤ z54 ∧ z54 ≤ 10) ∧ ((9 : Int) = 13 → 0 ≤ z54 ∧ z54 ≤ 10) ∧ ((9 : Int) = 20 → 0 ≤ z54 ∧ z54 ≤ 8); omega)
      have hF1 : Fr MF μ μ1 := by rw [hm1]; exact hF39c.up (by unfold MF; omega)
      refine r_aload_n hL (x := 120) dX8_goBack_58 rfl ?_
      refine r_iconst hL dX8_goBack_59 ?_
      refine r_puti hL xcl8 2 (j' := 2) rfl (by decide) s_120 (by decide) fl_X8_161 rfl rfl (by omega) dX8_goBack_60 (fun μ2 hm2 => ?_)
      have hB2 : BI μ2 := by rw [hm2]; exact hB1.up (by show ((2 : Int) = 2 → 0 ≤ 0 ∧ 0 ≤ 16) ∧ ((2 : Int) = 6 → 0 ≤ 0 ∧ 0 ≤ 10) ∧ ((2 : Int) = 8 → 0 ≤ 0 ∧ 0 ≤ 20) ∧ ((2 : Int) = 9 → 0 ≤ 0 ∧ 0 ≤ 2147483647) ∧ ((2 : Int) = 11 → 0 ≤ 0 ∧ 0 ≤ 10) ∧ ((2 : Int) = 13 → 0 ≤ 0 ∧ 0 ≤ 10) ∧ ((2 : Int) = 20 → 0 ≤ 0 ∧ 0 ≤ 8); omega)
      have hF2 : Fr MF μ μ2 := by rw [hm2]; exact hF1.up (by unfold MF; omega)
      refine r_iconst hL dX8_goBack_63 ?_
      exact r_iret hL dX8_goBack_64 rfl (hK _ _ hB2 hF2 (Or.inr (Or.inr ⟨by omega, by omega, rfl, by rw [hm2]; exact Fr.up (by rw [hm1]; exact Fr.up (by rw [hm39c]; exact Fr.rf.br (fun b _ _ => by unfold GBf; omega)) (by unfold GBf; omega)) (by unfold GBf; omega), fun j j0 j1 => by rw [hm2, congrFun (xup_c (by decide)) j, hm1, congrFun (xup_c (by decide)) j, hm39c]; exact (if_pos ⟨rfl, by omega, by omega⟩).trans (by rw [show 111 * t + (j - 0) = 111 * t + j by omega]), by rw [hm2, xup_j (by omega), hm1, xup_s, hz54, hm39c]; exact congrFun (xbr_c (by decide)) _, by rw [hm2]; exact xup_s _ _ _ _⟩)) (by omega))
    · skip
      refine r_ldc hL (n := -1000000003) dX8_goBack_21 kc_X8_164 (by decide) ?_
      exact r_iret hL dX8_goBack_23 rfl (hK _ _ hB hF (Or.inr (Or.inl ⟨by omega, by omega, rfl, rfl⟩)) (by omega))
  · skip
    refine r_ldc hL (n := -1000000001) dX8_goBack_9 kc_X8_183 (by decide) ?_
    exact r_iret hL dX8_goBack_11 rfl (hK _ _ hB hF (Or.inl ⟨by omega, rfl, rfl⟩) (by omega))

set_option maxHeartbeats 4000000 in
set_option maxRecDepth 20000 in
theorem m_X8_motif {K : Option xV → xW → xM → Prop} {μ : xM} (hB0 : BI μ) (t : Int) (ht : xrg t) (u : Int) (hu : xrg u) (hK : ∀ r, D_motif t u μ r → xrg r → K (some (xI r)) WW μ) : xMet yX8_motif cX8_motif 3 (some .int) 2 43 0 0 [xR 120, xI t, xI u] WW μ K := by
  refine xMet.go RX8 "motif" rfl rfl (by decide) [some (xR 120), some (xI t), some (xI u)] (Nat.le_of_ble_eq_true rfl) rfl (fun X hL => ?_)
  have hB := hB0
  refine r_aload_n hL (x := 120) dX8_motif_0 rfl ?_
  refine r_iload_n hL (x := t) dX8_motif_1 rfl ?_
  refine r_callV hL (st := []) (av := [xI t]) (k := 120) (m_X8_isTale (μ := μ) hB t (by omega) (fun z2 hc2 => ⟨rfl, ?_⟩)) ce_yX8_isTale im_yX8_isTale se_yX8_isTale ml_X8_171 xcl8 (by decide) s_120 dX8_motif_2 rfl (Nat.le_of_ble_eq_true rfl) ⟨Nat.le_of_ble_eq_true rfl, Nat.le_of_ble_eq_true rfl⟩ ⟨Nat.le_of_ble_eq_true rfl, Nat.le_of_ble_eq_true rfl⟩
  show X 0 0 WW μ 5 [some (xR 120), some (xI t), some (xI u)] [xI z2]
  refine r_if_ne hL (tgt := 11) dX8_motif_5 (by decide) (by omega) (fun c5 => ?_) (fun c5 => ?_)
  · skip
    refine r_iload_n hL (x := u) dX8_motif_11 rfl ?_
    refine r_iconst hL dX8_motif_12 ?_
    refine r_aload_n hL (x := 120) dX8_motif_13 rfl ?_
    refine r_getr hL xcl8 0 (by decide) s_120 (by decide) fl_X8_7 (by decide) f_120_0 dX8_motif_14 ?_
    refine r_bipush hL dX8_motif_17 (by decide) ?_
    refine r_iload_n hL (x := t) dX8_motif_19 rfl ?_
    refine r_iadd hL dX8_motif_20 ?_
    refine r_iald hL dX8_motif_21 (by decide) s_121 (by decide) (by omega) (by omega) (fun hr21 => ?_)
    obtain ⟨z21, hz21⟩ : ∃ z, z = μ 121 (6 + t) := ⟨_, rfl⟩
    rw [← hz21] at hr21 ⊢
    have hb21 : 0 ≤ μ 121 (6 + t) ∧ μ 121 (6 + t) ≤ 10 := (show ((6 + t) = 0 → 0 ≤ (μ 121 (6 + t)) ∧ (μ 121 (6 + t)) ≤ 8) ∧ ((6 + t) = 1 → 0 ≤ (μ 121 (6 + t)) ∧ (μ 121 (6 + t)) ≤ 2) ∧ (2 ≤ (6 + t) ∧ (6 + t) ≤ 5 → 0 ≤ (μ 121 (6 + t)) ∧ (μ 121 (6 + t)) ≤ 9) ∧ (6 ≤ (6 + t) ∧ (6 + t) ≤ 13 → 0 ≤ (μ 121 (6 + t)) ∧ (μ 121 (6 + t)) ≤ 10) ∧ (30 ≤ (6 + t) → 0 ≤ (μ 121 (6 + t)) ∧ (μ 121 (6 + t)) ≤ 7) from hB 121 (6 + t)).2.2.2.1 (by omega)
    refine r_iconst hL dX8_motif_22 ?_
    refine r_isub hL dX8_motif_23 ?_
    refine r_callS hL (st := []) (av := [xI u, xI 0, xI (z21 - 1)]) (m_X8_in (μ := μ) u (by omega) 0 (by omega) (z21 - 1) (by omega) (fun z24 hc24 => ⟨rfl, ?_⟩)) ce_yX8_in sm_yX8_in ml_X8_62 dX8_motif_24 rfl (Nat.le_of_ble_eq_true rfl) ⟨Nat.le_of_ble_eq_true rfl, Nat.le_of_ble_eq_true rfl⟩ ⟨Nat.le_of_ble_eq_true rfl, Nat.le_of_ble_eq_true rfl⟩
    show X 0 0 WW μ 27 [some (xR 120), some (xI t), some (xI u)] [xI z24]
    refine r_if_eq hL (tgt := 47) dX8_motif_27 (by decide) (by omega) (fun c27 => ?_) (fun c27 => ?_)
    · skip
      refine r_iconst hL dX8_motif_47 ?_
      exact r_iret hL dX8_motif_48 rfl (hK _ (by first | exact Or.inr (Or.inr ⟨by omega, by omega, hz43⟩) | exact Or.inr (Or.inl ⟨by omega, by omega, rfl⟩)) (by omega))
    · skip
      refine r_aload_n hL (x := 120) dX8_motif_30 rfl ?_
      refine r_getr hL xcl8 0 (by decide) s_120 (by decide) fl_X8_7 (by decide) f_120_0 dX8_motif_31 ?_
      refine r_bipush hL dX8_motif_34 (by decide) ?_
      refine r_bipush hL dX8_motif_36 (by decide) ?_
      refine r_iload_n hL (x := t) dX8_motif_38 rfl ?_
      refine r_imul hL dX8_motif_39 ?_
      refine r_iadd hL dX8_motif_40 ?_
      refine r_iload_n hL (x := u) dX8_motif_41 rfl ?_
      refine r_iadd hL dX8_motif_42 ?_
      refine r_iald hL dX8_motif_43 (by decide) s_121 (by decide) (by omega) (by omega) (fun hr43 => ?_)
      obtain ⟨z43, hz43⟩ : ∃ z, z = μ 121 ((30 + (10 * t)) + u) := ⟨_, rfl⟩
      rw [← hz43] at hr43 ⊢
      have hb43 : 0 ≤ μ 121 ((30 + (10 * t)) + u) ∧ μ 121 ((30 + (10 * t)) + u) ≤ 7 := (show (((30 + (10 * t)) + u) = 0 → 0 ≤ (μ 121 ((30 + (10 * t)) + u)) ∧ (μ 121 ((30 + (10 * t)) + u)) ≤ 8) ∧ (((30 + (10 * t)) + u) = 1 → 0 ≤ (μ 121 ((30 + (10 * t)) + u)) ∧ (μ 121 ((30 + (10 * t)) + u)) ≤ 2) ∧ (2 ≤ ((30 + (10 * t)) + u) ∧ ((30 + (10 * t)) + u) ≤ 5 → 0 ≤ (μ 121 ((30 + (10 * t)) + u)) ∧ (μ 121 ((30 + (10 * t)) + u)) ≤ 9) ∧ (6 ≤ ((30 + (10 * t)) + u) ∧ ((30 + (10 * t)) + u) ≤ 13 → 0 ≤ (μ 121 ((30 + (10 * t)) + u)) ∧ (μ 121 ((30 + (10 * t)) + u)) ≤ 10) ∧ (30 ≤ ((30 + (10 * t)) + u) → 0 ≤ (μ 121 ((30 + (10 * t)) + u)) ∧ (μ 121 ((30 + (10 * t)) + u)) ≤ 7) from hB 121 ((30 + (10 * t)) + u)).2.2.2.2 (by omega)
      refine r_goto hL (tgt := 48) dX8_motif_44 (by decide) ?_
      exact r_iret hL dX8_motif_48 rfl (hK _ (by first | exact Or.inr (Or.inr ⟨by omega, by omega, hz43⟩) | exact Or.inr (Or.inl ⟨by omega, by omega, rfl⟩)) (by omega))
  · skip
    refine r_ldc hL (n := -1000000001) dX8_motif_8 kc_X8_183 (by decide) ?_
    exact r_iret hL dX8_motif_10 rfl (hK _ (Or.inl ⟨by omega, rfl⟩) (by omega))

set_option maxHeartbeats 4000000 in
set_option maxRecDepth 20000 in
theorem m_X8_costAt {K : Option xV → xW → xM → Prop} {μ : xM} (hB0 : BI μ) (t : Int) (ht : xrg t) (hK : ∀ r, D_costAt t μ r → xrg r → K (some (xI r)) WW μ) : xMet yX8_costAt cX8_costAt 2 (some .int) 1 22 0 0 [xR 120, xI t] WW μ K := by
  refine xMet.go RX8 "costAt" rfl rfl (by decide) [some (xR 120), some (xI t)] (Nat.le_of_ble_eq_true rfl) rfl (fun X hL => ?_)
  have hB := hB0
  refine r_iload_n hL (x := t) dX8_costAt_0 rfl ?_
  refine r_iconst hL dX8_costAt_1 ?_
  refine r_iconst hL dX8_costAt_2 ?_
  refine r_callS hL (st := []) (av := [xI t, xI 0, xI 3]) (m_X8_in (μ := μ) t (by omega) 0 (by omega) 3 (by omega) (fun z3 hc3 => ⟨rfl, ?_⟩)) ce_yX8_in sm_yX8_in ml_X8_62 dX8_costAt_3 rfl (Nat.le_of_ble_eq_true rfl) ⟨Nat.le_of_ble_eq_true rfl, Nat.le_of_ble_eq_true rfl⟩ ⟨Nat.le_of_ble_eq_true rfl, Nat.le_of_ble_eq_true rfl⟩
  show X 0 0 WW μ 6 [some (xR 120), some (xI t)] [xI z3]
  refine r_if_eq hL (tgt := 20) dX8_costAt_6 (by decide) (by omega) (fun c6 => ?_) (fun c6 => ?_)
  · skip
    refine r_ldc hL (n := -1000000002) dX8_costAt_20 kc_X8_159 (by decide) ?_
    exact r_iret hL dX8_costAt_22 rfl (hK _ (by first | exact Or.inr ⟨by omega, hz16⟩ | exact Or.inl ⟨by omega, rfl⟩) (by omega))
  · skip
    refine r_aload_n hL (x := 120) dX8_costAt_9 rfl ?_
    refine r_getr hL xcl8 0 (by decide) s_120 (by decide) fl_X8_7 (by decide) f_120_0 dX8_costAt_10 ?_
    refine r_iconst hL dX8_costAt_13 ?_
    refine r_iload_n hL (x := t) dX8_costAt_14 rfl ?_
    refine r_iadd hL dX8_costAt_15 ?_
    refine r_iald hL dX8_costAt_16 (by decide) s_121 (by decide) (by omega) (by omega) (fun hr16 => ?_)
    obtain ⟨z16, hz16⟩ : ∃ z, z = μ 121 (2 + t) := ⟨_, rfl⟩
    rw [← hz16] at hr16 ⊢
    have hb16 : 0 ≤ μ 121 (2 + t) ∧ μ 121 (2 + t) ≤ 9 := (show ((2 + t) = 0 → 0 ≤ (μ 121 (2 + t)) ∧ (μ 121 (2 + t)) ≤ 8) ∧ ((2 + t) = 1 → 0 ≤ (μ 121 (2 + t)) ∧ (μ 121 (2 + t)) ≤ 2) ∧ (2 ≤ (2 + t) ∧ (2 + t) ≤ 5 → 0 ≤ (μ 121 (2 + t)) ∧ (μ 121 (2 + t)) ≤ 9) ∧ (6 ≤ (2 + t) ∧ (2 + t) ≤ 13 → 0 ≤ (μ 121 (2 + t)) ∧ (μ 121 (2 + t)) ≤ 10) ∧ (30 ≤ (2 + t) → 0 ≤ (μ 121 (2 + t)) ∧ (μ 121 (2 + t)) ≤ 7) from hB 121 (2 + t)).2.2.1 (by omega)
    refine r_goto hL (tgt := 22) dX8_costAt_17 (by decide) ?_
    exact r_iret hL dX8_costAt_22 rfl (hK _ (by first | exact Or.inr ⟨by omega, hz16⟩ | exact Or.inl ⟨by omega, rfl⟩) (by omega))
