set_option maxHeartbeats 4000000 in
set_option maxRecDepth 20000 in
theorem m_X8_notes {K : Option xV → xW → xM → Prop} {μ : xM} (hB0 : BI μ)  (hK : ∀ μ', BI μ' → Fr NT μ μ' → K none WW μ') : xMet yX8_notes cX8_notes 1 none 1 25 0 0 [xR 120] WW μ K := by
  refine xMet.go RX8 "notes" rfl rfl (by decide) [some (xR 120)] (Nat.le_of_ble_eq_true rfl) rfl (fun X hL => ?_)
  have hB := hB0
  have hF : Fr NT μ μ := Fr.rf
  refine r_aload_n hL (x := 120) dX8_notes_0 rfl ?_
  refine r_geti hL xcl8 2 (j' := 2) rfl (by decide) s_120 (by decide) fl_X8_161 (by decide) (by decide) dX8_notes_1 (fun hr1 => ?_)
  obtain ⟨z1, hz1⟩ : ∃ z, z = μ 120 2 := ⟨_, rfl⟩
  rw [← hz1] at hr1 ⊢
  have hb1 : 0 ≤ μ 120 2 ∧ μ 120 2 ≤ 16 := (show ((2 : Int) = 2 → 0 ≤ (μ 120 2) ∧ (μ 120 2) ≤ 16) ∧ ((2 : Int) = 6 → 0 ≤ (μ 120 2) ∧ (μ 120 2) ≤ 10) ∧ ((2 : Int) = 8 → 0 ≤ (μ 120 2) ∧ (μ 120 2) ≤ 20) ∧ ((2 : Int) = 9 → 0 ≤ (μ 120 2) ∧ (μ 120 2) ≤ 2147483647) ∧ ((2 : Int) = 11 → 0 ≤ (μ 120 2) ∧ (μ 120 2) ≤ 10) ∧ ((2 : Int) = 13 → 0 ≤ (μ 120 2) ∧ (μ 120 2) ≤ 10) ∧ ((2 : Int) = 20 → 0 ≤ (μ 120 2) ∧ (μ 120 2) ≤ 8) from hB 120 2).1 (by omega)
  refine r_bipush hL dX8_notes_4 (by decide) ?_
  refine r_icmp_ne hL (tgt := 36) dX8_notes_6 (by decide) (by omega) (by omega) (fun c6 => ?_) (fun c6 => ?_)
  · skip
    refine r_aload_n hL (x := 120) dX8_notes_36 rfl ?_
    refine r_getr hL xcl8 0 (by decide) s_120 (by decide) fl_X8_7 (by decide) f_120_0 dX8_notes_37 ?_
    refine r_iconst hL dX8_notes_40 ?_
    refine r_aload_n hL (x := 120) dX8_notes_41 rfl ?_
    refine r_getr hL xcl8 1 (by decide) s_120 (by decide) fl_X8_13 (by decide) f_120_1 dX8_notes_42 ?_
    refine r_bipush hL dX8_notes_45 (by decide) ?_
    refine r_aload_n hL (x := 120) dX8_notes_47 rfl ?_
    refine r_geti hL xcl8 2 (j' := 2) rfl (by decide) s_120 (by decide) fl_X8_161 (by decide) (by decide) dX8_notes_48 (fun hr48 => ?_)
    obtain ⟨z48, hz48⟩ : ∃ z, z = μ 120 2 := ⟨_, rfl⟩
    rw [← hz48] at hr48 ⊢
    have hb48 : 0 ≤ μ 120 2 ∧ μ 120 2 ≤ 16 := (show ((2 : Int) = 2 → 0 ≤ (μ 120 2) ∧ (μ 120 2) ≤ 16) ∧ ((2 : Int) = 6 → 0 ≤ (μ 120 2) ∧ (μ 120 2) ≤ 10) ∧ ((2 : Int) = 8 → 0 ≤ (μ 120 2) ∧ (μ 120 2) ≤ 20) ∧ ((2 : Int) = 9 → 0 ≤ (μ 120 2) ∧ (μ 120 2) ≤ 2147483647) ∧ ((2 : Int) = 11 → 0 ≤ (μ 120 2) ∧ (μ 120 2) ≤ 10) ∧ ((2 : Int) = 13 → 0 ≤ (μ 120 2) ∧ (μ 120 2) ≤ 10) ∧ ((2 : Int) = 20 → 0 ≤ (μ 120 2) ∧ (μ 120 2) ≤ 8) from hB 120 2).1 (by omega)
    refine r_imul hL dX8_notes_51 ?_
    refine r_bipush hL dX8_notes_52 (by decide) ?_
    refine r_callS hL (st := []) (av := [xR 121, xI 0, xR 122, xI (110 * z48), xI 110]) (m_X8_bring (μ := μ) 121 110 (by decide) s_121 (by decide) 0 122 1760 (by decide) s_122 (by decide) (110 * z48) 110 (by omega) (by omega) (fun h => absurd h (by decide)) (fun μ54c hm54c => ⟨rfl, ?_⟩)) ce_yX8_bring sm_yX8_bring ml_X8_73 dX8_notes_54 rfl (Nat.le_of_ble_eq_true rfl) ⟨Nat.le_of_ble_eq_true rfl, Nat.le_of_ble_eq_true rfl⟩ ⟨Nat.le_of_ble_eq_true rfl, Nat.le_of_ble_eq_true rfl⟩
    show X 0 0 WW μ54c 57 [some (xR 120)] []
    have hB54c : BI μ54c := by rw [hm54c]; exact hB.br (fun k hk0 hk1 => by have hq : ((0 + k) = 0 → 0 ≤ (μ 121 (0 + k)) ∧ (μ 121 (0 + k)) ≤ 8) ∧ ((0 + k) = 1 → 0 ≤ (μ 121 (0 + k)) ∧ (μ 121 (0 + k)) ≤ 2) ∧ (2 ≤ (0 + k) ∧ (0 + k) ≤ 5 → 0 ≤ (μ 121 (0 + k)) ∧ (μ 121 (0 + k)) ≤ 9) ∧ (6 ≤ (0 + k) ∧ (0 + k) ≤ 13 → 0 ≤ (μ 121 (0 + k)) ∧ (μ 121 (0 + k)) ≤ 10) ∧ (30 ≤ (0 + k) → 0 ≤ (μ 121 (0 + k)) ∧ (μ 121 (0 + k)) ≤ 7) := hB 121 _; show (((110 * z48) + k) % 110 = 0 → 0 ≤ (μ 121 (0 + k)) ∧ (μ 121 (0 + k)) ≤ 8) ∧ (((110 * z48) + k) % 110 = 1 → 0 ≤ (μ 121 (0 + k)) ∧ (μ 121 (0 + k)) ≤ 2) ∧ (2 ≤ ((110 * z48) + k) % 110 ∧ ((110 * z48) + k) % 110 ≤ 5 → 0 ≤ (μ 121 (0 + k)) ∧ (μ 121 (0 + k)) ≤ 9) ∧ (6 ≤ ((110 * z48) + k) % 110 ∧ ((110 * z48) + k) % 110 ≤ 13 → 0 ≤ (μ 121 (0 + k)) ∧ (μ 121 (0 + k)) ≤ 10) ∧ (30 ≤ ((110 * z48) + k) % 110 → 0 ≤ (μ 121 (0 + k)) ∧ (μ 121 (0 + k)) ≤ 7); rw [show ((110 * z48) + k) % 110 = 0 + k by omega]; exact hq)
    have hF54c : Fr NT μ μ54c := by rw [hm54c]; exact hF.br (fun b _ _ => by unfold NT; omega)
    have hk54c_120_2 : μ54c 120 2 = μ 120 2 := by rw [hm54c]; exact congrFun (xbr_c (by decide)) _
    refine r_aload_n hL (x := 120) dX8_notes_57 rfl ?_
    refine r_dup hL dX8_notes_58 rfl ?_
    refine r_geti hL xcl8 2 (j' := 2) rfl (by decide) s_120 (by decide) fl_X8_161 (by decide) (by decide) dX8_notes_59 (fun hr59 => ?_)
    obtain ⟨z59, hz59⟩ : ∃ z, z = μ54c 120 2 := ⟨_, rfl⟩
    rw [← hz59] at hr59 ⊢
    have hb59 : 0 ≤ μ54c 120 2 ∧ μ54c 120 2 ≤ 16 := (show ((2 : Int) = 2 → 0 ≤ (μ54c 120 2) ∧ (μ54c 120 2) ≤ 16) ∧ ((2 : Int) = 6 → 0 ≤ (μ54c 120 2) ∧ (μ54c 120 2) ≤ 10) ∧ ((2 : Int) = 8 → 0 ≤ (μ54c 120 2) ∧ (μ54c 120 2) ≤ 20) ∧ ((2 : Int) = 9 → 0 ≤ (μ54c 120 2) ∧ (μ54c 120 2) ≤ 2147483647) ∧ ((2 : Int) = 11 → 0 ≤ (μ54c 120 2) ∧ (μ54c 120 2) ≤ 10) ∧ ((2 : Int) = 13 → 0 ≤ (μ54c 120 2) ∧ (μ54c 120 2) ≤ 10) ∧ ((2 : Int) = 20 → 0 ≤ (μ54c 120 2) ∧ (μ54c 120 2) ≤ 8) from hB54c 120 2).1 (by omega)
    refine r_iconst hL dX8_notes_62 ?_
    refine r_iadd hL dX8_notes_63 ?_
    refine r_puti hL xcl8 2 (j' := 2) rfl (by decide) s_120 (by decide) fl_X8_161 rfl rfl (by omega) dX8_notes_64 (fun μ1 hm1 => ?_)
    have hB1 : BI μ1 := by rw [hm1]; exact hB54c.up (by show ((2 : Int) = 2 → 0 ≤ (z59 + 1) ∧ (z59 + 1) ≤ 16) ∧ ((2 : Int) = 6 → 0 ≤ (z59 + 1) ∧ (z59 + 1) ≤ 10) ∧ ((2 : Int) = 8 → 0 ≤ (z59 + 1) ∧ (z59 + 1) ≤ 20) ∧ ((2 : Int) = 9 → 0 ≤ (z59 + 1) ∧ (z59 + 1) ≤ 2147483647) ∧ ((2 : Int) = 11 → 0 ≤ (z59 + 1) ∧ (z59 + 1) ≤ 10) ∧ ((2 : Int) = 13 → 0 ≤ (z59 + 1) ∧ (z59 + 1) ≤ 10) ∧ ((2 : Int) = 20 → 0 ≤ (z59 + 1) ∧ (z59 + 1) ≤ 8); omega)
    have hF1 : Fr NT μ μ1 := by rw [hm1]; exact hF54c.up (by unfold NT; omega)
    have hk1_120_2 : μ1 120 2 = z59 + 1 := by rw [hm1]; exact xup_s _ _ _ _
    exact r_vret hL dX8_notes_67 rfl (hK _ hB1 hF1)
  · skip
    refine r_aload_n hL (x := 120) dX8_notes_9 rfl ?_
    refine r_getr hL xcl8 1 (by decide) s_120 (by decide) fl_X8_13 (by decide) f_120_1 dX8_notes_10 ?_
    refine r_bipush hL dX8_notes_13 (by decide) ?_
    refine r_aload_n hL (x := 120) dX8_notes_15 rfl ?_
    refine r_getr hL xcl8 1 (by decide) s_120 (by decide) fl_X8_13 (by decide) f_120_1 dX8_notes_16 ?_
    refine r_iconst hL dX8_notes_19 ?_
    refine r_sipush hL dX8_notes_20 (by decide) ?_
    refine r_callS hL (st := []) (av := [xR 122, xI 110, xR 122, xI 0, xI 1650]) (m_X8_bring (μ := μ) 122 1760 (by decide) s_122 (by decide) 110 122 1760 (by decide) s_122 (by decide) 0 1650 (by omega) (by omega) (fun _ => by omega) (fun μ23c hm23c => ⟨rfl, ?_⟩)) ce_yX8_bring sm_yX8_bring ml_X8_73 dX8_notes_23 rfl (Nat.le_of_ble_eq_true rfl) ⟨Nat.le_of_ble_eq_true rfl, Nat.le_of_ble_eq_true rfl⟩ ⟨Nat.le_of_ble_eq_true rfl, Nat.le_of_ble_eq_true rfl⟩
    show X 0 0 WW μ23c 26 [some (xR 120)] []
    have hB23c : BI μ23c := by rw [hm23c]; exact hB.br (fun k hk0 hk1 => by have hq : ((110 + k) % 110 = 0 → 0 ≤ (μ 122 (110 + k)) ∧ (μ 122 (110 + k)) ≤ 8) ∧ ((110 + k) % 110 = 1 → 0 ≤ (μ 122 (110 + k)) ∧ (μ 122 (110 + k)) ≤ 2) ∧ (2 ≤ (110 + k) % 110 ∧ (110 + k) % 110 ≤ 5 → 0 ≤ (μ 122 (110 + k)) ∧ (μ 122 (110 + k)) ≤ 9) ∧ (6 ≤ (110 + k) % 110 ∧ (110 + k) % 110 ≤ 13 → 0 ≤ (μ 122 (110 + k)) ∧ (μ 122 (110 + k)) ≤ 10) ∧ (30 ≤ (110 + k) % 110 → 0 ≤ (μ 122 (110 + k)) ∧ (μ 122 (110 + k)) ≤ 7) := hB 122 _; show ((0 + k) % 110 = 0 → 0 ≤ (μ 122 (110 + k)) ∧ (μ 122 (110 + k)) ≤ 8) ∧ ((0 + k) % 110 = 1 → 0 ≤ (μ 122 (110 + k)) ∧ (μ 122 (110 + k)) ≤ 2) ∧ (2 ≤ (0 + k) % 110 ∧ (0 + k) % 110 ≤ 5 → 0 ≤ (μ 122 (110 + k)) ∧ (μ 122 (110 + k)) ≤ 9) ∧ (6 ≤ (0 + k) % 110 ∧ (0 + k) % 110 ≤ 13 → 0 ≤ (μ 122 (110 + k)) ∧ (μ 122 (110 + k)) ≤ 10) ∧ (30 ≤ (0 + k) % 110 → 0 ≤ (μ 122 (110 + k)) ∧ (μ 122 (110 + k)) ≤ 7); rw [show (110 + k) % 110 = (0 + k) % 110 by omega] at hq; exact hq)
    have hF23c : Fr NT μ μ23c := by rw [hm23c]; exact hF.br (fun b _ _ => by unfold NT; omega)
    have hk23c_120_2 : μ23c 120 2 = μ 120 2 := by rw [hm23c]; exact congrFun (xbr_c (by decide)) _
    refine r_aload_n hL (x := 120) dX8_notes_26 rfl ?_
    refine r_dup hL dX8_notes_27 rfl ?_
    refine r_geti hL xcl8 2 (j' := 2) rfl (by decide) s_120 (by decide) fl_X8_161 (by decide) (by decide) dX8_notes_28 (fun hr28 => ?_)
    obtain ⟨z28, hz28⟩ : ∃ z, z = μ23c 120 2 := ⟨_, rfl⟩
    rw [← hz28] at hr28 ⊢
    have hb28 : 0 ≤ μ23c 120 2 ∧ μ23c 120 2 ≤ 16 := (show ((2 : Int) = 2 → 0 ≤ (μ23c 120 2) ∧ (μ23c 120 2) ≤ 16) ∧ ((2 : Int) = 6 → 0 ≤ (μ23c 120 2) ∧ (μ23c 120 2) ≤ 10) ∧ ((2 : Int) = 8 → 0 ≤ (μ23c 120 2) ∧ (μ23c 120 2) ≤ 20) ∧ ((2 : Int) = 9 → 0 ≤ (μ23c 120 2) ∧ (μ23c 120 2) ≤ 2147483647) ∧ ((2 : Int) = 11 → 0 ≤ (μ23c 120 2) ∧ (μ23c 120 2) ≤ 10) ∧ ((2 : Int) = 13 → 0 ≤ (μ23c 120 2) ∧ (μ23c 120 2) ≤ 10) ∧ ((2 : Int) = 20 → 0 ≤ (μ23c 120 2) ∧ (μ23c 120 2) ≤ 8) from hB23c 120 2).1 (by omega)
    refine r_iconst hL dX8_notes_31 ?_
    refine r_isub hL dX8_notes_32 ?_
    refine r_puti hL xcl8 2 (j' := 2) rfl (by decide) s_120 (by decide) fl_X8_161 rfl rfl (by omega) dX8_notes_33 (fun μ2 hm2 => ?_)
    have hB2 : BI μ2 := by rw [hm2]; exact hB23c.up (by show ((2 : Int) = 2 → 0 ≤ (z28 - 1) ∧ (z28 - 1) ≤ 16) ∧ ((2 : Int) = 6 → 0 ≤ (z28 - 1) ∧ (z28 - 1) ≤ 10) ∧ ((2 : Int) = 8 → 0 ≤ (z28 - 1) ∧ (z28 - 1) ≤ 20) ∧ ((2 : Int) = 9 → 0 ≤ (z28 - 1) ∧ (z28 - 1) ≤ 2147483647) ∧ ((2 : Int) = 11 → 0 ≤ (z28 - 1) ∧ (z28 - 1) ≤ 10) ∧ ((2 : Int) = 13 → 0 ≤ (z28 - 1) ∧ (z28 - 1) ≤ 10) ∧ ((2 : Int) = 20 → 0 ≤ (z28 - 1) ∧ (z28 - 1) ≤ 8); omega)
    have hF2 : Fr NT μ μ2 := by rw [hm2]; exact hF23c.up (by unfold NT; omega)
    have hk2_120_2 : μ2 120 2 = z28 - 1 := by rw [hm2]; exact xup_s _ _ _ _
    refine r_aload_n hL (x := 120) dX8_notes_36 rfl ?_
    refine r_getr hL xcl8 0 (by decide) s_120 (by decide) fl_X8_7 (by decide) f_120_0 dX8_notes_37 ?_
    refine r_iconst hL dX8_notes_40 ?_
    refine r_aload_n hL (x := 120) dX8_notes_41 rfl ?_
    refine r_getr hL xcl8 1 (by decide) s_120 (by decide) fl_X8_13 (by decide) f_120_1 dX8_notes_42 ?_
    refine r_bipush hL dX8_notes_45 (by decide) ?_
    refine r_aload_n hL (x := 120) dX8_notes_47 rfl ?_
    refine r_geti hL xcl8 2 (j' := 2) rfl (by decide) s_120 (by decide) fl_X8_161 (by decide) (by decide) dX8_notes_48 (fun hr48 => ?_)
    obtain ⟨z48, hz48⟩ : ∃ z, z = μ2 120 2 := ⟨_, rfl⟩
    rw [← hz48] at hr48 ⊢
    have hb48 : 0 ≤ μ2 120 2 ∧ μ2 120 2 ≤ 16 := (show ((2 : Int) = 2 → 0 ≤ (μ2 120 2) ∧ (μ2 120 2) ≤ 16) ∧ ((2 : Int) = 6 → 0 ≤ (μ2 120 2) ∧ (μ2 120 2) ≤ 10) ∧ ((2 : Int) = 8 → 0 ≤ (μ2 120 2) ∧ (μ2 120 2) ≤ 20) ∧ ((2 : Int) = 9 → 0 ≤ (μ2 120 2) ∧ (μ2 120 2) ≤ 2147483647) ∧ ((2 : Int) = 11 → 0 ≤ (μ2 120 2) ∧ (μ2 120 2) ≤ 10) ∧ ((2 : Int) = 13 → 0 ≤ (μ2 120 2) ∧ (μ2 120 2) ≤ 10) ∧ ((2 : Int) = 20 → 0 ≤ (μ2 120 2) ∧ (μ2 120 2) ≤ 8) from hB2 120 2).1 (by omega)
    refine r_imul hL dX8_notes_51 ?_
    refine r_bipush hL dX8_notes_52 (by decide) ?_
    refine r_callS hL (st := []) (av := [xR 121, xI 0, xR 122, xI (110 * z48), xI 110]) (m_X8_bring (μ := μ2) 121 110 (by decide) s_121 (by decide) 0 122 1760 (by decide) s_122 (by decide) (110 * z48) 110 (by omega) (by omega) (fun h => absurd h (by decide)) (fun μ54c hm54c => ⟨rfl, ?_⟩)) ce_yX8_bring sm_yX8_bring ml_X8_73 dX8_notes_54 rfl (Nat.le_of_ble_eq_true rfl) ⟨Nat.le_of_ble_eq_true rfl, Nat.le_of_ble_eq_true rfl⟩ ⟨Nat.le_of_ble_eq_true rfl, Nat.le_of_ble_eq_true rfl⟩
    show X 0 0 WW μ54c 57 [some (xR 120)] []
    have hB54c : BI μ54c := by rw [hm54c]; exact hB2.br (fun k hk0 hk1 => by have hq : ((0 + k) = 0 → 0 ≤ (μ2 121 (0 + k)) ∧ (μ2 121 (0 + k)) ≤ 8) ∧ ((0 + k) = 1 → 0 ≤ (μ2 121 (0 + k)) ∧ (μ2 121 (0 + k)) ≤ 2) ∧ (2 ≤ (0 + k) ∧ (0 + k) ≤ 5 → 0 ≤ (μ2 121 (0 + k)) ∧ (μ2 121 (0 + k)) ≤ 9) ∧ (6 ≤ (0 + k) ∧ (0 + k) ≤ 13 → 0 ≤ (μ2 121 (0 + k)) ∧ (μ2 121 (0 + k)) ≤ 10) ∧ (30 ≤ (0 + k) → 0 ≤ (μ2 121 (0 + k)) ∧ (μ2 121 (0 + k)) ≤ 7) := hB2 121 _; show (((110 * z48) + k) % 110 = 0 → 0 ≤ (μ2 121 (0 + k)) ∧ (μ2 121 (0 + k)) ≤ 8) ∧ (((110 * z48) + k) % 110 = 1 → 0 ≤ (μ2 121 (0 + k)) ∧ (μ2 121 (0 + k)) ≤ 2) ∧ (2 ≤ ((110 * z48) + k) % 110 ∧ ((110 * z48) + k) % 110 ≤ 5 → 0 ≤ (μ2 121 (0 + k)) ∧ (μ2 121 (0 + k)) ≤ 9) ∧ (6 ≤ ((110 * z48) + k) % 110 ∧ ((110 * z48) + k) % 110 ≤ 13 → 0 ≤ (μ2 121 (0 + k)) ∧ (μ2 121 (0 + k)) ≤ 10) ∧ (30 ≤ ((110 * z48) + k) % 110 → 0 ≤ (μ2 121 (0 + k)) ∧ (μ2 121 (0 + k)) ≤ 7); rw [show ((110 * z48) + k) % 110 = 0 + k by omega]; exact hq)
    have hF54c : Fr NT μ μ54c := by rw [hm54c]; exact hF2.br (fun b _ _ => by unfold NT; omega)
    have hk54c_120_2 : μ54c 120 2 = μ2 120 2 := by rw [hm54c]; exact congrFun (xbr_c (by decide)) _
    refine r_aload_n hL (x := 120) dX8_notes_57 rfl ?_
    refine r_dup hL dX8_notes_58 rfl ?_
    refine r_geti hL xcl8 2 (j' := 2) rfl (by decide) s_120 (by decide) fl_X8_161 (by decide) (by decide) dX8_notes_59 (fun hr59 => ?_)
    obtain ⟨z59, hz59⟩ : ∃ z, z = μ54c 120 2 := ⟨_, rfl⟩
    rw [← hz59] at hr59 ⊢
    have hb59 : 0 ≤ μ54c 120 2 ∧ μ54c 120 2 ≤ 16 := (show ((2 : Int) = 2 → 0 ≤ (μ54c 120 2) ∧ (μ54c 120 2) ≤ 16) ∧ ((2 : Int) = 6 → 0 ≤ (μ54c 120 2) ∧ (μ54c 120 2) ≤ 10) ∧ ((2 : Int) = 8 → 0 ≤ (μ54c 120 2) ∧ (μ54c 120 2) ≤ 20) ∧ ((2 : Int) = 9 → 0 ≤ (μ54c 120 2) ∧ (μ54c 120 2) ≤ 2147483647) ∧ ((2 : Int) = 11 → 0 ≤ (μ54c 120 2) ∧ (μ54c 120 2) ≤ 10) ∧ ((2 : Int) = 13 → 0 ≤ (μ54c 120 2) ∧ (μ54c 120 2) ≤ 10) ∧ ((2 : Int) = 20 → 0 ≤ (μ54c 120 2) ∧ (μ54c 120 2) ≤ 8) from hB54c 120 2).1 (by omega)
    refine r_iconst hL dX8_notes_62 ?_
    refine r_iadd hL dX8_notes_63 ?_
    refine r_puti hL xcl8 2 (j' := 2) rfl (by decide) s_120 (by decide) fl_X8_161 rfl rfl (by omega) dX8_notes_64 (fun μ3 hm3 => ?_)
    have hB3 : BI μ3 := by rw [hm3]; exact hB54c.up (by show ((2 : Int) = 2 → 0 ≤ (z59 + 1) ∧ (z59 + 1) ≤ 16) ∧ ((2 : Int) = 6 → 0 ≤ (z59 + 1) ∧ (z59 + 1) ≤ 10) ∧ ((2 : Int) = 8 → 0 ≤ (z59 + 1) ∧ (z59 + 1) ≤ 20) ∧ ((2 : Int) = 9 → 0 ≤ (z59 + 1) ∧ (z59 + 1) ≤ 2147483647) ∧ ((2 : Int) = 11 → 0 ≤ (z59 + 1) ∧ (z59 + 1) ≤ 10) ∧ ((2 : Int) = 13 → 0 ≤ (z59 + 1) ∧ (z59 + 1) ≤ 10) ∧ ((2 : Int) = 20 → 0 ≤ (z59 + 1) ∧ (z59 + 1) ≤ 8); omega)
    have hF3 : Fr NT μ μ3 := by rw [hm3]; exact hF54c.up (by unfold NT; omega)
    have hk3_120_2 : μ3 120 2 = z59 + 1 := by rw [hm3]; exact xup_s _ _ _ _
    exact r_vret hL dX8_notes_67 rfl (hK _ hB3 hF3)

set_option maxHeartbeats 4000000 in
set_option maxRecDepth 20000 in
theorem m_X8_draw {K : Option xV → xW → xM → Prop} {μ : xM} (hB0 : BI μ) (n : Int) (hn : 1 ≤ n ∧ n ≤ 1000) (hK : ∀ r μ', BI μ' → Fr DW μ μ' → 0 ≤ r ∧ r < n → K (some (xI r)) WW μ') : xMet yX8_draw cX8_draw 4 (some .int) 0 0 0 0 [xR 120, xI n] WW μ K := by
  refine xMet.go RX8 "draw" rfl rfl (by decide) [some (xR 120), some (xI n), none, none] (Nat.le_of_ble_eq_true rfl) rfl (fun X hL => ?_)
  have hB := hB0
  have hF : Fr DW μ μ := Fr.rf
  refine r_aload_n hL (x := 120) dX8_draw_0 rfl ?_
  refine r_geti hL xcl8 9 (j' := 9) rfl (by decide) s_120 (by decide) fl_X8_205 (by decide) (by decide) dX8_draw_1 (fun hr1 => ?_)
  obtain ⟨z1, hz1⟩ : ∃ z, z = μ 120 9 := ⟨_, rfl⟩
  rw [← hz1] at hr1 ⊢
  have hb1 : 0 ≤ μ 120 9 ∧ μ 120 9 ≤ 2147483647 := (show ((9 : Int) = 2 → 0 ≤ (μ 120 9) ∧ (μ 120 9) ≤ 16) ∧ ((9 : Int) = 6 → 0 ≤ (μ 120 9) ∧ (μ 120 9) ≤ 10) ∧ ((9 : Int) = 8 → 0 ≤ (μ 120 9) ∧ (μ 120 9) ≤ 20) ∧ ((9 : Int) = 9 → 0 ≤ (μ 120 9) ∧ (μ 120 9) ≤ 2147483647) ∧ ((9 : Int) = 11 → 0 ≤ (μ 120 9) ∧ (μ 120 9) ≤ 10) ∧ ((9 : Int) = 13 → 0 ≤ (μ 120 9) ∧ (μ 120 9) ≤ 10) ∧ ((9 : Int) = 20 → 0 ≤ (μ 120 9) ∧ (μ 120 9) ≤ 8) from hB 120 9).2.2.2.1 (by omega)
  refine r_i2l hL dX8_draw_4 (by omega) ?_
  refine r_ldc2 hL (n := 1103515245) dX8_draw_5 kl_X8_208 (by decide) ?_
  refine r_lmul hL dX8_draw_8 ?_
  refine r_ldc2 hL (n := 12345) dX8_draw_9 kl_X8_210 (by decide) ?_
  refine r_ladd hL dX8_draw_12 ?_
  refine r_ldc2 hL (n := 2147483648) dX8_draw_13 kl_X8_212 (by decide) ?_
  refine r_lrem hL dX8_draw_16 (by omega) (by omega) ?_
  obtain ⟨z16, hz16⟩ : ∃ z, z = xlrem ((z1 * 1103515245) + 12345) 2147483648 := ⟨_, rfl⟩
  rw [← hz16]
  have hr16 : xrl z16 := by rw [hz16]; exact xlrem_rg _ _
  have hq16 : z16 = ((z1 * 1103515245) + 12345) % 2147483648 := by rw [hz16]; exact xlrem_nn (by omega) (by omega) (by omega) (by omega)
  refine r_lstore_n hL (lo' := [some (xR 120), some (xI n), some (xL z16), none]) dX8_draw_17 (by decide) rfl ?_
  refine r_aload_n hL (x := 120) dX8_draw_18 rfl ?_
  refine r_lload_n hL (x := z16) dX8_draw_19 rfl ?_
  refine r_l2i hL dX8_draw_20 ?_
  refine r_puti hL xcl8 9 (j' := 9) rfl (by decide) s_120 (by decide) fl_X8_205 rfl rfl (by omega) dX8_draw_21 (fun μ1 hm1 => ?_)
  have hB1 : BI μ1 := by rw [hm1]; exact hB.up (by show ((9 : Int) = 2 → 0 ≤ z16 ∧ z16 ≤ 16) ∧ ((9 : Int) = 6 → 0 ≤ z16 ∧ z16 ≤ 10) ∧ ((9 : Int) = 8 → 0 ≤ z16 ∧ z16 ≤ 20) ∧ ((9 : Int) = 9 → 0 ≤ z16 ∧ z16 ≤ 2147483647) ∧ ((9 : Int) = 11 → 0 ≤ z16 ∧ z16 ≤ 10) ∧ ((9 : Int) = 13 → 0 ≤ z16 ∧ z16 ≤ 10) ∧ ((9 : Int) = 20 → 0 ≤ z16 ∧ z16 ≤ 8); omega)
  have hF1 : Fr DW μ μ1 := by rw [hm1]; exact hF.up (by unfold DW; omega)
  have hk1_120_9 : μ1 120 9 = z16 := by rw [hm1]; exact xup_s _ _ _ _
  refine r_aload_n hL (x := 120) dX8_draw_24 rfl ?_
  refine r_geti hL xcl8 9 (j' := 9) rfl (by decide) s_120 (by decide) fl_X8_205 (by decide) (by decide) dX8_draw_25 (fun hr25 => ?_)
  obtain ⟨z25, hz25⟩ : ∃ z, z = μ1 120 9 := ⟨_, rfl⟩
  rw [← hz25] at hr25 ⊢
  have hb25 : 0 ≤ μ1 120 9 ∧ μ1 120 9 ≤ 2147483647 := (show ((9 : Int) = 2 → 0 ≤ (μ1 120 9) ∧ (μ1 120 9) ≤ 16) ∧ ((9 : Int) = 6 → 0 ≤ (μ1 120 9) ∧ (μ1 120 9) ≤ 10) ∧ ((9 : Int) = 8 → 0 ≤ (μ1 120 9) ∧ (μ1 120 9) ≤ 20) ∧ ((9 : Int) = 9 → 0 ≤ (μ1 120 9) ∧ (μ1 120 9) ≤ 2147483647) ∧ ((9 : Int) = 11 → 0 ≤ (μ1 120 9) ∧ (μ1 120 9) ≤ 10) ∧ ((9 : Int) = 13 → 0 ≤ (μ1 120 9) ∧ (μ1 120 9) ≤ 10) ∧ ((9 : Int) = 20 → 0 ≤ (μ1 120 9) ∧ (μ1 120 9) ≤ 8) from hB1 120 9).2.2.2.1 (by omega)
  refine r_ldc hL (n := 65536) dX8_draw_28 kc_X8_214 (by decide) ?_
  refine r_idiv hL dX8_draw_30 (by omega) (by omega) ?_
  obtain ⟨z30, hz30⟩ : ∃ z, z = xdiv z25 65536 := ⟨_, rfl⟩
  rw [← hz30]
  have hr30 : xrg z30 := by rw [hz30]; exact xdiv_rg _ _
  have hq30 := xdiv_nn (x := z25) (y := 65536) (by omega) (by omega) (by omega) (by omega)
  rw [← hz30] at hq30
  refine r_iload_n hL (x := n) dX8_draw_31 rfl ?_
  refine r_irem hL dX8_draw_32 (by omega) (by omega) ?_
  obtain ⟨z32, hz32⟩ : ∃ z, z = xrem z30 n := ⟨_, rfl⟩
  rw [← hz32]
  have hr32 : xrg z32 := by rw [hz32]; exact xrem_rg _ _
  have hq32 := xrem_nn (x := z30) (y := n) (by omega) (by omega) (by omega) (by omega)
  rw [← hz32] at hq32
  have hm1 := Int.emod_nonneg z30 (show n ≠ 0 by omega)
  have hm2 := Int.emod_lt_of_pos z30 (show 0 < n by omega)
  exact r_iret hL dX8_draw_33 rfl (hK _ _ hB1 hF1 (by omega))

set_option maxHeartbeats 4000000 in
set_option maxRecDepth 20000 in
theorem m_X8_feed {K : Option xV → xW → xM → Prop} {μ : xM} (hB0 : BI μ) (t : Int) (ht : xrg t) (hK : ∀ r μ', BI μ' → xrg r → K (some (xI r)) WW μ') : xMet yX8_feed cX8_feed 2 (some .int) 1 22 0 0 [xR 120, xI t] WW μ K := by
  refine xMet.go RX8 "feed" rfl rfl (by decide) [some (xR 120), some (xI t)] (Nat.le_of_ble_eq_true rfl) rfl (fun X hL => ?_)
  have hB := hB0
  refine r_iload_n hL (x := t) dX8_feed_0 rfl ?_
  refine r_bipush hL dX8_feed_1 (by decide) ?_
  refine r_bipush hL dX8_feed_3 (by decide) ?_
  refine r_callS hL (st := []) (av := [xI t, xI 97, xI 104]) (m_X8_in (μ := μ) t (by omega) 97 (by omega) 104 (by omega) (fun z5 hc5 => ⟨rfl, ?_⟩)) ce_yX8_in sm_yX8_in ml_X8_62 dX8_feed_5 rfl (Nat.le_of_ble_eq_true rfl) ⟨Nat.le_of_ble_eq_true rfl, Nat.le_of_ble_eq_true rfl⟩ ⟨Nat.le_of_ble_eq_true rfl, Nat.le_of_ble_eq_true rfl⟩
  show X 0 0 WW μ 8 [some (xR 120), some (xI t)] [xI z5]
  refine r_if_ne hL (tgt := 14) dX8_feed_8 (by decide) (by omega) (fun c8 => ?_) (fun c8 => ?_)
  · skip
    refine r_aload_n hL (x := 120) dX8_feed_14 rfl ?_
    refine r_geti hL xcl8 6 (j' := 6) rfl (by decide) s_120 (by decide) fl_X8_149 (by decide) (by decide) dX8_feed_15 (fun hr15 => ?_)
    obtain ⟨z15, hz15⟩ : ∃ z, z = μ 120 6 := ⟨_, rfl⟩
    rw [← hz15] at hr15 ⊢
    have hb15 : 0 ≤ μ 120 6 ∧ μ 120 6 ≤ 10 := (show ((6 : Int) = 2 → 0 ≤ (μ 120 6) ∧ (μ 120 6) ≤ 16) ∧ ((6 : Int) = 6 → 0 ≤ (μ 120 6) ∧ (μ 120 6) ≤ 10) ∧ ((6 : Int) = 8 → 0 ≤ (μ 120 6) ∧ (μ 120 6) ≤ 20) ∧ ((6 : Int) = 9 → 0 ≤ (μ 120 6) ∧ (μ 120 6) ≤ 2147483647) ∧ ((6 : Int) = 11 → 0 ≤ (μ 120 6) ∧ (μ 120 6) ≤ 10) ∧ ((6 : Int) = 13 → 0 ≤ (μ 120 6) ∧ (μ 120 6) ≤ 10) ∧ ((6 : Int) = 20 → 0 ≤ (μ 120 6) ∧ (μ 120 6) ≤ 8) from hB 120 6).2.1 (by omega)
    refine r_bipush hL dX8_feed_18 (by decide) ?_
    refine r_icmp_ne hL (tgt := 26) dX8_feed_20 (by decide) (by omega) (by omega) (fun c20 => ?_) (fun c20 => ?_)
    · skip
      refine r_aload_n hL (x := 120) dX8_feed_26 rfl ?_
      refine r_getr hL xcl8 5 (by decide) s_120 (by decide) fl_X8_23 (by decide) f_120_5 dX8_feed_27 ?_
      refine r_aload_n hL (x := 120) dX8_feed_30 rfl ?_
      refine r_geti hL xcl8 6 (j' := 6) rfl (by decide) s_120 (by decide) fl_X8_149 (by decide) (by decide) dX8_feed_31 (fun hr31 => ?_)
      obtain ⟨z31, hz31⟩ : ∃ z, z = μ 120 6 := ⟨_, rfl⟩
      rw [← hz31] at hr31 ⊢
      have hb31 : 0 ≤ μ 120 6 ∧ μ 120 6 ≤ 10 := (show ((6 : Int) = 2 → 0 ≤ (μ 120 6) ∧ (μ 120 6) ≤ 16) ∧ ((6 : Int) = 6 → 0 ≤ (μ 120 6) ∧ (μ 120 6) ≤ 10) ∧ ((6 : Int) = 8 → 0 ≤ (μ 120 6) ∧ (μ 120 6) ≤ 20) ∧ ((6 : Int) = 9 → 0 ≤ (μ 120 6) ∧ (μ 120 6) ≤ 2147483647) ∧ ((6 : Int) = 11 → 0 ≤ (μ 120 6) ∧ (μ 120 6) ≤ 10) ∧ ((6 : Int) = 13 → 0 ≤ (μ 120 6) ∧ (μ 120 6) ≤ 10) ∧ ((6 : Int) = 20 → 0 ≤ (μ 120 6) ∧ (μ 120 6) ≤ 8) from hB 120 6).2.1 (by omega)
      refine r_iload_n hL (x := t) dX8_feed_34 rfl ?_
      refine r_bipush hL dX8_feed_35 (by decide) ?_
      refine r_isub hL dX8_feed_37 ?_
      refine r_iast hL dX8_feed_38 (by decide) s_125 (by decide) (by omega) (by omega) (by omega) (fun μ1 hm1 => ?_)
      have hB1 : BI μ1 := by rw [hm1]; exact hB.up (by show 0 ≤ (t - 97) ∧ (t - 97) ≤ 7; omega)
      have hk1_120_6 : μ1 120 6 = μ 120 6 := by rw [hm1]; exact congrFun (xup_c (by decide)) _
      refine r_aload_n hL (x := 120) dX8_feed_39 rfl ?_
      refine r_dup hL dX8_feed_40 rfl ?_
      refine r_geti hL xcl8 6 (j' := 6) rfl (by decide) s_120 (by decide) fl_X8_149 (by decide) (by decide) dX8_feed_41 (fun hr41 => ?_)
      obtain ⟨z41, hz41⟩ : ∃ z, z = μ1 120 6 := ⟨_, rfl⟩
      rw [← hz41] at hr41 ⊢
      have hb41 : 0 ≤ μ1 120 6 ∧ μ1 120 6 ≤ 10 := (show ((6 : Int) = 2 → 0 ≤ (μ1 120 6) ∧ (μ1 120 6) ≤ 16) ∧ ((6 : Int) = 6 → 0 ≤ (μ1 120 6) ∧ (μ1 120 6) ≤ 10) ∧ ((6 : Int) = 8 → 0 ≤ (μ1 120 6) ∧ (μ1 120 6) ≤ 20) ∧ ((6 : Int) = 9 → 0 ≤ (μ1 120 6) ∧ (μ1 120 6) ≤ 2147483647) ∧ ((6 : Int) = 11 → 0 ≤ (μ1 120 6) ∧ (μ1 120 6) ≤ 10) ∧ ((6 : Int) = 13 → 0 ≤ (μ1 120 6) ∧ (μ1 120 6) ≤ 10) ∧ ((6 : Int) = 20 → 0 ≤ (μ1 120 6) ∧ (μ1 120 6) ≤ 8) from hB1 120 6).2.1 (by omega)
      refine r_iconst hL dX8_feed_44 ?_
      refine r_iadd hL dX8_feed_45 ?_
      refine r_puti hL xcl8 6 (j' := 6) rfl (by decide) s_120 (by decide) fl_X8_149 rfl rfl (by omega) dX8_feed_46 (fun μ2 hm2 => ?_)
      have hB2 : BI μ2 := by rw [hm2]; exact hB1.up (by show ((6 : Int) = 2 → 0 ≤ (z41 + 1) ∧ (z41 + 1) ≤ 16) ∧ ((6 : Int) = 6 → 0 ≤ (z41 + 1) ∧ (z41 + 1) ≤ 10) ∧ ((6 : Int) = 8 → 0 ≤ (z41 + 1) ∧ (z41 + 1) ≤ 20) ∧ ((6 : Int) = 9 → 0 ≤ (z41 + 1) ∧ (z41 + 1) ≤ 2147483647) ∧ ((6 : Int) = 11 → 0 ≤ (z41 + 1) ∧ (z41 + 1) ≤ 10) ∧ ((6 : Int) = 13 → 0 ≤ (z41 + 1) ∧ (z41 + 1) ≤ 10) ∧ ((6 : Int) = 20 → 0 ≤ (z41 + 1) ∧ (z41 + 1) ≤ 8); omega)
      have hk2_120_6 : μ2 120 6 = z41 + 1 := by rw [hm2]; exact xup_s _ _ _ _
      refine r_aload_n hL (x := 120) dX8_feed_49 rfl ?_
      refine r_geti hL xcl8 6 (j' := 6) rfl (by decide) s_120 (by decide) fl_X8_149 (by decide) (by decide) dX8_feed_50 (fun hr50 => ?_)
      obtain ⟨z50, hz50⟩ : ∃ z, z = μ2 120 6 := ⟨_, rfl⟩
      rw [← hz50] at hr50 ⊢
      have hb50 : 0 ≤ μ2 120 6 ∧ μ2 120 6 ≤ 10 := (show ((6 : Int) = 2 → 0 ≤ (μ2 120 6) ∧ (μ2 120 6) ≤ 16) ∧ ((6 : Int) = 6 → 0 ≤ (μ2 120 6) ∧ (μ2 120 6) ≤ 10) ∧ ((6 : Int) = 8 → 0 ≤ (μ2 120 6) ∧ (μ2 120 6) ≤ 20) ∧ ((6 : Int) = 9 → 0 ≤ (μ2 120 6) ∧ (μ2 120 6) ≤ 2147483647) ∧ ((6 : Int) = 11 → 0 ≤ (μ2 120 6) ∧ (μ2 120 6) ≤ 10) ∧ ((6 : Int) = 13 → 0 ≤ (μ2 120 6) ∧ (μ2 120 6) ≤ 10) ∧ ((6 : Int) = 20 → 0 ≤ (μ2 120 6) ∧ (μ2 120 6) ≤ 8) from hB2 120 6).2.1 (by omega)
      exact r_iret hL dX8_feed_53 rfl (hK _ _ hB2 (by omega))
    · skip
      refine r_ldc hL (n := -1000000004) dX8_feed_23 kc_X8_160 (by decide) ?_
      exact r_iret hL dX8_feed_25 rfl (hK _ _ hB (by omega))
  · skip
    refine r_ldc hL (n := -1000000002) dX8_feed_11 kc_X8_159 (by decide) ?_
    exact r_iret hL dX8_feed_13 rfl (hK _ _ hB (by omega))

set_option maxHeartbeats 4000000 in
set_option maxRecDepth 20000 in
theorem m_X8_tale {K : Option xV → xW → xM → Prop} {μ : xM} (hB0 : BI μ)  (hK : ∀ r μ', BI μ' → xrg r → K (some (xI r)) WW μ') : xMet yX8_tale cX8_tale 2 (some .int) 2 45 0 0 [xR 120] WW μ K := by
  refine xMet.go RX8 "tale" rfl rfl (by decide) [some (xR 120), none] (Nat.le_of_ble_eq_true rfl) rfl (fun X hL => ?_)
  have hB := hB0
  refine r_aload_n hL (x := 120) dX8_tale_0 rfl ?_
  refine r_getr hL xcl8 0 (by decide) s_120 (by decide) fl_X8_7 (by decide) f_120_0 dX8_tale_1 ?_
  refine r_iconst hL dX8_tale_4 ?_
  refine r_iald hL dX8_tale_5 (by decide) s_121 (by decide) (by omega) (by omega) (fun hr5 => ?_)
  obtain ⟨z5, hz5⟩ : ∃ z, z = μ 121 0 := ⟨_, rfl⟩
  rw [← hz5] at hr5 ⊢
  have hb5 : 0 ≤ μ 121 0 ∧ μ 121 0 ≤ 8 := (show ((0 : Int) = 0 → 0 ≤ (μ 121 0) ∧ (μ 121 0) ≤ 8) ∧ ((0 : Int) = 1 → 0 ≤ (μ 121 0) ∧ (μ 121 0) ≤ 2) ∧ (2 ≤ (0 : Int) ∧ (0 : Int) ≤ 5 → 0 ≤ (μ 121 0) ∧ (μ 121 0) ≤ 9) ∧ (6 ≤ (0 : Int) ∧ (0 : Int) ≤ 13 → 0 ≤ (μ 121 0) ∧ (μ 121 0) ≤ 10) ∧ (30 ≤ (0 : Int) → 0 ≤ (μ 121 0) ∧ (μ 121 0) ≤ 7) from hB 121 0).1 (by omega)
  refine r_bipush hL dX8_tale_6 (by decide) ?_
  refine r_icmp_ne hL (tgt := 14) dX8_tale_8 (by decide) (by omega) (by omega) (fun c8 => ?_) (fun c8 => ?_)
  · skip
    refine r_aload_n hL (x := 120) dX8_tale_14 rfl ?_
    refine r_geti hL xcl8 6 (j' := 6) rfl (by decide) s_120 (by decide) fl_X8_149 (by decide) (by decide) dX8_tale_15 (fun hr15 => ?_)
    obtain ⟨z15, hz15⟩ : ∃ z, z = μ 120 6 := ⟨_, rfl⟩
    rw [← hz15] at hr15 ⊢
    have hb15 : 0 ≤ μ 120 6 ∧ μ 120 6 ≤ 10 := (show ((6 : Int) = 2 → 0 ≤ (μ 120 6) ∧ (μ 120 6) ≤ 16) ∧ ((6 : Int) = 6 → 0 ≤ (μ 120 6) ∧ (μ 120 6) ≤ 10) ∧ ((6 : Int) = 8 → 0 ≤ (μ 120 6) ∧ (μ 120 6) ≤ 20) ∧ ((6 : Int) = 9 → 0 ≤ (μ 120 6) ∧ (μ 120 6) ≤ 2147483647) ∧ ((6 : Int) = 11 → 0 ≤ (μ 120 6) ∧ (μ 120 6) ≤ 10) ∧ ((6 : Int) = 13 → 0 ≤ (μ 120 6) ∧ (μ 120 6) ≤ 10) ∧ ((6 : Int) = 20 → 0 ≤ (μ 120 6) ∧ (μ 120 6) ≤ 8) from hB 120 6).2.1 (by omega)
    refine r_if_ne hL (tgt := 24) dX8_tale_18 (by decide) (by omega) (fun c18 => ?_) (fun c18 => ?_)
    · skip
      refine r_aload_n hL (x := 120) dX8_tale_24 rfl ?_
      refine r_callV hL (st := []) (av := []) (k := 120) (m_X8_notes (μ := μ) hB  (fun μ25c hB25c hG25 => ⟨rfl, ?_⟩)) ce_yX8_notes im_yX8_notes se_yX8_notes ml_X8_165 xcl8 (by decide) s_120 dX8_tale_25 rfl (Nat.le_of_ble_eq_true rfl) ⟨Nat.le_of_ble_eq_true rfl, Nat.le_of_ble_eq_true rfl⟩ ⟨Nat.le_of_ble_eq_true rfl, Nat.le_of_ble_eq_true rfl⟩
      show X 0 0 WW μ25c 28 [some (xR 120), none] []
      have hk25c_121_0 : μ25c 121 0 = μ 121 0 := hG25 121 0 (by unfold NT; omega)
      have hk25c_120_6 : μ25c 120 6 = μ 120 6 := hG25 120 6 (by unfold NT; omega)
      refine r_aload_n hL (x := 120) dX8_tale_28 rfl ?_
      refine r_getr hL xcl8 0 (by decide) s_120 (by decide) fl_X8_7 (by decide) f_120_0 dX8_tale_29 ?_
      refine r_iconst hL dX8_tale_32 ?_
      refine r_iald hL dX8_tale_33 (by decide) s_121 (by decide) (by omega) (by omega) (fun hr33 => ?_)
      obtain ⟨z33, hz33⟩ : ∃ z, z = μ25c 121 0 := ⟨_, rfl⟩
      rw [← hz33] at hr33 ⊢
      have hb33 : 0 ≤ μ25c 121 0 ∧ μ25c 121 0 ≤ 8 := (show ((0 : Int) = 0 → 0 ≤ (μ25c 121 0) ∧ (μ25c 121 0) ≤ 8) ∧ ((0 : Int) = 1 → 0 ≤ (μ25c 121 0) ∧ (μ25c 121 0) ≤ 2) ∧ (2 ≤ (0 : Int) ∧ (0 : Int) ≤ 5 → 0 ≤ (μ25c 121 0) ∧ (μ25c 121 0) ≤ 9) ∧ (6 ≤ (0 : Int) ∧ (0 : Int) ≤ 13 → 0 ≤ (μ25c 121 0) ∧ (μ25c 121 0) ≤ 10) ∧ (30 ≤ (0 : Int) → 0 ≤ (μ25c 121 0) ∧ (μ25c 121 0) ≤ 7) from hB25c 121 0).1 (by omega)
      refine r_istore_n hL (lo' := [some (xR 120), some (xI z33)]) dX8_tale_34 (by decide) rfl ?_
      refine r_aload_n hL (x := 120) dX8_tale_35 rfl ?_
      refine r_getr hL xcl8 0 (by decide) s_120 (by decide) fl_X8_7 (by decide) f_120_0 dX8_tale_36 ?_
      refine r_bipush hL dX8_tale_39 (by decide) ?_
      refine r_iload_n hL (x := z33) dX8_tale_41 rfl ?_
      refine r_iadd hL dX8_tale_42 ?_
      refine r_aload_n hL (x := 120) dX8_tale_43 rfl ?_
      refine r_geti hL xcl8 6 (j' := 6) rfl (by decide) s_120 (by decide) fl_X8_149 (by decide) (by decide) dX8_tale_44 (fun hr44 => ?_)
      obtain ⟨z44, hz44⟩ : ∃ z, z = μ25c 120 6 := ⟨_, rfl⟩
      rw [← hz44] at hr44 ⊢
      have hb44 : 0 ≤ μ25c 120 6 ∧ μ25c 120 6 ≤ 10 := (show ((6 : Int) = 2 → 0 ≤ (μ25c 120 6) ∧ (μ25c 120 6) ≤ 16) ∧ ((6 : Int) = 6 → 0 ≤ (μ25c 120 6) ∧ (μ25c 120 6) ≤ 10) ∧ ((6 : Int) = 8 → 0 ≤ (μ25c 120 6) ∧ (μ25c 120 6) ≤ 20) ∧ ((6 : Int) = 9 → 0 ≤ (μ25c 120 6) ∧ (μ25c 120 6) ≤ 2147483647) ∧ ((6 : Int) = 11 → 0 ≤ (μ25c 120 6) ∧ (μ25c 120 6) ≤ 10) ∧ ((6 : Int) = 13 → 0 ≤ (μ25c 120 6) ∧ (μ25c 120 6) ≤ 10) ∧ ((6 : Int) = 20 → 0 ≤ (μ25c 120 6) ∧ (μ25c 120 6) ≤ 8) from hB25c 120 6).2.1 (by omega)
      refine r_iast hL dX8_tale_47 (by decide) s_121 (by decide) (by omega) (by omega) (by omega) (fun μ1 hm1 => ?_)
      have hB1 : BI μ1 := by rw [hm1]; exact hB25c.up (by show ((6 + z33) = 0 → 0 ≤ z44 ∧ z44 ≤ 8) ∧ ((6 + z33) = 1 → 0 ≤ z44 ∧ z44 ≤ 2) ∧ (2 ≤ (6 + z33) ∧ (6 + z33) ≤ 5 → 0 ≤ z44 ∧ z44 ≤ 9) ∧ (6 ≤ (6 + z33) ∧ (6 + z33) ≤ 13 → 0 ≤ z44 ∧ z44 ≤ 10) ∧ (30 ≤ (6 + z33) → 0 ≤ z44 ∧ z44 ≤ 7); omega)
      have hk1_121_0 : μ1 121 0 = μ25c 121 0 := by rw [hm1]; exact xup_j (by omega)
      have hk1_120_6 : μ1 120 6 = μ25c 120 6 := by rw [hm1]; exact congrFun (xup_c (by decide)) _
      refine r_aload_n hL (x := 120) dX8_tale_48 rfl ?_
      refine r_getr hL xcl8 0 (by decide) s_120 (by decide) fl_X8_7 (by decide) f_120_0 dX8_tale_49 ?_
      refine r_bipush hL dX8_tale_52 (by decide) ?_
      refine r_iload_n hL (x := z33) dX8_tale_54 rfl ?_
      refine r_iadd hL dX8_tale_55 ?_
      refine r_iconst hL dX8_tale_56 ?_
      refine r_iast hL dX8_tale_57 (by decide) s_121 (by decide) (by omega) (by omega) (by omega) (fun μ2 hm2 => ?_)
      have hB2 : BI μ2 := by rw [hm2]; exact hB1.up (by show ((14 + z33) = 0 → 0 ≤ 0 ∧ 0 ≤ 8) ∧ ((14 + z33) = 1 → 0 ≤ 0 ∧ 0 ≤ 2) ∧ (2 ≤ (14 + z33) ∧ (14 + z33) ≤ 5 → 0 ≤ 0 ∧ 0 ≤ 9) ∧ (6 ≤ (14 + z33) ∧ (14 + z33) ≤ 13 → 0 ≤ 0 ∧ 0 ≤ 10) ∧ (30 ≤ (14 + z33) → 0 ≤ 0 ∧ 0 ≤ 7); omega)
      have hk2_121_0 : μ2 121 0 = μ1 121 0 := by rw [hm2]; exact xup_j (by omega)
      have hk2_120_6 : μ2 120 6 = μ1 120 6 := by rw [hm2]; exact congrFun (xup_c (by decide)) _
      refine r_aload_n hL (x := 120) dX8_tale_58 rfl ?_
      refine r_getr hL xcl8 5 (by decide) s_120 (by decide) fl_X8_23 (by decide) f_120_5 dX8_tale_59 ?_
      refine r_iconst hL dX8_tale_62 ?_
      refine r_aload_n hL (x := 120) dX8_tale_63 rfl ?_
      refine r_getr hL xcl8 0 (by decide) s_120 (by decide) fl_X8_7 (by decide) f_120_0 dX8_tale_64 ?_
      refine r_bipush hL dX8_tale_67 (by decide) ?_
      refine r_bipush hL dX8_tale_69 (by decide) ?_
      refine r_iload_n hL (x := z33) dX8_tale_71 rfl ?_
      refine r_imul hL dX8_tale_72 ?_
      refine r_iadd hL dX8_tale_73 ?_
      refine r_aload_n hL (x := 120) dX8_tale_74 rfl ?_
      refine r_geti hL xcl8 6 (j' := 6) rfl (by decide) s_120 (by decide) fl_X8_149 (by decide) (by decide) dX8_tale_75 (fun hr75 => ?_)
      obtain ⟨z75, hz75⟩ : ∃ z, z = μ2 120 6 := ⟨_, rfl⟩
      rw [← hz75] at hr75 ⊢
      have hb75 : 0 ≤ μ2 120 6 ∧ μ2 120 6 ≤ 10 := (show ((6 : Int) = 2 → 0 ≤ (μ2 120 6) ∧ (μ2 120 6) ≤ 16) ∧ ((6 : Int) = 6 → 0 ≤ (μ2 120 6) ∧ (μ2 120 6) ≤ 10) ∧ ((6 : Int) = 8 → 0 ≤ (μ2 120 6) ∧ (μ2 120 6) ≤ 20) ∧ ((6 : Int) = 9 → 0 ≤ (μ2 120 6) ∧ (μ2 120 6) ≤ 2147483647) ∧ ((6 : Int) = 11 → 0 ≤ (μ2 120 6) ∧ (μ2 120 6) ≤ 10) ∧ ((6 : Int) = 13 → 0 ≤ (μ2 120 6) ∧ (μ2 120 6) ≤ 10) ∧ ((6 : Int) = 20 → 0 ≤ (μ2 120 6) ∧ (μ2 120 6) ≤ 8) from hB2 120 6).2.1 (by omega)
      refine r_callS hL (st := []) (av := [xR 125, xI 0, xR 121, xI (30 + (10 * z33)), xI z75]) (m_X8_bring (μ := μ2) 125 10 (by decide) s_125 (by decide) 0 121 110 (by decide) s_121 (by decide) (30 + (10 * z33)) z75 (by omega) (by omega) (fun h => absurd h (by decide)) (fun μ78c hm78c => ⟨rfl, ?_⟩)) ce_yX8_bring sm_yX8_bring ml_X8_73 dX8_tale_78 rfl (Nat.le_of_ble_eq_true rfl) ⟨Nat.le_of_ble_eq_true rfl, Nat.le_of_ble_eq_true rfl⟩ ⟨Nat.le_of_ble_eq_true rfl, Nat.le_of_ble_eq_true rfl⟩
      show X 0 0 WW μ78c 81 [some (xR 120), some (xI z33)] []
      have hB78c : BI μ78c := by rw [hm78c]; exact hB2.br (fun k hk0 hk1 => by have hq : 0 ≤ (μ2 125 (0 + k)) ∧ (μ2 125 (0 + k)) ≤ 7 := hB2 125 _; show (((30 + (10 * z33)) + k) = 0 → 0 ≤ (μ2 125 (0 + k)) ∧ (μ2 125 (0 + k)) ≤ 8) ∧ (((30 + (10 * z33)) + k) = 1 → 0 ≤ (μ2 125 (0 + k)) ∧ (μ2 125 (0 + k)) ≤ 2) ∧ (2 ≤ ((30 + (10 * z33)) + k) ∧ ((30 + (10 * z33)) + k) ≤ 5 → 0 ≤ (μ2 125 (0 + k)) ∧ (μ2 125 (0 + k)) ≤ 9) ∧ (6 ≤ ((30 + (10 * z33)) + k) ∧ ((30 + (10 * z33)) + k) ≤ 13 → 0 ≤ (μ2 125 (0 + k)) ∧ (μ2 125 (0 + k)) ≤ 10) ∧ (30 ≤ ((30 + (10 * z33)) + k) → 0 ≤ (μ2 125 (0 + k)) ∧ (μ2 125 (0 + k)) ≤ 7); omega)
      have hk78c_121_0 : μ78c 121 0 = μ2 121 0 := by rw [hm78c]; exact xbr_j (by omega)
      have hk78c_120_6 : μ78c 120 6 = μ2 120 6 := by rw [hm78c]; exact congrFun (xbr_c (by decide)) _
      refine r_aload_n hL (x := 120) dX8_tale_81 rfl ?_
      refine r_getr hL xcl8 0 (by decide) s_120 (by decide) fl_X8_7 (by decide) f_120_0 dX8_tale_82 ?_
      refine r_iconst hL dX8_tale_85 ?_
      refine r_dup2 hL dX8_tale_86 rfl rfl ?_
      refine r_iald hL dX8_tale_87 (by decide) s_121 (by decide) (by omega) (by omega) (fun hr87 => ?_)
      obtain ⟨z87, hz87⟩ : ∃ z, z = μ78c 121 0 := ⟨_, rfl⟩
      rw [← hz87] at hr87 ⊢
      have hb87 : 0 ≤ μ78c 121 0 ∧ μ78c 121 0 ≤ 8 := (show ((0 : Int) = 0 → 0 ≤ (μ78c 121 0) ∧ (μ78c 121 0) ≤ 8) ∧ ((0 : Int) = 1 → 0 ≤ (μ78c 121 0) ∧ (μ78c 121 0) ≤ 2) ∧ (2 ≤ (0 : Int) ∧ (0 : Int) ≤ 5 → 0 ≤ (μ78c 121 0) ∧ (μ78c 121 0) ≤ 9) ∧ (6 ≤ (0 : Int) ∧ (0 : Int) ≤ 13 → 0 ≤ (μ78c 121 0) ∧ (μ78c 121 0) ≤ 10) ∧ (30 ≤ (0 : Int) → 0 ≤ (μ78c 121 0) ∧ (μ78c 121 0) ≤ 7) from hB78c 121 0).1 (by omega)
      refine r_iconst hL dX8_tale_88 ?_
      refine r_iadd hL dX8_tale_89 ?_
      refine r_iast hL dX8_tale_90 (by decide) s_121 (by decide) (by omega) (by omega) (by omega) (fun μ3 hm3 => ?_)
      have hB3 : BI μ3 := by rw [hm3]; exact hB78c.up (by show ((0 : Int) = 0 → 0 ≤ (z87 + 1) ∧ (z87 + 1) ≤ 8) ∧ ((0 : Int) = 1 → 0 ≤ (z87 + 1) ∧ (z87 + 1) ≤ 2) ∧ (2 ≤ (0 : Int) ∧ (0 : Int) ≤ 5 → 0 ≤ (z87 + 1) ∧ (z87 + 1) ≤ 9) ∧ (6 ≤ (0 : Int) ∧ (0 : Int) ≤ 13 → 0 ≤ (z87 + 1) ∧ (z87 + 1) ≤ 10) ∧ (30 ≤ (0 : Int) → 0 ≤ (z87 + 1) ∧ (z87 + 1) ≤ 7); omega)
      have hk3_121_0 : μ3 121 0 = z87 + 1 := by rw [hm3]; exact xup_s _ _ _ _
      have hk3_120_6 : μ3 120 6 = μ78c 120 6 := by rw [hm3]; exact congrFun (xup_c (by decide)) _
      refine r_aload_n hL (x := 120) dX8_tale_91 rfl ?_
      refine r_iconst hL dX8_tale_92 ?_
      refine r_puti hL xcl8 6 (j' := 6) rfl (by decide) s_120 (by decide) fl_X8_149 rfl rfl (by omega) dX8_tale_93 (fun μ4 hm4 => ?_)
      have hB4 : BI μ4 := by rw [hm4]; exact hB3.up (by show ((6 : Int) = 2 → 0 ≤ 0 ∧ 0 ≤ 16) ∧ ((6 : Int) = 6 → 0 ≤ 0 ∧ 0 ≤ 10) ∧ ((6 : Int) = 8 → 0 ≤ 0 ∧ 0 ≤ 20) ∧ ((6 : Int) = 9 → 0 ≤ 0 ∧ 0 ≤ 2147483647) ∧ ((6 : Int) = 11 → 0 ≤ 0 ∧ 0 ≤ 10) ∧ ((6 : Int) = 13 → 0 ≤ 0 ∧ 0 ≤ 10) ∧ ((6 : Int) = 20 → 0 ≤ 0 ∧ 0 ≤ 8); omega)
      have hk4_121_0 : μ4 121 0 = μ3 121 0 := by rw [hm4]; exact congrFun (xup_c (by decide)) _
      have hk4_120_6 : μ4 120 6 = 0 := by rw [hm4]; exact xup_s _ _ _ _
      refine r_iload_n hL (x := z33) dX8_tale_96 rfl ?_
      exact r_iret hL dX8_tale_97 rfl (hK _ _ hB4 (by omega))
    · skip
      refine r_ldc hL (n := -1000000003) dX8_tale_21 kc_X8_164 (by decide) ?_
      exact r_iret hL dX8_tale_23 rfl (hK _ _ hB (by omega))
  · skip
    refine r_ldc hL (n := -1000000004) dX8_tale_11 kc_X8_160 (by decide) ?_
    exact r_iret hL dX8_tale_13 rfl (hK _ _ hB (by omega))

set_option maxHeartbeats 4000000 in
set_option maxRecDepth 20000 in
theorem m_X8_wrong {K : Option xV → xW → xM → Prop} {μ : xM} (hB0 : BI μ)  (hK : ∀ r μ', BI μ' → Fr RM μ μ' → xrg r → K (some (xI r)) WW μ') : xMet yX8_wrong cX8_wrong 4 (some .int) 5 118 0 0 [xR 120] WW μ K := by
  refine xMet.go RX8 "wrong" rfl rfl (by decide) [some (xR 120), none, none, none] (Nat.le_of_ble_eq_true rfl) rfl (fun X hL => ?_)
  have hB := hB0
  have hF : Fr RM μ μ := Fr.rf
  refine r_iconst hL dX8_wrong_0 ?_
  refine r_istore_n hL (lo' := [some (xR 120), some (xI 0), none, none]) dX8_wrong_1 (by decide) rfl ?_
  have lp2 : ∀ (n2 : Nat) (k : Int) (μ102 : xM), (BI μ102) → (Fr RM μ μ102) → (0 ≤ k ∧ k ≤ 20) → ((20 - k).toNat) < n2 → X 0 0 WW μ102 2 [some (xR 120), some (xI k), none, none] [] := by
    intro n2
    induction n2 with
    | zero => intro k μ102 hB102 hF102 h1 hn; exact absurd hn (Nat.not_lt_zero _)
    | succ n2 ih2 =>
      intro k μ102 hB102 hF102 h1 hn2
      refine r_iload_n hL (x := k) dX8_wrong_2 rfl ?_
      refine r_aload_n hL (x := 120) dX8_wrong_3 rfl ?_
      refine r_geti hL xcl8 8 (j' := 8) rfl (by decide) s_120 (by decide) fl_X8_168 (by decide) (by decide) dX8_wrong_4 (fun hr4 => ?_)
      obtain ⟨z4, hz4⟩ : ∃ z, z = μ102 120 8 := ⟨_, rfl⟩
      rw [← hz4] at hr4 ⊢
      have hb4 : 0 ≤ μ102 120 8 ∧ μ102 120 8 ≤ 20 := (show ((8 : Int) = 2 → 0 ≤ (μ102 120 8) ∧ (μ102 120 8) ≤ 16) ∧ ((8 : Int) = 6 → 0 ≤ (μ102 120 8) ∧ (μ102 120 8) ≤ 10) ∧ ((8 : Int) = 8 → 0 ≤ (μ102 120 8) ∧ (μ102 120 8) ≤ 20) ∧ ((8 : Int) = 9 → 0 ≤ (μ102 120 8) ∧ (μ102 120 8) ≤ 2147483647) ∧ ((8 : Int) = 11 → 0 ≤ (μ102 120 8) ∧ (μ102 120 8) ≤ 10) ∧ ((8 : Int) = 13 → 0 ≤ (μ102 120 8) ∧ (μ102 120 8) ≤ 10) ∧ ((8 : Int) = 20 → 0 ≤ (μ102 120 8) ∧ (μ102 120 8) ≤ 8) from hB102 120 8).2.2.1 (by omega)
      refine r_icmp_ge hL (tgt := 73) dX8_wrong_7 (by decide) (by omega) (by omega) (fun c7 => ?_) (fun c7 => ?_)
      · skip
        refine r_iconst hL dX8_wrong_73 ?_
        exact r_iret hL dX8_wrong_74 rfl (hK _ _ hB102 hF102 (by omega))
      · skip
        refine r_aload_n hL (x := 120) dX8_wrong_10 rfl ?_
        refine r_getr hL xcl8 7 (by decide) s_120 (by decide) fl_X8_26 (by decide) f_120_7 dX8_wrong_11 ?_
        refine r_iconst hL dX8_wrong_14 ?_
        refine r_iload_n hL (x := k) dX8_wrong_15 rfl ?_
        refine r_imul hL dX8_wrong_16 ?_
        refine r_iald hL dX8_wrong_17 (by decide) s_126 (by decide) (by omega) (by omega) (fun hr17 => ?_)
        obtain ⟨z17, hz17⟩ : ∃ z, z = μ102 126 (3 * k) := ⟨_, rfl⟩
        rw [← hz17] at hr17 ⊢
        have hb17 : (3 * k) % 3 ≤ 1 → 0 ≤ (μ102 126 (3 * k)) ∧ (μ102 126 (3 * k)) ≤ 7 := hB102 126 (3 * k)
        refine r_istore_n hL (lo' := [some (xR 120), some (xI k), some (xI z17), none]) dX8_wrong_18 (by decide) rfl ?_
        refine r_aload_n hL (x := 120) dX8_wrong_19 rfl ?_
        refine r_getr hL xcl8 7 (by decide) s_120 (by decide) fl_X8_26 (by decide) f_120_7 dX8_wrong_20 ?_
        refine r_iconst hL dX8_wrong_23 ?_
        refine r_iload_n hL (x := k) dX8_wrong_24 rfl ?_
        refine r_imul hL dX8_wrong_25 ?_
        refine r_iconst hL dX8_wrong_26 ?_
        refine r_iadd hL dX8_wrong_27 ?_
        refine r_iald hL dX8_wrong_28 (by decide) s_126 (by decide) (by omega) (by omega) (fun hr28 => ?_)
        obtain ⟨z28, hz28⟩ : ∃ z, z = μ102 126 ((3 * k) + 1) := ⟨_, rfl⟩
        rw [← hz28] at hr28 ⊢
        have hb28 : ((3 * k) + 1) % 3 ≤ 1 → 0 ≤ (μ102 126 ((3 * k) + 1)) ∧ (μ102 126 ((3 * k) + 1)) ≤ 7 := hB102 126 ((3 * k) + 1)
        refine r_istore_n hL (lo' := [some (xR 120), some (xI k), some (xI z17), some (xI z28)]) dX8_wrong_29 (by decide) rfl ?_
        refine r_aload_n hL (x := 120) dX8_wrong_30 rfl ?_
        refine r_iload_n hL (x := z17) dX8_wrong_31 rfl ?_
        refine r_callV hL (st := []) (av := [xI z17]) (k := 120) (m_X8_isTale (μ := μ102) hB102 z17 (by omega) (fun z32 hc32 => ⟨rfl, ?_⟩)) ce_yX8_isTale im_yX8_isTale se_yX8_isTale ml_X8_171 xcl8 (by decide) s_120 dX8_wrong_32 rfl (Nat.le_of_ble_eq_true rfl) ⟨Nat.le_of_ble_eq_true rfl, Nat.le_of_ble_eq_true rfl⟩ ⟨Nat.le_of_ble_eq_true rfl, Nat.le_of_ble_eq_true rfl⟩
        show X 0 0 WW μ102 35 [some (xR 120), some (xI k), some (xI z17), some (xI z28)] [xI z32]
        refine r_if_eq hL (tgt := 65) dX8_wrong_35 (by decide) (by omega) (fun c35 => ?_) (fun c35 => ?_)
        · skip
          refine r_iload_n hL (x := k) dX8_wrong_65 rfl ?_
          exact r_iret hL dX8_wrong_66 rfl (hK _ _ hB102 hF102 (by omega))
        · skip
          refine r_aload_n hL (x := 120) dX8_wrong_38 rfl ?_
          refine r_iload_n hL (x := z28) dX8_wrong_39 rfl ?_
          refine r_callV hL (st := []) (av := [xI z28]) (k := 120) (m_X8_isTale (μ := μ102) hB102 z28 (by omega) (fun z40 hc40 => ⟨rfl, ?_⟩)) ce_yX8_isTale im_yX8_isTale se_yX8_isTale ml_X8_171 xcl8 (by decide) s_120 dX8_wrong_40 rfl (Nat.le_of_ble_eq_true rfl) ⟨Nat.le_of_ble_eq_true rfl, Nat.le_of_ble_eq_true rfl⟩ ⟨Nat.le_of_ble_eq_true rfl, Nat.le_of_ble_eq_true rfl⟩
          show X 0 0 WW μ102 43 [some (xR 120), some (xI k), some (xI z17), some (xI z28)] [xI z40]
          refine r_if_eq hL (tgt := 65) dX8_wrong_43 (by decide) (by omega) (fun c43 => ?_) (fun c43 => ?_)
          · skip
            refine r_iload_n hL (x := k) dX8_wrong_65 rfl ?_
            exact r_iret hL dX8_wrong_66 rfl (hK _ _ hB102 hF102 (by omega))
          · skip
            refine r_aload_n hL (x := 120) dX8_wrong_46 rfl ?_
            refine r_iload_n hL (x := z17) dX8_wrong_47 rfl ?_
            refine r_iload_n hL (x := z28) dX8_wrong_48 rfl ?_
            refine r_callV hL (st := []) (av := [xI z17, xI z28]) (k := 120) (m_X8_apart (μ := μ102) hB102 z17 (by omega) z28 (by omega) (fun z49 μ49c hB49c hG49 hD49c heq49 hc49 => ⟨rfl, ?_⟩)) ce_yX8_apart im_yX8_apart se_yX8_apart ml_X8_111 xcl8 (by decide) s_120 dX8_wrong_49 rfl (Nat.le_of_ble_eq_true rfl) ⟨Nat.le_of_ble_eq_true rfl, Nat.le_of_ble_eq_true rfl⟩ ⟨Nat.le_of_ble_eq_true rfl, Nat.le_of_ble_eq_true rfl⟩
            show X 0 0 WW μ49c 52 [some (xR 120), some (xI k), some (xI z17), some (xI z28)] [xI z49]
            have hF49c : Fr RM μ μ49c := hF102.trans hG49
            refine r_aload_n hL (x := 120) dX8_wrong_52 rfl ?_
            refine r_getr hL xcl8 7 (by decide) s_120 (by decide) fl_X8_26 (by decide) f_120_7 dX8_wrong_53 ?_
            refine r_iconst hL dX8_wrong_56 ?_
            refine r_iload_n hL (x := k) dX8_wrong_57 rfl ?_
            refine r_imul hL dX8_wrong_58 ?_
            refine r_iconst hL dX8_wrong_59 ?_
            refine r_iadd hL dX8_wrong_60 ?_
            refine r_iald hL dX8_wrong_61 (by decide) s_126 (by decide) (by omega) (by omega) (fun hr61 => ?_)
            obtain ⟨z61, hz61⟩ : ∃ z, z = μ49c 126 ((3 * k) + 2) := ⟨_, rfl⟩
            rw [← hz61] at hr61 ⊢
            have hb61 : ((3 * k) + 2) % 3 ≤ 1 → 0 ≤ (μ49c 126 ((3 * k) + 2)) ∧ (μ49c 126 ((3 * k) + 2)) ≤ 7 := hB49c 126 ((3 * k) + 2)
            refine r_icmp_eq hL (tgt := 67) dX8_wrong_62 (by decide) (by omega) (by omega) (fun c62 => ?_) (fun c62 => ?_)
            · skip
              refine r_iinc hL (x := k) (lo' := [some (xR 120), some (xI (k + 1)), some (xI z17), some (xI z28)]) dX8_wrong_67 (by decide) rfl rfl ?_
              refine r_goto hL (tgt := 2) dX8_wrong_70 (by decide) ?_
              refine r_drop hL (lo' := [some (xR 120), some (xI (k + 1)), none, none]) [2, 3] rfl ?_
              exact ih2 (k + 1) μ49c hB49c hF49c (by omega) (by omega)
            · skip
              refine r_iload_n hL (x := k) dX8_wrong_65 rfl ?_
              exact r_iret hL dX8_wrong_66 rfl (hK _ _ hB49c hF49c (by omega))
  exact lp2 _ 0 μ hB hF (by omega) (Nat.lt_succ_self _)

set_option maxHeartbeats 4000000 in
set_option maxRecDepth 20000 in
theorem m_X8_told {K : Option xV → xW → xM → Prop} {μ : xM} (hB0 : BI μ) (t : Int) (ht : xrg t) (hK : ∀ r μ', BI μ' → Fr RM μ μ' → xrg r → K (some (xI r)) WW μ') : xMet yX8_told cX8_told 2 (some .int) 6 141 0 0 [xR 120, xI t] WW μ K := by
  refine xMet.go RX8 "told" rfl rfl (by decide) [some (xR 120), some (xI t)] (Nat.le_of_ble_eq_true rfl) rfl (fun X hL => ?_)
  have hB := hB0
  have hF : Fr RM μ μ := Fr.rf
  refine r_iload_n hL (x := t) dX8_told_0 rfl ?_
  by_cases e1 : 0 ≤ t ∧ t ≤ 8
  · skip
    rcases (show t = 0 ∨ t = 1 ∨ t = 2 ∨ t = 3 ∨ t = 4 ∨ t = 5 ∨ t = 6 ∨ t = 7 ∨ t = 8 by omega) with e1 | e1 | e1 | e1 | e1 | e1 | e1 | e1 | e1
    · skip
      refine r_tableIn hL (tgt := 52) (off := 51) 0 dX8_told_1 (by omega) e1 (by decide) (by decide) rfl (by decide) ?_
      refine r_aload_n hL (x := 120) dX8_told_52 rfl ?_
      refine r_getr hL xcl8 0 (by decide) s_120 (by decide) fl_X8_7 (by decide) f_120_0 dX8_told_53 ?_
      refine r_iconst hL dX8_told_56 ?_
      refine r_iald hL dX8_told_57 (by decide) s_121 (by decide) (by omega) (by omega) (fun hr57 => ?_)
      obtain ⟨z57, hz57⟩ : ∃ z, z = μ 121 0 := ⟨_, rfl⟩
      rw [← hz57] at hr57 ⊢
      have hb57 : 0 ≤ μ 121 0 ∧ μ 121 0 ≤ 8 := (show ((0 : Int) = 0 → 0 ≤ (μ 121 0) ∧ (μ 121 0) ≤ 8) ∧ ((0 : Int) = 1 → 0 ≤ (μ 121 0) ∧ (μ 121 0) ≤ 2) ∧ (2 ≤ (0 : Int) ∧ (0 : Int) ≤ 5 → 0 ≤ (μ 121 0) ∧ (μ 121 0) ≤ 9) ∧ (6 ≤ (0 : Int) ∧ (0 : Int) ≤ 13 → 0 ≤ (μ 121 0) ∧ (μ 121 0) ≤ 10) ∧ (30 ≤ (0 : Int) → 0 ≤ (μ 121 0) ∧ (μ 121 0) ≤ 7) from hB 121 0).1 (by omega)
      exact r_iret hL dX8_told_58 rfl (hK _ _ hB hF (by omega))
    · skip
      refine r_tableIn hL (tgt := 59) (off := 58) 1 dX8_told_1 (by omega) e1 (by decide) (by decide) rfl (by decide) ?_
      refine r_aload_n hL (x := 120) dX8_told_59 rfl ?_
      refine r_geti hL xcl8 6 (j' := 6) rfl (by decide) s_120 (by decide) fl_X8_149 (by decide) (by decide) dX8_told_60 (fun hr60 => ?_)
      obtain ⟨z60, hz60⟩ : ∃ z, z = μ 120 6 := ⟨_, rfl⟩
      rw [← hz60] at hr60 ⊢
      have hb60 : 0 ≤ μ 120 6 ∧ μ 120 6 ≤ 10 := (show ((6 : Int) = 2 → 0 ≤ (μ 120 6) ∧ (μ 120 6) ≤ 16) ∧ ((6 : Int) = 6 → 0 ≤ (μ 120 6) ∧ (μ 120 6) ≤ 10) ∧ ((6 : Int) = 8 → 0 ≤ (μ 120 6) ∧ (μ 120 6) ≤ 20) ∧ ((6 : Int) = 9 → 0 ≤ (μ 120 6) ∧ (μ 120 6) ≤ 2147483647) ∧ ((6 : Int) = 11 → 0 ≤ (μ 120 6) ∧ (μ 120 6) ≤ 10) ∧ ((6 : Int) = 13 → 0 ≤ (μ 120 6) ∧ (μ 120 6) ≤ 10) ∧ ((6 : Int) = 20 → 0 ≤ (μ 120 6) ∧ (μ 120 6) ≤ 8) from hB 120 6).2.1 (by omega)
      exact r_iret hL dX8_told_63 rfl (hK _ _ hB hF (by omega))
    · skip
      refine r_tableIn hL (tgt := 64) (off := 63) 2 dX8_told_1 (by omega) e1 (by decide) (by decide) rfl (by decide) ?_
      refine r_aload_n hL (x := 120) dX8_told_64 rfl ?_
      refine r_getr hL xcl8 0 (by decide) s_120 (by decide) fl_X8_7 (by decide) f_120_0 dX8_told_65 ?_
      refine r_iconst hL dX8_told_68 ?_
      refine r_iald hL dX8_told_69 (by decide) s_121 (by decide) (by omega) (by omega) (fun hr69 => ?_)
      obtain ⟨z69, hz69⟩ : ∃ z, z = μ 121 1 := ⟨_, rfl⟩
      rw [← hz69] at hr69 ⊢
      have hb69 : 0 ≤ μ 121 1 ∧ μ 121 1 ≤ 2 := (show ((1 : Int) = 0 → 0 ≤ (μ 121 1) ∧ (μ 121 1) ≤ 8) ∧ ((1 : Int) = 1 → 0 ≤ (μ 121 1) ∧ (μ 121 1) ≤ 2) ∧ (2 ≤ (1 : Int) ∧ (1 : Int) ≤ 5 → 0 ≤ (μ 121 1) ∧ (μ 121 1) ≤ 9) ∧ (6 ≤ (1 : Int) ∧ (1 : Int) ≤ 13 → 0 ≤ (μ 121 1) ∧ (μ 121 1) ≤ 10) ∧ (30 ≤ (1 : Int) → 0 ≤ (μ 121 1) ∧ (μ 121 1) ≤ 7) from hB 121 1).2.1 (by omega)
      exact r_iret hL dX8_told_70 rfl (hK _ _ hB hF (by omega))
    · skip
      refine r_tableIn hL (tgt := 71) (off := 70) 3 dX8_told_1 (by omega) e1 (by decide) (by decide) rfl (by decide) ?_
      refine r_aload_n hL (x := 120) dX8_told_71 rfl ?_
      refine r_callV hL (st := []) (av := []) (k := 120) (m_X8_nodesMany (μ := μ) hB  (fun z72 hc72 hc72_1 hc72_2 => ⟨rfl, ?_⟩)) ce_yX8_nodesMany im_yX8_nodesMany se_yX8_nodesMany ml_X8_142 xcl8 (by decide) s_120 dX8_told_72 rfl (Nat.le_of_ble_eq_true rfl) ⟨Nat.le_of_ble_eq_true rfl, Nat.le_of_ble_eq_true rfl⟩ ⟨Nat.le_of_ble_eq_true rfl, Nat.le_of_ble_eq_true rfl⟩
      show X 0 0 WW μ 75 [some (xR 120), some (xI t)] [xI z72]
      exact r_iret hL dX8_told_75 rfl (hK _ _ hB hF (by omega))
    · skip
      refine r_tableIn hL (tgt := 76) (off := 75) 4 dX8_told_1 (by omega) e1 (by decide) (by decide) rfl (by decide) ?_
      refine r_aload_n hL (x := 120) dX8_told_76 rfl ?_
      refine r_callV hL (st := []) (av := []) (k := 120) (m_X8_likeTyped (μ := μ) hB  (fun z77 μ77c hB77c hG77 hc77 => ⟨rfl, ?_⟩)) ce_yX8_likeTyped im_yX8_likeTyped se_yX8_likeTyped ml_X8_174 xcl8 (by decide) s_120 dX8_told_77 rfl (Nat.le_of_ble_eq_true rfl) ⟨Nat.le_of_ble_eq_true rfl, Nat.le_of_ble_eq_true rfl⟩ ⟨Nat.le_of_ble_eq_true rfl, Nat.le_of_ble_eq_true rfl⟩
      show X 0 0 WW μ77c 80 [some (xR 120), some (xI t)] [xI z77]
      have hF77c : Fr RM μ μ77c := hF.trans hG77
      exact r_iret hL dX8_told_80 rfl (hK _ _ hB77c hF77c (by omega))
    · skip
      refine r_tableIn hL (tgt := 81) (off := 80) 5 dX8_told_1 (by omega) e1 (by decide) (by decide) rfl (by decide) ?_
      refine r_aload_n hL (x := 120) dX8_told_81 rfl ?_
      refine r_sipush hL dX8_told_82 (by decide) ?_
      refine r_callV hL (st := []) (av := [xI 255]) (k := 120) (m_X8_allHave (μ := μ) hB 255 (by omega) (fun z85 hc85 => ⟨rfl, ?_⟩)) ce_yX8_allHave im_yX8_allHave se_yX8_allHave ml_X8_177 xcl8 (by decide) s_120 dX8_told_85 rfl (Nat.le_of_ble_eq_true rfl) ⟨Nat.le_of_ble_eq_true rfl, Nat.le_of_ble_eq_true rfl⟩ ⟨Nat.le_of_ble_eq_true rfl, Nat.le_of_ble_eq_true rfl⟩
      show X 0 0 WW μ 88 [some (xR 120), some (xI t)] [xI z85]
      exact r_iret hL dX8_told_88 rfl (hK _ _ hB hF (by omega))
    · skip
      refine r_tableIn hL (tgt := 89) (off := 88) 6 dX8_told_1 (by omega) e1 (by decide) (by decide) rfl (by decide) ?_
      refine r_aload_n hL (x := 120) dX8_told_89 rfl ?_
      refine r_geti hL xcl8 8 (j' := 8) rfl (by decide) s_120 (by decide) fl_X8_168 (by decide) (by decide) dX8_told_90 (fun hr90 => ?_)
      obtain ⟨z90, hz90⟩ : ∃ z, z = μ 120 8 := ⟨_, rfl⟩
      rw [← hz90] at hr90 ⊢
      have hb90 : 0 ≤ μ 120 8 ∧ μ 120 8 ≤ 20 := (show ((8 : Int) = 2 → 0 ≤ (μ 120 8) ∧ (μ 120 8) ≤ 16) ∧ ((8 : Int) = 6 → 0 ≤ (μ 120 8) ∧ (μ 120 8) ≤ 10) ∧ ((8 : Int) = 8 → 0 ≤ (μ 120 8) ∧ (μ 120 8) ≤ 20) ∧ ((8 : Int) = 9 → 0 ≤ (μ 120 8) ∧ (μ 120 8) ≤ 2147483647) ∧ ((8 : Int) = 11 → 0 ≤ (μ 120 8) ∧ (μ 120 8) ≤ 10) ∧ ((8 : Int) = 13 → 0 ≤ (μ 120 8) ∧ (μ 120 8) ≤ 10) ∧ ((8 : Int) = 20 → 0 ≤ (μ 120 8) ∧ (μ 120 8) ≤ 8) from hB 120 8).2.2.1 (by omega)
      exact r_iret hL dX8_told_93 rfl (hK _ _ hB hF (by omega))
    · skip
      refine r_tableIn hL (tgt := 94) (off := 93) 7 dX8_told_1 (by omega) e1 (by decide) (by decide) rfl (by decide) ?_
      refine r_aload_n hL (x := 120) dX8_told_94 rfl ?_
      refine r_callV hL (st := []) (av := []) (k := 120) (m_X8_wrong (μ := μ) hB  (fun z95 μ95c hB95c hG95 hc95 => ⟨rfl, ?_⟩)) ce_yX8_wrong im_yX8_wrong se_yX8_wrong ml_X8_180 xcl8 (by decide) s_120 dX8_told_95 rfl (Nat.le_of_ble_eq_true rfl) ⟨Nat.le_of_ble_eq_true rfl, Nat.le_of_ble_eq_true rfl⟩ ⟨Nat.le_of_ble_eq_true rfl, Nat.le_of_ble_eq_true rfl⟩
      show X 0 0 WW μ95c 98 [some (xR 120), some (xI t)] [xI z95]
      have hF95c : Fr RM μ μ95c := hF.trans hG95
      exact r_iret hL dX8_told_98 rfl (hK _ _ hB95c hF95c (by omega))
    · skip
      refine r_tableIn hL (tgt := 99) (off := 98) 8 dX8_told_1 (by omega) e1 (by decide) (by decide) rfl (by decide) ?_
      refine r_aload_n hL (x := 120) dX8_told_99 rfl ?_
      refine r_geti hL xcl8 2 (j' := 2) rfl (by decide) s_120 (by decide) fl_X8_161 (by decide) (by decide) dX8_told_100 (fun hr100 => ?_)
      obtain ⟨z100, hz100⟩ : ∃ z, z = μ 120 2 := ⟨_, rfl⟩
      rw [← hz100] at hr100 ⊢
      have hb100 : 0 ≤ μ 120 2 ∧ μ 120 2 ≤ 16 := (show ((2 : Int) = 2 → 0 ≤ (μ 120 2) ∧ (μ 120 2) ≤ 16) ∧ ((2 : Int) = 6 → 0 ≤ (μ 120 2) ∧ (μ 120 2) ≤ 10) ∧ ((2 : Int) = 8 → 0 ≤ (μ 120 2) ∧ (μ 120 2) ≤ 20) ∧ ((2 : Int) = 9 → 0 ≤ (μ 120 2) ∧ (μ 120 2) ≤ 2147483647) ∧ ((2 : Int) = 11 → 0 ≤ (μ 120 2) ∧ (μ 120 2) ≤ 10) ∧ ((2 : Int) = 13 → 0 ≤ (μ 120 2) ∧ (μ 120 2) ≤ 10) ∧ ((2 : Int) = 20 → 0 ≤ (μ 120 2) ∧ (μ 120 2) ≤ 8) from hB 120 2).1 (by omega)
      exact r_iret hL dX8_told_103 rfl (hK _ _ hB hF (by omega))
  · skip
    refine r_tableOut hL (tgt := 104) dX8_told_1 (by omega) (by omega) (by decide) ?_
    refine r_ldc hL (n := -1000000002) dX8_told_104 kc_X8_159 (by decide) ?_
    exact r_iret hL dX8_told_106 rfl (hK _ _ hB hF (by omega))
