set_option maxHeartbeats 4000000 in
set_option maxRecDepth 20000 in
theorem m_X8_take {K : Option xV → xW → xM → Prop} {μ : xM} (hB0 : BI μ) (t : Int) (ht : xrg t) (hK : ∀ r μ', BI μ' → xrg r → K (some (xI r)) WW μ') : xMet yX8_take cX8_take 3 (some .int) 2 45 0 0 [xR 120, xI t] WW μ K := by
  refine xMet.go RX8 "take" rfl rfl (by decide) [some (xR 120), some (xI t), none] (Nat.le_of_ble_eq_true rfl) rfl (fun X hL => ?_)
  have hB := hB0
  refine r_aload_n hL (x := 120) dX8_take_0 rfl ?_
  refine r_iload_n hL (x := t) dX8_take_1 rfl ?_
  refine r_callV hL (st := []) (av := [xI t]) (k := 120) (m_X8_isTale (μ := μ) hB t (by omega) (fun z2 hc2 => ⟨rfl, ?_⟩)) ce_yX8_isTale im_yX8_isTale se_yX8_isTale ml_X8_171 xcl8 (by decide) s_120 dX8_take_2 rfl (Nat.le_of_ble_eq_true rfl) ⟨Nat.le_of_ble_eq_true rfl, Nat.le_of_ble_eq_true rfl⟩ ⟨Nat.le_of_ble_eq_true rfl, Nat.le_of_ble_eq_true rfl⟩
  show X 0 0 WW μ 5 [some (xR 120), some (xI t), none] [xI z2]
  refine r_if_ne hL (tgt := 11) dX8_take_5 (by decide) (by omega) (fun c5 => ?_) (fun c5 => ?_)
  · skip
    refine r_aload_n hL (x := 120) dX8_take_11 rfl ?_
    refine r_callV hL (st := []) (av := []) (k := 120) (m_X8_notes (μ := μ) hB  (fun μ12c hB12c hG12 => ⟨rfl, ?_⟩)) ce_yX8_notes im_yX8_notes se_yX8_notes ml_X8_165 xcl8 (by decide) s_120 dX8_take_12 rfl (Nat.le_of_ble_eq_true rfl) ⟨Nat.le_of_ble_eq_true rfl, Nat.le_of_ble_eq_true rfl⟩ ⟨Nat.le_of_ble_eq_true rfl, Nat.le_of_ble_eq_true rfl⟩
    show X 0 0 WW μ12c 15 [some (xR 120), some (xI t), none] []
    have hk12c_121_0 : μ12c 121 0 = μ 121 0 := hG12 121 0 (by unfold NT; omega)
    refine r_aload_n hL (x := 120) dX8_take_15 rfl ?_
    refine r_getr hL xcl8 0 (by decide) s_120 (by decide) fl_X8_7 (by decide) f_120_0 dX8_take_16 ?_
    refine r_iconst hL dX8_take_19 ?_
    refine r_dup2 hL dX8_take_20 rfl rfl ?_
    refine r_iald hL dX8_take_21 (by decide) s_121 (by decide) (by omega) (by omega) (fun hr21 => ?_)
    obtain ⟨z21, hz21⟩ : ∃ z, z = μ12c 121 0 := ⟨_, rfl⟩
    rw [← hz21] at hr21 ⊢
    have hb21 : 0 ≤ μ12c 121 0 ∧ μ12c 121 0 ≤ 8 := (show ((0 : Int) = 0 → 0 ≤ (μ12c 121 0) ∧ (μ12c 121 0) ≤ 8) ∧ ((0 : Int) = 1 → 0 ≤ (μ12c 121 0) ∧ (μ12c 121 0) ≤ 2) ∧ (2 ≤ (0 : Int) ∧ (0 : Int) ≤ 5 → 0 ≤ (μ12c 121 0) ∧ (μ12c 121 0) ≤ 9) ∧ (6 ≤ (0 : Int) ∧ (0 : Int) ≤ 13 → 0 ≤ (μ12c 121 0) ∧ (μ12c 121 0) ≤ 10) ∧ (30 ≤ (0 : Int) → 0 ≤ (μ12c 121 0) ∧ (μ12c 121 0) ≤ 7) from hB12c 121 0).1 (by omega)
    refine r_iconst hL dX8_take_22 ?_
    refine r_isub hL dX8_take_23 ?_
    refine r_iast hL dX8_take_24 (by decide) s_121 (by decide) (by omega) (by omega) (by omega) (fun μ1 hm1 => ?_)
    have hB1 : BI μ1 := by rw [hm1]; exact hB12c.up (by show ((0 : Int) = 0 → 0 ≤ (z21 - 1) ∧ (z21 - 1) ≤ 8) ∧ ((0 : Int) = 1 → 0 ≤ (z21 - 1) ∧ (z21 - 1) ≤ 2) ∧ (2 ≤ (0 : Int) ∧ (0 : Int) ≤ 5 → 0 ≤ (z21 - 1) ∧ (z21 - 1) ≤ 9) ∧ (6 ≤ (0 : Int) ∧ (0 : Int) ≤ 13 → 0 ≤ (z21 - 1) ∧ (z21 - 1) ≤ 10) ∧ (30 ≤ (0 : Int) → 0 ≤ (z21 - 1) ∧ (z21 - 1) ≤ 7); omega)
    have hk1_121_0 : μ1 121 0 = z21 - 1 := by rw [hm1]; exact xup_s _ _ _ _
    refine r_aload_n hL (x := 120) dX8_take_25 rfl ?_
    refine r_getr hL xcl8 0 (by decide) s_120 (by decide) fl_X8_7 (by decide) f_120_0 dX8_take_26 ?_
    refine r_iconst hL dX8_take_29 ?_
    refine r_iald hL dX8_take_30 (by decide) s_121 (by decide) (by omega) (by omega) (fun hr30 => ?_)
    obtain ⟨z30, hz30⟩ : ∃ z, z = μ1 121 0 := ⟨_, rfl⟩
    rw [← hz30] at hr30 ⊢
    have hb30 : 0 ≤ μ1 121 0 ∧ μ1 121 0 ≤ 8 := (show ((0 : Int) = 0 → 0 ≤ (μ1 121 0) ∧ (μ1 121 0) ≤ 8) ∧ ((0 : Int) = 1 → 0 ≤ (μ1 121 0) ∧ (μ1 121 0) ≤ 2) ∧ (2 ≤ (0 : Int) ∧ (0 : Int) ≤ 5 → 0 ≤ (μ1 121 0) ∧ (μ1 121 0) ≤ 9) ∧ (6 ≤ (0 : Int) ∧ (0 : Int) ≤ 13 → 0 ≤ (μ1 121 0) ∧ (μ1 121 0) ≤ 10) ∧ (30 ≤ (0 : Int) → 0 ≤ (μ1 121 0) ∧ (μ1 121 0) ≤ 7) from hB1 121 0).1 (by omega)
    refine r_iload_n hL (x := t) dX8_take_31 rfl ?_
    refine r_isub hL dX8_take_32 ?_
    refine r_istore_n hL (lo' := [some (xR 120), some (xI t), some (xI (z30 - t))]) dX8_take_33 (by decide) rfl ?_
    refine r_aload_n hL (x := 120) dX8_take_34 rfl ?_
    refine r_getr hL xcl8 0 (by decide) s_120 (by decide) fl_X8_7 (by decide) f_120_0 dX8_take_35 ?_
    refine r_bipush hL dX8_take_38 (by decide) ?_
    refine r_iload_n hL (x := t) dX8_take_40 rfl ?_
    refine r_iadd hL dX8_take_41 ?_
    refine r_iconst hL dX8_take_42 ?_
    refine r_iadd hL dX8_take_43 ?_
    refine r_aload_n hL (x := 120) dX8_take_44 rfl ?_
    refine r_getr hL xcl8 0 (by decide) s_120 (by decide) fl_X8_7 (by decide) f_120_0 dX8_take_45 ?_
    refine r_bipush hL dX8_take_48 (by decide) ?_
    refine r_iload_n hL (x := t) dX8_take_50 rfl ?_
    refine r_iadd hL dX8_take_51 ?_
    refine r_iload_n hL (x := z30 - t) dX8_take_52 rfl ?_
    refine r_callS hL (st := []) (av := [xR 121, xI ((6 + t) + 1), xR 121, xI (6 + t), xI (z30 - t)]) (m_X8_bring (μ := μ1) 121 110 (by decide) s_121 (by decide) ((6 + t) + 1) 121 110 (by decide) s_121 (by decide) (6 + t) (z30 - t) (by omega) (by omega) (fun _ => by omega) (fun μ53c hm53c => ⟨rfl, ?_⟩)) ce_yX8_bring sm_yX8_bring ml_X8_73 dX8_take_53 rfl (Nat.le_of_ble_eq_true rfl) ⟨Nat.le_of_ble_eq_true rfl, Nat.le_of_ble_eq_true rfl⟩ ⟨Nat.le_of_ble_eq_true rfl, Nat.le_of_ble_eq_true rfl⟩
    show X 0 0 WW μ53c 56 [some (xR 120), some (xI t), some (xI (z30 - t))] []
    have hB53c : BI μ53c := by rw [hm53c]; exact hB1.br (fun k hk0 hk1 => by have hq : ((((6 + t) + 1) + k) = 0 → 0 ≤ (μ1 121 (((6 + t) + 1) + k)) ∧ (μ1 121 (((6 + t) + 1) + k)) ≤ 8) ∧ ((((6 + t) + 1) + k) = 1 → 0 ≤ (μ1 121 (((6 + t) + 1) + k)) ∧ (μ1 121 (((6 + t) + 1) + k)) ≤ 2) ∧ (2 ≤ (((6 + t) + 1) + k) ∧ (((6 + t) + 1) + k) ≤ 5 → 0 ≤ (μ1 121 (((6 + t) + 1) + k)) ∧ (μ1 121 (((6 + t) + 1) + k)) ≤ 9) ∧ (6 ≤ (((6 + t) + 1) + k) ∧ (((6 + t) + 1) + k) ≤ 13 → 0 ≤ (μ1 121 (((6 + t) + 1) + k)) ∧ (μ1 121 (((6 + t) + 1) + k)) ≤ 10) ∧ (30 ≤ (((6 + t) + 1) + k) → 0 ≤ (μ1 121 (((6 + t) + 1) + k)) ∧ (μ1 121 (((6 + t) + 1) + k)) ≤ 7) := hB1 121 _; have h1 := hq.2.2.2.1 (by omega); clear hq; show (((6 + t) + k) = 0 → 0 ≤ (μ1 121 (((6 + t) + 1) + k)) ∧ (μ1 121 (((6 + t) + 1) + k)) ≤ 8) ∧ (((6 + t) + k) = 1 → 0 ≤ (μ1 121 (((6 + t) + 1) + k)) ∧ (μ1 121 (((6 + t) + 1) + k)) ≤ 2) ∧ (2 ≤ ((6 + t) + k) ∧ ((6 + t) + k) ≤ 5 → 0 ≤ (μ1 121 (((6 + t) + 1) + k)) ∧ (μ1 121 (((6 + t) + 1) + k)) ≤ 9) ∧ (6 ≤ ((6 + t) + k) ∧ ((6 + t) + k) ≤ 13 → 0 ≤ (μ1 121 (((6 + t) + 1) + k)) ∧ (μ1 121 (((6 + t) + 1) + k)) ≤ 10) ∧ (30 ≤ ((6 + t) + k) → 0 ≤ (μ1 121 (((6 + t) + 1) + k)) ∧ (μ1 121 (((6 + t) + 1) + k)) ≤ 7); omega)
    have hk53c_121_0 : μ53c 121 0 = μ1 121 0 := by rw [hm53c]; exact xbr_j (by omega)
    refine r_aload_n hL (x := 120) dX8_take_56 rfl ?_
    refine r_getr hL xcl8 0 (by decide) s_120 (by decide) fl_X8_7 (by decide) f_120_0 dX8_take_57 ?_
    refine r_bipush hL dX8_take_60 (by decide) ?_
    refine r_iload_n hL (x := t) dX8_take_62 rfl ?_
    refine r_iadd hL dX8_take_63 ?_
    refine r_iconst hL dX8_take_64 ?_
    refine r_iadd hL dX8_take_65 ?_
    refine r_aload_n hL (x := 120) dX8_take_66 rfl ?_
    refine r_getr hL xcl8 0 (by decide) s_120 (by decide) fl_X8_7 (by decide) f_120_0 dX8_take_67 ?_
    refine r_bipush hL dX8_take_70 (by decide) ?_
    refine r_iload_n hL (x := t) dX8_take_72 rfl ?_
    refine r_iadd hL dX8_take_73 ?_
    refine r_iload_n hL (x := z30 - t) dX8_take_74 rfl ?_
    refine r_callS hL (st := []) (av := [xR 121, xI ((14 + t) + 1), xR 121, xI (14 + t), xI (z30 - t)]) (m_X8_bring (μ := μ53c) 121 110 (by decide) s_121 (by decide) ((14 + t) + 1) 121 110 (by decide) s_121 (by decide) (14 + t) (z30 - t) (by omega) (by omega) (fun _ => by omega) (fun μ75c hm75c => ⟨rfl, ?_⟩)) ce_yX8_bring sm_yX8_bring ml_X8_73 dX8_take_75 rfl (Nat.le_of_ble_eq_true rfl) ⟨Nat.le_of_ble_eq_true rfl, Nat.le_of_ble_eq_true rfl⟩ ⟨Nat.le_of_ble_eq_true rfl, Nat.le_of_ble_eq_true rfl⟩
    show X 0 0 WW μ75c 78 [some (xR 120), some (xI t), some (xI (z30 - t))] []
    have hB75c : BI μ75c := by rw [hm75c]; exact hB53c.br (fun k hk0 hk1 => by have hq : ((((14 + t) + 1) + k) = 0 → 0 ≤ (μ53c 121 (((14 + t) + 1) + k)) ∧ (μ53c 121 (((14 + t) + 1) + k)) ≤ 8) ∧ ((((14 + t) + 1) + k) = 1 → 0 ≤ (μ53c 121 (((14 + t) + 1) + k)) ∧ (μ53c 121 (((14 + t) + 1) + k)) ≤ 2) ∧ (2 ≤ (((14 + t) + 1) + k) ∧ (((14 + t) + 1) + k) ≤ 5 → 0 ≤ (μ53c 121 (((14 + t) + 1) + k)) ∧ (μ53c 121 (((14 + t) + 1) + k)) ≤ 9) ∧ (6 ≤ (((14 + t) + 1) + k) ∧ (((14 + t) + 1) + k) ≤ 13 → 0 ≤ (μ53c 121 (((14 + t) + 1) + k)) ∧ (μ53c 121 (((14 + t) + 1) + k)) ≤ 10) ∧ (30 ≤ (((14 + t) + 1) + k) → 0 ≤ (μ53c 121 (((14 + t) + 1) + k)) ∧ (μ53c 121 (((14 + t) + 1) + k)) ≤ 7) := hB53c 121 _; clear hq; show (((14 + t) + k) = 0 → 0 ≤ (μ53c 121 (((14 + t) + 1) + k)) ∧ (μ53c 121 (((14 + t) + 1) + k)) ≤ 8) ∧ (((14 + t) + k) = 1 → 0 ≤ (μ53c 121 (((14 + t) + 1) + k)) ∧ (μ53c 121 (((14 + t) + 1) + k)) ≤ 2) ∧ (2 ≤ ((14 + t) + k) ∧ ((14 + t) + k) ≤ 5 → 0 ≤ (μ53c 121 (((14 + t) + 1) + k)) ∧ (μ53c 121 (((14 + t) + 1) + k)) ≤ 9) ∧ (6 ≤ ((14 + t) + k) ∧ ((14 + t) + k) ≤ 13 → 0 ≤ (μ53c 121 (((14 + t) + 1) + k)) ∧ (μ53c 121 (((14 + t) + 1) + k)) ≤ 10) ∧ (30 ≤ ((14 + t) + k) → 0 ≤ (μ53c 121 (((14 + t) + 1) + k)) ∧ (μ53c 121 (((14 + t) + 1) + k)) ≤ 7); omega)
    have hk75c_121_0 : μ75c 121 0 = μ53c 121 0 := by rw [hm75c]; exact xbr_j (by omega)
    refine r_aload_n hL (x := 120) dX8_take_78 rfl ?_
    refine r_getr hL xcl8 0 (by decide) s_120 (by decide) fl_X8_7 (by decide) f_120_0 dX8_take_79 ?_
    refine r_bipush hL dX8_take_82 (by decide) ?_
    refine r_bipush hL dX8_take_84 (by decide) ?_
    refine r_iload_n hL (x := t) dX8_take_86 rfl ?_
    refine r_iconst hL dX8_take_87 ?_
    refine r_iadd hL dX8_take_88 ?_
    refine r_imul hL dX8_take_89 ?_
    refine r_iadd hL dX8_take_90 ?_
    refine r_aload_n hL (x := 120) dX8_take_91 rfl ?_
    refine r_getr hL xcl8 0 (by decide) s_120 (by decide) fl_X8_7 (by decide) f_120_0 dX8_take_92 ?_
    refine r_bipush hL dX8_take_95 (by decide) ?_
    refine r_bipush hL dX8_take_97 (by decide) ?_
    refine r_iload_n hL (x := t) dX8_take_99 rfl ?_
    refine r_imul hL dX8_take_100 ?_
    refine r_iadd hL dX8_take_101 ?_
    refine r_bipush hL dX8_take_102 (by decide) ?_
    refine r_iload_n hL (x := z30 - t) dX8_take_104 rfl ?_
    refine r_imul hL dX8_take_105 ?_
    refine r_callS hL (st := []) (av := [xR 121, xI (30 + (10 * (t + 1))), xR 121, xI (30 + (10 * t)), xI (10 * (z30 - t))]) (m_X8_bring (μ := μ75c) 121 110 (by decide) s_121 (by decide) (30 + (10 * (t + 1))) 121 110 (by decide) s_121 (by decide) (30 + (10 * t)) (10 * (z30 - t)) (by omega) (by omega) (fun _ => by omega) (fun μ106c hm106c => ⟨rfl, ?_⟩)) ce_yX8_bring sm_yX8_bring ml_X8_73 dX8_take_106 rfl (Nat.le_of_ble_eq_true rfl) ⟨Nat.le_of_ble_eq_true rfl, Nat.le_of_ble_eq_true rfl⟩ ⟨Nat.le_of_ble_eq_true rfl, Nat.le_of_ble_eq_true rfl⟩
    show X 0 0 WW μ106c 109 [some (xR 120), some (xI t), some (xI (z30 - t))] []
    have hB106c : BI μ106c := by rw [hm106c]; exact hB75c.br (fun k hk0 hk1 => by have hq : (((30 + (10 * (t + 1))) + k) = 0 → 0 ≤ (μ75c 121 ((30 + (10 * (t + 1))) + k)) ∧ (μ75c 121 ((30 + (10 * (t + 1))) + k)) ≤ 8) ∧ (((30 + (10 * (t + 1))) + k) = 1 → 0 ≤ (μ75c 121 ((30 + (10 * (t + 1))) + k)) ∧ (μ75c 121 ((30 + (10 * (t + 1))) + k)) ≤ 2) ∧ (2 ≤ ((30 + (10 * (t + 1))) + k) ∧ ((30 + (10 * (t + 1))) + k) ≤ 5 → 0 ≤ (μ75c 121 ((30 + (10 * (t + 1))) + k)) ∧ (μ75c 121 ((30 + (10 * (t + 1))) + k)) ≤ 9) ∧ (6 ≤ ((30 + (10 * (t + 1))) + k) ∧ ((30 + (10 * (t + 1))) + k) ≤ 13 → 0 ≤ (μ75c 121 ((30 + (10 * (t + 1))) + k)) ∧ (μ75c 121 ((30 + (10 * (t + 1))) + k)) ≤ 10) ∧ (30 ≤ ((30 + (10 * (t + 1))) + k) → 0 ≤ (μ75c 121 ((30 + (10 * (t + 1))) + k)) ∧ (μ75c 121 ((30 + (10 * (t + 1))) + k)) ≤ 7) := hB75c 121 _; have h1 := hq.2.2.2.2 (by omega); clear hq; show (((30 + (10 * t)) + k) = 0 → 0 ≤ (μ75c 121 ((30 + (10 * (t + 1))) + k)) ∧ (μ75c 121 ((30 + (10 * (t + 1))) + k)) ≤ 8) ∧ (((30 + (10 * t)) + k) = 1 → 0 ≤ (μ75c 121 ((30 + (10 * (t + 1))) + k)) ∧ (μ75c 121 ((30 + (10 * (t + 1))) + k)) ≤ 2) ∧ (2 ≤ ((30 + (10 * t)) + k) ∧ ((30 + (10 * t)) + k) ≤ 5 → 0 ≤ (μ75c 121 ((30 + (10 * (t + 1))) + k)) ∧ (μ75c 121 ((30 + (10 * (t + 1))) + k)) ≤ 9) ∧ (6 ≤ ((30 + (10 * t)) + k) ∧ ((30 + (10 * t)) + k) ≤ 13 → 0 ≤ (μ75c 121 ((30 + (10 * (t + 1))) + k)) ∧ (μ75c 121 ((30 + (10 * (t + 1))) + k)) ≤ 10) ∧ (30 ≤ ((30 + (10 * t)) + k) → 0 ≤ (μ75c 121 ((30 + (10 * (t + 1))) + k)) ∧ (μ75c 121 ((30 + (10 * (t + 1))) + k)) ≤ 7); omega)
    have hk106c_121_0 : μ106c 121 0 = μ75c 121 0 := by rw [hm106c]; exact xbr_j (by omega)
    refine r_aload_n hL (x := 120) dX8_take_109 rfl ?_
    refine r_getr hL xcl8 0 (by decide) s_120 (by decide) fl_X8_7 (by decide) f_120_0 dX8_take_110 ?_
    refine r_iconst hL dX8_take_113 ?_
    refine r_iald hL dX8_take_114 (by decide) s_121 (by decide) (by omega) (by omega) (fun hr114 => ?_)
    obtain ⟨z114, hz114⟩ : ∃ z, z = μ106c 121 0 := ⟨_, rfl⟩
    rw [← hz114] at hr114 ⊢
    have hb114 : 0 ≤ μ106c 121 0 ∧ μ106c 121 0 ≤ 8 := (show ((0 : Int) = 0 → 0 ≤ (μ106c 121 0) ∧ (μ106c 121 0) ≤ 8) ∧ ((0 : Int) = 1 → 0 ≤ (μ106c 121 0) ∧ (μ106c 121 0) ≤ 2) ∧ (2 ≤ (0 : Int) ∧ (0 : Int) ≤ 5 → 0 ≤ (μ106c 121 0) ∧ (μ106c 121 0) ≤ 9) ∧ (6 ≤ (0 : Int) ∧ (0 : Int) ≤ 13 → 0 ≤ (μ106c 121 0) ∧ (μ106c 121 0) ≤ 10) ∧ (30 ≤ (0 : Int) → 0 ≤ (μ106c 121 0) ∧ (μ106c 121 0) ≤ 7) from hB106c 121 0).1 (by omega)
    exact r_iret hL dX8_take_115 rfl (hK _ _ hB106c (by omega))
  · skip
    refine r_ldc hL (n := -1000000001) dX8_take_8 kc_X8_183 (by decide) ?_
    exact r_iret hL dX8_take_10 rfl (hK _ _ hB (by omega))

set_option maxHeartbeats 4000000 in
set_option maxRecDepth 20000 in
theorem m_X8_cost {K : Option xV → xW → xM → Prop} {μ : xM} (hB0 : BI μ) (t : Int) (ht : xrg t) (u : Int) (hu : xrg u) (hK : ∀ r μ', BI μ' → xrg r → K (some (xI r)) WW μ') : xMet yX8_cost cX8_cost 4 (some .int) 2 45 0 0 [xR 120, xI t, xI u] WW μ K := by
  refine xMet.go RX8 "cost" rfl rfl (by decide) [some (xR 120), some (xI t), some (xI u), none] (Nat.le_of_ble_eq_true rfl) rfl (fun X hL => ?_)
  have hB := hB0
  refine r_iload_n hL (x := t) dX8_cost_0 rfl ?_
  refine r_iconst hL dX8_cost_1 ?_
  refine r_iconst hL dX8_cost_2 ?_
  refine r_callS hL (st := []) (av := [xI t, xI 0, xI 3]) (m_X8_in (μ := μ) t (by omega) 0 (by omega) 3 (by omega) (fun z3 hc3 => ⟨rfl, ?_⟩)) ce_yX8_in sm_yX8_in ml_X8_62 dX8_cost_3 rfl (Nat.le_of_ble_eq_true rfl) ⟨Nat.le_of_ble_eq_true rfl, Nat.le_of_ble_eq_true rfl⟩ ⟨Nat.le_of_ble_eq_true rfl, Nat.le_of_ble_eq_true rfl⟩
  show X 0 0 WW μ 6 [some (xR 120), some (xI t), some (xI u), none] [xI z3]
  refine r_if_eq hL (tgt := 28) dX8_cost_6 (by decide) (by omega) (fun c6 => ?_) (fun c6 => ?_)
  · skip
    refine r_ldc hL (n := -1000000002) dX8_cost_28 kc_X8_159 (by decide) ?_
    exact r_iret hL dX8_cost_30 rfl (hK _ _ hB (by omega))
  · skip
    refine r_iload_n hL (x := u) dX8_cost_9 rfl ?_
    refine r_iload_n hL (x := t) dX8_cost_10 rfl ?_
    refine r_iconst hL dX8_cost_11 ?_
    refine r_icmp_ne hL (tgt := 19) dX8_cost_12 (by decide) (by omega) (by omega) (fun c12 => ?_) (fun c12 => ?_)
    · skip
      refine r_iconst hL dX8_cost_19 ?_
      refine r_bipush hL dX8_cost_20 (by decide) ?_
      refine r_callS hL (st := []) (av := [xI u, xI 1, xI 9]) (m_X8_in (μ := μ) u (by omega) 1 (by omega) 9 (by omega) (fun z22 hc22 => ⟨rfl, ?_⟩)) ce_yX8_in sm_yX8_in ml_X8_62 dX8_cost_22 rfl (Nat.le_of_ble_eq_true rfl) ⟨Nat.le_of_ble_eq_true rfl, Nat.le_of_ble_eq_true rfl⟩ ⟨Nat.le_of_ble_eq_true rfl, Nat.le_of_ble_eq_true rfl⟩
      show X 0 0 WW μ 25 [some (xR 120), some (xI t), some (xI u), none] [xI z22]
      refine r_if_ne hL (tgt := 31) dX8_cost_25 (by decide) (by omega) (fun c25 => ?_) (fun c25 => ?_)
      · skip
        refine r_aload_n hL (x := 120) dX8_cost_31 rfl ?_
        refine r_getr hL xcl8 0 (by decide) s_120 (by decide) fl_X8_7 (by decide) f_120_0 dX8_cost_32 ?_
        refine r_iconst hL dX8_cost_35 ?_
        refine r_iload_n hL (x := t) dX8_cost_36 rfl ?_
        refine r_iadd hL dX8_cost_37 ?_
        refine r_iald hL dX8_cost_38 (by decide) s_121 (by decide) (by omega) (by omega) (fun hr38 => ?_)
        obtain ⟨z38, hz38⟩ : ∃ z, z = μ 121 (2 + t) := ⟨_, rfl⟩
        rw [← hz38] at hr38 ⊢
        have hb38 : 0 ≤ μ 121 (2 + t) ∧ μ 121 (2 + t) ≤ 9 := (show ((2 + t) = 0 → 0 ≤ (μ 121 (2 + t)) ∧ (μ 121 (2 + t)) ≤ 8) ∧ ((2 + t) = 1 → 0 ≤ (μ 121 (2 + t)) ∧ (μ 121 (2 + t)) ≤ 2) ∧ (2 ≤ (2 + t) ∧ (2 + t) ≤ 5 → 0 ≤ (μ 121 (2 + t)) ∧ (μ 121 (2 + t)) ≤ 9) ∧ (6 ≤ (2 + t) ∧ (2 + t) ≤ 13 → 0 ≤ (μ 121 (2 + t)) ∧ (μ 121 (2 + t)) ≤ 10) ∧ (30 ≤ (2 + t) → 0 ≤ (μ 121 (2 + t)) ∧ (μ 121 (2 + t)) ≤ 7) from hB 121 (2 + t)).2.2.1 (by omega)
        refine r_istore_n hL (lo' := [some (xR 120), some (xI t), some (xI u), some (xI z38)]) dX8_cost_39 (by decide) rfl ?_
        refine r_aload_n hL (x := 120) dX8_cost_40 rfl ?_
        refine r_callV hL (st := []) (av := []) (k := 120) (m_X8_notes (μ := μ) hB  (fun μ41c hB41c hG41 => ⟨rfl, ?_⟩)) ce_yX8_notes im_yX8_notes se_yX8_notes ml_X8_165 xcl8 (by decide) s_120 dX8_cost_41 rfl (Nat.le_of_ble_eq_true rfl) ⟨Nat.le_of_ble_eq_true rfl, Nat.le_of_ble_eq_true rfl⟩ ⟨Nat.le_of_ble_eq_true rfl, Nat.le_of_ble_eq_true rfl⟩
        show X 0 0 WW μ41c 44 [some (xR 120), some (xI t), some (xI u), some (xI z38)] []
        refine r_aload_n hL (x := 120) dX8_cost_44 rfl ?_
        refine r_getr hL xcl8 0 (by decide) s_120 (by decide) fl_X8_7 (by decide) f_120_0 dX8_cost_45 ?_
        refine r_iconst hL dX8_cost_48 ?_
        refine r_iload_n hL (x := t) dX8_cost_49 rfl ?_
        refine r_iadd hL dX8_cost_50 ?_
        refine r_iload_n hL (x := u) dX8_cost_51 rfl ?_
        refine r_iast hL dX8_cost_52 (by decide) s_121 (by decide) (by omega) (by omega) (by omega) (fun μ1 hm1 => ?_)
        have hB1 : BI μ1 := by rw [hm1]; exact hB41c.up (by show ((2 + t) = 0 → 0 ≤ u ∧ u ≤ 8) ∧ ((2 + t) = 1 → 0 ≤ u ∧ u ≤ 2) ∧ (2 ≤ (2 + t) ∧ (2 + t) ≤ 5 → 0 ≤ u ∧ u ≤ 9) ∧ (6 ≤ (2 + t) ∧ (2 + t) ≤ 13 → 0 ≤ u ∧ u ≤ 10) ∧ (30 ≤ (2 + t) → 0 ≤ u ∧ u ≤ 7); omega)
        refine r_iload_n hL (x := z38) dX8_cost_53 rfl ?_
        exact r_iret hL dX8_cost_54 rfl (hK _ _ hB1 (by omega))
      · skip
        refine r_ldc hL (n := -1000000002) dX8_cost_28 kc_X8_159 (by decide) ?_
        exact r_iret hL dX8_cost_30 rfl (hK _ _ hB (by omega))
    · skip
      refine r_iconst hL dX8_cost_15 ?_
      refine r_goto hL (tgt := 20) dX8_cost_16 (by decide) ?_
      refine r_bipush hL dX8_cost_20 (by decide) ?_
      refine r_callS hL (st := []) (av := [xI u, xI 0, xI 9]) (m_X8_in (μ := μ) u (by omega) 0 (by omega) 9 (by omega) (fun z22 hc22 => ⟨rfl, ?_⟩)) ce_yX8_in sm_yX8_in ml_X8_62 dX8_cost_22 rfl (Nat.le_of_ble_eq_true rfl) ⟨Nat.le_of_ble_eq_true rfl, Nat.le_of_ble_eq_true rfl⟩ ⟨Nat.le_of_ble_eq_true rfl, Nat.le_of_ble_eq_true rfl⟩
      show X 0 0 WW μ 25 [some (xR 120), some (xI t), some (xI u), none] [xI z22]
      refine r_if_ne hL (tgt := 31) dX8_cost_25 (by decide) (by omega) (fun c25 => ?_) (fun c25 => ?_)
      · skip
        refine r_aload_n hL (x := 120) dX8_cost_31 rfl ?_
        refine r_getr hL xcl8 0 (by decide) s_120 (by decide) fl_X8_7 (by decide) f_120_0 dX8_cost_32 ?_
        refine r_iconst hL dX8_cost_35 ?_
        refine r_iload_n hL (x := t) dX8_cost_36 rfl ?_
        refine r_iadd hL dX8_cost_37 ?_
        refine r_iald hL dX8_cost_38 (by decide) s_121 (by decide) (by omega) (by omega) (fun hr38 => ?_)
        obtain ⟨z38, hz38⟩ : ∃ z, z = μ 121 (2 + t) := ⟨_, rfl⟩
        rw [← hz38] at hr38 ⊢
        have hb38 : 0 ≤ μ 121 (2 + t) ∧ μ 121 (2 + t) ≤ 9 := (show ((2 + t) = 0 → 0 ≤ (μ 121 (2 + t)) ∧ (μ 121 (2 + t)) ≤ 8) ∧ ((2 + t) = 1 → 0 ≤ (μ 121 (2 + t)) ∧ (μ 121 (2 + t)) ≤ 2) ∧ (2 ≤ (2 + t) ∧ (2 + t) ≤ 5 → 0 ≤ (μ 121 (2 + t)) ∧ (μ 121 (2 + t)) ≤ 9) ∧ (6 ≤ (2 + t) ∧ (2 + t) ≤ 13 → 0 ≤ (μ 121 (2 + t)) ∧ (μ 121 (2 + t)) ≤ 10) ∧ (30 ≤ (2 + t) → 0 ≤ (μ 121 (2 + t)) ∧ (μ 121 (2 + t)) ≤ 7) from hB 121 (2 + t)).2.2.1 (by omega)
        refine r_istore_n hL (lo' := [some (xR 120), some (xI t), some (xI u), some (xI z38)]) dX8_cost_39 (by decide) rfl ?_
        refine r_aload_n hL (x := 120) dX8_cost_40 rfl ?_
        refine r_callV hL (st := []) (av := []) (k := 120) (m_X8_notes (μ := μ) hB  (fun μ41c hB41c hG41 => ⟨rfl, ?_⟩)) ce_yX8_notes im_yX8_notes se_yX8_notes ml_X8_165 xcl8 (by decide) s_120 dX8_cost_41 rfl (Nat.le_of_ble_eq_true rfl) ⟨Nat.le_of_ble_eq_true rfl, Nat.le_of_ble_eq_true rfl⟩ ⟨Nat.le_of_ble_eq_true rfl, Nat.le_of_ble_eq_true rfl⟩
        show X 0 0 WW μ41c 44 [some (xR 120), some (xI t), some (xI u), some (xI z38)] []
        refine r_aload_n hL (x := 120) dX8_cost_44 rfl ?_
        refine r_getr hL xcl8 0 (by decide) s_120 (by decide) fl_X8_7 (by decide) f_120_0 dX8_cost_45 ?_
        refine r_iconst hL dX8_cost_48 ?_
        refine r_iload_n hL (x := t) dX8_cost_49 rfl ?_
        refine r_iadd hL dX8_cost_50 ?_
        refine r_iload_n hL (x := u) dX8_cost_51 rfl ?_
        refine r_iast hL dX8_cost_52 (by decide) s_121 (by decide) (by omega) (by omega) (by omega) (fun μ2 hm2 => ?_)
        have hB2 : BI μ2 := by rw [hm2]; exact hB41c.up (by show ((2 + t) = 0 → 0 ≤ u ∧ u ≤ 8) ∧ ((2 + t) = 1 → 0 ≤ u ∧ u ≤ 2) ∧ (2 ≤ (2 + t) ∧ (2 + t) ≤ 5 → 0 ≤ u ∧ u ≤ 9) ∧ (6 ≤ (2 + t) ∧ (2 + t) ≤ 13 → 0 ≤ u ∧ u ≤ 10) ∧ (30 ≤ (2 + t) → 0 ≤ u ∧ u ≤ 7); omega)
        refine r_iload_n hL (x := z38) dX8_cost_53 rfl ?_
        exact r_iret hL dX8_cost_54 rfl (hK _ _ hB2 (by omega))
      · skip
        refine r_ldc hL (n := -1000000002) dX8_cost_28 kc_X8_159 (by decide) ?_
        exact r_iret hL dX8_cost_30 rfl (hK _ _ hB (by omega))

set_option maxHeartbeats 4000000 in
set_option maxRecDepth 20000 in
theorem m_X8_kind {K : Option xV → xW → xM → Prop} {μ : xM} (hB0 : BI μ) (t : Int) (ht : xrg t) (hK : ∀ r μ', BI μ' → xrg r → K (some (xI r)) WW μ') : xMet yX8_kind cX8_kind 3 (some .int) 2 45 0 0 [xR 120, xI t] WW μ K := by
  refine xMet.go RX8 "kind" rfl rfl (by decide) [some (xR 120), some (xI t), none] (Nat.le_of_ble_eq_true rfl) rfl (fun X hL => ?_)
  have hB := hB0
  refine r_iload_n hL (x := t) dX8_kind_0 rfl ?_
  refine r_iconst hL dX8_kind_1 ?_
  refine r_iconst hL dX8_kind_2 ?_
  refine r_callS hL (st := []) (av := [xI t, xI 0, xI 2]) (m_X8_in (μ := μ) t (by omega) 0 (by omega) 2 (by omega) (fun z3 hc3 => ⟨rfl, ?_⟩)) ce_yX8_in sm_yX8_in ml_X8_62 dX8_kind_3 rfl (Nat.le_of_ble_eq_true rfl) ⟨Nat.le_of_ble_eq_true rfl, Nat.le_of_ble_eq_true rfl⟩ ⟨Nat.le_of_ble_eq_true rfl, Nat.le_of_ble_eq_true rfl⟩
  show X 0 0 WW μ 6 [some (xR 120), some (xI t), none] [xI z3]
  refine r_if_ne hL (tgt := 12) dX8_kind_6 (by decide) (by omega) (fun c6 => ?_) (fun c6 => ?_)
  · skip
    refine r_aload_n hL (x := 120) dX8_kind_12 rfl ?_
    refine r_getr hL xcl8 0 (by decide) s_120 (by decide) fl_X8_7 (by decide) f_120_0 dX8_kind_13 ?_
    refine r_iconst hL dX8_kind_16 ?_
    refine r_iald hL dX8_kind_17 (by decide) s_121 (by decide) (by omega) (by omega) (fun hr17 => ?_)
    obtain ⟨z17, hz17⟩ : ∃ z, z = μ 121 1 := ⟨_, rfl⟩
    rw [← hz17] at hr17 ⊢
    have hb17 : 0 ≤ μ 121 1 ∧ μ 121 1 ≤ 2 := (show ((1 : Int) = 0 → 0 ≤ (μ 121 1) ∧ (μ 121 1) ≤ 8) ∧ ((1 : Int) = 1 → 0 ≤ (μ 121 1) ∧ (μ 121 1) ≤ 2) ∧ (2 ≤ (1 : Int) ∧ (1 : Int) ≤ 5 → 0 ≤ (μ 121 1) ∧ (μ 121 1) ≤ 9) ∧ (6 ≤ (1 : Int) ∧ (1 : Int) ≤ 13 → 0 ≤ (μ 121 1) ∧ (μ 121 1) ≤ 10) ∧ (30 ≤ (1 : Int) → 0 ≤ (μ 121 1) ∧ (μ 121 1) ≤ 7) from hB 121 1).2.1 (by omega)
    refine r_istore_n hL (lo' := [some (xR 120), some (xI t), some (xI z17)]) dX8_kind_18 (by decide) rfl ?_
    refine r_aload_n hL (x := 120) dX8_kind_19 rfl ?_
    refine r_callV hL (st := []) (av := []) (k := 120) (m_X8_notes (μ := μ) hB  (fun μ20c hB20c hG20 => ⟨rfl, ?_⟩)) ce_yX8_notes im_yX8_notes se_yX8_notes ml_X8_165 xcl8 (by decide) s_120 dX8_kind_20 rfl (Nat.le_of_ble_eq_true rfl) ⟨Nat.le_of_ble_eq_true rfl, Nat.le_of_ble_eq_true rfl⟩ ⟨Nat.le_of_ble_eq_true rfl, Nat.le_of_ble_eq_true rfl⟩
    show X 0 0 WW μ20c 23 [some (xR 120), some (xI t), some (xI z17)] []
    refine r_aload_n hL (x := 120) dX8_kind_23 rfl ?_
    refine r_getr hL xcl8 0 (by decide) s_120 (by decide) fl_X8_7 (by decide) f_120_0 dX8_kind_24 ?_
    refine r_iconst hL dX8_kind_27 ?_
    refine r_iload_n hL (x := t) dX8_kind_28 rfl ?_
    refine r_iast hL dX8_kind_29 (by decide) s_121 (by decide) (by omega) (by omega) (by omega) (fun μ1 hm1 => ?_)
    have hB1 : BI μ1 := by rw [hm1]; exact hB20c.up (by show ((1 : Int) = 0 → 0 ≤ t ∧ t ≤ 8) ∧ ((1 : Int) = 1 → 0 ≤ t ∧ t ≤ 2) ∧ (2 ≤ (1 : Int) ∧ (1 : Int) ≤ 5 → 0 ≤ t ∧ t ≤ 9) ∧ (6 ≤ (1 : Int) ∧ (1 : Int) ≤ 13 → 0 ≤ t ∧ t ≤ 10) ∧ (30 ≤ (1 : Int) → 0 ≤ t ∧ t ≤ 7); omega)
    refine r_iload_n hL (x := z17) dX8_kind_30 rfl ?_
    exact r_iret hL dX8_kind_31 rfl (hK _ _ hB1 (by omega))
  · skip
    refine r_ldc hL (n := -1000000002) dX8_kind_9 kc_X8_159 (by decide) ?_
    exact r_iret hL dX8_kind_11 rfl (hK _ _ hB (by omega))

set_option maxHeartbeats 4000000 in
set_option maxRecDepth 20000 in
theorem m_X8_road {K : Option xV → xW → xM → Prop} {μ : xM} (hB0 : BI μ) (t : Int) (ht : xrg t) (u : Int) (hu : xrg u) (v : Int) (hv : xrg v) (hK : ∀ r μ', BI μ' → xrg r → K (some (xI r)) WW μ') : xMet yX8_road cX8_road 6 (some .int) 2 45 0 0 [xR 120, xI t, xI u, xI v] WW μ K := by
  refine xMet.go RX8 "road" rfl rfl (by decide) [some (xR 120), some (xI t), some (xI u), some (xI v), none, none] (Nat.le_of_ble_eq_true rfl) rfl (fun X hL => ?_)
  have hB := hB0
  refine r_iload_n hL (x := t) dX8_road_0 rfl ?_
  refine r_callS hL (st := []) (av := [xI t]) (m_X8_isPlace (μ := μ) t (by omega) (fun z1 hc1 => ⟨rfl, ?_⟩)) ce_yX8_isPlace sm_yX8_isPlace ml_X8_202 dX8_road_1 rfl (Nat.le_of_ble_eq_true rfl) ⟨Nat.le_of_ble_eq_true rfl, Nat.le_of_ble_eq_true rfl⟩ ⟨Nat.le_of_ble_eq_true rfl, Nat.le_of_ble_eq_true rfl⟩
  show X 0 0 WW μ 4 [some (xR 120), some (xI t), some (xI u), some (xI v), none, none] [xI z1]
  refine r_if_eq hL (tgt := 19) dX8_road_4 (by decide) (by omega) (fun c4 => ?_) (fun c4 => ?_)
  · skip
    refine r_ldc hL (n := -1000000001) dX8_road_19 kc_X8_183 (by decide) ?_
    exact r_iret hL dX8_road_21 rfl (hK _ _ hB (by omega))
  · skip
    refine r_iload_n hL (x := u) dX8_road_7 rfl ?_
    refine r_callS hL (st := []) (av := [xI u]) (m_X8_isPlace (μ := μ) u (by omega) (fun z8 hc8 => ⟨rfl, ?_⟩)) ce_yX8_isPlace sm_yX8_isPlace ml_X8_202 dX8_road_8 rfl (Nat.le_of_ble_eq_true rfl) ⟨Nat.le_of_ble_eq_true rfl, Nat.le_of_ble_eq_true rfl⟩ ⟨Nat.le_of_ble_eq_true rfl, Nat.le_of_ble_eq_true rfl⟩
    show X 0 0 WW μ 11 [some (xR 120), some (xI t), some (xI u), some (xI v), none, none] [xI z8]
    refine r_if_eq hL (tgt := 19) dX8_road_11 (by decide) (by omega) (fun c11 => ?_) (fun c11 => ?_)
    · skip
      refine r_ldc hL (n := -1000000001) dX8_road_19 kc_X8_183 (by decide) ?_
      exact r_iret hL dX8_road_21 rfl (hK _ _ hB (by omega))
    · skip
      refine r_iload_n hL (x := t) dX8_road_14 rfl ?_
      refine r_iload_n hL (x := u) dX8_road_15 rfl ?_
      refine r_icmp_ne hL (tgt := 22) dX8_road_16 (by decide) (by omega) (by omega) (fun c16 => ?_) (fun c16 => ?_)
      · skip
        refine r_aload_n hL (x := 120) dX8_road_22 rfl ?_
        refine r_callV hL (st := []) (av := []) (k := 120) (m_X8_notes (μ := μ) hB  (fun μ23c hB23c hG23 => ⟨rfl, ?_⟩)) ce_yX8_notes im_yX8_notes se_yX8_notes ml_X8_165 xcl8 (by decide) s_120 dX8_road_23 rfl (Nat.le_of_ble_eq_true rfl) ⟨Nat.le_of_ble_eq_true rfl, Nat.le_of_ble_eq_true rfl⟩ ⟨Nat.le_of_ble_eq_true rfl, Nat.le_of_ble_eq_true rfl⟩
        show X 0 0 WW μ23c 26 [some (xR 120), some (xI t), some (xI u), some (xI v), none, none] []
        refine r_aload_n hL (x := 120) dX8_road_26 rfl ?_
        refine r_getr hL xcl8 0 (by decide) s_120 (by decide) fl_X8_7 (by decide) f_120_0 dX8_road_27 ?_
        refine r_bipush hL dX8_road_30 (by decide) ?_
        refine r_iload_n hL (x := t) dX8_road_32 rfl ?_
        refine r_iadd hL dX8_road_33 ?_
        refine r_iload_n hL (x := v) dX8_road_34 rfl ?_
        refine r_if_eq hL (tgt := 54) dX8_road_35 (by decide) (by omega) (fun c35 => ?_) (fun c35 => ?_)
        · skip
          refine r_aload_n hL (x := 120) dX8_road_54 rfl ?_
          refine r_getr hL xcl8 0 (by decide) s_120 (by decide) fl_X8_7 (by decide) f_120_0 dX8_road_55 ?_
          refine r_bipush hL dX8_road_58 (by decide) ?_
          refine r_iload_n hL (x := t) dX8_road_60 rfl ?_
          refine r_iadd hL dX8_road_61 ?_
          refine r_iald hL dX8_road_62 (by decide) s_121 (by decide) (by omega) (by omega) (fun hr62 => ?_)
          obtain ⟨z62, hz62⟩ : ∃ z, z = μ23c 121 (22 + t) := ⟨_, rfl⟩
          rw [← hz62] at hr62 ⊢
          refine r_iconst hL dX8_road_63 ?_
          refine r_iload_n hL (x := u) dX8_road_64 rfl ?_
          refine r_ishl hL dX8_road_65 ?_
          obtain ⟨z65, hz65⟩ : ∃ z, z = xshl 1 u := ⟨_, rfl⟩
          rw [← hz65]
          have hr65 : xrg z65 := by rw [hz65]; exact xshl_rg _ _
          refine r_iconst hL dX8_road_66 ?_
          refine r_ixor hL dX8_road_67 ?_
          obtain ⟨z67, hz67⟩ : ∃ z, z = xxor z65 (-1) := ⟨_, rfl⟩
          rw [← hz67]
          have hr67 : xrg z67 := by rw [hz67]; exact xxor_rg _ _
          refine r_iand hL dX8_road_68 ?_
          obtain ⟨z68, hz68⟩ : ∃ z, z = xand z62 z67 := ⟨_, rfl⟩
          rw [← hz68]
          have hr68 : xrg z68 := by rw [hz68]; exact xand_rg _ _
          refine r_iast hL dX8_road_69 (by decide) s_121 (by decide) (by omega) (by omega) (by omega) (fun μ1 hm1 => ?_)
          have hB1 : BI μ1 := by rw [hm1]; exact hB23c.up (by show ((22 + t) = 0 → 0 ≤ z68 ∧ z68 ≤ 8) ∧ ((22 + t) = 1 → 0 ≤ z68 ∧ z68 ≤ 2) ∧ (2 ≤ (22 + t) ∧ (22 + t) ≤ 5 → 0 ≤ z68 ∧ z68 ≤ 9) ∧ (6 ≤ (22 + t) ∧ (22 + t) ≤ 13 → 0 ≤ z68 ∧ z68 ≤ 10) ∧ (30 ≤ (22 + t) → 0 ≤ z68 ∧ z68 ≤ 7); omega)
          refine r_aload_n hL (x := 120) dX8_road_70 rfl ?_
          refine r_getr hL xcl8 0 (by decide) s_120 (by decide) fl_X8_7 (by decide) f_120_0 dX8_road_71 ?_
          refine r_bipush hL dX8_road_74 (by decide) ?_
          refine r_iload_n hL (x := u) dX8_road_76 rfl ?_
          refine r_iadd hL dX8_road_77 ?_
          refine r_iload_n hL (x := v) dX8_road_78 rfl ?_
          refine r_if_eq hL (tgt := 98) dX8_road_79 (by decide) (by omega) (fun c79 => ?_) (fun c79 => ?_)
          · skip
            refine r_aload_n hL (x := 120) dX8_road_98 rfl ?_
            refine r_getr hL xcl8 0 (by decide) s_120 (by decide) fl_X8_7 (by decide) f_120_0 dX8_road_99 ?_
            refine r_bipush hL dX8_road_102 (by decide) ?_
            refine r_iload_n hL (x := u) dX8_road_104 rfl ?_
            refine r_iadd hL dX8_road_105 ?_
            refine r_iald hL dX8_road_106 (by decide) s_121 (by decide) (by omega) (by omega) (fun hr106 => ?_)
            obtain ⟨z106, hz106⟩ : ∃ z, z = μ1 121 (22 + u) := ⟨_, rfl⟩
            rw [← hz106] at hr106 ⊢
            refine r_iconst hL dX8_road_107 ?_
            refine r_iload_n hL (x := t) dX8_road_108 rfl ?_
            refine r_ishl hL dX8_road_109 ?_
            obtain ⟨z109, hz109⟩ : ∃ z, z = xshl 1 t := ⟨_, rfl⟩
            rw [← hz109]
            have hr109 : xrg z109 := by rw [hz109]; exact xshl_rg _ _
            refine r_iconst hL dX8_road_110 ?_
            refine r_ixor hL dX8_road_111 ?_
            obtain ⟨z111, hz111⟩ : ∃ z, z = xxor z109 (-1) := ⟨_, rfl⟩
            rw [← hz111]
            have hr111 : xrg z111 := by rw [hz111]; exact xxor_rg _ _
            refine r_iand hL dX8_road_112 ?_
            obtain ⟨z112, hz112⟩ : ∃ z, z = xand z106 z111 := ⟨_, rfl⟩
            rw [← hz112]
            have hr112 : xrg z112 := by rw [hz112]; exact xand_rg _ _
            refine r_iast hL dX8_road_113 (by decide) s_121 (by decide) (by omega) (by omega) (by omega) (fun μ2 hm2 => ?_)
            have hB2 : BI μ2 := by rw [hm2]; exact hB1.up (by show ((22 + u) = 0 → 0 ≤ z112 ∧ z112 ≤ 8) ∧ ((22 + u) = 1 → 0 ≤ z112 ∧ z112 ≤ 2) ∧ (2 ≤ (22 + u) ∧ (22 + u) ≤ 5 → 0 ≤ z112 ∧ z112 ≤ 9) ∧ (6 ≤ (22 + u) ∧ (22 + u) ≤ 13 → 0 ≤ z112 ∧ z112 ≤ 10) ∧ (30 ≤ (22 + u) → 0 ≤ z112 ∧ z112 ≤ 7); omega)
            refine r_iconst hL dX8_road_114 ?_
            refine r_istore hL (lo' := [some (xR 120), some (xI t), some (xI u), some (xI v), some (xI 0), none]) dX8_road_115 (by decide) rfl ?_
            refine r_iconst hL dX8_road_117 ?_
            refine r_istore hL (lo' := [some (xR 120), some (xI t), some (xI u), some (xI v), some (xI 0), some (xI 0)]) dX8_road_118 (by decide) rfl ?_
            have lp120 : ∀ (n120 : Nat) (n : Int) (k : Int), (0 ≤ n ∧ n ≤ 8 * k) → (0 ≤ k ∧ k ≤ 8) → ((8 - k).toNat) < n120 → X 0 0 WW μ2 120 [some (xR 120), some (xI t), some (xI u), some (xI v), some (xI n), some (xI k)] [] := by
              intro n120
              induction n120 with
              | zero => intro n k h1 h2 hn; exact absurd hn (Nat.not_lt_zero _)
              | succ n120 ih120 =>
                intro n k h1 h2 hn120
                refine r_iload hL (x := k) dX8_road_120 rfl ?_
                refine r_bipush hL dX8_road_122 (by decide) ?_
                refine r_icmp_ge hL (tgt := 151) dX8_road_124 (by decide) (by omega) (by omega) (fun c124 => ?_) (fun c124 => ?_)
                · skip
                  refine r_iload hL (x := n) dX8_road_151 rfl ?_
                  refine r_iconst hL dX8_road_153 ?_
                  refine r_idiv hL dX8_road_154 (by omega) (by omega) ?_
                  obtain ⟨z154, hz154⟩ : ∃ z, z = xdiv n 2 := ⟨_, rfl⟩
                  rw [← hz154]
                  have hr154 : xrg z154 := by rw [hz154]; exact xdiv_rg _ _
                  have hq154 := xdiv_nn (x := n) (y := 2) (by omega) (by omega) (by omega) (by omega)
                  rw [← hz154] at hq154
                  exact r_iret hL dX8_road_155 rfl (hK _ _ hB2 (by omega))
                · skip
                  refine r_iload hL (x := n) dX8_road_127 rfl ?_
                  refine r_aload_n hL (x := 120) dX8_road_129 rfl ?_
                  refine r_getr hL xcl8 0 (by decide) s_120 (by decide) fl_X8_7 (by decide) f_120_0 dX8_road_130 ?_
                  refine r_bipush hL dX8_road_133 (by decide) ?_
                  refine r_iload hL (x := k) dX8_road_135 rfl ?_
                  refine r_iadd hL dX8_road_137 ?_
                  refine r_iald hL dX8_road_138 (by decide) s_121 (by decide) (by omega) (by omega) (fun hr138 => ?_)
                  obtain ⟨z138, hz138⟩ : ∃ z, z = μ2 121 (22 + k) := ⟨_, rfl⟩
                  rw [← hz138] at hr138 ⊢
                  refine r_callS hL (st := [xI n]) (av := [xI z138]) (m_X8_ones (μ := μ2) z138 (fun z139 hc139 hc139_1 => ⟨rfl, ?_⟩)) ce_yX8_ones sm_yX8_ones ml_X8_121 dX8_road_139 rfl (Nat.le_of_ble_eq_true rfl) ⟨Nat.le_of_ble_eq_true rfl, Nat.le_of_ble_eq_true rfl⟩ ⟨Nat.le_of_ble_eq_true rfl, Nat.le_of_ble_eq_true rfl⟩
                  show X 0 0 WW μ2 142 [some (xR 120), some (xI t), some (xI u), some (xI v), some (xI n), some (xI k)] [xI z139, xI n]
                  refine r_iadd hL dX8_road_142 ?_
                  refine r_istore hL (lo' := [some (xR 120), some (xI t), some (xI u), some (xI v), some (xI (n + z139)), some (xI k)]) dX8_road_143 (by decide) rfl ?_
                  refine r_iinc hL (x := k) (lo' := [some (xR 120), some (xI t), some (xI u), some (xI v), some (xI (n + z139)), some (xI (k + 1))]) dX8_road_145 (by decide) rfl rfl ?_
                  refine r_goto hL (tgt := 120) dX8_road_148 (by decide) ?_
                  exact ih120 (n + z139) (k + 1) (by omega) (by omega) (by omega)
            exact lp120 _ 0 0 (by omega) (by omega) (Nat.lt_succ_self _)
          · skip
            refine r_aload_n hL (x := 120) dX8_road_82 rfl ?_
            refine r_getr hL xcl8 0 (by decide) s_120 (by decide) fl_X8_7 (by decide) f_120_0 dX8_road_83 ?_
            refine r_bipush hL dX8_road_86 (by decide) ?_
            refine r_iload_n hL (x := u) dX8_road_88 rfl ?_
            refine r_iadd hL dX8_road_89 ?_
            refine r_iald hL dX8_road_90 (by decide) s_121 (by decide) (by omega) (by omega) (fun hr90 => ?_)
            obtain ⟨z90, hz90⟩ : ∃ z, z = μ1 121 (22 + u) := ⟨_, rfl⟩
            rw [← hz90] at hr90 ⊢
            refine r_iconst hL dX8_road_91 ?_
            refine r_iload_n hL (x := t) dX8_road_92 rfl ?_
            refine r_ishl hL dX8_road_93 ?_
            obtain ⟨z93, hz93⟩ : ∃ z, z = xshl 1 t := ⟨_, rfl⟩
            rw [← hz93]
            have hr93 : xrg z93 := by rw [hz93]; exact xshl_rg _ _
            refine r_ior hL dX8_road_94 ?_
            obtain ⟨z94, hz94⟩ : ∃ z, z = xor' z90 z93 := ⟨_, rfl⟩
            rw [← hz94]
            have hr94 : xrg z94 := by rw [hz94]; exact xor_rg _ _
            refine r_goto hL (tgt := 113) dX8_road_95 (by decide) ?_
            refine r_iast hL dX8_road_113 (by decide) s_121 (by decide) (by omega) (by omega) (by omega) (fun μ3 hm3 => ?_)
            have hB3 : BI μ3 := by rw [hm3]; exact hB1.up (by show ((22 + u) = 0 → 0 ≤ z94 ∧ z94 ≤ 8) ∧ ((22 + u) = 1 → 0 ≤ z94 ∧ z94 ≤ 2) ∧ (2 ≤ (22 + u) ∧ (22 + u) ≤ 5 → 0 ≤ z94 ∧ z94 ≤ 9) ∧ (6 ≤ (22 + u) ∧ (22 + u) ≤ 13 → 0 ≤ z94 ∧ z94 ≤ 10) ∧ (30 ≤ (22 + u) → 0 ≤ z94 ∧ z94 ≤ 7); omega)
            refine r_iconst hL dX8_road_114 ?_
            refine r_istore hL (lo' := [some (xR 120), some (xI t), some (xI u), some (xI v), some (xI 0), none]) dX8_road_115 (by decide) rfl ?_
            refine r_iconst hL dX8_road_117 ?_
            refine r_istore hL (lo' := [some (xR 120), some (xI t), some (xI u), some (xI v), some (xI 0), some (xI 0)]) dX8_road_118 (by decide) rfl ?_
            have lp120 : ∀ (n120 : Nat) (n : Int) (k : Int), (0 ≤ n ∧ n ≤ 8 * k) → (0 ≤ k ∧ k ≤ 8) → ((8 - k).toNat) < n120 → X 0 0 WW μ3 120 [some (xR 120), some (xI t), some (xI u), some (xI v), some (xI n), some (xI k)] [] := by
              intro n120
              induction n120 with
              | zero => intro n k h1 h2 hn; exact absurd hn (Nat.not_lt_zero _)
              | succ n120 ih120 =>
                intro n k h1 h2 hn120
                refine r_iload hL (x := k) dX8_road_120 rfl ?_
                refine r_bipush hL dX8_road_122 (by decide) ?_
                refine r_icmp_ge hL (tgt := 151) dX8_road_124 (by decide) (by omega) (by omega) (fun c124 => ?_) (fun c124 => ?_)
                · skip
                  refine r_iload hL (x := n) dX8_road_151 rfl ?_
                  refine r_iconst hL dX8_road_153 ?_
                  refine r_idiv hL dX8_road_154 (by omega) (by omega) ?_
                  obtain ⟨z154, hz154⟩ : ∃ z, z = xdiv n 2 := ⟨_, rfl⟩
                  rw [← hz154]
                  have hr154 : xrg z154 := by rw [hz154]; exact xdiv_rg _ _
                  have hq154 := xdiv_nn (x := n) (y := 2) (by omega) (by omega) (by omega) (by omega)
                  rw [← hz154] at hq154
                  exact r_iret hL dX8_road_155 rfl (hK _ _ hB3 (by omega))
                · skip
                  refine r_iload hL (x := n) dX8_road_127 rfl ?_
                  refine r_aload_n hL (x := 120) dX8_road_129 rfl ?_
                  refine r_getr hL xcl8 0 (by decide) s_120 (by decide) fl_X8_7 (by decide) f_120_0 dX8_road_130 ?_
                  refine r_bipush hL dX8_road_133 (by decide) ?_
                  refine r_iload hL (x := k) dX8_road_135 rfl ?_
                  refine r_iadd hL dX8_road_137 ?_
                  refine r_iald hL dX8_road_138 (by decide) s_121 (by decide) (by omega) (by omega) (fun hr138 => ?_)
                  obtain ⟨z138, hz138⟩ : ∃ z, z = μ3 121 (22 + k) := ⟨_, rfl⟩
                  rw [← hz138] at hr138 ⊢
                  refine r_callS hL (st := [xI n]) (av := [xI z138]) (m_X8_ones (μ := μ3) z138 (fun z139 hc139 hc139_1 => ⟨rfl, ?_⟩)) ce_yX8_ones sm_yX8_ones ml_X8_121 dX8_road_139 rfl (Nat.le_of_ble_eq_true rfl) ⟨Nat.le_of_ble_eq_true rfl, Nat.le_of_ble_eq_true rfl⟩ ⟨Nat.le_of_ble_eq_true rfl, Nat.le_of_ble_eq_true rfl⟩
                  show X 0 0 WW μ3 142 [some (xR 120), some (xI t), some (xI u), some (xI v), some (xI n), some (xI k)] [xI z139, xI n]
                  refine r_iadd hL dX8_road_142 ?_
                  refine r_istore hL (lo' := [some (xR 120), some (xI t), some (xI u), some (xI v), some (xI (n + z139)), some (xI k)]) dX8_road_143 (by decide) rfl ?_
                  refine r_iinc hL (x := k) (lo' := [some (xR 120), some (xI t), some (xI u), some (xI v), some (xI (n + z139)), some (xI (k + 1))]) dX8_road_145 (by decide) rfl rfl ?_
                  refine r_goto hL (tgt := 120) dX8_road_148 (by decide) ?_
                  exact ih120 (n + z139) (k + 1) (by omega) (by omega) (by omega)
            exact lp120 _ 0 0 (by omega) (by omega) (Nat.lt_succ_self _)
        · skip
          refine r_aload_n hL (x := 120) dX8_road_38 rfl ?_
          refine r_getr hL xcl8 0 (by decide) s_120 (by decide) fl_X8_7 (by decide) f_120_0 dX8_road_39 ?_
          refine r_bipush hL dX8_road_42 (by decide) ?_
          refine r_iload_n hL (x := t) dX8_road_44 rfl ?_
          refine r_iadd hL dX8_road_45 ?_
          refine r_iald hL dX8_road_46 (by decide) s_121 (by decide) (by omega) (by omega) (fun hr46 => ?_)
          obtain ⟨z46, hz46⟩ : ∃ z, z = μ23c 121 (22 + t) := ⟨_, rfl⟩
          rw [← hz46] at hr46 ⊢
          refine r_iconst hL dX8_road_47 ?_
          refine r_iload_n hL (x := u) dX8_road_48 rfl ?_
          refine r_ishl hL dX8_road_49 ?_
          obtain ⟨z49, hz49⟩ : ∃ z, z = xshl 1 u := ⟨_, rfl⟩
          rw [← hz49]
          have hr49 : xrg z49 := by rw [hz49]; exact xshl_rg _ _
          refine r_ior hL dX8_road_50 ?_
          obtain ⟨z50, hz50⟩ : ∃ z, z = xor' z46 z49 := ⟨_, rfl⟩
          rw [← hz50]
          have hr50 : xrg z50 := by rw [hz50]; exact xor_rg _ _
          refine r_goto hL (tgt := 69) dX8_road_51 (by decide) ?_
          refine r_iast hL dX8_road_69 (by decide) s_121 (by decide) (by omega) (by omega) (by omega) (fun μ4 hm4 => ?_)
          have hB4 : BI μ4 := by rw [hm4]; exact hB23c.up (by show ((22 + t) = 0 → 0 ≤ z50 ∧ z50 ≤ 8) ∧ ((22 + t) = 1 → 0 ≤ z50 ∧ z50 ≤ 2) ∧ (2 ≤ (22 + t) ∧ (22 + t) ≤ 5 → 0 ≤ z50 ∧ z50 ≤ 9) ∧ (6 ≤ (22 + t) ∧ (22 + t) ≤ 13 → 0 ≤ z50 ∧ z50 ≤ 10) ∧ (30 ≤ (22 + t) → 0 ≤ z50 ∧ z50 ≤ 7); omega)
          refine r_aload_n hL (x := 120) dX8_road_70 rfl ?_
          refine r_getr hL xcl8 0 (by decide) s_120 (by decide) fl_X8_7 (by decide) f_120_0 dX8_road_71 ?_
          refine r_bipush hL dX8_road_74 (by decide) ?_
          refine r_iload_n hL (x := u) dX8_road_76 rfl ?_
          refine r_iadd hL dX8_road_77 ?_
          refine r_iload_n hL (x := v) dX8_road_78 rfl ?_
          refine r_if_eq hL (tgt := 98) dX8_road_79 (by decide) (by omega) (fun c79 => ?_) (fun c79 => ?_)
          · skip
            refine r_aload_n hL (x := 120) dX8_road_98 rfl ?_
            refine r_getr hL xcl8 0 (by decide) s_120 (by decide) fl_X8_7 (by decide) f_120_0 dX8_road_99 ?_
            refine r_bipush hL dX8_road_102 (by decide) ?_
            refine r_iload_n hL (x := u) dX8_road_104 rfl ?_
            refine r_iadd hL dX8_road_105 ?_
            refine r_iald hL dX8_road_106 (by decide) s_121 (by decide) (by omega) (by omega) (fun hr106 => ?_)
            obtain ⟨z106, hz106⟩ : ∃ z, z = μ4 121 (22 + u) := ⟨_, rfl⟩
            rw [← hz106] at hr106 ⊢
            refine r_iconst hL dX8_road_107 ?_
            refine r_iload_n hL (x := t) dX8_road_108 rfl ?_
            refine r_ishl hL dX8_road_109 ?_
            obtain ⟨z109, hz109⟩ : ∃ z, z = xshl 1 t := ⟨_, rfl⟩
            rw [← hz109]
            have hr109 : xrg z109 := by rw [hz109]; exact xshl_rg _ _
            refine r_iconst hL dX8_road_110 ?_
            refine r_ixor hL dX8_road_111 ?_
            obtain ⟨z111, hz111⟩ : ∃ z, z = xxor z109 (-1) := ⟨_, rfl⟩
            rw [← hz111]
            have hr111 : xrg z111 := by rw [hz111]; exact xxor_rg _ _
            refine r_iand hL dX8_road_112 ?_
            obtain ⟨z112, hz112⟩ : ∃ z, z = xand z106 z111 := ⟨_, rfl⟩
            rw [← hz112]
            have hr112 : xrg z112 := by rw [hz112]; exact xand_rg _ _
            refine r_iast hL dX8_road_113 (by decide) s_121 (by decide) (by omega) (by omega) (by omega) (fun μ5 hm5 => ?_)
            have hB5 : BI μ5 := by rw [hm5]; exact hB4.up (by show ((22 + u) = 0 → 0 ≤ z112 ∧ z112 ≤ 8) ∧ ((22 + u) = 1 → 0 ≤ z112 ∧ z112 ≤ 2) ∧ (2 ≤ (22 + u) ∧ (22 + u) ≤ 5 → 0 ≤ z112 ∧ z112 ≤ 9) ∧ (6 ≤ (22 + u) ∧ (22 + u) ≤ 13 → 0 ≤ z112 ∧ z112 ≤ 10) ∧ (30 ≤ (22 + u) → 0 ≤ z112 ∧ z112 ≤ 7); omega)
            refine r_iconst hL dX8_road_114 ?_
            refine r_istore hL (lo' := [some (xR 120), some (xI t), some (xI u), some (xI v), some (xI 0), none]) dX8_road_115 (by decide) rfl ?_
            refine r_iconst hL dX8_road_117 ?_
            refine r_istore hL (lo' := [some (xR 120), some (xI t), some (xI u), some (xI v), some (xI 0), some (xI 0)]) dX8_road_118 (by decide) rfl ?_
            have lp120 : ∀ (n120 : Nat) (n : Int) (k : Int), (0 ≤ n ∧ n ≤ 8 * k) → (0 ≤ k ∧ k ≤ 8) → ((8 - k).toNat) < n120 → X 0 0 WW μ5 120 [some (xR 120), some (xI t), some (xI u), some (xI v), some (xI n), some (xI k)] [] := by
              intro n120
              induction n120 with
              | zero => intro n k h1 h2 hn; exact absurd hn (Nat.not_lt_zero _)
              | succ n120 ih120 =>
                intro n k h1 h2 hn120
                refine r_iload hL (x := k) dX8_road_120 rfl ?_
                refine r_bipush hL dX8_road_122 (by decide) ?_
                refine r_icmp_ge hL (tgt := 151) dX8_road_124 (by decide) (by omega) (by omega) (fun c124 => ?_) (fun c124 => ?_)
                · skip
                  refine r_iload hL (x := n) dX8_road_151 rfl ?_
                  refine r_iconst hL dX8_road_153 ?_
                  refine r_idiv hL dX8_road_154 (by omega) (by omega) ?_
                  obtain ⟨z154, hz154⟩ : ∃ z, z = xdiv n 2 := ⟨_, rfl⟩
                  rw [← hz154]
                  have hr154 : xrg z154 := by rw [hz154]; exact xdiv_rg _ _
                  have hq154 := xdiv_nn (x := n) (y := 2) (by omega) (by omega) (by omega) (by omega)
                  rw [← hz154] at hq154
                  exact r_iret hL dX8_road_155 rfl (hK _ _ hB5 (by omega))
                · skip
                  refine r_iload hL (x := n) dX8_road_127 rfl ?_
                  refine r_aload_n hL (x := 120) dX8_road_129 rfl ?_
                  refine r_getr hL xcl8 0 (by decide) s_120 (by decide) fl_X8_7 (by decide) f_120_0 dX8_road_130 ?_
                  refine r_bipush hL dX8_road_133 (by decide) ?_
                  refine r_iload hL (x := k) dX8_road_135 rfl ?_
                  refine r_iadd hL dX8_road_137 ?_
                  refine r_iald hL dX8_road_138 (by decide) s_121 (by decide) (by omega) (by omega) (fun hr138 => ?_)
                  obtain ⟨z138, hz138⟩ : ∃ z, z = μ5 121 (22 + k) := ⟨_, rfl⟩
                  rw [← hz138] at hr138 ⊢
                  refine r_callS hL (st := [xI n]) (av := [xI z138]) (m_X8_ones (μ := μ5) z138 (fun z139 hc139 hc139_1 => ⟨rfl, ?_⟩)) ce_yX8_ones sm_yX8_ones ml_X8_121 dX8_road_139 rfl (Nat.le_of_ble_eq_true rfl) ⟨Nat.le_of_ble_eq_true rfl, Nat.le_of_ble_eq_true rfl⟩ ⟨Nat.le_of_ble_eq_true rfl, Nat.le_of_ble_eq_true rfl⟩
                  show X 0 0 WW μ5 142 [some (xR 120), some (xI t), some (xI u), some (xI v), some (xI n), some (xI k)] [xI z139, xI n]
                  refine r_iadd hL dX8_road_142 ?_
                  refine r_istore hL (lo' := [some (xR 120), some (xI t), some (xI u), some (xI v), some (xI (n + z139)), some (xI k)]) dX8_road_143 (by decide) rfl ?_
                  refine r_iinc hL (x := k) (lo' := [some (xR 120), some (xI t), some (xI u), some (xI v), some (xI (n + z139)), some (xI (k + 1))]) dX8_road_145 (by decide) rfl rfl ?_
                  refine r_goto hL (tgt := 120) dX8_road_148 (by decide) ?_
                  exact ih120 (n + z139) (k + 1) (by omega) (by omega) (by omega)
            exact lp120 _ 0 0 (by omega) (by omega) (Nat.lt_succ_self _)
          · skip
            refine r_aload_n hL (x := 120) dX8_road_82 rfl ?_
            refine r_getr hL xcl8 0 (by decide) s_120 (by decide) fl_X8_7 (by decide) f_120_0 dX8_road_83 ?_
            refine r_bipush hL dX8_road_86 (by decide) ?_
            refine r_iload_n hL (x := u) dX8_road_88 rfl ?_
            refine r_iadd hL dX8_road_89 ?_
            refine r_iald hL dX8_road_90 (by decide) s_121 (by decide) (by omega) (by omega) (fun hr90 => ?_)
            obtain ⟨z90, hz90⟩ : ∃ z, z = μ4 121 (22 + u) := ⟨_, rfl⟩
            rw [← hz90] at hr90 ⊢
            refine r_iconst hL dX8_road_91 ?_
            refine r_iload_n hL (x := t) dX8_road_92 rfl ?_
            refine r_ishl hL dX8_road_93 ?_
            obtain ⟨z93, hz93⟩ : ∃ z, z = xshl 1 t := ⟨_, rfl⟩
            rw [← hz93]
            have hr93 : xrg z93 := by rw [hz93]; exact xshl_rg _ _
            refine r_ior hL dX8_road_94 ?_
            obtain ⟨z94, hz94⟩ : ∃ z, z = xor' z90 z93 := ⟨_, rfl⟩
            rw [← hz94]
            have hr94 : xrg z94 := by rw [hz94]; exact xor_rg _ _
            refine r_goto hL (tgt := 113) dX8_road_95 (by decide) ?_
            refine r_iast hL dX8_road_113 (by decide) s_121 (by decide) (by omega) (by omega) (by omega) (fun μ6 hm6 => ?_)
            have hB6 : BI μ6 := by rw [hm6]; exact hB4.up (by show ((22 + u) = 0 → 0 ≤ z94 ∧ z94 ≤ 8) ∧ ((22 + u) = 1 → 0 ≤ z94 ∧ z94 ≤ 2) ∧ (2 ≤ (22 + u) ∧ (22 + u) ≤ 5 → 0 ≤ z94 ∧ z94 ≤ 9) ∧ (6 ≤ (22 + u) ∧ (22 + u) ≤ 13 → 0 ≤ z94 ∧ z94 ≤ 10) ∧ (30 ≤ (22 + u) → 0 ≤ z94 ∧ z94 ≤ 7); omega)
            refine r_iconst hL dX8_road_114 ?_
            refine r_istore hL (lo' := [some (xR 120), some (xI t), some (xI u), some (xI v), some (xI 0), none]) dX8_road_115 (by decide) rfl ?_
            refine r_iconst hL dX8_road_117 ?_
            refine r_istore hL (lo' := [some (xR 120), some (xI t), some (xI u), some (xI v), some (xI 0), some (xI 0)]) dX8_road_118 (by decide) rfl ?_
            have lp120 : ∀ (n120 : Nat) (n : Int) (k : Int), (0 ≤ n ∧ n ≤ 8 * k) → (0 ≤ k ∧ k ≤ 8) → ((8 - k).toNat) < n120 → X 0 0 WW μ6 120 [some (xR 120), some (xI t), some (xI u), some (xI v), some (xI n), some (xI k)] [] := by
              intro n120
              induction n120 with
              | zero => intro n k h1 h2 hn; exact absurd hn (Nat.not_lt_zero _)
              | succ n120 ih120 =>
                intro n k h1 h2 hn120
                refine r_iload hL (x := k) dX8_road_120 rfl ?_
                refine r_bipush hL dX8_road_122 (by decide) ?_
                refine r_icmp_ge hL (tgt := 151) dX8_road_124 (by decide) (by omega) (by omega) (fun c124 => ?_) (fun c124 => ?_)
                · skip
                  refine r_iload hL (x := n) dX8_road_151 rfl ?_
                  refine r_iconst hL dX8_road_153 ?_
                  refine r_idiv hL dX8_road_154 (by omega) (by omega) ?_
                  obtain ⟨z154, hz154⟩ : ∃ z, z = xdiv n 2 := ⟨_, rfl⟩
                  rw [← hz154]
                  have hr154 : xrg z154 := by rw [hz154]; exact xdiv_rg _ _
                  have hq154 := xdiv_nn (x := n) (y := 2) (by omega) (by omega) (by omega) (by omega)
                  rw [← hz154] at hq154
                  exact r_iret hL dX8_road_155 rfl (hK _ _ hB6 (by omega))
                · skip
                  refine r_iload hL (x := n) dX8_road_127 rfl ?_
                  refine r_aload_n hL (x := 120) dX8_road_129 rfl ?_
                  refine r_getr hL xcl8 0 (by decide) s_120 (by decide) fl_X8_7 (by decide) f_120_0 dX8_road_130 ?_
                  refine r_bipush hL dX8_road_133 (by decide) ?_
                  refine r_iload hL (x := k) dX8_road_135 rfl ?_
                  refine r_iadd hL dX8_road_137 ?_
                  refine r_iald hL dX8_road_138 (by decide) s_121 (by decide) (by omega) (by omega) (fun hr138 => ?_)
                  obtain ⟨z138, hz138⟩ : ∃ z, z = μ6 121 (22 + k) := ⟨_, rfl⟩
                  rw [← hz138] at hr138 ⊢
                  refine r_callS hL (st := [xI n]) (av := [xI z138]) (m_X8_ones (μ := μ6) z138 (fun z139 hc139 hc139_1 => ⟨rfl, ?_⟩)) ce_yX8_ones sm_yX8_ones ml_X8_121 dX8_road_139 rfl (Nat.le_of_ble_eq_true rfl) ⟨Nat.le_of_ble_eq_true rfl, Nat.le_of_ble_eq_true rfl⟩ ⟨Nat.le_of_ble_eq_true rfl, Nat.le_of_ble_eq_true rfl⟩
                  show X 0 0 WW μ6 142 [some (xR 120), some (xI t), some (xI u), some (xI v), some (xI n), some (xI k)] [xI z139, xI n]
                  refine r_iadd hL dX8_road_142 ?_
                  refine r_istore hL (lo' := [some (xR 120), some (xI t), some (xI u), some (xI v), some (xI (n + z139)), some (xI k)]) dX8_road_143 (by decide) rfl ?_
                  refine r_iinc hL (x := k) (lo' := [some (xR 120), some (xI t), some (xI u), some (xI v), some (xI (n + z139)), some (xI (k + 1))]) dX8_road_145 (by decide) rfl rfl ?_
                  refine r_goto hL (tgt := 120) dX8_road_148 (by decide) ?_
                  exact ih120 (n + z139) (k + 1) (by omega) (by omega) (by omega)
            exact lp120 _ 0 0 (by omega) (by omega) (Nat.lt_succ_self _)
      · skip
        refine r_ldc hL (n := -1000000001) dX8_road_19 kc_X8_183 (by decide) ?_
        exact r_iret hL dX8_road_21 rfl (hK _ _ hB (by omega))

set_option maxHeartbeats 4000000 in
set_option maxRecDepth 20000 in
theorem m_X8_at {K : Option xV → xW → xM → Prop} {μ : xM} (hB0 : BI μ) (t : Int) (ht : xrg t) (u : Int) (hu : xrg u) (hK : ∀ r μ', BI μ' → xrg r → K (some (xI r)) WW μ') : xMet yX8_at cX8_at 3 (some .int) 4 90 0 0 [xR 120, xI t, xI u] WW μ K := by
  refine xMet.go RX8 "at" rfl rfl (by decide) [some (xR 120), some (xI t), some (xI u)] (Nat.le_of_ble_eq_true rfl) rfl (fun X hL => ?_)
  have hB := hB0
  refine r_aload_n hL (x := 120) dX8_at_0 rfl ?_
  refine r_iload_n hL (x := t) dX8_at_1 rfl ?_
  refine r_callV hL (st := []) (av := [xI t]) (k := 120) (m_X8_isTale (μ := μ) hB t (by omega) (fun z2 hc2 => ⟨rfl, ?_⟩)) ce_yX8_isTale im_yX8_isTale se_yX8_isTale ml_X8_171 xcl8 (by decide) s_120 dX8_at_2 rfl (Nat.le_of_ble_eq_true rfl) ⟨Nat.le_of_ble_eq_true rfl, Nat.le_of_ble_eq_true rfl⟩ ⟨Nat.le_of_ble_eq_true rfl, Nat.le_of_ble_eq_true rfl⟩
  show X 0 0 WW μ 5 [some (xR 120), some (xI t), some (xI u)] [xI z2]
  refine r_if_ne hL (tgt := 11) dX8_at_5 (by decide) (by omega) (fun c5 => ?_) (fun c5 => ?_)
  · skip
    refine r_iload_n hL (x := u) dX8_at_11 rfl ?_
    refine r_iconst hL dX8_at_12 ?_
    refine r_sipush hL dX8_at_13 (by decide) ?_
    refine r_callS hL (st := []) (av := [xI u, xI 0, xI 255]) (m_X8_in (μ := μ) u (by omega) 0 (by omega) 255 (by omega) (fun z16 hc16 => ⟨rfl, ?_⟩)) ce_yX8_in sm_yX8_in ml_X8_62 dX8_at_16 rfl (Nat.le_of_ble_eq_true rfl) ⟨Nat.le_of_ble_eq_true rfl, Nat.le_of_ble_eq_true rfl⟩ ⟨Nat.le_of_ble_eq_true rfl, Nat.le_of_ble_eq_true rfl⟩
    show X 0 0 WW μ 19 [some (xR 120), some (xI t), some (xI u)] [xI z16]
    refine r_if_ne hL (tgt := 25) dX8_at_19 (by decide) (by omega) (fun c19 => ?_) (fun c19 => ?_)
    · skip
      refine r_aload_n hL (x := 120) dX8_at_25 rfl ?_
      refine r_callV hL (st := []) (av := []) (k := 120) (m_X8_notes (μ := μ) hB  (fun μ26c hB26c hG26 => ⟨rfl, ?_⟩)) ce_yX8_notes im_yX8_notes se_yX8_notes ml_X8_165 xcl8 (by decide) s_120 dX8_at_26 rfl (Nat.le_of_ble_eq_true rfl) ⟨Nat.le_of_ble_eq_true rfl, Nat.le_of_ble_eq_true rfl⟩ ⟨Nat.le_of_ble_eq_true rfl, Nat.le_of_ble_eq_true rfl⟩
      show X 0 0 WW μ26c 29 [some (xR 120), some (xI t), some (xI u)] []
      have hk26c_121_0 : μ26c 121 0 = μ 121 0 := hG26 121 0 (by unfold NT; omega)
      refine r_aload_n hL (x := 120) dX8_at_29 rfl ?_
      refine r_getr hL xcl8 0 (by decide) s_120 (by decide) fl_X8_7 (by decide) f_120_0 dX8_at_30 ?_
      refine r_bipush hL dX8_at_33 (by decide) ?_
      refine r_iload_n hL (x := t) dX8_at_35 rfl ?_
      refine r_iadd hL dX8_at_36 ?_
      refine r_iload_n hL (x := u) dX8_at_37 rfl ?_
      refine r_iast hL dX8_at_38 (by decide) s_121 (by decide) (by omega) (by omega) (by omega) (fun μ1 hm1 => ?_)
      have hB1 : BI μ1 := by rw [hm1]; exact hB26c.up (by show ((14 + t) = 0 → 0 ≤ u ∧ u ≤ 8) ∧ ((14 + t) = 1 → 0 ≤ u ∧ u ≤ 2) ∧ (2 ≤ (14 + t) ∧ (14 + t) ≤ 5 → 0 ≤ u ∧ u ≤ 9) ∧ (6 ≤ (14 + t) ∧ (14 + t) ≤ 13 → 0 ≤ u ∧ u ≤ 10) ∧ (30 ≤ (14 + t) → 0 ≤ u ∧ u ≤ 7); omega)
      have hk1_121_0 : μ1 121 0 = μ26c 121 0 := by rw [hm1]; exact xup_j (by omega)
      refine r_aload_n hL (x := 120) dX8_at_39 rfl ?_
      refine r_iload_n hL (x := u) dX8_at_40 rfl ?_
      refine r_callV hL (st := []) (av := [xI u]) (k := 120) (m_X8_wanders (μ := μ1) u (by omega) (fun z41 hc41 => ⟨rfl, ?_⟩)) ce_yX8_wanders im_yX8_wanders se_yX8_wanders ml_X8_184 xcl8 (by decide) s_120 dX8_at_41 rfl (Nat.le_of_ble_eq_true rfl) ⟨Nat.le_of_ble_eq_true rfl, Nat.le_of_ble_eq_true rfl⟩ ⟨Nat.le_of_ble_eq_true rfl, Nat.le_of_ble_eq_true rfl⟩
      show X 0 0 WW μ1 44 [some (xR 120), some (xI t), some (xI u)] [xI z41]
      exact r_iret hL dX8_at_44 rfl (hK _ _ hB1 (by omega))
    · skip
      refine r_ldc hL (n := -1000000002) dX8_at_22 kc_X8_159 (by decide) ?_
      exact r_iret hL dX8_at_24 rfl (hK _ _ hB (by omega))
  · skip
    refine r_ldc hL (n := -1000000001) dX8_at_8 kc_X8_183 (by decide) ?_
    exact r_iret hL dX8_at_10 rfl (hK _ _ hB (by omega))

set_option maxHeartbeats 4000000 in
set_option maxRecDepth 20000 in
theorem m_X8_drift {K : Option xV → xW → xM → Prop} {μ : xM} (hB0 : BI μ) (t : Int) (ht : xrg t) (hK : ∀ r μ', BI μ' → xrg r → K (some (xI r)) WW μ') : xMet yX8_drift cX8_drift 5 (some .int) 2 45 0 0 [xR 120, xI t] WW μ K := by
  refine xMet.go RX8 "drift" rfl rfl (by decide) [some (xR 120), some (xI t), none, none, none] (Nat.le_of_ble_eq_true rfl) rfl (fun X hL => ?_)
  have hB := hB0
  refine r_iload_n hL (x := t) dX8_drift_0 rfl ?_
  refine r_iconst hL dX8_drift_1 ?_
  refine r_bipush hL dX8_drift_2 (by decide) ?_
  refine r_callS hL (st := []) (av := [xI t, xI 1, xI 8]) (m_X8_in (μ := μ) t (by omega) 1 (by omega) 8 (by omega) (fun z4 hc4 => ⟨rfl, ?_⟩)) ce_yX8_in sm_yX8_in ml_X8_62 dX8_drift_4 rfl (Nat.le_of_ble_eq_true rfl) ⟨Nat.le_of_ble_eq_true rfl, Nat.le_of_ble_eq_true rfl⟩ ⟨Nat.le_of_ble_eq_true rfl, Nat.le_of_ble_eq_true rfl⟩
  show X 0 0 WW μ 7 [some (xR 120), some (xI t), none, none, none] [xI z4]
  refine r_if_ne hL (tgt := 13) dX8_drift_7 (by decide) (by omega) (fun c7 => ?_) (fun c7 => ?_)
  · skip
    refine r_iconst hL dX8_drift_13 ?_
    refine r_istore_n hL (lo' := [some (xR 120), some (xI t), some (xI 0), none, none]) dX8_drift_14 (by decide) rfl ?_
    have lp15 : ∀ (n15 : Nat) (k : Int) (μ115 : xM), (BI μ115) → (0 ≤ k ∧ k ≤ 8) → ((8 - k).toNat) < n15 → X 0 0 WW μ115 15 [some (xR 120), some (xI t), some (xI k), none, none] [] := by
      intro n15
      induction n15 with
      | zero => intro k μ115 hB115 h1 hn; exact absurd hn (Nat.not_lt_zero _)
      | succ n15 ih15 =>
        intro k μ115 hB115 h1 hn15
        refine r_iload_n hL (x := k) dX8_drift_15 rfl ?_
        refine r_iload_n hL (x := t) dX8_drift_16 rfl ?_
        refine r_icmp_ge hL (tgt := 134) dX8_drift_17 (by decide) (by omega) (by omega) (fun c17 => ?_) (fun c17 => ?_)
        · skip
          refine r_aload_n hL (x := 120) dX8_drift_134 rfl ?_
          refine r_getr hL xcl8 0 (by decide) s_120 (by decide) fl_X8_7 (by decide) f_120_0 dX8_drift_135 ?_
          refine r_iconst hL dX8_drift_138 ?_
          refine r_iald hL dX8_drift_139 (by decide) s_121 (by decide) (by omega) (by omega) (fun hr139 => ?_)
          obtain ⟨z139, hz139⟩ : ∃ z, z = μ115 121 0 := ⟨_, rfl⟩
          rw [← hz139] at hr139 ⊢
          have hb139 : 0 ≤ μ115 121 0 ∧ μ115 121 0 ≤ 8 := (show ((0 : Int) = 0 → 0 ≤ (μ115 121 0) ∧ (μ115 121 0) ≤ 8) ∧ ((0 : Int) = 1 → 0 ≤ (μ115 121 0) ∧ (μ115 121 0) ≤ 2) ∧ (2 ≤ (0 : Int) ∧ (0 : Int) ≤ 5 → 0 ≤ (μ115 121 0) ∧ (μ115 121 0) ≤ 9) ∧ (6 ≤ (0 : Int) ∧ (0 : Int) ≤ 13 → 0 ≤ (μ115 121 0) ∧ (μ115 121 0) ≤ 10) ∧ (30 ≤ (0 : Int) → 0 ≤ (μ115 121 0) ∧ (μ115 121 0) ≤ 7) from hB115 121 0).1 (by omega)
          exact r_iret hL dX8_drift_140 rfl (hK _ _ hB115 (by omega))
        · skip
          refine r_aload_n hL (x := 120) dX8_drift_20 rfl ?_
          refine r_getr hL xcl8 0 (by decide) s_120 (by decide) fl_X8_7 (by decide) f_120_0 dX8_drift_21 ?_
          refine r_iconst hL dX8_drift_24 ?_
          refine r_iald hL dX8_drift_25 (by decide) s_121 (by decide) (by omega) (by omega) (fun hr25 => ?_)
          obtain ⟨z25, hz25⟩ : ∃ z, z = μ115 121 0 := ⟨_, rfl⟩
          rw [← hz25] at hr25 ⊢
          have hb25 : 0 ≤ μ115 121 0 ∧ μ115 121 0 ≤ 8 := (show ((0 : Int) = 0 → 0 ≤ (μ115 121 0) ∧ (μ115 121 0) ≤ 8) ∧ ((0 : Int) = 1 → 0 ≤ (μ115 121 0) ∧ (μ115 121 0) ≤ 2) ∧ (2 ≤ (0 : Int) ∧ (0 : Int) ≤ 5 → 0 ≤ (μ115 121 0) ∧ (μ115 121 0) ≤ 9) ∧ (6 ≤ (0 : Int) ∧ (0 : Int) ≤ 13 → 0 ≤ (μ115 121 0) ∧ (μ115 121 0) ≤ 10) ∧ (30 ≤ (0 : Int) → 0 ≤ (μ115 121 0) ∧ (μ115 121 0) ≤ 7) from hB115 121 0).1 (by omega)
          refine r_bipush hL dX8_drift_26 (by decide) ?_
          refine r_icmp_ge hL (tgt := 134) dX8_drift_28 (by decide) (by omega) (by omega) (fun c28 => ?_) (fun c28 => ?_)
          · skip
            refine r_aload_n hL (x := 120) dX8_drift_134 rfl ?_
            refine r_getr hL xcl8 0 (by decide) s_120 (by decide) fl_X8_7 (by decide) f_120_0 dX8_drift_135 ?_
            refine r_iconst hL dX8_drift_138 ?_
            refine r_iald hL dX8_drift_139 (by decide) s_121 (by decide) (by omega) (by omega) (fun hr139 => ?_)
            obtain ⟨z139, hz139⟩ : ∃ z, z = μ115 121 0 := ⟨_, rfl⟩
            rw [← hz139] at hr139 ⊢
            have hb139 : 0 ≤ μ115 121 0 ∧ μ115 121 0 ≤ 8 := (show ((0 : Int) = 0 → 0 ≤ (μ115 121 0) ∧ (μ115 121 0) ≤ 8) ∧ ((0 : Int) = 1 → 0 ≤ (μ115 121 0) ∧ (μ115 121 0) ≤ 2) ∧ (2 ≤ (0 : Int) ∧ (0 : Int) ≤ 5 → 0 ≤ (μ115 121 0) ∧ (μ115 121 0) ≤ 9) ∧ (6 ≤ (0 : Int) ∧ (0 : Int) ≤ 13 → 0 ≤ (μ115 121 0) ∧ (μ115 121 0) ≤ 10) ∧ (30 ≤ (0 : Int) → 0 ≤ (μ115 121 0) ∧ (μ115 121 0) ≤ 7) from hB115 121 0).1 (by omega)
            exact r_iret hL dX8_drift_140 rfl (hK _ _ hB115 (by omega))
          · skip
            refine r_aload_n hL (x := 120) dX8_drift_31 rfl ?_
            refine r_callV hL (st := []) (av := []) (k := 120) (m_X8_notes (μ := μ115) hB115  (fun μ32c hB32c hG32 => ⟨rfl, ?_⟩)) ce_yX8_notes im_yX8_notes se_yX8_notes ml_X8_165 xcl8 (by decide) s_120 dX8_drift_32 rfl (Nat.le_of_ble_eq_true rfl) ⟨Nat.le_of_ble_eq_true rfl, Nat.le_of_ble_eq_true rfl⟩ ⟨Nat.le_of_ble_eq_true rfl, Nat.le_of_ble_eq_true rfl⟩
            show X 0 0 WW μ32c 35 [some (xR 120), some (xI t), some (xI k), none, none] []
            have hk32c_121_0 : μ32c 121 0 = μ115 121 0 := hG32 121 0 (by unfold NT; omega)
            refine r_aload_n hL (x := 120) dX8_drift_35 rfl ?_
            refine r_getr hL xcl8 0 (by decide) s_120 (by decide) fl_X8_7 (by decide) f_120_0 dX8_drift_36 ?_
            refine r_iconst hL dX8_drift_39 ?_
            refine r_iald hL dX8_drift_40 (by decide) s_121 (by decide) (by omega) (by omega) (fun hr40 => ?_)
            obtain ⟨z40, hz40⟩ : ∃ z, z = μ32c 121 0 := ⟨_, rfl⟩
            rw [← hz40] at hr40 ⊢
            have hb40 : 0 ≤ μ32c 121 0 ∧ μ32c 121 0 ≤ 8 := (show ((0 : Int) = 0 → 0 ≤ (μ32c 121 0) ∧ (μ32c 121 0) ≤ 8) ∧ ((0 : Int) = 1 → 0 ≤ (μ32c 121 0) ∧ (μ32c 121 0) ≤ 2) ∧ (2 ≤ (0 : Int) ∧ (0 : Int) ≤ 5 → 0 ≤ (μ32c 121 0) ∧ (μ32c 121 0) ≤ 9) ∧ (6 ≤ (0 : Int) ∧ (0 : Int) ≤ 13 → 0 ≤ (μ32c 121 0) ∧ (μ32c 121 0) ≤ 10) ∧ (30 ≤ (0 : Int) → 0 ≤ (μ32c 121 0) ∧ (μ32c 121 0) ≤ 7) from hB32c 121 0).1 (by omega)
            refine r_istore_n hL (lo' := [some (xR 120), some (xI t), some (xI k), some (xI z40), none]) dX8_drift_41 (by decide) rfl ?_
            refine r_aload_n hL (x := 120) dX8_drift_42 rfl ?_
            refine r_getr hL xcl8 0 (by decide) s_120 (by decide) fl_X8_7 (by decide) f_120_0 dX8_drift_43 ?_
            refine r_bipush hL dX8_drift_46 (by decide) ?_
            refine r_iload_n hL (x := z40) dX8_drift_48 rfl ?_
            refine r_iadd hL dX8_drift_49 ?_
            refine r_aload_n hL (x := 120) dX8_drift_50 rfl ?_
            refine r_bipush hL dX8_drift_51 (by decide) ?_
            refine r_callV hL (st := [xI (6 + z40), xR 121]) (av := [xI 7]) (k := 120) (m_X8_draw (μ := μ32c) hB32c 7 (by omega) (fun z53 μ53c hB53c hG53 hc53 => ⟨rfl, ?_⟩)) ce_yX8_draw im_yX8_draw se_yX8_draw ml_X8_215 xcl8 (by decide) s_120 dX8_drift_53 rfl (Nat.le_of_ble_eq_true rfl) ⟨Nat.le_of_ble_eq_true rfl, Nat.le_of_ble_eq_true rfl⟩ ⟨Nat.le_of_ble_eq_true rfl, Nat.le_of_ble_eq_true rfl⟩
            show X 0 0 WW μ53c 56 [some (xR 120), some (xI t), some (xI k), some (xI z40), none] [xI z53, xI (6 + z40), xR 121]
            have hk53c_121_0 : μ53c 121 0 = μ32c 121 0 := hG53 121 0 (by unfold DW; omega)
            refine r_iconst hL dX8_drift_56 ?_
            refine r_iadd hL dX8_drift_57 ?_
            refine r_iast hL dX8_drift_58 (by decide) s_121 (by decide) (by omega) (by omega) (by omega) (fun μ1 hm1 => ?_)
            have hB1 : BI μ1 := by rw [hm1]; exact hB53c.up (by show ((6 + z40) = 0 → 0 ≤ (z53 + 2) ∧ (z53 + 2) ≤ 8) ∧ ((6 + z40) = 1 → 0 ≤ (z53 + 2) ∧ (z53 + 2) ≤ 2) ∧ (2 ≤ (6 + z40) ∧ (6 + z40) ≤ 5 → 0 ≤ (z53 + 2) ∧ (z53 + 2) ≤ 9) ∧ (6 ≤ (6 + z40) ∧ (6 + z40) ≤ 13 → 0 ≤ (z53 + 2) ∧ (z53 + 2) ≤ 10) ∧ (30 ≤ (6 + z40) → 0 ≤ (z53 + 2) ∧ (z53 + 2) ≤ 7); omega)
            have hk1_121_0 : μ1 121 0 = μ53c 121 0 := by rw [hm1]; exact xup_j (by omega)
            refine r_iconst hL dX8_drift_59 ?_
            refine r_istore hL (lo' := [some (xR 120), some (xI t), some (xI k), some (xI z40), some (xI 0)]) dX8_drift_60 (by decide) rfl ?_
            have lp62 : ∀ (n62 : Nat) (i : Int) (μ162 : xM), (BI μ162) → (0 ≤ i ∧ i ≤ 10) → (μ162 121 0 = z40) → ((10 - i).toNat) < n62 → X 0 0 WW μ162 62 [some (xR 120), some (xI t), some (xI k), some (xI z40), some (xI i)] [] := by
              intro n62
              induction n62 with
              | zero => intro i μ162 hB162 h2 h3 hn; exact absurd hn (Nat.not_lt_zero _)
              | succ n62 ih62 =>
                intro i μ162 hB162 h2 h3 hn62
                refine r_iload hL (x := i) dX8_drift_62 rfl ?_
                refine r_aload_n hL (x := 120) dX8_drift_64 rfl ?_
                refine r_getr hL xcl8 0 (by decide) s_120 (by decide) fl_X8_7 (by decide) f_120_0 dX8_drift_65 ?_
                refine r_bipush hL dX8_drift_68 (by decide) ?_
                refine r_iload_n hL (x := z40) dX8_drift_70 rfl ?_
                refine r_iadd hL dX8_drift_71 ?_
                refine r_iald hL dX8_drift_72 (by decide) s_121 (by decide) (by omega) (by omega) (fun hr72 => ?_)
                obtain ⟨z72, hz72⟩ : ∃ z, z = μ162 121 (6 + z40) := ⟨_, rfl⟩
                rw [← hz72] at hr72 ⊢
                have hb72 : 0 ≤ μ162 121 (6 + z40) ∧ μ162 121 (6 + z40) ≤ 10 := (show ((6 + z40) = 0 → 0 ≤ (μ162 121 (6 + z40)) ∧ (μ162 121 (6 + z40)) ≤ 8) ∧ ((6 + z40) = 1 → 0 ≤ (μ162 121 (6 + z40)) ∧ (μ162 121 (6 + z40)) ≤ 2) ∧ (2 ≤ (6 + z40) ∧ (6 + z40) ≤ 5 → 0 ≤ (μ162 121 (6 + z40)) ∧ (μ162 121 (6 + z40)) ≤ 9) ∧ (6 ≤ (6 + z40) ∧ (6 + z40) ≤ 13 → 0 ≤ (μ162 121 (6 + z40)) ∧ (μ162 121 (6 + z40)) ≤ 10) ∧ (30 ≤ (6 + z40) → 0 ≤ (μ162 121 (6 + z40)) ∧ (μ162 121 (6 + z40)) ≤ 7) from hB162 121 (6 + z40)).2.2.2.1 (by omega)
                refine r_icmp_ge hL (tgt := 102) dX8_drift_73 (by decide) (by omega) (by omega) (fun c73 => ?_) (fun c73 => ?_)
                · skip
                  refine r_aload_n hL (x := 120) dX8_drift_102 rfl ?_
                  refine r_getr hL xcl8 0 (by decide) s_120 (by decide) fl_X8_7 (by decide) f_120_0 dX8_drift_103 ?_
                  refine r_bipush hL dX8_drift_106 (by decide) ?_
                  refine r_iload_n hL (x := z40) dX8_drift_108 rfl ?_
                  refine r_iadd hL dX8_drift_109 ?_
                  refine r_aload_n hL (x := 120) dX8_drift_110 rfl ?_
                  refine r_sipush hL dX8_drift_111 (by decide) ?_
                  refine r_callV hL (st := [xI (14 + z40), xR 121]) (av := [xI 256]) (k := 120) (m_X8_draw (μ := μ162) hB162 256 (by omega) (fun z114 μ114c hB114c hG114 hc114 => ⟨rfl, ?_⟩)) ce_yX8_draw im_yX8_draw se_yX8_draw ml_X8_215 xcl8 (by decide) s_120 dX8_drift_114 rfl (Nat.le_of_ble_eq_true rfl) ⟨Nat.le_of_ble_eq_true rfl, Nat.le_of_ble_eq_true rfl⟩ ⟨Nat.le_of_ble_eq_true rfl, Nat.le_of_ble_eq_true rfl⟩
                  show X 0 0 WW μ114c 117 [some (xR 120), some (xI t), some (xI k), some (xI z40), some (xI i)] [xI z114, xI (14 + z40), xR 121]
                  have hk114c_121_0 : μ114c 121 0 = μ162 121 0 := hG114 121 0 (by unfold DW; omega)
                  refine r_iast hL dX8_drift_117 (by decide) s_121 (by decide) (by omega) (by omega) (by omega) (fun μ2 hm2 => ?_)
                  have hB2 : BI μ2 := by rw [hm2]; exact hB114c.up (by show ((14 + z40) = 0 → 0 ≤ z114 ∧ z114 ≤ 8) ∧ ((14 + z40) = 1 → 0 ≤ z114 ∧ z114 ≤ 2) ∧ (2 ≤ (14 + z40) ∧ (14 + z40) ≤ 5 → 0 ≤ z114 ∧ z114 ≤ 9) ∧ (6 ≤ (14 + z40) ∧ (14 + z40) ≤ 13 → 0 ≤ z114 ∧ z114 ≤ 10) ∧ (30 ≤ (14 + z40) → 0 ≤ z114 ∧ z114 ≤ 7); omega)
                  have hk2_121_0 : μ2 121 0 = μ114c 121 0 := by rw [hm2]; exact xup_j (by omega)
                  refine r_aload_n hL (x := 120) dX8_drift_118 rfl ?_
                  refine r_getr hL xcl8 0 (by decide) s_120 (by decide) fl_X8_7 (by decide) f_120_0 dX8_drift_119 ?_
                  refine r_iconst hL dX8_drift_122 ?_
                  refine r_dup2 hL dX8_drift_123 rfl rfl ?_
                  refine r_iald hL dX8_drift_124 (by decide) s_121 (by decide) (by omega) (by omega) (fun hr124 => ?_)
                  obtain ⟨z124, hz124⟩ : ∃ z, z = μ2 121 0 := ⟨_, rfl⟩
                  rw [← hz124] at hr124 ⊢
                  have hb124 : 0 ≤ μ2 121 0 ∧ μ2 121 0 ≤ 8 := (show ((0 : Int) = 0 → 0 ≤ (μ2 121 0) ∧ (μ2 121 0) ≤ 8) ∧ ((0 : Int) = 1 → 0 ≤ (μ2 121 0) ∧ (μ2 121 0) ≤ 2) ∧ (2 ≤ (0 : Int) ∧ (0 : Int) ≤ 5 → 0 ≤ (μ2 121 0) ∧ (μ2 121 0) ≤ 9) ∧ (6 ≤ (0 : Int) ∧ (0 : Int) ≤ 13 → 0 ≤ (μ2 121 0) ∧ (μ2 121 0) ≤ 10) ∧ (30 ≤ (0 : Int) → 0 ≤ (μ2 121 0) ∧ (μ2 121 0) ≤ 7) from hB2 121 0).1 (by omega)
                  refine r_iconst hL dX8_drift_125 ?_
                  refine r_iadd hL dX8_drift_126 ?_
                  refine r_iast hL dX8_drift_127 (by decide) s_121 (by decide) (by omega) (by omega) (by omega) (fun μ3 hm3 => ?_)
                  have hB3 : BI μ3 := by rw [hm3]; exact hB2.up (by show ((0 : Int) = 0 → 0 ≤ (z124 + 1) ∧ (z124 + 1) ≤ 8) ∧ ((0 : Int) = 1 → 0 ≤ (z124 + 1) ∧ (z124 + 1) ≤ 2) ∧ (2 ≤ (0 : Int) ∧ (0 : Int) ≤ 5 → 0 ≤ (z124 + 1) ∧ (z124 + 1) ≤ 9) ∧ (6 ≤ (0 : Int) ∧ (0 : Int) ≤ 13 → 0 ≤ (z124 + 1) ∧ (z124 + 1) ≤ 10) ∧ (30 ≤ (0 : Int) → 0 ≤ (z124 + 1) ∧ (z124 + 1) ≤ 7); omega)
                  have hk3_121_0 : μ3 121 0 = z124 + 1 := by rw [hm3]; exact xup_s _ _ _ _
                  refine r_iinc hL (x := k) (lo' := [some (xR 120), some (xI t), some (xI (k + 1)), some (xI z40), some (xI i)]) dX8_drift_128 (by decide) rfl rfl ?_
                  refine r_goto hL (tgt := 15) dX8_drift_131 (by decide) ?_
                  refine r_drop hL (lo' := [some (xR 120), some (xI t), some (xI (k + 1)), none, none]) [3, 4] rfl ?_
                  exact ih15 (k + 1) μ3 hB3 (by omega) (by omega)
                · skip
                  refine r_aload_n hL (x := 120) dX8_drift_76 rfl ?_
                  refine r_getr hL xcl8 0 (by decide) s_120 (by decide) fl_X8_7 (by decide) f_120_0 dX8_drift_77 ?_
                  refine r_bipush hL dX8_drift_80 (by decide) ?_
                  refine r_bipush hL dX8_drift_82 (by decide) ?_
                  refine r_iload_n hL (x := z40) dX8_drift_84 rfl ?_
                  refine r_imul hL dX8_drift_85 ?_
                  refine r_iadd hL dX8_drift_86 ?_
                  refine r_iload hL (x := i) dX8_drift_87 rfl ?_
                  refine r_iadd hL dX8_drift_89 ?_
                  refine r_aload_n hL (x := 120) dX8_drift_90 rfl ?_
                  refine r_iconst hL dX8_drift_91 ?_
                  refine r_callV hL (st := [xI ((30 + (10 * z40)) + i), xR 121]) (av := [xI 5]) (k := 120) (m_X8_draw (μ := μ162) hB162 5 (by omega) (fun z92 μ92c hB92c hG92 hc92 => ⟨rfl, ?_⟩)) ce_yX8_draw im_yX8_draw se_yX8_draw ml_X8_215 xcl8 (by decide) s_120 dX8_drift_92 rfl (Nat.le_of_ble_eq_true rfl) ⟨Nat.le_of_ble_eq_true rfl, Nat.le_of_ble_eq_true rfl⟩ ⟨Nat.le_of_ble_eq_true rfl, Nat.le_of_ble_eq_true rfl⟩
                  show X 0 0 WW μ92c 95 [some (xR 120), some (xI t), some (xI k), some (xI z40), some (xI i)] [xI z92, xI ((30 + (10 * z40)) + i), xR 121]
                  have hk92c_121_0 : μ92c 121 0 = μ162 121 0 := hG92 121 0 (by unfold DW; omega)
                  refine r_iast hL dX8_drift_95 (by decide) s_121 (by decide) (by omega) (by omega) (by omega) (fun μ4 hm4 => ?_)
                  have hB4 : BI μ4 := by rw [hm4]; exact hB92c.up (by show (((30 + (10 * z40)) + i) = 0 → 0 ≤ z92 ∧ z92 ≤ 8) ∧ (((30 + (10 * z40)) + i) = 1 → 0 ≤ z92 ∧ z92 ≤ 2) ∧ (2 ≤ ((30 + (10 * z40)) + i) ∧ ((30 + (10 * z40)) + i) ≤ 5 → 0 ≤ z92 ∧ z92 ≤ 9) ∧ (6 ≤ ((30 + (10 * z40)) + i) ∧ ((30 + (10 * z40)) + i) ≤ 13 → 0 ≤ z92 ∧ z92 ≤ 10) ∧ (30 ≤ ((30 + (10 * z40)) + i) → 0 ≤ z92 ∧ z92 ≤ 7); omega)
                  have hk4_121_0 : μ4 121 0 = μ92c 121 0 := by rw [hm4]; exact xup_j (by omega)
                  refine r_iinc hL (x := i) (lo' := [some (xR 120), some (xI t), some (xI k), some (xI z40), some (xI (i + 1))]) dX8_drift_96 (by decide) rfl rfl ?_
                  refine r_goto hL (tgt := 62) dX8_drift_99 (by decide) ?_
                  exact ih62 (i + 1) μ4 hB4 (by omega) (by omega) (by omega)
            exact lp62 _ 0 μ1 hB1 (by omega) (by omega) (Nat.lt_succ_self _)
    exact lp15 _ 0 μ hB (by omega) (Nat.lt_succ_self _)
  · skip
    refine r_ldc hL (n := -1000000002) dX8_drift_10 kc_X8_159 (by decide) ?_
    exact r_iret hL dX8_drift_12 rfl (hK _ _ hB (by omega))

set_option maxHeartbeats 4000000 in
set_option maxRecDepth 20000 in
theorem m_X8_undo {K : Option xV → xW → xM → Prop} {μ : xM} (hB0 : BI μ) (t : Int) (ht : xrg t) (hK : ∀ r μ', BI μ' → xrg r → K (some (xI r)) WW μ') : xMet yX8_undo cX8_undo 2 (some .int) 1 25 0 0 [xR 120, xI t] WW μ K := by
  refine xMet.go RX8 "undo" rfl rfl (by decide) [some (xR 120), some (xI t)] (Nat.le_of_ble_eq_true rfl) rfl (fun X hL => ?_)
  have hB := hB0
  refine r_iload_n hL (x := t) dX8_undo_0 rfl ?_
  refine r_iconst hL dX8_undo_1 ?_
  refine r_bipush hL dX8_undo_2 (by decide) ?_
  refine r_callS hL (st := []) (av := [xI t, xI 1, xI 16]) (m_X8_in (μ := μ) t (by omega) 1 (by omega) 16 (by omega) (fun z4 hc4 => ⟨rfl, ?_⟩)) ce_yX8_in sm_yX8_in ml_X8_62 dX8_undo_4 rfl (Nat.le_of_ble_eq_true rfl) ⟨Nat.le_of_ble_eq_true rfl, Nat.le_of_ble_eq_true rfl⟩ ⟨Nat.le_of_ble_eq_true rfl, Nat.le_of_ble_eq_true rfl⟩
  show X 0 0 WW μ 7 [some (xR 120), some (xI t)] [xI z4]
  refine r_if_ne hL (tgt := 13) dX8_undo_7 (by decide) (by omega) (fun c7 => ?_) (fun c7 => ?_)
  · skip
    refine r_iload_n hL (x := t) dX8_undo_13 rfl ?_
    refine r_aload_n hL (x := 120) dX8_undo_14 rfl ?_
    refine r_geti hL xcl8 2 (j' := 2) rfl (by decide) s_120 (by decide) fl_X8_161 (by decide) (by decide) dX8_undo_15 (fun hr15 => ?_)
    obtain ⟨z15, hz15⟩ : ∃ z, z = μ 120 2 := ⟨_, rfl⟩
    rw [← hz15] at hr15 ⊢
    have hb15 : 0 ≤ μ 120 2 ∧ μ 120 2 ≤ 16 := (show ((2 : Int) = 2 → 0 ≤ (μ 120 2) ∧ (μ 120 2) ≤ 16) ∧ ((2 : Int) = 6 → 0 ≤ (μ 120 2) ∧ (μ 120 2) ≤ 10) ∧ ((2 : Int) = 8 → 0 ≤ (μ 120 2) ∧ (μ 120 2) ≤ 20) ∧ ((2 : Int) = 9 → 0 ≤ (μ 120 2) ∧ (μ 120 2) ≤ 2147483647) ∧ ((2 : Int) = 11 → 0 ≤ (μ 120 2) ∧ (μ 120 2) ≤ 10) ∧ ((2 : Int) = 13 → 0 ≤ (μ 120 2) ∧ (μ 120 2) ≤ 10) ∧ ((2 : Int) = 20 → 0 ≤ (μ 120 2) ∧ (μ 120 2) ≤ 8) from hB 120 2).1 (by omega)
    refine r_icmp_le hL (tgt := 24) dX8_undo_18 (by decide) (by omega) (by omega) (fun c18 => ?_) (fun c18 => ?_)
    · skip
      refine r_aload_n hL (x := 120) dX8_undo_24 rfl ?_
      refine r_dup hL dX8_undo_25 rfl ?_
      refine r_geti hL xcl8 2 (j' := 2) rfl (by decide) s_120 (by decide) fl_X8_161 (by decide) (by decide) dX8_undo_26 (fun hr26 => ?_)
      obtain ⟨z26, hz26⟩ : ∃ z, z = μ 120 2 := ⟨_, rfl⟩
      rw [← hz26] at hr26 ⊢
      have hb26 : 0 ≤ μ 120 2 ∧ μ 120 2 ≤ 16 := (show ((2 : Int) = 2 → 0 ≤ (μ 120 2) ∧ (μ 120 2) ≤ 16) ∧ ((2 : Int) = 6 → 0 ≤ (μ 120 2) ∧ (μ 120 2) ≤ 10) ∧ ((2 : Int) = 8 → 0 ≤ (μ 120 2) ∧ (μ 120 2) ≤ 20) ∧ ((2 : Int) = 9 → 0 ≤ (μ 120 2) ∧ (μ 120 2) ≤ 2147483647) ∧ ((2 : Int) = 11 → 0 ≤ (μ 120 2) ∧ (μ 120 2) ≤ 10) ∧ ((2 : Int) = 13 → 0 ≤ (μ 120 2) ∧ (μ 120 2) ≤ 10) ∧ ((2 : Int) = 20 → 0 ≤ (μ 120 2) ∧ (μ 120 2) ≤ 8) from hB 120 2).1 (by omega)
      refine r_iload_n hL (x := t) dX8_undo_29 rfl ?_
      refine r_isub hL dX8_undo_30 ?_
      refine r_puti hL xcl8 2 (j' := 2) rfl (by decide) s_120 (by decide) fl_X8_161 rfl rfl (by omega) dX8_undo_31 (fun μ1 hm1 => ?_)
      have hB1 : BI μ1 := by rw [hm1]; exact hB.up (by show ((2 : Int) = 2 → 0 ≤ (z26 - t) ∧ (z26 - t) ≤ 16) ∧ ((2 : Int) = 6 → 0 ≤ (z26 - t) ∧ (z26 - t) ≤ 10) ∧ ((2 : Int) = 8 → 0 ≤ (z26 - t) ∧ (z26 - t) ≤ 20) ∧ ((2 : Int) = 9 → 0 ≤ (z26 - t) ∧ (z26 - t) ≤ 2147483647) ∧ ((2 : Int) = 11 → 0 ≤ (z26 - t) ∧ (z26 - t) ≤ 10) ∧ ((2 : Int) = 13 → 0 ≤ (z26 - t) ∧ (z26 - t) ≤ 10) ∧ ((2 : Int) = 20 → 0 ≤ (z26 - t) ∧ (z26 - t) ≤ 8); omega)
      have hk1_120_2 : μ1 120 2 = z26 - t := by rw [hm1]; exact xup_s _ _ _ _
      refine r_aload_n hL (x := 120) dX8_undo_34 rfl ?_
      refine r_getr hL xcl8 1 (by decide) s_120 (by decide) fl_X8_13 (by decide) f_120_1 dX8_undo_35 ?_
      refine r_bipush hL dX8_undo_38 (by decide) ?_
      refine r_aload_n hL (x := 120) dX8_undo_40 rfl ?_
      refine r_geti hL xcl8 2 (j' := 2) rfl (by decide) s_120 (by decide) fl_X8_161 (by decide) (by decide) dX8_undo_41 (fun hr41 => ?_)
      obtain ⟨z41, hz41⟩ : ∃ z, z = μ1 120 2 := ⟨_, rfl⟩
      rw [← hz41] at hr41 ⊢
      have hb41 : 0 ≤ μ1 120 2 ∧ μ1 120 2 ≤ 16 := (show ((2 : Int) = 2 → 0 ≤ (μ1 120 2) ∧ (μ1 120 2) ≤ 16) ∧ ((2 : Int) = 6 → 0 ≤ (μ1 120 2) ∧ (μ1 120 2) ≤ 10) ∧ ((2 : Int) = 8 → 0 ≤ (μ1 120 2) ∧ (μ1 120 2) ≤ 20) ∧ ((2 : Int) = 9 → 0 ≤ (μ1 120 2) ∧ (μ1 120 2) ≤ 2147483647) ∧ ((2 : Int) = 11 → 0 ≤ (μ1 120 2) ∧ (μ1 120 2) ≤ 10) ∧ ((2 : Int) = 13 → 0 ≤ (μ1 120 2) ∧ (μ1 120 2) ≤ 10) ∧ ((2 : Int) = 20 → 0 ≤ (μ1 120 2) ∧ (μ1 120 2) ≤ 8) from hB1 120 2).1 (by omega)
      refine r_imul hL dX8_undo_44 ?_
      refine r_aload_n hL (x := 120) dX8_undo_45 rfl ?_
      refine r_getr hL xcl8 0 (by decide) s_120 (by decide) fl_X8_7 (by decide) f_120_0 dX8_undo_46 ?_
      refine r_iconst hL dX8_undo_49 ?_
      refine r_bipush hL dX8_undo_50 (by decide) ?_
      refine r_callS hL (st := []) (av := [xR 122, xI (110 * z41), xR 121, xI 0, xI 110]) (m_X8_bring (μ := μ1) 122 1760 (by decide) s_122 (by decide) (110 * z41) 121 110 (by decide) s_121 (by decide) 0 110 (by omega) (by omega) (fun h => absurd h (by decide)) (fun μ52c hm52c => ⟨rfl, ?_⟩)) ce_yX8_bring sm_yX8_bring ml_X8_73 dX8_undo_52 rfl (Nat.le_of_ble_eq_true rfl) ⟨Nat.le_of_ble_eq_true rfl, Nat.le_of_ble_eq_true rfl⟩ ⟨Nat.le_of_ble_eq_true rfl, Nat.le_of_ble_eq_true rfl⟩
      show X 0 0 WW μ52c 55 [some (xR 120), some (xI t)] []
      have hB52c : BI μ52c := by rw [hm52c]; exact hB1.br (fun k hk0 hk1 => by have hq : (((110 * z41) + k) % 110 = 0 → 0 ≤ (μ1 122 ((110 * z41) + k)) ∧ (μ1 122 ((110 * z41) + k)) ≤ 8) ∧ (((110 * z41) + k) % 110 = 1 → 0 ≤ (μ1 122 ((110 * z41) + k)) ∧ (μ1 122 ((110 * z41) + k)) ≤ 2) ∧ (2 ≤ ((110 * z41) + k) % 110 ∧ ((110 * z41) + k) % 110 ≤ 5 → 0 ≤ (μ1 122 ((110 * z41) + k)) ∧ (μ1 122 ((110 * z41) + k)) ≤ 9) ∧ (6 ≤ ((110 * z41) + k) % 110 ∧ ((110 * z41) + k) % 110 ≤ 13 → 0 ≤ (μ1 122 ((110 * z41) + k)) ∧ (μ1 122 ((110 * z41) + k)) ≤ 10) ∧ (30 ≤ ((110 * z41) + k) % 110 → 0 ≤ (μ1 122 ((110 * z41) + k)) ∧ (μ1 122 ((110 * z41) + k)) ≤ 7) := hB1 122 _; show ((0 + k) = 0 → 0 ≤ (μ1 122 ((110 * z41) + k)) ∧ (μ1 122 ((110 * z41) + k)) ≤ 8) ∧ ((0 + k) = 1 → 0 ≤ (μ1 122 ((110 * z41) + k)) ∧ (μ1 122 ((110 * z41) + k)) ≤ 2) ∧ (2 ≤ (0 + k) ∧ (0 + k) ≤ 5 → 0 ≤ (μ1 122 ((110 * z41) + k)) ∧ (μ1 122 ((110 * z41) + k)) ≤ 9) ∧ (6 ≤ (0 + k) ∧ (0 + k) ≤ 13 → 0 ≤ (μ1 122 ((110 * z41) + k)) ∧ (μ1 122 ((110 * z41) + k)) ≤ 10) ∧ (30 ≤ (0 + k) → 0 ≤ (μ1 122 ((110 * z41) + k)) ∧ (μ1 122 ((110 * z41) + k)) ≤ 7); rw [show ((110 * z41) + k) % 110 = 0 + k by omega] at hq; exact hq)
      have hk52c_120_2 : μ52c 120 2 = μ1 120 2 := by rw [hm52c]; exact congrFun (xbr_c (by decide)) _
      refine r_aload_n hL (x := 120) dX8_undo_55 rfl ?_
      refine r_getr hL xcl8 0 (by decide) s_120 (by decide) fl_X8_7 (by decide) f_120_0 dX8_undo_56 ?_
      refine r_iconst hL dX8_undo_59 ?_
      refine r_iald hL dX8_undo_60 (by decide) s_121 (by decide) (by omega) (by omega) (fun hr60 => ?_)
      obtain ⟨z60, hz60⟩ : ∃ z, z = μ52c 121 0 := ⟨_, rfl⟩
      rw [← hz60] at hr60 ⊢
      have hb60 : 0 ≤ μ52c 121 0 ∧ μ52c 121 0 ≤ 8 := (show ((0 : Int) = 0 → 0 ≤ (μ52c 121 0) ∧ (μ52c 121 0) ≤ 8) ∧ ((0 : Int) = 1 → 0 ≤ (μ52c 121 0) ∧ (μ52c 121 0) ≤ 2) ∧ (2 ≤ (0 : Int) ∧ (0 : Int) ≤ 5 → 0 ≤ (μ52c 121 0) ∧ (μ52c 121 0) ≤ 9) ∧ (6 ≤ (0 : Int) ∧ (0 : Int) ≤ 13 → 0 ≤ (μ52c 121 0) ∧ (μ52c 121 0) ≤ 10) ∧ (30 ≤ (0 : Int) → 0 ≤ (μ52c 121 0) ∧ (μ52c 121 0) ≤ 7) from hB52c 121 0).1 (by omega)
      exact r_iret hL dX8_undo_61 rfl (hK _ _ hB52c (by omega))
    · skip
      refine r_ldc hL (n := -1000000003) dX8_undo_21 kc_X8_164 (by decide) ?_
      exact r_iret hL dX8_undo_23 rfl (hK _ _ hB (by omega))
  · skip
    refine r_ldc hL (n := -1000000002) dX8_undo_10 kc_X8_159 (by decide) ?_
    exact r_iret hL dX8_undo_12 rfl (hK _ _ hB (by omega))

set_option maxHeartbeats 4000000 in
set_option maxRecDepth 20000 in
theorem m_X8_write {K : Option xV → xW → xM → Prop} {μ : xM} (hB0 : BI μ) (t : Int) (ht : xrg t) (u : Int) (hu : xrg u) (v : Int) (hv : xrg v) (hK : ∀ r μ', BI μ' → xrg r → K (some (xI r)) WW μ') : xMet yX8_write cX8_write 4 (some .int) 2 43 0 0 [xR 120, xI t, xI u, xI v] WW μ K := by
  refine xMet.go RX8 "write" rfl rfl (by decide) [some (xR 120), some (xI t), some (xI u), some (xI v)] (Nat.le_of_ble_eq_true rfl) rfl (fun X hL => ?_)
  have hB := hB0
  refine r_aload_n hL (x := 120) dX8_write_0 rfl ?_
  refine r_iload_n hL (x := t) dX8_write_1 rfl ?_
  refine r_callV hL (st := []) (av := [xI t]) (k := 120) (m_X8_isTale (μ := μ) hB t (by omega) (fun z2 hc2 => ⟨rfl, ?_⟩)) ce_yX8_isTale im_yX8_isTale se_yX8_isTale ml_X8_171 xcl8 (by decide) s_120 dX8_write_2 rfl (Nat.le_of_ble_eq_true rfl) ⟨Nat.le_of_ble_eq_true rfl, Nat.le_of_ble_eq_true rfl⟩ ⟨Nat.le_of_ble_eq_true rfl, Nat.le_of_ble_eq_true rfl⟩
  show X 0 0 WW μ 5 [some (xR 120), some (xI t), some (xI u), some (xI v)] [xI z2]
  refine r_if_eq hL (tgt := 16) dX8_write_5 (by decide) (by omega) (fun c5 => ?_) (fun c5 => ?_)
  · skip
    refine r_ldc hL (n := -1000000001) dX8_write_16 kc_X8_183 (by decide) ?_
    exact r_iret hL dX8_write_18 rfl (hK _ _ hB (by omega))
  · skip
    refine r_aload_n hL (x := 120) dX8_write_8 rfl ?_
    refine r_iload_n hL (x := u) dX8_write_9 rfl ?_
    refine r_callV hL (st := []) (av := [xI u]) (k := 120) (m_X8_isTale (μ := μ) hB u (by omega) (fun z10 hc10 => ⟨rfl, ?_⟩)) ce_yX8_isTale im_yX8_isTale se_yX8_isTale ml_X8_171 xcl8 (by decide) s_120 dX8_write_10 rfl (Nat.le_of_ble_eq_true rfl) ⟨Nat.le_of_ble_eq_true rfl, Nat.le_of_ble_eq_true rfl⟩ ⟨Nat.le_of_ble_eq_true rfl, Nat.le_of_ble_eq_true rfl⟩
    show X 0 0 WW μ 13 [some (xR 120), some (xI t), some (xI u), some (xI v)] [xI z10]
    refine r_if_ne hL (tgt := 19) dX8_write_13 (by decide) (by omega) (fun c13 => ?_) (fun c13 => ?_)
    · skip
      refine r_aload_n hL (x := 120) dX8_write_19 rfl ?_
      refine r_geti hL xcl8 8 (j' := 8) rfl (by decide) s_120 (by decide) fl_X8_168 (by decide) (by decide) dX8_write_20 (fun hr20 => ?_)
      obtain ⟨z20, hz20⟩ : ∃ z, z = μ 120 8 := ⟨_, rfl⟩
      rw [← hz20] at hr20 ⊢
      have hb20 : 0 ≤ μ 120 8 ∧ μ 120 8 ≤ 20 := (show ((8 : Int) = 2 → 0 ≤ (μ 120 8) ∧ (μ 120 8) ≤ 16) ∧ ((8 : Int) = 6 → 0 ≤ (μ 120 8) ∧ (μ 120 8) ≤ 10) ∧ ((8 : Int) = 8 → 0 ≤ (μ 120 8) ∧ (μ 120 8) ≤ 20) ∧ ((8 : Int) = 9 → 0 ≤ (μ 120 8) ∧ (μ 120 8) ≤ 2147483647) ∧ ((8 : Int) = 11 → 0 ≤ (μ 120 8) ∧ (μ 120 8) ≤ 10) ∧ ((8 : Int) = 13 → 0 ≤ (μ 120 8) ∧ (μ 120 8) ≤ 10) ∧ ((8 : Int) = 20 → 0 ≤ (μ 120 8) ∧ (μ 120 8) ≤ 8) from hB 120 8).2.2.1 (by omega)
      refine r_bipush hL dX8_write_23 (by decide) ?_
      refine r_icmp_ne hL (tgt := 31) dX8_write_25 (by decide) (by omega) (by omega) (fun c25 => ?_) (fun c25 => ?_)
      · skip
        refine r_aload_n hL (x := 120) dX8_write_31 rfl ?_
        refine r_getr hL xcl8 7 (by decide) s_120 (by decide) fl_X8_26 (by decide) f_120_7 dX8_write_32 ?_
        refine r_iconst hL dX8_write_35 ?_
        refine r_aload_n hL (x := 120) dX8_write_36 rfl ?_
        refine r_geti hL xcl8 8 (j' := 8) rfl (by decide) s_120 (by decide) fl_X8_168 (by decide) (by decide) dX8_write_37 (fun hr37 => ?_)
        obtain ⟨z37, hz37⟩ : ∃ z, z = μ 120 8 := ⟨_, rfl⟩
        rw [← hz37] at hr37 ⊢
        have hb37 : 0 ≤ μ 120 8 ∧ μ 120 8 ≤ 20 := (show ((8 : Int) = 2 → 0 ≤ (μ 120 8) ∧ (μ 120 8) ≤ 16) ∧ ((8 : Int) = 6 → 0 ≤ (μ 120 8) ∧ (μ 120 8) ≤ 10) ∧ ((8 : Int) = 8 → 0 ≤ (μ 120 8) ∧ (μ 120 8) ≤ 20) ∧ ((8 : Int) = 9 → 0 ≤ (μ 120 8) ∧ (μ 120 8) ≤ 2147483647) ∧ ((8 : Int) = 11 → 0 ≤ (μ 120 8) ∧ (μ 120 8) ≤ 10) ∧ ((8 : Int) = 13 → 0 ≤ (μ 120 8) ∧ (μ 120 8) ≤ 10) ∧ ((8 : Int) = 20 → 0 ≤ (μ 120 8) ∧ (μ 120 8) ≤ 8) from hB 120 8).2.2.1 (by omega)
        refine r_imul hL dX8_write_40 ?_
        refine r_iload_n hL (x := t) dX8_write_41 rfl ?_
        refine r_iast hL dX8_write_42 (by decide) s_126 (by decide) (by omega) (by omega) (by omega) (fun μ1 hm1 => ?_)
        have hB1 : BI μ1 := by rw [hm1]; exact hB.up (by show (3 * z37) % 3 ≤ 1 → 0 ≤ t ∧ t ≤ 7; omega)
        have hk1_120_8 : μ1 120 8 = μ 120 8 := by rw [hm1]; exact congrFun (xup_c (by decide)) _
        refine r_aload_n hL (x := 120) dX8_write_43 rfl ?_
        refine r_getr hL xcl8 7 (by decide) s_120 (by decide) fl_X8_26 (by decide) f_120_7 dX8_write_44 ?_
        refine r_iconst hL dX8_write_47 ?_
        refine r_aload_n hL (x := 120) dX8_write_48 rfl ?_
        refine r_geti hL xcl8 8 (j' := 8) rfl (by decide) s_120 (by decide) fl_X8_168 (by decide) (by decide) dX8_write_49 (fun hr49 => ?_)
        obtain ⟨z49, hz49⟩ : ∃ z, z = μ1 120 8 := ⟨_, rfl⟩
        rw [← hz49] at hr49 ⊢
        have hb49 : 0 ≤ μ1 120 8 ∧ μ1 120 8 ≤ 20 := (show ((8 : Int) = 2 → 0 ≤ (μ1 120 8) ∧ (μ1 120 8) ≤ 16) ∧ ((8 : Int) = 6 → 0 ≤ (μ1 120 8) ∧ (μ1 120 8) ≤ 10) ∧ ((8 : Int) = 8 → 0 ≤ (μ1 120 8) ∧ (μ1 120 8) ≤ 20) ∧ ((8 : Int) = 9 → 0 ≤ (μ1 120 8) ∧ (μ1 120 8) ≤ 2147483647) ∧ ((8 : Int) = 11 → 0 ≤ (μ1 120 8) ∧ (μ1 120 8) ≤ 10) ∧ ((8 : Int) = 13 → 0 ≤ (μ1 120 8) ∧ (μ1 120 8) ≤ 10) ∧ ((8 : Int) = 20 → 0 ≤ (μ1 120 8) ∧ (μ1 120 8) ≤ 8) from hB1 120 8).2.2.1 (by omega)
        refine r_imul hL dX8_write_52 ?_
        refine r_iconst hL dX8_write_53 ?_
        refine r_iadd hL dX8_write_54 ?_
        refine r_iload_n hL (x := u) dX8_write_55 rfl ?_
        refine r_iast hL dX8_write_56 (by decide) s_126 (by decide) (by omega) (by omega) (by omega) (fun μ2 hm2 => ?_)
        have hB2 : BI μ2 := by rw [hm2]; exact hB1.up (by show ((3 * z49) + 1) % 3 ≤ 1 → 0 ≤ u ∧ u ≤ 7; omega)
        have hk2_120_8 : μ2 120 8 = μ1 120 8 := by rw [hm2]; exact congrFun (xup_c (by decide)) _
        refine r_aload_n hL (x := 120) dX8_write_57 rfl ?_
        refine r_getr hL xcl8 7 (by decide) s_120 (by decide) fl_X8_26 (by decide) f_120_7 dX8_write_58 ?_
        refine r_iconst hL dX8_write_61 ?_
        refine r_aload_n hL (x := 120) dX8_write_62 rfl ?_
        refine r_geti hL xcl8 8 (j' := 8) rfl (by decide) s_120 (by decide) fl_X8_168 (by decide) (by decide) dX8_write_63 (fun hr63 => ?_)
        obtain ⟨z63, hz63⟩ : ∃ z, z = μ2 120 8 := ⟨_, rfl⟩
        rw [← hz63] at hr63 ⊢
        have hb63 : 0 ≤ μ2 120 8 ∧ μ2 120 8 ≤ 20 := (show ((8 : Int) = 2 → 0 ≤ (μ2 120 8) ∧ (μ2 120 8) ≤ 16) ∧ ((8 : Int) = 6 → 0 ≤ (μ2 120 8) ∧ (μ2 120 8) ≤ 10) ∧ ((8 : Int) = 8 → 0 ≤ (μ2 120 8) ∧ (μ2 120 8) ≤ 20) ∧ ((8 : Int) = 9 → 0 ≤ (μ2 120 8) ∧ (μ2 120 8) ≤ 2147483647) ∧ ((8 : Int) = 11 → 0 ≤ (μ2 120 8) ∧ (μ2 120 8) ≤ 10) ∧ ((8 : Int) = 13 → 0 ≤ (μ2 120 8) ∧ (μ2 120 8) ≤ 10) ∧ ((8 : Int) = 20 → 0 ≤ (μ2 120 8) ∧ (μ2 120 8) ≤ 8) from hB2 120 8).2.2.1 (by omega)
        refine r_imul hL dX8_write_66 ?_
        refine r_iconst hL dX8_write_67 ?_
        refine r_iadd hL dX8_write_68 ?_
        refine r_iload_n hL (x := v) dX8_write_69 rfl ?_
        refine r_iast hL dX8_write_70 (by decide) s_126 (by decide) (by omega) (by omega) (by omega) (fun μ3 hm3 => ?_)
        have hB3 : BI μ3 := by rw [hm3]; exact hB2.up (by show ((3 * z63) + 2) % 3 ≤ 1 → 0 ≤ v ∧ v ≤ 7; omega)
        have hk3_120_8 : μ3 120 8 = μ2 120 8 := by rw [hm3]; exact congrFun (xup_c (by decide)) _
        refine r_aload_n hL (x := 120) dX8_write_71 rfl ?_
        refine r_dup hL dX8_write_72 rfl ?_
        refine r_geti hL xcl8 8 (j' := 8) rfl (by decide) s_120 (by decide) fl_X8_168 (by decide) (by decide) dX8_write_73 (fun hr73 => ?_)
        obtain ⟨z73, hz73⟩ : ∃ z, z = μ3 120 8 := ⟨_, rfl⟩
        rw [← hz73] at hr73 ⊢
        have hb73 : 0 ≤ μ3 120 8 ∧ μ3 120 8 ≤ 20 := (show ((8 : Int) = 2 → 0 ≤ (μ3 120 8) ∧ (μ3 120 8) ≤ 16) ∧ ((8 : Int) = 6 → 0 ≤ (μ3 120 8) ∧ (μ3 120 8) ≤ 10) ∧ ((8 : Int) = 8 → 0 ≤ (μ3 120 8) ∧ (μ3 120 8) ≤ 20) ∧ ((8 : Int) = 9 → 0 ≤ (μ3 120 8) ∧ (μ3 120 8) ≤ 2147483647) ∧ ((8 : Int) = 11 → 0 ≤ (μ3 120 8) ∧ (μ3 120 8) ≤ 10) ∧ ((8 : Int) = 13 → 0 ≤ (μ3 120 8) ∧ (μ3 120 8) ≤ 10) ∧ ((8 : Int) = 20 → 0 ≤ (μ3 120 8) ∧ (μ3 120 8) ≤ 8) from hB3 120 8).2.2.1 (by omega)
        refine r_iconst hL dX8_write_76 ?_
        refine r_iadd hL dX8_write_77 ?_
        refine r_puti hL xcl8 8 (j' := 8) rfl (by decide) s_120 (by decide) fl_X8_168 rfl rfl (by omega) dX8_write_78 (fun μ4 hm4 => ?_)
        have hB4 : BI μ4 := by rw [hm4]; exact hB3.up (by show ((8 : Int) = 2 → 0 ≤ (z73 + 1) ∧ (z73 + 1) ≤ 16) ∧ ((8 : Int) = 6 → 0 ≤ (z73 + 1) ∧ (z73 + 1) ≤ 10) ∧ ((8 : Int) = 8 → 0 ≤ (z73 + 1) ∧ (z73 + 1) ≤ 20) ∧ ((8 : Int) = 9 → 0 ≤ (z73 + 1) ∧ (z73 + 1) ≤ 2147483647) ∧ ((8 : Int) = 11 → 0 ≤ (z73 + 1) ∧ (z73 + 1) ≤ 10) ∧ ((8 : Int) = 13 → 0 ≤ (z73 + 1) ∧ (z73 + 1) ≤ 10) ∧ ((8 : Int) = 20 → 0 ≤ (z73 + 1) ∧ (z73 + 1) ≤ 8); omega)
        have hk4_120_8 : μ4 120 8 = z73 + 1 := by rw [hm4]; exact xup_s _ _ _ _
        refine r_aload_n hL (x := 120) dX8_write_81 rfl ?_
        refine r_geti hL xcl8 8 (j' := 8) rfl (by decide) s_120 (by decide) fl_X8_168 (by decide) (by decide) dX8_write_82 (fun hr82 => ?_)
        obtain ⟨z82, hz82⟩ : ∃ z, z = μ4 120 8 := ⟨_, rfl⟩
        rw [← hz82] at hr82 ⊢
        have hb82 : 0 ≤ μ4 120 8 ∧ μ4 120 8 ≤ 20 := (show ((8 : Int) = 2 → 0 ≤ (μ4 120 8) ∧ (μ4 120 8) ≤ 16) ∧ ((8 : Int) = 6 → 0 ≤ (μ4 120 8) ∧ (μ4 120 8) ≤ 10) ∧ ((8 : Int) = 8 → 0 ≤ (μ4 120 8) ∧ (μ4 120 8) ≤ 20) ∧ ((8 : Int) = 9 → 0 ≤ (μ4 120 8) ∧ (μ4 120 8) ≤ 2147483647) ∧ ((8 : Int) = 11 → 0 ≤ (μ4 120 8) ∧ (μ4 120 8) ≤ 10) ∧ ((8 : Int) = 13 → 0 ≤ (μ4 120 8) ∧ (μ4 120 8) ≤ 10) ∧ ((8 : Int) = 20 → 0 ≤ (μ4 120 8) ∧ (μ4 120 8) ≤ 8) from hB4 120 8).2.2.1 (by omega)
        exact r_iret hL dX8_write_85 rfl (hK _ _ hB4 (by omega))
      · skip
        refine r_ldc hL (n := -1000000004) dX8_write_28 kc_X8_160 (by decide) ?_
        exact r_iret hL dX8_write_30 rfl (hK _ _ hB (by omega))
    · skip
      refine r_ldc hL (n := -1000000001) dX8_write_16 kc_X8_183 (by decide) ?_
      exact r_iret hL dX8_write_18 rfl (hK _ _ hB (by omega))

set_option maxHeartbeats 4000000 in
set_option maxRecDepth 20000 in
theorem m_X8_tear {K : Option xV → xW → xM → Prop} {μ : xM} (hB0 : BI μ)  (hK : ∀ r μ', BI μ' → xrg r → K (some (xI r)) WW μ') : xMet yX8_tear cX8_tear 2 (some .int) 0 0 0 0 [xR 120] WW μ K := by
  refine xMet.go RX8 "tear" rfl rfl (by decide) [some (xR 120), none] (Nat.le_of_ble_eq_true rfl) rfl (fun X hL => ?_)
  have hB := hB0
  refine r_aload_n hL (x := 120) dX8_tear_0 rfl ?_
  refine r_geti hL xcl8 8 (j' := 8) rfl (by decide) s_120 (by decide) fl_X8_168 (by decide) (by decide) dX8_tear_1 (fun hr1 => ?_)
  obtain ⟨z1, hz1⟩ : ∃ z, z = μ 120 8 := ⟨_, rfl⟩
  rw [← hz1] at hr1 ⊢
  have hb1 : 0 ≤ μ 120 8 ∧ μ 120 8 ≤ 20 := (show ((8 : Int) = 2 → 0 ≤ (μ 120 8) ∧ (μ 120 8) ≤ 16) ∧ ((8 : Int) = 6 → 0 ≤ (μ 120 8) ∧ (μ 120 8) ≤ 10) ∧ ((8 : Int) = 8 → 0 ≤ (μ 120 8) ∧ (μ 120 8) ≤ 20) ∧ ((8 : Int) = 9 → 0 ≤ (μ 120 8) ∧ (μ 120 8) ≤ 2147483647) ∧ ((8 : Int) = 11 → 0 ≤ (μ 120 8) ∧ (μ 120 8) ≤ 10) ∧ ((8 : Int) = 13 → 0 ≤ (μ 120 8) ∧ (μ 120 8) ≤ 10) ∧ ((8 : Int) = 20 → 0 ≤ (μ 120 8) ∧ (μ 120 8) ≤ 8) from hB 120 8).2.2.1 (by omega)
  refine r_istore_n hL (lo' := [some (xR 120), some (xI z1)]) dX8_tear_4 (by decide) rfl ?_
  refine r_aload_n hL (x := 120) dX8_tear_5 rfl ?_
  refine r_iconst hL dX8_tear_6 ?_
  refine r_puti hL xcl8 8 (j' := 8) rfl (by decide) s_120 (by decide) fl_X8_168 rfl rfl (by omega) dX8_tear_7 (fun μ1 hm1 => ?_)
  have hB1 : BI μ1 := by rw [hm1]; exact hB.up (by show ((8 : Int) = 2 → 0 ≤ 0 ∧ 0 ≤ 16) ∧ ((8 : Int) = 6 → 0 ≤ 0 ∧ 0 ≤ 10) ∧ ((8 : Int) = 8 → 0 ≤ 0 ∧ 0 ≤ 20) ∧ ((8 : Int) = 9 → 0 ≤ 0 ∧ 0 ≤ 2147483647) ∧ ((8 : Int) = 11 → 0 ≤ 0 ∧ 0 ≤ 10) ∧ ((8 : Int) = 13 → 0 ≤ 0 ∧ 0 ≤ 10) ∧ ((8 : Int) = 20 → 0 ≤ 0 ∧ 0 ≤ 8); omega)
  refine r_iload_n hL (x := z1) dX8_tear_10 rfl ?_
  exact r_iret hL dX8_tear_11 rfl (hK _ _ hB1 (by omega))

set_option maxHeartbeats 4000000 in
set_option maxRecDepth 20000 in
theorem m_X8_seed {K : Option xV → xW → xM → Prop} {μ : xM} (hB0 : BI μ) (t : Int) (ht : xrg t) (hK : ∀ r μ', BI μ' → xrg r → K (some (xI r)) WW μ') : xMet yX8_seed cX8_seed 3 (some .int) 0 0 0 0 [xR 120, xI t] WW μ K := by
  refine xMet.go RX8 "seed" rfl rfl (by decide) [some (xR 120), some (xI t), none] (Nat.le_of_ble_eq_true rfl) rfl (fun X hL => ?_)
  have hB := hB0
  refine r_iload_n hL (x := t) dX8_seed_0 rfl ?_
  refine r_if_ge hL (tgt := 7) dX8_seed_1 (by decide) (by omega) (fun c1 => ?_) (fun c1 => ?_)
  · skip
    refine r_aload_n hL (x := 120) dX8_seed_7 rfl ?_
    refine r_geti hL xcl8 9 (j' := 9) rfl (by decide) s_120 (by decide) fl_X8_205 (by decide) (by decide) dX8_seed_8 (fun hr8 => ?_)
    obtain ⟨z8, hz8⟩ : ∃ z, z = μ 120 9 := ⟨_, rfl⟩
    rw [← hz8] at hr8 ⊢
    have hb8 : 0 ≤ μ 120 9 ∧ μ 120 9 ≤ 2147483647 := (show ((9 : Int) = 2 → 0 ≤ (μ 120 9) ∧ (μ 120 9) ≤ 16) ∧ ((9 : Int) = 6 → 0 ≤ (μ 120 9) ∧ (μ 120 9) ≤ 10) ∧ ((9 : Int) = 8 → 0 ≤ (μ 120 9) ∧ (μ 120 9) ≤ 20) ∧ ((9 : Int) = 9 → 0 ≤ (μ 120 9) ∧ (μ 120 9) ≤ 2147483647) ∧ ((9 : Int) = 11 → 0 ≤ (μ 120 9) ∧ (μ 120 9) ≤ 10) ∧ ((9 : Int) = 13 → 0 ≤ (μ 120 9) ∧ (μ 120 9) ≤ 10) ∧ ((9 : Int) = 20 → 0 ≤ (μ 120 9) ∧ (μ 120 9) ≤ 8) from hB 120 9).2.2.2.1 (by omega)
    refine r_istore_n hL (lo' := [some (xR 120), some (xI t), some (xI z8)]) dX8_seed_11 (by decide) rfl ?_
    refine r_aload_n hL (x := 120) dX8_seed_12 rfl ?_
    refine r_iload_n hL (x := t) dX8_seed_13 rfl ?_
    refine r_puti hL xcl8 9 (j' := 9) rfl (by decide) s_120 (by decide) fl_X8_205 rfl rfl (by omega) dX8_seed_14 (fun μ1 hm1 => ?_)
    have hB1 : BI μ1 := by rw [hm1]; exact hB.up (by show ((9 : Int) = 2 → 0 ≤ t ∧ t ≤ 16) ∧ ((9 : Int) = 6 → 0 ≤ t ∧ t ≤ 10) ∧ ((9 : Int) = 8 → 0 ≤ t ∧ t ≤ 20) ∧ ((9 : Int) = 9 → 0 ≤ t ∧ t ≤ 2147483647) ∧ ((9 : Int) = 11 → 0 ≤ t ∧ t ≤ 10) ∧ ((9 : Int) = 13 → 0 ≤ t ∧ t ≤ 10) ∧ ((9 : Int) = 20 → 0 ≤ t ∧ t ≤ 8); omega)
    refine r_iload_n hL (x := z8) dX8_seed_17 rfl ?_
    exact r_iret hL dX8_seed_18 rfl (hK _ _ hB1 (by omega))
  · skip
    refine r_ldc hL (n := -1000000002) dX8_seed_4 kc_X8_159 (by decide) ?_
    exact r_iret hL dX8_seed_6 rfl (hK _ _ hB (by omega))

set_option maxHeartbeats 4000000 in
set_option maxRecDepth 20000 in
theorem m_X8_keep {K : Option xV → xW → xM → Prop} {μ : xM} (hB0 : BI μ) (t : Int) (ht : xrg t) (hK : ∀ r μ', BI μ' → (0 ≤ t ∧ t ≤ 1 ∧ r = 1) ∨ (¬ (0 ≤ t ∧ t ≤ 1) ∧ r = -1000000001) → K (some (xI r)) WW μ') : xMet yX8_keep cX8_keep 2 (some .int) 1 25 0 0 [xR 120, xI t] WW μ K := by
  refine xMet.go RX8 "keep" rfl rfl (by decide) [some (xR 120), some (xI t)] (Nat.le_of_ble_eq_true rfl) rfl (fun X hL => ?_)
  have hB := hB0
  refine r_iload_n hL (x := t) dX8_keep_0 rfl ?_
  refine r_iconst hL dX8_keep_1 ?_
  refine r_iconst hL dX8_keep_2 ?_
  refine r_callS hL (st := []) (av := [xI t, xI 0, xI 1]) (m_X8_in (μ := μ) t (by omega) 0 (by omega) 1 (by omega) (fun z3 hc3 => ⟨rfl, ?_⟩)) ce_yX8_in sm_yX8_in ml_X8_62 dX8_keep_3 rfl (Nat.le_of_ble_eq_true rfl) ⟨Nat.le_of_ble_eq_true rfl, Nat.le_of_ble_eq_true rfl⟩ ⟨Nat.le_of_ble_eq_true rfl, Nat.le_of_ble_eq_true rfl⟩
  show X 0 0 WW μ 6 [some (xR 120), some (xI t)] [xI z3]
  refine r_if_ne hL (tgt := 12) dX8_keep_6 (by decide) (by omega) (fun c6 => ?_) (fun c6 => ?_)
  · skip
    refine r_aload_n hL (x := 120) dX8_keep_12 rfl ?_
    refine r_getr hL xcl8 4 (by decide) s_120 (by decide) fl_X8_19 (by decide) f_120_4 dX8_keep_13 ?_
    refine r_iload_n hL (x := t) dX8_keep_16 rfl ?_
    refine r_iconst hL dX8_keep_17 ?_
    refine r_zast hL dX8_keep_18 (by decide) s_124 (by decide) (by omega) (by omega) (by omega) (fun μ1 hm1 => ?_)
    have hB1 : BI μ1 := by rw [hm1]; exact hB.up trivial
    refine r_aload_n hL (x := 120) dX8_keep_19 rfl ?_
    refine r_getr hL xcl8 0 (by decide) s_120 (by decide) fl_X8_7 (by decide) f_120_0 dX8_keep_20 ?_
    refine r_iconst hL dX8_keep_23 ?_
    refine r_aload_n hL (x := 120) dX8_keep_24 rfl ?_
    refine r_getr hL xcl8 3 (by decide) s_120 (by decide) fl_X8_16 (by decide) f_120_3 dX8_keep_25 ?_
    refine r_bipush hL dX8_keep_28 (by decide) ?_
    refine r_iload_n hL (x := t) dX8_keep_30 rfl ?_
    refine r_imul hL dX8_keep_31 ?_
    refine r_bipush hL dX8_keep_32 (by decide) ?_
    refine r_callS hL (st := []) (av := [xR 121, xI 0, xR 123, xI (111 * t), xI 110]) (m_X8_bring (μ := μ1) 121 110 (by decide) s_121 (by decide) 0 123 222 (by decide) s_123 (by decide) (111 * t) 110 (by omega) (by omega) (fun h => absurd h (by decide)) (fun μ34c hm34c => ⟨rfl, ?_⟩)) ce_yX8_bring sm_yX8_bring ml_X8_73 dX8_keep_34 rfl (Nat.le_of_ble_eq_true rfl) ⟨Nat.le_of_ble_eq_true rfl, Nat.le_of_ble_eq_true rfl⟩ ⟨Nat.le_of_ble_eq_true rfl, Nat.le_of_ble_eq_true rfl⟩
    show X 0 0 WW μ34c 37 [some (xR 120), some (xI t)] []
    have hB34c : BI μ34c := by rw [hm34c]; exact hB1.br (fun k hk0 hk1 => by have hq : ((0 + k) = 0 → 0 ≤ (μ1 121 (0 + k)) ∧ (μ1 121 (0 + k)) ≤ 8) ∧ ((0 + k) = 1 → 0 ≤ (μ1 121 (0 + k)) ∧ (μ1 121 (0 + k)) ≤ 2) ∧ (2 ≤ (0 + k) ∧ (0 + k) ≤ 5 → 0 ≤ (μ1 121 (0 + k)) ∧ (μ1 121 (0 + k)) ≤ 9) ∧ (6 ≤ (0 + k) ∧ (0 + k) ≤ 13 → 0 ≤ (μ1 121 (0 + k)) ∧ (μ1 121 (0 + k)) ≤ 10) ∧ (30 ≤ (0 + k) → 0 ≤ (μ1 121 (0 + k)) ∧ (μ1 121 (0 + k)) ≤ 7) := hB1 121 _; show (((111 * t) + k) % 111 = 0 → 0 ≤ (μ1 121 (0 + k)) ∧ (μ1 121 (0 + k)) ≤ 8) ∧ (((111 * t) + k) % 111 = 1 → 0 ≤ (μ1 121 (0 + k)) ∧ (μ1 121 (0 + k)) ≤ 2) ∧ (2 ≤ ((111 * t) + k) % 111 ∧ ((111 * t) + k) % 111 ≤ 5 → 0 ≤ (μ1 121 (0 + k)) ∧ (μ1 121 (0 + k)) ≤ 9) ∧ (6 ≤ ((111 * t) + k) % 111 ∧ ((111 * t) + k) % 111 ≤ 13 → 0 ≤ (μ1 121 (0 + k)) ∧ (μ1 121 (0 + k)) ≤ 10) ∧ (30 ≤ ((111 * t) + k) % 111 ∧ ((111 * t) + k) % 111 ≤ 109 → 0 ≤ (μ1 121 (0 + k)) ∧ (μ1 121 (0 + k)) ≤ 7) ∧ (((111 * t) + k) % 111 = 110 → 0 ≤ (μ1 121 (0 + k)) ∧ (μ1 121 (0 + k)) ≤ 2147483647); rw [show ((111 * t) + k) % 111 = 0 + k by omega]; exact ⟨hq.1, hq.2.1, hq.2.2.1, hq.2.2.2.1, fun h => hq.2.2.2.2 h.1, fun h => by omega⟩)
    refine r_aload_n hL (x := 120) dX8_keep_37 rfl ?_
    refine r_getr hL xcl8 3 (by decide) s_120 (by decide) fl_X8_16 (by decide) f_120_3 dX8_keep_38 ?_
    refine r_bipush hL dX8_keep_41 (by decide) ?_
    refine r_iload_n hL (x := t) dX8_keep_43 rfl ?_
    refine r_imul hL dX8_keep_44 ?_
    refine r_bipush hL dX8_keep_45 (by decide) ?_
    refine r_iadd hL dX8_keep_47 ?_
    refine r_aload_n hL (x := 120) dX8_keep_48 rfl ?_
    refine r_geti hL xcl8 9 (j' := 9) rfl (by decide) s_120 (by decide) fl_X8_205 (by decide) (by decide) dX8_keep_49 (fun hr49 => ?_)
    obtain ⟨z49, hz49⟩ : ∃ z, z = μ34c 120 9 := ⟨_, rfl⟩
    rw [← hz49] at hr49 ⊢
    have hb49 : 0 ≤ μ34c 120 9 ∧ μ34c 120 9 ≤ 2147483647 := (show ((9 : Int) = 2 → 0 ≤ (μ34c 120 9) ∧ (μ34c 120 9) ≤ 16) ∧ ((9 : Int) = 6 → 0 ≤ (μ34c 120 9) ∧ (μ34c 120 9) ≤ 10) ∧ ((9 : Int) = 8 → 0 ≤ (μ34c 120 9) ∧ (μ34c 120 9) ≤ 20) ∧ ((9 : Int) = 9 → 0 ≤ (μ34c 120 9) ∧ (μ34c 120 9) ≤ 2147483647) ∧ ((9 : Int) = 11 → 0 ≤ (μ34c 120 9) ∧ (μ34c 120 9) ≤ 10) ∧ ((9 : Int) = 13 → 0 ≤ (μ34c 120 9) ∧ (μ34c 120 9) ≤ 10) ∧ ((9 : Int) = 20 → 0 ≤ (μ34c 120 9) ∧ (μ34c 120 9) ≤ 8) from hB34c 120 9).2.2.2.1 (by omega)
    refine r_iast hL dX8_keep_52 (by decide) s_123 (by decide) (by omega) (by omega) (by omega) (fun μ2 hm2 => ?_)
    have hB2 : BI μ2 := by rw [hm2]; exact hB34c.up (by show (((111 * t) + 110) % 111 = 0 → 0 ≤ z49 ∧ z49 ≤ 8) ∧ (((111 * t) + 110) % 111 = 1 → 0 ≤ z49 ∧ z49 ≤ 2) ∧ (2 ≤ ((111 * t) + 110) % 111 ∧ ((111 * t) + 110) % 111 ≤ 5 → 0 ≤ z49 ∧ z49 ≤ 9) ∧ (6 ≤ ((111 * t) + 110) % 111 ∧ ((111 * t) + 110) % 111 ≤ 13 → 0 ≤ z49 ∧ z49 ≤ 10) ∧ (30 ≤ ((111 * t) + 110) % 111 ∧ ((111 * t) + 110) % 111 ≤ 109 → 0 ≤ z49 ∧ z49 ≤ 7) ∧ (((111 * t) + 110) % 111 = 110 → 0 ≤ z49 ∧ z49 ≤ 2147483647); rw [show ((111 * t) + 110) % 111 = 110 by omega]; omega)
    refine r_aload_n hL (x := 120) dX8_keep_53 rfl ?_
    refine r_iconst hL dX8_keep_54 ?_
    refine r_puti hL xcl8 2 (j' := 2) rfl (by decide) s_120 (by decide) fl_X8_161 rfl rfl (by omega) dX8_keep_55 (fun μ3 hm3 => ?_)
    have hB3 : BI μ3 := by rw [hm3]; exact hB2.up (by show ((2 : Int) = 2 → 0 ≤ 0 ∧ 0 ≤ 16) ∧ ((2 : Int) = 6 → 0 ≤ 0 ∧ 0 ≤ 10) ∧ ((2 : Int) = 8 → 0 ≤ 0 ∧ 0 ≤ 20) ∧ ((2 : Int) = 9 → 0 ≤ 0 ∧ 0 ≤ 2147483647) ∧ ((2 : Int) = 11 → 0 ≤ 0 ∧ 0 ≤ 10) ∧ ((2 : Int) = 13 → 0 ≤ 0 ∧ 0 ≤ 10) ∧ ((2 : Int) = 20 → 0 ≤ 0 ∧ 0 ≤ 8); omega)
    refine r_iconst hL dX8_keep_58 ?_
    exact r_iret hL dX8_keep_59 rfl (hK _ _ hB3 (by omega))
  · skip
    refine r_ldc hL (n := -1000000001) dX8_keep_9 kc_X8_183 (by decide) ?_
    exact r_iret hL dX8_keep_11 rfl (hK _ _ hB (by omega))

set_option maxHeartbeats 4000000 in
set_option maxRecDepth 20000 in
theorem m_X8_goBack {K : Option xV → xW → xM → Prop} {μ : xM} (hB0 : BI μ) (t : Int) (ht : xrg t) (hK : ∀ r μ', BI μ' → xrg r → K (some (xI r)) WW μ') : xMet yX8_goBack cX8_goBack 2 (some .int) 1 25 0 0 [xR 120, xI t] WW μ K := by
  refine xMet.go RX8 "goBack" rfl rfl (by decide) [some (xR 120), some (xI t)] (Nat.le_of_ble_eq_true rfl) rfl (fun X hL => ?_)
  have hB := hB0
  refine r_iload_n hL (x := t) dX8_goBack_0 rfl ?_
  refine r_iconst hL dX8_goBack_1 ?_
  refine r_iconst hL dX8_goBack_2 ?_
  refine r_callS hL (st := []) (av := [xI t, xI 0, xI 1]) (m_X8_in (μ := μ) t (by omega) 0 (by omega) 1 (by omega) (fun z3 hc3 => ⟨rfl, ?_⟩)) ce_yX8_in sm_yX8_in ml_X8_62 dX8_goBack_3 rfl (Nat.le_of_ble_eq_true rfl) ⟨Nat.le_of_ble_eq_true rfl, Nat.le_of_ble_eq_true rfl⟩ ⟨Nat.le_of_ble_eq_true rfl, Nat.le_of_ble_eq_true rfl⟩
  show X 0 0 WW μ 6 [some (xR 120), some (xI t)] [xI z3]
  refine r_if_ne hL (tgt := 12) dX8_goBack_6 (by decide) (by omega) (fun c6 => ?_) (fun c6 => ?_)
  · skip
    refine r_aload_n hL (x := 120) dX8_goBack_12 rfl ?_
    refine r_getr hL xcl8 4 (by decide) s_120 (by decide) fl_X8_19 (by decide) f_120_4 dX8_goBack_13 ?_
    refine r_iload_n hL (x := t) dX8_goBack_16 rfl ?_
    refine r_zald hL dX8_goBack_17 (by decide) s_124 (by decide) (by omega) (by omega) (fun hr17 => ?_)
    obtain ⟨z17, hz17⟩ : ∃ z, z = μ 124 t := ⟨_, rfl⟩
    rw [← hz17] at hr17 ⊢
    refine r_if_ne hL (tgt := 24) dX8_goBack_18 (by decide) (by omega) (fun c18 => ?_) (fun c18 => ?_)
    · skip
      refine r_aload_n hL (x := 120) dX8_goBack_24 rfl ?_
      refine r_getr hL xcl8 3 (by decide) s_120 (by decide) fl_X8_16 (by decide) f_120_3 dX8_goBack_25 ?_
      refine r_bipush hL dX8_goBack_28 (by decide) ?_
      refine r_iload_n hL (x := t) dX8_goBack_30 rfl ?_
      refine r_imul hL dX8_goBack_31 ?_
      refine r_aload_n hL (x := 120) dX8_goBack_32 rfl ?_
      refine r_getr hL xcl8 0 (by decide) s_120 (by decide) fl_X8_7 (by decide) f_120_0 dX8_goBack_33 ?_
      refine r_iconst hL dX8_goBack_36 ?_
      refine r_bipush hL dX8_goBack_37 (by decide) ?_
      refine r_callS hL (st := []) (av := [xR 123, xI (111 * t), xR 121, xI 0, xI 110]) (m_X8_bring (μ := μ) 123 222 (by decide) s_123 (by decide) (111 * t) 121 110 (by decide) s_121 (by decide) 0 110 (by omega) (by omega) (fun h => absurd h (by decide)) (fun μ39c hm39c => ⟨rfl, ?_⟩)) ce_yX8_bring sm_yX8_bring ml_X8_73 dX8_goBack_39 rfl (Nat.le_of_ble_eq_true rfl) ⟨Nat.le_of_ble_eq_true rfl, Nat.le_of_ble_eq_true rfl⟩ ⟨Nat.le_of_ble_eq_true rfl, Nat.le_of_ble_eq_true rfl⟩
      show X 0 0 WW μ39c 42 [some (xR 120), some (xI t)] []
      have hB39c : BI μ39c := by rw [hm39c]; exact hB.br (fun k hk0 hk1 => by have hq : (((111 * t) + k) % 111 = 0 → 0 ≤ (μ 123 ((111 * t) + k)) ∧ (μ 123 ((111 * t) + k)) ≤ 8) ∧ (((111 * t) + k) % 111 = 1 → 0 ≤ (μ 123 ((111 * t) + k)) ∧ (μ 123 ((111 * t) + k)) ≤ 2) ∧ (2 ≤ ((111 * t) + k) % 111 ∧ ((111 * t) + k) % 111 ≤ 5 → 0 ≤ (μ 123 ((111 * t) + k)) ∧ (μ 123 ((111 * t) + k)) ≤ 9) ∧ (6 ≤ ((111 * t) + k) % 111 ∧ ((111 * t) + k) % 111 ≤ 13 → 0 ≤ (μ 123 ((111 * t) + k)) ∧ (μ 123 ((111 * t) + k)) ≤ 10) ∧ (30 ≤ ((111 * t) + k) % 111 ∧ ((111 * t) + k) % 111 ≤ 109 → 0 ≤ (μ 123 ((111 * t) + k)) ∧ (μ 123 ((111 * t) + k)) ≤ 7) ∧ (((111 * t) + k) % 111 = 110 → 0 ≤ (μ 123 ((111 * t) + k)) ∧ (μ 123 ((111 * t) + k)) ≤ 2147483647) := hB 123 _; show ((0 + k) = 0 → 0 ≤ (μ 123 ((111 * t) + k)) ∧ (μ 123 ((111 * t) + k)) ≤ 8) ∧ ((0 + k) = 1 → 0 ≤ (μ 123 ((111 * t) + k)) ∧ (μ 123 ((111 * t) + k)) ≤ 2) ∧ (2 ≤ (0 + k) ∧ (0 + k) ≤ 5 → 0 ≤ (μ 123 ((111 * t) + k)) ∧ (μ 123 ((111 * t) + k)) ≤ 9) ∧ (6 ≤ (0 + k) ∧ (0 + k) ≤ 13 → 0 ≤ (μ 123 ((111 * t) + k)) ∧ (μ 123 ((111 * t) + k)) ≤ 10) ∧ (30 ≤ (0 + k) → 0 ≤ (μ 123 ((111 * t) + k)) ∧ (μ 123 ((111 * t) + k)) ≤ 7); rw [show ((111 * t) + k) % 111 = 0 + k by omega] at hq; exact ⟨hq.1, hq.2.1, hq.2.2.1, hq.2.2.2.1, fun h => hq.2.2.2.2.1 ⟨h, by omega⟩⟩)
      refine r_aload_n hL (x := 120) dX8_goBack_42 rfl ?_
      refine r_aload_n hL (x := 120) dX8_goBack_43 rfl ?_
      refine r_getr hL xcl8 3 (by decide) s_120 (by decide) fl_X8_16 (by decide) f_120_3 dX8_goBack_44 ?_
      refine r_bipush hL dX8_goBack_47 (by decide) ?_
      refine r_iload_n hL (x := t) dX8_goBack_49 rfl ?_
      refine r_imul hL dX8_goBack_50 ?_
      refine r_bipush hL dX8_goBack_51 (by decide) ?_
      refine r_iadd hL dX8_goBack_53 ?_
      refine r_iald hL dX8_goBack_54 (by decide) s_123 (by decide) (by omega) (by omega) (fun hr54 => ?_)
      obtain ⟨z54, hz54⟩ : ∃ z, z = μ39c 123 ((111 * t) + 110) := ⟨_, rfl⟩
      rw [← hz54] at hr54 ⊢
      have hb54 : 0 ≤ μ39c 123 ((111 * t) + 110) ∧ μ39c 123 ((111 * t) + 110) ≤ 2147483647 := (show (((111 * t) + 110) % 111 = 0 → 0 ≤ (μ39c 123 ((111 * t) + 110)) ∧ (μ39c 123 ((111 * t) + 110)) ≤ 8) ∧ (((111 * t) + 110) % 111 = 1 → 0 ≤ (μ39c 123 ((111 * t) + 110)) ∧ (μ39c 123 ((111 * t) + 110)) ≤ 2) ∧ (2 ≤ ((111 * t) + 110) % 111 ∧ ((111 * t) + 110) % 111 ≤ 5 → 0 ≤ (μ39c 123 ((111 * t) + 110)) ∧ (μ39c 123 ((111 * t) + 110)) ≤ 9) ∧ (6 ≤ ((111 * t) + 110) % 111 ∧ ((111 * t) + 110) % 111 ≤ 13 → 0 ≤ (μ39c 123 ((111 * t) + 110)) ∧ (μ39c 123 ((111 * t) + 110)) ≤ 10) ∧ (30 ≤ ((111 * t) + 110) % 111 ∧ ((111 * t) + 110) % 111 ≤ 109 → 0 ≤ (μ39c 123 ((111 * t) + 110)) ∧ (μ39c 123 ((111 * t) + 110)) ≤ 7) ∧ (((111 * t) + 110) % 111 = 110 → 0 ≤ (μ39c 123 ((111 * t) + 110)) ∧ (μ39c 123 ((111 * t) + 110)) ≤ 2147483647) from hB39c 123 ((111 * t) + 110)).2.2.2.2.2 (by omega)
      refine r_puti hL xcl8 9 (j' := 9) rfl (by decide) s_120 (by decide) fl_X8_205 rfl rfl (by omega) dX8_goBack_55 (fun μ1 hm1 => ?_)
      have hB1 : BI μ1 := by rw [hm1]; exact hB39c.up (by show ((9 : Int) = 2 → 0 ≤ z54 ∧ z54 ≤ 16) ∧ ((9 : Int) = 6 → 0 ≤ z54 ∧ z54 ≤ 10) ∧ ((9 : Int) = 8 → 0 ≤ z54 ∧ z54 ≤ 20) ∧ ((9 : Int) = 9 → 0 ≤ z54 ∧ z54 ≤ 2147483647) ∧ ((9 : Int) = 11 → 0 ≤ z54 ∧ z54 ≤ 10) ∧ ((9 : Int) = 13 → 0 ≤ z54 ∧ z54 ≤ 10) ∧ ((9 : Int) = 20 → 0 ≤ z54 ∧ z54 ≤ 8); omega)
      refine r_aload_n hL (x := 120) dX8_goBack_58 rfl ?_
      refine r_iconst hL dX8_goBack_59 ?_
      refine r_puti hL xcl8 2 (j' := 2) rfl (by decide) s_120 (by decide) fl_X8_161 rfl rfl (by omega) dX8_goBack_60 (fun μ2 hm2 => ?_)
      have hB2 : BI μ2 := by rw [hm2]; exact hB1.up (by show ((2 : Int) = 2 → 0 ≤ 0 ∧ 0 ≤ 16) ∧ ((2 : Int) = 6 → 0 ≤ 0 ∧ 0 ≤ 10) ∧ ((2 : Int) = 8 → 0 ≤ 0 ∧ 0 ≤ 20) ∧ ((2 : Int) = 9 → 0 ≤ 0 ∧ 0 ≤ 2147483647) ∧ ((2 : Int) = 11 → 0 ≤ 0 ∧ 0 ≤ 10) ∧ ((2 : Int) = 13 → 0 ≤ 0 ∧ 0 ≤ 10) ∧ ((2 : Int) = 20 → 0 ≤ 0 ∧ 0 ≤ 8); omega)
      refine r_iconst hL dX8_goBack_63 ?_
      exact r_iret hL dX8_goBack_64 rfl (hK _ _ hB2 (by omega))
    · skip
      refine r_ldc hL (n := -1000000003) dX8_goBack_21 kc_X8_164 (by decide) ?_
      exact r_iret hL dX8_goBack_23 rfl (hK _ _ hB (by omega))
  · skip
    refine r_ldc hL (n := -1000000001) dX8_goBack_9 kc_X8_183 (by decide) ?_
    exact r_iret hL dX8_goBack_11 rfl (hK _ _ hB (by omega))
