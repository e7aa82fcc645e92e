set_option maxHeartbeats 4000000 in
set_option maxRecDepth 20000 in
theorem m_X8_told {K : Option xV → xW → xM → Prop} {μ : xM} (hB0 : BI μ) (t : Int) (ht : xrg t) (hK : ∀ r μ', BI μ' → Fr RM μ μ' → xrg r → K (some (xI r)) WW μ') : xMet yX8_told cX8_told 2 (some .int) 6 141 0 0 [xR 120, xI t] WW μ K := by
  refine xMet.go RX8 "told" rfl rfl (by decide) [some (xR 120), some (xI t)] (Nat.le_of_ble_eq_true rfl) rfl (fun X hL => ?_)
  have hB := hB0
  have hF : Fr RM μ μ := Fr.rf
  refine r_iload_n hL (x := t) dX8_told_0 rfl ?_
  by_cases e1 : 0 ≤ t ∧ t ≤ 8
  · skip
    rcases (show t = 0 ∨ t = 1 ∨ t = 2 ∨ t = 3 ∨ t = 4 ∨ t = 5 ∨ t = 6 ∨ t = 7 ∨ t = 8 by omega) with e1 | e1 | e1 | e1 | e1 | e1 | e1 | e1 | e1
    · skip
      refine r_tableIn hL (tgt := 52) (off := 51) 0 dX8_told_1 (by omega) e1 (by decide) (by decide) rfl (by decide) ?_
      refine r_aload_n hL (x := 120) dX8_told_52 rfl ?_
      refine r_getr hL xcl8 0 (by decide) s_120 (by decide) fl_X8_7 (by decide) f_120_0 dX8_told_53 ?_
      refine r_iconst hL dX8_told_56 ?_
      refine r_iald hL dX8_told_57 (by decide) s_121 (by decide) (by omega) (by omega) (fun hr57 => ?_)
      obtain ⟨z57, hz57⟩ : ∃ z, z = μ 121 0 := ⟨_, rfl⟩
      rw [← hz57] at hr57 ⊢
      have hb57 : 0 ≤ μ 121 0 ∧ μ 121 0 ≤ 8 := (show ((0 : Int) = 0 → 0 ≤ (μ 121 0) ∧ (μ 121 0) ≤ 8) ∧ ((0 : Int) = 1 → 0 ≤ (μ 121 0) ∧ (μ 121 0) ≤ 2) ∧ (2 ≤ (0 : Int) ∧ (0 : Int) ≤ 5 → 0 ≤ (μ 121 0) ∧ (μ 121 0) ≤ 9) ∧ (6 ≤ (0 : Int) ∧ (0 : Int) ≤ 13 → 0 ≤ (μ 121 0) ∧ (μ 121 0) ≤ 10) ∧ (30 ≤ (0 : Int) → 0 ≤ (μ 121 0) ∧ (μ 121 0) ≤ 7) from hB 121 0).1 (by omega)
      exact r_iret hL dX8_told_58 rfl (hK _ _ hB hF (by omega))
    · skip
      refine r_tableIn hL (tgt := 59) (off := 58) 1 dX8_told_1 (by omega) e1 (by decide) (by decide) rfl (by decide) ?_
      refine r_aload_n hL (x := 120) dX8_told_59 rfl ?_
      refine r_geti hL xcl8 6 (j' := 6) rfl (by decide) s_120 (by decide) fl_X8_149 (by decide) (by decide) dX8_told_60 (fun hr60 => ?_)
      obtain ⟨z60, hz60⟩ : ∃ z, z = μ 120 6 := ⟨_, rfl⟩
      rw [← hz60] at hr60 ⊢
      have hb60 : 0 ≤ μ 120 6 ∧ μ 120 6 ≤ 10 := (show ((6 : Int) = 2 → 0 ≤ (μ 120 6) ∧ (μ 120 6) ≤ 16) ∧ ((6 : Int) = 6 → 0 ≤ (μ 120 6) ∧ (μ 120 6) ≤ 10) ∧ ((6 : Int) = 8 → 0 ≤ (μ 120 6) ∧ (μ 120 6) ≤ 20) ∧ ((6 : Int) = 9 → 0 ≤ (μ 120 6) ∧ (μ 120 6) ≤ 2147483647) ∧ ((6 : Int) = 11 → 0 ≤ (μ 120 6) ∧ (μ 120 6) ≤ 10) ∧ ((6 : Int) = 13 → 0 ≤ (μ 120 6) ∧ (μ 120 6) ≤ 10) ∧ ((6 : Int) = 20 → 0 ≤ (μ 120 6) ∧ (μ 120 6) ≤ 8) from hB 120 6).2.1 (by omega)
      exact r_iret hL dX8_told_63 rfl (hK _ _ hB hF (by omega))
    · skip
      refine r_tableIn hL (tgt := 64) (off := 63) 2 dX8_told_1 (by omega) e1 (by decide) (by decide) rfl (by decide) ?_
      refine r_aload_n hL (x := 120) dX8_told_64 rfl ?_
      refine r_getr hL xcl8 0 (by decide) s_120 (by decide) fl_X8_7 (by decide) f_120_0 dX8_told_65 ?_
      refine r_iconst hL dX8_told_68 ?_
      refine r_iald hL dX8_told_69 (by decide) s_121 (by decide) (by omega) (by omega) (fun hr69 => ?_)
      obtain ⟨z69, hz69⟩ : ∃ z, z = μ 121 1 := ⟨_, rfl⟩
      rw [← hz69] at hr69 ⊢
      have hb69 : 0 ≤ μ 121 1 ∧ μ 121 1 ≤ 2 := (show ((1 : Int) = 0 → 0 ≤ (μ 121 1) ∧ (μ 121 1) ≤ 8) ∧ ((1 : Int) = 1 → 0 ≤ (μ 121 1) ∧ (μ 121 1) ≤ 2) ∧ (2 ≤ (1 : Int) ∧ (1 : Int) ≤ 5 → 0 ≤ (μ 121 1) ∧ (μ 121 1) ≤ 9) ∧ (6 ≤ (1 : Int) ∧ (1 : Int) ≤ 13 → 0 ≤ (μ 121 1) ∧ (μ 121 1) ≤ 10) ∧ (30 ≤ (1 : Int) → 0 ≤ (μ 121 1) ∧ (μ 121 1) ≤ 7) from hB 121 1).2.1 (by omega)
      exact r_iret hL dX8_told_70 rfl (hK _ _ hB hF (by omega))
    · skip
      refine r_tableIn hL (tgt := 71) (off := 70) 3 dX8_told_1 (by omega) e1 (by decide) (by decide) rfl (by decide) ?_
      refine r_aload_n hL (x := 120) dX8_told_71 rfl ?_
      refine r_callV hL (st := []) (av := []) (k := 120) (m_X8_nodesMany (μ := μ) hB  (fun z72 hc72 hc72_1 hc72_2 => ⟨rfl, ?_⟩)) ce_yX8_nodesMany im_yX8_nodesMany se_yX8_nodesMany ml_X8_142 xcl8 (by decide) s_120 dX8_told_72 rfl (Nat.le_of_ble_eq_true rfl) ⟨Nat.le_of_ble_eq_true rfl, Nat.le_of_ble_eq_true rfl⟩ ⟨Nat.le_of_ble_eq_true rfl, Nat.le_of_ble_eq_true rfl⟩
      show X 0 0 WW μ 75 [some (xR 120), some (xI t)] [xI z72]
      exact r_iret hL dX8_told_75 rfl (hK _ _ hB hF (by omega))
    · skip
      refine r_tableIn hL (tgt := 76) (off := 75) 4 dX8_told_1 (by omega) e1 (by decide) (by decide) rfl (by decide) ?_
      refine r_aload_n hL (x := 120) dX8_told_76 rfl ?_
      refine r_callV hL (st := []) (av := []) (k := 120) (m_X8_likeTyped (μ := μ) hB  (fun z77 μ77c hB77c hG77 hc77 => ⟨rfl, ?_⟩)) ce_yX8_likeTyped im_yX8_likeTyped se_yX8_likeTyped ml_X8_174 xcl8 (by decide) s_120 dX8_told_77 rfl (Nat.le_of_ble_eq_true rfl) ⟨Nat.le_of_ble_eq_true rfl, Nat.le_of_ble_eq_true rfl⟩ ⟨Nat.le_of_ble_eq_true rfl, Nat.le_of_ble_eq_true rfl⟩
      show X 0 0 WW μ77c 80 [some (xR 120), some (xI t)] [xI z77]
      have hF77c : Fr RM μ μ77c := hF.trans hG77
      exact r_iret hL dX8_told_80 rfl (hK _ _ hB77c hF77c (by omega))
    · skip
      refine r_tableIn hL (tgt := 81) (off := 80) 5 dX8_told_1 (by omega) e1 (by decide) (by decide) rfl (by decide) ?_
      refine r_aload_n hL (x := 120) dX8_told_81 rfl ?_
      refine r_sipush hL dX8_told_82 (by decide) ?_
      refine r_callV hL (st := []) (av := [xI 255]) (k := 120) (m_X8_allHave (μ := μ) hB 255 (by omega) (fun z85 heq85 hc85 => ⟨rfl, ?_⟩)) ce_yX8_allHave im_yX8_allHave se_yX8_allHave ml_X8_177 xcl8 (by decide) s_120 dX8_told_85 rfl (Nat.le_of_ble_eq_true rfl) ⟨Nat.le_of_ble_eq_true rfl, Nat.le_of_ble_eq_true rfl⟩ ⟨Nat.le_of_ble_eq_true rfl, Nat.le_of_ble_eq_true rfl⟩
      show X 0 0 WW μ 88 [some (xR 120), some (xI t)] [xI z85]
      exact r_iret hL dX8_told_88 rfl (hK _ _ hB hF (by omega))
    · skip
      refine r_tableIn hL (tgt := 89) (off := 88) 6 dX8_told_1 (by omega) e1 (by decide) (by decide) rfl (by decide) ?_
      refine r_aload_n hL (x := 120) dX8_told_89 rfl ?_
      refine r_geti hL xcl8 8 (j' := 8) rfl (by decide) s_120 (by decide) fl_X8_168 (by decide) (by decide) dX8_told_90 (fun hr90 => ?_)
      obtain ⟨z90, hz90⟩ : ∃ z, z = μ 120 8 := ⟨_, rfl⟩
      rw [← hz90] at hr90 ⊢
      have hb90 : 0 ≤ μ 120 8 ∧ μ 120 8 ≤ 20 := (show ((8 : Int) = 2 → 0 ≤ (μ 120 8) ∧ (μ 120 8) ≤ 16) ∧ ((8 : Int) = 6 → 0 ≤ (μ 120 8) ∧ (μ 120 8) ≤ 10) ∧ ((8 : Int) = 8 → 0 ≤ (μ 120 8) ∧ (μ 120 8) ≤ 20) ∧ ((8 : Int) = 9 → 0 ≤ (μ 120 8) ∧ (μ 120 8) ≤ 2147483647) ∧ ((8 : Int) = 11 → 0 ≤ (μ 120 8) ∧ (μ 120 8) ≤ 10) ∧ ((8 : Int) = 13 → 0 ≤ (μ 120 8) ∧ (μ 120 8) ≤ 10) ∧ ((8 : Int) = 20 → 0 ≤ (μ 120 8) ∧ (μ 120 8) ≤ 8) from hB 120 8).2.2.1 (by omega)
      exact r_iret hL dX8_told_93 rfl (hK _ _ hB hF (by omega))
    · skip
      refine r_tableIn hL (tgt := 94) (off := 93) 7 dX8_told_1 (by omega) e1 (by decide) (by decide) rfl (by decide) ?_
      refine r_aload_n hL (x := 120) dX8_told_94 rfl ?_
      refine r_callV hL (st := []) (av := []) (k := 120) (m_X8_wrong (μ := μ) hB  (fun z95 μ95c hB95c hG95 hc95 => ⟨rfl, ?_⟩)) ce_yX8_wrong im_yX8_wrong se_yX8_wrong ml_X8_180 xcl8 (by decide) s_120 dX8_told_95 rfl (Nat.le_of_ble_eq_true rfl) ⟨Nat.le_of_ble_eq_true rfl, Nat.le_of_ble_eq_true rfl⟩ ⟨Nat.le_of_ble_eq_true rfl, Nat.le_of_ble_eq_true rfl⟩
      show X 0 0 WW μ95c 98 [some (xR 120), some (xI t)] [xI z95]
      have hF95c : Fr RM μ μ95c := hF.trans hG95
      exact r_iret hL dX8_told_98 rfl (hK _ _ hB95c hF95c (by omega))
    · skip
      refine r_tableIn hL (tgt := 99) (off := 98) 8 dX8_told_1 (by omega) e1 (by decide) (by decide) rfl (by decide) ?_
      refine r_aload_n hL (x := 120) dX8_told_99 rfl ?_
      refine r_geti hL xcl8 2 (j' := 2) rfl (by decide) s_120 (by decide) fl_X8_161 (by decide) (by decide) dX8_told_100 (fun hr100 => ?_)
      obtain ⟨z100, hz100⟩ : ∃ z, z = μ 120 2 := ⟨_, rfl⟩
      rw [← hz100] at hr100 ⊢
      have hb100 : 0 ≤ μ 120 2 ∧ μ 120 2 ≤ 16 := (show ((2 : Int) = 2 → 0 ≤ (μ 120 2) ∧ (μ 120 2) ≤ 16) ∧ ((2 : Int) = 6 → 0 ≤ (μ 120 2) ∧ (μ 120 2) ≤ 10) ∧ ((2 : Int) = 8 → 0 ≤ (μ 120 2) ∧ (μ 120 2) ≤ 20) ∧ ((2 : Int) = 9 → 0 ≤ (μ 120 2) ∧ (μ 120 2) ≤ 2147483647) ∧ ((2 : Int) = 11 → 0 ≤ (μ 120 2) ∧ (μ 120 2) ≤ 10) ∧ ((2 : Int) = 13 → 0 ≤ (μ 120 2) ∧ (μ 120 2) ≤ 10) ∧ ((2 : Int) = 20 → 0 ≤ (μ 120 2) ∧ (μ 120 2) ≤ 8) from hB 120 2).1 (by omega)
      exact r_iret hL dX8_told_103 rfl (hK _ _ hB hF (by omega))
  · skip
    refine r_tableOut hL (tgt := 104) dX8_told_1 (by omega) (by omega) (by decide) ?_
    refine r_ldc hL (n := -1000000002) dX8_told_104 kc_X8_159 (by decide) ?_
    exact r_iret hL dX8_told_106 rfl (hK _ _ hB hF (by omega))

set_option maxHeartbeats 4000000 in
set_option maxRecDepth 20000 in
theorem m_X8_taleAt {K : Option xV → xW → xM → Prop} {μ : xM} (hB0 : BI μ) (t : Int) (ht : xrg t) (u : Int) (hu : xrg u) (hK : ∀ r, D_taleAt t u μ r → xrg r → K (some (xI r)) WW μ) : xMet yX8_taleAt cX8_taleAt 3 (some .int) 4 90 0 0 [xR 120, xI t, xI u] WW μ K := by
  refine xMet.go RX8 "taleAt" rfl rfl (by decide) [some (xR 120), some (xI t), some (xI u)] (Nat.le_of_ble_eq_true rfl) rfl (fun X hL => ?_)
  have hB := hB0
  refine r_aload_n hL (x := 120) dX8_taleAt_0 rfl ?_
  refine r_iload_n hL (x := t) dX8_taleAt_1 rfl ?_
  refine r_callV hL (st := []) (av := [xI t]) (k := 120) (m_X8_isTale (μ := μ) hB t (by omega) (fun z2 hc2 => ⟨rfl, ?_⟩)) ce_yX8_isTale im_yX8_isTale se_yX8_isTale ml_X8_171 xcl8 (by decide) s_120 dX8_taleAt_2 rfl (Nat.le_of_ble_eq_true rfl) ⟨Nat.le_of_ble_eq_true rfl, Nat.le_of_ble_eq_true rfl⟩ ⟨Nat.le_of_ble_eq_true rfl, Nat.le_of_ble_eq_true rfl⟩
  show X 0 0 WW μ 5 [some (xR 120), some (xI t), some (xI u)] [xI z2]
  refine r_if_ne hL (tgt := 11) dX8_taleAt_5 (by decide) (by omega) (fun c5 => ?_) (fun c5 => ?_)
  · skip
    refine r_iload_n hL (x := u) dX8_taleAt_11 rfl ?_
    by_cases e12 : 0 ≤ u ∧ u ≤ 3
    · skip
      rcases (show u = 0 ∨ u = 1 ∨ u = 2 ∨ u = 3 by omega) with e12 | e12 | e12 | e12
      · skip
        refine r_tableIn hL (tgt := 44) (off := 32) 0 dX8_taleAt_12 (by omega) e12 (by decide) (by decide) rfl (by decide) ?_
        refine r_aload_n hL (x := 120) dX8_taleAt_44 rfl ?_
        refine r_getr hL xcl8 0 (by decide) s_120 (by decide) fl_X8_7 (by decide) f_120_0 dX8_taleAt_45 ?_
        refine r_bipush hL dX8_taleAt_48 (by decide) ?_
        refine r_iload_n hL (x := t) dX8_taleAt_50 rfl ?_
        refine r_iadd hL dX8_taleAt_51 ?_
        refine r_iald hL dX8_taleAt_52 (by decide) s_121 (by decide) (by omega) (by omega) (fun hr52 => ?_)
        obtain ⟨z52, hz52⟩ : ∃ z, z = μ 121 (6 + t) := ⟨_, rfl⟩
        rw [← hz52] at hr52 ⊢
        have hb52 : 0 ≤ μ 121 (6 + t) ∧ μ 121 (6 + t) ≤ 10 := (show ((6 + t) = 0 → 0 ≤ (μ 121 (6 + t)) ∧ (μ 121 (6 + t)) ≤ 8) ∧ ((6 + t) = 1 → 0 ≤ (μ 121 (6 + t)) ∧ (μ 121 (6 + t)) ≤ 2) ∧ (2 ≤ (6 + t) ∧ (6 + t) ≤ 5 → 0 ≤ (μ 121 (6 + t)) ∧ (μ 121 (6 + t)) ≤ 9) ∧ (6 ≤ (6 + t) ∧ (6 + t) ≤ 13 → 0 ≤ (μ 121 (6 + t)) ∧ (μ 121 (6 + t)) ≤ 10) ∧ (30 ≤ (6 + t) → 0 ≤ (μ 121 (6 + t)) ∧ (μ 121 (6 + t)) ≤ 7) from hB 121 (6 + t)).2.2.2.1 (by omega)
        exact r_iret hL dX8_taleAt_53 rfl (hK _ (Or.inr ⟨by omega, Or.inl ⟨by omega, hz52⟩⟩) (by omega))
      · skip
        refine r_tableIn hL (tgt := 54) (off := 42) 1 dX8_taleAt_12 (by omega) e12 (by decide) (by decide) rfl (by decide) ?_
        refine r_aload_n hL (x := 120) dX8_taleAt_54 rfl ?_
        refine r_getr hL xcl8 0 (by decide) s_120 (by decide) fl_X8_7 (by decide) f_120_0 dX8_taleAt_55 ?_
        refine r_bipush hL dX8_taleAt_58 (by decide) ?_
        refine r_iload_n hL (x := t) dX8_taleAt_60 rfl ?_
        refine r_iadd hL dX8_taleAt_61 ?_
        refine r_iald hL dX8_taleAt_62 (by decide) s_121 (by decide) (by omega) (by omega) (fun hr62 => ?_)
        obtain ⟨z62, hz62⟩ : ∃ z, z = μ 121 (14 + t) := ⟨_, rfl⟩
        rw [← hz62] at hr62 ⊢
        exact r_iret hL dX8_taleAt_63 rfl (hK _ (Or.inr ⟨by omega, Or.inr (Or.inl ⟨by omega, hz62⟩)⟩) (by omega))
      · skip
        refine r_tableIn hL (tgt := 64) (off := 52) 2 dX8_taleAt_12 (by omega) e12 (by decide) (by decide) rfl (by decide) ?_
        refine r_aload_n hL (x := 120) dX8_taleAt_64 rfl ?_
        refine r_aload_n hL (x := 120) dX8_taleAt_65 rfl ?_
        refine r_getr hL xcl8 0 (by decide) s_120 (by decide) fl_X8_7 (by decide) f_120_0 dX8_taleAt_66 ?_
        refine r_bipush hL dX8_taleAt_69 (by decide) ?_
        refine r_iload_n hL (x := t) dX8_taleAt_71 rfl ?_
        refine r_iadd hL dX8_taleAt_72 ?_
        refine r_iald hL dX8_taleAt_73 (by decide) s_121 (by decide) (by omega) (by omega) (fun hr73 => ?_)
        obtain ⟨z73, hz73⟩ : ∃ z, z = μ 121 (14 + t) := ⟨_, rfl⟩
        rw [← hz73] at hr73 ⊢
        refine r_callV hL (st := []) (av := [xI z73]) (k := 120) (m_X8_wanders (μ := μ) z73 (by omega) (fun z74 heq74 hc74 => ⟨rfl, ?_⟩)) ce_yX8_wanders im_yX8_wanders se_yX8_wanders ml_X8_184 xcl8 (by decide) s_120 dX8_taleAt_74 rfl (Nat.le_of_ble_eq_true rfl) ⟨Nat.le_of_ble_eq_true rfl, Nat.le_of_ble_eq_true rfl⟩ ⟨Nat.le_of_ble_eq_true rfl, Nat.le_of_ble_eq_true rfl⟩
        show X 0 0 WW μ 77 [some (xR 120), some (xI t), some (xI u)] [xI z74]
        exact r_iret hL dX8_taleAt_77 rfl (hK _ (Or.inr ⟨by omega, Or.inr (Or.inr (Or.inl ⟨by omega, by rw [heq74, hz73]⟩))⟩) (by omega))
      · skip
        refine r_tableIn hL (tgt := 78) (off := 66) 3 dX8_taleAt_12 (by omega) e12 (by decide) (by decide) rfl (by decide) ?_
        refine r_aload_n hL (x := 120) dX8_taleAt_78 rfl ?_
        refine r_aload_n hL (x := 120) dX8_taleAt_79 rfl ?_
        refine r_getr hL xcl8 0 (by decide) s_120 (by decide) fl_X8_7 (by decide) f_120_0 dX8_taleAt_80 ?_
        refine r_bipush hL dX8_taleAt_83 (by decide) ?_
        refine r_iload_n hL (x := t) dX8_taleAt_85 rfl ?_
        refine r_iadd hL dX8_taleAt_86 ?_
        refine r_iald hL dX8_taleAt_87 (by decide) s_121 (by decide) (by omega) (by omega) (fun hr87 => ?_)
        obtain ⟨z87, hz87⟩ : ∃ z, z = μ 121 (14 + t) := ⟨_, rfl⟩
        rw [← hz87] at hr87 ⊢
        refine r_callV hL (st := []) (av := [xI z87]) (k := 120) (m_X8_over (μ := μ) z87 (by omega) (fun z88 hv88 hc88 => ⟨rfl, ?_⟩)) ce_yX8_over im_yX8_over se_yX8_over ml_X8_156 xcl8 (by decide) s_120 dX8_taleAt_88 rfl (Nat.le_of_ble_eq_true rfl) ⟨Nat.le_of_ble_eq_true rfl, Nat.le_of_ble_eq_true rfl⟩ ⟨Nat.le_of_ble_eq_true rfl, Nat.le_of_ble_eq_true rfl⟩
        show X 0 0 WW μ 91 [some (xR 120), some (xI t), some (xI u)] [xI z88]
        exact r_iret hL dX8_taleAt_91 rfl (hK _ (Or.inr ⟨by omega, Or.inr (Or.inr (Or.inr (Or.inl ⟨by omega, by rw [hv88, hz87]⟩)))⟩) (by omega))
    · skip
      refine r_tableOut hL (tgt := 92) dX8_taleAt_12 (by omega) (by omega) (by decide) ?_
      refine r_ldc hL (n := -1000000002) dX8_taleAt_92 kc_X8_159 (by decide) ?_
      exact r_iret hL dX8_taleAt_94 rfl (hK _ (Or.inr ⟨by omega, Or.inr (Or.inr (Or.inr (Or.inr ⟨by omega, rfl⟩)))⟩) (by omega))
  · skip
    refine r_ldc hL (n := -1000000001) dX8_taleAt_8 kc_X8_183 (by decide) ?_
    exact r_iret hL dX8_taleAt_10 rfl (hK _ (Or.inl ⟨by omega, rfl⟩) (by omega))

set_option maxHeartbeats 4000000 in
set_option maxRecDepth 20000 in
theorem m_X8_pair {K : Option xV → xW → xM → Prop} {μ : xM} (hB0 : BI μ) (t : Int) (ht : xrg t) (u : Int) (hu : xrg u) (v : Int) (hv : xrg v) (hK : ∀ r μ', BI μ' → Fr RM μ μ' → D_pair t u v μ r → xrg r → K (some (xI r)) WW μ') : xMet yX8_pair cX8_pair 4 (some .int) 6 145 0 0 [xR 120, xI t, xI u, xI v] WW μ K := by
  refine xMet.go RX8 "pair" rfl rfl (by decide) [some (xR 120), some (xI t), some (xI u), some (xI v)] (Nat.le_of_ble_eq_true rfl) rfl (fun X hL => ?_)
  have hB := hB0
  have hF : Fr RM μ μ := Fr.rf
  refine r_aload_n hL (x := 120) dX8_pair_0 rfl ?_
  refine r_iload_n hL (x := t) dX8_pair_1 rfl ?_
  refine r_callV hL (st := []) (av := [xI t]) (k := 120) (m_X8_isTale (μ := μ) hB t (by omega) (fun z2 hc2 => ⟨rfl, ?_⟩)) ce_yX8_isTale im_yX8_isTale se_yX8_isTale ml_X8_171 xcl8 (by decide) s_120 dX8_pair_2 rfl (Nat.le_of_ble_eq_true rfl) ⟨Nat.le_of_ble_eq_true rfl, Nat.le_of_ble_eq_true rfl⟩ ⟨Nat.le_of_ble_eq_true rfl, Nat.le_of_ble_eq_true rfl⟩
  show X 0 0 WW μ 5 [some (xR 120), some (xI t), some (xI u), some (xI v)] [xI z2]
  refine r_if_eq hL (tgt := 16) dX8_pair_5 (by decide) (by omega) (fun c5 => ?_) (fun c5 => ?_)
  · skip
    refine r_ldc hL (n := -1000000001) dX8_pair_16 kc_X8_183 (by decide) ?_
    exact r_iret hL dX8_pair_18 rfl (hK _ _ hB hF (Or.inl (⟨by omega, rfl⟩)) (by omega))
  · skip
    refine r_aload_n hL (x := 120) dX8_pair_8 rfl ?_
    refine r_iload_n hL (x := u) dX8_pair_9 rfl ?_
    refine r_callV hL (st := []) (av := [xI u]) (k := 120) (m_X8_isTale (μ := μ) hB u (by omega) (fun z10 hc10 => ⟨rfl, ?_⟩)) ce_yX8_isTale im_yX8_isTale se_yX8_isTale ml_X8_171 xcl8 (by decide) s_120 dX8_pair_10 rfl (Nat.le_of_ble_eq_true rfl) ⟨Nat.le_of_ble_eq_true rfl, Nat.le_of_ble_eq_true rfl⟩ ⟨Nat.le_of_ble_eq_true rfl, Nat.le_of_ble_eq_true rfl⟩
    show X 0 0 WW μ 13 [some (xR 120), some (xI t), some (xI u), some (xI v)] [xI z10]
    refine r_if_ne hL (tgt := 19) dX8_pair_13 (by decide) (by omega) (fun c13 => ?_) (fun c13 => ?_)
    · skip
      refine r_iload_n hL (x := v) dX8_pair_19 rfl ?_
      by_cases e20 : 0 ≤ v ∧ v ≤ 3
      · skip
        rcases (show v = 0 ∨ v = 1 ∨ v = 2 ∨ v = 3 by omega) with e20 | e20 | e20 | e20
        · skip
          refine r_tableIn hL (tgt := 52) (off := 32) 0 dX8_pair_20 (by omega) e20 (by decide) (by decide) rfl (by decide) ?_
          refine r_aload_n hL (x := 120) dX8_pair_52 rfl ?_
          refine r_iload_n hL (x := t) dX8_pair_53 rfl ?_
          refine r_iload_n hL (x := u) dX8_pair_54 rfl ?_
          refine r_callV hL (st := []) (av := [xI t, xI u]) (k := 120) (m_X8_apart (μ := μ) hB t (by omega) u (by omega) (fun z55 μ55c hB55c hG55 hD55c heq55 hQ55 hc55 => ⟨rfl, ?_⟩)) ce_yX8_apart im_yX8_apart se_yX8_apart ml_X8_111 xcl8 (by decide) s_120 dX8_pair_55 rfl (Nat.le_of_ble_eq_true rfl) ⟨Nat.le_of_ble_eq_true rfl, Nat.le_of_ble_eq_true rfl⟩ ⟨Nat.le_of_ble_eq_true rfl, Nat.le_of_ble_eq_true rfl⟩
          show X 0 0 WW μ55c 58 [some (xR 120), some (xI t), some (xI u), some (xI v)] [xI z55]
          have hF55c : Fr RM μ μ55c := hF.trans hG55
          exact r_iret hL dX8_pair_58 rfl (hK _ _ hB55c hF55c (Or.inr (Or.inr (Or.inl (⟨by omega, by omega, hQ55.p0 hB55c heq55⟩)))) (by omega))
        · skip
          refine r_tableIn hL (tgt := 59) (off := 39) 1 dX8_pair_20 (by omega) e20 (by decide) (by decide) rfl (by decide) ?_
          refine r_aload_n hL (x := 120) dX8_pair_59 rfl ?_
          refine r_iload_n hL (x := t) dX8_pair_60 rfl ?_
          refine r_iload_n hL (x := u) dX8_pair_61 rfl ?_
          refine r_callV hL (st := []) (av := [xI t, xI u]) (k := 120) (m_X8_apart (μ := μ) hB t (by omega) u (by omega) (fun z62 μ62c hB62c hG62 hD62c heq62 hQ62 hc62 => ⟨rfl, ?_⟩)) ce_yX8_apart im_yX8_apart se_yX8_apart ml_X8_111 xcl8 (by decide) s_120 dX8_pair_62 rfl (Nat.le_of_ble_eq_true rfl) ⟨Nat.le_of_ble_eq_true rfl, Nat.le_of_ble_eq_true rfl⟩ ⟨Nat.le_of_ble_eq_true rfl, Nat.le_of_ble_eq_true rfl⟩
          show X 0 0 WW μ62c 65 [some (xR 120), some (xI t), some (xI u), some (xI v)] [xI z62]
          have hF62c : Fr RM μ μ62c := hF.trans hG62
          refine r_ldc hL (n := 100000) dX8_pair_65 kc_X8_84 (by decide) ?_
          refine r_icmp_ge hL (tgt := 79) dX8_pair_67 (by decide) (by omega) (by omega) (fun c67 => ?_) (fun c67 => ?_)
          · skip
            exact absurd c67 (by omega)
          · skip
            refine r_aload_n hL (x := 120) dX8_pair_70 rfl ?_
            refine r_getr hL xcl8 15 (by decide) s_120 (by decide) fl_X8_38 (by decide) f_120_15 dX8_pair_71 ?_
            refine r_iconst hL dX8_pair_74 ?_
            refine r_iald hL dX8_pair_75 (by decide) s_130 (by decide) (by omega) (by omega) (fun hr75 => ?_)
            obtain ⟨z75, hz75⟩ : ∃ z, z = μ62c 130 0 := ⟨_, rfl⟩
            rw [← hz75] at hr75 ⊢
            refine r_goto hL (tgt := 80) dX8_pair_76 (by decide) ?_
            exact r_iret hL dX8_pair_80 rfl (hK _ _ hB62c hF62c (Or.inr (Or.inr (Or.inr (Or.inl (⟨by omega, by omega, hQ62.p1 hB62c hz75⟩))))) (by omega))
        · skip
          refine r_tableIn hL (tgt := 81) (off := 61) 2 dX8_pair_20 (by omega) e20 (by decide) (by decide) rfl (by decide) ?_
          refine r_aload_n hL (x := 120) dX8_pair_81 rfl ?_
          refine r_iload_n hL (x := t) dX8_pair_82 rfl ?_
          refine r_iload_n hL (x := u) dX8_pair_83 rfl ?_
          refine r_callV hL (st := []) (av := [xI t, xI u]) (k := 120) (m_X8_laysWay (μ := μ) hB t (by omega) u (by omega) (fun z84 μ84c hB84c hG84 hY84 hc84 => ⟨rfl, ?_⟩)) ce_yX8_laysWay im_yX8_laysWay se_yX8_laysWay ml_X8_187 xcl8 (by decide) s_120 dX8_pair_84 rfl (Nat.le_of_ble_eq_true rfl) ⟨Nat.le_of_ble_eq_true rfl, Nat.le_of_ble_eq_true rfl⟩ ⟨Nat.le_of_ble_eq_true rfl, Nat.le_of_ble_eq_true rfl⟩
          show X 0 0 WW μ84c 87 [some (xR 120), some (xI t), some (xI u), some (xI v)] [xI z84]
          have hF84c : Fr RM μ μ84c := hF.trans hG84
          exact r_iret hL dX8_pair_87 rfl (hK _ _ hB84c hF84c (Or.inr (Or.inr (Or.inr (Or.inr (Or.inl (⟨by omega, by omega, _, hY84⟩)))))) (by omega))
        · skip
          refine r_tableIn hL (tgt := 88) (off := 68) 3 dX8_pair_20 (by omega) e20 (by decide) (by decide) rfl (by decide) ?_
          refine r_aload_n hL (x := 120) dX8_pair_88 rfl ?_
          refine r_iload_n hL (x := t) dX8_pair_89 rfl ?_
          refine r_iload_n hL (x := u) dX8_pair_90 rfl ?_
          refine r_callV hL (st := []) (av := [xI t, xI u]) (k := 120) (m_X8_commonOrder (μ := μ) hB t (by omega) u (by omega) (fun z91 μ91c hB91c hG91 hCP91 hx91 => ⟨rfl, ?_⟩)) ce_yX8_commonOrder im_yX8_commonOrder se_yX8_commonOrder ml_X8_190 xcl8 (by decide) s_120 dX8_pair_91 rfl (Nat.le_of_ble_eq_true rfl) ⟨Nat.le_of_ble_eq_true rfl, Nat.le_of_ble_eq_true rfl⟩ ⟨Nat.le_of_ble_eq_true rfl, Nat.le_of_ble_eq_true rfl⟩
          show X 0 0 WW μ91c 94 [some (xR 120), some (xI t), some (xI u), some (xI v)] [xI z91]
          have hF91c : Fr RM μ μ91c := hF.trans hG91
          exact r_iret hL dX8_pair_94 rfl (hK _ _ hB91c hF91c (Or.inr (Or.inr (Or.inr (Or.inr (Or.inr (⟨by omega, by omega, hCP91⟩)))))) (by omega))
      · skip
        refine r_tableOut hL (tgt := 95) dX8_pair_20 (by omega) (by omega) (by decide) ?_
        refine r_ldc hL (n := -1000000002) dX8_pair_95 kc_X8_159 (by decide) ?_
        exact r_iret hL dX8_pair_97 rfl (hK _ _ hB hF (Or.inr (Or.inl (⟨by omega, by omega, rfl⟩))) (by omega))
    · skip
      refine r_ldc hL (n := -1000000001) dX8_pair_16 kc_X8_183 (by decide) ?_
      exact r_iret hL dX8_pair_18 rfl (hK _ _ hB hF (Or.inl (⟨by omega, rfl⟩)) (by omega))

set_option maxHeartbeats 4000000 in
set_option maxRecDepth 20000 in
theorem m_X8_step {K : Option xV → xW → xM → Prop} {μ : xM} (hB0 : BI μ) (t : Int) (ht : xrg t) (u : Int) (hu : xrg u) (v : Int) (hv : xrg v) (hK : ∀ r μ', BI μ' → Fr RM μ μ' → D_step t u v μ r → xrg r → K (some (xI r)) WW μ') : xMet yX8_step cX8_step 5 (some .int) 6 145 0 0 [xR 120, xI t, xI u, xI v] WW μ K := by
  refine xMet.go RX8 "step" rfl rfl (by decide) [some (xR 120), some (xI t), some (xI u), some (xI v), none] (Nat.le_of_ble_eq_true rfl) rfl (fun X hL => ?_)
  have hB := hB0
  have hF : Fr RM μ μ := Fr.rf
  refine r_aload_n hL (x := 120) dX8_step_0 rfl ?_
  refine r_iload_n hL (x := t) dX8_step_1 rfl ?_
  refine r_callV hL (st := []) (av := [xI t]) (k := 120) (m_X8_isTale (μ := μ) hB t (by omega) (fun z2 hc2 => ⟨rfl, ?_⟩)) ce_yX8_isTale im_yX8_isTale se_yX8_isTale ml_X8_171 xcl8 (by decide) s_120 dX8_step_2 rfl (Nat.le_of_ble_eq_true rfl) ⟨Nat.le_of_ble_eq_true rfl, Nat.le_of_ble_eq_true rfl⟩ ⟨Nat.le_of_ble_eq_true rfl, Nat.le_of_ble_eq_true rfl⟩
  show X 0 0 WW μ 5 [some (xR 120), some (xI t), some (xI u), some (xI v), none] [xI z2]
  refine r_if_eq hL (tgt := 16) dX8_step_5 (by decide) (by omega) (fun c5 => ?_) (fun c5 => ?_)
  · skip
    refine r_ldc hL (n := -1000000001) dX8_step_16 kc_X8_183 (by decide) ?_
    exact r_iret hL dX8_step_18 rfl (hK _ _ hB hF (Or.inl ⟨by omega, rfl⟩) (by omega))
  · skip
    refine r_aload_n hL (x := 120) dX8_step_8 rfl ?_
    refine r_iload_n hL (x := u) dX8_step_9 rfl ?_
    refine r_callV hL (st := []) (av := [xI u]) (k := 120) (m_X8_isTale (μ := μ) hB u (by omega) (fun z10 hc10 => ⟨rfl, ?_⟩)) ce_yX8_isTale im_yX8_isTale se_yX8_isTale ml_X8_171 xcl8 (by decide) s_120 dX8_step_10 rfl (Nat.le_of_ble_eq_true rfl) ⟨Nat.le_of_ble_eq_true rfl, Nat.le_of_ble_eq_true rfl⟩ ⟨Nat.le_of_ble_eq_true rfl, Nat.le_of_ble_eq_true rfl⟩
    show X 0 0 WW μ 13 [some (xR 120), some (xI t), some (xI u), some (xI v), none] [xI z10]
    refine r_if_ne hL (tgt := 19) dX8_step_13 (by decide) (by omega) (fun c13 => ?_) (fun c13 => ?_)
    · skip
      refine r_aload_n hL (x := 120) dX8_step_19 rfl ?_
      refine r_iload_n hL (x := t) dX8_step_20 rfl ?_
      refine r_iload_n hL (x := u) dX8_step_21 rfl ?_
      refine r_callV hL (st := []) (av := [xI t, xI u]) (k := 120) (m_X8_laysWay (μ := μ) hB t (by omega) u (by omega) (fun z22 μ22c hB22c hG22 hY22 hc22 => ⟨rfl, ?_⟩)) ce_yX8_laysWay im_yX8_laysWay se_yX8_laysWay ml_X8_187 xcl8 (by decide) s_120 dX8_step_22 rfl (Nat.le_of_ble_eq_true rfl) ⟨Nat.le_of_ble_eq_true rfl, Nat.le_of_ble_eq_true rfl⟩ ⟨Nat.le_of_ble_eq_true rfl, Nat.le_of_ble_eq_true rfl⟩
      show X 0 0 WW μ22c 25 [some (xR 120), some (xI t), some (xI u), some (xI v), none] [xI z22]
      have hF22c : Fr RM μ μ22c := hF.trans hG22
      refine r_istore hL (lo' := [some (xR 120), some (xI t), some (xI u), some (xI v), some (xI z22)]) dX8_step_25 (by decide) rfl ?_
      refine r_iload_n hL (x := v) dX8_step_27 rfl ?_
      refine r_iconst hL dX8_step_28 ?_
      refine r_iload hL (x := z22) dX8_step_29 rfl ?_
      refine r_iconst hL dX8_step_31 ?_
      refine r_isub hL dX8_step_32 ?_
      refine r_callS hL (st := []) (av := [xI v, xI 0, xI (z22 - 1)]) (m_X8_in (μ := μ22c) v (by omega) 0 (by omega) (z22 - 1) (by omega) (fun z33 hc33 => ⟨rfl, ?_⟩)) ce_yX8_in sm_yX8_in ml_X8_62 dX8_step_33 rfl (Nat.le_of_ble_eq_true rfl) ⟨Nat.le_of_ble_eq_true rfl, Nat.le_of_ble_eq_true rfl⟩ ⟨Nat.le_of_ble_eq_true rfl, Nat.le_of_ble_eq_true rfl⟩
      show X 0 0 WW μ22c 36 [some (xR 120), some (xI t), some (xI u), some (xI v), some (xI z22)] [xI z33]
      refine r_if_eq hL (tgt := 48) dX8_step_36 (by decide) (by omega) (fun c36 => ?_) (fun c36 => ?_)
      · skip
        refine r_iconst hL dX8_step_48 ?_
        exact r_iret hL dX8_step_49 rfl (hK _ _ hB22c hF22c (Or.inr ⟨by omega, _, _, hY22, by first | exact Or.inl ⟨by omega, by omega, hz44⟩ | exact Or.inr ⟨by omega, rfl⟩⟩) (by omega))
      · skip
        refine r_aload_n hL (x := 120) dX8_step_39 rfl ?_
        refine r_getr hL xcl8 16 (by decide) s_120 (by decide) fl_X8_41 (by decide) f_120_16 dX8_step_40 ?_
        refine r_iload_n hL (x := v) dX8_step_43 rfl ?_
        refine r_iald hL dX8_step_44 (by decide) s_131 (by decide) (by omega) (by omega) (fun hr44 => ?_)
        obtain ⟨z44, hz44⟩ : ∃ z, z = μ22c 131 v := ⟨_, rfl⟩
        rw [← hz44] at hr44 ⊢
        refine r_goto hL (tgt := 49) dX8_step_45 (by decide) ?_
        exact r_iret hL dX8_step_49 rfl (hK _ _ hB22c hF22c (Or.inr ⟨by omega, _, _, hY22, by first | exact Or.inl ⟨by omega, by omega, hz44⟩ | exact Or.inr ⟨by omega, rfl⟩⟩) (by omega))
    · skip
      refine r_ldc hL (n := -1000000001) dX8_step_16 kc_X8_183 (by decide) ?_
      exact r_iret hL dX8_step_18 rfl (hK _ _ hB hF (Or.inl ⟨by omega, rfl⟩) (by omega))

set_option maxHeartbeats 4000000 in
set_option maxRecDepth 20000 in
theorem m_X8_node {K : Option xV → xW → xM → Prop} {μ : xM} (hB0 : BI μ) (t : Int) (ht : xrg t) (u : Int) (hu : xrg u) (hK : ∀ r μ', BI μ' → Fr RM μ μ' → xrg r → K (some (xI r)) WW μ') : xMet yX8_node cX8_node 3 (some .int) 8 182 0 0 [xR 120, xI t, xI u] WW μ K := by
  refine xMet.go RX8 "node" rfl rfl (by decide) [some (xR 120), some (xI t), some (xI u)] (Nat.le_of_ble_eq_true rfl) rfl (fun X hL => ?_)
  have hB := hB0
  have hF : Fr RM μ μ := Fr.rf
  refine r_iload_n hL (x := t) dX8_node_0 rfl ?_
  refine r_iconst hL dX8_node_1 ?_
  refine r_aload_n hL (x := 120) dX8_node_2 rfl ?_
  refine r_callV hL (st := [xI 0, xI t]) (av := []) (k := 120) (m_X8_nodesMany (μ := μ) hB  (fun z3 hc3 hc3_1 hc3_2 => ⟨rfl, ?_⟩)) ce_yX8_nodesMany im_yX8_nodesMany se_yX8_nodesMany ml_X8_142 xcl8 (by decide) s_120 dX8_node_3 rfl (Nat.le_of_ble_eq_true rfl) ⟨Nat.le_of_ble_eq_true rfl, Nat.le_of_ble_eq_true rfl⟩ ⟨Nat.le_of_ble_eq_true rfl, Nat.le_of_ble_eq_true rfl⟩
  show X 0 0 WW μ 6 [some (xR 120), some (xI t), some (xI u)] [xI z3, xI 0, xI t]
  refine r_iconst hL dX8_node_6 ?_
  refine r_isub hL dX8_node_7 ?_
  refine r_callS hL (st := []) (av := [xI t, xI 0, xI (z3 - 1)]) (m_X8_in (μ := μ) t (by omega) 0 (by omega) (z3 - 1) (by omega) (fun z8 hc8 => ⟨rfl, ?_⟩)) ce_yX8_in sm_yX8_in ml_X8_62 dX8_node_8 rfl (Nat.le_of_ble_eq_true rfl) ⟨Nat.le_of_ble_eq_true rfl, Nat.le_of_ble_eq_true rfl⟩ ⟨Nat.le_of_ble_eq_true rfl, Nat.le_of_ble_eq_true rfl⟩
  show X 0 0 WW μ 11 [some (xR 120), some (xI t), some (xI u)] [xI z8]
  refine r_if_ne hL (tgt := 17) dX8_node_11 (by decide) (by omega) (fun c11 => ?_) (fun c11 => ?_)
  · skip
    refine r_iload_n hL (x := u) dX8_node_17 rfl ?_
    refine r_iconst hL dX8_node_18 ?_
    refine r_iconst hL dX8_node_19 ?_
    refine r_callS hL (st := []) (av := [xI u, xI 0, xI 3]) (m_X8_in (μ := μ) u (by omega) 0 (by omega) 3 (by omega) (fun z20 hc20 => ⟨rfl, ?_⟩)) ce_yX8_in sm_yX8_in ml_X8_62 dX8_node_20 rfl (Nat.le_of_ble_eq_true rfl) ⟨Nat.le_of_ble_eq_true rfl, Nat.le_of_ble_eq_true rfl⟩ ⟨Nat.le_of_ble_eq_true rfl, Nat.le_of_ble_eq_true rfl⟩
    show X 0 0 WW μ 23 [some (xR 120), some (xI t), some (xI u)] [xI z20]
    refine r_if_ne hL (tgt := 29) dX8_node_23 (by decide) (by omega) (fun c23 => ?_) (fun c23 => ?_)
    · skip
      refine r_aload_n hL (x := 120) dX8_node_29 rfl ?_
      refine r_callV hL (st := []) (av := []) (k := 120) (m_X8_laysNodes (μ := μ) hB  (fun μ30c hB30c hG30 => ⟨rfl, ?_⟩)) ce_yX8_laysNodes im_yX8_laysNodes se_yX8_laysNodes ml_X8_193 xcl8 (by decide) s_120 dX8_node_30 rfl (Nat.le_of_ble_eq_true rfl) ⟨Nat.le_of_ble_eq_true rfl, Nat.le_of_ble_eq_true rfl⟩ ⟨Nat.le_of_ble_eq_true rfl, Nat.le_of_ble_eq_true rfl⟩
      show X 0 0 WW μ30c 33 [some (xR 120), some (xI t), some (xI u)] []
      have hF30c : Fr RM μ μ30c := hF.trans hG30
      refine r_iload_n hL (x := u) dX8_node_33 rfl ?_
      refine r_if_ne hL (tgt := 46) dX8_node_34 (by decide) (by omega) (fun c34 => ?_) (fun c34 => ?_)
      · skip
        refine r_iload_n hL (x := u) dX8_node_46 rfl ?_
        refine r_iconst hL dX8_node_47 ?_
        refine r_icmp_ne hL (tgt := 60) dX8_node_48 (by decide) (by omega) (by omega) (fun c48 => ?_) (fun c48 => ?_)
        · skip
          refine r_iload_n hL (x := u) dX8_node_60 rfl ?_
          refine r_iconst hL dX8_node_61 ?_
          refine r_icmp_ne hL (tgt := 74) dX8_node_62 (by decide) (by omega) (by omega) (fun c62 => ?_) (fun c62 => ?_)
          · skip
            refine r_aload_n hL (x := 120) dX8_node_74 rfl ?_
            refine r_aload_n hL (x := 120) dX8_node_75 rfl ?_
            refine r_getr hL xcl8 21 (by decide) s_120 (by decide) fl_X8_53 (by decide) f_120_21 dX8_node_76 ?_
            refine r_iload_n hL (x := t) dX8_node_79 rfl ?_
            refine r_iald hL dX8_node_80 (by decide) s_135 (by decide) (by omega) (by omega) (fun hr80 => ?_)
            obtain ⟨z80, hz80⟩ : ∃ z, z = μ30c 135 t := ⟨_, rfl⟩
            rw [← hz80] at hr80 ⊢
            refine r_callV hL (st := []) (av := [xI z80]) (k := 120) (m_X8_middleOf (μ := μ30c) hB30c z80 (by omega) (fun z81 hc81 => ⟨rfl, ?_⟩)) ce_yX8_middleOf im_yX8_middleOf se_yX8_middleOf ml_X8_196 xcl8 (by decide) s_120 dX8_node_81 rfl (Nat.le_of_ble_eq_true rfl) ⟨Nat.le_of_ble_eq_true rfl, Nat.le_of_ble_eq_true rfl⟩ ⟨Nat.le_of_ble_eq_true rfl, Nat.le_of_ble_eq_true rfl⟩
            show X 0 0 WW μ30c 84 [some (xR 120), some (xI t), some (xI u)] [xI z81]
            exact r_iret hL dX8_node_84 rfl (hK _ _ hB30c hF30c (by omega))
          · skip
            refine r_aload_n hL (x := 120) dX8_node_65 rfl ?_
            refine r_getr hL xcl8 22 (by decide) s_120 (by decide) fl_X8_56 (by decide) f_120_22 dX8_node_66 ?_
            refine r_iload_n hL (x := t) dX8_node_69 rfl ?_
            refine r_iald hL dX8_node_70 (by decide) s_136 (by decide) (by omega) (by omega) (fun hr70 => ?_)
            obtain ⟨z70, hz70⟩ : ∃ z, z = μ30c 136 t := ⟨_, rfl⟩
            rw [← hz70] at hr70 ⊢
            refine r_goto hL (tgt := 84) dX8_node_71 (by decide) ?_
            exact r_iret hL dX8_node_84 rfl (hK _ _ hB30c hF30c (by omega))
        · skip
          refine r_aload_n hL (x := 120) dX8_node_51 rfl ?_
          refine r_getr hL xcl8 21 (by decide) s_120 (by decide) fl_X8_53 (by decide) f_120_21 dX8_node_52 ?_
          refine r_iload_n hL (x := t) dX8_node_55 rfl ?_
          refine r_iald hL dX8_node_56 (by decide) s_135 (by decide) (by omega) (by omega) (fun hr56 => ?_)
          obtain ⟨z56, hz56⟩ : ∃ z, z = μ30c 135 t := ⟨_, rfl⟩
          rw [← hz56] at hr56 ⊢
          refine r_goto hL (tgt := 84) dX8_node_57 (by decide) ?_
          exact r_iret hL dX8_node_84 rfl (hK _ _ hB30c hF30c (by omega))
      · skip
        refine r_aload_n hL (x := 120) dX8_node_37 rfl ?_
        refine r_getr hL xcl8 23 (by decide) s_120 (by decide) fl_X8_59 (by decide) f_120_23 dX8_node_38 ?_
        refine r_iload_n hL (x := t) dX8_node_41 rfl ?_
        refine r_iald hL dX8_node_42 (by decide) s_137 (by decide) (by omega) (by omega) (fun hr42 => ?_)
        obtain ⟨z42, hz42⟩ : ∃ z, z = μ30c 137 t := ⟨_, rfl⟩
        rw [← hz42] at hr42 ⊢
        refine r_goto hL (tgt := 84) dX8_node_43 (by decide) ?_
        exact r_iret hL dX8_node_84 rfl (hK _ _ hB30c hF30c (by omega))
    · skip
      refine r_ldc hL (n := -1000000002) dX8_node_26 kc_X8_159 (by decide) ?_
      exact r_iret hL dX8_node_28 rfl (hK _ _ hB hF (by omega))
  · skip
    refine r_ldc hL (n := -1000000001) dX8_node_14 kc_X8_183 (by decide) ?_
    exact r_iret hL dX8_node_16 rfl (hK _ _ hB hF (by omega))

set_option maxHeartbeats 4000000 in
set_option maxRecDepth 20000 in
theorem m_X8_types {K : Option xV → xW → xM → Prop} {μ : xM} (hB0 : BI μ) (t : Int) (ht : xrg t) (u : Int) (hu : xrg u) (hK : ∀ r μ', BI μ' → Fr RM μ μ' → xrg r → K (some (xI r)) WW μ') : xMet yX8_types cX8_types 6 (some .int) 8 182 0 0 [xR 120, xI t, xI u] WW μ K := by
  refine xMet.go RX8 "types" rfl rfl (by decide) [some (xR 120), some (xI t), some (xI u), none, none, none] (Nat.le_of_ble_eq_true rfl) rfl (fun X hL => ?_)
  have hB := hB0
  have hF : Fr RM μ μ := Fr.rf
  refine r_iload_n hL (x := u) dX8_types_0 rfl ?_
  refine r_if_le hL (tgt := 17) dX8_types_1 (by decide) (by omega) (fun c1 => ?_) (fun c1 => ?_)
  · skip
    refine r_iload_n hL (x := t) dX8_types_17 rfl ?_
    refine r_iconst hL dX8_types_18 ?_
    refine r_sipush hL dX8_types_19 (by decide) ?_
    refine r_callS hL (st := []) (av := [xI t, xI 0, xI 999]) (m_X8_in (μ := μ) t (by omega) 0 (by omega) 999 (by omega) (fun z22 hc22 => ⟨rfl, ?_⟩)) ce_yX8_in sm_yX8_in ml_X8_62 dX8_types_22 rfl (Nat.le_of_ble_eq_true rfl) ⟨Nat.le_of_ble_eq_true rfl, Nat.le_of_ble_eq_true rfl⟩ ⟨Nat.le_of_ble_eq_true rfl, Nat.le_of_ble_eq_true rfl⟩
    show X 0 0 WW μ 25 [some (xR 120), some (xI t), some (xI u), none, none, none] [xI z22]
    refine r_if_eq hL (tgt := 32) dX8_types_25 (by decide) (by omega) (fun c25 => ?_) (fun c25 => ?_)
    · skip
      refine r_ldc hL (n := -1000000002) dX8_types_32 kc_X8_159 (by decide) ?_
      exact r_iret hL dX8_types_34 rfl (hK _ _ hB hF (by omega))
    · skip
      refine r_iload_n hL (x := u) dX8_types_28 rfl ?_
      refine r_if_ge hL (tgt := 35) dX8_types_29 (by decide) (by omega) (fun c29 => ?_) (fun c29 => ?_)
      · skip
        refine r_aload_n hL (x := 120) dX8_types_35 rfl ?_
        refine r_callV hL (st := []) (av := []) (k := 120) (m_X8_laysNodes (μ := μ) hB  (fun μ36c hB36c hG36 => ⟨rfl, ?_⟩)) ce_yX8_laysNodes im_yX8_laysNodes se_yX8_laysNodes ml_X8_193 xcl8 (by decide) s_120 dX8_types_36 rfl (Nat.le_of_ble_eq_true rfl) ⟨Nat.le_of_ble_eq_true rfl, Nat.le_of_ble_eq_true rfl⟩ ⟨Nat.le_of_ble_eq_true rfl, Nat.le_of_ble_eq_true rfl⟩
        show X 0 0 WW μ36c 39 [some (xR 120), some (xI t), some (xI u), none, none, none] []
        have hF36c : Fr RM μ μ36c := hF.trans hG36
        refine r_iconst hL dX8_types_39 ?_
        refine r_istore_n hL (lo' := [some (xR 120), some (xI t), some (xI u), some (xI 0), none, none]) dX8_types_40 (by decide) rfl ?_
        have lp41 : ∀ (n41 : Nat) (g : Int), (0 ≤ g ∧ g ≤ 7) → ((7 - g).toNat) < n41 → X 0 0 WW μ36c 41 [some (xR 120), some (xI t), some (xI u), some (xI g), none, none] [] := by
          intro n41
          induction n41 with
          | zero => intro g h1 hn; exact absurd hn (Nat.not_lt_zero _)
          | succ n41 ih41 =>
            intro g h1 hn41
            refine r_iload_n hL (x := g) dX8_types_41 rfl ?_
            refine r_aload_n hL (x := 120) dX8_types_42 rfl ?_
            refine r_callV hL (st := [xI g]) (av := []) (k := 120) (m_X8_nodesMany (μ := μ36c) hB36c  (fun z43 hc43 hc43_1 hc43_2 => ⟨rfl, ?_⟩)) ce_yX8_nodesMany im_yX8_nodesMany se_yX8_nodesMany ml_X8_142 xcl8 (by decide) s_120 dX8_types_43 rfl (Nat.le_of_ble_eq_true rfl) ⟨Nat.le_of_ble_eq_true rfl, Nat.le_of_ble_eq_true rfl⟩ ⟨Nat.le_of_ble_eq_true rfl, Nat.le_of_ble_eq_true rfl⟩
            show X 0 0 WW μ36c 46 [some (xR 120), some (xI t), some (xI u), some (xI g), none, none] [xI z43, xI g]
            refine r_icmp_ge hL (tgt := 65) dX8_types_46 (by decide) (by omega) (by omega) (fun c46 => ?_) (fun c46 => ?_)
            · skip
              refine r_iload_n hL (x := u) dX8_types_65 rfl ?_
              refine r_if_le hL (tgt := 77) dX8_types_66 (by decide) (by omega) (fun c66 => ?_) (fun c66 => ?_)
              · skip
                refine r_iconst hL dX8_types_77 ?_
                refine r_istore hL (lo' := [some (xR 120), some (xI t), some (xI u), some (xI g), some (xI 0), none]) dX8_types_78 (by decide) rfl ?_
                refine r_iconst hL dX8_types_80 ?_
                refine r_istore hL (lo' := [some (xR 120), some (xI t), some (xI u), some (xI g), some (xI 0), some (xI 0)]) dX8_types_81 (by decide) rfl ?_
                have lp83 : ∀ (n83 : Nat) (s : Int) (n : Int), (xrg s) → (0 ≤ n ∧ n ≤ 7) → ((7 - n).toNat) < n83 → X 0 0 WW μ36c 83 [some (xR 120), some (xI t), some (xI u), some (xI g), some (xI s), some (xI n)] [] := by
                  intro n83
                  induction n83 with
                  | zero => intro s n h2 h3 hn; exact absurd hn (Nat.not_lt_zero _)
                  | succ n83 ih83 =>
                    intro s n h2 h3 hn83
                    refine r_iload hL (x := n) dX8_types_83 rfl ?_
                    refine r_iload_n hL (x := g) dX8_types_85 rfl ?_
                    refine r_icmp_ge hL (tgt := 124) dX8_types_86 (by decide) (by omega) (by omega) (fun c86 => ?_) (fun c86 => ?_)
                    · skip
                      refine r_iload_n hL (x := u) dX8_types_124 rfl ?_
                      refine r_if_ne hL (tgt := 139) dX8_types_125 (by decide) (by omega) (fun c125 => ?_) (fun c125 => ?_)
                      · skip
                        refine r_iload hL (x := s) dX8_types_139 rfl ?_
                        exact r_iret hL dX8_types_141 rfl (hK _ _ hB36c hF36c (by omega))
                      · skip
                        refine r_aload_n hL (x := 120) dX8_types_128 rfl ?_
                        refine r_getr hL xcl8 0 (by decide) s_120 (by decide) fl_X8_7 (by decide) f_120_0 dX8_types_129 ?_
                        refine r_iconst hL dX8_types_132 ?_
                        refine r_iald hL dX8_types_133 (by decide) s_121 (by decide) (by omega) (by omega) (fun hr133 => ?_)
                        obtain ⟨z133, hz133⟩ : ∃ z, z = μ36c 121 0 := ⟨_, rfl⟩
                        rw [← hz133] at hr133 ⊢
                        have hb133 : 0 ≤ μ36c 121 0 ∧ μ36c 121 0 ≤ 8 := (show ((0 : Int) = 0 → 0 ≤ (μ36c 121 0) ∧ (μ36c 121 0) ≤ 8) ∧ ((0 : Int) = 1 → 0 ≤ (μ36c 121 0) ∧ (μ36c 121 0) ≤ 2) ∧ (2 ≤ (0 : Int) ∧ (0 : Int) ≤ 5 → 0 ≤ (μ36c 121 0) ∧ (μ36c 121 0) ≤ 9) ∧ (6 ≤ (0 : Int) ∧ (0 : Int) ≤ 13 → 0 ≤ (μ36c 121 0) ∧ (μ36c 121 0) ≤ 10) ∧ (30 ≤ (0 : Int) → 0 ≤ (μ36c 121 0) ∧ (μ36c 121 0) ≤ 7) from hB36c 121 0).1 (by omega)
                        refine r_iload_n hL (x := g) dX8_types_134 rfl ?_
                        refine r_isub hL dX8_types_135 ?_
                        refine r_goto hL (tgt := 141) dX8_types_136 (by decide) ?_
                        exact r_iret hL dX8_types_141 rfl (hK _ _ hB36c hF36c (by omega))
                    · skip
                      refine r_iload hL (x := s) dX8_types_89 rfl ?_
                      refine r_aload_n hL (x := 120) dX8_types_91 rfl ?_
                      refine r_getr hL xcl8 21 (by decide) s_120 (by decide) fl_X8_53 (by decide) f_120_21 dX8_types_92 ?_
                      refine r_iload hL (x := n) dX8_types_95 rfl ?_
                      refine r_iald hL dX8_types_97 (by decide) s_135 (by decide) (by omega) (by omega) (fun hr97 => ?_)
                      obtain ⟨z97, hz97⟩ : ∃ z, z = μ36c 135 n := ⟨_, rfl⟩
                      rw [← hz97] at hr97 ⊢
                      refine r_iload hL (x := s) dX8_types_98 rfl ?_
                      refine r_iand hL dX8_types_100 ?_
                      obtain ⟨z100, hz100⟩ : ∃ z, z = xand z97 s := ⟨_, rfl⟩
                      rw [← hz100]
                      have hr100 : xrg z100 := by rw [hz100]; exact xand_rg _ _
                      refine r_if_eq hL (tgt := 114) dX8_types_101 (by decide) (by omega) (fun c101 => ?_) (fun c101 => ?_)
                      · skip
                        refine r_iconst hL dX8_types_114 ?_
                        refine r_ior hL dX8_types_115 ?_
                        obtain ⟨z115, hz115⟩ : ∃ z, z = xor' s 0 := ⟨_, rfl⟩
                        rw [← hz115]
                        have hr115 : xrg z115 := by rw [hz115]; exact xor_rg _ _
                        refine r_istore hL (lo' := [some (xR 120), some (xI t), some (xI u), some (xI g), some (xI z115), some (xI n)]) dX8_types_116 (by decide) rfl ?_
                        refine r_iinc hL (x := n) (lo' := [some (xR 120), some (xI t), some (xI u), some (xI g), some (xI z115), some (xI (n + 1))]) dX8_types_118 (by decide) rfl rfl ?_
                        refine r_goto hL (tgt := 83) dX8_types_121 (by decide) ?_
                        exact ih83 z115 (n + 1) (by omega) (by omega) (by omega)
                      · skip
                        refine r_aload_n hL (x := 120) dX8_types_104 rfl ?_
                        refine r_getr hL xcl8 21 (by decide) s_120 (by decide) fl_X8_53 (by decide) f_120_21 dX8_types_105 ?_
                        refine r_iload hL (x := n) dX8_types_108 rfl ?_
                        refine r_iald hL dX8_types_110 (by decide) s_135 (by decide) (by omega) (by omega) (fun hr110 => ?_)
                        obtain ⟨z110, hz110⟩ : ∃ z, z = μ36c 135 n := ⟨_, rfl⟩
                        rw [← hz110] at hr110 ⊢
                        refine r_goto hL (tgt := 115) dX8_types_111 (by decide) ?_
                        refine r_ior hL dX8_types_115 ?_
                        obtain ⟨z115, hz115⟩ : ∃ z, z = xor' s z110 := ⟨_, rfl⟩
                        rw [← hz115]
                        have hr115 : xrg z115 := by rw [hz115]; exact xor_rg _ _
                        refine r_istore hL (lo' := [some (xR 120), some (xI t), some (xI u), some (xI g), some (xI z115), some (xI n)]) dX8_types_116 (by decide) rfl ?_
                        refine r_iinc hL (x := n) (lo' := [some (xR 120), some (xI t), some (xI u), some (xI g), some (xI z115), some (xI (n + 1))]) dX8_types_118 (by decide) rfl rfl ?_
                        refine r_goto hL (tgt := 83) dX8_types_121 (by decide) ?_
                        exact ih83 z115 (n + 1) (by omega) (by omega) (by omega)
                exact lp83 _ 0 0 (by omega) (by omega) (Nat.lt_succ_self _)
              · skip
                refine r_iconst hL dX8_types_69 ?_
                refine r_iload_n hL (x := u) dX8_types_70 rfl ?_
                refine r_iconst hL dX8_types_71 ?_
                refine r_isub hL dX8_types_72 ?_
                refine r_ishl hL dX8_types_73 ?_
                obtain ⟨z73, hz73⟩ : ∃ z, z = xshl 1 (u - 1) := ⟨_, rfl⟩
                rw [← hz73]
                have hr73 : xrg z73 := by rw [hz73]; exact xshl_rg _ _
                refine r_goto hL (tgt := 78) dX8_types_74 (by decide) ?_
                refine r_istore hL (lo' := [some (xR 120), some (xI t), some (xI u), some (xI g), some (xI z73), none]) dX8_types_78 (by decide) rfl ?_
                refine r_iconst hL dX8_types_80 ?_
                refine r_istore hL (lo' := [some (xR 120), some (xI t), some (xI u), some (xI g), some (xI z73), some (xI 0)]) dX8_types_81 (by decide) rfl ?_
                have lp83 : ∀ (n83 : Nat) (s : Int) (n : Int), (xrg s) → (0 ≤ n ∧ n ≤ 7) → ((7 - n).toNat) < n83 → X 0 0 WW μ36c 83 [some (xR 120), some (xI t), some (xI u), some (xI g), some (xI s), some (xI n)] [] := by
                  intro n83
                  induction n83 with
                  | zero => intro s n h2 h3 hn; exact absurd hn (Nat.not_lt_zero _)
                  | succ n83 ih83 =>
                    intro s n h2 h3 hn83
                    refine r_iload hL (x := n) dX8_types_83 rfl ?_
                    refine r_iload_n hL (x := g) dX8_types_85 rfl ?_
                    refine r_icmp_ge hL (tgt := 124) dX8_types_86 (by decide) (by omega) (by omega) (fun c86 => ?_) (fun c86 => ?_)
                    · skip
                      refine r_iload_n hL (x := u) dX8_types_124 rfl ?_
                      refine r_if_ne hL (tgt := 139) dX8_types_125 (by decide) (by omega) (fun c125 => ?_) (fun c125 => ?_)
                      · skip
                        refine r_iload hL (x := s) dX8_types_139 rfl ?_
                        exact r_iret hL dX8_types_141 rfl (hK _ _ hB36c hF36c (by omega))
                      · skip
                        refine r_aload_n hL (x := 120) dX8_types_128 rfl ?_
                        refine r_getr hL xcl8 0 (by decide) s_120 (by decide) fl_X8_7 (by decide) f_120_0 dX8_types_129 ?_
                        refine r_iconst hL dX8_types_132 ?_
                        refine r_iald hL dX8_types_133 (by decide) s_121 (by decide) (by omega) (by omega) (fun hr133 => ?_)
                        obtain ⟨z133, hz133⟩ : ∃ z, z = μ36c 121 0 := ⟨_, rfl⟩
                        rw [← hz133] at hr133 ⊢
                        have hb133 : 0 ≤ μ36c 121 0 ∧ μ36c 121 0 ≤ 8 := (show ((0 : Int) = 0 → 0 ≤ (μ36c 121 0) ∧ (μ36c 121 0) ≤ 8) ∧ ((0 : Int) = 1 → 0 ≤ (μ36c 121 0) ∧ (μ36c 121 0) ≤ 2) ∧ (2 ≤ (0 : Int) ∧ (0 : Int) ≤ 5 → 0 ≤ (μ36c 121 0) ∧ (μ36c 121 0) ≤ 9) ∧ (6 ≤ (0 : Int) ∧ (0 : Int) ≤ 13 → 0 ≤ (μ36c 121 0) ∧ (μ36c 121 0) ≤ 10) ∧ (30 ≤ (0 : Int) → 0 ≤ (μ36c 121 0) ∧ (μ36c 121 0) ≤ 7) from hB36c 121 0).1 (by omega)
                        refine r_iload_n hL (x := g) dX8_types_134 rfl ?_
                        refine r_isub hL dX8_types_135 ?_
                        refine r_goto hL (tgt := 141) dX8_types_136 (by decide) ?_
                        exact r_iret hL dX8_types_141 rfl (hK _ _ hB36c hF36c (by omega))
                    · skip
                      refine r_iload hL (x := s) dX8_types_89 rfl ?_
                      refine r_aload_n hL (x := 120) dX8_types_91 rfl ?_
                      refine r_getr hL xcl8 21 (by decide) s_120 (by decide) fl_X8_53 (by decide) f_120_21 dX8_types_92 ?_
                      refine r_iload hL (x := n) dX8_types_95 rfl ?_
                      refine r_iald hL dX8_types_97 (by decide) s_135 (by decide) (by omega) (by omega) (fun hr97 => ?_)
                      obtain ⟨z97, hz97⟩ : ∃ z, z = μ36c 135 n := ⟨_, rfl⟩
                      rw [← hz97] at hr97 ⊢
                      refine r_iload hL (x := s) dX8_types_98 rfl ?_
                      refine r_iand hL dX8_types_100 ?_
                      obtain ⟨z100, hz100⟩ : ∃ z, z = xand z97 s := ⟨_, rfl⟩
                      rw [← hz100]
                      have hr100 : xrg z100 := by rw [hz100]; exact xand_rg _ _
                      refine r_if_eq hL (tgt := 114) dX8_types_101 (by decide) (by omega) (fun c101 => ?_) (fun c101 => ?_)
                      · skip
                        refine r_iconst hL dX8_types_114 ?_
                        refine r_ior hL dX8_types_115 ?_
                        obtain ⟨z115, hz115⟩ : ∃ z, z = xor' s 0 := ⟨_, rfl⟩
                        rw [← hz115]
                        have hr115 : xrg z115 := by rw [hz115]; exact xor_rg _ _
                        refine r_istore hL (lo' := [some (xR 120), some (xI t), some (xI u), some (xI g), some (xI z115), some (xI n)]) dX8_types_116 (by decide) rfl ?_
                        refine r_iinc hL (x := n) (lo' := [some (xR 120), some (xI t), some (xI u), some (xI g), some (xI z115), some (xI (n + 1))]) dX8_types_118 (by decide) rfl rfl ?_
                        refine r_goto hL (tgt := 83) dX8_types_121 (by decide) ?_
                        exact ih83 z115 (n + 1) (by omega) (by omega) (by omega)
                      · skip
                        refine r_aload_n hL (x := 120) dX8_types_104 rfl ?_
                        refine r_getr hL xcl8 21 (by decide) s_120 (by decide) fl_X8_53 (by decide) f_120_21 dX8_types_105 ?_
                        refine r_iload hL (x := n) dX8_types_108 rfl ?_
                        refine r_iald hL dX8_types_110 (by decide) s_135 (by decide) (by omega) (by omega) (fun hr110 => ?_)
                        obtain ⟨z110, hz110⟩ : ∃ z, z = μ36c 135 n := ⟨_, rfl⟩
                        rw [← hz110] at hr110 ⊢
                        refine r_goto hL (tgt := 115) dX8_types_111 (by decide) ?_
                        refine r_ior hL dX8_types_115 ?_
                        obtain ⟨z115, hz115⟩ : ∃ z, z = xor' s z110 := ⟨_, rfl⟩
                        rw [← hz115]
                        have hr115 : xrg z115 := by rw [hz115]; exact xor_rg _ _
                        refine r_istore hL (lo' := [some (xR 120), some (xI t), some (xI u), some (xI g), some (xI z115), some (xI n)]) dX8_types_116 (by decide) rfl ?_
                        refine r_iinc hL (x := n) (lo' := [some (xR 120), some (xI t), some (xI u), some (xI g), some (xI z115), some (xI (n + 1))]) dX8_types_118 (by decide) rfl rfl ?_
                        refine r_goto hL (tgt := 83) dX8_types_121 (by decide) ?_
                        exact ih83 z115 (n + 1) (by omega) (by omega) (by omega)
                exact lp83 _ z73 0 (by omega) (by omega) (Nat.lt_succ_self _)
            · skip
              refine r_aload_n hL (x := 120) dX8_types_49 rfl ?_
              refine r_getr hL xcl8 23 (by decide) s_120 (by decide) fl_X8_59 (by decide) f_120_23 dX8_types_50 ?_
              refine r_iload_n hL (x := g) dX8_types_53 rfl ?_
              refine r_iald hL dX8_types_54 (by decide) s_137 (by decide) (by omega) (by omega) (fun hr54 => ?_)
              obtain ⟨z54, hz54⟩ : ∃ z, z = μ36c 137 g := ⟨_, rfl⟩
              rw [← hz54] at hr54 ⊢
              refine r_iload_n hL (x := t) dX8_types_55 rfl ?_
              refine r_icmp_gt hL (tgt := 65) dX8_types_56 (by decide) (by omega) (by omega) (fun c56 => ?_) (fun c56 => ?_)
              · skip
                refine r_iload_n hL (x := u) dX8_types_65 rfl ?_
                refine r_if_le hL (tgt := 77) dX8_types_66 (by decide) (by omega) (fun c66 => ?_) (fun c66 => ?_)
                · skip
                  refine r_iconst hL dX8_types_77 ?_
                  refine r_istore hL (lo' := [some (xR 120), some (xI t), some (xI u), some (xI g), some (xI 0), none]) dX8_types_78 (by decide) rfl ?_
                  refine r_iconst hL dX8_types_80 ?_
                  refine r_istore hL (lo' := [some (xR 120), some (xI t), some (xI u), some (xI g), some (xI 0), some (xI 0)]) dX8_types_81 (by decide) rfl ?_
                  have lp83 : ∀ (n83 : Nat) (s : Int) (n : Int), (xrg s) → (0 ≤ n ∧ n ≤ 7) → ((7 - n).toNat) < n83 → X 0 0 WW μ36c 83 [some (xR 120), some (xI t), some (xI u), some (xI g), some (xI s), some (xI n)] [] := by
                    intro n83
                    induction n83 with
                    | zero => intro s n h2 h3 hn; exact absurd hn (Nat.not_lt_zero _)
                    | succ n83 ih83 =>
                      intro s n h2 h3 hn83
                      refine r_iload hL (x := n) dX8_types_83 rfl ?_
                      refine r_iload_n hL (x := g) dX8_types_85 rfl ?_
                      refine r_icmp_ge hL (tgt := 124) dX8_types_86 (by decide) (by omega) (by omega) (fun c86 => ?_) (fun c86 => ?_)
                      · skip
                        refine r_iload_n hL (x := u) dX8_types_124 rfl ?_
                        refine r_if_ne hL (tgt := 139) dX8_types_125 (by decide) (by omega) (fun c125 => ?_) (fun c125 => ?_)
                        · skip
                          refine r_iload hL (x := s) dX8_types_139 rfl ?_
                          exact r_iret hL dX8_types_141 rfl (hK _ _ hB36c hF36c (by omega))
                        · skip
                          refine r_aload_n hL (x := 120) dX8_types_128 rfl ?_
                          refine r_getr hL xcl8 0 (by decide) s_120 (by decide) fl_X8_7 (by decide) f_120_0 dX8_types_129 ?_
                          refine r_iconst hL dX8_types_132 ?_
                          refine r_iald hL dX8_types_133 (by decide) s_121 (by decide) (by omega) (by omega) (fun hr133 => ?_)
                          obtain ⟨z133, hz133⟩ : ∃ z, z = μ36c 121 0 := ⟨_, rfl⟩
                          rw [← hz133] at hr133 ⊢
                          have hb133 : 0 ≤ μ36c 121 0 ∧ μ36c 121 0 ≤ 8 := (show ((0 : Int) = 0 → 0 ≤ (μ36c 121 0) ∧ (μ36c 121 0) ≤ 8) ∧ ((0 : Int) = 1 → 0 ≤ (μ36c 121 0) ∧ (μ36c 121 0) ≤ 2) ∧ (2 ≤ (0 : Int) ∧ (0 : Int) ≤ 5 → 0 ≤ (μ36c 121 0) ∧ (μ36c 121 0) ≤ 9) ∧ (6 ≤ (0 : Int) ∧ (0 : Int) ≤ 13 → 0 ≤ (μ36c 121 0) ∧ (μ36c 121 0) ≤ 10) ∧ (30 ≤ (0 : Int) → 0 ≤ (μ36c 121 0) ∧ (μ36c 121 0) ≤ 7) from hB36c 121 0).1 (by omega)
                          refine r_iload_n hL (x := g) dX8_types_134 rfl ?_
                          refine r_isub hL dX8_types_135 ?_
                          refine r_goto hL (tgt := 141) dX8_types_136 (by decide) ?_
                          exact r_iret hL dX8_types_141 rfl (hK _ _ hB36c hF36c (by omega))
                      · skip
                        refine r_iload hL (x := s) dX8_types_89 rfl ?_
                        refine r_aload_n hL (x := 120) dX8_types_91 rfl ?_
                        refine r_getr hL xcl8 21 (by decide) s_120 (by decide) fl_X8_53 (by decide) f_120_21 dX8_types_92 ?_
                        refine r_iload hL (x := n) dX8_types_95 rfl ?_
                        refine r_iald hL dX8_types_97 (by decide) s_135 (by decide) (by omega) (by omega) (fun hr97 => ?_)
                        obtain ⟨z97, hz97⟩ : ∃ z, z = μ36c 135 n := ⟨_, rfl⟩
                        rw [← hz97] at hr97 ⊢
                        refine r_iload hL (x := s) dX8_types_98 rfl ?_
                        refine r_iand hL dX8_types_100 ?_
                        obtain ⟨z100, hz100⟩ : ∃ z, z = xand z97 s := ⟨_, rfl⟩
                        rw [← hz100]
                        have hr100 : xrg z100 := by rw [hz100]; exact xand_rg _ _
                        refine r_if_eq hL (tgt := 114) dX8_types_101 (by decide) (by omega) (fun c101 => ?_) (fun c101 => ?_)
                        · skip
                          refine r_iconst hL dX8_types_114 ?_
                          refine r_ior hL dX8_types_115 ?_
                          obtain ⟨z115, hz115⟩ : ∃ z, z = xor' s 0 := ⟨_, rfl⟩
                          rw [← hz115]
                          have hr115 : xrg z115 := by rw [hz115]; exact xor_rg _ _
                          refine r_istore hL (lo' := [some (xR 120), some (xI t), some (xI u), some (xI g), some (xI z115), some (xI n)]) dX8_types_116 (by decide) rfl ?_
                          refine r_iinc hL (x := n) (lo' := [some (xR 120), some (xI t), some (xI u), some (xI g), some (xI z115), some (xI (n + 1))]) dX8_types_118 (by decide) rfl rfl ?_
                          refine r_goto hL (tgt := 83) dX8_types_121 (by decide) ?_
                          exact ih83 z115 (n + 1) (by omega) (by omega) (by omega)
                        · skip
                          refine r_aload_n hL (x := 120) dX8_types_104 rfl ?_
                          refine r_getr hL xcl8 21 (by decide) s_120 (by decide) fl_X8_53 (by decide) f_120_21 dX8_types_105 ?_
                          refine r_iload hL (x := n) dX8_types_108 rfl ?_
                          refine r_iald hL dX8_types_110 (by decide) s_135 (by decide) (by omega) (by omega) (fun hr110 => ?_)
                          obtain ⟨z110, hz110⟩ : ∃ z, z = μ36c 135 n := ⟨_, rfl⟩
                          rw [← hz110] at hr110 ⊢
                          refine r_goto hL (tgt := 115) dX8_types_111 (by decide) ?_
                          refine r_ior hL dX8_types_115 ?_
                          obtain ⟨z115, hz115⟩ : ∃ z, z = xor' s z110 := ⟨_, rfl⟩
                          rw [← hz115]
                          have hr115 : xrg z115 := by rw [hz115]; exact xor_rg _ _
                          refine r_istore hL (lo' := [some (xR 120), some (xI t), some (xI u), some (xI g), some (xI z115), some (xI n)]) dX8_types_116 (by decide) rfl ?_
                          refine r_iinc hL (x := n) (lo' := [some (xR 120), some (xI t), some (xI u), some (xI g), some (xI z115), some (xI (n + 1))]) dX8_types_118 (by decide) rfl rfl ?_
                          refine r_goto hL (tgt := 83) dX8_types_121 (by decide) ?_
                          exact ih83 z115 (n + 1) (by omega) (by omega) (by omega)
                  exact lp83 _ 0 0 (by omega) (by omega) (Nat.lt_succ_self _)
                · skip
                  refine r_iconst hL dX8_types_69 ?_
                  refine r_iload_n hL (x := u) dX8_types_70 rfl ?_
                  refine r_iconst hL dX8_types_71 ?_
                  refine r_isub hL dX8_types_72 ?_
                  refine r_ishl hL dX8_types_73 ?_
                  obtain ⟨z73, hz73⟩ : ∃ z, z = xshl 1 (u - 1) := ⟨_, rfl⟩
                  rw [← hz73]
                  have hr73 : xrg z73 := by rw [hz73]; exact xshl_rg _ _
                  refine r_goto hL (tgt := 78) dX8_types_74 (by decide) ?_
                  refine r_istore hL (lo' := [some (xR 120), some (xI t), some (xI u), some (xI g), some (xI z73), none]) dX8_types_78 (by decide) rfl ?_
                  refine r_iconst hL dX8_types_80 ?_
                  refine r_istore hL (lo' := [some (xR 120), some (xI t), some (xI u), some (xI g), some (xI z73), some (xI 0)]) dX8_types_81 (by decide) rfl ?_
                  have lp83 : ∀ (n83 : Nat) (s : Int) (n : Int), (xrg s) → (0 ≤ n ∧ n ≤ 7) → ((7 - n).toNat) < n83 → X 0 0 WW μ36c 83 [some (xR 120), some (xI t), some (xI u), some (xI g), some (xI s), some (xI n)] [] := by
                    intro n83
                    induction n83 with
                    | zero => intro s n h2 h3 hn; exact absurd hn (Nat.not_lt_zero _)
                    | succ n83 ih83 =>
                      intro s n h2 h3 hn83
                      refine r_iload hL (x := n) dX8_types_83 rfl ?_
                      refine r_iload_n hL (x := g) dX8_types_85 rfl ?_
                      refine r_icmp_ge hL (tgt := 124) dX8_types_86 (by decide) (by omega) (by omega) (fun c86 => ?_) (fun c86 => ?_)
                      · skip
                        refine r_iload_n hL (x := u) dX8_types_124 rfl ?_
                        refine r_if_ne hL (tgt := 139) dX8_types_125 (by decide) (by omega) (fun c125 => ?_) (fun c125 => ?_)
                        · skip
                          refine r_iload hL (x := s) dX8_types_139 rfl ?_
                          exact r_iret hL dX8_types_141 rfl (hK _ _ hB36c hF36c (by omega))
                        · skip
                          refine r_aload_n hL (x := 120) dX8_types_128 rfl ?_
                          refine r_getr hL xcl8 0 (by decide) s_120 (by decide) fl_X8_7 (by decide) f_120_0 dX8_types_129 ?_
                          refine r_iconst hL dX8_types_132 ?_
                          refine r_iald hL dX8_types_133 (by decide) s_121 (by decide) (by omega) (by omega) (fun hr133 => ?_)
                          obtain ⟨z133, hz133⟩ : ∃ z, z = μ36c 121 0 := ⟨_, rfl⟩
                          rw [← hz133] at hr133 ⊢
                          have hb133 : 0 ≤ μ36c 121 0 ∧ μ36c 121 0 ≤ 8 := (show ((0 : Int) = 0 → 0 ≤ (μ36c 121 0) ∧ (μ36c 121 0) ≤ 8) ∧ ((0 : Int) = 1 → 0 ≤ (μ36c 121 0) ∧ (μ36c 121 0) ≤ 2) ∧ (2 ≤ (0 : Int) ∧ (0 : Int) ≤ 5 → 0 ≤ (μ36c 121 0) ∧ (μ36c 121 0) ≤ 9) ∧ (6 ≤ (0 : Int) ∧ (0 : Int) ≤ 13 → 0 ≤ (μ36c 121 0) ∧ (μ36c 121 0) ≤ 10) ∧ (30 ≤ (0 : Int) → 0 ≤ (μ36c 121 0) ∧ (μ36c 121 0) ≤ 7) from hB36c 121 0).1 (by omega)
                          refine r_iload_n hL (x := g) dX8_types_134 rfl ?_
                          refine r_isub hL dX8_types_135 ?_
                          refine r_goto hL (tgt := 141) dX8_types_136 (by decide) ?_
                          exact r_iret hL dX8_types_141 rfl (hK _ _ hB36c hF36c (by omega))
                      · skip
                        refine r_iload hL (x := s) dX8_types_89 rfl ?_
                        refine r_aload_n hL (x := 120) dX8_types_91 rfl ?_
                        refine r_getr hL xcl8 21 (by decide) s_120 (by decide) fl_X8_53 (by decide) f_120_21 dX8_types_92 ?_
                        refine r_iload hL (x := n) dX8_types_95 rfl ?_
                        refine r_iald hL dX8_types_97 (by decide) s_135 (by decide) (by omega) (by omega) (fun hr97 => ?_)
                        obtain ⟨z97, hz97⟩ : ∃ z, z = μ36c 135 n := ⟨_, rfl⟩
                        rw [← hz97] at hr97 ⊢
                        refine r_iload hL (x := s) dX8_types_98 rfl ?_
                        refine r_iand hL dX8_types_100 ?_
                        obtain ⟨z100, hz100⟩ : ∃ z, z = xand z97 s := ⟨_, rfl⟩
                        rw [← hz100]
                        have hr100 : xrg z100 := by rw [hz100]; exact xand_rg _ _
                        refine r_if_eq hL (tgt := 114) dX8_types_101 (by decide) (by omega) (fun c101 => ?_) (fun c101 => ?_)
                        · skip
                          refine r_iconst hL dX8_types_114 ?_
                          refine r_ior hL dX8_types_115 ?_
                          obtain ⟨z115, hz115⟩ : ∃ z, z = xor' s 0 := ⟨_, rfl⟩
                          rw [← hz115]
                          have hr115 : xrg z115 := by rw [hz115]; exact xor_rg _ _
                          refine r_istore hL (lo' := [some (xR 120), some (xI t), some (xI u), some (xI g), some (xI z115), some (xI n)]) dX8_types_116 (by decide) rfl ?_
                          refine r_iinc hL (x := n) (lo' := [some (xR 120), some (xI t), some (xI u), some (xI g), some (xI z115), some (xI (n + 1))]) dX8_types_118 (by decide) rfl rfl ?_
                          refine r_goto hL (tgt := 83) dX8_types_121 (by decide) ?_
                          exact ih83 z115 (n + 1) (by omega) (by omega) (by omega)
                        · skip
                          refine r_aload_n hL (x := 120) dX8_types_104 rfl ?_
                          refine r_getr hL xcl8 21 (by decide) s_120 (by decide) fl_X8_53 (by decide) f_120_21 dX8_types_105 ?_
                          refine r_iload hL (x := n) dX8_types_108 rfl ?_
                          refine r_iald hL dX8_types_110 (by decide) s_135 (by decide) (by omega) (by omega) (fun hr110 => ?_)
                          obtain ⟨z110, hz110⟩ : ∃ z, z = μ36c 135 n := ⟨_, rfl⟩
                          rw [← hz110] at hr110 ⊢
                          refine r_goto hL (tgt := 115) dX8_types_111 (by decide) ?_
                          refine r_ior hL dX8_types_115 ?_
                          obtain ⟨z115, hz115⟩ : ∃ z, z = xor' s z110 := ⟨_, rfl⟩
                          rw [← hz115]
                          have hr115 : xrg z115 := by rw [hz115]; exact xor_rg _ _
                          refine r_istore hL (lo' := [some (xR 120), some (xI t), some (xI u), some (xI g), some (xI z115), some (xI n)]) dX8_types_116 (by decide) rfl ?_
                          refine r_iinc hL (x := n) (lo' := [some (xR 120), some (xI t), some (xI u), some (xI g), some (xI z115), some (xI (n + 1))]) dX8_types_118 (by decide) rfl rfl ?_
                          refine r_goto hL (tgt := 83) dX8_types_121 (by decide) ?_
                          exact ih83 z115 (n + 1) (by omega) (by omega) (by omega)
                  exact lp83 _ z73 0 (by omega) (by omega) (Nat.lt_succ_self _)
              · skip
                refine r_iinc hL (x := g) (lo' := [some (xR 120), some (xI t), some (xI u), some (xI (g + 1)), none, none]) dX8_types_59 (by decide) rfl rfl ?_
                refine r_goto hL (tgt := 41) dX8_types_62 (by decide) ?_
                exact ih41 (g + 1) (by omega) (by omega)
        exact lp41 _ 0 (by omega) (Nat.lt_succ_self _)
      · skip
        refine r_ldc hL (n := -1000000002) dX8_types_32 kc_X8_159 (by decide) ?_
        exact r_iret hL dX8_types_34 rfl (hK _ _ hB hF (by omega))
  · skip
    refine r_aload_n hL (x := 120) dX8_types_4 rfl ?_
    refine r_iload_n hL (x := u) dX8_types_5 rfl ?_
    refine r_iconst hL dX8_types_6 ?_
    refine r_isub hL dX8_types_7 ?_
    refine r_callV hL (st := []) (av := [xI (u - 1)]) (k := 120) (m_X8_isTale (μ := μ) hB (u - 1) (by omega) (fun z8 hc8 => ⟨rfl, ?_⟩)) ce_yX8_isTale im_yX8_isTale se_yX8_isTale ml_X8_171 xcl8 (by decide) s_120 dX8_types_8 rfl (Nat.le_of_ble_eq_true rfl) ⟨Nat.le_of_ble_eq_true rfl, Nat.le_of_ble_eq_true rfl⟩ ⟨Nat.le_of_ble_eq_true rfl, Nat.le_of_ble_eq_true rfl⟩
    show X 0 0 WW μ 11 [some (xR 120), some (xI t), some (xI u), none, none, none] [xI z8]
    refine r_if_ne hL (tgt := 17) dX8_types_11 (by decide) (by omega) (fun c11 => ?_) (fun c11 => ?_)
    · skip
      refine r_iload_n hL (x := t) dX8_types_17 rfl ?_
      refine r_iconst hL dX8_types_18 ?_
      refine r_sipush hL dX8_types_19 (by decide) ?_
      refine r_callS hL (st := []) (av := [xI t, xI 0, xI 999]) (m_X8_in (μ := μ) t (by omega) 0 (by omega) 999 (by omega) (fun z22 hc22 => ⟨rfl, ?_⟩)) ce_yX8_in sm_yX8_in ml_X8_62 dX8_types_22 rfl (Nat.le_of_ble_eq_true rfl) ⟨Nat.le_of_ble_eq_true rfl, Nat.le_of_ble_eq_true rfl⟩ ⟨Nat.le_of_ble_eq_true rfl, Nat.le_of_ble_eq_true rfl⟩
      show X 0 0 WW μ 25 [some (xR 120), some (xI t), some (xI u), none, none, none] [xI z22]
      refine r_if_eq hL (tgt := 32) dX8_types_25 (by decide) (by omega) (fun c25 => ?_) (fun c25 => ?_)
      · skip
        refine r_ldc hL (n := -1000000002) dX8_types_32 kc_X8_159 (by decide) ?_
        exact r_iret hL dX8_types_34 rfl (hK _ _ hB hF (by omega))
      · skip
        refine r_iload_n hL (x := u) dX8_types_28 rfl ?_
        refine r_if_ge hL (tgt := 35) dX8_types_29 (by decide) (by omega) (fun c29 => ?_) (fun c29 => ?_)
        · skip
          refine r_aload_n hL (x := 120) dX8_types_35 rfl ?_
          refine r_callV hL (st := []) (av := []) (k := 120) (m_X8_laysNodes (μ := μ) hB  (fun μ36c hB36c hG36 => ⟨rfl, ?_⟩)) ce_yX8_laysNodes im_yX8_laysNodes se_yX8_laysNodes ml_X8_193 xcl8 (by decide) s_120 dX8_types_36 rfl (Nat.le_of_ble_eq_true rfl) ⟨Nat.le_of_ble_eq_true rfl, Nat.le_of_ble_eq_true rfl⟩ ⟨Nat.le_of_ble_eq_true rfl, Nat.le_of_ble_eq_true rfl⟩
          show X 0 0 WW μ36c 39 [some (xR 120), some (xI t), some (xI u), none, none, none] []
          have hF36c : Fr RM μ μ36c := hF.trans hG36
          refine r_iconst hL dX8_types_39 ?_
          refine r_istore_n hL (lo' := [some (xR 120), some (xI t), some (xI u), some (xI 0), none, none]) dX8_types_40 (by decide) rfl ?_
          have lp41 : ∀ (n41 : Nat) (g : Int), (0 ≤ g ∧ g ≤ 7) → ((7 - g).toNat) < n41 → X 0 0 WW μ36c 41 [some (xR 120), some (xI t), some (xI u), some (xI g), none, none] [] := by
            intro n41
            induction n41 with
            | zero => intro g h1 hn; exact absurd hn (Nat.not_lt_zero _)
            | succ n41 ih41 =>
              intro g h1 hn41
              refine r_iload_n hL (x := g) dX8_types_41 rfl ?_
              refine r_aload_n hL (x := 120) dX8_types_42 rfl ?_
              refine r_callV hL (st := [xI g]) (av := []) (k := 120) (m_X8_nodesMany (μ := μ36c) hB36c  (fun z43 hc43 hc43_1 hc43_2 => ⟨rfl, ?_⟩)) ce_yX8_nodesMany im_yX8_nodesMany se_yX8_nodesMany ml_X8_142 xcl8 (by decide) s_120 dX8_types_43 rfl (Nat.le_of_ble_eq_true rfl) ⟨Nat.le_of_ble_eq_true rfl, Nat.le_of_ble_eq_true rfl⟩ ⟨Nat.le_of_ble_eq_true rfl, Nat.le_of_ble_eq_true rfl⟩
              show X 0 0 WW μ36c 46 [some (xR 120), some (xI t), some (xI u), some (xI g), none, none] [xI z43, xI g]
              refine r_icmp_ge hL (tgt := 65) dX8_types_46 (by decide) (by omega) (by omega) (fun c46 => ?_) (fun c46 => ?_)
              · skip
                refine r_iload_n hL (x := u) dX8_types_65 rfl ?_
                refine r_if_le hL (tgt := 77) dX8_types_66 (by decide) (by omega) (fun c66 => ?_) (fun c66 => ?_)
                · skip
                  refine r_iconst hL dX8_types_77 ?_
                  refine r_istore hL (lo' := [some (xR 120), some (xI t), some (xI u), some (xI g), some (xI 0), none]) dX8_types_78 (by decide) rfl ?_
                  refine r_iconst hL dX8_types_80 ?_
                  refine r_istore hL (lo' := [some (xR 120), some (xI t), some (xI u), some (xI g), some (xI 0), some (xI 0)]) dX8_types_81 (by decide) rfl ?_
                  have lp83 : ∀ (n83 : Nat) (s : Int) (n : Int), (xrg s) → (0 ≤ n ∧ n ≤ 7) → ((7 - n).toNat) < n83 → X 0 0 WW μ36c 83 [some (xR 120), some (xI t), some (xI u), some (xI g), some (xI s), some (xI n)] [] := by
                    intro n83
                    induction n83 with
                    | zero => intro s n h2 h3 hn; exact absurd hn (Nat.not_lt_zero _)
                    | succ n83 ih83 =>
                      intro s n h2 h3 hn83
                      refine r_iload hL (x := n) dX8_types_83 rfl ?_
                      refine r_iload_n hL (x := g) dX8_types_85 rfl ?_
                      refine r_icmp_ge hL (tgt := 124) dX8_types_86 (by decide) (by omega) (by omega) (fun c86 => ?_) (fun c86 => ?_)
                      · skip
                        refine r_iload_n hL (x := u) dX8_types_124 rfl ?_
                        refine r_if_ne hL (tgt := 139) dX8_types_125 (by decide) (by omega) (fun c125 => ?_) (fun c125 => ?_)
                        · skip
                          refine r_iload hL (x := s) dX8_types_139 rfl ?_
                          exact r_iret hL dX8_types_141 rfl (hK _ _ hB36c hF36c (by omega))
                        · skip
                          refine r_aload_n hL (x := 120) dX8_types_128 rfl ?_
                          refine r_getr hL xcl8 0 (by decide) s_120 (by decide) fl_X8_7 (by decide) f_120_0 dX8_types_129 ?_
                          refine r_iconst hL dX8_types_132 ?_
                          refine r_iald hL dX8_types_133 (by decide) s_121 (by decide) (by omega) (by omega) (fun hr133 => ?_)
                          obtain ⟨z133, hz133⟩ : ∃ z, z = μ36c 121 0 := ⟨_, rfl⟩
                          rw [← hz133] at hr133 ⊢
                          have hb133 : 0 ≤ μ36c 121 0 ∧ μ36c 121 0 ≤ 8 := (show ((0 : Int) = 0 → 0 ≤ (μ36c 121 0) ∧ (μ36c 121 0) ≤ 8) ∧ ((0 : Int) = 1 → 0 ≤ (μ36c 121 0) ∧ (μ36c 121 0) ≤ 2) ∧ (2 ≤ (0 : Int) ∧ (0 : Int) ≤ 5 → 0 ≤ (μ36c 121 0) ∧ (μ36c 121 0) ≤ 9) ∧ (6 ≤ (0 : Int) ∧ (0 : Int) ≤ 13 → 0 ≤ (μ36c 121 0) ∧ (μ36c 121 0) ≤ 10) ∧ (30 ≤ (0 : Int) → 0 ≤ (μ36c 121 0) ∧ (μ36c 121 0) ≤ 7) from hB36c 121 0).1 (by omega)
                          refine r_iload_n hL (x := g) dX8_types_134 rfl ?_
                          refine r_isub hL dX8_types_135 ?_
                          refine r_goto hL (tgt := 141) dX8_types_136 (by decide) ?_
                          exact r_iret hL dX8_types_141 rfl (hK _ _ hB36c hF36c (by omega))
                      · skip
                        refine r_iload hL (x := s) dX8_types_89 rfl ?_
                        refine r_aload_n hL (x := 120) dX8_types_91 rfl ?_
                        refine r_getr hL xcl8 21 (by decide) s_120 (by decide) fl_X8_53 (by decide) f_120_21 dX8_types_92 ?_
                        refine r_iload hL (x := n) dX8_types_95 rfl ?_
                        refine r_iald hL dX8_types_97 (by decide) s_135 (by decide) (by omega) (by omega) (fun hr97 => ?_)
                        obtain ⟨z97, hz97⟩ : ∃ z, z = μ36c 135 n := ⟨_, rfl⟩
                        rw [← hz97] at hr97 ⊢
                        refine r_iload hL (x := s) dX8_types_98 rfl ?_
                        refine r_iand hL dX8_types_100 ?_
                        obtain ⟨z100, hz100⟩ : ∃ z, z = xand z97 s := ⟨_, rfl⟩
                        rw [← hz100]
                        have hr100 : xrg z100 := by rw [hz100]; exact xand_rg _ _
                        refine r_if_eq hL (tgt := 114) dX8_types_101 (by decide) (by omega) (fun c101 => ?_) (fun c101 => ?_)
                        · skip
                          refine r_iconst hL dX8_types_114 ?_
                          refine r_ior hL dX8_types_115 ?_
                          obtain ⟨z115, hz115⟩ : ∃ z, z = xor' s 0 := ⟨_, rfl⟩
                          rw [← hz115]
                          have hr115 : xrg z115 := by rw [hz115]; exact xor_rg _ _
                          refine r_istore hL (lo' := [some (xR 120), some (xI t), some (xI u), some (xI g), some (xI z115), some (xI n)]) dX8_types_116 (by decide) rfl ?_
                          refine r_iinc hL (x := n) (lo' := [some (xR 120), some (xI t), some (xI u), some (xI g), some (xI z115), some (xI (n + 1))]) dX8_types_118 (by decide) rfl rfl ?_
                          refine r_goto hL (tgt := 83) dX8_types_121 (by decide) ?_
                          exact ih83 z115 (n + 1) (by omega) (by omega) (by omega)
                        · skip
                          refine r_aload_n hL (x := 120) dX8_types_104 rfl ?_
                          refine r_getr hL xcl8 21 (by decide) s_120 (by decide) fl_X8_53 (by decide) f_120_21 dX8_types_105 ?_
                          refine r_iload hL (x := n) dX8_types_108 rfl ?_
                          refine r_iald hL dX8_types_110 (by decide) s_135 (by decide) (by omega) (by omega) (fun hr110 => ?_)
                          obtain ⟨z110, hz110⟩ : ∃ z, z = μ36c 135 n := ⟨_, rfl⟩
                          rw [← hz110] at hr110 ⊢
                          refine r_goto hL (tgt := 115) dX8_types_111 (by decide) ?_
                          refine r_ior hL dX8_types_115 ?_
                          obtain ⟨z115, hz115⟩ : ∃ z, z = xor' s z110 := ⟨_, rfl⟩
                          rw [← hz115]
                          have hr115 : xrg z115 := by rw [hz115]; exact xor_rg _ _
                          refine r_istore hL (lo' := [some (xR 120), some (xI t), some (xI u), some (xI g), some (xI z115), some (xI n)]) dX8_types_116 (by decide) rfl ?_
                          refine r_iinc hL (x := n) (lo' := [some (xR 120), some (xI t), some (xI u), some (xI g), some (xI z115), some (xI (n + 1))]) dX8_types_118 (by decide) rfl rfl ?_
                          refine r_goto hL (tgt := 83) dX8_types_121 (by decide) ?_
                          exact ih83 z115 (n + 1) (by omega) (by omega) (by omega)
                  exact lp83 _ 0 0 (by omega) (by omega) (Nat.lt_succ_self _)
                · skip
                  refine r_iconst hL dX8_types_69 ?_
                  refine r_iload_n hL (x := u) dX8_types_70 rfl ?_
                  refine r_iconst hL dX8_types_71 ?_
                  refine r_isub hL dX8_types_72 ?_
                  refine r_ishl hL dX8_types_73 ?_
                  obtain ⟨z73, hz73⟩ : ∃ z, z = xshl 1 (u - 1) := ⟨_, rfl⟩
                  rw [← hz73]
                  have hr73 : xrg z73 := by rw [hz73]; exact xshl_rg _ _
                  refine r_goto hL (tgt := 78) dX8_types_74 (by decide) ?_
                  refine r_istore hL (lo' := [some (xR 120), some (xI t), some (xI u), some (xI g), some (xI z73), none]) dX8_types_78 (by decide) rfl ?_
                  refine r_iconst hL dX8_types_80 ?_
                  refine r_istore hL (lo' := [some (xR 120), some (xI t), some (xI u), some (xI g), some (xI z73), some (xI 0)]) dX8_types_81 (by decide) rfl ?_
                  have lp83 : ∀ (n83 : Nat) (s : Int) (n : Int), (xrg s) → (0 ≤ n ∧ n ≤ 7) → ((7 - n).toNat) < n83 → X 0 0 WW μ36c 83 [some (xR 120), some (xI t), some (xI u), some (xI g), some (xI s), some (xI n)] [] := by
                    intro n83
                    induction n83 with
                    | zero => intro s n h2 h3 hn; exact absurd hn (Nat.not_lt_zero _)
                    | succ n83 ih83 =>
                      intro s n h2 h3 hn83
                      refine r_iload hL (x := n) dX8_types_83 rfl ?_
                      refine r_iload_n hL (x := g) dX8_types_85 rfl ?_
                      refine r_icmp_ge hL (tgt := 124) dX8_types_86 (by decide) (by omega) (by omega) (fun c86 => ?_) (fun c86 => ?_)
                      · skip
                        refine r_iload_n hL (x := u) dX8_types_124 rfl ?_
                        refine r_if_ne hL (tgt := 139) dX8_types_125 (by decide) (by omega) (fun c125 => ?_) (fun c125 => ?_)
                        · skip
                          refine r_iload hL (x := s) dX8_types_139 rfl ?_
                          exact r_iret hL dX8_types_141 rfl (hK _ _ hB36c hF36c (by omega))
                        · skip
                          refine r_aload_n hL (x := 120) dX8_types_128 rfl ?_
                          refine r_getr hL xcl8 0 (by decide) s_120 (by decide) fl_X8_7 (by decide) f_120_0 dX8_types_129 ?_
                          refine r_iconst hL dX8_types_132 ?_
                          refine r_iald hL dX8_types_133 (by decide) s_121 (by decide) (by omega) (by omega) (fun hr133 => ?_)
                          obtain ⟨z133, hz133⟩ : ∃ z, z = μ36c 121 0 := ⟨_, rfl⟩
                          rw [← hz133] at hr133 ⊢
                          have hb133 : 0 ≤ μ36c 121 0 ∧ μ36c 121 0 ≤ 8 := (show ((0 : Int) = 0 → 0 ≤ (μ36c 121 0) ∧ (μ36c 121 0) ≤ 8) ∧ ((0 : Int) = 1 → 0 ≤ (μ36c 121 0) ∧ (μ36c 121 0) ≤ 2) ∧ (2 ≤ (0 : Int) ∧ (0 : Int) ≤ 5 → 0 ≤ (μ36c 121 0) ∧ (μ36c 121 0) ≤ 9) ∧ (6 ≤ (0 : Int) ∧ (0 : Int) ≤ 13 → 0 ≤ (μ36c 121 0) ∧ (μ36c 121 0) ≤ 10) ∧ (30 ≤ (0 : Int) → 0 ≤ (μ36c 121 0) ∧ (μ36c 121 0) ≤ 7) from hB36c 121 0).1 (by omega)
                          refine r_iload_n hL (x := g) dX8_types_134 rfl ?_
                          refine r_isub hL dX8_types_135 ?_
                          refine r_goto hL (tgt := 141) dX8_types_136 (by decide) ?_
                          exact r_iret hL dX8_types_141 rfl (hK _ _ hB36c hF36c (by omega))
                      · skip
                        refine r_iload hL (x := s) dX8_types_89 rfl ?_
                        refine r_aload_n hL (x := 120) dX8_types_91 rfl ?_
                        refine r_getr hL xcl8 21 (by decide) s_120 (by decide) fl_X8_53 (by decide) f_120_21 dX8_types_92 ?_
                        refine r_iload hL (x := n) dX8_types_95 rfl ?_
                        refine r_iald hL dX8_types_97 (by decide) s_135 (by decide) (by omega) (by omega) (fun hr97 => ?_)
                        obtain ⟨z97, hz97⟩ : ∃ z, z = μ36c 135 n := ⟨_, rfl⟩
                        rw [← hz97] at hr97 ⊢
                        refine r_iload hL (x := s) dX8_types_98 rfl ?_
                        refine r_iand hL dX8_types_100 ?_
                        obtain ⟨z100, hz100⟩ : ∃ z, z = xand z97 s := ⟨_, rfl⟩
                        rw [← hz100]
                        have hr100 : xrg z100 := by rw [hz100]; exact xand_rg _ _
                        refine r_if_eq hL (tgt := 114) dX8_types_101 (by decide) (by omega) (fun c101 => ?_) (fun c101 => ?_)
                        · skip
                          refine r_iconst hL dX8_types_114 ?_
                          refine r_ior hL dX8_types_115 ?_
                          obtain ⟨z115, hz115⟩ : ∃ z, z = xor' s 0 := ⟨_, rfl⟩
                          rw [← hz115]
                          have hr115 : xrg z115 := by rw [hz115]; exact xor_rg _ _
                          refine r_istore hL (lo' := [some (xR 120), some (xI t), some (xI u), some (xI g), some (xI z115), some (xI n)]) dX8_types_116 (by decide) rfl ?_
                          refine r_iinc hL (x := n) (lo' := [some (xR 120), some (xI t), some (xI u), some (xI g), some (xI z115), some (xI (n + 1))]) dX8_types_118 (by decide) rfl rfl ?_
                          refine r_goto hL (tgt := 83) dX8_types_121 (by decide) ?_
                          exact ih83 z115 (n + 1) (by omega) (by omega) (by omega)
                        · skip
                          refine r_aload_n hL (x := 120) dX8_types_104 rfl ?_
                          refine r_getr hL xcl8 21 (by decide) s_120 (by decide) fl_X8_53 (by decide) f_120_21 dX8_types_105 ?_
                          refine r_iload hL (x := n) dX8_types_108 rfl ?_
                          refine r_iald hL dX8_types_110 (by decide) s_135 (by decide) (by omega) (by omega) (fun hr110 => ?_)
                          obtain ⟨z110, hz110⟩ : ∃ z, z = μ36c 135 n := ⟨_, rfl⟩
                          rw [← hz110] at hr110 ⊢
                          refine r_goto hL (tgt := 115) dX8_types_111 (by decide) ?_
                          refine r_ior hL dX8_types_115 ?_
                          obtain ⟨z115, hz115⟩ : ∃ z, z = xor' s z110 := ⟨_, rfl⟩
                          rw [← hz115]
                          have hr115 : xrg z115 := by rw [hz115]; exact xor_rg _ _
                          refine r_istore hL (lo' := [some (xR 120), some (xI t), some (xI u), some (xI g), some (xI z115), some (xI n)]) dX8_types_116 (by decide) rfl ?_
                          refine r_iinc hL (x := n) (lo' := [some (xR 120), some (xI t), some (xI u), some (xI g), some (xI z115), some (xI (n + 1))]) dX8_types_118 (by decide) rfl rfl ?_
                          refine r_goto hL (tgt := 83) dX8_types_121 (by decide) ?_
                          exact ih83 z115 (n + 1) (by omega) (by omega) (by omega)
                  exact lp83 _ z73 0 (by omega) (by omega) (Nat.lt_succ_self _)
              · skip
                refine r_aload_n hL (x := 120) dX8_types_49 rfl ?_
                refine r_getr hL xcl8 23 (by decide) s_120 (by decide) fl_X8_59 (by decide) f_120_23 dX8_types_50 ?_
                refine r_iload_n hL (x := g) dX8_types_53 rfl ?_
                refine r_iald hL dX8_types_54 (by decide) s_137 (by decide) (by omega) (by omega) (fun hr54 => ?_)
                obtain ⟨z54, hz54⟩ : ∃ z, z = μ36c 137 g := ⟨_, rfl⟩
                rw [← hz54] at hr54 ⊢
                refine r_iload_n hL (x := t) dX8_types_55 rfl ?_
                refine r_icmp_gt hL (tgt := 65) dX8_types_56 (by decide) (by omega) (by omega) (fun c56 => ?_) (fun c56 => ?_)
                · skip
                  refine r_iload_n hL (x := u) dX8_types_65 rfl ?_
                  refine r_if_le hL (tgt := 77) dX8_types_66 (by decide) (by omega) (fun c66 => ?_) (fun c66 => ?_)
                  · skip
                    refine r_iconst hL dX8_types_77 ?_
                    refine r_istore hL (lo' := [some (xR 120), some (xI t), some (xI u), some (xI g), some (xI 0), none]) dX8_types_78 (by decide) rfl ?_
                    refine r_iconst hL dX8_types_80 ?_
                    refine r_istore hL (lo' := [some (xR 120), some (xI t), some (xI u), some (xI g), some (xI 0), some (xI 0)]) dX8_types_81 (by decide) rfl ?_
                    have lp83 : ∀ (n83 : Nat) (s : Int) (n : Int), (xrg s) → (0 ≤ n ∧ n ≤ 7) → ((7 - n).toNat) < n83 → X 0 0 WW μ36c 83 [some (xR 120), some (xI t), some (xI u), some (xI g), some (xI s), some (xI n)] [] := by
                      intro n83
                      induction n83 with
                      | zero => intro s n h2 h3 hn; exact absurd hn (Nat.not_lt_zero _)
                      | succ n83 ih83 =>
                        intro s n h2 h3 hn83
                        refine r_iload hL (x := n) dX8_types_83 rfl ?_
                        refine r_iload_n hL (x := g) dX8_types_85 rfl ?_
                        refine r_icmp_ge hL (tgt := 124) dX8_types_86 (by decide) (by omega) (by omega) (fun c86 => ?_) (fun c86 => ?_)
                        · skip
                          refine r_iload_n hL (x := u) dX8_types_124 rfl ?_
                          refine r_if_ne hL (tgt := 139) dX8_types_125 (by decide) (by omega) (fun c125 => ?_) (fun c125 => ?_)
                          · skip
                            refine r_iload hL (x := s) dX8_types_139 rfl ?_
                            exact r_iret hL dX8_types_141 rfl (hK _ _ hB36c hF36c (by omega))
                          · skip
                            refine r_aload_n hL (x := 120) dX8_types_128 rfl ?_
                            refine r_getr hL xcl8 0 (by decide) s_120 (by decide) fl_X8_7 (by decide) f_120_0 dX8_types_129 ?_
                            refine r_iconst hL dX8_types_132 ?_
                            refine r_iald hL dX8_types_133 (by decide) s_121 (by decide) (by omega) (by omega) (fun hr133 => ?_)
                            obtain ⟨z133, hz133⟩ : ∃ z, z = μ36c 121 0 := ⟨_, rfl⟩
                            rw [← hz133] at hr133 ⊢
                            have hb133 : 0 ≤ μ36c 121 0 ∧ μ36c 121 0 ≤ 8 := (show ((0 : Int) = 0 → 0 ≤ (μ36c 121 0) ∧ (μ36c 121 0) ≤ 8) ∧ ((0 : Int) = 1 → 0 ≤ (μ36c 121 0) ∧ (μ36c 121 0) ≤ 2) ∧ (2 ≤ (0 : Int) ∧ (0 : Int) ≤ 5 → 0 ≤ (μ36c 121 0) ∧ (μ36c 121 0) ≤ 9) ∧ (6 ≤ (0 : Int) ∧ (0 : Int) ≤ 13 → 0 ≤ (μ36c 121 0) ∧ (μ36c 121 0) ≤ 10) ∧ (30 ≤ (0 : Int) → 0 ≤ (μ36c 121 0) ∧ (μ36c 121 0) ≤ 7) from hB36c 121 0).1 (by omega)
                            refine r_iload_n hL (x := g) dX8_types_134 rfl ?_
                            refine r_isub hL dX8_types_135 ?_
                            refine r_goto hL (tgt := 141) dX8_types_136 (by decide) ?_
                            exact r_iret hL dX8_types_141 rfl (hK _ _ hB36c hF36c (by omega))
                        · skip
                          refine r_iload hL (x := s) dX8_types_89 rfl ?_
                          refine r_aload_n hL (x := 120) dX8_types_91 rfl ?_
                          refine r_getr hL xcl8 21 (by decide) s_120 (by decide) fl_X8_53 (by decide) f_120_21 dX8_types_92 ?_
                          refine r_iload hL (x := n) dX8_types_95 rfl ?_
                          refine r_iald hL dX8_types_97 (by decide) s_135 (by decide) (by omega) (by omega) (fun hr97 => ?_)
                          obtain ⟨z97, hz97⟩ : ∃ z, z = μ36c 135 n := ⟨_, rfl⟩
                          rw [← hz97] at hr97 ⊢
                          refine r_iload hL (x := s) dX8_types_98 rfl ?_
                          refine r_iand hL dX8_types_100 ?_
                          obtain ⟨z100, hz100⟩ : ∃ z, z = xand z97 s := ⟨_, rfl⟩
                          rw [← hz100]
                          have hr100 : xrg z100 := by rw [hz100]; exact xand_rg _ _
                          refine r_if_eq hL (tgt := 114) dX8_types_101 (by decide) (by omega) (fun c101 => ?_) (fun c101 => ?_)
                          · skip
                            refine r_iconst hL dX8_types_114 ?_
                            refine r_ior hL dX8_types_115 ?_
                            obtain ⟨z115, hz115⟩ : ∃ z, z = xor' s 0 := ⟨_, rfl⟩
                            rw [← hz115]
                            have hr115 : xrg z115 := by rw [hz115]; exact xor_rg _ _
                            refine r_istore hL (lo' := [some (xR 120), some (xI t), some (xI u), some (xI g), some (xI z115), some (xI n)]) dX8_types_116 (by decide) rfl ?_
                            refine r_iinc hL (x := n) (lo' := [some (xR 120), some (xI t), some (xI u), some (xI g), some (xI z115), some (xI (n + 1))]) dX8_types_118 (by decide) rfl rfl ?_
                            refine r_goto hL (tgt := 83) dX8_types_121 (by decide) ?_
                            exact ih83 z115 (n + 1) (by omega) (by omega) (by omega)
                          · skip
                            refine r_aload_n hL (x := 120) dX8_types_104 rfl ?_
                            refine r_getr hL xcl8 21 (by decide) s_120 (by decide) fl_X8_53 (by decide) f_120_21 dX8_types_105 ?_
                            refine r_iload hL (x := n) dX8_types_108 rfl ?_
                            refine r_iald hL dX8_types_110 (by decide) s_135 (by decide) (by omega) (by omega) (fun hr110 => ?_)
                            obtain ⟨z110, hz110⟩ : ∃ z, z = μ36c 135 n := ⟨_, rfl⟩
                            rw [← hz110] at hr110 ⊢
                            refine r_goto hL (tgt := 115) dX8_types_111 (by decide) ?_
                            refine r_ior hL dX8_types_115 ?_
                            obtain ⟨z115, hz115⟩ : ∃ z, z = xor' s z110 := ⟨_, rfl⟩
                            rw [← hz115]
                            have hr115 : xrg z115 := by rw [hz115]; exact xor_rg _ _
                            refine r_istore hL (lo' := [some (xR 120), some (xI t), some (xI u), some (xI g), some (xI z115), some (xI n)]) dX8_types_116 (by decide) rfl ?_
                            refine r_iinc hL (x := n) (lo' := [some (xR 120), some (xI t), some (xI u), some (xI g), some (xI z115), some (xI (n + 1))]) dX8_types_118 (by decide) rfl rfl ?_
                            refine r_goto hL (tgt := 83) dX8_types_121 (by decide) ?_
                            exact ih83 z115 (n + 1) (by omega) (by omega) (by omega)
                    exact lp83 _ 0 0 (by omega) (by omega) (Nat.lt_succ_self _)
                  · skip
                    refine r_iconst hL dX8_types_69 ?_
                    refine r_iload_n hL (x := u) dX8_types_70 rfl ?_
                    refine r_iconst hL dX8_types_71 ?_
                    refine r_isub hL dX8_types_72 ?_
                    refine r_ishl hL dX8_types_73 ?_
                    obtain ⟨z73, hz73⟩ : ∃ z, z = xshl 1 (u - 1) := ⟨_, rfl⟩
                    rw [← hz73]
                    have hr73 : xrg z73 := by rw [hz73]; exact xshl_rg _ _
                    refine r_goto hL (tgt := 78) dX8_types_74 (by decide) ?_
                    refine r_istore hL (lo' := [some (xR 120), some (xI t), some (xI u), some (xI g), some (xI z73), none]) dX8_types_78 (by decide) rfl ?_
                    refine r_iconst hL dX8_types_80 ?_
                    refine r_istore hL (lo' := [some (xR 120), some (xI t), some (xI u), some (xI g), some (xI z73), some (xI 0)]) dX8_types_81 (by decide) rfl ?_
                    have lp83 : ∀ (n83 : Nat) (s : Int) (n : Int), (xrg s) → (0 ≤ n ∧ n ≤ 7) → ((7 - n).toNat) < n83 → X 0 0 WW μ36c 83 [some (xR 120), some (xI t), some (xI u), some (xI g), some (xI s), some (xI n)] [] := by
                      intro n83
                      induction n83 with
                      | zero => intro s n h2 h3 hn; exact absurd hn (Nat.not_lt_zero _)
                      | succ n83 ih83 =>
                        intro s n h2 h3 hn83
                        refine r_iload hL (x := n) dX8_types_83 rfl ?_
                        refine r_iload_n hL (x := g) dX8_types_85 rfl ?_
                        refine r_icmp_ge hL (tgt := 124) dX8_types_86 (by decide) (by omega) (by omega) (fun c86 => ?_) (fun c86 => ?_)
                        · skip
                          refine r_iload_n hL (x := u) dX8_types_124 rfl ?_
                          refine r_if_ne hL (tgt := 139) dX8_types_125 (by decide) (by omega) (fun c125 => ?_) (fun c125 => ?_)
                          · skip
                            refine r_iload hL (x := s) dX8_types_139 rfl ?_
                            exact r_iret hL dX8_types_141 rfl (hK _ _ hB36c hF36c (by omega))
                          · skip
                            refine r_aload_n hL (x := 120) dX8_types_128 rfl ?_
                            refine r_getr hL xcl8 0 (by decide) s_120 (by decide) fl_X8_7 (by decide) f_120_0 dX8_types_129 ?_
                            refine r_iconst hL dX8_types_132 ?_
                            refine r_iald hL dX8_types_133 (by decide) s_121 (by decide) (by omega) (by omega) (fun hr133 => ?_)
                            obtain ⟨z133, hz133⟩ : ∃ z, z = μ36c 121 0 := ⟨_, rfl⟩
                            rw [← hz133] at hr133 ⊢
                            have hb133 : 0 ≤ μ36c 121 0 ∧ μ36c 121 0 ≤ 8 := (show ((0 : Int) = 0 → 0 ≤ (μ36c 121 0) ∧ (μ36c 121 0) ≤ 8) ∧ ((0 : Int) = 1 → 0 ≤ (μ36c 121 0) ∧ (μ36c 121 0) ≤ 2) ∧ (2 ≤ (0 : Int) ∧ (0 : Int) ≤ 5 → 0 ≤ (μ36c 121 0) ∧ (μ36c 121 0) ≤ 9) ∧ (6 ≤ (0 : Int) ∧ (0 : Int) ≤ 13 → 0 ≤ (μ36c 121 0) ∧ (μ36c 121 0) ≤ 10) ∧ (30 ≤ (0 : Int) → 0 ≤ (μ36c 121 0) ∧ (μ36c 121 0) ≤ 7) from hB36c 121 0).1 (by omega)
                            refine r_iload_n hL (x := g) dX8_types_134 rfl ?_
                            refine r_isub hL dX8_types_135 ?_
                            refine r_goto hL (tgt := 141) dX8_types_136 (by decide) ?_
                            exact r_iret hL dX8_types_141 rfl (hK _ _ hB36c hF36c (by omega))
                        · skip
                          refine r_iload hL (x := s) dX8_types_89 rfl ?_
                          refine r_aload_n hL (x := 120) dX8_types_91 rfl ?_
                          refine r_getr hL xcl8 21 (by decide) s_120 (by decide) fl_X8_53 (by decide) f_120_21 dX8_types_92 ?_
                          refine r_iload hL (x := n) dX8_types_95 rfl ?_
                          refine r_iald hL dX8_types_97 (by decide) s_135 (by decide) (by omega) (by omega) (fun hr97 => ?_)
                          obtain ⟨z97, hz97⟩ : ∃ z, z = μ36c 135 n := ⟨_, rfl⟩
                          rw [← hz97] at hr97 ⊢
                          refine r_iload hL (x := s) dX8_types_98 rfl ?_
                          refine r_iand hL dX8_types_100 ?_
                          obtain ⟨z100, hz100⟩ : ∃ z, z = xand z97 s := ⟨_, rfl⟩
                          rw [← hz100]
                          have hr100 : xrg z100 := by rw [hz100]; exact xand_rg _ _
                          refine r_if_eq hL (tgt := 114) dX8_types_101 (by decide) (by omega) (fun c101 => ?_) (fun c101 => ?_)
                          · skip
                            refine r_iconst hL dX8_types_114 ?_
                            refine r_ior hL dX8_types_115 ?_
                            obtain ⟨z115, hz115⟩ : ∃ z, z = xor' s 0 := ⟨_, rfl⟩
                            rw [← hz115]
                            have hr115 : xrg z115 := by rw [hz115]; exact xor_rg _ _
                            refine r_istore hL (lo' := [some (xR 120), some (xI t), some (xI u), some (xI g), some (xI z115), some (xI n)]) dX8_types_116 (by decide) rfl ?_
                            refine r_iinc hL (x := n) (lo' := [some (xR 120), some (xI t), some (xI u), some (xI g), some (xI z115), some (xI (n + 1))]) dX8_types_118 (by decide) rfl rfl ?_
                            refine r_goto hL (tgt := 83) dX8_types_121 (by decide) ?_
                            exact ih83 z115 (n + 1) (by omega) (by omega) (by omega)
                          · skip
                            refine r_aload_n hL (x := 120) dX8_types_104 rfl ?_
                            refine r_getr hL xcl8 21 (by decide) s_120 (by decide) fl_X8_53 (by decide) f_120_21 dX8_types_105 ?_
                            refine r_iload hL (x := n) dX8_types_108 rfl ?_
                            refine r_iald hL dX8_types_110 (by decide) s_135 (by decide) (by omega) (by omega) (fun hr110 => ?_)
                            obtain ⟨z110, hz110⟩ : ∃ z, z = μ36c 135 n := ⟨_, rfl⟩
                            rw [← hz110] at hr110 ⊢
                            refine r_goto hL (tgt := 115) dX8_types_111 (by decide) ?_
                            refine r_ior hL dX8_types_115 ?_
                            obtain ⟨z115, hz115⟩ : ∃ z, z = xor' s z110 := ⟨_, rfl⟩
                            rw [← hz115]
                            have hr115 : xrg z115 := by rw [hz115]; exact xor_rg _ _
                            refine r_istore hL (lo' := [some (xR 120), some (xI t), some (xI u), some (xI g), some (xI z115), some (xI n)]) dX8_types_116 (by decide) rfl ?_
                            refine r_iinc hL (x := n) (lo' := [some (xR 120), some (xI t), some (xI u), some (xI g), some (xI z115), some (xI (n + 1))]) dX8_types_118 (by decide) rfl rfl ?_
                            refine r_goto hL (tgt := 83) dX8_types_121 (by decide) ?_
                            exact ih83 z115 (n + 1) (by omega) (by omega) (by omega)
                    exact lp83 _ z73 0 (by omega) (by omega) (Nat.lt_succ_self _)
                · skip
                  refine r_iinc hL (x := g) (lo' := [some (xR 120), some (xI t), some (xI u), some (xI (g + 1)), none, none]) dX8_types_59 (by decide) rfl rfl ?_
                  refine r_goto hL (tgt := 41) dX8_types_62 (by decide) ?_
                  exact ih41 (g + 1) (by omega) (by omega)
          exact lp41 _ 0 (by omega) (Nat.lt_succ_self _)
        · skip
          refine r_ldc hL (n := -1000000002) dX8_types_32 kc_X8_159 (by decide) ?_
          exact r_iret hL dX8_types_34 rfl (hK _ _ hB hF (by omega))
    · skip
      refine r_ldc hL (n := -1000000001) dX8_types_14 kc_X8_183 (by decide) ?_
      exact r_iret hL dX8_types_16 rfl (hK _ _ hB hF (by omega))

set_option maxHeartbeats 4000000 in
set_option maxRecDepth 20000 in
theorem m_X8_middle {K : Option xV → xW → xM → Prop} {μ : xM} (hB0 : BI μ) (t : Int) (ht : xrg t) (hK : ∀ r μ', BI μ' → Fr RM μ μ' → xrg r → K (some (xI r)) WW μ') : xMet yX8_middle cX8_middle 2 (some .int) 6 140 0 0 [xR 120, xI t] WW μ K := by
  refine xMet.go RX8 "middle" rfl rfl (by decide) [some (xR 120), some (xI t)] (Nat.le_of_ble_eq_true rfl) rfl (fun X hL => ?_)
  have hB := hB0
  have hF : Fr RM μ μ := Fr.rf
  refine r_aload_n hL (x := 120) dX8_middle_0 rfl ?_
  refine r_iload_n hL (x := t) dX8_middle_1 rfl ?_
  refine r_callV hL (st := []) (av := [xI t]) (k := 120) (m_X8_areTales (μ := μ) hB t (by omega) (fun z2 hc2 => ⟨rfl, ?_⟩)) ce_yX8_areTales im_yX8_areTales se_yX8_areTales ml_X8_199 xcl8 (by decide) s_120 dX8_middle_2 rfl (Nat.le_of_ble_eq_true rfl) ⟨Nat.le_of_ble_eq_true rfl, Nat.le_of_ble_eq_true rfl⟩ ⟨Nat.le_of_ble_eq_true rfl, Nat.le_of_ble_eq_true rfl⟩
  show X 0 0 WW μ 5 [some (xR 120), some (xI t)] [xI z2]
  refine r_if_ne hL (tgt := 11) dX8_middle_5 (by decide) (by omega) (fun c5 => ?_) (fun c5 => ?_)
  · skip
    refine r_aload_n hL (x := 120) dX8_middle_11 rfl ?_
    refine r_callV hL (st := []) (av := []) (k := 120) (m_X8_laysFar (μ := μ) hB  (fun μ12c hB12c hG12 => ⟨rfl, ?_⟩)) ce_yX8_laysFar im_yX8_laysFar se_yX8_laysFar ml_X8_136 xcl8 (by decide) s_120 dX8_middle_12 rfl (Nat.le_of_ble_eq_true rfl) ⟨Nat.le_of_ble_eq_true rfl, Nat.le_of_ble_eq_true rfl⟩ ⟨Nat.le_of_ble_eq_true rfl, Nat.le_of_ble_eq_true rfl⟩
    show X 0 0 WW μ12c 15 [some (xR 120), some (xI t)] []
    have hF12c : Fr RM μ μ12c := hF.trans hG12
    refine r_aload_n hL (x := 120) dX8_middle_15 rfl ?_
    refine r_iload_n hL (x := t) dX8_middle_16 rfl ?_
    refine r_callV hL (st := []) (av := [xI t]) (k := 120) (m_X8_middleOf (μ := μ12c) hB12c t (by omega) (fun z17 hc17 => ⟨rfl, ?_⟩)) ce_yX8_middleOf im_yX8_middleOf se_yX8_middleOf ml_X8_196 xcl8 (by decide) s_120 dX8_middle_17 rfl (Nat.le_of_ble_eq_true rfl) ⟨Nat.le_of_ble_eq_true rfl, Nat.le_of_ble_eq_true rfl⟩ ⟨Nat.le_of_ble_eq_true rfl, Nat.le_of_ble_eq_true rfl⟩
    show X 0 0 WW μ12c 20 [some (xR 120), some (xI t)] [xI z17]
    exact r_iret hL dX8_middle_20 rfl (hK _ _ hB12c hF12c (by omega))
  · skip
    refine r_ldc hL (n := -1000000001) dX8_middle_8 kc_X8_183 (by decide) ?_
    exact r_iret hL dX8_middle_10 rfl (hK _ _ hB hF (by omega))

set_option maxHeartbeats 4000000 in
set_option maxRecDepth 20000 in
theorem m_X8_common {K : Option xV → xW → xM → Prop} {μ : xM} (hB0 : BI μ) (t : Int) (ht : xrg t) (hK : ∀ r, D_common t μ r → xrg r → K (some (xI r)) WW μ) : xMet yX8_common cX8_common 2 (some .int) 2 46 0 0 [xR 120, xI t] WW μ K := by
  refine xMet.go RX8 "common" rfl rfl (by decide) [some (xR 120), some (xI t)] (Nat.le_of_ble_eq_true rfl) rfl (fun X hL => ?_)
  have hB := hB0
  refine r_aload_n hL (x := 120) dX8_common_0 rfl ?_
  refine r_iload_n hL (x := t) dX8_common_1 rfl ?_
  refine r_callV hL (st := []) (av := [xI t]) (k := 120) (m_X8_areTales (μ := μ) hB t (by omega) (fun z2 hc2 => ⟨rfl, ?_⟩)) ce_yX8_areTales im_yX8_areTales se_yX8_areTales ml_X8_199 xcl8 (by decide) s_120 dX8_common_2 rfl (Nat.le_of_ble_eq_true rfl) ⟨Nat.le_of_ble_eq_true rfl, Nat.le_of_ble_eq_true rfl⟩ ⟨Nat.le_of_ble_eq_true rfl, Nat.le_of_ble_eq_true rfl⟩
  show X 0 0 WW μ 5 [some (xR 120), some (xI t)] [xI z2]
  refine r_if_eq hL (tgt := 16) dX8_common_5 (by decide) (by omega) (fun c5 => ?_) (fun c5 => ?_)
  · skip
    refine r_ldc hL (n := -1000000001) dX8_common_16 kc_X8_183 (by decide) ?_
    exact r_iret hL dX8_common_18 rfl (hK _ (by first | exact Or.inr ⟨by omega, heq10⟩ | exact Or.inl ⟨by omega, rfl⟩) (by omega))
  · skip
    refine r_aload_n hL (x := 120) dX8_common_8 rfl ?_
    refine r_iload_n hL (x := t) dX8_common_9 rfl ?_
    refine r_callV hL (st := []) (av := [xI t]) (k := 120) (m_X8_allHave (μ := μ) hB t (by omega) (fun z10 heq10 hc10 => ⟨rfl, ?_⟩)) ce_yX8_allHave im_yX8_allHave se_yX8_allHave ml_X8_177 xcl8 (by decide) s_120 dX8_common_10 rfl (Nat.le_of_ble_eq_true rfl) ⟨Nat.le_of_ble_eq_true rfl, Nat.le_of_ble_eq_true rfl⟩ ⟨Nat.le_of_ble_eq_true rfl, Nat.le_of_ble_eq_true rfl⟩
    show X 0 0 WW μ 13 [some (xR 120), some (xI t)] [xI z10]
    refine r_goto hL (tgt := 18) dX8_common_13 (by decide) ?_
    exact r_iret hL dX8_common_18 rfl (hK _ (by first | exact Or.inr ⟨by omega, heq10⟩ | exact Or.inl ⟨by omega, rfl⟩) (by omega))

set_option maxHeartbeats 4000000 in
set_option maxRecDepth 20000 in
theorem m_X8_wandered {K : Option xV → xW → xM → Prop} {μ : xM} (hB0 : BI μ) (t : Int) (ht : xrg t) (u : Int) (hu : xrg u) (hK : ∀ r, D_wandered t u μ r → xrg r → K (some (xI r)) WW μ) : xMet yX8_wandered cX8_wandered 3 (some .int) 4 90 0 0 [xR 120, xI t, xI u] WW μ K := by
  refine xMet.go RX8 "wandered" rfl rfl (by decide) [some (xR 120), some (xI t), some (xI u)] (Nat.le_of_ble_eq_true rfl) rfl (fun X hL => ?_)
  have hB := hB0
  refine r_iload_n hL (x := t) dX8_wandered_0 rfl ?_
  refine r_iconst hL dX8_wandered_1 ?_
  refine r_sipush hL dX8_wandered_2 (by decide) ?_
  refine r_callS hL (st := []) (av := [xI t, xI 0, xI 255]) (m_X8_in (μ := μ) t (by omega) 0 (by omega) 255 (by omega) (fun z5 hc5 => ⟨rfl, ?_⟩)) ce_yX8_in sm_yX8_in ml_X8_62 dX8_wandered_5 rfl (Nat.le_of_ble_eq_true rfl) ⟨Nat.le_of_ble_eq_true rfl, Nat.le_of_ble_eq_true rfl⟩ ⟨Nat.le_of_ble_eq_true rfl, Nat.le_of_ble_eq_true rfl⟩
  show X 0 0 WW μ 8 [some (xR 120), some (xI t), some (xI u)] [xI z5]
  refine r_if_ne hL (tgt := 14) dX8_wandered_8 (by decide) (by omega) (fun c8 => ?_) (fun c8 => ?_)
  · skip
    refine r_iload_n hL (x := u) dX8_wandered_14 rfl ?_
    refine r_iconst hL dX8_wandered_15 ?_
    refine r_iconst hL dX8_wandered_16 ?_
    refine r_callS hL (st := []) (av := [xI u, xI 0, xI 1]) (m_X8_in (μ := μ) u (by omega) 0 (by omega) 1 (by omega) (fun z17 hc17 => ⟨rfl, ?_⟩)) ce_yX8_in sm_yX8_in ml_X8_62 dX8_wandered_17 rfl (Nat.le_of_ble_eq_true rfl) ⟨Nat.le_of_ble_eq_true rfl, Nat.le_of_ble_eq_true rfl⟩ ⟨Nat.le_of_ble_eq_true rfl, Nat.le_of_ble_eq_true rfl⟩
    show X 0 0 WW μ 20 [some (xR 120), some (xI t), some (xI u)] [xI z17]
    refine r_if_ne hL (tgt := 26) dX8_wandered_20 (by decide) (by omega) (fun c20 => ?_) (fun c20 => ?_)
    · skip
      refine r_iload_n hL (x := u) dX8_wandered_26 rfl ?_
      refine r_if_ne hL (tgt := 38) dX8_wandered_27 (by decide) (by omega) (fun c27 => ?_) (fun c27 => ?_)
      · skip
        refine r_aload_n hL (x := 120) dX8_wandered_38 rfl ?_
        refine r_iload_n hL (x := t) dX8_wandered_39 rfl ?_
        refine r_callV hL (st := []) (av := [xI t]) (k := 120) (m_X8_over (μ := μ) t (by omega) (fun z40 hv40 hc40 => ⟨rfl, ?_⟩)) ce_yX8_over im_yX8_over se_yX8_over ml_X8_156 xcl8 (by decide) s_120 dX8_wandered_40 rfl (Nat.le_of_ble_eq_true rfl) ⟨Nat.le_of_ble_eq_true rfl, Nat.le_of_ble_eq_true rfl⟩ ⟨Nat.le_of_ble_eq_true rfl, Nat.le_of_ble_eq_true rfl⟩
        show X 0 0 WW μ 43 [some (xR 120), some (xI t), some (xI u)] [xI z40]
        exact r_iret hL dX8_wandered_43 rfl (hK _ (by first | exact Or.inr ⟨by omega, Or.inl ⟨by omega, heq32⟩⟩ | exact Or.inr ⟨by omega, Or.inr (Or.inl ⟨by omega, hv40⟩)⟩) (by omega))
      · skip
        refine r_aload_n hL (x := 120) dX8_wandered_30 rfl ?_
        refine r_iload_n hL (x := t) dX8_wandered_31 rfl ?_
        refine r_callV hL (st := []) (av := [xI t]) (k := 120) (m_X8_wanders (μ := μ) t (by omega) (fun z32 heq32 hc32 => ⟨rfl, ?_⟩)) ce_yX8_wanders im_yX8_wanders se_yX8_wanders ml_X8_184 xcl8 (by decide) s_120 dX8_wandered_32 rfl (Nat.le_of_ble_eq_true rfl) ⟨Nat.le_of_ble_eq_true rfl, Nat.le_of_ble_eq_true rfl⟩ ⟨Nat.le_of_ble_eq_true rfl, Nat.le_of_ble_eq_true rfl⟩
        show X 0 0 WW μ 35 [some (xR 120), some (xI t), some (xI u)] [xI z32]
        refine r_goto hL (tgt := 43) dX8_wandered_35 (by decide) ?_
        exact r_iret hL dX8_wandered_43 rfl (hK _ (by first | exact Or.inr ⟨by omega, Or.inl ⟨by omega, heq32⟩⟩ | exact Or.inr ⟨by omega, Or.inr (Or.inl ⟨by omega, hv40⟩)⟩) (by omega))
    · skip
      refine r_ldc hL (n := -1000000002) dX8_wandered_23 kc_X8_159 (by decide) ?_
      exact r_iret hL dX8_wandered_25 rfl (hK _ (Or.inr ⟨by omega, Or.inr (Or.inr ⟨by omega, rfl⟩)⟩) (by omega))
  · skip
    refine r_ldc hL (n := -1000000001) dX8_wandered_11 kc_X8_183 (by decide) ?_
    exact r_iret hL dX8_wandered_13 rfl (hK _ (Or.inl ⟨by omega, rfl⟩) (by omega))
