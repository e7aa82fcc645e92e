set_option maxHeartbeats 4000000 in
set_option maxRecDepth 20000 in
theorem m_X8_stepCost {K : Option xV → xW → xM → Prop} {μ : xM} (hB0 : BI μ) (i : Int) (hi : 0 ≤ i ∧ i ≤ 10) (j : Int) (hj : 0 ≤ j ∧ j ≤ 10) (s : Int) (hs : 0 ≤ s ∧ s ≤ 3) (hK : ∀ r, r = mCo μ i j s → (r = 100000 ∨ (0 ≤ r ∧ r ≤ 9 ∧ i + xOF s ≤ max i (μ 120 11) ∧ j + xOO s ≤ max j (μ 120 13))) → (s = 1 → i < μ 120 11 → r ≤ 9) → (s = 2 → j < μ 120 13 → r ≤ 9) → K (some (xI r)) WW μ) : xMet yX8_stepCost cX8_stepCost 4 (some .int) 2 44 0 0 [xR 120, xI i, xI j, xI s] WW μ K := by
  refine xMet.go RX8 "stepCost" rfl rfl (by decide) [some (xR 120), some (xI i), some (xI j), some (xI s)] (Nat.le_of_ble_eq_true rfl) rfl (fun X hL => ?_)
  have hB := hB0
  have hvF := xOF_v s
  have hvO := xOO_v s
  refine r_iload_n hL (x := s) dX8_stepCost_0 rfl ?_
  by_cases e1 : 0 ≤ s ∧ s ≤ 2
  · skip
    rcases (show s = 0 ∨ s = 1 ∨ s = 2 by omega) with e1 | e1 | e1
    · skip
      refine r_tableIn hL (tgt := 28) (off := 27) 0 dX8_stepCost_1 (by omega) e1 (by decide) (by decide) rfl (by decide) ?_
      refine r_iload_n hL (x := i) dX8_stepCost_28 rfl ?_
      refine r_aload_n hL (x := 120) dX8_stepCost_29 rfl ?_
      refine r_geti hL xcl8 11 (j' := 11) rfl (by decide) s_120 (by decide) fl_X8_66 (by decide) (by decide) dX8_stepCost_30 (fun hr30 => ?_)
      obtain ⟨z30, hz30⟩ : ∃ z, z = μ 120 11 := ⟨_, rfl⟩
      rw [← hz30] at hr30 ⊢
      have hb30 : 0 ≤ μ 120 11 ∧ μ 120 11 ≤ 10 := (show ((11 : Int) = 2 → 0 ≤ (μ 120 11) ∧ (μ 120 11) ≤ 16) ∧ ((11 : Int) = 6 → 0 ≤ (μ 120 11) ∧ (μ 120 11) ≤ 10) ∧ ((11 : Int) = 8 → 0 ≤ (μ 120 11) ∧ (μ 120 11) ≤ 20) ∧ ((11 : Int) = 9 → 0 ≤ (μ 120 11) ∧ (μ 120 11) ≤ 2147483647) ∧ ((11 : Int) = 11 → 0 ≤ (μ 120 11) ∧ (μ 120 11) ≤ 10) ∧ ((11 : Int) = 13 → 0 ≤ (μ 120 11) ∧ (μ 120 11) ≤ 10) ∧ ((11 : Int) = 20 → 0 ≤ (μ 120 11) ∧ (μ 120 11) ≤ 8) from hB 120 11).2.2.2.2.1 (by omega)
      refine r_icmp_ge hL (tgt := 63) dX8_stepCost_33 (by decide) (by omega) (by omega) (fun c33 => ?_) (fun c33 => ?_)
      · skip
        refine r_ldc hL (n := 100000) dX8_stepCost_63 kc_X8_84 (by decide) ?_
        exact r_iret hL dX8_stepCost_65 rfl (hK _ (by unfold mCo; rw [if_pos (by omega)]; first | (rw [if_pos (by omega), ← hz50, ← hz56]; exact hc57) | rw [if_neg (by omega)]) (by omega) (by omega) (by omega))
      · skip
        refine r_iload_n hL (x := j) dX8_stepCost_36 rfl ?_
        refine r_aload_n hL (x := 120) dX8_stepCost_37 rfl ?_
        refine r_geti hL xcl8 13 (j' := 13) rfl (by decide) s_120 (by decide) fl_X8_70 (by decide) (by decide) dX8_stepCost_38 (fun hr38 => ?_)
        obtain ⟨z38, hz38⟩ : ∃ z, z = μ 120 13 := ⟨_, rfl⟩
        rw [← hz38] at hr38 ⊢
        have hb38 : 0 ≤ μ 120 13 ∧ μ 120 13 ≤ 10 := (show ((13 : Int) = 2 → 0 ≤ (μ 120 13) ∧ (μ 120 13) ≤ 16) ∧ ((13 : Int) = 6 → 0 ≤ (μ 120 13) ∧ (μ 120 13) ≤ 10) ∧ ((13 : Int) = 8 → 0 ≤ (μ 120 13) ∧ (μ 120 13) ≤ 20) ∧ ((13 : Int) = 9 → 0 ≤ (μ 120 13) ∧ (μ 120 13) ≤ 2147483647) ∧ ((13 : Int) = 11 → 0 ≤ (μ 120 13) ∧ (μ 120 13) ≤ 10) ∧ ((13 : Int) = 13 → 0 ≤ (μ 120 13) ∧ (μ 120 13) ≤ 10) ∧ ((13 : Int) = 20 → 0 ≤ (μ 120 13) ∧ (μ 120 13) ≤ 8) from hB 120 13).2.2.2.2.2.1 (by omega)
        refine r_icmp_ge hL (tgt := 63) dX8_stepCost_41 (by decide) (by omega) (by omega) (fun c41 => ?_) (fun c41 => ?_)
        · skip
          refine r_ldc hL (n := 100000) dX8_stepCost_63 kc_X8_84 (by decide) ?_
          exact r_iret hL dX8_stepCost_65 rfl (hK _ (by unfold mCo; rw [if_pos (by omega)]; first | (rw [if_pos (by omega), ← hz50, ← hz56]; exact hc57) | rw [if_neg (by omega)]) (by omega) (by omega) (by omega))
        · skip
          refine r_aload_n hL (x := 120) dX8_stepCost_44 rfl ?_
          refine r_aload_n hL (x := 120) dX8_stepCost_45 rfl ?_
          refine r_getr hL xcl8 10 (by decide) s_120 (by decide) fl_X8_29 (by decide) f_120_10 dX8_stepCost_46 ?_
          refine r_iload_n hL (x := i) dX8_stepCost_49 rfl ?_
          refine r_iald hL dX8_stepCost_50 (by decide) s_127 (by decide) (by omega) (by omega) (fun hr50 => ?_)
          obtain ⟨z50, hz50⟩ : ∃ z, z = μ 127 i := ⟨_, rfl⟩
          rw [← hz50] at hr50 ⊢
          have hb50 : 0 ≤ (μ 127 i) ∧ (μ 127 i) ≤ 7 := hB 127 i
          refine r_aload_n hL (x := 120) dX8_stepCost_51 rfl ?_
          refine r_getr hL xcl8 12 (by decide) s_120 (by decide) fl_X8_32 (by decide) f_120_12 dX8_stepCost_52 ?_
          refine r_iload_n hL (x := j) dX8_stepCost_55 rfl ?_
          refine r_iald hL dX8_stepCost_56 (by decide) s_128 (by decide) (by omega) (by omega) (fun hr56 => ?_)
          obtain ⟨z56, hz56⟩ : ∃ z, z = μ 128 j := ⟨_, rfl⟩
          rw [← hz56] at hr56 ⊢
          have hb56 : 0 ≤ (μ 128 j) ∧ (μ 128 j) ≤ 7 := hB 128 j
          refine r_callV hL (st := []) (av := [xI z50, xI z56]) (k := 120) (m_X8_changeOf (μ := μ) hB z50 (by omega) z56 (by omega) (fun z57 hc57 hc57_1 => ⟨rfl, ?_⟩)) ce_yX8_changeOf im_yX8_changeOf se_yX8_changeOf ml_X8_81 xcl8 (by decide) s_120 dX8_stepCost_57 rfl (Nat.le_of_ble_eq_true rfl) ⟨Nat.le_of_ble_eq_true rfl, Nat.le_of_ble_eq_true rfl⟩ ⟨Nat.le_of_ble_eq_true rfl, Nat.le_of_ble_eq_true rfl⟩
          show X 0 0 WW μ 60 [some (xR 120), some (xI i), some (xI j), some (xI s)] [xI z57]
          refine r_goto hL (tgt := 65) dX8_stepCost_60 (by decide) ?_
          exact r_iret hL dX8_stepCost_65 rfl (hK _ (by unfold mCo; rw [if_pos (by omega)]; first | (rw [if_pos (by omega), ← hz50, ← hz56]; exact hc57) | rw [if_neg (by omega)]) (by omega) (by omega) (by omega))
    · skip
      refine r_tableIn hL (tgt := 66) (off := 65) 1 dX8_stepCost_1 (by omega) e1 (by decide) (by decide) rfl (by decide) ?_
      refine r_iload_n hL (x := i) dX8_stepCost_66 rfl ?_
      refine r_aload_n hL (x := 120) dX8_stepCost_67 rfl ?_
      refine r_geti hL xcl8 11 (j' := 11) rfl (by decide) s_120 (by decide) fl_X8_66 (by decide) (by decide) dX8_stepCost_68 (fun hr68 => ?_)
      obtain ⟨z68, hz68⟩ : ∃ z, z = μ 120 11 := ⟨_, rfl⟩
      rw [← hz68] at hr68 ⊢
      have hb68 : 0 ≤ μ 120 11 ∧ μ 120 11 ≤ 10 := (show ((11 : Int) = 2 → 0 ≤ (μ 120 11) ∧ (μ 120 11) ≤ 16) ∧ ((11 : Int) = 6 → 0 ≤ (μ 120 11) ∧ (μ 120 11) ≤ 10) ∧ ((11 : Int) = 8 → 0 ≤ (μ 120 11) ∧ (μ 120 11) ≤ 20) ∧ ((11 : Int) = 9 → 0 ≤ (μ 120 11) ∧ (μ 120 11) ≤ 2147483647) ∧ ((11 : Int) = 11 → 0 ≤ (μ 120 11) ∧ (μ 120 11) ≤ 10) ∧ ((11 : Int) = 13 → 0 ≤ (μ 120 11) ∧ (μ 120 11) ≤ 10) ∧ ((11 : Int) = 20 → 0 ≤ (μ 120 11) ∧ (μ 120 11) ≤ 8) from hB 120 11).2.2.2.2.1 (by omega)
      refine r_icmp_ge hL (tgt := 83) dX8_stepCost_71 (by decide) (by omega) (by omega) (fun c71 => ?_) (fun c71 => ?_)
      · skip
        refine r_ldc hL (n := 100000) dX8_stepCost_83 kc_X8_84 (by decide) ?_
        exact r_iret hL dX8_stepCost_85 rfl (hK _ (by unfold mCo; rw [if_neg (by omega), if_pos (by omega)]; first | (rw [if_pos (by omega)]; exact hz79) | rw [if_neg (by omega)]) (by omega) (by omega) (by omega))
      · skip
        refine r_aload_n hL (x := 120) dX8_stepCost_74 rfl ?_
        refine r_getr hL xcl8 0 (by decide) s_120 (by decide) fl_X8_7 (by decide) f_120_0 dX8_stepCost_75 ?_
        refine r_iconst hL dX8_stepCost_78 ?_
        refine r_iald hL dX8_stepCost_79 (by decide) s_121 (by decide) (by omega) (by omega) (fun hr79 => ?_)
        obtain ⟨z79, hz79⟩ : ∃ z, z = μ 121 2 := ⟨_, rfl⟩
        rw [← hz79] at hr79 ⊢
        have hb79 : 0 ≤ μ 121 2 ∧ μ 121 2 ≤ 9 := (show ((2 : Int) = 0 → 0 ≤ (μ 121 2) ∧ (μ 121 2) ≤ 8) ∧ ((2 : Int) = 1 → 0 ≤ (μ 121 2) ∧ (μ 121 2) ≤ 2) ∧ (2 ≤ (2 : Int) ∧ (2 : Int) ≤ 5 → 0 ≤ (μ 121 2) ∧ (μ 121 2) ≤ 9) ∧ (6 ≤ (2 : Int) ∧ (2 : Int) ≤ 13 → 0 ≤ (μ 121 2) ∧ (μ 121 2) ≤ 10) ∧ (30 ≤ (2 : Int) → 0 ≤ (μ 121 2) ∧ (μ 121 2) ≤ 7) from hB 121 2).2.2.1 (by omega)
        refine r_goto hL (tgt := 85) dX8_stepCost_80 (by decide) ?_
        exact r_iret hL dX8_stepCost_85 rfl (hK _ (by unfold mCo; rw [if_neg (by omega), if_pos (by omega)]; first | (rw [if_pos (by omega)]; exact hz79) | rw [if_neg (by omega)]) (by omega) (by omega) (by omega))
    · skip
      refine r_tableIn hL (tgt := 86) (off := 85) 2 dX8_stepCost_1 (by omega) e1 (by decide) (by decide) rfl (by decide) ?_
      refine r_iload_n hL (x := j) dX8_stepCost_86 rfl ?_
      refine r_aload_n hL (x := 120) dX8_stepCost_87 rfl ?_
      refine r_geti hL xcl8 13 (j' := 13) rfl (by decide) s_120 (by decide) fl_X8_70 (by decide) (by decide) dX8_stepCost_88 (fun hr88 => ?_)
      obtain ⟨z88, hz88⟩ : ∃ z, z = μ 120 13 := ⟨_, rfl⟩
      rw [← hz88] at hr88 ⊢
      have hb88 : 0 ≤ μ 120 13 ∧ μ 120 13 ≤ 10 := (show ((13 : Int) = 2 → 0 ≤ (μ 120 13) ∧ (μ 120 13) ≤ 16) ∧ ((13 : Int) = 6 → 0 ≤ (μ 120 13) ∧ (μ 120 13) ≤ 10) ∧ ((13 : Int) = 8 → 0 ≤ (μ 120 13) ∧ (μ 120 13) ≤ 20) ∧ ((13 : Int) = 9 → 0 ≤ (μ 120 13) ∧ (μ 120 13) ≤ 2147483647) ∧ ((13 : Int) = 11 → 0 ≤ (μ 120 13) ∧ (μ 120 13) ≤ 10) ∧ ((13 : Int) = 13 → 0 ≤ (μ 120 13) ∧ (μ 120 13) ≤ 10) ∧ ((13 : Int) = 20 → 0 ≤ (μ 120 13) ∧ (μ 120 13) ≤ 8) from hB 120 13).2.2.2.2.2.1 (by omega)
      refine r_icmp_ge hL (tgt := 103) dX8_stepCost_91 (by decide) (by omega) (by omega) (fun c91 => ?_) (fun c91 => ?_)
      · skip
        refine r_ldc hL (n := 100000) dX8_stepCost_103 kc_X8_84 (by decide) ?_
        exact r_iret hL dX8_stepCost_105 rfl (hK _ (by unfold mCo; rw [if_neg (by omega), if_neg (by omega), if_pos (by omega)]; first | (rw [if_pos (by omega)]; exact hz99) | rw [if_neg (by omega)]) (by omega) (by omega) (by omega))
      · skip
        refine r_aload_n hL (x := 120) dX8_stepCost_94 rfl ?_
        refine r_getr hL xcl8 0 (by decide) s_120 (by decide) fl_X8_7 (by decide) f_120_0 dX8_stepCost_95 ?_
        refine r_iconst hL dX8_stepCost_98 ?_
        refine r_iald hL dX8_stepCost_99 (by decide) s_121 (by decide) (by omega) (by omega) (fun hr99 => ?_)
        obtain ⟨z99, hz99⟩ : ∃ z, z = μ 121 2 := ⟨_, rfl⟩
        rw [← hz99] at hr99 ⊢
        have hb99 : 0 ≤ μ 121 2 ∧ μ 121 2 ≤ 9 := (show ((2 : Int) = 0 → 0 ≤ (μ 121 2) ∧ (μ 121 2) ≤ 8) ∧ ((2 : Int) = 1 → 0 ≤ (μ 121 2) ∧ (μ 121 2) ≤ 2) ∧ (2 ≤ (2 : Int) ∧ (2 : Int) ≤ 5 → 0 ≤ (μ 121 2) ∧ (μ 121 2) ≤ 9) ∧ (6 ≤ (2 : Int) ∧ (2 : Int) ≤ 13 → 0 ≤ (μ 121 2) ∧ (μ 121 2) ≤ 10) ∧ (30 ≤ (2 : Int) → 0 ≤ (μ 121 2) ∧ (μ 121 2) ≤ 7) from hB 121 2).2.2.1 (by omega)
        refine r_goto hL (tgt := 105) dX8_stepCost_100 (by decide) ?_
        exact r_iret hL dX8_stepCost_105 rfl (hK _ (by unfold mCo; rw [if_neg (by omega), if_neg (by omega), if_pos (by omega)]; first | (rw [if_pos (by omega)]; exact hz99) | rw [if_neg (by omega)]) (by omega) (by omega) (by omega))
  · skip
    refine r_tableOut hL (tgt := 106) dX8_stepCost_1 (by omega) (by omega) (by decide) ?_
    refine r_aload_n hL (x := 120) dX8_stepCost_106 rfl ?_
    refine r_iload_n hL (x := i) dX8_stepCost_107 rfl ?_
    refine r_iload_n hL (x := j) dX8_stepCost_108 rfl ?_
    refine r_callV hL (st := []) (av := [xI i, xI j]) (k := 120) (m_X8_isTurned (μ := μ) hB i (by omega) j (by omega) (fun z109 hc109 => ⟨rfl, ?_⟩)) ce_yX8_isTurned im_yX8_isTurned se_yX8_isTurned ml_X8_85 xcl8 (by decide) s_120 dX8_stepCost_109 rfl (Nat.le_of_ble_eq_true rfl) ⟨Nat.le_of_ble_eq_true rfl, Nat.le_of_ble_eq_true rfl⟩ ⟨Nat.le_of_ble_eq_true rfl, Nat.le_of_ble_eq_true rfl⟩
    show X 0 0 WW μ 112 [some (xR 120), some (xI i), some (xI j), some (xI s)] [xI z109]
    refine r_if_eq hL (tgt := 124) dX8_stepCost_112 (by decide) (by omega) (fun c112 => ?_) (fun c112 => ?_)
    · skip
      refine r_ldc hL (n := 100000) dX8_stepCost_124 kc_X8_84 (by decide) ?_
      exact r_iret hL dX8_stepCost_126 rfl (hK _ (by unfold mCo; rw [if_neg (by omega), if_neg (by omega), if_neg (by omega)]; first | (rw [if_pos (show mTu μ i j by omega)]; exact hz120) | rw [if_neg (show ¬ mTu μ i j by omega)]) (by omega) (by omega) (by omega))
    · skip
      refine r_aload_n hL (x := 120) dX8_stepCost_115 rfl ?_
      refine r_getr hL xcl8 0 (by decide) s_120 (by decide) fl_X8_7 (by decide) f_120_0 dX8_stepCost_116 ?_
      refine r_iconst hL dX8_stepCost_119 ?_
      refine r_iald hL dX8_stepCost_120 (by decide) s_121 (by decide) (by omega) (by omega) (fun hr120 => ?_)
      obtain ⟨z120, hz120⟩ : ∃ z, z = μ 121 3 := ⟨_, rfl⟩
      rw [← hz120] at hr120 ⊢
      have hb120 : 0 ≤ μ 121 3 ∧ μ 121 3 ≤ 9 := (show ((3 : Int) = 0 → 0 ≤ (μ 121 3) ∧ (μ 121 3) ≤ 8) ∧ ((3 : Int) = 1 → 0 ≤ (μ 121 3) ∧ (μ 121 3) ≤ 2) ∧ (2 ≤ (3 : Int) ∧ (3 : Int) ≤ 5 → 0 ≤ (μ 121 3) ∧ (μ 121 3) ≤ 9) ∧ (6 ≤ (3 : Int) ∧ (3 : Int) ≤ 13 → 0 ≤ (μ 121 3) ∧ (μ 121 3) ≤ 10) ∧ (30 ≤ (3 : Int) → 0 ≤ (μ 121 3) ∧ (μ 121 3) ≤ 7) from hB 121 3).2.2.1 (by omega)
      refine r_goto hL (tgt := 126) dX8_stepCost_121 (by decide) ?_
      exact r_iret hL dX8_stepCost_126 rfl (hK _ (by unfold mCo; rw [if_neg (by omega), if_neg (by omega), if_neg (by omega)]; first | (rw [if_pos (show mTu μ i j by omega)]; exact hz120) | rw [if_neg (show ¬ mTu μ i j by omega)]) (by omega) (by omega) (by omega))
