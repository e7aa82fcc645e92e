set_option maxHeartbeats 4000000 in
set_option maxRecDepth 20000 in
theorem m_X8_laysWay {K : Option xV → xW → xM → Prop} {μ : xM} (hB0 : BI μ) (t : Int) (ht : 0 ≤ t ∧ t ≤ 7) (u : Int) (hu : 0 ≤ u ∧ u ≤ 7) (hK : ∀ r μ', BI μ' → Fr RM μ μ' → 0 ≤ r ∧ r ≤ 20 → K (some (xI r)) WW μ') : xMet yX8_laysWay cX8_laysWay 8 (some .int) 5 118 0 0 [xR 120, xI t, xI u] WW μ K := by
  refine xMet.go RX8 "laysWay" rfl rfl (by decide) [some (xR 120), some (xI t), some (xI u), none, none, none, none, none] (Nat.le_of_ble_eq_true rfl) rfl (fun X hL => ?_)
  have hB := hB0
  have hF : Fr RM μ μ := Fr.rf
  refine r_aload_n hL (x := 120) dX8_laysWay_0 rfl ?_
  refine r_iload_n hL (x := t) dX8_laysWay_1 rfl ?_
  refine r_iload_n hL (x := u) dX8_laysWay_2 rfl ?_
  refine r_callV hL (st := []) (av := [xI t, xI u]) (k := 120) (m_X8_apart (μ := μ) hB t (by omega) u (by omega) (fun z3 μ3c hB3c hG3 hD3c heq3 hc3 => ⟨rfl, ?_⟩)) ce_yX8_apart im_yX8_apart se_yX8_apart ml_X8_111 xcl8 (by decide) s_120 dX8_laysWay_3 rfl (Nat.le_of_ble_eq_true rfl) ⟨Nat.le_of_ble_eq_true rfl, Nat.le_of_ble_eq_true rfl⟩ ⟨Nat.le_of_ble_eq_true rfl, Nat.le_of_ble_eq_true rfl⟩
  show X 0 0 WW μ3c 6 [some (xR 120), some (xI t), some (xI u), none, none, none, none, none] [xI z3]
  have hF3c : Fr RM μ μ3c := hF.trans hG3
  obtain ⟨fl, hfl⟩ : ∃ z, z = μ3c 120 11 := ⟨_, rfl⟩
  obtain ⟨fo, hfo⟩ : ∃ z, z = μ3c 120 13 := ⟨_, rfl⟩
  have hm11 : 0 ≤ μ3c 120 11 ∧ μ3c 120 11 ≤ 10 := (show ((11 : Int) = 2 → 0 ≤ (μ3c 120 11) ∧ (μ3c 120 11) ≤ 16) ∧ ((11 : Int) = 6 → 0 ≤ (μ3c 120 11) ∧ (μ3c 120 11) ≤ 10) ∧ ((11 : Int) = 8 → 0 ≤ (μ3c 120 11) ∧ (μ3c 120 11) ≤ 20) ∧ ((11 : Int) = 9 → 0 ≤ (μ3c 120 11) ∧ (μ3c 120 11) ≤ 2147483647) ∧ ((11 : Int) = 11 → 0 ≤ (μ3c 120 11) ∧ (μ3c 120 11) ≤ 10) ∧ ((11 : Int) = 13 → 0 ≤ (μ3c 120 11) ∧ (μ3c 120 11) ≤ 10) ∧ ((11 : Int) = 20 → 0 ≤ (μ3c 120 11) ∧ (μ3c 120 11) ≤ 8) from hB3c 120 11).2.2.2.2.1 (by omega)
  have hm13 : 0 ≤ μ3c 120 13 ∧ μ3c 120 13 ≤ 10 := (show ((13 : Int) = 2 → 0 ≤ (μ3c 120 13) ∧ (μ3c 120 13) ≤ 16) ∧ ((13 : Int) = 6 → 0 ≤ (μ3c 120 13) ∧ (μ3c 120 13) ≤ 10) ∧ ((13 : Int) = 8 → 0 ≤ (μ3c 120 13) ∧ (μ3c 120 13) ≤ 20) ∧ ((13 : Int) = 9 → 0 ≤ (μ3c 120 13) ∧ (μ3c 120 13) ≤ 2147483647) ∧ ((13 : Int) = 11 → 0 ≤ (μ3c 120 13) ∧ (μ3c 120 13) ≤ 10) ∧ ((13 : Int) = 13 → 0 ≤ (μ3c 120 13) ∧ (μ3c 120 13) ≤ 10) ∧ ((13 : Int) = 20 → 0 ≤ (μ3c 120 13) ∧ (μ3c 120 13) ≤ 8) from hB3c 120 13).2.2.2.2.2.1 (by omega)
  refine r_istore_n hL (lo' := [some (xR 120), some (xI t), some (xI u), some (xI z3), none, none, none, none]) dX8_laysWay_6 (by decide) rfl ?_
  refine r_iconst hL dX8_laysWay_7 ?_
  refine r_istore hL (lo' := [some (xR 120), some (xI t), some (xI u), some (xI z3), some (xI 0), none, none, none]) dX8_laysWay_8 (by decide) rfl ?_
  refine r_iconst hL dX8_laysWay_10 ?_
  refine r_istore hL (lo' := [some (xR 120), some (xI t), some (xI u), some (xI z3), some (xI 0), some (xI 0), none, none]) dX8_laysWay_11 (by decide) rfl ?_
  refine r_iconst hL dX8_laysWay_13 ?_
  refine r_istore hL (lo' := [some (xR 120), some (xI t), some (xI u), some (xI z3), some (xI 0), some (xI 0), some (xI 0), none]) dX8_laysWay_14 (by decide) rfl ?_
  have lp16 : ∀ (n16 : Nat) (l : Int) (i : Int) (j : Int) (n : Int) (μ116 : xM), (BI μ116) → (Fr RM μ μ116) → (μ116 120 11 = fl ∧ μ116 120 13 = fo) → (0 ≤ i ∧ i ≤ fl) → (0 ≤ j ∧ j ≤ fo) → (0 ≤ n ∧ n ≤ i + j) → (l = μ116 129 (11 * i + j)) → (MD μ116) → ((20 - (i + j)).toNat) < n16 → X 0 0 WW μ116 16 [some (xR 120), some (xI t), some (xI u), some (xI l), some (xI i), some (xI j), some (xI n), none] [] := by
    intro n16
    induction n16 with
    | zero => intro l i j n μ116 hB116 hF116 h1 h2 h3 h4 h5 hD116 hn; exact absurd hn (Nat.not_lt_zero _)
    | succ n16 ih16 =>
      intro l i j n μ116 hB116 hF116 h1 h2 h3 h4 h5 hD116 hn16
      have hlb := (hD116.at (a := i) (b := j) (by omega) (by omega) (by omega) (by omega)).1
      refine r_iload hL (x := i) dX8_laysWay_16 rfl ?_
      refine r_aload_n hL (x := 120) dX8_laysWay_18 rfl ?_
      refine r_geti hL xcl8 11 (j' := 11) rfl (by decide) s_120 (by decide) fl_X8_66 (by decide) (by decide) dX8_laysWay_19 (fun hr19 => ?_)
      obtain ⟨z19, hz19⟩ : ∃ z, z = μ116 120 11 := ⟨_, rfl⟩
      rw [← hz19] at hr19 ⊢
      have hb19 : 0 ≤ μ116 120 11 ∧ μ116 120 11 ≤ 10 := (show ((11 : Int) = 2 → 0 ≤ (μ116 120 11) ∧ (μ116 120 11) ≤ 16) ∧ ((11 : Int) = 6 → 0 ≤ (μ116 120 11) ∧ (μ116 120 11) ≤ 10) ∧ ((11 : Int) = 8 → 0 ≤ (μ116 120 11) ∧ (μ116 120 11) ≤ 20) ∧ ((11 : Int) = 9 → 0 ≤ (μ116 120 11) ∧ (μ116 120 11) ≤ 2147483647) ∧ ((11 : Int) = 11 → 0 ≤ (μ116 120 11) ∧ (μ116 120 11) ≤ 10) ∧ ((11 : Int) = 13 → 0 ≤ (μ116 120 11) ∧ (μ116 120 11) ≤ 10) ∧ ((11 : Int) = 20 → 0 ≤ (μ116 120 11) ∧ (μ116 120 11) ≤ 8) from hB116 120 11).2.2.2.2.1 (by omega)
      refine r_icmp_lt hL (tgt := 34) dX8_laysWay_22 (by decide) (by omega) (by omega) (fun c22 => ?_) (fun c22 => ?_)
      · skip
        refine r_iconst hL dX8_laysWay_34 ?_
        refine r_istore hL (lo' := [some (xR 120), some (xI t), some (xI u), some (xI l), some (xI i), some (xI j), some (xI n), some (xI 0)]) dX8_laysWay_35 (by decide) rfl ?_
        have lp37 : ∀ (n37 : Nat) (s : Int), (0 ≤ s ∧ s ≤ 3) → (∀ q, 0 ≤ q → q < s → ¬ (mCo μ116 i j q ≤ 9 ∧ mCo μ116 i j q + μ116 129 (11 * (i + xOF q) + (j + xOO q)) = l)) → ((3 - s).toNat) < n37 → X 0 0 WW μ116 37 [some (xR 120), some (xI t), some (xI u), some (xI l), some (xI i), some (xI j), some (xI n), some (xI s)] [] := by
          intro n37
          induction n37 with
          | zero => intro s h6 h7 hn; exact absurd hn (Nat.not_lt_zero _)
          | succ n37 ih37 =>
            intro s h6 h7 hn37
            refine r_iload hL (x := s) dX8_laysWay_37 rfl ?_
            refine r_iconst hL dX8_laysWay_39 ?_
            refine r_icmp_ge hL (tgt := 63) dX8_laysWay_40 (by decide) (by omega) (by omega) (fun c40 => ?_) (fun c40 => ?_)
            · skip
              have hst : mCo μ116 i j s ≤ 9 ∧ mCo μ116 i j s + μ116 129 (11 * (i + xOF s) + (j + xOO s)) = l := by obtain ⟨q, q0, q3, qc, qv⟩ := (hD116.at (a := i) (b := j) (by omega) (by omega) (by omega) (by omega)).2 (by omega); rcases (show q < s ∨ q = s by omega) with hq | hq; exact absurd ⟨qc, by omega⟩ (h7 q q0 hq); rw [← hq]; exact ⟨qc, by omega⟩
              have hin := mCo_in (i := i) (j := j) (by omega) (by omega) (by omega) (by omega) hst.1
              refine r_aload_n hL (x := 120) dX8_laysWay_63 rfl ?_
              refine r_getr hL xcl8 16 (by decide) s_120 (by decide) fl_X8_41 (by decide) f_120_16 dX8_laysWay_64 ?_
              refine r_iload hL (x := n) dX8_laysWay_67 rfl ?_
              refine r_iload hL (x := s) dX8_laysWay_69 rfl ?_
              refine r_iast hL dX8_laysWay_71 (by decide) s_131 (by decide) (by omega) (by omega) (by omega) (fun μ1 hm1 => ?_)
              have hB1 : BI μ1 := by rw [hm1]; exact hB116.up trivial
              have hF1 : Fr RM μ μ1 := by rw [hm1]; exact hF116.up (by unfold RM; omega)
              have hk1_120_11 : μ1 120 11 = μ116 120 11 := by rw [hm1]; exact congrFun (xup_c (by decide)) _
              have hk1_120_13 : μ1 120 13 = μ116 120 13 := by rw [hm1]; exact congrFun (xup_c (by decide)) _
              have hD1 : MD μ1 := hD116.keep (fun k q hk => by rw [hm1]; exact congrFun (xup_c (show k ≠ 131 by omega)) _)
              have hcm : ∀ a b q, mCo μ1 a b q = mCo μ116 a b q := fun a b q => mCo_fr (fun k q hk => by rw [hm1]; exact congrFun (xup_c (show k ≠ 131 by omega)) _) a b q
              have hsm : ∀ q, μ1 129 q = μ116 129 q := fun q => by rw [hm1]; exact congrFun (xup_c (by decide)) q
              refine r_iinc hL (x := n) (lo' := [some (xR 120), some (xI t), some (xI u), some (xI l), some (xI i), some (xI j), some (xI (n + 1)), some (xI s)]) dX8_laysWay_72 (by decide) rfl rfl ?_
              refine r_iload_n hL (x := l) dX8_laysWay_75 rfl ?_
              refine r_aload_n hL (x := 120) dX8_laysWay_76 rfl ?_
              refine r_iload hL (x := i) dX8_laysWay_77 rfl ?_
              refine r_iload hL (x := j) dX8_laysWay_79 rfl ?_
              refine r_iload hL (x := s) dX8_laysWay_81 rfl ?_
              refine r_callV hL (st := [xI l]) (av := [xI i, xI j, xI s]) (k := 120) (m_X8_stepCost (μ := μ1) hB1 i (by omega) j (by omega) s (by omega) (fun z83 hc83 hc83_1 hc83_2 hc83_3 => ⟨rfl, ?_⟩)) ce_yX8_stepCost im_yX8_stepCost se_yX8_stepCost ml_X8_89 xcl8 (by decide) s_120 dX8_laysWay_83 rfl (Nat.le_of_ble_eq_true rfl) ⟨Nat.le_of_ble_eq_true rfl, Nat.le_of_ble_eq_true rfl⟩ ⟨Nat.le_of_ble_eq_true rfl, Nat.le_of_ble_eq_true rfl⟩
              show X 0 0 WW μ1 86 [some (xR 120), some (xI t), some (xI u), some (xI l), some (xI i), some (xI j), some (xI (n + 1)), some (xI s)] [xI z83, xI l]
              refine r_isub hL dX8_laysWay_86 ?_
              refine r_istore_n hL (lo' := [some (xR 120), some (xI t), some (xI u), some (xI (l - z83)), some (xI i), some (xI j), some (xI (n + 1)), some (xI s)]) dX8_laysWay_87 (by decide) rfl ?_
              refine r_iload hL (x := i) dX8_laysWay_88 rfl ?_
              refine r_iload hL (x := s) dX8_laysWay_90 rfl ?_
              refine r_callS hL (st := [xI i]) (av := [xI s]) (m_X8_firstBy (μ := μ1) s (by omega) (fun z92 hc92 hc92_1 => ⟨rfl, ?_⟩)) ce_yX8_firstBy sm_yX8_firstBy ml_X8_93 dX8_laysWay_92 rfl (Nat.le_of_ble_eq_true rfl) ⟨Nat.le_of_ble_eq_true rfl, Nat.le_of_ble_eq_true rfl⟩ ⟨Nat.le_of_ble_eq_true rfl, Nat.le_of_ble_eq_true rfl⟩
              show X 0 0 WW μ1 95 [some (xR 120), some (xI t), some (xI u), some (xI (l - z83)), some (xI i), some (xI j), some (xI (n + 1)), some (xI s)] [xI z92, xI i]
              refine r_iadd hL dX8_laysWay_95 ?_
              refine r_istore hL (lo' := [some (xR 120), some (xI t), some (xI u), some (xI (l - z83)), some (xI (i + z92)), some (xI j), some (xI (n + 1)), some (xI s)]) dX8_laysWay_96 (by decide) rfl ?_
              refine r_iload hL (x := j) dX8_laysWay_98 rfl ?_
              refine r_iload hL (x := s) dX8_laysWay_100 rfl ?_
              refine r_callS hL (st := [xI j]) (av := [xI s]) (m_X8_otherBy (μ := μ1) s (by omega) (fun z102 hc102 hc102_1 => ⟨rfl, ?_⟩)) ce_yX8_otherBy sm_yX8_otherBy ml_X8_97 dX8_laysWay_102 rfl (Nat.le_of_ble_eq_true rfl) ⟨Nat.le_of_ble_eq_true rfl, Nat.le_of_ble_eq_true rfl⟩ ⟨Nat.le_of_ble_eq_true rfl, Nat.le_of_ble_eq_true rfl⟩
              show X 0 0 WW μ1 105 [some (xR 120), some (xI t), some (xI u), some (xI (l - z83)), some (xI (i + z92)), some (xI j), some (xI (n + 1)), some (xI s)] [xI z102, xI j]
              refine r_iadd hL dX8_laysWay_105 ?_
              refine r_istore hL (lo' := [some (xR 120), some (xI t), some (xI u), some (xI (l - z83)), some (xI (i + z92)), some (xI (j + z102)), some (xI (n + 1)), some (xI s)]) dX8_laysWay_106 (by decide) rfl ?_
              refine r_goto hL (tgt := 16) dX8_laysWay_108 (by decide) ?_
              refine r_drop hL (lo' := [some (xR 120), some (xI t), some (xI u), some (xI (l - z83)), some (xI (i + z92)), some (xI (j + z102)), some (xI (n + 1)), none]) [7] rfl ?_
              exact ih16 (l - z83) (i + z92) (j + z102) (n + 1) μ1 hB1 hF1 (by omega) (by omega) (by omega) (by omega) (by rw [hsm, hc83, hcm, hc92, hc102]; omega) hD1 (by omega)
            · skip
              refine r_aload_n hL (x := 120) dX8_laysWay_43 rfl ?_
              refine r_iload hL (x := i) dX8_laysWay_44 rfl ?_
              refine r_iload hL (x := j) dX8_laysWay_46 rfl ?_
              refine r_iload hL (x := s) dX8_laysWay_48 rfl ?_
              refine r_iload_n hL (x := l) dX8_laysWay_50 rfl ?_
              refine r_callV hL (st := []) (av := [xI i, xI j, xI s, xI l]) (k := 120) (m_X8_isOfLeast (μ := μ116) hB116 i (by omega) j (by omega) s (by omega) l (by omega) hD116 (fun z51 hc51 => ⟨rfl, ?_⟩)) ce_yX8_isOfLeast im_yX8_isOfLeast se_yX8_isOfLeast ml_X8_114 xcl8 (by decide) s_120 dX8_laysWay_51 rfl (Nat.le_of_ble_eq_true rfl) ⟨Nat.le_of_ble_eq_true rfl, Nat.le_of_ble_eq_true rfl⟩ ⟨Nat.le_of_ble_eq_true rfl, Nat.le_of_ble_eq_true rfl⟩
              show X 0 0 WW μ116 54 [some (xR 120), some (xI t), some (xI u), some (xI l), some (xI i), some (xI j), some (xI n), some (xI s)] [xI z51]
              refine r_if_ne hL (tgt := 63) dX8_laysWay_54 (by decide) (by omega) (fun c54 => ?_) (fun c54 => ?_)
              · skip
                have hst : mCo μ116 i j s ≤ 9 ∧ mCo μ116 i j s + μ116 129 (11 * (i + xOF s) + (j + xOO s)) = l := by rcases hc51 with ⟨_, e1, e2⟩ | ⟨e, _⟩; exact ⟨e1, e2⟩; omega
                have hin := mCo_in (i := i) (j := j) (by omega) (by omega) (by omega) (by omega) hst.1
                refine r_aload_n hL (x := 120) dX8_laysWay_63 rfl ?_
                refine r_getr hL xcl8 16 (by decide) s_120 (by decide) fl_X8_41 (by decide) f_120_16 dX8_laysWay_64 ?_
                refine r_iload hL (x := n) dX8_laysWay_67 rfl ?_
                refine r_iload hL (x := s) dX8_laysWay_69 rfl ?_
                refine r_iast hL dX8_laysWay_71 (by decide) s_131 (by decide) (by omega) (by omega) (by omega) (fun μ2 hm2 => ?_)
                have hB2 : BI μ2 := by rw [hm2]; exact hB116.up trivial
                have hF2 : Fr RM μ μ2 := by rw [hm2]; exact hF116.up (by unfold RM; omega)
                have hk2_120_11 : μ2 120 11 = μ116 120 11 := by rw [hm2]; exact congrFun (xup_c (by decide)) _
                have hk2_120_13 : μ2 120 13 = μ116 120 13 := by rw [hm2]; exact congrFun (xup_c (by decide)) _
                have hD2 : MD μ2 := hD116.keep (fun k q hk => by rw [hm2]; exact congrFun (xup_c (show k ≠ 131 by omega)) _)
                have hcm : ∀ a b q, mCo μ2 a b q = mCo μ116 a b q := fun a b q => mCo_fr (fun k q hk => by rw [hm2]; exact congrFun (xup_c (show k ≠ 131 by omega)) _) a b q
                have hsm : ∀ q, μ2 129 q = μ116 129 q := fun q => by rw [hm2]; exact congrFun (xup_c (by decide)) q
                refine r_iinc hL (x := n) (lo' := [some (xR 120), some (xI t), some (xI u), some (xI l), some (xI i), some (xI j), some (xI (n + 1)), some (xI s)]) dX8_laysWay_72 (by decide) rfl rfl ?_
                refine r_iload_n hL (x := l) dX8_laysWay_75 rfl ?_
                refine r_aload_n hL (x := 120) dX8_laysWay_76 rfl ?_
                refine r_iload hL (x := i) dX8_laysWay_77 rfl ?_
                refine r_iload hL (x := j) dX8_laysWay_79 rfl ?_
                refine r_iload hL (x := s) dX8_laysWay_81 rfl ?_
                refine r_callV hL (st := [xI l]) (av := [xI i, xI j, xI s]) (k := 120) (m_X8_stepCost (μ := μ2) hB2 i (by omega) j (by omega) s (by omega) (fun z83 hc83 hc83_1 hc83_2 hc83_3 => ⟨rfl, ?_⟩)) ce_yX8_stepCost im_yX8_stepCost se_yX8_stepCost ml_X8_89 xcl8 (by decide) s_120 dX8_laysWay_83 rfl (Nat.le_of_ble_eq_true rfl) ⟨Nat.le_of_ble_eq_true rfl, Nat.le_of_ble_eq_true rfl⟩ ⟨Nat.le_of_ble_eq_true rfl, Nat.le_of_ble_eq_true rfl⟩
                show X 0 0 WW μ2 86 [some (xR 120), some (xI t), some (xI u), some (xI l), some (xI i), some (xI j), some (xI (n + 1)), some (xI s)] [xI z83, xI l]
                refine r_isub hL dX8_laysWay_86 ?_
                refine r_istore_n hL (lo' := [some (xR 120), some (xI t), some (xI u), some (xI (l - z83)), some (xI i), some (xI j), some (xI (n + 1)), some (xI s)]) dX8_laysWay_87 (by decide) rfl ?_
                refine r_iload hL (x := i) dX8_laysWay_88 rfl ?_
                refine r_iload hL (x := s) dX8_laysWay_90 rfl ?_
                refine r_callS hL (st := [xI i]) (av := [xI s]) (m_X8_firstBy (μ := μ2) s (by omega) (fun z92 hc92 hc92_1 => ⟨rfl, ?_⟩)) ce_yX8_firstBy sm_yX8_firstBy ml_X8_93 dX8_laysWay_92 rfl (Nat.le_of_ble_eq_true rfl) ⟨Nat.le_of_ble_eq_true rfl, Nat.le_of_ble_eq_true rfl⟩ ⟨Nat.le_of_ble_eq_true rfl, Nat.le_of_ble_eq_true rfl⟩
                show X 0 0 WW μ2 95 [some (xR 120), some (xI t), some (xI u), some (xI (l - z83)), some (xI i), some (xI j), some (xI (n + 1)), some (xI s)] [xI z92, xI i]
                refine r_iadd hL dX8_laysWay_95 ?_
                refine r_istore hL (lo' := [some (xR 120), some (xI t), some (xI u), some (xI (l - z83)), some (xI (i + z92)), some (xI j), some (xI (n + 1)), some (xI s)]) dX8_laysWay_96 (by decide) rfl ?_
                refine r_iload hL (x := j) dX8_laysWay_98 rfl ?_
                refine r_iload hL (x := s) dX8_laysWay_100 rfl ?_
                refine r_callS hL (st := [xI j]) (av := [xI s]) (m_X8_otherBy (μ := μ2) s (by omega) (fun z102 hc102 hc102_1 => ⟨rfl, ?_⟩)) ce_yX8_otherBy sm_yX8_otherBy ml_X8_97 dX8_laysWay_102 rfl (Nat.le_of_ble_eq_true rfl) ⟨Nat.le_of_ble_eq_true rfl, Nat.le_of_ble_eq_true rfl⟩ ⟨Nat.le_of_ble_eq_true rfl, Nat.le_of_ble_eq_true rfl⟩
                show X 0 0 WW μ2 105 [some (xR 120), some (xI t), some (xI u), some (xI (l - z83)), some (xI (i + z92)), some (xI j), some (xI (n + 1)), some (xI s)] [xI z102, xI j]
                refine r_iadd hL dX8_laysWay_105 ?_
                refine r_istore hL (lo' := [some (xR 120), some (xI t), some (xI u), some (xI (l - z83)), some (xI (i + z92)), some (xI (j + z102)), some (xI (n + 1)), some (xI s)]) dX8_laysWay_106 (by decide) rfl ?_
                refine r_goto hL (tgt := 16) dX8_laysWay_108 (by decide) ?_
                refine r_drop hL (lo' := [some (xR 120), some (xI t), some (xI u), some (xI (l - z83)), some (xI (i + z92)), some (xI (j + z102)), some (xI (n + 1)), none]) [7] rfl ?_
                exact ih16 (l - z83) (i + z92) (j + z102) (n + 1) μ2 hB2 hF2 (by omega) (by omega) (by omega) (by omega) (by rw [hsm, hc83, hcm, hc92, hc102]; omega) hD2 (by omega)
              · skip
                refine r_iinc hL (x := s) (lo' := [some (xR 120), some (xI t), some (xI u), some (xI l), some (xI i), some (xI j), some (xI n), some (xI (s + 1))]) dX8_laysWay_57 (by decide) rfl rfl ?_
                refine r_goto hL (tgt := 37) dX8_laysWay_60 (by decide) ?_
                exact ih37 (s + 1) (by omega) (fun q h0 h1 => by rcases (show q < s ∨ q = s by omega) with hq | hq; exact h7 q h0 hq; rw [hq]; rcases hc51 with ⟨e, _⟩ | ⟨_, e⟩; omega; exact e) (by omega)
        exact lp37 _ 0 (by omega) (fun q h0 h1 => by omega) (Nat.lt_succ_self _)
      · skip
        refine r_iload hL (x := j) dX8_laysWay_25 rfl ?_
        refine r_aload_n hL (x := 120) dX8_laysWay_27 rfl ?_
        refine r_geti hL xcl8 13 (j' := 13) rfl (by decide) s_120 (by decide) fl_X8_70 (by decide) (by decide) dX8_laysWay_28 (fun hr28 => ?_)
        obtain ⟨z28, hz28⟩ : ∃ z, z = μ116 120 13 := ⟨_, rfl⟩
        rw [← hz28] at hr28 ⊢
        have hb28 : 0 ≤ μ116 120 13 ∧ μ116 120 13 ≤ 10 := (show ((13 : Int) = 2 → 0 ≤ (μ116 120 13) ∧ (μ116 120 13) ≤ 16) ∧ ((13 : Int) = 6 → 0 ≤ (μ116 120 13) ∧ (μ116 120 13) ≤ 10) ∧ ((13 : Int) = 8 → 0 ≤ (μ116 120 13) ∧ (μ116 120 13) ≤ 20) ∧ ((13 : Int) = 9 → 0 ≤ (μ116 120 13) ∧ (μ116 120 13) ≤ 2147483647) ∧ ((13 : Int) = 11 → 0 ≤ (μ116 120 13) ∧ (μ116 120 13) ≤ 10) ∧ ((13 : Int) = 13 → 0 ≤ (μ116 120 13) ∧ (μ116 120 13) ≤ 10) ∧ ((13 : Int) = 20 → 0 ≤ (μ116 120 13) ∧ (μ116 120 13) ≤ 8) from hB116 120 13).2.2.2.2.2.1 (by omega)
        refine r_icmp_ge hL (tgt := 111) dX8_laysWay_31 (by decide) (by omega) (by omega) (fun c31 => ?_) (fun c31 => ?_)
        · skip
          refine r_iload hL (x := n) dX8_laysWay_111 rfl ?_
          exact r_iret hL dX8_laysWay_113 rfl (hK _ _ hB116 hF116 (by omega))
        · skip
          refine r_iconst hL dX8_laysWay_34 ?_
          refine r_istore hL (lo' := [some (xR 120), some (xI t), some (xI u), some (xI l), some (xI i), some (xI j), some (xI n), some (xI 0)]) dX8_laysWay_35 (by decide) rfl ?_
          have lp37 : ∀ (n37 : Nat) (s : Int), (0 ≤ s ∧ s ≤ 3) → (∀ q, 0 ≤ q → q < s → ¬ (mCo μ116 i j q ≤ 9 ∧ mCo μ116 i j q + μ116 129 (11 * (i + xOF q) + (j + xOO q)) = l)) → ((3 - s).toNat) < n37 → X 0 0 WW μ116 37 [some (xR 120), some (xI t), some (xI u), some (xI l), some (xI i), some (xI j), some (xI n), some (xI s)] [] := by
            intro n37
            induction n37 with
            | zero => intro s h6 h7 hn; exact absurd hn (Nat.not_lt_zero _)
            | succ n37 ih37 =>
              intro s h6 h7 hn37
              refine r_iload hL (x := s) dX8_laysWay_37 rfl ?_
              refine r_iconst hL dX8_laysWay_39 ?_
              refine r_icmp_ge hL (tgt := 63) dX8_laysWay_40 (by decide) (by omega) (by omega) (fun c40 => ?_) (fun c40 => ?_)
              · skip
                have hst : mCo μ116 i j s ≤ 9 ∧ mCo μ116 i j s + μ116 129 (11 * (i + xOF s) + (j + xOO s)) = l := by obtain ⟨q, q0, q3, qc, qv⟩ := (hD116.at (a := i) (b := j) (by omega) (by omega) (by omega) (by omega)).2 (by omega); rcases (show q < s ∨ q = s by omega) with hq | hq; exact absurd ⟨qc, by omega⟩ (h7 q q0 hq); rw [← hq]; exact ⟨qc, by omega⟩
                have hin := mCo_in (i := i) (j := j) (by omega) (by omega) (by omega) (by omega) hst.1
                refine r_aload_n hL (x := 120) dX8_laysWay_63 rfl ?_
                refine r_getr hL xcl8 16 (by decide) s_120 (by decide) fl_X8_41 (by decide) f_120_16 dX8_laysWay_64 ?_
                refine r_iload hL (x := n) dX8_laysWay_67 rfl ?_
                refine r_iload hL (x := s) dX8_laysWay_69 rfl ?_
                refine r_iast hL dX8_laysWay_71 (by decide) s_131 (by decide) (by omega) (by omega) (by omega) (fun μ3 hm3 => ?_)
                have hB3 : BI μ3 := by rw [hm3]; exact hB116.up trivial
                have hF3 : Fr RM μ μ3 := by rw [hm3]; exact hF116.up (by unfold RM; omega)
                have hk3_120_11 : μ3 120 11 = μ116 120 11 := by rw [hm3]; exact congrFun (xup_c (by decide)) _
                have hk3_120_13 : μ3 120 13 = μ116 120 13 := by rw [hm3]; exact congrFun (xup_c (by decide)) _
                have hD3 : MD μ3 := hD116.keep (fun k q hk => by rw [hm3]; exact congrFun (xup_c (show k ≠ 131 by omega)) _)
                have hcm : ∀ a b q, mCo μ3 a b q = mCo μ116 a b q := fun a b q => mCo_fr (fun k q hk => by rw [hm3]; exact congrFun (xup_c (show k ≠ 131 by omega)) _) a b q
                have hsm : ∀ q, μ3 129 q = μ116 129 q := fun q => by rw [hm3]; exact congrFun (xup_c (by decide)) q
                refine r_iinc hL (x := n) (lo' := [some (xR 120), some (xI t), some (xI u), some (xI l), some (xI i), some (xI j), some (xI (n + 1)), some (xI s)]) dX8_laysWay_72 (by decide) rfl rfl ?_
                refine r_iload_n hL (x := l) dX8_laysWay_75 rfl ?_
                refine r_aload_n hL (x := 120) dX8_laysWay_76 rfl ?_
                refine r_iload hL (x := i) dX8_laysWay_77 rfl ?_
                refine r_iload hL (x := j) dX8_laysWay_79 rfl ?_
                refine r_iload hL (x := s) dX8_laysWay_81 rfl ?_
                refine r_callV hL (st := [xI l]) (av := [xI i, xI j, xI s]) (k := 120) (m_X8_stepCost (μ := μ3) hB3 i (by omega) j (by omega) s (by omega) (fun z83 hc83 hc83_1 hc83_2 hc83_3 => ⟨rfl, ?_⟩)) ce_yX8_stepCost im_yX8_stepCost se_yX8_stepCost ml_X8_89 xcl8 (by decide) s_120 dX8_laysWay_83 rfl (Nat.le_of_ble_eq_true rfl) ⟨Nat.le_of_ble_eq_true rfl, Nat.le_of_ble_eq_true rfl⟩ ⟨Nat.le_of_ble_eq_true rfl, Nat.le_of_ble_eq_true rfl⟩
                show X 0 0 WW μ3 86 [some (xR 120), some (xI t), some (xI u), some (xI l), some (xI i), some (xI j), some (xI (n + 1)), some (xI s)] [xI z83, xI l]
                refine r_isub hL dX8_laysWay_86 ?_
                refine r_istore_n hL (lo' := [some (xR 120), some (xI t), some (xI u), some (xI (l - z83)), some (xI i), some (xI j), some (xI (n + 1)), some (xI s)]) dX8_laysWay_87 (by decide) rfl ?_
                refine r_iload hL (x := i) dX8_laysWay_88 rfl ?_
                refine r_iload hL (x := s) dX8_laysWay_90 rfl ?_
                refine r_callS hL (st := [xI i]) (av := [xI s]) (m_X8_firstBy (μ := μ3) s (by omega) (fun z92 hc92 hc92_1 => ⟨rfl, ?_⟩)) ce_yX8_firstBy sm_yX8_firstBy ml_X8_93 dX8_laysWay_92 rfl (Nat.le_of_ble_eq_true rfl) ⟨Nat.le_of_ble_eq_true rfl, Nat.le_of_ble_eq_true rfl⟩ ⟨Nat.le_of_ble_eq_true rfl, Nat.le_of_ble_eq_true rfl⟩
                show X 0 0 WW μ3 95 [some (xR 120), some (xI t), some (xI u), some (xI (l - z83)), some (xI i), some (xI j), some (xI (n + 1)), some (xI s)] [xI z92, xI i]
                refine r_iadd hL dX8_laysWay_95 ?_
                refine r_istore hL (lo' := [some (xR 120), some (xI t), some (xI u), some (xI (l - z83)), some (xI (i + z92)), some (xI j), some (xI (n + 1)), some (xI s)]) dX8_laysWay_96 (by decide) rfl ?_
                refine r_iload hL (x := j) dX8_laysWay_98 rfl ?_
                refine r_iload hL (x := s) dX8_laysWay_100 rfl ?_
                refine r_callS hL (st := [xI j]) (av := [xI s]) (m_X8_otherBy (μ := μ3) s (by omega) (fun z102 hc102 hc102_1 => ⟨rfl, ?_⟩)) ce_yX8_otherBy sm_yX8_otherBy ml_X8_97 dX8_laysWay_102 rfl (Nat.le_of_ble_eq_true rfl) ⟨Nat.le_of_ble_eq_true rfl, Nat.le_of_ble_eq_true rfl⟩ ⟨Nat.le_of_ble_eq_true rfl, Nat.le_of_ble_eq_true rfl⟩
                show X 0 0 WW μ3 105 [some (xR 120), some (xI t), some (xI u), some (xI (l - z83)), some (xI (i + z92)), some (xI j), some (xI (n + 1)), some (xI s)] [xI z102, xI j]
                refine r_iadd hL dX8_laysWay_105 ?_
                refine r_istore hL (lo' := [some (xR 120), some (xI t), some (xI u), some (xI (l - z83)), some (xI (i + z92)), some (xI (j + z102)), some (xI (n + 1)), some (xI s)]) dX8_laysWay_106 (by decide) rfl ?_
                refine r_goto hL (tgt := 16) dX8_laysWay_108 (by decide) ?_
                refine r_drop hL (lo' := [some (xR 120), some (xI t), some (xI u), some (xI (l - z83)), some (xI (i + z92)), some (xI (j + z102)), some (xI (n + 1)), none]) [7] rfl ?_
                exact ih16 (l - z83) (i + z92) (j + z102) (n + 1) μ3 hB3 hF3 (by omega) (by omega) (by omega) (by omega) (by rw [hsm, hc83, hcm, hc92, hc102]; omega) hD3 (by omega)
              · skip
                refine r_aload_n hL (x := 120) dX8_laysWay_43 rfl ?_
                refine r_iload hL (x := i) dX8_laysWay_44 rfl ?_
                refine r_iload hL (x := j) dX8_laysWay_46 rfl ?_
                refine r_iload hL (x := s) dX8_laysWay_48 rfl ?_
                refine r_iload_n hL (x := l) dX8_laysWay_50 rfl ?_
                refine r_callV hL (st := []) (av := [xI i, xI j, xI s, xI l]) (k := 120) (m_X8_isOfLeast (μ := μ116) hB116 i (by omega) j (by omega) s (by omega) l (by omega) hD116 (fun z51 hc51 => ⟨rfl, ?_⟩)) ce_yX8_isOfLeast im_yX8_isOfLeast se_yX8_isOfLeast ml_X8_114 xcl8 (by decide) s_120 dX8_laysWay_51 rfl (Nat.le_of_ble_eq_true rfl) ⟨Nat.le_of_ble_eq_true rfl, Nat.le_of_ble_eq_true rfl⟩ ⟨Nat.le_of_ble_eq_true rfl, Nat.le_of_ble_eq_true rfl⟩
                show X 0 0 WW μ116 54 [some (xR 120), some (xI t), some (xI u), some (xI l), some (xI i), some (xI j), some (xI n), some (xI s)] [xI z51]
                refine r_if_ne hL (tgt := 63) dX8_laysWay_54 (by decide) (by omega) (fun c54 => ?_) (fun c54 => ?_)
                · skip
                  have hst : mCo μ116 i j s ≤ 9 ∧ mCo μ116 i j s + μ116 129 (11 * (i + xOF s) + (j + xOO s)) = l := by rcases hc51 with ⟨_, e1, e2⟩ | ⟨e, _⟩; exact ⟨e1, e2⟩; omega
                  have hin := mCo_in (i := i) (j := j) (by omega) (by omega) (by omega) (by omega) hst.1
                  refine r_aload_n hL (x := 120) dX8_laysWay_63 rfl ?_
                  refine r_getr hL xcl8 16 (by decide) s_120 (by decide) fl_X8_41 (by decide) f_120_16 dX8_laysWay_64 ?_
                  refine r_iload hL (x := n) dX8_laysWay_67 rfl ?_
                  refine r_iload hL (x := s) dX8_laysWay_69 rfl ?_
                  refine r_iast hL dX8_laysWay_71 (by decide) s_131 (by decide) (by omega) (by omega) (by omega) (fun μ4 hm4 => ?_)
                  have hB4 : BI μ4 := by rw [hm4]; exact hB116.up trivial
                  have hF4 : Fr RM μ μ4 := by rw [hm4]; exact hF116.up (by unfold RM; omega)
                  have hk4_120_11 : μ4 120 11 = μ116 120 11 := by rw [hm4]; exact congrFun (xup_c (by decide)) _
                  have hk4_120_13 : μ4 120 13 = μ116 120 13 := by rw [hm4]; exact congrFun (xup_c (by decide)) _
                  have hD4 : MD μ4 := hD116.keep (fun k q hk => by rw [hm4]; exact congrFun (xup_c (show k ≠ 131 by omega)) _)
                  have hcm : ∀ a b q, mCo μ4 a b q = mCo μ116 a b q := fun a b q => mCo_fr (fun k q hk => by rw [hm4]; exact congrFun (xup_c (show k ≠ 131 by omega)) _) a b q
                  have hsm : ∀ q, μ4 129 q = μ116 129 q := fun q => by rw [hm4]; exact congrFun (xup_c (by decide)) q
                  refine r_iinc hL (x := n) (lo' := [some (xR 120), some (xI t), some (xI u), some (xI l), some (xI i), some (xI j), some (xI (n + 1)), some (xI s)]) dX8_laysWay_72 (by decide) rfl rfl ?_
                  refine r_iload_n hL (x := l) dX8_laysWay_75 rfl ?_
                  refine r_aload_n hL (x := 120) dX8_laysWay_76 rfl ?_
                  refine r_iload hL (x := i) dX8_laysWay_77 rfl ?_
                  refine r_iload hL (x := j) dX8_laysWay_79 rfl ?_
                  refine r_iload hL (x := s) dX8_laysWay_81 rfl ?_
                  refine r_callV hL (st := [xI l]) (av := [xI i, xI j, xI s]) (k := 120) (m_X8_stepCost (μ := μ4) hB4 i (by omega) j (by omega) s (by omega) (fun z83 hc83 hc83_1 hc83_2 hc83_3 => ⟨rfl, ?_⟩)) ce_yX8_stepCost im_yX8_stepCost se_yX8_stepCost ml_X8_89 xcl8 (by decide) s_120 dX8_laysWay_83 rfl (Nat.le_of_ble_eq_true rfl) ⟨Nat.le_of_ble_eq_true rfl, Nat.le_of_ble_eq_true rfl⟩ ⟨Nat.le_of_ble_eq_true rfl, Nat.le_of_ble_eq_true rfl⟩
                  show X 0 0 WW μ4 86 [some (xR 120), some (xI t), some (xI u), some (xI l), some (xI i), some (xI j), some (xI (n + 1)), some (xI s)] [xI z83, xI l]
                  refine r_isub hL dX8_laysWay_86 ?_
                  refine r_istore_n hL (lo' := [some (xR 120), some (xI t), some (xI u), some (xI (l - z83)), some (xI i), some (xI j), some (xI (n + 1)), some (xI s)]) dX8_laysWay_87 (by decide) rfl ?_
                  refine r_iload hL (x := i) dX8_laysWay_88 rfl ?_
                  refine r_iload hL (x := s) dX8_laysWay_90 rfl ?_
                  refine r_callS hL (st := [xI i]) (av := [xI s]) (m_X8_firstBy (μ := μ4) s (by omega) (fun z92 hc92 hc92_1 => ⟨rfl, ?_⟩)) ce_yX8_firstBy sm_yX8_firstBy ml_X8_93 dX8_laysWay_92 rfl (Nat.le_of_ble_eq_true rfl) ⟨Nat.le_of_ble_eq_true rfl, Nat.le_of_ble_eq_true rfl⟩ ⟨Nat.le_of_ble_eq_true rfl, Nat.le_of_ble_eq_true rfl⟩
                  show X 0 0 WW μ4 95 [some (xR 120), some (xI t), some (xI u), some (xI (l - z83)), some (xI i), some (xI j), some (xI (n + 1)), some (xI s)] [xI z92, xI i]
                  refine r_iadd hL dX8_laysWay_95 ?_
                  refine r_istore hL (lo' := [some (xR 120), some (xI t), some (xI u), some (xI (l - z83)), some (xI (i + z92)), some (xI j), some (xI (n + 1)), some (xI s)]) dX8_laysWay_96 (by decide) rfl ?_
                  refine r_iload hL (x := j) dX8_laysWay_98 rfl ?_
                  refine r_iload hL (x := s) dX8_laysWay_100 rfl ?_
                  refine r_callS hL (st := [xI j]) (av := [xI s]) (m_X8_otherBy (μ := μ4) s (by omega) (fun z102 hc102 hc102_1 => ⟨rfl, ?_⟩)) ce_yX8_otherBy sm_yX8_otherBy ml_X8_97 dX8_laysWay_102 rfl (Nat.le_of_ble_eq_true rfl) ⟨Nat.le_of_ble_eq_true rfl, Nat.le_of_ble_eq_true rfl⟩ ⟨Nat.le_of_ble_eq_true rfl, Nat.le_of_ble_eq_true rfl⟩
                  show X 0 0 WW μ4 105 [some (xR 120), some (xI t), some (xI u), some (xI (l - z83)), some (xI (i + z92)), some (xI j), some (xI (n + 1)), some (xI s)] [xI z102, xI j]
                  refine r_iadd hL dX8_laysWay_105 ?_
                  refine r_istore hL (lo' := [some (xR 120), some (xI t), some (xI u), some (xI (l - z83)), some (xI (i + z92)), some (xI (j + z102)), some (xI (n + 1)), some (xI s)]) dX8_laysWay_106 (by decide) rfl ?_
                  refine r_goto hL (tgt := 16) dX8_laysWay_108 (by decide) ?_
                  refine r_drop hL (lo' := [some (xR 120), some (xI t), some (xI u), some (xI (l - z83)), some (xI (i + z92)), some (xI (j + z102)), some (xI (n + 1)), none]) [7] rfl ?_
                  exact ih16 (l - z83) (i + z92) (j + z102) (n + 1) μ4 hB4 hF4 (by omega) (by omega) (by omega) (by omega) (by rw [hsm, hc83, hcm, hc92, hc102]; omega) hD4 (by omega)
                · skip
                  refine r_iinc hL (x := s) (lo' := [some (xR 120), some (xI t), some (xI u), some (xI l), some (xI i), some (xI j), some (xI n), some (xI (s + 1))]) dX8_laysWay_57 (by decide) rfl rfl ?_
                  refine r_goto hL (tgt := 37) dX8_laysWay_60 (by decide) ?_
                  exact ih37 (s + 1) (by omega) (fun q h0 h1 => by rcases (show q < s ∨ q = s by omega) with hq | hq; exact h7 q h0 hq; rw [hq]; rcases hc51 with ⟨e, _⟩ | ⟨_, e⟩; omega; exact e) (by omega)
          exact lp37 _ 0 (by omega) (fun q h0 h1 => by omega) (Nat.lt_succ_self _)
  exact lp16 _ z3 0 0 0 μ3c hB3c hF3c (by omega) (by omega) (by omega) (by omega) heq3 hD3c (Nat.lt_succ_self _)
