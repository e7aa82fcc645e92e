set_option maxHeartbeats 4000000 in
set_option maxRecDepth 20000 in
theorem m_X8_laysWay {K : Option xV → xW → xM → Prop} {μ : xM} (hB0 : BI μ) (t : Int) (ht : 0 ≤ t ∧ t ≤ 7) (u : Int) (hu : 0 ≤ u ∧ u ≤ 7) (hK : ∀ r μ', BI μ' → Fr RM μ μ' → PRw (μ 121 (6 + t)) (μ 121 (6 + u)) (fun q => μ 121 (30 + 10 * t + q)) (fun q => μ 121 (30 + 10 * u + q)) (fun k => μ 121 (2 + k)) (μ' 131) r → 0 ≤ r ∧ r ≤ 20 → K (some (xI r)) WW μ') : xMet yX8_laysWay cX8_laysWay 8 (some .int) 5 118 0 0 [xR 120, xI t, xI u] WW μ K := by
  refine xMet.go RX8 "laysWay" rfl rfl (by decide) [some (xR 120), some (xI t), some (xI u), none, none, none, none, none] (Nat.le_of_ble_eq_true rfl) rfl (fun X hL => ?_)
  have hB := hB0
  have hF : Fr RM μ μ := Fr.rf
  refine r_aload_n hL (x := 120) dX8_laysWay_0 rfl ?_
  refine r_iload_n hL (x := t) dX8_laysWay_1 rfl ?_
  refine r_iload_n hL (x := u) dX8_laysWay_2 rfl ?_
  refine r_callV hL (st := []) (av := [xI t, xI u]) (k := 120) (m_X8_apart (μ := μ) hB t (by omega) u (by omega) (fun z3 μ3c hB3c hG3 hD3c heq3 hQ3 hc3 => ⟨rfl, ?_⟩)) ce_yX8_apart im_yX8_apart se_yX8_apart ml_X8_111 xcl8 (by decide) s_120 dX8_laysWay_3 rfl (Nat.le_of_ble_eq_true rfl) ⟨Nat.le_of_ble_eq_true rfl, Nat.le_of_ble_eq_true rfl⟩ ⟨Nat.le_of_ble_eq_true rfl, Nat.le_of_ble_eq_true rfl⟩
  show X 0 0 WW μ3c 6 [some (xR 120), some (xI t), some (xI u), none, none, none, none, none] [xI z3]
  have hF3c : Fr RM μ μ3c := hF.trans hG3
  obtain ⟨fl, hfl⟩ : ∃ z, z = μ3c 120 11 := ⟨_, rfl⟩
  obtain ⟨fo, hfo⟩ : ∃ z, z = μ3c 120 13 := ⟨_, rfl⟩
  have hm11 : 0 ≤ μ3c 120 11 ∧ μ3c 120 11 ≤ 10 := (show ((11 : Int) = 2 → 0 ≤ (μ3c 120 11) ∧ (μ3c 120 11) ≤ 16) ∧ ((11 : Int) = 6 → 0 ≤ (μ3c 120 11) ∧ (μ3c 120 11) ≤ 10) ∧ ((11 : Int) = 8 → 0 ≤ (μ3c 120 11) ∧ (μ3c 120 11) ≤ 20) ∧ ((11 : Int) = 9 → 0 ≤ (μ3c 120 11) ∧ (μ3c 120 11) ≤ 2147483647) ∧ ((11 : Int) = 11 → 0 ≤ (μ3c 120 11) ∧ (μ3c 120 11) ≤ 10) ∧ ((11 : Int) = 13 → 0 ≤ (μ3c 120 11) ∧ (μ3c 120 11) ≤ 10) ∧ ((11 : Int) = 20 → 0 ≤ (μ3c 120 11) ∧ (μ3c 120 11) ≤ 8) from hB3c 120 11).2.2.2.2.1 (by omega)
  have hm13 : 0 ≤ μ3c 120 13 ∧ μ3c 120 13 ≤ 10 := (show ((13 : Int) = 2 → 0 ≤ (μ3c 120 13) ∧ (μ3c 120 13) ≤ 16) ∧ ((13 : Int) = 6 → 0 ≤ (μ3c 120 13) ∧ (μ3c 120 13) ≤ 10) ∧ ((13 : Int) = 8 → 0 ≤ (μ3c 120 13) ∧ (μ3c 120 13) ≤ 20) ∧ ((13 : Int) = 9 → 0 ≤ (μ3c 120 13) ∧ (μ3c 120 13) ≤ 2147483647) ∧ ((13 : Int) = 11 → 0 ≤ (μ3c 120 13) ∧ (μ3c 120 13) ≤ 10) ∧ ((13 : Int) = 13 → 0 ≤ (μ3c 120 13) ∧ (μ3c 120 13) ≤ 10) ∧ ((13 : Int) = 20 → 0 ≤ (μ3c 120 13) ∧ (μ3c 120 13) ≤ 8) from hB3c 120 13).2.2.2.2.2.1 (by omega)
  refine r_istore_n hL (lo' := [some (xR 120), some (xI t), some (xI u), some (xI z3), none, none, none, none]) dX8_laysWay_6 (by decide) rfl ?_
  refine r_iconst hL dX8_laysWay_7 ?_
  refine r_istore hL (lo' := [some (xR 120), some (xI t), some (xI u), some (xI z3), some (xI 0), none, none, none]) dX8_laysWay_8 (by decide) rfl ?_
  refine r_iconst hL dX8_laysWay_10 ?_
  refine r_istore hL (lo' := [some (xR 120), some (xI t), some (xI u), some (xI z3), some (xI 0), some (xI 0), none, none]) dX8_laysWay_11 (by decide) rfl ?_
  refine r_iconst hL dX8_laysWay_13 ?_
  refine r_istore hL (lo' := [some (xR 120), some (xI t), some (xI u), some (xI z3), some (xI 0), some (xI 0), some (xI 0), none]) dX8_laysWay_14 (by decide) rfl ?_
  have lp16 : ∀ (n16 : Nat) (l : Int) (i : Int) (j : Int) (n : Int) (μ116 : xM), (BI μ116) → (Fr RM μ μ116) → (μ116 120 11 = fl ∧ μ116 120 13 = fo) → (0 ≤ i ∧ i ≤ fl) → (0 ≤ j ∧ j ≤ fo) → (0 ≤ n ∧ n ≤ i + j) → (l = μ116 129 (11 * i + j)) → (MD μ116) → (WYp fl fo (mCo μ3c) (μ3c 129) (μ116 131) n.toNat i j) → (∀ k q, k ≠ 131 → μ116 k q = μ3c k q) → ((20 - (i + j)).toNat) < n16 → X 0 0 WW μ116 16 [some (xR 120), some (xI t), some (xI u), some (xI l), some (xI i), some (xI j), some (xI n), none] [] := by
    intro n16
    induction n16 with
    | zero => intro l i j n μ116 hB116 hF116 h1 h2 h3 h4 h5 hD116 h8 h9 hn; exact absurd hn (Nat.not_lt_zero _)
    | succ n16 ih16 =>
      intro l i j n μ116 hB116 hF116 h1 h2 h3 h4 h5 hD116 h8 h9 hn16
      have hlb := (hD116.at (a := i) (b := j) (by omega) (by omega) (by omega) (by omega)).1
      have hco116 : mCo μ116 = mCo μ3c := mCo_ff (fun k q hk => h9 k q (by omega))
      have h129116 : μ116 129 = μ3c 129 := funext fun q => h9 129 q (by decide)
      have hOKm := mCo_ok hB116
      refine r_iload hL (x := i) dX8_laysWay_16 rfl ?_
      refine r_aload_n hL (x := 120) dX8_laysWay_18 rfl ?_
      refine r_geti hL xcl8 11 (j' := 11) rfl (by decide) s_120 (by decide) fl_X8_66 (by decide) (by decide) dX8_laysWay_19 (fun hr19 => ?_)
      obtain ⟨z19, hz19⟩ : ∃ z, z = μ116 120 11 := ⟨_, rfl⟩
      rw [← hz19] at hr19 ⊢
      have hb19 : 0 ≤ μ116 120 11 ∧ μ116 120 11 ≤ 10 := (show ((11 : Int) = 2 → 0 ≤ (μ116 120 11) ∧ (μ116 120 11) ≤ 16) ∧ ((11 : Int) = 6 → 0 ≤ (μ116 120 11) ∧ (μ116 120 11) ≤ 10) ∧ ((11 : Int) = 8 → 0 ≤ (μ116 120 11) ∧ (μ116 120 11) ≤ 20) ∧ ((11 : Int) = 9 → 0 ≤ (μ116 120 11) ∧ (μ116 120 11) ≤ 2147483647) ∧ ((11 : Int) = 11 → 0 ≤ (μ116 120 11) ∧ (μ116 120 11) ≤ 10) ∧ ((11 : Int) = 13 → 0 ≤ (μ116 120 11) ∧ (μ116 120 11) ≤ 10) ∧ ((11 : Int) = 20 → 0 ≤ (μ116 120 11) ∧ (μ116 120 11) ≤ 8) from hB116 120 11).2.2.2.2.1 (by omega)
      refine r_icmp_lt hL (tgt := 34) dX8_laysWay_22 (by decide) (by omega) (by omega) (fun c22 => ?_) (fun c22 => ?_)
      · skip
        refine r_iconst hL dX8_laysWay_34 ?_
        refine r_istore hL (lo' := [some (xR 120), some (xI t), some (xI u), some (xI l), some (xI i), some (xI j), some (xI n), some (xI 0)]) dX8_laysWay_35 (by decide) rfl ?_
        have lp37 : ∀ (n37 : Nat) (s : Int), (0 ≤ s ∧ s ≤ 3) → (∀ q, 0 ≤ q → q < s → ¬ (mCo μ116 i j q ≤ 9 ∧ mCo μ116 i j q + μ116 129 (11 * (i + xOF q) + (j + xOO q)) = l)) → ((3 - s).toNat) < n37 → X 0 0 WW μ116 37 [some (xR 120), some (xI t), some (xI u), some (xI l), some (xI i), some (xI j), some (xI n), some (xI s)] [] := by
          intro n37
          induction n37 with
          | zero => intro s h6 h7 hn; exact absurd hn (Nat.not_lt_zero _)
          | succ n37 ih37 =>
            intro s h6 h7 hn37
            refine r_iload hL (x := s) dX8_laysWay_37 rfl ?_
            refine r_iconst hL dX8_laysWay_39 ?_
            refine r_icmp_ge hL (tgt := 63) dX8_laysWay_40 (by decide) (by omega) (by omega) (fun c40 => ?_) (fun c40 => ?_)
            · skip
              have hst : mCo μ116 i j s ≤ 9 ∧ mCo μ116 i j s + μ116 129 (11 * (i + xOF s) + (j + xOO s)) = l := by obtain ⟨q, q0, q3, qc, qv⟩ := (hD116.at (a := i) (b := j) (by omega) (by omega) (by omega) (by omega)).2 (by omega); rcases (show q < s ∨ q = s by omega) with hq | hq; exact absurd ⟨qc, by omega⟩ (h7 q q0 hq); rw [← hq]; exact ⟨qc, by omega⟩
              have hin := mCo_in (i := i) (j := j) (by omega) (by omega) (by omega) (by omega) hst.1
              have hfs : fst' (mCo μ3c) (μ3c 129) i j = s := by rw [← hco116, ← h129116]; exact fst_eq (by omega) (by omega) (fun q q0 q1 ha => h7 q q0 q1 ⟨by have ha1 := ha.1; rcases hOKm i j q (by omega) (by omega) (by omega) (by omega) (by omega) (by omega) with e | ⟨_, e, _⟩ <;> omega, ha.2.trans h5.symm⟩) (Or.inr ⟨by have hs1 := hst.1; omega, hst.2.trans h5⟩)
              refine r_aload_n hL (x := 120) dX8_laysWay_63 rfl ?_
              refine r_getr hL xcl8 16 (by decide) s_120 (by decide) fl_X8_41 (by decide) f_120_16 dX8_laysWay_64 ?_
              refine r_iload hL (x := n) dX8_laysWay_67 rfl ?_
              refine r_iload hL (x := s) dX8_laysWay_69 rfl ?_
              refine r_iast hL dX8_laysWay_71 (by decide) s_131 (by decide) (by omega) (by omega) (by omega) (fun μ1 hm1 => ?_)
              have hB1 : BI μ1 := by rw [hm1]; exact hB116.up trivial
              have hF1 : Fr RM μ μ1 := by rw [hm1]; exact hF116.up (by unfold RM; omega)
              have hk1_120_11 : μ1 120 11 = μ116 120 11 := by rw [hm1]; exact congrFun (xup_c (by decide)) _
              have hk1_120_13 : μ1 120 13 = μ116 120 13 := by rw [hm1]; exact congrFun (xup_c (by decide)) _
              have hD1 : MD μ1 := hD116.keep (fun k q hk => by rw [hm1]; exact congrFun (xup_c (show k ≠ 131 by omega)) _)
              have hcm : ∀ a b q, mCo μ1 a b q = mCo μ116 a b q := fun a b q => mCo_fr (fun k q hk => by rw [hm1]; exact congrFun (xup_c (show k ≠ 131 by omega)) _) a b q
              have hsm : ∀ q, μ1 129 q = μ116 129 q := fun q => by rw [hm1]; exact congrFun (xup_c (by decide)) q
              refine r_iinc hL (x := n) (lo' := [some (xR 120), some (xI t), some (xI u), some (xI l), some (xI i), some (xI j), some (xI (n + 1)), some (xI s)]) dX8_laysWay_72 (by decide) rfl rfl ?_
              refine r_iload_n hL (x := l) dX8_laysWay_75 rfl ?_
              refine r_aload_n hL (x := 120) dX8_laysWay_76 rfl ?_
              refine r_iload hL (x := i) dX8_laysWay_77 rfl ?_
              refine r_iload hL (x := j) dX8_laysWay_79 rfl ?_
              refine r_iload hL (x := s) dX8_laysWay_81 rfl ?_
              refine r_callV hL (st := [xI l]) (av := [xI i, xI j, xI s]) (k := 120) (m_X8_stepCost (μ := μ1) hB1 i (by omega) j (by omega) s (by omega) (fun z83 hc83 hc83_1 hc83_2 hc83_3 => ⟨rfl, ?_⟩)) ce_yX8_stepCost im_yX8_stepCost se_yX8_stepCost ml_X8_89 xcl8 (by decide) s_120 dX8_laysWay_83 rfl (Nat.le_of_ble_eq_true rfl) ⟨Nat.le_of_ble_eq_true rfl, Nat.le_of_ble_eq_true rfl⟩ ⟨Nat.le_of_ble_eq_true rfl, Nat.le_of_ble_eq_true rfl⟩
              show X 0 0 WW μ1 86 [some (xR 120), some (xI t), some (xI u), some (xI l), some (xI i), some (xI j), some (xI (n + 1)), some (xI s)] [xI z83, xI l]
              refine r_isub hL dX8_laysWay_86 ?_
              refine r_istore_n hL (lo' := [some (xR 120), some (xI t), some (xI u), some (xI (l - z83)), some (xI i), some (xI j), some (xI (n + 1)), some (xI s)]) dX8_laysWay_87 (by decide) rfl ?_
              refine r_iload hL (x := i) dX8_laysWay_88 rfl ?_
              refine r_iload hL (x := s) dX8_laysWay_90 rfl ?_
              refine r_callS hL (st := [xI i]) (av := [xI s]) (m_X8_firstBy (μ := μ1) s (by omega) (fun z92 hc92 hc92_1 => ⟨rfl, ?_⟩)) ce_yX8_firstBy sm_yX8_firstBy ml_X8_93 dX8_laysWay_92 rfl (Nat.le_of_ble_eq_true rfl) ⟨Nat.le_of_ble_eq_true rfl, Nat.le_of_ble_eq_true rfl⟩ ⟨Nat.le_of_ble_eq_true rfl, Nat.le_of_ble_eq_true rfl⟩
              show X 0 0 WW μ1 95 [some (xR 120), some (xI t), some (xI u), some (xI (l - z83)), some (xI i), some (xI j), some (xI (n + 1)), some (xI s)] [xI z92, xI i]
              refine r_iadd hL dX8_laysWay_95 ?_
              refine r_istore hL (lo' := [some (xR 120), some (xI t), some (xI u), some (xI (l - z83)), some (xI (i + z92)), some (xI j), some (xI (n + 1)), some (xI s)]) dX8_laysWay_96 (by decide) rfl ?_
              refine r_iload hL (x := j) dX8_laysWay_98 rfl ?_
              refine r_iload hL (x := s) dX8_laysWay_100 rfl ?_
              refine r_callS hL (st := [xI j]) (av := [xI s]) (m_X8_otherBy (μ := μ1) s (by omega) (fun z102 hc102 hc102_1 => ⟨rfl, ?_⟩)) ce_yX8_otherBy sm_yX8_otherBy ml_X8_97 dX8_laysWay_102 rfl (Nat.le_of_ble_eq_true rfl) ⟨Nat.le_of_ble_eq_true rfl, Nat.le_of_ble_eq_true rfl⟩ ⟨Nat.le_of_ble_eq_true rfl, Nat.le_of_ble_eq_true rfl⟩
              show X 0 0 WW μ1 105 [some (xR 120), some (xI t), some (xI u), some (xI (l - z83)), some (xI (i + z92)), some (xI j), some (xI (n + 1)), some (xI s)] [xI z102, xI j]
              refine r_iadd hL dX8_laysWay_105 ?_
              refine r_istore hL (lo' := [some (xR 120), some (xI t), some (xI u), some (xI (l - z83)), some (xI (i + z92)), some (xI (j + z102)), some (xI (n + 1)), some (xI s)]) dX8_laysWay_106 (by decide) rfl ?_
              refine r_goto hL (tgt := 16) dX8_laysWay_108 (by decide) ?_
              refine r_drop hL (lo' := [some (xR 120), some (xI t), some (xI u), some (xI (l - z83)), some (xI (i + z92)), some (xI (j + z102)), some (xI (n + 1)), none]) [7] rfl ?_
              exact ih16 (l - z83) (i + z92) (j + z102) (n + 1) μ1 hB1 hF1 (by omega) (by omega) (by omega) (by omega) (by rw [hsm, hc83, hcm, hc92, hc102]; omega) hD1 (by rw [show (n + 1).toNat = n.toNat + 1 by omega]; exact WYp.go (s := s) h8 (by omega) hfs (fun q => by rw [hm1, Int.toNat_of_nonneg (by omega)]; simp [xup]) (by rw [hc92]) (by rw [hc102]) (by omega) (by omega)) (fun k q hk => by rw [hm1, congrFun (xup_c hk) q]; exact h9 k q hk) (by omega)
            · skip
              refine r_aload_n hL (x := 120) dX8_laysWay_43 rfl ?_
              refine r_iload hL (x := i) dX8_laysWay_44 rfl ?_
              refine r_iload hL (x := j) dX8_laysWay_46 rfl ?_
              refine r_iload hL (x := s) dX8_laysWay_48 rfl ?_
              refine r_iload_n hL (x := l) dX8_laysWay_50 rfl ?_
              refine r_callV hL (st := []) (av := [xI i, xI j, xI s, xI l]) (k := 120) (m_X8_isOfLeast (μ := μ116) hB116 i (by omega) j (by omega) s (by omega) l (by omega) hD116 (fun z51 hc51 => ⟨rfl, ?_⟩)) ce_yX8_isOfLeast im_yX8_isOfLeast se_yX8_isOfLeast ml_X8_114 xcl8 (by decide) s_120 dX8_laysWay_51 rfl (Nat.le_of_ble_eq_true rfl) ⟨Nat.le_of_ble_eq_true rfl, Nat.le_of_ble_eq_true rfl⟩ ⟨Nat.le_of_ble_eq_true rfl, Nat.le_of_ble_eq_true rfl⟩
              show X 0 0 WW μ116 54 [some (xR 120), some (xI t), some (xI u), some (xI l), some (xI i), some (xI j), some (xI n), some (xI s)] [xI z51]
              refine r_if_ne hL (tgt := 63) dX8_laysWay_54 (by decide) (by omega) (fun c54 => ?_) (fun c54 => ?_)
              · skip
                have hst : mCo μ116 i j s ≤ 9 ∧ mCo μ116 i j s + μ116 129 (11 * (i + xOF s) + (j + xOO s)) = l := by rcases hc51 with ⟨_, e1, e2⟩ | ⟨e, _⟩; exact ⟨e1, e2⟩; omega
                have hin := mCo_in (i := i) (j := j) (by omega) (by omega) (by omega) (by omega) hst.1
                have hfs : fst' (mCo μ3c) (μ3c 129) i j = s := by rw [← hco116, ← h129116]; exact fst_eq (by omega) (by omega) (fun q q0 q1 ha => h7 q q0 q1 ⟨by have ha1 := ha.1; rcases hOKm i j q (by omega) (by omega) (by omega) (by omega) (by omega) (by omega) with e | ⟨_, e, _⟩ <;> omega, ha.2.trans h5.symm⟩) (Or.inr ⟨by have hs1 := hst.1; omega, hst.2.trans h5⟩)
                refine r_aload_n hL (x := 120) dX8_laysWay_63 rfl ?_
                refine r_getr hL xcl8 16 (by decide) s_120 (by decide) fl_X8_41 (by decide) f_120_16 dX8_laysWay_64 ?_
                refine r_iload hL (x := n) dX8_laysWay_67 rfl ?_
                refine r_iload hL (x := s) dX8_laysWay_69 rfl ?_
                refine r_iast hL dX8_laysWay_71 (by decide) s_131 (by decide) (by omega) (by omega) (by omega) (fun μ2 hm2 => ?_)
                have hB2 : BI μ2 := by rw [hm2]; exact hB116.up trivial
                have hF2 : Fr RM μ μ2 := by rw [hm2]; exact hF116.up (by unfold RM; omega)
                have hk2_120_11 : μ2 120 11 = μ116 120 11 := by rw [hm2]; exact congrFun (xup_c (by decide)) _
                have hk2_120_13 : μ2 120 13 = μ116 120 13 := by rw [hm2]; exact congrFun (xup_c (by decide)) _
                have hD2 : MD μ2 := hD116.keep (fun k q hk => by rw [hm2]; exact congrFun (xup_c (show k ≠ 131 by omega)) _)
                have hcm : ∀ a b q, mCo μ2 a b q = mCo μ116 a b q := fun a b q => mCo_fr (fun k q hk => by rw [hm2]; exact congrFun (xup_c (show k ≠ 131 by omega)) _) a b q
                have hsm : ∀ q, μ2 129 q = μ116 129 q := fun q => by rw [hm2]; exact congrFun (xup_c (by decide)) q
                refine r_iinc hL (x := n) (lo' := [some (xR 120), some (xI t), some (xI u), some (xI l), some (xI i), some (xI j), some (xI (n + 1)), some (xI s)]) dX8_laysWay_72 (by decide) rfl rfl ?_
                refine r_iload_n hL (x := l) dX8_laysWay_75 rfl ?_
                refine r_aload_n hL (x := 120) dX8_laysWay_76 rfl ?_
                refine r_iload hL (x := i) dX8_laysWay_77 rfl ?_
                refine r_iload hL (x := j) dX8_laysWay_79 rfl ?_
                refine r_iload hL (x := s) dX8_laysWay_81 rfl ?_
                refine r_callV hL (st := [xI l]) (av := [xI i, xI j, xI s]) (k := 120) (m_X8_stepCost (μ := μ2) hB2 i (by omega) j (by omega) s (by omega) (fun z83 hc83 hc83_1 hc83_2 hc83_3 => ⟨rfl, ?_⟩)) ce_yX8_stepCost im_yX8_stepCost se_yX8_stepCost ml_X8_89 xcl8 (by decide) s_120 dX8_laysWay_83 rfl (Nat.le_of_ble_eq_true rfl) ⟨Nat.le_of_ble_eq_true rfl, Nat.le_of_ble_eq_true rfl⟩ ⟨Nat.le_of_ble_eq_true rfl, Nat.le_of_ble_eq_true rfl⟩
                show X 0 0 WW μ2 86 [some (xR 120), some (xI t), some (xI u), some (xI l), some (xI i), some (xI j), some (xI (n + 1)), some (xI s)] [xI z83, xI l]
                refine r_isub hL dX8_laysWay_86 ?_
                refine r_istore_n hL (lo' := [some (xR 120), some (xI t), some (xI u), some (xI (l - z83)), some (xI i), some (xI j), some (xI (n + 1)), some (xI s)]) dX8_laysWay_87 (by decide) rfl ?_
                refine r_iload hL (x := i) dX8_laysWay_88 rfl ?_
                refine r_iload hL (x := s) dX8_laysWay_90 rfl ?_
                refine r_callS hL (st := [xI i]) (av := [xI s]) (m_X8_firstBy (μ := μ2) s (by omega) (fun z92 hc92 hc92_1 => ⟨rfl, ?_⟩)) ce_yX8_firstBy sm_yX8_firstBy ml_X8_93 dX8_laysWay_92 rfl (Nat.le_of_ble_eq_true rfl) ⟨Nat.le_of_ble_eq_true rfl, Nat.le_of_ble_eq_true rfl⟩ ⟨Nat.le_of_ble_eq_true rfl, Nat.le_of_ble_eq_true rfl⟩
                show X 0 0 WW μ2 95 [some (xR 120), some (xI t), some (xI u), some (xI (l - z83)), some (xI i), some (xI j), some (xI (n + 1)), some (xI s)] [xI z92, xI i]
                refine r_iadd hL dX8_laysWay_95 ?_
                refine r_istore hL (lo' := [some (xR 120), some (xI t), some (xI u), some (xI (l - z83)), some (xI (i + z92)), some (xI j), some (xI (n + 1)), some (xI s)]) dX8_laysWay_96 (by decide) rfl ?_
                refine r_iload hL (x := j) dX8_laysWay_98 rfl ?_
                refine r_iload hL (x := s) dX8_laysWay_100 rfl ?_
                refine r_callS hL (st := [xI j]) (av := [xI s]) (m_X8_otherBy (μ := μ2) s (by omega) (fun z102 hc102 hc102_1 => ⟨rfl, ?_⟩)) ce_yX8_otherBy sm_yX8_otherBy ml_X8_97 dX8_laysWay_102 rfl (Nat.le_of_ble_eq_true rfl) ⟨Nat.le_of_ble_eq_true rfl, Nat.le_of_ble_eq_true rfl⟩ ⟨Nat.le_of_ble_eq_true rfl, Nat.le_of_ble_eq_true rfl⟩
                show X 0 0 WW μ2 105 [some (xR 120), some (xI t), some (xI u), some (xI (l - z83)), some (xI (i + z92)), some (xI j), some (xI (n + 1)), some (xI s)] [xI z102, xI j]
                refine r_iadd hL dX8_laysWay_105 ?_
                refine r_istore hL (lo' := [some (xR 120), some (xI t), some (xI u), some (xI (l - z83)), some (xI (i + z92)), some (xI (j + z102)), some (xI (n + 1)), some (xI s)]) dX8_laysWay_106 (by decide) rfl ?_
                refine r_goto hL (tgt := 16) dX8_laysWay_108 (by decide) ?_
                refine r_drop hL (lo' := [some (xR 120), some (xI t), some (xI u), some (xI (l - z83)), some (xI (i + z92)), some (xI (j + z102)), some (xI (n + 1)), none]) [7] rfl ?_
                exact ih16 (l - z83) (i + z92) (j + z102) (n + 1) μ2 hB2 hF2 (by omega) (by omega) (by omega) (by omega) (by rw [hsm, hc83, hcm, hc92, hc102]; omega) hD2 (by rw [show (n + 1).toNat = n.toNat + 1 by omega]; exact WYp.go (s := s) h8 (by omega) hfs (fun q => by rw [hm2, Int.toNat_of_nonneg (by omega)]; simp [xup]) (by rw [hc92]) (by rw [hc102]) (by omega) (by omega)) (fun k q hk => by rw [hm2, congrFun (xup_c hk) q]; exact h9 k q hk) (by omega)
              · skip
                refine r_iinc hL (x := s) (lo' := [some (xR 120), some (xI t), some (xI u), some (xI l), some (xI i), some (xI j), some (xI n), some (xI (s + 1))]) dX8_laysWay_57 (by decide) rfl rfl ?_
                refine r_goto hL (tgt := 37) dX8_laysWay_60 (by decide) ?_
                exact ih37 (s + 1) (by omega) (fun q h0 h1 => by rcases (show q < s ∨ q = s by omega) with hq | hq; exact h7 q h0 hq; rw [hq]; rcases hc51 with ⟨e, _⟩ | ⟨_, e⟩; omega; exact e) (by omega)
        exact lp37 _ 0 (by omega) (fun q h0 h1 => by omega) (Nat.lt_succ_self _)
      · skip
        refine r_iload hL (x := j) dX8_laysWay_25 rfl ?_
        refine r_aload_n hL (x := 120) dX8_laysWay_27 rfl ?_
        refine r_geti hL xcl8 13 (j' := 13) rfl (by decide) s_120 (by decide) fl_X8_70 (by decide) (by decide) dX8_laysWay_28 (fun hr28 => ?_)
        obtain ⟨z28, hz28⟩ : ∃ z, z = μ116 120 13 := ⟨_, rfl⟩
        rw [← hz28] at hr28 ⊢
        have hb28 : 0 ≤ μ116 120 13 ∧ μ116 120 13 ≤ 10 := (show ((13 : Int) = 2 → 0 ≤ (μ116 120 13) ∧ (μ116 120 13) ≤ 16) ∧ ((13 : Int) = 6 → 0 ≤ (μ116 120 13) ∧ (μ116 120 13) ≤ 10) ∧ ((13 : Int) = 8 → 0 ≤ (μ116 120 13) ∧ (μ116 120 13) ≤ 20) ∧ ((13 : Int) = 9 → 0 ≤ (μ116 120 13) ∧ (μ116 120 13) ≤ 2147483647) ∧ ((13 : Int) = 11 → 0 ≤ (μ116 120 13) ∧ (μ116 120 13) ≤ 10) ∧ ((13 : Int) = 13 → 0 ≤ (μ116 120 13) ∧ (μ116 120 13) ≤ 10) ∧ ((13 : Int) = 20 → 0 ≤ (μ116 120 13) ∧ (μ116 120 13) ≤ 8) from hB116 120 13).2.2.2.2.2.1 (by omega)
        refine r_icmp_ge hL (tgt := 111) dX8_laysWay_31 (by decide) (by omega) (by omega) (fun c31 => ?_) (fun c31 => ?_)
        · skip
          refine r_iload hL (x := n) dX8_laysWay_111 rfl ?_
          exact r_iret hL dX8_laysWay_113 rfl (hK _ _ hB116 hF116 (hQ3.pw hB3c ⟨by omega, by rw [← hfl, ← hfo]; have e1 : i = fl := (by omega); have e2 : j = fo := (by omega); rw [e1, e2] at h8; exact h8⟩) (by omega))
        · skip
          refine r_iconst hL dX8_laysWay_34 ?_
          refine r_istore hL (lo' := [some (xR 120), some (xI t), some (xI u), some (xI l), some (xI i), some (xI j), some (xI n), some (xI 0)]) dX8_laysWay_35 (by decide) rfl ?_
          have lp37 : ∀ (n37 : Nat) (s : Int), (0 ≤ s ∧ s ≤ 3) → (∀ q, 0 ≤ q → q < s → ¬ (mCo μ116 i j q ≤ 9 ∧ mCo μ116 i j q + μ116 129 (11 * (i + xOF q) + (j + xOO q)) = l)) → ((3 - s).toNat) < n37 → X 0 0 WW μ116 37 [some (xR 120), some (xI t), some (xI u), some (xI l), some (xI i), some (xI j), some (xI n), some (xI s)] [] := by
            intro n37
            induction n37 with
            | zero => intro s h6 h7 hn; exact absurd hn (Nat.not_lt_zero _)
            | succ n37 ih37 =>
              intro s h6 h7 hn37
              refine r_iload hL (x := s) dX8_laysWay_37 rfl ?_
              refine r_iconst hL dX8_laysWay_39 ?_
              refine r_icmp_ge hL (tgt := 63) dX8_laysWay_40 (by decide) (by omega) (by omega) (fun c40 => ?_) (fun c40 => ?_)
              · skip
                have hst : mCo μ116 i j s ≤ 9 ∧ mCo μ116 i j s + μ116 129 (11 * (i + xOF s) + (j + xOO s)) = l := by obtain ⟨q, q0, q3, qc, qv⟩ := (hD116.at (a := i) (b := j) (by omega) (by omega) (by omega) (by omega)).2 (by omega); rcases (show q < s ∨ q = s by omega) with hq | hq; exact absurd ⟨qc, by omega⟩ (h7 q q0 hq); rw [← hq]; exact ⟨qc, by omega⟩
                have hin := mCo_in (i := i) (j := j) (by omega) (by omega) (by omega) (by omega) hst.1
                have hfs : fst' (mCo μ3c) (μ3c 129) i j = s := by rw [← hco116, ← h129116]; exact fst_eq (by omega) (by omega) (fun q q0 q1 ha => h7 q q0 q1 ⟨by have ha1 := ha.1; rcases hOKm i j q (by omega) (by omega) (by omega) (by omega) (by omega) (by omega) with e | ⟨_, e, _⟩ <;> omega, ha.2.trans h5.symm⟩) (Or.inr ⟨by have hs1 := hst.1; omega, hst.2.trans h5⟩)
                refine r_aload_n hL (x := 120) dX8_laysWay_63 rfl ?_
                refine r_getr hL xcl8 16 (by decide) s_120 (by decide) fl_X8_41 (by decide) f_120_16 dX8_laysWay_64 ?_
                refine r_iload hL (x := n) dX8_laysWay_67 rfl ?_
                refine r_iload hL (x := s) dX8_laysWay_69 rfl ?_
                refine r_iast hL dX8_laysWay_71 (by decide) s_131 (by decide) (by omega) (by omega) (by omega) (fun μ3 hm3 => ?_)
                have hB3 : BI μ3 := by rw [hm3]; exact hB116.up trivial
                have hF3 : Fr RM μ μ3 := by rw [hm3]; exact hF116.up (by unfold RM; omega)
                have hk3_120_11 : μ3 120 11 = μ116 120 11 := by rw [hm3]; exact congrFun (xup_c (by decide)) _
                have hk3_120_13 : μ3 120 13 = μ116 120 13 := by rw [hm3]; exact congrFun (xup_c (by decide)) _
                have hD3 : MD μ3 := hD116.keep (fun k q hk => by rw [hm3]; exact congrFun (xup_c (show k ≠ 131 by omega)) _)
                have hcm : ∀ a b q, mCo μ3 a b q = mCo μ116 a b q := fun a b q => mCo_fr (fun k q hk => by rw [hm3]; exact congrFun (xup_c (show k ≠ 131 by omega)) _) a b q
                have hsm : ∀ q, μ3 129 q = μ116 129 q := fun q => by rw [hm3]; exact congrFun (xup_c (by decide)) q
                refine r_iinc hL (x := n) (lo' := [some (xR 120), some (xI t), some (xI u), some (xI l), some (xI i), some (xI j), some (xI (n + 1)), some (xI s)]) dX8_laysWay_72 (by decide) rfl rfl ?_
                refine r_iload_n hL (x := l) dX8_laysWay_75 rfl ?_
                refine r_aload_n hL (x := 120) dX8_laysWay_76 rfl ?_
                refine r_iload hL (x := i) dX8_laysWay_77 rfl ?_
                refine r_iload hL (x := j) dX8_laysWay_79 rfl ?_
                refine r_iload hL (x := s) dX8_laysWay_81 rfl ?_
                refine r_callV hL (st := [xI l]) (av := [xI i, xI j, xI s]) (k := 120) (m_X8_stepCost (μ := μ3) hB3 i (by omega) j (by omega) s (by omega) (fun z83 hc83 hc83_1 hc83_2 hc83_3 => ⟨rfl, ?_⟩)) ce_yX8_stepCost im_yX8_stepCost se_yX8_stepCost ml_X8_89 xcl8 (by decide) s_120 dX8_laysWay_83 rfl (Nat.le_of_ble_eq_true rfl) ⟨Nat.le_of_ble_eq_true rfl, Nat.le_of_ble_eq_true rfl⟩ ⟨Nat.le_of_ble_eq_true rfl, Nat.le_of_ble_eq_true rfl⟩
                show X 0 0 WW μ3 86 [some (xR 120), some (xI t), some (xI u), some (xI l), some (xI i), some (xI j), some (xI (n + 1)), some (xI s)] [xI z83, xI l]
                refine r_isub hL dX8_laysWay_86 ?_
                refine r_istore_n hL (lo' := [some (xR 120), some (xI t), some (xI u), some (xI (l - z83)), some (xI i), some (xI j), some (xI (n + 1)), some (xI s)]) dX8_laysWay_87 (by decide) rfl ?_
                refine r_iload hL (x := i) dX8_laysWay_88 rfl ?_
                refine r_iload hL (x := s) dX8_laysWay_90 rfl ?_
                refine r_callS hL (st := [xI i]) (av := [xI s]) (m_X8_firstBy (μ := μ3) s (by omega) (fun z92 hc92 hc92_1 => ⟨rfl, ?_⟩)) ce_yX8_firstBy sm_yX8_firstBy ml_X8_93 dX8_laysWay_92 rfl (Nat.le_of_ble_eq_true rfl) ⟨Nat.le_of_ble_eq_true rfl, Nat.le_of_ble_eq_true rfl⟩ ⟨Nat.le_of_ble_eq_true rfl, Nat.le_of_ble_eq_true rfl⟩
                show X 0 0 WW μ3 95 [some (xR 120), some (xI t), some (xI u), some (xI (l - z83)), some (xI i), some (xI j), some (xI (n + 1)), some (xI s)] [xI z92, xI i]
                refine r_iadd hL dX8_laysWay_95 ?_
                refine r_istore hL (lo' := [some (xR 120), some (xI t), some (xI u), some (xI (l - z83)), some (xI (i + z92)), some (xI j), some (xI (n + 1)), some (xI s)]) dX8_laysWay_96 (by decide) rfl ?_
                refine r_iload hL (x := j) dX8_laysWay_98 rfl ?_
                refine r_iload hL (x := s) dX8_laysWay_100 rfl ?_
                refine r_callS hL (st := [xI j]) (av := [xI s]) (m_X8_otherBy (μ := μ3) s (by omega) (fun z102 hc102 hc102_1 => ⟨rfl, ?_⟩)) ce_yX8_otherBy sm_yX8_otherBy ml_X8_97 dX8_laysWay_102 rfl (Nat.le_of_ble_eq_true rfl) ⟨Nat.le_of_ble_eq_true rfl, Nat.le_of_ble_eq_true rfl⟩ ⟨Nat.le_of_ble_eq_true rfl, Nat.le_of_ble_eq_true rfl⟩
                show X 0 0 WW μ3 105 [some (xR 120), some (xI t), some (xI u), some (xI (l - z83)), some (xI (i + z92)), some (xI j), some (xI (n + 1)), some (xI s)] [xI z102, xI j]
                refine r_iadd hL dX8_laysWay_105 ?_
                refine r_istore hL (lo' := [some (xR 120), some (xI t), some (xI u), some (xI (l - z83)), some (xI (i + z92)), some (xI (j + z102)), some (xI (n + 1)), some (xI s)]) dX8_laysWay_106 (by decide) rfl ?_
                refine r_goto hL (tgt := 16) dX8_laysWay_108 (by decide) ?_
                refine r_drop hL (lo' := [some (xR 120), some (xI t), some (xI u), some (xI (l - z83)), some (xI (i + z92)), some (xI (j + z102)), some (xI (n + 1)), none]) [7] rfl ?_
                exact ih16 (l - z83) (i + z92) (j + z102) (n + 1) μ3 hB3 hF3 (by omega) (by omega) (by omega) (by omega) (by rw [hsm, hc83, hcm, hc92, hc102]; omega) hD3 (by rw [show (n + 1).toNat = n.toNat + 1 by omega]; exact WYp.go (s := s) h8 (by omega) hfs (fun q => by rw [hm3, Int.toNat_of_nonneg (by omega)]; simp [xup]) (by rw [hc92]) (by rw [hc102]) (by omega) (by omega)) (fun k q hk => by rw [hm3, congrFun (xup_c hk) q]; exact h9 k q hk) (by omega)
              · skip
                refine r_aload_n hL (x := 120) dX8_laysWay_43 rfl ?_
                refine r_iload hL (x := i) dX8_laysWay_44 rfl ?_
                refine r_iload hL (x := j) dX8_laysWay_46 rfl ?_
                refine r_iload hL (x := s) dX8_laysWay_48 rfl ?_
                refine r_iload_n hL (x := l) dX8_laysWay_50 rfl ?_
                refine r_callV hL (st := []) (av := [xI i, xI j, xI s, xI l]) (k := 120) (m_X8_isOfLeast (μ := μ116) hB116 i (by omega) j (by omega) s (by omega) l (by omega) hD116 (fun z51 hc51 => ⟨rfl, ?_⟩)) ce_yX8_isOfLeast im_yX8_isOfLeast se_yX8_isOfLeast ml_X8_114 xcl8 (by decide) s_120 dX8_laysWay_51 rfl (Nat.le_of_ble_eq_true rfl) ⟨Nat.le_of_ble_eq_true rfl, Nat.le_of_ble_eq_true rfl⟩ ⟨Nat.le_of_ble_eq_true rfl, Nat.le_of_ble_eq_true rfl⟩
                show X 0 0 WW μ116 54 [some (xR 120), some (xI t), some (xI u), some (xI l), some (xI i), some (xI j), some (xI n), some (xI s)] [xI z51]
                refine r_if_ne hL (tgt := 63) dX8_laysWay_54 (by decide) (by omega) (fun c54 => ?_) (fun c54 => ?_)
                · skip
                  have hst : mCo μ116 i j s ≤ 9 ∧ mCo μ116 i j s + μ116 129 (11 * (i + xOF s) + (j + xOO s)) = l := by rcases hc51 with ⟨_, e1, e2⟩ | ⟨e, _⟩; exact ⟨e1, e2⟩; omega
                  have hin := mCo_in (i := i) (j := j) (by omega) (by omega) (by omega) (by omega) hst.1
                  have hfs : fst' (mCo μ3c) (μ3c 129) i j = s := by rw [← hco116, ← h129116]; exact fst_eq (by omega) (by omega) (fun q q0 q1 ha => h7 q q0 q1 ⟨by have ha1 := ha.1; rcases hOKm i j q (by omega) (by omega) (by omega) (by omega) (by omega) (by omega) with e | ⟨_, e, _⟩ <;> omega, ha.2.trans h5.symm⟩) (Or.inr ⟨by have hs1 := hst.1; omega, hst.2.trans h5⟩)
                  refine r_aload_n hL (x := 120) dX8_laysWay_63 rfl ?_
                  refine r_getr hL xcl8 16 (by decide) s_120 (by decide) fl_X8_41 (by decide) f_120_16 dX8_laysWay_64 ?_
                  refine r_iload hL (x := n) dX8_laysWay_67 rfl ?_
                  refine r_iload hL (x := s) dX8_laysWay_69 rfl ?_
                  refine r_iast hL dX8_laysWay_71 (by decide) s_131 (by decide) (by omega) (by omega) (by omega) (fun μ4 hm4 => ?_)
                  have hB4 : BI μ4 := by rw [hm4]; exact hB116.up trivial
                  have hF4 : Fr RM μ μ4 := by rw [hm4]; exact hF116.up (by unfold RM; omega)
                  have hk4_120_11 : μ4 120 11 = μ116 120 11 := by rw [hm4]; exact congrFun (xup_c (by decide)) _
                  have hk4_120_13 : μ4 120 13 = μ116 120 13 := by rw [hm4]; exact congrFun (xup_c (by decide)) _
                  have hD4 : MD μ4 := hD116.keep (fun k q hk => by rw [hm4]; exact congrFun (xup_c (show k ≠ 131 by omega)) _)
                  have hcm : ∀ a b q, mCo μ4 a b q = mCo μ116 a b q := fun a b q => mCo_fr (fun k q hk => by rw [hm4]; exact congrFun (xup_c (show k ≠ 131 by omega)) _) a b q
                  have hsm : ∀ q, μ4 129 q = μ116 129 q := fun q => by rw [hm4]; exact congrFun (xup_c (by decide)) q
                  refine r_iinc hL (x := n) (lo' := [some (xR 120), some (xI t), some (xI u), some (xI l), some (xI i), some (xI j), some (xI (n + 1)), some (xI s)]) dX8_laysWay_72 (by decide) rfl rfl ?_
                  refine r_iload_n hL (x := l) dX8_laysWay_75 rfl ?_
                  refine r_aload_n hL (x := 120) dX8_laysWay_76 rfl ?_
                  refine r_iload hL (x := i) dX8_laysWay_77 rfl ?_
                  refine r_iload hL (x := j) dX8_laysWay_79 rfl ?_
                  refine r_iload hL (x := s) dX8_laysWay_81 rfl ?_
                  refine r_callV hL (st := [xI l]) (av := [xI i, xI j, xI s]) (k := 120) (m_X8_stepCost (μ := μ4) hB4 i (by omega) j (by omega) s (by omega) (fun z83 hc83 hc83_1 hc83_2 hc83_3 => ⟨rfl, ?_⟩)) ce_yX8_stepCost im_yX8_stepCost se_yX8_stepCost ml_X8_89 xcl8 (by decide) s_120 dX8_laysWay_83 rfl (Nat.le_of_ble_eq_true rfl) ⟨Nat.le_of_ble_eq_true rfl, Nat.le_of_ble_eq_true rfl⟩ ⟨Nat.le_of_ble_eq_true rfl, Nat.le_of_ble_eq_true rfl⟩
                  show X 0 0 WW μ4 86 [some (xR 120), some (xI t), some (xI u), some (xI l), some (xI i), some (xI j), some (xI (n + 1)), some (xI s)] [xI z83, xI l]
                  refine r_isub hL dX8_laysWay_86 ?_
                  refine r_istore_n hL (lo' := [some (xR 120), some (xI t), some (xI u), some (xI (l - z83)), some (xI i), some (xI j), some (xI (n + 1)), some (xI s)]) dX8_laysWay_87 (by decide) rfl ?_
                  refine r_iload hL (x := i) dX8_laysWay_88 rfl ?_
                  refine r_iload hL (x := s) dX8_laysWay_90 rfl ?_
                  refine r_callS hL (st := [xI i]) (av := [xI s]) (m_X8_firstBy (μ := μ4) s (by omega) (fun z92 hc92 hc92_1 => ⟨rfl, ?_⟩)) ce_yX8_firstBy sm_yX8_firstBy ml_X8_93 dX8_laysWay_92 rfl (Nat.le_of_ble_eq_true rfl) ⟨Nat.le_of_ble_eq_true rfl, Nat.le_of_ble_eq_true rfl⟩ ⟨Nat.le_of_ble_eq_true rfl, Nat.le_of_ble_eq_true rfl⟩
                  show X 0 0 WW μ4 95 [some (xR 120), some (xI t), some (xI u), some (xI (l - z83)), some (xI i), some (xI j), some (xI (n + 1)), some (xI s)] [xI z92, xI i]
                  refine r_iadd hL dX8_laysWay_95 ?_
                  refine r_istore hL (lo' := [some (xR 120), some (xI t), some (xI u), some (xI (l - z83)), some (xI (i + z92)), some (xI j), some (xI (n + 1)), some (xI s)]) dX8_laysWay_96 (by decide) rfl ?_
                  refine r_iload hL (x := j) dX8_laysWay_98 rfl ?_
                  refine r_iload hL (x := s) dX8_laysWay_100 rfl ?_
                  refine r_callS hL (st := [xI j]) (av := [xI s]) (m_X8_otherBy (μ := μ4) s (by omega) (fun z102 hc102 hc102_1 => ⟨rfl, ?_⟩)) ce_yX8_otherBy sm_yX8_otherBy ml_X8_97 dX8_laysWay_102 rfl (Nat.le_of_ble_eq_true rfl) ⟨Nat.le_of_ble_eq_true rfl, Nat.le_of_ble_eq_true rfl⟩ ⟨Nat.le_of_ble_eq_true rfl, Nat.le_of_ble_eq_true rfl⟩
                  show X 0 0 WW μ4 105 [some (xR 120), some (xI t), some (xI u), some (xI (l - z83)), some (xI (i + z92)), some (xI j), some (xI (n + 1)), some (xI s)] [xI z102, xI j]
                  refine r_iadd hL dX8_laysWay_105 ?_
                  refine r_istore hL (lo' := [some (xR 120), some (xI t), some (xI u), some (xI (l - z83)), some (xI (i + z92)), some (xI (j + z102)), some (xI (n + 1)), some (xI s)]) dX8_laysWay_106 (by decide) rfl ?_
                  refine r_goto hL (tgt := 16) dX8_laysWay_108 (by decide) ?_
                  refine r_drop hL (lo' := [some (xR 120), some (xI t), some (xI u), some (xI (l - z83)), some (xI (i + z92)), some (xI (j + z102)), some (xI (n + 1)), none]) [7] rfl ?_
                  exact ih16 (l - z83) (i + z92) (j + z102) (n + 1) μ4 hB4 hF4 (by omega) (by omega) (by omega) (by omega) (by rw [hsm, hc83, hcm, hc92, hc102]; omega) hD4 (by rw [show (n + 1).toNat = n.toNat + 1 by omega]; exact WYp.go (s := s) h8 (by omega) hfs (fun q => by rw [hm4, Int.toNat_of_nonneg (by omega)]; simp [xup]) (by rw [hc92]) (by rw [hc102]) (by omega) (by omega)) (fun k q hk => by rw [hm4, congrFun (xup_c hk) q]; exact h9 k q hk) (by omega)
                · skip
                  refine r_iinc hL (x := s) (lo' := [some (xR 120), some (xI t), some (xI u), some (xI l), some (xI i), some (xI j), some (xI n), some (xI (s + 1))]) dX8_laysWay_57 (by decide) rfl rfl ?_
                  refine r_goto hL (tgt := 37) dX8_laysWay_60 (by decide) ?_
                  exact ih37 (s + 1) (by omega) (fun q h0 h1 => by rcases (show q < s ∨ q = s by omega) with hq | hq; exact h7 q h0 hq; rw [hq]; rcases hc51 with ⟨e, _⟩ | ⟨_, e⟩; omega; exact e) (by omega)
          exact lp37 _ 0 (by omega) (fun q h0 h1 => by omega) (Nat.lt_succ_self _)
  exact lp16 _ z3 0 0 0 μ3c hB3c hF3c (by omega) (by omega) (by omega) (by omega) heq3 hD3c (WYp.zero (by omega) (by omega)) (fun k q _ => rfl) (Nat.lt_succ_self _)

set_option maxHeartbeats 4000000 in
set_option maxRecDepth 20000 in
theorem m_X8_commonOrder {K : Option xV → xW → xM → Prop} {μ : xM} (hB0 : BI μ) (t : Int) (ht : 0 ≤ t ∧ t ≤ 7) (u : Int) (hu : 0 ≤ u ∧ u ≤ 7) (hK : ∀ r μ', BI μ' → Fr RM μ μ' → CPr (μ 121 (6 + t)) (μ 121 (6 + u)) (fun q => μ 121 (30 + 10 * t + q)) (fun q => μ 121 (30 + 10 * u + q)) r → xrg r → K (some (xI r)) WW μ') : xMet yX8_commonOrder cX8_commonOrder 8 (some .int) 2 47 0 0 [xR 120, xI t, xI u] WW μ K := by
  refine xMet.go RX8 "commonOrder" rfl rfl (by decide) [some (xR 120), some (xI t), some (xI u), none, none, none, none, none] (Nat.le_of_ble_eq_true rfl) rfl (fun X hL => ?_)
  have hB := hB0
  have hF : Fr RM μ μ := Fr.rf
  refine r_aload_n hL (x := 120) dX8_commonOrder_0 rfl ?_
  refine r_iload_n hL (x := t) dX8_commonOrder_1 rfl ?_
  refine r_iload_n hL (x := u) dX8_commonOrder_2 rfl ?_
  refine r_callV hL (st := []) (av := [xI t, xI u]) (k := 120) (m_X8_takes (μ := μ) hB t (by omega) u (by omega) (fun μ3c hB3c hG3 hMT3 => ⟨rfl, ?_⟩)) ce_yX8_takes im_yX8_takes se_yX8_takes ml_X8_103 xcl8 (by decide) s_120 dX8_commonOrder_3 rfl (Nat.le_of_ble_eq_true rfl) ⟨Nat.le_of_ble_eq_true rfl, Nat.le_of_ble_eq_true rfl⟩ ⟨Nat.le_of_ble_eq_true rfl, Nat.le_of_ble_eq_true rfl⟩
  show X 0 0 WW μ3c 6 [some (xR 120), some (xI t), some (xI u), none, none, none, none, none] []
  have hF3c : Fr RM μ μ3c := hF.trans hG3
  have hm11 : 0 ≤ μ3c 120 11 ∧ μ3c 120 11 ≤ 10 := (show ((11 : Int) = 2 → 0 ≤ (μ3c 120 11) ∧ (μ3c 120 11) ≤ 16) ∧ ((11 : Int) = 6 → 0 ≤ (μ3c 120 11) ∧ (μ3c 120 11) ≤ 10) ∧ ((11 : Int) = 8 → 0 ≤ (μ3c 120 11) ∧ (μ3c 120 11) ≤ 20) ∧ ((11 : Int) = 9 → 0 ≤ (μ3c 120 11) ∧ (μ3c 120 11) ≤ 2147483647) ∧ ((11 : Int) = 11 → 0 ≤ (μ3c 120 11) ∧ (μ3c 120 11) ≤ 10) ∧ ((11 : Int) = 13 → 0 ≤ (μ3c 120 11) ∧ (μ3c 120 11) ≤ 10) ∧ ((11 : Int) = 20 → 0 ≤ (μ3c 120 11) ∧ (μ3c 120 11) ≤ 8) from hB3c 120 11).2.2.2.2.1 (by omega)
  have hm13 : 0 ≤ μ3c 120 13 ∧ μ3c 120 13 ≤ 10 := (show ((13 : Int) = 2 → 0 ≤ (μ3c 120 13) ∧ (μ3c 120 13) ≤ 16) ∧ ((13 : Int) = 6 → 0 ≤ (μ3c 120 13) ∧ (μ3c 120 13) ≤ 10) ∧ ((13 : Int) = 8 → 0 ≤ (μ3c 120 13) ∧ (μ3c 120 13) ≤ 20) ∧ ((13 : Int) = 9 → 0 ≤ (μ3c 120 13) ∧ (μ3c 120 13) ≤ 2147483647) ∧ ((13 : Int) = 11 → 0 ≤ (μ3c 120 13) ∧ (μ3c 120 13) ≤ 10) ∧ ((13 : Int) = 13 → 0 ≤ (μ3c 120 13) ∧ (μ3c 120 13) ≤ 10) ∧ ((13 : Int) = 20 → 0 ≤ (μ3c 120 13) ∧ (μ3c 120 13) ≤ 8) from hB3c 120 13).2.2.2.2.2.1 (by omega)
  refine r_iconst hL dX8_commonOrder_6 ?_
  refine r_istore_n hL (lo' := [some (xR 120), some (xI t), some (xI u), some (xI 0), none, none, none, none]) dX8_commonOrder_7 (by decide) rfl ?_
  have lp8 : ∀ (n8 : Nat) (i : Int) (μ108 : xM), (BI μ108) → (Fr RM μ μ108) → (0 ≤ i ∧ i ≤ μ3c 120 11 + 1) → (CPp (μ3c 120 11) (μ3c 120 13) (μ3c 127) (μ3c 128) (μ108 132) i 0) → (∀ k q, k ≠ 132 → μ108 k q = μ3c k q) → ((11 - i).toNat) < n8 → X 0 0 WW μ108 8 [some (xR 120), some (xI t), some (xI u), some (xI i), none, none, none, none] [] := by
    intro n8
    induction n8 with
    | zero => intro i μ108 hB108 hF108 h1 h3 h9 hn; exact absurd hn (Nat.not_lt_zero _)
    | succ n8 ih8 =>
      intro i μ108 hB108 hF108 h1 h3 h9 hn8
      have g11108 := h9 120 11 (by decide)
      have g13108 := h9 120 13 (by decide)
      have g127108 : ∀ q, μ108 127 q = μ3c 127 q := fun q => h9 127 q (by decide)
      have g128108 : ∀ q, μ108 128 q = μ3c 128 q := fun q => h9 128 q (by decide)
      refine r_iload_n hL (x := i) dX8_commonOrder_8 rfl ?_
      refine r_aload_n hL (x := 120) dX8_commonOrder_9 rfl ?_
      refine r_geti hL xcl8 11 (j' := 11) rfl (by decide) s_120 (by decide) fl_X8_66 (by decide) (by decide) dX8_commonOrder_10 (fun hr10 => ?_)
      obtain ⟨z10, hz10⟩ : ∃ z, z = μ108 120 11 := ⟨_, rfl⟩
      rw [← hz10] at hr10 ⊢
      have hb10 : 0 ≤ μ108 120 11 ∧ μ108 120 11 ≤ 10 := (show ((11 : Int) = 2 → 0 ≤ (μ108 120 11) ∧ (μ108 120 11) ≤ 16) ∧ ((11 : Int) = 6 → 0 ≤ (μ108 120 11) ∧ (μ108 120 11) ≤ 10) ∧ ((11 : Int) = 8 → 0 ≤ (μ108 120 11) ∧ (μ108 120 11) ≤ 20) ∧ ((11 : Int) = 9 → 0 ≤ (μ108 120 11) ∧ (μ108 120 11) ≤ 2147483647) ∧ ((11 : Int) = 11 → 0 ≤ (μ108 120 11) ∧ (μ108 120 11) ≤ 10) ∧ ((11 : Int) = 13 → 0 ≤ (μ108 120 11) ∧ (μ108 120 11) ≤ 10) ∧ ((11 : Int) = 20 → 0 ≤ (μ108 120 11) ∧ (μ108 120 11) ≤ 8) from hB108 120 11).2.2.2.2.1 (by omega)
      refine r_icmp_gt hL (tgt := 155) dX8_commonOrder_13 (by decide) (by omega) (by omega) (fun c13 => ?_) (fun c13 => ?_)
      · skip
        refine r_aload_n hL (x := 120) dX8_commonOrder_155 rfl ?_
        refine r_getr hL xcl8 17 (by decide) s_120 (by decide) fl_X8_44 (by decide) f_120_17 dX8_commonOrder_156 ?_
        refine r_aload_n hL (x := 120) dX8_commonOrder_159 rfl ?_
        refine r_geti hL xcl8 11 (j' := 11) rfl (by decide) s_120 (by decide) fl_X8_66 (by decide) (by decide) dX8_commonOrder_160 (fun hr160 => ?_)
        obtain ⟨z160, hz160⟩ : ∃ z, z = μ108 120 11 := ⟨_, rfl⟩
        rw [← hz160] at hr160 ⊢
        have hb160 : 0 ≤ μ108 120 11 ∧ μ108 120 11 ≤ 10 := (show ((11 : Int) = 2 → 0 ≤ (μ108 120 11) ∧ (μ108 120 11) ≤ 16) ∧ ((11 : Int) = 6 → 0 ≤ (μ108 120 11) ∧ (μ108 120 11) ≤ 10) ∧ ((11 : Int) = 8 → 0 ≤ (μ108 120 11) ∧ (μ108 120 11) ≤ 20) ∧ ((11 : Int) = 9 → 0 ≤ (μ108 120 11) ∧ (μ108 120 11) ≤ 2147483647) ∧ ((11 : Int) = 11 → 0 ≤ (μ108 120 11) ∧ (μ108 120 11) ≤ 10) ∧ ((11 : Int) = 13 → 0 ≤ (μ108 120 11) ∧ (μ108 120 11) ≤ 10) ∧ ((11 : Int) = 20 → 0 ≤ (μ108 120 11) ∧ (μ108 120 11) ≤ 8) from hB108 120 11).2.2.2.2.1 (by omega)
        refine r_aload_n hL (x := 120) dX8_commonOrder_163 rfl ?_
        refine r_geti hL xcl8 13 (j' := 13) rfl (by decide) s_120 (by decide) fl_X8_70 (by decide) (by decide) dX8_commonOrder_164 (fun hr164 => ?_)
        obtain ⟨z164, hz164⟩ : ∃ z, z = μ108 120 13 := ⟨_, rfl⟩
        rw [← hz164] at hr164 ⊢
        have hb164 : 0 ≤ μ108 120 13 ∧ μ108 120 13 ≤ 10 := (show ((13 : Int) = 2 → 0 ≤ (μ108 120 13) ∧ (μ108 120 13) ≤ 16) ∧ ((13 : Int) = 6 → 0 ≤ (μ108 120 13) ∧ (μ108 120 13) ≤ 10) ∧ ((13 : Int) = 8 → 0 ≤ (μ108 120 13) ∧ (μ108 120 13) ≤ 20) ∧ ((13 : Int) = 9 → 0 ≤ (μ108 120 13) ∧ (μ108 120 13) ≤ 2147483647) ∧ ((13 : Int) = 11 → 0 ≤ (μ108 120 13) ∧ (μ108 120 13) ≤ 10) ∧ ((13 : Int) = 13 → 0 ≤ (μ108 120 13) ∧ (μ108 120 13) ≤ 10) ∧ ((13 : Int) = 20 → 0 ≤ (μ108 120 13) ∧ (μ108 120 13) ≤ 8) from hB108 120 13).2.2.2.2.2.1 (by omega)
        refine r_callS hL (st := [xR 132]) (av := [xI z160, xI z164]) (m_X8_cellOf (μ := μ108) z160 z164 (fun z167 hc167 => ⟨rfl, ?_⟩)) ce_yX8_cellOf sm_yX8_cellOf ml_X8_100 dX8_commonOrder_167 rfl (Nat.le_of_ble_eq_true rfl) ⟨Nat.le_of_ble_eq_true rfl, Nat.le_of_ble_eq_true rfl⟩ ⟨Nat.le_of_ble_eq_true rfl, Nat.le_of_ble_eq_true rfl⟩
        show X 0 0 WW μ108 170 [some (xR 120), some (xI t), some (xI u), some (xI i), none, none, none, none] [xI z167, xR 132]
        refine r_iald hL dX8_commonOrder_170 (by decide) s_132 (by decide) (by omega) (by omega) (fun hr170 => ?_)
        obtain ⟨z170, hz170⟩ : ∃ z, z = μ108 132 z167 := ⟨_, rfl⟩
        rw [← hz170] at hr170 ⊢
        exact r_iret hL dX8_commonOrder_171 rfl (hK _ _ hB108 hF108 (hMT3.pc ⟨_, by exact h3.fin (by omega), by rw [hz170, hc167, hz160, hz164, g11108, g13108]⟩) (by omega))
      · skip
        refine r_iconst hL dX8_commonOrder_16 ?_
        refine r_istore hL (lo' := [some (xR 120), some (xI t), some (xI u), some (xI i), some (xI 0), none, none, none]) dX8_commonOrder_17 (by decide) rfl ?_
        have lp19 : ∀ (n19 : Nat) (j : Int) (μ119 : xM), (BI μ119) → (Fr RM μ μ119) → (0 ≤ j ∧ j ≤ μ3c 120 13 + 1) → (CPp (μ3c 120 11) (μ3c 120 13) (μ3c 127) (μ3c 128) (μ119 132) i j) → (∀ k q, k ≠ 132 → μ119 k q = μ3c k q) → ((11 - j).toNat) < n19 → X 0 0 WW μ119 19 [some (xR 120), some (xI t), some (xI u), some (xI i), some (xI j), none, none, none] [] := by
          intro n19
          induction n19 with
          | zero => intro j μ119 hB119 hF119 h2 h4 h10 hn; exact absurd hn (Nat.not_lt_zero _)
          | succ n19 ih19 =>
            intro j μ119 hB119 hF119 h2 h4 h10 hn19
            have g11119 := h10 120 11 (by decide)
            have g13119 := h10 120 13 (by decide)
            have g127119 : ∀ q, μ119 127 q = μ3c 127 q := fun q => h10 127 q (by decide)
            have g128119 : ∀ q, μ119 128 q = μ3c 128 q := fun q => h10 128 q (by decide)
            refine r_iload hL (x := j) dX8_commonOrder_19 rfl ?_
            refine r_aload_n hL (x := 120) dX8_commonOrder_21 rfl ?_
            refine r_geti hL xcl8 13 (j' := 13) rfl (by decide) s_120 (by decide) fl_X8_70 (by decide) (by decide) dX8_commonOrder_22 (fun hr22 => ?_)
            obtain ⟨z22, hz22⟩ : ∃ z, z = μ119 120 13 := ⟨_, rfl⟩
            rw [← hz22] at hr22 ⊢
            have hb22 : 0 ≤ μ119 120 13 ∧ μ119 120 13 ≤ 10 := (show ((13 : Int) = 2 → 0 ≤ (μ119 120 13) ∧ (μ119 120 13) ≤ 16) ∧ ((13 : Int) = 6 → 0 ≤ (μ119 120 13) ∧ (μ119 120 13) ≤ 10) ∧ ((13 : Int) = 8 → 0 ≤ (μ119 120 13) ∧ (μ119 120 13) ≤ 20) ∧ ((13 : Int) = 9 → 0 ≤ (μ119 120 13) ∧ (μ119 120 13) ≤ 2147483647) ∧ ((13 : Int) = 11 → 0 ≤ (μ119 120 13) ∧ (μ119 120 13) ≤ 10) ∧ ((13 : Int) = 13 → 0 ≤ (μ119 120 13) ∧ (μ119 120 13) ≤ 10) ∧ ((13 : Int) = 20 → 0 ≤ (μ119 120 13) ∧ (μ119 120 13) ≤ 8) from hB119 120 13).2.2.2.2.2.1 (by omega)
            refine r_icmp_gt hL (tgt := 149) dX8_commonOrder_25 (by decide) (by omega) (by omega) (fun c25 => ?_) (fun c25 => ?_)
            · skip
              refine r_iinc hL (x := i) (lo' := [some (xR 120), some (xI t), some (xI u), some (xI (i + 1)), some (xI j), none, none, none]) dX8_commonOrder_149 (by decide) rfl rfl ?_
              refine r_goto hL (tgt := 8) dX8_commonOrder_152 (by decide) ?_
              refine r_drop hL (lo' := [some (xR 120), some (xI t), some (xI u), some (xI (i + 1)), none, none, none, none]) [4] rfl ?_
              exact ih8 (i + 1) μ119 hB119 hF119 (by omega) (h4.up (by omega)) h10 (by omega)
            · skip
              refine r_iconst hL dX8_commonOrder_28 ?_
              refine r_istore hL (lo' := [some (xR 120), some (xI t), some (xI u), some (xI i), some (xI j), some (xI 0), none, none]) dX8_commonOrder_29 (by decide) rfl ?_
              refine r_iload_n hL (x := i) dX8_commonOrder_31 rfl ?_
              refine r_if_le hL (tgt := 130) dX8_commonOrder_32 (by decide) (by omega) (fun c32 => ?_) (fun c32 => ?_)
              · skip
                refine r_aload_n hL (x := 120) dX8_commonOrder_130 rfl ?_
                refine r_getr hL xcl8 17 (by decide) s_120 (by decide) fl_X8_44 (by decide) f_120_17 dX8_commonOrder_131 ?_
                refine r_iload_n hL (x := i) dX8_commonOrder_134 rfl ?_
                refine r_iload hL (x := j) dX8_commonOrder_135 rfl ?_
                refine r_callS hL (st := [xR 132]) (av := [xI i, xI j]) (m_X8_cellOf (μ := μ119) i j (fun z137 hc137 => ⟨rfl, ?_⟩)) ce_yX8_cellOf sm_yX8_cellOf ml_X8_100 dX8_commonOrder_137 rfl (Nat.le_of_ble_eq_true rfl) ⟨Nat.le_of_ble_eq_true rfl, Nat.le_of_ble_eq_true rfl⟩ ⟨Nat.le_of_ble_eq_true rfl, Nat.le_of_ble_eq_true rfl⟩
                show X 0 0 WW μ119 140 [some (xR 120), some (xI t), some (xI u), some (xI i), some (xI j), some (xI 0), none, none] [xI z137, xR 132]
                refine r_iload hL (x := 0) dX8_commonOrder_140 rfl ?_
                refine r_iast hL dX8_commonOrder_142 (by decide) s_132 (by decide) (by omega) (by omega) (by omega) (fun μ1 hm1 => ?_)
                have hB1 : BI μ1 := by rw [hm1]; exact hB119.up trivial
                have hF1 : Fr RM μ μ1 := by rw [hm1]; exact hF119.up (by unfold RM; omega)
                have hS1 : ∀ q, μ1 132 q = if q = 11 * i + j then 0 else μ119 132 q := fun q => by rw [hm1, hc137]; simp [xup]
                refine r_iinc hL (x := j) (lo' := [some (xR 120), some (xI t), some (xI u), some (xI i), some (xI (j + 1)), some (xI 0), none, none]) dX8_commonOrder_143 (by decide) rfl rfl ?_
                refine r_goto hL (tgt := 19) dX8_commonOrder_146 (by decide) ?_
                refine r_drop hL (lo' := [some (xR 120), some (xI t), some (xI u), some (xI i), some (xI (j + 1)), none, none, none]) [5] rfl ?_
                exact ih19 (j + 1) μ1 hB1 hF1 (by omega) (CPp.step h4 (by omega) (by omega) (by omega) (by unfold cpv; first | (have h_ := ht120; rw [if_neg (by omega), if_pos (by rw [← g127119, ← g128119, ← hz93, ← hz102]; omega), ← ht120]) | (have h_ := ht67; rw [if_neg (by omega), if_neg (by rw [← g127119, ← g128119, ← hz93, ← hz102]; omega), ← ht52, ← ht67]; omega) | rw [if_pos (by omega)]) (by omega) hS1) (fun k q hk => by rw [hm1, congrFun (xup_c hk) q]; exact h10 k q hk) (by omega)
              · skip
                refine r_iload hL (x := j) dX8_commonOrder_35 rfl ?_
                refine r_if_le hL (tgt := 130) dX8_commonOrder_37 (by decide) (by omega) (fun c37 => ?_) (fun c37 => ?_)
                · skip
                  refine r_aload_n hL (x := 120) dX8_commonOrder_130 rfl ?_
                  refine r_getr hL xcl8 17 (by decide) s_120 (by decide) fl_X8_44 (by decide) f_120_17 dX8_commonOrder_131 ?_
                  refine r_iload_n hL (x := i) dX8_commonOrder_134 rfl ?_
                  refine r_iload hL (x := j) dX8_commonOrder_135 rfl ?_
                  refine r_callS hL (st := [xR 132]) (av := [xI i, xI j]) (m_X8_cellOf (μ := μ119) i j (fun z137 hc137 => ⟨rfl, ?_⟩)) ce_yX8_cellOf sm_yX8_cellOf ml_X8_100 dX8_commonOrder_137 rfl (Nat.le_of_ble_eq_true rfl) ⟨Nat.le_of_ble_eq_true rfl, Nat.le_of_ble_eq_true rfl⟩ ⟨Nat.le_of_ble_eq_true rfl, Nat.le_of_ble_eq_true rfl⟩
                  show X 0 0 WW μ119 140 [some (xR 120), some (xI t), some (xI u), some (xI i), some (xI j), some (xI 0), none, none] [xI z137, xR 132]
                  refine r_iload hL (x := 0) dX8_commonOrder_140 rfl ?_
                  refine r_iast hL dX8_commonOrder_142 (by decide) s_132 (by decide) (by omega) (by omega) (by omega) (fun μ2 hm2 => ?_)
                  have hB2 : BI μ2 := by rw [hm2]; exact hB119.up trivial
                  have hF2 : Fr RM μ μ2 := by rw [hm2]; exact hF119.up (by unfold RM; omega)
                  have hS1 : ∀ q, μ2 132 q = if q = 11 * i + j then 0 else μ119 132 q := fun q => by rw [hm2, hc137]; simp [xup]
                  refine r_iinc hL (x := j) (lo' := [some (xR 120), some (xI t), some (xI u), some (xI i), some (xI (j + 1)), some (xI 0), none, none]) dX8_commonOrder_143 (by decide) rfl rfl ?_
                  refine r_goto hL (tgt := 19) dX8_commonOrder_146 (by decide) ?_
                  refine r_drop hL (lo' := [some (xR 120), some (xI t), some (xI u), some (xI i), some (xI (j + 1)), none, none, none]) [5] rfl ?_
                  exact ih19 (j + 1) μ2 hB2 hF2 (by omega) (CPp.step h4 (by omega) (by omega) (by omega) (by unfold cpv; first | (have h_ := ht120; rw [if_neg (by omega), if_pos (by rw [← g127119, ← g128119, ← hz93, ← hz102]; omega), ← ht120]) | (have h_ := ht67; rw [if_neg (by omega), if_neg (by rw [← g127119, ← g128119, ← hz93, ← hz102]; omega), ← ht52, ← ht67]; omega) | rw [if_pos (by omega)]) (by omega) hS1) (fun k q hk => by rw [hm2, congrFun (xup_c hk) q]; exact h10 k q hk) (by omega)
                · skip
                  refine r_aload_n hL (x := 120) dX8_commonOrder_40 rfl ?_
                  refine r_getr hL xcl8 17 (by decide) s_120 (by decide) fl_X8_44 (by decide) f_120_17 dX8_commonOrder_41 ?_
                  refine r_iload_n hL (x := i) dX8_commonOrder_44 rfl ?_
                  refine r_iconst hL dX8_commonOrder_45 ?_
                  refine r_isub hL dX8_commonOrder_46 ?_
                  refine r_iload hL (x := j) dX8_commonOrder_47 rfl ?_
                  refine r_callS hL (st := [xR 132]) (av := [xI (i - 1), xI j]) (m_X8_cellOf (μ := μ119) (i - 1) j (fun z49 hc49 => ⟨rfl, ?_⟩)) ce_yX8_cellOf sm_yX8_cellOf ml_X8_100 dX8_commonOrder_49 rfl (Nat.le_of_ble_eq_true rfl) ⟨Nat.le_of_ble_eq_true rfl, Nat.le_of_ble_eq_true rfl⟩ ⟨Nat.le_of_ble_eq_true rfl, Nat.le_of_ble_eq_true rfl⟩
                  show X 0 0 WW μ119 52 [some (xR 120), some (xI t), some (xI u), some (xI i), some (xI j), some (xI 0), none, none] [xI z49, xR 132]
                  refine r_iald hL dX8_commonOrder_52 (by decide) s_132 (by decide) (by omega) (by omega) (fun hr52 => ?_)
                  obtain ⟨z52, hz52⟩ : ∃ z, z = μ119 132 z49 := ⟨_, rfl⟩
                  rw [← hz52] at hr52 ⊢
                  have hs52 := (h4 (i - 1) j (by omega) (by omega) (by omega) (by omega) (by omega)).1
                  have ht52 : z52 = μ119 132 (11 * (i - 1) + j) := by rw [hz52, hc49]
                  refine r_istore hL (lo' := [some (xR 120), some (xI t), some (xI u), some (xI i), some (xI j), some (xI 0), some (xI z52), none]) dX8_commonOrder_53 (by decide) rfl ?_
                  refine r_aload_n hL (x := 120) dX8_commonOrder_55 rfl ?_
                  refine r_getr hL xcl8 17 (by decide) s_120 (by decide) fl_X8_44 (by decide) f_120_17 dX8_commonOrder_56 ?_
                  refine r_iload_n hL (x := i) dX8_commonOrder_59 rfl ?_
                  refine r_iload hL (x := j) dX8_commonOrder_60 rfl ?_
                  refine r_iconst hL dX8_commonOrder_62 ?_
                  refine r_isub hL dX8_commonOrder_63 ?_
                  refine r_callS hL (st := [xR 132]) (av := [xI i, xI (j - 1)]) (m_X8_cellOf (μ := μ119) i (j - 1) (fun z64 hc64 => ⟨rfl, ?_⟩)) ce_yX8_cellOf sm_yX8_cellOf ml_X8_100 dX8_commonOrder_64 rfl (Nat.le_of_ble_eq_true rfl) ⟨Nat.le_of_ble_eq_true rfl, Nat.le_of_ble_eq_true rfl⟩ ⟨Nat.le_of_ble_eq_true rfl, Nat.le_of_ble_eq_true rfl⟩
                  show X 0 0 WW μ119 67 [some (xR 120), some (xI t), some (xI u), some (xI i), some (xI j), some (xI 0), some (xI z52), none] [xI z64, xR 132]
                  refine r_iald hL dX8_commonOrder_67 (by decide) s_132 (by decide) (by omega) (by omega) (fun hr67 => ?_)
                  obtain ⟨z67, hz67⟩ : ∃ z, z = μ119 132 z64 := ⟨_, rfl⟩
                  rw [← hz67] at hr67 ⊢
                  have hs67 := (h4 i (j - 1) (by omega) (by omega) (by omega) (by omega) (by omega)).1
                  have ht67 : z67 = μ119 132 (11 * i + (j - 1)) := by rw [hz67, hc64]
                  refine r_istore hL (lo' := [some (xR 120), some (xI t), some (xI u), some (xI i), some (xI j), some (xI 0), some (xI z52), some (xI z67)]) dX8_commonOrder_68 (by decide) rfl ?_
                  refine r_iload hL (x := z52) dX8_commonOrder_70 rfl ?_
                  refine r_iload hL (x := z67) dX8_commonOrder_72 rfl ?_
                  refine r_icmp_le hL (tgt := 82) dX8_commonOrder_74 (by decide) (by omega) (by omega) (fun c74 => ?_) (fun c74 => ?_)
                  · skip
                    refine r_iload hL (x := z67) dX8_commonOrder_82 rfl ?_
                    refine r_istore hL (lo' := [some (xR 120), some (xI t), some (xI u), some (xI i), some (xI j), some (xI z67), some (xI z52), some (xI z67)]) dX8_commonOrder_84 (by decide) rfl ?_
                    refine r_aload_n hL (x := 120) dX8_commonOrder_86 rfl ?_
                    refine r_getr hL xcl8 10 (by decide) s_120 (by decide) fl_X8_29 (by decide) f_120_10 dX8_commonOrder_87 ?_
                    refine r_iload_n hL (x := i) dX8_commonOrder_90 rfl ?_
                    refine r_iconst hL dX8_commonOrder_91 ?_
                    refine r_isub hL dX8_commonOrder_92 ?_
                    refine r_iald hL dX8_commonOrder_93 (by decide) s_127 (by decide) (by omega) (by omega) (fun hr93 => ?_)
                    obtain ⟨z93, hz93⟩ : ∃ z, z = μ119 127 (i - 1) := ⟨_, rfl⟩
                    rw [← hz93] at hr93 ⊢
                    have hb93 : 0 ≤ (μ119 127 (i - 1)) ∧ (μ119 127 (i - 1)) ≤ 7 := hB119 127 (i - 1)
                    refine r_aload_n hL (x := 120) dX8_commonOrder_94 rfl ?_
                    refine r_getr hL xcl8 12 (by decide) s_120 (by decide) fl_X8_32 (by decide) f_120_12 dX8_commonOrder_95 ?_
                    refine r_iload hL (x := j) dX8_commonOrder_98 rfl ?_
                    refine r_iconst hL dX8_commonOrder_100 ?_
                    refine r_isub hL dX8_commonOrder_101 ?_
                    refine r_iald hL dX8_commonOrder_102 (by decide) s_128 (by decide) (by omega) (by omega) (fun hr102 => ?_)
                    obtain ⟨z102, hz102⟩ : ∃ z, z = μ119 128 (j - 1) := ⟨_, rfl⟩
                    rw [← hz102] at hr102 ⊢
                    have hb102 : 0 ≤ (μ119 128 (j - 1)) ∧ (μ119 128 (j - 1)) ≤ 7 := hB119 128 (j - 1)
                    refine r_icmp_ne hL (tgt := 126) dX8_commonOrder_103 (by decide) (by omega) (by omega) (fun c103 => ?_) (fun c103 => ?_)
                    · skip
                      refine r_iload hL (x := z67) dX8_commonOrder_126 rfl ?_
                      refine r_istore hL (lo' := [some (xR 120), some (xI t), some (xI u), some (xI i), some (xI j), some (xI z67), some (xI z52), some (xI z67)]) dX8_commonOrder_128 (by decide) rfl ?_
                      refine r_aload_n hL (x := 120) dX8_commonOrder_130 rfl ?_
                      refine r_getr hL xcl8 17 (by decide) s_120 (by decide) fl_X8_44 (by decide) f_120_17 dX8_commonOrder_131 ?_
                      refine r_iload_n hL (x := i) dX8_commonOrder_134 rfl ?_
                      refine r_iload hL (x := j) dX8_commonOrder_135 rfl ?_
                      refine r_callS hL (st := [xR 132]) (av := [xI i, xI j]) (m_X8_cellOf (μ := μ119) i j (fun z137 hc137 => ⟨rfl, ?_⟩)) ce_yX8_cellOf sm_yX8_cellOf ml_X8_100 dX8_commonOrder_137 rfl (Nat.le_of_ble_eq_true rfl) ⟨Nat.le_of_ble_eq_true rfl, Nat.le_of_ble_eq_true rfl⟩ ⟨Nat.le_of_ble_eq_true rfl, Nat.le_of_ble_eq_true rfl⟩
                      show X 0 0 WW μ119 140 [some (xR 120), some (xI t), some (xI u), some (xI i), some (xI j), some (xI z67), some (xI z52), some (xI z67)] [xI z137, xR 132]
                      refine r_iload hL (x := z67) dX8_commonOrder_140 rfl ?_
                      refine r_iast hL dX8_commonOrder_142 (by decide) s_132 (by decide) (by omega) (by omega) (by omega) (fun μ3 hm3 => ?_)
                      have hB3 : BI μ3 := by rw [hm3]; exact hB119.up trivial
                      have hF3 : Fr RM μ μ3 := by rw [hm3]; exact hF119.up (by unfold RM; omega)
                      have hS1 : ∀ q, μ3 132 q = if q = 11 * i + j then z67 else μ119 132 q := fun q => by rw [hm3, hc137]; simp [xup]
                      refine r_iinc hL (x := j) (lo' := [some (xR 120), some (xI t), some (xI u), some (xI i), some (xI (j + 1)), some (xI z67), some (xI z52), some (xI z67)]) dX8_commonOrder_143 (by decide) rfl rfl ?_
                      refine r_goto hL (tgt := 19) dX8_commonOrder_146 (by decide) ?_
                      refine r_drop hL (lo' := [some (xR 120), some (xI t), some (xI u), some (xI i), some (xI (j + 1)), none, none, none]) [5, 6, 7] rfl ?_
                      exact ih19 (j + 1) μ3 hB3 hF3 (by omega) (CPp.step h4 (by omega) (by omega) (by omega) (by unfold cpv; first | (have h_ := ht120; rw [if_neg (by omega), if_pos (by rw [← g127119, ← g128119, ← hz93, ← hz102]; omega), ← ht120]) | (have h_ := ht67; rw [if_neg (by omega), if_neg (by rw [← g127119, ← g128119, ← hz93, ← hz102]; omega), ← ht52, ← ht67]; omega) | rw [if_pos (by omega)]) (by omega) hS1) (fun k q hk => by rw [hm3, congrFun (xup_c hk) q]; exact h10 k q hk) (by omega)
                    · skip
                      refine r_aload_n hL (x := 120) dX8_commonOrder_106 rfl ?_
                      refine r_getr hL xcl8 17 (by decide) s_120 (by decide) fl_X8_44 (by decide) f_120_17 dX8_commonOrder_107 ?_
                      refine r_iload_n hL (x := i) dX8_commonOrder_110 rfl ?_
                      refine r_iconst hL dX8_commonOrder_111 ?_
                      refine r_isub hL dX8_commonOrder_112 ?_
                      refine r_iload hL (x := j) dX8_commonOrder_113 rfl ?_
                      refine r_iconst hL dX8_commonOrder_115 ?_
                      refine r_isub hL dX8_commonOrder_116 ?_
                      refine r_callS hL (st := [xR 132]) (av := [xI (i - 1), xI (j - 1)]) (m_X8_cellOf (μ := μ119) (i - 1) (j - 1) (fun z117 hc117 => ⟨rfl, ?_⟩)) ce_yX8_cellOf sm_yX8_cellOf ml_X8_100 dX8_commonOrder_117 rfl (Nat.le_of_ble_eq_true rfl) ⟨Nat.le_of_ble_eq_true rfl, Nat.le_of_ble_eq_true rfl⟩ ⟨Nat.le_of_ble_eq_true rfl, Nat.le_of_ble_eq_true rfl⟩
                      show X 0 0 WW μ119 120 [some (xR 120), some (xI t), some (xI u), some (xI i), some (xI j), some (xI z67), some (xI z52), some (xI z67)] [xI z117, xR 132]
                      refine r_iald hL dX8_commonOrder_120 (by decide) s_132 (by decide) (by omega) (by omega) (fun hr120 => ?_)
                      obtain ⟨z120, hz120⟩ : ∃ z, z = μ119 132 z117 := ⟨_, rfl⟩
                      rw [← hz120] at hr120 ⊢
                      have hs120 := (h4 (i - 1) (j - 1) (by omega) (by omega) (by omega) (by omega) (by omega)).1
                      have ht120 : z120 = μ119 132 (11 * (i - 1) + (j - 1)) := by rw [hz120, hc117]
                      refine r_iconst hL dX8_commonOrder_121 ?_
                      refine r_iadd hL dX8_commonOrder_122 ?_
                      refine r_goto hL (tgt := 128) dX8_commonOrder_123 (by decide) ?_
                      refine r_istore hL (lo' := [some (xR 120), some (xI t), some (xI u), some (xI i), some (xI j), some (xI (z120 + 1)), some (xI z52), some (xI z67)]) dX8_commonOrder_128 (by decide) rfl ?_
                      refine r_aload_n hL (x := 120) dX8_commonOrder_130 rfl ?_
                      refine r_getr hL xcl8 17 (by decide) s_120 (by decide) fl_X8_44 (by decide) f_120_17 dX8_commonOrder_131 ?_
                      refine r_iload_n hL (x := i) dX8_commonOrder_134 rfl ?_
                      refine r_iload hL (x := j) dX8_commonOrder_135 rfl ?_
                      refine r_callS hL (st := [xR 132]) (av := [xI i, xI j]) (m_X8_cellOf (μ := μ119) i j (fun z137 hc137 => ⟨rfl, ?_⟩)) ce_yX8_cellOf sm_yX8_cellOf ml_X8_100 dX8_commonOrder_137 rfl (Nat.le_of_ble_eq_true rfl) ⟨Nat.le_of_ble_eq_true rfl, Nat.le_of_ble_eq_true rfl⟩ ⟨Nat.le_of_ble_eq_true rfl, Nat.le_of_ble_eq_true rfl⟩
                      show X 0 0 WW μ119 140 [some (xR 120), some (xI t), some (xI u), some (xI i), some (xI j), some (xI (z120 + 1)), some (xI z52), some (xI z67)] [xI z137, xR 132]
                      refine r_iload hL (x := z120 + 1) dX8_commonOrder_140 rfl ?_
                      refine r_iast hL dX8_commonOrder_142 (by decide) s_132 (by decide) (by omega) (by omega) (by omega) (fun μ4 hm4 => ?_)
                      have hB4 : BI μ4 := by rw [hm4]; exact hB119.up trivial
                      have hF4 : Fr RM μ μ4 := by rw [hm4]; exact hF119.up (by unfold RM; omega)
                      have hS1 : ∀ q, μ4 132 q = if q = 11 * i + j then (z120 + 1) else μ119 132 q := fun q => by rw [hm4, hc137]; simp [xup]
                      refine r_iinc hL (x := j) (lo' := [some (xR 120), some (xI t), some (xI u), some (xI i), some (xI (j + 1)), some (xI (z120 + 1)), some (xI z52), some (xI z67)]) dX8_commonOrder_143 (by decide) rfl rfl ?_
                      refine r_goto hL (tgt := 19) dX8_commonOrder_146 (by decide) ?_
                      refine r_drop hL (lo' := [some (xR 120), some (xI t), some (xI u), some (xI i), some (xI (j + 1)), none, none, none]) [5, 6, 7] rfl ?_
                      exact ih19 (j + 1) μ4 hB4 hF4 (by omega) (CPp.step h4 (by omega) (by omega) (by omega) (by unfold cpv; first | (have h_ := ht120; rw [if_neg (by omega), if_pos (by rw [← g127119, ← g128119, ← hz93, ← hz102]; omega), ← ht120]) | (have h_ := ht67; rw [if_neg (by omega), if_neg (by rw [← g127119, ← g128119, ← hz93, ← hz102]; omega), ← ht52, ← ht67]; omega) | rw [if_pos (by omega)]) (by omega) hS1) (fun k q hk => by rw [hm4, congrFun (xup_c hk) q]; exact h10 k q hk) (by omega)
                  · skip
                    refine r_iload hL (x := z52) dX8_commonOrder_77 rfl ?_
                    refine r_goto hL (tgt := 84) dX8_commonOrder_79 (by decide) ?_
                    refine r_istore hL (lo' := [some (xR 120), some (xI t), some (xI u), some (xI i), some (xI j), some (xI z52), some (xI z52), some (xI z67)]) dX8_commonOrder_84 (by decide) rfl ?_
                    refine r_aload_n hL (x := 120) dX8_commonOrder_86 rfl ?_
                    refine r_getr hL xcl8 10 (by decide) s_120 (by decide) fl_X8_29 (by decide) f_120_10 dX8_commonOrder_87 ?_
                    refine r_iload_n hL (x := i) dX8_commonOrder_90 rfl ?_
                    refine r_iconst hL dX8_commonOrder_91 ?_
                    refine r_isub hL dX8_commonOrder_92 ?_
                    refine r_iald hL dX8_commonOrder_93 (by decide) s_127 (by decide) (by omega) (by omega) (fun hr93 => ?_)
                    obtain ⟨z93, hz93⟩ : ∃ z, z = μ119 127 (i - 1) := ⟨_, rfl⟩
                    rw [← hz93] at hr93 ⊢
                    have hb93 : 0 ≤ (μ119 127 (i - 1)) ∧ (μ119 127 (i - 1)) ≤ 7 := hB119 127 (i - 1)
                    refine r_aload_n hL (x := 120) dX8_commonOrder_94 rfl ?_
                    refine r_getr hL xcl8 12 (by decide) s_120 (by decide) fl_X8_32 (by decide) f_120_12 dX8_commonOrder_95 ?_
                    refine r_iload hL (x := j) dX8_commonOrder_98 rfl ?_
                    refine r_iconst hL dX8_commonOrder_100 ?_
                    refine r_isub hL dX8_commonOrder_101 ?_
                    refine r_iald hL dX8_commonOrder_102 (by decide) s_128 (by decide) (by omega) (by omega) (fun hr102 => ?_)
                    obtain ⟨z102, hz102⟩ : ∃ z, z = μ119 128 (j - 1) := ⟨_, rfl⟩
                    rw [← hz102] at hr102 ⊢
                    have hb102 : 0 ≤ (μ119 128 (j - 1)) ∧ (μ119 128 (j - 1)) ≤ 7 := hB119 128 (j - 1)
                    refine r_icmp_ne hL (tgt := 126) dX8_commonOrder_103 (by decide) (by omega) (by omega) (fun c103 => ?_) (fun c103 => ?_)
                    · skip
                      refine r_iload hL (x := z52) dX8_commonOrder_126 rfl ?_
                      refine r_istore hL (lo' := [some (xR 120), some (xI t), some (xI u), some (xI i), some (xI j), some (xI z52), some (xI z52), some (xI z67)]) dX8_commonOrder_128 (by decide) rfl ?_
                      refine r_aload_n hL (x := 120) dX8_commonOrder_130 rfl ?_
                      refine r_getr hL xcl8 17 (by decide) s_120 (by decide) fl_X8_44 (by decide) f_120_17 dX8_commonOrder_131 ?_
                      refine r_iload_n hL (x := i) dX8_commonOrder_134 rfl ?_
                      refine r_iload hL (x := j) dX8_commonOrder_135 rfl ?_
                      refine r_callS hL (st := [xR 132]) (av := [xI i, xI j]) (m_X8_cellOf (μ := μ119) i j (fun z137 hc137 => ⟨rfl, ?_⟩)) ce_yX8_cellOf sm_yX8_cellOf ml_X8_100 dX8_commonOrder_137 rfl (Nat.le_of_ble_eq_true rfl) ⟨Nat.le_of_ble_eq_true rfl, Nat.le_of_ble_eq_true rfl⟩ ⟨Nat.le_of_ble_eq_true rfl, Nat.le_of_ble_eq_true rfl⟩
                      show X 0 0 WW μ119 140 [some (xR 120), some (xI t), some (xI u), some (xI i), some (xI j), some (xI z52), some (xI z52), some (xI z67)] [xI z137, xR 132]
                      refine r_iload hL (x := z52) dX8_commonOrder_140 rfl ?_
                      refine r_iast hL dX8_commonOrder_142 (by decide) s_132 (by decide) (by omega) (by omega) (by omega) (fun μ5 hm5 => ?_)
                      have hB5 : BI μ5 := by rw [hm5]; exact hB119.up trivial
                      have hF5 : Fr RM μ μ5 := by rw [hm5]; exact hF119.up (by unfold RM; omega)
                      have hS1 : ∀ q, μ5 132 q = if q = 11 * i + j then z52 else μ119 132 q := fun q => by rw [hm5, hc137]; simp [xup]
                      refine r_iinc hL (x := j) (lo' := [some (xR 120), some (xI t), some (xI u), some (xI i), some (xI (j + 1)), some (xI z52), some (xI z52), some (xI z67)]) dX8_commonOrder_143 (by decide) rfl rfl ?_
                      refine r_goto hL (tgt := 19) dX8_commonOrder_146 (by decide) ?_
                      refine r_drop hL (lo' := [some (xR 120), some (xI t), some (xI u), some (xI i), some (xI (j + 1)), none, none, none]) [5, 6, 7] rfl ?_
                      exact ih19 (j + 1) μ5 hB5 hF5 (by omega) (CPp.step h4 (by omega) (by omega) (by omega) (by unfold cpv; first | (have h_ := ht120; rw [if_neg (by omega), if_pos (by rw [← g127119, ← g128119, ← hz93, ← hz102]; omega), ← ht120]) | (have h_ := ht67; rw [if_neg (by omega), if_neg (by rw [← g127119, ← g128119, ← hz93, ← hz102]; omega), ← ht52, ← ht67]; omega) | rw [if_pos (by omega)]) (by omega) hS1) (fun k q hk => by rw [hm5, congrFun (xup_c hk) q]; exact h10 k q hk) (by omega)
                    · skip
                      refine r_aload_n hL (x := 120) dX8_commonOrder_106 rfl ?_
                      refine r_getr hL xcl8 17 (by decide) s_120 (by decide) fl_X8_44 (by decide) f_120_17 dX8_commonOrder_107 ?_
                      refine r_iload_n hL (x := i) dX8_commonOrder_110 rfl ?_
                      refine r_iconst hL dX8_commonOrder_111 ?_
                      refine r_isub hL dX8_commonOrder_112 ?_
                      refine r_iload hL (x := j) dX8_commonOrder_113 rfl ?_
                      refine r_iconst hL dX8_commonOrder_115 ?_
                      refine r_isub hL dX8_commonOrder_116 ?_
                      refine r_callS hL (st := [xR 132]) (av := [xI (i - 1), xI (j - 1)]) (m_X8_cellOf (μ := μ119) (i - 1) (j - 1) (fun z117 hc117 => ⟨rfl, ?_⟩)) ce_yX8_cellOf sm_yX8_cellOf ml_X8_100 dX8_commonOrder_117 rfl (Nat.le_of_ble_eq_true rfl) ⟨Nat.le_of_ble_eq_true rfl, Nat.le_of_ble_eq_true rfl⟩ ⟨Nat.le_of_ble_eq_true rfl, Nat.le_of_ble_eq_true rfl⟩
                      show X 0 0 WW μ119 120 [some (xR 120), some (xI t), some (xI u), some (xI i), some (xI j), some (xI z52), some (xI z52), some (xI z67)] [xI z117, xR 132]
                      refine r_iald hL dX8_commonOrder_120 (by decide) s_132 (by decide) (by omega) (by omega) (fun hr120 => ?_)
                      obtain ⟨z120, hz120⟩ : ∃ z, z = μ119 132 z117 := ⟨_, rfl⟩
                      rw [← hz120] at hr120 ⊢
                      have hs120 := (h4 (i - 1) (j - 1) (by omega) (by omega) (by omega) (by omega) (by omega)).1
                      have ht120 : z120 = μ119 132 (11 * (i - 1) + (j - 1)) := by rw [hz120, hc117]
                      refine r_iconst hL dX8_commonOrder_121 ?_
                      refine r_iadd hL dX8_commonOrder_122 ?_
                      refine r_goto hL (tgt := 128) dX8_commonOrder_123 (by decide) ?_
                      refine r_istore hL (lo' := [some (xR 120), some (xI t), some (xI u), some (xI i), some (xI j), some (xI (z120 + 1)), some (xI z52), some (xI z67)]) dX8_commonOrder_128 (by decide) rfl ?_
                      refine r_aload_n hL (x := 120) dX8_commonOrder_130 rfl ?_
                      refine r_getr hL xcl8 17 (by decide) s_120 (by decide) fl_X8_44 (by decide) f_120_17 dX8_commonOrder_131 ?_
                      refine r_iload_n hL (x := i) dX8_commonOrder_134 rfl ?_
                      refine r_iload hL (x := j) dX8_commonOrder_135 rfl ?_
                      refine r_callS hL (st := [xR 132]) (av := [xI i, xI j]) (m_X8_cellOf (μ := μ119) i j (fun z137 hc137 => ⟨rfl, ?_⟩)) ce_yX8_cellOf sm_yX8_cellOf ml_X8_100 dX8_commonOrder_137 rfl (Nat.le_of_ble_eq_true rfl) ⟨Nat.le_of_ble_eq_true rfl, Nat.le_of_ble_eq_true rfl⟩ ⟨Nat.le_of_ble_eq_true rfl, Nat.le_of_ble_eq_true rfl⟩
                      show X 0 0 WW μ119 140 [some (xR 120), some (xI t), some (xI u), some (xI i), some (xI j), some (xI (z120 + 1)), some (xI z52), some (xI z67)] [xI z137, xR 132]
                      refine r_iload hL (x := z120 + 1) dX8_commonOrder_140 rfl ?_
                      refine r_iast hL dX8_commonOrder_142 (by decide) s_132 (by decide) (by omega) (by omega) (by omega) (fun μ6 hm6 => ?_)
                      have hB6 : BI μ6 := by rw [hm6]; exact hB119.up trivial
                      have hF6 : Fr RM μ μ6 := by rw [hm6]; exact hF119.up (by unfold RM; omega)
                      have hS1 : ∀ q, μ6 132 q = if q = 11 * i + j then (z120 + 1) else μ119 132 q := fun q => by rw [hm6, hc137]; simp [xup]
                      refine r_iinc hL (x := j) (lo' := [some (xR 120), some (xI t), some (xI u), some (xI i), some (xI (j + 1)), some (xI (z120 + 1)), some (xI z52), some (xI z67)]) dX8_commonOrder_143 (by decide) rfl rfl ?_
                      refine r_goto hL (tgt := 19) dX8_commonOrder_146 (by decide) ?_
                      refine r_drop hL (lo' := [some (xR 120), some (xI t), some (xI u), some (xI i), some (xI (j + 1)), none, none, none]) [5, 6, 7] rfl ?_
                      exact ih19 (j + 1) μ6 hB6 hF6 (by omega) (CPp.step h4 (by omega) (by omega) (by omega) (by unfold cpv; first | (have h_ := ht120; rw [if_neg (by omega), if_pos (by rw [← g127119, ← g128119, ← hz93, ← hz102]; omega), ← ht120]) | (have h_ := ht67; rw [if_neg (by omega), if_neg (by rw [← g127119, ← g128119, ← hz93, ← hz102]; omega), ← ht52, ← ht67]; omega) | rw [if_pos (by omega)]) (by omega) hS1) (fun k q hk => by rw [hm6, congrFun (xup_c hk) q]; exact h10 k q hk) (by omega)
        exact lp19 _ 0 μ108 hB108 hF108 (by omega) h3 h9 (Nat.lt_succ_self _)
  exact lp8 _ 0 μ3c hB3c hF3c (by omega) CPp.none (fun k q _ => rfl) (Nat.lt_succ_self _)

set_option maxHeartbeats 4000000 in
set_option maxRecDepth 20000 in
theorem m_X8_laysFar {K : Option xV → xW → xM → Prop} {μ : xM} (hB0 : BI μ)  (hK : ∀ μ', BI μ' → Fr RM μ μ' → K none WW μ') : xMet yX8_laysFar cX8_laysFar 3 none 5 118 0 0 [xR 120] WW μ K := by
  refine xMet.go RX8 "laysFar" rfl rfl (by decide) [some (xR 120), none, none] (Nat.le_of_ble_eq_true rfl) rfl (fun X hL => ?_)
  have hB := hB0
  have hF : Fr RM μ μ := Fr.rf
  refine r_iconst hL dX8_laysFar_0 ?_
  refine r_istore_n hL (lo' := [some (xR 120), some (xI 0), none]) dX8_laysFar_1 (by decide) rfl ?_
  have lp2 : ∀ (n2 : Nat) (t : Int) (μ102 : xM), (BI μ102) → (Fr RM μ μ102) → (0 ≤ t ∧ t ≤ 8) → ((8 - t).toNat) < n2 → X 0 0 WW μ102 2 [some (xR 120), some (xI t), none] [] := by
    intro n2
    induction n2 with
    | zero => intro t μ102 hB102 hF102 h1 hn; exact absurd hn (Nat.not_lt_zero _)
    | succ n2 ih2 =>
      intro t μ102 hB102 hF102 h1 hn2
      refine r_iload_n hL (x := t) dX8_laysFar_2 rfl ?_
      refine r_aload_n hL (x := 120) dX8_laysFar_3 rfl ?_
      refine r_getr hL xcl8 0 (by decide) s_120 (by decide) fl_X8_7 (by decide) f_120_0 dX8_laysFar_4 ?_
      refine r_iconst hL dX8_laysFar_7 ?_
      refine r_iald hL dX8_laysFar_8 (by decide) s_121 (by decide) (by omega) (by omega) (fun hr8 => ?_)
      obtain ⟨z8, hz8⟩ : ∃ z, z = μ102 121 0 := ⟨_, rfl⟩
      rw [← hz8] at hr8 ⊢
      have hb8 : 0 ≤ μ102 121 0 ∧ μ102 121 0 ≤ 8 := (show ((0 : Int) = 0 → 0 ≤ (μ102 121 0) ∧ (μ102 121 0) ≤ 8) ∧ ((0 : Int) = 1 → 0 ≤ (μ102 121 0) ∧ (μ102 121 0) ≤ 2) ∧ (2 ≤ (0 : Int) ∧ (0 : Int) ≤ 5 → 0 ≤ (μ102 121 0) ∧ (μ102 121 0) ≤ 9) ∧ (6 ≤ (0 : Int) ∧ (0 : Int) ≤ 13 → 0 ≤ (μ102 121 0) ∧ (μ102 121 0) ≤ 10) ∧ (30 ≤ (0 : Int) → 0 ≤ (μ102 121 0) ∧ (μ102 121 0) ≤ 7) from hB102 121 0).1 (by omega)
      refine r_icmp_ge hL (tgt := 53) dX8_laysFar_9 (by decide) (by omega) (by omega) (fun c9 => ?_) (fun c9 => ?_)
      · skip
        exact r_vret hL dX8_laysFar_53 rfl (hK _ hB102 hF102)
      · skip
        refine r_iconst hL dX8_laysFar_12 ?_
        refine r_istore_n hL (lo' := [some (xR 120), some (xI t), some (xI 0)]) dX8_laysFar_13 (by decide) rfl ?_
        have lp14 : ∀ (n14 : Nat) (u : Int) (μ114 : xM), (BI μ114) → (Fr RM μ μ114) → (0 ≤ u ∧ u ≤ 8) → ((8 - u).toNat) < n14 → X 0 0 WW μ114 14 [some (xR 120), some (xI t), some (xI u)] [] := by
          intro n14
          induction n14 with
          | zero => intro u μ114 hB114 hF114 h2 hn; exact absurd hn (Nat.not_lt_zero _)
          | succ n14 ih14 =>
            intro u μ114 hB114 hF114 h2 hn14
            refine r_iload_n hL (x := u) dX8_laysFar_14 rfl ?_
            refine r_aload_n hL (x := 120) dX8_laysFar_15 rfl ?_
            refine r_getr hL xcl8 0 (by decide) s_120 (by decide) fl_X8_7 (by decide) f_120_0 dX8_laysFar_16 ?_
            refine r_iconst hL dX8_laysFar_19 ?_
            refine r_iald hL dX8_laysFar_20 (by decide) s_121 (by decide) (by omega) (by omega) (fun hr20 => ?_)
            obtain ⟨z20, hz20⟩ : ∃ z, z = μ114 121 0 := ⟨_, rfl⟩
            rw [← hz20] at hr20 ⊢
            have hb20 : 0 ≤ μ114 121 0 ∧ μ114 121 0 ≤ 8 := (show ((0 : Int) = 0 → 0 ≤ (μ114 121 0) ∧ (μ114 121 0) ≤ 8) ∧ ((0 : Int) = 1 → 0 ≤ (μ114 121 0) ∧ (μ114 121 0) ≤ 2) ∧ (2 ≤ (0 : Int) ∧ (0 : Int) ≤ 5 → 0 ≤ (μ114 121 0) ∧ (μ114 121 0) ≤ 9) ∧ (6 ≤ (0 : Int) ∧ (0 : Int) ≤ 13 → 0 ≤ (μ114 121 0) ∧ (μ114 121 0) ≤ 10) ∧ (30 ≤ (0 : Int) → 0 ≤ (μ114 121 0) ∧ (μ114 121 0) ≤ 7) from hB114 121 0).1 (by omega)
            refine r_icmp_ge hL (tgt := 47) dX8_laysFar_21 (by decide) (by omega) (by omega) (fun c21 => ?_) (fun c21 => ?_)
            · skip
              refine r_iinc hL (x := t) (lo' := [some (xR 120), some (xI (t + 1)), some (xI u)]) dX8_laysFar_47 (by decide) rfl rfl ?_
              refine r_goto hL (tgt := 2) dX8_laysFar_50 (by decide) ?_
              refine r_drop hL (lo' := [some (xR 120), some (xI (t + 1)), none]) [2] rfl ?_
              exact ih2 (t + 1) μ114 hB114 hF114 (by omega) (by omega)
            · skip
              refine r_aload_n hL (x := 120) dX8_laysFar_24 rfl ?_
              refine r_getr hL xcl8 18 (by decide) s_120 (by decide) fl_X8_47 (by decide) f_120_18 dX8_laysFar_25 ?_
              refine r_bipush hL dX8_laysFar_28 (by decide) ?_
              refine r_iload_n hL (x := t) dX8_laysFar_30 rfl ?_
              refine r_imul hL dX8_laysFar_31 ?_
              refine r_iload_n hL (x := u) dX8_laysFar_32 rfl ?_
              refine r_iadd hL dX8_laysFar_33 ?_
              refine r_aload_n hL (x := 120) dX8_laysFar_34 rfl ?_
              refine r_iload_n hL (x := t) dX8_laysFar_35 rfl ?_
              refine r_iload_n hL (x := u) dX8_laysFar_36 rfl ?_
              refine r_callV hL (st := [xI ((8 * t) + u), xR 133]) (av := [xI t, xI u]) (k := 120) (m_X8_apart (μ := μ114) hB114 t (by omega) u (by omega) (fun z37 μ37c hB37c hG37 hD37c heq37 hQ37 hc37 => ⟨rfl, ?_⟩)) ce_yX8_apart im_yX8_apart se_yX8_apart ml_X8_111 xcl8 (by decide) s_120 dX8_laysFar_37 rfl (Nat.le_of_ble_eq_true rfl) ⟨Nat.le_of_ble_eq_true rfl, Nat.le_of_ble_eq_true rfl⟩ ⟨Nat.le_of_ble_eq_true rfl, Nat.le_of_ble_eq_true rfl⟩
              show X 0 0 WW μ37c 40 [some (xR 120), some (xI t), some (xI u)] [xI z37, xI ((8 * t) + u), xR 133]
              have hF37c : Fr RM μ μ37c := hF114.trans hG37
              refine r_iast hL dX8_laysFar_40 (by decide) s_133 (by decide) (by omega) (by omega) (by omega) (fun μ1 hm1 => ?_)
              have hB1 : BI μ1 := by rw [hm1]; exact hB37c.up (by show 0 ≤ z37 ∧ z37 ≤ 180; omega)
              have hF1 : Fr RM μ μ1 := by rw [hm1]; exact hF37c.up (by unfold RM; omega)
              refine r_iinc hL (x := u) (lo' := [some (xR 120), some (xI t), some (xI (u + 1))]) dX8_laysFar_41 (by decide) rfl rfl ?_
              refine r_goto hL (tgt := 14) dX8_laysFar_44 (by decide) ?_
              exact ih14 (u + 1) μ1 hB1 hF1 (by omega) (by omega)
        exact lp14 _ 0 μ102 hB102 hF102 (by omega) (Nat.lt_succ_self _)
  exact lp2 _ 0 μ hB hF (by omega) (Nat.lt_succ_self _)

set_option maxHeartbeats 4000000 in
set_option maxRecDepth 20000 in
theorem m_X8_nearBy {K : Option xV → xW → xM → Prop} {μ : xM} (hB0 : BI μ) (a : Int) (ha : xrg a) (b : Int) (hb0 : xrg b) (hK : ∀ r, xrg r → K (some (xI r)) WW μ) : xMet yX8_nearBy cX8_nearBy 9 (some .int) 1 21 0 0 [xR 120, xI a, xI b] WW μ K := by
  refine xMet.go RX8 "nearBy" rfl rfl (by decide) [some (xR 120), some (xI a), some (xI b), none, none, none, none, none, none] (Nat.le_of_ble_eq_true rfl) rfl (fun X hL => ?_)
  have hB := hB0
  refine r_iconst hL dX8_nearBy_0 ?_
  refine r_istore_n hL (lo' := [some (xR 120), some (xI a), some (xI b), some (xI 0), none, none, none, none, none]) dX8_nearBy_1 (by decide) rfl ?_
  refine r_ldc hL (n := 100000) dX8_nearBy_2 kc_X8_84 (by decide) ?_
  refine r_istore hL (lo' := [some (xR 120), some (xI a), some (xI b), some (xI 0), some (xI 100000), none, none, none, none]) dX8_nearBy_4 (by decide) rfl ?_
  refine r_iconst hL dX8_nearBy_6 ?_
  refine r_istore hL (lo' := [some (xR 120), some (xI a), some (xI b), some (xI 0), some (xI 100000), some (xI 0), none, none, none]) dX8_nearBy_7 (by decide) rfl ?_
  refine r_iconst hL dX8_nearBy_9 ?_
  refine r_istore hL (lo' := [some (xR 120), some (xI a), some (xI b), some (xI 0), some (xI 100000), some (xI 0), some (xI 0), none, none]) dX8_nearBy_10 (by decide) rfl ?_
  have lp12 : ∀ (n12 : Nat) (n : Int) (l : Int) (m : Int) (t : Int), (0 ≤ n ∧ n ≤ 1440 * t) → (0 ≤ l ∧ l ≤ 100000) → (0 ≤ m ∧ m ≤ 180) → (0 ≤ t ∧ t ≤ 8) → ((8 - t).toNat) < n12 → X 0 0 WW μ 12 [some (xR 120), some (xI a), some (xI b), some (xI n), some (xI l), some (xI m), some (xI t), none, none] [] := by
    intro n12
    induction n12 with
    | zero => intro n l m t h1 h2 h3 h4 hn; exact absurd hn (Nat.not_lt_zero _)
    | succ n12 ih12 =>
      intro n l m t h1 h2 h3 h4 hn12
      refine r_iload hL (x := t) dX8_nearBy_12 rfl ?_
      refine r_aload_n hL (x := 120) dX8_nearBy_14 rfl ?_
      refine r_getr hL xcl8 0 (by decide) s_120 (by decide) fl_X8_7 (by decide) f_120_0 dX8_nearBy_15 ?_
      refine r_iconst hL dX8_nearBy_18 ?_
      refine r_iald hL dX8_nearBy_19 (by decide) s_121 (by decide) (by omega) (by omega) (fun hr19 => ?_)
      obtain ⟨z19, hz19⟩ : ∃ z, z = μ 121 0 := ⟨_, rfl⟩
      rw [← hz19] at hr19 ⊢
      have hb19 : 0 ≤ μ 121 0 ∧ μ 121 0 ≤ 8 := (show ((0 : Int) = 0 → 0 ≤ (μ 121 0) ∧ (μ 121 0) ≤ 8) ∧ ((0 : Int) = 1 → 0 ≤ (μ 121 0) ∧ (μ 121 0) ≤ 2) ∧ (2 ≤ (0 : Int) ∧ (0 : Int) ≤ 5 → 0 ≤ (μ 121 0) ∧ (μ 121 0) ≤ 9) ∧ (6 ≤ (0 : Int) ∧ (0 : Int) ≤ 13 → 0 ≤ (μ 121 0) ∧ (μ 121 0) ≤ 10) ∧ (30 ≤ (0 : Int) → 0 ≤ (μ 121 0) ∧ (μ 121 0) ≤ 7) from hB 121 0).1 (by omega)
      refine r_icmp_ge hL (tgt := 112) dX8_nearBy_20 (by decide) (by omega) (by omega) (fun c20 => ?_) (fun c20 => ?_)
      · skip
        refine r_aload_n hL (x := 120) dX8_nearBy_112 rfl ?_
        refine r_getr hL xcl8 0 (by decide) s_120 (by decide) fl_X8_7 (by decide) f_120_0 dX8_nearBy_113 ?_
        refine r_iconst hL dX8_nearBy_116 ?_
        refine r_iald hL dX8_nearBy_117 (by decide) s_121 (by decide) (by omega) (by omega) (fun hr117 => ?_)
        obtain ⟨z117, hz117⟩ : ∃ z, z = μ 121 1 := ⟨_, rfl⟩
        rw [← hz117] at hr117 ⊢
        have hb117 : 0 ≤ μ 121 1 ∧ μ 121 1 ≤ 2 := (show ((1 : Int) = 0 → 0 ≤ (μ 121 1) ∧ (μ 121 1) ≤ 8) ∧ ((1 : Int) = 1 → 0 ≤ (μ 121 1) ∧ (μ 121 1) ≤ 2) ∧ (2 ≤ (1 : Int) ∧ (1 : Int) ≤ 5 → 0 ≤ (μ 121 1) ∧ (μ 121 1) ≤ 9) ∧ (6 ≤ (1 : Int) ∧ (1 : Int) ≤ 13 → 0 ≤ (μ 121 1) ∧ (μ 121 1) ≤ 10) ∧ (30 ≤ (1 : Int) → 0 ≤ (μ 121 1) ∧ (μ 121 1) ≤ 7) from hB 121 1).2.1 (by omega)
        refine r_if_ne hL (tgt := 126) dX8_nearBy_118 (by decide) (by omega) (fun c118 => ?_) (fun c118 => ?_)
        · skip
          refine r_aload_n hL (x := 120) dX8_nearBy_126 rfl ?_
          refine r_getr hL xcl8 0 (by decide) s_120 (by decide) fl_X8_7 (by decide) f_120_0 dX8_nearBy_127 ?_
          refine r_iconst hL dX8_nearBy_130 ?_
          refine r_iald hL dX8_nearBy_131 (by decide) s_121 (by decide) (by omega) (by omega) (fun hr131 => ?_)
          obtain ⟨z131, hz131⟩ : ∃ z, z = μ 121 1 := ⟨_, rfl⟩
          rw [← hz131] at hr131 ⊢
          have hb131 : 0 ≤ μ 121 1 ∧ μ 121 1 ≤ 2 := (show ((1 : Int) = 0 → 0 ≤ (μ 121 1) ∧ (μ 121 1) ≤ 8) ∧ ((1 : Int) = 1 → 0 ≤ (μ 121 1) ∧ (μ 121 1) ≤ 2) ∧ (2 ≤ (1 : Int) ∧ (1 : Int) ≤ 5 → 0 ≤ (μ 121 1) ∧ (μ 121 1) ≤ 9) ∧ (6 ≤ (1 : Int) ∧ (1 : Int) ≤ 13 → 0 ≤ (μ 121 1) ∧ (μ 121 1) ≤ 10) ∧ (30 ≤ (1 : Int) → 0 ≤ (μ 121 1) ∧ (μ 121 1) ≤ 7) from hB 121 1).2.1 (by omega)
          refine r_iconst hL dX8_nearBy_132 ?_
          refine r_icmp_ne hL (tgt := 141) dX8_nearBy_133 (by decide) (by omega) (by omega) (fun c133 => ?_) (fun c133 => ?_)
          · skip
            refine r_iload_n hL (x := n) dX8_nearBy_141 rfl ?_
            exact r_iret hL dX8_nearBy_142 rfl (hK _ (by omega))
          · skip
            refine r_iload hL (x := m) dX8_nearBy_136 rfl ?_
            refine r_goto hL (tgt := 142) dX8_nearBy_138 (by decide) ?_
            exact r_iret hL dX8_nearBy_142 rfl (hK _ (by omega))
        · skip
          refine r_iload hL (x := l) dX8_nearBy_121 rfl ?_
          refine r_goto hL (tgt := 142) dX8_nearBy_123 (by decide) ?_
          exact r_iret hL dX8_nearBy_142 rfl (hK _ (by omega))
      · skip
        refine r_iconst hL dX8_nearBy_23 ?_
        refine r_istore hL (lo' := [some (xR 120), some (xI a), some (xI b), some (xI n), some (xI l), some (xI m), some (xI t), some (xI 0), none]) dX8_nearBy_24 (by decide) rfl ?_
        have lp26 : ∀ (n26 : Nat) (n2 : Int) (l2 : Int) (m2 : Int) (u : Int), (0 ≤ n2 ∧ n2 ≤ 1440 * t + 180 * u) → (0 ≤ l2 ∧ l2 ≤ 100000) → (0 ≤ m2 ∧ m2 ≤ 180) → (0 ≤ u ∧ u ≤ 8) → ((8 - u).toNat) < n26 → X 0 0 WW μ 26 [some (xR 120), some (xI a), some (xI b), some (xI n2), some (xI l2), some (xI m2), some (xI t), some (xI u), none] [] := by
          intro n26
          induction n26 with
          | zero => intro n2 l2 m2 u h5 h6 h7 h8 hn; exact absurd hn (Nat.not_lt_zero _)
          | succ n26 ih26 =>
            intro n2 l2 m2 u h5 h6 h7 h8 hn26
            refine r_iload hL (x := u) dX8_nearBy_26 rfl ?_
            refine r_aload_n hL (x := 120) dX8_nearBy_28 rfl ?_
            refine r_getr hL xcl8 0 (by decide) s_120 (by decide) fl_X8_7 (by decide) f_120_0 dX8_nearBy_29 ?_
            refine r_iconst hL dX8_nearBy_32 ?_
            refine r_iald hL dX8_nearBy_33 (by decide) s_121 (by decide) (by omega) (by omega) (fun hr33 => ?_)
            obtain ⟨z33, hz33⟩ : ∃ z, z = μ 121 0 := ⟨_, rfl⟩
            rw [← hz33] at hr33 ⊢
            have hb33 : 0 ≤ μ 121 0 ∧ μ 121 0 ≤ 8 := (show ((0 : Int) = 0 → 0 ≤ (μ 121 0) ∧ (μ 121 0) ≤ 8) ∧ ((0 : Int) = 1 → 0 ≤ (μ 121 0) ∧ (μ 121 0) ≤ 2) ∧ (2 ≤ (0 : Int) ∧ (0 : Int) ≤ 5 → 0 ≤ (μ 121 0) ∧ (μ 121 0) ≤ 9) ∧ (6 ≤ (0 : Int) ∧ (0 : Int) ≤ 13 → 0 ≤ (μ 121 0) ∧ (μ 121 0) ≤ 10) ∧ (30 ≤ (0 : Int) → 0 ≤ (μ 121 0) ∧ (μ 121 0) ≤ 7) from hB 121 0).1 (by omega)
            refine r_icmp_ge hL (tgt := 106) dX8_nearBy_34 (by decide) (by omega) (by omega) (fun c34 => ?_) (fun c34 => ?_)
            · skip
              refine r_iinc hL (x := t) (lo' := [some (xR 120), some (xI a), some (xI b), some (xI n2), some (xI l2), some (xI m2), some (xI (t + 1)), some (xI u), none]) dX8_nearBy_106 (by decide) rfl rfl ?_
              refine r_goto hL (tgt := 12) dX8_nearBy_109 (by decide) ?_
              refine r_drop hL (lo' := [some (xR 120), some (xI a), some (xI b), some (xI n2), some (xI l2), some (xI m2), some (xI (t + 1)), none, none]) [7] rfl ?_
              exact ih12 n2 l2 m2 (t + 1) (by omega) (by omega) (by omega) (by omega) (by omega)
            · skip
              refine r_iload_n hL (x := a) dX8_nearBy_37 rfl ?_
              refine r_iload hL (x := t) dX8_nearBy_38 rfl ?_
              refine r_callS hL (st := []) (av := [xI a, xI t]) (m_X8_has (μ := μ) a t (fun z40 heq40 hc40 => ⟨rfl, ?_⟩)) ce_yX8_has sm_yX8_has ml_X8_118 dX8_nearBy_40 rfl (Nat.le_of_ble_eq_true rfl) ⟨Nat.le_of_ble_eq_true rfl, Nat.le_of_ble_eq_true rfl⟩ ⟨Nat.le_of_ble_eq_true rfl, Nat.le_of_ble_eq_true rfl⟩
              show X 0 0 WW μ 43 [some (xR 120), some (xI a), some (xI b), some (xI n2), some (xI l2), some (xI m2), some (xI t), some (xI u), none] [xI z40]
              refine r_if_eq hL (tgt := 100) dX8_nearBy_43 (by decide) (by omega) (fun c43 => ?_) (fun c43 => ?_)
              · skip
                refine r_iinc hL (x := u) (lo' := [some (xR 120), some (xI a), some (xI b), some (xI n2), some (xI l2), some (xI m2), some (xI t), some (xI (u + 1)), none]) dX8_nearBy_100 (by decide) rfl rfl ?_
                refine r_goto hL (tgt := 26) dX8_nearBy_103 (by decide) ?_
                exact ih26 n2 l2 m2 (u + 1) (by omega) (by omega) (by omega) (by omega) (by omega)
              · skip
                refine r_iload_n hL (x := b) dX8_nearBy_46 rfl ?_
                refine r_iload hL (x := u) dX8_nearBy_47 rfl ?_
                refine r_callS hL (st := []) (av := [xI b, xI u]) (m_X8_has (μ := μ) b u (fun z49 heq49 hc49 => ⟨rfl, ?_⟩)) ce_yX8_has sm_yX8_has ml_X8_118 dX8_nearBy_49 rfl (Nat.le_of_ble_eq_true rfl) ⟨Nat.le_of_ble_eq_true rfl, Nat.le_of_ble_eq_true rfl⟩ ⟨Nat.le_of_ble_eq_true rfl, Nat.le_of_ble_eq_true rfl⟩
                show X 0 0 WW μ 52 [some (xR 120), some (xI a), some (xI b), some (xI n2), some (xI l2), some (xI m2), some (xI t), some (xI u), none] [xI z49]
                refine r_if_eq hL (tgt := 100) dX8_nearBy_52 (by decide) (by omega) (fun c52 => ?_) (fun c52 => ?_)
                · skip
                  refine r_iinc hL (x := u) (lo' := [some (xR 120), some (xI a), some (xI b), some (xI n2), some (xI l2), some (xI m2), some (xI t), some (xI (u + 1)), none]) dX8_nearBy_100 (by decide) rfl rfl ?_
                  refine r_goto hL (tgt := 26) dX8_nearBy_103 (by decide) ?_
                  exact ih26 n2 l2 m2 (u + 1) (by omega) (by omega) (by omega) (by omega) (by omega)
                · skip
                  refine r_aload_n hL (x := 120) dX8_nearBy_55 rfl ?_
                  refine r_getr hL xcl8 18 (by decide) s_120 (by decide) fl_X8_47 (by decide) f_120_18 dX8_nearBy_56 ?_
                  refine r_bipush hL dX8_nearBy_59 (by decide) ?_
                  refine r_iload hL (x := t) dX8_nearBy_61 rfl ?_
                  refine r_imul hL dX8_nearBy_63 ?_
                  refine r_iload hL (x := u) dX8_nearBy_64 rfl ?_
                  refine r_iadd hL dX8_nearBy_66 ?_
                  refine r_iald hL dX8_nearBy_67 (by decide) s_133 (by decide) (by omega) (by omega) (fun hr67 => ?_)
                  obtain ⟨z67, hz67⟩ : ∃ z, z = μ 133 ((8 * t) + u) := ⟨_, rfl⟩
                  rw [← hz67] at hr67 ⊢
                  have hb67 : 0 ≤ (μ 133 ((8 * t) + u)) ∧ (μ 133 ((8 * t) + u)) ≤ 180 := hB 133 ((8 * t) + u)
                  refine r_istore hL (lo' := [some (xR 120), some (xI a), some (xI b), some (xI n2), some (xI l2), some (xI m2), some (xI t), some (xI u), some (xI z67)]) dX8_nearBy_68 (by decide) rfl ?_
                  refine r_iload_n hL (x := n2) dX8_nearBy_70 rfl ?_
                  refine r_iload hL (x := z67) dX8_nearBy_71 rfl ?_
                  refine r_iadd hL dX8_nearBy_73 ?_
                  refine r_istore_n hL (lo' := [some (xR 120), some (xI a), some (xI b), some (xI (n2 + z67)), some (xI l2), some (xI m2), some (xI t), some (xI u), some (xI z67)]) dX8_nearBy_74 (by decide) rfl ?_
                  refine r_iload hL (x := z67) dX8_nearBy_75 rfl ?_
                  refine r_iload hL (x := l2) dX8_nearBy_77 rfl ?_
                  refine r_callS hL (st := []) (av := [xI z67, xI l2]) (m_X8_lesser (μ := μ) z67 (by omega) l2 (by omega) (fun z79 hc79 => ⟨rfl, ?_⟩)) ce_yX8_lesser sm_yX8_lesser ml_X8_77 dX8_nearBy_79 rfl (Nat.le_of_ble_eq_true rfl) ⟨Nat.le_of_ble_eq_true rfl, Nat.le_of_ble_eq_true rfl⟩ ⟨Nat.le_of_ble_eq_true rfl, Nat.le_of_ble_eq_true rfl⟩
                  show X 0 0 WW μ 82 [some (xR 120), some (xI a), some (xI b), some (xI (n2 + z67)), some (xI l2), some (xI m2), some (xI t), some (xI u), some (xI z67)] [xI z79]
                  refine r_istore hL (lo' := [some (xR 120), some (xI a), some (xI b), some (xI (n2 + z67)), some (xI z79), some (xI m2), some (xI t), some (xI u), some (xI z67)]) dX8_nearBy_82 (by decide) rfl ?_
                  refine r_iload hL (x := z67) dX8_nearBy_84 rfl ?_
                  refine r_iload hL (x := m2) dX8_nearBy_86 rfl ?_
                  refine r_icmp_le hL (tgt := 96) dX8_nearBy_88 (by decide) (by omega) (by omega) (fun c88 => ?_) (fun c88 => ?_)
                  · skip
                    refine r_iload hL (x := m2) dX8_nearBy_96 rfl ?_
                    refine r_istore hL (lo' := [some (xR 120), some (xI a), some (xI b), some (xI (n2 + z67)), some (xI z79), some (xI m2), some (xI t), some (xI u), some (xI z67)]) dX8_nearBy_98 (by decide) rfl ?_
                    refine r_iinc hL (x := u) (lo' := [some (xR 120), some (xI a), some (xI b), some (xI (n2 + z67)), some (xI z79), some (xI m2), some (xI t), some (xI (u + 1)), some (xI z67)]) dX8_nearBy_100 (by decide) rfl rfl ?_
                    refine r_goto hL (tgt := 26) dX8_nearBy_103 (by decide) ?_
                    refine r_drop hL (lo' := [some (xR 120), some (xI a), some (xI b), some (xI (n2 + z67)), some (xI z79), some (xI m2), some (xI t), some (xI (u + 1)), none]) [8] rfl ?_
                    exact ih26 (n2 + z67) z79 m2 (u + 1) (by omega) (by omega) (by omega) (by omega) (by omega)
                  · skip
                    refine r_iload hL (x := z67) dX8_nearBy_91 rfl ?_
                    refine r_goto hL (tgt := 98) dX8_nearBy_93 (by decide) ?_
                    refine r_istore hL (lo' := [some (xR 120), some (xI a), some (xI b), some (xI (n2 + z67)), some (xI z79), some (xI z67), some (xI t), some (xI u), some (xI z67)]) dX8_nearBy_98 (by decide) rfl ?_
                    refine r_iinc hL (x := u) (lo' := [some (xR 120), some (xI a), some (xI b), some (xI (n2 + z67)), some (xI z79), some (xI z67), some (xI t), some (xI (u + 1)), some (xI z67)]) dX8_nearBy_100 (by decide) rfl rfl ?_
                    refine r_goto hL (tgt := 26) dX8_nearBy_103 (by decide) ?_
                    refine r_drop hL (lo' := [some (xR 120), some (xI a), some (xI b), some (xI (n2 + z67)), some (xI z79), some (xI z67), some (xI t), some (xI (u + 1)), none]) [8] rfl ?_
                    exact ih26 (n2 + z67) z79 z67 (u + 1) (by omega) (by omega) (by omega) (by omega) (by omega)
        exact lp26 _ n l m 0 (by omega) (by omega) (by omega) (by omega) (Nat.lt_succ_self _)
  exact lp12 _ 0 100000 0 0 (by omega) (by omega) (by omega) (by omega) (Nat.lt_succ_self _)

set_option maxHeartbeats 4000000 in
set_option maxRecDepth 20000 in
theorem m_X8_partsOf {K : Option xV → xW → xM → Prop} {μ : xM} (hB0 : BI μ) (a : Int) (ha : xne a) (b : Int) (hb0 : xne b) (hK : ∀ r, 1 ≤ r ∧ r ≤ 64 → K (some (xI r)) WW μ) : xMet yX8_partsOf cX8_partsOf 3 (some .int) 1 22 0 0 [xR 120, xI a, xI b] WW μ K := by
  refine xMet.go RX8 "partsOf" rfl rfl (by decide) [some (xR 120), some (xI a), some (xI b)] (Nat.le_of_ble_eq_true rfl) rfl (fun X hL => ?_)
  have hB := hB0
  refine r_aload_n hL (x := 120) dX8_partsOf_0 rfl ?_
  refine r_getr hL xcl8 0 (by decide) s_120 (by decide) fl_X8_7 (by decide) f_120_0 dX8_partsOf_1 ?_
  refine r_iconst hL dX8_partsOf_4 ?_
  refine r_iald hL dX8_partsOf_5 (by decide) s_121 (by decide) (by omega) (by omega) (fun hr5 => ?_)
  obtain ⟨z5, hz5⟩ : ∃ z, z = μ 121 1 := ⟨_, rfl⟩
  rw [← hz5] at hr5 ⊢
  have hb5 : 0 ≤ μ 121 1 ∧ μ 121 1 ≤ 2 := (show ((1 : Int) = 0 → 0 ≤ (μ 121 1) ∧ (μ 121 1) ≤ 8) ∧ ((1 : Int) = 1 → 0 ≤ (μ 121 1) ∧ (μ 121 1) ≤ 2) ∧ (2 ≤ (1 : Int) ∧ (1 : Int) ≤ 5 → 0 ≤ (μ 121 1) ∧ (μ 121 1) ≤ 9) ∧ (6 ≤ (1 : Int) ∧ (1 : Int) ≤ 13 → 0 ≤ (μ 121 1) ∧ (μ 121 1) ≤ 10) ∧ (30 ≤ (1 : Int) → 0 ≤ (μ 121 1) ∧ (μ 121 1) ≤ 7) from hB 121 1).2.1 (by omega)
  refine r_iconst hL dX8_partsOf_6 ?_
  refine r_icmp_ne hL (tgt := 22) dX8_partsOf_7 (by decide) (by omega) (by omega) (fun c7 => ?_) (fun c7 => ?_)
  · skip
    refine r_iconst hL dX8_partsOf_22 ?_
    exact r_iret hL dX8_partsOf_23 rfl (hK _ (by omega))
  · skip
    refine r_iload_n hL (x := a) dX8_partsOf_10 rfl ?_
    refine r_callS hL (st := []) (av := [xI a]) (m_X8_ones (μ := μ) a (fun z11 hc11 hc11_1 => ⟨rfl, ?_⟩)) ce_yX8_ones sm_yX8_ones ml_X8_121 dX8_partsOf_11 rfl (Nat.le_of_ble_eq_true rfl) ⟨Nat.le_of_ble_eq_true rfl, Nat.le_of_ble_eq_true rfl⟩ ⟨Nat.le_of_ble_eq_true rfl, Nat.le_of_ble_eq_true rfl⟩
    show X 0 0 WW μ 14 [some (xR 120), some (xI a), some (xI b)] [xI z11]
    refine r_iload_n hL (x := b) dX8_partsOf_14 rfl ?_
    refine r_callS hL (st := [xI z11]) (av := [xI b]) (m_X8_ones (μ := μ) b (fun z15 hc15 hc15_1 => ⟨rfl, ?_⟩)) ce_yX8_ones sm_yX8_ones ml_X8_121 dX8_partsOf_15 rfl (Nat.le_of_ble_eq_true rfl) ⟨Nat.le_of_ble_eq_true rfl, Nat.le_of_ble_eq_true rfl⟩ ⟨Nat.le_of_ble_eq_true rfl, Nat.le_of_ble_eq_true rfl⟩
    show X 0 0 WW μ 18 [some (xR 120), some (xI a), some (xI b)] [xI z15, xI z11]
    have ho1 := xonf_pos ha
    have ho2 := xonf_pos hb0
    have hp := xmul_bd (a := z11) (b := z15) (A := 8) (B := 8) (by omega) (by omega) (by omega) (by omega)
    have hp1 : 0 < z11 * z15 := Int.mul_pos (by omega) (by omega)
    refine r_imul hL dX8_partsOf_18 ?_
    refine r_goto hL (tgt := 23) dX8_partsOf_19 (by decide) ?_
    exact r_iret hL dX8_partsOf_23 rfl (hK _ (by omega))
