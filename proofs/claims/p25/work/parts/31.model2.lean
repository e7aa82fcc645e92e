set_option maxHeartbeats 4000000 in
set_option maxRecDepth 20000 in
theorem m_X8_changeOf {K : Option xV → xW → xM → Prop} {μ : xM} (hB0 : BI μ) (a : Int) (ha : 0 ≤ a ∧ a ≤ 7) (b : Int) (hb0 : 0 ≤ b ∧ b ≤ 7) (hK : ∀ r, r = mCh μ a b → 0 ≤ r ∧ r ≤ 9 → K (some (xI r)) WW μ) : xMet yX8_changeOf cX8_changeOf 4 (some .int) 1 21 0 0 [xR 120, xI a, xI b] WW μ K := by
  refine xMet.go RX8 "changeOf" rfl rfl (by decide) [some (xR 120), some (xI a), some (xI b), none] (Nat.le_of_ble_eq_true rfl) rfl (fun X hL => ?_)
  have hB := hB0
  refine r_iload_n hL (x := a) dX8_changeOf_0 rfl ?_
  refine r_iload_n hL (x := b) dX8_changeOf_1 rfl ?_
  refine r_icmp_ge hL (tgt := 11) dX8_changeOf_2 (by decide) (by omega) (by omega) (fun c2 => ?_) (fun c2 => ?_)
  · skip
    refine r_iload_n hL (x := a) dX8_changeOf_11 rfl ?_
    refine r_iload_n hL (x := b) dX8_changeOf_12 rfl ?_
    refine r_isub hL dX8_changeOf_13 ?_
    refine r_istore_n hL (lo' := [some (xR 120), some (xI a), some (xI b), some (xI (a - b))]) dX8_changeOf_14 (by decide) rfl ?_
    refine r_iload_n hL (x := a - b) dX8_changeOf_15 rfl ?_
    refine r_aload_n hL (x := 120) dX8_changeOf_16 rfl ?_
    refine r_getr hL xcl8 0 (by decide) s_120 (by decide) fl_X8_7 (by decide) f_120_0 dX8_changeOf_17 ?_
    refine r_iconst hL dX8_changeOf_20 ?_
    refine r_iald hL dX8_changeOf_21 (by decide) s_121 (by decide) (by omega) (by omega) (fun hr21 => ?_)
    obtain ⟨z21, hz21⟩ : ∃ z, z = μ 121 4 := ⟨_, rfl⟩
    rw [← hz21] at hr21 ⊢
    have hb21 : 0 ≤ μ 121 4 ∧ μ 121 4 ≤ 9 := (show ((4 : Int) = 0 → 0 ≤ (μ 121 4) ∧ (μ 121 4) ≤ 8) ∧ ((4 : Int) = 1 → 0 ≤ (μ 121 4) ∧ (μ 121 4) ≤ 2) ∧ (2 ≤ (4 : Int) ∧ (4 : Int) ≤ 5 → 0 ≤ (μ 121 4) ∧ (μ 121 4) ≤ 9) ∧ (6 ≤ (4 : Int) ∧ (4 : Int) ≤ 13 → 0 ≤ (μ 121 4) ∧ (μ 121 4) ≤ 10) ∧ (30 ≤ (4 : Int) → 0 ≤ (μ 121 4) ∧ (μ 121 4) ≤ 7) from hB 121 4).2.2.1 (by omega)
    have hp := xmul_bd (a := b - a) (b := z21) (A := b - a) (B := 9)
    have hp2 := xmul_bd (a := a - b) (b := z21) (A := a - b) (B := 9)
    have hp3 : (a < b → 0 ≤ (b - a) * z21 ∧ (b - a) * z21 ≤ (b - a) * 9) := fun h => hp (by omega) (by omega) (by omega) (by omega)
    have hp4 : (¬ a < b → 0 ≤ (a - b) * z21 ∧ (a - b) * z21 ≤ (a - b) * 9) := fun h => hp2 (by omega) (by omega) (by omega) (by omega)
    clear hp hp2
    refine r_imul hL dX8_changeOf_22 ?_
    refine r_iload_n hL (x := a - b) dX8_changeOf_23 rfl ?_
    refine r_if_ne hL (tgt := 31) dX8_changeOf_24 (by decide) (by omega) (fun c24 => ?_) (fun c24 => ?_)
    · skip
      refine r_aload_n hL (x := 120) dX8_changeOf_31 rfl ?_
      refine r_getr hL xcl8 0 (by decide) s_120 (by decide) fl_X8_7 (by decide) f_120_0 dX8_changeOf_32 ?_
      refine r_iconst hL dX8_changeOf_35 ?_
      refine r_iald hL dX8_changeOf_36 (by decide) s_121 (by decide) (by omega) (by omega) (fun hr36 => ?_)
      obtain ⟨z36, hz36⟩ : ∃ z, z = μ 121 5 := ⟨_, rfl⟩
      rw [← hz36] at hr36 ⊢
      have hb36 : 0 ≤ μ 121 5 ∧ μ 121 5 ≤ 9 := (show ((5 : Int) = 0 → 0 ≤ (μ 121 5) ∧ (μ 121 5) ≤ 8) ∧ ((5 : Int) = 1 → 0 ≤ (μ 121 5) ∧ (μ 121 5) ≤ 2) ∧ (2 ≤ (5 : Int) ∧ (5 : Int) ≤ 5 → 0 ≤ (μ 121 5) ∧ (μ 121 5) ≤ 9) ∧ (6 ≤ (5 : Int) ∧ (5 : Int) ≤ 13 → 0 ≤ (μ 121 5) ∧ (μ 121 5) ≤ 10) ∧ (30 ≤ (5 : Int) → 0 ≤ (μ 121 5) ∧ (μ 121 5) ≤ 7) from hB 121 5).2.2.1 (by omega)
      refine r_callS hL (st := []) (av := [xI ((a - b) * z21), xI z36]) (m_X8_lesser (μ := μ) ((a - b) * z21) (by omega) z36 (by omega) (fun z37 hc37 => ⟨rfl, ?_⟩)) ce_yX8_lesser sm_yX8_lesser ml_X8_77 dX8_changeOf_37 rfl (Nat.le_of_ble_eq_true rfl) ⟨Nat.le_of_ble_eq_true rfl, Nat.le_of_ble_eq_true rfl⟩ ⟨Nat.le_of_ble_eq_true rfl, Nat.le_of_ble_eq_true rfl⟩
      show X 0 0 WW μ 40 [some (xR 120), some (xI a), some (xI b), some (xI (a - b))] [xI z37]
      exact r_iret hL dX8_changeOf_40 rfl (hK _ (by unfold mCh; rw [← hz21]; (try rw [← hz36]); repeat (first | omega | split)) (by omega))
    · skip
      refine r_iconst hL dX8_changeOf_27 ?_
      refine r_goto hL (tgt := 37) dX8_changeOf_28 (by decide) ?_
      refine r_callS hL (st := []) (av := [xI ((a - b) * z21), xI 0]) (m_X8_lesser (μ := μ) ((a - b) * z21) (by omega) 0 (by omega) (fun z37 hc37 => ⟨rfl, ?_⟩)) ce_yX8_lesser sm_yX8_lesser ml_X8_77 dX8_changeOf_37 rfl (Nat.le_of_ble_eq_true rfl) ⟨Nat.le_of_ble_eq_true rfl, Nat.le_of_ble_eq_true rfl⟩ ⟨Nat.le_of_ble_eq_true rfl, Nat.le_of_ble_eq_true rfl⟩
      show X 0 0 WW μ 40 [some (xR 120), some (xI a), some (xI b), some (xI (a - b))] [xI z37]
      exact r_iret hL dX8_changeOf_40 rfl (hK _ (by unfold mCh; rw [← hz21]; (try rw [← hz36]); repeat (first | omega | split)) (by omega))
  · skip
    refine r_iload_n hL (x := b) dX8_changeOf_5 rfl ?_
    refine r_iload_n hL (x := a) dX8_changeOf_6 rfl ?_
    refine r_isub hL dX8_changeOf_7 ?_
    refine r_goto hL (tgt := 14) dX8_changeOf_8 (by decide) ?_
    refine r_istore_n hL (lo' := [some (xR 120), some (xI a), some (xI b), some (xI (b - a))]) dX8_changeOf_14 (by decide) rfl ?_
    refine r_iload_n hL (x := b - a) dX8_changeOf_15 rfl ?_
    refine r_aload_n hL (x := 120) dX8_changeOf_16 rfl ?_
    refine r_getr hL xcl8 0 (by decide) s_120 (by decide) fl_X8_7 (by decide) f_120_0 dX8_changeOf_17 ?_
    refine r_iconst hL dX8_changeOf_20 ?_
    refine r_iald hL dX8_changeOf_21 (by decide) s_121 (by decide) (by omega) (by omega) (fun hr21 => ?_)
    obtain ⟨z21, hz21⟩ : ∃ z, z = μ 121 4 := ⟨_, rfl⟩
    rw [← hz21] at hr21 ⊢
    have hb21 : 0 ≤ μ 121 4 ∧ μ 121 4 ≤ 9 := (show ((4 : Int) = 0 → 0 ≤ (μ 121 4) ∧ (μ 121 4) ≤ 8) ∧ ((4 : Int) = 1 → 0 ≤ (μ 121 4) ∧ (μ 121 4) ≤ 2) ∧ (2 ≤ (4 : Int) ∧ (4 : Int) ≤ 5 → 0 ≤ (μ 121 4) ∧ (μ 121 4) ≤ 9) ∧ (6 ≤ (4 : Int) ∧ (4 : Int) ≤ 13 → 0 ≤ (μ 121 4) ∧ (μ 121 4) ≤ 10) ∧ (30 ≤ (4 : Int) → 0 ≤ (μ 121 4) ∧ (μ 121 4) ≤ 7) from hB 121 4).2.2.1 (by omega)
    have hp := xmul_bd (a := b - a) (b := z21) (A := b - a) (B := 9)
    have hp2 := xmul_bd (a := a - b) (b := z21) (A := a - b) (B := 9)
    have hp3 : (a < b → 0 ≤ (b - a) * z21 ∧ (b - a) * z21 ≤ (b - a) * 9) := fun h => hp (by omega) (by omega) (by omega) (by omega)
    have hp4 : (¬ a < b → 0 ≤ (a - b) * z21 ∧ (a - b) * z21 ≤ (a - b) * 9) := fun h => hp2 (by omega) (by omega) (by omega) (by omega)
    clear hp hp2
    refine r_imul hL dX8_changeOf_22 ?_
    refine r_iload_n hL (x := b - a) dX8_changeOf_23 rfl ?_
    refine r_if_ne hL (tgt := 31) dX8_changeOf_24 (by decide) (by omega) (fun c24 => ?_) (fun c24 => ?_)
    · skip
      refine r_aload_n hL (x := 120) dX8_changeOf_31 rfl ?_
      refine r_getr hL xcl8 0 (by decide) s_120 (by decide) fl_X8_7 (by decide) f_120_0 dX8_changeOf_32 ?_
      refine r_iconst hL dX8_changeOf_35 ?_
      refine r_iald hL dX8_changeOf_36 (by decide) s_121 (by decide) (by omega) (by omega) (fun hr36 => ?_)
      obtain ⟨z36, hz36⟩ : ∃ z, z = μ 121 5 := ⟨_, rfl⟩
      rw [← hz36] at hr36 ⊢
      have hb36 : 0 ≤ μ 121 5 ∧ μ 121 5 ≤ 9 := (show ((5 : Int) = 0 → 0 ≤ (μ 121 5) ∧ (μ 121 5) ≤ 8) ∧ ((5 : Int) = 1 → 0 ≤ (μ 121 5) ∧ (μ 121 5) ≤ 2) ∧ (2 ≤ (5 : Int) ∧ (5 : Int) ≤ 5 → 0 ≤ (μ 121 5) ∧ (μ 121 5) ≤ 9) ∧ (6 ≤ (5 : Int) ∧ (5 : Int) ≤ 13 → 0 ≤ (μ 121 5) ∧ (μ 121 5) ≤ 10) ∧ (30 ≤ (5 : Int) → 0 ≤ (μ 121 5) ∧ (μ 121 5) ≤ 7) from hB 121 5).2.2.1 (by omega)
      refine r_callS hL (st := []) (av := [xI ((b - a) * z21), xI z36]) (m_X8_lesser (μ := μ) ((b - a) * z21) (by omega) z36 (by omega) (fun z37 hc37 => ⟨rfl, ?_⟩)) ce_yX8_lesser sm_yX8_lesser ml_X8_77 dX8_changeOf_37 rfl (Nat.le_of_ble_eq_true rfl) ⟨Nat.le_of_ble_eq_true rfl, Nat.le_of_ble_eq_true rfl⟩ ⟨Nat.le_of_ble_eq_true rfl, Nat.le_of_ble_eq_true rfl⟩
      show X 0 0 WW μ 40 [some (xR 120), some (xI a), some (xI b), some (xI (b - a))] [xI z37]
      exact r_iret hL dX8_changeOf_40 rfl (hK _ (by unfold mCh; rw [← hz21]; (try rw [← hz36]); repeat (first | omega | split)) (by omega))
    · skip
      refine r_iconst hL dX8_changeOf_27 ?_
      refine r_goto hL (tgt := 37) dX8_changeOf_28 (by decide) ?_
      refine r_callS hL (st := []) (av := [xI ((b - a) * z21), xI 0]) (m_X8_lesser (μ := μ) ((b - a) * z21) (by omega) 0 (by omega) (fun z37 hc37 => ⟨rfl, ?_⟩)) ce_yX8_lesser sm_yX8_lesser ml_X8_77 dX8_changeOf_37 rfl (Nat.le_of_ble_eq_true rfl) ⟨Nat.le_of_ble_eq_true rfl, Nat.le_of_ble_eq_true rfl⟩ ⟨Nat.le_of_ble_eq_true rfl, Nat.le_of_ble_eq_true rfl⟩
      show X 0 0 WW μ 40 [some (xR 120), some (xI a), some (xI b), some (xI (b - a))] [xI z37]
      exact r_iret hL dX8_changeOf_40 rfl (hK _ (by unfold mCh; rw [← hz21]; (try rw [← hz36]); repeat (first | omega | split)) (by omega))

set_option maxHeartbeats 4000000 in
set_option maxRecDepth 20000 in
theorem m_X8_isTurned {K : Option xV → xW → xM → Prop} {μ : xM} (hB0 : BI μ) (i : Int) (hi : 0 ≤ i ∧ i ≤ 10) (j : Int) (hj : 0 ≤ j ∧ j ≤ 10) (hK : ∀ r, (r = 1 ∧ mTu μ i j) ∨ (r = 0 ∧ ¬ mTu μ i j) → K (some (xI r)) WW μ) : xMet yX8_isTurned cX8_isTurned 4 (some .boolean) 0 0 0 0 [xR 120, xI i, xI j] WW μ K := by
  refine xMet.go RX8 "isTurned" rfl rfl (by decide) [some (xR 120), some (xI i), some (xI j), none] (Nat.le_of_ble_eq_true rfl) rfl (fun X hL => ?_)
  have hB := hB0
  refine r_iload_n hL (x := i) dX8_isTurned_0 rfl ?_
  refine r_iconst hL dX8_isTurned_1 ?_
  refine r_iadd hL dX8_isTurned_2 ?_
  refine r_aload_n hL (x := 120) dX8_isTurned_3 rfl ?_
  refine r_geti hL xcl8 11 (j' := 11) rfl (by decide) s_120 (by decide) fl_X8_66 (by decide) (by decide) dX8_isTurned_4 (fun hr4 => ?_)
  obtain ⟨z4, hz4⟩ : ∃ z, z = μ 120 11 := ⟨_, rfl⟩
  rw [← hz4] at hr4 ⊢
  have hb4 : 0 ≤ μ 120 11 ∧ μ 120 11 ≤ 10 := (show ((11 : Int) = 2 → 0 ≤ (μ 120 11) ∧ (μ 120 11) ≤ 16) ∧ ((11 : Int) = 6 → 0 ≤ (μ 120 11) ∧ (μ 120 11) ≤ 10) ∧ ((11 : Int) = 8 → 0 ≤ (μ 120 11) ∧ (μ 120 11) ≤ 20) ∧ ((11 : Int) = 9 → 0 ≤ (μ 120 11) ∧ (μ 120 11) ≤ 2147483647) ∧ ((11 : Int) = 11 → 0 ≤ (μ 120 11) ∧ (μ 120 11) ≤ 10) ∧ ((11 : Int) = 13 → 0 ≤ (μ 120 11) ∧ (μ 120 11) ≤ 10) ∧ ((11 : Int) = 20 → 0 ≤ (μ 120 11) ∧ (μ 120 11) ≤ 8) from hB 120 11).2.2.2.2.1 (by omega)
  refine r_icmp_ge hL (tgt := 24) dX8_isTurned_7 (by decide) (by omega) (by omega) (fun c7 => ?_) (fun c7 => ?_)
  · skip
    refine r_iconst hL dX8_isTurned_24 ?_
    refine r_istore_n hL (lo' := [some (xR 120), some (xI i), some (xI j), some (xI 0)]) dX8_isTurned_25 (by decide) rfl ?_
    refine r_iload_n hL (x := 0) dX8_isTurned_26 rfl ?_
    refine r_if_eq hL (tgt := 83) dX8_isTurned_27 (by decide) (by omega) (fun c27 => ?_) (fun c27 => ?_)
    · skip
      refine r_iconst hL dX8_isTurned_83 ?_
      exact r_zret hL dX8_isTurned_84 rfl (by omega) (hK _ (by omega))
    · skip
      refine r_aload_n hL (x := 120) dX8_isTurned_30 rfl ?_
      refine r_getr hL xcl8 10 (by decide) s_120 (by decide) fl_X8_29 (by decide) f_120_10 dX8_isTurned_31 ?_
      refine r_iload_n hL (x := i) dX8_isTurned_34 rfl ?_
      refine r_iald hL dX8_isTurned_35 (by decide) s_127 (by decide) (by omega) (by omega) (fun hr35 => ?_)
      obtain ⟨z35, hz35⟩ : ∃ z, z = μ 127 i := ⟨_, rfl⟩
      rw [← hz35] at hr35 ⊢
      have hb35 : 0 ≤ (μ 127 i) ∧ (μ 127 i) ≤ 7 := hB 127 i
      refine r_aload_n hL (x := 120) dX8_isTurned_36 rfl ?_
      refine r_getr hL xcl8 12 (by decide) s_120 (by decide) fl_X8_32 (by decide) f_120_12 dX8_isTurned_37 ?_
      refine r_iload_n hL (x := j) dX8_isTurned_40 rfl ?_
      refine r_iconst hL dX8_isTurned_41 ?_
      refine r_iadd hL dX8_isTurned_42 ?_
      refine r_iald hL dX8_isTurned_43 (by decide) s_128 (by decide) (by omega) (by omega) (fun hr43 => ?_)
      obtain ⟨z43, hz43⟩ : ∃ z, z = μ 128 (j + 1) := ⟨_, rfl⟩
      rw [← hz43] at hr43 ⊢
      have hb43 : 0 ≤ (μ 128 (j + 1)) ∧ (μ 128 (j + 1)) ≤ 7 := hB 128 (j + 1)
      refine r_icmp_ne hL (tgt := 83) dX8_isTurned_44 (by decide) (by omega) (by omega) (fun c44 => ?_) (fun c44 => ?_)
      · skip
        refine r_iconst hL dX8_isTurned_83 ?_
        exact r_zret hL dX8_isTurned_84 rfl (by omega) (hK _ (by omega))
      · skip
        refine r_aload_n hL (x := 120) dX8_isTurned_47 rfl ?_
        refine r_getr hL xcl8 10 (by decide) s_120 (by decide) fl_X8_29 (by decide) f_120_10 dX8_isTurned_48 ?_
        refine r_iload_n hL (x := i) dX8_isTurned_51 rfl ?_
        refine r_iconst hL dX8_isTurned_52 ?_
        refine r_iadd hL dX8_isTurned_53 ?_
        refine r_iald hL dX8_isTurned_54 (by decide) s_127 (by decide) (by omega) (by omega) (fun hr54 => ?_)
        obtain ⟨z54, hz54⟩ : ∃ z, z = μ 127 (i + 1) := ⟨_, rfl⟩
        rw [← hz54] at hr54 ⊢
        have hb54 : 0 ≤ (μ 127 (i + 1)) ∧ (μ 127 (i + 1)) ≤ 7 := hB 127 (i + 1)
        refine r_aload_n hL (x := 120) dX8_isTurned_55 rfl ?_
        refine r_getr hL xcl8 12 (by decide) s_120 (by decide) fl_X8_32 (by decide) f_120_12 dX8_isTurned_56 ?_
        refine r_iload_n hL (x := j) dX8_isTurned_59 rfl ?_
        refine r_iald hL dX8_isTurned_60 (by decide) s_128 (by decide) (by omega) (by omega) (fun hr60 => ?_)
        obtain ⟨z60, hz60⟩ : ∃ z, z = μ 128 j := ⟨_, rfl⟩
        rw [← hz60] at hr60 ⊢
        have hb60 : 0 ≤ (μ 128 j) ∧ (μ 128 j) ≤ 7 := hB 128 j
        refine r_icmp_ne hL (tgt := 83) dX8_isTurned_61 (by decide) (by omega) (by omega) (fun c61 => ?_) (fun c61 => ?_)
        · skip
          refine r_iconst hL dX8_isTurned_83 ?_
          exact r_zret hL dX8_isTurned_84 rfl (by omega) (hK _ (by omega))
        · skip
          refine r_aload_n hL (x := 120) dX8_isTurned_64 rfl ?_
          refine r_getr hL xcl8 10 (by decide) s_120 (by decide) fl_X8_29 (by decide) f_120_10 dX8_isTurned_65 ?_
          refine r_iload_n hL (x := i) dX8_isTurned_68 rfl ?_
          refine r_iald hL dX8_isTurned_69 (by decide) s_127 (by decide) (by omega) (by omega) (fun hr69 => ?_)
          obtain ⟨z69, hz69⟩ : ∃ z, z = μ 127 i := ⟨_, rfl⟩
          rw [← hz69] at hr69 ⊢
          have hb69 : 0 ≤ (μ 127 i) ∧ (μ 127 i) ≤ 7 := hB 127 i
          refine r_aload_n hL (x := 120) dX8_isTurned_70 rfl ?_
          refine r_getr hL xcl8 12 (by decide) s_120 (by decide) fl_X8_32 (by decide) f_120_12 dX8_isTurned_71 ?_
          refine r_iload_n hL (x := j) dX8_isTurned_74 rfl ?_
          refine r_iald hL dX8_isTurned_75 (by decide) s_128 (by decide) (by omega) (by omega) (fun hr75 => ?_)
          obtain ⟨z75, hz75⟩ : ∃ z, z = μ 128 j := ⟨_, rfl⟩
          rw [← hz75] at hr75 ⊢
          have hb75 : 0 ≤ (μ 128 j) ∧ (μ 128 j) ≤ 7 := hB 128 j
          refine r_icmp_eq hL (tgt := 83) dX8_isTurned_76 (by decide) (by omega) (by omega) (fun c76 => ?_) (fun c76 => ?_)
          · skip
            refine r_iconst hL dX8_isTurned_83 ?_
            exact r_zret hL dX8_isTurned_84 rfl (by omega) (hK _ (by omega))
          · skip
            refine r_iconst hL dX8_isTurned_79 ?_
            refine r_goto hL (tgt := 84) dX8_isTurned_80 (by decide) ?_
            exact r_zret hL dX8_isTurned_84 rfl (by omega) (hK _ (by omega))
  · skip
    refine r_iload_n hL (x := j) dX8_isTurned_10 rfl ?_
    refine r_iconst hL dX8_isTurned_11 ?_
    refine r_iadd hL dX8_isTurned_12 ?_
    refine r_aload_n hL (x := 120) dX8_isTurned_13 rfl ?_
    refine r_geti hL xcl8 13 (j' := 13) rfl (by decide) s_120 (by decide) fl_X8_70 (by decide) (by decide) dX8_isTurned_14 (fun hr14 => ?_)
    obtain ⟨z14, hz14⟩ : ∃ z, z = μ 120 13 := ⟨_, rfl⟩
    rw [← hz14] at hr14 ⊢
    have hb14 : 0 ≤ μ 120 13 ∧ μ 120 13 ≤ 10 := (show ((13 : Int) = 2 → 0 ≤ (μ 120 13) ∧ (μ 120 13) ≤ 16) ∧ ((13 : Int) = 6 → 0 ≤ (μ 120 13) ∧ (μ 120 13) ≤ 10) ∧ ((13 : Int) = 8 → 0 ≤ (μ 120 13) ∧ (μ 120 13) ≤ 20) ∧ ((13 : Int) = 9 → 0 ≤ (μ 120 13) ∧ (μ 120 13) ≤ 2147483647) ∧ ((13 : Int) = 11 → 0 ≤ (μ 120 13) ∧ (μ 120 13) ≤ 10) ∧ ((13 : Int) = 13 → 0 ≤ (μ 120 13) ∧ (μ 120 13) ≤ 10) ∧ ((13 : Int) = 20 → 0 ≤ (μ 120 13) ∧ (μ 120 13) ≤ 8) from hB 120 13).2.2.2.2.2.1 (by omega)
    refine r_icmp_ge hL (tgt := 24) dX8_isTurned_17 (by decide) (by omega) (by omega) (fun c17 => ?_) (fun c17 => ?_)
    · skip
      refine r_iconst hL dX8_isTurned_24 ?_
      refine r_istore_n hL (lo' := [some (xR 120), some (xI i), some (xI j), some (xI 0)]) dX8_isTurned_25 (by decide) rfl ?_
      refine r_iload_n hL (x := 0) dX8_isTurned_26 rfl ?_
      refine r_if_eq hL (tgt := 83) dX8_isTurned_27 (by decide) (by omega) (fun c27 => ?_) (fun c27 => ?_)
      · skip
        refine r_iconst hL dX8_isTurned_83 ?_
        exact r_zret hL dX8_isTurned_84 rfl (by omega) (hK _ (by omega))
      · skip
        refine r_aload_n hL (x := 120) dX8_isTurned_30 rfl ?_
        refine r_getr hL xcl8 10 (by decide) s_120 (by decide) fl_X8_29 (by decide) f_120_10 dX8_isTurned_31 ?_
        refine r_iload_n hL (x := i) dX8_isTurned_34 rfl ?_
        refine r_iald hL dX8_isTurned_35 (by decide) s_127 (by decide) (by omega) (by omega) (fun hr35 => ?_)
        obtain ⟨z35, hz35⟩ : ∃ z, z = μ 127 i := ⟨_, rfl⟩
        rw [← hz35] at hr35 ⊢
        have hb35 : 0 ≤ (μ 127 i) ∧ (μ 127 i) ≤ 7 := hB 127 i
        refine r_aload_n hL (x := 120) dX8_isTurned_36 rfl ?_
        refine r_getr hL xcl8 12 (by decide) s_120 (by decide) fl_X8_32 (by decide) f_120_12 dX8_isTurned_37 ?_
        refine r_iload_n hL (x := j) dX8_isTurned_40 rfl ?_
        refine r_iconst hL dX8_isTurned_41 ?_
        refine r_iadd hL dX8_isTurned_42 ?_
        refine r_iald hL dX8_isTurned_43 (by decide) s_128 (by decide) (by omega) (by omega) (fun hr43 => ?_)
        obtain ⟨z43, hz43⟩ : ∃ z, z = μ 128 (j + 1) := ⟨_, rfl⟩
        rw [← hz43] at hr43 ⊢
        have hb43 : 0 ≤ (μ 128 (j + 1)) ∧ (μ 128 (j + 1)) ≤ 7 := hB 128 (j + 1)
        refine r_icmp_ne hL (tgt := 83) dX8_isTurned_44 (by decide) (by omega) (by omega) (fun c44 => ?_) (fun c44 => ?_)
        · skip
          refine r_iconst hL dX8_isTurned_83 ?_
          exact r_zret hL dX8_isTurned_84 rfl (by omega) (hK _ (by omega))
        · skip
          refine r_aload_n hL (x := 120) dX8_isTurned_47 rfl ?_
          refine r_getr hL xcl8 10 (by decide) s_120 (by decide) fl_X8_29 (by decide) f_120_10 dX8_isTurned_48 ?_
          refine r_iload_n hL (x := i) dX8_isTurned_51 rfl ?_
          refine r_iconst hL dX8_isTurned_52 ?_
          refine r_iadd hL dX8_isTurned_53 ?_
          refine r_iald hL dX8_isTurned_54 (by decide) s_127 (by decide) (by omega) (by omega) (fun hr54 => ?_)
          obtain ⟨z54, hz54⟩ : ∃ z, z = μ 127 (i + 1) := ⟨_, rfl⟩
          rw [← hz54] at hr54 ⊢
          have hb54 : 0 ≤ (μ 127 (i + 1)) ∧ (μ 127 (i + 1)) ≤ 7 := hB 127 (i + 1)
          refine r_aload_n hL (x := 120) dX8_isTurned_55 rfl ?_
          refine r_getr hL xcl8 12 (by decide) s_120 (by decide) fl_X8_32 (by decide) f_120_12 dX8_isTurned_56 ?_
          refine r_iload_n hL (x := j) dX8_isTurned_59 rfl ?_
          refine r_iald hL dX8_isTurned_60 (by decide) s_128 (by decide) (by omega) (by omega) (fun hr60 => ?_)
          obtain ⟨z60, hz60⟩ : ∃ z, z = μ 128 j := ⟨_, rfl⟩
          rw [← hz60] at hr60 ⊢
          have hb60 : 0 ≤ (μ 128 j) ∧ (μ 128 j) ≤ 7 := hB 128 j
          refine r_icmp_ne hL (tgt := 83) dX8_isTurned_61 (by decide) (by omega) (by omega) (fun c61 => ?_) (fun c61 => ?_)
          · skip
            refine r_iconst hL dX8_isTurned_83 ?_
            exact r_zret hL dX8_isTurned_84 rfl (by omega) (hK _ (by omega))
          · skip
            refine r_aload_n hL (x := 120) dX8_isTurned_64 rfl ?_
            refine r_getr hL xcl8 10 (by decide) s_120 (by decide) fl_X8_29 (by decide) f_120_10 dX8_isTurned_65 ?_
            refine r_iload_n hL (x := i) dX8_isTurned_68 rfl ?_
            refine r_iald hL dX8_isTurned_69 (by decide) s_127 (by decide) (by omega) (by omega) (fun hr69 => ?_)
            obtain ⟨z69, hz69⟩ : ∃ z, z = μ 127 i := ⟨_, rfl⟩
            rw [← hz69] at hr69 ⊢
            have hb69 : 0 ≤ (μ 127 i) ∧ (μ 127 i) ≤ 7 := hB 127 i
            refine r_aload_n hL (x := 120) dX8_isTurned_70 rfl ?_
            refine r_getr hL xcl8 12 (by decide) s_120 (by decide) fl_X8_32 (by decide) f_120_12 dX8_isTurned_71 ?_
            refine r_iload_n hL (x := j) dX8_isTurned_74 rfl ?_
            refine r_iald hL dX8_isTurned_75 (by decide) s_128 (by decide) (by omega) (by omega) (fun hr75 => ?_)
            obtain ⟨z75, hz75⟩ : ∃ z, z = μ 128 j := ⟨_, rfl⟩
            rw [← hz75] at hr75 ⊢
            have hb75 : 0 ≤ (μ 128 j) ∧ (μ 128 j) ≤ 7 := hB 128 j
            refine r_icmp_eq hL (tgt := 83) dX8_isTurned_76 (by decide) (by omega) (by omega) (fun c76 => ?_) (fun c76 => ?_)
            · skip
              refine r_iconst hL dX8_isTurned_83 ?_
              exact r_zret hL dX8_isTurned_84 rfl (by omega) (hK _ (by omega))
            · skip
              refine r_iconst hL dX8_isTurned_79 ?_
              refine r_goto hL (tgt := 84) dX8_isTurned_80 (by decide) ?_
              exact r_zret hL dX8_isTurned_84 rfl (by omega) (hK _ (by omega))
    · skip
      refine r_iconst hL dX8_isTurned_20 ?_
      refine r_goto hL (tgt := 25) dX8_isTurned_21 (by decide) ?_
      refine r_istore_n hL (lo' := [some (xR 120), some (xI i), some (xI j), some (xI 1)]) dX8_isTurned_25 (by decide) rfl ?_
      refine r_iload_n hL (x := 1) dX8_isTurned_26 rfl ?_
      refine r_if_eq hL (tgt := 83) dX8_isTurned_27 (by decide) (by omega) (fun c27 => ?_) (fun c27 => ?_)
      · skip
        refine r_iconst hL dX8_isTurned_83 ?_
        exact r_zret hL dX8_isTurned_84 rfl (by omega) (hK _ (by omega))
      · skip
        refine r_aload_n hL (x := 120) dX8_isTurned_30 rfl ?_
        refine r_getr hL xcl8 10 (by decide) s_120 (by decide) fl_X8_29 (by decide) f_120_10 dX8_isTurned_31 ?_
        refine r_iload_n hL (x := i) dX8_isTurned_34 rfl ?_
        refine r_iald hL dX8_isTurned_35 (by decide) s_127 (by decide) (by omega) (by omega) (fun hr35 => ?_)
        obtain ⟨z35, hz35⟩ : ∃ z, z = μ 127 i := ⟨_, rfl⟩
        rw [← hz35] at hr35 ⊢
        have hb35 : 0 ≤ (μ 127 i) ∧ (μ 127 i) ≤ 7 := hB 127 i
        refine r_aload_n hL (x := 120) dX8_isTurned_36 rfl ?_
        refine r_getr hL xcl8 12 (by decide) s_120 (by decide) fl_X8_32 (by decide) f_120_12 dX8_isTurned_37 ?_
        refine r_iload_n hL (x := j) dX8_isTurned_40 rfl ?_
        refine r_iconst hL dX8_isTurned_41 ?_
        refine r_iadd hL dX8_isTurned_42 ?_
        refine r_iald hL dX8_isTurned_43 (by decide) s_128 (by decide) (by omega) (by omega) (fun hr43 => ?_)
        obtain ⟨z43, hz43⟩ : ∃ z, z = μ 128 (j + 1) := ⟨_, rfl⟩
        rw [← hz43] at hr43 ⊢
        have hb43 : 0 ≤ (μ 128 (j + 1)) ∧ (μ 128 (j + 1)) ≤ 7 := hB 128 (j + 1)
        refine r_icmp_ne hL (tgt := 83) dX8_isTurned_44 (by decide) (by omega) (by omega) (fun c44 => ?_) (fun c44 => ?_)
        · skip
          refine r_iconst hL dX8_isTurned_83 ?_
          exact r_zret hL dX8_isTurned_84 rfl (by omega) (hK _ (by omega))
        · skip
          refine r_aload_n hL (x := 120) dX8_isTurned_47 rfl ?_
          refine r_getr hL xcl8 10 (by decide) s_120 (by decide) fl_X8_29 (by decide) f_120_10 dX8_isTurned_48 ?_
          refine r_iload_n hL (x := i) dX8_isTurned_51 rfl ?_
          refine r_iconst hL dX8_isTurned_52 ?_
          refine r_iadd hL dX8_isTurned_53 ?_
          refine r_iald hL dX8_isTurned_54 (by decide) s_127 (by decide) (by omega) (by omega) (fun hr54 => ?_)
          obtain ⟨z54, hz54⟩ : ∃ z, z = μ 127 (i + 1) := ⟨_, rfl⟩
          rw [← hz54] at hr54 ⊢
          have hb54 : 0 ≤ (μ 127 (i + 1)) ∧ (μ 127 (i + 1)) ≤ 7 := hB 127 (i + 1)
          refine r_aload_n hL (x := 120) dX8_isTurned_55 rfl ?_
          refine r_getr hL xcl8 12 (by decide) s_120 (by decide) fl_X8_32 (by decide) f_120_12 dX8_isTurned_56 ?_
          refine r_iload_n hL (x := j) dX8_isTurned_59 rfl ?_
          refine r_iald hL dX8_isTurned_60 (by decide) s_128 (by decide) (by omega) (by omega) (fun hr60 => ?_)
          obtain ⟨z60, hz60⟩ : ∃ z, z = μ 128 j := ⟨_, rfl⟩
          rw [← hz60] at hr60 ⊢
          have hb60 : 0 ≤ (μ 128 j) ∧ (μ 128 j) ≤ 7 := hB 128 j
          refine r_icmp_ne hL (tgt := 83) dX8_isTurned_61 (by decide) (by omega) (by omega) (fun c61 => ?_) (fun c61 => ?_)
          · skip
            refine r_iconst hL dX8_isTurned_83 ?_
            exact r_zret hL dX8_isTurned_84 rfl (by omega) (hK _ (by omega))
          · skip
            refine r_aload_n hL (x := 120) dX8_isTurned_64 rfl ?_
            refine r_getr hL xcl8 10 (by decide) s_120 (by decide) fl_X8_29 (by decide) f_120_10 dX8_isTurned_65 ?_
            refine r_iload_n hL (x := i) dX8_isTurned_68 rfl ?_
            refine r_iald hL dX8_isTurned_69 (by decide) s_127 (by decide) (by omega) (by omega) (fun hr69 => ?_)
            obtain ⟨z69, hz69⟩ : ∃ z, z = μ 127 i := ⟨_, rfl⟩
            rw [← hz69] at hr69 ⊢
            have hb69 : 0 ≤ (μ 127 i) ∧ (μ 127 i) ≤ 7 := hB 127 i
            refine r_aload_n hL (x := 120) dX8_isTurned_70 rfl ?_
            refine r_getr hL xcl8 12 (by decide) s_120 (by decide) fl_X8_32 (by decide) f_120_12 dX8_isTurned_71 ?_
            refine r_iload_n hL (x := j) dX8_isTurned_74 rfl ?_
            refine r_iald hL dX8_isTurned_75 (by decide) s_128 (by decide) (by omega) (by omega) (fun hr75 => ?_)
            obtain ⟨z75, hz75⟩ : ∃ z, z = μ 128 j := ⟨_, rfl⟩
            rw [← hz75] at hr75 ⊢
            have hb75 : 0 ≤ (μ 128 j) ∧ (μ 128 j) ≤ 7 := hB 128 j
            refine r_icmp_eq hL (tgt := 83) dX8_isTurned_76 (by decide) (by omega) (by omega) (fun c76 => ?_) (fun c76 => ?_)
            · skip
              refine r_iconst hL dX8_isTurned_83 ?_
              exact r_zret hL dX8_isTurned_84 rfl (by omega) (hK _ (by omega))
            · skip
              refine r_iconst hL dX8_isTurned_79 ?_
              refine r_goto hL (tgt := 84) dX8_isTurned_80 (by decide) ?_
              exact r_zret hL dX8_isTurned_84 rfl (by omega) (hK _ (by omega))
