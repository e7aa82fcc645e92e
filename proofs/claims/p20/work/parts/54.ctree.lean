set_option maxHeartbeats 4000000 in
set_option maxRecDepth 20000 in
theorem m_X6_nodesUpTo {K : Option xV → xW → xM → Prop} {μ : xM} (hB0 : BI μ) (h : Int) (hh : xrg h) (hK : ∀ r, 0 ≤ r ∧ r ≤ 7 → K (some (xI r)) WW μ) : xMet yX6_nodesUpTo cX6_nodesUpTo 3 (some .int) 0 0 0 0 [xR 102, xI h] WW μ K := by
  refine xMet.go RX6 "nodesUpTo" rfl rfl (by decide) [some (xR 102), some (xI h), none] (Nat.le_of_ble_eq_true rfl) rfl (fun X hL => ?_)
  have hB := hB0
  refine r_iconst hL dX6_nodesUpTo_0 ?_
  refine r_istore_n hL (lo' := [some (xR 102), some (xI h), some (xI 0)]) dX6_nodesUpTo_1 (by decide) rfl ?_
  have lp2 : ∀ (n2 : Nat) (n : Int), (0 ≤ n ∧ n ≤ 7) → ((7 - n).toNat) < n2 → X 0 0 WW μ 2 [some (xR 102), some (xI h), some (xI n)] [] := by
    intro n2
    induction n2 with
    | zero => intro n h1 hn; exact absurd hn (Nat.not_lt_zero _)
    | succ n2 ih2 =>
      intro n h1 hn2
      refine r_iload_n hL (x := n) dX6_nodesUpTo_2 rfl ?_
      refine r_aload_n hL (x := 102) dX6_nodesUpTo_3 rfl ?_
      refine r_geti hL xcl6 4 (j' := 4) rfl (by decide) s_102 (by decide) fl_X6_24 (by decide) (by decide) dX6_nodesUpTo_4 (fun hr4 => ?_)
      obtain ⟨z4, hz4⟩ : ∃ z, z = μ 102 4 := ⟨_, rfl⟩
      rw [← hz4] at hr4 ⊢
      have hb4 : 0 ≤ μ 102 4 ∧ μ 102 4 ≤ 7 := (show (4 : Int) = 4 → 0 ≤ (μ 102 4) ∧ (μ 102 4) ≤ 7 from hB 102 4) (by omega)
      refine r_icmp_ge hL (tgt := 26) dX6_nodesUpTo_7 (by decide) (by omega) (by omega) (fun c7 => ?_) (fun c7 => ?_)
      · skip
        refine r_iload_n hL (x := n) dX6_nodesUpTo_26 rfl ?_
        exact r_iret hL dX6_nodesUpTo_27 rfl (hK _ (by omega))
      · skip
        refine r_aload_n hL (x := 102) dX6_nodesUpTo_10 rfl ?_
        refine r_getr hL xcl6 0 (by decide) s_102 (by decide) fl_X6_9 (by decide) f_102_0 dX6_nodesUpTo_11 ?_
        refine r_iload_n hL (x := n) dX6_nodesUpTo_14 rfl ?_
        refine r_iald hL dX6_nodesUpTo_15 (by decide) s_103 (by decide) (by omega) (by omega) (fun hr15 => ?_)
        obtain ⟨z15, hz15⟩ : ∃ z, z = μ 103 n := ⟨_, rfl⟩
        rw [← hz15] at hr15 ⊢
        refine r_iload_n hL (x := h) dX6_nodesUpTo_16 rfl ?_
        refine r_icmp_gt hL (tgt := 26) dX6_nodesUpTo_17 (by decide) (by omega) (by omega) (fun c17 => ?_) (fun c17 => ?_)
        · skip
          refine r_iload_n hL (x := n) dX6_nodesUpTo_26 rfl ?_
          exact r_iret hL dX6_nodesUpTo_27 rfl (hK _ (by omega))
        · skip
          refine r_iinc hL (x := n) (lo' := [some (xR 102), some (xI h), some (xI (n + 1))]) dX6_nodesUpTo_20 (by decide) rfl rfl ?_
          refine r_goto hL (tgt := 2) dX6_nodesUpTo_23 (by decide) ?_
          exact ih2 (n + 1) (by omega) (by omega)
  exact lp2 _ 0 (by omega) (Nat.lt_succ_self _)

set_option maxHeartbeats 4000000 in
set_option maxRecDepth 20000 in
theorem m_X6_typeOf {K : Option xV → xW → xM → Prop} {μ : xM} (hB0 : BI μ) (t : Int) (ht : xrg t) (h : Int) (hh : xrg h) (hK : ∀ r, xrg r → K (some (xI r)) WW μ) : xMet yX6_typeOf cX6_typeOf 6 (some .int) 1 22 0 0 [xR 102, xI t, xI h] WW μ K := by
  refine xMet.go RX6 "typeOf" rfl rfl (by decide) [some (xR 102), some (xI t), some (xI h), none, none, none] (Nat.le_of_ble_eq_true rfl) rfl (fun X hL => ?_)
  have hB := hB0
  refine r_iconst hL dX6_typeOf_0 ?_
  refine r_iload_n hL (x := t) dX6_typeOf_1 rfl ?_
  refine r_ishl hL dX6_typeOf_2 ?_
  obtain ⟨z2, hz2⟩ : ∃ z, z = xshl 1 t := ⟨_, rfl⟩
  rw [← hz2]
  have hr2 : xrg z2 := by rw [hz2]; exact xshl_rg _ _
  refine r_istore_n hL (lo' := [some (xR 102), some (xI t), some (xI h), some (xI z2), none, none]) dX6_typeOf_3 (by decide) rfl ?_
  refine r_aload_n hL (x := 102) dX6_typeOf_4 rfl ?_
  refine r_iload_n hL (x := h) dX6_typeOf_5 rfl ?_
  refine r_callV hL (st := []) (av := [xI h]) (k := 102) (m_X6_nodesUpTo (μ := μ) hB h (by omega) (fun z6 hc6 => ⟨rfl, ?_⟩)) ce_yX6_nodesUpTo im_yX6_nodesUpTo se_yX6_nodesUpTo ml_X6_54 xcl6 (by decide) s_102 dX6_typeOf_6 rfl (Nat.le_of_ble_eq_true rfl) ⟨Nat.le_of_ble_eq_true rfl, Nat.le_of_ble_eq_true rfl⟩ ⟨Nat.le_of_ble_eq_true rfl, Nat.le_of_ble_eq_true rfl⟩
  show X 0 0 WW μ 9 [some (xR 102), some (xI t), some (xI h), some (xI z2), none, none] [xI z6]
  refine r_istore hL (lo' := [some (xR 102), some (xI t), some (xI h), some (xI z2), some (xI z6), none]) dX6_typeOf_9 (by decide) rfl ?_
  refine r_iconst hL dX6_typeOf_11 ?_
  refine r_istore hL (lo' := [some (xR 102), some (xI t), some (xI h), some (xI z2), some (xI z6), some (xI 0)]) dX6_typeOf_12 (by decide) rfl ?_
  have lp14 : ∀ (n14 : Nat) (u : Int) (n : Int), (xrg u) → (0 ≤ n ∧ n ≤ 7) → ((7 - n).toNat) < n14 → X 0 0 WW μ 14 [some (xR 102), some (xI t), some (xI h), some (xI u), some (xI z6), some (xI n)] [] := by
    intro n14
    induction n14 with
    | zero => intro u n h1 h2 hn; exact absurd hn (Nat.not_lt_zero _)
    | succ n14 ih14 =>
      intro u n h1 h2 hn14
      refine r_iload hL (x := n) dX6_typeOf_14 rfl ?_
      refine r_iload hL (x := z6) dX6_typeOf_16 rfl ?_
      refine r_icmp_ge hL (tgt := 50) dX6_typeOf_18 (by decide) (by omega) (by omega) (fun c18 => ?_) (fun c18 => ?_)
      · skip
        refine r_iload_n hL (x := u) dX6_typeOf_50 rfl ?_
        exact r_iret hL dX6_typeOf_51 rfl (hK _ (by omega))
      · skip
        refine r_aload_n hL (x := 102) dX6_typeOf_21 rfl ?_
        refine r_getr hL xcl6 1 (by decide) s_102 (by decide) fl_X6_15 (by decide) f_102_1 dX6_typeOf_22 ?_
        refine r_iload hL (x := n) dX6_typeOf_25 rfl ?_
        refine r_iald hL dX6_typeOf_27 (by decide) s_104 (by decide) (by omega) (by omega) (fun hr27 => ?_)
        obtain ⟨z27, hz27⟩ : ∃ z, z = μ 104 n := ⟨_, rfl⟩
        rw [← hz27] at hr27 ⊢
        refine r_iload_n hL (x := t) dX6_typeOf_28 rfl ?_
        refine r_ishr hL dX6_typeOf_29 ?_
        obtain ⟨z29, hz29⟩ : ∃ z, z = xshr z27 t := ⟨_, rfl⟩
        rw [← hz29]
        have hr29 : xrg z29 := by rw [hz29]; exact xshr_rg _ _
        refine r_iconst hL dX6_typeOf_30 ?_
        refine r_iand hL dX6_typeOf_31 ?_
        obtain ⟨z31, hz31⟩ : ∃ z, z = xand z29 1 := ⟨_, rfl⟩
        rw [← hz31]
        have hr31 : xrg z31 := by rw [hz31]; exact xand_rg _ _
        refine r_iconst hL dX6_typeOf_32 ?_
        refine r_icmp_ne hL (tgt := 44) dX6_typeOf_33 (by decide) (by omega) (by omega) (fun c33 => ?_) (fun c33 => ?_)
        · skip
          refine r_iinc hL (x := n) (lo' := [some (xR 102), some (xI t), some (xI h), some (xI u), some (xI z6), some (xI (n + 1))]) dX6_typeOf_44 (by decide) rfl rfl ?_
          refine r_goto hL (tgt := 14) dX6_typeOf_47 (by decide) ?_
          exact ih14 u (n + 1) (by omega) (by omega) (by omega)
        · skip
          refine r_aload_n hL (x := 102) dX6_typeOf_36 rfl ?_
          refine r_getr hL xcl6 1 (by decide) s_102 (by decide) fl_X6_15 (by decide) f_102_1 dX6_typeOf_37 ?_
          refine r_iload hL (x := n) dX6_typeOf_40 rfl ?_
          refine r_iald hL dX6_typeOf_42 (by decide) s_104 (by decide) (by omega) (by omega) (fun hr42 => ?_)
          obtain ⟨z42, hz42⟩ : ∃ z, z = μ 104 n := ⟨_, rfl⟩
          rw [← hz42] at hr42 ⊢
          refine r_istore_n hL (lo' := [some (xR 102), some (xI t), some (xI h), some (xI z42), some (xI z6), some (xI n)]) dX6_typeOf_43 (by decide) rfl ?_
          refine r_iinc hL (x := n) (lo' := [some (xR 102), some (xI t), some (xI h), some (xI z42), some (xI z6), some (xI (n + 1))]) dX6_typeOf_44 (by decide) rfl rfl ?_
          refine r_goto hL (tgt := 14) dX6_typeOf_47 (by decide) ?_
          exact ih14 z42 (n + 1) (by omega) (by omega) (by omega)
  exact lp14 _ z2 0 (by omega) (by omega) (Nat.lt_succ_self _)

set_option maxHeartbeats 4000000 in
set_option maxRecDepth 20000 in
theorem m_X6_compareTypes {K : Option xV → xW → xM → Prop} {μ : xM} (hB0 : BI μ) (a : Int) (ha : xrg a) (b : Int) (hb0 : xrg b) (q : Int) (hq0 : xrg q) (hK : ∀ μ', BI μ' → Fr CT μ μ' → K none WW μ') : xMet yX6_compareTypes cX6_compareTypes 11 none 1 26 0 0 [xR 102, xR 100, xI a, xI b, xI q] WW μ K := by
  refine xMet.go RX6 "compareTypes" rfl rfl (by decide) [some (xR 102), some (xR 100), some (xI a), some (xI b), some (xI q), none, none, none, none, none, none] (Nat.le_of_ble_eq_true rfl) rfl (fun X hL => ?_)
  have hB := hB0
  have hF : Fr CT μ μ := Fr.rf
  refine r_ldc hL (n := 1000000) dX6_compareTypes_0 kc_X6_62 (by decide) ?_
  refine r_istore hL (lo' := [some (xR 102), some (xR 100), some (xI a), some (xI b), some (xI q), some (xI 1000000), none, none, none, none, none]) dX6_compareTypes_2 (by decide) rfl ?_
  refine r_iconst hL dX6_compareTypes_4 ?_
  refine r_istore hL (lo' := [some (xR 102), some (xR 100), some (xI a), some (xI b), some (xI q), some (xI 1000000), some (xI 0), none, none, none, none]) dX6_compareTypes_5 (by decide) rfl ?_
  refine r_iconst hL dX6_compareTypes_7 ?_
  refine r_istore hL (lo' := [some (xR 102), some (xR 100), some (xI a), some (xI b), some (xI q), some (xI 1000000), some (xI 0), some (xI 0), none, none, none]) dX6_compareTypes_8 (by decide) rfl ?_
  refine r_iconst hL dX6_compareTypes_10 ?_
  refine r_istore hL (lo' := [some (xR 102), some (xR 100), some (xI a), some (xI b), some (xI q), some (xI 1000000), some (xI 0), some (xI 0), some (xI 0), none, none]) dX6_compareTypes_11 (by decide) rfl ?_
  have lp13 : ∀ (n13 : Nat) (l : Int) (m : Int) (n : Int) (t : Int), (0 ≤ l ∧ l ≤ 1000000) → (0 ≤ m ∧ m ≤ 180) → (0 ≤ n ∧ n ≤ 1440 * t) → (0 ≤ t ∧ t ≤ 8) → ((8 - t).toNat) < n13 → X 0 0 WW μ 13 [some (xR 102), some (xR 100), some (xI a), some (xI b), some (xI q), some (xI l), some (xI m), some (xI n), some (xI t), none, none] [] := by
    intro n13
    induction n13 with
    | zero => intro l m n t h1 h2 h3 h4 hn; exact absurd hn (Nat.not_lt_zero _)
    | succ n13 ih13 =>
      intro l m n t h1 h2 h3 h4 hn13
      refine r_iload hL (x := t) dX6_compareTypes_13 rfl ?_
      refine r_bipush hL dX6_compareTypes_15 (by decide) ?_
      refine r_icmp_ge hL (tgt := 99) dX6_compareTypes_17 (by decide) (by omega) (by omega) (fun c17 => ?_) (fun c17 => ?_)
      · skip
        refine r_aload_n hL (x := 102) dX6_compareTypes_99 rfl ?_
        refine r_iconst hL dX6_compareTypes_100 ?_
        refine r_puti hL xcl6 6 (j' := 6) rfl (by decide) s_102 (by decide) fl_X6_31 rfl rfl (by omega) dX6_compareTypes_101 (fun μ1 hm1 => ?_)
        have hB1 : BI μ1 := by rw [hm1]; exact hB.up (by show (6 : Int) = 4 → 0 ≤ 1 ∧ 1 ≤ 7; omega)
        have hF1 : Fr CT μ μ1 := by rw [hm1]; exact hF.up (by unfold CT; omega)
        refine r_iload hL (x := q) dX6_compareTypes_104 rfl ?_
        refine r_if_ne hL (tgt := 118) dX6_compareTypes_106 (by decide) (by omega) (fun c106 => ?_) (fun c106 => ?_)
        · skip
          refine r_iload hL (x := q) dX6_compareTypes_118 rfl ?_
          refine r_iconst hL dX6_compareTypes_120 ?_
          refine r_icmp_ne hL (tgt := 133) dX6_compareTypes_121 (by decide) (by omega) (by omega) (fun c121 => ?_) (fun c121 => ?_)
          · skip
            refine r_aload_n hL (x := 102) dX6_compareTypes_133 rfl ?_
            refine r_iload hL (x := n) dX6_compareTypes_134 rfl ?_
            refine r_puti hL xcl6 5 (j' := 5) rfl (by decide) s_102 (by decide) fl_X6_28 rfl rfl (by omega) dX6_compareTypes_136 (fun μ2 hm2 => ?_)
            have hB2 : BI μ2 := by rw [hm2]; exact hB1.up (by show (5 : Int) = 4 → 0 ≤ n ∧ n ≤ 7; omega)
            have hF2 : Fr CT μ μ2 := by rw [hm2]; exact hF1.up (by unfold CT; omega)
            refine r_aload_n hL (x := 102) dX6_compareTypes_139 rfl ?_
            refine r_iload_n hL (x := a) dX6_compareTypes_140 rfl ?_
            refine r_callS hL (st := [xR 102]) (av := [xI a]) (m_J6_bitCount_0f7a4 (μ := μ2) a (fun z141 hc141_1 hc141 => ⟨rfl, ?_⟩)) ce_yJ6_bitCount_0f7a4 sm_yJ6_bitCount_0f7a4 ml_X6_77 dX6_compareTypes_141 rfl (Nat.le_of_ble_eq_true rfl) ⟨Nat.le_of_ble_eq_true rfl, Nat.le_of_ble_eq_true rfl⟩ ⟨Nat.le_of_ble_eq_true rfl, Nat.le_of_ble_eq_true rfl⟩
            show X 0 0 WW μ2 144 [some (xR 102), some (xR 100), some (xI a), some (xI b), some (xI q), some (xI l), some (xI m), some (xI n), some (xI t), none, none] [xI z141, xR 102]
            refine r_iload_n hL (x := b) dX6_compareTypes_144 rfl ?_
            refine r_callS hL (st := [xI z141, xR 102]) (av := [xI b]) (m_J6_bitCount_0f7a4 (μ := μ2) b (fun z145 hc145_1 hc145 => ⟨rfl, ?_⟩)) ce_yJ6_bitCount_0f7a4 sm_yJ6_bitCount_0f7a4 ml_X6_77 dX6_compareTypes_145 rfl (Nat.le_of_ble_eq_true rfl) ⟨Nat.le_of_ble_eq_true rfl, Nat.le_of_ble_eq_true rfl⟩ ⟨Nat.le_of_ble_eq_true rfl, Nat.le_of_ble_eq_true rfl⟩
            show X 0 0 WW μ2 148 [some (xR 102), some (xR 100), some (xI a), some (xI b), some (xI q), some (xI l), some (xI m), some (xI n), some (xI t), none, none] [xI z145, xI z141, xR 102]
            refine r_imul hL dX6_compareTypes_148 ?_
            refine r_norm hL (fun y148 hy148 hyr148 => ?_)
            refine r_puti hL xcl6 6 (j' := 6) rfl (by decide) s_102 (by decide) fl_X6_31 rfl rfl (by omega) dX6_compareTypes_149 (fun μ3 hm3 => ?_)
            have hB3 : BI μ3 := by rw [hm3]; exact hB2.up (by show (6 : Int) = 4 → 0 ≤ y148 ∧ y148 ≤ 7; omega)
            have hF3 : Fr CT μ μ3 := by rw [hm3]; exact hF2.up (by unfold CT; omega)
            exact r_vret hL dX6_compareTypes_152 rfl (hK _ hB3 hF3)
          · skip
            refine r_aload_n hL (x := 102) dX6_compareTypes_124 rfl ?_
            refine r_iload hL (x := m) dX6_compareTypes_125 rfl ?_
            refine r_puti hL xcl6 5 (j' := 5) rfl (by decide) s_102 (by decide) fl_X6_28 rfl rfl (by omega) dX6_compareTypes_127 (fun μ4 hm4 => ?_)
            have hB4 : BI μ4 := by rw [hm4]; exact hB1.up (by show (5 : Int) = 4 → 0 ≤ m ∧ m ≤ 7; omega)
            have hF4 : Fr CT μ μ4 := by rw [hm4]; exact hF1.up (by unfold CT; omega)
            refine r_goto hL (tgt := 152) dX6_compareTypes_130 (by decide) ?_
            exact r_vret hL dX6_compareTypes_152 rfl (hK _ hB4 hF4)
        · skip
          refine r_aload_n hL (x := 102) dX6_compareTypes_109 rfl ?_
          refine r_iload hL (x := l) dX6_compareTypes_110 rfl ?_
          refine r_puti hL xcl6 5 (j' := 5) rfl (by decide) s_102 (by decide) fl_X6_28 rfl rfl (by omega) dX6_compareTypes_112 (fun μ5 hm5 => ?_)
          have hB5 : BI μ5 := by rw [hm5]; exact hB1.up (by show (5 : Int) = 4 → 0 ≤ l ∧ l ≤ 7; omega)
          have hF5 : Fr CT μ μ5 := by rw [hm5]; exact hF1.up (by unfold CT; omega)
          refine r_goto hL (tgt := 152) dX6_compareTypes_115 (by decide) ?_
          exact r_vret hL dX6_compareTypes_152 rfl (hK _ hB5 hF5)
      · skip
        refine r_iload_n hL (x := a) dX6_compareTypes_20 rfl ?_
        refine r_iload hL (x := t) dX6_compareTypes_21 rfl ?_
        refine r_ishr hL dX6_compareTypes_23 ?_
        obtain ⟨z23, hz23⟩ : ∃ z, z = xshr a t := ⟨_, rfl⟩
        rw [← hz23]
        have hr23 : xrg z23 := by rw [hz23]; exact xshr_rg _ _
        refine r_iconst hL dX6_compareTypes_24 ?_
        refine r_iand hL dX6_compareTypes_25 ?_
        obtain ⟨z25, hz25⟩ : ∃ z, z = xand z23 1 := ⟨_, rfl⟩
        rw [← hz25]
        have hr25 : xrg z25 := by rw [hz25]; exact xand_rg _ _
        refine r_if_ne hL (tgt := 32) dX6_compareTypes_26 (by decide) (by omega) (fun c26 => ?_) (fun c26 => ?_)
        · skip
          refine r_iconst hL dX6_compareTypes_32 ?_
          refine r_istore hL (lo' := [some (xR 102), some (xR 100), some (xI a), some (xI b), some (xI q), some (xI l), some (xI m), some (xI n), some (xI t), some (xI 0), none]) dX6_compareTypes_33 (by decide) rfl ?_
          have lp35 : ∀ (n35 : Nat) (l2 : Int) (m2 : Int) (n2 : Int) (u : Int), (0 ≤ l2 ∧ l2 ≤ 1000000) → (0 ≤ m2 ∧ m2 ≤ 180) → (0 ≤ n2 ∧ n2 ≤ 1440 * t + 180 * u) → (0 ≤ u ∧ u ≤ 8) → ((8 - u).toNat) < n35 → X 0 0 WW μ 35 [some (xR 102), some (xR 100), some (xI a), some (xI b), some (xI q), some (xI l2), some (xI m2), some (xI n2), some (xI t), some (xI u), none] [] := by
            intro n35
            induction n35 with
            | zero => intro l2 m2 n2 u h5 h6 h7 h8 hn; exact absurd hn (Nat.not_lt_zero _)
            | succ n35 ih35 =>
              intro l2 m2 n2 u h5 h6 h7 h8 hn35
              refine r_iload hL (x := u) dX6_compareTypes_35 rfl ?_
              refine r_bipush hL dX6_compareTypes_37 (by decide) ?_
              refine r_icmp_ge hL (tgt := 93) dX6_compareTypes_39 (by decide) (by omega) (by omega) (fun c39 => ?_) (fun c39 => ?_)
              · skip
                refine r_iinc hL (x := t) (lo' := [some (xR 102), some (xR 100), some (xI a), some (xI b), some (xI q), some (xI l2), some (xI m2), some (xI n2), some (xI (t + 1)), some (xI u), none]) dX6_compareTypes_93 (by decide) rfl rfl ?_
                refine r_goto hL (tgt := 13) dX6_compareTypes_96 (by decide) ?_
                refine r_drop hL (lo' := [some (xR 102), some (xR 100), some (xI a), some (xI b), some (xI q), some (xI l2), some (xI m2), some (xI n2), some (xI (t + 1)), none, none]) [9] rfl ?_
                exact ih13 l2 m2 n2 (t + 1) (by omega) (by omega) (by omega) (by omega) (by omega)
              · skip
                refine r_iload_n hL (x := b) dX6_compareTypes_42 rfl ?_
                refine r_iload hL (x := u) dX6_compareTypes_43 rfl ?_
                refine r_ishr hL dX6_compareTypes_45 ?_
                obtain ⟨z45, hz45⟩ : ∃ z, z = xshr b u := ⟨_, rfl⟩
                rw [← hz45]
                have hr45 : xrg z45 := by rw [hz45]; exact xshr_rg _ _
                refine r_iconst hL dX6_compareTypes_46 ?_
                refine r_iand hL dX6_compareTypes_47 ?_
                obtain ⟨z47, hz47⟩ : ∃ z, z = xand z45 1 := ⟨_, rfl⟩
                rw [← hz47]
                have hr47 : xrg z47 := by rw [hz47]; exact xand_rg _ _
                refine r_iconst hL dX6_compareTypes_48 ?_
                refine r_icmp_ne hL (tgt := 87) dX6_compareTypes_49 (by decide) (by omega) (by omega) (fun c49 => ?_) (fun c49 => ?_)
                · skip
                  refine r_iinc hL (x := u) (lo' := [some (xR 102), some (xR 100), some (xI a), some (xI b), some (xI q), some (xI l2), some (xI m2), some (xI n2), some (xI t), some (xI (u + 1)), none]) dX6_compareTypes_87 (by decide) rfl rfl ?_
                  refine r_goto hL (tgt := 35) dX6_compareTypes_90 (by decide) ?_
                  exact ih35 l2 m2 n2 (u + 1) (by omega) (by omega) (by omega) (by omega) (by omega)
                · skip
                  refine r_aload_n hL (x := 100) dX6_compareTypes_52 rfl ?_
                  refine r_iload hL (x := t) dX6_compareTypes_53 rfl ?_
                  refine r_iload hL (x := u) dX6_compareTypes_55 rfl ?_
                  refine r_callV hL (st := []) (av := [xI t, xI u]) (k := 100) (m_X2_between (μ := μ) hB t (by omega) u (by omega) (fun z57 hc57 hc57_1 => ⟨rfl, ?_⟩)) ce_yX2_between im_yX2_between se_yX2_between ml_X6_63 xcl2 (by decide) s_100 dX6_compareTypes_57 rfl (Nat.le_of_ble_eq_true rfl) ⟨Nat.le_of_ble_eq_true rfl, Nat.le_of_ble_eq_true rfl⟩ ⟨Nat.le_of_ble_eq_true rfl, Nat.le_of_ble_eq_true rfl⟩
                  show X 0 0 WW μ 60 [some (xR 102), some (xR 100), some (xI a), some (xI b), some (xI q), some (xI l2), some (xI m2), some (xI n2), some (xI t), some (xI u), none] [xI z57]
                  refine r_istore hL (lo' := [some (xR 102), some (xR 100), some (xI a), some (xI b), some (xI q), some (xI l2), some (xI m2), some (xI n2), some (xI t), some (xI u), some (xI z57)]) dX6_compareTypes_60 (by decide) rfl ?_
                  refine r_iload hL (x := l2) dX6_compareTypes_62 rfl ?_
                  refine r_iload hL (x := z57) dX6_compareTypes_64 rfl ?_
                  refine r_min hL (by omega) (by omega) ml_X6_69 sm_Lib_Math_min_name it_java_lang_Math kd_Lib_Math_min_name dX6_compareTypes_66 ⟨Nat.le_of_ble_eq_true rfl, Nat.le_of_ble_eq_true rfl⟩ ⟨Nat.le_of_ble_eq_true rfl, Nat.le_of_ble_eq_true rfl⟩ ?_
                  obtain ⟨z66, hz66⟩ : ∃ z, z = min l2 z57 := ⟨_, rfl⟩
                  rw [← hz66]
                  refine r_istore hL (lo' := [some (xR 102), some (xR 100), some (xI a), some (xI b), some (xI q), some (xI z66), some (xI m2), some (xI n2), some (xI t), some (xI u), some (xI z57)]) dX6_compareTypes_69 (by decide) rfl ?_
                  refine r_iload hL (x := m2) dX6_compareTypes_71 rfl ?_
                  refine r_iload hL (x := z57) dX6_compareTypes_73 rfl ?_
                  refine r_max hL (by omega) (by omega) ml_X6_74 sm_Lib_Math_max_name it_java_lang_Math kd_Lib_Math_max_name dX6_compareTypes_75 ⟨Nat.le_of_ble_eq_true rfl, Nat.le_of_ble_eq_true rfl⟩ ⟨Nat.le_of_ble_eq_true rfl, Nat.le_of_ble_eq_true rfl⟩ ?_
                  obtain ⟨z75, hz75⟩ : ∃ z, z = max m2 z57 := ⟨_, rfl⟩
                  rw [← hz75]
                  refine r_istore hL (lo' := [some (xR 102), some (xR 100), some (xI a), some (xI b), some (xI q), some (xI z66), some (xI z75), some (xI n2), some (xI t), some (xI u), some (xI z57)]) dX6_compareTypes_78 (by decide) rfl ?_
                  refine r_iload hL (x := n2) dX6_compareTypes_80 rfl ?_
                  refine r_iload hL (x := z57) dX6_compareTypes_82 rfl ?_
                  refine r_iadd hL dX6_compareTypes_84 ?_
                  refine r_istore hL (lo' := [some (xR 102), some (xR 100), some (xI a), some (xI b), some (xI q), some (xI z66), some (xI z75), some (xI (n2 + z57)), some (xI t), some (xI u), some (xI z57)]) dX6_compareTypes_85 (by decide) rfl ?_
                  refine r_iinc hL (x := u) (lo' := [some (xR 102), some (xR 100), some (xI a), some (xI b), some (xI q), some (xI z66), some (xI z75), some (xI (n2 + z57)), some (xI t), some (xI (u + 1)), some (xI z57)]) dX6_compareTypes_87 (by decide) rfl rfl ?_
                  refine r_goto hL (tgt := 35) dX6_compareTypes_90 (by decide) ?_
                  refine r_drop hL (lo' := [some (xR 102), some (xR 100), some (xI a), some (xI b), some (xI q), some (xI z66), some (xI z75), some (xI (n2 + z57)), some (xI t), some (xI (u + 1)), none]) [10] rfl ?_
                  exact ih35 z66 z75 (n2 + z57) (u + 1) (by omega) (by omega) (by omega) (by omega) (by omega)
          exact lp35 _ l m n 0 (by omega) (by omega) (by omega) (by omega) (Nat.lt_succ_self _)
        · skip
          refine r_goto hL (tgt := 93) dX6_compareTypes_29 (by decide) ?_
          refine r_iinc hL (x := t) (lo' := [some (xR 102), some (xR 100), some (xI a), some (xI b), some (xI q), some (xI l), some (xI m), some (xI n), some (xI (t + 1)), none, none]) dX6_compareTypes_93 (by decide) rfl rfl ?_
          refine r_goto hL (tgt := 13) dX6_compareTypes_96 (by decide) ?_
          exact ih13 l m n (t + 1) (by omega) (by omega) (by omega) (by omega) (by omega)
  exact lp13 _ 1000000 0 0 0 (by omega) (by omega) (by omega) (by omega) (Nat.lt_succ_self _)

set_option maxHeartbeats 4000000 in
set_option maxRecDepth 20000 in
theorem m_X6_findNearest {K : Option xV → xW → xM → Prop} {μ : xM} (hB0 : BI μ) (l : Int) (hl : 2 ≤ l ∧ l ≤ 8) (q : Int) (hq0 : xrg q) (hK : ∀ μ', BI μ' → Fr RO μ μ' → μ' 102 4 = μ 102 4 ∧ 0 ≤ μ' 102 9 ∧ μ' 102 9 < μ' 102 10 ∧ μ' 102 10 < l → K none WW μ') : xMet yX6_findNearest cX6_findNearest 7 none 2 56 0 0 [xR 102, xR 100, xI l, xI q] WW μ K := by
  refine xMet.go RX6 "findNearest" rfl rfl (by decide) [some (xR 102), some (xR 100), some (xI l), some (xI q), none, none, none] (Nat.le_of_ble_eq_true rfl) rfl (fun X hL => ?_)
  have hB := hB0
  have hF : Fr RO μ μ := Fr.rf
  refine r_iconst hL dX6_findNearest_0 ?_
  refine r_istore hL (lo' := [some (xR 102), some (xR 100), some (xI l), some (xI q), some (xI 0), none, none]) dX6_findNearest_1 (by decide) rfl ?_
  refine r_iconst hL dX6_findNearest_3 ?_
  refine r_istore hL (lo' := [some (xR 102), some (xR 100), some (xI l), some (xI q), some (xI 0), some (xI 0), none]) dX6_findNearest_4 (by decide) rfl ?_
  have lp6 : ∀ (n6 : Nat) (f : Int) (i : Int) (μ106 : xM), (BI μ106) → (Fr RO μ μ106) → (f = 0 ∨ f = 1) → (0 ≤ i ∧ i ≤ 8) → (1 ≤ i → f = 1) → (f = 1 → 0 ≤ μ106 102 9 ∧ μ106 102 9 < μ106 102 10 ∧ μ106 102 10 < l) → (μ106 102 4 = μ 102 4) → ((8 - i).toNat) < n6 → X 0 0 WW μ106 6 [some (xR 102), some (xR 100), some (xI l), some (xI q), some (xI f), some (xI i), none] [] := by
    intro n6
    induction n6 with
    | zero => intro f i μ106 hB106 hF106 h1 h2 h3 h4 h5 hn; exact absurd hn (Nat.not_lt_zero _)
    | succ n6 ih6 =>
      intro f i μ106 hB106 hF106 h1 h2 h3 h4 h5 hn6
      refine r_iload hL (x := i) dX6_findNearest_6 rfl ?_
      refine r_iload_n hL (x := l) dX6_findNearest_8 rfl ?_
      refine r_icmp_ge hL (tgt := 113) dX6_findNearest_9 (by decide) (by omega) (by omega) (fun c9 => ?_) (fun c9 => ?_)
      · skip
        exact r_vret hL dX6_findNearest_113 rfl (hK _ hB106 hF106 (by omega))
      · skip
        refine r_iload hL (x := i) dX6_findNearest_12 rfl ?_
        refine r_iconst hL dX6_findNearest_14 ?_
        refine r_iadd hL dX6_findNearest_15 ?_
        refine r_istore hL (lo' := [some (xR 102), some (xR 100), some (xI l), some (xI q), some (xI f), some (xI i), some (xI (i + 1))]) dX6_findNearest_16 (by decide) rfl ?_
        have lp18 : ∀ (n18 : Nat) (f2 : Int) (j : Int) (μ118 : xM), (BI μ118) → (Fr RO μ μ118) → (f2 = 0 ∨ f2 = 1) → (i + 1 ≤ j ∧ j ≤ 8) → (1 ≤ i → f2 = 1) → (f2 = 1 → 0 ≤ μ118 102 9 ∧ μ118 102 9 < μ118 102 10 ∧ μ118 102 10 < l) → (μ118 102 4 = μ 102 4) → (i + 2 ≤ j → f2 = 1) → ((8 - j).toNat) < n18 → X 0 0 WW μ118 18 [some (xR 102), some (xR 100), some (xI l), some (xI q), some (xI f2), some (xI i), some (xI j)] [] := by
          intro n18
          induction n18 with
          | zero => intro f2 j μ118 hB118 hF118 h6 h7 h8 h9 h10 h11 hn; exact absurd hn (Nat.not_lt_zero _)
          | succ n18 ih18 =>
            intro f2 j μ118 hB118 hF118 h6 h7 h8 h9 h10 h11 hn18
            refine r_iload hL (x := j) dX6_findNearest_18 rfl ?_
            refine r_iload_n hL (x := l) dX6_findNearest_20 rfl ?_
            refine r_icmp_ge hL (tgt := 107) dX6_findNearest_21 (by decide) (by omega) (by omega) (fun c21 => ?_) (fun c21 => ?_)
            · skip
              refine r_iinc hL (x := i) (lo' := [some (xR 102), some (xR 100), some (xI l), some (xI q), some (xI f2), some (xI (i + 1)), some (xI j)]) dX6_findNearest_107 (by decide) rfl rfl ?_
              refine r_goto hL (tgt := 6) dX6_findNearest_110 (by decide) ?_
              refine r_drop hL (lo' := [some (xR 102), some (xR 100), some (xI l), some (xI q), some (xI f2), some (xI (i + 1)), none]) [6] rfl ?_
              exact ih6 f2 (i + 1) μ118 hB118 hF118 (by omega) (by omega) (by omega) (by omega) (by omega) (by omega)
            · skip
              refine r_aload_n hL (x := 102) dX6_findNearest_24 rfl ?_
              refine r_aload_n hL (x := 100) dX6_findNearest_25 rfl ?_
              refine r_aload_n hL (x := 102) dX6_findNearest_26 rfl ?_
              refine r_getr hL xcl6 3 (by decide) s_102 (by decide) fl_X6_21 (by decide) f_102_3 dX6_findNearest_27 ?_
              refine r_iload hL (x := i) dX6_findNearest_30 rfl ?_
              refine r_iald hL dX6_findNearest_32 (by decide) s_106 (by decide) (by omega) (by omega) (fun hr32 => ?_)
              obtain ⟨z32, hz32⟩ : ∃ z, z = μ118 106 i := ⟨_, rfl⟩
              rw [← hz32] at hr32 ⊢
              refine r_aload_n hL (x := 102) dX6_findNearest_33 rfl ?_
              refine r_getr hL xcl6 3 (by decide) s_102 (by decide) fl_X6_21 (by decide) f_102_3 dX6_findNearest_34 ?_
              refine r_iload hL (x := j) dX6_findNearest_37 rfl ?_
              refine r_iald hL dX6_findNearest_39 (by decide) s_106 (by decide) (by omega) (by omega) (fun hr39 => ?_)
              obtain ⟨z39, hz39⟩ : ∃ z, z = μ118 106 j := ⟨_, rfl⟩
              rw [← hz39] at hr39 ⊢
              refine r_iload_n hL (x := q) dX6_findNearest_40 rfl ?_
              refine r_callV hL (st := []) (av := [xR 100, xI z32, xI z39, xI q]) (k := 102) (m_X6_compareTypes (μ := μ118) hB118 z32 (by omega) z39 (by omega) q (by omega) (fun μ41c hB41c hG41 => ⟨rfl, ?_⟩)) ce_yX6_compareTypes im_yX6_compareTypes se_yX6_compareTypes ml_X6_58 xcl6 (by decide) s_102 dX6_findNearest_41 rfl (Nat.le_of_ble_eq_true rfl) ⟨Nat.le_of_ble_eq_true rfl, Nat.le_of_ble_eq_true rfl⟩ ⟨Nat.le_of_ble_eq_true rfl, Nat.le_of_ble_eq_true rfl⟩
              show X 0 0 WW μ41c 44 [some (xR 102), some (xR 100), some (xI l), some (xI q), some (xI f2), some (xI i), some (xI j)] []
              have hF41c : Fr RO μ μ41c := hF118.trans (hG41.sub (fun k j h => by unfold CT at h; unfold RO; omega))
              have hk41c_102_4 : μ41c 102 4 = μ118 102 4 := hG41 102 4 (by unfold CT; omega)
              have hk41c_102_9 : μ41c 102 9 = μ118 102 9 := hG41 102 9 (by unfold CT; omega)
              have hk41c_102_10 : μ41c 102 10 = μ118 102 10 := hG41 102 10 (by unfold CT; omega)
              refine r_iload hL (x := f2) dX6_findNearest_44 rfl ?_
              refine r_if_eq hL (tgt := 70) dX6_findNearest_46 (by decide) (by omega) (fun c46 => ?_) (fun c46 => ?_)
              · skip
                refine r_iconst hL dX6_findNearest_70 ?_
                refine r_istore hL (lo' := [some (xR 102), some (xR 100), some (xI l), some (xI q), some (xI 1), some (xI i), some (xI j)]) dX6_findNearest_71 (by decide) rfl ?_
                refine r_aload_n hL (x := 102) dX6_findNearest_73 rfl ?_
                refine r_aload_n hL (x := 102) dX6_findNearest_74 rfl ?_
                refine r_geti hL xcl6 5 (j' := 5) rfl (by decide) s_102 (by decide) fl_X6_28 (by decide) (by decide) dX6_findNearest_75 (fun hr75 => ?_)
                obtain ⟨z75, hz75⟩ : ∃ z, z = μ41c 102 5 := ⟨_, rfl⟩
                rw [← hz75] at hr75 ⊢
                refine r_puti hL xcl6 7 (j' := 7) rfl (by decide) s_102 (by decide) fl_X6_34 rfl rfl (by omega) dX6_findNearest_78 (fun μ1 hm1 => ?_)
                have hB1 : BI μ1 := by rw [hm1]; exact hB41c.up (by show (7 : Int) = 4 → 0 ≤ z75 ∧ z75 ≤ 7; omega)
                have hF1 : Fr RO μ μ1 := by rw [hm1]; exact hF41c.up (by unfold RO; omega)
                have hk1_102_4 : μ1 102 4 = μ41c 102 4 := by rw [hm1]; exact xup_j (by omega)
                have hk1_102_9 : μ1 102 9 = μ41c 102 9 := by rw [hm1]; exact xup_j (by omega)
                have hk1_102_10 : μ1 102 10 = μ41c 102 10 := by rw [hm1]; exact xup_j (by omega)
                refine r_aload_n hL (x := 102) dX6_findNearest_81 rfl ?_
                refine r_aload_n hL (x := 102) dX6_findNearest_82 rfl ?_
                refine r_geti hL xcl6 6 (j' := 6) rfl (by decide) s_102 (by decide) fl_X6_31 (by decide) (by decide) dX6_findNearest_83 (fun hr83 => ?_)
                obtain ⟨z83, hz83⟩ : ∃ z, z = μ1 102 6 := ⟨_, rfl⟩
                rw [← hz83] at hr83 ⊢
                refine r_puti hL xcl6 8 (j' := 8) rfl (by decide) s_102 (by decide) fl_X6_37 rfl rfl (by omega) dX6_findNearest_86 (fun μ2 hm2 => ?_)
                have hB2 : BI μ2 := by rw [hm2]; exact hB1.up (by show (8 : Int) = 4 → 0 ≤ z83 ∧ z83 ≤ 7; omega)
                have hF2 : Fr RO μ μ2 := by rw [hm2]; exact hF1.up (by unfold RO; omega)
                have hk2_102_4 : μ2 102 4 = μ1 102 4 := by rw [hm2]; exact xup_j (by omega)
                have hk2_102_9 : μ2 102 9 = μ1 102 9 := by rw [hm2]; exact xup_j (by omega)
                have hk2_102_10 : μ2 102 10 = μ1 102 10 := by rw [hm2]; exact xup_j (by omega)
                refine r_aload_n hL (x := 102) dX6_findNearest_89 rfl ?_
                refine r_iload hL (x := i) dX6_findNearest_90 rfl ?_
                refine r_puti hL xcl6 9 (j' := 9) rfl (by decide) s_102 (by decide) fl_X6_40 rfl rfl (by omega) dX6_findNearest_92 (fun μ3 hm3 => ?_)
                have hB3 : BI μ3 := by rw [hm3]; exact hB2.up (by show (9 : Int) = 4 → 0 ≤ i ∧ i ≤ 7; omega)
                have hF3 : Fr RO μ μ3 := by rw [hm3]; exact hF2.up (by unfold RO; omega)
                have hk3_102_4 : μ3 102 4 = μ2 102 4 := by rw [hm3]; exact xup_j (by omega)
                have hk3_102_9 : μ3 102 9 = i := by rw [hm3]; exact xup_s _ _ _ _
                have hk3_102_10 : μ3 102 10 = μ2 102 10 := by rw [hm3]; exact xup_j (by omega)
                refine r_aload_n hL (x := 102) dX6_findNearest_95 rfl ?_
                refine r_iload hL (x := j) dX6_findNearest_96 rfl ?_
                refine r_puti hL xcl6 10 (j' := 10) rfl (by decide) s_102 (by decide) fl_X6_43 rfl rfl (by omega) dX6_findNearest_98 (fun μ4 hm4 => ?_)
                have hB4 : BI μ4 := by rw [hm4]; exact hB3.up (by show (10 : Int) = 4 → 0 ≤ j ∧ j ≤ 7; omega)
                have hF4 : Fr RO μ μ4 := by rw [hm4]; exact hF3.up (by unfold RO; omega)
                have hk4_102_4 : μ4 102 4 = μ3 102 4 := by rw [hm4]; exact xup_j (by omega)
                have hk4_102_9 : μ4 102 9 = μ3 102 9 := by rw [hm4]; exact xup_j (by omega)
                have hk4_102_10 : μ4 102 10 = j := by rw [hm4]; exact xup_s _ _ _ _
                refine r_iinc hL (x := j) (lo' := [some (xR 102), some (xR 100), some (xI l), some (xI q), some (xI 1), some (xI i), some (xI (j + 1))]) dX6_findNearest_101 (by decide) rfl rfl ?_
                refine r_goto hL (tgt := 18) dX6_findNearest_104 (by decide) ?_
                exact ih18 1 (j + 1) μ4 hB4 hF4 (by omega) (by omega) (by omega) (by omega) (by omega) (by omega) (by omega)
              · skip
                refine r_aload_n hL (x := 102) dX6_findNearest_49 rfl ?_
                refine r_geti hL xcl6 5 (j' := 5) rfl (by decide) s_102 (by decide) fl_X6_28 (by decide) (by decide) dX6_findNearest_50 (fun hr50 => ?_)
                obtain ⟨z50, hz50⟩ : ∃ z, z = μ41c 102 5 := ⟨_, rfl⟩
                rw [← hz50] at hr50 ⊢
                refine r_aload_n hL (x := 102) dX6_findNearest_53 rfl ?_
                refine r_geti hL xcl6 8 (j' := 8) rfl (by decide) s_102 (by decide) fl_X6_37 (by decide) (by decide) dX6_findNearest_54 (fun hr54 => ?_)
                obtain ⟨z54, hz54⟩ : ∃ z, z = μ41c 102 8 := ⟨_, rfl⟩
                rw [← hz54] at hr54 ⊢
                refine r_imul hL dX6_findNearest_57 ?_
                refine r_norm hL (fun y57 hy57 hyr57 => ?_)
                refine r_aload_n hL (x := 102) dX6_findNearest_58 rfl ?_
                refine r_geti hL xcl6 7 (j' := 7) rfl (by decide) s_102 (by decide) fl_X6_34 (by decide) (by decide) dX6_findNearest_59 (fun hr59 => ?_)
                obtain ⟨z59, hz59⟩ : ∃ z, z = μ41c 102 7 := ⟨_, rfl⟩
                rw [← hz59] at hr59 ⊢
                refine r_aload_n hL (x := 102) dX6_findNearest_62 rfl ?_
                refine r_geti hL xcl6 6 (j' := 6) rfl (by decide) s_102 (by decide) fl_X6_31 (by decide) (by decide) dX6_findNearest_63 (fun hr63 => ?_)
                obtain ⟨z63, hz63⟩ : ∃ z, z = μ41c 102 6 := ⟨_, rfl⟩
                rw [← hz63] at hr63 ⊢
                refine r_imul hL dX6_findNearest_66 ?_
                refine r_norm hL (fun y66 hy66 hyr66 => ?_)
                refine r_icmp_ge hL (tgt := 101) dX6_findNearest_67 (by decide) (by omega) (by omega) (fun c67 => ?_) (fun c67 => ?_)
                · skip
                  refine r_iinc hL (x := j) (lo' := [some (xR 102), some (xR 100), some (xI l), some (xI q), some (xI f2), some (xI i), some (xI (j + 1))]) dX6_findNearest_101 (by decide) rfl rfl ?_
                  refine r_goto hL (tgt := 18) dX6_findNearest_104 (by decide) ?_
                  exact ih18 f2 (j + 1) μ41c hB41c hF41c (by omega) (by omega) (by omega) (by omega) (by omega) (by omega) (by omega)
                · skip
                  refine r_iconst hL dX6_findNearest_70 ?_
                  refine r_istore hL (lo' := [some (xR 102), some (xR 100), some (xI l), some (xI q), some (xI 1), some (xI i), some (xI j)]) dX6_findNearest_71 (by decide) rfl ?_
                  refine r_aload_n hL (x := 102) dX6_findNearest_73 rfl ?_
                  refine r_aload_n hL (x := 102) dX6_findNearest_74 rfl ?_
                  refine r_geti hL xcl6 5 (j' := 5) rfl (by decide) s_102 (by decide) fl_X6_28 (by decide) (by decide) dX6_findNearest_75 (fun hr75 => ?_)
                  obtain ⟨z75, hz75⟩ : ∃ z, z = μ41c 102 5 := ⟨_, rfl⟩
                  rw [← hz75] at hr75 ⊢
                  refine r_puti hL xcl6 7 (j' := 7) rfl (by decide) s_102 (by decide) fl_X6_34 rfl rfl (by omega) dX6_findNearest_78 (fun μ5 hm5 => ?_)
                  have hB5 : BI μ5 := by rw [hm5]; exact hB41c.up (by show (7 : Int) = 4 → 0 ≤ z75 ∧ z75 ≤ 7; omega)
                  have hF5 : Fr RO μ μ5 := by rw [hm5]; exact hF41c.up (by unfold RO; omega)
                  have hk5_102_4 : μ5 102 4 = μ41c 102 4 := by rw [hm5]; exact xup_j (by omega)
                  have hk5_102_9 : μ5 102 9 = μ41c 102 9 := by rw [hm5]; exact xup_j (by omega)
                  have hk5_102_10 : μ5 102 10 = μ41c 102 10 := by rw [hm5]; exact xup_j (by omega)
                  refine r_aload_n hL (x := 102) dX6_findNearest_81 rfl ?_
                  refine r_aload_n hL (x := 102) dX6_findNearest_82 rfl ?_
                  refine r_geti hL xcl6 6 (j' := 6) rfl (by decide) s_102 (by decide) fl_X6_31 (by decide) (by decide) dX6_findNearest_83 (fun hr83 => ?_)
                  obtain ⟨z83, hz83⟩ : ∃ z, z = μ5 102 6 := ⟨_, rfl⟩
                  rw [← hz83] at hr83 ⊢
                  refine r_puti hL xcl6 8 (j' := 8) rfl (by decide) s_102 (by decide) fl_X6_37 rfl rfl (by omega) dX6_findNearest_86 (fun μ6 hm6 => ?_)
                  have hB6 : BI μ6 := by rw [hm6]; exact hB5.up (by show (8 : Int) = 4 → 0 ≤ z83 ∧ z83 ≤ 7; omega)
                  have hF6 : Fr RO μ μ6 := by rw [hm6]; exact hF5.up (by unfold RO; omega)
                  have hk6_102_4 : μ6 102 4 = μ5 102 4 := by rw [hm6]; exact xup_j (by omega)
                  have hk6_102_9 : μ6 102 9 = μ5 102 9 := by rw [hm6]; exact xup_j (by omega)
                  have hk6_102_10 : μ6 102 10 = μ5 102 10 := by rw [hm6]; exact xup_j (by omega)
                  refine r_aload_n hL (x := 102) dX6_findNearest_89 rfl ?_
                  refine r_iload hL (x := i) dX6_findNearest_90 rfl ?_
                  refine r_puti hL xcl6 9 (j' := 9) rfl (by decide) s_102 (by decide) fl_X6_40 rfl rfl (by omega) dX6_findNearest_92 (fun μ7 hm7 => ?_)
                  have hB7 : BI μ7 := by rw [hm7]; exact hB6.up (by show (9 : Int) = 4 → 0 ≤ i ∧ i ≤ 7; omega)
                  have hF7 : Fr RO μ μ7 := by rw [hm7]; exact hF6.up (by unfold RO; omega)
                  have hk7_102_4 : μ7 102 4 = μ6 102 4 := by rw [hm7]; exact xup_j (by omega)
                  have hk7_102_9 : μ7 102 9 = i := by rw [hm7]; exact xup_s _ _ _ _
                  have hk7_102_10 : μ7 102 10 = μ6 102 10 := by rw [hm7]; exact xup_j (by omega)
                  refine r_aload_n hL (x := 102) dX6_findNearest_95 rfl ?_
                  refine r_iload hL (x := j) dX6_findNearest_96 rfl ?_
                  refine r_puti hL xcl6 10 (j' := 10) rfl (by decide) s_102 (by decide) fl_X6_43 rfl rfl (by omega) dX6_findNearest_98 (fun μ8 hm8 => ?_)
                  have hB8 : BI μ8 := by rw [hm8]; exact hB7.up (by show (10 : Int) = 4 → 0 ≤ j ∧ j ≤ 7; omega)
                  have hF8 : Fr RO μ μ8 := by rw [hm8]; exact hF7.up (by unfold RO; omega)
                  have hk8_102_4 : μ8 102 4 = μ7 102 4 := by rw [hm8]; exact xup_j (by omega)
                  have hk8_102_9 : μ8 102 9 = μ7 102 9 := by rw [hm8]; exact xup_j (by omega)
                  have hk8_102_10 : μ8 102 10 = j := by rw [hm8]; exact xup_s _ _ _ _
                  refine r_iinc hL (x := j) (lo' := [some (xR 102), some (xR 100), some (xI l), some (xI q), some (xI 1), some (xI i), some (xI (j + 1))]) dX6_findNearest_101 (by decide) rfl rfl ?_
                  refine r_goto hL (tgt := 18) dX6_findNearest_104 (by decide) ?_
                  exact ih18 1 (j + 1) μ8 hB8 hF8 (by omega) (by omega) (by omega) (by omega) (by omega) (by omega) (by omega)
        exact lp18 _ f (i + 1) μ106 hB106 hF106 (by omega) (by omega) (by omega) (by omega) (by omega) (by omega) (Nat.lt_succ_self _)
  exact lp6 _ 0 0 μ hB hF (by omega) (by omega) (by omega) (by omega) (by omega) (Nat.lt_succ_self _)

set_option maxHeartbeats 4000000 in
set_option maxRecDepth 20000 in
theorem m_X6_joinNearest {K : Option xV → xW → xM → Prop} {μ : xM} (hB0 : BI μ) (l : Int) (hl : 2 ≤ l ∧ l ≤ 8) (hn : μ 102 4 ≤ 6) (ho : 0 ≤ μ 102 9 ∧ μ 102 9 < μ 102 10 ∧ μ 102 10 < l) (hK : ∀ μ', BI μ' → Fr RO μ μ' → μ' 102 4 = μ 102 4 + 1 → K none WW μ') : xMet yX6_joinNearest cX6_joinNearest 3 none 0 0 0 0 [xR 102, xI l] WW μ K := by
  refine xMet.go RX6 "joinNearest" rfl rfl (by decide) [some (xR 102), some (xI l), none] (Nat.le_of_ble_eq_true rfl) rfl (fun X hL => ?_)
  have hB := hB0
  have hF : Fr RO μ μ := Fr.rf
  refine r_aload_n hL (x := 102) dX6_joinNearest_0 rfl ?_
  refine r_getr hL xcl6 0 (by decide) s_102 (by decide) fl_X6_9 (by decide) f_102_0 dX6_joinNearest_1 ?_
  refine r_aload_n hL (x := 102) dX6_joinNearest_4 rfl ?_
  refine r_geti hL xcl6 4 (j' := 4) rfl (by decide) s_102 (by decide) fl_X6_24 (by decide) (by decide) dX6_joinNearest_5 (fun hr5 => ?_)
  obtain ⟨z5, hz5⟩ : ∃ z, z = μ 102 4 := ⟨_, rfl⟩
  rw [← hz5] at hr5 ⊢
  have hb5 : 0 ≤ μ 102 4 ∧ μ 102 4 ≤ 7 := (show (4 : Int) = 4 → 0 ≤ (μ 102 4) ∧ (μ 102 4) ≤ 7 from hB 102 4) (by omega)
  refine r_aload_n hL (x := 102) dX6_joinNearest_8 rfl ?_
  refine r_geti hL xcl6 8 (j' := 8) rfl (by decide) s_102 (by decide) fl_X6_37 (by decide) (by decide) dX6_joinNearest_9 (fun hr9 => ?_)
  obtain ⟨z9, hz9⟩ : ∃ z, z = μ 102 8 := ⟨_, rfl⟩
  rw [← hz9] at hr9 ⊢
  refine r_if_le hL (tgt := 27) dX6_joinNearest_12 (by decide) (by omega) (fun c12 => ?_) (fun c12 => ?_)
  · skip
    refine r_iconst hL dX6_joinNearest_27 ?_
    refine r_iast hL dX6_joinNearest_28 (by decide) s_103 (by decide) (by omega) (by omega) (by omega) (fun μ1 hm1 => ?_)
    have hB1 : BI μ1 := by rw [hm1]; exact hB.up trivial
    have hF1 : Fr RO μ μ1 := by rw [hm1]; exact hF.up (by unfold RO; omega)
    have hk1_102_4 : μ1 102 4 = μ 102 4 := by rw [hm1]; exact congrFun (xup_c (by decide)) _
    have hk1_102_9 : μ1 102 9 = μ 102 9 := by rw [hm1]; exact congrFun (xup_c (by decide)) _
    have hk1_102_10 : μ1 102 10 = μ 102 10 := by rw [hm1]; exact congrFun (xup_c (by decide)) _
    refine r_aload_n hL (x := 102) dX6_joinNearest_29 rfl ?_
    refine r_getr hL xcl6 2 (by decide) s_102 (by decide) fl_X6_18 (by decide) f_102_2 dX6_joinNearest_30 ?_
    refine r_aload_n hL (x := 102) dX6_joinNearest_33 rfl ?_
    refine r_geti hL xcl6 4 (j' := 4) rfl (by decide) s_102 (by decide) fl_X6_24 (by decide) (by decide) dX6_joinNearest_34 (fun hr34 => ?_)
    obtain ⟨z34, hz34⟩ : ∃ z, z = μ1 102 4 := ⟨_, rfl⟩
    rw [← hz34] at hr34 ⊢
    have hb34 : 0 ≤ μ1 102 4 ∧ μ1 102 4 ≤ 7 := (show (4 : Int) = 4 → 0 ≤ (μ1 102 4) ∧ (μ1 102 4) ≤ 7 from hB1 102 4) (by omega)
    refine r_aload_n hL (x := 102) dX6_joinNearest_37 rfl ?_
    refine r_getr hL xcl6 3 (by decide) s_102 (by decide) fl_X6_21 (by decide) f_102_3 dX6_joinNearest_38 ?_
    refine r_aload_n hL (x := 102) dX6_joinNearest_41 rfl ?_
    refine r_geti hL xcl6 9 (j' := 9) rfl (by decide) s_102 (by decide) fl_X6_40 (by decide) (by decide) dX6_joinNearest_42 (fun hr42 => ?_)
    obtain ⟨z42, hz42⟩ : ∃ z, z = μ1 102 9 := ⟨_, rfl⟩
    rw [← hz42] at hr42 ⊢
    refine r_iald hL dX6_joinNearest_45 (by decide) s_106 (by decide) (by omega) (by omega) (fun hr45 => ?_)
    obtain ⟨z45, hz45⟩ : ∃ z, z = μ1 106 z42 := ⟨_, rfl⟩
    rw [← hz45] at hr45 ⊢
    refine r_iast hL dX6_joinNearest_46 (by decide) s_105 (by decide) (by omega) (by omega) (by omega) (fun μ2 hm2 => ?_)
    have hB2 : BI μ2 := by rw [hm2]; exact hB1.up trivial
    have hF2 : Fr RO μ μ2 := by rw [hm2]; exact hF1.up (by unfold RO; omega)
    have hk2_102_4 : μ2 102 4 = μ1 102 4 := by rw [hm2]; exact congrFun (xup_c (by decide)) _
    have hk2_102_9 : μ2 102 9 = μ1 102 9 := by rw [hm2]; exact congrFun (xup_c (by decide)) _
    have hk2_102_10 : μ2 102 10 = μ1 102 10 := by rw [hm2]; exact congrFun (xup_c (by decide)) _
    refine r_aload_n hL (x := 102) dX6_joinNearest_47 rfl ?_
    refine r_getr hL xcl6 3 (by decide) s_102 (by decide) fl_X6_21 (by decide) f_102_3 dX6_joinNearest_48 ?_
    refine r_aload_n hL (x := 102) dX6_joinNearest_51 rfl ?_
    refine r_geti hL xcl6 9 (j' := 9) rfl (by decide) s_102 (by decide) fl_X6_40 (by decide) (by decide) dX6_joinNearest_52 (fun hr52 => ?_)
    obtain ⟨z52, hz52⟩ : ∃ z, z = μ2 102 9 := ⟨_, rfl⟩
    rw [← hz52] at hr52 ⊢
    refine r_dup2 hL dX6_joinNearest_55 rfl rfl ?_
    refine r_iald hL dX6_joinNearest_56 (by decide) s_106 (by decide) (by omega) (by omega) (fun hr56 => ?_)
    obtain ⟨z56, hz56⟩ : ∃ z, z = μ2 106 z52 := ⟨_, rfl⟩
    rw [← hz56] at hr56 ⊢
    refine r_aload_n hL (x := 102) dX6_joinNearest_57 rfl ?_
    refine r_getr hL xcl6 3 (by decide) s_102 (by decide) fl_X6_21 (by decide) f_102_3 dX6_joinNearest_58 ?_
    refine r_aload_n hL (x := 102) dX6_joinNearest_61 rfl ?_
    refine r_geti hL xcl6 10 (j' := 10) rfl (by decide) s_102 (by decide) fl_X6_43 (by decide) (by decide) dX6_joinNearest_62 (fun hr62 => ?_)
    obtain ⟨z62, hz62⟩ : ∃ z, z = μ2 102 10 := ⟨_, rfl⟩
    rw [← hz62] at hr62 ⊢
    refine r_iald hL dX6_joinNearest_65 (by decide) s_106 (by decide) (by omega) (by omega) (fun hr65 => ?_)
    obtain ⟨z65, hz65⟩ : ∃ z, z = μ2 106 z62 := ⟨_, rfl⟩
    rw [← hz65] at hr65 ⊢
    refine r_ior hL dX6_joinNearest_66 ?_
    obtain ⟨z66, hz66⟩ : ∃ z, z = xor' z56 z65 := ⟨_, rfl⟩
    rw [← hz66]
    have hr66 : xrg z66 := by rw [hz66]; exact xor_rg _ _
    refine r_iast hL dX6_joinNearest_67 (by decide) s_106 (by decide) (by omega) (by omega) (by omega) (fun μ3 hm3 => ?_)
    have hB3 : BI μ3 := by rw [hm3]; exact hB2.up trivial
    have hF3 : Fr RO μ μ3 := by rw [hm3]; exact hF2.up (by unfold RO; omega)
    have hk3_102_4 : μ3 102 4 = μ2 102 4 := by rw [hm3]; exact congrFun (xup_c (by decide)) _
    have hk3_102_9 : μ3 102 9 = μ2 102 9 := by rw [hm3]; exact congrFun (xup_c (by decide)) _
    have hk3_102_10 : μ3 102 10 = μ2 102 10 := by rw [hm3]; exact congrFun (xup_c (by decide)) _
    refine r_aload_n hL (x := 102) dX6_joinNearest_68 rfl ?_
    refine r_getr hL xcl6 1 (by decide) s_102 (by decide) fl_X6_15 (by decide) f_102_1 dX6_joinNearest_69 ?_
    refine r_aload_n hL (x := 102) dX6_joinNearest_72 rfl ?_
    refine r_geti hL xcl6 4 (j' := 4) rfl (by decide) s_102 (by decide) fl_X6_24 (by decide) (by decide) dX6_joinNearest_73 (fun hr73 => ?_)
    obtain ⟨z73, hz73⟩ : ∃ z, z = μ3 102 4 := ⟨_, rfl⟩
    rw [← hz73] at hr73 ⊢
    have hb73 : 0 ≤ μ3 102 4 ∧ μ3 102 4 ≤ 7 := (show (4 : Int) = 4 → 0 ≤ (μ3 102 4) ∧ (μ3 102 4) ≤ 7 from hB3 102 4) (by omega)
    refine r_aload_n hL (x := 102) dX6_joinNearest_76 rfl ?_
    refine r_getr hL xcl6 3 (by decide) s_102 (by decide) fl_X6_21 (by decide) f_102_3 dX6_joinNearest_77 ?_
    refine r_aload_n hL (x := 102) dX6_joinNearest_80 rfl ?_
    refine r_geti hL xcl6 9 (j' := 9) rfl (by decide) s_102 (by decide) fl_X6_40 (by decide) (by decide) dX6_joinNearest_81 (fun hr81 => ?_)
    obtain ⟨z81, hz81⟩ : ∃ z, z = μ3 102 9 := ⟨_, rfl⟩
    rw [← hz81] at hr81 ⊢
    refine r_iald hL dX6_joinNearest_84 (by decide) s_106 (by decide) (by omega) (by omega) (fun hr84 => ?_)
    obtain ⟨z84, hz84⟩ : ∃ z, z = μ3 106 z81 := ⟨_, rfl⟩
    rw [← hz84] at hr84 ⊢
    refine r_iast hL dX6_joinNearest_85 (by decide) s_104 (by decide) (by omega) (by omega) (by omega) (fun μ4 hm4 => ?_)
    have hB4 : BI μ4 := by rw [hm4]; exact hB3.up trivial
    have hF4 : Fr RO μ μ4 := by rw [hm4]; exact hF3.up (by unfold RO; omega)
    have hk4_102_4 : μ4 102 4 = μ3 102 4 := by rw [hm4]; exact congrFun (xup_c (by decide)) _
    have hk4_102_9 : μ4 102 9 = μ3 102 9 := by rw [hm4]; exact congrFun (xup_c (by decide)) _
    have hk4_102_10 : μ4 102 10 = μ3 102 10 := by rw [hm4]; exact congrFun (xup_c (by decide)) _
    refine r_aload_n hL (x := 102) dX6_joinNearest_86 rfl ?_
    refine r_dup hL dX6_joinNearest_87 rfl ?_
    refine r_geti hL xcl6 4 (j' := 4) rfl (by decide) s_102 (by decide) fl_X6_24 (by decide) (by decide) dX6_joinNearest_88 (fun hr88 => ?_)
    obtain ⟨z88, hz88⟩ : ∃ z, z = μ4 102 4 := ⟨_, rfl⟩
    rw [← hz88] at hr88 ⊢
    have hb88 : 0 ≤ μ4 102 4 ∧ μ4 102 4 ≤ 7 := (show (4 : Int) = 4 → 0 ≤ (μ4 102 4) ∧ (μ4 102 4) ≤ 7 from hB4 102 4) (by omega)
    refine r_iconst hL dX6_joinNearest_91 ?_
    refine r_iadd hL dX6_joinNearest_92 ?_
    refine r_puti hL xcl6 4 (j' := 4) rfl (by decide) s_102 (by decide) fl_X6_24 rfl rfl (by omega) dX6_joinNearest_93 (fun μ5 hm5 => ?_)
    have hB5 : BI μ5 := by rw [hm5]; exact hB4.up (by show (4 : Int) = 4 → 0 ≤ (z88 + 1) ∧ (z88 + 1) ≤ 7; omega)
    have hF5 : Fr RO μ μ5 := by rw [hm5]; exact hF4.up (by unfold RO; omega)
    have hk5_102_4 : μ5 102 4 = z88 + 1 := by rw [hm5]; exact xup_s _ _ _ _
    have hk5_102_9 : μ5 102 9 = μ4 102 9 := by rw [hm5]; exact xup_j (by omega)
    have hk5_102_10 : μ5 102 10 = μ4 102 10 := by rw [hm5]; exact xup_j (by omega)
    refine r_aload_n hL (x := 102) dX6_joinNearest_96 rfl ?_
    refine r_geti hL xcl6 10 (j' := 10) rfl (by decide) s_102 (by decide) fl_X6_43 (by decide) (by decide) dX6_joinNearest_97 (fun hr97 => ?_)
    obtain ⟨z97, hz97⟩ : ∃ z, z = μ5 102 10 := ⟨_, rfl⟩
    rw [← hz97] at hr97 ⊢
    refine r_istore_n hL (lo' := [some (xR 102), some (xI l), some (xI z97)]) dX6_joinNearest_100 (by decide) rfl ?_
    have lp101 : ∀ (n101 : Nat) (i : Int) (μ201 : xM), (BI μ201) → (Fr RO μ μ201) → (0 ≤ i ∧ i ≤ 8) → (μ201 102 4 = μ 102 4 + 1) → ((8 - i).toNat) < n101 → X 0 0 WW μ201 101 [some (xR 102), some (xI l), some (xI i)] [] := by
      intro n101
      induction n101 with
      | zero => intro i μ201 hB201 hF201 h1 h2 hn; exact absurd hn (Nat.not_lt_zero _)
      | succ n101 ih101 =>
        intro i μ201 hB201 hF201 h1 h2 hn101
        refine r_iload_n hL (x := i) dX6_joinNearest_101 rfl ?_
        refine r_iload_n hL (x := l) dX6_joinNearest_102 rfl ?_
        refine r_iconst hL dX6_joinNearest_103 ?_
        refine r_isub hL dX6_joinNearest_104 ?_
        refine r_icmp_ge hL (tgt := 128) dX6_joinNearest_105 (by decide) (by omega) (by omega) (fun c105 => ?_) (fun c105 => ?_)
        · skip
          exact r_vret hL dX6_joinNearest_128 rfl (hK _ hB201 hF201 (by omega))
        · skip
          refine r_aload_n hL (x := 102) dX6_joinNearest_108 rfl ?_
          refine r_getr hL xcl6 3 (by decide) s_102 (by decide) fl_X6_21 (by decide) f_102_3 dX6_joinNearest_109 ?_
          refine r_iload_n hL (x := i) dX6_joinNearest_112 rfl ?_
          refine r_aload_n hL (x := 102) dX6_joinNearest_113 rfl ?_
          refine r_getr hL xcl6 3 (by decide) s_102 (by decide) fl_X6_21 (by decide) f_102_3 dX6_joinNearest_114 ?_
          refine r_iload_n hL (x := i) dX6_joinNearest_117 rfl ?_
          refine r_iconst hL dX6_joinNearest_118 ?_
          refine r_iadd hL dX6_joinNearest_119 ?_
          refine r_iald hL dX6_joinNearest_120 (by decide) s_106 (by decide) (by omega) (by omega) (fun hr120 => ?_)
          obtain ⟨z120, hz120⟩ : ∃ z, z = μ201 106 (i + 1) := ⟨_, rfl⟩
          rw [← hz120] at hr120 ⊢
          refine r_iast hL dX6_joinNearest_121 (by decide) s_106 (by decide) (by omega) (by omega) (by omega) (fun μ6 hm6 => ?_)
          have hB6 : BI μ6 := by rw [hm6]; exact hB201.up trivial
          have hF6 : Fr RO μ μ6 := by rw [hm6]; exact hF201.up (by unfold RO; omega)
          have hk6_102_4 : μ6 102 4 = μ201 102 4 := by rw [hm6]; exact congrFun (xup_c (by decide)) _
          have hk6_102_9 : μ6 102 9 = μ201 102 9 := by rw [hm6]; exact congrFun (xup_c (by decide)) _
          have hk6_102_10 : μ6 102 10 = μ201 102 10 := by rw [hm6]; exact congrFun (xup_c (by decide)) _
          refine r_iinc hL (x := i) (lo' := [some (xR 102), some (xI l), some (xI (i + 1))]) dX6_joinNearest_122 (by decide) rfl rfl ?_
          refine r_goto hL (tgt := 101) dX6_joinNearest_125 (by decide) ?_
          exact ih101 (i + 1) μ6 hB6 hF6 (by omega) (by omega) (by omega)
    exact lp101 _ z97 μ5 hB5 hF5 (by omega) (by omega) (Nat.lt_succ_self _)
  · skip
    refine r_aload_n hL (x := 102) dX6_joinNearest_15 rfl ?_
    refine r_geti hL xcl6 7 (j' := 7) rfl (by decide) s_102 (by decide) fl_X6_34 (by decide) (by decide) dX6_joinNearest_16 (fun hr16 => ?_)
    obtain ⟨z16, hz16⟩ : ∃ z, z = μ 102 7 := ⟨_, rfl⟩
    rw [← hz16] at hr16 ⊢
    refine r_aload_n hL (x := 102) dX6_joinNearest_19 rfl ?_
    refine r_geti hL xcl6 8 (j' := 8) rfl (by decide) s_102 (by decide) fl_X6_37 (by decide) (by decide) dX6_joinNearest_20 (fun hr20 => ?_)
    obtain ⟨z20, hz20⟩ : ∃ z, z = μ 102 8 := ⟨_, rfl⟩
    rw [← hz20] at hr20 ⊢
    refine r_idiv hL dX6_joinNearest_23 (by omega) (by omega) ?_
    obtain ⟨z23, hz23⟩ : ∃ z, z = xdiv z16 z20 := ⟨_, rfl⟩
    rw [← hz23]
    have hr23 : xrg z23 := by rw [hz23]; exact xdiv_rg _ _
    refine r_goto hL (tgt := 28) dX6_joinNearest_24 (by decide) ?_
    refine r_iast hL dX6_joinNearest_28 (by decide) s_103 (by decide) (by omega) (by omega) (by omega) (fun μ7 hm7 => ?_)
    have hB7 : BI μ7 := by rw [hm7]; exact hB.up trivial
    have hF7 : Fr RO μ μ7 := by rw [hm7]; exact hF.up (by unfold RO; omega)
    have hk7_102_4 : μ7 102 4 = μ 102 4 := by rw [hm7]; exact congrFun (xup_c (by decide)) _
    have hk7_102_9 : μ7 102 9 = μ 102 9 := by rw [hm7]; exact congrFun (xup_c (by decide)) _
    have hk7_102_10 : μ7 102 10 = μ 102 10 := by rw [hm7]; exact congrFun (xup_c (by decide)) _
    refine r_aload_n hL (x := 102) dX6_joinNearest_29 rfl ?_
    refine r_getr hL xcl6 2 (by decide) s_102 (by decide) fl_X6_18 (by decide) f_102_2 dX6_joinNearest_30 ?_
    refine r_aload_n hL (x := 102) dX6_joinNearest_33 rfl ?_
    refine r_geti hL xcl6 4 (j' := 4) rfl (by decide) s_102 (by decide) fl_X6_24 (by decide) (by decide) dX6_joinNearest_34 (fun hr34 => ?_)
    obtain ⟨z34, hz34⟩ : ∃ z, z = μ7 102 4 := ⟨_, rfl⟩
    rw [← hz34] at hr34 ⊢
    have hb34 : 0 ≤ μ7 102 4 ∧ μ7 102 4 ≤ 7 := (show (4 : Int) = 4 → 0 ≤ (μ7 102 4) ∧ (μ7 102 4) ≤ 7 from hB7 102 4) (by omega)
    refine r_aload_n hL (x := 102) dX6_joinNearest_37 rfl ?_
    refine r_getr hL xcl6 3 (by decide) s_102 (by decide) fl_X6_21 (by decide) f_102_3 dX6_joinNearest_38 ?_
    refine r_aload_n hL (x := 102) dX6_joinNearest_41 rfl ?_
    refine r_geti hL xcl6 9 (j' := 9) rfl (by decide) s_102 (by decide) fl_X6_40 (by decide) (by decide) dX6_joinNearest_42 (fun hr42 => ?_)
    obtain ⟨z42, hz42⟩ : ∃ z, z = μ7 102 9 := ⟨_, rfl⟩
    rw [← hz42] at hr42 ⊢
    refine r_iald hL dX6_joinNearest_45 (by decide) s_106 (by decide) (by omega) (by omega) (fun hr45 => ?_)
    obtain ⟨z45, hz45⟩ : ∃ z, z = μ7 106 z42 := ⟨_, rfl⟩
    rw [← hz45] at hr45 ⊢
    refine r_iast hL dX6_joinNearest_46 (by decide) s_105 (by decide) (by omega) (by omega) (by omega) (fun μ8 hm8 => ?_)
    have hB8 : BI μ8 := by rw [hm8]; exact hB7.up trivial
    have hF8 : Fr RO μ μ8 := by rw [hm8]; exact hF7.up (by unfold RO; omega)
    have hk8_102_4 : μ8 102 4 = μ7 102 4 := by rw [hm8]; exact congrFun (xup_c (by decide)) _
    have hk8_102_9 : μ8 102 9 = μ7 102 9 := by rw [hm8]; exact congrFun (xup_c (by decide)) _
    have hk8_102_10 : μ8 102 10 = μ7 102 10 := by rw [hm8]; exact congrFun (xup_c (by decide)) _
    refine r_aload_n hL (x := 102) dX6_joinNearest_47 rfl ?_
    refine r_getr hL xcl6 3 (by decide) s_102 (by decide) fl_X6_21 (by decide) f_102_3 dX6_joinNearest_48 ?_
    refine r_aload_n hL (x := 102) dX6_joinNearest_51 rfl ?_
    refine r_geti hL xcl6 9 (j' := 9) rfl (by decide) s_102 (by decide) fl_X6_40 (by decide) (by decide) dX6_joinNearest_52 (fun hr52 => ?_)
    obtain ⟨z52, hz52⟩ : ∃ z, z = μ8 102 9 := ⟨_, rfl⟩
    rw [← hz52] at hr52 ⊢
    refine r_dup2 hL dX6_joinNearest_55 rfl rfl ?_
    refine r_iald hL dX6_joinNearest_56 (by decide) s_106 (by decide) (by omega) (by omega) (fun hr56 => ?_)
    obtain ⟨z56, hz56⟩ : ∃ z, z = μ8 106 z52 := ⟨_, rfl⟩
    rw [← hz56] at hr56 ⊢
    refine r_aload_n hL (x := 102) dX6_joinNearest_57 rfl ?_
    refine r_getr hL xcl6 3 (by decide) s_102 (by decide) fl_X6_21 (by decide) f_102_3 dX6_joinNearest_58 ?_
    refine r_aload_n hL (x := 102) dX6_joinNearest_61 rfl ?_
    refine r_geti hL xcl6 10 (j' := 10) rfl (by decide) s_102 (by decide) fl_X6_43 (by decide) (by decide) dX6_joinNearest_62 (fun hr62 => ?_)
    obtain ⟨z62, hz62⟩ : ∃ z, z = μ8 102 10 := ⟨_, rfl⟩
    rw [← hz62] at hr62 ⊢
    refine r_iald hL dX6_joinNearest_65 (by decide) s_106 (by decide) (by omega) (by omega) (fun hr65 => ?_)
    obtain ⟨z65, hz65⟩ : ∃ z, z = μ8 106 z62 := ⟨_, rfl⟩
    rw [← hz65] at hr65 ⊢
    refine r_ior hL dX6_joinNearest_66 ?_
    obtain ⟨z66, hz66⟩ : ∃ z, z = xor' z56 z65 := ⟨_, rfl⟩
    rw [← hz66]
    have hr66 : xrg z66 := by rw [hz66]; exact xor_rg _ _
    refine r_iast hL dX6_joinNearest_67 (by decide) s_106 (by decide) (by omega) (by omega) (by omega) (fun μ9 hm9 => ?_)
    have hB9 : BI μ9 := by rw [hm9]; exact hB8.up trivial
    have hF9 : Fr RO μ μ9 := by rw [hm9]; exact hF8.up (by unfold RO; omega)
    have hk9_102_4 : μ9 102 4 = μ8 102 4 := by rw [hm9]; exact congrFun (xup_c (by decide)) _
    have hk9_102_9 : μ9 102 9 = μ8 102 9 := by rw [hm9]; exact congrFun (xup_c (by decide)) _
    have hk9_102_10 : μ9 102 10 = μ8 102 10 := by rw [hm9]; exact congrFun (xup_c (by decide)) _
    refine r_aload_n hL (x := 102) dX6_joinNearest_68 rfl ?_
    refine r_getr hL xcl6 1 (by decide) s_102 (by decide) fl_X6_15 (by decide) f_102_1 dX6_joinNearest_69 ?_
    refine r_aload_n hL (x := 102) dX6_joinNearest_72 rfl ?_
    refine r_geti hL xcl6 4 (j' := 4) rfl (by decide) s_102 (by decide) fl_X6_24 (by decide) (by decide) dX6_joinNearest_73 (fun hr73 => ?_)
    obtain ⟨z73, hz73⟩ : ∃ z, z = μ9 102 4 := ⟨_, rfl⟩
    rw [← hz73] at hr73 ⊢
    have hb73 : 0 ≤ μ9 102 4 ∧ μ9 102 4 ≤ 7 := (show (4 : Int) = 4 → 0 ≤ (μ9 102 4) ∧ (μ9 102 4) ≤ 7 from hB9 102 4) (by omega)
    refine r_aload_n hL (x := 102) dX6_joinNearest_76 rfl ?_
    refine r_getr hL xcl6 3 (by decide) s_102 (by decide) fl_X6_21 (by decide) f_102_3 dX6_joinNearest_77 ?_
    refine r_aload_n hL (x := 102) dX6_joinNearest_80 rfl ?_
    refine r_geti hL xcl6 9 (j' := 9) rfl (by decide) s_102 (by decide) fl_X6_40 (by decide) (by decide) dX6_joinNearest_81 (fun hr81 => ?_)
    obtain ⟨z81, hz81⟩ : ∃ z, z = μ9 102 9 := ⟨_, rfl⟩
    rw [← hz81] at hr81 ⊢
    refine r_iald hL dX6_joinNearest_84 (by decide) s_106 (by decide) (by omega) (by omega) (fun hr84 => ?_)
    obtain ⟨z84, hz84⟩ : ∃ z, z = μ9 106 z81 := ⟨_, rfl⟩
    rw [← hz84] at hr84 ⊢
    refine r_iast hL dX6_joinNearest_85 (by decide) s_104 (by decide) (by omega) (by omega) (by omega) (fun μ10 hm10 => ?_)
    have hB10 : BI μ10 := by rw [hm10]; exact hB9.up trivial
    have hF10 : Fr RO μ μ10 := by rw [hm10]; exact hF9.up (by unfold RO; omega)
    have hk10_102_4 : μ10 102 4 = μ9 102 4 := by rw [hm10]; exact congrFun (xup_c (by decide)) _
    have hk10_102_9 : μ10 102 9 = μ9 102 9 := by rw [hm10]; exact congrFun (xup_c (by decide)) _
    have hk10_102_10 : μ10 102 10 = μ9 102 10 := by rw [hm10]; exact congrFun (xup_c (by decide)) _
    refine r_aload_n hL (x := 102) dX6_joinNearest_86 rfl ?_
    refine r_dup hL dX6_joinNearest_87 rfl ?_
    refine r_geti hL xcl6 4 (j' := 4) rfl (by decide) s_102 (by decide) fl_X6_24 (by decide) (by decide) dX6_joinNearest_88 (fun hr88 => ?_)
    obtain ⟨z88, hz88⟩ : ∃ z, z = μ10 102 4 := ⟨_, rfl⟩
    rw [← hz88] at hr88 ⊢
    have hb88 : 0 ≤ μ10 102 4 ∧ μ10 102 4 ≤ 7 := (show (4 : Int) = 4 → 0 ≤ (μ10 102 4) ∧ (μ10 102 4) ≤ 7 from hB10 102 4) (by omega)
    refine r_iconst hL dX6_joinNearest_91 ?_
    refine r_iadd hL dX6_joinNearest_92 ?_
    refine r_puti hL xcl6 4 (j' := 4) rfl (by decide) s_102 (by decide) fl_X6_24 rfl rfl (by omega) dX6_joinNearest_93 (fun μ11 hm11 => ?_)
    have hB11 : BI μ11 := by rw [hm11]; exact hB10.up (by show (4 : Int) = 4 → 0 ≤ (z88 + 1) ∧ (z88 + 1) ≤ 7; omega)
    have hF11 : Fr RO μ μ11 := by rw [hm11]; exact hF10.up (by unfold RO; omega)
    have hk11_102_4 : μ11 102 4 = z88 + 1 := by rw [hm11]; exact xup_s _ _ _ _
    have hk11_102_9 : μ11 102 9 = μ10 102 9 := by rw [hm11]; exact xup_j (by omega)
    have hk11_102_10 : μ11 102 10 = μ10 102 10 := by rw [hm11]; exact xup_j (by omega)
    refine r_aload_n hL (x := 102) dX6_joinNearest_96 rfl ?_
    refine r_geti hL xcl6 10 (j' := 10) rfl (by decide) s_102 (by decide) fl_X6_43 (by decide) (by decide) dX6_joinNearest_97 (fun hr97 => ?_)
    obtain ⟨z97, hz97⟩ : ∃ z, z = μ11 102 10 := ⟨_, rfl⟩
    rw [← hz97] at hr97 ⊢
    refine r_istore_n hL (lo' := [some (xR 102), some (xI l), some (xI z97)]) dX6_joinNearest_100 (by decide) rfl ?_
    have lp101 : ∀ (n101 : Nat) (i : Int) (μ201 : xM), (BI μ201) → (Fr RO μ μ201) → (0 ≤ i ∧ i ≤ 8) → (μ201 102 4 = μ 102 4 + 1) → ((8 - i).toNat) < n101 → X 0 0 WW μ201 101 [some (xR 102), some (xI l), some (xI i)] [] := by
      intro n101
      induction n101 with
      | zero => intro i μ201 hB201 hF201 h1 h2 hn; exact absurd hn (Nat.not_lt_zero _)
      | succ n101 ih101 =>
        intro i μ201 hB201 hF201 h1 h2 hn101
        refine r_iload_n hL (x := i) dX6_joinNearest_101 rfl ?_
        refine r_iload_n hL (x := l) dX6_joinNearest_102 rfl ?_
        refine r_iconst hL dX6_joinNearest_103 ?_
        refine r_isub hL dX6_joinNearest_104 ?_
        refine r_icmp_ge hL (tgt := 128) dX6_joinNearest_105 (by decide) (by omega) (by omega) (fun c105 => ?_) (fun c105 => ?_)
        · skip
          exact r_vret hL dX6_joinNearest_128 rfl (hK _ hB201 hF201 (by omega))
        · skip
          refine r_aload_n hL (x := 102) dX6_joinNearest_108 rfl ?_
          refine r_getr hL xcl6 3 (by decide) s_102 (by decide) fl_X6_21 (by decide) f_102_3 dX6_joinNearest_109 ?_
          refine r_iload_n hL (x := i) dX6_joinNearest_112 rfl ?_
          refine r_aload_n hL (x := 102) dX6_joinNearest_113 rfl ?_
          refine r_getr hL xcl6 3 (by decide) s_102 (by decide) fl_X6_21 (by decide) f_102_3 dX6_joinNearest_114 ?_
          refine r_iload_n hL (x := i) dX6_joinNearest_117 rfl ?_
          refine r_iconst hL dX6_joinNearest_118 ?_
          refine r_iadd hL dX6_joinNearest_119 ?_
          refine r_iald hL dX6_joinNearest_120 (by decide) s_106 (by decide) (by omega) (by omega) (fun hr120 => ?_)
          obtain ⟨z120, hz120⟩ : ∃ z, z = μ201 106 (i + 1) := ⟨_, rfl⟩
          rw [← hz120] at hr120 ⊢
          refine r_iast hL dX6_joinNearest_121 (by decide) s_106 (by decide) (by omega) (by omega) (by omega) (fun μ12 hm12 => ?_)
          have hB12 : BI μ12 := by rw [hm12]; exact hB201.up trivial
          have hF12 : Fr RO μ μ12 := by rw [hm12]; exact hF201.up (by unfold RO; omega)
          have hk12_102_4 : μ12 102 4 = μ201 102 4 := by rw [hm12]; exact congrFun (xup_c (by decide)) _
          have hk12_102_9 : μ12 102 9 = μ201 102 9 := by rw [hm12]; exact congrFun (xup_c (by decide)) _
          have hk12_102_10 : μ12 102 10 = μ201 102 10 := by rw [hm12]; exact congrFun (xup_c (by decide)) _
          refine r_iinc hL (x := i) (lo' := [some (xR 102), some (xI l), some (xI (i + 1))]) dX6_joinNearest_122 (by decide) rfl rfl ?_
          refine r_goto hL (tgt := 101) dX6_joinNearest_125 (by decide) ?_
          exact ih101 (i + 1) μ12 hB12 hF12 (by omega) (by omega) (by omega)
    exact lp101 _ z97 μ11 hB11 hF11 (by omega) (by omega) (Nat.lt_succ_self _)

set_option maxHeartbeats 4000000 in
set_option maxRecDepth 20000 in
theorem m_X6_grow {K : Option xV → xW → xM → Prop} {μ : xM} (hB0 : BI μ) (n : Int) (hn : 0 ≤ n ∧ n ≤ 8) (q : Int) (hq0 : xrg q) (hK : ∀ μ', BI μ' → Fr RO μ μ' → K none WW μ') : xMet yX6_grow cX6_grow 5 none 3 82 0 0 [xR 102, xR 100, xI n, xI q] WW μ K := by
  refine xMet.go RX6 "grow" rfl rfl (by decide) [some (xR 102), some (xR 100), some (xI n), some (xI q), none] (Nat.le_of_ble_eq_true rfl) rfl (fun X hL => ?_)
  have hB := hB0
  have hF : Fr RO μ μ := Fr.rf
  refine r_aload_n hL (x := 102) dX6_grow_0 rfl ?_
  refine r_iconst hL dX6_grow_1 ?_
  refine r_puti hL xcl6 4 (j' := 4) rfl (by decide) s_102 (by decide) fl_X6_24 rfl rfl (by omega) dX6_grow_2 (fun μ1 hm1 => ?_)
  have hB1 : BI μ1 := by rw [hm1]; exact hB.up (by show (4 : Int) = 4 → 0 ≤ 0 ∧ 0 ≤ 7; omega)
  have hF1 : Fr RO μ μ1 := by rw [hm1]; exact hF.up (by unfold RO; omega)
  have hk1_102_4 : μ1 102 4 = 0 := by rw [hm1]; exact xup_s _ _ _ _
  refine r_iconst hL dX6_grow_5 ?_
  refine r_istore hL (lo' := [some (xR 102), some (xR 100), some (xI n), some (xI q), some (xI 0)]) dX6_grow_6 (by decide) rfl ?_
  have lp8 : ∀ (n8 : Nat) (t : Int) (μ108 : xM), (BI μ108) → (Fr RO μ μ108) → (0 ≤ t ∧ t ≤ 8) → (μ108 102 4 = 0) → ((8 - t).toNat) < n8 → X 0 0 WW μ108 8 [some (xR 102), some (xR 100), some (xI n), some (xI q), some (xI t)] [] := by
    intro n8
    induction n8 with
    | zero => intro t μ108 hB108 hF108 h1 h2 hn; exact absurd hn (Nat.not_lt_zero _)
    | succ n8 ih8 =>
      intro t μ108 hB108 hF108 h1 h2 hn8
      refine r_iload hL (x := t) dX6_grow_8 rfl ?_
      refine r_iload_n hL (x := n) dX6_grow_10 rfl ?_
      refine r_icmp_ge hL (tgt := 38) dX6_grow_11 (by decide) (by omega) (by omega) (fun c11 => ?_) (fun c11 => ?_)
      · skip
        refine r_iload_n hL (x := n) dX6_grow_38 rfl ?_
        refine r_istore hL (lo' := [some (xR 102), some (xR 100), some (xI n), some (xI q), some (xI n)]) dX6_grow_39 (by decide) rfl ?_
        have lp41 : ∀ (n41 : Nat) (l : Int) (μ141 : xM), (BI μ141) → (Fr RO μ μ141) → (0 ≤ l ∧ l ≤ n) → (μ141 102 4 = n - l) → l.toNat < n41 → X 0 0 WW μ141 41 [some (xR 102), some (xR 100), some (xI n), some (xI q), some (xI l)] [] := by
          intro n41
          induction n41 with
          | zero => intro l μ141 hB141 hF141 h3 h4 hn; exact absurd hn (Nat.not_lt_zero _)
          | succ n41 ih41 =>
            intro l μ141 hB141 hF141 h3 h4 hn41
            refine r_iload hL (x := l) dX6_grow_41 rfl ?_
            refine r_iconst hL dX6_grow_43 ?_
            refine r_icmp_le hL (tgt := 67) dX6_grow_44 (by decide) (by omega) (by omega) (fun c44 => ?_) (fun c44 => ?_)
            · skip
              exact r_vret hL dX6_grow_67 rfl (hK _ hB141 hF141)
            · skip
              refine r_aload_n hL (x := 102) dX6_grow_47 rfl ?_
              refine r_aload_n hL (x := 100) dX6_grow_48 rfl ?_
              refine r_iload hL (x := l) dX6_grow_49 rfl ?_
              refine r_iload_n hL (x := q) dX6_grow_51 rfl ?_
              refine r_callV hL (st := []) (av := [xR 100, xI l, xI q]) (k := 102) (m_X6_findNearest (μ := μ141) hB141 l (by omega) q (by omega) (fun μ52c hB52c hG52 hc52 => ⟨rfl, ?_⟩)) ce_yX6_findNearest im_yX6_findNearest se_yX6_findNearest ml_X6_46 xcl6 (by decide) s_102 dX6_grow_52 rfl (Nat.le_of_ble_eq_true rfl) ⟨Nat.le_of_ble_eq_true rfl, Nat.le_of_ble_eq_true rfl⟩ ⟨Nat.le_of_ble_eq_true rfl, Nat.le_of_ble_eq_true rfl⟩
              show X 0 0 WW μ52c 55 [some (xR 102), some (xR 100), some (xI n), some (xI q), some (xI l)] []
              have hF52c : Fr RO μ μ52c := hF141.trans hG52
              refine r_aload_n hL (x := 102) dX6_grow_55 rfl ?_
              refine r_iload hL (x := l) dX6_grow_56 rfl ?_
              refine r_callV hL (st := []) (av := [xI l]) (k := 102) (m_X6_joinNearest (μ := μ52c) hB52c l (by omega) (by omega) (by omega) (fun μ58c hB58c hG58 hc58 => ⟨rfl, ?_⟩)) ce_yX6_joinNearest im_yX6_joinNearest se_yX6_joinNearest ml_X6_50 xcl6 (by decide) s_102 dX6_grow_58 rfl (Nat.le_of_ble_eq_true rfl) ⟨Nat.le_of_ble_eq_true rfl, Nat.le_of_ble_eq_true rfl⟩ ⟨Nat.le_of_ble_eq_true rfl, Nat.le_of_ble_eq_true rfl⟩
              show X 0 0 WW μ58c 61 [some (xR 102), some (xR 100), some (xI n), some (xI q), some (xI l)] []
              have hF58c : Fr RO μ μ58c := hF52c.trans hG58
              refine r_iinc hL (x := l) (lo' := [some (xR 102), some (xR 100), some (xI n), some (xI q), some (xI (l + (-1)))]) dX6_grow_61 (by decide) rfl rfl ?_
              refine r_goto hL (tgt := 41) dX6_grow_64 (by decide) ?_
              exact ih41 (l + (-1)) μ58c hB58c hF58c (by omega) (by omega) (by omega)
        exact lp41 _ n μ108 hB108 hF108 (by omega) (by omega) (Nat.lt_succ_self _)
      · skip
        refine r_iload hL (x := t) dX6_grow_14 rfl ?_
        refine r_bipush hL dX6_grow_16 (by decide) ?_
        refine r_icmp_ge hL (tgt := 38) dX6_grow_18 (by decide) (by omega) (by omega) (fun c18 => ?_) (fun c18 => ?_)
        · skip
          refine r_iload_n hL (x := n) dX6_grow_38 rfl ?_
          refine r_istore hL (lo' := [some (xR 102), some (xR 100), some (xI n), some (xI q), some (xI n)]) dX6_grow_39 (by decide) rfl ?_
          have lp41 : ∀ (n41 : Nat) (l : Int) (μ141 : xM), (BI μ141) → (Fr RO μ μ141) → (0 ≤ l ∧ l ≤ n) → (μ141 102 4 = n - l) → l.toNat < n41 → X 0 0 WW μ141 41 [some (xR 102), some (xR 100), some (xI n), some (xI q), some (xI l)] [] := by
            intro n41
            induction n41 with
            | zero => intro l μ141 hB141 hF141 h3 h4 hn; exact absurd hn (Nat.not_lt_zero _)
            | succ n41 ih41 =>
              intro l μ141 hB141 hF141 h3 h4 hn41
              refine r_iload hL (x := l) dX6_grow_41 rfl ?_
              refine r_iconst hL dX6_grow_43 ?_
              refine r_icmp_le hL (tgt := 67) dX6_grow_44 (by decide) (by omega) (by omega) (fun c44 => ?_) (fun c44 => ?_)
              · skip
                exact r_vret hL dX6_grow_67 rfl (hK _ hB141 hF141)
              · skip
                refine r_aload_n hL (x := 102) dX6_grow_47 rfl ?_
                refine r_aload_n hL (x := 100) dX6_grow_48 rfl ?_
                refine r_iload hL (x := l) dX6_grow_49 rfl ?_
                refine r_iload_n hL (x := q) dX6_grow_51 rfl ?_
                refine r_callV hL (st := []) (av := [xR 100, xI l, xI q]) (k := 102) (m_X6_findNearest (μ := μ141) hB141 l (by omega) q (by omega) (fun μ52c hB52c hG52 hc52 => ⟨rfl, ?_⟩)) ce_yX6_findNearest im_yX6_findNearest se_yX6_findNearest ml_X6_46 xcl6 (by decide) s_102 dX6_grow_52 rfl (Nat.le_of_ble_eq_true rfl) ⟨Nat.le_of_ble_eq_true rfl, Nat.le_of_ble_eq_true rfl⟩ ⟨Nat.le_of_ble_eq_true rfl, Nat.le_of_ble_eq_true rfl⟩
                show X 0 0 WW μ52c 55 [some (xR 102), some (xR 100), some (xI n), some (xI q), some (xI l)] []
                have hF52c : Fr RO μ μ52c := hF141.trans hG52
                refine r_aload_n hL (x := 102) dX6_grow_55 rfl ?_
                refine r_iload hL (x := l) dX6_grow_56 rfl ?_
                refine r_callV hL (st := []) (av := [xI l]) (k := 102) (m_X6_joinNearest (μ := μ52c) hB52c l (by omega) (by omega) (by omega) (fun μ58c hB58c hG58 hc58 => ⟨rfl, ?_⟩)) ce_yX6_joinNearest im_yX6_joinNearest se_yX6_joinNearest ml_X6_50 xcl6 (by decide) s_102 dX6_grow_58 rfl (Nat.le_of_ble_eq_true rfl) ⟨Nat.le_of_ble_eq_true rfl, Nat.le_of_ble_eq_true rfl⟩ ⟨Nat.le_of_ble_eq_true rfl, Nat.le_of_ble_eq_true rfl⟩
                show X 0 0 WW μ58c 61 [some (xR 102), some (xR 100), some (xI n), some (xI q), some (xI l)] []
                have hF58c : Fr RO μ μ58c := hF52c.trans hG58
                refine r_iinc hL (x := l) (lo' := [some (xR 102), some (xR 100), some (xI n), some (xI q), some (xI (l + (-1)))]) dX6_grow_61 (by decide) rfl rfl ?_
                refine r_goto hL (tgt := 41) dX6_grow_64 (by decide) ?_
                exact ih41 (l + (-1)) μ58c hB58c hF58c (by omega) (by omega) (by omega)
          exact lp41 _ n μ108 hB108 hF108 (by omega) (by omega) (Nat.lt_succ_self _)
        · skip
          refine r_aload_n hL (x := 102) dX6_grow_21 rfl ?_
          refine r_getr hL xcl6 3 (by decide) s_102 (by decide) fl_X6_21 (by decide) f_102_3 dX6_grow_22 ?_
          refine r_iload hL (x := t) dX6_grow_25 rfl ?_
          refine r_iconst hL dX6_grow_27 ?_
          refine r_iload hL (x := t) dX6_grow_28 rfl ?_
          refine r_ishl hL dX6_grow_30 ?_
          obtain ⟨z30, hz30⟩ : ∃ z, z = xshl 1 t := ⟨_, rfl⟩
          rw [← hz30]
          have hr30 : xrg z30 := by rw [hz30]; exact xshl_rg _ _
          refine r_iast hL dX6_grow_31 (by decide) s_106 (by decide) (by omega) (by omega) (by omega) (fun μ2 hm2 => ?_)
          have hB2 : BI μ2 := by rw [hm2]; exact hB108.up trivial
          have hF2 : Fr RO μ μ2 := by rw [hm2]; exact hF108.up (by unfold RO; omega)
          have hk2_102_4 : μ2 102 4 = μ108 102 4 := by rw [hm2]; exact congrFun (xup_c (by decide)) _
          refine r_iinc hL (x := t) (lo' := [some (xR 102), some (xR 100), some (xI n), some (xI q), some (xI (t + 1))]) dX6_grow_32 (by decide) rfl rfl ?_
          refine r_goto hL (tgt := 8) dX6_grow_35 (by decide) ?_
          exact ih8 (t + 1) μ2 hB2 hF2 (by omega) (by omega) (by omega)
  exact lp8 _ 0 μ1 hB1 hF1 (by omega) (by omega) (Nat.lt_succ_self _)
