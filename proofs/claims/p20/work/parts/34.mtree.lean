set_option maxHeartbeats 4000000 in
set_option maxRecDepth 20000 in
theorem m_X8_joins {K : Option xV → xW → xM → Prop} {μ : xM} (hB0 : BI μ) (a b : Int) (hab : 0 ≤ a ∧ a < b ∧ b < μ 120 20) (hTS : TS μ) (hK : ∀ μ', BI μ' → Fr RM μ μ' → TS μ' → μ' 120 20 = μ 120 20 - 1 → K none WW μ') : xMet yX8_joins cX8_joins 3 none 1 25 0 0 [xR 120, xI a, xI b] WW μ K := by
  refine xMet.go RX8 "joins" rfl rfl (by decide) [some (xR 120), some (xI a), some (xI b)] (Nat.le_of_ble_eq_true rfl) rfl (fun X hL => ?_)
  have hB := hB0
  have hF : Fr RM μ μ := Fr.rf
  have hm20 : 0 ≤ μ 120 20 ∧ μ 120 20 ≤ 8 := (show ((20 : Int) = 2 → 0 ≤ (μ 120 20) ∧ (μ 120 20) ≤ 16) ∧ ((20 : Int) = 6 → 0 ≤ (μ 120 20) ∧ (μ 120 20) ≤ 10) ∧ ((20 : Int) = 8 → 0 ≤ (μ 120 20) ∧ (μ 120 20) ≤ 20) ∧ ((20 : Int) = 9 → 0 ≤ (μ 120 20) ∧ (μ 120 20) ≤ 2147483647) ∧ ((20 : Int) = 11 → 0 ≤ (μ 120 20) ∧ (μ 120 20) ≤ 10) ∧ ((20 : Int) = 13 → 0 ≤ (μ 120 20) ∧ (μ 120 20) ≤ 10) ∧ ((20 : Int) = 20 → 0 ≤ (μ 120 20) ∧ (μ 120 20) ≤ 8) from hB 120 20).2.2.2.2.2.2 (by omega)
  refine r_aload_n hL (x := 120) dX8_joins_0 rfl ?_
  refine r_getr hL xcl8 19 (by decide) s_120 (by decide) fl_X8_50 (by decide) f_120_19 dX8_joins_1 ?_
  refine r_iload_n hL (x := a) dX8_joins_4 rfl ?_
  refine r_dup2 hL dX8_joins_5 rfl rfl ?_
  refine r_iald hL dX8_joins_6 (by decide) s_134 (by decide) (by omega) (by omega) (fun hr6 => ?_)
  obtain ⟨z6, hz6⟩ : ∃ z, z = μ 134 a := ⟨_, rfl⟩
  rw [← hz6] at hr6 ⊢
  refine r_aload_n hL (x := 120) dX8_joins_7 rfl ?_
  refine r_getr hL xcl8 19 (by decide) s_120 (by decide) fl_X8_50 (by decide) f_120_19 dX8_joins_8 ?_
  refine r_iload_n hL (x := b) dX8_joins_11 rfl ?_
  refine r_iald hL dX8_joins_12 (by decide) s_134 (by decide) (by omega) (by omega) (fun hr12 => ?_)
  obtain ⟨z12, hz12⟩ : ∃ z, z = μ 134 b := ⟨_, rfl⟩
  rw [← hz12] at hr12 ⊢
  refine r_ior hL dX8_joins_13 ?_
  obtain ⟨z13, hz13⟩ : ∃ z, z = xor' z6 z12 := ⟨_, rfl⟩
  rw [← hz13]
  have hr13 : xrg z13 := by rw [hz13]; exact xor_rg _ _
  refine r_iast hL dX8_joins_14 (by decide) s_134 (by decide) (by omega) (by omega) (by omega) (fun μ1 hm1 => ?_)
  have hB1 : BI μ1 := by rw [hm1]; exact hB.up trivial
  have hF1 : Fr RM μ μ1 := by rw [hm1]; exact hF.up (by unfold RM; omega)
  have hk1_120_20 : μ1 120 20 = μ 120 20 := by rw [hm1]; exact congrFun (xup_c (by decide)) _
  refine r_aload_n hL (x := 120) dX8_joins_15 rfl ?_
  refine r_dup hL dX8_joins_16 rfl ?_
  refine r_geti hL xcl8 20 (j' := 20) rfl (by decide) s_120 (by decide) fl_X8_124 (by decide) (by decide) dX8_joins_17 (fun hr17 => ?_)
  obtain ⟨z17, hz17⟩ : ∃ z, z = μ1 120 20 := ⟨_, rfl⟩
  rw [← hz17] at hr17 ⊢
  have hb17 : 0 ≤ μ1 120 20 ∧ μ1 120 20 ≤ 8 := (show ((20 : Int) = 2 → 0 ≤ (μ1 120 20) ∧ (μ1 120 20) ≤ 16) ∧ ((20 : Int) = 6 → 0 ≤ (μ1 120 20) ∧ (μ1 120 20) ≤ 10) ∧ ((20 : Int) = 8 → 0 ≤ (μ1 120 20) ∧ (μ1 120 20) ≤ 20) ∧ ((20 : Int) = 9 → 0 ≤ (μ1 120 20) ∧ (μ1 120 20) ≤ 2147483647) ∧ ((20 : Int) = 11 → 0 ≤ (μ1 120 20) ∧ (μ1 120 20) ≤ 10) ∧ ((20 : Int) = 13 → 0 ≤ (μ1 120 20) ∧ (μ1 120 20) ≤ 10) ∧ ((20 : Int) = 20 → 0 ≤ (μ1 120 20) ∧ (μ1 120 20) ≤ 8) from hB1 120 20).2.2.2.2.2.2 (by omega)
  refine r_iconst hL dX8_joins_20 ?_
  refine r_isub hL dX8_joins_21 ?_
  refine r_puti hL xcl8 20 (j' := 20) rfl (by decide) s_120 (by decide) fl_X8_124 rfl rfl (by omega) dX8_joins_22 (fun μ2 hm2 => ?_)
  have hB2 : BI μ2 := by rw [hm2]; exact hB1.up (by show ((20 : Int) = 2 → 0 ≤ (z17 - 1) ∧ (z17 - 1) ≤ 16) ∧ ((20 : Int) = 6 → 0 ≤ (z17 - 1) ∧ (z17 - 1) ≤ 10) ∧ ((20 : Int) = 8 → 0 ≤ (z17 - 1) ∧ (z17 - 1) ≤ 20) ∧ ((20 : Int) = 9 → 0 ≤ (z17 - 1) ∧ (z17 - 1) ≤ 2147483647) ∧ ((20 : Int) = 11 → 0 ≤ (z17 - 1) ∧ (z17 - 1) ≤ 10) ∧ ((20 : Int) = 13 → 0 ≤ (z17 - 1) ∧ (z17 - 1) ≤ 10) ∧ ((20 : Int) = 20 → 0 ≤ (z17 - 1) ∧ (z17 - 1) ≤ 8); omega)
  have hF2 : Fr RM μ μ2 := by rw [hm2]; exact hF1.up (by unfold RM; omega)
  have hk2_120_20 : μ2 120 20 = z17 - 1 := by rw [hm2]; exact xup_s _ _ _ _
  refine r_aload_n hL (x := 120) dX8_joins_25 rfl ?_
  refine r_getr hL xcl8 19 (by decide) s_120 (by decide) fl_X8_50 (by decide) f_120_19 dX8_joins_26 ?_
  refine r_iload_n hL (x := b) dX8_joins_29 rfl ?_
  refine r_iconst hL dX8_joins_30 ?_
  refine r_iadd hL dX8_joins_31 ?_
  refine r_aload_n hL (x := 120) dX8_joins_32 rfl ?_
  refine r_getr hL xcl8 19 (by decide) s_120 (by decide) fl_X8_50 (by decide) f_120_19 dX8_joins_33 ?_
  refine r_iload_n hL (x := b) dX8_joins_36 rfl ?_
  refine r_aload_n hL (x := 120) dX8_joins_37 rfl ?_
  refine r_geti hL xcl8 20 (j' := 20) rfl (by decide) s_120 (by decide) fl_X8_124 (by decide) (by decide) dX8_joins_38 (fun hr38 => ?_)
  obtain ⟨z38, hz38⟩ : ∃ z, z = μ2 120 20 := ⟨_, rfl⟩
  rw [← hz38] at hr38 ⊢
  have hb38 : 0 ≤ μ2 120 20 ∧ μ2 120 20 ≤ 8 := (show ((20 : Int) = 2 → 0 ≤ (μ2 120 20) ∧ (μ2 120 20) ≤ 16) ∧ ((20 : Int) = 6 → 0 ≤ (μ2 120 20) ∧ (μ2 120 20) ≤ 10) ∧ ((20 : Int) = 8 → 0 ≤ (μ2 120 20) ∧ (μ2 120 20) ≤ 20) ∧ ((20 : Int) = 9 → 0 ≤ (μ2 120 20) ∧ (μ2 120 20) ≤ 2147483647) ∧ ((20 : Int) = 11 → 0 ≤ (μ2 120 20) ∧ (μ2 120 20) ≤ 10) ∧ ((20 : Int) = 13 → 0 ≤ (μ2 120 20) ∧ (μ2 120 20) ≤ 10) ∧ ((20 : Int) = 20 → 0 ≤ (μ2 120 20) ∧ (μ2 120 20) ≤ 8) from hB2 120 20).2.2.2.2.2.2 (by omega)
  refine r_iload_n hL (x := b) dX8_joins_41 rfl ?_
  refine r_isub hL dX8_joins_42 ?_
  refine r_callS hL (st := []) (av := [xR 134, xI (b + 1), xR 134, xI b, xI (z38 - b)]) (m_X8_bring (μ := μ2) 134 8 (by decide) s_134 (by decide) (b + 1) 134 8 (by decide) s_134 (by decide) b (z38 - b) (by omega) (by omega) (fun _ => by omega) (fun μ43c hm43c => ⟨rfl, ?_⟩)) ce_yX8_bring sm_yX8_bring ml_X8_73 dX8_joins_43 rfl (Nat.le_of_ble_eq_true rfl) ⟨Nat.le_of_ble_eq_true rfl, Nat.le_of_ble_eq_true rfl⟩ ⟨Nat.le_of_ble_eq_true rfl, Nat.le_of_ble_eq_true rfl⟩
  show X 0 0 WW μ43c 46 [some (xR 120), some (xI a), some (xI b)] []
  have hB43c : BI μ43c := by rw [hm43c]; exact hB2.br (fun k hk0 hk1 => trivial)
  have hF43c : Fr RM μ μ43c := by rw [hm43c]; exact hF2.br (fun b _ _ => by unfold RM; omega)
  have hk43c_120_20 : μ43c 120 20 = μ2 120 20 := by rw [hm43c]; exact congrFun (xbr_c (by decide)) _
  exact r_vret hL dX8_joins_46 rfl (have hj := TS_join (m := μ 120 20) hTS rfl hab.1 hab.2.1 hab.2.2 hm1 (by rw [hz13, hz6]; exact xne_or (hTS _ (by omega) (by omega))) (by rw [hm2, show z17 - 1 = μ 120 20 - 1 by omega]) (by omega) hm43c; hK _ hB43c hF43c hj.1 hj.2)

set_option maxHeartbeats 4000000 in
set_option maxRecDepth 20000 in
theorem m_X8_joinsOnce {K : Option xV → xW → xM → Prop} {μ : xM} (hB0 : BI μ) (n : Int) (hn : 0 ≤ n ∧ n ≤ 6) (h2m : 2 ≤ μ 120 20) (hTS : TS μ) (hK : ∀ μ', BI μ' → Fr RM μ μ' → TS μ' → μ' 120 20 = μ 120 20 - 1 → K none WW μ') : xMet yX8_joinsOnce cX8_joinsOnce 8 none 2 49 0 0 [xR 120, xI n] WW μ K := by
  refine xMet.go RX8 "joinsOnce" rfl rfl (by decide) [some (xR 120), some (xI n), none, none, none, none, none, none] (Nat.le_of_ble_eq_true rfl) rfl (fun X hL => ?_)
  have hB := hB0
  have hF : Fr RM μ μ := Fr.rf
  have hm20 : 0 ≤ μ 120 20 ∧ μ 120 20 ≤ 8 := (show ((20 : Int) = 2 → 0 ≤ (μ 120 20) ∧ (μ 120 20) ≤ 16) ∧ ((20 : Int) = 6 → 0 ≤ (μ 120 20) ∧ (μ 120 20) ≤ 10) ∧ ((20 : Int) = 8 → 0 ≤ (μ 120 20) ∧ (μ 120 20) ≤ 20) ∧ ((20 : Int) = 9 → 0 ≤ (μ 120 20) ∧ (μ 120 20) ≤ 2147483647) ∧ ((20 : Int) = 11 → 0 ≤ (μ 120 20) ∧ (μ 120 20) ≤ 10) ∧ ((20 : Int) = 13 → 0 ≤ (μ 120 20) ∧ (μ 120 20) ≤ 10) ∧ ((20 : Int) = 20 → 0 ≤ (μ 120 20) ∧ (μ 120 20) ≤ 8) from hB 120 20).2.2.2.2.2.2 (by omega)
  refine r_iconst hL dX8_joinsOnce_0 ?_
  refine r_istore_n hL (lo' := [some (xR 120), some (xI n), some (xI 0), none, none, none, none, none]) dX8_joinsOnce_1 (by decide) rfl ?_
  refine r_iconst hL dX8_joinsOnce_2 ?_
  refine r_istore_n hL (lo' := [some (xR 120), some (xI n), some (xI 0), some (xI 1), none, none, none, none]) dX8_joinsOnce_3 (by decide) rfl ?_
  refine r_iconst hL dX8_joinsOnce_4 ?_
  refine r_istore hL (lo' := [some (xR 120), some (xI n), some (xI 0), some (xI 1), some (xI 0), none, none, none]) dX8_joinsOnce_5 (by decide) rfl ?_
  have lp7 : ∀ (n7 : Nat) (a : Int) (b : Int) (i : Int), (0 ≤ a ∧ a < b ∧ b < μ 120 20) → (0 ≤ i ∧ i ≤ 8) → ((8 - i).toNat) < n7 → X 0 0 WW μ 7 [some (xR 120), some (xI n), some (xI a), some (xI b), some (xI i), none, none, none] [] := by
    intro n7
    induction n7 with
    | zero => intro a b i h1 h2 hn; exact absurd hn (Nat.not_lt_zero _)
    | succ n7 ih7 =>
      intro a b i h1 h2 hn7
      refine r_iload hL (x := i) dX8_joinsOnce_7 rfl ?_
      refine r_aload_n hL (x := 120) dX8_joinsOnce_9 rfl ?_
      refine r_geti hL xcl8 20 (j' := 20) rfl (by decide) s_120 (by decide) fl_X8_124 (by decide) (by decide) dX8_joinsOnce_10 (fun hr10 => ?_)
      obtain ⟨z10, hz10⟩ : ∃ z, z = μ 120 20 := ⟨_, rfl⟩
      rw [← hz10] at hr10 ⊢
      have hb10 : 0 ≤ μ 120 20 ∧ μ 120 20 ≤ 8 := (show ((20 : Int) = 2 → 0 ≤ (μ 120 20) ∧ (μ 120 20) ≤ 16) ∧ ((20 : Int) = 6 → 0 ≤ (μ 120 20) ∧ (μ 120 20) ≤ 10) ∧ ((20 : Int) = 8 → 0 ≤ (μ 120 20) ∧ (μ 120 20) ≤ 20) ∧ ((20 : Int) = 9 → 0 ≤ (μ 120 20) ∧ (μ 120 20) ≤ 2147483647) ∧ ((20 : Int) = 11 → 0 ≤ (μ 120 20) ∧ (μ 120 20) ≤ 10) ∧ ((20 : Int) = 13 → 0 ≤ (μ 120 20) ∧ (μ 120 20) ≤ 10) ∧ ((20 : Int) = 20 → 0 ≤ (μ 120 20) ∧ (μ 120 20) ≤ 8) from hB 120 20).2.2.2.2.2.2 (by omega)
      refine r_icmp_ge hL (tgt := 130) dX8_joinsOnce_13 (by decide) (by omega) (by omega) (fun c13 => ?_) (fun c13 => ?_)
      · skip
        refine r_aload_n hL (x := 120) dX8_joinsOnce_130 rfl ?_
        refine r_getr hL xcl8 21 (by decide) s_120 (by decide) fl_X8_53 (by decide) f_120_21 dX8_joinsOnce_131 ?_
        refine r_iload_n hL (x := n) dX8_joinsOnce_134 rfl ?_
        refine r_aload_n hL (x := 120) dX8_joinsOnce_135 rfl ?_
        refine r_getr hL xcl8 19 (by decide) s_120 (by decide) fl_X8_50 (by decide) f_120_19 dX8_joinsOnce_136 ?_
        refine r_iload_n hL (x := a) dX8_joinsOnce_139 rfl ?_
        refine r_iald hL dX8_joinsOnce_140 (by decide) s_134 (by decide) (by omega) (by omega) (fun hr140 => ?_)
        obtain ⟨z140, hz140⟩ : ∃ z, z = μ 134 a := ⟨_, rfl⟩
        rw [← hz140] at hr140 ⊢
        refine r_aload_n hL (x := 120) dX8_joinsOnce_141 rfl ?_
        refine r_getr hL xcl8 19 (by decide) s_120 (by decide) fl_X8_50 (by decide) f_120_19 dX8_joinsOnce_142 ?_
        refine r_iload_n hL (x := b) dX8_joinsOnce_145 rfl ?_
        refine r_iald hL dX8_joinsOnce_146 (by decide) s_134 (by decide) (by omega) (by omega) (fun hr146 => ?_)
        obtain ⟨z146, hz146⟩ : ∃ z, z = μ 134 b := ⟨_, rfl⟩
        rw [← hz146] at hr146 ⊢
        refine r_ior hL dX8_joinsOnce_147 ?_
        obtain ⟨z147, hz147⟩ : ∃ z, z = xor' z140 z146 := ⟨_, rfl⟩
        rw [← hz147]
        have hr147 : xrg z147 := by rw [hz147]; exact xor_rg _ _
        refine r_iast hL dX8_joinsOnce_148 (by decide) s_135 (by decide) (by omega) (by omega) (by omega) (fun μ1 hm1 => ?_)
        have hB1 : BI μ1 := by rw [hm1]; exact hB.up trivial
        have hF1 : Fr RM μ μ1 := by rw [hm1]; exact hF.up (by unfold RM; omega)
        have hk1_120_20 : μ1 120 20 = μ 120 20 := by rw [hm1]; exact congrFun (xup_c (by decide)) _
        have hTS1 : TS μ1 := hTS.keep (by rw [hm1]; exact xup_c (by decide)) (by rw [hm1]; exact congrFun (xup_c (by decide)) _)
        refine r_aload_n hL (x := 120) dX8_joinsOnce_149 rfl ?_
        refine r_getr hL xcl8 22 (by decide) s_120 (by decide) fl_X8_56 (by decide) f_120_22 dX8_joinsOnce_150 ?_
        refine r_iload_n hL (x := n) dX8_joinsOnce_153 rfl ?_
        refine r_aload_n hL (x := 120) dX8_joinsOnce_154 rfl ?_
        refine r_getr hL xcl8 19 (by decide) s_120 (by decide) fl_X8_50 (by decide) f_120_19 dX8_joinsOnce_155 ?_
        refine r_iload_n hL (x := a) dX8_joinsOnce_158 rfl ?_
        refine r_iald hL dX8_joinsOnce_159 (by decide) s_134 (by decide) (by omega) (by omega) (fun hr159 => ?_)
        obtain ⟨z159, hz159⟩ : ∃ z, z = μ1 134 a := ⟨_, rfl⟩
        rw [← hz159] at hr159 ⊢
        refine r_iast hL dX8_joinsOnce_160 (by decide) s_136 (by decide) (by omega) (by omega) (by omega) (fun μ2 hm2 => ?_)
        have hB2 : BI μ2 := by rw [hm2]; exact hB1.up trivial
        have hF2 : Fr RM μ μ2 := by rw [hm2]; exact hF1.up (by unfold RM; omega)
        have hk2_120_20 : μ2 120 20 = μ1 120 20 := by rw [hm2]; exact congrFun (xup_c (by decide)) _
        have hTS2 : TS μ2 := hTS1.keep (by rw [hm2]; exact xup_c (by decide)) (by rw [hm2]; exact congrFun (xup_c (by decide)) _)
        refine r_aload_n hL (x := 120) dX8_joinsOnce_161 rfl ?_
        refine r_getr hL xcl8 23 (by decide) s_120 (by decide) fl_X8_59 (by decide) f_120_23 dX8_joinsOnce_162 ?_
        refine r_iload_n hL (x := n) dX8_joinsOnce_165 rfl ?_
        refine r_aload_n hL (x := 120) dX8_joinsOnce_166 rfl ?_
        refine r_aload_n hL (x := 120) dX8_joinsOnce_167 rfl ?_
        refine r_getr hL xcl8 19 (by decide) s_120 (by decide) fl_X8_50 (by decide) f_120_19 dX8_joinsOnce_168 ?_
        refine r_iload_n hL (x := a) dX8_joinsOnce_171 rfl ?_
        refine r_iald hL dX8_joinsOnce_172 (by decide) s_134 (by decide) (by omega) (by omega) (fun hr172 => ?_)
        obtain ⟨z172, hz172⟩ : ∃ z, z = μ2 134 a := ⟨_, rfl⟩
        rw [← hz172] at hr172 ⊢
        refine r_aload_n hL (x := 120) dX8_joinsOnce_173 rfl ?_
        refine r_getr hL xcl8 19 (by decide) s_120 (by decide) fl_X8_50 (by decide) f_120_19 dX8_joinsOnce_174 ?_
        refine r_iload_n hL (x := b) dX8_joinsOnce_177 rfl ?_
        refine r_iald hL dX8_joinsOnce_178 (by decide) s_134 (by decide) (by omega) (by omega) (fun hr178 => ?_)
        obtain ⟨z178, hz178⟩ : ∃ z, z = μ2 134 b := ⟨_, rfl⟩
        rw [← hz178] at hr178 ⊢
        refine r_callV hL (st := [xI n, xR 137]) (av := [xI z172, xI z178]) (k := 120) (m_X8_nearBy (μ := μ2) hB2 z172 (by omega) z178 (by omega) (fun z179 hc179 => ⟨rfl, ?_⟩)) ce_yX8_nearBy im_yX8_nearBy se_yX8_nearBy ml_X8_127 xcl8 (by decide) s_120 dX8_joinsOnce_179 rfl (Nat.le_of_ble_eq_true rfl) ⟨Nat.le_of_ble_eq_true rfl, Nat.le_of_ble_eq_true rfl⟩ ⟨Nat.le_of_ble_eq_true rfl, Nat.le_of_ble_eq_true rfl⟩
        show X 0 0 WW μ2 182 [some (xR 120), some (xI n), some (xI a), some (xI b), some (xI i), none, none, none] [xI z179, xI n, xR 137]
        refine r_aload_n hL (x := 120) dX8_joinsOnce_182 rfl ?_
        refine r_aload_n hL (x := 120) dX8_joinsOnce_183 rfl ?_
        refine r_getr hL xcl8 19 (by decide) s_120 (by decide) fl_X8_50 (by decide) f_120_19 dX8_joinsOnce_184 ?_
        refine r_iload_n hL (x := a) dX8_joinsOnce_187 rfl ?_
        refine r_iald hL dX8_joinsOnce_188 (by decide) s_134 (by decide) (by omega) (by omega) (fun hr188 => ?_)
        obtain ⟨z188, hz188⟩ : ∃ z, z = μ2 134 a := ⟨_, rfl⟩
        rw [← hz188] at hr188 ⊢
        refine r_aload_n hL (x := 120) dX8_joinsOnce_189 rfl ?_
        refine r_getr hL xcl8 19 (by decide) s_120 (by decide) fl_X8_50 (by decide) f_120_19 dX8_joinsOnce_190 ?_
        refine r_iload_n hL (x := b) dX8_joinsOnce_193 rfl ?_
        refine r_iald hL dX8_joinsOnce_194 (by decide) s_134 (by decide) (by omega) (by omega) (fun hr194 => ?_)
        obtain ⟨z194, hz194⟩ : ∃ z, z = μ2 134 b := ⟨_, rfl⟩
        rw [← hz194] at hr194 ⊢
        refine r_callV hL (st := [xI z179, xI n, xR 137]) (av := [xI z188, xI z194]) (k := 120) (m_X8_partsOf (μ := μ2) hB2 z188 (by rw [hz188]; exact hTS2 _ (by omega) (by omega)) z194 (by rw [hz194]; exact hTS2 _ (by omega) (by omega)) (fun z195 hc195 => ⟨rfl, ?_⟩)) ce_yX8_partsOf im_yX8_partsOf se_yX8_partsOf ml_X8_130 xcl8 (by decide) s_120 dX8_joinsOnce_195 rfl (Nat.le_of_ble_eq_true rfl) ⟨Nat.le_of_ble_eq_true rfl, Nat.le_of_ble_eq_true rfl⟩ ⟨Nat.le_of_ble_eq_true rfl, Nat.le_of_ble_eq_true rfl⟩
        show X 0 0 WW μ2 198 [some (xR 120), some (xI n), some (xI a), some (xI b), some (xI i), none, none, none] [xI z195, xI z179, xI n, xR 137]
        refine r_idiv hL dX8_joinsOnce_198 (by omega) (by omega) ?_
        obtain ⟨z198, hz198⟩ : ∃ z, z = xdiv z179 z195 := ⟨_, rfl⟩
        rw [← hz198]
        have hr198 : xrg z198 := by rw [hz198]; exact xdiv_rg _ _
        refine r_iast hL dX8_joinsOnce_199 (by decide) s_137 (by decide) (by omega) (by omega) (by omega) (fun μ3 hm3 => ?_)
        have hB3 : BI μ3 := by rw [hm3]; exact hB2.up trivial
        have hF3 : Fr RM μ μ3 := by rw [hm3]; exact hF2.up (by unfold RM; omega)
        have hk3_120_20 : μ3 120 20 = μ2 120 20 := by rw [hm3]; exact congrFun (xup_c (by decide)) _
        have hTS3 : TS μ3 := hTS2.keep (by rw [hm3]; exact xup_c (by decide)) (by rw [hm3]; exact congrFun (xup_c (by decide)) _)
        refine r_aload_n hL (x := 120) dX8_joinsOnce_200 rfl ?_
        refine r_iload_n hL (x := a) dX8_joinsOnce_201 rfl ?_
        refine r_iload_n hL (x := b) dX8_joinsOnce_202 rfl ?_
        refine r_callV hL (st := []) (av := [xI a, xI b]) (k := 120) (m_X8_joins (μ := μ3) hB3 a b (by omega) hTS3 (fun μ203c hB203c hG203 hTS203c hc203 => ⟨rfl, ?_⟩)) ce_yX8_joins im_yX8_joins se_yX8_joins ml_X8_133 xcl8 (by decide) s_120 dX8_joinsOnce_203 rfl (Nat.le_of_ble_eq_true rfl) ⟨Nat.le_of_ble_eq_true rfl, Nat.le_of_ble_eq_true rfl⟩ ⟨Nat.le_of_ble_eq_true rfl, Nat.le_of_ble_eq_true rfl⟩
        show X 0 0 WW μ203c 206 [some (xR 120), some (xI n), some (xI a), some (xI b), some (xI i), none, none, none] []
        have hF203c : Fr RM μ μ203c := hF3.trans hG203
        exact r_vret hL dX8_joinsOnce_206 rfl (hK _ hB203c hF203c hTS203c (by omega))
      · skip
        refine r_iload hL (x := i) dX8_joinsOnce_16 rfl ?_
        refine r_iconst hL dX8_joinsOnce_18 ?_
        refine r_iadd hL dX8_joinsOnce_19 ?_
        refine r_istore hL (lo' := [some (xR 120), some (xI n), some (xI a), some (xI b), some (xI i), some (xI (i + 1)), none, none]) dX8_joinsOnce_20 (by decide) rfl ?_
        have lp22 : ∀ (n22 : Nat) (a2 : Int) (b2 : Int) (j : Int), (0 ≤ a2 ∧ a2 < b2 ∧ b2 < μ 120 20) → (i + 1 ≤ j ∧ j ≤ 8) → ((8 - j).toNat) < n22 → X 0 0 WW μ 22 [some (xR 120), some (xI n), some (xI a2), some (xI b2), some (xI i), some (xI j), none, none] [] := by
          intro n22
          induction n22 with
          | zero => intro a2 b2 j h3 h4 hn; exact absurd hn (Nat.not_lt_zero _)
          | succ n22 ih22 =>
            intro a2 b2 j h3 h4 hn22
            refine r_iload hL (x := j) dX8_joinsOnce_22 rfl ?_
            refine r_aload_n hL (x := 120) dX8_joinsOnce_24 rfl ?_
            refine r_geti hL xcl8 20 (j' := 20) rfl (by decide) s_120 (by decide) fl_X8_124 (by decide) (by decide) dX8_joinsOnce_25 (fun hr25 => ?_)
            obtain ⟨z25, hz25⟩ : ∃ z, z = μ 120 20 := ⟨_, rfl⟩
            rw [← hz25] at hr25 ⊢
            have hb25 : 0 ≤ μ 120 20 ∧ μ 120 20 ≤ 8 := (show ((20 : Int) = 2 → 0 ≤ (μ 120 20) ∧ (μ 120 20) ≤ 16) ∧ ((20 : Int) = 6 → 0 ≤ (μ 120 20) ∧ (μ 120 20) ≤ 10) ∧ ((20 : Int) = 8 → 0 ≤ (μ 120 20) ∧ (μ 120 20) ≤ 20) ∧ ((20 : Int) = 9 → 0 ≤ (μ 120 20) ∧ (μ 120 20) ≤ 2147483647) ∧ ((20 : Int) = 11 → 0 ≤ (μ 120 20) ∧ (μ 120 20) ≤ 10) ∧ ((20 : Int) = 13 → 0 ≤ (μ 120 20) ∧ (μ 120 20) ≤ 10) ∧ ((20 : Int) = 20 → 0 ≤ (μ 120 20) ∧ (μ 120 20) ≤ 8) from hB 120 20).2.2.2.2.2.2 (by omega)
            refine r_icmp_ge hL (tgt := 124) dX8_joinsOnce_28 (by decide) (by omega) (by omega) (fun c28 => ?_) (fun c28 => ?_)
            · skip
              refine r_iinc hL (x := i) (lo' := [some (xR 120), some (xI n), some (xI a2), some (xI b2), some (xI (i + 1)), some (xI j), none, none]) dX8_joinsOnce_124 (by decide) rfl rfl ?_
              refine r_goto hL (tgt := 7) dX8_joinsOnce_127 (by decide) ?_
              refine r_drop hL (lo' := [some (xR 120), some (xI n), some (xI a2), some (xI b2), some (xI (i + 1)), none, none, none]) [5] rfl ?_
              exact ih7 a2 b2 (i + 1) (by omega) (by omega) (by omega)
            · skip
              refine r_aload_n hL (x := 120) dX8_joinsOnce_31 rfl ?_
              refine r_aload_n hL (x := 120) dX8_joinsOnce_32 rfl ?_
              refine r_getr hL xcl8 19 (by decide) s_120 (by decide) fl_X8_50 (by decide) f_120_19 dX8_joinsOnce_33 ?_
              refine r_iload hL (x := i) dX8_joinsOnce_36 rfl ?_
              refine r_iald hL dX8_joinsOnce_38 (by decide) s_134 (by decide) (by omega) (by omega) (fun hr38 => ?_)
              obtain ⟨z38, hz38⟩ : ∃ z, z = μ 134 i := ⟨_, rfl⟩
              rw [← hz38] at hr38 ⊢
              refine r_aload_n hL (x := 120) dX8_joinsOnce_39 rfl ?_
              refine r_getr hL xcl8 19 (by decide) s_120 (by decide) fl_X8_50 (by decide) f_120_19 dX8_joinsOnce_40 ?_
              refine r_iload hL (x := j) dX8_joinsOnce_43 rfl ?_
              refine r_iald hL dX8_joinsOnce_45 (by decide) s_134 (by decide) (by omega) (by omega) (fun hr45 => ?_)
              obtain ⟨z45, hz45⟩ : ∃ z, z = μ 134 j := ⟨_, rfl⟩
              rw [← hz45] at hr45 ⊢
              refine r_callV hL (st := []) (av := [xI z38, xI z45]) (k := 120) (m_X8_nearBy (μ := μ) hB z38 (by omega) z45 (by omega) (fun z46 hc46 => ⟨rfl, ?_⟩)) ce_yX8_nearBy im_yX8_nearBy se_yX8_nearBy ml_X8_127 xcl8 (by decide) s_120 dX8_joinsOnce_46 rfl (Nat.le_of_ble_eq_true rfl) ⟨Nat.le_of_ble_eq_true rfl, Nat.le_of_ble_eq_true rfl⟩ ⟨Nat.le_of_ble_eq_true rfl, Nat.le_of_ble_eq_true rfl⟩
              show X 0 0 WW μ 49 [some (xR 120), some (xI n), some (xI a2), some (xI b2), some (xI i), some (xI j), none, none] [xI z46]
              refine r_aload_n hL (x := 120) dX8_joinsOnce_49 rfl ?_
              refine r_aload_n hL (x := 120) dX8_joinsOnce_50 rfl ?_
              refine r_getr hL xcl8 19 (by decide) s_120 (by decide) fl_X8_50 (by decide) f_120_19 dX8_joinsOnce_51 ?_
              refine r_iload_n hL (x := a2) dX8_joinsOnce_54 rfl ?_
              refine r_iald hL dX8_joinsOnce_55 (by decide) s_134 (by decide) (by omega) (by omega) (fun hr55 => ?_)
              obtain ⟨z55, hz55⟩ : ∃ z, z = μ 134 a2 := ⟨_, rfl⟩
              rw [← hz55] at hr55 ⊢
              refine r_aload_n hL (x := 120) dX8_joinsOnce_56 rfl ?_
              refine r_getr hL xcl8 19 (by decide) s_120 (by decide) fl_X8_50 (by decide) f_120_19 dX8_joinsOnce_57 ?_
              refine r_iload_n hL (x := b2) dX8_joinsOnce_60 rfl ?_
              refine r_iald hL dX8_joinsOnce_61 (by decide) s_134 (by decide) (by omega) (by omega) (fun hr61 => ?_)
              obtain ⟨z61, hz61⟩ : ∃ z, z = μ 134 b2 := ⟨_, rfl⟩
              rw [← hz61] at hr61 ⊢
              refine r_callV hL (st := [xI z46]) (av := [xI z55, xI z61]) (k := 120) (m_X8_partsOf (μ := μ) hB z55 (by rw [hz55]; exact hTS _ (by omega) (by omega)) z61 (by rw [hz61]; exact hTS _ (by omega) (by omega)) (fun z62 hc62 => ⟨rfl, ?_⟩)) ce_yX8_partsOf im_yX8_partsOf se_yX8_partsOf ml_X8_130 xcl8 (by decide) s_120 dX8_joinsOnce_62 rfl (Nat.le_of_ble_eq_true rfl) ⟨Nat.le_of_ble_eq_true rfl, Nat.le_of_ble_eq_true rfl⟩ ⟨Nat.le_of_ble_eq_true rfl, Nat.le_of_ble_eq_true rfl⟩
              show X 0 0 WW μ 65 [some (xR 120), some (xI n), some (xI a2), some (xI b2), some (xI i), some (xI j), none, none] [xI z62, xI z46]
              refine r_imul hL dX8_joinsOnce_65 ?_
              refine r_norm hL (fun y65 hy65 hyr65 => ?_)
              refine r_istore hL (lo' := [some (xR 120), some (xI n), some (xI a2), some (xI b2), some (xI i), some (xI j), some (xI y65), none]) dX8_joinsOnce_66 (by decide) rfl ?_
              refine r_aload_n hL (x := 120) dX8_joinsOnce_68 rfl ?_
              refine r_aload_n hL (x := 120) dX8_joinsOnce_69 rfl ?_
              refine r_getr hL xcl8 19 (by decide) s_120 (by decide) fl_X8_50 (by decide) f_120_19 dX8_joinsOnce_70 ?_
              refine r_iload_n hL (x := a2) dX8_joinsOnce_73 rfl ?_
              refine r_iald hL dX8_joinsOnce_74 (by decide) s_134 (by decide) (by omega) (by omega) (fun hr74 => ?_)
              obtain ⟨z74, hz74⟩ : ∃ z, z = μ 134 a2 := ⟨_, rfl⟩
              rw [← hz74] at hr74 ⊢
              refine r_aload_n hL (x := 120) dX8_joinsOnce_75 rfl ?_
              refine r_getr hL xcl8 19 (by decide) s_120 (by decide) fl_X8_50 (by decide) f_120_19 dX8_joinsOnce_76 ?_
              refine r_iload_n hL (x := b2) dX8_joinsOnce_79 rfl ?_
              refine r_iald hL dX8_joinsOnce_80 (by decide) s_134 (by decide) (by omega) (by omega) (fun hr80 => ?_)
              obtain ⟨z80, hz80⟩ : ∃ z, z = μ 134 b2 := ⟨_, rfl⟩
              rw [← hz80] at hr80 ⊢
              refine r_callV hL (st := []) (av := [xI z74, xI z80]) (k := 120) (m_X8_nearBy (μ := μ) hB z74 (by omega) z80 (by omega) (fun z81 hc81 => ⟨rfl, ?_⟩)) ce_yX8_nearBy im_yX8_nearBy se_yX8_nearBy ml_X8_127 xcl8 (by decide) s_120 dX8_joinsOnce_81 rfl (Nat.le_of_ble_eq_true rfl) ⟨Nat.le_of_ble_eq_true rfl, Nat.le_of_ble_eq_true rfl⟩ ⟨Nat.le_of_ble_eq_true rfl, Nat.le_of_ble_eq_true rfl⟩
              show X 0 0 WW μ 84 [some (xR 120), some (xI n), some (xI a2), some (xI b2), some (xI i), some (xI j), some (xI y65), none] [xI z81]
              refine r_aload_n hL (x := 120) dX8_joinsOnce_84 rfl ?_
              refine r_aload_n hL (x := 120) dX8_joinsOnce_85 rfl ?_
              refine r_getr hL xcl8 19 (by decide) s_120 (by decide) fl_X8_50 (by decide) f_120_19 dX8_joinsOnce_86 ?_
              refine r_iload hL (x := i) dX8_joinsOnce_89 rfl ?_
              refine r_iald hL dX8_joinsOnce_91 (by decide) s_134 (by decide) (by omega) (by omega) (fun hr91 => ?_)
              obtain ⟨z91, hz91⟩ : ∃ z, z = μ 134 i := ⟨_, rfl⟩
              rw [← hz91] at hr91 ⊢
              refine r_aload_n hL (x := 120) dX8_joinsOnce_92 rfl ?_
              refine r_getr hL xcl8 19 (by decide) s_120 (by decide) fl_X8_50 (by decide) f_120_19 dX8_joinsOnce_93 ?_
              refine r_iload hL (x := j) dX8_joinsOnce_96 rfl ?_
              refine r_iald hL dX8_joinsOnce_98 (by decide) s_134 (by decide) (by omega) (by omega) (fun hr98 => ?_)
              obtain ⟨z98, hz98⟩ : ∃ z, z = μ 134 j := ⟨_, rfl⟩
              rw [← hz98] at hr98 ⊢
              refine r_callV hL (st := [xI z81]) (av := [xI z91, xI z98]) (k := 120) (m_X8_partsOf (μ := μ) hB z91 (by rw [hz91]; exact hTS _ (by omega) (by omega)) z98 (by rw [hz98]; exact hTS _ (by omega) (by omega)) (fun z99 hc99 => ⟨rfl, ?_⟩)) ce_yX8_partsOf im_yX8_partsOf se_yX8_partsOf ml_X8_130 xcl8 (by decide) s_120 dX8_joinsOnce_99 rfl (Nat.le_of_ble_eq_true rfl) ⟨Nat.le_of_ble_eq_true rfl, Nat.le_of_ble_eq_true rfl⟩ ⟨Nat.le_of_ble_eq_true rfl, Nat.le_of_ble_eq_true rfl⟩
              show X 0 0 WW μ 102 [some (xR 120), some (xI n), some (xI a2), some (xI b2), some (xI i), some (xI j), some (xI y65), none] [xI z99, xI z81]
              refine r_imul hL dX8_joinsOnce_102 ?_
              refine r_norm hL (fun y102 hy102 hyr102 => ?_)
              refine r_istore hL (lo' := [some (xR 120), some (xI n), some (xI a2), some (xI b2), some (xI i), some (xI j), some (xI y65), some (xI y102)]) dX8_joinsOnce_103 (by decide) rfl ?_
              refine r_iload hL (x := y65) dX8_joinsOnce_105 rfl ?_
              refine r_iload hL (x := y102) dX8_joinsOnce_107 rfl ?_
              refine r_icmp_ge hL (tgt := 118) dX8_joinsOnce_109 (by decide) (by omega) (by omega) (fun c109 => ?_) (fun c109 => ?_)
              · skip
                refine r_iinc hL (x := j) (lo' := [some (xR 120), some (xI n), some (xI a2), some (xI b2), some (xI i), some (xI (j + 1)), some (xI y65), some (xI y102)]) dX8_joinsOnce_118 (by decide) rfl rfl ?_
                refine r_goto hL (tgt := 22) dX8_joinsOnce_121 (by decide) ?_
                refine r_drop hL (lo' := [some (xR 120), some (xI n), some (xI a2), some (xI b2), some (xI i), some (xI (j + 1)), none, none]) [6, 7] rfl ?_
                exact ih22 a2 b2 (j + 1) (by omega) (by omega) (by omega)
              · skip
                refine r_iload hL (x := i) dX8_joinsOnce_112 rfl ?_
                refine r_istore_n hL (lo' := [some (xR 120), some (xI n), some (xI i), some (xI b2), some (xI i), some (xI j), some (xI y65), some (xI y102)]) dX8_joinsOnce_114 (by decide) rfl ?_
                refine r_iload hL (x := j) dX8_joinsOnce_115 rfl ?_
                refine r_istore_n hL (lo' := [some (xR 120), some (xI n), some (xI i), some (xI j), some (xI i), some (xI j), some (xI y65), some (xI y102)]) dX8_joinsOnce_117 (by decide) rfl ?_
                refine r_iinc hL (x := j) (lo' := [some (xR 120), some (xI n), some (xI i), some (xI j), some (xI i), some (xI (j + 1)), some (xI y65), some (xI y102)]) dX8_joinsOnce_118 (by decide) rfl rfl ?_
                refine r_goto hL (tgt := 22) dX8_joinsOnce_121 (by decide) ?_
                refine r_drop hL (lo' := [some (xR 120), some (xI n), some (xI i), some (xI j), some (xI i), some (xI (j + 1)), none, none]) [6, 7] rfl ?_
                exact ih22 i j (j + 1) (by omega) (by omega) (by omega)
        exact lp22 _ a b (i + 1) (by omega) (by omega) (Nat.lt_succ_self _)
  exact lp7 _ 0 1 0 (by omega) (by omega) (Nat.lt_succ_self _)

set_option maxHeartbeats 4000000 in
set_option maxRecDepth 20000 in
theorem m_X8_beginsTypes {K : Option xV → xW → xM → Prop} {μ : xM} (hB0 : BI μ)  (hK : ∀ μ', BI μ' → Fr RM μ μ' → TS μ' → μ' 120 20 = μ 121 0 → K none WW μ') : xMet yX8_beginsTypes cX8_beginsTypes 2 none 6 140 0 0 [xR 120] WW μ K := by
  refine xMet.go RX8 "beginsTypes" rfl rfl (by decide) [some (xR 120), none] (Nat.le_of_ble_eq_true rfl) rfl (fun X hL => ?_)
  have hB := hB0
  have hF : Fr RM μ μ := Fr.rf
  refine r_aload_n hL (x := 120) dX8_beginsTypes_0 rfl ?_
  refine r_callV hL (st := []) (av := []) (k := 120) (m_X8_laysFar (μ := μ) hB  (fun μ1c hB1c hG1 => ⟨rfl, ?_⟩)) ce_yX8_laysFar im_yX8_laysFar se_yX8_laysFar ml_X8_136 xcl8 (by decide) s_120 dX8_beginsTypes_1 rfl (Nat.le_of_ble_eq_true rfl) ⟨Nat.le_of_ble_eq_true rfl, Nat.le_of_ble_eq_true rfl⟩ ⟨Nat.le_of_ble_eq_true rfl, Nat.le_of_ble_eq_true rfl⟩
  show X 0 0 WW μ1c 4 [some (xR 120), none] []
  have hF1c : Fr RM μ μ1c := hF.trans hG1
  refine r_aload_n hL (x := 120) dX8_beginsTypes_4 rfl ?_
  refine r_aload_n hL (x := 120) dX8_beginsTypes_5 rfl ?_
  refine r_getr hL xcl8 0 (by decide) s_120 (by decide) fl_X8_7 (by decide) f_120_0 dX8_beginsTypes_6 ?_
  refine r_iconst hL dX8_beginsTypes_9 ?_
  refine r_iald hL dX8_beginsTypes_10 (by decide) s_121 (by decide) (by omega) (by omega) (fun hr10 => ?_)
  obtain ⟨z10, hz10⟩ : ∃ z, z = μ1c 121 0 := ⟨_, rfl⟩
  rw [← hz10] at hr10 ⊢
  have hb10 : 0 ≤ μ1c 121 0 ∧ μ1c 121 0 ≤ 8 := (show ((0 : Int) = 0 → 0 ≤ (μ1c 121 0) ∧ (μ1c 121 0) ≤ 8) ∧ ((0 : Int) = 1 → 0 ≤ (μ1c 121 0) ∧ (μ1c 121 0) ≤ 2) ∧ (2 ≤ (0 : Int) ∧ (0 : Int) ≤ 5 → 0 ≤ (μ1c 121 0) ∧ (μ1c 121 0) ≤ 9) ∧ (6 ≤ (0 : Int) ∧ (0 : Int) ≤ 13 → 0 ≤ (μ1c 121 0) ∧ (μ1c 121 0) ≤ 10) ∧ (30 ≤ (0 : Int) → 0 ≤ (μ1c 121 0) ∧ (μ1c 121 0) ≤ 7) from hB1c 121 0).1 (by omega)
  refine r_puti hL xcl8 20 (j' := 20) rfl (by decide) s_120 (by decide) fl_X8_124 rfl rfl (by omega) dX8_beginsTypes_11 (fun μ1 hm1 => ?_)
  have hB1 : BI μ1 := by rw [hm1]; exact hB1c.up (by show ((20 : Int) = 2 → 0 ≤ z10 ∧ z10 ≤ 16) ∧ ((20 : Int) = 6 → 0 ≤ z10 ∧ z10 ≤ 10) ∧ ((20 : Int) = 8 → 0 ≤ z10 ∧ z10 ≤ 20) ∧ ((20 : Int) = 9 → 0 ≤ z10 ∧ z10 ≤ 2147483647) ∧ ((20 : Int) = 11 → 0 ≤ z10 ∧ z10 ≤ 10) ∧ ((20 : Int) = 13 → 0 ≤ z10 ∧ z10 ≤ 10) ∧ ((20 : Int) = 20 → 0 ≤ z10 ∧ z10 ≤ 8); omega)
  have hF1 : Fr RM μ μ1 := by rw [hm1]; exact hF1c.up (by unfold RM; omega)
  have hk1_120_20 : μ1 120 20 = z10 := by rw [hm1]; exact xup_s _ _ _ _
  refine r_iconst hL dX8_beginsTypes_14 ?_
  refine r_istore_n hL (lo' := [some (xR 120), some (xI 0)]) dX8_beginsTypes_15 (by decide) rfl ?_
  have lp16 : ∀ (n16 : Nat) (t : Int) (μ116 : xM), (BI μ116) → (Fr RM μ μ116) → (μ116 120 20 = z10) → (0 ≤ t ∧ t ≤ 8) → (∀ q, 0 ≤ q → q < t → xne (μ116 134 q)) → ((8 - t).toNat) < n16 → X 0 0 WW μ116 16 [some (xR 120), some (xI t)] [] := by
    intro n16
    induction n16 with
    | zero => intro t μ116 hB116 hF116 h1 h2 hT116 hn; exact absurd hn (Nat.not_lt_zero _)
    | succ n16 ih16 =>
      intro t μ116 hB116 hF116 h1 h2 hT116 hn16
      refine r_iload_n hL (x := t) dX8_beginsTypes_16 rfl ?_
      refine r_aload_n hL (x := 120) dX8_beginsTypes_17 rfl ?_
      refine r_geti hL xcl8 20 (j' := 20) rfl (by decide) s_120 (by decide) fl_X8_124 (by decide) (by decide) dX8_beginsTypes_18 (fun hr18 => ?_)
      obtain ⟨z18, hz18⟩ : ∃ z, z = μ116 120 20 := ⟨_, rfl⟩
      rw [← hz18] at hr18 ⊢
      have hb18 : 0 ≤ μ116 120 20 ∧ μ116 120 20 ≤ 8 := (show ((20 : Int) = 2 → 0 ≤ (μ116 120 20) ∧ (μ116 120 20) ≤ 16) ∧ ((20 : Int) = 6 → 0 ≤ (μ116 120 20) ∧ (μ116 120 20) ≤ 10) ∧ ((20 : Int) = 8 → 0 ≤ (μ116 120 20) ∧ (μ116 120 20) ≤ 20) ∧ ((20 : Int) = 9 → 0 ≤ (μ116 120 20) ∧ (μ116 120 20) ≤ 2147483647) ∧ ((20 : Int) = 11 → 0 ≤ (μ116 120 20) ∧ (μ116 120 20) ≤ 10) ∧ ((20 : Int) = 13 → 0 ≤ (μ116 120 20) ∧ (μ116 120 20) ≤ 10) ∧ ((20 : Int) = 20 → 0 ≤ (μ116 120 20) ∧ (μ116 120 20) ≤ 8) from hB116 120 20).2.2.2.2.2.2 (by omega)
      refine r_icmp_ge hL (tgt := 39) dX8_beginsTypes_21 (by decide) (by omega) (by omega) (fun c21 => ?_) (fun c21 => ?_)
      · skip
        exact r_vret hL dX8_beginsTypes_39 rfl (hK _ hB116 hF116 (fun q h0 h1 => hT116 q h0 (by omega)) (by have := hG1 121 0 (by unfold RM; omega); omega))
      · skip
        refine r_aload_n hL (x := 120) dX8_beginsTypes_24 rfl ?_
        refine r_getr hL xcl8 19 (by decide) s_120 (by decide) fl_X8_50 (by decide) f_120_19 dX8_beginsTypes_25 ?_
        refine r_iload_n hL (x := t) dX8_beginsTypes_28 rfl ?_
        refine r_iconst hL dX8_beginsTypes_29 ?_
        refine r_iload_n hL (x := t) dX8_beginsTypes_30 rfl ?_
        refine r_ishl hL dX8_beginsTypes_31 ?_
        obtain ⟨z31, hz31⟩ : ∃ z, z = xshl 1 t := ⟨_, rfl⟩
        rw [← hz31]
        have hr31 : xrg z31 := by rw [hz31]; exact xshl_rg _ _
        refine r_iast hL dX8_beginsTypes_32 (by decide) s_134 (by decide) (by omega) (by omega) (by omega) (fun μ2 hm2 => ?_)
        have hB2 : BI μ2 := by rw [hm2]; exact hB116.up trivial
        have hF2 : Fr RM μ μ2 := by rw [hm2]; exact hF116.up (by unfold RM; omega)
        have hk2_120_20 : μ2 120 20 = μ116 120 20 := by rw [hm2]; exact congrFun (xup_c (by decide)) _
        refine r_iinc hL (x := t) (lo' := [some (xR 120), some (xI (t + 1))]) dX8_beginsTypes_33 (by decide) rfl rfl ?_
        refine r_goto hL (tgt := 16) dX8_beginsTypes_36 (by decide) ?_
        exact ih16 (t + 1) μ2 hB2 hF2 (by omega) (by omega) (fun q h0 h1 => by rcases (show q < t ∨ q = t by omega) with hq | hq; rw [hm2, xup_j (by omega)]; exact hT116 q h0 hq; rw [hm2, hq, xup_s, hz31]; exact xne_one (by omega) (by omega)) (by omega)
  exact lp16 _ 0 μ1 hB1 hF1 (by omega) (by omega) (fun q h0 h1 => by omega) (Nat.lt_succ_self _)

set_option maxHeartbeats 4000000 in
set_option maxRecDepth 20000 in
theorem m_X8_laysNodes {K : Option xV → xW → xM → Prop} {μ : xM} (hB0 : BI μ)  (hK : ∀ μ', BI μ' → Fr RM μ μ' → K none WW μ') : xMet yX8_laysNodes cX8_laysNodes 2 none 7 161 0 0 [xR 120] WW μ K := by
  refine xMet.go RX8 "laysNodes" rfl rfl (by decide) [some (xR 120), none] (Nat.le_of_ble_eq_true rfl) rfl (fun X hL => ?_)
  have hB := hB0
  have hF : Fr RM μ μ := Fr.rf
  refine r_aload_n hL (x := 120) dX8_laysNodes_0 rfl ?_
  refine r_callV hL (st := []) (av := []) (k := 120) (m_X8_beginsTypes (μ := μ) hB  (fun μ1c hB1c hG1 hTS1c hc1 => ⟨rfl, ?_⟩)) ce_yX8_beginsTypes im_yX8_beginsTypes se_yX8_beginsTypes ml_X8_139 xcl8 (by decide) s_120 dX8_laysNodes_1 rfl (Nat.le_of_ble_eq_true rfl) ⟨Nat.le_of_ble_eq_true rfl, Nat.le_of_ble_eq_true rfl⟩ ⟨Nat.le_of_ble_eq_true rfl, Nat.le_of_ble_eq_true rfl⟩
  show X 0 0 WW μ1c 4 [some (xR 120), none] []
  have hF1c : Fr RM μ μ1c := hF.trans hG1
  refine r_iconst hL dX8_laysNodes_4 ?_
  refine r_istore_n hL (lo' := [some (xR 120), some (xI 0)]) dX8_laysNodes_5 (by decide) rfl ?_
  have lp6 : ∀ (n6 : Nat) (n : Int) (μ106 : xM), (BI μ106) → (Fr RM μ μ106) → (0 ≤ n ∧ n ≤ 8) → (μ106 120 20 = μ 121 0 - n) → (TS μ106) → ((8 - n).toNat) < n6 → X 0 0 WW μ106 6 [some (xR 120), some (xI n)] [] := by
    intro n6
    induction n6 with
    | zero => intro n μ106 hB106 hF106 h1 h2 hTS106 hn; exact absurd hn (Nat.not_lt_zero _)
    | succ n6 ih6 =>
      intro n μ106 hB106 hF106 h1 h2 hTS106 hn6
      have e0 : μ106 121 0 = μ 121 0 := hF106 121 0 (by unfold RM; omega)
      have hm0 : 0 ≤ μ 121 0 ∧ μ 121 0 ≤ 8 := (show ((0 : Int) = 0 → 0 ≤ (μ 121 0) ∧ (μ 121 0) ≤ 8) ∧ ((0 : Int) = 1 → 0 ≤ (μ 121 0) ∧ (μ 121 0) ≤ 2) ∧ (2 ≤ (0 : Int) ∧ (0 : Int) ≤ 5 → 0 ≤ (μ 121 0) ∧ (μ 121 0) ≤ 9) ∧ (6 ≤ (0 : Int) ∧ (0 : Int) ≤ 13 → 0 ≤ (μ 121 0) ∧ (μ 121 0) ≤ 10) ∧ (30 ≤ (0 : Int) → 0 ≤ (μ 121 0) ∧ (μ 121 0) ≤ 7) from hB 121 0).1 (by omega)
      refine r_iload_n hL (x := n) dX8_laysNodes_6 rfl ?_
      refine r_aload_n hL (x := 120) dX8_laysNodes_7 rfl ?_
      refine r_callV hL (st := [xI n]) (av := []) (k := 120) (m_X8_nodesMany (μ := μ106) hB106  (fun z8 hc8 hc8_1 hc8_2 => ⟨rfl, ?_⟩)) ce_yX8_nodesMany im_yX8_nodesMany se_yX8_nodesMany ml_X8_142 xcl8 (by decide) s_120 dX8_laysNodes_8 rfl (Nat.le_of_ble_eq_true rfl) ⟨Nat.le_of_ble_eq_true rfl, Nat.le_of_ble_eq_true rfl⟩ ⟨Nat.le_of_ble_eq_true rfl, Nat.le_of_ble_eq_true rfl⟩
      show X 0 0 WW μ106 11 [some (xR 120), some (xI n)] [xI z8, xI n]
      refine r_icmp_ge hL (tgt := 25) dX8_laysNodes_11 (by decide) (by omega) (by omega) (fun c11 => ?_) (fun c11 => ?_)
      · skip
        exact r_vret hL dX8_laysNodes_25 rfl (hK _ hB106 hF106)
      · skip
        refine r_aload_n hL (x := 120) dX8_laysNodes_14 rfl ?_
        refine r_iload_n hL (x := n) dX8_laysNodes_15 rfl ?_
        refine r_callV hL (st := []) (av := [xI n]) (k := 120) (m_X8_joinsOnce (μ := μ106) hB106 n (by omega) (by omega) hTS106 (fun μ16c hB16c hG16 hTS16c hc16 => ⟨rfl, ?_⟩)) ce_yX8_joinsOnce im_yX8_joinsOnce se_yX8_joinsOnce ml_X8_145 xcl8 (by decide) s_120 dX8_laysNodes_16 rfl (Nat.le_of_ble_eq_true rfl) ⟨Nat.le_of_ble_eq_true rfl, Nat.le_of_ble_eq_true rfl⟩ ⟨Nat.le_of_ble_eq_true rfl, Nat.le_of_ble_eq_true rfl⟩
        show X 0 0 WW μ16c 19 [some (xR 120), some (xI n)] []
        have hF16c : Fr RM μ μ16c := hF106.trans hG16
        refine r_iinc hL (x := n) (lo' := [some (xR 120), some (xI (n + 1))]) dX8_laysNodes_19 (by decide) rfl rfl ?_
        refine r_goto hL (tgt := 6) dX8_laysNodes_22 (by decide) ?_
        exact ih6 (n + 1) μ16c hB16c hF16c (by omega) (by omega) hTS16c (by omega)
  exact lp6 _ 0 μ1c hB1c hF1c (by omega) (by omega) hTS1c (Nat.lt_succ_self _)

set_option maxHeartbeats 4000000 in
set_option maxRecDepth 20000 in
theorem m_X8_middleOf {K : Option xV → xW → xM → Prop} {μ : xM} (hB0 : BI μ) (s : Int) (hs : xrg s) (hK : ∀ r, xrg r → K (some (xI r)) WW μ) : xMet yX8_middleOf cX8_middleOf 7 (some .int) 1 21 0 0 [xR 120, xI s] WW μ K := by
  refine xMet.go RX8 "middleOf" rfl rfl (by decide) [some (xR 120), some (xI s), none, none, none, none, none] (Nat.le_of_ble_eq_true rfl) rfl (fun X hL => ?_)
  have hB := hB0
  refine r_iconst hL dX8_middleOf_0 ?_
  refine r_istore_n hL (lo' := [some (xR 120), some (xI s), some (xI (-1)), none, none, none, none]) dX8_middleOf_1 (by decide) rfl ?_
  refine r_ldc hL (n := 100000) dX8_middleOf_2 kc_X8_84 (by decide) ?_
  refine r_istore_n hL (lo' := [some (xR 120), some (xI s), some (xI (-1)), some (xI 100000), none, none, none]) dX8_middleOf_4 (by decide) rfl ?_
  refine r_iconst hL dX8_middleOf_5 ?_
  refine r_istore hL (lo' := [some (xR 120), some (xI s), some (xI (-1)), some (xI 100000), some (xI 0), none, none]) dX8_middleOf_6 (by decide) rfl ?_
  have lp8 : ∀ (n8 : Nat) (q : Int) (l : Int) (t : Int), (-1 ≤ q ∧ q ≤ 7) → (0 ≤ l ∧ l ≤ 100000) → (0 ≤ t ∧ t ≤ 8) → ((8 - t).toNat) < n8 → X 0 0 WW μ 8 [some (xR 120), some (xI s), some (xI q), some (xI l), some (xI t), none, none] [] := by
    intro n8
    induction n8 with
    | zero => intro q l t h1 h2 h3 hn; exact absurd hn (Nat.not_lt_zero _)
    | succ n8 ih8 =>
      intro q l t h1 h2 h3 hn8
      refine r_iload hL (x := t) dX8_middleOf_8 rfl ?_
      refine r_aload_n hL (x := 120) dX8_middleOf_10 rfl ?_
      refine r_getr hL xcl8 0 (by decide) s_120 (by decide) fl_X8_7 (by decide) f_120_0 dX8_middleOf_11 ?_
      refine r_iconst hL dX8_middleOf_14 ?_
      refine r_iald hL dX8_middleOf_15 (by decide) s_121 (by decide) (by omega) (by omega) (fun hr15 => ?_)
      obtain ⟨z15, hz15⟩ : ∃ z, z = μ 121 0 := ⟨_, rfl⟩
      rw [← hz15] at hr15 ⊢
      have hb15 : 0 ≤ μ 121 0 ∧ μ 121 0 ≤ 8 := (show ((0 : Int) = 0 → 0 ≤ (μ 121 0) ∧ (μ 121 0) ≤ 8) ∧ ((0 : Int) = 1 → 0 ≤ (μ 121 0) ∧ (μ 121 0) ≤ 2) ∧ (2 ≤ (0 : Int) ∧ (0 : Int) ≤ 5 → 0 ≤ (μ 121 0) ∧ (μ 121 0) ≤ 9) ∧ (6 ≤ (0 : Int) ∧ (0 : Int) ≤ 13 → 0 ≤ (μ 121 0) ∧ (μ 121 0) ≤ 10) ∧ (30 ≤ (0 : Int) → 0 ≤ (μ 121 0) ∧ (μ 121 0) ≤ 7) from hB 121 0).1 (by omega)
      refine r_icmp_ge hL (tgt := 100) dX8_middleOf_16 (by decide) (by omega) (by omega) (fun c16 => ?_) (fun c16 => ?_)
      · skip
        refine r_iload_n hL (x := q) dX8_middleOf_100 rfl ?_
        exact r_iret hL dX8_middleOf_101 rfl (hK _ (by omega))
      · skip
        refine r_iconst hL dX8_middleOf_19 ?_
        refine r_istore hL (lo' := [some (xR 120), some (xI s), some (xI q), some (xI l), some (xI t), some (xI 0), none]) dX8_middleOf_20 (by decide) rfl ?_
        refine r_iconst hL dX8_middleOf_22 ?_
        refine r_istore hL (lo' := [some (xR 120), some (xI s), some (xI q), some (xI l), some (xI t), some (xI 0), some (xI 0)]) dX8_middleOf_23 (by decide) rfl ?_
        have lp25 : ∀ (n25 : Nat) (n : Int) (u : Int), (0 ≤ n ∧ n ≤ 180 * u) → (0 ≤ u ∧ u ≤ 8) → ((8 - u).toNat) < n25 → X 0 0 WW μ 25 [some (xR 120), some (xI s), some (xI q), some (xI l), some (xI t), some (xI n), some (xI u)] [] := by
          intro n25
          induction n25 with
          | zero => intro n u h4 h5 hn; exact absurd hn (Nat.not_lt_zero _)
          | succ n25 ih25 =>
            intro n u h4 h5 hn25
            refine r_iload hL (x := u) dX8_middleOf_25 rfl ?_
            refine r_aload_n hL (x := 120) dX8_middleOf_27 rfl ?_
            refine r_getr hL xcl8 0 (by decide) s_120 (by decide) fl_X8_7 (by decide) f_120_0 dX8_middleOf_28 ?_
            refine r_iconst hL dX8_middleOf_31 ?_
            refine r_iald hL dX8_middleOf_32 (by decide) s_121 (by decide) (by omega) (by omega) (fun hr32 => ?_)
            obtain ⟨z32, hz32⟩ : ∃ z, z = μ 121 0 := ⟨_, rfl⟩
            rw [← hz32] at hr32 ⊢
            have hb32 : 0 ≤ μ 121 0 ∧ μ 121 0 ≤ 8 := (show ((0 : Int) = 0 → 0 ≤ (μ 121 0) ∧ (μ 121 0) ≤ 8) ∧ ((0 : Int) = 1 → 0 ≤ (μ 121 0) ∧ (μ 121 0) ≤ 2) ∧ (2 ≤ (0 : Int) ∧ (0 : Int) ≤ 5 → 0 ≤ (μ 121 0) ∧ (μ 121 0) ≤ 9) ∧ (6 ≤ (0 : Int) ∧ (0 : Int) ≤ 13 → 0 ≤ (μ 121 0) ∧ (μ 121 0) ≤ 10) ∧ (30 ≤ (0 : Int) → 0 ≤ (μ 121 0) ∧ (μ 121 0) ≤ 7) from hB 121 0).1 (by omega)
            refine r_icmp_ge hL (tgt := 73) dX8_middleOf_33 (by decide) (by omega) (by omega) (fun c33 => ?_) (fun c33 => ?_)
            · skip
              refine r_iload_n hL (x := s) dX8_middleOf_73 rfl ?_
              refine r_iload hL (x := t) dX8_middleOf_74 rfl ?_
              refine r_callS hL (st := []) (av := [xI s, xI t]) (m_X8_has (μ := μ) s t (fun z76 heq76 hc76 => ⟨rfl, ?_⟩)) ce_yX8_has sm_yX8_has ml_X8_118 dX8_middleOf_76 rfl (Nat.le_of_ble_eq_true rfl) ⟨Nat.le_of_ble_eq_true rfl, Nat.le_of_ble_eq_true rfl⟩ ⟨Nat.le_of_ble_eq_true rfl, Nat.le_of_ble_eq_true rfl⟩
              show X 0 0 WW μ 79 [some (xR 120), some (xI s), some (xI q), some (xI l), some (xI t), some (xI n), some (xI u)] [xI z76]
              refine r_if_eq hL (tgt := 94) dX8_middleOf_79 (by decide) (by omega) (fun c79 => ?_) (fun c79 => ?_)
              · skip
                refine r_iinc hL (x := t) (lo' := [some (xR 120), some (xI s), some (xI q), some (xI l), some (xI (t + 1)), some (xI n), some (xI u)]) dX8_middleOf_94 (by decide) rfl rfl ?_
                refine r_goto hL (tgt := 8) dX8_middleOf_97 (by decide) ?_
                refine r_drop hL (lo' := [some (xR 120), some (xI s), some (xI q), some (xI l), some (xI (t + 1)), none, none]) [5, 6] rfl ?_
                exact ih8 q l (t + 1) (by omega) (by omega) (by omega) (by omega)
              · skip
                refine r_iload hL (x := n) dX8_middleOf_82 rfl ?_
                refine r_iload_n hL (x := l) dX8_middleOf_84 rfl ?_
                refine r_icmp_ge hL (tgt := 94) dX8_middleOf_85 (by decide) (by omega) (by omega) (fun c85 => ?_) (fun c85 => ?_)
                · skip
                  refine r_iinc hL (x := t) (lo' := [some (xR 120), some (xI s), some (xI q), some (xI l), some (xI (t + 1)), some (xI n), some (xI u)]) dX8_middleOf_94 (by decide) rfl rfl ?_
                  refine r_goto hL (tgt := 8) dX8_middleOf_97 (by decide) ?_
                  refine r_drop hL (lo' := [some (xR 120), some (xI s), some (xI q), some (xI l), some (xI (t + 1)), none, none]) [5, 6] rfl ?_
                  exact ih8 q l (t + 1) (by omega) (by omega) (by omega) (by omega)
                · skip
                  refine r_iload hL (x := t) dX8_middleOf_88 rfl ?_
                  refine r_istore_n hL (lo' := [some (xR 120), some (xI s), some (xI t), some (xI l), some (xI t), some (xI n), some (xI u)]) dX8_middleOf_90 (by decide) rfl ?_
                  refine r_iload hL (x := n) dX8_middleOf_91 rfl ?_
                  refine r_istore_n hL (lo' := [some (xR 120), some (xI s), some (xI t), some (xI n), some (xI t), some (xI n), some (xI u)]) dX8_middleOf_93 (by decide) rfl ?_
                  refine r_iinc hL (x := t) (lo' := [some (xR 120), some (xI s), some (xI t), some (xI n), some (xI (t + 1)), some (xI n), some (xI u)]) dX8_middleOf_94 (by decide) rfl rfl ?_
                  refine r_goto hL (tgt := 8) dX8_middleOf_97 (by decide) ?_
                  refine r_drop hL (lo' := [some (xR 120), some (xI s), some (xI t), some (xI n), some (xI (t + 1)), none, none]) [5, 6] rfl ?_
                  exact ih8 t n (t + 1) (by omega) (by omega) (by omega) (by omega)
            · skip
              refine r_iload hL (x := n) dX8_middleOf_36 rfl ?_
              refine r_iload_n hL (x := s) dX8_middleOf_38 rfl ?_
              refine r_iload hL (x := u) dX8_middleOf_39 rfl ?_
              refine r_callS hL (st := [xI n]) (av := [xI s, xI u]) (m_X8_has (μ := μ) s u (fun z41 heq41 hc41 => ⟨rfl, ?_⟩)) ce_yX8_has sm_yX8_has ml_X8_118 dX8_middleOf_41 rfl (Nat.le_of_ble_eq_true rfl) ⟨Nat.le_of_ble_eq_true rfl, Nat.le_of_ble_eq_true rfl⟩ ⟨Nat.le_of_ble_eq_true rfl, Nat.le_of_ble_eq_true rfl⟩
              show X 0 0 WW μ 44 [some (xR 120), some (xI s), some (xI q), some (xI l), some (xI t), some (xI n), some (xI u)] [xI z41, xI n]
              refine r_if_eq hL (tgt := 63) dX8_middleOf_44 (by decide) (by omega) (fun c44 => ?_) (fun c44 => ?_)
              · skip
                refine r_iconst hL dX8_middleOf_63 ?_
                refine r_iadd hL dX8_middleOf_64 ?_
                refine r_istore hL (lo' := [some (xR 120), some (xI s), some (xI q), some (xI l), some (xI t), some (xI (n + 0)), some (xI u)]) dX8_middleOf_65 (by decide) rfl ?_
                refine r_iinc hL (x := u) (lo' := [some (xR 120), some (xI s), some (xI q), some (xI l), some (xI t), some (xI (n + 0)), some (xI (u + 1))]) dX8_middleOf_67 (by decide) rfl rfl ?_
                refine r_goto hL (tgt := 25) dX8_middleOf_70 (by decide) ?_
                exact ih25 (n + 0) (u + 1) (by omega) (by omega) (by omega)
              · skip
                refine r_aload_n hL (x := 120) dX8_middleOf_47 rfl ?_
                refine r_getr hL xcl8 18 (by decide) s_120 (by decide) fl_X8_47 (by decide) f_120_18 dX8_middleOf_48 ?_
                refine r_bipush hL dX8_middleOf_51 (by decide) ?_
                refine r_iload hL (x := t) dX8_middleOf_53 rfl ?_
                refine r_imul hL dX8_middleOf_55 ?_
                refine r_iload hL (x := u) dX8_middleOf_56 rfl ?_
                refine r_iadd hL dX8_middleOf_58 ?_
                refine r_iald hL dX8_middleOf_59 (by decide) s_133 (by decide) (by omega) (by omega) (fun hr59 => ?_)
                obtain ⟨z59, hz59⟩ : ∃ z, z = μ 133 ((8 * t) + u) := ⟨_, rfl⟩
                rw [← hz59] at hr59 ⊢
                have hb59 : 0 ≤ (μ 133 ((8 * t) + u)) ∧ (μ 133 ((8 * t) + u)) ≤ 180 := hB 133 ((8 * t) + u)
                refine r_goto hL (tgt := 64) dX8_middleOf_60 (by decide) ?_
                refine r_iadd hL dX8_middleOf_64 ?_
                refine r_istore hL (lo' := [some (xR 120), some (xI s), some (xI q), some (xI l), some (xI t), some (xI (n + z59)), some (xI u)]) dX8_middleOf_65 (by decide) rfl ?_
                refine r_iinc hL (x := u) (lo' := [some (xR 120), some (xI s), some (xI q), some (xI l), some (xI t), some (xI (n + z59)), some (xI (u + 1))]) dX8_middleOf_67 (by decide) rfl rfl ?_
                refine r_goto hL (tgt := 25) dX8_middleOf_70 (by decide) ?_
                exact ih25 (n + z59) (u + 1) (by omega) (by omega) (by omega)
        exact lp25 _ 0 0 (by omega) (by omega) (Nat.lt_succ_self _)
  exact lp8 _ (-1) 100000 0 (by omega) (by omega) (by omega) (Nat.lt_succ_self _)

set_option maxHeartbeats 4000000 in
set_option maxRecDepth 20000 in
theorem m_X8_allHave {K : Option xV → xW → xM → Prop} {μ : xM} (hB0 : BI μ) (s : Int) (hs : xrg s) (hK : ∀ r, r = mal s (fun t => mos (fun i => μ 121 (30 + 10 * t + i)) (μ 121 (6 + t)).toNat) (μ 121 0).toNat → xrg r → K (some (xI r)) WW μ) : xMet yX8_allHave cX8_allHave 6 (some .int) 1 21 0 0 [xR 120, xI s] WW μ K := by
  refine xMet.go RX8 "allHave" rfl rfl (by decide) [some (xR 120), some (xI s), none, none, none, none] (Nat.le_of_ble_eq_true rfl) rfl (fun X hL => ?_)
  have hB := hB0
  have hm0 : 0 ≤ μ 121 0 ∧ μ 121 0 ≤ 8 := (show ((0 : Int) = 0 → 0 ≤ (μ 121 0) ∧ (μ 121 0) ≤ 8) ∧ ((0 : Int) = 1 → 0 ≤ (μ 121 0) ∧ (μ 121 0) ≤ 2) ∧ (2 ≤ (0 : Int) ∧ (0 : Int) ≤ 5 → 0 ≤ (μ 121 0) ∧ (μ 121 0) ≤ 9) ∧ (6 ≤ (0 : Int) ∧ (0 : Int) ≤ 13 → 0 ≤ (μ 121 0) ∧ (μ 121 0) ≤ 10) ∧ (30 ≤ (0 : Int) → 0 ≤ (μ 121 0) ∧ (μ 121 0) ≤ 7) from hB 121 0).1 (by omega)
  refine r_sipush hL dX8_allHave_0 (by decide) ?_
  refine r_istore_n hL (lo' := [some (xR 120), some (xI s), some (xI 255), none, none, none]) dX8_allHave_3 (by decide) rfl ?_
  refine r_iconst hL dX8_allHave_4 ?_
  refine r_istore_n hL (lo' := [some (xR 120), some (xI s), some (xI 255), some (xI 0), none, none]) dX8_allHave_5 (by decide) rfl ?_
  have lp6 : ∀ (n6 : Nat) (a : Int) (t : Int), (xrg a) → (0 ≤ t ∧ t ≤ 8) → (a = mal s (fun t => mos (fun i => μ 121 (30 + 10 * t + i)) (μ 121 (6 + t)).toNat) t.toNat) → (t ≤ μ 121 0) → ((8 - t).toNat) < n6 → X 0 0 WW μ 6 [some (xR 120), some (xI s), some (xI a), some (xI t), none, none] [] := by
    intro n6
    induction n6 with
    | zero => intro a t h1 h2 h5 h6 hn; exact absurd hn (Nat.not_lt_zero _)
    | succ n6 ih6 =>
      intro a t h1 h2 h5 h6 hn6
      refine r_iload_n hL (x := t) dX8_allHave_6 rfl ?_
      refine r_aload_n hL (x := 120) dX8_allHave_7 rfl ?_
      refine r_getr hL xcl8 0 (by decide) s_120 (by decide) fl_X8_7 (by decide) f_120_0 dX8_allHave_8 ?_
      refine r_iconst hL dX8_allHave_11 ?_
      refine r_iald hL dX8_allHave_12 (by decide) s_121 (by decide) (by omega) (by omega) (fun hr12 => ?_)
      obtain ⟨z12, hz12⟩ : ∃ z, z = μ 121 0 := ⟨_, rfl⟩
      rw [← hz12] at hr12 ⊢
      have hb12 : 0 ≤ μ 121 0 ∧ μ 121 0 ≤ 8 := (show ((0 : Int) = 0 → 0 ≤ (μ 121 0) ∧ (μ 121 0) ≤ 8) ∧ ((0 : Int) = 1 → 0 ≤ (μ 121 0) ∧ (μ 121 0) ≤ 2) ∧ (2 ≤ (0 : Int) ∧ (0 : Int) ≤ 5 → 0 ≤ (μ 121 0) ∧ (μ 121 0) ≤ 9) ∧ (6 ≤ (0 : Int) ∧ (0 : Int) ≤ 13 → 0 ≤ (μ 121 0) ∧ (μ 121 0) ≤ 10) ∧ (30 ≤ (0 : Int) → 0 ≤ (μ 121 0) ∧ (μ 121 0) ≤ 7) from hB 121 0).1 (by omega)
      refine r_icmp_ge hL (tgt := 87) dX8_allHave_13 (by decide) (by omega) (by omega) (fun c13 => ?_) (fun c13 => ?_)
      · skip
        refine r_iload_n hL (x := a) dX8_allHave_87 rfl ?_
        exact r_iret hL dX8_allHave_88 rfl (hK _ (by rw [h5, show t = μ 121 0 by omega]) (by omega))
      · skip
        refine r_iconst hL dX8_allHave_16 ?_
        refine r_istore hL (lo' := [some (xR 120), some (xI s), some (xI a), some (xI t), some (xI 0), none]) dX8_allHave_17 (by decide) rfl ?_
        refine r_iconst hL dX8_allHave_19 ?_
        refine r_istore hL (lo' := [some (xR 120), some (xI s), some (xI a), some (xI t), some (xI 0), some (xI 0)]) dX8_allHave_20 (by decide) rfl ?_
        have lp22 : ∀ (n22 : Nat) (b : Int) (i : Int), (xrg b) → (0 ≤ i ∧ i ≤ 10) → (b = mos (fun i => μ 121 (30 + 10 * t + i)) i.toNat) → (i ≤ μ 121 (6 + t)) → ((10 - i).toNat) < n22 → X 0 0 WW μ 22 [some (xR 120), some (xI s), some (xI a), some (xI t), some (xI b), some (xI i)] [] := by
          intro n22
          induction n22 with
          | zero => intro b i h3 h4 h7 h8 hn; exact absurd hn (Nat.not_lt_zero _)
          | succ n22 ih22 =>
            intro b i h3 h4 h7 h8 hn22
            have hm6 : 0 ≤ μ 121 (6 + t) ∧ μ 121 (6 + t) ≤ 10 := (show ((6 + t) = 0 → 0 ≤ (μ 121 (6 + t)) ∧ (μ 121 (6 + t)) ≤ 8) ∧ ((6 + t) = 1 → 0 ≤ (μ 121 (6 + t)) ∧ (μ 121 (6 + t)) ≤ 2) ∧ (2 ≤ (6 + t) ∧ (6 + t) ≤ 5 → 0 ≤ (μ 121 (6 + t)) ∧ (μ 121 (6 + t)) ≤ 9) ∧ (6 ≤ (6 + t) ∧ (6 + t) ≤ 13 → 0 ≤ (μ 121 (6 + t)) ∧ (μ 121 (6 + t)) ≤ 10) ∧ (30 ≤ (6 + t) → 0 ≤ (μ 121 (6 + t)) ∧ (μ 121 (6 + t)) ≤ 7) from hB 121 (6 + t)).2.2.2.1 (by omega)
            refine r_iload hL (x := i) dX8_allHave_22 rfl ?_
            refine r_aload_n hL (x := 120) dX8_allHave_24 rfl ?_
            refine r_getr hL xcl8 0 (by decide) s_120 (by decide) fl_X8_7 (by decide) f_120_0 dX8_allHave_25 ?_
            refine r_bipush hL dX8_allHave_28 (by decide) ?_
            refine r_iload_n hL (x := t) dX8_allHave_30 rfl ?_
            refine r_iadd hL dX8_allHave_31 ?_
            refine r_iald hL dX8_allHave_32 (by decide) s_121 (by decide) (by omega) (by omega) (fun hr32 => ?_)
            obtain ⟨z32, hz32⟩ : ∃ z, z = μ 121 (6 + t) := ⟨_, rfl⟩
            rw [← hz32] at hr32 ⊢
            have hb32 : 0 ≤ μ 121 (6 + t) ∧ μ 121 (6 + t) ≤ 10 := (show ((6 + t) = 0 → 0 ≤ (μ 121 (6 + t)) ∧ (μ 121 (6 + t)) ≤ 8) ∧ ((6 + t) = 1 → 0 ≤ (μ 121 (6 + t)) ∧ (μ 121 (6 + t)) ≤ 2) ∧ (2 ≤ (6 + t) ∧ (6 + t) ≤ 5 → 0 ≤ (μ 121 (6 + t)) ∧ (μ 121 (6 + t)) ≤ 9) ∧ (6 ≤ (6 + t) ∧ (6 + t) ≤ 13 → 0 ≤ (μ 121 (6 + t)) ∧ (μ 121 (6 + t)) ≤ 10) ∧ (30 ≤ (6 + t) → 0 ≤ (μ 121 (6 + t)) ∧ (μ 121 (6 + t)) ≤ 7) from hB 121 (6 + t)).2.2.2.1 (by omega)
            refine r_icmp_ge hL (tgt := 64) dX8_allHave_33 (by decide) (by omega) (by omega) (fun c33 => ?_) (fun c33 => ?_)
            · skip
              refine r_iload_n hL (x := s) dX8_allHave_64 rfl ?_
              refine r_iload_n hL (x := t) dX8_allHave_65 rfl ?_
              refine r_callS hL (st := []) (av := [xI s, xI t]) (m_X8_has (μ := μ) s t (fun z66 heq66 hc66 => ⟨rfl, ?_⟩)) ce_yX8_has sm_yX8_has ml_X8_118 dX8_allHave_66 rfl (Nat.le_of_ble_eq_true rfl) ⟨Nat.le_of_ble_eq_true rfl, Nat.le_of_ble_eq_true rfl⟩ ⟨Nat.le_of_ble_eq_true rfl, Nat.le_of_ble_eq_true rfl⟩
              show X 0 0 WW μ 69 [some (xR 120), some (xI s), some (xI a), some (xI t), some (xI b), some (xI i)] [xI z66]
              refine r_if_eq hL (tgt := 79) dX8_allHave_69 (by decide) (by omega) (fun c69 => ?_) (fun c69 => ?_)
              · skip
                refine r_iload_n hL (x := a) dX8_allHave_79 rfl ?_
                refine r_istore_n hL (lo' := [some (xR 120), some (xI s), some (xI a), some (xI t), some (xI b), some (xI i)]) dX8_allHave_80 (by decide) rfl ?_
                refine r_iinc hL (x := t) (lo' := [some (xR 120), some (xI s), some (xI a), some (xI (t + 1)), some (xI b), some (xI i)]) dX8_allHave_81 (by decide) rfl rfl ?_
                refine r_goto hL (tgt := 6) dX8_allHave_84 (by decide) ?_
                refine r_drop hL (lo' := [some (xR 120), some (xI s), some (xI a), some (xI (t + 1)), none, none]) [4, 5] rfl ?_
                exact ih6 a (t + 1) (by omega) (by omega) (mal_up h5 (by omega) (by first | exact Or.inl ⟨by rw [← heq66]; omega, by rw [hz75, h7, show i = μ 121 (6 + t) by omega]⟩ | exact Or.inr ⟨by rw [← heq66]; omega, rfl⟩)) (by omega) (by omega)
              · skip
                refine r_iload_n hL (x := a) dX8_allHave_72 rfl ?_
                refine r_iload hL (x := b) dX8_allHave_73 rfl ?_
                refine r_iand hL dX8_allHave_75 ?_
                obtain ⟨z75, hz75⟩ : ∃ z, z = xand a b := ⟨_, rfl⟩
                rw [← hz75]
                have hr75 : xrg z75 := by rw [hz75]; exact xand_rg _ _
                refine r_goto hL (tgt := 80) dX8_allHave_76 (by decide) ?_
                refine r_istore_n hL (lo' := [some (xR 120), some (xI s), some (xI z75), some (xI t), some (xI b), some (xI i)]) dX8_allHave_80 (by decide) rfl ?_
                refine r_iinc hL (x := t) (lo' := [some (xR 120), some (xI s), some (xI z75), some (xI (t + 1)), some (xI b), some (xI i)]) dX8_allHave_81 (by decide) rfl rfl ?_
                refine r_goto hL (tgt := 6) dX8_allHave_84 (by decide) ?_
                refine r_drop hL (lo' := [some (xR 120), some (xI s), some (xI z75), some (xI (t + 1)), none, none]) [4, 5] rfl ?_
                exact ih6 z75 (t + 1) (by omega) (by omega) (mal_up h5 (by omega) (by first | exact Or.inl ⟨by rw [← heq66]; omega, by rw [hz75, h7, show i = μ 121 (6 + t) by omega]⟩ | exact Or.inr ⟨by rw [← heq66]; omega, rfl⟩)) (by omega) (by omega)
            · skip
              refine r_iload hL (x := b) dX8_allHave_36 rfl ?_
              refine r_iconst hL dX8_allHave_38 ?_
              refine r_aload_n hL (x := 120) dX8_allHave_39 rfl ?_
              refine r_getr hL xcl8 0 (by decide) s_120 (by decide) fl_X8_7 (by decide) f_120_0 dX8_allHave_40 ?_
              refine r_bipush hL dX8_allHave_43 (by decide) ?_
              refine r_bipush hL dX8_allHave_45 (by decide) ?_
              refine r_iload_n hL (x := t) dX8_allHave_47 rfl ?_
              refine r_imul hL dX8_allHave_48 ?_
              refine r_iadd hL dX8_allHave_49 ?_
              refine r_iload hL (x := i) dX8_allHave_50 rfl ?_
              refine r_iadd hL dX8_allHave_52 ?_
              refine r_iald hL dX8_allHave_53 (by decide) s_121 (by decide) (by omega) (by omega) (fun hr53 => ?_)
              obtain ⟨z53, hz53⟩ : ∃ z, z = μ 121 ((30 + (10 * t)) + i) := ⟨_, rfl⟩
              rw [← hz53] at hr53 ⊢
              have hb53 : 0 ≤ μ 121 ((30 + (10 * t)) + i) ∧ μ 121 ((30 + (10 * t)) + i) ≤ 7 := (show (((30 + (10 * t)) + i) = 0 → 0 ≤ (μ 121 ((30 + (10 * t)) + i)) ∧ (μ 121 ((30 + (10 * t)) + i)) ≤ 8) ∧ (((30 + (10 * t)) + i) = 1 → 0 ≤ (μ 121 ((30 + (10 * t)) + i)) ∧ (μ 121 ((30 + (10 * t)) + i)) ≤ 2) ∧ (2 ≤ ((30 + (10 * t)) + i) ∧ ((30 + (10 * t)) + i) ≤ 5 → 0 ≤ (μ 121 ((30 + (10 * t)) + i)) ∧ (μ 121 ((30 + (10 * t)) + i)) ≤ 9) ∧ (6 ≤ ((30 + (10 * t)) + i) ∧ ((30 + (10 * t)) + i) ≤ 13 → 0 ≤ (μ 121 ((30 + (10 * t)) + i)) ∧ (μ 121 ((30 + (10 * t)) + i)) ≤ 10) ∧ (30 ≤ ((30 + (10 * t)) + i) → 0 ≤ (μ 121 ((30 + (10 * t)) + i)) ∧ (μ 121 ((30 + (10 * t)) + i)) ≤ 7) from hB 121 ((30 + (10 * t)) + i)).2.2.2.2 (by omega)
              refine r_ishl hL dX8_allHave_54 ?_
              obtain ⟨z54, hz54⟩ : ∃ z, z = xshl 1 z53 := ⟨_, rfl⟩
              rw [← hz54]
              have hr54 : xrg z54 := by rw [hz54]; exact xshl_rg _ _
              refine r_ior hL dX8_allHave_55 ?_
              obtain ⟨z55, hz55⟩ : ∃ z, z = xor' b z54 := ⟨_, rfl⟩
              rw [← hz55]
              have hr55 : xrg z55 := by rw [hz55]; exact xor_rg _ _
              refine r_istore hL (lo' := [some (xR 120), some (xI s), some (xI a), some (xI t), some (xI z55), some (xI i)]) dX8_allHave_56 (by decide) rfl ?_
              refine r_iinc hL (x := i) (lo' := [some (xR 120), some (xI s), some (xI a), some (xI t), some (xI z55), some (xI (i + 1))]) dX8_allHave_58 (by decide) rfl rfl ?_
              refine r_goto hL (tgt := 22) dX8_allHave_61 (by decide) ?_
              exact ih22 z55 (i + 1) (by omega) (by omega) (mos_up h7 (by omega) hz53 (by rw [hz55, hz54])) (by omega) (by omega)
        exact lp22 _ 0 0 (by omega) (by omega) rfl (by have hm6 : 0 ≤ μ 121 (6 + t) ∧ μ 121 (6 + t) ≤ 10 := (show ((6 + t) = 0 → 0 ≤ (μ 121 (6 + t)) ∧ (μ 121 (6 + t)) ≤ 8) ∧ ((6 + t) = 1 → 0 ≤ (μ 121 (6 + t)) ∧ (μ 121 (6 + t)) ≤ 2) ∧ (2 ≤ (6 + t) ∧ (6 + t) ≤ 5 → 0 ≤ (μ 121 (6 + t)) ∧ (μ 121 (6 + t)) ≤ 9) ∧ (6 ≤ (6 + t) ∧ (6 + t) ≤ 13 → 0 ≤ (μ 121 (6 + t)) ∧ (μ 121 (6 + t)) ≤ 10) ∧ (30 ≤ (6 + t) → 0 ≤ (μ 121 (6 + t)) ∧ (μ 121 (6 + t)) ≤ 7) from hB 121 (6 + t)).2.2.2.1 (by omega); omega) (Nat.lt_succ_self _)
  exact lp6 _ 255 0 (by omega) (by omega) rfl (by omega) (Nat.lt_succ_self _)

set_option maxHeartbeats 4000000 in
set_option maxRecDepth 20000 in
theorem m_X8_likeTyped {K : Option xV → xW → xM → Prop} {μ : xM} (hB0 : BI μ)  (hK : ∀ r μ', BI μ' → Fr RM μ μ' → xrg r → K (some (xI r)) WW μ') : xMet yX8_likeTyped cX8_likeTyped 5 (some .int) 4 96 0 0 [xR 120] WW μ K := by
  refine xMet.go RX8 "likeTyped" rfl rfl (by decide) [some (xR 120), none, none, none, none] (Nat.le_of_ble_eq_true rfl) rfl (fun X hL => ?_)
  have hB := hB0
  have hF : Fr RM μ μ := Fr.rf
  refine r_iconst hL dX8_likeTyped_0 ?_
  refine r_istore_n hL (lo' := [some (xR 120), some (xI (-1)), none, none, none]) dX8_likeTyped_1 (by decide) rfl ?_
  refine r_ldc hL (n := 100000) dX8_likeTyped_2 kc_X8_84 (by decide) ?_
  refine r_istore_n hL (lo' := [some (xR 120), some (xI (-1)), some (xI 100000), none, none]) dX8_likeTyped_4 (by decide) rfl ?_
  refine r_iconst hL dX8_likeTyped_5 ?_
  refine r_istore_n hL (lo' := [some (xR 120), some (xI (-1)), some (xI 100000), some (xI 0), none]) dX8_likeTyped_6 (by decide) rfl ?_
  have lp7 : ∀ (n7 : Nat) (q : Int) (l : Int) (t : Int) (μ107 : xM), (BI μ107) → (Fr RM μ μ107) → (-1 ≤ q ∧ q ≤ 7) → (0 ≤ l ∧ l ≤ 100000) → (0 ≤ t ∧ t ≤ 8) → ((8 - t).toNat) < n7 → X 0 0 WW μ107 7 [some (xR 120), some (xI q), some (xI l), some (xI t), none] [] := by
    intro n7
    induction n7 with
    | zero => intro q l t μ107 hB107 hF107 h1 h2 h3 hn; exact absurd hn (Nat.not_lt_zero _)
    | succ n7 ih7 =>
      intro q l t μ107 hB107 hF107 h1 h2 h3 hn7
      refine r_iload_n hL (x := t) dX8_likeTyped_7 rfl ?_
      refine r_aload_n hL (x := 120) dX8_likeTyped_8 rfl ?_
      refine r_getr hL xcl8 0 (by decide) s_120 (by decide) fl_X8_7 (by decide) f_120_0 dX8_likeTyped_9 ?_
      refine r_iconst hL dX8_likeTyped_12 ?_
      refine r_iald hL dX8_likeTyped_13 (by decide) s_121 (by decide) (by omega) (by omega) (fun hr13 => ?_)
      obtain ⟨z13, hz13⟩ : ∃ z, z = μ107 121 0 := ⟨_, rfl⟩
      rw [← hz13] at hr13 ⊢
      have hb13 : 0 ≤ μ107 121 0 ∧ μ107 121 0 ≤ 8 := (show ((0 : Int) = 0 → 0 ≤ (μ107 121 0) ∧ (μ107 121 0) ≤ 8) ∧ ((0 : Int) = 1 → 0 ≤ (μ107 121 0) ∧ (μ107 121 0) ≤ 2) ∧ (2 ≤ (0 : Int) ∧ (0 : Int) ≤ 5 → 0 ≤ (μ107 121 0) ∧ (μ107 121 0) ≤ 9) ∧ (6 ≤ (0 : Int) ∧ (0 : Int) ≤ 13 → 0 ≤ (μ107 121 0) ∧ (μ107 121 0) ≤ 10) ∧ (30 ≤ (0 : Int) → 0 ≤ (μ107 121 0) ∧ (μ107 121 0) ≤ 7) from hB107 121 0).1 (by omega)
      refine r_icmp_ge hL (tgt := 86) dX8_likeTyped_14 (by decide) (by omega) (by omega) (fun c14 => ?_) (fun c14 => ?_)
      · skip
        refine r_iload_n hL (x := q) dX8_likeTyped_86 rfl ?_
        exact r_iret hL dX8_likeTyped_87 rfl (hK _ _ hB107 hF107 (by omega))
      · skip
        refine r_aload_n hL (x := 120) dX8_likeTyped_17 rfl ?_
        refine r_geti hL xcl8 6 (j' := 6) rfl (by decide) s_120 (by decide) fl_X8_149 (by decide) (by decide) dX8_likeTyped_18 (fun hr18 => ?_)
        obtain ⟨z18, hz18⟩ : ∃ z, z = μ107 120 6 := ⟨_, rfl⟩
        rw [← hz18] at hr18 ⊢
        have hb18 : 0 ≤ μ107 120 6 ∧ μ107 120 6 ≤ 10 := (show ((6 : Int) = 2 → 0 ≤ (μ107 120 6) ∧ (μ107 120 6) ≤ 16) ∧ ((6 : Int) = 6 → 0 ≤ (μ107 120 6) ∧ (μ107 120 6) ≤ 10) ∧ ((6 : Int) = 8 → 0 ≤ (μ107 120 6) ∧ (μ107 120 6) ≤ 20) ∧ ((6 : Int) = 9 → 0 ≤ (μ107 120 6) ∧ (μ107 120 6) ≤ 2147483647) ∧ ((6 : Int) = 11 → 0 ≤ (μ107 120 6) ∧ (μ107 120 6) ≤ 10) ∧ ((6 : Int) = 13 → 0 ≤ (μ107 120 6) ∧ (μ107 120 6) ≤ 10) ∧ ((6 : Int) = 20 → 0 ≤ (μ107 120 6) ∧ (μ107 120 6) ≤ 8) from hB107 120 6).2.1 (by omega)
        refine r_if_le hL (tgt := 86) dX8_likeTyped_21 (by decide) (by omega) (fun c21 => ?_) (fun c21 => ?_)
        · skip
          refine r_iload_n hL (x := q) dX8_likeTyped_86 rfl ?_
          exact r_iret hL dX8_likeTyped_87 rfl (hK _ _ hB107 hF107 (by omega))
        · skip
          refine r_aload_n hL (x := 120) dX8_likeTyped_24 rfl ?_
          refine r_iload_n hL (x := t) dX8_likeTyped_25 rfl ?_
          refine r_iload_n hL (x := t) dX8_likeTyped_26 rfl ?_
          refine r_callV hL (st := []) (av := [xI t, xI t]) (k := 120) (m_X8_takes (μ := μ107) hB107 t (by omega) t (by omega) (fun μ27c hB27c hG27 hMT27 => ⟨rfl, ?_⟩)) ce_yX8_takes im_yX8_takes se_yX8_takes ml_X8_103 xcl8 (by decide) s_120 dX8_likeTyped_27 rfl (Nat.le_of_ble_eq_true rfl) ⟨Nat.le_of_ble_eq_true rfl, Nat.le_of_ble_eq_true rfl⟩ ⟨Nat.le_of_ble_eq_true rfl, Nat.le_of_ble_eq_true rfl⟩
          show X 0 0 WW μ27c 30 [some (xR 120), some (xI q), some (xI l), some (xI t), none] []
          have hF27c : Fr RM μ μ27c := hF107.trans hG27
          refine r_aload_n hL (x := 120) dX8_likeTyped_30 rfl ?_
          refine r_aload_n hL (x := 120) dX8_likeTyped_31 rfl ?_
          refine r_geti hL xcl8 6 (j' := 6) rfl (by decide) s_120 (by decide) fl_X8_149 (by decide) (by decide) dX8_likeTyped_32 (fun hr32 => ?_)
          obtain ⟨z32, hz32⟩ : ∃ z, z = μ27c 120 6 := ⟨_, rfl⟩
          rw [← hz32] at hr32 ⊢
          have hb32 : 0 ≤ μ27c 120 6 ∧ μ27c 120 6 ≤ 10 := (show ((6 : Int) = 2 → 0 ≤ (μ27c 120 6) ∧ (μ27c 120 6) ≤ 16) ∧ ((6 : Int) = 6 → 0 ≤ (μ27c 120 6) ∧ (μ27c 120 6) ≤ 10) ∧ ((6 : Int) = 8 → 0 ≤ (μ27c 120 6) ∧ (μ27c 120 6) ≤ 20) ∧ ((6 : Int) = 9 → 0 ≤ (μ27c 120 6) ∧ (μ27c 120 6) ≤ 2147483647) ∧ ((6 : Int) = 11 → 0 ≤ (μ27c 120 6) ∧ (μ27c 120 6) ≤ 10) ∧ ((6 : Int) = 13 → 0 ≤ (μ27c 120 6) ∧ (μ27c 120 6) ≤ 10) ∧ ((6 : Int) = 20 → 0 ≤ (μ27c 120 6) ∧ (μ27c 120 6) ≤ 8) from hB27c 120 6).2.1 (by omega)
          refine r_puti hL xcl8 13 (j' := 13) rfl (by decide) s_120 (by decide) fl_X8_70 rfl rfl (by omega) dX8_likeTyped_35 (fun μ1 hm1 => ?_)
          have hB1 : BI μ1 := by rw [hm1]; exact hB27c.up (by show ((13 : Int) = 2 → 0 ≤ z32 ∧ z32 ≤ 16) ∧ ((13 : Int) = 6 → 0 ≤ z32 ∧ z32 ≤ 10) ∧ ((13 : Int) = 8 → 0 ≤ z32 ∧ z32 ≤ 20) ∧ ((13 : Int) = 9 → 0 ≤ z32 ∧ z32 ≤ 2147483647) ∧ ((13 : Int) = 11 → 0 ≤ z32 ∧ z32 ≤ 10) ∧ ((13 : Int) = 13 → 0 ≤ z32 ∧ z32 ≤ 10) ∧ ((13 : Int) = 20 → 0 ≤ z32 ∧ z32 ≤ 8); omega)
          have hF1 : Fr RM μ μ1 := by rw [hm1]; exact hF27c.up (by unfold RM; omega)
          refine r_aload_n hL (x := 120) dX8_likeTyped_38 rfl ?_
          refine r_getr hL xcl8 5 (by decide) s_120 (by decide) fl_X8_23 (by decide) f_120_5 dX8_likeTyped_39 ?_
          refine r_iconst hL dX8_likeTyped_42 ?_
          refine r_aload_n hL (x := 120) dX8_likeTyped_43 rfl ?_
          refine r_getr hL xcl8 12 (by decide) s_120 (by decide) fl_X8_32 (by decide) f_120_12 dX8_likeTyped_44 ?_
          refine r_iconst hL dX8_likeTyped_47 ?_
          refine r_aload_n hL (x := 120) dX8_likeTyped_48 rfl ?_
          refine r_geti hL xcl8 6 (j' := 6) rfl (by decide) s_120 (by decide) fl_X8_149 (by decide) (by decide) dX8_likeTyped_49 (fun hr49 => ?_)
          obtain ⟨z49, hz49⟩ : ∃ z, z = μ1 120 6 := ⟨_, rfl⟩
          rw [← hz49] at hr49 ⊢
          have hb49 : 0 ≤ μ1 120 6 ∧ μ1 120 6 ≤ 10 := (show ((6 : Int) = 2 → 0 ≤ (μ1 120 6) ∧ (μ1 120 6) ≤ 16) ∧ ((6 : Int) = 6 → 0 ≤ (μ1 120 6) ∧ (μ1 120 6) ≤ 10) ∧ ((6 : Int) = 8 → 0 ≤ (μ1 120 6) ∧ (μ1 120 6) ≤ 20) ∧ ((6 : Int) = 9 → 0 ≤ (μ1 120 6) ∧ (μ1 120 6) ≤ 2147483647) ∧ ((6 : Int) = 11 → 0 ≤ (μ1 120 6) ∧ (μ1 120 6) ≤ 10) ∧ ((6 : Int) = 13 → 0 ≤ (μ1 120 6) ∧ (μ1 120 6) ≤ 10) ∧ ((6 : Int) = 20 → 0 ≤ (μ1 120 6) ∧ (μ1 120 6) ≤ 8) from hB1 120 6).2.1 (by omega)
          refine r_callS hL (st := []) (av := [xR 125, xI 0, xR 128, xI 0, xI z49]) (m_X8_bring (μ := μ1) 125 10 (by decide) s_125 (by decide) 0 128 10 (by decide) s_128 (by decide) 0 z49 (by omega) (by omega) (fun h => absurd h (by decide)) (fun μ52c hm52c => ⟨rfl, ?_⟩)) ce_yX8_bring sm_yX8_bring ml_X8_73 dX8_likeTyped_52 rfl (Nat.le_of_ble_eq_true rfl) ⟨Nat.le_of_ble_eq_true rfl, Nat.le_of_ble_eq_true rfl⟩ ⟨Nat.le_of_ble_eq_true rfl, Nat.le_of_ble_eq_true rfl⟩
          show X 0 0 WW μ52c 55 [some (xR 120), some (xI q), some (xI l), some (xI t), none] []
          have hB52c : BI μ52c := by rw [hm52c]; exact hB1.br (fun k hk0 hk1 => by have hq : 0 ≤ (μ1 125 (0 + k)) ∧ (μ1 125 (0 + k)) ≤ 7 := hB1 125 _; show 0 ≤ (μ1 125 (0 + k)) ∧ (μ1 125 (0 + k)) ≤ 7; omega)
          have hF52c : Fr RM μ μ52c := by rw [hm52c]; exact hF1.br (fun b _ _ => by unfold RM; omega)
          refine r_aload_n hL (x := 120) dX8_likeTyped_55 rfl ?_
          refine r_callV hL (st := []) (av := []) (k := 120) (m_X8_linesUp (μ := μ52c) hB52c  (fun z56 μ56c hB56c hG56 hD56c heq56 hLQ56 hLW56 hc56 => ⟨rfl, ?_⟩)) ce_yX8_linesUp im_yX8_linesUp se_yX8_linesUp ml_X8_107 xcl8 (by decide) s_120 dX8_likeTyped_56 rfl (Nat.le_of_ble_eq_true rfl) ⟨Nat.le_of_ble_eq_true rfl, Nat.le_of_ble_eq_true rfl⟩ ⟨Nat.le_of_ble_eq_true rfl, Nat.le_of_ble_eq_true rfl⟩
          show X 0 0 WW μ56c 59 [some (xR 120), some (xI q), some (xI l), some (xI t), none] [xI z56]
          have hF56c : Fr RM μ μ56c := hF52c.trans (hG56.sub (fun k j h => by unfold LN at h; unfold RM; omega))
          refine r_istore hL (lo' := [some (xR 120), some (xI q), some (xI l), some (xI t), some (xI z56)]) dX8_likeTyped_59 (by decide) rfl ?_
          refine r_iload hL (x := z56) dX8_likeTyped_61 rfl ?_
          refine r_iload_n hL (x := l) dX8_likeTyped_63 rfl ?_
          refine r_icmp_ge hL (tgt := 71) dX8_likeTyped_64 (by decide) (by omega) (by omega) (fun c64 => ?_) (fun c64 => ?_)
          · skip
            refine r_iload_n hL (x := q) dX8_likeTyped_71 rfl ?_
            refine r_istore_n hL (lo' := [some (xR 120), some (xI q), some (xI l), some (xI t), some (xI z56)]) dX8_likeTyped_72 (by decide) rfl ?_
            refine r_iload hL (x := z56) dX8_likeTyped_73 rfl ?_
            refine r_iload_n hL (x := l) dX8_likeTyped_75 rfl ?_
            refine r_callS hL (st := []) (av := [xI z56, xI l]) (m_X8_lesser (μ := μ56c) z56 (by omega) l (by omega) (fun z76 hc76 => ⟨rfl, ?_⟩)) ce_yX8_lesser sm_yX8_lesser ml_X8_77 dX8_likeTyped_76 rfl (Nat.le_of_ble_eq_true rfl) ⟨Nat.le_of_ble_eq_true rfl, Nat.le_of_ble_eq_true rfl⟩ ⟨Nat.le_of_ble_eq_true rfl, Nat.le_of_ble_eq_true rfl⟩
            show X 0 0 WW μ56c 79 [some (xR 120), some (xI q), some (xI l), some (xI t), some (xI z56)] [xI z76]
            refine r_istore_n hL (lo' := [some (xR 120), some (xI q), some (xI z76), some (xI t), some (xI z56)]) dX8_likeTyped_79 (by decide) rfl ?_
            refine r_iinc hL (x := t) (lo' := [some (xR 120), some (xI q), some (xI z76), some (xI (t + 1)), some (xI z56)]) dX8_likeTyped_80 (by decide) rfl rfl ?_
            refine r_goto hL (tgt := 7) dX8_likeTyped_83 (by decide) ?_
            refine r_drop hL (lo' := [some (xR 120), some (xI q), some (xI z76), some (xI (t + 1)), none]) [4] rfl ?_
            exact ih7 q z76 (t + 1) μ56c hB56c hF56c (by omega) (by omega) (by omega) (by omega)
          · skip
            refine r_iload_n hL (x := t) dX8_likeTyped_67 rfl ?_
            refine r_goto hL (tgt := 72) dX8_likeTyped_68 (by decide) ?_
            refine r_istore_n hL (lo' := [some (xR 120), some (xI t), some (xI l), some (xI t), some (xI z56)]) dX8_likeTyped_72 (by decide) rfl ?_
            refine r_iload hL (x := z56) dX8_likeTyped_73 rfl ?_
            refine r_iload_n hL (x := l) dX8_likeTyped_75 rfl ?_
            refine r_callS hL (st := []) (av := [xI z56, xI l]) (m_X8_lesser (μ := μ56c) z56 (by omega) l (by omega) (fun z76 hc76 => ⟨rfl, ?_⟩)) ce_yX8_lesser sm_yX8_lesser ml_X8_77 dX8_likeTyped_76 rfl (Nat.le_of_ble_eq_true rfl) ⟨Nat.le_of_ble_eq_true rfl, Nat.le_of_ble_eq_true rfl⟩ ⟨Nat.le_of_ble_eq_true rfl, Nat.le_of_ble_eq_true rfl⟩
            show X 0 0 WW μ56c 79 [some (xR 120), some (xI t), some (xI l), some (xI t), some (xI z56)] [xI z76]
            refine r_istore_n hL (lo' := [some (xR 120), some (xI t), some (xI z76), some (xI t), some (xI z56)]) dX8_likeTyped_79 (by decide) rfl ?_
            refine r_iinc hL (x := t) (lo' := [some (xR 120), some (xI t), some (xI z76), some (xI (t + 1)), some (xI z56)]) dX8_likeTyped_80 (by decide) rfl rfl ?_
            refine r_goto hL (tgt := 7) dX8_likeTyped_83 (by decide) ?_
            refine r_drop hL (lo' := [some (xR 120), some (xI t), some (xI z76), some (xI (t + 1)), none]) [4] rfl ?_
            exact ih7 t z76 (t + 1) μ56c hB56c hF56c (by omega) (by omega) (by omega) (by omega)
  exact lp7 _ (-1) 100000 0 μ hB hF (by omega) (by omega) (by omega) (Nat.lt_succ_self _)

set_option maxHeartbeats 4000000 in
set_option maxRecDepth 20000 in
theorem m_X8_wrong {K : Option xV → xW → xM → Prop} {μ : xM} (hB0 : BI μ)  (hK : ∀ r μ', BI μ' → Fr RM μ μ' → xrg r → K (some (xI r)) WW μ') : xMet yX8_wrong cX8_wrong 4 (some .int) 5 118 0 0 [xR 120] WW μ K := by
  refine xMet.go RX8 "wrong" rfl rfl (by decide) [some (xR 120), none, none, none] (Nat.le_of_ble_eq_true rfl) rfl (fun X hL => ?_)
  have hB := hB0
  have hF : Fr RM μ μ := Fr.rf
  refine r_iconst hL dX8_wrong_0 ?_
  refine r_istore_n hL (lo' := [some (xR 120), some (xI 0), none, none]) dX8_wrong_1 (by decide) rfl ?_
  have lp2 : ∀ (n2 : Nat) (k : Int) (μ102 : xM), (BI μ102) → (Fr RM μ μ102) → (0 ≤ k ∧ k ≤ 20) → ((20 - k).toNat) < n2 → X 0 0 WW μ102 2 [some (xR 120), some (xI k), none, none] [] := by
    intro n2
    induction n2 with
    | zero => intro k μ102 hB102 hF102 h1 hn; exact absurd hn (Nat.not_lt_zero _)
    | succ n2 ih2 =>
      intro k μ102 hB102 hF102 h1 hn2
      refine r_iload_n hL (x := k) dX8_wrong_2 rfl ?_
      refine r_aload_n hL (x := 120) dX8_wrong_3 rfl ?_
      refine r_geti hL xcl8 8 (j' := 8) rfl (by decide) s_120 (by decide) fl_X8_168 (by decide) (by decide) dX8_wrong_4 (fun hr4 => ?_)
      obtain ⟨z4, hz4⟩ : ∃ z, z = μ102 120 8 := ⟨_, rfl⟩
      rw [← hz4] at hr4 ⊢
      have hb4 : 0 ≤ μ102 120 8 ∧ μ102 120 8 ≤ 20 := (show ((8 : Int) = 2 → 0 ≤ (μ102 120 8) ∧ (μ102 120 8) ≤ 16) ∧ ((8 : Int) = 6 → 0 ≤ (μ102 120 8) ∧ (μ102 120 8) ≤ 10) ∧ ((8 : Int) = 8 → 0 ≤ (μ102 120 8) ∧ (μ102 120 8) ≤ 20) ∧ ((8 : Int) = 9 → 0 ≤ (μ102 120 8) ∧ (μ102 120 8) ≤ 2147483647) ∧ ((8 : Int) = 11 → 0 ≤ (μ102 120 8) ∧ (μ102 120 8) ≤ 10) ∧ ((8 : Int) = 13 → 0 ≤ (μ102 120 8) ∧ (μ102 120 8) ≤ 10) ∧ ((8 : Int) = 20 → 0 ≤ (μ102 120 8) ∧ (μ102 120 8) ≤ 8) from hB102 120 8).2.2.1 (by omega)
      refine r_icmp_ge hL (tgt := 73) dX8_wrong_7 (by decide) (by omega) (by omega) (fun c7 => ?_) (fun c7 => ?_)
      · skip
        refine r_iconst hL dX8_wrong_73 ?_
        exact r_iret hL dX8_wrong_74 rfl (hK _ _ hB102 hF102 (by omega))
      · skip
        refine r_aload_n hL (x := 120) dX8_wrong_10 rfl ?_
        refine r_getr hL xcl8 7 (by decide) s_120 (by decide) fl_X8_26 (by decide) f_120_7 dX8_wrong_11 ?_
        refine r_iconst hL dX8_wrong_14 ?_
        refine r_iload_n hL (x := k) dX8_wrong_15 rfl ?_
        refine r_imul hL dX8_wrong_16 ?_
        refine r_iald hL dX8_wrong_17 (by decide) s_126 (by decide) (by omega) (by omega) (fun hr17 => ?_)
        obtain ⟨z17, hz17⟩ : ∃ z, z = μ102 126 (3 * k) := ⟨_, rfl⟩
        rw [← hz17] at hr17 ⊢
        have hb17 : (3 * k) % 3 ≤ 1 → 0 ≤ (μ102 126 (3 * k)) ∧ (μ102 126 (3 * k)) ≤ 7 := hB102 126 (3 * k)
        refine r_istore_n hL (lo' := [some (xR 120), some (xI k), some (xI z17), none]) dX8_wrong_18 (by decide) rfl ?_
        refine r_aload_n hL (x := 120) dX8_wrong_19 rfl ?_
        refine r_getr hL xcl8 7 (by decide) s_120 (by decide) fl_X8_26 (by decide) f_120_7 dX8_wrong_20 ?_
        refine r_iconst hL dX8_wrong_23 ?_
        refine r_iload_n hL (x := k) dX8_wrong_24 rfl ?_
        refine r_imul hL dX8_wrong_25 ?_
        refine r_iconst hL dX8_wrong_26 ?_
        refine r_iadd hL dX8_wrong_27 ?_
        refine r_iald hL dX8_wrong_28 (by decide) s_126 (by decide) (by omega) (by omega) (fun hr28 => ?_)
        obtain ⟨z28, hz28⟩ : ∃ z, z = μ102 126 ((3 * k) + 1) := ⟨_, rfl⟩
        rw [← hz28] at hr28 ⊢
        have hb28 : ((3 * k) + 1) % 3 ≤ 1 → 0 ≤ (μ102 126 ((3 * k) + 1)) ∧ (μ102 126 ((3 * k) + 1)) ≤ 7 := hB102 126 ((3 * k) + 1)
        refine r_istore_n hL (lo' := [some (xR 120), some (xI k), some (xI z17), some (xI z28)]) dX8_wrong_29 (by decide) rfl ?_
        refine r_aload_n hL (x := 120) dX8_wrong_30 rfl ?_
        refine r_iload_n hL (x := z17) dX8_wrong_31 rfl ?_
        refine r_callV hL (st := []) (av := [xI z17]) (k := 120) (m_X8_isTale (μ := μ102) hB102 z17 (by omega) (fun z32 hc32 => ⟨rfl, ?_⟩)) ce_yX8_isTale im_yX8_isTale se_yX8_isTale ml_X8_171 xcl8 (by decide) s_120 dX8_wrong_32 rfl (Nat.le_of_ble_eq_true rfl) ⟨Nat.le_of_ble_eq_true rfl, Nat.le_of_ble_eq_true rfl⟩ ⟨Nat.le_of_ble_eq_true rfl, Nat.le_of_ble_eq_true rfl⟩
        show X 0 0 WW μ102 35 [some (xR 120), some (xI k), some (xI z17), some (xI z28)] [xI z32]
        refine r_if_eq hL (tgt := 65) dX8_wrong_35 (by decide) (by omega) (fun c35 => ?_) (fun c35 => ?_)
        · skip
          refine r_iload_n hL (x := k) dX8_wrong_65 rfl ?_
          exact r_iret hL dX8_wrong_66 rfl (hK _ _ hB102 hF102 (by omega))
        · skip
          refine r_aload_n hL (x := 120) dX8_wrong_38 rfl ?_
          refine r_iload_n hL (x := z28) dX8_wrong_39 rfl ?_
          refine r_callV hL (st := []) (av := [xI z28]) (k := 120) (m_X8_isTale (μ := μ102) hB102 z28 (by omega) (fun z40 hc40 => ⟨rfl, ?_⟩)) ce_yX8_isTale im_yX8_isTale se_yX8_isTale ml_X8_171 xcl8 (by decide) s_120 dX8_wrong_40 rfl (Nat.le_of_ble_eq_true rfl) ⟨Nat.le_of_ble_eq_true rfl, Nat.le_of_ble_eq_true rfl⟩ ⟨Nat.le_of_ble_eq_true rfl, Nat.le_of_ble_eq_true rfl⟩
          show X 0 0 WW μ102 43 [some (xR 120), some (xI k), some (xI z17), some (xI z28)] [xI z40]
          refine r_if_eq hL (tgt := 65) dX8_wrong_43 (by decide) (by omega) (fun c43 => ?_) (fun c43 => ?_)
          · skip
            refine r_iload_n hL (x := k) dX8_wrong_65 rfl ?_
            exact r_iret hL dX8_wrong_66 rfl (hK _ _ hB102 hF102 (by omega))
          · skip
            refine r_aload_n hL (x := 120) dX8_wrong_46 rfl ?_
            refine r_iload_n hL (x := z17) dX8_wrong_47 rfl ?_
            refine r_iload_n hL (x := z28) dX8_wrong_48 rfl ?_
            refine r_callV hL (st := []) (av := [xI z17, xI z28]) (k := 120) (m_X8_apart (μ := μ102) hB102 z17 (by omega) z28 (by omega) (fun z49 μ49c hB49c hG49 hD49c heq49 hQ49 hc49 => ⟨rfl, ?_⟩)) ce_yX8_apart im_yX8_apart se_yX8_apart ml_X8_111 xcl8 (by decide) s_120 dX8_wrong_49 rfl (Nat.le_of_ble_eq_true rfl) ⟨Nat.le_of_ble_eq_true rfl, Nat.le_of_ble_eq_true rfl⟩ ⟨Nat.le_of_ble_eq_true rfl, Nat.le_of_ble_eq_true rfl⟩
            show X 0 0 WW μ49c 52 [some (xR 120), some (xI k), some (xI z17), some (xI z28)] [xI z49]
            have hF49c : Fr RM μ μ49c := hF102.trans hG49
            refine r_aload_n hL (x := 120) dX8_wrong_52 rfl ?_
            refine r_getr hL xcl8 7 (by decide) s_120 (by decide) fl_X8_26 (by decide) f_120_7 dX8_wrong_53 ?_
            refine r_iconst hL dX8_wrong_56 ?_
            refine r_iload_n hL (x := k) dX8_wrong_57 rfl ?_
            refine r_imul hL dX8_wrong_58 ?_
            refine r_iconst hL dX8_wrong_59 ?_
            refine r_iadd hL dX8_wrong_60 ?_
            refine r_iald hL dX8_wrong_61 (by decide) s_126 (by decide) (by omega) (by omega) (fun hr61 => ?_)
            obtain ⟨z61, hz61⟩ : ∃ z, z = μ49c 126 ((3 * k) + 2) := ⟨_, rfl⟩
            rw [← hz61] at hr61 ⊢
            have hb61 : ((3 * k) + 2) % 3 ≤ 1 → 0 ≤ (μ49c 126 ((3 * k) + 2)) ∧ (μ49c 126 ((3 * k) + 2)) ≤ 7 := hB49c 126 ((3 * k) + 2)
            refine r_icmp_eq hL (tgt := 67) dX8_wrong_62 (by decide) (by omega) (by omega) (fun c62 => ?_) (fun c62 => ?_)
            · skip
              refine r_iinc hL (x := k) (lo' := [some (xR 120), some (xI (k + 1)), some (xI z17), some (xI z28)]) dX8_wrong_67 (by decide) rfl rfl ?_
              refine r_goto hL (tgt := 2) dX8_wrong_70 (by decide) ?_
              refine r_drop hL (lo' := [some (xR 120), some (xI (k + 1)), none, none]) [2, 3] rfl ?_
              exact ih2 (k + 1) μ49c hB49c hF49c (by omega) (by omega)
            · skip
              refine r_iload_n hL (x := k) dX8_wrong_65 rfl ?_
              exact r_iret hL dX8_wrong_66 rfl (hK _ _ hB49c hF49c (by omega))
  exact lp2 _ 0 μ hB hF (by omega) (Nat.lt_succ_self _)
