set_option maxHeartbeats 4000000 in
set_option maxRecDepth 20000 in
theorem m_X5_become {K : Option xV → xW → xM → Prop} {μ : xM} (hB0 : BI μ) (a b : Nat) (h_a : a ∈ xsts) (h_b : b ∈ xsts) (hK : ∀ μ', BI μ' → Fr (SA a) μ μ' → SE μ' a μ b → K none WW μ') : xMet yX5_become cX5_become 2 none 1 26 0 0 [xR a, xR b] WW μ K := by
  refine xMet.go RX5 "become" rfl rfl (by decide) [some (xR a), some (xR b)] (Nat.le_of_ble_eq_true rfl) rfl (fun X hL => ?_)
  have hB := hB0
  have hF : Fr (SA a) μ μ := Fr.rf
  refine r_aload_n hL (x := b) dX5_become_0 rfl ?_
  refine r_getr hL xcl5 0 (Nat.lt_of_le_of_lt (Nat.le_add_right _ 4) (st_sh b h_b).2.2.2.2.2.1) (st_sh b h_b).1 (by decide) fl_X5_9 (by decide) (st_sh b h_b).2.2.2.2.2.2.1 dX5_become_1 ?_
  refine r_iconst hL dX5_become_4 ?_
  refine r_aload_n hL (x := a) dX5_become_5 rfl ?_
  refine r_getr hL xcl5 0 (Nat.lt_of_le_of_lt (Nat.le_add_right _ 4) (st_sh a h_a).2.2.2.2.2.1) (st_sh a h_a).1 (by decide) fl_X5_9 (by decide) (st_sh a h_a).2.2.2.2.2.2.1 dX5_become_6 ?_
  refine r_iconst hL dX5_become_9 ?_
  refine r_bipush hL dX5_become_10 (by decide) ?_
  refine r_copyl hL (Nat.lt_of_le_of_lt (Nat.add_le_add_left (by decide) _) (st_sh b h_b).2.2.2.2.2.1) (Nat.lt_of_le_of_lt (Nat.add_le_add_left (by decide) _) (st_sh a h_a).2.2.2.2.2.1) (st_sh b h_b).2.1 (st_sh a h_a).2.1 (by decide) (by decide) (by decide) (by decide) ml_X5_32 nm_arraycopyName sm_arraycopyName it_java_lang_System dX5_become_12 ⟨Nat.le_of_ble_eq_true rfl, Nat.le_of_ble_eq_true rfl⟩ (fun μ1 hm1 => ?_)
  have hB1 : BI μ1 := by rw [hm1]; exact hB.cp (by rw [(st_bk a h_a).2.1, (st_bk b h_b).2.1])
  have hF1 : Fr (SA a) μ μ1 := by rw [hm1]; exact hF.cp (fun j _ _ => by unfold SA; omega)
  refine r_aload_n hL (x := b) dX5_become_15 rfl ?_
  refine r_getr hL xcl5 1 (Nat.lt_of_le_of_lt (Nat.le_add_right _ 4) (st_sh b h_b).2.2.2.2.2.1) (st_sh b h_b).1 (by decide) fl_X5_15 (by decide) (st_sh b h_b).2.2.2.2.2.2.2.1 dX5_become_16 ?_
  refine r_iconst hL dX5_become_19 ?_
  refine r_aload_n hL (x := a) dX5_become_20 rfl ?_
  refine r_getr hL xcl5 1 (Nat.lt_of_le_of_lt (Nat.le_add_right _ 4) (st_sh a h_a).2.2.2.2.2.1) (st_sh a h_a).1 (by decide) fl_X5_15 (by decide) (st_sh a h_a).2.2.2.2.2.2.2.1 dX5_become_21 ?_
  refine r_iconst hL dX5_become_24 ?_
  refine r_bipush hL dX5_become_25 (by decide) ?_
  refine r_copyi hL (Nat.lt_of_le_of_lt (Nat.add_le_add_left (by decide) _) (st_sh b h_b).2.2.2.2.2.1) (Nat.lt_of_le_of_lt (Nat.add_le_add_left (by decide) _) (st_sh a h_a).2.2.2.2.2.1) (st_sh b h_b).2.2.1 (st_sh a h_a).2.2.1 (by decide) (by decide) (by decide) (by decide) ml_X5_32 nm_arraycopyName sm_arraycopyName it_java_lang_System dX5_become_27 ⟨Nat.le_of_ble_eq_true rfl, Nat.le_of_ble_eq_true rfl⟩ (fun μ2 hm2 => ?_)
  have hB2 : BI μ2 := by rw [hm2]; exact hB1.cp (by rw [(st_bk a h_a).2.2.1, (st_bk b h_b).2.2.1])
  have hF2 : Fr (SA a) μ μ2 := by rw [hm2]; exact hF1.cp (fun j _ _ => by unfold SA; omega)
  refine r_aload_n hL (x := b) dX5_become_30 rfl ?_
  refine r_getr hL xcl5 2 (Nat.lt_of_le_of_lt (Nat.le_add_right _ 4) (st_sh b h_b).2.2.2.2.2.1) (st_sh b h_b).1 (by decide) fl_X5_19 (by decide) (st_sh b h_b).2.2.2.2.2.2.2.2.1 dX5_become_31 ?_
  refine r_iconst hL dX5_become_34 ?_
  refine r_aload_n hL (x := a) dX5_become_35 rfl ?_
  refine r_getr hL xcl5 2 (Nat.lt_of_le_of_lt (Nat.le_add_right _ 4) (st_sh a h_a).2.2.2.2.2.1) (st_sh a h_a).1 (by decide) fl_X5_19 (by decide) (st_sh a h_a).2.2.2.2.2.2.2.2.1 dX5_become_36 ?_
  refine r_iconst hL dX5_become_39 ?_
  refine r_iconst hL dX5_become_40 ?_
  refine r_copyi hL (Nat.lt_of_le_of_lt (Nat.add_le_add_left (by decide) _) (st_sh b h_b).2.2.2.2.2.1) (Nat.lt_of_le_of_lt (Nat.add_le_add_left (by decide) _) (st_sh a h_a).2.2.2.2.2.1) (st_sh b h_b).2.2.2.1 (st_sh a h_a).2.2.2.1 (by decide) (by decide) (by decide) (by decide) ml_X5_32 nm_arraycopyName sm_arraycopyName it_java_lang_System dX5_become_41 ⟨Nat.le_of_ble_eq_true rfl, Nat.le_of_ble_eq_true rfl⟩ (fun μ3 hm3 => ?_)
  have hB3 : BI μ3 := by rw [hm3]; exact hB2.cp (by rw [(st_bk a h_a).2.2.2.1, (st_bk b h_b).2.2.2.1])
  have hF3 : Fr (SA a) μ μ3 := by rw [hm3]; exact hF2.cp (fun j _ _ => by unfold SA; omega)
  refine r_aload_n hL (x := b) dX5_become_44 rfl ?_
  refine r_getr hL xcl5 3 (Nat.lt_of_le_of_lt (Nat.le_add_right _ 4) (st_sh b h_b).2.2.2.2.2.1) (st_sh b h_b).1 (by decide) fl_X5_22 (by decide) (st_sh b h_b).2.2.2.2.2.2.2.2.2 dX5_become_45 ?_
  refine r_iconst hL dX5_become_48 ?_
  refine r_aload_n hL (x := a) dX5_become_49 rfl ?_
  refine r_getr hL xcl5 3 (Nat.lt_of_le_of_lt (Nat.le_add_right _ 4) (st_sh a h_a).2.2.2.2.2.1) (st_sh a h_a).1 (by decide) fl_X5_22 (by decide) (st_sh a h_a).2.2.2.2.2.2.2.2.2 dX5_become_50 ?_
  refine r_iconst hL dX5_become_53 ?_
  refine r_bipush hL dX5_become_54 (by decide) ?_
  refine r_copyi hL (st_sh b h_b).2.2.2.2.2.1 (st_sh a h_a).2.2.2.2.2.1 (st_sh b h_b).2.2.2.2.1 (st_sh a h_a).2.2.2.2.1 (by decide) (by decide) (by decide) (by decide) ml_X5_32 nm_arraycopyName sm_arraycopyName it_java_lang_System dX5_become_56 ⟨Nat.le_of_ble_eq_true rfl, Nat.le_of_ble_eq_true rfl⟩ (fun μ4 hm4 => ?_)
  have hB4 : BI μ4 := by rw [hm4]; exact hB3.cp (by rw [(st_bk a h_a).2.2.2.2, (st_bk b h_b).2.2.2.2])
  have hF4 : Fr (SA a) μ μ4 := by rw [hm4]; exact hF3.cp (fun j _ _ => by unfold SA; omega)
  refine r_aload_n hL (x := a) dX5_become_59 rfl ?_
  refine r_aload_n hL (x := b) dX5_become_60 rfl ?_
  refine r_geti hL xcl5 4 (j' := 4) rfl (Nat.lt_of_le_of_lt (Nat.le_add_right _ 4) (st_sh b h_b).2.2.2.2.2.1) (st_sh b h_b).1 (by decide) fl_X5_25 (by decide) (by decide) dX5_become_61 (fun hr61 => ?_)
  obtain ⟨z61, hz61⟩ : ∃ z, z = μ4 b 4 := ⟨_, rfl⟩
  rw [← hz61] at hr61 ⊢
  have hb61 : 0 ≤ μ4 b 4 ∧ μ4 b 4 ≤ 8 := (show ((4 : Int) = 4 → 0 ≤ (μ4 b 4) ∧ (μ4 b 4) ≤ 8) ∧ ((4 : Int) = 5 → 0 ≤ (μ4 b 4) ∧ (μ4 b 4) ≤ 2) from (by have hq := hB4 b 4; rw [(st_bk b h_b).1] at hq; exact hq)).1 (by omega)
  refine r_puti hL xcl5 4 (j' := 4) rfl (Nat.lt_of_le_of_lt (Nat.le_add_right _ 4) (st_sh a h_a).2.2.2.2.2.1) (st_sh a h_a).1 (by decide) fl_X5_25 rfl rfl (by omega) dX5_become_64 (fun μ5 hm5 => ?_)
  have hB5 : BI μ5 := by rw [hm5]; exact hB4.up (by rw [(st_bk a h_a).1]; show ((4 : Int) = 4 → 0 ≤ z61 ∧ z61 ≤ 8) ∧ ((4 : Int) = 5 → 0 ≤ z61 ∧ z61 ≤ 2); omega)
  have hF5 : Fr (SA a) μ μ5 := by rw [hm5]; exact hF4.up (by unfold SA; omega)
  refine r_aload_n hL (x := a) dX5_become_67 rfl ?_
  refine r_aload_n hL (x := b) dX5_become_68 rfl ?_
  refine r_geti hL xcl5 5 (j' := 5) rfl (Nat.lt_of_le_of_lt (Nat.le_add_right _ 4) (st_sh b h_b).2.2.2.2.2.1) (st_sh b h_b).1 (by decide) fl_X5_29 (by decide) (by decide) dX5_become_69 (fun hr69 => ?_)
  obtain ⟨z69, hz69⟩ : ∃ z, z = μ5 b 5 := ⟨_, rfl⟩
  rw [← hz69] at hr69 ⊢
  have hb69 : 0 ≤ μ5 b 5 ∧ μ5 b 5 ≤ 2 := (show ((5 : Int) = 4 → 0 ≤ (μ5 b 5) ∧ (μ5 b 5) ≤ 8) ∧ ((5 : Int) = 5 → 0 ≤ (μ5 b 5) ∧ (μ5 b 5) ≤ 2) from (by have hq := hB5 b 5; rw [(st_bk b h_b).1] at hq; exact hq)).2 (by omega)
  refine r_puti hL xcl5 5 (j' := 5) rfl (Nat.lt_of_le_of_lt (Nat.le_add_right _ 4) (st_sh a h_a).2.2.2.2.2.1) (st_sh a h_a).1 (by decide) fl_X5_29 rfl rfl (by omega) dX5_become_72 (fun μ6 hm6 => ?_)
  have hB6 : BI μ6 := by rw [hm6]; exact hB5.up (by rw [(st_bk a h_a).1]; show ((5 : Int) = 4 → 0 ≤ z69 ∧ z69 ≤ 8) ∧ ((5 : Int) = 5 → 0 ≤ z69 ∧ z69 ≤ 2); omega)
  have hF6 : Fr (SA a) μ μ6 := by rw [hm6]; exact hF5.up (by unfold SA; omega)
  exact r_vret hL dX5_become_75 rfl (hK _ hB6 hF6 (SE_bec (st_ap a h_a b h_b) hm1 hm2 hm3 hm4 hm5 hz61 hm6 hz69))

set_option maxHeartbeats 4000000 in
set_option maxRecDepth 20000 in
theorem m_X5_add {K : Option xV → xW → xM → Prop} {μ : xM} (hB0 : BI μ) (c : Int) (hc : 0 ≤ c ∧ c ≤ 47244640255) (s : Int) (hs : xrg s) (h7 : μ 1 4 ≤ 7) (hK : ∀ μ', BI μ' → cAdd c s μ μ' → K none WW μ') : xMet yX5_add cX5_add 4 none 0 0 0 0 [xR 1, xL c, xI s] WW μ K := by
  refine xMet.go RX5 "add" rfl rfl (by decide) [some (xR 1), some (xL c), none, some (xI s)] (Nat.le_of_ble_eq_true rfl) rfl (fun X hL => ?_)
  have hB := hB0
  have hF : Fr AD μ μ := Fr.rf
  refine r_aload_n hL (x := 1) dX5_add_0 rfl ?_
  refine r_geti hL xcl5 4 (j' := 4) rfl (by decide) s_1 (by decide) fl_X5_25 (by decide) (by decide) dX5_add_1 (fun hr1 => ?_)
  obtain ⟨z1, hz1⟩ : ∃ z, z = μ 1 4 := ⟨_, rfl⟩
  rw [← hz1] at hr1 ⊢
  have hb1 : 0 ≤ μ 1 4 ∧ μ 1 4 ≤ 8 := (show ((4 : Int) = 4 → 0 ≤ (μ 1 4) ∧ (μ 1 4) ≤ 8) ∧ ((4 : Int) = 5 → 0 ≤ (μ 1 4) ∧ (μ 1 4) ≤ 2) from hB 1 4).1 (by omega)
  refine r_bipush hL dX5_add_4 (by decide) ?_
  refine r_icmp_lt hL (tgt := 10) dX5_add_6 (by decide) (by omega) (by omega) (fun c6 => ?_) (fun c6 => ?_)
  · skip
    refine r_aload_n hL (x := 1) dX5_add_10 rfl ?_
    refine r_getr hL xcl5 0 (by decide) s_1 (by decide) fl_X5_9 (by decide) f_1_0 dX5_add_11 ?_
    refine r_aload_n hL (x := 1) dX5_add_14 rfl ?_
    refine r_geti hL xcl5 4 (j' := 4) rfl (by decide) s_1 (by decide) fl_X5_25 (by decide) (by decide) dX5_add_15 (fun hr15 => ?_)
    obtain ⟨z15, hz15⟩ : ∃ z, z = μ 1 4 := ⟨_, rfl⟩
    rw [← hz15] at hr15 ⊢
    have hb15 : 0 ≤ μ 1 4 ∧ μ 1 4 ≤ 8 := (show ((4 : Int) = 4 → 0 ≤ (μ 1 4) ∧ (μ 1 4) ≤ 8) ∧ ((4 : Int) = 5 → 0 ≤ (μ 1 4) ∧ (μ 1 4) ≤ 2) from hB 1 4).1 (by omega)
    refine r_lload_n hL (x := c) dX5_add_18 rfl ?_
    refine r_last hL dX5_add_19 (by decide) s_2 (by decide) (by omega) (by omega) (by omega) (fun μ1 hm1 => ?_)
    have hB1 : BI μ1 := by rw [hm1]; exact hB.up (by show 0 ≤ c ∧ c ≤ 47244640255; omega)
    have hF1 : Fr AD μ μ1 := by rw [hm1]; exact hF.up (by unfold AD; omega)
    have hk1_1_4 : μ1 1 4 = μ 1 4 := by rw [hm1]; exact congrFun (xup_c (by decide)) _
    refine r_aload_n hL (x := 1) dX5_add_20 rfl ?_
    refine r_getr hL xcl5 1 (by decide) s_1 (by decide) fl_X5_15 (by decide) f_1_1 dX5_add_21 ?_
    refine r_aload_n hL (x := 1) dX5_add_24 rfl ?_
    refine r_geti hL xcl5 4 (j' := 4) rfl (by decide) s_1 (by decide) fl_X5_25 (by decide) (by decide) dX5_add_25 (fun hr25 => ?_)
    obtain ⟨z25, hz25⟩ : ∃ z, z = μ1 1 4 := ⟨_, rfl⟩
    rw [← hz25] at hr25 ⊢
    have hb25 : 0 ≤ μ1 1 4 ∧ μ1 1 4 ≤ 8 := (show ((4 : Int) = 4 → 0 ≤ (μ1 1 4) ∧ (μ1 1 4) ≤ 8) ∧ ((4 : Int) = 5 → 0 ≤ (μ1 1 4) ∧ (μ1 1 4) ≤ 2) from hB1 1 4).1 (by omega)
    refine r_iload_n hL (x := s) dX5_add_28 rfl ?_
    refine r_iast hL dX5_add_29 (by decide) s_3 (by decide) (by omega) (by omega) (by omega) (fun μ2 hm2 => ?_)
    have hB2 : BI μ2 := by rw [hm2]; exact hB1.up trivial
    have hF2 : Fr AD μ μ2 := by rw [hm2]; exact hF1.up (by unfold AD; omega)
    have hk2_1_4 : μ2 1 4 = μ1 1 4 := by rw [hm2]; exact congrFun (xup_c (by decide)) _
    refine r_aload_n hL (x := 1) dX5_add_30 rfl ?_
    refine r_dup hL dX5_add_31 rfl ?_
    refine r_geti hL xcl5 4 (j' := 4) rfl (by decide) s_1 (by decide) fl_X5_25 (by decide) (by decide) dX5_add_32 (fun hr32 => ?_)
    obtain ⟨z32, hz32⟩ : ∃ z, z = μ2 1 4 := ⟨_, rfl⟩
    rw [← hz32] at hr32 ⊢
    have hb32 : 0 ≤ μ2 1 4 ∧ μ2 1 4 ≤ 8 := (show ((4 : Int) = 4 → 0 ≤ (μ2 1 4) ∧ (μ2 1 4) ≤ 8) ∧ ((4 : Int) = 5 → 0 ≤ (μ2 1 4) ∧ (μ2 1 4) ≤ 2) from hB2 1 4).1 (by omega)
    refine r_iconst hL dX5_add_35 ?_
    refine r_iadd hL dX5_add_36 ?_
    refine r_puti hL xcl5 4 (j' := 4) rfl (by decide) s_1 (by decide) fl_X5_25 rfl rfl (by omega) dX5_add_37 (fun μ3 hm3 => ?_)
    have hB3 : BI μ3 := by rw [hm3]; exact hB2.up (by show ((4 : Int) = 4 → 0 ≤ (z32 + 1) ∧ (z32 + 1) ≤ 8) ∧ ((4 : Int) = 5 → 0 ≤ (z32 + 1) ∧ (z32 + 1) ≤ 2); omega)
    have hF3 : Fr AD μ μ3 := by rw [hm3]; exact hF2.up (by unfold AD; omega)
    have hk3_1_4 : μ3 1 4 = z32 + 1 := by rw [hm3]; exact xup_s _ _ _ _
    exact r_vret hL dX5_add_40 rfl (hK _ hB3 ⟨hF3, by omega, fun j => ⟨by rw [hm3, congrFun (xup_c (by decide)) j, hm2, congrFun (xup_c (by decide)) j, hm1, hz15]; simp [xup], by rw [hm3, congrFun (xup_c (by decide)) j, hm2, show z25 = μ 1 4 by omega, hm1]; simp [xup]⟩⟩)
  · skip
    exact absurd (show z1 < 8 by omega) c6

set_option maxHeartbeats 4000000 in
set_option maxRecDepth 20000 in
theorem m_X5_remove {K : Option xV → xW → xM → Prop} {μ : xM} (hB0 : BI μ) (t : Int) (ht : 0 ≤ t ∧ t < μ 1 4) (hK : ∀ μ', BI μ' → cRv t μ μ' → K none WW μ') : xMet yX5_remove cX5_remove 3 none 0 0 0 0 [xR 1, xI t] WW μ K := by
  refine xMet.go RX5 "remove" rfl rfl (by decide) [some (xR 1), some (xI t), none] (Nat.le_of_ble_eq_true rfl) rfl (fun X hL => ?_)
  have hB := hB0
  have hm4 : 0 ≤ μ 1 4 ∧ μ 1 4 ≤ 8 := (show ((4 : Int) = 4 → 0 ≤ (μ 1 4) ∧ (μ 1 4) ≤ 8) ∧ ((4 : Int) = 5 → 0 ≤ (μ 1 4) ∧ (μ 1 4) ≤ 2) from hB 1 4).1 (by omega)
  have hF : Fr AD μ μ := Fr.rf
  refine r_iload_n hL (x := t) dX5_remove_0 rfl ?_
  refine r_if_lt hL (tgt := 12) dX5_remove_1 (by decide) (by omega) (fun c1 => ?_) (fun c1 => ?_)
  · skip
    exact absurd c1 (by omega)
  · skip
    refine r_iload_n hL (x := t) dX5_remove_4 rfl ?_
    refine r_aload_n hL (x := 1) dX5_remove_5 rfl ?_
    refine r_geti hL xcl5 4 (j' := 4) rfl (by decide) s_1 (by decide) fl_X5_25 (by decide) (by decide) dX5_remove_6 (fun hr6 => ?_)
    obtain ⟨z6, hz6⟩ : ∃ z, z = μ 1 4 := ⟨_, rfl⟩
    rw [← hz6] at hr6 ⊢
    have hb6 : 0 ≤ μ 1 4 ∧ μ 1 4 ≤ 8 := (show ((4 : Int) = 4 → 0 ≤ (μ 1 4) ∧ (μ 1 4) ≤ 8) ∧ ((4 : Int) = 5 → 0 ≤ (μ 1 4) ∧ (μ 1 4) ≤ 2) from hB 1 4).1 (by omega)
    refine r_icmp_lt hL (tgt := 13) dX5_remove_9 (by decide) (by omega) (by omega) (fun c9 => ?_) (fun c9 => ?_)
    · skip
      refine r_aload_n hL (x := 1) dX5_remove_13 rfl ?_
      refine r_dup hL dX5_remove_14 rfl ?_
      refine r_geti hL xcl5 4 (j' := 4) rfl (by decide) s_1 (by decide) fl_X5_25 (by decide) (by decide) dX5_remove_15 (fun hr15 => ?_)
      obtain ⟨z15, hz15⟩ : ∃ z, z = μ 1 4 := ⟨_, rfl⟩
      rw [← hz15] at hr15 ⊢
      have hb15 : 0 ≤ μ 1 4 ∧ μ 1 4 ≤ 8 := (show ((4 : Int) = 4 → 0 ≤ (μ 1 4) ∧ (μ 1 4) ≤ 8) ∧ ((4 : Int) = 5 → 0 ≤ (μ 1 4) ∧ (μ 1 4) ≤ 2) from hB 1 4).1 (by omega)
      refine r_iconst hL dX5_remove_18 ?_
      refine r_isub hL dX5_remove_19 ?_
      refine r_puti hL xcl5 4 (j' := 4) rfl (by decide) s_1 (by decide) fl_X5_25 rfl rfl (by omega) dX5_remove_20 (fun μ1 hm1 => ?_)
      have hB1 : BI μ1 := by rw [hm1]; exact hB.up (by show ((4 : Int) = 4 → 0 ≤ (z15 - 1) ∧ (z15 - 1) ≤ 8) ∧ ((4 : Int) = 5 → 0 ≤ (z15 - 1) ∧ (z15 - 1) ≤ 2); omega)
      have hF1 : Fr AD μ μ1 := by rw [hm1]; exact hF.up (by unfold AD; omega)
      have hk1_1_4 : μ1 1 4 = z15 - 1 := by rw [hm1]; exact xup_s _ _ _ _
      refine r_iload_n hL (x := t) dX5_remove_23 rfl ?_
      refine r_istore_n hL (lo' := [some (xR 1), some (xI t), some (xI t)]) dX5_remove_24 (by decide) rfl ?_
      have lp25 : ∀ (n25 : Nat) (i : Int) (μ125 : xM), (BI μ125) → (Fr AD μ μ125) → (t ≤ i ∧ i ≤ 8) → (μ125 1 4 = μ 1 4 - 1) → (rvI μ μ125 t i) → ((8 - i).toNat) < n25 → X 0 0 WW μ125 25 [some (xR 1), some (xI t), some (xI i)] [] := by
        intro n25
        induction n25 with
        | zero => intro i μ125 hB125 hF125 h1 h2 h3 hn; exact absurd hn (Nat.not_lt_zero _)
        | succ n25 ih25 =>
          intro i μ125 hB125 hF125 h1 h2 h3 hn25
          refine r_iload_n hL (x := i) dX5_remove_25 rfl ?_
          refine r_aload_n hL (x := 1) dX5_remove_26 rfl ?_
          refine r_geti hL xcl5 4 (j' := 4) rfl (by decide) s_1 (by decide) fl_X5_25 (by decide) (by decide) dX5_remove_27 (fun hr27 => ?_)
          obtain ⟨z27, hz27⟩ : ∃ z, z = μ125 1 4 := ⟨_, rfl⟩
          rw [← hz27] at hr27 ⊢
          have hb27 : 0 ≤ μ125 1 4 ∧ μ125 1 4 ≤ 8 := (show ((4 : Int) = 4 → 0 ≤ (μ125 1 4) ∧ (μ125 1 4) ≤ 8) ∧ ((4 : Int) = 5 → 0 ≤ (μ125 1 4) ∧ (μ125 1 4) ≤ 2) from hB125 1 4).1 (by omega)
          refine r_icmp_ge hL (tgt := 67) dX5_remove_30 (by decide) (by omega) (by omega) (fun c30 => ?_) (fun c30 => ?_)
          · skip
            exact r_vret hL dX5_remove_67 rfl (hK _ hB125 ⟨hF125, h2, h3.fin (by omega) (by omega)⟩)
          · skip
            refine r_aload_n hL (x := 1) dX5_remove_33 rfl ?_
            refine r_getr hL xcl5 0 (by decide) s_1 (by decide) fl_X5_9 (by decide) f_1_0 dX5_remove_34 ?_
            refine r_iload_n hL (x := i) dX5_remove_37 rfl ?_
            refine r_aload_n hL (x := 1) dX5_remove_38 rfl ?_
            refine r_getr hL xcl5 0 (by decide) s_1 (by decide) fl_X5_9 (by decide) f_1_0 dX5_remove_39 ?_
            refine r_iload_n hL (x := i) dX5_remove_42 rfl ?_
            refine r_iconst hL dX5_remove_43 ?_
            refine r_iadd hL dX5_remove_44 ?_
            refine r_lald hL dX5_remove_45 (by decide) s_2 (by decide) (by omega) (by omega) (fun hr45 => ?_)
            obtain ⟨z45, hz45⟩ : ∃ z, z = μ125 2 (i + 1) := ⟨_, rfl⟩
            rw [← hz45] at hr45 ⊢
            have hb45 : 0 ≤ (μ125 2 (i + 1)) ∧ (μ125 2 (i + 1)) ≤ 47244640255 := hB125 2 (i + 1)
            refine r_last hL dX5_remove_46 (by decide) s_2 (by decide) (by omega) (by omega) (by omega) (fun μ2 hm2 => ?_)
            have hB2 : BI μ2 := by rw [hm2]; exact hB125.up (by show 0 ≤ z45 ∧ z45 ≤ 47244640255; omega)
            have hF2 : Fr AD μ μ2 := by rw [hm2]; exact hF125.up (by unfold AD; omega)
            have hk2_1_4 : μ2 1 4 = μ125 1 4 := by rw [hm2]; exact congrFun (xup_c (by decide)) _
            refine r_aload_n hL (x := 1) dX5_remove_47 rfl ?_
            refine r_getr hL xcl5 1 (by decide) s_1 (by decide) fl_X5_15 (by decide) f_1_1 dX5_remove_48 ?_
            refine r_iload_n hL (x := i) dX5_remove_51 rfl ?_
            refine r_aload_n hL (x := 1) dX5_remove_52 rfl ?_
            refine r_getr hL xcl5 1 (by decide) s_1 (by decide) fl_X5_15 (by decide) f_1_1 dX5_remove_53 ?_
            refine r_iload_n hL (x := i) dX5_remove_56 rfl ?_
            refine r_iconst hL dX5_remove_57 ?_
            refine r_iadd hL dX5_remove_58 ?_
            refine r_iald hL dX5_remove_59 (by decide) s_3 (by decide) (by omega) (by omega) (fun hr59 => ?_)
            obtain ⟨z59, hz59⟩ : ∃ z, z = μ2 3 (i + 1) := ⟨_, rfl⟩
            rw [← hz59] at hr59 ⊢
            refine r_iast hL dX5_remove_60 (by decide) s_3 (by decide) (by omega) (by omega) (by omega) (fun μ3 hm3 => ?_)
            have hB3 : BI μ3 := by rw [hm3]; exact hB2.up trivial
            have hF3 : Fr AD μ μ3 := by rw [hm3]; exact hF2.up (by unfold AD; omega)
            have hk3_1_4 : μ3 1 4 = μ2 1 4 := by rw [hm3]; exact congrFun (xup_c (by decide)) _
            refine r_iinc hL (x := i) (lo' := [some (xR 1), some (xI t), some (xI (i + 1))]) dX5_remove_61 (by decide) rfl rfl ?_
            refine r_goto hL (tgt := 25) dX5_remove_64 (by decide) ?_
            exact ih25 (i + 1) μ3 hB3 hF3 (by omega) (by omega) (rvI.go h3 hm2 hz45 hm3 hz59 (by omega) (by omega) (by omega)) (by omega)
      exact lp25 _ t μ1 hB1 hF1 (by omega) (by omega) (fun q _ _ => by rw [hm1, congrFun (xup_c (by decide)) q, congrFun (xup_c (by decide)) q, if_neg (by omega), if_neg (by omega)]; exact ⟨rfl, rfl⟩) (Nat.lt_succ_self _)
    · skip
      exact absurd (show t < z6 by omega) c9

set_option maxHeartbeats 4000000 in
set_option maxRecDepth 20000 in
theorem m_X5_setRoad {K : Option xV → xW → xM → Prop} {μ : xM} (hB0 : BI μ) (p : Int) (hp : 0 ≤ p ∧ p ≤ 7) (q : Int) (hq : 0 ≤ q ∧ q ≤ 7) (v : Int) (hv : xrg v) (hpq : ¬ p = q) (hK : ∀ μ', BI μ' → cRd p q v μ μ' → K none WW μ') : xMet yX5_setRoad cX5_setRoad 4 none 0 0 0 0 [xR 1, xI p, xI q, xI v] WW μ K := by
  refine xMet.go RX5 "setRoad" rfl rfl (by decide) [some (xR 1), some (xI p), some (xI q), some (xI v)] (Nat.le_of_ble_eq_true rfl) rfl (fun X hL => ?_)
  have hB := hB0
  have hF : Fr F5 μ μ := Fr.rf
  refine r_iload_n hL (x := v) dX5_setRoad_0 rfl ?_
  refine r_if_eq hL (tgt := 31) dX5_setRoad_1 (by decide) (by omega) (fun c1 => ?_) (fun c1 => ?_)
  · skip
    refine r_aload_n hL (x := 1) dX5_setRoad_31 rfl ?_
    refine r_getr hL xcl5 3 (by decide) s_1 (by decide) fl_X5_22 (by decide) f_1_3 dX5_setRoad_32 ?_
    refine r_iload_n hL (x := p) dX5_setRoad_35 rfl ?_
    refine r_dup2 hL dX5_setRoad_36 rfl rfl ?_
    refine r_iald hL dX5_setRoad_37 (by decide) s_5 (by decide) (by omega) (by omega) (fun hr37 => ?_)
    obtain ⟨z37, hz37⟩ : ∃ z, z = μ 5 p := ⟨_, rfl⟩
    rw [← hz37] at hr37 ⊢
    refine r_iconst hL dX5_setRoad_38 ?_
    refine r_iload_n hL (x := q) dX5_setRoad_39 rfl ?_
    refine r_ishl hL dX5_setRoad_40 ?_
    obtain ⟨z40, hz40⟩ : ∃ z, z = xshl 1 q := ⟨_, rfl⟩
    rw [← hz40]
    have hr40 : xrg z40 := by rw [hz40]; exact xshl_rg _ _
    refine r_iconst hL dX5_setRoad_41 ?_
    refine r_ixor hL dX5_setRoad_42 ?_
    obtain ⟨z42, hz42⟩ : ∃ z, z = xxor z40 (-1) := ⟨_, rfl⟩
    rw [← hz42]
    have hr42 : xrg z42 := by rw [hz42]; exact xxor_rg _ _
    refine r_iand hL dX5_setRoad_43 ?_
    obtain ⟨z43, hz43⟩ : ∃ z, z = xand z37 z42 := ⟨_, rfl⟩
    rw [← hz43]
    have hr43 : xrg z43 := by rw [hz43]; exact xand_rg _ _
    refine r_iast hL dX5_setRoad_44 (by decide) s_5 (by decide) (by omega) (by omega) (by omega) (fun μ1 hm1 => ?_)
    have hB1 : BI μ1 := by rw [hm1]; exact hB.up trivial
    have hF1 : Fr F5 μ μ1 := by rw [hm1]; exact hF.up (by unfold F5; omega)
    have hs1 : ∀ j, μ1 5 j = if j = p then srd v (μ 5 p) q else μ 5 j := fun j => by rw [hm1, hz43, hz37, hz42, hz40]; simp [xup, srd, c1]
    refine r_aload_n hL (x := 1) dX5_setRoad_45 rfl ?_
    refine r_getr hL xcl5 3 (by decide) s_1 (by decide) fl_X5_22 (by decide) f_1_3 dX5_setRoad_46 ?_
    refine r_iload_n hL (x := q) dX5_setRoad_49 rfl ?_
    refine r_dup2 hL dX5_setRoad_50 rfl rfl ?_
    refine r_iald hL dX5_setRoad_51 (by decide) s_5 (by decide) (by omega) (by omega) (fun hr51 => ?_)
    obtain ⟨z51, hz51⟩ : ∃ z, z = μ1 5 q := ⟨_, rfl⟩
    rw [← hz51] at hr51 ⊢
    refine r_iconst hL dX5_setRoad_52 ?_
    refine r_iload_n hL (x := p) dX5_setRoad_53 rfl ?_
    refine r_ishl hL dX5_setRoad_54 ?_
    obtain ⟨z54, hz54⟩ : ∃ z, z = xshl 1 p := ⟨_, rfl⟩
    rw [← hz54]
    have hr54 : xrg z54 := by rw [hz54]; exact xshl_rg _ _
    refine r_iconst hL dX5_setRoad_55 ?_
    refine r_ixor hL dX5_setRoad_56 ?_
    obtain ⟨z56, hz56⟩ : ∃ z, z = xxor z54 (-1) := ⟨_, rfl⟩
    rw [← hz56]
    have hr56 : xrg z56 := by rw [hz56]; exact xxor_rg _ _
    refine r_iand hL dX5_setRoad_57 ?_
    obtain ⟨z57, hz57⟩ : ∃ z, z = xand z51 z56 := ⟨_, rfl⟩
    rw [← hz57]
    have hr57 : xrg z57 := by rw [hz57]; exact xand_rg _ _
    refine r_iast hL dX5_setRoad_58 (by decide) s_5 (by decide) (by omega) (by omega) (by omega) (fun μ2 hm2 => ?_)
    have hB2 : BI μ2 := by rw [hm2]; exact hB1.up trivial
    have hF2 : Fr F5 μ μ2 := by rw [hm2]; exact hF1.up (by unfold F5; omega)
    have hs2 : ∀ j, μ2 5 j = if j = q then srd v (μ 5 q) p else if j = p then srd v (μ 5 p) q else μ 5 j := fun j => by rw [hm2, hz57, hz51, hz56, hz54, hs1 q, if_neg (by omega)]; simp only [xup, true_and, hs1 j]; simp [srd, c1]
    exact r_vret hL dX5_setRoad_59 rfl (hK _ hB2 ⟨hF2, hs2⟩)
  · skip
    refine r_aload_n hL (x := 1) dX5_setRoad_4 rfl ?_
    refine r_getr hL xcl5 3 (by decide) s_1 (by decide) fl_X5_22 (by decide) f_1_3 dX5_setRoad_5 ?_
    refine r_iload_n hL (x := p) dX5_setRoad_8 rfl ?_
    refine r_dup2 hL dX5_setRoad_9 rfl rfl ?_
    refine r_iald hL dX5_setRoad_10 (by decide) s_5 (by decide) (by omega) (by omega) (fun hr10 => ?_)
    obtain ⟨z10, hz10⟩ : ∃ z, z = μ 5 p := ⟨_, rfl⟩
    rw [← hz10] at hr10 ⊢
    refine r_iconst hL dX5_setRoad_11 ?_
    refine r_iload_n hL (x := q) dX5_setRoad_12 rfl ?_
    refine r_ishl hL dX5_setRoad_13 ?_
    obtain ⟨z13, hz13⟩ : ∃ z, z = xshl 1 q := ⟨_, rfl⟩
    rw [← hz13]
    have hr13 : xrg z13 := by rw [hz13]; exact xshl_rg _ _
    refine r_ior hL dX5_setRoad_14 ?_
    obtain ⟨z14, hz14⟩ : ∃ z, z = xor' z10 z13 := ⟨_, rfl⟩
    rw [← hz14]
    have hr14 : xrg z14 := by rw [hz14]; exact xor_rg _ _
    refine r_iast hL dX5_setRoad_15 (by decide) s_5 (by decide) (by omega) (by omega) (by omega) (fun μ3 hm3 => ?_)
    have hB3 : BI μ3 := by rw [hm3]; exact hB.up trivial
    have hF3 : Fr F5 μ μ3 := by rw [hm3]; exact hF.up (by unfold F5; omega)
    have hs1 : ∀ j, μ3 5 j = if j = p then srd v (μ 5 p) q else μ 5 j := fun j => by rw [hm3, hz14, hz10, hz13]; simp [xup, srd, c1]
    refine r_aload_n hL (x := 1) dX5_setRoad_16 rfl ?_
    refine r_getr hL xcl5 3 (by decide) s_1 (by decide) fl_X5_22 (by decide) f_1_3 dX5_setRoad_17 ?_
    refine r_iload_n hL (x := q) dX5_setRoad_20 rfl ?_
    refine r_dup2 hL dX5_setRoad_21 rfl rfl ?_
    refine r_iald hL dX5_setRoad_22 (by decide) s_5 (by decide) (by omega) (by omega) (fun hr22 => ?_)
    obtain ⟨z22, hz22⟩ : ∃ z, z = μ3 5 q := ⟨_, rfl⟩
    rw [← hz22] at hr22 ⊢
    refine r_iconst hL dX5_setRoad_23 ?_
    refine r_iload_n hL (x := p) dX5_setRoad_24 rfl ?_
    refine r_ishl hL dX5_setRoad_25 ?_
    obtain ⟨z25, hz25⟩ : ∃ z, z = xshl 1 p := ⟨_, rfl⟩
    rw [← hz25]
    have hr25 : xrg z25 := by rw [hz25]; exact xshl_rg _ _
    refine r_ior hL dX5_setRoad_26 ?_
    obtain ⟨z26, hz26⟩ : ∃ z, z = xor' z22 z25 := ⟨_, rfl⟩
    rw [← hz26]
    have hr26 : xrg z26 := by rw [hz26]; exact xor_rg _ _
    refine r_iast hL dX5_setRoad_27 (by decide) s_5 (by decide) (by omega) (by omega) (by omega) (fun μ4 hm4 => ?_)
    have hB4 : BI μ4 := by rw [hm4]; exact hB3.up trivial
    have hF4 : Fr F5 μ μ4 := by rw [hm4]; exact hF3.up (by unfold F5; omega)
    have hs2 : ∀ j, μ4 5 j = if j = q then srd v (μ 5 q) p else if j = p then srd v (μ 5 p) q else μ 5 j := fun j => by rw [hm4, hz26, hz22, hz25, hs1 q, if_neg (by omega)]; simp only [xup, true_and, hs1 j]; simp [srd, c1]
    refine r_goto hL (tgt := 59) dX5_setRoad_28 (by decide) ?_
    exact r_vret hL dX5_setRoad_59 rfl (hK _ hB4 ⟨hF4, hs2⟩)

set_option maxHeartbeats 4000000 in
set_option maxRecDepth 20000 in
theorem m_X5_countRoads {K : Option xV → xW → xM → Prop} {μ : xM}  (hK : ∀ r, r = sumf (fun k => xbc (μ 5 k)) 8 / 2 → xrg r → K (some (xI r)) WW μ) : xMet yX5_countRoads cX5_countRoads 3 (some .int) 1 20 0 0 [xR 1] WW μ K := by
  refine xMet.go RX5 "countRoads" rfl rfl (by decide) [some (xR 1), none, none] (Nat.le_of_ble_eq_true rfl) rfl (fun X hL => ?_)
  refine r_iconst hL dX5_countRoads_0 ?_
  refine r_istore_n hL (lo' := [some (xR 1), some (xI 0), none]) dX5_countRoads_1 (by decide) rfl ?_
  refine r_iconst hL dX5_countRoads_2 ?_
  refine r_istore_n hL (lo' := [some (xR 1), some (xI 0), some (xI 0)]) dX5_countRoads_3 (by decide) rfl ?_
  have lp4 : ∀ (n4 : Nat) (n : Int) (i : Int), (n = sumf (fun k => xbc (μ 5 k)) i.toNat ∧ 0 ≤ n ∧ n ≤ 63 * i) → (0 ≤ i ∧ i ≤ 8) → ((8 - i).toNat) < n4 → X 0 0 WW μ 4 [some (xR 1), some (xI n), some (xI i)] [] := by
    intro n4
    induction n4 with
    | zero => intro n i h1 h2 hn; exact absurd hn (Nat.not_lt_zero _)
    | succ n4 ih4 =>
      intro n i h1 h2 hn4
      refine r_iload_n hL (x := i) dX5_countRoads_4 rfl ?_
      refine r_bipush hL dX5_countRoads_5 (by decide) ?_
      refine r_icmp_ge hL (tgt := 28) dX5_countRoads_7 (by decide) (by omega) (by omega) (fun c7 => ?_) (fun c7 => ?_)
      · skip
        refine r_iload_n hL (x := n) dX5_countRoads_28 rfl ?_
        refine r_iconst hL dX5_countRoads_29 ?_
        refine r_idiv hL dX5_countRoads_30 (by omega) (by omega) ?_
        obtain ⟨z30, hz30⟩ : ∃ z, z = xdiv n 2 := ⟨_, rfl⟩
        rw [← hz30]
        have hr30 : xrg z30 := by rw [hz30]; exact xdiv_rg _ _
        have hq30 := xdiv_nn (x := n) (y := 2) (by omega) (by omega) (by omega) (by omega)
        rw [← hz30] at hq30
        exact r_iret hL dX5_countRoads_31 rfl (hK _ (by rw [hq30, h1.1, show i = 8 by omega]; rfl) (by omega))
      · skip
        refine r_iload_n hL (x := n) dX5_countRoads_10 rfl ?_
        refine r_aload_n hL (x := 1) dX5_countRoads_11 rfl ?_
        refine r_getr hL xcl5 3 (by decide) s_1 (by decide) fl_X5_22 (by decide) f_1_3 dX5_countRoads_12 ?_
        refine r_iload_n hL (x := i) dX5_countRoads_15 rfl ?_
        refine r_iald hL dX5_countRoads_16 (by decide) s_5 (by decide) (by omega) (by omega) (fun hr16 => ?_)
        obtain ⟨z16, hz16⟩ : ∃ z, z = μ 5 i := ⟨_, rfl⟩
        rw [← hz16] at hr16 ⊢
        refine r_callS hL (st := [xI n]) (av := [xI z16]) (m_J6_bitCount_0f7a4 (μ := μ) z16 (fun z17 hc17_1 hc17 => ⟨rfl, ?_⟩)) ce_yJ6_bitCount_0f7a4 sm_yJ6_bitCount_0f7a4 ml_X5_38 dX5_countRoads_17 rfl (Nat.le_of_ble_eq_true rfl) ⟨Nat.le_of_ble_eq_true rfl, Nat.le_of_ble_eq_true rfl⟩ ⟨Nat.le_of_ble_eq_true rfl, Nat.le_of_ble_eq_true rfl⟩
        show X 0 0 WW μ 20 [some (xR 1), some (xI n), some (xI i)] [xI z17, xI n]
        refine r_iadd hL dX5_countRoads_20 ?_
        refine r_istore_n hL (lo' := [some (xR 1), some (xI (n + z17)), some (xI i)]) dX5_countRoads_21 (by decide) rfl ?_
        refine r_iinc hL (x := i) (lo' := [some (xR 1), some (xI (n + z17)), some (xI (i + 1))]) dX5_countRoads_22 (by decide) rfl rfl ?_
        refine r_goto hL (tgt := 4) dX5_countRoads_25 (by decide) ?_
        exact ih4 (n + z17) (i + 1) ⟨by rw [show (i + 1).toNat = i.toNat + 1 by omega]; show _ = sumf _ i.toNat + xbc (μ 5 (i.toNat : Int)); rw [Int.toNat_of_nonneg h2.1, ← hz16, ← hc17_1, h1.1], by omega, by omega⟩ (by omega) (by omega)
  exact lp4 _ 0 0 ⟨rfl, by omega, by omega⟩ (by omega) (Nat.lt_succ_self _)

set_option maxHeartbeats 4000000 in
set_option maxRecDepth 20000 in
theorem m_X1_remember {K : Option xV → xW → xM → Prop} {μ : xM} (hB0 : BI μ)  (hK : ∀ μ', BI μ' → cRm μ μ' → K none WW μ') : xMet yX1_remember cX1_remember 2 none 2 47 0 0 [xR 6, xR 1] WW μ K := by
  refine xMet.go RX1 "remember" rfl rfl (by decide) [some (xR 6), some (xR 1)] (Nat.le_of_ble_eq_true rfl) rfl (fun X hL => ?_)
  have hB := hB0
  have hF : Fr (RBf (μ 6 2)) μ μ := Fr.rf
  refine r_aload_n hL (x := 6) dX1_remember_0 rfl ?_
  refine r_getr hL xcl1 0 (by decide) s_6 (by decide) fl_X1_11 (by decide) f_6_0 dX1_remember_1 ?_
  refine r_aload_n hL (x := 6) dX1_remember_4 rfl ?_
  refine r_geti hL xcl1 2 (j' := 2) rfl (by decide) s_6 (by decide) fl_X1_21 (by decide) (by decide) dX1_remember_5 (fun hr5 => ?_)
  obtain ⟨z5, hz5⟩ : ∃ z, z = μ 6 2 := ⟨_, rfl⟩
  rw [← hz5] at hr5 ⊢
  have hb5 : 0 ≤ μ 6 2 ∧ μ 6 2 ≤ 15 := (show ((2 : Int) = 1 → 0 ≤ (μ 6 2) ∧ (μ 6 2) ≤ 16) ∧ ((2 : Int) = 2 → 0 ≤ (μ 6 2) ∧ (μ 6 2) ≤ 15) from hB 6 2).2 (by omega)
  obtain ⟨c, h_c, hcq, hce⟩ := f_7b (j := z5) (by omega) (by omega)
  have hcg : rgc (μ 6 2) = c := by unfold rgc; omega
  refine r_aald hL (t := 0) dX1_remember_8 (by decide) s_7 (by decide) (by decide) (by omega) (by omega) hcq ?_
  refine r_aload_n hL (x := 1) dX1_remember_9 rfl ?_
  refine r_callV hL (st := []) (av := [xR 1]) (k := c) (m_X5_become (μ := μ) hB c 1 h_c (by decide) (fun μ10c hB10c hG10 hE10 => ⟨rfl, ?_⟩)) ce_yX5_become im_yX5_become se_yX5_become ml_X1_25 xcl5 (Nat.lt_of_le_of_lt (Nat.le_add_right _ 4) (st_sh c h_c).2.2.2.2.2.1) (st_sh c h_c).1 dX1_remember_10 rfl (Nat.le_of_ble_eq_true rfl) ⟨Nat.le_of_ble_eq_true rfl, Nat.le_of_ble_eq_true rfl⟩ ⟨Nat.le_of_ble_eq_true rfl, Nat.le_of_ble_eq_true rfl⟩
  show X 0 0 WW μ10c 13 [some (xR 6), some (xR 1)] []
  have hF10c : Fr (RBf (μ 6 2)) μ μ10c := hF.trans (hG10.sub (fun k j h => by unfold SA at h; unfold RBf; omega))
  have hk10c_6_1 : μ10c 6 1 = μ 6 1 := hG10 6 1 (by unfold SA; omega)
  have hk10c_6_2 : μ10c 6 2 = μ 6 2 := hG10 6 2 (by unfold SA; omega)
  refine r_aload_n hL (x := 6) dX1_remember_13 rfl ?_
  refine r_aload_n hL (x := 6) dX1_remember_14 rfl ?_
  refine r_geti hL xcl1 2 (j' := 2) rfl (by decide) s_6 (by decide) fl_X1_21 (by decide) (by decide) dX1_remember_15 (fun hr15 => ?_)
  obtain ⟨z15, hz15⟩ : ∃ z, z = μ10c 6 2 := ⟨_, rfl⟩
  rw [← hz15] at hr15 ⊢
  have hb15 : 0 ≤ μ10c 6 2 ∧ μ10c 6 2 ≤ 15 := (show ((2 : Int) = 1 → 0 ≤ (μ10c 6 2) ∧ (μ10c 6 2) ≤ 16) ∧ ((2 : Int) = 2 → 0 ≤ (μ10c 6 2) ∧ (μ10c 6 2) ≤ 15) from hB10c 6 2).2 (by omega)
  refine r_iconst hL dX1_remember_18 ?_
  refine r_iadd hL dX1_remember_19 ?_
  refine r_bipush hL dX1_remember_20 (by decide) ?_
  refine r_irem hL dX1_remember_22 (by omega) (by omega) ?_
  obtain ⟨z22, hz22⟩ : ∃ z, z = xrem (z15 + 1) 16 := ⟨_, rfl⟩
  rw [← hz22]
  have hr22 : xrg z22 := by rw [hz22]; exact xrem_rg _ _
  have hq22 := xrem_nn (x := z15 + 1) (y := 16) (by omega) (by omega) (by omega) (by omega)
  rw [← hz22] at hq22
  refine r_puti hL xcl1 2 (j' := 2) rfl (by decide) s_6 (by decide) fl_X1_21 rfl rfl (by omega) dX1_remember_23 (fun μ1 hm1 => ?_)
  have hB1 : BI μ1 := by rw [hm1]; exact hB10c.up (by show ((2 : Int) = 1 → 0 ≤ z22 ∧ z22 ≤ 16) ∧ ((2 : Int) = 2 → 0 ≤ z22 ∧ z22 ≤ 15); omega)
  have hF1 : Fr (RBf (μ 6 2)) μ μ1 := by rw [hm1]; exact hF10c.up (by unfold RBf; omega)
  have hk1_6_1 : μ1 6 1 = μ10c 6 1 := by rw [hm1]; exact xup_j (by omega)
  have hk1_6_2 : μ1 6 2 = z22 := by rw [hm1]; exact xup_s _ _ _ _
  refine r_aload_n hL (x := 6) dX1_remember_26 rfl ?_
  refine r_aload_n hL (x := 6) dX1_remember_27 rfl ?_
  refine r_geti hL xcl1 1 (j' := 1) rfl (by decide) s_6 (by decide) fl_X1_17 (by decide) (by decide) dX1_remember_28 (fun hr28 => ?_)
  obtain ⟨z28, hz28⟩ : ∃ z, z = μ1 6 1 := ⟨_, rfl⟩
  rw [← hz28] at hr28 ⊢
  have hb28 : 0 ≤ μ1 6 1 ∧ μ1 6 1 ≤ 16 := (show ((1 : Int) = 1 → 0 ≤ (μ1 6 1) ∧ (μ1 6 1) ≤ 16) ∧ ((1 : Int) = 2 → 0 ≤ (μ1 6 1) ∧ (μ1 6 1) ≤ 15) from hB1 6 1).1 (by omega)
  refine r_iconst hL dX1_remember_31 ?_
  refine r_iadd hL dX1_remember_32 ?_
  refine r_bipush hL dX1_remember_33 (by decide) ?_
  refine r_min hL (by omega) (by omega) ml_X1_29 sm_Lib_Math_min_name it_java_lang_Math kd_Lib_Math_min_name dX1_remember_35 ⟨Nat.le_of_ble_eq_true rfl, Nat.le_of_ble_eq_true rfl⟩ ⟨Nat.le_of_ble_eq_true rfl, Nat.le_of_ble_eq_true rfl⟩ ?_
  obtain ⟨z35, hz35⟩ : ∃ z, z = min (z28 + 1) 16 := ⟨_, rfl⟩
  rw [← hz35]
  refine r_puti hL xcl1 1 (j' := 1) rfl (by decide) s_6 (by decide) fl_X1_17 rfl rfl (by omega) dX1_remember_38 (fun μ2 hm2 => ?_)
  have hB2 : BI μ2 := by rw [hm2]; exact hB1.up (by show ((1 : Int) = 1 → 0 ≤ z35 ∧ z35 ≤ 16) ∧ ((1 : Int) = 2 → 0 ≤ z35 ∧ z35 ≤ 15); omega)
  have hF2 : Fr (RBf (μ 6 2)) μ μ2 := by rw [hm2]; exact hF1.up (by unfold RBf; omega)
  have hk2_6_1 : μ2 6 1 = z35 := by rw [hm2]; exact xup_s _ _ _ _
  have hk2_6_2 : μ2 6 2 = μ1 6 2 := by rw [hm2]; exact xup_j (by omega)
  exact r_vret hL dX1_remember_41 rfl (hK _ hB2 ⟨hF2, by rw [hcg]; exact hE10.st (fun k j a0 a1 => by rw [hm2, congrFun (xup_c (by omega)) j, hm1, congrFun (xup_c (by omega)) j]), by omega, by omega⟩)

set_option maxHeartbeats 4000000 in
set_option maxRecDepth 20000 in
theorem m_X1_takeBack {K : Option xV → xW → xM → Prop} {μ : xM} (hB0 : BI μ) (n : Int) (hn : 1 ≤ n ∧ n ≤ μ 6 1) (hK : ∀ μ', BI μ' → cTb n μ μ' → K none WW μ') : xMet yX1_takeBack cX1_takeBack 3 none 2 47 0 0 [xR 6, xI n, xR 1] WW μ K := by
  refine xMet.go RX1 "takeBack" rfl rfl (by decide) [some (xR 6), some (xI n), some (xR 1)] (Nat.le_of_ble_eq_true rfl) rfl (fun X hL => ?_)
  have hB := hB0
  have hm61 : 0 ≤ μ 6 1 ∧ μ 6 1 ≤ 16 := (show ((1 : Int) = 1 → 0 ≤ (μ 6 1) ∧ (μ 6 1) ≤ 16) ∧ ((1 : Int) = 2 → 0 ≤ (μ 6 1) ∧ (μ 6 1) ≤ 15) from hB 6 1).1 (by omega)
  have hF : Fr TBf μ μ := Fr.rf
  refine r_iload_n hL (x := n) dX1_takeBack_0 rfl ?_
  refine r_iconst hL dX1_takeBack_1 ?_
  refine r_icmp_lt hL (tgt := 13) dX1_takeBack_2 (by decide) (by omega) (by omega) (fun c2 => ?_) (fun c2 => ?_)
  · skip
    exact absurd c2 (by omega)
  · skip
    refine r_iload_n hL (x := n) dX1_takeBack_5 rfl ?_
    refine r_aload_n hL (x := 6) dX1_takeBack_6 rfl ?_
    refine r_geti hL xcl1 1 (j' := 1) rfl (by decide) s_6 (by decide) fl_X1_17 (by decide) (by decide) dX1_takeBack_7 (fun hr7 => ?_)
    obtain ⟨z7, hz7⟩ : ∃ z, z = μ 6 1 := ⟨_, rfl⟩
    rw [← hz7] at hr7 ⊢
    have hb7 : 0 ≤ μ 6 1 ∧ μ 6 1 ≤ 16 := (show ((1 : Int) = 1 → 0 ≤ (μ 6 1) ∧ (μ 6 1) ≤ 16) ∧ ((1 : Int) = 2 → 0 ≤ (μ 6 1) ∧ (μ 6 1) ≤ 15) from hB 6 1).1 (by omega)
    refine r_icmp_le hL (tgt := 14) dX1_takeBack_10 (by decide) (by omega) (by omega) (fun c10 => ?_) (fun c10 => ?_)
    · skip
      refine r_aload_n hL (x := 6) dX1_takeBack_14 rfl ?_
      refine r_aload_n hL (x := 6) dX1_takeBack_15 rfl ?_
      refine r_geti hL xcl1 2 (j' := 2) rfl (by decide) s_6 (by decide) fl_X1_21 (by decide) (by decide) dX1_takeBack_16 (fun hr16 => ?_)
      obtain ⟨z16, hz16⟩ : ∃ z, z = μ 6 2 := ⟨_, rfl⟩
      rw [← hz16] at hr16 ⊢
      have hb16 : 0 ≤ μ 6 2 ∧ μ 6 2 ≤ 15 := (show ((2 : Int) = 1 → 0 ≤ (μ 6 2) ∧ (μ 6 2) ≤ 16) ∧ ((2 : Int) = 2 → 0 ≤ (μ 6 2) ∧ (μ 6 2) ≤ 15) from hB 6 2).2 (by omega)
      refine r_bipush hL dX1_takeBack_19 (by decide) ?_
      refine r_iadd hL dX1_takeBack_21 ?_
      refine r_iload_n hL (x := n) dX1_takeBack_22 rfl ?_
      refine r_isub hL dX1_takeBack_23 ?_
      refine r_bipush hL dX1_takeBack_24 (by decide) ?_
      refine r_irem hL dX1_takeBack_26 (by omega) (by omega) ?_
      obtain ⟨z26, hz26⟩ : ∃ z, z = xrem ((z16 + 16) - n) 16 := ⟨_, rfl⟩
      rw [← hz26]
      have hr26 : xrg z26 := by rw [hz26]; exact xrem_rg _ _
      have hq26 := xrem_nn (x := (z16 + 16) - n) (y := 16) (by omega) (by omega) (by omega) (by omega)
      rw [← hz26] at hq26
      refine r_puti hL xcl1 2 (j' := 2) rfl (by decide) s_6 (by decide) fl_X1_21 rfl rfl (by omega) dX1_takeBack_27 (fun μ1 hm1 => ?_)
      have hB1 : BI μ1 := by rw [hm1]; exact hB.up (by show ((2 : Int) = 1 → 0 ≤ z26 ∧ z26 ≤ 16) ∧ ((2 : Int) = 2 → 0 ≤ z26 ∧ z26 ≤ 15); omega)
      have hF1 : Fr TBf μ μ1 := by rw [hm1]; exact hF.up (by unfold TBf; omega)
      have hk1_6_1 : μ1 6 1 = μ 6 1 := by rw [hm1]; exact xup_j (by omega)
      have hk1_6_2 : μ1 6 2 = z26 := by rw [hm1]; exact xup_s _ _ _ _
      refine r_aload_n hL (x := 6) dX1_takeBack_30 rfl ?_
      refine r_dup hL dX1_takeBack_31 rfl ?_
      refine r_geti hL xcl1 1 (j' := 1) rfl (by decide) s_6 (by decide) fl_X1_17 (by decide) (by decide) dX1_takeBack_32 (fun hr32 => ?_)
      obtain ⟨z32, hz32⟩ : ∃ z, z = μ1 6 1 := ⟨_, rfl⟩
      rw [← hz32] at hr32 ⊢
      have hb32 : 0 ≤ μ1 6 1 ∧ μ1 6 1 ≤ 16 := (show ((1 : Int) = 1 → 0 ≤ (μ1 6 1) ∧ (μ1 6 1) ≤ 16) ∧ ((1 : Int) = 2 → 0 ≤ (μ1 6 1) ∧ (μ1 6 1) ≤ 15) from hB1 6 1).1 (by omega)
      refine r_iload_n hL (x := n) dX1_takeBack_35 rfl ?_
      refine r_isub hL dX1_takeBack_36 ?_
      refine r_puti hL xcl1 1 (j' := 1) rfl (by decide) s_6 (by decide) fl_X1_17 rfl rfl (by omega) dX1_takeBack_37 (fun μ2 hm2 => ?_)
      have hB2 : BI μ2 := by rw [hm2]; exact hB1.up (by show ((1 : Int) = 1 → 0 ≤ (z32 - n) ∧ (z32 - n) ≤ 16) ∧ ((1 : Int) = 2 → 0 ≤ (z32 - n) ∧ (z32 - n) ≤ 15); omega)
      have hF2 : Fr TBf μ μ2 := by rw [hm2]; exact hF1.up (by unfold TBf; omega)
      have hk2_6_1 : μ2 6 1 = z32 - n := by rw [hm2]; exact xup_s _ _ _ _
      have hk2_6_2 : μ2 6 2 = μ1 6 2 := by rw [hm2]; exact xup_j (by omega)
      refine r_aload_n hL (x := 1) dX1_takeBack_40 rfl ?_
      refine r_aload_n hL (x := 6) dX1_takeBack_41 rfl ?_
      refine r_getr hL xcl1 0 (by decide) s_6 (by decide) fl_X1_11 (by decide) f_6_0 dX1_takeBack_42 ?_
      refine r_aload_n hL (x := 6) dX1_takeBack_45 rfl ?_
      refine r_geti hL xcl1 2 (j' := 2) rfl (by decide) s_6 (by decide) fl_X1_21 (by decide) (by decide) dX1_takeBack_46 (fun hr46 => ?_)
      obtain ⟨z46, hz46⟩ : ∃ z, z = μ2 6 2 := ⟨_, rfl⟩
      rw [← hz46] at hr46 ⊢
      have hb46 : 0 ≤ μ2 6 2 ∧ μ2 6 2 ≤ 15 := (show ((2 : Int) = 1 → 0 ≤ (μ2 6 2) ∧ (μ2 6 2) ≤ 16) ∧ ((2 : Int) = 2 → 0 ≤ (μ2 6 2) ∧ (μ2 6 2) ≤ 15) from hB2 6 2).2 (by omega)
      obtain ⟨c, h_c, hcq, hce⟩ := f_7b (j := z46) (by omega) (by omega)
      have hcg : rgc (μ 6 2 - n) = c := by unfold rgc; omega
      refine r_aald hL (t := 0) dX1_takeBack_49 (by decide) s_7 (by decide) (by decide) (by omega) (by omega) hcq ?_
      refine r_callV hL (st := []) (av := [xR c]) (k := 1) (m_X5_become (μ := μ2) hB2 1 c (by decide) h_c (fun μ50c hB50c hG50 hE50 => ⟨rfl, ?_⟩)) ce_yX5_become im_yX5_become se_yX5_become ml_X1_25 xcl5 (by decide) s_1 dX1_takeBack_50 rfl (Nat.le_of_ble_eq_true rfl) ⟨Nat.le_of_ble_eq_true rfl, Nat.le_of_ble_eq_true rfl⟩ ⟨Nat.le_of_ble_eq_true rfl, Nat.le_of_ble_eq_true rfl⟩
      show X 0 0 WW μ50c 53 [some (xR 6), some (xI n), some (xR 1)] []
      have hF50c : Fr TBf μ μ50c := hF2.trans (hG50.sub (fun k j h => by unfold SA at h; unfold TBf; omega))
      have hk50c_6_1 : μ50c 6 1 = μ2 6 1 := hG50 6 1 (by unfold SA; omega)
      have hk50c_6_2 : μ50c 6 2 = μ2 6 2 := hG50 6 2 (by unfold SA; omega)
      exact r_vret hL dX1_takeBack_53 rfl (hK _ hB50c ⟨hF50c, by rw [hcg]; exact hE50.src (fun k j a0 a1 => by rw [hm2, congrFun (xup_c (by omega)) j, hm1, congrFun (xup_c (by omega)) j]), by omega, by omega⟩)
    · skip
      exact absurd (show n ≤ z7 by omega) c10

set_option maxHeartbeats 4000000 in
set_option maxRecDepth 20000 in
theorem m_X0_add {K : Option xV → xW → xM → Prop} {μ : xM} (hB0 : BI μ) (t : Int) (ht : 0 ≤ t ∧ t ≤ 7) (u : Int) (hu : 0 ≤ u ∧ u ≤ 7) (v : Int) (hv : xrg v) (h20 : μ 88 3 < 20) (hK : ∀ μ', BI μ' → μ' = xup (xup (xup (xup μ 89 (μ 88 3) t) 90 (μ 88 3) u) 91 (μ 88 3) v) 88 3 (μ 88 3 + 1) → K none WW μ') : xMet yX0_add cX0_add 4 none 0 0 0 0 [xR 88, xI t, xI u, xI v] WW μ K := by
  refine xMet.go RX0 "add" rfl rfl (by decide) [some (xR 88), some (xI t), some (xI u), some (xI v)] (Nat.le_of_ble_eq_true rfl) rfl (fun X hL => ?_)
  have hB := hB0
  refine r_aload_n hL (x := 88) dX0_add_0 rfl ?_
  refine r_geti hL xcl0 3 (j' := 3) rfl (by decide) s_88 (by decide) fl_X0_21 (by decide) (by decide) dX0_add_1 (fun hr1 => ?_)
  obtain ⟨z1, hz1⟩ : ∃ z, z = μ 88 3 := ⟨_, rfl⟩
  rw [← hz1] at hr1 ⊢
  have hb1 : 0 ≤ μ 88 3 ∧ μ 88 3 ≤ 20 := (show (3 : Int) = 3 → 0 ≤ (μ 88 3) ∧ (μ 88 3) ≤ 20 from hB 88 3) (by omega)
  refine r_bipush hL dX0_add_4 (by decide) ?_
  refine r_icmp_lt hL (tgt := 10) dX0_add_6 (by decide) (by omega) (by omega) (fun c6 => ?_) (fun c6 => ?_)
  · skip
    refine r_aload_n hL (x := 88) dX0_add_10 rfl ?_
    refine r_getr hL xcl0 0 (by decide) s_88 (by decide) fl_X0_9 (by decide) f_88_0 dX0_add_11 ?_
    refine r_aload_n hL (x := 88) dX0_add_14 rfl ?_
    refine r_geti hL xcl0 3 (j' := 3) rfl (by decide) s_88 (by decide) fl_X0_21 (by decide) (by decide) dX0_add_15 (fun hr15 => ?_)
    obtain ⟨z15, hz15⟩ : ∃ z, z = μ 88 3 := ⟨_, rfl⟩
    rw [← hz15] at hr15 ⊢
    have hb15 : 0 ≤ μ 88 3 ∧ μ 88 3 ≤ 20 := (show (3 : Int) = 3 → 0 ≤ (μ 88 3) ∧ (μ 88 3) ≤ 20 from hB 88 3) (by omega)
    refine r_iload_n hL (x := t) dX0_add_18 rfl ?_
    refine r_iast hL dX0_add_19 (by decide) s_89 (by decide) (by omega) (by omega) (by omega) (fun μ1 hm1 => ?_)
    have hB1 : BI μ1 := by rw [hm1]; exact hB.up (by show 0 ≤ t ∧ t ≤ 7; omega)
    have hk1_88_3 : μ1 88 3 = μ 88 3 := by rw [hm1]; exact congrFun (xup_c (by decide)) _
    refine r_aload_n hL (x := 88) dX0_add_20 rfl ?_
    refine r_getr hL xcl0 1 (by decide) s_88 (by decide) fl_X0_15 (by decide) f_88_1 dX0_add_21 ?_
    refine r_aload_n hL (x := 88) dX0_add_24 rfl ?_
    refine r_geti hL xcl0 3 (j' := 3) rfl (by decide) s_88 (by decide) fl_X0_21 (by decide) (by decide) dX0_add_25 (fun hr25 => ?_)
    obtain ⟨z25, hz25⟩ : ∃ z, z = μ1 88 3 := ⟨_, rfl⟩
    rw [← hz25] at hr25 ⊢
    have hb25 : 0 ≤ μ1 88 3 ∧ μ1 88 3 ≤ 20 := (show (3 : Int) = 3 → 0 ≤ (μ1 88 3) ∧ (μ1 88 3) ≤ 20 from hB1 88 3) (by omega)
    refine r_iload_n hL (x := u) dX0_add_28 rfl ?_
    refine r_iast hL dX0_add_29 (by decide) s_90 (by decide) (by omega) (by omega) (by omega) (fun μ2 hm2 => ?_)
    have hB2 : BI μ2 := by rw [hm2]; exact hB1.up (by show 0 ≤ u ∧ u ≤ 7; omega)
    have hk2_88_3 : μ2 88 3 = μ1 88 3 := by rw [hm2]; exact congrFun (xup_c (by decide)) _
    refine r_aload_n hL (x := 88) dX0_add_30 rfl ?_
    refine r_getr hL xcl0 2 (by decide) s_88 (by decide) fl_X0_18 (by decide) f_88_2 dX0_add_31 ?_
    refine r_aload_n hL (x := 88) dX0_add_34 rfl ?_
    refine r_geti hL xcl0 3 (j' := 3) rfl (by decide) s_88 (by decide) fl_X0_21 (by decide) (by decide) dX0_add_35 (fun hr35 => ?_)
    obtain ⟨z35, hz35⟩ : ∃ z, z = μ2 88 3 := ⟨_, rfl⟩
    rw [← hz35] at hr35 ⊢
    have hb35 : 0 ≤ μ2 88 3 ∧ μ2 88 3 ≤ 20 := (show (3 : Int) = 3 → 0 ≤ (μ2 88 3) ∧ (μ2 88 3) ≤ 20 from hB2 88 3) (by omega)
    refine r_iload_n hL (x := v) dX0_add_38 rfl ?_
    refine r_iast hL dX0_add_39 (by decide) s_91 (by decide) (by omega) (by omega) (by omega) (fun μ3 hm3 => ?_)
    have hB3 : BI μ3 := by rw [hm3]; exact hB2.up trivial
    have hk3_88_3 : μ3 88 3 = μ2 88 3 := by rw [hm3]; exact congrFun (xup_c (by decide)) _
    refine r_aload_n hL (x := 88) dX0_add_40 rfl ?_
    refine r_dup hL dX0_add_41 rfl ?_
    refine r_geti hL xcl0 3 (j' := 3) rfl (by decide) s_88 (by decide) fl_X0_21 (by decide) (by decide) dX0_add_42 (fun hr42 => ?_)
    obtain ⟨z42, hz42⟩ : ∃ z, z = μ3 88 3 := ⟨_, rfl⟩
    rw [← hz42] at hr42 ⊢
    have hb42 : 0 ≤ μ3 88 3 ∧ μ3 88 3 ≤ 20 := (show (3 : Int) = 3 → 0 ≤ (μ3 88 3) ∧ (μ3 88 3) ≤ 20 from hB3 88 3) (by omega)
    refine r_iconst hL dX0_add_45 ?_
    refine r_iadd hL dX0_add_46 ?_
    refine r_puti hL xcl0 3 (j' := 3) rfl (by decide) s_88 (by decide) fl_X0_21 rfl rfl (by omega) dX0_add_47 (fun μ4 hm4 => ?_)
    have hB4 : BI μ4 := by rw [hm4]; exact hB3.up (by show (3 : Int) = 3 → 0 ≤ (z42 + 1) ∧ (z42 + 1) ≤ 20; omega)
    have hk4_88_3 : μ4 88 3 = z42 + 1 := by rw [hm4]; exact xup_s _ _ _ _
    exact r_vret hL dX0_add_50 rfl (hK _ hB4 (by rw [hm4, hm3, hm2, hm1, show z42 = μ 88 3 by omega, show z35 = μ 88 3 by omega, show z25 = μ 88 3 by omega, show z15 = μ 88 3 by omega]))
  · skip
    exact absurd (show z1 < 20 by omega) c6

set_option maxHeartbeats 4000000 in
set_option maxRecDepth 20000 in
theorem m_X7_beginDeed {K : Option xV → xW → xM → Prop} {μ : xM} (hB0 : BI μ)  (hK : ∀ μ', BI μ' → cRm μ μ' → K none WW μ') : xMet yX7_beginDeed cX7_beginDeed 1 none 3 68 0 0 [xR 0] WW μ K := by
  refine xMet.go RX7 "beginDeed" rfl rfl (by decide) [some (xR 0)] (Nat.le_of_ble_eq_true rfl) rfl (fun X hL => ?_)
  have hB := hB0
  have hF : Fr (RBf (μ 6 2)) μ μ := Fr.rf
  refine r_aload_n hL (x := 0) dX7_beginDeed_0 rfl ?_
  refine r_getr hL xcl7 1 (by decide) s_0 (by decide) fl_X7_19 (by decide) f_0_1 dX7_beginDeed_1 ?_
  refine r_aload_n hL (x := 0) dX7_beginDeed_4 rfl ?_
  refine r_getr hL xcl7 0 (by decide) s_0 (by decide) fl_X7_10 (by decide) f_0_0 dX7_beginDeed_5 ?_
  refine r_callV hL (st := []) (av := [xR 1]) (k := 6) (m_X1_remember (μ := μ) hB (fun μ8c hB8c hR8 => ⟨rfl, ?_⟩)) ce_yX1_remember im_yX1_remember se_yX1_remember ml_X7_230 xcl1 (by decide) s_6 dX7_beginDeed_8 rfl (Nat.le_of_ble_eq_true rfl) ⟨Nat.le_of_ble_eq_true rfl, Nat.le_of_ble_eq_true rfl⟩ ⟨Nat.le_of_ble_eq_true rfl, Nat.le_of_ble_eq_true rfl⟩
  show X 0 0 WW μ8c 11 [some (xR 0)] []
  have hG8 := hR8.1
  have hrg8 := rgc_bd (μ 6 2)
  have hF8c : Fr (RBf (μ 6 2)) μ μ8c := hF.trans (hG8.sub (fun k j h => by unfold RBf at h; unfold RBf; omega))
  refine r_aload_n hL (x := 0) dX7_beginDeed_11 rfl ?_
  refine r_iconst hL dX7_beginDeed_12 ?_
  refine r_putz hL xcl7 9 (j' := 9) rfl (by decide) s_0 (by decide) fl_X7_65 rfl rfl (by omega) dX7_beginDeed_13 (fun μ1 hm1 => ?_)
  have hB1 : BI μ1 := by rw [hm1]; exact hB8c.up (by show (9 : Int) = 7 → 0 ≤ 0 ∧ 0 ≤ 47244640255; omega)
  have hF1 : Fr (RBf (μ 6 2)) μ μ1 := by rw [hm1]; exact hF8c.up (by unfold RBf; omega)
  exact r_vret hL dX7_beginDeed_16 rfl (hK _ hB1 ⟨hF1, hR8.2.1.st (fun k j a0 a1 => by rw [hm1]; exact congrFun (xup_c (by omega)) j), by rw [hm1, congrFun (xup_c (by decide)) _]; exact hR8.2.2.1, by rw [hm1, congrFun (xup_c (by decide)) _]; exact hR8.2.2.2⟩)

set_option maxHeartbeats 4000000 in
set_option maxRecDepth 20000 in
theorem m_X7_draw {K : Option xV → xW → xM → Prop} {μ : xM} (hB0 : BI μ) (n : Int) (hn : 1 ≤ n ∧ n ≤ 1000) (hK : ∀ r μ', BI μ' → μ' = xup μ 0 8 (sd (μ 0 8)) → r = sd (μ 0 8) / 65536 % n → 0 ≤ r ∧ r < n → K (some (xI r)) WW μ') : xMet yX7_draw cX7_draw 4 (some .int) 0 0 0 0 [xR 0, xI n] WW μ K := by
  refine xMet.go RX7 "draw" rfl rfl (by decide) [some (xR 0), some (xI n), none, none] (Nat.le_of_ble_eq_true rfl) rfl (fun X hL => ?_)
  have hB := hB0
  refine r_aload_n hL (x := 0) dX7_draw_0 rfl ?_
  refine r_geti hL xcl7 8 (j' := 8) rfl (by decide) s_0 (by decide) fl_X7_61 (by decide) (by decide) dX7_draw_1 (fun hr1 => ?_)
  obtain ⟨z1, hz1⟩ : ∃ z, z = μ 0 8 := ⟨_, rfl⟩
  rw [← hz1] at hr1 ⊢
  refine r_i2l hL dX7_draw_4 (by omega) ?_
  refine r_ldc2 hL (n := 1103515245) dX7_draw_5 kl_X7_244 (by decide) ?_
  refine r_lmul hL dX7_draw_8 ?_
  refine r_ldc2 hL (n := 12345) dX7_draw_9 kl_X7_246 (by decide) ?_
  refine r_ladd hL dX7_draw_12 ?_
  refine r_lstore_n hL (lo' := [some (xR 0), some (xI n), some (xL ((z1 * 1103515245) + 12345)), none]) dX7_draw_13 (by decide) rfl ?_
  refine r_aload_n hL (x := 0) dX7_draw_14 rfl ?_
  refine r_lload_n hL (x := (z1 * 1103515245) + 12345) dX7_draw_15 rfl ?_
  refine r_ldc2 hL (n := 2147483647) dX7_draw_16 kl_X7_248 (by decide) ?_
  refine r_land hL dX7_draw_19 ?_
  obtain ⟨z19, hz19⟩ : ∃ z, z = xland ((z1 * 1103515245) + 12345) 2147483647 := ⟨_, rfl⟩
  rw [← hz19]
  have hr19 : xrl z19 := by rw [hz19]; exact xland_rg _ _
  have hl19 : 0 ≤ z19 ∧ z19 ≤ 2147483647 := by rw [hz19]; exact xland_31 _
  have hl19e : z19 = sd (μ 0 8) := by rw [hz19, xland_31e (by omega), hz1]; rfl
  refine r_l2i hL dX7_draw_20 ?_
  refine r_puti hL xcl7 8 (j' := 8) rfl (by decide) s_0 (by decide) fl_X7_61 rfl rfl (by omega) dX7_draw_21 (fun μ1 hm1 => ?_)
  have hB1 : BI μ1 := by rw [hm1]; exact hB.up (by show (8 : Int) = 7 → 0 ≤ z19 ∧ z19 ≤ 47244640255; omega)
  have hk1_0_8 : μ1 0 8 = z19 := by rw [hm1]; exact xup_s _ _ _ _
  refine r_iload_n hL (x := n) dX7_draw_24 rfl ?_
  refine r_if_le hL (tgt := 40) dX7_draw_25 (by decide) (by omega) (fun c25 => ?_) (fun c25 => ?_)
  · skip
    exact absurd c25 (by omega)
  · skip
    refine r_aload_n hL (x := 0) dX7_draw_28 rfl ?_
    refine r_geti hL xcl7 8 (j' := 8) rfl (by decide) s_0 (by decide) fl_X7_61 (by decide) (by decide) dX7_draw_29 (fun hr29 => ?_)
    obtain ⟨z29, hz29⟩ : ∃ z, z = μ1 0 8 := ⟨_, rfl⟩
    rw [← hz29] at hr29 ⊢
    refine r_ldc hL (n := 65536) dX7_draw_32 kc_X7_250 (by decide) ?_
    refine r_idiv hL dX7_draw_34 (by omega) (by omega) ?_
    obtain ⟨z34, hz34⟩ : ∃ z, z = xdiv z29 65536 := ⟨_, rfl⟩
    rw [← hz34]
    have hr34 : xrg z34 := by rw [hz34]; exact xdiv_rg _ _
    have hq34 := xdiv_nn (x := z29) (y := 65536) (by omega) (by omega) (by omega) (by omega)
    rw [← hz34] at hq34
    refine r_iload_n hL (x := n) dX7_draw_35 rfl ?_
    refine r_irem hL dX7_draw_36 (by omega) (by omega) ?_
    obtain ⟨z36, hz36⟩ : ∃ z, z = xrem z34 n := ⟨_, rfl⟩
    rw [← hz36]
    have hr36 : xrg z36 := by rw [hz36]; exact xrem_rg _ _
    have hq36 := xrem_nn (x := z34) (y := n) (by omega) (by omega) (by omega) (by omega)
    rw [← hz36] at hq36
    have he1 := Int.emod_nonneg z34 (show n ≠ 0 by omega)
    have he2 := Int.emod_lt_of_pos z34 (show 0 < n by omega)
    refine r_goto hL (tgt := 41) dX7_draw_37 (by decide) ?_
    exact r_iret hL dX7_draw_41 rfl (hK _ _ hB1 (by rw [hm1, hl19e]) (by rw [hq36, hq34, show z29 = sd (μ 0 8) by omega]) (by omega))

set_option maxHeartbeats 4000000 in
set_option maxRecDepth 20000 in
theorem m_X7_addDrawn {K : Option xV → xW → xM → Prop} {μ : xM} (hB0 : BI μ) (h7 : μ 1 4 ≤ 7) (hK : ∀ μ', BI μ' → cDw μ μ' → K none WW μ') : xMet yX7_addDrawn cX7_addDrawn 5 none 2 43 0 0 [xR 0] WW μ K := by
  refine xMet.go RX7 "addDrawn" rfl rfl (by decide) [some (xR 0), none, none, none, none] (Nat.le_of_ble_eq_true rfl) rfl (fun X hL => ?_)
  have hB := hB0
  have hF : Fr ADs μ μ := Fr.rf
  refine r_aload_n hL (x := 0) dX7_addDrawn_0 rfl ?_
  refine r_bipush hL dX7_addDrawn_1 (by decide) ?_
  refine r_callV hL (st := []) (av := [xI 7]) (k := 0) (m_X7_draw (μ := μ) hB 7 (by omega) (fun z3 μ3c hB3c hm3c hd3 hc3 => ⟨rfl, ?_⟩)) ce_yX7_draw im_yX7_draw se_yX7_draw ml_X7_241 xcl7 (by decide) s_0 dX7_addDrawn_3 rfl (Nat.le_of_ble_eq_true rfl) ⟨Nat.le_of_ble_eq_true rfl, Nat.le_of_ble_eq_true rfl⟩ ⟨Nat.le_of_ble_eq_true rfl, Nat.le_of_ble_eq_true rfl⟩
  show X 0 0 WW μ3c 6 [some (xR 0), none, none, none, none] [xI z3]
  have hF3c : Fr ADs μ μ3c := by rw [hm3c]; exact hF.up (by unfold ADs AD; omega)
  have hk3c_1_4 : μ3c 1 4 = μ 1 4 := by rw [hm3c]; exact congrFun (xup_c (by decide)) _
  have hk3c_0_8 : μ3c 0 8 = sd (μ 0 8) := by rw [hm3c]; exact xup_s _ _ _ _
  have hdL : z3 + 2 = dL (μ 0 8) := by rw [hd3]; rfl
  refine r_iconst hL dX7_addDrawn_6 ?_
  refine r_iadd hL dX7_addDrawn_7 ?_
  refine r_istore_n hL (lo' := [some (xR 0), some (xI (z3 + 2)), none, none, none]) dX7_addDrawn_8 (by decide) rfl ?_
  refine r_lconst hL (n := 0) dX7_addDrawn_9 rfl ?_
  refine r_lstore_n hL (lo' := [some (xR 0), some (xI (z3 + 2)), some (xL 0), none, none]) dX7_addDrawn_10 (by decide) rfl ?_
  refine r_iconst hL dX7_addDrawn_11 ?_
  refine r_istore hL (lo' := [some (xR 0), some (xI (z3 + 2)), some (xL 0), none, some (xI 0)]) dX7_addDrawn_12 (by decide) rfl ?_
  have lp14 : ∀ (n14 : Nat) (c : Int) (i : Int) (μ114 : xM), (BI μ114) → (Fr ADs μ μ114) → (c = chv i (dM (μ 0 8)) ∧ 0 ≤ c ∧ c ≤ 47244640255 ∧ c / 4294967296 = i) → (0 ≤ i ∧ i ≤ z3 + 2) → (μ114 0 8 = sdn (μ 0 8) (i.toNat + 1)) → (∀ k j, ¬ (k = 0 ∧ j = 8) → μ114 k j = μ k j) → ((8 - i).toNat) < n14 → X 0 0 WW μ114 14 [some (xR 0), some (xI (z3 + 2)), some (xL c), none, some (xI i)] [] := by
    intro n14
    induction n14 with
    | zero => intro c i μ114 hB114 hF114 h1 h2 h3 h4 hn; exact absurd hn (Nat.not_lt_zero _)
    | succ n14 ih14 =>
      intro c i μ114 hB114 hF114 h1 h2 h3 h4 hn14
      refine r_iload hL (x := i) dX7_addDrawn_14 rfl ?_
      refine r_iload_n hL (x := z3 + 2) dX7_addDrawn_16 rfl ?_
      refine r_icmp_ge hL (tgt := 36) dX7_addDrawn_17 (by decide) (by omega) (by omega) (fun c17 => ?_) (fun c17 => ?_)
      · skip
        refine r_aload_n hL (x := 0) dX7_addDrawn_36 rfl ?_
        refine r_getr hL xcl7 0 (by decide) s_0 (by decide) fl_X7_10 (by decide) f_0_0 dX7_addDrawn_37 ?_
        refine r_lload_n hL (x := c) dX7_addDrawn_40 rfl ?_
        refine r_aload_n hL (x := 0) dX7_addDrawn_41 rfl ?_
        refine r_sipush hL dX7_addDrawn_42 (by decide) ?_
        refine r_callV hL (st := [xL c, xR 1]) (av := [xI 256]) (k := 0) (m_X7_draw (μ := μ114) hB114 256 (by omega) (fun z45 μ45c hB45c hm45c hd45 hc45 => ⟨rfl, ?_⟩)) ce_yX7_draw im_yX7_draw se_yX7_draw ml_X7_241 xcl7 (by decide) s_0 dX7_addDrawn_45 rfl (Nat.le_of_ble_eq_true rfl) ⟨Nat.le_of_ble_eq_true rfl, Nat.le_of_ble_eq_true rfl⟩ ⟨Nat.le_of_ble_eq_true rfl, Nat.le_of_ble_eq_true rfl⟩
        show X 0 0 WW μ45c 48 [some (xR 0), some (xI (z3 + 2)), some (xL c), none, some (xI i)] [xI z45, xL c, xR 1]
        have hF45c : Fr ADs μ μ45c := by rw [hm45c]; exact hF114.up (by unfold ADs AD; omega)
        have hk45c_1_4 : μ45c 1 4 = μ114 1 4 := by rw [hm45c]; exact congrFun (xup_c (by decide)) _
        have hk45c_0_8 : μ45c 0 8 = sd (μ114 0 8) := by rw [hm45c]; exact xup_s _ _ _ _
        have h14 : μ114 1 4 = μ 1 4 := h4 1 4 (by omega)
        have hdP : z45 = dP (μ 0 8) := by rw [hd45, h3]; unfold dP drw; rw [← hdL, show i = z3 + 2 by omega]; rfl
        have hdS : μ45c 0 8 = dS (μ 0 8) := by rw [hk45c_0_8, h3]; unfold dS; rw [← hdL, show i = z3 + 2 by omega]; rfl
        refine r_callV hL (st := []) (av := [xL c, xI z45]) (k := 1) (m_X5_add (μ := μ45c) hB45c c (by omega) z45 (by omega) (by omega) (fun μ48c hB48c hA48 => ⟨rfl, ?_⟩)) ce_yX5_add im_yX5_add se_yX5_add ml_X7_87 xcl5 (by decide) s_1 dX7_addDrawn_48 rfl (Nat.le_of_ble_eq_true rfl) ⟨Nat.le_of_ble_eq_true rfl, Nat.le_of_ble_eq_true rfl⟩ ⟨Nat.le_of_ble_eq_true rfl, Nat.le_of_ble_eq_true rfl⟩
        show X 0 0 WW μ48c 51 [some (xR 0), some (xI (z3 + 2)), some (xL c), none, some (xI i)] []
        have hF48c : Fr ADs μ μ48c := hF45c.trans (hA48.1.sub (fun k j h => by unfold AD at h; unfold ADs AD; omega))
        have hG48 := hA48.1
        exact r_vret hL dX7_addDrawn_51 rfl (hK _ hB48c ⟨hF48c, by rw [hG48 0 8 (by unfold AD; omega)]; exact hdS, by rw [hA48.2.1]; omega, fun j => ⟨by rw [(hA48.2.2 j).1, show μ45c 1 4 = μ 1 4 by omega, h1.1, show i = dL (μ 0 8) by omega, hm45c, congrFun (xup_c (by decide)) j, h4 2 j (by omega)], by rw [(hA48.2.2 j).2, show μ45c 1 4 = μ 1 4 by omega, hdP, hm45c, congrFun (xup_c (by decide)) j, h4 3 j (by omega)]⟩⟩)
      · skip
        refine r_lload_n hL (x := c) dX7_addDrawn_20 rfl ?_
        refine r_aload_n hL (x := 0) dX7_addDrawn_21 rfl ?_
        refine r_iconst hL dX7_addDrawn_22 ?_
        refine r_callV hL (st := [xL c]) (av := [xI 5]) (k := 0) (m_X7_draw (μ := μ114) hB114 5 (by omega) (fun z23 μ23c hB23c hm23c hd23 hc23 => ⟨rfl, ?_⟩)) ce_yX7_draw im_yX7_draw se_yX7_draw ml_X7_241 xcl7 (by decide) s_0 dX7_addDrawn_23 rfl (Nat.le_of_ble_eq_true rfl) ⟨Nat.le_of_ble_eq_true rfl, Nat.le_of_ble_eq_true rfl⟩ ⟨Nat.le_of_ble_eq_true rfl, Nat.le_of_ble_eq_true rfl⟩
        show X 0 0 WW μ23c 26 [some (xR 0), some (xI (z3 + 2)), some (xL c), none, some (xI i)] [xI z23, xL c]
        have hF23c : Fr ADs μ μ23c := by rw [hm23c]; exact hF114.up (by unfold ADs AD; omega)
        have hk23c_1_4 : μ23c 1 4 = μ114 1 4 := by rw [hm23c]; exact congrFun (xup_c (by decide)) _
        have hk23c_0_8 : μ23c 0 8 = sd (μ114 0 8) := by rw [hm23c]; exact xup_s _ _ _ _
        have hdM : z23 = dM (μ 0 8) i := by rw [hd23, h3]; rfl
        refine r_callS hL (st := []) (av := [xL c, xI z23]) (m_X7_longer (μ := μ23c) c z23 (by omega) (by omega) (by omega) (by omega) (fun z26 hl26 hc26 => ⟨rfl, ?_⟩)) ce_yX7_longer sm_yX7_longer ml_X7_76 dX7_addDrawn_26 rfl (Nat.le_of_ble_eq_true rfl) ⟨Nat.le_of_ble_eq_true rfl, Nat.le_of_ble_eq_true rfl⟩ ⟨Nat.le_of_ble_eq_true rfl, Nat.le_of_ble_eq_true rfl⟩
        show X 0 0 WW μ23c 29 [some (xR 0), some (xI (z3 + 2)), some (xL c), none, some (xI i)] [xL z26]
        refine r_lstore_n hL (lo' := [some (xR 0), some (xI (z3 + 2)), some (xL z26), none, some (xI i)]) dX7_addDrawn_29 (by decide) rfl ?_
        refine r_iinc hL (x := i) (lo' := [some (xR 0), some (xI (z3 + 2)), some (xL z26), none, some (xI (i + 1))]) dX7_addDrawn_30 (by decide) rfl rfl ?_
        refine r_goto hL (tgt := 14) dX7_addDrawn_33 (by decide) ?_
        exact ih14 z26 (i + 1) μ23c hB23c hF23c ⟨by rw [hl26, h1.1, hdM]; exact dM_step (by omega) (by omega), by omega, by omega, by omega⟩ (by omega) (by rw [hk23c_0_8, h3, show (i + 1).toNat = i.toNat + 1 by omega]; rfl) (fun k j hh => by rw [hm23c]; simp only [xup, if_neg hh]; exact h4 k j hh) (by omega)
  exact lp14 _ 0 0 μ3c hB3c hF3c ⟨rfl, by omega, by omega, by omega⟩ (by omega) hk3c_0_8 (fun k j hh => by rw [hm3c]; simp only [xup, if_neg hh]) (Nat.lt_succ_self _)
