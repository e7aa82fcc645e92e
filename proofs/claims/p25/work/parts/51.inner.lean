set_option maxHeartbeats 4000000 in
set_option maxRecDepth 20000 in
theorem m_X5_become {K : Option xV → xW → xM → Prop} {μ : xM} (hB0 : BI μ) (a b : Nat) (h_a : a ∈ xsts) (h_b : b ∈ xsts) (hK : ∀ μ', BI μ' → K none WW μ') : xMet yX5_become cX5_become 2 none 1 26 0 0 [xR a, xR b] WW μ K := by
  refine xMet.go RX5 "become" rfl rfl (by decide) [some (xR a), some (xR b)] (Nat.le_of_ble_eq_true rfl) rfl (fun X hL => ?_)
  have hB := hB0
  refine r_aload_n hL (x := b) dX5_become_0 rfl ?_
  refine r_getr hL xcl5 0 (Nat.lt_of_le_of_lt (Nat.le_add_right _ 4) (st_sh b h_b).2.2.2.2.2.1) (st_sh b h_b).1 (by decide) fl_X5_9 (by decide) (st_sh b h_b).2.2.2.2.2.2.1 dX5_become_1 ?_
  refine r_iconst hL dX5_become_4 ?_
  refine r_aload_n hL (x := a) dX5_become_5 rfl ?_
  refine r_getr hL xcl5 0 (Nat.lt_of_le_of_lt (Nat.le_add_right _ 4) (st_sh a h_a).2.2.2.2.2.1) (st_sh a h_a).1 (by decide) fl_X5_9 (by decide) (st_sh a h_a).2.2.2.2.2.2.1 dX5_become_6 ?_
  refine r_iconst hL dX5_become_9 ?_
  refine r_bipush hL dX5_become_10 (by decide) ?_
  refine r_copyl hL (Nat.lt_of_le_of_lt (Nat.add_le_add_left (by decide) _) (st_sh b h_b).2.2.2.2.2.1) (Nat.lt_of_le_of_lt (Nat.add_le_add_left (by decide) _) (st_sh a h_a).2.2.2.2.2.1) (st_sh b h_b).2.1 (st_sh a h_a).2.1 (by decide) (by decide) (by decide) (by decide) ml_X5_32 nm_arraycopyName sm_arraycopyName it_java_lang_System dX5_become_12 ⟨Nat.le_of_ble_eq_true rfl, Nat.le_of_ble_eq_true rfl⟩ (fun μ1 hm1 => ?_)
  have hB1 : BI μ1 := by rw [hm1]; exact hB.cp (by rw [(st_bk a h_a).2.1, (st_bk b h_b).2.1])
  refine r_aload_n hL (x := b) dX5_become_15 rfl ?_
  refine r_getr hL xcl5 1 (Nat.lt_of_le_of_lt (Nat.le_add_right _ 4) (st_sh b h_b).2.2.2.2.2.1) (st_sh b h_b).1 (by decide) fl_X5_15 (by decide) (st_sh b h_b).2.2.2.2.2.2.2.1 dX5_become_16 ?_
  refine r_iconst hL dX5_become_19 ?_
  refine r_aload_n hL (x := a) dX5_become_20 rfl ?_
  refine r_getr hL xcl5 1 (Nat.lt_of_le_of_lt (Nat.le_add_right _ 4) (st_sh a h_a).2.2.2.2.2.1) (st_sh a h_a).1 (by decide) fl_X5_15 (by decide) (st_sh a h_a).2.2.2.2.2.2.2.1 dX5_become_21 ?_
  refine r_iconst hL dX5_become_24 ?_
  refine r_bipush hL dX5_become_25 (by decide) ?_
  refine r_copyi hL (Nat.lt_of_le_of_lt (Nat.add_le_add_left (by decide) _) (st_sh b h_b).2.2.2.2.2.1) (Nat.lt_of_le_of_lt (Nat.add_le_add_left (by decide) _) (st_sh a h_a).2.2.2.2.2.1) (st_sh b h_b).2.2.1 (st_sh a h_a).2.2.1 (by decide) (by decide) (by decide) (by decide) ml_X5_32 nm_arraycopyName sm_arraycopyName it_java_lang_System dX5_become_27 ⟨Nat.le_of_ble_eq_true rfl, Nat.le_of_ble_eq_true rfl⟩ (fun μ2 hm2 => ?_)
  have hB2 : BI μ2 := by rw [hm2]; exact hB1.cp (by rw [(st_bk a h_a).2.2.1, (st_bk b h_b).2.2.1])
  refine r_aload_n hL (x := b) dX5_become_30 rfl ?_
  refine r_getr hL xcl5 2 (Nat.lt_of_le_of_lt (Nat.le_add_right _ 4) (st_sh b h_b).2.2.2.2.2.1) (st_sh b h_b).1 (by decide) fl_X5_19 (by decide) (st_sh b h_b).2.2.2.2.2.2.2.2.1 dX5_become_31 ?_
  refine r_iconst hL dX5_become_34 ?_
  refine r_aload_n hL (x := a) dX5_become_35 rfl ?_
  refine r_getr hL xcl5 2 (Nat.lt_of_le_of_lt (Nat.le_add_right _ 4) (st_sh a h_a).2.2.2.2.2.1) (st_sh a h_a).1 (by decide) fl_X5_19 (by decide) (st_sh a h_a).2.2.2.2.2.2.2.2.1 dX5_become_36 ?_
  refine r_iconst hL dX5_become_39 ?_
  refine r_iconst hL dX5_become_40 ?_
  refine r_copyi hL (Nat.lt_of_le_of_lt (Nat.add_le_add_left (by decide) _) (st_sh b h_b).2.2.2.2.2.1) (Nat.lt_of_le_of_lt (Nat.add_le_add_left (by decide) _) (st_sh a h_a).2.2.2.2.2.1) (st_sh b h_b).2.2.2.1 (st_sh a h_a).2.2.2.1 (by decide) (by decide) (by decide) (by decide) ml_X5_32 nm_arraycopyName sm_arraycopyName it_java_lang_System dX5_become_41 ⟨Nat.le_of_ble_eq_true rfl, Nat.le_of_ble_eq_true rfl⟩ (fun μ3 hm3 => ?_)
  have hB3 : BI μ3 := by rw [hm3]; exact hB2.cp (by rw [(st_bk a h_a).2.2.2.1, (st_bk b h_b).2.2.2.1])
  refine r_aload_n hL (x := b) dX5_become_44 rfl ?_
  refine r_getr hL xcl5 3 (Nat.lt_of_le_of_lt (Nat.le_add_right _ 4) (st_sh b h_b).2.2.2.2.2.1) (st_sh b h_b).1 (by decide) fl_X5_22 (by decide) (st_sh b h_b).2.2.2.2.2.2.2.2.2 dX5_become_45 ?_
  refine r_iconst hL dX5_become_48 ?_
  refine r_aload_n hL (x := a) dX5_become_49 rfl ?_
  refine r_getr hL xcl5 3 (Nat.lt_of_le_of_lt (Nat.le_add_right _ 4) (st_sh a h_a).2.2.2.2.2.1) (st_sh a h_a).1 (by decide) fl_X5_22 (by decide) (st_sh a h_a).2.2.2.2.2.2.2.2.2 dX5_become_50 ?_
  refine r_iconst hL dX5_become_53 ?_
  refine r_bipush hL dX5_become_54 (by decide) ?_
  refine r_copyi hL (st_sh b h_b).2.2.2.2.2.1 (st_sh a h_a).2.2.2.2.2.1 (st_sh b h_b).2.2.2.2.1 (st_sh a h_a).2.2.2.2.1 (by decide) (by decide) (by decide) (by decide) ml_X5_32 nm_arraycopyName sm_arraycopyName it_java_lang_System dX5_become_56 ⟨Nat.le_of_ble_eq_true rfl, Nat.le_of_ble_eq_true rfl⟩ (fun μ4 hm4 => ?_)
  have hB4 : BI μ4 := by rw [hm4]; exact hB3.cp (by rw [(st_bk a h_a).2.2.2.2, (st_bk b h_b).2.2.2.2])
  refine r_aload_n hL (x := a) dX5_become_59 rfl ?_
  refine r_aload_n hL (x := b) dX5_become_60 rfl ?_
  refine r_geti hL xcl5 4 (j' := 4) rfl (Nat.lt_of_le_of_lt (Nat.le_add_right _ 4) (st_sh b h_b).2.2.2.2.2.1) (st_sh b h_b).1 (by decide) fl_X5_25 (by decide) (by decide) dX5_become_61 (fun hr61 => ?_)
  obtain ⟨z61, hz61⟩ : ∃ z, z = μ4 b 4 := ⟨_, rfl⟩
  rw [← hz61] at hr61 ⊢
  have hb61 : ((4 : Int) = 4 → 0 ≤ (μ4 b 4) ∧ (μ4 b 4) ≤ 8) ∧ ((4 : Int) = 5 → 0 ≤ (μ4 b 4) ∧ (μ4 b 4) ≤ 2) := by have hq := hB4 b 4; rw [(st_bk b h_b).1] at hq; exact hq
  refine r_puti hL xcl5 4 (j' := 4) rfl (Nat.lt_of_le_of_lt (Nat.le_add_right _ 4) (st_sh a h_a).2.2.2.2.2.1) (st_sh a h_a).1 (by decide) fl_X5_25 rfl rfl (by omega) dX5_become_64 (fun μ5 hm5 => ?_)
  have hB5 : BI μ5 := by rw [hm5]; exact hB4.up (by rw [(st_bk a h_a).1]; show ((4 : Int) = 4 → 0 ≤ z61 ∧ z61 ≤ 8) ∧ ((4 : Int) = 5 → 0 ≤ z61 ∧ z61 ≤ 2); omega)
  refine r_aload_n hL (x := a) dX5_become_67 rfl ?_
  refine r_aload_n hL (x := b) dX5_become_68 rfl ?_
  refine r_geti hL xcl5 5 (j' := 5) rfl (Nat.lt_of_le_of_lt (Nat.le_add_right _ 4) (st_sh b h_b).2.2.2.2.2.1) (st_sh b h_b).1 (by decide) fl_X5_29 (by decide) (by decide) dX5_become_69 (fun hr69 => ?_)
  obtain ⟨z69, hz69⟩ : ∃ z, z = μ5 b 5 := ⟨_, rfl⟩
  rw [← hz69] at hr69 ⊢
  have hb69 : ((5 : Int) = 4 → 0 ≤ (μ5 b 5) ∧ (μ5 b 5) ≤ 8) ∧ ((5 : Int) = 5 → 0 ≤ (μ5 b 5) ∧ (μ5 b 5) ≤ 2) := by have hq := hB5 b 5; rw [(st_bk b h_b).1] at hq; exact hq
  refine r_puti hL xcl5 5 (j' := 5) rfl (Nat.lt_of_le_of_lt (Nat.le_add_right _ 4) (st_sh a h_a).2.2.2.2.2.1) (st_sh a h_a).1 (by decide) fl_X5_29 rfl rfl (by omega) dX5_become_72 (fun μ6 hm6 => ?_)
  have hB6 : BI μ6 := by rw [hm6]; exact hB5.up (by rw [(st_bk a h_a).1]; show ((5 : Int) = 4 → 0 ≤ z69 ∧ z69 ≤ 8) ∧ ((5 : Int) = 5 → 0 ≤ z69 ∧ z69 ≤ 2); omega)
  exact r_vret hL dX5_become_75 rfl (hK _ hB6)

set_option maxHeartbeats 4000000 in
set_option maxRecDepth 20000 in
theorem m_X5_add {K : Option xV → xW → xM → Prop} {μ : xM} (hB0 : BI μ) (c : Int) (hc : 0 ≤ c ∧ c ≤ 47244640255) (s : Int) (hs : xrg s) (hK : ∀ μ', BI μ' → K none WW μ') : xMet yX5_add cX5_add 4 none 0 0 0 0 [xR 1, xL c, xI s] WW μ K := by
  refine xMet.go RX5 "add" rfl rfl (by decide) [some (xR 1), some (xL c), none, some (xI s)] (Nat.le_of_ble_eq_true rfl) rfl (fun X hL => ?_)
  have hB := hB0
  refine r_aload_n hL (x := 1) dX5_add_0 rfl ?_
  refine r_geti hL xcl5 4 (j' := 4) rfl (by decide) s_1 (by decide) fl_X5_25 (by decide) (by decide) dX5_add_1 (fun hr1 => ?_)
  obtain ⟨z1, hz1⟩ : ∃ z, z = μ 1 4 := ⟨_, rfl⟩
  rw [← hz1] at hr1 ⊢
  have hb1 : ((4 : Int) = 4 → 0 ≤ (μ 1 4) ∧ (μ 1 4) ≤ 8) ∧ ((4 : Int) = 5 → 0 ≤ (μ 1 4) ∧ (μ 1 4) ≤ 2) := hB 1 4
  refine r_bipush hL dX5_add_4 (by decide) ?_
  refine r_icmp_lt hL (tgt := 10) dX5_add_6 (by decide) (by omega) (by omega) (fun c6 => ?_) (fun c6 => ?_)
  · skip
    refine r_aload_n hL (x := 1) dX5_add_10 rfl ?_
    refine r_getr hL xcl5 0 (by decide) s_1 (by decide) fl_X5_9 (by decide) f_1_0 dX5_add_11 ?_
    refine r_aload_n hL (x := 1) dX5_add_14 rfl ?_
    refine r_geti hL xcl5 4 (j' := 4) rfl (by decide) s_1 (by decide) fl_X5_25 (by decide) (by decide) dX5_add_15 (fun hr15 => ?_)
    obtain ⟨z15, hz15⟩ : ∃ z, z = μ 1 4 := ⟨_, rfl⟩
    rw [← hz15] at hr15 ⊢
    have hb15 : ((4 : Int) = 4 → 0 ≤ (μ 1 4) ∧ (μ 1 4) ≤ 8) ∧ ((4 : Int) = 5 → 0 ≤ (μ 1 4) ∧ (μ 1 4) ≤ 2) := hB 1 4
    refine r_lload_n hL (x := c) dX5_add_18 rfl ?_
    refine r_last hL dX5_add_19 (by decide) s_2 (by decide) (by omega) (by omega) (by omega) (fun μ1 hm1 => ?_)
    have hB1 : BI μ1 := by rw [hm1]; exact hB.up (by show 0 ≤ c ∧ c ≤ 47244640255; omega)
    have hk1_1_4 : μ1 1 4 = μ 1 4 := by rw [hm1]; exact congrFun (xup_c (by decide)) _
    refine r_aload_n hL (x := 1) dX5_add_20 rfl ?_
    refine r_getr hL xcl5 1 (by decide) s_1 (by decide) fl_X5_15 (by decide) f_1_1 dX5_add_21 ?_
    refine r_aload_n hL (x := 1) dX5_add_24 rfl ?_
    refine r_geti hL xcl5 4 (j' := 4) rfl (by decide) s_1 (by decide) fl_X5_25 (by decide) (by decide) dX5_add_25 (fun hr25 => ?_)
    obtain ⟨z25, hz25⟩ : ∃ z, z = μ1 1 4 := ⟨_, rfl⟩
    rw [← hz25] at hr25 ⊢
    have hb25 : ((4 : Int) = 4 → 0 ≤ (μ1 1 4) ∧ (μ1 1 4) ≤ 8) ∧ ((4 : Int) = 5 → 0 ≤ (μ1 1 4) ∧ (μ1 1 4) ≤ 2) := hB1 1 4
    refine r_iload_n hL (x := s) dX5_add_28 rfl ?_
    refine r_iast hL dX5_add_29 (by decide) s_3 (by decide) (by omega) (by omega) (by omega) (fun μ2 hm2 => ?_)
    have hB2 : BI μ2 := by rw [hm2]; exact hB1.up trivial
    have hk2_1_4 : μ2 1 4 = μ1 1 4 := by rw [hm2]; exact congrFun (xup_c (by decide)) _
    refine r_aload_n hL (x := 1) dX5_add_30 rfl ?_
    refine r_dup hL dX5_add_31 rfl ?_
    refine r_geti hL xcl5 4 (j' := 4) rfl (by decide) s_1 (by decide) fl_X5_25 (by decide) (by decide) dX5_add_32 (fun hr32 => ?_)
    obtain ⟨z32, hz32⟩ : ∃ z, z = μ2 1 4 := ⟨_, rfl⟩
    rw [← hz32] at hr32 ⊢
    have hb32 : ((4 : Int) = 4 → 0 ≤ (μ2 1 4) ∧ (μ2 1 4) ≤ 8) ∧ ((4 : Int) = 5 → 0 ≤ (μ2 1 4) ∧ (μ2 1 4) ≤ 2) := hB2 1 4
    refine r_iconst hL dX5_add_35 ?_
    refine r_iadd hL dX5_add_36 ?_
    refine r_puti hL xcl5 4 (j' := 4) rfl (by decide) s_1 (by decide) fl_X5_25 rfl rfl (by omega) dX5_add_37 (fun μ3 hm3 => ?_)
    have hB3 : BI μ3 := by rw [hm3]; exact hB2.up (by show ((4 : Int) = 4 → 0 ≤ (z32 + 1) ∧ (z32 + 1) ≤ 8) ∧ ((4 : Int) = 5 → 0 ≤ (z32 + 1) ∧ (z32 + 1) ≤ 2); omega)
    have hk3_1_4 : μ3 1 4 = z32 + 1 := by rw [hm3]; exact xup_s _ _ _ _
    exact r_vret hL dX5_add_40 rfl (hK _ hB3)
  · skip
    exact r_vret hL dX5_add_9 rfl (hK _ hB)

set_option maxHeartbeats 4000000 in
set_option maxRecDepth 20000 in
theorem m_X5_remove {K : Option xV → xW → xM → Prop} {μ : xM} (hB0 : BI μ) (t : Int) (ht : xrg t) (hK : ∀ μ', BI μ' → K none WW μ') : xMet yX5_remove cX5_remove 3 none 0 0 0 0 [xR 1, xI t] WW μ K := by
  refine xMet.go RX5 "remove" rfl rfl (by decide) [some (xR 1), some (xI t), none] (Nat.le_of_ble_eq_true rfl) rfl (fun X hL => ?_)
  have hB := hB0
  refine r_iload_n hL (x := t) dX5_remove_0 rfl ?_
  refine r_if_lt hL (tgt := 12) dX5_remove_1 (by decide) (by omega) (fun c1 => ?_) (fun c1 => ?_)
  · skip
    exact r_vret hL dX5_remove_12 rfl (hK _ hB)
  · skip
    refine r_iload_n hL (x := t) dX5_remove_4 rfl ?_
    refine r_aload_n hL (x := 1) dX5_remove_5 rfl ?_
    refine r_geti hL xcl5 4 (j' := 4) rfl (by decide) s_1 (by decide) fl_X5_25 (by decide) (by decide) dX5_remove_6 (fun hr6 => ?_)
    obtain ⟨z6, hz6⟩ : ∃ z, z = μ 1 4 := ⟨_, rfl⟩
    rw [← hz6] at hr6 ⊢
    have hb6 : ((4 : Int) = 4 → 0 ≤ (μ 1 4) ∧ (μ 1 4) ≤ 8) ∧ ((4 : Int) = 5 → 0 ≤ (μ 1 4) ∧ (μ 1 4) ≤ 2) := hB 1 4
    refine r_icmp_lt hL (tgt := 13) dX5_remove_9 (by decide) (by omega) (by omega) (fun c9 => ?_) (fun c9 => ?_)
    · skip
      refine r_aload_n hL (x := 1) dX5_remove_13 rfl ?_
      refine r_dup hL dX5_remove_14 rfl ?_
      refine r_geti hL xcl5 4 (j' := 4) rfl (by decide) s_1 (by decide) fl_X5_25 (by decide) (by decide) dX5_remove_15 (fun hr15 => ?_)
      obtain ⟨z15, hz15⟩ : ∃ z, z = μ 1 4 := ⟨_, rfl⟩
      rw [← hz15] at hr15 ⊢
      have hb15 : ((4 : Int) = 4 → 0 ≤ (μ 1 4) ∧ (μ 1 4) ≤ 8) ∧ ((4 : Int) = 5 → 0 ≤ (μ 1 4) ∧ (μ 1 4) ≤ 2) := hB 1 4
      refine r_iconst hL dX5_remove_18 ?_
      refine r_isub hL dX5_remove_19 ?_
      refine r_puti hL xcl5 4 (j' := 4) rfl (by decide) s_1 (by decide) fl_X5_25 rfl rfl (by omega) dX5_remove_20 (fun μ1 hm1 => ?_)
      have hB1 : BI μ1 := by rw [hm1]; exact hB.up (by show ((4 : Int) = 4 → 0 ≤ (z15 - 1) ∧ (z15 - 1) ≤ 8) ∧ ((4 : Int) = 5 → 0 ≤ (z15 - 1) ∧ (z15 - 1) ≤ 2); omega)
      have hk1_1_4 : μ1 1 4 = z15 - 1 := by rw [hm1]; exact xup_s _ _ _ _
      refine r_iload_n hL (x := t) dX5_remove_23 rfl ?_
      refine r_istore_n hL (lo' := [some (xR 1), some (xI t), some (xI t)]) dX5_remove_24 (by decide) rfl ?_
      have lp25 : ∀ (n25 : Nat) (i : Int) (μ125 : xM), (BI μ125) → (0 ≤ i ∧ i ≤ 8) → (μ125 1 4 ≤ 7) → ((8 - i).toNat) < n25 → X 0 0 WW μ125 25 [some (xR 1), some (xI t), some (xI i)] [] := by
        intro n25
        induction n25 with
        | zero => intro i μ125 hB125 h1 h2 hn; exact absurd hn (Nat.not_lt_zero _)
        | succ n25 ih25 =>
          intro i μ125 hB125 h1 h2 hn25
          refine r_iload_n hL (x := i) dX5_remove_25 rfl ?_
          refine r_aload_n hL (x := 1) dX5_remove_26 rfl ?_
          refine r_geti hL xcl5 4 (j' := 4) rfl (by decide) s_1 (by decide) fl_X5_25 (by decide) (by decide) dX5_remove_27 (fun hr27 => ?_)
          obtain ⟨z27, hz27⟩ : ∃ z, z = μ125 1 4 := ⟨_, rfl⟩
          rw [← hz27] at hr27 ⊢
          have hb27 : ((4 : Int) = 4 → 0 ≤ (μ125 1 4) ∧ (μ125 1 4) ≤ 8) ∧ ((4 : Int) = 5 → 0 ≤ (μ125 1 4) ∧ (μ125 1 4) ≤ 2) := hB125 1 4
          refine r_icmp_ge hL (tgt := 67) dX5_remove_30 (by decide) (by omega) (by omega) (fun c30 => ?_) (fun c30 => ?_)
          · skip
            exact r_vret hL dX5_remove_67 rfl (hK _ hB125)
          · skip
            refine r_aload_n hL (x := 1) dX5_remove_33 rfl ?_
            refine r_getr hL xcl5 0 (by decide) s_1 (by decide) fl_X5_9 (by decide) f_1_0 dX5_remove_34 ?_
            refine r_iload_n hL (x := i) dX5_remove_37 rfl ?_
            refine r_aload_n hL (x := 1) dX5_remove_38 rfl ?_
            refine r_getr hL xcl5 0 (by decide) s_1 (by decide) fl_X5_9 (by decide) f_1_0 dX5_remove_39 ?_
            refine r_iload_n hL (x := i) dX5_remove_42 rfl ?_
            refine r_iconst hL dX5_remove_43 ?_
            refine r_iadd hL dX5_remove_44 ?_
            refine r_lald hL dX5_remove_45 (by decide) s_2 (by decide) (by omega) (by omega) (fun hr45 => ?_)
            obtain ⟨z45, hz45⟩ : ∃ z, z = μ125 2 (i + 1) := ⟨_, rfl⟩
            rw [← hz45] at hr45 ⊢
            have hb45 : 0 ≤ (μ125 2 (i + 1)) ∧ (μ125 2 (i + 1)) ≤ 47244640255 := hB125 2 (i + 1)
            refine r_last hL dX5_remove_46 (by decide) s_2 (by decide) (by omega) (by omega) (by omega) (fun μ2 hm2 => ?_)
            have hB2 : BI μ2 := by rw [hm2]; exact hB125.up (by show 0 ≤ z45 ∧ z45 ≤ 47244640255; omega)
            have hk2_1_4 : μ2 1 4 = μ125 1 4 := by rw [hm2]; exact congrFun (xup_c (by decide)) _
            refine r_aload_n hL (x := 1) dX5_remove_47 rfl ?_
            refine r_getr hL xcl5 1 (by decide) s_1 (by decide) fl_X5_15 (by decide) f_1_1 dX5_remove_48 ?_
            refine r_iload_n hL (x := i) dX5_remove_51 rfl ?_
            refine r_aload_n hL (x := 1) dX5_remove_52 rfl ?_
            refine r_getr hL xcl5 1 (by decide) s_1 (by decide) fl_X5_15 (by decide) f_1_1 dX5_remove_53 ?_
            refine r_iload_n hL (x := i) dX5_remove_56 rfl ?_
            refine r_iconst hL dX5_remove_57 ?_
            refine r_iadd hL dX5_remove_58 ?_
            refine r_iald hL dX5_remove_59 (by decide) s_3 (by decide) (by omega) (by omega) (fun hr59 => ?_)
            obtain ⟨z59, hz59⟩ : ∃ z, z = μ2 3 (i + 1) := ⟨_, rfl⟩
            rw [← hz59] at hr59 ⊢
            refine r_iast hL dX5_remove_60 (by decide) s_3 (by decide) (by omega) (by omega) (by omega) (fun μ3 hm3 => ?_)
            have hB3 : BI μ3 := by rw [hm3]; exact hB2.up trivial
            have hk3_1_4 : μ3 1 4 = μ2 1 4 := by rw [hm3]; exact congrFun (xup_c (by decide)) _
            refine r_iinc hL (x := i) (lo' := [some (xR 1), some (xI t), some (xI (i + 1))]) dX5_remove_61 (by decide) rfl rfl ?_
            refine r_goto hL (tgt := 25) dX5_remove_64 (by decide) ?_
            exact ih25 (i + 1) μ3 hB3 (by omega) (by omega) (by omega)
      exact lp25 _ t μ1 hB1 (by omega) (by omega) (Nat.lt_succ_self _)
    · skip
      exact r_vret hL dX5_remove_12 rfl (hK _ hB)

set_option maxHeartbeats 4000000 in
set_option maxRecDepth 20000 in
theorem m_X5_setRoad {K : Option xV → xW → xM → Prop} {μ : xM} (hB0 : BI μ) (p : Int) (hp : 0 ≤ p ∧ p ≤ 7) (q : Int) (hq : 0 ≤ q ∧ q ≤ 7) (v : Int) (hv : xrg v) (hK : ∀ μ', BI μ' → K none WW μ') : xMet yX5_setRoad cX5_setRoad 4 none 0 0 0 0 [xR 1, xI p, xI q, xI v] WW μ K := by
  refine xMet.go RX5 "setRoad" rfl rfl (by decide) [some (xR 1), some (xI p), some (xI q), some (xI v)] (Nat.le_of_ble_eq_true rfl) rfl (fun X hL => ?_)
  have hB := hB0
  refine r_iload_n hL (x := v) dX5_setRoad_0 rfl ?_
  refine r_if_eq hL (tgt := 31) dX5_setRoad_1 (by decide) (by omega) (fun c1 => ?_) (fun c1 => ?_)
  · skip
    refine r_aload_n hL (x := 1) dX5_setRoad_31 rfl ?_
    refine r_getr hL xcl5 3 (by decide) s_1 (by decide) fl_X5_22 (by decide) f_1_3 dX5_setRoad_32 ?_
    refine r_iload_n hL (x := p) dX5_setRoad_35 rfl ?_
    refine r_dup2 hL dX5_setRoad_36 rfl rfl ?_
    refine r_iald hL dX5_setRoad_37 (by decide) s_5 (by decide) (by omega) (by omega) (fun hr37 => ?_)
    obtain ⟨z37, hz37⟩ : ∃ z, z = μ 5 p := ⟨_, rfl⟩
    rw [← hz37] at hr37 ⊢
    refine r_iconst hL dX5_setRoad_38 ?_
    refine r_iload_n hL (x := q) dX5_setRoad_39 rfl ?_
    refine r_ishl hL dX5_setRoad_40 ?_
    obtain ⟨z40, hz40⟩ : ∃ z, z = xshl 1 q := ⟨_, rfl⟩
    rw [← hz40]
    have hr40 : xrg z40 := by rw [hz40]; exact xshl_rg _ _
    refine r_iconst hL dX5_setRoad_41 ?_
    refine r_ixor hL dX5_setRoad_42 ?_
    obtain ⟨z42, hz42⟩ : ∃ z, z = xxor z40 (-1) := ⟨_, rfl⟩
    rw [← hz42]
    have hr42 : xrg z42 := by rw [hz42]; exact xxor_rg _ _
    refine r_iand hL dX5_setRoad_43 ?_
    obtain ⟨z43, hz43⟩ : ∃ z, z = xand z37 z42 := ⟨_, rfl⟩
    rw [← hz43]
    have hr43 : xrg z43 := by rw [hz43]; exact xand_rg _ _
    refine r_iast hL dX5_setRoad_44 (by decide) s_5 (by decide) (by omega) (by omega) (by omega) (fun μ1 hm1 => ?_)
    have hB1 : BI μ1 := by rw [hm1]; exact hB.up trivial
    refine r_aload_n hL (x := 1) dX5_setRoad_45 rfl ?_
    refine r_getr hL xcl5 3 (by decide) s_1 (by decide) fl_X5_22 (by decide) f_1_3 dX5_setRoad_46 ?_
    refine r_iload_n hL (x := q) dX5_setRoad_49 rfl ?_
    refine r_dup2 hL dX5_setRoad_50 rfl rfl ?_
    refine r_iald hL dX5_setRoad_51 (by decide) s_5 (by decide) (by omega) (by omega) (fun hr51 => ?_)
    obtain ⟨z51, hz51⟩ : ∃ z, z = μ1 5 q := ⟨_, rfl⟩
    rw [← hz51] at hr51 ⊢
    refine r_iconst hL dX5_setRoad_52 ?_
    refine r_iload_n hL (x := p) dX5_setRoad_53 rfl ?_
    refine r_ishl hL dX5_setRoad_54 ?_
    obtain ⟨z54, hz54⟩ : ∃ z, z = xshl 1 p := ⟨_, rfl⟩
    rw [← hz54]
    have hr54 : xrg z54 := by rw [hz54]; exact xshl_rg _ _
    refine r_iconst hL dX5_setRoad_55 ?_
    refine r_ixor hL dX5_setRoad_56 ?_
    obtain ⟨z56, hz56⟩ : ∃ z, z = xxor z54 (-1) := ⟨_, rfl⟩
    rw [← hz56]
    have hr56 : xrg z56 := by rw [hz56]; exact xxor_rg _ _
    refine r_iand hL dX5_setRoad_57 ?_
    obtain ⟨z57, hz57⟩ : ∃ z, z = xand z51 z56 := ⟨_, rfl⟩
    rw [← hz57]
    have hr57 : xrg z57 := by rw [hz57]; exact xand_rg _ _
    refine r_iast hL dX5_setRoad_58 (by decide) s_5 (by decide) (by omega) (by omega) (by omega) (fun μ2 hm2 => ?_)
    have hB2 : BI μ2 := by rw [hm2]; exact hB1.up trivial
    exact r_vret hL dX5_setRoad_59 rfl (hK _ hB2)
  · skip
    refine r_aload_n hL (x := 1) dX5_setRoad_4 rfl ?_
    refine r_getr hL xcl5 3 (by decide) s_1 (by decide) fl_X5_22 (by decide) f_1_3 dX5_setRoad_5 ?_
    refine r_iload_n hL (x := p) dX5_setRoad_8 rfl ?_
    refine r_dup2 hL dX5_setRoad_9 rfl rfl ?_
    refine r_iald hL dX5_setRoad_10 (by decide) s_5 (by decide) (by omega) (by omega) (fun hr10 => ?_)
    obtain ⟨z10, hz10⟩ : ∃ z, z = μ 5 p := ⟨_, rfl⟩
    rw [← hz10] at hr10 ⊢
    refine r_iconst hL dX5_setRoad_11 ?_
    refine r_iload_n hL (x := q) dX5_setRoad_12 rfl ?_
    refine r_ishl hL dX5_setRoad_13 ?_
    obtain ⟨z13, hz13⟩ : ∃ z, z = xshl 1 q := ⟨_, rfl⟩
    rw [← hz13]
    have hr13 : xrg z13 := by rw [hz13]; exact xshl_rg _ _
    refine r_ior hL dX5_setRoad_14 ?_
    obtain ⟨z14, hz14⟩ : ∃ z, z = xor' z10 z13 := ⟨_, rfl⟩
    rw [← hz14]
    have hr14 : xrg z14 := by rw [hz14]; exact xor_rg _ _
    refine r_iast hL dX5_setRoad_15 (by decide) s_5 (by decide) (by omega) (by omega) (by omega) (fun μ3 hm3 => ?_)
    have hB3 : BI μ3 := by rw [hm3]; exact hB.up trivial
    refine r_aload_n hL (x := 1) dX5_setRoad_16 rfl ?_
    refine r_getr hL xcl5 3 (by decide) s_1 (by decide) fl_X5_22 (by decide) f_1_3 dX5_setRoad_17 ?_
    refine r_iload_n hL (x := q) dX5_setRoad_20 rfl ?_
    refine r_dup2 hL dX5_setRoad_21 rfl rfl ?_
    refine r_iald hL dX5_setRoad_22 (by decide) s_5 (by decide) (by omega) (by omega) (fun hr22 => ?_)
    obtain ⟨z22, hz22⟩ : ∃ z, z = μ3 5 q := ⟨_, rfl⟩
    rw [← hz22] at hr22 ⊢
    refine r_iconst hL dX5_setRoad_23 ?_
    refine r_iload_n hL (x := p) dX5_setRoad_24 rfl ?_
    refine r_ishl hL dX5_setRoad_25 ?_
    obtain ⟨z25, hz25⟩ : ∃ z, z = xshl 1 p := ⟨_, rfl⟩
    rw [← hz25]
    have hr25 : xrg z25 := by rw [hz25]; exact xshl_rg _ _
    refine r_ior hL dX5_setRoad_26 ?_
    obtain ⟨z26, hz26⟩ : ∃ z, z = xor' z22 z25 := ⟨_, rfl⟩
    rw [← hz26]
    have hr26 : xrg z26 := by rw [hz26]; exact xor_rg _ _
    refine r_iast hL dX5_setRoad_27 (by decide) s_5 (by decide) (by omega) (by omega) (by omega) (fun μ4 hm4 => ?_)
    have hB4 : BI μ4 := by rw [hm4]; exact hB3.up trivial
    refine r_goto hL (tgt := 59) dX5_setRoad_28 (by decide) ?_
    exact r_vret hL dX5_setRoad_59 rfl (hK _ hB4)

set_option maxHeartbeats 4000000 in
set_option maxRecDepth 20000 in
theorem m_X5_countRoads {K : Option xV → xW → xM → Prop} {μ : xM}  (hK : ∀ r, xrg r → K (some (xI r)) WW μ) : xMet yX5_countRoads cX5_countRoads 3 (some .int) 1 20 0 0 [xR 1] WW μ K := by
  refine xMet.go RX5 "countRoads" rfl rfl (by decide) [some (xR 1), none, none] (Nat.le_of_ble_eq_true rfl) rfl (fun X hL => ?_)
  refine r_iconst hL dX5_countRoads_0 ?_
  refine r_istore_n hL (lo' := [some (xR 1), some (xI 0), none]) dX5_countRoads_1 (by decide) rfl ?_
  refine r_iconst hL dX5_countRoads_2 ?_
  refine r_istore_n hL (lo' := [some (xR 1), some (xI 0), some (xI 0)]) dX5_countRoads_3 (by decide) rfl ?_
  have lp4 : ∀ (n4 : Nat) (n : Int) (i : Int), (0 ≤ n ∧ n ≤ 63 * i) → (0 ≤ i ∧ i ≤ 8) → ((8 - i).toNat) < n4 → X 0 0 WW μ 4 [some (xR 1), some (xI n), some (xI i)] [] := by
    intro n4
    induction n4 with
    | zero => intro n i h1 h2 hn; exact absurd hn (Nat.not_lt_zero _)
    | succ n4 ih4 =>
      intro n i h1 h2 hn4
      refine r_iload_n hL (x := i) dX5_countRoads_4 rfl ?_
      refine r_bipush hL dX5_countRoads_5 (by decide) ?_
      refine r_icmp_ge hL (tgt := 28) dX5_countRoads_7 (by decide) (by omega) (by omega) (fun c7 => ?_) (fun c7 => ?_)
      · skip
        refine r_iload_n hL (x := n) dX5_countRoads_28 rfl ?_
        refine r_iconst hL dX5_countRoads_29 ?_
        refine r_idiv hL dX5_countRoads_30 (by omega) (by omega) ?_
        obtain ⟨z30, hz30⟩ : ∃ z, z = xdiv n 2 := ⟨_, rfl⟩
        rw [← hz30]
        have hr30 : xrg z30 := by rw [hz30]; exact xdiv_rg _ _
        have hq30 := xdiv_nn (x := n) (y := 2) (by omega) (by omega) (by omega) (by omega)
        rw [← hz30] at hq30
        exact r_iret hL dX5_countRoads_31 rfl (hK _ (by omega))
      · skip
        refine r_iload_n hL (x := n) dX5_countRoads_10 rfl ?_
        refine r_aload_n hL (x := 1) dX5_countRoads_11 rfl ?_
        refine r_getr hL xcl5 3 (by decide) s_1 (by decide) fl_X5_22 (by decide) f_1_3 dX5_countRoads_12 ?_
        refine r_iload_n hL (x := i) dX5_countRoads_15 rfl ?_
        refine r_iald hL dX5_countRoads_16 (by decide) s_5 (by decide) (by omega) (by omega) (fun hr16 => ?_)
        obtain ⟨z16, hz16⟩ : ∃ z, z = μ 5 i := ⟨_, rfl⟩
        rw [← hz16] at hr16 ⊢
        refine r_callS hL (st := [xI n]) (av := [xI z16]) (m_J6_bitCount_0f7a4 (μ := μ) z16 (fun z17 hc17_1 hc17 => ⟨rfl, ?_⟩)) ce_yJ6_bitCount_0f7a4 sm_yJ6_bitCount_0f7a4 ml_X5_38 dX5_countRoads_17 rfl (Nat.le_of_ble_eq_true rfl) ⟨Nat.le_of_ble_eq_true rfl, Nat.le_of_ble_eq_true rfl⟩ ⟨Nat.le_of_ble_eq_true rfl, Nat.le_of_ble_eq_true rfl⟩
        show X 0 0 WW μ 20 [some (xR 1), some (xI n), some (xI i)] [xI z17, xI n]
        refine r_iadd hL dX5_countRoads_20 ?_
        refine r_istore_n hL (lo' := [some (xR 1), some (xI (n + z17)), some (xI i)]) dX5_countRoads_21 (by decide) rfl ?_
        refine r_iinc hL (x := i) (lo' := [some (xR 1), some (xI (n + z17)), some (xI (i + 1))]) dX5_countRoads_22 (by decide) rfl rfl ?_
        refine r_goto hL (tgt := 4) dX5_countRoads_25 (by decide) ?_
        exact ih4 (n + z17) (i + 1) (by omega) (by omega) (by omega)
  exact lp4 _ 0 0 (by omega) (by omega) (Nat.lt_succ_self _)

set_option maxHeartbeats 4000000 in
set_option maxRecDepth 20000 in
theorem m_X5_motifsOfAll {K : Option xV → xW → xM → Prop} {μ : xM} (hB0 : BI μ) (s : Int) (hs : xrg s) (hK : ∀ r, xrg r → K (some (xI r)) WW μ) : xMet yX5_motifsOfAll cX5_motifsOfAll 4 (some .int) 2 45 0 0 [xR 1, xI s] WW μ K := by
  refine xMet.go RX5 "motifsOfAll" rfl rfl (by decide) [some (xR 1), some (xI s), none, none] (Nat.le_of_ble_eq_true rfl) rfl (fun X hL => ?_)
  have hB := hB0
  refine r_sipush hL dX5_motifsOfAll_0 (by decide) ?_
  refine r_istore_n hL (lo' := [some (xR 1), some (xI s), some (xI 255), none]) dX5_motifsOfAll_3 (by decide) rfl ?_
  refine r_iconst hL dX5_motifsOfAll_4 ?_
  refine r_istore_n hL (lo' := [some (xR 1), some (xI s), some (xI 255), some (xI 0)]) dX5_motifsOfAll_5 (by decide) rfl ?_
  have lp6 : ∀ (n6 : Nat) (u : Int) (t : Int), (xrg u) → (0 ≤ t ∧ t ≤ 8) → ((8 - t).toNat) < n6 → X 0 0 WW μ 6 [some (xR 1), some (xI s), some (xI u), some (xI t)] [] := by
    intro n6
    induction n6 with
    | zero => intro u t h1 h2 hn; exact absurd hn (Nat.not_lt_zero _)
    | succ n6 ih6 =>
      intro u t h1 h2 hn6
      refine r_iload_n hL (x := t) dX5_motifsOfAll_6 rfl ?_
      refine r_aload_n hL (x := 1) dX5_motifsOfAll_7 rfl ?_
      refine r_geti hL xcl5 4 (j' := 4) rfl (by decide) s_1 (by decide) fl_X5_25 (by decide) (by decide) dX5_motifsOfAll_8 (fun hr8 => ?_)
      obtain ⟨z8, hz8⟩ : ∃ z, z = μ 1 4 := ⟨_, rfl⟩
      rw [← hz8] at hr8 ⊢
      have hb8 : ((4 : Int) = 4 → 0 ≤ (μ 1 4) ∧ (μ 1 4) ≤ 8) ∧ ((4 : Int) = 5 → 0 ≤ (μ 1 4) ∧ (μ 1 4) ≤ 2) := hB 1 4
      refine r_icmp_ge hL (tgt := 41) dX5_motifsOfAll_11 (by decide) (by omega) (by omega) (fun c11 => ?_) (fun c11 => ?_)
      · skip
        refine r_iload_n hL (x := u) dX5_motifsOfAll_41 rfl ?_
        exact r_iret hL dX5_motifsOfAll_42 rfl (hK _ (by omega))
      · skip
        refine r_iload_n hL (x := s) dX5_motifsOfAll_14 rfl ?_
        refine r_iload_n hL (x := t) dX5_motifsOfAll_15 rfl ?_
        refine r_ishr hL dX5_motifsOfAll_16 ?_
        obtain ⟨z16, hz16⟩ : ∃ z, z = xshr s t := ⟨_, rfl⟩
        rw [← hz16]
        have hr16 : xrg z16 := by rw [hz16]; exact xshr_rg _ _
        refine r_iconst hL dX5_motifsOfAll_17 ?_
        refine r_iand hL dX5_motifsOfAll_18 ?_
        obtain ⟨z18, hz18⟩ : ∃ z, z = xand z16 1 := ⟨_, rfl⟩
        rw [← hz18]
        have hr18 : xrg z18 := by rw [hz18]; exact xand_rg _ _
        refine r_iconst hL dX5_motifsOfAll_19 ?_
        refine r_icmp_ne hL (tgt := 35) dX5_motifsOfAll_20 (by decide) (by omega) (by omega) (fun c20 => ?_) (fun c20 => ?_)
        · skip
          refine r_iinc hL (x := t) (lo' := [some (xR 1), some (xI s), some (xI u), some (xI (t + 1))]) dX5_motifsOfAll_35 (by decide) rfl rfl ?_
          refine r_goto hL (tgt := 6) dX5_motifsOfAll_38 (by decide) ?_
          exact ih6 u (t + 1) (by omega) (by omega) (by omega)
        · skip
          refine r_iload_n hL (x := u) dX5_motifsOfAll_23 rfl ?_
          refine r_aload_n hL (x := 1) dX5_motifsOfAll_24 rfl ?_
          refine r_getr hL xcl5 0 (by decide) s_1 (by decide) fl_X5_9 (by decide) f_1_0 dX5_motifsOfAll_25 ?_
          refine r_iload_n hL (x := t) dX5_motifsOfAll_28 rfl ?_
          refine r_lald hL dX5_motifsOfAll_29 (by decide) s_2 (by decide) (by omega) (by omega) (fun hr29 => ?_)
          obtain ⟨z29, hz29⟩ : ∃ z, z = μ 2 t := ⟨_, rfl⟩
          rw [← hz29] at hr29 ⊢
          have hb29 : 0 ≤ (μ 2 t) ∧ (μ 2 t) ≤ 47244640255 := hB 2 t
          refine r_callSN hL (st := [xI u]) (av := [xL z29]) (m_X7_motifsOf (μ := μ) z29 (by omega) (by omega) (fun z30 hc30 => ⟨rfl, ?_⟩)) ce_yX7_motifsOf sm_yX7_motifsOf ml_X5_44 dX5_motifsOfAll_30 rfl (Nat.le_of_ble_eq_true rfl) ⟨Nat.le_of_ble_eq_true rfl, Nat.le_of_ble_eq_true rfl⟩ ⟨Nat.le_of_ble_eq_true rfl, Nat.le_of_ble_eq_true rfl⟩
          show X 0 0 WW μ 33 [some (xR 1), some (xI s), some (xI u), some (xI t)] [xI z30, xI u]
          refine r_iand hL dX5_motifsOfAll_33 ?_
          obtain ⟨z33, hz33⟩ : ∃ z, z = xand u z30 := ⟨_, rfl⟩
          rw [← hz33]
          have hr33 : xrg z33 := by rw [hz33]; exact xand_rg _ _
          refine r_istore_n hL (lo' := [some (xR 1), some (xI s), some (xI z33), some (xI t)]) dX5_motifsOfAll_34 (by decide) rfl ?_
          refine r_iinc hL (x := t) (lo' := [some (xR 1), some (xI s), some (xI z33), some (xI (t + 1))]) dX5_motifsOfAll_35 (by decide) rfl rfl ?_
          refine r_goto hL (tgt := 6) dX5_motifsOfAll_38 (by decide) ?_
          exact ih6 z33 (t + 1) (by omega) (by omega) (by omega)
  exact lp6 _ 255 0 (by omega) (by omega) (Nat.lt_succ_self _)

set_option maxHeartbeats 4000000 in
set_option maxRecDepth 20000 in
theorem m_X1_remember {K : Option xV → xW → xM → Prop} {μ : xM} (hB0 : BI μ)  (hK : ∀ μ', BI μ' → K none WW μ') : xMet yX1_remember cX1_remember 2 none 2 47 0 0 [xR 6, xR 1] WW μ K := by
  refine xMet.go RX1 "remember" rfl rfl (by decide) [some (xR 6), some (xR 1)] (Nat.le_of_ble_eq_true rfl) rfl (fun X hL => ?_)
  have hB := hB0
  refine r_aload_n hL (x := 6) dX1_remember_0 rfl ?_
  refine r_getr hL xcl1 0 (by decide) s_6 (by decide) fl_X1_11 (by decide) f_6_0 dX1_remember_1 ?_
  refine r_aload_n hL (x := 6) dX1_remember_4 rfl ?_
  refine r_geti hL xcl1 2 (j' := 2) rfl (by decide) s_6 (by decide) fl_X1_21 (by decide) (by decide) dX1_remember_5 (fun hr5 => ?_)
  obtain ⟨z5, hz5⟩ : ∃ z, z = μ 6 2 := ⟨_, rfl⟩
  rw [← hz5] at hr5 ⊢
  have hb5 : ((2 : Int) = 1 → 0 ≤ (μ 6 2) ∧ (μ 6 2) ≤ 16) ∧ ((2 : Int) = 2 → 0 ≤ (μ 6 2) ∧ (μ 6 2) ≤ 15) := hB 6 2
  obtain ⟨c, h_c, hcq, hce⟩ := f_7b (j := z5) (by omega) (by omega)
  refine r_aald hL (t := 0) dX1_remember_8 (by decide) s_7 (by decide) (by decide) (by omega) (by omega) hcq ?_
  refine r_aload_n hL (x := 1) dX1_remember_9 rfl ?_
  refine r_callV hL (st := []) (av := [xR 1]) (k := c) (m_X5_become (μ := μ) hB c 1 h_c (by decide) (fun μ10c hB10c => ⟨rfl, ?_⟩)) ce_yX5_become im_yX5_become se_yX5_become ml_X1_25 xcl5 (Nat.lt_of_le_of_lt (Nat.le_add_right _ 4) (st_sh c h_c).2.2.2.2.2.1) (st_sh c h_c).1 dX1_remember_10 rfl (Nat.le_of_ble_eq_true rfl) ⟨Nat.le_of_ble_eq_true rfl, Nat.le_of_ble_eq_true rfl⟩ ⟨Nat.le_of_ble_eq_true rfl, Nat.le_of_ble_eq_true rfl⟩
  show X 0 0 WW μ10c 13 [some (xR 6), some (xR 1)] []
  refine r_aload_n hL (x := 6) dX1_remember_13 rfl ?_
  refine r_aload_n hL (x := 6) dX1_remember_14 rfl ?_
  refine r_geti hL xcl1 2 (j' := 2) rfl (by decide) s_6 (by decide) fl_X1_21 (by decide) (by decide) dX1_remember_15 (fun hr15 => ?_)
  obtain ⟨z15, hz15⟩ : ∃ z, z = μ10c 6 2 := ⟨_, rfl⟩
  rw [← hz15] at hr15 ⊢
  have hb15 : ((2 : Int) = 1 → 0 ≤ (μ10c 6 2) ∧ (μ10c 6 2) ≤ 16) ∧ ((2 : Int) = 2 → 0 ≤ (μ10c 6 2) ∧ (μ10c 6 2) ≤ 15) := hB10c 6 2
  refine r_iconst hL dX1_remember_18 ?_
  refine r_iadd hL dX1_remember_19 ?_
  refine r_bipush hL dX1_remember_20 (by decide) ?_
  refine r_irem hL dX1_remember_22 (by omega) (by omega) ?_
  obtain ⟨z22, hz22⟩ : ∃ z, z = xrem (z15 + 1) 16 := ⟨_, rfl⟩
  rw [← hz22]
  have hr22 : xrg z22 := by rw [hz22]; exact xrem_rg _ _
  have hq22 := xrem_nn (x := z15 + 1) (y := 16) (by omega) (by omega) (by omega) (by omega)
  rw [← hz22] at hq22
  refine r_puti hL xcl1 2 (j' := 2) rfl (by decide) s_6 (by decide) fl_X1_21 rfl rfl (by omega) dX1_remember_23 (fun μ1 hm1 => ?_)
  have hB1 : BI μ1 := by rw [hm1]; exact hB10c.up (by show ((2 : Int) = 1 → 0 ≤ z22 ∧ z22 ≤ 16) ∧ ((2 : Int) = 2 → 0 ≤ z22 ∧ z22 ≤ 15); omega)
  refine r_aload_n hL (x := 6) dX1_remember_26 rfl ?_
  refine r_aload_n hL (x := 6) dX1_remember_27 rfl ?_
  refine r_geti hL xcl1 1 (j' := 1) rfl (by decide) s_6 (by decide) fl_X1_17 (by decide) (by decide) dX1_remember_28 (fun hr28 => ?_)
  obtain ⟨z28, hz28⟩ : ∃ z, z = μ1 6 1 := ⟨_, rfl⟩
  rw [← hz28] at hr28 ⊢
  have hb28 : ((1 : Int) = 1 → 0 ≤ (μ1 6 1) ∧ (μ1 6 1) ≤ 16) ∧ ((1 : Int) = 2 → 0 ≤ (μ1 6 1) ∧ (μ1 6 1) ≤ 15) := hB1 6 1
  refine r_iconst hL dX1_remember_31 ?_
  refine r_iadd hL dX1_remember_32 ?_
  refine r_bipush hL dX1_remember_33 (by decide) ?_
  refine r_min hL (by omega) (by omega) ml_X1_29 sm_Lib_Math_min_name it_java_lang_Math kd_Lib_Math_min_name dX1_remember_35 ⟨Nat.le_of_ble_eq_true rfl, Nat.le_of_ble_eq_true rfl⟩ ⟨Nat.le_of_ble_eq_true rfl, Nat.le_of_ble_eq_true rfl⟩ ?_
  obtain ⟨z35, hz35⟩ : ∃ z, z = min (z28 + 1) 16 := ⟨_, rfl⟩
  rw [← hz35]
  refine r_puti hL xcl1 1 (j' := 1) rfl (by decide) s_6 (by decide) fl_X1_17 rfl rfl (by omega) dX1_remember_38 (fun μ2 hm2 => ?_)
  have hB2 : BI μ2 := by rw [hm2]; exact hB1.up (by show ((1 : Int) = 1 → 0 ≤ z35 ∧ z35 ≤ 16) ∧ ((1 : Int) = 2 → 0 ≤ z35 ∧ z35 ≤ 15); omega)
  exact r_vret hL dX1_remember_41 rfl (hK _ hB2)

set_option maxHeartbeats 4000000 in
set_option maxRecDepth 20000 in
theorem m_X1_takeBack {K : Option xV → xW → xM → Prop} {μ : xM} (hB0 : BI μ) (n : Int) (hn : xrg n) (hK : ∀ μ', BI μ' → K none WW μ') : xMet yX1_takeBack cX1_takeBack 3 none 2 47 0 0 [xR 6, xI n, xR 1] WW μ K := by
  refine xMet.go RX1 "takeBack" rfl rfl (by decide) [some (xR 6), some (xI n), some (xR 1)] (Nat.le_of_ble_eq_true rfl) rfl (fun X hL => ?_)
  have hB := hB0
  refine r_iload_n hL (x := n) dX1_takeBack_0 rfl ?_
  refine r_iconst hL dX1_takeBack_1 ?_
  refine r_icmp_lt hL (tgt := 13) dX1_takeBack_2 (by decide) (by omega) (by omega) (fun c2 => ?_) (fun c2 => ?_)
  · skip
    exact r_vret hL dX1_takeBack_13 rfl (hK _ hB)
  · skip
    refine r_iload_n hL (x := n) dX1_takeBack_5 rfl ?_
    refine r_aload_n hL (x := 6) dX1_takeBack_6 rfl ?_
    refine r_geti hL xcl1 1 (j' := 1) rfl (by decide) s_6 (by decide) fl_X1_17 (by decide) (by decide) dX1_takeBack_7 (fun hr7 => ?_)
    obtain ⟨z7, hz7⟩ : ∃ z, z = μ 6 1 := ⟨_, rfl⟩
    rw [← hz7] at hr7 ⊢
    have hb7 : ((1 : Int) = 1 → 0 ≤ (μ 6 1) ∧ (μ 6 1) ≤ 16) ∧ ((1 : Int) = 2 → 0 ≤ (μ 6 1) ∧ (μ 6 1) ≤ 15) := hB 6 1
    refine r_icmp_le hL (tgt := 14) dX1_takeBack_10 (by decide) (by omega) (by omega) (fun c10 => ?_) (fun c10 => ?_)
    · skip
      refine r_aload_n hL (x := 6) dX1_takeBack_14 rfl ?_
      refine r_aload_n hL (x := 6) dX1_takeBack_15 rfl ?_
      refine r_geti hL xcl1 2 (j' := 2) rfl (by decide) s_6 (by decide) fl_X1_21 (by decide) (by decide) dX1_takeBack_16 (fun hr16 => ?_)
      obtain ⟨z16, hz16⟩ : ∃ z, z = μ 6 2 := ⟨_, rfl⟩
      rw [← hz16] at hr16 ⊢
      have hb16 : ((2 : Int) = 1 → 0 ≤ (μ 6 2) ∧ (μ 6 2) ≤ 16) ∧ ((2 : Int) = 2 → 0 ≤ (μ 6 2) ∧ (μ 6 2) ≤ 15) := hB 6 2
      refine r_bipush hL dX1_takeBack_19 (by decide) ?_
      refine r_iadd hL dX1_takeBack_21 ?_
      refine r_iload_n hL (x := n) dX1_takeBack_22 rfl ?_
      refine r_isub hL dX1_takeBack_23 ?_
      refine r_bipush hL dX1_takeBack_24 (by decide) ?_
      refine r_irem hL dX1_takeBack_26 (by omega) (by omega) ?_
      obtain ⟨z26, hz26⟩ : ∃ z, z = xrem ((z16 + 16) - n) 16 := ⟨_, rfl⟩
      rw [← hz26]
      have hr26 : xrg z26 := by rw [hz26]; exact xrem_rg _ _
      have hq26 := xrem_nn (x := (z16 + 16) - n) (y := 16) (by omega) (by omega) (by omega) (by omega)
      rw [← hz26] at hq26
      refine r_puti hL xcl1 2 (j' := 2) rfl (by decide) s_6 (by decide) fl_X1_21 rfl rfl (by omega) dX1_takeBack_27 (fun μ1 hm1 => ?_)
      have hB1 : BI μ1 := by rw [hm1]; exact hB.up (by show ((2 : Int) = 1 → 0 ≤ z26 ∧ z26 ≤ 16) ∧ ((2 : Int) = 2 → 0 ≤ z26 ∧ z26 ≤ 15); omega)
      have hk1_6_1 : μ1 6 1 = μ 6 1 := by rw [hm1]; exact xup_j (by omega)
      refine r_aload_n hL (x := 6) dX1_takeBack_30 rfl ?_
      refine r_dup hL dX1_takeBack_31 rfl ?_
      refine r_geti hL xcl1 1 (j' := 1) rfl (by decide) s_6 (by decide) fl_X1_17 (by decide) (by decide) dX1_takeBack_32 (fun hr32 => ?_)
      obtain ⟨z32, hz32⟩ : ∃ z, z = μ1 6 1 := ⟨_, rfl⟩
      rw [← hz32] at hr32 ⊢
      have hb32 : ((1 : Int) = 1 → 0 ≤ (μ1 6 1) ∧ (μ1 6 1) ≤ 16) ∧ ((1 : Int) = 2 → 0 ≤ (μ1 6 1) ∧ (μ1 6 1) ≤ 15) := hB1 6 1
      refine r_iload_n hL (x := n) dX1_takeBack_35 rfl ?_
      refine r_isub hL dX1_takeBack_36 ?_
      refine r_puti hL xcl1 1 (j' := 1) rfl (by decide) s_6 (by decide) fl_X1_17 rfl rfl (by omega) dX1_takeBack_37 (fun μ2 hm2 => ?_)
      have hB2 : BI μ2 := by rw [hm2]; exact hB1.up (by show ((1 : Int) = 1 → 0 ≤ (z32 - n) ∧ (z32 - n) ≤ 16) ∧ ((1 : Int) = 2 → 0 ≤ (z32 - n) ∧ (z32 - n) ≤ 15); omega)
      have hk2_6_1 : μ2 6 1 = z32 - n := by rw [hm2]; exact xup_s _ _ _ _
      refine r_aload_n hL (x := 1) dX1_takeBack_40 rfl ?_
      refine r_aload_n hL (x := 6) dX1_takeBack_41 rfl ?_
      refine r_getr hL xcl1 0 (by decide) s_6 (by decide) fl_X1_11 (by decide) f_6_0 dX1_takeBack_42 ?_
      refine r_aload_n hL (x := 6) dX1_takeBack_45 rfl ?_
      refine r_geti hL xcl1 2 (j' := 2) rfl (by decide) s_6 (by decide) fl_X1_21 (by decide) (by decide) dX1_takeBack_46 (fun hr46 => ?_)
      obtain ⟨z46, hz46⟩ : ∃ z, z = μ2 6 2 := ⟨_, rfl⟩
      rw [← hz46] at hr46 ⊢
      have hb46 : ((2 : Int) = 1 → 0 ≤ (μ2 6 2) ∧ (μ2 6 2) ≤ 16) ∧ ((2 : Int) = 2 → 0 ≤ (μ2 6 2) ∧ (μ2 6 2) ≤ 15) := hB2 6 2
      obtain ⟨c, h_c, hcq, hce⟩ := f_7b (j := z46) (by omega) (by omega)
      refine r_aald hL (t := 0) dX1_takeBack_49 (by decide) s_7 (by decide) (by decide) (by omega) (by omega) hcq ?_
      refine r_callV hL (st := []) (av := [xR c]) (k := 1) (m_X5_become (μ := μ2) hB2 1 c (by decide) h_c (fun μ50c hB50c => ⟨rfl, ?_⟩)) ce_yX5_become im_yX5_become se_yX5_become ml_X1_25 xcl5 (by decide) s_1 dX1_takeBack_50 rfl (Nat.le_of_ble_eq_true rfl) ⟨Nat.le_of_ble_eq_true rfl, Nat.le_of_ble_eq_true rfl⟩ ⟨Nat.le_of_ble_eq_true rfl, Nat.le_of_ble_eq_true rfl⟩
      show X 0 0 WW μ50c 53 [some (xR 6), some (xI n), some (xR 1)] []
      exact r_vret hL dX1_takeBack_53 rfl (hK _ hB50c)
    · skip
      exact r_vret hL dX1_takeBack_13 rfl (hK _ hB)

set_option maxHeartbeats 4000000 in
set_option maxRecDepth 20000 in
theorem m_X2_between {K : Option xV → xW → xM → Prop} {μ : xM} (hB0 : BI μ) (t : Int) (ht : 0 ≤ t ∧ t ≤ 7) (u : Int) (hu : 0 ≤ u ∧ u ≤ 7) (hK : ∀ r, r = μ 101 (t * 8 + u) → 0 ≤ r ∧ r ≤ 180 → K (some (xI r)) WW μ) : xMet yX2_between cX2_between 3 (some .int) 0 0 0 0 [xR 100, xI t, xI u] WW μ K := by
  refine xMet.go RX2 "between" rfl rfl (by decide) [some (xR 100), some (xI t), some (xI u)] (Nat.le_of_ble_eq_true rfl) rfl (fun X hL => ?_)
  have hB := hB0
  refine r_aload_n hL (x := 100) dX2_between_0 rfl ?_
  refine r_getr hL xcl2 0 (by decide) s_100 (by decide) fl_X2_9 (by decide) f_100_0 dX2_between_1 ?_
  refine r_iload_n hL (x := t) dX2_between_4 rfl ?_
  refine r_bipush hL dX2_between_5 (by decide) ?_
  refine r_imul hL dX2_between_7 ?_
  refine r_iload_n hL (x := u) dX2_between_8 rfl ?_
  refine r_iadd hL dX2_between_9 ?_
  refine r_iald hL dX2_between_10 (by decide) s_101 (by decide) (by omega) (by omega) (fun hr10 => ?_)
  obtain ⟨z10, hz10⟩ : ∃ z, z = μ 101 ((t * 8) + u) := ⟨_, rfl⟩
  rw [← hz10] at hr10 ⊢
  have hb10 : 0 ≤ (μ 101 ((t * 8) + u)) ∧ (μ 101 ((t * 8) + u)) ≤ 180 := hB 101 ((t * 8) + u)
  exact r_iret hL dX2_between_11 rfl (hK _ hz10 (by omega))

set_option maxHeartbeats 4000000 in
set_option maxRecDepth 20000 in
theorem m_X2_sumTo {K : Option xV → xW → xM → Prop} {μ : xM} (hB0 : BI μ) (t : Int) (ht : 0 ≤ t ∧ t ≤ 7) (s : Int) (hs : xrg s) (hK : ∀ r, 0 ≤ r ∧ r ≤ 1440 → K (some (xI r)) WW μ) : xMet yX2_sumTo cX2_sumTo 5 (some .int) 1 22 0 0 [xR 100, xI t, xI s] WW μ K := by
  refine xMet.go RX2 "sumTo" rfl rfl (by decide) [some (xR 100), some (xI t), some (xI s), none, none] (Nat.le_of_ble_eq_true rfl) rfl (fun X hL => ?_)
  have hB := hB0
  refine r_iconst hL dX2_sumTo_0 ?_
  refine r_istore_n hL (lo' := [some (xR 100), some (xI t), some (xI s), some (xI 0), none]) dX2_sumTo_1 (by decide) rfl ?_
  refine r_iconst hL dX2_sumTo_2 ?_
  refine r_istore hL (lo' := [some (xR 100), some (xI t), some (xI s), some (xI 0), some (xI 0)]) dX2_sumTo_3 (by decide) rfl ?_
  have lp5 : ∀ (n5 : Nat) (n : Int) (u : Int), (0 ≤ n ∧ n ≤ 180 * u) → (0 ≤ u ∧ u ≤ 8) → ((8 - u).toNat) < n5 → X 0 0 WW μ 5 [some (xR 100), some (xI t), some (xI s), some (xI n), some (xI u)] [] := by
    intro n5
    induction n5 with
    | zero => intro n u h1 h2 hn; exact absurd hn (Nat.not_lt_zero _)
    | succ n5 ih5 =>
      intro n u h1 h2 hn5
      refine r_iload hL (x := u) dX2_sumTo_5 rfl ?_
      refine r_bipush hL dX2_sumTo_7 (by decide) ?_
      refine r_icmp_ge hL (tgt := 38) dX2_sumTo_9 (by decide) (by omega) (by omega) (fun c9 => ?_) (fun c9 => ?_)
      · skip
        refine r_iload_n hL (x := n) dX2_sumTo_38 rfl ?_
        exact r_iret hL dX2_sumTo_39 rfl (hK _ (by omega))
      · skip
        refine r_iload_n hL (x := s) dX2_sumTo_12 rfl ?_
        refine r_iload hL (x := u) dX2_sumTo_13 rfl ?_
        refine r_ishr hL dX2_sumTo_15 ?_
        obtain ⟨z15, hz15⟩ : ∃ z, z = xshr s u := ⟨_, rfl⟩
        rw [← hz15]
        have hr15 : xrg z15 := by rw [hz15]; exact xshr_rg _ _
        refine r_iconst hL dX2_sumTo_16 ?_
        refine r_iand hL dX2_sumTo_17 ?_
        obtain ⟨z17, hz17⟩ : ∃ z, z = xand z15 1 := ⟨_, rfl⟩
        rw [← hz17]
        have hr17 : xrg z17 := by rw [hz17]; exact xand_rg _ _
        refine r_iconst hL dX2_sumTo_18 ?_
        refine r_icmp_ne hL (tgt := 32) dX2_sumTo_19 (by decide) (by omega) (by omega) (fun c19 => ?_) (fun c19 => ?_)
        · skip
          refine r_iinc hL (x := u) (lo' := [some (xR 100), some (xI t), some (xI s), some (xI n), some (xI (u + 1))]) dX2_sumTo_32 (by decide) rfl rfl ?_
          refine r_goto hL (tgt := 5) dX2_sumTo_35 (by decide) ?_
          exact ih5 n (u + 1) (by omega) (by omega) (by omega)
        · skip
          refine r_iload_n hL (x := n) dX2_sumTo_22 rfl ?_
          refine r_aload_n hL (x := 100) dX2_sumTo_23 rfl ?_
          refine r_iload_n hL (x := t) dX2_sumTo_24 rfl ?_
          refine r_iload hL (x := u) dX2_sumTo_25 rfl ?_
          refine r_callV hL (st := [xI n]) (av := [xI t, xI u]) (k := 100) (m_X2_between (μ := μ) hB t (by omega) u (by omega) (fun z27 hc27 hc27_1 => ⟨rfl, ?_⟩)) ce_yX2_between im_yX2_between se_yX2_between ml_X2_41 xcl2 (by decide) s_100 dX2_sumTo_27 rfl (Nat.le_of_ble_eq_true rfl) ⟨Nat.le_of_ble_eq_true rfl, Nat.le_of_ble_eq_true rfl⟩ ⟨Nat.le_of_ble_eq_true rfl, Nat.le_of_ble_eq_true rfl⟩
          show X 0 0 WW μ 30 [some (xR 100), some (xI t), some (xI s), some (xI n), some (xI u)] [xI z27, xI n]
          refine r_iadd hL dX2_sumTo_30 ?_
          refine r_istore_n hL (lo' := [some (xR 100), some (xI t), some (xI s), some (xI (n + z27)), some (xI u)]) dX2_sumTo_31 (by decide) rfl ?_
          refine r_iinc hL (x := u) (lo' := [some (xR 100), some (xI t), some (xI s), some (xI (n + z27)), some (xI (u + 1))]) dX2_sumTo_32 (by decide) rfl rfl ?_
          refine r_goto hL (tgt := 5) dX2_sumTo_35 (by decide) ?_
          exact ih5 (n + z27) (u + 1) (by omega) (by omega) (by omega)
  exact lp5 _ 0 0 (by omega) (by omega) (Nat.lt_succ_self _)

set_option maxHeartbeats 4000000 in
set_option maxRecDepth 20000 in
theorem m_X2_middleOf {K : Option xV → xW → xM → Prop} {μ : xM} (hB0 : BI μ) (s : Int) (hs : xrg s) (hK : ∀ r, -1 ≤ r ∧ r ≤ 7 → K (some (xI r)) WW μ) : xMet yX2_middleOf cX2_middleOf 6 (some .int) 2 46 0 0 [xR 100, xI s] WW μ K := by
  refine xMet.go RX2 "middleOf" rfl rfl (by decide) [some (xR 100), some (xI s), none, none, none, none] (Nat.le_of_ble_eq_true rfl) rfl (fun X hL => ?_)
  have hB := hB0
  refine r_iconst hL dX2_middleOf_0 ?_
  refine r_istore_n hL (lo' := [some (xR 100), some (xI s), some (xI (-1)), none, none, none]) dX2_middleOf_1 (by decide) rfl ?_
  refine r_iconst hL dX2_middleOf_2 ?_
  refine r_istore_n hL (lo' := [some (xR 100), some (xI s), some (xI (-1)), some (xI 0), none, none]) dX2_middleOf_3 (by decide) rfl ?_
  refine r_iconst hL dX2_middleOf_4 ?_
  refine r_istore hL (lo' := [some (xR 100), some (xI s), some (xI (-1)), some (xI 0), some (xI 0), none]) dX2_middleOf_5 (by decide) rfl ?_
  have lp7 : ∀ (n7 : Nat) (q : Int) (n : Int) (t : Int), (-1 ≤ q ∧ q ≤ 7) → (0 ≤ n ∧ n ≤ 1440) → (0 ≤ t ∧ t ≤ 8) → ((8 - t).toNat) < n7 → X 0 0 WW μ 7 [some (xR 100), some (xI s), some (xI q), some (xI n), some (xI t), none] [] := by
    intro n7
    induction n7 with
    | zero => intro q n t h1 h2 h3 hn; exact absurd hn (Nat.not_lt_zero _)
    | succ n7 ih7 =>
      intro q n t h1 h2 h3 hn7
      refine r_iload hL (x := t) dX2_middleOf_7 rfl ?_
      refine r_bipush hL dX2_middleOf_9 (by decide) ?_
      refine r_icmp_ge hL (tgt := 56) dX2_middleOf_11 (by decide) (by omega) (by omega) (fun c11 => ?_) (fun c11 => ?_)
      · skip
        refine r_iload_n hL (x := q) dX2_middleOf_56 rfl ?_
        exact r_iret hL dX2_middleOf_57 rfl (hK _ (by omega))
      · skip
        refine r_iload_n hL (x := s) dX2_middleOf_14 rfl ?_
        refine r_iload hL (x := t) dX2_middleOf_15 rfl ?_
        refine r_ishr hL dX2_middleOf_17 ?_
        obtain ⟨z17, hz17⟩ : ∃ z, z = xshr s t := ⟨_, rfl⟩
        rw [← hz17]
        have hr17 : xrg z17 := by rw [hz17]; exact xshr_rg _ _
        refine r_iconst hL dX2_middleOf_18 ?_
        refine r_iand hL dX2_middleOf_19 ?_
        obtain ⟨z19, hz19⟩ : ∃ z, z = xand z17 1 := ⟨_, rfl⟩
        rw [← hz19]
        have hr19 : xrg z19 := by rw [hz19]; exact xand_rg _ _
        refine r_iconst hL dX2_middleOf_20 ?_
        refine r_icmp_ne hL (tgt := 50) dX2_middleOf_21 (by decide) (by omega) (by omega) (fun c21 => ?_) (fun c21 => ?_)
        · skip
          refine r_iinc hL (x := t) (lo' := [some (xR 100), some (xI s), some (xI q), some (xI n), some (xI (t + 1)), none]) dX2_middleOf_50 (by decide) rfl rfl ?_
          refine r_goto hL (tgt := 7) dX2_middleOf_53 (by decide) ?_
          exact ih7 q n (t + 1) (by omega) (by omega) (by omega) (by omega)
        · skip
          refine r_aload_n hL (x := 100) dX2_middleOf_24 rfl ?_
          refine r_iload hL (x := t) dX2_middleOf_25 rfl ?_
          refine r_iload_n hL (x := s) dX2_middleOf_27 rfl ?_
          refine r_callV hL (st := []) (av := [xI t, xI s]) (k := 100) (m_X2_sumTo (μ := μ) hB t (by omega) s (by omega) (fun z28 hc28 => ⟨rfl, ?_⟩)) ce_yX2_sumTo im_yX2_sumTo se_yX2_sumTo ml_X2_37 xcl2 (by decide) s_100 dX2_middleOf_28 rfl (Nat.le_of_ble_eq_true rfl) ⟨Nat.le_of_ble_eq_true rfl, Nat.le_of_ble_eq_true rfl⟩ ⟨Nat.le_of_ble_eq_true rfl, Nat.le_of_ble_eq_true rfl⟩
          show X 0 0 WW μ 31 [some (xR 100), some (xI s), some (xI q), some (xI n), some (xI t), none] [xI z28]
          refine r_istore hL (lo' := [some (xR 100), some (xI s), some (xI q), some (xI n), some (xI t), some (xI z28)]) dX2_middleOf_31 (by decide) rfl ?_
          refine r_iload_n hL (x := q) dX2_middleOf_33 rfl ?_
          refine r_iconst hL dX2_middleOf_34 ?_
          refine r_icmp_eq hL (tgt := 44) dX2_middleOf_35 (by decide) (by omega) (by omega) (fun c35 => ?_) (fun c35 => ?_)
          · skip
            refine r_iload hL (x := t) dX2_middleOf_44 rfl ?_
            refine r_istore_n hL (lo' := [some (xR 100), some (xI s), some (xI t), some (xI n), some (xI t), some (xI z28)]) dX2_middleOf_46 (by decide) rfl ?_
            refine r_iload hL (x := z28) dX2_middleOf_47 rfl ?_
            refine r_istore_n hL (lo' := [some (xR 100), some (xI s), some (xI t), some (xI z28), some (xI t), some (xI z28)]) dX2_middleOf_49 (by decide) rfl ?_
            refine r_iinc hL (x := t) (lo' := [some (xR 100), some (xI s), some (xI t), some (xI z28), some (xI (t + 1)), some (xI z28)]) dX2_middleOf_50 (by decide) rfl rfl ?_
            refine r_goto hL (tgt := 7) dX2_middleOf_53 (by decide) ?_
            refine r_drop hL (lo' := [some (xR 100), some (xI s), some (xI t), some (xI z28), some (xI (t + 1)), none]) [5] rfl ?_
            exact ih7 t z28 (t + 1) (by omega) (by omega) (by omega) (by omega)
          · skip
            refine r_iload hL (x := z28) dX2_middleOf_38 rfl ?_
            refine r_iload_n hL (x := n) dX2_middleOf_40 rfl ?_
            refine r_icmp_ge hL (tgt := 50) dX2_middleOf_41 (by decide) (by omega) (by omega) (fun c41 => ?_) (fun c41 => ?_)
            · skip
              refine r_iinc hL (x := t) (lo' := [some (xR 100), some (xI s), some (xI q), some (xI n), some (xI (t + 1)), some (xI z28)]) dX2_middleOf_50 (by decide) rfl rfl ?_
              refine r_goto hL (tgt := 7) dX2_middleOf_53 (by decide) ?_
              refine r_drop hL (lo' := [some (xR 100), some (xI s), some (xI q), some (xI n), some (xI (t + 1)), none]) [5] rfl ?_
              exact ih7 q n (t + 1) (by omega) (by omega) (by omega) (by omega)
            · skip
              refine r_iload hL (x := t) dX2_middleOf_44 rfl ?_
              refine r_istore_n hL (lo' := [some (xR 100), some (xI s), some (xI t), some (xI n), some (xI t), some (xI z28)]) dX2_middleOf_46 (by decide) rfl ?_
              refine r_iload hL (x := z28) dX2_middleOf_47 rfl ?_
              refine r_istore_n hL (lo' := [some (xR 100), some (xI s), some (xI t), some (xI z28), some (xI t), some (xI z28)]) dX2_middleOf_49 (by decide) rfl ?_
              refine r_iinc hL (x := t) (lo' := [some (xR 100), some (xI s), some (xI t), some (xI z28), some (xI (t + 1)), some (xI z28)]) dX2_middleOf_50 (by decide) rfl rfl ?_
              refine r_goto hL (tgt := 7) dX2_middleOf_53 (by decide) ?_
              refine r_drop hL (lo' := [some (xR 100), some (xI s), some (xI t), some (xI z28), some (xI (t + 1)), none]) [5] rfl ?_
              exact ih7 t z28 (t + 1) (by omega) (by omega) (by omega) (by omega)
  exact lp7 _ (-1) 0 0 (by omega) (by omega) (by omega) (Nat.lt_succ_self _)

set_option maxHeartbeats 4000000 in
set_option maxRecDepth 20000 in
theorem m_X0_firstOtherwise {K : Option xV → xW → xM → Prop} {μ : xM} (hB0 : BI μ) (n : Int) (hn : 0 ≤ n ∧ n ≤ 8) (hK : ∀ r, -1 ≤ r ∧ r ≤ 19 → K (some (xI r)) WW μ) : xMet yX0_firstOtherwise cX0_firstOtherwise 5 (some .int) 1 22 0 0 [xR 88, xR 100, xI n] WW μ K := by
  refine xMet.go RX0 "firstOtherwise" rfl rfl (by decide) [some (xR 88), some (xR 100), some (xI n), none, none] (Nat.le_of_ble_eq_true rfl) rfl (fun X hL => ?_)
  have hB := hB0
  refine r_iconst hL dX0_firstOtherwise_0 ?_
  refine r_istore_n hL (lo' := [some (xR 88), some (xR 100), some (xI n), some (xI 0), none]) dX0_firstOtherwise_1 (by decide) rfl ?_
  have lp2 : ∀ (n2 : Nat) (k : Int), (0 ≤ k ∧ k ≤ 20) → ((20 - k).toNat) < n2 → X 0 0 WW μ 2 [some (xR 88), some (xR 100), some (xI n), some (xI k), none] [] := by
    intro n2
    induction n2 with
    | zero => intro k h1 hn; exact absurd hn (Nat.not_lt_zero _)
    | succ n2 ih2 =>
      intro k h1 hn2
      refine r_iload_n hL (x := k) dX0_firstOtherwise_2 rfl ?_
      refine r_aload_n hL (x := 88) dX0_firstOtherwise_3 rfl ?_
      refine r_geti hL xcl0 3 (j' := 3) rfl (by decide) s_88 (by decide) fl_X0_21 (by decide) (by decide) dX0_firstOtherwise_4 (fun hr4 => ?_)
      obtain ⟨z4, hz4⟩ : ∃ z, z = μ 88 3 := ⟨_, rfl⟩
      rw [← hz4] at hr4 ⊢
      have hb4 : (3 : Int) = 3 → 0 ≤ (μ 88 3) ∧ (μ 88 3) ≤ 20 := hB 88 3
      refine r_icmp_ge hL (tgt := 75) dX0_firstOtherwise_7 (by decide) (by omega) (by omega) (fun c7 => ?_) (fun c7 => ?_)
      · skip
        refine r_iconst hL dX0_firstOtherwise_75 ?_
        exact r_iret hL dX0_firstOtherwise_76 rfl (hK _ (by omega))
      · skip
        refine r_aload_n hL (x := 88) dX0_firstOtherwise_10 rfl ?_
        refine r_getr hL xcl0 0 (by decide) s_88 (by decide) fl_X0_9 (by decide) f_88_0 dX0_firstOtherwise_11 ?_
        refine r_iload_n hL (x := k) dX0_firstOtherwise_14 rfl ?_
        refine r_iald hL dX0_firstOtherwise_15 (by decide) s_89 (by decide) (by omega) (by omega) (fun hr15 => ?_)
        obtain ⟨z15, hz15⟩ : ∃ z, z = μ 89 k := ⟨_, rfl⟩
        rw [← hz15] at hr15 ⊢
        have hb15 : 0 ≤ (μ 89 k) ∧ (μ 89 k) ≤ 7 := hB 89 k
        refine r_iload_n hL (x := n) dX0_firstOtherwise_16 rfl ?_
        refine r_icmp_ge hL (tgt := 30) dX0_firstOtherwise_17 (by decide) (by omega) (by omega) (fun c17 => ?_) (fun c17 => ?_)
        · skip
          refine r_iconst hL dX0_firstOtherwise_30 ?_
          refine r_goto hL (tgt := 35) dX0_firstOtherwise_31 (by decide) ?_
          refine r_istore hL (lo' := [some (xR 88), some (xR 100), some (xI n), some (xI k), some (xI 1)]) dX0_firstOtherwise_35 (by decide) rfl ?_
          refine r_iload hL (x := 1) dX0_firstOtherwise_37 rfl ?_
          refine r_if_ne hL (tgt := 67) dX0_firstOtherwise_39 (by decide) (by omega) (fun c39 => ?_) (fun c39 => ?_)
          · skip
            refine r_iload_n hL (x := k) dX0_firstOtherwise_67 rfl ?_
            exact r_iret hL dX0_firstOtherwise_68 rfl (hK _ (by omega))
          · skip
            refine r_aload_n hL (x := 100) dX0_firstOtherwise_42 rfl ?_
            refine r_aload_n hL (x := 88) dX0_firstOtherwise_43 rfl ?_
            refine r_getr hL xcl0 0 (by decide) s_88 (by decide) fl_X0_9 (by decide) f_88_0 dX0_firstOtherwise_44 ?_
            refine r_iload_n hL (x := k) dX0_firstOtherwise_47 rfl ?_
            refine r_iald hL dX0_firstOtherwise_48 (by decide) s_89 (by decide) (by omega) (by omega) (fun hr48 => ?_)
            obtain ⟨z48, hz48⟩ : ∃ z, z = μ 89 k := ⟨_, rfl⟩
            rw [← hz48] at hr48 ⊢
            have hb48 : 0 ≤ (μ 89 k) ∧ (μ 89 k) ≤ 7 := hB 89 k
            refine r_aload_n hL (x := 88) dX0_firstOtherwise_49 rfl ?_
            refine r_getr hL xcl0 1 (by decide) s_88 (by decide) fl_X0_15 (by decide) f_88_1 dX0_firstOtherwise_50 ?_
            refine r_iload_n hL (x := k) dX0_firstOtherwise_53 rfl ?_
            refine r_iald hL dX0_firstOtherwise_54 (by decide) s_90 (by decide) (by omega) (by omega) (fun hr54 => ?_)
            obtain ⟨z54, hz54⟩ : ∃ z, z = μ 90 k := ⟨_, rfl⟩
            rw [← hz54] at hr54 ⊢
            have hb54 : 0 ≤ (μ 90 k) ∧ (μ 90 k) ≤ 7 := hB 90 k
            refine r_callV hL (st := []) (av := [xI z48, xI z54]) (k := 100) (m_X2_between (μ := μ) hB z48 (by omega) z54 (by omega) (fun z55 hc55 hc55_1 => ⟨rfl, ?_⟩)) ce_yX2_between im_yX2_between se_yX2_between ml_X0_25 xcl2 (by decide) s_100 dX0_firstOtherwise_55 rfl (Nat.le_of_ble_eq_true rfl) ⟨Nat.le_of_ble_eq_true rfl, Nat.le_of_ble_eq_true rfl⟩ ⟨Nat.le_of_ble_eq_true rfl, Nat.le_of_ble_eq_true rfl⟩
            show X 0 0 WW μ 58 [some (xR 88), some (xR 100), some (xI n), some (xI k), some (xI 1)] [xI z55]
            refine r_aload_n hL (x := 88) dX0_firstOtherwise_58 rfl ?_
            refine r_getr hL xcl0 2 (by decide) s_88 (by decide) fl_X0_18 (by decide) f_88_2 dX0_firstOtherwise_59 ?_
            refine r_iload_n hL (x := k) dX0_firstOtherwise_62 rfl ?_
            refine r_iald hL dX0_firstOtherwise_63 (by decide) s_91 (by decide) (by omega) (by omega) (fun hr63 => ?_)
            obtain ⟨z63, hz63⟩ : ∃ z, z = μ 91 k := ⟨_, rfl⟩
            rw [← hz63] at hr63 ⊢
            refine r_icmp_eq hL (tgt := 69) dX0_firstOtherwise_64 (by decide) (by omega) (by omega) (fun c64 => ?_) (fun c64 => ?_)
            · skip
              refine r_iinc hL (x := k) (lo' := [some (xR 88), some (xR 100), some (xI n), some (xI (k + 1)), some (xI 1)]) dX0_firstOtherwise_69 (by decide) rfl rfl ?_
              refine r_goto hL (tgt := 2) dX0_firstOtherwise_72 (by decide) ?_
              refine r_drop hL (lo' := [some (xR 88), some (xR 100), some (xI n), some (xI (k + 1)), none]) [4] rfl ?_
              exact ih2 (k + 1) (by omega) (by omega)
            · skip
              refine r_iload_n hL (x := k) dX0_firstOtherwise_67 rfl ?_
              exact r_iret hL dX0_firstOtherwise_68 rfl (hK _ (by omega))
        · skip
          refine r_aload_n hL (x := 88) dX0_firstOtherwise_20 rfl ?_
          refine r_getr hL xcl0 1 (by decide) s_88 (by decide) fl_X0_15 (by decide) f_88_1 dX0_firstOtherwise_21 ?_
          refine r_iload_n hL (x := k) dX0_firstOtherwise_24 rfl ?_
          refine r_iald hL dX0_firstOtherwise_25 (by decide) s_90 (by decide) (by omega) (by omega) (fun hr25 => ?_)
          obtain ⟨z25, hz25⟩ : ∃ z, z = μ 90 k := ⟨_, rfl⟩
          rw [← hz25] at hr25 ⊢
          have hb25 : 0 ≤ (μ 90 k) ∧ (μ 90 k) ≤ 7 := hB 90 k
          refine r_iload_n hL (x := n) dX0_firstOtherwise_26 rfl ?_
          refine r_icmp_lt hL (tgt := 34) dX0_firstOtherwise_27 (by decide) (by omega) (by omega) (fun c27 => ?_) (fun c27 => ?_)
          · skip
            refine r_iconst hL dX0_firstOtherwise_34 ?_
            refine r_istore hL (lo' := [some (xR 88), some (xR 100), some (xI n), some (xI k), some (xI 0)]) dX0_firstOtherwise_35 (by decide) rfl ?_
            refine r_iload hL (x := 0) dX0_firstOtherwise_37 rfl ?_
            refine r_if_ne hL (tgt := 67) dX0_firstOtherwise_39 (by decide) (by omega) (fun c39 => ?_) (fun c39 => ?_)
            · skip
              refine r_iload_n hL (x := k) dX0_firstOtherwise_67 rfl ?_
              exact r_iret hL dX0_firstOtherwise_68 rfl (hK _ (by omega))
            · skip
              refine r_aload_n hL (x := 100) dX0_firstOtherwise_42 rfl ?_
              refine r_aload_n hL (x := 88) dX0_firstOtherwise_43 rfl ?_
              refine r_getr hL xcl0 0 (by decide) s_88 (by decide) fl_X0_9 (by decide) f_88_0 dX0_firstOtherwise_44 ?_
              refine r_iload_n hL (x := k) dX0_firstOtherwise_47 rfl ?_
              refine r_iald hL dX0_firstOtherwise_48 (by decide) s_89 (by decide) (by omega) (by omega) (fun hr48 => ?_)
              obtain ⟨z48, hz48⟩ : ∃ z, z = μ 89 k := ⟨_, rfl⟩
              rw [← hz48] at hr48 ⊢
              have hb48 : 0 ≤ (μ 89 k) ∧ (μ 89 k) ≤ 7 := hB 89 k
              refine r_aload_n hL (x := 88) dX0_firstOtherwise_49 rfl ?_
              refine r_getr hL xcl0 1 (by decide) s_88 (by decide) fl_X0_15 (by decide) f_88_1 dX0_firstOtherwise_50 ?_
              refine r_iload_n hL (x := k) dX0_firstOtherwise_53 rfl ?_
              refine r_iald hL dX0_firstOtherwise_54 (by decide) s_90 (by decide) (by omega) (by omega) (fun hr54 => ?_)
              obtain ⟨z54, hz54⟩ : ∃ z, z = μ 90 k := ⟨_, rfl⟩
              rw [← hz54] at hr54 ⊢
              have hb54 : 0 ≤ (μ 90 k) ∧ (μ 90 k) ≤ 7 := hB 90 k
              refine r_callV hL (st := []) (av := [xI z48, xI z54]) (k := 100) (m_X2_between (μ := μ) hB z48 (by omega) z54 (by omega) (fun z55 hc55 hc55_1 => ⟨rfl, ?_⟩)) ce_yX2_between im_yX2_between se_yX2_between ml_X0_25 xcl2 (by decide) s_100 dX0_firstOtherwise_55 rfl (Nat.le_of_ble_eq_true rfl) ⟨Nat.le_of_ble_eq_true rfl, Nat.le_of_ble_eq_true rfl⟩ ⟨Nat.le_of_ble_eq_true rfl, Nat.le_of_ble_eq_true rfl⟩
              show X 0 0 WW μ 58 [some (xR 88), some (xR 100), some (xI n), some (xI k), some (xI 0)] [xI z55]
              refine r_aload_n hL (x := 88) dX0_firstOtherwise_58 rfl ?_
              refine r_getr hL xcl0 2 (by decide) s_88 (by decide) fl_X0_18 (by decide) f_88_2 dX0_firstOtherwise_59 ?_
              refine r_iload_n hL (x := k) dX0_firstOtherwise_62 rfl ?_
              refine r_iald hL dX0_firstOtherwise_63 (by decide) s_91 (by decide) (by omega) (by omega) (fun hr63 => ?_)
              obtain ⟨z63, hz63⟩ : ∃ z, z = μ 91 k := ⟨_, rfl⟩
              rw [← hz63] at hr63 ⊢
              refine r_icmp_eq hL (tgt := 69) dX0_firstOtherwise_64 (by decide) (by omega) (by omega) (fun c64 => ?_) (fun c64 => ?_)
              · skip
                refine r_iinc hL (x := k) (lo' := [some (xR 88), some (xR 100), some (xI n), some (xI (k + 1)), some (xI 0)]) dX0_firstOtherwise_69 (by decide) rfl rfl ?_
                refine r_goto hL (tgt := 2) dX0_firstOtherwise_72 (by decide) ?_
                refine r_drop hL (lo' := [some (xR 88), some (xR 100), some (xI n), some (xI (k + 1)), none]) [4] rfl ?_
                exact ih2 (k + 1) (by omega) (by omega)
              · skip
                refine r_iload_n hL (x := k) dX0_firstOtherwise_67 rfl ?_
                exact r_iret hL dX0_firstOtherwise_68 rfl (hK _ (by omega))
          · skip
            refine r_iconst hL dX0_firstOtherwise_30 ?_
            refine r_goto hL (tgt := 35) dX0_firstOtherwise_31 (by decide) ?_
            refine r_istore hL (lo' := [some (xR 88), some (xR 100), some (xI n), some (xI k), some (xI 1)]) dX0_firstOtherwise_35 (by decide) rfl ?_
            refine r_iload hL (x := 1) dX0_firstOtherwise_37 rfl ?_
            refine r_if_ne hL (tgt := 67) dX0_firstOtherwise_39 (by decide) (by omega) (fun c39 => ?_) (fun c39 => ?_)
            · skip
              refine r_iload_n hL (x := k) dX0_firstOtherwise_67 rfl ?_
              exact r_iret hL dX0_firstOtherwise_68 rfl (hK _ (by omega))
            · skip
              refine r_aload_n hL (x := 100) dX0_firstOtherwise_42 rfl ?_
              refine r_aload_n hL (x := 88) dX0_firstOtherwise_43 rfl ?_
              refine r_getr hL xcl0 0 (by decide) s_88 (by decide) fl_X0_9 (by decide) f_88_0 dX0_firstOtherwise_44 ?_
              refine r_iload_n hL (x := k) dX0_firstOtherwise_47 rfl ?_
              refine r_iald hL dX0_firstOtherwise_48 (by decide) s_89 (by decide) (by omega) (by omega) (fun hr48 => ?_)
              obtain ⟨z48, hz48⟩ : ∃ z, z = μ 89 k := ⟨_, rfl⟩
              rw [← hz48] at hr48 ⊢
              have hb48 : 0 ≤ (μ 89 k) ∧ (μ 89 k) ≤ 7 := hB 89 k
              refine r_aload_n hL (x := 88) dX0_firstOtherwise_49 rfl ?_
              refine r_getr hL xcl0 1 (by decide) s_88 (by decide) fl_X0_15 (by decide) f_88_1 dX0_firstOtherwise_50 ?_
              refine r_iload_n hL (x := k) dX0_firstOtherwise_53 rfl ?_
              refine r_iald hL dX0_firstOtherwise_54 (by decide) s_90 (by decide) (by omega) (by omega) (fun hr54 => ?_)
              obtain ⟨z54, hz54⟩ : ∃ z, z = μ 90 k := ⟨_, rfl⟩
              rw [← hz54] at hr54 ⊢
              have hb54 : 0 ≤ (μ 90 k) ∧ (μ 90 k) ≤ 7 := hB 90 k
              refine r_callV hL (st := []) (av := [xI z48, xI z54]) (k := 100) (m_X2_between (μ := μ) hB z48 (by omega) z54 (by omega) (fun z55 hc55 hc55_1 => ⟨rfl, ?_⟩)) ce_yX2_between im_yX2_between se_yX2_between ml_X0_25 xcl2 (by decide) s_100 dX0_firstOtherwise_55 rfl (Nat.le_of_ble_eq_true rfl) ⟨Nat.le_of_ble_eq_true rfl, Nat.le_of_ble_eq_true rfl⟩ ⟨Nat.le_of_ble_eq_true rfl, Nat.le_of_ble_eq_true rfl⟩
              show X 0 0 WW μ 58 [some (xR 88), some (xR 100), some (xI n), some (xI k), some (xI 1)] [xI z55]
              refine r_aload_n hL (x := 88) dX0_firstOtherwise_58 rfl ?_
              refine r_getr hL xcl0 2 (by decide) s_88 (by decide) fl_X0_18 (by decide) f_88_2 dX0_firstOtherwise_59 ?_
              refine r_iload_n hL (x := k) dX0_firstOtherwise_62 rfl ?_
              refine r_iald hL dX0_firstOtherwise_63 (by decide) s_91 (by decide) (by omega) (by omega) (fun hr63 => ?_)
              obtain ⟨z63, hz63⟩ : ∃ z, z = μ 91 k := ⟨_, rfl⟩
              rw [← hz63] at hr63 ⊢
              refine r_icmp_eq hL (tgt := 69) dX0_firstOtherwise_64 (by decide) (by omega) (by omega) (fun c64 => ?_) (fun c64 => ?_)
              · skip
                refine r_iinc hL (x := k) (lo' := [some (xR 88), some (xR 100), some (xI n), some (xI (k + 1)), some (xI 1)]) dX0_firstOtherwise_69 (by decide) rfl rfl ?_
                refine r_goto hL (tgt := 2) dX0_firstOtherwise_72 (by decide) ?_
                refine r_drop hL (lo' := [some (xR 88), some (xR 100), some (xI n), some (xI (k + 1)), none]) [4] rfl ?_
                exact ih2 (k + 1) (by omega) (by omega)
              · skip
                refine r_iload_n hL (x := k) dX0_firstOtherwise_67 rfl ?_
                exact r_iret hL dX0_firstOtherwise_68 rfl (hK _ (by omega))
  exact lp2 _ 0 (by omega) (Nat.lt_succ_self _)

set_option maxHeartbeats 4000000 in
set_option maxRecDepth 20000 in
theorem m_X0_add {K : Option xV → xW → xM → Prop} {μ : xM} (hB0 : BI μ) (t : Int) (ht : 0 ≤ t ∧ t ≤ 7) (u : Int) (hu : 0 ≤ u ∧ u ≤ 7) (v : Int) (hv : xrg v) (hK : ∀ μ', BI μ' → K none WW μ') : xMet yX0_add cX0_add 4 none 0 0 0 0 [xR 88, xI t, xI u, xI v] WW μ K := by
  refine xMet.go RX0 "add" rfl rfl (by decide) [some (xR 88), some (xI t), some (xI u), some (xI v)] (Nat.le_of_ble_eq_true rfl) rfl (fun X hL => ?_)
  have hB := hB0
  refine r_aload_n hL (x := 88) dX0_add_0 rfl ?_
  refine r_geti hL xcl0 3 (j' := 3) rfl (by decide) s_88 (by decide) fl_X0_21 (by decide) (by decide) dX0_add_1 (fun hr1 => ?_)
  obtain ⟨z1, hz1⟩ : ∃ z, z = μ 88 3 := ⟨_, rfl⟩
  rw [← hz1] at hr1 ⊢
  have hb1 : (3 : Int) = 3 → 0 ≤ (μ 88 3) ∧ (μ 88 3) ≤ 20 := hB 88 3
  refine r_bipush hL dX0_add_4 (by decide) ?_
  refine r_icmp_lt hL (tgt := 10) dX0_add_6 (by decide) (by omega) (by omega) (fun c6 => ?_) (fun c6 => ?_)
  · skip
    refine r_aload_n hL (x := 88) dX0_add_10 rfl ?_
    refine r_getr hL xcl0 0 (by decide) s_88 (by decide) fl_X0_9 (by decide) f_88_0 dX0_add_11 ?_
    refine r_aload_n hL (x := 88) dX0_add_14 rfl ?_
    refine r_geti hL xcl0 3 (j' := 3) rfl (by decide) s_88 (by decide) fl_X0_21 (by decide) (by decide) dX0_add_15 (fun hr15 => ?_)
    obtain ⟨z15, hz15⟩ : ∃ z, z = μ 88 3 := ⟨_, rfl⟩
    rw [← hz15] at hr15 ⊢
    have hb15 : (3 : Int) = 3 → 0 ≤ (μ 88 3) ∧ (μ 88 3) ≤ 20 := hB 88 3
    refine r_iload_n hL (x := t) dX0_add_18 rfl ?_
    refine r_iast hL dX0_add_19 (by decide) s_89 (by decide) (by omega) (by omega) (by omega) (fun μ1 hm1 => ?_)
    have hB1 : BI μ1 := by rw [hm1]; exact hB.up (by show 0 ≤ t ∧ t ≤ 7; omega)
    have hk1_88_3 : μ1 88 3 = μ 88 3 := by rw [hm1]; exact congrFun (xup_c (by decide)) _
    refine r_aload_n hL (x := 88) dX0_add_20 rfl ?_
    refine r_getr hL xcl0 1 (by decide) s_88 (by decide) fl_X0_15 (by decide) f_88_1 dX0_add_21 ?_
    refine r_aload_n hL (x := 88) dX0_add_24 rfl ?_
    refine r_geti hL xcl0 3 (j' := 3) rfl (by decide) s_88 (by decide) fl_X0_21 (by decide) (by decide) dX0_add_25 (fun hr25 => ?_)
    obtain ⟨z25, hz25⟩ : ∃ z, z = μ1 88 3 := ⟨_, rfl⟩
    rw [← hz25] at hr25 ⊢
    have hb25 : (3 : Int) = 3 → 0 ≤ (μ1 88 3) ∧ (μ1 88 3) ≤ 20 := hB1 88 3
    refine r_iload_n hL (x := u) dX0_add_28 rfl ?_
    refine r_iast hL dX0_add_29 (by decide) s_90 (by decide) (by omega) (by omega) (by omega) (fun μ2 hm2 => ?_)
    have hB2 : BI μ2 := by rw [hm2]; exact hB1.up (by show 0 ≤ u ∧ u ≤ 7; omega)
    have hk2_88_3 : μ2 88 3 = μ1 88 3 := by rw [hm2]; exact congrFun (xup_c (by decide)) _
    refine r_aload_n hL (x := 88) dX0_add_30 rfl ?_
    refine r_getr hL xcl0 2 (by decide) s_88 (by decide) fl_X0_18 (by decide) f_88_2 dX0_add_31 ?_
    refine r_aload_n hL (x := 88) dX0_add_34 rfl ?_
    refine r_geti hL xcl0 3 (j' := 3) rfl (by decide) s_88 (by decide) fl_X0_21 (by decide) (by decide) dX0_add_35 (fun hr35 => ?_)
    obtain ⟨z35, hz35⟩ : ∃ z, z = μ2 88 3 := ⟨_, rfl⟩
    rw [← hz35] at hr35 ⊢
    have hb35 : (3 : Int) = 3 → 0 ≤ (μ2 88 3) ∧ (μ2 88 3) ≤ 20 := hB2 88 3
    refine r_iload_n hL (x := v) dX0_add_38 rfl ?_
    refine r_iast hL dX0_add_39 (by decide) s_91 (by decide) (by omega) (by omega) (by omega) (fun μ3 hm3 => ?_)
    have hB3 : BI μ3 := by rw [hm3]; exact hB2.up trivial
    have hk3_88_3 : μ3 88 3 = μ2 88 3 := by rw [hm3]; exact congrFun (xup_c (by decide)) _
    refine r_aload_n hL (x := 88) dX0_add_40 rfl ?_
    refine r_dup hL dX0_add_41 rfl ?_
    refine r_geti hL xcl0 3 (j' := 3) rfl (by decide) s_88 (by decide) fl_X0_21 (by decide) (by decide) dX0_add_42 (fun hr42 => ?_)
    obtain ⟨z42, hz42⟩ : ∃ z, z = μ3 88 3 := ⟨_, rfl⟩
    rw [← hz42] at hr42 ⊢
    have hb42 : (3 : Int) = 3 → 0 ≤ (μ3 88 3) ∧ (μ3 88 3) ≤ 20 := hB3 88 3
    refine r_iconst hL dX0_add_45 ?_
    refine r_iadd hL dX0_add_46 ?_
    refine r_puti hL xcl0 3 (j' := 3) rfl (by decide) s_88 (by decide) fl_X0_21 rfl rfl (by omega) dX0_add_47 (fun μ4 hm4 => ?_)
    have hB4 : BI μ4 := by rw [hm4]; exact hB3.up (by show (3 : Int) = 3 → 0 ≤ (z42 + 1) ∧ (z42 + 1) ≤ 20; omega)
    have hk4_88_3 : μ4 88 3 = z42 + 1 := by rw [hm4]; exact xup_s _ _ _ _
    exact r_vret hL dX0_add_50 rfl (hK _ hB4)
  · skip
    exact r_vret hL dX0_add_9 rfl (hK _ hB)

set_option maxHeartbeats 4000000 in
set_option maxRecDepth 20000 in
theorem m_X4_apart {K : Option xV → xW → xM → Prop} {μ : xM} (hB0 : BI μ) (hU : LU μ) (hK : ∀ r, 0 ≤ r ∧ r ≤ 180 → K (some (xI r)) WW μ) : xMet yX4_apart cX4_apart 1 (some .int) 0 0 0 0 [xR 92] WW μ K := by
  refine xMet.go RX4 "apart" rfl rfl (by decide) [some (xR 92)] (Nat.le_of_ble_eq_true rfl) rfl (fun X hL => ?_)
  have hB := hB0
  refine r_aload_n hL (x := 92) dX4_apart_0 rfl ?_
  refine r_getr hL xcl4 3 (by decide) s_92 (by decide) fl_X4_21 (by decide) f_92_3 dX4_apart_1 ?_
  refine r_iconst hL dX4_apart_4 ?_
  refine r_iald hL dX4_apart_5 (by decide) s_96 (by decide) (by omega) (by omega) (fun hr5 => ?_)
  obtain ⟨z5, hz5⟩ : ∃ z, z = μ 96 0 := ⟨_, rfl⟩
  rw [← hz5] at hr5 ⊢
  exact r_iret hL dX4_apart_6 rfl (hK _ (by rw [hz5]; exact hU.zero hB))

set_option maxHeartbeats 4000000 in
set_option maxRecDepth 20000 in
theorem m_X4_isTurned {K : Option xV → xW → xM → Prop} {μ : xM} (i : Int) (hi : 0 ≤ i ∧ i ≤ 8) (j : Int) (hj : 0 ≤ j ∧ j ≤ 8) (hK : ∀ r, r = 0 ∨ r = 1 → K (some (xI r)) WW μ) : xMet yX4_isTurned cX4_isTurned 3 (some .boolean) 0 0 0 0 [xR 92, xI i, xI j] WW μ K := by
  refine xMet.go RX4 "isTurned" rfl rfl (by decide) [some (xR 92), some (xI i), some (xI j)] (Nat.le_of_ble_eq_true rfl) rfl (fun X hL => ?_)
  refine r_aload_n hL (x := 92) dX4_isTurned_0 rfl ?_
  refine r_getr hL xcl4 0 (by decide) s_92 (by decide) fl_X4_9 (by decide) f_92_0 dX4_isTurned_1 ?_
  refine r_iload_n hL (x := i) dX4_isTurned_4 rfl ?_
  refine r_iald hL dX4_isTurned_5 (by decide) s_93 (by decide) (by omega) (by omega) (fun hr5 => ?_)
  obtain ⟨z5, hz5⟩ : ∃ z, z = μ 93 i := ⟨_, rfl⟩
  rw [← hz5] at hr5 ⊢
  refine r_aload_n hL (x := 92) dX4_isTurned_6 rfl ?_
  refine r_getr hL xcl4 1 (by decide) s_92 (by decide) fl_X4_15 (by decide) f_92_1 dX4_isTurned_7 ?_
  refine r_iload_n hL (x := j) dX4_isTurned_10 rfl ?_
  refine r_iconst hL dX4_isTurned_11 ?_
  refine r_iadd hL dX4_isTurned_12 ?_
  refine r_iald hL dX4_isTurned_13 (by decide) s_94 (by decide) (by omega) (by omega) (fun hr13 => ?_)
  obtain ⟨z13, hz13⟩ : ∃ z, z = μ 94 (j + 1) := ⟨_, rfl⟩
  rw [← hz13] at hr13 ⊢
  refine r_icmp_ne hL (tgt := 55) dX4_isTurned_14 (by decide) (by omega) (by omega) (fun c14 => ?_) (fun c14 => ?_)
  · skip
    refine r_iconst hL dX4_isTurned_55 ?_
    exact r_zret hL dX4_isTurned_56 rfl (by omega) (hK _ (by omega))
  · skip
    refine r_aload_n hL (x := 92) dX4_isTurned_17 rfl ?_
    refine r_getr hL xcl4 0 (by decide) s_92 (by decide) fl_X4_9 (by decide) f_92_0 dX4_isTurned_18 ?_
    refine r_iload_n hL (x := i) dX4_isTurned_21 rfl ?_
    refine r_iconst hL dX4_isTurned_22 ?_
    refine r_iadd hL dX4_isTurned_23 ?_
    refine r_iald hL dX4_isTurned_24 (by decide) s_93 (by decide) (by omega) (by omega) (fun hr24 => ?_)
    obtain ⟨z24, hz24⟩ : ∃ z, z = μ 93 (i + 1) := ⟨_, rfl⟩
    rw [← hz24] at hr24 ⊢
    refine r_aload_n hL (x := 92) dX4_isTurned_25 rfl ?_
    refine r_getr hL xcl4 1 (by decide) s_92 (by decide) fl_X4_15 (by decide) f_92_1 dX4_isTurned_26 ?_
    refine r_iload_n hL (x := j) dX4_isTurned_29 rfl ?_
    refine r_iald hL dX4_isTurned_30 (by decide) s_94 (by decide) (by omega) (by omega) (fun hr30 => ?_)
    obtain ⟨z30, hz30⟩ : ∃ z, z = μ 94 j := ⟨_, rfl⟩
    rw [← hz30] at hr30 ⊢
    refine r_icmp_ne hL (tgt := 55) dX4_isTurned_31 (by decide) (by omega) (by omega) (fun c31 => ?_) (fun c31 => ?_)
    · skip
      refine r_iconst hL dX4_isTurned_55 ?_
      exact r_zret hL dX4_isTurned_56 rfl (by omega) (hK _ (by omega))
    · skip
      refine r_aload_n hL (x := 92) dX4_isTurned_34 rfl ?_
      refine r_getr hL xcl4 0 (by decide) s_92 (by decide) fl_X4_9 (by decide) f_92_0 dX4_isTurned_35 ?_
      refine r_iload_n hL (x := i) dX4_isTurned_38 rfl ?_
      refine r_iald hL dX4_isTurned_39 (by decide) s_93 (by decide) (by omega) (by omega) (fun hr39 => ?_)
      obtain ⟨z39, hz39⟩ : ∃ z, z = μ 93 i := ⟨_, rfl⟩
      rw [← hz39] at hr39 ⊢
      refine r_aload_n hL (x := 92) dX4_isTurned_40 rfl ?_
      refine r_getr hL xcl4 0 (by decide) s_92 (by decide) fl_X4_9 (by decide) f_92_0 dX4_isTurned_41 ?_
      refine r_iload_n hL (x := i) dX4_isTurned_44 rfl ?_
      refine r_iconst hL dX4_isTurned_45 ?_
      refine r_iadd hL dX4_isTurned_46 ?_
      refine r_iald hL dX4_isTurned_47 (by decide) s_93 (by decide) (by omega) (by omega) (fun hr47 => ?_)
      obtain ⟨z47, hz47⟩ : ∃ z, z = μ 93 (i + 1) := ⟨_, rfl⟩
      rw [← hz47] at hr47 ⊢
      refine r_icmp_eq hL (tgt := 55) dX4_isTurned_48 (by decide) (by omega) (by omega) (fun c48 => ?_) (fun c48 => ?_)
      · skip
        refine r_iconst hL dX4_isTurned_55 ?_
        exact r_zret hL dX4_isTurned_56 rfl (by omega) (hK _ (by omega))
      · skip
        refine r_iconst hL dX4_isTurned_51 ?_
        refine r_goto hL (tgt := 56) dX4_isTurned_52 (by decide) ?_
        exact r_zret hL dX4_isTurned_56 rfl (by omega) (hK _ (by omega))

set_option maxHeartbeats 4000000 in
set_option maxRecDepth 20000 in
theorem m_X4_sumThrough {K : Option xV → xW → xM → Prop} {μ : xM} (hB0 : BI μ) (i : Int) (hi : 0 ≤ i ∧ i ≤ μ 92 7) (j : Int) (hj : 0 ≤ j ∧ j ≤ μ 92 8) (s : Int) (hs : 0 ≤ s ∧ s ≤ 3) (hU : LUp (μ 96) (μ 92 7) (μ 92 8) i j) (hK : ∀ r, 0 ≤ r ∧ r ≤ 1000000 → (r = 1000000 ∨ (r ≤ 9 * ((μ 92 7 - i) + (μ 92 8 - j)) ∧ i + xOF s ≤ μ 92 7 ∧ j + xOO s ≤ μ 92 8)) → (s = 1 → i < μ 92 7 → r ≠ 1000000) → (s = 2 → j < μ 92 8 → r ≠ 1000000) → K (some (xI r)) WW μ) : xMet yX4_sumThrough cX4_sumThrough 8 (some .int) 1 26 0 0 [xR 92, xI i, xI j, xI s] WW μ K := by
  refine xMet.go RX4 "sumThrough" rfl rfl (by decide) [some (xR 92), some (xI i), some (xI j), some (xI s), none, none, none, none] (Nat.le_of_ble_eq_true rfl) rfl (fun X hL => ?_)
  have hB := hB0
  refine r_iload_n hL (x := i) dX4_sumThrough_0 rfl ?_
  refine r_getsF hL dX4_sumThrough_1 fw_X4_60 (fun a1 hTa1 => ?_)
  refine r_iload_n hL (x := s) dX4_sumThrough_4 rfl ?_
  refine hTa1 dX4_sumThrough_5 (by omega) (by omega) ?_
  obtain ⟨z5, hz5⟩ : ∃ z, z = xOF s := ⟨_, rfl⟩
  rw [← hz5]
  have hr5 : 0 ≤ z5 ∧ z5 ≤ 2 := by rw [hz5]; exact xOF_rg _
  have hv5 := xOF_v s
  rw [← hz5] at hv5
  refine r_iadd hL dX4_sumThrough_6 ?_
  refine r_istore hL (lo' := [some (xR 92), some (xI i), some (xI j), some (xI s), some (xI (i + z5)), none, none, none]) dX4_sumThrough_7 (by decide) rfl ?_
  refine r_iload_n hL (x := j) dX4_sumThrough_9 rfl ?_
  refine r_getsO hL dX4_sumThrough_10 fw_X4_63 (fun a10 hTa10 => ?_)
  refine r_iload_n hL (x := s) dX4_sumThrough_13 rfl ?_
  refine hTa10 dX4_sumThrough_14 (by omega) (by omega) ?_
  obtain ⟨z14, hz14⟩ : ∃ z, z = xOO s := ⟨_, rfl⟩
  rw [← hz14]
  have hr14 : 0 ≤ z14 ∧ z14 ≤ 2 := by rw [hz14]; exact xOO_rg _
  have hv14 := xOO_v s
  rw [← hz14] at hv14
  refine r_iadd hL dX4_sumThrough_15 ?_
  refine r_istore hL (lo' := [some (xR 92), some (xI i), some (xI j), some (xI s), some (xI (i + z5)), some (xI (j + z14)), none, none]) dX4_sumThrough_16 (by decide) rfl ?_
  refine r_iload hL (x := i + z5) dX4_sumThrough_18 rfl ?_
  refine r_aload_n hL (x := 92) dX4_sumThrough_20 rfl ?_
  refine r_geti hL xcl4 7 (j' := 7) rfl (by decide) s_92 (by decide) fl_X4_33 (by decide) (by decide) dX4_sumThrough_21 (fun hr21 => ?_)
  obtain ⟨z21, hz21⟩ : ∃ z, z = μ 92 7 := ⟨_, rfl⟩
  rw [← hz21] at hr21 ⊢
  have hb21 : ((7 : Int) = 7 → 0 ≤ (μ 92 7) ∧ (μ 92 7) ≤ 10) ∧ ((7 : Int) = 8 → 0 ≤ (μ 92 7) ∧ (μ 92 7) ≤ 10) := hB 92 7
  refine r_icmp_gt hL (tgt := 36) dX4_sumThrough_24 (by decide) (by omega) (by omega) (fun c24 => ?_) (fun c24 => ?_)
  · skip
    refine r_ldc hL (n := 1000000) dX4_sumThrough_36 kc_X4_86 (by decide) ?_
    exact r_iret hL dX4_sumThrough_38 rfl (hK _ (by omega) (by omega) (by omega) (by omega))
  · skip
    refine r_iload hL (x := j + z14) dX4_sumThrough_27 rfl ?_
    refine r_aload_n hL (x := 92) dX4_sumThrough_29 rfl ?_
    refine r_geti hL xcl4 8 (j' := 8) rfl (by decide) s_92 (by decide) fl_X4_37 (by decide) (by decide) dX4_sumThrough_30 (fun hr30 => ?_)
    obtain ⟨z30, hz30⟩ : ∃ z, z = μ 92 8 := ⟨_, rfl⟩
    rw [← hz30] at hr30 ⊢
    have hb30 : ((8 : Int) = 7 → 0 ≤ (μ 92 8) ∧ (μ 92 8) ≤ 10) ∧ ((8 : Int) = 8 → 0 ≤ (μ 92 8) ∧ (μ 92 8) ≤ 10) := hB 92 8
    refine r_icmp_le hL (tgt := 39) dX4_sumThrough_33 (by decide) (by omega) (by omega) (fun c33 => ?_) (fun c33 => ?_)
    · skip
      refine r_aload_n hL (x := 92) dX4_sumThrough_39 rfl ?_
      refine r_getr hL xcl4 3 (by decide) s_92 (by decide) fl_X4_21 (by decide) f_92_3 dX4_sumThrough_40 ?_
      refine r_iload hL (x := i + z5) dX4_sumThrough_43 rfl ?_
      refine r_bipush hL dX4_sumThrough_45 (by decide) ?_
      refine r_imul hL dX4_sumThrough_47 ?_
      refine r_iload hL (x := j + z14) dX4_sumThrough_48 rfl ?_
      refine r_iadd hL dX4_sumThrough_50 ?_
      have hn1 := hb21; have hn2 := hb30
      refine r_iald hL dX4_sumThrough_51 (by decide) s_96 (by decide) (by omega) (by omega) (fun hr51 => ?_)
      obtain ⟨z51, hz51⟩ : ∃ z, z = μ 96 (((i + z5) * 11) + (j + z14)) := ⟨_, rfl⟩
      rw [← hz51] at hr51 ⊢
      have hl51 := hU (i + z5) (j + z14) (by omega) (by omega) (by omega) (by omega) (by omega)
      refine r_istore hL (lo' := [some (xR 92), some (xI i), some (xI j), some (xI s), some (xI (i + z5)), some (xI (j + z14)), some (xI z51), none]) dX4_sumThrough_52 (by decide) rfl ?_
      refine r_iload_n hL (x := s) dX4_sumThrough_54 rfl ?_
      refine r_if_ne hL (tgt := 98) dX4_sumThrough_55 (by decide) (by omega) (fun c55 => ?_) (fun c55 => ?_)
      · skip
        refine r_iload_n hL (x := s) dX4_sumThrough_98 rfl ?_
        refine r_iconst hL dX4_sumThrough_99 ?_
        refine r_icmp_ne hL (tgt := 127) dX4_sumThrough_100 (by decide) (by omega) (by omega) (fun c100 => ?_) (fun c100 => ?_)
        · skip
          refine r_iload hL (x := z51) dX4_sumThrough_127 rfl ?_
          refine r_aload_n hL (x := 92) dX4_sumThrough_129 rfl ?_
          refine r_getr hL xcl4 2 (by decide) s_92 (by decide) fl_X4_18 (by decide) f_92_2 dX4_sumThrough_130 ?_
          refine r_iconst hL dX4_sumThrough_133 ?_
          refine r_iald hL dX4_sumThrough_134 (by decide) s_95 (by decide) (by omega) (by omega) (fun hr134 => ?_)
          obtain ⟨z134, hz134⟩ : ∃ z, z = μ 95 0 := ⟨_, rfl⟩
          rw [← hz134] at hr134 ⊢
          have hb134 : 0 ≤ (μ 95 0) ∧ (μ 95 0) ≤ 9 := hB 95 0
          refine r_iadd hL dX4_sumThrough_135 ?_
          exact r_iret hL dX4_sumThrough_136 rfl (hK _ (by omega) (by omega) (by omega) (by omega))
        · skip
          refine r_aload_n hL (x := 92) dX4_sumThrough_103 rfl ?_
          refine r_iload_n hL (x := i) dX4_sumThrough_104 rfl ?_
          refine r_iload_n hL (x := j) dX4_sumThrough_105 rfl ?_
          refine r_callV hL (st := []) (av := [xI i, xI j]) (k := 92) (m_X4_isTurned (μ := μ) i (by omega) j (by omega) (fun z106 hc106 => ⟨rfl, ?_⟩)) ce_yX4_isTurned im_yX4_isTurned se_yX4_isTurned ml_X4_95 xcl4 (by decide) s_92 dX4_sumThrough_106 rfl (Nat.le_of_ble_eq_true rfl) ⟨Nat.le_of_ble_eq_true rfl, Nat.le_of_ble_eq_true rfl⟩ ⟨Nat.le_of_ble_eq_true rfl, Nat.le_of_ble_eq_true rfl⟩
          show X 0 0 WW μ 109 [some (xR 92), some (xI i), some (xI j), some (xI s), some (xI (i + z5)), some (xI (j + z14)), some (xI z51), none] [xI z106]
          refine r_if_eq hL (tgt := 124) dX4_sumThrough_109 (by decide) (by omega) (fun c109 => ?_) (fun c109 => ?_)
          · skip
            refine r_ldc hL (n := 1000000) dX4_sumThrough_124 kc_X4_86 (by decide) ?_
            exact r_iret hL dX4_sumThrough_126 rfl (hK _ (by omega) (by omega) (by omega) (by omega))
          · skip
            refine r_iload hL (x := z51) dX4_sumThrough_112 rfl ?_
            refine r_aload_n hL (x := 92) dX4_sumThrough_114 rfl ?_
            refine r_getr hL xcl4 2 (by decide) s_92 (by decide) fl_X4_18 (by decide) f_92_2 dX4_sumThrough_115 ?_
            refine r_iconst hL dX4_sumThrough_118 ?_
            refine r_iald hL dX4_sumThrough_119 (by decide) s_95 (by decide) (by omega) (by omega) (fun hr119 => ?_)
            obtain ⟨z119, hz119⟩ : ∃ z, z = μ 95 1 := ⟨_, rfl⟩
            rw [← hz119] at hr119 ⊢
            have hb119 : 0 ≤ (μ 95 1) ∧ (μ 95 1) ≤ 9 := hB 95 1
            refine r_iadd hL dX4_sumThrough_120 ?_
            refine r_goto hL (tgt := 126) dX4_sumThrough_121 (by decide) ?_
            exact r_iret hL dX4_sumThrough_126 rfl (hK _ (by omega) (by omega) (by omega) (by omega))
      · skip
        refine r_aload_n hL (x := 92) dX4_sumThrough_58 rfl ?_
        refine r_getr hL xcl4 0 (by decide) s_92 (by decide) fl_X4_9 (by decide) f_92_0 dX4_sumThrough_59 ?_
        refine r_iload_n hL (x := i) dX4_sumThrough_62 rfl ?_
        refine r_iald hL dX4_sumThrough_63 (by decide) s_93 (by decide) (by omega) (by omega) (fun hr63 => ?_)
        obtain ⟨z63, hz63⟩ : ∃ z, z = μ 93 i := ⟨_, rfl⟩
        rw [← hz63] at hr63 ⊢
        have hb63 : 0 ≤ (μ 93 i) ∧ (μ 93 i) ≤ 7 := hB 93 i
        refine r_aload_n hL (x := 92) dX4_sumThrough_64 rfl ?_
        refine r_getr hL xcl4 1 (by decide) s_92 (by decide) fl_X4_15 (by decide) f_92_1 dX4_sumThrough_65 ?_
        refine r_iload_n hL (x := j) dX4_sumThrough_68 rfl ?_
        refine r_iald hL dX4_sumThrough_69 (by decide) s_94 (by decide) (by omega) (by omega) (fun hr69 => ?_)
        obtain ⟨z69, hz69⟩ : ∃ z, z = μ 94 j := ⟨_, rfl⟩
        rw [← hz69] at hr69 ⊢
        have hb69 : 0 ≤ (μ 94 j) ∧ (μ 94 j) ≤ 7 := hB 94 j
        refine r_isub hL dX4_sumThrough_70 ?_
        refine r_abs hL (by omega) ml_X4_91 sm_Lib_Math_abs_name it_java_lang_Math kd_Lib_Math_abs_name dX4_sumThrough_71 ⟨Nat.le_of_ble_eq_true rfl, Nat.le_of_ble_eq_true rfl⟩ ⟨Nat.le_of_ble_eq_true rfl, Nat.le_of_ble_eq_true rfl⟩ ?_
        obtain ⟨z71, hz71⟩ : ∃ z, z = if 0 ≤ z63 - z69 then z63 - z69 else 0 - (z63 - z69) := ⟨_, rfl⟩
        rw [← hz71]
        refine r_aload_n hL (x := 92) dX4_sumThrough_74 rfl ?_
        refine r_getr hL xcl4 2 (by decide) s_92 (by decide) fl_X4_18 (by decide) f_92_2 dX4_sumThrough_75 ?_
        refine r_iconst hL dX4_sumThrough_78 ?_
        refine r_iald hL dX4_sumThrough_79 (by decide) s_95 (by decide) (by omega) (by omega) (fun hr79 => ?_)
        obtain ⟨z79, hz79⟩ : ∃ z, z = μ 95 2 := ⟨_, rfl⟩
        rw [← hz79] at hr79 ⊢
        have hb79 : 0 ≤ (μ 95 2) ∧ (μ 95 2) ≤ 9 := hB 95 2
        refine r_imul hL dX4_sumThrough_80 ?_
        have hp80 := xmul_bd (a := z71) (b := z79) (A := 7) (B := 9) (by omega) (by omega) (by omega) (by omega)
        refine r_istore hL (lo' := [some (xR 92), some (xI i), some (xI j), some (xI s), some (xI (i + z5)), some (xI (j + z14)), some (xI z51), some (xI (z71 * z79))]) dX4_sumThrough_81 (by decide) rfl ?_
        refine r_iload hL (x := z51) dX4_sumThrough_83 rfl ?_
        refine r_iload hL (x := z71 * z79) dX4_sumThrough_85 rfl ?_
        refine r_aload_n hL (x := 92) dX4_sumThrough_87 rfl ?_
        refine r_getr hL xcl4 2 (by decide) s_92 (by decide) fl_X4_18 (by decide) f_92_2 dX4_sumThrough_88 ?_
        refine r_iconst hL dX4_sumThrough_91 ?_
        refine r_iald hL dX4_sumThrough_92 (by decide) s_95 (by decide) (by omega) (by omega) (fun hr92 => ?_)
        obtain ⟨z92, hz92⟩ : ∃ z, z = μ 95 3 := ⟨_, rfl⟩
        rw [← hz92] at hr92 ⊢
        have hb92 : 0 ≤ (μ 95 3) ∧ (μ 95 3) ≤ 9 := hB 95 3
        refine r_min hL (by omega) (by omega) ml_X4_77 sm_Lib_Math_min_name it_java_lang_Math kd_Lib_Math_min_name dX4_sumThrough_93 ⟨Nat.le_of_ble_eq_true rfl, Nat.le_of_ble_eq_true rfl⟩ ⟨Nat.le_of_ble_eq_true rfl, Nat.le_of_ble_eq_true rfl⟩ ?_
        obtain ⟨z93, hz93⟩ : ∃ z, z = min (z71 * z79) z92 := ⟨_, rfl⟩
        rw [← hz93]
        refine r_iadd hL dX4_sumThrough_96 ?_
        exact r_iret hL dX4_sumThrough_97 rfl (hK _ (by omega) (by omega) (by omega) (by omega))
    · skip
      refine r_ldc hL (n := 1000000) dX4_sumThrough_36 kc_X4_86 (by decide) ?_
      exact r_iret hL dX4_sumThrough_38 rfl (hK _ (by omega) (by omega) (by omega) (by omega))

set_option maxHeartbeats 4000000 in
set_option maxRecDepth 20000 in
theorem m_X4_leastFrom {K : Option xV → xW → xM → Prop} {μ : xM} (hB0 : BI μ) (i : Int) (hi : 0 ≤ i ∧ i ≤ μ 92 7) (j : Int) (hj : 0 ≤ j ∧ j ≤ μ 92 8) (hU : LUp (μ 96) (μ 92 7) (μ 92 8) i j) (hK : ∀ r, 0 ≤ r ∧ r ≤ 9 * ((μ 92 7 - i) + (μ 92 8 - j)) → K (some (xI r)) WW μ) : xMet yX4_leastFrom cX4_leastFrom 5 (some .int) 2 53 0 0 [xR 92, xI i, xI j] WW μ K := by
  refine xMet.go RX4 "leastFrom" rfl rfl (by decide) [some (xR 92), some (xI i), some (xI j), none, none] (Nat.le_of_ble_eq_true rfl) rfl (fun X hL => ?_)
  have hB := hB0
  refine r_iload_n hL (x := i) dX4_leastFrom_0 rfl ?_
  refine r_aload_n hL (x := 92) dX4_leastFrom_1 rfl ?_
  refine r_geti hL xcl4 7 (j' := 7) rfl (by decide) s_92 (by decide) fl_X4_33 (by decide) (by decide) dX4_leastFrom_2 (fun hr2 => ?_)
  obtain ⟨z2, hz2⟩ : ∃ z, z = μ 92 7 := ⟨_, rfl⟩
  rw [← hz2] at hr2 ⊢
  have hb2 : ((7 : Int) = 7 → 0 ≤ (μ 92 7) ∧ (μ 92 7) ≤ 10) ∧ ((7 : Int) = 8 → 0 ≤ (μ 92 7) ∧ (μ 92 7) ≤ 10) := hB 92 7
  refine r_icmp_ne hL (tgt := 18) dX4_leastFrom_5 (by decide) (by omega) (by omega) (fun c5 => ?_) (fun c5 => ?_)
  · skip
    refine r_ldc hL (n := 1000000) dX4_leastFrom_18 kc_X4_86 (by decide) ?_
    refine r_istore_n hL (lo' := [some (xR 92), some (xI i), some (xI j), some (xI 1000000), none]) dX4_leastFrom_20 (by decide) rfl ?_
    refine r_iconst hL dX4_leastFrom_21 ?_
    refine r_istore hL (lo' := [some (xR 92), some (xI i), some (xI j), some (xI 1000000), some (xI 0)]) dX4_leastFrom_22 (by decide) rfl ?_
    have lp24 : ∀ (n24 : Nat) (b : Int) (s : Int), (0 ≤ b ∧ b ≤ 1000000) → (0 ≤ s ∧ s ≤ 4) → (2 ≤ s → i < μ 92 7 → b ≤ 9 * ((μ 92 7 - i) + (μ 92 8 - j))) → (3 ≤ s → j < μ 92 8 → b ≤ 9 * ((μ 92 7 - i) + (μ 92 8 - j))) → ((4 - s).toNat) < n24 → X 0 0 WW μ 24 [some (xR 92), some (xI i), some (xI j), some (xI b), some (xI s)] [] := by
      intro n24
      induction n24 with
      | zero => intro b s h1 h2 h3 h4 hn; exact absurd hn (Nat.not_lt_zero _)
      | succ n24 ih24 =>
        intro b s h1 h2 h3 h4 hn24
        refine r_iload hL (x := s) dX4_leastFrom_24 rfl ?_
        refine r_iconst hL dX4_leastFrom_26 ?_
        refine r_icmp_ge hL (tgt := 49) dX4_leastFrom_27 (by decide) (by omega) (by omega) (fun c27 => ?_) (fun c27 => ?_)
        · skip
          refine r_iload_n hL (x := b) dX4_leastFrom_49 rfl ?_
          exact r_iret hL dX4_leastFrom_50 rfl (hK _ (by omega))
        · skip
          refine r_iload_n hL (x := b) dX4_leastFrom_30 rfl ?_
          refine r_aload_n hL (x := 92) dX4_leastFrom_31 rfl ?_
          refine r_iload_n hL (x := i) dX4_leastFrom_32 rfl ?_
          refine r_iload_n hL (x := j) dX4_leastFrom_33 rfl ?_
          refine r_iload hL (x := s) dX4_leastFrom_34 rfl ?_
          refine r_callV hL (st := [xI b]) (av := [xI i, xI j, xI s]) (k := 92) (m_X4_sumThrough (μ := μ) hB i (by omega) j (by omega) s (by omega) hU (fun z36 hc36 hc36_1 hc36_2 hc36_3 => ⟨rfl, ?_⟩)) ce_yX4_sumThrough im_yX4_sumThrough se_yX4_sumThrough ml_X4_87 xcl4 (by decide) s_92 dX4_leastFrom_36 rfl (Nat.le_of_ble_eq_true rfl) ⟨Nat.le_of_ble_eq_true rfl, Nat.le_of_ble_eq_true rfl⟩ ⟨Nat.le_of_ble_eq_true rfl, Nat.le_of_ble_eq_true rfl⟩
          show X 0 0 WW μ 39 [some (xR 92), some (xI i), some (xI j), some (xI b), some (xI s)] [xI z36, xI b]
          refine r_min hL (by omega) (by omega) ml_X4_77 sm_Lib_Math_min_name it_java_lang_Math kd_Lib_Math_min_name dX4_leastFrom_39 ⟨Nat.le_of_ble_eq_true rfl, Nat.le_of_ble_eq_true rfl⟩ ⟨Nat.le_of_ble_eq_true rfl, Nat.le_of_ble_eq_true rfl⟩ ?_
          obtain ⟨z39, hz39⟩ : ∃ z, z = min b z36 := ⟨_, rfl⟩
          rw [← hz39]
          refine r_istore_n hL (lo' := [some (xR 92), some (xI i), some (xI j), some (xI z39), some (xI s)]) dX4_leastFrom_42 (by decide) rfl ?_
          refine r_iinc hL (x := s) (lo' := [some (xR 92), some (xI i), some (xI j), some (xI z39), some (xI (s + 1))]) dX4_leastFrom_43 (by decide) rfl rfl ?_
          refine r_goto hL (tgt := 24) dX4_leastFrom_46 (by decide) ?_
          exact ih24 z39 (s + 1) (by omega) (by omega) (by omega) (by omega) (by omega)
    exact lp24 _ 1000000 0 (by omega) (by omega) (by omega) (by omega) (Nat.lt_succ_self _)
  · skip
    refine r_iload_n hL (x := j) dX4_leastFrom_8 rfl ?_
    refine r_aload_n hL (x := 92) dX4_leastFrom_9 rfl ?_
    refine r_geti hL xcl4 8 (j' := 8) rfl (by decide) s_92 (by decide) fl_X4_37 (by decide) (by decide) dX4_leastFrom_10 (fun hr10 => ?_)
    obtain ⟨z10, hz10⟩ : ∃ z, z = μ 92 8 := ⟨_, rfl⟩
    rw [← hz10] at hr10 ⊢
    have hb10 : ((8 : Int) = 7 → 0 ≤ (μ 92 8) ∧ (μ 92 8) ≤ 10) ∧ ((8 : Int) = 8 → 0 ≤ (μ 92 8) ∧ (μ 92 8) ≤ 10) := hB 92 8
    refine r_icmp_ne hL (tgt := 18) dX4_leastFrom_13 (by decide) (by omega) (by omega) (fun c13 => ?_) (fun c13 => ?_)
    · skip
      refine r_ldc hL (n := 1000000) dX4_leastFrom_18 kc_X4_86 (by decide) ?_
      refine r_istore_n hL (lo' := [some (xR 92), some (xI i), some (xI j), some (xI 1000000), none]) dX4_leastFrom_20 (by decide) rfl ?_
      refine r_iconst hL dX4_leastFrom_21 ?_
      refine r_istore hL (lo' := [some (xR 92), some (xI i), some (xI j), some (xI 1000000), some (xI 0)]) dX4_leastFrom_22 (by decide) rfl ?_
      have lp24 : ∀ (n24 : Nat) (b : Int) (s : Int), (0 ≤ b ∧ b ≤ 1000000) → (0 ≤ s ∧ s ≤ 4) → (2 ≤ s → i < μ 92 7 → b ≤ 9 * ((μ 92 7 - i) + (μ 92 8 - j))) → (3 ≤ s → j < μ 92 8 → b ≤ 9 * ((μ 92 7 - i) + (μ 92 8 - j))) → ((4 - s).toNat) < n24 → X 0 0 WW μ 24 [some (xR 92), some (xI i), some (xI j), some (xI b), some (xI s)] [] := by
        intro n24
        induction n24 with
        | zero => intro b s h1 h2 h3 h4 hn; exact absurd hn (Nat.not_lt_zero _)
        | succ n24 ih24 =>
          intro b s h1 h2 h3 h4 hn24
          refine r_iload hL (x := s) dX4_leastFrom_24 rfl ?_
          refine r_iconst hL dX4_leastFrom_26 ?_
          refine r_icmp_ge hL (tgt := 49) dX4_leastFrom_27 (by decide) (by omega) (by omega) (fun c27 => ?_) (fun c27 => ?_)
          · skip
            refine r_iload_n hL (x := b) dX4_leastFrom_49 rfl ?_
            exact r_iret hL dX4_leastFrom_50 rfl (hK _ (by omega))
          · skip
            refine r_iload_n hL (x := b) dX4_leastFrom_30 rfl ?_
            refine r_aload_n hL (x := 92) dX4_leastFrom_31 rfl ?_
            refine r_iload_n hL (x := i) dX4_leastFrom_32 rfl ?_
            refine r_iload_n hL (x := j) dX4_leastFrom_33 rfl ?_
            refine r_iload hL (x := s) dX4_leastFrom_34 rfl ?_
            refine r_callV hL (st := [xI b]) (av := [xI i, xI j, xI s]) (k := 92) (m_X4_sumThrough (μ := μ) hB i (by omega) j (by omega) s (by omega) hU (fun z36 hc36 hc36_1 hc36_2 hc36_3 => ⟨rfl, ?_⟩)) ce_yX4_sumThrough im_yX4_sumThrough se_yX4_sumThrough ml_X4_87 xcl4 (by decide) s_92 dX4_leastFrom_36 rfl (Nat.le_of_ble_eq_true rfl) ⟨Nat.le_of_ble_eq_true rfl, Nat.le_of_ble_eq_true rfl⟩ ⟨Nat.le_of_ble_eq_true rfl, Nat.le_of_ble_eq_true rfl⟩
            show X 0 0 WW μ 39 [some (xR 92), some (xI i), some (xI j), some (xI b), some (xI s)] [xI z36, xI b]
            refine r_min hL (by omega) (by omega) ml_X4_77 sm_Lib_Math_min_name it_java_lang_Math kd_Lib_Math_min_name dX4_leastFrom_39 ⟨Nat.le_of_ble_eq_true rfl, Nat.le_of_ble_eq_true rfl⟩ ⟨Nat.le_of_ble_eq_true rfl, Nat.le_of_ble_eq_true rfl⟩ ?_
            obtain ⟨z39, hz39⟩ : ∃ z, z = min b z36 := ⟨_, rfl⟩
            rw [← hz39]
            refine r_istore_n hL (lo' := [some (xR 92), some (xI i), some (xI j), some (xI z39), some (xI s)]) dX4_leastFrom_42 (by decide) rfl ?_
            refine r_iinc hL (x := s) (lo' := [some (xR 92), some (xI i), some (xI j), some (xI z39), some (xI (s + 1))]) dX4_leastFrom_43 (by decide) rfl rfl ?_
            refine r_goto hL (tgt := 24) dX4_leastFrom_46 (by decide) ?_
            exact ih24 z39 (s + 1) (by omega) (by omega) (by omega) (by omega) (by omega)
      exact lp24 _ 1000000 0 (by omega) (by omega) (by omega) (by omega) (Nat.lt_succ_self _)
    · skip
      refine r_iconst hL dX4_leastFrom_16 ?_
      exact r_iret hL dX4_leastFrom_17 rfl (hK _ (by omega))

set_option maxHeartbeats 4000000 in
set_option maxRecDepth 20000 in
theorem m_X4_spell {K : Option xV → xW → xM → Prop} {μ : xM} (hB0 : BI μ) (c : Int) (hc : 0 ≤ c ∧ c ≤ 47244640255) (ac : Nat) (h_k : ac < WW.1) (h_s : WW.2.1 ac = (1, 10)) (h_b : bk ac = 15) (hK : ∀ r μ', BI μ' → Fr (fun k _ => k = ac) μ μ' → 0 ≤ r ∧ r ≤ 10 → K (some (xI r)) WW μ') : xMet yX4_spell cX4_spell 5 (some .int) 1 26 0 0 [xL c, xR ac] WW μ K := by
  refine xMet.go RX4 "spell" rfl rfl (by decide) [some (xL c), none, some (xR ac), none, none] (Nat.le_of_ble_eq_true rfl) rfl (fun X hL => ?_)
  have hB := hB0
  have hF : Fr (fun k _ => k = ac) μ μ := Fr.rf
  refine r_lload_n hL (x := c) dX4_spell_0 rfl ?_
  refine r_callSN hL (st := []) (av := [xL c]) (m_X7_lengthOf (μ := μ) c (by omega) (by omega) (fun z1 hz1 => ⟨rfl, ?_⟩)) ce_yX7_lengthOf sm_yX7_lengthOf ml_X4_73 dX4_spell_1 rfl (Nat.le_of_ble_eq_true rfl) ⟨Nat.le_of_ble_eq_true rfl, Nat.le_of_ble_eq_true rfl⟩ ⟨Nat.le_of_ble_eq_true rfl, Nat.le_of_ble_eq_true rfl⟩
  show X 0 0 WW μ 4 [some (xL c), none, some (xR ac), none, none] [xI z1]
  refine r_bipush hL dX4_spell_4 (by decide) ?_
  refine r_min hL (by omega) (by omega) ml_X4_77 sm_Lib_Math_min_name it_java_lang_Math kd_Lib_Math_min_name dX4_spell_6 ⟨Nat.le_of_ble_eq_true rfl, Nat.le_of_ble_eq_true rfl⟩ ⟨Nat.le_of_ble_eq_true rfl, Nat.le_of_ble_eq_true rfl⟩ ?_
  obtain ⟨z6, hz6⟩ : ∃ z, z = min z1 10 := ⟨_, rfl⟩
  rw [← hz6]
  refine r_istore_n hL (lo' := [some (xL c), none, some (xR ac), some (xI z6), none]) dX4_spell_9 (by decide) rfl ?_
  refine r_iconst hL dX4_spell_10 ?_
  refine r_istore hL (lo' := [some (xL c), none, some (xR ac), some (xI z6), some (xI 0)]) dX4_spell_11 (by decide) rfl ?_
  have lp13 : ∀ (n13 : Nat) (i : Int) (μ113 : xM), (BI μ113) → (Fr (fun k _ => k = ac) μ μ113) → (0 ≤ i ∧ i ≤ 10) → ((10 - i).toNat) < n13 → X 0 0 WW μ113 13 [some (xL c), none, some (xR ac), some (xI z6), some (xI i)] [] := by
    intro n13
    induction n13 with
    | zero => intro i μ113 hB113 hF113 h1 hn; exact absurd hn (Nat.not_lt_zero _)
    | succ n13 ih13 =>
      intro i μ113 hB113 hF113 h1 hn13
      refine r_iload hL (x := i) dX4_spell_13 rfl ?_
      refine r_iload_n hL (x := z6) dX4_spell_15 rfl ?_
      refine r_icmp_ge hL (tgt := 35) dX4_spell_16 (by decide) (by omega) (by omega) (fun c16 => ?_) (fun c16 => ?_)
      · skip
        refine r_iload_n hL (x := z6) dX4_spell_35 rfl ?_
        exact r_iret hL dX4_spell_36 rfl (hK _ _ hB113 hF113 (by omega))
      · skip
        refine r_aload_n hL (x := ac) dX4_spell_19 rfl ?_
        refine r_iload hL (x := i) dX4_spell_20 rfl ?_
        refine r_lload_n hL (x := c) dX4_spell_22 rfl ?_
        refine r_iload hL (x := i) dX4_spell_23 rfl ?_
        refine r_callSN hL (st := [xI i, xR ac]) (av := [xL c, xI i]) (m_X7_motifOf (μ := μ113) c i (fun z25 hc25 => ⟨rfl, ?_⟩)) ce_yX7_motifOf sm_yX7_motifOf ml_X4_82 dX4_spell_25 rfl (Nat.le_of_ble_eq_true rfl) ⟨Nat.le_of_ble_eq_true rfl, Nat.le_of_ble_eq_true rfl⟩ ⟨Nat.le_of_ble_eq_true rfl, Nat.le_of_ble_eq_true rfl⟩
        show X 0 0 WW μ113 28 [some (xL c), none, some (xR ac), some (xI z6), some (xI i)] [xI z25, xI i, xR ac]
        refine r_iast hL dX4_spell_28 h_k h_s (by decide) (by omega) (by omega) (by omega) (fun μ1 hm1 => ?_)
        have hB1 : BI μ1 := by rw [hm1]; exact hB113.up (by rw [h_b]; show 0 ≤ z25 ∧ z25 ≤ 7; omega)
        have hF1 : Fr (fun k _ => k = ac) μ μ1 := by rw [hm1]; exact hF113.up (by rfl)
        refine r_iinc hL (x := i) (lo' := [some (xL c), none, some (xR ac), some (xI z6), some (xI (i + 1))]) dX4_spell_29 (by decide) rfl rfl ?_
        refine r_goto hL (tgt := 13) dX4_spell_32 (by decide) ?_
        exact ih13 (i + 1) μ1 hB1 hF1 (by omega) (by omega)
  exact lp13 _ 0 μ hB hF (by omega) (Nat.lt_succ_self _)
