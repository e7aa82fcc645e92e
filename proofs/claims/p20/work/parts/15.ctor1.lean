theorem df_0 : ∀ j, j < 4 → defaultValue (tyX0 j) = xfv (fun _ => 0) (xkd (tyX0 j)) (-1) 0 := by
  intro j hj
  rcases (show j = 0 ∨ j = 1 ∨ j = 2 ∨ j = 3 by omega) with h | h | h | h <;> subst h <;> rfl
theorem df_1 : ∀ j, j < 3 → defaultValue (tyX1 j) = xfv (fun _ => 0) (xkd (tyX1 j)) (-1) 0 := by
  intro j hj
  rcases (show j = 0 ∨ j = 1 ∨ j = 2 by omega) with h | h | h <;> subst h <;> rfl
theorem df_2 : ∀ j, j < 1 → defaultValue (tyX2 j) = xfv (fun _ => 0) (xkd (tyX2 j)) (-1) 0 := by
  intro j hj
  rcases (show j = 0 by omega) with h <;> subst h <;> rfl
theorem df_3 : ∀ j, j < 3 → defaultValue (tyX3 j) = xfv (fun _ => 0) (xkd (tyX3 j)) (-1) 0 := by
  intro j hj
  rcases (show j = 0 ∨ j = 1 ∨ j = 2 by omega) with h | h | h <;> subst h <;> rfl
theorem df_4 : ∀ j, j < 9 → defaultValue (tyX4 j) = xfv (fun _ => 0) (xkd (tyX4 j)) (-1) 0 := by
  intro j hj
  rcases (show j = 0 ∨ j = 1 ∨ j = 2 ∨ j = 3 ∨ j = 4 ∨ j = 5 ∨ j = 6 ∨ j = 7 ∨ j = 8 by omega) with h | h | h | h | h | h | h | h | h <;> subst h <;> rfl
theorem df_5 : ∀ j, j < 6 → defaultValue (tyX5 j) = xfv (fun _ => 0) (xkd (tyX5 j)) (-1) 0 := by
  intro j hj
  rcases (show j = 0 ∨ j = 1 ∨ j = 2 ∨ j = 3 ∨ j = 4 ∨ j = 5 by omega) with h | h | h | h | h | h <;> subst h <;> rfl
theorem df_6 : ∀ j, j < 11 → defaultValue (tyX6 j) = xfv (fun _ => 0) (xkd (tyX6 j)) (-1) 0 := by
  intro j hj
  rcases (show j = 0 ∨ j = 1 ∨ j = 2 ∨ j = 3 ∨ j = 4 ∨ j = 5 ∨ j = 6 ∨ j = 7 ∨ j = 8 ∨ j = 9 ∨ j = 10 by omega) with h | h | h | h | h | h | h | h | h | h | h <;> subst h <;> rfl
theorem df_7 : ∀ j, j < 10 → defaultValue (tyX7 j) = xfv (fun _ => 0) (xkd (tyX7 j)) (-1) 0 := by
  intro j hj
  rcases (show j = 0 ∨ j = 1 ∨ j = 2 ∨ j = 3 ∨ j = 4 ∨ j = 5 ∨ j = 6 ∨ j = 7 ∨ j = 8 ∨ j = 9 by omega) with h | h | h | h | h | h | h | h | h | h <;> subst h <;> rfl
theorem df_8 : ∀ j, j < 24 → defaultValue (tyX8 j) = xfv (fun _ => 0) (xkd (tyX8 j)) (-1) 0 := by
  intro j hj
  rcases (show j = 0 ∨ j = 1 ∨ j = 2 ∨ j = 3 ∨ j = 4 ∨ j = 5 ∨ j = 6 ∨ j = 7 ∨ j = 8 ∨ j = 9 ∨ j = 10 ∨ j = 11 ∨ j = 12 ∨ j = 13 ∨ j = 14 ∨ j = 15 ∨ j = 16 ∨ j = 17 ∨ j = 18 ∨ j = 19 ∨ j = 20 ∨ j = 21 ∨ j = 22 ∨ j = 23 by omega) with h | h | h | h | h | h | h | h | h | h | h | h | h | h | h | h | h | h | h | h | h | h | h | h <;> subst h <;> rfl
set_option maxHeartbeats 4000000 in
set_option maxRecDepth 20000 in
theorem m_X5_init {K : Option xV → xW → xM → Prop} {μ : xM} (c : Nat) (h_c : c ∈ xsts) (rf : Nat → Int → Int) (hC : CP c rf μ) (hK : ∀ w' μ', CK c (c + 5) rf μ w' μ' → K none w' μ') : xMet yX5_init cX5_init 1 none 1 26 4 28 [xR c] (c + 1, xSH, rf) μ K := by
  obtain ⟨hf, hz, hB⟩ := hC
  refine xMet.go RX5 "<init>" rfl rfl (by decide) [some (xR c)] (Nat.le_of_ble_eq_true rfl) rfl (fun X hL => ?_)
  have hsh := st_sh c h_c
  have hlt : c + 4 < 138 := hsh.2.2.2.2.2.1
  have hu : ∀ k j, k < c → μ k j = μ k j := fun _ _ _ => rfl
  have hrn := st_rn c h_c
  refine r_aload_n hL (x := c) dX5_init_0 rfl ?_
  refine r_objInit hL dX5_init_1 ml_X5_3 im_Lib_objectInit kd_Lib_objectInit ⟨Nat.le_of_ble_eq_true rfl, Nat.le_of_ble_eq_true rfl⟩ ?_
  refine r_aload_n hL (x := c) dX5_init_4 rfl ?_
  refine r_bipush hL dX5_init_5 (by decide) ?_
  refine r_newa hL 2 (nn := 8) dX5_init_7 (Or.inr (Or.inl ⟨rfl, rfl⟩)) ac_Jvm_ClassFile_FieldType_long rfl (by decide) hsh.2.1 (fun j => hf (c + 1) j (by omega)) (fun j => hz (c + 1) j (by omega)) (show c < c + 1 ∧ True from ⟨by omega, trivial⟩) (show c < c + 1 ∧ True from ⟨by omega, trivial⟩) ⟨Nat.le_of_ble_eq_true rfl, Nat.le_of_ble_eq_true rfl⟩ ?_
  show X (1) (8) (c + 2, xSH, rf) μ 9 [some (xR c)] [xR (c + 1), xR c]
  refine r_putr hL xcl5 0 (j' := 0) rfl (by show _ < _; omega) hsh.1 (by decide) fw_X5_9 rfl rfl (by decide) (fun a => ⟨rfl, rfl⟩) (by show _ < _; omega) dX5_init_9 ?_
  obtain ⟨rf1, hrf1⟩ : ∃ r, r = xup rf c 0 ((c + 1 : Nat) : Int) := ⟨_, rfl⟩
  show X (1) (8) (c + 2, xSH, (xup rf c 0 ((c + 1 : Nat) : Int))) μ 12 [some (xR c)] []
  rw [← hrf1]
  have hg1 : ∀ k j, c + 2 ≤ k → rf1 k j = -1 := fun k j hk => by rw [hrf1]; exact (congrFun (xup_c (by omega)) j).trans (hf k j (by omega))
  refine r_aload_n hL (x := c) dX5_init_12 rfl ?_
  refine r_bipush hL dX5_init_13 (by decide) ?_
  refine r_newa hL 1 (nn := 8) dX5_init_15 (Or.inl ⟨rfl, rfl⟩) ac_Jvm_ClassFile_FieldType_int rfl (by decide) hsh.2.2.1 (fun j => hg1 (c + 2) j (by omega)) (fun j => hz (c + 2) j (by omega)) (show c < c + 2 ∧ True from ⟨by omega, trivial⟩) (show c < c + 2 ∧ True from ⟨by omega, trivial⟩) ⟨Nat.le_of_ble_eq_true rfl, Nat.le_of_ble_eq_true rfl⟩ ?_
  show X (2) (16) (c + 3, xSH, rf1) μ 17 [some (xR c)] [xR (c + 2), xR c]
  refine r_putr hL xcl5 1 (j' := 1) rfl (by show _ < _; omega) hsh.1 (by decide) fw_X5_15 rfl rfl (by decide) (fun a => ⟨rfl, rfl⟩) (by show _ < _; omega) dX5_init_17 ?_
  obtain ⟨rf2, hrf2⟩ : ∃ r, r = xup rf1 c 1 ((c + 2 : Nat) : Int) := ⟨_, rfl⟩
  show X (2) (16) (c + 3, xSH, (xup rf1 c 1 ((c + 2 : Nat) : Int))) μ 20 [some (xR c)] []
  rw [← hrf2]
  have hg2 : ∀ k j, c + 3 ≤ k → rf2 k j = -1 := fun k j hk => by rw [hrf2]; exact (congrFun (xup_c (by omega)) j).trans (hg1 k j (by omega))
  refine r_aload_n hL (x := c) dX5_init_20 rfl ?_
  refine r_iconst hL dX5_init_21 ?_
  refine r_newa hL 1 (nn := 4) dX5_init_22 (Or.inl ⟨rfl, rfl⟩) ac_Jvm_ClassFile_FieldType_int rfl (by decide) hsh.2.2.2.1 (fun j => hg2 (c + 3) j (by omega)) (fun j => hz (c + 3) j (by omega)) (show c < c + 3 ∧ True from ⟨by omega, trivial⟩) (show c < c + 3 ∧ True from ⟨by omega, trivial⟩) ⟨Nat.le_of_ble_eq_true rfl, Nat.le_of_ble_eq_true rfl⟩ ?_
  show X (3) (20) (c + 4, xSH, rf2) μ 24 [some (xR c)] [xR (c + 3), xR c]
  refine r_putr hL xcl5 2 (j' := 2) rfl (by show _ < _; omega) hsh.1 (by decide) fw_X5_19 rfl rfl (by decide) (fun a => ⟨rfl, rfl⟩) (by show _ < _; omega) dX5_init_24 ?_
  obtain ⟨rf3, hrf3⟩ : ∃ r, r = xup rf2 c 2 ((c + 3 : Nat) : Int) := ⟨_, rfl⟩
  show X (3) (20) (c + 4, xSH, (xup rf2 c 2 ((c + 3 : Nat) : Int))) μ 27 [some (xR c)] []
  rw [← hrf3]
  have hg3 : ∀ k j, c + 4 ≤ k → rf3 k j = -1 := fun k j hk => by rw [hrf3]; exact (congrFun (xup_c (by omega)) j).trans (hg2 k j (by omega))
  refine r_aload_n hL (x := c) dX5_init_27 rfl ?_
  refine r_bipush hL dX5_init_28 (by decide) ?_
  refine r_newa hL 1 (nn := 8) dX5_init_30 (Or.inl ⟨rfl, rfl⟩) ac_Jvm_ClassFile_FieldType_int rfl (by decide) hsh.2.2.2.2.1 (fun j => hg3 (c + 4) j (by omega)) (fun j => hz (c + 4) j (by omega)) (show c < c + 4 ∧ True from ⟨by omega, trivial⟩) (show c < c + 4 ∧ True from ⟨by omega, trivial⟩) ⟨Nat.le_of_ble_eq_true rfl, Nat.le_of_ble_eq_true rfl⟩ ?_
  show X (4) (28) (c + 5, xSH, rf3) μ 32 [some (xR c)] [xR (c + 4), xR c]
  refine r_putr hL xcl5 3 (j' := 3) rfl (by show _ < _; omega) hsh.1 (by decide) fw_X5_22 rfl rfl (by decide) (fun a => ⟨rfl, rfl⟩) (by show _ < _; omega) dX5_init_32 ?_
  obtain ⟨rf4, hrf4⟩ : ∃ r, r = xup rf3 c 3 ((c + 4 : Nat) : Int) := ⟨_, rfl⟩
  show X (4) (28) (c + 5, xSH, (xup rf3 c 3 ((c + 4 : Nat) : Int))) μ 35 [some (xR c)] []
  rw [← hrf4]
  have hg4 : ∀ k j, c + 5 ≤ k → rf4 k j = -1 := fun k j hk => by rw [hrf4]; exact (congrFun (xup_c (by omega)) j).trans (hg3 k j (by omega))
  refine r_aload_n hL (x := c) dX5_init_35 rfl ?_
  refine r_iconst hL dX5_init_36 ?_
  refine r_puti hL xcl5 4 (j' := 4) rfl (by show _ < _; omega) hsh.1 (by decide) fl_X5_25 rfl rfl (by omega) dX5_init_37 (fun ν5 hm_ν5 => ?_)
  have hB_ν5 : BZ ν5 := by rw [hm_ν5]; exact hB.up (by rw [(st_bk c h_c).1]; show ((4 : Int) = 4 → 0 ≤ 0 ∧ 0 ≤ 8) ∧ ((4 : Int) = 5 → 0 ≤ 0 ∧ 0 ≤ 2); omega) (fun _ => rfl)
  have hu_ν5 : ∀ k j, k < c → ν5 k j = μ k j := fun k j hk => by rw [hm_ν5]; exact (congrFun (xup_c (by omega)) j).trans (hu k j hk)
  have hz_ν5 : ∀ k j, c + 5 ≤ k → ν5 k j = 0 := fun k j hk => by rw [hm_ν5]; exact (congrFun (xup_c (by omega)) j).trans (hz k j (by omega))
  refine r_aload_n hL (x := c) dX5_init_40 rfl ?_
  refine r_iconst hL dX5_init_41 ?_
  refine r_puti hL xcl5 5 (j' := 5) rfl (by show _ < _; omega) hsh.1 (by decide) fl_X5_29 rfl rfl (by omega) dX5_init_42 (fun ν6 hm_ν6 => ?_)
  have hB_ν6 : BZ ν6 := by rw [hm_ν6]; exact hB_ν5.up (by rw [(st_bk c h_c).1]; show ((5 : Int) = 4 → 0 ≤ 0 ∧ 0 ≤ 8) ∧ ((5 : Int) = 5 → 0 ≤ 0 ∧ 0 ≤ 2); omega) (fun _ => rfl)
  have hu_ν6 : ∀ k j, k < c → ν6 k j = μ k j := fun k j hk => by rw [hm_ν6]; exact (congrFun (xup_c (by omega)) j).trans (hu_ν5 k j hk)
  have hz_ν6 : ∀ k j, c + 5 ≤ k → ν6 k j = 0 := fun k j hk => by rw [hm_ν6]; exact (congrFun (xup_c (by omega)) j).trans (hz_ν5 k j (by omega))
  refine r_aload_n hL (x := c) dX5_init_45 rfl ?_
  refine r_getr hL xcl5 2 (q := (c + 3)) (by show _ < _; omega) hsh.1 (by decide) fl_X5_19 (by decide) (by show rf4 c 2 = _; rw [hrf4, hrf3, hrf2, hrf1]; simp [xup]) dX5_init_46 ?_
  refine r_iconst hL dX5_init_49 ?_
  refine r_iconst hL dX5_init_50 ?_
  refine r_iast hL dX5_init_51 (by show _ < _; omega) hsh.2.2.2.1 (by decide) (by omega) (by omega) (by omega) (fun ν7 hm_ν7 => ?_)
  have hB_ν7 : BZ ν7 := by rw [hm_ν7]; exact hB_ν6.up (by rw [(st_bk c h_c).2.2.2.1]; show 0 ≤ 2 ∧ 2 ≤ 9; omega) (fun h => by unfold zs at h; omega)
  have hu_ν7 : ∀ k j, k < c → ν7 k j = μ k j := fun k j hk => by rw [hm_ν7]; exact (congrFun (xup_c (by omega)) j).trans (hu_ν6 k j hk)
  have hz_ν7 : ∀ k j, c + 5 ≤ k → ν7 k j = 0 := fun k j hk => by rw [hm_ν7]; exact (congrFun (xup_c (by omega)) j).trans (hz_ν6 k j (by omega))
  refine r_aload_n hL (x := c) dX5_init_52 rfl ?_
  refine r_getr hL xcl5 2 (q := (c + 3)) (by show _ < _; omega) hsh.1 (by decide) fl_X5_19 (by decide) (by show rf4 c 2 = _; rw [hrf4, hrf3, hrf2, hrf1]; simp [xup]) dX5_init_53 ?_
  refine r_iconst hL dX5_init_56 ?_
  refine r_iconst hL dX5_init_57 ?_
  refine r_iast hL dX5_init_58 (by show _ < _; omega) hsh.2.2.2.1 (by decide) (by omega) (by omega) (by omega) (fun ν8 hm_ν8 => ?_)
  have hB_ν8 : BZ ν8 := by rw [hm_ν8]; exact hB_ν7.up (by rw [(st_bk c h_c).2.2.2.1]; show 0 ≤ 2 ∧ 2 ≤ 9; omega) (fun h => by unfold zs at h; omega)
  have hu_ν8 : ∀ k j, k < c → ν8 k j = μ k j := fun k j hk => by rw [hm_ν8]; exact (congrFun (xup_c (by omega)) j).trans (hu_ν7 k j hk)
  have hz_ν8 : ∀ k j, c + 5 ≤ k → ν8 k j = 0 := fun k j hk => by rw [hm_ν8]; exact (congrFun (xup_c (by omega)) j).trans (hz_ν7 k j (by omega))
  refine r_aload_n hL (x := c) dX5_init_59 rfl ?_
  refine r_getr hL xcl5 2 (q := (c + 3)) (by show _ < _; omega) hsh.1 (by decide) fl_X5_19 (by decide) (by show rf4 c 2 = _; rw [hrf4, hrf3, hrf2, hrf1]; simp [xup]) dX5_init_60 ?_
  refine r_iconst hL dX5_init_63 ?_
  refine r_iconst hL dX5_init_64 ?_
  refine r_iast hL dX5_init_65 (by show _ < _; omega) hsh.2.2.2.1 (by decide) (by omega) (by omega) (by omega) (fun ν9 hm_ν9 => ?_)
  have hB_ν9 : BZ ν9 := by rw [hm_ν9]; exact hB_ν8.up (by rw [(st_bk c h_c).2.2.2.1]; show 0 ≤ 1 ∧ 1 ≤ 9; omega) (fun h => by unfold zs at h; omega)
  have hu_ν9 : ∀ k j, k < c → ν9 k j = μ k j := fun k j hk => by rw [hm_ν9]; exact (congrFun (xup_c (by omega)) j).trans (hu_ν8 k j hk)
  have hz_ν9 : ∀ k j, c + 5 ≤ k → ν9 k j = 0 := fun k j hk => by rw [hm_ν9]; exact (congrFun (xup_c (by omega)) j).trans (hz_ν8 k j (by omega))
  refine r_aload_n hL (x := c) dX5_init_66 rfl ?_
  refine r_getr hL xcl5 2 (q := (c + 3)) (by show _ < _; omega) hsh.1 (by decide) fl_X5_19 (by decide) (by show rf4 c 2 = _; rw [hrf4, hrf3, hrf2, hrf1]; simp [xup]) dX5_init_67 ?_
  refine r_iconst hL dX5_init_70 ?_
  refine r_iconst hL dX5_init_71 ?_
  refine r_iast hL dX5_init_72 (by show _ < _; omega) hsh.2.2.2.1 (by decide) (by omega) (by omega) (by omega) (fun ν10 hm_ν10 => ?_)
  have hB_ν10 : BZ ν10 := by rw [hm_ν10]; exact hB_ν9.up (by rw [(st_bk c h_c).2.2.2.1]; show 0 ≤ 3 ∧ 3 ≤ 9; omega) (fun h => by unfold zs at h; omega)
  have hu_ν10 : ∀ k j, k < c → ν10 k j = μ k j := fun k j hk => by rw [hm_ν10]; exact (congrFun (xup_c (by omega)) j).trans (hu_ν9 k j hk)
  have hz_ν10 : ∀ k j, c + 5 ≤ k → ν10 k j = 0 := fun k j hk => by rw [hm_ν10]; exact (congrFun (xup_c (by omega)) j).trans (hz_ν9 k j (by omega))
  refine r_vret hL dX5_init_73 rfl (hK _ _ ⟨rf4, rfl, fun k j hk => ?_, fun k j h0 h1 => ?_, fun k j hk => hg4 k j (by omega), fun k j hk => hz_ν10 k j (by omega), hB_ν10, hu_ν10, (fun h => by have q : ν10 (c + 3) 0 = 2 ∧ ν10 (c + 3) 1 = 2 ∧ ν10 (c + 3) 2 = 1 ∧ ν10 (c + 3) 3 = 3 := (by rw [hm_ν10, hm_ν9, hm_ν8, hm_ν7, hm_ν6, hm_ν5]; simp [xup]); rw [show c + 3 = 4 by omega] at q; exact q), (fun h => by omega)⟩)
  · rw [hrf4, hrf3, hrf2, hrf1]
    simp [xup, show k ≠ c by omega]
  · by_cases e : k = c
    · rw [e]
      rw [hrf4, hrf3, hrf2, hrf1]
      rw [((st_rl c h_c j).1)]
      by_cases hj : 0 ≤ j ∧ j < 4
      · rcases (show j = 0 ∨ j = 1 ∨ j = 2 ∨ j = 3 by omega) with h | h | h | h <;> subst h <;> simp [xup, xgl, hf]
      · rw [xgl_out (by simp only [List.length_cons, List.length_nil]; omega)]
        simp [xup, show j ≠ 0 by omega, show j ≠ 1 by omega, show j ≠ 2 by omega, show j ≠ 3 by omega, hf]
    · rw [hrf4, hrf3, hrf2, hrf1]
      simp only [xup, e, false_and, if_false]
      rw [hf k j h0]
      rcases (show k = c + 1 ∨ k = c + 2 ∨ k = c + 3 ∨ k = c + 4 by omega) with h | h | h | h <;> subst h
      · exact (xRF_none (fun j => (st_rl c h_c j).2.1) j).symm
      · exact (xRF_none (fun j => (st_rl c h_c j).2.2.1) j).symm
      · exact (xRF_none (fun j => (st_rl c h_c j).2.2.2.1) j).symm
      · exact (xRF_none (fun j => (st_rl c h_c j).2.2.2.2) j).symm

set_option maxHeartbeats 4000000 in
set_option maxRecDepth 20000 in
theorem m_X0_init {K : Option xV → xW → xM → Prop} {μ : xM} (rf : Nat → Int → Int) (hC : CP 88 rf μ) (hK : ∀ w' μ', CK 88 92 rf μ w' μ' → K none w' μ') : xMet yX0_init cX0_init 1 none 1 26 3 60 [xR 88] (89, xSH, rf) μ K := by
  obtain ⟨hf, hz, hB⟩ := hC
  refine xMet.go RX0 "<init>" rfl rfl (by decide) [some (xR 88)] (Nat.le_of_ble_eq_true rfl) rfl (fun X hL => ?_)
  have hu : ∀ k j, k < 88 → μ k j = μ k j := fun _ _ _ => rfl
  refine r_aload_n hL (x := 88) dX0_init_0 rfl ?_
  refine r_objInit hL dX0_init_1 ml_X0_3 im_Lib_objectInit kd_Lib_objectInit ⟨Nat.le_of_ble_eq_true rfl, Nat.le_of_ble_eq_true rfl⟩ ?_
  refine r_aload_n hL (x := 88) dX0_init_4 rfl ?_
  refine r_bipush hL dX0_init_5 (by decide) ?_
  refine r_newa hL 1 (nn := 20) dX0_init_7 (Or.inl ⟨rfl, rfl⟩) ac_Jvm_ClassFile_FieldType_int rfl (by decide) s_89 (fun j => hf (89) j (by omega)) (fun j => hz (89) j (by omega)) (show 88 < 89 ∧ True from ⟨by omega, trivial⟩) (show 88 < 89 ∧ True from ⟨by omega, trivial⟩) ⟨Nat.le_of_ble_eq_true rfl, Nat.le_of_ble_eq_true rfl⟩ ?_
  show X (1) (20) (90, xSH, rf) μ 9 [some (xR 88)] [xR 89, xR 88]
  refine r_putr hL xcl0 0 (j' := 0) rfl (by show _ < _; omega) s_88 (by decide) fw_X0_9 rfl rfl (by decide) (fun a => ⟨rfl, rfl⟩) (by show _ < _; omega) dX0_init_9 ?_
  obtain ⟨rf1, hrf1⟩ : ∃ r, r = xup rf 88 0 (89 : Int) := ⟨_, rfl⟩
  show X (1) (20) (90, xSH, (xup rf 88 0 (89 : Int))) μ 12 [some (xR 88)] []
  rw [← hrf1]
  have hg1 : ∀ k j, 90 ≤ k → rf1 k j = -1 := fun k j hk => by rw [hrf1]; exact (congrFun (xup_c (by omega)) j).trans (hf k j (by omega))
  refine r_aload_n hL (x := 88) dX0_init_12 rfl ?_
  refine r_bipush hL dX0_init_13 (by decide) ?_
  refine r_newa hL 1 (nn := 20) dX0_init_15 (Or.inl ⟨rfl, rfl⟩) ac_Jvm_ClassFile_FieldType_int rfl (by decide) s_90 (fun j => hg1 (90) j (by omega)) (fun j => hz (90) j (by omega)) (show 88 < 90 ∧ True from ⟨by omega, trivial⟩) (show 88 < 90 ∧ True from ⟨by omega, trivial⟩) ⟨Nat.le_of_ble_eq_true rfl, Nat.le_of_ble_eq_true rfl⟩ ?_
  show X (2) (40) (91, xSH, rf1) μ 17 [some (xR 88)] [xR 90, xR 88]
  refine r_putr hL xcl0 1 (j' := 1) rfl (by show _ < _; omega) s_88 (by decide) fw_X0_15 rfl rfl (by decide) (fun a => ⟨rfl, rfl⟩) (by show _ < _; omega) dX0_init_17 ?_
  obtain ⟨rf2, hrf2⟩ : ∃ r, r = xup rf1 88 1 (90 : Int) := ⟨_, rfl⟩
  show X (2) (40) (91, xSH, (xup rf1 88 1 (90 : Int))) μ 20 [some (xR 88)] []
  rw [← hrf2]
  have hg2 : ∀ k j, 91 ≤ k → rf2 k j = -1 := fun k j hk => by rw [hrf2]; exact (congrFun (xup_c (by omega)) j).trans (hg1 k j (by omega))
  refine r_aload_n hL (x := 88) dX0_init_20 rfl ?_
  refine r_bipush hL dX0_init_21 (by decide) ?_
  refine r_newa hL 1 (nn := 20) dX0_init_23 (Or.inl ⟨rfl, rfl⟩) ac_Jvm_ClassFile_FieldType_int rfl (by decide) s_91 (fun j => hg2 (91) j (by omega)) (fun j => hz (91) j (by omega)) (show 88 < 91 ∧ True from ⟨by omega, trivial⟩) (show 88 < 91 ∧ True from ⟨by omega, trivial⟩) ⟨Nat.le_of_ble_eq_true rfl, Nat.le_of_ble_eq_true rfl⟩ ?_
  show X (3) (60) (92, xSH, rf2) μ 25 [some (xR 88)] [xR 91, xR 88]
  refine r_putr hL xcl0 2 (j' := 2) rfl (by show _ < _; omega) s_88 (by decide) fw_X0_18 rfl rfl (by decide) (fun a => ⟨rfl, rfl⟩) (by show _ < _; omega) dX0_init_25 ?_
  obtain ⟨rf3, hrf3⟩ : ∃ r, r = xup rf2 88 2 (91 : Int) := ⟨_, rfl⟩
  show X (3) (60) (92, xSH, (xup rf2 88 2 (91 : Int))) μ 28 [some (xR 88)] []
  rw [← hrf3]
  have hg3 : ∀ k j, 92 ≤ k → rf3 k j = -1 := fun k j hk => by rw [hrf3]; exact (congrFun (xup_c (by omega)) j).trans (hg2 k j (by omega))
  refine r_aload_n hL (x := 88) dX0_init_28 rfl ?_
  refine r_iconst hL dX0_init_29 ?_
  refine r_puti hL xcl0 3 (j' := 3) rfl (by show _ < _; omega) s_88 (by decide) fl_X0_21 rfl rfl (by omega) dX0_init_30 (fun ν4 hm_ν4 => ?_)
  have hB_ν4 : BZ ν4 := by rw [hm_ν4]; exact hB.up (by show (3 : Int) = 3 → 0 ≤ 0 ∧ 0 ≤ 20; omega) (fun _ => rfl)
  have hu_ν4 : ∀ k j, k < 88 → ν4 k j = μ k j := fun k j hk => by rw [hm_ν4]; exact (congrFun (xup_c (by omega)) j).trans (hu k j hk)
  have hz_ν4 : ∀ k j, 92 ≤ k → ν4 k j = 0 := fun k j hk => by rw [hm_ν4]; exact (congrFun (xup_c (by omega)) j).trans (hz k j (by omega))
  refine r_vret hL dX0_init_33 rfl (hK _ _ ⟨rf3, rfl, fun k j hk => ?_, fun k j h0 h1 => ?_, fun k j hk => hg3 k j (by omega), fun k j hk => hz_ν4 k j (by omega), hB_ν4, hu_ν4, (fun h => by omega), (fun h => by omega)⟩)
  · rw [hrf3, hrf2, hrf1]
    simp [xup, show k ≠ 88 by omega]
  · by_cases e : k = 88
    · subst e
      rw [hrf3, hrf2, hrf1]
      rw [(show xRF 88 j = xgl [(89 : Int), (90 : Int), (91 : Int)] j from rfl)]
      by_cases hj : 0 ≤ j ∧ j < 3
      · rcases (show j = 0 ∨ j = 1 ∨ j = 2 by omega) with h | h | h <;> subst h <;> simp [xup, xgl, hf]
      · rw [xgl_out (by simp only [List.length_cons, List.length_nil]; omega)]
        simp [xup, show j ≠ 0 by omega, show j ≠ 1 by omega, show j ≠ 2 by omega, hf]
    · rw [hrf3, hrf2, hrf1]
      simp only [xup, e, false_and, if_false]
      rw [hf k j h0]
      rcases (show k = 89 ∨ k = 90 ∨ k = 91 by omega) with h | h | h <;> subst h
      · exact (xRF_none (fun _ => rfl) j).symm
      · exact (xRF_none (fun _ => rfl) j).symm
      · exact (xRF_none (fun _ => rfl) j).symm

set_option maxHeartbeats 4000000 in
set_option maxRecDepth 20000 in
theorem m_X4_init {K : Option xV → xW → xM → Prop} {μ : xM} (rf : Nat → Int → Int) (hC : CP 92 rf μ) (hK : ∀ w' μ', CK 92 100 rf μ w' μ' → K none w' μ') : xMet yX4_init cX4_init 1 none 1 26 7 407 [xR 92] (93, xSH, rf) μ K := by
  obtain ⟨hf, hz, hB⟩ := hC
  refine xMet.go RX4 "<init>" rfl rfl (by decide) [some (xR 92)] (Nat.le_of_ble_eq_true rfl) rfl (fun X hL => ?_)
  have hu : ∀ k j, k < 92 → μ k j = μ k j := fun _ _ _ => rfl
  refine r_aload_n hL (x := 92) dX4_init_0 rfl ?_
  refine r_objInit hL dX4_init_1 ml_X4_3 im_Lib_objectInit kd_Lib_objectInit ⟨Nat.le_of_ble_eq_true rfl, Nat.le_of_ble_eq_true rfl⟩ ?_
  refine r_aload_n hL (x := 92) dX4_init_4 rfl ?_
  refine r_bipush hL dX4_init_5 (by decide) ?_
  refine r_newa hL 1 (nn := 10) dX4_init_7 (Or.inl ⟨rfl, rfl⟩) ac_Jvm_ClassFile_FieldType_int rfl (by decide) s_93 (fun j => hf (93) j (by omega)) (fun j => hz (93) j (by omega)) (show 92 < 93 ∧ True from ⟨by omega, trivial⟩) (show 92 < 93 ∧ True from ⟨by omega, trivial⟩) ⟨Nat.le_of_ble_eq_true rfl, Nat.le_of_ble_eq_true rfl⟩ ?_
  show X (1) (10) (94, xSH, rf) μ 9 [some (xR 92)] [xR 93, xR 92]
  refine r_putr hL xcl4 0 (j' := 0) rfl (by show _ < _; omega) s_92 (by decide) fw_X4_9 rfl rfl (by decide) (fun a => ⟨rfl, rfl⟩) (by show _ < _; omega) dX4_init_9 ?_
  obtain ⟨rf1, hrf1⟩ : ∃ r, r = xup rf 92 0 (93 : Int) := ⟨_, rfl⟩
  show X (1) (10) (94, xSH, (xup rf 92 0 (93 : Int))) μ 12 [some (xR 92)] []
  rw [← hrf1]
  have hg1 : ∀ k j, 94 ≤ k → rf1 k j = -1 := fun k j hk => by rw [hrf1]; exact (congrFun (xup_c (by omega)) j).trans (hf k j (by omega))
  refine r_aload_n hL (x := 92) dX4_init_12 rfl ?_
  refine r_bipush hL dX4_init_13 (by decide) ?_
  refine r_newa hL 1 (nn := 10) dX4_init_15 (Or.inl ⟨rfl, rfl⟩) ac_Jvm_ClassFile_FieldType_int rfl (by decide) s_94 (fun j => hg1 (94) j (by omega)) (fun j => hz (94) j (by omega)) (show 92 < 94 ∧ True from ⟨by omega, trivial⟩) (show 92 < 94 ∧ True from ⟨by omega, trivial⟩) ⟨Nat.le_of_ble_eq_true rfl, Nat.le_of_ble_eq_true rfl⟩ ?_
  show X (2) (20) (95, xSH, rf1) μ 17 [some (xR 92)] [xR 94, xR 92]
  refine r_putr hL xcl4 1 (j' := 1) rfl (by show _ < _; omega) s_92 (by decide) fw_X4_15 rfl rfl (by decide) (fun a => ⟨rfl, rfl⟩) (by show _ < _; omega) dX4_init_17 ?_
  obtain ⟨rf2, hrf2⟩ : ∃ r, r = xup rf1 92 1 (94 : Int) := ⟨_, rfl⟩
  show X (2) (20) (95, xSH, (xup rf1 92 1 (94 : Int))) μ 20 [some (xR 92)] []
  rw [← hrf2]
  have hg2 : ∀ k j, 95 ≤ k → rf2 k j = -1 := fun k j hk => by rw [hrf2]; exact (congrFun (xup_c (by omega)) j).trans (hg1 k j (by omega))
  refine r_aload_n hL (x := 92) dX4_init_20 rfl ?_
  refine r_iconst hL dX4_init_21 ?_
  refine r_newa hL 1 (nn := 4) dX4_init_22 (Or.inl ⟨rfl, rfl⟩) ac_Jvm_ClassFile_FieldType_int rfl (by decide) s_95 (fun j => hg2 (95) j (by omega)) (fun j => hz (95) j (by omega)) (show 92 < 95 ∧ True from ⟨by omega, trivial⟩) (show 92 < 95 ∧ True from ⟨by omega, trivial⟩) ⟨Nat.le_of_ble_eq_true rfl, Nat.le_of_ble_eq_true rfl⟩ ?_
  show X (3) (24) (96, xSH, rf2) μ 24 [some (xR 92)] [xR 95, xR 92]
  refine r_putr hL xcl4 2 (j' := 2) rfl (by show _ < _; omega) s_92 (by decide) fw_X4_18 rfl rfl (by decide) (fun a => ⟨rfl, rfl⟩) (by show _ < _; omega) dX4_init_24 ?_
  obtain ⟨rf3, hrf3⟩ : ∃ r, r = xup rf2 92 2 (95 : Int) := ⟨_, rfl⟩
  show X (3) (24) (96, xSH, (xup rf2 92 2 (95 : Int))) μ 27 [some (xR 92)] []
  rw [← hrf3]
  have hg3 : ∀ k j, 96 ≤ k → rf3 k j = -1 := fun k j hk => by rw [hrf3]; exact (congrFun (xup_c (by omega)) j).trans (hg2 k j (by omega))
  refine r_aload_n hL (x := 92) dX4_init_27 rfl ?_
  refine r_bipush hL dX4_init_28 (by decide) ?_
  refine r_newa hL 1 (nn := 121) dX4_init_30 (Or.inl ⟨rfl, rfl⟩) ac_Jvm_ClassFile_FieldType_int rfl (by decide) s_96 (fun j => hg3 (96) j (by omega)) (fun j => hz (96) j (by omega)) (show 92 < 96 ∧ True from ⟨by omega, trivial⟩) (show 92 < 96 ∧ True from ⟨by omega, trivial⟩) ⟨Nat.le_of_ble_eq_true rfl, Nat.le_of_ble_eq_true rfl⟩ ?_
  show X (4) (145) (97, xSH, rf3) μ 32 [some (xR 92)] [xR 96, xR 92]
  refine r_putr hL xcl4 3 (j' := 3) rfl (by show _ < _; omega) s_92 (by decide) fw_X4_21 rfl rfl (by decide) (fun a => ⟨rfl, rfl⟩) (by show _ < _; omega) dX4_init_32 ?_
  obtain ⟨rf4, hrf4⟩ : ∃ r, r = xup rf3 92 3 (96 : Int) := ⟨_, rfl⟩
  show X (4) (145) (97, xSH, (xup rf3 92 3 (96 : Int))) μ 35 [some (xR 92)] []
  rw [← hrf4]
  have hg4 : ∀ k j, 97 ≤ k → rf4 k j = -1 := fun k j hk => by rw [hrf4]; exact (congrFun (xup_c (by omega)) j).trans (hg3 k j (by omega))
  refine r_aload_n hL (x := 92) dX4_init_35 rfl ?_
  refine r_bipush hL dX4_init_36 (by decide) ?_
  refine r_newa hL 1 (nn := 121) dX4_init_38 (Or.inl ⟨rfl, rfl⟩) ac_Jvm_ClassFile_FieldType_int rfl (by decide) s_97 (fun j => hg4 (97) j (by omega)) (fun j => hz (97) j (by omega)) (show 92 < 97 ∧ True from ⟨by omega, trivial⟩) (show 92 < 97 ∧ True from ⟨by omega, trivial⟩) ⟨Nat.le_of_ble_eq_true rfl, Nat.le_of_ble_eq_true rfl⟩ ?_
  show X (5) (266) (98, xSH, rf4) μ 40 [some (xR 92)] [xR 97, xR 92]
  refine r_putr hL xcl4 4 (j' := 4) rfl (by show _ < _; omega) s_92 (by decide) fw_X4_24 rfl rfl (by decide) (fun a => ⟨rfl, rfl⟩) (by show _ < _; omega) dX4_init_40 ?_
  obtain ⟨rf5, hrf5⟩ : ∃ r, r = xup rf4 92 4 (97 : Int) := ⟨_, rfl⟩
  show X (5) (266) (98, xSH, (xup rf4 92 4 (97 : Int))) μ 43 [some (xR 92)] []
  rw [← hrf5]
  have hg5 : ∀ k j, 98 ≤ k → rf5 k j = -1 := fun k j hk => by rw [hrf5]; exact (congrFun (xup_c (by omega)) j).trans (hg4 k j (by omega))
  refine r_aload_n hL (x := 92) dX4_init_43 rfl ?_
  refine r_bipush hL dX4_init_44 (by decide) ?_
  refine r_newa hL 1 (nn := 121) dX4_init_46 (Or.inl ⟨rfl, rfl⟩) ac_Jvm_ClassFile_FieldType_int rfl (by decide) s_98 (fun j => hg5 (98) j (by omega)) (fun j => hz (98) j (by omega)) (show 92 < 98 ∧ True from ⟨by omega, trivial⟩) (show 92 < 98 ∧ True from ⟨by omega, trivial⟩) ⟨Nat.le_of_ble_eq_true rfl, Nat.le_of_ble_eq_true rfl⟩ ?_
  show X (6) (387) (99, xSH, rf5) μ 48 [some (xR 92)] [xR 98, xR 92]
  refine r_putr hL xcl4 5 (j' := 5) rfl (by show _ < _; omega) s_92 (by decide) fw_X4_27 rfl rfl (by decide) (fun a => ⟨rfl, rfl⟩) (by show _ < _; omega) dX4_init_48 ?_
  obtain ⟨rf6, hrf6⟩ : ∃ r, r = xup rf5 92 5 (98 : Int) := ⟨_, rfl⟩
  show X (6) (387) (99, xSH, (xup rf5 92 5 (98 : Int))) μ 51 [some (xR 92)] []
  rw [← hrf6]
  have hg6 : ∀ k j, 99 ≤ k → rf6 k j = -1 := fun k j hk => by rw [hrf6]; exact (congrFun (xup_c (by omega)) j).trans (hg5 k j (by omega))
  refine r_aload_n hL (x := 92) dX4_init_51 rfl ?_
  refine r_bipush hL dX4_init_52 (by decide) ?_
  refine r_newa hL 1 (nn := 20) dX4_init_54 (Or.inl ⟨rfl, rfl⟩) ac_Jvm_ClassFile_FieldType_int rfl (by decide) s_99 (fun j => hg6 (99) j (by omega)) (fun j => hz (99) j (by omega)) (show 92 < 99 ∧ True from ⟨by omega, trivial⟩) (show 92 < 99 ∧ True from ⟨by omega, trivial⟩) ⟨Nat.le_of_ble_eq_true rfl, Nat.le_of_ble_eq_true rfl⟩ ?_
  show X (7) (407) (100, xSH, rf6) μ 56 [some (xR 92)] [xR 99, xR 92]
  refine r_putr hL xcl4 6 (j' := 6) rfl (by show _ < _; omega) s_92 (by decide) fw_X4_30 rfl rfl (by decide) (fun a => ⟨rfl, rfl⟩) (by show _ < _; omega) dX4_init_56 ?_
  obtain ⟨rf7, hrf7⟩ : ∃ r, r = xup rf6 92 6 (99 : Int) := ⟨_, rfl⟩
  show X (7) (407) (100, xSH, (xup rf6 92 6 (99 : Int))) μ 59 [some (xR 92)] []
  rw [← hrf7]
  have hg7 : ∀ k j, 100 ≤ k → rf7 k j = -1 := fun k j hk => by rw [hrf7]; exact (congrFun (xup_c (by omega)) j).trans (hg6 k j (by omega))
  refine r_aload_n hL (x := 92) dX4_init_59 rfl ?_
  refine r_iconst hL dX4_init_60 ?_
  refine r_puti hL xcl4 7 (j' := 7) rfl (by show _ < _; omega) s_92 (by decide) fl_X4_33 rfl rfl (by omega) dX4_init_61 (fun ν8 hm_ν8 => ?_)
  have hB_ν8 : BZ ν8 := by rw [hm_ν8]; exact hB.up (by show ((7 : Int) = 7 → 0 ≤ 0 ∧ 0 ≤ 10) ∧ ((7 : Int) = 8 → 0 ≤ 0 ∧ 0 ≤ 10); omega) (fun _ => rfl)
  have hu_ν8 : ∀ k j, k < 92 → ν8 k j = μ k j := fun k j hk => by rw [hm_ν8]; exact (congrFun (xup_c (by omega)) j).trans (hu k j hk)
  have hz_ν8 : ∀ k j, 100 ≤ k → ν8 k j = 0 := fun k j hk => by rw [hm_ν8]; exact (congrFun (xup_c (by omega)) j).trans (hz k j (by omega))
  refine r_aload_n hL (x := 92) dX4_init_64 rfl ?_
  refine r_iconst hL dX4_init_65 ?_
  refine r_puti hL xcl4 8 (j' := 8) rfl (by show _ < _; omega) s_92 (by decide) fl_X4_37 rfl rfl (by omega) dX4_init_66 (fun ν9 hm_ν9 => ?_)
  have hB_ν9 : BZ ν9 := by rw [hm_ν9]; exact hB_ν8.up (by show ((8 : Int) = 7 → 0 ≤ 0 ∧ 0 ≤ 10) ∧ ((8 : Int) = 8 → 0 ≤ 0 ∧ 0 ≤ 10); omega) (fun _ => rfl)
  have hu_ν9 : ∀ k j, k < 92 → ν9 k j = μ k j := fun k j hk => by rw [hm_ν9]; exact (congrFun (xup_c (by omega)) j).trans (hu_ν8 k j hk)
  have hz_ν9 : ∀ k j, 100 ≤ k → ν9 k j = 0 := fun k j hk => by rw [hm_ν9]; exact (congrFun (xup_c (by omega)) j).trans (hz_ν8 k j (by omega))
  refine r_vret hL dX4_init_69 rfl (hK _ _ ⟨rf7, rfl, fun k j hk => ?_, fun k j h0 h1 => ?_, fun k j hk => hg7 k j (by omega), fun k j hk => hz_ν9 k j (by omega), hB_ν9, hu_ν9, (fun h => by omega), (fun h => by omega)⟩)
  · rw [hrf7, hrf6, hrf5, hrf4, hrf3, hrf2, hrf1]
    simp [xup, show k ≠ 92 by omega]
  · by_cases e : k = 92
    · subst e
      rw [hrf7, hrf6, hrf5, hrf4, hrf3, hrf2, hrf1]
      rw [(show xRF 92 j = xgl [(93 : Int), (94 : Int), (95 : Int), (96 : Int), (97 : Int), (98 : Int), (99 : Int)] j from rfl)]
      by_cases hj : 0 ≤ j ∧ j < 7
      · rcases (show j = 0 ∨ j = 1 ∨ j = 2 ∨ j = 3 ∨ j = 4 ∨ j = 5 ∨ j = 6 by omega) with h | h | h | h | h | h | h <;> subst h <;> simp [xup, xgl, hf]
      · rw [xgl_out (by simp only [List.length_cons, List.length_nil]; omega)]
        simp [xup, show j ≠ 0 by omega, show j ≠ 1 by omega, show j ≠ 2 by omega, show j ≠ 3 by omega, show j ≠ 4 by omega, show j ≠ 5 by omega, show j ≠ 6 by omega, hf]
    · rw [hrf7, hrf6, hrf5, hrf4, hrf3, hrf2, hrf1]
      simp only [xup, e, false_and, if_false]
      rw [hf k j h0]
      rcases (show k = 93 ∨ k = 94 ∨ k = 95 ∨ k = 96 ∨ k = 97 ∨ k = 98 ∨ k = 99 by omega) with h | h | h | h | h | h | h <;> subst h
      · exact (xRF_none (fun _ => rfl) j).symm
      · exact (xRF_none (fun _ => rfl) j).symm
      · exact (xRF_none (fun _ => rfl) j).symm
      · exact (xRF_none (fun _ => rfl) j).symm
      · exact (xRF_none (fun _ => rfl) j).symm
      · exact (xRF_none (fun _ => rfl) j).symm
      · exact (xRF_none (fun _ => rfl) j).symm

set_option maxHeartbeats 4000000 in
set_option maxRecDepth 20000 in
theorem m_X2_init {K : Option xV → xW → xM → Prop} {μ : xM} (rf : Nat → Int → Int) (hC : CP 100 rf μ) (hK : ∀ w' μ', CK 100 102 rf μ w' μ' → K none w' μ') : xMet yX2_init cX2_init 1 none 1 26 1 64 [xR 100] (101, xSH, rf) μ K := by
  obtain ⟨hf, hz, hB⟩ := hC
  refine xMet.go RX2 "<init>" rfl rfl (by decide) [some (xR 100)] (Nat.le_of_ble_eq_true rfl) rfl (fun X hL => ?_)
  have hu : ∀ k j, k < 100 → μ k j = μ k j := fun _ _ _ => rfl
  refine r_aload_n hL (x := 100) dX2_init_0 rfl ?_
  refine r_objInit hL dX2_init_1 ml_X2_3 im_Lib_objectInit kd_Lib_objectInit ⟨Nat.le_of_ble_eq_true rfl, Nat.le_of_ble_eq_true rfl⟩ ?_
  refine r_aload_n hL (x := 100) dX2_init_4 rfl ?_
  refine r_bipush hL dX2_init_5 (by decide) ?_
  refine r_newa hL 1 (nn := 64) dX2_init_7 (Or.inl ⟨rfl, rfl⟩) ac_Jvm_ClassFile_FieldType_int rfl (by decide) s_101 (fun j => hf (101) j (by omega)) (fun j => hz (101) j (by omega)) (show 100 < 101 ∧ True from ⟨by omega, trivial⟩) (show 100 < 101 ∧ True from ⟨by omega, trivial⟩) ⟨Nat.le_of_ble_eq_true rfl, Nat.le_of_ble_eq_true rfl⟩ ?_
  show X (1) (64) (102, xSH, rf) μ 9 [some (xR 100)] [xR 101, xR 100]
  refine r_putr hL xcl2 0 (j' := 0) rfl (by show _ < _; omega) s_100 (by decide) fw_X2_9 rfl rfl (by decide) (fun a => ⟨rfl, rfl⟩) (by show _ < _; omega) dX2_init_9 ?_
  obtain ⟨rf1, hrf1⟩ : ∃ r, r = xup rf 100 0 (101 : Int) := ⟨_, rfl⟩
  show X (1) (64) (102, xSH, (xup rf 100 0 (101 : Int))) μ 12 [some (xR 100)] []
  rw [← hrf1]
  have hg1 : ∀ k j, 102 ≤ k → rf1 k j = -1 := fun k j hk => by rw [hrf1]; exact (congrFun (xup_c (by omega)) j).trans (hf k j (by omega))
  refine r_vret hL dX2_init_12 rfl (hK _ _ ⟨rf1, rfl, fun k j hk => ?_, fun k j h0 h1 => ?_, fun k j hk => hg1 k j (by omega), fun k j hk => hz k j (by omega), hB, hu, (fun h => by omega), (fun h => by omega)⟩)
  · rw [hrf1]
    simp [xup, show k ≠ 100 by omega]
  · by_cases e : k = 100
    · subst e
      rw [hrf1]
      rw [(show xRF 100 j = xgl [(101 : Int)] j from rfl)]
      by_cases hj : 0 ≤ j ∧ j < 1
      · rcases (show j = 0 by omega) with h <;> subst h <;> simp [xup, xgl, hf]
      · rw [xgl_out (by simp only [List.length_cons, List.length_nil]; omega)]
        simp [xup, show j ≠ 0 by omega, hf]
    · rw [hrf1]
      simp only [xup, e, false_and, if_false]
      rw [hf k j h0]
      rcases (show k = 101 by omega) with h <;> subst h
      · exact (xRF_none (fun _ => rfl) j).symm

set_option maxHeartbeats 4000000 in
set_option maxRecDepth 20000 in
theorem m_X6_init {K : Option xV → xW → xM → Prop} {μ : xM} (rf : Nat → Int → Int) (hC : CP 102 rf μ) (hK : ∀ w' μ', CK 102 107 rf μ w' μ' → K none w' μ') : xMet yX6_init cX6_init 1 none 1 26 4 32 [xR 102] (103, xSH, rf) μ K := by
  obtain ⟨hf, hz, hB⟩ := hC
  refine xMet.go RX6 "<init>" rfl rfl (by decide) [some (xR 102)] (Nat.le_of_ble_eq_true rfl) rfl (fun X hL => ?_)
  have hu : ∀ k j, k < 102 → μ k j = μ k j := fun _ _ _ => rfl
  refine r_aload_n hL (x := 102) dX6_init_0 rfl ?_
  refine r_objInit hL dX6_init_1 ml_X6_3 im_Lib_objectInit kd_Lib_objectInit ⟨Nat.le_of_ble_eq_true rfl, Nat.le_of_ble_eq_true rfl⟩ ?_
  refine r_aload_n hL (x := 102) dX6_init_4 rfl ?_
  refine r_bipush hL dX6_init_5 (by decide) ?_
  refine r_newa hL 1 (nn := 8) dX6_init_7 (Or.inl ⟨rfl, rfl⟩) ac_Jvm_ClassFile_FieldType_int rfl (by decide) s_103 (fun j => hf (103) j (by omega)) (fun j => hz (103) j (by omega)) (show 102 < 103 ∧ True from ⟨by omega, trivial⟩) (show 102 < 103 ∧ True from ⟨by omega, trivial⟩) ⟨Nat.le_of_ble_eq_true rfl, Nat.le_of_ble_eq_true rfl⟩ ?_
  show X (1) (8) (104, xSH, rf) μ 9 [some (xR 102)] [xR 103, xR 102]
  refine r_putr hL xcl6 0 (j' := 0) rfl (by show _ < _; omega) s_102 (by decide) fw_X6_9 rfl rfl (by decide) (fun a => ⟨rfl, rfl⟩) (by show _ < _; omega) dX6_init_9 ?_
  obtain ⟨rf1, hrf1⟩ : ∃ r, r = xup rf 102 0 (103 : Int) := ⟨_, rfl⟩
  show X (1) (8) (104, xSH, (xup rf 102 0 (103 : Int))) μ 12 [some (xR 102)] []
  rw [← hrf1]
  have hg1 : ∀ k j, 104 ≤ k → rf1 k j = -1 := fun k j hk => by rw [hrf1]; exact (congrFun (xup_c (by omega)) j).trans (hf k j (by omega))
  refine r_aload_n hL (x := 102) dX6_init_12 rfl ?_
  refine r_bipush hL dX6_init_13 (by decide) ?_
  refine r_newa hL 1 (nn := 8) dX6_init_15 (Or.inl ⟨rfl, rfl⟩) ac_Jvm_ClassFile_FieldType_int rfl (by decide) s_104 (fun j => hg1 (104) j (by omega)) (fun j => hz (104) j (by omega)) (show 102 < 104 ∧ True from ⟨by omega, trivial⟩) (show 102 < 104 ∧ True from ⟨by omega, trivial⟩) ⟨Nat.le_of_ble_eq_true rfl, Nat.le_of_ble_eq_true rfl⟩ ?_
  show X (2) (16) (105, xSH, rf1) μ 17 [some (xR 102)] [xR 104, xR 102]
  refine r_putr hL xcl6 1 (j' := 1) rfl (by show _ < _; omega) s_102 (by decide) fw_X6_15 rfl rfl (by decide) (fun a => ⟨rfl, rfl⟩) (by show _ < _; omega) dX6_init_17 ?_
  obtain ⟨rf2, hrf2⟩ : ∃ r, r = xup rf1 102 1 (104 : Int) := ⟨_, rfl⟩
  show X (2) (16) (105, xSH, (xup rf1 102 1 (104 : Int))) μ 20 [some (xR 102)] []
  rw [← hrf2]
  have hg2 : ∀ k j, 105 ≤ k → rf2 k j = -1 := fun k j hk => by rw [hrf2]; exact (congrFun (xup_c (by omega)) j).trans (hg1 k j (by omega))
  refine r_aload_n hL (x := 102) dX6_init_20 rfl ?_
  refine r_bipush hL dX6_init_21 (by decide) ?_
  refine r_newa hL 1 (nn := 8) dX6_init_23 (Or.inl ⟨rfl, rfl⟩) ac_Jvm_ClassFile_FieldType_int rfl (by decide) s_105 (fun j => hg2 (105) j (by omega)) (fun j => hz (105) j (by omega)) (show 102 < 105 ∧ True from ⟨by omega, trivial⟩) (show 102 < 105 ∧ True from ⟨by omega, trivial⟩) ⟨Nat.le_of_ble_eq_true rfl, Nat.le_of_ble_eq_true rfl⟩ ?_
  show X (3) (24) (106, xSH, rf2) μ 25 [some (xR 102)] [xR 105, xR 102]
  refine r_putr hL xcl6 2 (j' := 2) rfl (by show _ < _; omega) s_102 (by decide) fw_X6_18 rfl rfl (by decide) (fun a => ⟨rfl, rfl⟩) (by show _ < _; omega) dX6_init_25 ?_
  obtain ⟨rf3, hrf3⟩ : ∃ r, r = xup rf2 102 2 (105 : Int) := ⟨_, rfl⟩
  show X (3) (24) (106, xSH, (xup rf2 102 2 (105 : Int))) μ 28 [some (xR 102)] []
  rw [← hrf3]
  have hg3 : ∀ k j, 106 ≤ k → rf3 k j = -1 := fun k j hk => by rw [hrf3]; exact (congrFun (xup_c (by omega)) j).trans (hg2 k j (by omega))
  refine r_aload_n hL (x := 102) dX6_init_28 rfl ?_
  refine r_bipush hL dX6_init_29 (by decide) ?_
  refine r_newa hL 1 (nn := 8) dX6_init_31 (Or.inl ⟨rfl, rfl⟩) ac_Jvm_ClassFile_FieldType_int rfl (by decide) s_106 (fun j => hg3 (106) j (by omega)) (fun j => hz (106) j (by omega)) (show 102 < 106 ∧ True from ⟨by omega, trivial⟩) (show 102 < 106 ∧ True from ⟨by omega, trivial⟩) ⟨Nat.le_of_ble_eq_true rfl, Nat.le_of_ble_eq_true rfl⟩ ?_
  show X (4) (32) (107, xSH, rf3) μ 33 [some (xR 102)] [xR 106, xR 102]
  refine r_putr hL xcl6 3 (j' := 3) rfl (by show _ < _; omega) s_102 (by decide) fw_X6_21 rfl rfl (by decide) (fun a => ⟨rfl, rfl⟩) (by show _ < _; omega) dX6_init_33 ?_
  obtain ⟨rf4, hrf4⟩ : ∃ r, r = xup rf3 102 3 (106 : Int) := ⟨_, rfl⟩
  show X (4) (32) (107, xSH, (xup rf3 102 3 (106 : Int))) μ 36 [some (xR 102)] []
  rw [← hrf4]
  have hg4 : ∀ k j, 107 ≤ k → rf4 k j = -1 := fun k j hk => by rw [hrf4]; exact (congrFun (xup_c (by omega)) j).trans (hg3 k j (by omega))
  refine r_aload_n hL (x := 102) dX6_init_36 rfl ?_
  refine r_iconst hL dX6_init_37 ?_
  refine r_puti hL xcl6 4 (j' := 4) rfl (by show _ < _; omega) s_102 (by decide) fl_X6_24 rfl rfl (by omega) dX6_init_38 (fun ν5 hm_ν5 => ?_)
  have hB_ν5 : BZ ν5 := by rw [hm_ν5]; exact hB.up (by show (4 : Int) = 4 → 0 ≤ 0 ∧ 0 ≤ 7; omega) (fun _ => rfl)
  have hu_ν5 : ∀ k j, k < 102 → ν5 k j = μ k j := fun k j hk => by rw [hm_ν5]; exact (congrFun (xup_c (by omega)) j).trans (hu k j hk)
  have hz_ν5 : ∀ k j, 107 ≤ k → ν5 k j = 0 := fun k j hk => by rw [hm_ν5]; exact (congrFun (xup_c (by omega)) j).trans (hz k j (by omega))
  refine r_aload_n hL (x := 102) dX6_init_41 rfl ?_
  refine r_iconst hL dX6_init_42 ?_
  refine r_puti hL xcl6 5 (j' := 5) rfl (by show _ < _; omega) s_102 (by decide) fl_X6_28 rfl rfl (by omega) dX6_init_43 (fun ν6 hm_ν6 => ?_)
  have hB_ν6 : BZ ν6 := by rw [hm_ν6]; exact hB_ν5.up (by show (5 : Int) = 4 → 0 ≤ 0 ∧ 0 ≤ 7; omega) (fun _ => rfl)
  have hu_ν6 : ∀ k j, k < 102 → ν6 k j = μ k j := fun k j hk => by rw [hm_ν6]; exact (congrFun (xup_c (by omega)) j).trans (hu_ν5 k j hk)
  have hz_ν6 : ∀ k j, 107 ≤ k → ν6 k j = 0 := fun k j hk => by rw [hm_ν6]; exact (congrFun (xup_c (by omega)) j).trans (hz_ν5 k j (by omega))
  refine r_aload_n hL (x := 102) dX6_init_46 rfl ?_
  refine r_iconst hL dX6_init_47 ?_
  refine r_puti hL xcl6 6 (j' := 6) rfl (by show _ < _; omega) s_102 (by decide) fl_X6_31 rfl rfl (by omega) dX6_init_48 (fun ν7 hm_ν7 => ?_)
  have hB_ν7 : BZ ν7 := by rw [hm_ν7]; exact hB_ν6.up (by show (6 : Int) = 4 → 0 ≤ 1 ∧ 1 ≤ 7; omega) (fun h => by unfold zs at h; omega)
  have hu_ν7 : ∀ k j, k < 102 → ν7 k j = μ k j := fun k j hk => by rw [hm_ν7]; exact (congrFun (xup_c (by omega)) j).trans (hu_ν6 k j hk)
  have hz_ν7 : ∀ k j, 107 ≤ k → ν7 k j = 0 := fun k j hk => by rw [hm_ν7]; exact (congrFun (xup_c (by omega)) j).trans (hz_ν6 k j (by omega))
  refine r_aload_n hL (x := 102) dX6_init_51 rfl ?_
  refine r_iconst hL dX6_init_52 ?_
  refine r_puti hL xcl6 7 (j' := 7) rfl (by show _ < _; omega) s_102 (by decide) fl_X6_34 rfl rfl (by omega) dX6_init_53 (fun ν8 hm_ν8 => ?_)
  have hB_ν8 : BZ ν8 := by rw [hm_ν8]; exact hB_ν7.up (by show (7 : Int) = 4 → 0 ≤ 0 ∧ 0 ≤ 7; omega) (fun _ => rfl)
  have hu_ν8 : ∀ k j, k < 102 → ν8 k j = μ k j := fun k j hk => by rw [hm_ν8]; exact (congrFun (xup_c (by omega)) j).trans (hu_ν7 k j hk)
  have hz_ν8 : ∀ k j, 107 ≤ k → ν8 k j = 0 := fun k j hk => by rw [hm_ν8]; exact (congrFun (xup_c (by omega)) j).trans (hz_ν7 k j (by omega))
  refine r_aload_n hL (x := 102) dX6_init_56 rfl ?_
  refine r_iconst hL dX6_init_57 ?_
  refine r_puti hL xcl6 8 (j' := 8) rfl (by show _ < _; omega) s_102 (by decide) fl_X6_37 rfl rfl (by omega) dX6_init_58 (fun ν9 hm_ν9 => ?_)
  have hB_ν9 : BZ ν9 := by rw [hm_ν9]; exact hB_ν8.up (by show (8 : Int) = 4 → 0 ≤ 1 ∧ 1 ≤ 7; omega) (fun h => by unfold zs at h; omega)
  have hu_ν9 : ∀ k j, k < 102 → ν9 k j = μ k j := fun k j hk => by rw [hm_ν9]; exact (congrFun (xup_c (by omega)) j).trans (hu_ν8 k j hk)
  have hz_ν9 : ∀ k j, 107 ≤ k → ν9 k j = 0 := fun k j hk => by rw [hm_ν9]; exact (congrFun (xup_c (by omega)) j).trans (hz_ν8 k j (by omega))
  refine r_aload_n hL (x := 102) dX6_init_61 rfl ?_
  refine r_iconst hL dX6_init_62 ?_
  refine r_puti hL xcl6 9 (j' := 9) rfl (by show _ < _; omega) s_102 (by decide) fl_X6_40 rfl rfl (by omega) dX6_init_63 (fun ν10 hm_ν10 => ?_)
  have hB_ν10 : BZ ν10 := by rw [hm_ν10]; exact hB_ν9.up (by show (9 : Int) = 4 → 0 ≤ 0 ∧ 0 ≤ 7; omega) (fun _ => rfl)
  have hu_ν10 : ∀ k j, k < 102 → ν10 k j = μ k j := fun k j hk => by rw [hm_ν10]; exact (congrFun (xup_c (by omega)) j).trans (hu_ν9 k j hk)
  have hz_ν10 : ∀ k j, 107 ≤ k → ν10 k j = 0 := fun k j hk => by rw [hm_ν10]; exact (congrFun (xup_c (by omega)) j).trans (hz_ν9 k j (by omega))
  refine r_aload_n hL (x := 102) dX6_init_66 rfl ?_
  refine r_iconst hL dX6_init_67 ?_
  refine r_puti hL xcl6 10 (j' := 10) rfl (by show _ < _; omega) s_102 (by decide) fl_X6_43 rfl rfl (by omega) dX6_init_68 (fun ν11 hm_ν11 => ?_)
  have hB_ν11 : BZ ν11 := by rw [hm_ν11]; exact hB_ν10.up (by show (10 : Int) = 4 → 0 ≤ 0 ∧ 0 ≤ 7; omega) (fun _ => rfl)
  have hu_ν11 : ∀ k j, k < 102 → ν11 k j = μ k j := fun k j hk => by rw [hm_ν11]; exact (congrFun (xup_c (by omega)) j).trans (hu_ν10 k j hk)
  have hz_ν11 : ∀ k j, 107 ≤ k → ν11 k j = 0 := fun k j hk => by rw [hm_ν11]; exact (congrFun (xup_c (by omega)) j).trans (hz_ν10 k j (by omega))
  refine r_vret hL dX6_init_71 rfl (hK _ _ ⟨rf4, rfl, fun k j hk => ?_, fun k j h0 h1 => ?_, fun k j hk => hg4 k j (by omega), fun k j hk => hz_ν11 k j (by omega), hB_ν11, hu_ν11, (fun h => by omega), (fun h => by omega)⟩)
  · rw [hrf4, hrf3, hrf2, hrf1]
    simp [xup, show k ≠ 102 by omega]
  · by_cases e : k = 102
    · subst e
      rw [hrf4, hrf3, hrf2, hrf1]
      rw [(show xRF 102 j = xgl [(103 : Int), (104 : Int), (105 : Int), (106 : Int)] j from rfl)]
      by_cases hj : 0 ≤ j ∧ j < 4
      · rcases (show j = 0 ∨ j = 1 ∨ j = 2 ∨ j = 3 by omega) with h | h | h | h <;> subst h <;> simp [xup, xgl, hf]
      · rw [xgl_out (by simp only [List.length_cons, List.length_nil]; omega)]
        simp [xup, show j ≠ 0 by omega, show j ≠ 1 by omega, show j ≠ 2 by omega, show j ≠ 3 by omega, hf]
    · rw [hrf4, hrf3, hrf2, hrf1]
      simp only [xup, e, false_and, if_false]
      rw [hf k j h0]
      rcases (show k = 103 ∨ k = 104 ∨ k = 105 ∨ k = 106 by omega) with h | h | h | h <;> subst h
      · exact (xRF_none (fun _ => rfl) j).symm
      · exact (xRF_none (fun _ => rfl) j).symm
      · exact (xRF_none (fun _ => rfl) j).symm
      · exact (xRF_none (fun _ => rfl) j).symm

set_option maxHeartbeats 4000000 in
set_option maxRecDepth 20000 in
theorem m_X8_init {K : Option xV → xW → xM → Prop} {μ : xM} (rf : Nat → Int → Int) (hC : CP 120 rf μ) (hK : ∀ w' μ', CK 120 138 rf μ w' μ' → K none w' μ') : xMet yX8_init cX8_init 1 none 1 26 17 2660 [xR 120] (121, xSH, rf) μ K := by
  obtain ⟨hf, hz, hB⟩ := hC
  refine xMet.go RX8 "<init>" rfl rfl (by decide) [some (xR 120)] (Nat.le_of_ble_eq_true rfl) rfl (fun X hL => ?_)
  have hu : ∀ k j, k < 120 → μ k j = μ k j := fun _ _ _ => rfl
  refine r_aload_n hL (x := 120) dX8_init_0 rfl ?_
  refine r_objInit hL dX8_init_1 ml_X8_1 im_Lib_objectInit kd_Lib_objectInit ⟨Nat.le_of_ble_eq_true rfl, Nat.le_of_ble_eq_true rfl⟩ ?_
  refine r_aload_n hL (x := 120) dX8_init_4 rfl ?_
  refine r_bipush hL dX8_init_5 (by decide) ?_
  refine r_newa hL 1 (nn := 110) dX8_init_7 (Or.inl ⟨rfl, rfl⟩) ac_Jvm_ClassFile_FieldType_int rfl (by decide) s_121 (fun j => hf (121) j (by omega)) (fun j => hz (121) j (by omega)) (show 120 < 121 ∧ True from ⟨by omega, trivial⟩) (show 120 < 121 ∧ True from ⟨by omega, trivial⟩) ⟨Nat.le_of_ble_eq_true rfl, Nat.le_of_ble_eq_true rfl⟩ ?_
  show X (1) (110) (122, xSH, rf) μ 9 [some (xR 120)] [xR 121, xR 120]
  refine r_putr hL xcl8 0 (j' := 0) rfl (by show _ < _; omega) s_120 (by decide) fw_X8_7 rfl rfl (by decide) (fun a => ⟨rfl, rfl⟩) (by show _ < _; omega) dX8_init_9 ?_
  obtain ⟨rf1, hrf1⟩ : ∃ r, r = xup rf 120 0 (121 : Int) := ⟨_, rfl⟩
  show X (1) (110) (122, xSH, (xup rf 120 0 (121 : Int))) μ 12 [some (xR 120)] []
  rw [← hrf1]
  have hg1 : ∀ k j, 122 ≤ k → rf1 k j = -1 := fun k j hk => by rw [hrf1]; exact (congrFun (xup_c (by omega)) j).trans (hf k j (by omega))
  refine r_aload_n hL (x := 120) dX8_init_12 rfl ?_
  refine r_sipush hL dX8_init_13 (by decide) ?_
  refine r_newa hL 1 (nn := 1760) dX8_init_16 (Or.inl ⟨rfl, rfl⟩) ac_Jvm_ClassFile_FieldType_int rfl (by decide) s_122 (fun j => hg1 (122) j (by omega)) (fun j => hz (122) j (by omega)) (show 120 < 122 ∧ True from ⟨by omega, trivial⟩) (show 120 < 122 ∧ True from ⟨by omega, trivial⟩) ⟨Nat.le_of_ble_eq_true rfl, Nat.le_of_ble_eq_true rfl⟩ ?_
  show X (2) (1870) (123, xSH, rf1) μ 18 [some (xR 120)] [xR 122, xR 120]
  refine r_putr hL xcl8 1 (j' := 1) rfl (by show _ < _; omega) s_120 (by decide) fw_X8_13 rfl rfl (by decide) (fun a => ⟨rfl, rfl⟩) (by show _ < _; omega) dX8_init_18 ?_
  obtain ⟨rf2, hrf2⟩ : ∃ r, r = xup rf1 120 1 (122 : Int) := ⟨_, rfl⟩
  show X (2) (1870) (123, xSH, (xup rf1 120 1 (122 : Int))) μ 21 [some (xR 120)] []
  rw [← hrf2]
  have hg2 : ∀ k j, 123 ≤ k → rf2 k j = -1 := fun k j hk => by rw [hrf2]; exact (congrFun (xup_c (by omega)) j).trans (hg1 k j (by omega))
  refine r_aload_n hL (x := 120) dX8_init_21 rfl ?_
  refine r_sipush hL dX8_init_22 (by decide) ?_
  refine r_newa hL 1 (nn := 222) dX8_init_25 (Or.inl ⟨rfl, rfl⟩) ac_Jvm_ClassFile_FieldType_int rfl (by decide) s_123 (fun j => hg2 (123) j (by omega)) (fun j => hz (123) j (by omega)) (show 120 < 123 ∧ True from ⟨by omega, trivial⟩) (show 120 < 123 ∧ True from ⟨by omega, trivial⟩) ⟨Nat.le_of_ble_eq_true rfl, Nat.le_of_ble_eq_true rfl⟩ ?_
  show X (3) (2092) (124, xSH, rf2) μ 27 [some (xR 120)] [xR 123, xR 120]
  refine r_putr hL xcl8 3 (j' := 3) rfl (by show _ < _; omega) s_120 (by decide) fw_X8_16 rfl rfl (by decide) (fun a => ⟨rfl, rfl⟩) (by show _ < _; omega) dX8_init_27 ?_
  obtain ⟨rf3, hrf3⟩ : ∃ r, r = xup rf2 120 3 (123 : Int) := ⟨_, rfl⟩
  show X (3) (2092) (124, xSH, (xup rf2 120 3 (123 : Int))) μ 30 [some (xR 120)] []
  rw [← hrf3]
  have hg3 : ∀ k j, 124 ≤ k → rf3 k j = -1 := fun k j hk => by rw [hrf3]; exact (congrFun (xup_c (by omega)) j).trans (hg2 k j (by omega))
  refine r_aload_n hL (x := 120) dX8_init_30 rfl ?_
  refine r_iconst hL dX8_init_31 ?_
  refine r_newa hL 3 (nn := 2) dX8_init_32 (Or.inr (Or.inr ⟨rfl, rfl⟩)) ac_Jvm_ClassFile_FieldType_boolean rfl (by decide) s_124 (fun j => hg3 (124) j (by omega)) (fun j => hz (124) j (by omega)) (show 120 < 124 ∧ True from ⟨by omega, trivial⟩) (show 120 < 124 ∧ True from ⟨by omega, trivial⟩) ⟨Nat.le_of_ble_eq_true rfl, Nat.le_of_ble_eq_true rfl⟩ ?_
  show X (4) (2094) (125, xSH, rf3) μ 34 [some (xR 120)] [xR 124, xR 120]
  refine r_putr hL xcl8 4 (j' := 4) rfl (by show _ < _; omega) s_120 (by decide) fw_X8_19 rfl rfl (by decide) (fun a => ⟨rfl, rfl⟩) (by show _ < _; omega) dX8_init_34 ?_
  obtain ⟨rf4, hrf4⟩ : ∃ r, r = xup rf3 120 4 (124 : Int) := ⟨_, rfl⟩
  show X (4) (2094) (125, xSH, (xup rf3 120 4 (124 : Int))) μ 37 [some (xR 120)] []
  rw [← hrf4]
  have hg4 : ∀ k j, 125 ≤ k → rf4 k j = -1 := fun k j hk => by rw [hrf4]; exact (congrFun (xup_c (by omega)) j).trans (hg3 k j (by omega))
  refine r_aload_n hL (x := 120) dX8_init_37 rfl ?_
  refine r_bipush hL dX8_init_38 (by decide) ?_
  refine r_newa hL 1 (nn := 10) dX8_init_40 (Or.inl ⟨rfl, rfl⟩) ac_Jvm_ClassFile_FieldType_int rfl (by decide) s_125 (fun j => hg4 (125) j (by omega)) (fun j => hz (125) j (by omega)) (show 120 < 125 ∧ True from ⟨by omega, trivial⟩) (show 120 < 125 ∧ True from ⟨by omega, trivial⟩) ⟨Nat.le_of_ble_eq_true rfl, Nat.le_of_ble_eq_true rfl⟩ ?_
  show X (5) (2104) (126, xSH, rf4) μ 42 [some (xR 120)] [xR 125, xR 120]
  refine r_putr hL xcl8 5 (j' := 5) rfl (by show _ < _; omega) s_120 (by decide) fw_X8_23 rfl rfl (by decide) (fun a => ⟨rfl, rfl⟩) (by show _ < _; omega) dX8_init_42 ?_
  obtain ⟨rf5, hrf5⟩ : ∃ r, r = xup rf4 120 5 (125 : Int) := ⟨_, rfl⟩
  show X (5) (2104) (126, xSH, (xup rf4 120 5 (125 : Int))) μ 45 [some (xR 120)] []
  rw [← hrf5]
  have hg5 : ∀ k j, 126 ≤ k → rf5 k j = -1 := fun k j hk => by rw [hrf5]; exact (congrFun (xup_c (by omega)) j).trans (hg4 k j (by omega))
  refine r_aload_n hL (x := 120) dX8_init_45 rfl ?_
  refine r_bipush hL dX8_init_46 (by decide) ?_
  refine r_newa hL 1 (nn := 60) dX8_init_48 (Or.inl ⟨rfl, rfl⟩) ac_Jvm_ClassFile_FieldType_int rfl (by decide) s_126 (fun j => hg5 (126) j (by omega)) (fun j => hz (126) j (by omega)) (show 120 < 126 ∧ True from ⟨by omega, trivial⟩) (show 120 < 126 ∧ True from ⟨by omega, trivial⟩) ⟨Nat.le_of_ble_eq_true rfl, Nat.le_of_ble_eq_true rfl⟩ ?_
  show X (6) (2164) (127, xSH, rf5) μ 50 [some (xR 120)] [xR 126, xR 120]
  refine r_putr hL xcl8 7 (j' := 7) rfl (by show _ < _; omega) s_120 (by decide) fw_X8_26 rfl rfl (by decide) (fun a => ⟨rfl, rfl⟩) (by show _ < _; omega) dX8_init_50 ?_
  obtain ⟨rf6, hrf6⟩ : ∃ r, r = xup rf5 120 7 (126 : Int) := ⟨_, rfl⟩
  show X (6) (2164) (127, xSH, (xup rf5 120 7 (126 : Int))) μ 53 [some (xR 120)] []
  rw [← hrf6]
  have hg6 : ∀ k j, 127 ≤ k → rf6 k j = -1 := fun k j hk => by rw [hrf6]; exact (congrFun (xup_c (by omega)) j).trans (hg5 k j (by omega))
  refine r_aload_n hL (x := 120) dX8_init_53 rfl ?_
  refine r_bipush hL dX8_init_54 (by decide) ?_
  refine r_newa hL 1 (nn := 10) dX8_init_56 (Or.inl ⟨rfl, rfl⟩) ac_Jvm_ClassFile_FieldType_int rfl (by decide) s_127 (fun j => hg6 (127) j (by omega)) (fun j => hz (127) j (by omega)) (show 120 < 127 ∧ True from ⟨by omega, trivial⟩) (show 120 < 127 ∧ True from ⟨by omega, trivial⟩) ⟨Nat.le_of_ble_eq_true rfl, Nat.le_of_ble_eq_true rfl⟩ ?_
  show X (7) (2174) (128, xSH, rf6) μ 58 [some (xR 120)] [xR 127, xR 120]
  refine r_putr hL xcl8 10 (j' := 10) rfl (by show _ < _; omega) s_120 (by decide) fw_X8_29 rfl rfl (by decide) (fun a => ⟨rfl, rfl⟩) (by show _ < _; omega) dX8_init_58 ?_
  obtain ⟨rf7, hrf7⟩ : ∃ r, r = xup rf6 120 10 (127 : Int) := ⟨_, rfl⟩
  show X (7) (2174) (128, xSH, (xup rf6 120 10 (127 : Int))) μ 61 [some (xR 120)] []
  rw [← hrf7]
  have hg7 : ∀ k j, 128 ≤ k → rf7 k j = -1 := fun k j hk => by rw [hrf7]; exact (congrFun (xup_c (by omega)) j).trans (hg6 k j (by omega))
  refine r_aload_n hL (x := 120) dX8_init_61 rfl ?_
  refine r_bipush hL dX8_init_62 (by decide) ?_
  refine r_newa hL 1 (nn := 10) dX8_init_64 (Or.inl ⟨rfl, rfl⟩) ac_Jvm_ClassFile_FieldType_int rfl (by decide) s_128 (fun j => hg7 (128) j (by omega)) (fun j => hz (128) j (by omega)) (show 120 < 128 ∧ True from ⟨by omega, trivial⟩) (show 120 < 128 ∧ True from ⟨by omega, trivial⟩) ⟨Nat.le_of_ble_eq_true rfl, Nat.le_of_ble_eq_true rfl⟩ ?_
  show X (8) (2184) (129, xSH, rf7) μ 66 [some (xR 120)] [xR 128, xR 120]
  refine r_putr hL xcl8 12 (j' := 12) rfl (by show _ < _; omega) s_120 (by decide) fw_X8_32 rfl rfl (by decide) (fun a => ⟨rfl, rfl⟩) (by show _ < _; omega) dX8_init_66 ?_
  obtain ⟨rf8, hrf8⟩ : ∃ r, r = xup rf7 120 12 (128 : Int) := ⟨_, rfl⟩
  show X (8) (2184) (129, xSH, (xup rf7 120 12 (128 : Int))) μ 69 [some (xR 120)] []
  rw [← hrf8]
  have hg8 : ∀ k j, 129 ≤ k → rf8 k j = -1 := fun k j hk => by rw [hrf8]; exact (congrFun (xup_c (by omega)) j).trans (hg7 k j (by omega))
  refine r_aload_n hL (x := 120) dX8_init_69 rfl ?_
  refine r_bipush hL dX8_init_70 (by decide) ?_
  refine r_newa hL 1 (nn := 121) dX8_init_72 (Or.inl ⟨rfl, rfl⟩) ac_Jvm_ClassFile_FieldType_int rfl (by decide) s_129 (fun j => hg8 (129) j (by omega)) (fun j => hz (129) j (by omega)) (show 120 < 129 ∧ True from ⟨by omega, trivial⟩) (show 120 < 129 ∧ True from ⟨by omega, trivial⟩) ⟨Nat.le_of_ble_eq_true rfl, Nat.le_of_ble_eq_true rfl⟩ ?_
  show X (9) (2305) (130, xSH, rf8) μ 74 [some (xR 120)] [xR 129, xR 120]
  refine r_putr hL xcl8 14 (j' := 14) rfl (by show _ < _; omega) s_120 (by decide) fw_X8_35 rfl rfl (by decide) (fun a => ⟨rfl, rfl⟩) (by show _ < _; omega) dX8_init_74 ?_
  obtain ⟨rf9, hrf9⟩ : ∃ r, r = xup rf8 120 14 (129 : Int) := ⟨_, rfl⟩
  show X (9) (2305) (130, xSH, (xup rf8 120 14 (129 : Int))) μ 77 [some (xR 120)] []
  rw [← hrf9]
  have hg9 : ∀ k j, 130 ≤ k → rf9 k j = -1 := fun k j hk => by rw [hrf9]; exact (congrFun (xup_c (by omega)) j).trans (hg8 k j (by omega))
  refine r_aload_n hL (x := 120) dX8_init_77 rfl ?_
  refine r_bipush hL dX8_init_78 (by decide) ?_
  refine r_newa hL 1 (nn := 121) dX8_init_80 (Or.inl ⟨rfl, rfl⟩) ac_Jvm_ClassFile_FieldType_int rfl (by decide) s_130 (fun j => hg9 (130) j (by omega)) (fun j => hz (130) j (by omega)) (show 120 < 130 ∧ True from ⟨by omega, trivial⟩) (show 120 < 130 ∧ True from ⟨by omega, trivial⟩) ⟨Nat.le_of_ble_eq_true rfl, Nat.le_of_ble_eq_true rfl⟩ ?_
  show X (10) (2426) (131, xSH, rf9) μ 82 [some (xR 120)] [xR 130, xR 120]
  refine r_putr hL xcl8 15 (j' := 15) rfl (by show _ < _; omega) s_120 (by decide) fw_X8_38 rfl rfl (by decide) (fun a => ⟨rfl, rfl⟩) (by show _ < _; omega) dX8_init_82 ?_
  obtain ⟨rf10, hrf10⟩ : ∃ r, r = xup rf9 120 15 (130 : Int) := ⟨_, rfl⟩
  show X (10) (2426) (131, xSH, (xup rf9 120 15 (130 : Int))) μ 85 [some (xR 120)] []
  rw [← hrf10]
  have hg10 : ∀ k j, 131 ≤ k → rf10 k j = -1 := fun k j hk => by rw [hrf10]; exact (congrFun (xup_c (by omega)) j).trans (hg9 k j (by omega))
  refine r_aload_n hL (x := 120) dX8_init_85 rfl ?_
  refine r_bipush hL dX8_init_86 (by decide) ?_
  refine r_newa hL 1 (nn := 20) dX8_init_88 (Or.inl ⟨rfl, rfl⟩) ac_Jvm_ClassFile_FieldType_int rfl (by decide) s_131 (fun j => hg10 (131) j (by omega)) (fun j => hz (131) j (by omega)) (show 120 < 131 ∧ True from ⟨by omega, trivial⟩) (show 120 < 131 ∧ True from ⟨by omega, trivial⟩) ⟨Nat.le_of_ble_eq_true rfl, Nat.le_of_ble_eq_true rfl⟩ ?_
  show X (11) (2446) (132, xSH, rf10) μ 90 [some (xR 120)] [xR 131, xR 120]
  refine r_putr hL xcl8 16 (j' := 16) rfl (by show _ < _; omega) s_120 (by decide) fw_X8_41 rfl rfl (by decide) (fun a => ⟨rfl, rfl⟩) (by show _ < _; omega) dX8_init_90 ?_
  obtain ⟨rf11, hrf11⟩ : ∃ r, r = xup rf10 120 16 (131 : Int) := ⟨_, rfl⟩
  show X (11) (2446) (132, xSH, (xup rf10 120 16 (131 : Int))) μ 93 [some (xR 120)] []
  rw [← hrf11]
  have hg11 : ∀ k j, 132 ≤ k → rf11 k j = -1 := fun k j hk => by rw [hrf11]; exact (congrFun (xup_c (by omega)) j).trans (hg10 k j (by omega))
  refine r_aload_n hL (x := 120) dX8_init_93 rfl ?_
  refine r_bipush hL dX8_init_94 (by decide) ?_
  refine r_newa hL 1 (nn := 121) dX8_init_96 (Or.inl ⟨rfl, rfl⟩) ac_Jvm_ClassFile_FieldType_int rfl (by decide) s_132 (fun j => hg11 (132) j (by omega)) (fun j => hz (132) j (by omega)) (show 120 < 132 ∧ True from ⟨by omega, trivial⟩) (show 120 < 132 ∧ True from ⟨by omega, trivial⟩) ⟨Nat.le_of_ble_eq_true rfl, Nat.le_of_ble_eq_true rfl⟩ ?_
  show X (12) (2567) (133, xSH, rf11) μ 98 [some (xR 120)] [xR 132, xR 120]
  refine r_putr hL xcl8 17 (j' := 17) rfl (by show _ < _; omega) s_120 (by decide) fw_X8_44 rfl rfl (by decide) (fun a => ⟨rfl, rfl⟩) (by show _ < _; omega) dX8_init_98 ?_
  obtain ⟨rf12, hrf12⟩ : ∃ r, r = xup rf11 120 17 (132 : Int) := ⟨_, rfl⟩
  show X (12) (2567) (133, xSH, (xup rf11 120 17 (132 : Int))) μ 101 [some (xR 120)] []
  rw [← hrf12]
  have hg12 : ∀ k j, 133 ≤ k → rf12 k j = -1 := fun k j hk => by rw [hrf12]; exact (congrFun (xup_c (by omega)) j).trans (hg11 k j (by omega))
  refine r_aload_n hL (x := 120) dX8_init_101 rfl ?_
  refine r_bipush hL dX8_init_102 (by decide) ?_
  refine r_newa hL 1 (nn := 64) dX8_init_104 (Or.inl ⟨rfl, rfl⟩) ac_Jvm_ClassFile_FieldType_int rfl (by decide) s_133 (fun j => hg12 (133) j (by omega)) (fun j => hz (133) j (by omega)) (show 120 < 133 ∧ True from ⟨by omega, trivial⟩) (show 120 < 133 ∧ True from ⟨by omega, trivial⟩) ⟨Nat.le_of_ble_eq_true rfl, Nat.le_of_ble_eq_true rfl⟩ ?_
  show X (13) (2631) (134, xSH, rf12) μ 106 [some (xR 120)] [xR 133, xR 120]
  refine r_putr hL xcl8 18 (j' := 18) rfl (by show _ < _; omega) s_120 (by decide) fw_X8_47 rfl rfl (by decide) (fun a => ⟨rfl, rfl⟩) (by show _ < _; omega) dX8_init_106 ?_
  obtain ⟨rf13, hrf13⟩ : ∃ r, r = xup rf12 120 18 (133 : Int) := ⟨_, rfl⟩
  show X (13) (2631) (134, xSH, (xup rf12 120 18 (133 : Int))) μ 109 [some (xR 120)] []
  rw [← hrf13]
  have hg13 : ∀ k j, 134 ≤ k → rf13 k j = -1 := fun k j hk => by rw [hrf13]; exact (congrFun (xup_c (by omega)) j).trans (hg12 k j (by omega))
  refine r_aload_n hL (x := 120) dX8_init_109 rfl ?_
  refine r_bipush hL dX8_init_110 (by decide) ?_
  refine r_newa hL 1 (nn := 8) dX8_init_112 (Or.inl ⟨rfl, rfl⟩) ac_Jvm_ClassFile_FieldType_int rfl (by decide) s_134 (fun j => hg13 (134) j (by omega)) (fun j => hz (134) j (by omega)) (show 120 < 134 ∧ True from ⟨by omega, trivial⟩) (show 120 < 134 ∧ True from ⟨by omega, trivial⟩) ⟨Nat.le_of_ble_eq_true rfl, Nat.le_of_ble_eq_true rfl⟩ ?_
  show X (14) (2639) (135, xSH, rf13) μ 114 [some (xR 120)] [xR 134, xR 120]
  refine r_putr hL xcl8 19 (j' := 19) rfl (by show _ < _; omega) s_120 (by decide) fw_X8_50 rfl rfl (by decide) (fun a => ⟨rfl, rfl⟩) (by show _ < _; omega) dX8_init_114 ?_
  obtain ⟨rf14, hrf14⟩ : ∃ r, r = xup rf13 120 19 (134 : Int) := ⟨_, rfl⟩
  show X (14) (2639) (135, xSH, (xup rf13 120 19 (134 : Int))) μ 117 [some (xR 120)] []
  rw [← hrf14]
  have hg14 : ∀ k j, 135 ≤ k → rf14 k j = -1 := fun k j hk => by rw [hrf14]; exact (congrFun (xup_c (by omega)) j).trans (hg13 k j (by omega))
  refine r_aload_n hL (x := 120) dX8_init_117 rfl ?_
  refine r_bipush hL dX8_init_118 (by decide) ?_
  refine r_newa hL 1 (nn := 7) dX8_init_120 (Or.inl ⟨rfl, rfl⟩) ac_Jvm_ClassFile_FieldType_int rfl (by decide) s_135 (fun j => hg14 (135) j (by omega)) (fun j => hz (135) j (by omega)) (show 120 < 135 ∧ True from ⟨by omega, trivial⟩) (show 120 < 135 ∧ True from ⟨by omega, trivial⟩) ⟨Nat.le_of_ble_eq_true rfl, Nat.le_of_ble_eq_true rfl⟩ ?_
  show X (15) (2646) (136, xSH, rf14) μ 122 [some (xR 120)] [xR 135, xR 120]
  refine r_putr hL xcl8 21 (j' := 21) rfl (by show _ < _; omega) s_120 (by decide) fw_X8_53 rfl rfl (by decide) (fun a => ⟨rfl, rfl⟩) (by show _ < _; omega) dX8_init_122 ?_
  obtain ⟨rf15, hrf15⟩ : ∃ r, r = xup rf14 120 21 (135 : Int) := ⟨_, rfl⟩
  show X (15) (2646) (136, xSH, (xup rf14 120 21 (135 : Int))) μ 125 [some (xR 120)] []
  rw [← hrf15]
  have hg15 : ∀ k j, 136 ≤ k → rf15 k j = -1 := fun k j hk => by rw [hrf15]; exact (congrFun (xup_c (by omega)) j).trans (hg14 k j (by omega))
  refine r_aload_n hL (x := 120) dX8_init_125 rfl ?_
  refine r_bipush hL dX8_init_126 (by decide) ?_
  refine r_newa hL 1 (nn := 7) dX8_init_128 (Or.inl ⟨rfl, rfl⟩) ac_Jvm_ClassFile_FieldType_int rfl (by decide) s_136 (fun j => hg15 (136) j (by omega)) (fun j => hz (136) j (by omega)) (show 120 < 136 ∧ True from ⟨by omega, trivial⟩) (show 120 < 136 ∧ True from ⟨by omega, trivial⟩) ⟨Nat.le_of_ble_eq_true rfl, Nat.le_of_ble_eq_true rfl⟩ ?_
  show X (16) (2653) (137, xSH, rf15) μ 130 [some (xR 120)] [xR 136, xR 120]
  refine r_putr hL xcl8 22 (j' := 22) rfl (by show _ < _; omega) s_120 (by decide) fw_X8_56 rfl rfl (by decide) (fun a => ⟨rfl, rfl⟩) (by show _ < _; omega) dX8_init_130 ?_
  obtain ⟨rf16, hrf16⟩ : ∃ r, r = xup rf15 120 22 (136 : Int) := ⟨_, rfl⟩
  show X (16) (2653) (137, xSH, (xup rf15 120 22 (136 : Int))) μ 133 [some (xR 120)] []
  rw [← hrf16]
  have hg16 : ∀ k j, 137 ≤ k → rf16 k j = -1 := fun k j hk => by rw [hrf16]; exact (congrFun (xup_c (by omega)) j).trans (hg15 k j (by omega))
  refine r_aload_n hL (x := 120) dX8_init_133 rfl ?_
  refine r_bipush hL dX8_init_134 (by decide) ?_
  refine r_newa hL 1 (nn := 7) dX8_init_136 (Or.inl ⟨rfl, rfl⟩) ac_Jvm_ClassFile_FieldType_int rfl (by decide) s_137 (fun j => hg16 (137) j (by omega)) (fun j => hz (137) j (by omega)) (show 120 < 137 ∧ True from ⟨by omega, trivial⟩) (show 120 < 137 ∧ True from ⟨by omega, trivial⟩) ⟨Nat.le_of_ble_eq_true rfl, Nat.le_of_ble_eq_true rfl⟩ ?_
  show X (17) (2660) (138, xSH, rf16) μ 138 [some (xR 120)] [xR 137, xR 120]
  refine r_putr hL xcl8 23 (j' := 23) rfl (by show _ < _; omega) s_120 (by decide) fw_X8_59 rfl rfl (by decide) (fun a => ⟨rfl, rfl⟩) (by show _ < _; omega) dX8_init_138 ?_
  obtain ⟨rf17, hrf17⟩ : ∃ r, r = xup rf16 120 23 (137 : Int) := ⟨_, rfl⟩
  show X (17) (2660) (138, xSH, (xup rf16 120 23 (137 : Int))) μ 141 [some (xR 120)] []
  rw [← hrf17]
  have hg17 : ∀ k j, 138 ≤ k → rf17 k j = -1 := fun k j hk => by rw [hrf17]; exact (congrFun (xup_c (by omega)) j).trans (hg16 k j (by omega))
  refine r_aload_n hL (x := 120) dX8_init_141 rfl ?_
  refine r_getr hL xcl8 0 (q := 121) (by show _ < _; omega) s_120 (by decide) fl_X8_7 (by decide) (by show rf17 120 0 = _; rw [hrf17, hrf16, hrf15, hrf14, hrf13, hrf12, hrf11, hrf10, hrf9, hrf8, hrf7, hrf6, hrf5, hrf4, hrf3, hrf2, hrf1]; simp [xup]) dX8_init_142 ?_
  refine r_iconst hL dX8_init_145 ?_
  refine r_iconst hL dX8_init_146 ?_
  refine r_iast hL dX8_init_147 (by show _ < _; omega) s_121 (by decide) (by omega) (by omega) (by omega) (fun ν18 hm_ν18 => ?_)
  have hB_ν18 : BZ ν18 := by rw [hm_ν18]; exact hB.up (by show ((2 : Int) = 0 → 0 ≤ 2 ∧ 2 ≤ 8) ∧ ((2 : Int) = 1 → 0 ≤ 2 ∧ 2 ≤ 2) ∧ (2 ≤ (2 : Int) ∧ (2 : Int) ≤ 5 → 0 ≤ 2 ∧ 2 ≤ 9) ∧ (6 ≤ (2 : Int) ∧ (2 : Int) ≤ 13 → 0 ≤ 2 ∧ 2 ≤ 10) ∧ (30 ≤ (2 : Int) → 0 ≤ 2 ∧ 2 ≤ 7); omega) (fun h => by unfold zs at h; omega)
  have hu_ν18 : ∀ k j, k < 120 → ν18 k j = μ k j := fun k j hk => by rw [hm_ν18]; exact (congrFun (xup_c (by omega)) j).trans (hu k j hk)
  have hz_ν18 : ∀ k j, 138 ≤ k → ν18 k j = 0 := fun k j hk => by rw [hm_ν18]; exact (congrFun (xup_c (by omega)) j).trans (hz k j (by omega))
  refine r_aload_n hL (x := 120) dX8_init_148 rfl ?_
  refine r_getr hL xcl8 0 (q := 121) (by show _ < _; omega) s_120 (by decide) fl_X8_7 (by decide) (by show rf17 120 0 = _; rw [hrf17, hrf16, hrf15, hrf14, hrf13, hrf12, hrf11, hrf10, hrf9, hrf8, hrf7, hrf6, hrf5, hrf4, hrf3, hrf2, hrf1]; simp [xup]) dX8_init_149 ?_
  refine r_iconst hL dX8_init_152 ?_
  refine r_iconst hL dX8_init_153 ?_
  refine r_iast hL dX8_init_154 (by show _ < _; omega) s_121 (by decide) (by omega) (by omega) (by omega) (fun ν19 hm_ν19 => ?_)
  have hB_ν19 : BZ ν19 := by rw [hm_ν19]; exact hB_ν18.up (by show ((3 : Int) = 0 → 0 ≤ 2 ∧ 2 ≤ 8) ∧ ((3 : Int) = 1 → 0 ≤ 2 ∧ 2 ≤ 2) ∧ (2 ≤ (3 : Int) ∧ (3 : Int) ≤ 5 → 0 ≤ 2 ∧ 2 ≤ 9) ∧ (6 ≤ (3 : Int) ∧ (3 : Int) ≤ 13 → 0 ≤ 2 ∧ 2 ≤ 10) ∧ (30 ≤ (3 : Int) → 0 ≤ 2 ∧ 2 ≤ 7); omega) (fun h => by unfold zs at h; omega)
  have hu_ν19 : ∀ k j, k < 120 → ν19 k j = μ k j := fun k j hk => by rw [hm_ν19]; exact (congrFun (xup_c (by omega)) j).trans (hu_ν18 k j hk)
  have hz_ν19 : ∀ k j, 138 ≤ k → ν19 k j = 0 := fun k j hk => by rw [hm_ν19]; exact (congrFun (xup_c (by omega)) j).trans (hz_ν18 k j (by omega))
  refine r_aload_n hL (x := 120) dX8_init_155 rfl ?_
  refine r_getr hL xcl8 0 (q := 121) (by show _ < _; omega) s_120 (by decide) fl_X8_7 (by decide) (by show rf17 120 0 = _; rw [hrf17, hrf16, hrf15, hrf14, hrf13, hrf12, hrf11, hrf10, hrf9, hrf8, hrf7, hrf6, hrf5, hrf4, hrf3, hrf2, hrf1]; simp [xup]) dX8_init_156 ?_
  refine r_iconst hL dX8_init_159 ?_
  refine r_iconst hL dX8_init_160 ?_
  refine r_iast hL dX8_init_161 (by show _ < _; omega) s_121 (by decide) (by omega) (by omega) (by omega) (fun ν20 hm_ν20 => ?_)
  have hB_ν20 : BZ ν20 := by rw [hm_ν20]; exact hB_ν19.up (by show ((4 : Int) = 0 → 0 ≤ 1 ∧ 1 ≤ 8) ∧ ((4 : Int) = 1 → 0 ≤ 1 ∧ 1 ≤ 2) ∧ (2 ≤ (4 : Int) ∧ (4 : Int) ≤ 5 → 0 ≤ 1 ∧ 1 ≤ 9) ∧ (6 ≤ (4 : Int) ∧ (4 : Int) ≤ 13 → 0 ≤ 1 ∧ 1 ≤ 10) ∧ (30 ≤ (4 : Int) → 0 ≤ 1 ∧ 1 ≤ 7); omega) (fun h => by unfold zs at h; omega)
  have hu_ν20 : ∀ k j, k < 120 → ν20 k j = μ k j := fun k j hk => by rw [hm_ν20]; exact (congrFun (xup_c (by omega)) j).trans (hu_ν19 k j hk)
  have hz_ν20 : ∀ k j, 138 ≤ k → ν20 k j = 0 := fun k j hk => by rw [hm_ν20]; exact (congrFun (xup_c (by omega)) j).trans (hz_ν19 k j (by omega))
  refine r_aload_n hL (x := 120) dX8_init_162 rfl ?_
  refine r_getr hL xcl8 0 (q := 121) (by show _ < _; omega) s_120 (by decide) fl_X8_7 (by decide) (by show rf17 120 0 = _; rw [hrf17, hrf16, hrf15, hrf14, hrf13, hrf12, hrf11, hrf10, hrf9, hrf8, hrf7, hrf6, hrf5, hrf4, hrf3, hrf2, hrf1]; simp [xup]) dX8_init_163 ?_
  refine r_iconst hL dX8_init_166 ?_
  refine r_iconst hL dX8_init_167 ?_
  refine r_iast hL dX8_init_168 (by show _ < _; omega) s_121 (by decide) (by omega) (by omega) (by omega) (fun ν21 hm_ν21 => ?_)
  have hB_ν21 : BZ ν21 := by rw [hm_ν21]; exact hB_ν20.up (by show ((5 : Int) = 0 → 0 ≤ 3 ∧ 3 ≤ 8) ∧ ((5 : Int) = 1 → 0 ≤ 3 ∧ 3 ≤ 2) ∧ (2 ≤ (5 : Int) ∧ (5 : Int) ≤ 5 → 0 ≤ 3 ∧ 3 ≤ 9) ∧ (6 ≤ (5 : Int) ∧ (5 : Int) ≤ 13 → 0 ≤ 3 ∧ 3 ≤ 10) ∧ (30 ≤ (5 : Int) → 0 ≤ 3 ∧ 3 ≤ 7); omega) (fun h => by unfold zs at h; omega)
  have hu_ν21 : ∀ k j, k < 120 → ν21 k j = μ k j := fun k j hk => by rw [hm_ν21]; exact (congrFun (xup_c (by omega)) j).trans (hu_ν20 k j hk)
  have hz_ν21 : ∀ k j, 138 ≤ k → ν21 k j = 0 := fun k j hk => by rw [hm_ν21]; exact (congrFun (xup_c (by omega)) j).trans (hz_ν20 k j (by omega))
  refine r_vret hL dX8_init_169 rfl (hK _ _ ⟨rf17, rfl, fun k j hk => ?_, fun k j h0 h1 => ?_, fun k j hk => hg17 k j (by omega), fun k j hk => hz_ν21 k j (by omega), hB_ν21, hu_ν21, (fun h => by omega), (fun _ => by unfold cst2; rw [hm_ν21, hm_ν20, hm_ν19, hm_ν18]; simp [xup])⟩)
  · rw [hrf17, hrf16, hrf15, hrf14, hrf13, hrf12, hrf11, hrf10, hrf9, hrf8, hrf7, hrf6, hrf5, hrf4, hrf3, hrf2, hrf1]
    simp [xup, show k ≠ 120 by omega]
  · by_cases e : k = 120
    · subst e
      rw [hrf17, hrf16, hrf15, hrf14, hrf13, hrf12, hrf11, hrf10, hrf9, hrf8, hrf7, hrf6, hrf5, hrf4, hrf3, hrf2, hrf1]
      rw [(show xRF 120 j = xgl [(121 : Int), (122 : Int), -1, (123 : Int), (124 : Int), (125 : Int), -1, (126 : Int), -1, -1, (127 : Int), -1, (128 : Int), -1, (129 : Int), (130 : Int), (131 : Int), (132 : Int), (133 : Int), (134 : Int), -1, (135 : Int), (136 : Int), (137 : Int)] j from rfl)]
      by_cases hj : 0 ≤ j ∧ j < 24
      · rcases (show j = 0 ∨ j = 1 ∨ j = 2 ∨ j = 3 ∨ j = 4 ∨ j = 5 ∨ j = 6 ∨ j = 7 ∨ j = 8 ∨ j = 9 ∨ j = 10 ∨ j = 11 ∨ j = 12 ∨ j = 13 ∨ j = 14 ∨ j = 15 ∨ j = 16 ∨ j = 17 ∨ j = 18 ∨ j = 19 ∨ j = 20 ∨ j = 21 ∨ j = 22 ∨ j = 23 by omega) with h | h | h | h | h | h | h | h | h | h | h | h | h | h | h | h | h | h | h | h | h | h | h | h <;> subst h <;> simp [xup, xgl, hf]
      · rw [xgl_out (by simp only [List.length_cons, List.length_nil]; omega)]
        simp [xup, show j ≠ 0 by omega, show j ≠ 1 by omega, show j ≠ 3 by omega, show j ≠ 4 by omega, show j ≠ 5 by omega, show j ≠ 7 by omega, show j ≠ 10 by omega, show j ≠ 12 by omega, show j ≠ 14 by omega, show j ≠ 15 by omega, show j ≠ 16 by omega, show j ≠ 17 by omega, show j ≠ 18 by omega, show j ≠ 19 by omega, show j ≠ 21 by omega, show j ≠ 22 by omega, show j ≠ 23 by omega, hf]
    · rw [hrf17, hrf16, hrf15, hrf14, hrf13, hrf12, hrf11, hrf10, hrf9, hrf8, hrf7, hrf6, hrf5, hrf4, hrf3, hrf2, hrf1]
      simp only [xup, e, false_and, if_false]
      rw [hf k j h0]
      rcases (show k = 121 ∨ k = 122 ∨ k = 123 ∨ k = 124 ∨ k = 125 ∨ k = 126 ∨ k = 127 ∨ k = 128 ∨ k = 129 ∨ k = 130 ∨ k = 131 ∨ k = 132 ∨ k = 133 ∨ k = 134 ∨ k = 135 ∨ k = 136 ∨ k = 137 by omega) with h | h | h | h | h | h | h | h | h | h | h | h | h | h | h | h | h <;> subst h
      · exact (xRF_none (fun _ => rfl) j).symm
      · exact (xRF_none (fun _ => rfl) j).symm
      · exact (xRF_none (fun _ => rfl) j).symm
      · exact (xRF_none (fun _ => rfl) j).symm
      · exact (xRF_none (fun _ => rfl) j).symm
      · exact (xRF_none (fun _ => rfl) j).symm
      · exact (xRF_none (fun _ => rfl) j).symm
      · exact (xRF_none (fun _ => rfl) j).symm
      · exact (xRF_none (fun _ => rfl) j).symm
      · exact (xRF_none (fun _ => rfl) j).symm
      · exact (xRF_none (fun _ => rfl) j).symm
      · exact (xRF_none (fun _ => rfl) j).symm
      · exact (xRF_none (fun _ => rfl) j).symm
      · exact (xRF_none (fun _ => rfl) j).symm
      · exact (xRF_none (fun _ => rfl) j).symm
      · exact (xRF_none (fun _ => rfl) j).symm
      · exact (xRF_none (fun _ => rfl) j).symm

