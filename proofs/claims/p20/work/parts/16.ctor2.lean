set_option maxHeartbeats 4000000 in
set_option maxRecDepth 20000 in
theorem m_X3_init_108 {K : Option xV → xW → xM → Prop} {μ : xM} (rf : Nat → Int → Int) (hC : CP 108 rf μ) (hK : ∀ w' μ', CK 108 114 rf μ w' μ' → K none w' μ') : xMet yX3_init cX3_init 1 none 2 46 5 34 [xR 108] (109, xSH, rf) μ K := by
  obtain ⟨hf, hz, hB⟩ := hC
  refine xMet.go RX3 "<init>" rfl rfl (by decide) [some (xR 108)] (Nat.le_of_ble_eq_true rfl) rfl (fun X hL => ?_)
  have hu : ∀ k j, k < 108 → μ k j = μ k j := fun _ _ _ => rfl
  refine r_aload_n hL (x := 108) dX3_init_0 rfl ?_
  refine r_objInit hL dX3_init_1 ml_X3_1 im_Lib_objectInit kd_Lib_objectInit ⟨Nat.le_of_ble_eq_true rfl, Nat.le_of_ble_eq_true rfl⟩ ?_
  refine r_aload_n hL (x := 108) dX3_init_4 rfl ?_
  refine r_new hL xcl5 dX3_init_5 kk_X3_7 in_RX5 it_TaleTypes_State df_5 s_109 (fun j => hf (109) j (by omega)) (fun j => hz (109) j (by omega)) (show 108 < 109 ∧ True from ⟨by omega, trivial⟩) (show 108 < 109 ∧ True from ⟨by omega, trivial⟩) ⟨Nat.le_of_ble_eq_true rfl, Nat.le_of_ble_eq_true rfl⟩ ?_
  show X (1) (6) (110, xSH, rf) μ 8 [some (xR 108)] [xR 109, xR 108]
  refine r_dup hL dX3_init_8 rfl ?_
  refine r_callI hL (st := [xR 109, xR 108]) (k := 109) (m_X5_init (μ := μ) 109 (by decide) rf ⟨fun k j hk => hf k j (by omega), fun k j hk => hz k j (by omega), hB⟩ (fun wn1 νn1 hCK1 => ⟨rfl, ?_⟩)) ce_yX5_init rfl im_yX5_init ml_X3_9 dX3_init_9 (show 109 < 110 ∧ 108 < 110 ∧ True from ⟨by omega, by omega, trivial⟩) (show 108 < 110 ∧ True from ⟨by omega, trivial⟩) (Nat.le_of_ble_eq_true rfl) ⟨Nat.le_of_ble_eq_true rfl, Nat.le_of_ble_eq_true rfl⟩ ⟨Nat.le_of_ble_eq_true rfl, Nat.le_of_ble_eq_true rfl⟩
  obtain ⟨rg1, rfl, hl1, hm1, hf1, hz1, hB1, hp1, hca1, hcb1⟩ := hCK1
  have hu1 : ∀ k j, k < 108 → νn1 k j = μ k j := fun k j hk => (hp1 k j (by omega)).trans (hu k j hk)
  show X (5) (34) (114, xSH, rg1) νn1 12 [some (xR 108)] [xR 109, xR 108]
  refine r_putr hL xcl3 0 (j' := 0) rfl (by show _ < _; omega) s_108 (by decide) fw_X3_10 rfl rfl (by decide) (fun a => ⟨rfl, rfl⟩) (by show _ < _; omega) dX3_init_12 ?_
  obtain ⟨rf2, hrf2⟩ : ∃ r, r = xup rg1 108 0 (109 : Int) := ⟨_, rfl⟩
  show X (5) (34) (114, xSH, (xup rg1 108 0 (109 : Int))) νn1 15 [some (xR 108)] []
  rw [← hrf2]
  have hg2 : ∀ k j, 114 ≤ k → rf2 k j = -1 := fun k j hk => by rw [hrf2]; exact (congrFun (xup_c (by omega)) j).trans (hf1 k j (by omega))
  refine r_aload_n hL (x := 108) dX3_init_15 rfl ?_
  refine r_iconst hL dX3_init_16 ?_
  refine r_puti hL xcl3 1 (j' := 1) rfl (by show _ < _; omega) s_108 (by decide) fl_X3_16 rfl rfl (by omega) dX3_init_17 (fun ν3 hm_ν3 => ?_)
  have hB_ν3 : BZ ν3 := by rw [hm_ν3]; exact hB1.up trivial (fun _ => rfl)
  have hu_ν3 : ∀ k j, k < 108 → ν3 k j = μ k j := fun k j hk => by rw [hm_ν3]; exact (congrFun (xup_c (by omega)) j).trans (hu1 k j hk)
  have hz_ν3 : ∀ k j, 114 ≤ k → ν3 k j = 0 := fun k j hk => by rw [hm_ν3]; exact (congrFun (xup_c (by omega)) j).trans (hz1 k j (by omega))
  refine r_aload_n hL (x := 108) dX3_init_20 rfl ?_
  refine r_iconst hL dX3_init_21 ?_
  refine r_putz hL xcl3 2 (j' := 2) rfl (by show _ < _; omega) s_108 (by decide) fl_X3_20 rfl rfl (by omega) dX3_init_22 (fun ν4 hm_ν4 => ?_)
  have hB_ν4 : BZ ν4 := by rw [hm_ν4]; exact hB_ν3.up trivial (fun _ => rfl)
  have hu_ν4 : ∀ k j, k < 108 → ν4 k j = μ k j := fun k j hk => by rw [hm_ν4]; exact (congrFun (xup_c (by omega)) j).trans (hu_ν3 k j hk)
  have hz_ν4 : ∀ k j, 114 ≤ k → ν4 k j = 0 := fun k j hk => by rw [hm_ν4]; exact (congrFun (xup_c (by omega)) j).trans (hz_ν3 k j (by omega))
  refine r_vret hL dX3_init_25 rfl (hK _ _ ⟨rf2, rfl, fun k j hk => ?_, fun k j h0 h1 => ?_, fun k j hk => hg2 k j (by omega), fun k j hk => hz_ν4 k j (by omega), hB_ν4, hu_ν4, (fun h => by omega), (fun h => by omega)⟩)
  · rw [hrf2, congrFun (xup_c (by omega)) j]
    exact hl1 k j (by omega)
  · by_cases e : k = 108
    · subst e
      rw [hrf2, show xRF 108 j = xgl [(109 : Int)] j from rfl]
      by_cases hj : j = 0
      · subst hj; simp [xup, xgl]
      · rw [xgl_out (by simp only [List.length_cons, List.length_nil]; omega), xup_j hj, hl1 _ j (by omega)]; exact hf _ j (by omega)
    · rw [hrf2, congrFun (xup_c e) j]
      exact hm1 k j (by omega) (by omega)

set_option maxHeartbeats 4000000 in
set_option maxRecDepth 20000 in
theorem m_X3_init_114 {K : Option xV → xW → xM → Prop} {μ : xM} (rf : Nat → Int → Int) (hC : CP 114 rf μ) (hK : ∀ w' μ', CK 114 120 rf μ w' μ' → K none w' μ') : xMet yX3_init cX3_init 1 none 2 46 5 34 [xR 114] (115, xSH, rf) μ K := by
  obtain ⟨hf, hz, hB⟩ := hC
  refine xMet.go RX3 "<init>" rfl rfl (by decide) [some (xR 114)] (Nat.le_of_ble_eq_true rfl) rfl (fun X hL => ?_)
  have hu : ∀ k j, k < 114 → μ k j = μ k j := fun _ _ _ => rfl
  refine r_aload_n hL (x := 114) dX3_init_0 rfl ?_
  refine r_objInit hL dX3_init_1 ml_X3_1 im_Lib_objectInit kd_Lib_objectInit ⟨Nat.le_of_ble_eq_true rfl, Nat.le_of_ble_eq_true rfl⟩ ?_
  refine r_aload_n hL (x := 114) dX3_init_4 rfl ?_
  refine r_new hL xcl5 dX3_init_5 kk_X3_7 in_RX5 it_TaleTypes_State df_5 s_115 (fun j => hf (115) j (by omega)) (fun j => hz (115) j (by omega)) (show 114 < 115 ∧ True from ⟨by omega, trivial⟩) (show 114 < 115 ∧ True from ⟨by omega, trivial⟩) ⟨Nat.le_of_ble_eq_true rfl, Nat.le_of_ble_eq_true rfl⟩ ?_
  show X (1) (6) (116, xSH, rf) μ 8 [some (xR 114)] [xR 115, xR 114]
  refine r_dup hL dX3_init_8 rfl ?_
  refine r_callI hL (st := [xR 115, xR 114]) (k := 115) (m_X5_init (μ := μ) 115 (by decide) rf ⟨fun k j hk => hf k j (by omega), fun k j hk => hz k j (by omega), hB⟩ (fun wn1 νn1 hCK1 => ⟨rfl, ?_⟩)) ce_yX5_init rfl im_yX5_init ml_X3_9 dX3_init_9 (show 115 < 116 ∧ 114 < 116 ∧ True from ⟨by omega, by omega, trivial⟩) (show 114 < 116 ∧ True from ⟨by omega, trivial⟩) (Nat.le_of_ble_eq_true rfl) ⟨Nat.le_of_ble_eq_true rfl, Nat.le_of_ble_eq_true rfl⟩ ⟨Nat.le_of_ble_eq_true rfl, Nat.le_of_ble_eq_true rfl⟩
  obtain ⟨rg1, rfl, hl1, hm1, hf1, hz1, hB1, hp1, hca1, hcb1⟩ := hCK1
  have hu1 : ∀ k j, k < 114 → νn1 k j = μ k j := fun k j hk => (hp1 k j (by omega)).trans (hu k j hk)
  show X (5) (34) (120, xSH, rg1) νn1 12 [some (xR 114)] [xR 115, xR 114]
  refine r_putr hL xcl3 0 (j' := 0) rfl (by show _ < _; omega) s_114 (by decide) fw_X3_10 rfl rfl (by decide) (fun a => ⟨rfl, rfl⟩) (by show _ < _; omega) dX3_init_12 ?_
  obtain ⟨rf2, hrf2⟩ : ∃ r, r = xup rg1 114 0 (115 : Int) := ⟨_, rfl⟩
  show X (5) (34) (120, xSH, (xup rg1 114 0 (115 : Int))) νn1 15 [some (xR 114)] []
  rw [← hrf2]
  have hg2 : ∀ k j, 120 ≤ k → rf2 k j = -1 := fun k j hk => by rw [hrf2]; exact (congrFun (xup_c (by omega)) j).trans (hf1 k j (by omega))
  refine r_aload_n hL (x := 114) dX3_init_15 rfl ?_
  refine r_iconst hL dX3_init_16 ?_
  refine r_puti hL xcl3 1 (j' := 1) rfl (by show _ < _; omega) s_114 (by decide) fl_X3_16 rfl rfl (by omega) dX3_init_17 (fun ν3 hm_ν3 => ?_)
  have hB_ν3 : BZ ν3 := by rw [hm_ν3]; exact hB1.up trivial (fun _ => rfl)
  have hu_ν3 : ∀ k j, k < 114 → ν3 k j = μ k j := fun k j hk => by rw [hm_ν3]; exact (congrFun (xup_c (by omega)) j).trans (hu1 k j hk)
  have hz_ν3 : ∀ k j, 120 ≤ k → ν3 k j = 0 := fun k j hk => by rw [hm_ν3]; exact (congrFun (xup_c (by omega)) j).trans (hz1 k j (by omega))
  refine r_aload_n hL (x := 114) dX3_init_20 rfl ?_
  refine r_iconst hL dX3_init_21 ?_
  refine r_putz hL xcl3 2 (j' := 2) rfl (by show _ < _; omega) s_114 (by decide) fl_X3_20 rfl rfl (by omega) dX3_init_22 (fun ν4 hm_ν4 => ?_)
  have hB_ν4 : BZ ν4 := by rw [hm_ν4]; exact hB_ν3.up trivial (fun _ => rfl)
  have hu_ν4 : ∀ k j, k < 114 → ν4 k j = μ k j := fun k j hk => by rw [hm_ν4]; exact (congrFun (xup_c (by omega)) j).trans (hu_ν3 k j hk)
  have hz_ν4 : ∀ k j, 120 ≤ k → ν4 k j = 0 := fun k j hk => by rw [hm_ν4]; exact (congrFun (xup_c (by omega)) j).trans (hz_ν3 k j (by omega))
  refine r_vret hL dX3_init_25 rfl (hK _ _ ⟨rf2, rfl, fun k j hk => ?_, fun k j h0 h1 => ?_, fun k j hk => hg2 k j (by omega), fun k j hk => hz_ν4 k j (by omega), hB_ν4, hu_ν4, (fun h => by omega), (fun h => by omega)⟩)
  · rw [hrf2, congrFun (xup_c (by omega)) j]
    exact hl1 k j (by omega)
  · by_cases e : k = 114
    · subst e
      rw [hrf2, show xRF 114 j = xgl [(115 : Int)] j from rfl]
      by_cases hj : j = 0
      · subst hj; simp [xup, xgl]
      · rw [xgl_out (by simp only [List.length_cons, List.length_nil]; omega), xup_j hj, hl1 _ j (by omega)]; exact hf _ j (by omega)
    · rw [hrf2, congrFun (xup_c e) j]
      exact hm1 k j (by omega) (by omega)

set_option maxHeartbeats 4000000 in
set_option maxRecDepth 20000 in
theorem m_X1_init {K : Option xV → xW → xM → Prop} {μ : xM} (rf : Nat → Int → Int) (hC : CP 6 rf μ) (hK : ∀ w' μ', CK 6 88 rf μ w' μ' → K none w' μ') : xMet yX1_init cX1_init 2 none 2 46 81 560 [xR 6] (7, xSH, rf) μ K := by
  obtain ⟨hf, hz, hB⟩ := hC
  refine xMet.go RX1 "<init>" rfl rfl (by decide) [some (xR 6), none] (Nat.le_of_ble_eq_true rfl) rfl (fun X hL => ?_)
  have hu : ∀ k j, k < 6 → μ k j = μ k j := fun _ _ _ => rfl
  refine r_aload_n hL (x := 6) dX1_init_0 rfl ?_
  refine r_objInit hL dX1_init_1 ml_X1_3 im_Lib_objectInit kd_Lib_objectInit ⟨Nat.le_of_ble_eq_true rfl, Nat.le_of_ble_eq_true rfl⟩ ?_
  refine r_aload_n hL (x := 6) dX1_init_4 rfl ?_
  refine r_bipush hL dX1_init_5 (by decide) ?_
  refine r_newq hL 0 (nn := 16) dX1_init_7 kk_X1_9 ao_Jvm_ClassFile_FieldType_object_TaleTypes_State (Or.inl ⟨rfl, rfl⟩) rfl (by decide) s_7 (fun j => hf (7) j (by omega)) (fun j => hz (7) j (by omega)) (show 6 < 7 ∧ True from ⟨by omega, trivial⟩) (show 6 < 7 ∧ True from ⟨by omega, trivial⟩) ⟨Nat.le_of_ble_eq_true rfl, Nat.le_of_ble_eq_true rfl⟩ ?_
  show X (1) (16) (8, xSH, rf) μ 10 [some (xR 6), none] [xR 7, xR 6]
  refine r_putr hL xcl1 0 (j' := 0) rfl (by show _ < _; omega) s_6 (by decide) fw_X1_11 rfl rfl (by decide) (fun a => ⟨rfl, rfl⟩) (by show _ < _; omega) dX1_init_10 ?_
  obtain ⟨rf1, hrf1⟩ : ∃ r, r = xup rf 6 0 (7 : Int) := ⟨_, rfl⟩
  show X (1) (16) (8, xSH, (xup rf 6 0 (7 : Int))) μ 13 [some (xR 6), none] []
  rw [← hrf1]
  have hg1 : ∀ k j, 8 ≤ k → rf1 k j = -1 := fun k j hk => by rw [hrf1]; exact (congrFun (xup_c (by omega)) j).trans (hf k j (by omega))
  refine r_aload_n hL (x := 6) dX1_init_13 rfl ?_
  refine r_iconst hL dX1_init_14 ?_
  refine r_puti hL xcl1 1 (j' := 1) rfl (by show _ < _; omega) s_6 (by decide) fl_X1_17 rfl rfl (by omega) dX1_init_15 (fun ν2 hm_ν2 => ?_)
  have hB_ν2 : BZ ν2 := by rw [hm_ν2]; exact hB.up (by show ((1 : Int) = 1 → 0 ≤ 0 ∧ 0 ≤ 16) ∧ ((1 : Int) = 2 → 0 ≤ 0 ∧ 0 ≤ 15); omega) (fun _ => rfl)
  have hu_ν2 : ∀ k j, k < 6 → ν2 k j = μ k j := fun k j hk => by rw [hm_ν2]; exact (congrFun (xup_c (by omega)) j).trans (hu k j hk)
  have hz_ν2 : ∀ k j, 8 ≤ k → ν2 k j = 0 := fun k j hk => by rw [hm_ν2]; exact (congrFun (xup_c (by omega)) j).trans (hz k j (by omega))
  refine r_aload_n hL (x := 6) dX1_init_18 rfl ?_
  refine r_iconst hL dX1_init_19 ?_
  refine r_puti hL xcl1 2 (j' := 2) rfl (by show _ < _; omega) s_6 (by decide) fl_X1_21 rfl rfl (by omega) dX1_init_20 (fun ν3 hm_ν3 => ?_)
  have hB_ν3 : BZ ν3 := by rw [hm_ν3]; exact hB_ν2.up (by show ((2 : Int) = 1 → 0 ≤ 0 ∧ 0 ≤ 16) ∧ ((2 : Int) = 2 → 0 ≤ 0 ∧ 0 ≤ 15); omega) (fun _ => rfl)
  have hu_ν3 : ∀ k j, k < 6 → ν3 k j = μ k j := fun k j hk => by rw [hm_ν3]; exact (congrFun (xup_c (by omega)) j).trans (hu_ν2 k j hk)
  have hz_ν3 : ∀ k j, 8 ≤ k → ν3 k j = 0 := fun k j hk => by rw [hm_ν3]; exact (congrFun (xup_c (by omega)) j).trans (hz_ν2 k j (by omega))
  refine r_iconst hL dX1_init_23 ?_
  refine r_istore_n hL (lo' := [some (xR 6), some (xI 0)]) dX1_init_24 (by decide) rfl ?_
  have lp : ∀ (m i : Nat), m + i = 16 → ∀ (r : Nat → Int → Int) (ν : xM), (∀ k j, k < 6 → r k j = rf k j) → (∀ j, r 6 j = xRF 6 j) → (∀ j, r 7 j = if 0 ≤ j ∧ j < (i : Int) then 8 + 5 * j else -1) → (∀ k j, 8 ≤ k → k < 8 + 5 * i → r k j = xRF k j) → (∀ k j, 8 + 5 * i ≤ k → r k j = -1) → (∀ k j, 8 + 5 * i ≤ k → ν k j = 0) → BZ ν → (∀ k j, k < 6 → ν k j = μ k j) → X (1 + 5 * i) (16 + 34 * i) (8 + 5 * i, xSH, r) ν 25 [some (xR 6), some (xI (i : Int))] [] := by
    intro m
    induction m with
    | zero =>
      intro i hi r ν h1 h2 h3 h4 h5 h6 h7 h8
      have hi : i = 16 := by omega
      subst hi
      refine r_iload_n hL (x := ((16 : Nat) : Int)) dX1_init_25 rfl ?_
      refine r_bipush hL dX1_init_26 (by decide) ?_
      refine r_icmp_ge hL (tgt := 50) dX1_init_28 (by decide) (by omega) (by omega) (fun c28 => ?_) (fun c28 => absurd (by omega) c28)
      refine r_vret hL dX1_init_50 rfl (hK _ _ ⟨r, rfl, h1, fun k j a b => ?_, fun k j a => h5 k j (by omega), fun k j a => h6 k j (by omega), h7, h8, fun h => by omega, fun h => by omega⟩)
      by_cases e6 : k = 6
      · rw [e6]; exact h2 j
      · by_cases e7 : k = 7
        · rw [e7, h3, show xRF 7 j = xgl [8, 13, 18, 23, 28, 33, 38, 43, 48, 53, 58, 63, 68, 73, 78, 83] j from rfl]
          by_cases h : 0 ≤ j ∧ j < 16
          · rcases (show j = 0 ∨ j = 1 ∨ j = 2 ∨ j = 3 ∨ j = 4 ∨ j = 5 ∨ j = 6 ∨ j = 7 ∨ j = 8 ∨ j = 9 ∨ j = 10 ∨ j = 11 ∨ j = 12 ∨ j = 13 ∨ j = 14 ∨ j = 15 by omega) with h | h | h | h | h | h | h | h | h | h | h | h | h | h | h | h <;> subst h <;> rfl
          · rw [if_neg (by omega), xgl_out (by simp only [List.length_cons, List.length_nil]; omega)]
        · exact h4 k j (by omega) (by omega)
    | succ m ih =>
      intro i hi r ν h1 h2 h3 h4 h5 h6 h7 h8
      have hi16 : i < 16 := by omega
      obtain ⟨c, hc, hcq, hce⟩ := f_7b (j := (i : Int)) (by omega) (by omega)
      have hce : c = 8 + 5 * i := by rw [hce]; simp
      subst hce
      have hsc := (st_sh _ hc).1
      refine r_iload_n hL (x := (i : Int)) dX1_init_25 rfl ?_
      refine r_bipush hL dX1_init_26 (by decide) ?_
      refine r_icmp_ge hL (tgt := 50) dX1_init_28 (by decide) (by omega) (by omega) (fun c28 => absurd c28 (by omega)) (fun c28 => ?_)
      refine r_aload_n hL (x := 6) dX1_init_31 rfl ?_
      refine r_getr hL xcl1 0 (q := 7) (by show _ < _; omega) s_6 (by decide) fl_X1_11 (by decide) (by show r 6 0 = _; rw [h2]; exact f_6_0) dX1_init_32 ?_
      refine r_iload_n hL (x := (i : Int)) dX1_init_35 rfl ?_
      refine r_new hL xcl5 dX1_init_36 kk_X1_9 in_RX5 it_TaleTypes_State df_5 hsc (fun j => h5 (8 + 5 * i) j (Nat.le_refl _)) (fun j => h6 (8 + 5 * i) j (Nat.le_refl _)) (show 7 < 8 + 5 * i ∧ True from ⟨by omega, trivial⟩) (show 6 < 8 + 5 * i ∧ True from ⟨by omega, trivial⟩) ⟨by show 1 + 5 * i + 1 ≤ 81; omega, by show 16 + 34 * i + 6 ≤ 560; omega⟩ ?_
      show X (1 + 5 * i + 1) (16 + 34 * i + 6) (8 + 5 * i + 1, xSH, r) ν 39 [some (xR 6), some (xI (i : Int))] [xR (8 + 5 * i), xI (i : Int), xR 7]
      refine r_dup hL dX1_init_39 rfl ?_
      refine r_callI hL (st := [xR (8 + 5 * i), xI (i : Int), xR 7]) (k := 8 + 5 * i) (m_X5_init (μ := ν) (8 + 5 * i) hc r ⟨fun k j hk => h5 k j hk, fun k j hk => h6 k j hk, h7⟩ (fun wn νn hCK => ⟨rfl, ?_⟩)) ce_yX5_init rfl im_yX5_init ml_X1_24 dX1_init_40 (show 8 + 5 * i < 8 + 5 * i + 1 ∧ 7 < 8 + 5 * i + 1 ∧ True from ⟨by omega, by omega, trivial⟩) (show 6 < 8 + 5 * i + 1 ∧ True from ⟨by omega, trivial⟩) (Nat.le_of_ble_eq_true rfl) ⟨Nat.le_of_ble_eq_true rfl, Nat.le_of_ble_eq_true rfl⟩ ⟨by show 1 + 5 * i + 1 + 4 ≤ 81; omega, by show 16 + 34 * i + 6 + 28 ≤ 560; omega⟩
      obtain ⟨rg, rfl, g1, g2, g3, g4, g5, g6, g7, g8⟩ := hCK
      show X (1 + 5 * i + 1 + 4) (16 + 34 * i + 6 + 28) (8 + 5 * i + 5, xSH, rg) νn 43 [some (xR 6), some (xI (i : Int))] [xR (8 + 5 * i), xI (i : Int), xR 7]
      refine r_aast hL 0 (n := 16) xcl5 dX1_init_43 (by show _ < _; omega) s_7 (Or.inl ⟨rfl, rfl⟩) (by decide) (by omega) (by omega) (by show _ < _; omega) hsc ?_
      show X (1 + 5 * i + 1 + 4) (16 + 34 * i + 6 + 28) (8 + 5 * i + 5, xSH, xup rg 7 (i : Int) ((8 + 5 * i : Nat) : Int)) νn 44 [some (xR 6), some (xI (i : Int))] []
      refine r_iinc hL (x := (i : Int)) (lo' := [some (xR 6), some (xI ((i : Int) + 1))]) dX1_init_44 (by decide) rfl rfl ?_
      refine r_goto hL (tgt := 25) dX1_init_47 (by decide) ?_
      rw [show 1 + 5 * i + 1 + 4 = 1 + 5 * (i + 1) by omega, show 16 + 34 * i + 6 + 28 = 16 + 34 * (i + 1) by omega, show 8 + 5 * i + 5 = 8 + 5 * (i + 1) by omega, show ((i : Int) + 1) = ((i + 1 : Nat) : Int) by omega]
      refine ih (i + 1) (by omega) _ _ (fun k j hk => ?_) (fun j => ?_) (fun j => ?_) (fun k j a b => ?_) (fun k j a => ?_) (fun k j a => g4 k j (by omega)) g5 (fun k j a => (g6 k j (by omega)).trans (h8 k j a))
      · rw [congrFun (xup_c (by omega)) j, g1 k j (by omega)]; exact h1 k j hk
      · rw [congrFun (xup_c (by decide)) j, g1 6 j (by omega)]; exact h2 j
      · by_cases e : j = (i : Int)
        · rw [e, xup_s, if_pos (by omega)]; omega
        · rw [xup_j e, g1 7 j (by omega), h3 j]
          by_cases h : 0 ≤ j ∧ j < (i : Int)
          · rw [if_pos h, if_pos (by omega)]
          · rw [if_neg h, if_neg (by omega)]
      · by_cases h : k < 8 + 5 * i
        · rw [congrFun (xup_c (by omega)) j, g1 k j h]; exact h4 k j a h
        · rw [congrFun (xup_c (by omega)) j]; exact g2 k j (by omega) (by omega)
      · rw [congrFun (xup_c (by omega)) j]; exact g3 k j (by omega)
  refine lp 16 0 (by omega) _ _ (fun k j hk => by rw [hrf1]; exact congrFun (xup_c (by omega)) j) (fun j => ?_) (fun j => ?_) (fun k j a b => by omega) (fun k j hk => hg1 k j (by omega)) (fun k j hk => hz_ν3 k j (by omega)) hB_ν3 hu_ν3
  · rw [hrf1, show xRF 6 j = xgl [7] j from rfl]
    by_cases hj : j = 0
    · subst hj; simp [xup, xgl]
    · rw [xgl_out (by simp only [List.length_cons, List.length_nil]; omega), xup_j hj]; exact hf 6 j (by omega)
  · rw [if_neg (by omega), hrf1, congrFun (xup_c (by decide)) j]; exact hf 7 j (by omega)

set_option maxHeartbeats 4000000 in
set_option maxRecDepth 20000 in
theorem m_X7_init {K : Option xV → xW → xM → Prop} {μ : xM} (rf : Nat → Int → Int) (hC : CP 0 rf μ) (hK : ∀ w' μ', CK 0 120 rf μ w' μ' → K none w' μ') : xMet yX7_init cX7_init 2 none 3 67 119 1261 [xR 0] (1, xSH, rf) μ K := by
  obtain ⟨hf, hz, hB⟩ := hC
  refine xMet.go RX7 "<init>" rfl rfl (by decide) [some (xR 0), none] (Nat.le_of_ble_eq_true rfl) rfl (fun X hL => ?_)
  have hu : ∀ k j, k < 0 → μ k j = μ k j := fun _ _ _ => rfl
  have A0 : ∀ k j, 1 ≤ k → k < 1 → k ≠ 107 → rf k j = xRF k j := fun k j a b => by omega
  have B0 : ∀ j, rf 0 j = if 0 ≤ j ∧ j < 0 then xRF 0 j else -1 := fun j => by rw [if_neg (by omega)]; exact hf 0 j (by omega)
  refine r_aload_n hL (x := 0) dX7_init_0 rfl ?_
  refine r_objInit hL dX7_init_1 ml_X7_1 im_Lib_objectInit kd_Lib_objectInit ⟨Nat.le_of_ble_eq_true rfl, Nat.le_of_ble_eq_true rfl⟩ ?_
  refine r_aload_n hL (x := 0) dX7_init_4 rfl ?_
  refine r_new hL xcl5 dX7_init_5 kk_X7_7 in_RX5 it_TaleTypes_State df_5 s_1 (fun j => hf (1) j (by omega)) (fun j => hz (1) j (by omega)) (show 0 < 1 ∧ True from ⟨by omega, trivial⟩) (show 0 < 1 ∧ True from ⟨by omega, trivial⟩) ⟨Nat.le_of_ble_eq_true rfl, Nat.le_of_ble_eq_true rfl⟩ ?_
  show X (1) (6) (2, xSH, rf) μ 8 [some (xR 0), none] [xR 1, xR 0]
  refine r_dup hL dX7_init_8 rfl ?_
  refine r_callI hL (st := [xR 1, xR 0]) (k := 1) (m_X5_init (μ := μ) 1 (by decide) rf ⟨fun k j hk => hf k j (by omega), fun k j hk => hz k j (by omega), hB⟩ (fun wn1 νn1 hCK1 => ⟨rfl, ?_⟩)) ce_yX5_init rfl im_yX5_init ml_X7_9 dX7_init_9 (show 1 < 2 ∧ 0 < 2 ∧ True from ⟨by omega, by omega, trivial⟩) (show 0 < 2 ∧ True from ⟨by omega, trivial⟩) (Nat.le_of_ble_eq_true rfl) ⟨Nat.le_of_ble_eq_true rfl, Nat.le_of_ble_eq_true rfl⟩ ⟨Nat.le_of_ble_eq_true rfl, Nat.le_of_ble_eq_true rfl⟩
  obtain ⟨rg1, rfl, hl1, hm1, hf1, hz1, hB1, hp1, hca1, hcb1⟩ := hCK1
  have hu1 : ∀ k j, k < 0 → νn1 k j = μ k j := fun k j hk => (hp1 k j (by omega)).trans (hu k j hk)
  have cs1 : cst νn1 := hca1 (by omega)
  show X (5) (34) (6, xSH, rg1) νn1 12 [some (xR 0), none] [xR 1, xR 0]
  have B1 : ∀ j, rg1 0 j = if 0 ≤ j ∧ j < 0 then xRF 0 j else -1 := fun j => (hl1 0 j (by omega)).trans (B0 j)
  have A1 : ∀ k j, 1 ≤ k → k < 6 → k ≠ 107 → rg1 k j = xRF k j := fun k j a b c => by by_cases h : k < 1; exact (hl1 k j h).trans (A0 k j a (by omega) c); exact hm1 k j (by omega) b
  refine r_putr hL xcl7 0 (j' := 0) rfl (by show _ < _; omega) s_0 (by decide) fw_X7_10 rfl rfl (by decide) (fun a => ⟨rfl, rfl⟩) (by show _ < _; omega) dX7_init_12 ?_
  obtain ⟨rf2, hrf2⟩ : ∃ r, r = xup rg1 0 0 (1 : Int) := ⟨_, rfl⟩
  show X (5) (34) (6, xSH, (xup rg1 0 0 (1 : Int))) νn1 15 [some (xR 0), none] []
  rw [← hrf2]
  have hg2 : ∀ k j, 6 ≤ k → rf2 k j = -1 := fun k j hk => by rw [hrf2]; exact (congrFun (xup_c (by omega)) j).trans (hf1 k j (by omega))
  have Bp2 : ∀ j, rf2 0 j = if 0 ≤ j ∧ j < 1 then xRF 0 j else -1 := by
    intro j
    rw [hrf2]
    by_cases e : j = 0
    · subst e; rw [xup_s, if_pos (by omega)]; rfl
    · rw [xup_j e, B1 j]
      by_cases h : 0 ≤ j ∧ j < 0
      · rw [if_pos h, if_pos (by omega)]
      · rw [if_neg h, if_neg (by omega)]
  have Ap2 : ∀ k j, 1 ≤ k → k < 6 → k ≠ 107 → rf2 k j = xRF k j := fun k j a b c => by rw [hrf2, congrFun (xup_c (by omega)) j]; exact A1 k j a (by omega) c
  refine r_aload_n hL (x := 0) dX7_init_15 rfl ?_
  refine r_new hL xcl1 dX7_init_16 kk_X7_16 in_RX1 it_TaleTypes_Deeds df_1 s_6 (fun j => hg2 (6) j (by omega)) (fun j => hz1 (6) j (by omega)) (show 0 < 6 ∧ True from ⟨by omega, trivial⟩) (show 0 < 6 ∧ True from ⟨by omega, trivial⟩) ⟨Nat.le_of_ble_eq_true rfl, Nat.le_of_ble_eq_true rfl⟩ ?_
  show X (6) (37) (7, xSH, rf2) νn1 19 [some (xR 0), none] [xR 6, xR 0]
  refine r_dup hL dX7_init_19 rfl ?_
  refine r_callI hL (st := [xR 6, xR 0]) (k := 6) (m_X1_init (μ := νn1)  rf2 ⟨fun k j hk => hg2 k j (by omega), fun k j hk => hz1 k j (by omega), hB1⟩ (fun wn3 νn3 hCK3 => ⟨rfl, ?_⟩)) ce_yX1_init rfl im_yX1_init ml_X7_18 dX7_init_20 (show 6 < 7 ∧ 0 < 7 ∧ True from ⟨by omega, by omega, trivial⟩) (show 0 < 7 ∧ True from ⟨by omega, trivial⟩) (Nat.le_of_ble_eq_true rfl) ⟨Nat.le_of_ble_eq_true rfl, Nat.le_of_ble_eq_true rfl⟩ ⟨Nat.le_of_ble_eq_true rfl, Nat.le_of_ble_eq_true rfl⟩
  obtain ⟨rg3, rfl, hl3, hm3, hf3, hz3, hB3, hp3, hca3, hcb3⟩ := hCK3
  have hu3 : ∀ k j, k < 0 → νn3 k j = μ k j := fun k j hk => (hp3 k j (by omega)).trans (hu1 k j hk)
  have cs3 : cst νn3 := cs1.keep (fun j => hp3 4 j (by omega))
  show X (87) (597) (88, xSH, rg3) νn3 23 [some (xR 0), none] [xR 6, xR 0]
  have B3 : ∀ j, rg3 0 j = if 0 ≤ j ∧ j < 1 then xRF 0 j else -1 := fun j => (hl3 0 j (by omega)).trans (Bp2 j)
  have A3 : ∀ k j, 1 ≤ k → k < 88 → k ≠ 107 → rg3 k j = xRF k j := fun k j a b c => by by_cases h : k < 6; exact (hl3 k j h).trans (Ap2 k j a (by omega) c); exact hm3 k j (by omega) b
  refine r_putr hL xcl7 1 (j' := 1) rfl (by show _ < _; omega) s_0 (by decide) fw_X7_19 rfl rfl (by decide) (fun a => ⟨rfl, rfl⟩) (by show _ < _; omega) dX7_init_23 ?_
  obtain ⟨rf4, hrf4⟩ : ∃ r, r = xup rg3 0 1 (6 : Int) := ⟨_, rfl⟩
  show X (87) (597) (88, xSH, (xup rg3 0 1 (6 : Int))) νn3 26 [some (xR 0), none] []
  rw [← hrf4]
  have hg4 : ∀ k j, 88 ≤ k → rf4 k j = -1 := fun k j hk => by rw [hrf4]; exact (congrFun (xup_c (by omega)) j).trans (hf3 k j (by omega))
  have Bp4 : ∀ j, rf4 0 j = if 0 ≤ j ∧ j < 2 then xRF 0 j else -1 := by
    intro j
    rw [hrf4]
    by_cases e : j = 1
    · subst e; rw [xup_s, if_pos (by omega)]; rfl
    · rw [xup_j e, B3 j]
      by_cases h : 0 ≤ j ∧ j < 1
      · rw [if_pos h, if_pos (by omega)]
      · rw [if_neg h, if_neg (by omega)]
  have Ap4 : ∀ k j, 1 ≤ k → k < 88 → k ≠ 107 → rf4 k j = xRF k j := fun k j a b c => by rw [hrf4, congrFun (xup_c (by omega)) j]; exact A3 k j a (by omega) c
  refine r_aload_n hL (x := 0) dX7_init_26 rfl ?_
  refine r_new hL xcl0 dX7_init_27 kk_X7_23 in_RX0 it_TaleTypes_Book df_0 s_88 (fun j => hg4 (88) j (by omega)) (fun j => hz3 (88) j (by omega)) (show 0 < 88 ∧ True from ⟨by omega, trivial⟩) (show 0 < 88 ∧ True from ⟨by omega, trivial⟩) ⟨Nat.le_of_ble_eq_true rfl, Nat.le_of_ble_eq_true rfl⟩ ?_
  show X (88) (601) (89, xSH, rf4) νn3 30 [some (xR 0), none] [xR 88, xR 0]
  refine r_dup hL dX7_init_30 rfl ?_
  refine r_callIN hL (st := [xR 88, xR 0]) (k := 88) (m_X0_init (μ := νn3)  rf4 ⟨fun k j hk => hg4 k j (by omega), fun k j hk => hz3 k j (by omega), hB3⟩ (fun wn5 νn5 hCK5 => ⟨rfl, ?_⟩)) ce_yX0_init rfl im_yX0_init ml_X7_25 dX7_init_31 (show 88 < 89 ∧ 0 < 89 ∧ True from ⟨by omega, by omega, trivial⟩) (show 0 < 89 ∧ True from ⟨by omega, trivial⟩) (Nat.le_of_ble_eq_true rfl) ⟨Nat.le_of_ble_eq_true rfl, Nat.le_of_ble_eq_true rfl⟩ ⟨Nat.le_of_ble_eq_true rfl, Nat.le_of_ble_eq_true rfl⟩
  obtain ⟨rg5, rfl, hl5, hm5, hf5, hz5, hB5, hp5, hca5, hcb5⟩ := hCK5
  have hu5 : ∀ k j, k < 0 → νn5 k j = μ k j := fun k j hk => (hp5 k j (by omega)).trans (hu3 k j hk)
  have cs5 : cst νn5 := cs3.keep (fun j => hp5 4 j (by omega))
  show X (91) (661) (92, xSH, rg5) νn5 34 [some (xR 0), none] [xR 88, xR 0]
  have B5 : ∀ j, rg5 0 j = if 0 ≤ j ∧ j < 2 then xRF 0 j else -1 := fun j => (hl5 0 j (by omega)).trans (Bp4 j)
  have A5 : ∀ k j, 1 ≤ k → k < 92 → k ≠ 107 → rg5 k j = xRF k j := fun k j a b c => by by_cases h : k < 88; exact (hl5 k j h).trans (Ap4 k j a (by omega) c); exact hm5 k j (by omega) b
  refine r_putr hL xcl7 2 (j' := 2) rfl (by show _ < _; omega) s_0 (by decide) fw_X7_26 rfl rfl (by decide) (fun a => ⟨rfl, rfl⟩) (by show _ < _; omega) dX7_init_34 ?_
  obtain ⟨rf6, hrf6⟩ : ∃ r, r = xup rg5 0 2 (88 : Int) := ⟨_, rfl⟩
  show X (91) (661) (92, xSH, (xup rg5 0 2 (88 : Int))) νn5 37 [some (xR 0), none] []
  rw [← hrf6]
  have hg6 : ∀ k j, 92 ≤ k → rf6 k j = -1 := fun k j hk => by rw [hrf6]; exact (congrFun (xup_c (by omega)) j).trans (hf5 k j (by omega))
  have Bp6 : ∀ j, rf6 0 j = if 0 ≤ j ∧ j < 3 then xRF 0 j else -1 := by
    intro j
    rw [hrf6]
    by_cases e : j = 2
    · subst e; rw [xup_s, if_pos (by omega)]; rfl
    · rw [xup_j e, B5 j]
      by_cases h : 0 ≤ j ∧ j < 2
      · rw [if_pos h, if_pos (by omega)]
      · rw [if_neg h, if_neg (by omega)]
  have Ap6 : ∀ k j, 1 ≤ k → k < 92 → k ≠ 107 → rf6 k j = xRF k j := fun k j a b c => by rw [hrf6, congrFun (xup_c (by omega)) j]; exact A5 k j a (by omega) c
  refine r_aload_n hL (x := 0) dX7_init_37 rfl ?_
  refine r_new hL xcl4 dX7_init_38 kk_X7_30 in_RX4 it_TaleTypes_Lineup df_4 s_92 (fun j => hg6 (92) j (by omega)) (fun j => hz5 (92) j (by omega)) (show 0 < 92 ∧ True from ⟨by omega, trivial⟩) (show 0 < 92 ∧ True from ⟨by omega, trivial⟩) ⟨Nat.le_of_ble_eq_true rfl, Nat.le_of_ble_eq_true rfl⟩ ?_
  show X (92) (670) (93, xSH, rf6) νn5 41 [some (xR 0), none] [xR 92, xR 0]
  refine r_dup hL dX7_init_41 rfl ?_
  refine r_callIN hL (st := [xR 92, xR 0]) (k := 92) (m_X4_init (μ := νn5)  rf6 ⟨fun k j hk => hg6 k j (by omega), fun k j hk => hz5 k j (by omega), hB5⟩ (fun wn7 νn7 hCK7 => ⟨rfl, ?_⟩)) ce_yX4_init rfl im_yX4_init ml_X7_32 dX7_init_42 (show 92 < 93 ∧ 0 < 93 ∧ True from ⟨by omega, by omega, trivial⟩) (show 0 < 93 ∧ True from ⟨by omega, trivial⟩) (Nat.le_of_ble_eq_true rfl) ⟨Nat.le_of_ble_eq_true rfl, Nat.le_of_ble_eq_true rfl⟩ ⟨Nat.le_of_ble_eq_true rfl, Nat.le_of_ble_eq_true rfl⟩
  obtain ⟨rg7, rfl, hl7, hm7, hf7, hz7, hB7, hp7, hca7, hcb7⟩ := hCK7
  have hu7 : ∀ k j, k < 0 → νn7 k j = μ k j := fun k j hk => (hp7 k j (by omega)).trans (hu5 k j hk)
  have cs7 : cst νn7 := cs5.keep (fun j => hp7 4 j (by omega))
  show X (99) (1077) (100, xSH, rg7) νn7 45 [some (xR 0), none] [xR 92, xR 0]
  have B7 : ∀ j, rg7 0 j = if 0 ≤ j ∧ j < 3 then xRF 0 j else -1 := fun j => (hl7 0 j (by omega)).trans (Bp6 j)
  have A7 : ∀ k j, 1 ≤ k → k < 100 → k ≠ 107 → rg7 k j = xRF k j := fun k j a b c => by by_cases h : k < 92; exact (hl7 k j h).trans (Ap6 k j a (by omega) c); exact hm7 k j (by omega) b
  refine r_putr hL xcl7 3 (j' := 3) rfl (by show _ < _; omega) s_0 (by decide) fw_X7_33 rfl rfl (by decide) (fun a => ⟨rfl, rfl⟩) (by show _ < _; omega) dX7_init_45 ?_
  obtain ⟨rf8, hrf8⟩ : ∃ r, r = xup rg7 0 3 (92 : Int) := ⟨_, rfl⟩
  show X (99) (1077) (100, xSH, (xup rg7 0 3 (92 : Int))) νn7 48 [some (xR 0), none] []
  rw [← hrf8]
  have hg8 : ∀ k j, 100 ≤ k → rf8 k j = -1 := fun k j hk => by rw [hrf8]; exact (congrFun (xup_c (by omega)) j).trans (hf7 k j (by omega))
  have Bp8 : ∀ j, rf8 0 j = if 0 ≤ j ∧ j < 4 then xRF 0 j else -1 := by
    intro j
    rw [hrf8]
    by_cases e : j = 3
    · subst e; rw [xup_s, if_pos (by omega)]; rfl
    · rw [xup_j e, B7 j]
      by_cases h : 0 ≤ j ∧ j < 3
      · rw [if_pos h, if_pos (by omega)]
      · rw [if_neg h, if_neg (by omega)]
  have Ap8 : ∀ k j, 1 ≤ k → k < 100 → k ≠ 107 → rf8 k j = xRF k j := fun k j a b c => by rw [hrf8, congrFun (xup_c (by omega)) j]; exact A7 k j a (by omega) c
  refine r_aload_n hL (x := 0) dX7_init_48 rfl ?_
  refine r_new hL xcl2 dX7_init_49 kk_X7_37 in_RX2 it_TaleTypes_Distances df_2 s_100 (fun j => hg8 (100) j (by omega)) (fun j => hz7 (100) j (by omega)) (show 0 < 100 ∧ True from ⟨by omega, trivial⟩) (show 0 < 100 ∧ True from ⟨by omega, trivial⟩) ⟨Nat.le_of_ble_eq_true rfl, Nat.le_of_ble_eq_true rfl⟩ ?_
  show X (100) (1078) (101, xSH, rf8) νn7 52 [some (xR 0), none] [xR 100, xR 0]
  refine r_dup hL dX7_init_52 rfl ?_
  refine r_callIN hL (st := [xR 100, xR 0]) (k := 100) (m_X2_init (μ := νn7)  rf8 ⟨fun k j hk => hg8 k j (by omega), fun k j hk => hz7 k j (by omega), hB7⟩ (fun wn9 νn9 hCK9 => ⟨rfl, ?_⟩)) ce_yX2_init rfl im_yX2_init ml_X7_39 dX7_init_53 (show 100 < 101 ∧ 0 < 101 ∧ True from ⟨by omega, by omega, trivial⟩) (show 0 < 101 ∧ True from ⟨by omega, trivial⟩) (Nat.le_of_ble_eq_true rfl) ⟨Nat.le_of_ble_eq_true rfl, Nat.le_of_ble_eq_true rfl⟩ ⟨Nat.le_of_ble_eq_true rfl, Nat.le_of_ble_eq_true rfl⟩
  obtain ⟨rg9, rfl, hl9, hm9, hf9, hz9, hB9, hp9, hca9, hcb9⟩ := hCK9
  have hu9 : ∀ k j, k < 0 → νn9 k j = μ k j := fun k j hk => (hp9 k j (by omega)).trans (hu7 k j hk)
  have cs9 : cst νn9 := cs7.keep (fun j => hp9 4 j (by omega))
  show X (101) (1142) (102, xSH, rg9) νn9 56 [some (xR 0), none] [xR 100, xR 0]
  have B9 : ∀ j, rg9 0 j = if 0 ≤ j ∧ j < 4 then xRF 0 j else -1 := fun j => (hl9 0 j (by omega)).trans (Bp8 j)
  have A9 : ∀ k j, 1 ≤ k → k < 102 → k ≠ 107 → rg9 k j = xRF k j := fun k j a b c => by by_cases h : k < 100; exact (hl9 k j h).trans (Ap8 k j a (by omega) c); exact hm9 k j (by omega) b
  refine r_putr hL xcl7 4 (j' := 4) rfl (by show _ < _; omega) s_0 (by decide) fw_X7_40 rfl rfl (by decide) (fun a => ⟨rfl, rfl⟩) (by show _ < _; omega) dX7_init_56 ?_
  obtain ⟨rf10, hrf10⟩ : ∃ r, r = xup rg9 0 4 (100 : Int) := ⟨_, rfl⟩
  show X (101) (1142) (102, xSH, (xup rg9 0 4 (100 : Int))) νn9 59 [some (xR 0), none] []
  rw [← hrf10]
  have hg10 : ∀ k j, 102 ≤ k → rf10 k j = -1 := fun k j hk => by rw [hrf10]; exact (congrFun (xup_c (by omega)) j).trans (hf9 k j (by omega))
  have Bp10 : ∀ j, rf10 0 j = if 0 ≤ j ∧ j < 5 then xRF 0 j else -1 := by
    intro j
    rw [hrf10]
    by_cases e : j = 4
    · subst e; rw [xup_s, if_pos (by omega)]; rfl
    · rw [xup_j e, B9 j]
      by_cases h : 0 ≤ j ∧ j < 4
      · rw [if_pos h, if_pos (by omega)]
      · rw [if_neg h, if_neg (by omega)]
  have Ap10 : ∀ k j, 1 ≤ k → k < 102 → k ≠ 107 → rf10 k j = xRF k j := fun k j a b c => by rw [hrf10, congrFun (xup_c (by omega)) j]; exact A9 k j a (by omega) c
  refine r_aload_n hL (x := 0) dX7_init_59 rfl ?_
  refine r_new hL xcl6 dX7_init_60 kk_X7_44 in_RX6 it_TaleTypes_Tree df_6 s_102 (fun j => hg10 (102) j (by omega)) (fun j => hz9 (102) j (by omega)) (show 0 < 102 ∧ True from ⟨by omega, trivial⟩) (show 0 < 102 ∧ True from ⟨by omega, trivial⟩) ⟨Nat.le_of_ble_eq_true rfl, Nat.le_of_ble_eq_true rfl⟩ ?_
  show X (102) (1153) (103, xSH, rf10) νn9 63 [some (xR 0), none] [xR 102, xR 0]
  refine r_dup hL dX7_init_63 rfl ?_
  refine r_callIN hL (st := [xR 102, xR 0]) (k := 102) (m_X6_init (μ := νn9)  rf10 ⟨fun k j hk => hg10 k j (by omega), fun k j hk => hz9 k j (by omega), hB9⟩ (fun wn11 νn11 hCK11 => ⟨rfl, ?_⟩)) ce_yX6_init rfl im_yX6_init ml_X7_46 dX7_init_64 (show 102 < 103 ∧ 0 < 103 ∧ True from ⟨by omega, by omega, trivial⟩) (show 0 < 103 ∧ True from ⟨by omega, trivial⟩) (Nat.le_of_ble_eq_true rfl) ⟨Nat.le_of_ble_eq_true rfl, Nat.le_of_ble_eq_true rfl⟩ ⟨Nat.le_of_ble_eq_true rfl, Nat.le_of_ble_eq_true rfl⟩
  obtain ⟨rg11, rfl, hl11, hm11, hf11, hz11, hB11, hp11, hca11, hcb11⟩ := hCK11
  have hu11 : ∀ k j, k < 0 → νn11 k j = μ k j := fun k j hk => (hp11 k j (by omega)).trans (hu9 k j hk)
  have cs11 : cst νn11 := cs9.keep (fun j => hp11 4 j (by omega))
  show X (106) (1185) (107, xSH, rg11) νn11 67 [some (xR 0), none] [xR 102, xR 0]
  have B11 : ∀ j, rg11 0 j = if 0 ≤ j ∧ j < 5 then xRF 0 j else -1 := fun j => (hl11 0 j (by omega)).trans (Bp10 j)
  have A11 : ∀ k j, 1 ≤ k → k < 107 → k ≠ 107 → rg11 k j = xRF k j := fun k j a b c => by by_cases h : k < 102; exact (hl11 k j h).trans (Ap10 k j a (by omega) c); exact hm11 k j (by omega) b
  refine r_putr hL xcl7 5 (j' := 5) rfl (by show _ < _; omega) s_0 (by decide) fw_X7_47 rfl rfl (by decide) (fun a => ⟨rfl, rfl⟩) (by show _ < _; omega) dX7_init_67 ?_
  obtain ⟨rf12, hrf12⟩ : ∃ r, r = xup rg11 0 5 (102 : Int) := ⟨_, rfl⟩
  show X (106) (1185) (107, xSH, (xup rg11 0 5 (102 : Int))) νn11 70 [some (xR 0), none] []
  rw [← hrf12]
  have hg12 : ∀ k j, 107 ≤ k → rf12 k j = -1 := fun k j hk => by rw [hrf12]; exact (congrFun (xup_c (by omega)) j).trans (hf11 k j (by omega))
  have Bp12 : ∀ j, rf12 0 j = if 0 ≤ j ∧ j < 6 then xRF 0 j else -1 := by
    intro j
    rw [hrf12]
    by_cases e : j = 5
    · subst e; rw [xup_s, if_pos (by omega)]; rfl
    · rw [xup_j e, B11 j]
      by_cases h : 0 ≤ j ∧ j < 5
      · rw [if_pos h, if_pos (by omega)]
      · rw [if_neg h, if_neg (by omega)]
  have Ap12 : ∀ k j, 1 ≤ k → k < 107 → k ≠ 107 → rf12 k j = xRF k j := fun k j a b c => by rw [hrf12, congrFun (xup_c (by omega)) j]; exact A11 k j a (by omega) c
  refine r_aload_n hL (x := 0) dX7_init_70 rfl ?_
  refine r_iconst hL dX7_init_71 ?_
  refine r_newq hL 1 (nn := 2) dX7_init_72 kk_X7_51 ao_Jvm_ClassFile_FieldType_object_TaleTypes_Image (Or.inr ⟨rfl, rfl⟩) rfl (by decide) s_107 (fun j => hg12 (107) j (by omega)) (fun j => hz11 (107) j (by omega)) (show 0 < 107 ∧ True from ⟨by omega, trivial⟩) (show 0 < 107 ∧ True from ⟨by omega, trivial⟩) ⟨Nat.le_of_ble_eq_true rfl, Nat.le_of_ble_eq_true rfl⟩ ?_
  show X (107) (1187) (108, xSH, rf12) νn11 75 [some (xR 0), none] [xR 107, xR 0]
  refine r_putr hL xcl7 6 (j' := 6) rfl (by show _ < _; omega) s_0 (by decide) fw_X7_53 rfl rfl (by decide) (fun a => ⟨rfl, rfl⟩) (by show _ < _; omega) dX7_init_75 ?_
  obtain ⟨rf13, hrf13⟩ : ∃ r, r = xup rf12 0 6 (107 : Int) := ⟨_, rfl⟩
  show X (107) (1187) (108, xSH, (xup rf12 0 6 (107 : Int))) νn11 78 [some (xR 0), none] []
  rw [← hrf13]
  have hg13 : ∀ k j, 108 ≤ k → rf13 k j = -1 := fun k j hk => by rw [hrf13]; exact (congrFun (xup_c (by omega)) j).trans (hg12 k j (by omega))
  have Bp13 : ∀ j, rf13 0 j = if 0 ≤ j ∧ j < 7 then xRF 0 j else -1 := by
    intro j
    rw [hrf13]
    by_cases e : j = 6
    · subst e; rw [xup_s, if_pos (by omega)]; rfl
    · rw [xup_j e, Bp12 j]
      by_cases h : 0 ≤ j ∧ j < 6
      · rw [if_pos h, if_pos (by omega)]
      · rw [if_neg h, if_neg (by omega)]
  have Ap13 : ∀ k j, 1 ≤ k → k < 108 → k ≠ 107 → rf13 k j = xRF k j := fun k j a b c => by rw [hrf13, congrFun (xup_c (by omega)) j]; exact Ap12 k j a (by omega) c
  have Cp13 : ∀ j, rf13 107 j = if 0 ≤ j ∧ j < 0 then 108 + 6 * j else -1 := fun j => by rw [hrf13, congrFun (xup_c (by decide)) j, if_neg (by omega)]; exact hg12 107 j (by omega)
  refine r_aload_n hL (x := 0) dX7_init_78 rfl ?_
  refine r_lconst hL (n := 0) dX7_init_79 rfl ?_
  refine r_putl hL xcl7 7 (j' := 7) rfl (by show _ < _; omega) s_0 (by decide) fl_X7_57 rfl rfl (by omega) dX7_init_80 (fun ν14 hm_ν14 => ?_)
  have hB_ν14 : BZ ν14 := by rw [hm_ν14]; exact hB11.up (by show (7 : Int) = 7 → 0 ≤ 0 ∧ 0 ≤ 47244640255; omega) (fun _ => rfl)
  have hu_ν14 : ∀ k j, k < 0 → ν14 k j = μ k j := fun k j hk => by rw [hm_ν14]; exact (congrFun (xup_c (by omega)) j).trans (hu11 k j hk)
  have cs_ν14 : cst ν14 := cs11.keep (fun j => by rw [hm_ν14]; exact congrFun (xup_c (by decide)) j)
  have hz_ν14 : ∀ k j, 108 ≤ k → ν14 k j = 0 := fun k j hk => by rw [hm_ν14]; exact (congrFun (xup_c (by omega)) j).trans (hz11 k j (by omega))
  refine r_aload_n hL (x := 0) dX7_init_83 rfl ?_
  refine r_iconst hL dX7_init_84 ?_
  refine r_puti hL xcl7 8 (j' := 8) rfl (by show _ < _; omega) s_0 (by decide) fl_X7_61 rfl rfl (by omega) dX7_init_85 (fun ν15 hm_ν15 => ?_)
  have hB_ν15 : BZ ν15 := by rw [hm_ν15]; exact hB_ν14.up (by show (8 : Int) = 7 → 0 ≤ 0 ∧ 0 ≤ 47244640255; omega) (fun _ => rfl)
  have hu_ν15 : ∀ k j, k < 0 → ν15 k j = μ k j := fun k j hk => by rw [hm_ν15]; exact (congrFun (xup_c (by omega)) j).trans (hu_ν14 k j hk)
  have cs_ν15 : cst ν15 := cs_ν14.keep (fun j => by rw [hm_ν15]; exact congrFun (xup_c (by decide)) j)
  have hz_ν15 : ∀ k j, 108 ≤ k → ν15 k j = 0 := fun k j hk => by rw [hm_ν15]; exact (congrFun (xup_c (by omega)) j).trans (hz_ν14 k j (by omega))
  refine r_aload_n hL (x := 0) dX7_init_88 rfl ?_
  refine r_iconst hL dX7_init_89 ?_
  refine r_putz hL xcl7 9 (j' := 9) rfl (by show _ < _; omega) s_0 (by decide) fl_X7_65 rfl rfl (by omega) dX7_init_90 (fun ν16 hm_ν16 => ?_)
  have hB_ν16 : BZ ν16 := by rw [hm_ν16]; exact hB_ν15.up (by show (9 : Int) = 7 → 0 ≤ 0 ∧ 0 ≤ 47244640255; omega) (fun _ => rfl)
  have hu_ν16 : ∀ k j, k < 0 → ν16 k j = μ k j := fun k j hk => by rw [hm_ν16]; exact (congrFun (xup_c (by omega)) j).trans (hu_ν15 k j hk)
  have cs_ν16 : cst ν16 := cs_ν15.keep (fun j => by rw [hm_ν16]; exact congrFun (xup_c (by decide)) j)
  have hz_ν16 : ∀ k j, 108 ≤ k → ν16 k j = 0 := fun k j hk => by rw [hm_ν16]; exact (congrFun (xup_c (by omega)) j).trans (hz_ν15 k j (by omega))
  refine r_iconst hL dX7_init_93 ?_
  refine r_istore_n hL (lo' := [some (xR 0), some (xI 0)]) dX7_init_94 (by decide) rfl ?_
  refine r_iload_n hL (x := 0) dX7_init_95 rfl ?_
  refine r_iconst hL dX7_init_96 ?_
  refine r_icmp_ge hL (tgt := 119) dX7_init_97 (by decide) (by omega) (by omega) (fun c97 => ?_) (fun c97 => ?_)
  · exact absurd c97 (by decide)
  show X (107) (1187) (108, xSH, rf13) ν16 100 [some (xR 0), some (xI 0)] []
  refine r_aload_n hL (x := 0) dX7_init_100 rfl ?_
  refine r_getr hL xcl7 6 (q := 107) (by show _ < _; omega) s_0 (by decide) fl_X7_53 (by decide) (by show rf13 0 6 = _; rw [Bp13 6, if_pos (by omega)]; exact f_0_6) dX7_init_101 ?_
  refine r_iload_n hL (x := 0) dX7_init_104 rfl ?_
  refine r_new hL xcl3 dX7_init_105 kk_X7_51 in_RX3 it_TaleTypes_Image df_3 s_108 (fun j => hg13 (108) j (by omega)) (fun j => hz_ν16 (108) j (by omega)) (show 107 < 108 ∧ True from ⟨by omega, trivial⟩) (show 0 < 108 ∧ True from ⟨by omega, trivial⟩) ⟨Nat.le_of_ble_eq_true rfl, Nat.le_of_ble_eq_true rfl⟩ ?_
  show X (108) (1190) (109, xSH, rf13) ν16 108 [some (xR 0), some (xI 0)] [xR 108, xI 0, xR 107]
  refine r_dup hL dX7_init_108 rfl ?_
  refine r_callIN hL (st := [xR 108, xI 0, xR 107]) (k := 108) (m_X3_init_108 (μ := ν16)  rf13 ⟨fun k j hk => hg13 k j (by omega), fun k j hk => hz_ν16 k j (by omega), hB_ν16⟩ (fun wn17 νn17 hCK17 => ⟨rfl, ?_⟩)) ce_yX3_init rfl im_yX3_init ml_X7_69 dX7_init_109 (show 108 < 109 ∧ 107 < 109 ∧ True from ⟨by omega, by omega, trivial⟩) (show 0 < 109 ∧ True from ⟨by omega, trivial⟩) (Nat.le_of_ble_eq_true rfl) ⟨Nat.le_of_ble_eq_true rfl, Nat.le_of_ble_eq_true rfl⟩ ⟨Nat.le_of_ble_eq_true rfl, Nat.le_of_ble_eq_true rfl⟩
  obtain ⟨rg17, rfl, hl17, hm17, hf17, hz17, hB17, hp17, hca17, hcb17⟩ := hCK17
  have hu17 : ∀ k j, k < 0 → νn17 k j = μ k j := fun k j hk => (hp17 k j (by omega)).trans (hu_ν16 k j hk)
  have cs17 : cst νn17 := cs_ν16.keep (fun j => hp17 4 j (by omega))
  show X (113) (1224) (114, xSH, rg17) νn17 112 [some (xR 0), some (xI 0)] [xR 108, xI 0, xR 107]
  have B17 : ∀ j, rg17 0 j = if 0 ≤ j ∧ j < 7 then xRF 0 j else -1 := fun j => (hl17 0 j (by omega)).trans (Bp13 j)
  have A17 : ∀ k j, 1 ≤ k → k < 114 → k ≠ 107 → rg17 k j = xRF k j := fun k j a b c => by by_cases h : k < 108; exact (hl17 k j h).trans (Ap13 k j a (by omega) c); exact hm17 k j (by omega) b
  have C17 : ∀ j, rg17 107 j = if 0 ≤ j ∧ j < 0 then 108 + 6 * j else -1 := fun j => (hl17 107 j (by omega)).trans (Cp13 j)
  refine r_aast hL 1 xcl3 dX7_init_112 (by show _ < _; omega) s_107 (Or.inr ⟨rfl, rfl⟩) (by decide) (by omega) (by omega) (by show _ < _; omega) s_108 ?_
  obtain ⟨rf18, hrf18⟩ : ∃ r, r = xup rg17 107 0 (108 : Int) := ⟨_, rfl⟩
  show X (113) (1224) (114, xSH, (xup rg17 107 0 (108 : Int))) νn17 113 [some (xR 0), some (xI 0)] []
  rw [← hrf18]
  have hg18 : ∀ k j, 114 ≤ k → rf18 k j = -1 := fun k j hk => by rw [hrf18]; exact (congrFun (xup_c (by omega)) j).trans (hf17 k j (by omega))
  have Bp18 : ∀ j, rf18 0 j = if 0 ≤ j ∧ j < 7 then xRF 0 j else -1 := fun j => by rw [hrf18, congrFun (xup_c (by decide)) j]; exact B17 j
  have Ap18 : ∀ k j, 1 ≤ k → k < 114 → k ≠ 107 → rf18 k j = xRF k j := fun k j a b c => by rw [hrf18, congrFun (xup_c c) j]; exact A17 k j a (by omega) c
  have Cp18 : ∀ j, rf18 107 j = if 0 ≤ j ∧ j < 1 then 108 + 6 * j else -1 := by
    intro j
    rw [hrf18]
    by_cases e : j = 0
    · subst e; rw [xup_s, if_pos (by omega)]; rfl
    · rw [xup_j e, C17 j]
      by_cases h : 0 ≤ j ∧ j < 0
      · rw [if_pos h, if_pos (by omega)]
      · rw [if_neg h, if_neg (by omega)]
  refine r_iinc hL (x := 0) (lo' := [some (xR 0), some (xI 1)]) dX7_init_113 (by decide) rfl rfl ?_
  refine r_goto hL (tgt := 95) dX7_init_116 (by decide) ?_
  show X (113) (1224) (114, xSH, rf18) νn17 95 [some (xR 0), some (xI 1)] []
  refine r_iload_n hL (x := 1) dX7_init_95 rfl ?_
  refine r_iconst hL dX7_init_96 ?_
  refine r_icmp_ge hL (tgt := 119) dX7_init_97 (by decide) (by omega) (by omega) (fun c97 => ?_) (fun c97 => ?_)
  · exact absurd c97 (by decide)
  show X (113) (1224) (114, xSH, rf18) νn17 100 [some (xR 0), some (xI 1)] []
  refine r_aload_n hL (x := 0) dX7_init_100 rfl ?_
  refine r_getr hL xcl7 6 (q := 107) (by show _ < _; omega) s_0 (by decide) fl_X7_53 (by decide) (by show rf18 0 6 = _; rw [Bp18 6, if_pos (by omega)]; exact f_0_6) dX7_init_101 ?_
  refine r_iload_n hL (x := 1) dX7_init_104 rfl ?_
  refine r_new hL xcl3 dX7_init_105 kk_X7_51 in_RX3 it_TaleTypes_Image df_3 s_114 (fun j => hg18 (114) j (by omega)) (fun j => hz17 (114) j (by omega)) (show 107 < 114 ∧ True from ⟨by omega, trivial⟩) (show 0 < 114 ∧ True from ⟨by omega, trivial⟩) ⟨Nat.le_of_ble_eq_true rfl, Nat.le_of_ble_eq_true rfl⟩ ?_
  show X (114) (1227) (115, xSH, rf18) νn17 108 [some (xR 0), some (xI 1)] [xR 114, xI 1, xR 107]
  refine r_dup hL dX7_init_108 rfl ?_
  refine r_callIN hL (st := [xR 114, xI 1, xR 107]) (k := 114) (m_X3_init_114 (μ := νn17)  rf18 ⟨fun k j hk => hg18 k j (by omega), fun k j hk => hz17 k j (by omega), hB17⟩ (fun wn19 νn19 hCK19 => ⟨rfl, ?_⟩)) ce_yX3_init rfl im_yX3_init ml_X7_69 dX7_init_109 (show 114 < 115 ∧ 107 < 115 ∧ True from ⟨by omega, by omega, trivial⟩) (show 0 < 115 ∧ True from ⟨by omega, trivial⟩) (Nat.le_of_ble_eq_true rfl) ⟨Nat.le_of_ble_eq_true rfl, Nat.le_of_ble_eq_true rfl⟩ ⟨Nat.le_of_ble_eq_true rfl, Nat.le_of_ble_eq_true rfl⟩
  obtain ⟨rg19, rfl, hl19, hm19, hf19, hz19, hB19, hp19, hca19, hcb19⟩ := hCK19
  have hu19 : ∀ k j, k < 0 → νn19 k j = μ k j := fun k j hk => (hp19 k j (by omega)).trans (hu17 k j hk)
  have cs19 : cst νn19 := cs17.keep (fun j => hp19 4 j (by omega))
  show X (119) (1261) (120, xSH, rg19) νn19 112 [some (xR 0), some (xI 1)] [xR 114, xI 1, xR 107]
  have B19 : ∀ j, rg19 0 j = if 0 ≤ j ∧ j < 7 then xRF 0 j else -1 := fun j => (hl19 0 j (by omega)).trans (Bp18 j)
  have A19 : ∀ k j, 1 ≤ k → k < 120 → k ≠ 107 → rg19 k j = xRF k j := fun k j a b c => by by_cases h : k < 114; exact (hl19 k j h).trans (Ap18 k j a (by omega) c); exact hm19 k j (by omega) b
  have C19 : ∀ j, rg19 107 j = if 0 ≤ j ∧ j < 1 then 108 + 6 * j else -1 := fun j => (hl19 107 j (by omega)).trans (Cp18 j)
  refine r_aast hL 1 xcl3 dX7_init_112 (by show _ < _; omega) s_107 (Or.inr ⟨rfl, rfl⟩) (by decide) (by omega) (by omega) (by show _ < _; omega) s_114 ?_
  obtain ⟨rf20, hrf20⟩ : ∃ r, r = xup rg19 107 1 (114 : Int) := ⟨_, rfl⟩
  show X (119) (1261) (120, xSH, (xup rg19 107 1 (114 : Int))) νn19 113 [some (xR 0), some (xI 1)] []
  rw [← hrf20]
  have hg20 : ∀ k j, 120 ≤ k → rf20 k j = -1 := fun k j hk => by rw [hrf20]; exact (congrFun (xup_c (by omega)) j).trans (hf19 k j (by omega))
  have Bp20 : ∀ j, rf20 0 j = if 0 ≤ j ∧ j < 7 then xRF 0 j else -1 := fun j => by rw [hrf20, congrFun (xup_c (by decide)) j]; exact B19 j
  have Ap20 : ∀ k j, 1 ≤ k → k < 120 → k ≠ 107 → rf20 k j = xRF k j := fun k j a b c => by rw [hrf20, congrFun (xup_c c) j]; exact A19 k j a (by omega) c
  have Cp20 : ∀ j, rf20 107 j = if 0 ≤ j ∧ j < 2 then 108 + 6 * j else -1 := by
    intro j
    rw [hrf20]
    by_cases e : j = 1
    · subst e; rw [xup_s, if_pos (by omega)]; rfl
    · rw [xup_j e, C19 j]
      by_cases h : 0 ≤ j ∧ j < 1
      · rw [if_pos h, if_pos (by omega)]
      · rw [if_neg h, if_neg (by omega)]
  refine r_iinc hL (x := 1) (lo' := [some (xR 0), some (xI 2)]) dX7_init_113 (by decide) rfl rfl ?_
  refine r_goto hL (tgt := 95) dX7_init_116 (by decide) ?_
  show X (119) (1261) (120, xSH, rf20) νn19 95 [some (xR 0), some (xI 2)] []
  refine r_iload_n hL (x := 2) dX7_init_95 rfl ?_
  refine r_iconst hL dX7_init_96 ?_
  refine r_icmp_ge hL (tgt := 119) dX7_init_97 (by decide) (by omega) (by omega) (fun c97 => ?_) (fun c97 => ?_)
  · skip
    refine r_vret hL dX7_init_119 rfl (hK _ _ ⟨rf20, rfl, fun k j hk => by omega, fun k j h0 h1 => ?_, fun k j hk => hg20 k j (by omega), fun k j hk => hz19 k j (by omega), hB19, hu19, (fun _ => cs19), (fun h => by omega)⟩)
    by_cases e : k = 0
    · subst e
      rw [Bp20 j]
      by_cases h : 0 ≤ j ∧ j < 7
      · rw [if_pos h]
      · rw [if_neg h, show xRF 0 j = xgl [1, 6, 88, 92, 100, 102, 107] j from rfl, xgl_out (by simp only [List.length_cons, List.length_nil]; omega)]
    · by_cases e7 : k = 107
      · subst e7
        rw [Cp20 j, show xRF 107 j = xgl [108, 114] j from rfl]
        by_cases h : 0 ≤ j ∧ j < 2
        · rcases (show j = 0 ∨ j = 1 by omega) with h | h <;> subst h <;> rfl
        · rw [if_neg h, xgl_out (by simp only [List.length_cons, List.length_nil]; omega)]
      · exact Ap20 k j (by omega) (by omega) e7
  · exact absurd (by decide) c97
