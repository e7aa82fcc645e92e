set_option maxHeartbeats 4000000 in
set_option maxRecDepth 20000 in
theorem m_X7_lengthOf {K : Option xV → xW → xM → Prop} {μ : xM} (c : Int) (h0 : 0 ≤ c) (h1 : c ≤ 9223372036854775807) (hK : ∀ r, r = c / 4294967296 → K (some (xI r)) WW μ) : xMet yX7_lengthOf cX7_lengthOf 2 (some .int) 0 0 0 0 [xL c] WW μ K := by
  refine xMet.go RX7 "lengthOf" rfl rfl (by decide) [some (xL c), none] (Nat.le_of_ble_eq_true rfl) rfl (fun X hL => ?_)
  refine r_lload_n hL (x := c) dX7_lengthOf_0 rfl ?_
  refine r_bipush hL dX7_lengthOf_1 (by decide) ?_
  refine r_lushr hL dX7_lengthOf_3 ?_
  obtain ⟨z3, hz3⟩ : ∃ z, z = xlushr c 32 := ⟨_, rfl⟩
  rw [← hz3]
  have hr3 : xrl z3 := by rw [hz3]; exact xlushr_rg _ _
  refine r_l2i hL dX7_lengthOf_4 ?_
  exact r_iret hL dX7_lengthOf_5 rfl (hK _ (by rw [hz3, xl_32 h0 h1]))

set_option maxHeartbeats 4000000 in
set_option maxRecDepth 20000 in
theorem m_X7_motifOf {K : Option xV → xW → xM → Prop} {μ : xM} (c i : Int) (hK : ∀ r, r = cmot c i → 0 ≤ r ∧ r ≤ 7 → K (some (xI r)) WW μ) : xMet yX7_motifOf cX7_motifOf 3 (some .int) 0 0 0 0 [xL c, xI i] WW μ K := by
  refine xMet.go RX7 "motifOf" rfl rfl (by decide) [some (xL c), none, some (xI i)] (Nat.le_of_ble_eq_true rfl) rfl (fun X hL => ?_)
  refine r_lload_n hL (x := c) dX7_motifOf_0 rfl ?_
  refine r_iconst hL dX7_motifOf_1 ?_
  refine r_iload_n hL (x := i) dX7_motifOf_2 rfl ?_
  refine r_imul hL dX7_motifOf_3 ?_
  refine r_lushr hL dX7_motifOf_4 ?_
  obtain ⟨z4, hz4⟩ : ∃ z, z = xlushr c (3 * i) := ⟨_, rfl⟩
  rw [← hz4]
  have hr4 : xrl z4 := by rw [hz4]; exact xlushr_rg _ _
  refine r_l2i hL dX7_motifOf_5 ?_
  refine r_bipush hL dX7_motifOf_6 (by decide) ?_
  refine r_iand hL dX7_motifOf_8 ?_
  obtain ⟨z8, hz8⟩ : ∃ z, z = xand z4 7 := ⟨_, rfl⟩
  rw [← hz8]
  have hr8 : xrg z8 := by rw [hz8]; exact xand_rg _ _
  exact r_iret hL dX7_motifOf_9 rfl (hK _ (by rw [hz8, hz4]; rfl) (by rw [hz8]; exact xand_7 _))

set_option maxHeartbeats 4000000 in
set_option maxRecDepth 20000 in
theorem m_X7_longer {K : Option xV → xW → xM → Prop} {μ : xM} (c q : Int) (h0 : 0 ≤ c) (h1 : c / 4294967296 ≤ 9) (h2 : 0 ≤ q) (h3 : q ≤ 7) (hK : ∀ r, r = lgr c q → 0 ≤ r ∧ r / 4294967296 = c / 4294967296 + 1 ∧ r ≤ 47244640255 → K (some (xL r)) WW μ) : xMet yX7_longer cX7_longer 3 (some .long) 1 21 0 0 [xL c, xI q] WW μ K := by
  refine xMet.go RX7 "longer" rfl rfl (by decide) [some (xL c), none, some (xI q)] (Nat.le_of_ble_eq_true rfl) rfl (fun X hL => ?_)
  refine r_lload_n hL (x := c) dX7_longer_0 rfl ?_
  refine r_iload_n hL (x := q) dX7_longer_1 rfl ?_
  refine r_i2l hL dX7_longer_2 (by omega) ?_
  refine r_iconst hL dX7_longer_3 ?_
  refine r_lload_n hL (x := c) dX7_longer_4 rfl ?_
  refine r_callS hL (st := [xI 3, xL q, xL c]) (av := [xL c]) (m_X7_lengthOf (μ := μ) c (by omega) (by omega) (fun z5 hz5 => ⟨rfl, ?_⟩)) ce_yX7_lengthOf sm_yX7_lengthOf ml_X7_71 dX7_longer_5 rfl (Nat.le_of_ble_eq_true rfl) ⟨Nat.le_of_ble_eq_true rfl, Nat.le_of_ble_eq_true rfl⟩ ⟨Nat.le_of_ble_eq_true rfl, Nat.le_of_ble_eq_true rfl⟩
  show X 0 0 WW μ 8 [some (xL c), none, some (xI q)] [xI z5, xI 3, xL q, xL c]
  refine r_imul hL dX7_longer_8 ?_
  refine r_lshl hL dX7_longer_9 ?_
  obtain ⟨z9, hz9⟩ : ∃ z, z = xlshl q (3 * z5) := ⟨_, rfl⟩
  rw [← hz9]
  have hr9 : xrl z9 := by rw [hz9]; exact xlshl_rg _ _
  refine r_lor hL dX7_longer_10 ?_
  obtain ⟨z10, hz10⟩ : ∃ z, z = xlor c z9 := ⟨_, rfl⟩
  rw [← hz10]
  have hr10 : xrl z10 := by rw [hz10]; exact xlor_rg _ _
  refine r_ldc2 hL (n := 4294967296) dX7_longer_11 kl_X7_251 (by decide) ?_
  refine r_ladd hL dX7_longer_14 ?_
  exact r_lret hL dX7_longer_15 rfl (hK _ (by unfold lgr; rw [hz10, hz9, hz5]) (by have h := xl_longer h0 h1 h2 h3; rw [← hz5, ← hz9, ← hz10] at h; omega))

set_option maxHeartbeats 4000000 in
set_option maxRecDepth 20000 in
theorem m_X7_isPlace {K : Option xV → xW → xM → Prop} {μ : xM} (t : Int) (h : xrg t) (hK : ∀ r, (0 ≤ t ∧ t ≤ 7 ∧ r = 1) ∨ (¬ (0 ≤ t ∧ t ≤ 7) ∧ r = 0) → K (some (xI r)) WW μ) : xMet yX7_isPlace cX7_isPlace 1 (some .boolean) 0 0 0 0 [xI t] WW μ K := by
  refine xMet.go RX7 "isPlace" rfl rfl (by decide) [some (xI t)] (Nat.le_of_ble_eq_true rfl) rfl (fun X hL => ?_)
  refine r_iload_n hL (x := t) dX7_isPlace_0 rfl ?_
  refine r_if_lt hL (tgt := 14) dX7_isPlace_1 (by decide) (by omega) (fun c1 => ?_) (fun c1 => ?_)
  · skip
    refine r_iconst hL dX7_isPlace_14 ?_
    exact r_zret hL dX7_isPlace_15 rfl (by omega) (hK _ (by omega))
  · skip
    refine r_iload_n hL (x := t) dX7_isPlace_4 rfl ?_
    refine r_bipush hL dX7_isPlace_5 (by decide) ?_
    refine r_icmp_ge hL (tgt := 14) dX7_isPlace_7 (by decide) (by omega) (by omega) (fun c7 => ?_) (fun c7 => ?_)
    · skip
      refine r_iconst hL dX7_isPlace_14 ?_
      exact r_zret hL dX7_isPlace_15 rfl (by omega) (hK _ (by omega))
    · skip
      refine r_iconst hL dX7_isPlace_10 ?_
      refine r_goto hL (tgt := 15) dX7_isPlace_11 (by decide) ?_
      exact r_zret hL dX7_isPlace_15 rfl (by omega) (hK _ (by omega))

set_option maxHeartbeats 4000000 in
set_option maxRecDepth 20000 in
theorem m_X7_arePlaces {K : Option xV → xW → xM → Prop} {μ : xM} (t : Int) (h : xrg t) (hK : ∀ r, (0 ≤ t ∧ t ≤ 255 ∧ r = 1) ∨ (¬ (0 ≤ t ∧ t ≤ 255) ∧ r = 0) → K (some (xI r)) WW μ) : xMet yX7_arePlaces cX7_arePlaces 1 (some .boolean) 0 0 0 0 [xI t] WW μ K := by
  refine xMet.go RX7 "arePlaces" rfl rfl (by decide) [some (xI t)] (Nat.le_of_ble_eq_true rfl) rfl (fun X hL => ?_)
  refine r_iload_n hL (x := t) dX7_arePlaces_0 rfl ?_
  refine r_if_lt hL (tgt := 15) dX7_arePlaces_1 (by decide) (by omega) (fun c1 => ?_) (fun c1 => ?_)
  · skip
    refine r_iconst hL dX7_arePlaces_15 ?_
    exact r_zret hL dX7_arePlaces_16 rfl (by omega) (hK _ (by omega))
  · skip
    refine r_iload_n hL (x := t) dX7_arePlaces_4 rfl ?_
    refine r_sipush hL dX7_arePlaces_5 (by decide) ?_
    refine r_icmp_gt hL (tgt := 15) dX7_arePlaces_8 (by decide) (by omega) (by omega) (fun c8 => ?_) (fun c8 => ?_)
    · skip
      refine r_iconst hL dX7_arePlaces_15 ?_
      exact r_zret hL dX7_arePlaces_16 rfl (by omega) (hK _ (by omega))
    · skip
      refine r_iconst hL dX7_arePlaces_11 ?_
      refine r_goto hL (tgt := 16) dX7_arePlaces_12 (by decide) ?_
      exact r_zret hL dX7_arePlaces_16 rfl (by omega) (hK _ (by omega))

set_option maxHeartbeats 4000000 in
set_option maxRecDepth 20000 in
theorem m_J6_bitCount_0f7a4 {K : Option xV → xW → xM → Prop} {μ : xM} (x : Int) (hK : ∀ r, r = xbc x → 0 ≤ r ∧ r ≤ 63 → K (some (xI r)) WW μ) : xMet yJ6_bitCount_0f7a4 cJ6_bitCount_0f7a4 1 (some .int) 0 0 0 0 [xI x] WW μ K := by
  refine xMet.go RJ6 "bitCount" rfl rfl (by decide) [some (xI x)] (Nat.le_of_ble_eq_true rfl) rfl (fun X hL => ?_)
  refine r_iload_n hL (x := x) dJ6_bitCount_0f7a4_0 rfl ?_
  refine r_iload_n hL (x := x) dJ6_bitCount_0f7a4_1 rfl ?_
  refine r_iconst hL dJ6_bitCount_0f7a4_2 ?_
  refine r_iushr hL dJ6_bitCount_0f7a4_3 ?_
  obtain ⟨z3, hz3⟩ : ∃ z, z = xushr x 1 := ⟨_, rfl⟩
  rw [← hz3]
  have hr3 : xrg z3 := by rw [hz3]; exact xushr_rg _ _
  refine r_ldcw hL (n := 1431655765) dJ6_bitCount_0f7a4_4 kc_J6_265 (by decide) ?_
  refine r_iand hL dJ6_bitCount_0f7a4_7 ?_
  obtain ⟨z7, hz7⟩ : ∃ z, z = xand z3 1431655765 := ⟨_, rfl⟩
  rw [← hz7]
  have hr7 : xrg z7 := by rw [hz7]; exact xand_rg _ _
  refine r_isub hL dJ6_bitCount_0f7a4_8 ?_
  refine r_istore_n hL (lo' := [some (xI (x - z7))]) dJ6_bitCount_0f7a4_9 (by decide) rfl ?_
  refine r_iload_n hL (x := x - z7) dJ6_bitCount_0f7a4_10 rfl ?_
  refine r_ldcw hL (n := 858993459) dJ6_bitCount_0f7a4_11 kc_J6_266 (by decide) ?_
  refine r_iand hL dJ6_bitCount_0f7a4_14 ?_
  obtain ⟨z14, hz14⟩ : ∃ z, z = xand (x - z7) 858993459 := ⟨_, rfl⟩
  rw [← hz14]
  have hr14 : xrg z14 := by rw [hz14]; exact xand_rg _ _
  refine r_iload_n hL (x := x - z7) dJ6_bitCount_0f7a4_15 rfl ?_
  refine r_iconst hL dJ6_bitCount_0f7a4_16 ?_
  refine r_iushr hL dJ6_bitCount_0f7a4_17 ?_
  obtain ⟨z17, hz17⟩ : ∃ z, z = xushr (x - z7) 2 := ⟨_, rfl⟩
  rw [← hz17]
  have hr17 : xrg z17 := by rw [hz17]; exact xushr_rg _ _
  refine r_ldcw hL (n := 858993459) dJ6_bitCount_0f7a4_18 kc_J6_266 (by decide) ?_
  refine r_iand hL dJ6_bitCount_0f7a4_21 ?_
  obtain ⟨z21, hz21⟩ : ∃ z, z = xand z17 858993459 := ⟨_, rfl⟩
  rw [← hz21]
  have hr21 : xrg z21 := by rw [hz21]; exact xand_rg _ _
  refine r_iadd hL dJ6_bitCount_0f7a4_22 ?_
  refine r_istore_n hL (lo' := [some (xI (z14 + z21))]) dJ6_bitCount_0f7a4_23 (by decide) rfl ?_
  refine r_iload_n hL (x := z14 + z21) dJ6_bitCount_0f7a4_24 rfl ?_
  refine r_iload_n hL (x := z14 + z21) dJ6_bitCount_0f7a4_25 rfl ?_
  refine r_iconst hL dJ6_bitCount_0f7a4_26 ?_
  refine r_iushr hL dJ6_bitCount_0f7a4_27 ?_
  obtain ⟨z27, hz27⟩ : ∃ z, z = xushr (z14 + z21) 4 := ⟨_, rfl⟩
  rw [← hz27]
  have hr27 : xrg z27 := by rw [hz27]; exact xushr_rg _ _
  refine r_iadd hL dJ6_bitCount_0f7a4_28 ?_
  refine r_ldcw hL (n := 252645135) dJ6_bitCount_0f7a4_29 kc_J6_267 (by decide) ?_
  refine r_iand hL dJ6_bitCount_0f7a4_32 ?_
  obtain ⟨z32, hz32⟩ : ∃ z, z = xand ((z14 + z21) + z27) 252645135 := ⟨_, rfl⟩
  rw [← hz32]
  have hr32 : xrg z32 := by rw [hz32]; exact xand_rg _ _
  refine r_istore_n hL (lo' := [some (xI z32)]) dJ6_bitCount_0f7a4_33 (by decide) rfl ?_
  refine r_iload_n hL (x := z32) dJ6_bitCount_0f7a4_34 rfl ?_
  refine r_iload_n hL (x := z32) dJ6_bitCount_0f7a4_35 rfl ?_
  refine r_bipush hL dJ6_bitCount_0f7a4_36 (by decide) ?_
  refine r_iushr hL dJ6_bitCount_0f7a4_38 ?_
  obtain ⟨z38, hz38⟩ : ∃ z, z = xushr z32 8 := ⟨_, rfl⟩
  rw [← hz38]
  have hr38 : xrg z38 := by rw [hz38]; exact xushr_rg _ _
  refine r_iadd hL dJ6_bitCount_0f7a4_39 ?_
  refine r_istore_n hL (lo' := [some (xI (z32 + z38))]) dJ6_bitCount_0f7a4_40 (by decide) rfl ?_
  refine r_iload_n hL (x := z32 + z38) dJ6_bitCount_0f7a4_41 rfl ?_
  refine r_iload_n hL (x := z32 + z38) dJ6_bitCount_0f7a4_42 rfl ?_
  refine r_bipush hL dJ6_bitCount_0f7a4_43 (by decide) ?_
  refine r_iushr hL dJ6_bitCount_0f7a4_45 ?_
  obtain ⟨z45, hz45⟩ : ∃ z, z = xushr (z32 + z38) 16 := ⟨_, rfl⟩
  rw [← hz45]
  have hr45 : xrg z45 := by rw [hz45]; exact xushr_rg _ _
  refine r_iadd hL dJ6_bitCount_0f7a4_46 ?_
  refine r_istore_n hL (lo' := [some (xI ((z32 + z38) + z45))]) dJ6_bitCount_0f7a4_47 (by decide) rfl ?_
  refine r_iload_n hL (x := (z32 + z38) + z45) dJ6_bitCount_0f7a4_48 rfl ?_
  refine r_bipush hL dJ6_bitCount_0f7a4_49 (by decide) ?_
  refine r_iand hL dJ6_bitCount_0f7a4_51 ?_
  obtain ⟨z51, hz51⟩ : ∃ z, z = xand ((z32 + z38) + z45) 63 := ⟨_, rfl⟩
  rw [← hz51]
  have hr51 : xrg z51 := by rw [hz51]; exact xand_rg _ _
  exact r_iret hL dJ6_bitCount_0f7a4_52 rfl (hK _ (by rw [hz51, hz45, hz38, hz32, hz27, hz21, hz17, hz14, hz7, hz3]; rfl) (by rw [hz51]; exact xand_m _ 6 (by omega) (by decide)))

set_option maxHeartbeats 4000000 in
set_option maxRecDepth 20000 in
theorem m_X7_hangTogether {K : Option xV → xW → xM → Prop} {μ : xM} (t : Int) (h : xrg t) (rc : Nat) (hrk : rc < WW.1) (hrs : WW.2.1 rc = (1, 8)) (hK : ∀ r, r = hgv (μ rc) t → r = 0 ∨ r = 1 → K (some (xI r)) WW μ) : xMet yX7_hangTogether cX7_hangTogether 5 (some .boolean) 0 0 0 0 [xI t, xR rc] WW μ K := by
  refine xMet.go RX7 "hangTogether" rfl rfl (by decide) [some (xI t), some (xR rc), none, none, none] (Nat.le_of_ble_eq_true rfl) rfl (fun X hL => ?_)
  refine r_iload_n hL (x := t) dX7_hangTogether_0 rfl ?_
  refine r_iload_n hL (x := t) dX7_hangTogether_1 rfl ?_
  refine r_ineg hL dX7_hangTogether_2 ?_
  refine r_iand hL dX7_hangTogether_3 ?_
  obtain ⟨z3, hz3⟩ : ∃ z, z = xand t (-t) := ⟨_, rfl⟩
  rw [← hz3]
  have hr3 : xrg z3 := by rw [hz3]; exact xand_rg _ _
  refine r_istore_n hL (lo' := [some (xI t), some (xR rc), some (xI z3), none, none]) dX7_hangTogether_4 (by decide) rfl ?_
  refine r_iconst hL dX7_hangTogether_5 ?_
  refine r_istore_n hL (lo' := [some (xI t), some (xR rc), some (xI z3), some (xI 0), none]) dX7_hangTogether_6 (by decide) rfl ?_
  have lp7 : ∀ (n7 : Nat) (u : Int) (i : Int), (xrg u) → (0 ≤ i ∧ i ≤ 8) → (u = hgn (μ rc) t (xand t (-t)) i.toNat) → ((8 - i).toNat) < n7 → X 0 0 WW μ 7 [some (xI t), some (xR rc), some (xI u), some (xI i), none] [] := by
    intro n7
    induction n7 with
    | zero => intro u i h1 h2 h5 hn; exact absurd hn (Nat.not_lt_zero _)
    | succ n7 ih7 =>
      intro u i h1 h2 h5 hn7
      refine r_iload_n hL (x := i) dX7_hangTogether_7 rfl ?_
      refine r_bipush hL dX7_hangTogether_8 (by decide) ?_
      refine r_icmp_ge hL (tgt := 59) dX7_hangTogether_10 (by decide) (by omega) (by omega) (fun c10 => ?_) (fun c10 => ?_)
      · skip
        refine r_iload_n hL (x := u) dX7_hangTogether_59 rfl ?_
        refine r_iload_n hL (x := t) dX7_hangTogether_60 rfl ?_
        refine r_icmp_ne hL (tgt := 68) dX7_hangTogether_61 (by decide) (by omega) (by omega) (fun c61 => ?_) (fun c61 => ?_)
        · skip
          refine r_iconst hL dX7_hangTogether_68 ?_
          exact r_zret hL dX7_hangTogether_69 rfl (by omega) (hK _ (hg_end h5 h (by omega) (by omega) (by omega) (by omega)) (by omega))
        · skip
          refine r_iconst hL dX7_hangTogether_64 ?_
          refine r_goto hL (tgt := 69) dX7_hangTogether_65 (by decide) ?_
          exact r_zret hL dX7_hangTogether_69 rfl (by omega) (hK _ (hg_end h5 h (by omega) (by omega) (by omega) (by omega)) (by omega))
      · skip
        refine r_iload_n hL (x := u) dX7_hangTogether_13 rfl ?_
        refine r_iload_n hL (x := t) dX7_hangTogether_14 rfl ?_
        refine r_icmp_eq hL (tgt := 59) dX7_hangTogether_15 (by decide) (by omega) (by omega) (fun c15 => ?_) (fun c15 => ?_)
        · skip
          refine r_iload_n hL (x := u) dX7_hangTogether_59 rfl ?_
          refine r_iload_n hL (x := t) dX7_hangTogether_60 rfl ?_
          refine r_icmp_ne hL (tgt := 68) dX7_hangTogether_61 (by decide) (by omega) (by omega) (fun c61 => ?_) (fun c61 => ?_)
          · skip
            refine r_iconst hL dX7_hangTogether_68 ?_
            exact r_zret hL dX7_hangTogether_69 rfl (by omega) (hK _ (hg_end h5 h (by omega) (by omega) (by omega) (by omega)) (by omega))
          · skip
            refine r_iconst hL dX7_hangTogether_64 ?_
            refine r_goto hL (tgt := 69) dX7_hangTogether_65 (by decide) ?_
            exact r_zret hL dX7_hangTogether_69 rfl (by omega) (hK _ (hg_end h5 h (by omega) (by omega) (by omega) (by omega)) (by omega))
        · skip
          refine r_iconst hL dX7_hangTogether_18 ?_
          refine r_istore hL (lo' := [some (xI t), some (xR rc), some (xI u), some (xI i), some (xI 0)]) dX7_hangTogether_19 (by decide) rfl ?_
          have lp21 : ∀ (n21 : Nat) (w : Int) (q : Int), (xrg w) → (0 ≤ q ∧ q ≤ 8) → (w = hgi (μ rc) t u q.toNat) → ((8 - q).toNat) < n21 → X 0 0 WW μ 21 [some (xI t), some (xR rc), some (xI w), some (xI i), some (xI q)] [] := by
            intro n21
            induction n21 with
            | zero => intro w q h3 h4 h6 hn; exact absurd hn (Nat.not_lt_zero _)
            | succ n21 ih21 =>
              intro w q h3 h4 h6 hn21
              refine r_iload hL (x := q) dX7_hangTogether_21 rfl ?_
              refine r_bipush hL dX7_hangTogether_23 (by decide) ?_
              refine r_icmp_ge hL (tgt := 53) dX7_hangTogether_25 (by decide) (by omega) (by omega) (fun c25 => ?_) (fun c25 => ?_)
              · skip
                refine r_iinc hL (x := i) (lo' := [some (xI t), some (xR rc), some (xI w), some (xI (i + 1)), some (xI q)]) dX7_hangTogether_53 (by decide) rfl rfl ?_
                refine r_goto hL (tgt := 7) dX7_hangTogether_56 (by decide) ?_
                refine r_drop hL (lo' := [some (xI t), some (xR rc), some (xI w), some (xI (i + 1)), none]) [4] rfl ?_
                exact ih7 w (i + 1) (by omega) (by omega) (hgn_up h5 (by omega) h6 (by omega)) (by omega)
              · skip
                refine r_iload_n hL (x := w) dX7_hangTogether_28 rfl ?_
                refine r_iload hL (x := q) dX7_hangTogether_29 rfl ?_
                refine r_ishr hL dX7_hangTogether_31 ?_
                obtain ⟨z31, hz31⟩ : ∃ z, z = xshr w q := ⟨_, rfl⟩
                rw [← hz31]
                have hr31 : xrg z31 := by rw [hz31]; exact xshr_rg _ _
                refine r_iconst hL dX7_hangTogether_32 ?_
                refine r_iand hL dX7_hangTogether_33 ?_
                obtain ⟨z33, hz33⟩ : ∃ z, z = xand z31 1 := ⟨_, rfl⟩
                rw [← hz33]
                have hr33 : xrg z33 := by rw [hz33]; exact xand_rg _ _
                refine r_iconst hL dX7_hangTogether_34 ?_
                refine r_icmp_ne hL (tgt := 47) dX7_hangTogether_35 (by decide) (by omega) (by omega) (fun c35 => ?_) (fun c35 => ?_)
                · skip
                  refine r_iinc hL (x := q) (lo' := [some (xI t), some (xR rc), some (xI w), some (xI i), some (xI (q + 1))]) dX7_hangTogether_47 (by decide) rfl rfl ?_
                  refine r_goto hL (tgt := 21) dX7_hangTogether_50 (by decide) ?_
                  exact ih21 w (q + 1) (by omega) (by omega) (hgi_up h6 (by omega) (by first | exact Or.inl ⟨by rw [← hz31, ← hz33]; omega, by rw [hz45, hz44, hz42]⟩ | exact Or.inr ⟨by rw [← hz31, ← hz33]; omega, rfl⟩)) (by omega)
                · skip
                  refine r_iload_n hL (x := w) dX7_hangTogether_38 rfl ?_
                  refine r_aload_n hL (x := rc) dX7_hangTogether_39 rfl ?_
                  refine r_iload hL (x := q) dX7_hangTogether_40 rfl ?_
                  refine r_iald hL dX7_hangTogether_42 hrk hrs (by decide) (by omega) (by omega) (fun hr42 => ?_)
                  obtain ⟨z42, hz42⟩ : ∃ z, z = μ rc q := ⟨_, rfl⟩
                  rw [← hz42] at hr42 ⊢
                  refine r_iload_n hL (x := t) dX7_hangTogether_43 rfl ?_
                  refine r_iand hL dX7_hangTogether_44 ?_
                  obtain ⟨z44, hz44⟩ : ∃ z, z = xand z42 t := ⟨_, rfl⟩
                  rw [← hz44]
                  have hr44 : xrg z44 := by rw [hz44]; exact xand_rg _ _
                  refine r_ior hL dX7_hangTogether_45 ?_
                  obtain ⟨z45, hz45⟩ : ∃ z, z = xor' w z44 := ⟨_, rfl⟩
                  rw [← hz45]
                  have hr45 : xrg z45 := by rw [hz45]; exact xor_rg _ _
                  refine r_istore_n hL (lo' := [some (xI t), some (xR rc), some (xI z45), some (xI i), some (xI q)]) dX7_hangTogether_46 (by decide) rfl ?_
                  refine r_iinc hL (x := q) (lo' := [some (xI t), some (xR rc), some (xI z45), some (xI i), some (xI (q + 1))]) dX7_hangTogether_47 (by decide) rfl rfl ?_
                  refine r_goto hL (tgt := 21) dX7_hangTogether_50 (by decide) ?_
                  exact ih21 z45 (q + 1) (by omega) (by omega) (hgi_up h6 (by omega) (by first | exact Or.inl ⟨by rw [← hz31, ← hz33]; omega, by rw [hz45, hz44, hz42]⟩ | exact Or.inr ⟨by rw [← hz31, ← hz33]; omega, rfl⟩)) (by omega)
          exact lp21 _ u 0 (by omega) (by omega) rfl (Nat.lt_succ_self _)
  exact lp7 _ z3 0 (by omega) (by omega) (by rw [hz3]; rfl) (Nat.lt_succ_self _)

set_option maxHeartbeats 4000000 in
set_option maxRecDepth 20000 in
theorem m_X7_hull {K : Option xV → xW → xM → Prop} {μ : xM} (t : Int) (h : 0 ≤ t ∧ t ≤ 255) (rc : Nat) (hrk : rc < WW.1) (hrs : WW.2.1 rc = (1, 8)) (hK : ∀ r, r = ov (μ rc) t 256 → -1 ≤ r ∧ r ≤ 255 → K (some (xI r)) WW μ) : xMet yX7_hull cX7_hull 5 (some .int) 1 24 0 0 [xI t, xR rc] WW μ K := by
  refine xMet.go RX7 "hull" rfl rfl (by decide) [some (xI t), some (xR rc), none, none, none] (Nat.le_of_ble_eq_true rfl) rfl (fun X hL => ?_)
  refine r_iconst hL dX7_hull_0 ?_
  refine r_istore_n hL (lo' := [some (xI t), some (xR rc), some (xI (-1)), none, none]) dX7_hull_1 (by decide) rfl ?_
  refine r_iload_n hL (x := t) dX7_hull_2 rfl ?_
  refine r_istore_n hL (lo' := [some (xI t), some (xR rc), some (xI (-1)), some (xI t), none]) dX7_hull_3 (by decide) rfl ?_
  have lp4 : ∀ (n4 : Nat) (b : Int) (v : Int), (-1 ≤ b ∧ b ≤ 255) → (t ≤ v ∧ v ≤ 256) → (b = ov (μ rc) t v.toNat) → ((256 - v).toNat) < n4 → X 0 0 WW μ 4 [some (xI t), some (xR rc), some (xI b), some (xI v), none] [] := by
    intro n4
    induction n4 with
    | zero => intro b v h1 h2 h3 hn; exact absurd hn (Nat.not_lt_zero _)
    | succ n4 ih4 =>
      intro b v h1 h2 h3 hn4
      refine r_iload_n hL (x := v) dX7_hull_4 rfl ?_
      refine r_sipush hL dX7_hull_5 (by decide) ?_
      refine r_icmp_gt hL (tgt := 62) dX7_hull_8 (by decide) (by omega) (by omega) (fun c8 => ?_) (fun c8 => ?_)
      · skip
        refine r_iload_n hL (x := b) dX7_hull_62 rfl ?_
        exact r_iret hL dX7_hull_63 rfl (hK _ (by rw [h3, show v.toNat = 256 by omega]) (by omega))
      · skip
        refine r_iload_n hL (x := b) dX7_hull_11 rfl ?_
        refine r_iconst hL dX7_hull_12 ?_
        refine r_icmp_eq hL (tgt := 27) dX7_hull_13 (by decide) (by omega) (by omega) (fun c13 => ?_) (fun c13 => ?_)
        · skip
          refine r_iconst hL dX7_hull_27 ?_
          refine r_goto hL (tgt := 32) dX7_hull_28 (by decide) ?_
          refine r_istore hL (lo' := [some (xI t), some (xR rc), some (xI b), some (xI v), some (xI 1)]) dX7_hull_32 (by decide) rfl ?_
          refine r_iload_n hL (x := v) dX7_hull_34 rfl ?_
          refine r_iload_n hL (x := t) dX7_hull_35 rfl ?_
          refine r_iand hL dX7_hull_36 ?_
          obtain ⟨z36, hz36⟩ : ∃ z, z = xand v t := ⟨_, rfl⟩
          rw [← hz36]
          have hr36 : xrg z36 := by rw [hz36]; exact xand_rg _ _
          refine r_iload_n hL (x := t) dX7_hull_37 rfl ?_
          refine r_icmp_ne hL (tgt := 56) dX7_hull_38 (by decide) (by omega) (by omega) (fun c38 => ?_) (fun c38 => ?_)
          · skip
            refine r_iinc hL (x := v) (lo' := [some (xI t), some (xR rc), some (xI b), some (xI (v + 1)), some (xI 1)]) dX7_hull_56 (by decide) rfl rfl ?_
            refine r_goto hL (tgt := 4) dX7_hull_59 (by decide) ?_
            refine r_drop hL (lo' := [some (xI t), some (xR rc), some (xI b), some (xI (v + 1)), none]) [4] rfl ?_
            exact ih4 b (v + 1) (by omega) (by omega) (ov_step h3 (by omega) (by omega)) (by omega)
          · skip
            refine r_iload hL (x := 1) dX7_hull_41 rfl ?_
            refine r_if_eq hL (tgt := 56) dX7_hull_43 (by decide) (by omega) (fun c43 => ?_) (fun c43 => ?_)
            · skip
              exact absurd c43 (by decide)
            · skip
              refine r_iload_n hL (x := v) dX7_hull_46 rfl ?_
              refine r_aload_n hL (x := rc) dX7_hull_47 rfl ?_
              refine r_callS hL (st := []) (av := [xI v, xR rc]) (m_X7_hangTogether (μ := μ) v (by omega) rc hrk hrs (fun z48 hv48 hc48 => ⟨rfl, ?_⟩)) ce_yX7_hangTogether sm_yX7_hangTogether ml_X7_258 dX7_hull_48 rfl (Nat.le_of_ble_eq_true rfl) ⟨Nat.le_of_ble_eq_true rfl, Nat.le_of_ble_eq_true rfl⟩ ⟨Nat.le_of_ble_eq_true rfl, Nat.le_of_ble_eq_true rfl⟩
              show X 0 0 WW μ 51 [some (xI t), some (xR rc), some (xI b), some (xI v), some (xI 1)] [xI z48]
              refine r_if_eq hL (tgt := 56) dX7_hull_51 (by decide) (by omega) (fun c51 => ?_) (fun c51 => ?_)
              · skip
                refine r_iinc hL (x := v) (lo' := [some (xI t), some (xR rc), some (xI b), some (xI (v + 1)), some (xI 1)]) dX7_hull_56 (by decide) rfl rfl ?_
                refine r_goto hL (tgt := 4) dX7_hull_59 (by decide) ?_
                refine r_drop hL (lo' := [some (xI t), some (xR rc), some (xI b), some (xI (v + 1)), none]) [4] rfl ?_
                exact ih4 b (v + 1) (by omega) (by omega) (ov_step h3 (by omega) (by omega)) (by omega)
              · skip
                refine r_iload_n hL (x := v) dX7_hull_54 rfl ?_
                refine r_istore_n hL (lo' := [some (xI t), some (xR rc), some (xI v), some (xI v), some (xI 1)]) dX7_hull_55 (by decide) rfl ?_
                refine r_iinc hL (x := v) (lo' := [some (xI t), some (xR rc), some (xI v), some (xI (v + 1)), some (xI 1)]) dX7_hull_56 (by decide) rfl rfl ?_
                refine r_goto hL (tgt := 4) dX7_hull_59 (by decide) ?_
                refine r_drop hL (lo' := [some (xI t), some (xR rc), some (xI v), some (xI (v + 1)), none]) [4] rfl ?_
                exact ih4 v (v + 1) (by omega) (by omega) (ov_step h3 (by omega) (by omega)) (by omega)
        · skip
          refine r_iload_n hL (x := v) dX7_hull_16 rfl ?_
          refine r_callS hL (st := []) (av := [xI v]) (m_J6_bitCount_0f7a4 (μ := μ) v (fun z17 hc17_1 hc17 => ⟨rfl, ?_⟩)) ce_yJ6_bitCount_0f7a4 sm_yJ6_bitCount_0f7a4 ml_X7_253 dX7_hull_17 rfl (Nat.le_of_ble_eq_true rfl) ⟨Nat.le_of_ble_eq_true rfl, Nat.le_of_ble_eq_true rfl⟩ ⟨Nat.le_of_ble_eq_true rfl, Nat.le_of_ble_eq_true rfl⟩
          show X 0 0 WW μ 20 [some (xI t), some (xR rc), some (xI b), some (xI v), none] [xI z17]
          have hx17 := bc_onI (x := v) (by omega) (by omega)
          refine r_iload_n hL (x := b) dX7_hull_20 rfl ?_
          refine r_callS hL (st := [xI z17]) (av := [xI b]) (m_J6_bitCount_0f7a4 (μ := μ) b (fun z21 hc21_1 hc21 => ⟨rfl, ?_⟩)) ce_yJ6_bitCount_0f7a4 sm_yJ6_bitCount_0f7a4 ml_X7_253 dX7_hull_21 rfl (Nat.le_of_ble_eq_true rfl) ⟨Nat.le_of_ble_eq_true rfl, Nat.le_of_ble_eq_true rfl⟩ ⟨Nat.le_of_ble_eq_true rfl, Nat.le_of_ble_eq_true rfl⟩
          show X 0 0 WW μ 24 [some (xI t), some (xR rc), some (xI b), some (xI v), none] [xI z21, xI z17]
          have hx21 := bc_onI (x := b) (by omega) (by omega)
          refine r_icmp_ge hL (tgt := 31) dX7_hull_24 (by decide) (by omega) (by omega) (fun c24 => ?_) (fun c24 => ?_)
          · skip
            refine r_iconst hL dX7_hull_31 ?_
            refine r_istore hL (lo' := [some (xI t), some (xR rc), some (xI b), some (xI v), some (xI 0)]) dX7_hull_32 (by decide) rfl ?_
            refine r_iload_n hL (x := v) dX7_hull_34 rfl ?_
            refine r_iload_n hL (x := t) dX7_hull_35 rfl ?_
            refine r_iand hL dX7_hull_36 ?_
            obtain ⟨z36, hz36⟩ : ∃ z, z = xand v t := ⟨_, rfl⟩
            rw [← hz36]
            have hr36 : xrg z36 := by rw [hz36]; exact xand_rg _ _
            refine r_iload_n hL (x := t) dX7_hull_37 rfl ?_
            refine r_icmp_ne hL (tgt := 56) dX7_hull_38 (by decide) (by omega) (by omega) (fun c38 => ?_) (fun c38 => ?_)
            · skip
              refine r_iinc hL (x := v) (lo' := [some (xI t), some (xR rc), some (xI b), some (xI (v + 1)), some (xI 0)]) dX7_hull_56 (by decide) rfl rfl ?_
              refine r_goto hL (tgt := 4) dX7_hull_59 (by decide) ?_
              refine r_drop hL (lo' := [some (xI t), some (xR rc), some (xI b), some (xI (v + 1)), none]) [4] rfl ?_
              exact ih4 b (v + 1) (by omega) (by omega) (ov_step h3 (by omega) (by omega)) (by omega)
            · skip
              refine r_iload hL (x := 0) dX7_hull_41 rfl ?_
              refine r_if_eq hL (tgt := 56) dX7_hull_43 (by decide) (by omega) (fun c43 => ?_) (fun c43 => ?_)
              · skip
                refine r_iinc hL (x := v) (lo' := [some (xI t), some (xR rc), some (xI b), some (xI (v + 1)), some (xI 0)]) dX7_hull_56 (by decide) rfl rfl ?_
                refine r_goto hL (tgt := 4) dX7_hull_59 (by decide) ?_
                refine r_drop hL (lo' := [some (xI t), some (xR rc), some (xI b), some (xI (v + 1)), none]) [4] rfl ?_
                exact ih4 b (v + 1) (by omega) (by omega) (ov_step h3 (by omega) (by omega)) (by omega)
              · skip
                exact absurd c43 (by decide)
          · skip
            refine r_iconst hL dX7_hull_27 ?_
            refine r_goto hL (tgt := 32) dX7_hull_28 (by decide) ?_
            refine r_istore hL (lo' := [some (xI t), some (xR rc), some (xI b), some (xI v), some (xI 1)]) dX7_hull_32 (by decide) rfl ?_
            refine r_iload_n hL (x := v) dX7_hull_34 rfl ?_
            refine r_iload_n hL (x := t) dX7_hull_35 rfl ?_
            refine r_iand hL dX7_hull_36 ?_
            obtain ⟨z36, hz36⟩ : ∃ z, z = xand v t := ⟨_, rfl⟩
            rw [← hz36]
            have hr36 : xrg z36 := by rw [hz36]; exact xand_rg _ _
            refine r_iload_n hL (x := t) dX7_hull_37 rfl ?_
            refine r_icmp_ne hL (tgt := 56) dX7_hull_38 (by decide) (by omega) (by omega) (fun c38 => ?_) (fun c38 => ?_)
            · skip
              refine r_iinc hL (x := v) (lo' := [some (xI t), some (xR rc), some (xI b), some (xI (v + 1)), some (xI 1)]) dX7_hull_56 (by decide) rfl rfl ?_
              refine r_goto hL (tgt := 4) dX7_hull_59 (by decide) ?_
              refine r_drop hL (lo' := [some (xI t), some (xR rc), some (xI b), some (xI (v + 1)), none]) [4] rfl ?_
              exact ih4 b (v + 1) (by omega) (by omega) (ov_step h3 (by omega) (by omega)) (by omega)
            · skip
              refine r_iload hL (x := 1) dX7_hull_41 rfl ?_
              refine r_if_eq hL (tgt := 56) dX7_hull_43 (by decide) (by omega) (fun c43 => ?_) (fun c43 => ?_)
              · skip
                exact absurd c43 (by decide)
              · skip
                refine r_iload_n hL (x := v) dX7_hull_46 rfl ?_
                refine r_aload_n hL (x := rc) dX7_hull_47 rfl ?_
                refine r_callS hL (st := []) (av := [xI v, xR rc]) (m_X7_hangTogether (μ := μ) v (by omega) rc hrk hrs (fun z48 hv48 hc48 => ⟨rfl, ?_⟩)) ce_yX7_hangTogether sm_yX7_hangTogether ml_X7_258 dX7_hull_48 rfl (Nat.le_of_ble_eq_true rfl) ⟨Nat.le_of_ble_eq_true rfl, Nat.le_of_ble_eq_true rfl⟩ ⟨Nat.le_of_ble_eq_true rfl, Nat.le_of_ble_eq_true rfl⟩
                show X 0 0 WW μ 51 [some (xI t), some (xR rc), some (xI b), some (xI v), some (xI 1)] [xI z48]
                refine r_if_eq hL (tgt := 56) dX7_hull_51 (by decide) (by omega) (fun c51 => ?_) (fun c51 => ?_)
                · skip
                  refine r_iinc hL (x := v) (lo' := [some (xI t), some (xR rc), some (xI b), some (xI (v + 1)), some (xI 1)]) dX7_hull_56 (by decide) rfl rfl ?_
                  refine r_goto hL (tgt := 4) dX7_hull_59 (by decide) ?_
                  refine r_drop hL (lo' := [some (xI t), some (xR rc), some (xI b), some (xI (v + 1)), none]) [4] rfl ?_
                  exact ih4 b (v + 1) (by omega) (by omega) (ov_step h3 (by omega) (by omega)) (by omega)
                · skip
                  refine r_iload_n hL (x := v) dX7_hull_54 rfl ?_
                  refine r_istore_n hL (lo' := [some (xI t), some (xR rc), some (xI v), some (xI v), some (xI 1)]) dX7_hull_55 (by decide) rfl ?_
                  refine r_iinc hL (x := v) (lo' := [some (xI t), some (xR rc), some (xI v), some (xI (v + 1)), some (xI 1)]) dX7_hull_56 (by decide) rfl rfl ?_
                  refine r_goto hL (tgt := 4) dX7_hull_59 (by decide) ?_
                  refine r_drop hL (lo' := [some (xI t), some (xR rc), some (xI v), some (xI (v + 1)), none]) [4] rfl ?_
                  exact ih4 v (v + 1) (by omega) (by omega) (ov_step h3 (by omega) (by omega)) (by omega)
  exact lp4 _ (-1) t (by omega) (by omega) (ov_low h.1 h.2 _ (by omega)).symm (Nat.lt_succ_self _)

set_option maxHeartbeats 4000000 in
set_option maxRecDepth 20000 in
theorem m_X7_roadsOf {K : Option xV → xW → xM → Prop} {μ : xM} (t : Int) (h : -1 ≤ t ∧ t ≤ 255) (hK : ∀ r, r = wnd t → xrg r → K (some (xI r)) WW μ) : xMet yX7_roadsOf cX7_roadsOf 1 (some .int) 1 20 0 0 [xI t] WW μ K := by
  refine xMet.go RX7 "roadsOf" rfl rfl (by decide) [some (xI t)] (Nat.le_of_ble_eq_true rfl) rfl (fun X hL => ?_)
  refine r_iload_n hL (x := t) dX7_roadsOf_0 rfl ?_
  refine r_iconst hL dX7_roadsOf_1 ?_
  refine r_icmp_ne hL (tgt := 7) dX7_roadsOf_2 (by decide) (by omega) (by omega) (fun c2 => ?_) (fun c2 => ?_)
  · skip
    refine r_iload_n hL (x := t) dX7_roadsOf_7 rfl ?_
    refine r_if_ne hL (tgt := 15) dX7_roadsOf_8 (by decide) (by omega) (fun c8 => ?_) (fun c8 => ?_)
    · skip
      refine r_iload_n hL (x := t) dX7_roadsOf_15 rfl ?_
      refine r_callS hL (st := []) (av := [xI t]) (m_J6_bitCount_0f7a4 (μ := μ) t (fun z16 hc16_1 hc16 => ⟨rfl, ?_⟩)) ce_yJ6_bitCount_0f7a4 sm_yJ6_bitCount_0f7a4 ml_X7_253 dX7_roadsOf_16 rfl (Nat.le_of_ble_eq_true rfl) ⟨Nat.le_of_ble_eq_true rfl, Nat.le_of_ble_eq_true rfl⟩ ⟨Nat.le_of_ble_eq_true rfl, Nat.le_of_ble_eq_true rfl⟩
      show X 0 0 WW μ 19 [some (xI t)] [xI z16]
      have hx16 := bc_onI (x := t) (by omega) (by omega)
      refine r_iconst hL dX7_roadsOf_19 ?_
      refine r_isub hL dX7_roadsOf_20 ?_
      exact r_iret hL dX7_roadsOf_21 rfl (hK _ (wnd_v (by omega)) (by omega))
    · skip
      refine r_iconst hL dX7_roadsOf_11 ?_
      refine r_goto hL (tgt := 21) dX7_roadsOf_12 (by decide) ?_
      exact r_iret hL dX7_roadsOf_21 rfl (hK _ (wnd_v (by omega)) (by omega))
  · skip
    refine r_iconst hL dX7_roadsOf_5 ?_
    exact r_iret hL dX7_roadsOf_6 rfl (hK _ (wnd_v (by omega)) (by omega))

set_option maxHeartbeats 4000000 in
set_option maxRecDepth 20000 in
theorem m_X7_motifsOf {K : Option xV → xW → xM → Prop} {μ : xM} (c : Int) (h0 : 0 ≤ c) (h1 : c ≤ 47244640255) (hK : ∀ r, r = mos (cmot c) (c / 4294967296).toNat → xrg r → K (some (xI r)) WW μ) : xMet yX7_motifsOf cX7_motifsOf 4 (some .int) 1 22 0 0 [xL c] WW μ K := by
  refine xMet.go RX7 "motifsOf" rfl rfl (by decide) [some (xL c), none, none, none] (Nat.le_of_ble_eq_true rfl) rfl (fun X hL => ?_)
  refine r_iconst hL dX7_motifsOf_0 ?_
  refine r_istore_n hL (lo' := [some (xL c), none, some (xI 0), none]) dX7_motifsOf_1 (by decide) rfl ?_
  refine r_iconst hL dX7_motifsOf_2 ?_
  refine r_istore_n hL (lo' := [some (xL c), none, some (xI 0), some (xI 0)]) dX7_motifsOf_3 (by decide) rfl ?_
  have lp4 : ∀ (n4 : Nat) (u : Int) (i : Int), (xrg u) → (0 ≤ i ∧ i ≤ 10) → (u = mos (cmot c) i.toNat) → (i ≤ c / 4294967296) → ((10 - i).toNat) < n4 → X 0 0 WW μ 4 [some (xL c), none, some (xI u), some (xI i)] [] := by
    intro n4
    induction n4 with
    | zero => intro u i h2 h3 h4 h5 hn; exact absurd hn (Nat.not_lt_zero _)
    | succ n4 ih4 =>
      intro u i h2 h3 h4 h5 hn4
      refine r_iload_n hL (x := i) dX7_motifsOf_4 rfl ?_
      refine r_lload_n hL (x := c) dX7_motifsOf_5 rfl ?_
      refine r_callS hL (st := [xI i]) (av := [xL c]) (m_X7_lengthOf (μ := μ) c (by omega) (by omega) (fun z6 hz6 => ⟨rfl, ?_⟩)) ce_yX7_lengthOf sm_yX7_lengthOf ml_X7_71 dX7_motifsOf_6 rfl (Nat.le_of_ble_eq_true rfl) ⟨Nat.le_of_ble_eq_true rfl, Nat.le_of_ble_eq_true rfl⟩ ⟨Nat.le_of_ble_eq_true rfl, Nat.le_of_ble_eq_true rfl⟩
      show X 0 0 WW μ 9 [some (xL c), none, some (xI u), some (xI i)] [xI z6, xI i]
      refine r_icmp_ge hL (tgt := 34) dX7_motifsOf_9 (by decide) (by omega) (by omega) (fun c9 => ?_) (fun c9 => ?_)
      · skip
        refine r_iload_n hL (x := u) dX7_motifsOf_34 rfl ?_
        exact r_iret hL dX7_motifsOf_35 rfl (hK _ (by rw [h4, show i = c / 4294967296 by omega]) (by omega))
      · skip
        refine r_iload_n hL (x := i) dX7_motifsOf_12 rfl ?_
        refine r_bipush hL dX7_motifsOf_13 (by decide) ?_
        refine r_icmp_ge hL (tgt := 34) dX7_motifsOf_15 (by decide) (by omega) (by omega) (fun c15 => ?_) (fun c15 => ?_)
        · skip
          refine r_iload_n hL (x := u) dX7_motifsOf_34 rfl ?_
          exact r_iret hL dX7_motifsOf_35 rfl (hK _ (by rw [h4, show i = c / 4294967296 by omega]) (by omega))
        · skip
          refine r_iload_n hL (x := u) dX7_motifsOf_18 rfl ?_
          refine r_iconst hL dX7_motifsOf_19 ?_
          refine r_lload_n hL (x := c) dX7_motifsOf_20 rfl ?_
          refine r_iload_n hL (x := i) dX7_motifsOf_21 rfl ?_
          refine r_callS hL (st := [xI 1, xI u]) (av := [xL c, xI i]) (m_X7_motifOf (μ := μ) c i (fun z22 hcm22 hc22 => ⟨rfl, ?_⟩)) ce_yX7_motifOf sm_yX7_motifOf ml_X7_142 dX7_motifsOf_22 rfl (Nat.le_of_ble_eq_true rfl) ⟨Nat.le_of_ble_eq_true rfl, Nat.le_of_ble_eq_true rfl⟩ ⟨Nat.le_of_ble_eq_true rfl, Nat.le_of_ble_eq_true rfl⟩
          show X 0 0 WW μ 25 [some (xL c), none, some (xI u), some (xI i)] [xI z22, xI 1, xI u]
          refine r_ishl hL dX7_motifsOf_25 ?_
          obtain ⟨z25, hz25⟩ : ∃ z, z = xshl 1 z22 := ⟨_, rfl⟩
          rw [← hz25]
          have hr25 : xrg z25 := by rw [hz25]; exact xshl_rg _ _
          refine r_ior hL dX7_motifsOf_26 ?_
          obtain ⟨z26, hz26⟩ : ∃ z, z = xor' u z25 := ⟨_, rfl⟩
          rw [← hz26]
          have hr26 : xrg z26 := by rw [hz26]; exact xor_rg _ _
          refine r_istore_n hL (lo' := [some (xL c), none, some (xI z26), some (xI i)]) dX7_motifsOf_27 (by decide) rfl ?_
          refine r_iinc hL (x := i) (lo' := [some (xL c), none, some (xI z26), some (xI (i + 1))]) dX7_motifsOf_28 (by decide) rfl rfl ?_
          refine r_goto hL (tgt := 4) dX7_motifsOf_31 (by decide) ?_
          exact ih4 z26 (i + 1) (by omega) (by omega) (mos_up h4 (by omega) hcm22 (by rw [hz26, hz25])) (by omega) (by omega)
  exact lp4 _ 0 0 (by omega) (by omega) rfl (by omega) (Nat.lt_succ_self _)
