set_option maxHeartbeats 4000000 in
set_option maxRecDepth 20000 in
theorem m_X8_in {K : Option xV → xW → xM → Prop} {μ : xM} (v : Int) (hv : xrg v) (a : Int) (ha : xrg a) (b : Int) (hb : xrg b) (hK : ∀ r, (a ≤ v ∧ v ≤ b ∧ r = 1) ∨ (¬ (a ≤ v ∧ v ≤ b) ∧ r = 0) → K (some (xI r)) WW μ) : xMet yX8_in cX8_in 3 (some .boolean) 0 0 0 0 [xI v, xI a, xI b] WW μ K := by
  refine xMet.go RX8 "in" rfl rfl (by decide) [some (xI v), some (xI a), some (xI b)] (Nat.le_of_ble_eq_true rfl) rfl (fun X hL => ?_)
  refine r_iload_n hL (x := v) dX8_in_0 rfl ?_
  refine r_iload_n hL (x := a) dX8_in_1 rfl ?_
  refine r_icmp_lt hL (tgt := 14) dX8_in_2 (by decide) (by omega) (by omega) (fun c2 => ?_) (fun c2 => ?_)
  · skip
    refine r_iconst hL dX8_in_14 ?_
    exact r_zret hL dX8_in_15 rfl (by omega) (hK _ (by omega))
  · skip
    refine r_iload_n hL (x := v) dX8_in_5 rfl ?_
    refine r_iload_n hL (x := b) dX8_in_6 rfl ?_
    refine r_icmp_gt hL (tgt := 14) dX8_in_7 (by decide) (by omega) (by omega) (fun c7 => ?_) (fun c7 => ?_)
    · skip
      refine r_iconst hL dX8_in_14 ?_
      exact r_zret hL dX8_in_15 rfl (by omega) (hK _ (by omega))
    · skip
      refine r_iconst hL dX8_in_10 ?_
      refine r_goto hL (tgt := 15) dX8_in_11 (by decide) ?_
      exact r_zret hL dX8_in_15 rfl (by omega) (hK _ (by omega))

set_option maxHeartbeats 4000000 in
set_option maxRecDepth 20000 in
theorem m_X8_has {K : Option xV → xW → xM → Prop} {μ : xM} (v a : Int) (hK : ∀ r, r = xand (xshr v a) 1 → r = 0 ∨ r = 1 → K (some (xI r)) WW μ) : xMet yX8_has cX8_has 2 (some .boolean) 0 0 0 0 [xI v, xI a] WW μ K := by
  refine xMet.go RX8 "has" rfl rfl (by decide) [some (xI v), some (xI a)] (Nat.le_of_ble_eq_true rfl) rfl (fun X hL => ?_)
  refine r_iload_n hL (x := v) dX8_has_0 rfl ?_
  refine r_iload_n hL (x := a) dX8_has_1 rfl ?_
  refine r_ishr hL dX8_has_2 ?_
  obtain ⟨z2, hz2⟩ : ∃ z, z = xshr v a := ⟨_, rfl⟩
  rw [← hz2]
  have hr2 : xrg z2 := by rw [hz2]; exact xshr_rg _ _
  refine r_iconst hL dX8_has_3 ?_
  refine r_iand hL dX8_has_4 ?_
  obtain ⟨z4, hz4⟩ : ∃ z, z = xand z2 1 := ⟨_, rfl⟩
  rw [← hz4]
  have hr4 : xrg z4 := by rw [hz4]; exact xand_rg _ _
  refine r_iconst hL dX8_has_5 ?_
  refine r_icmp_ne hL (tgt := 13) dX8_has_6 (by decide) (by omega) (by omega) (fun c6 => ?_) (fun c6 => ?_)
  · skip
    refine r_iconst hL dX8_has_13 ?_
    exact r_zret hL dX8_has_14 rfl (by omega) (hK _ (by rw [← hz2, ← hz4]; have hq := xand_1 z2; rw [← hz4] at hq; omega) (by omega))
  · skip
    refine r_iconst hL dX8_has_9 ?_
    refine r_goto hL (tgt := 14) dX8_has_10 (by decide) ?_
    exact r_zret hL dX8_has_14 rfl (by omega) (hK _ (by rw [← hz2, ← hz4]; have hq := xand_1 z2; rw [← hz4] at hq; omega) (by omega))

set_option maxHeartbeats 4000000 in
set_option maxRecDepth 20000 in
theorem m_X8_ones {K : Option xV → xW → xM → Prop} {μ : xM} (v : Int) (hK : ∀ r, r = xonf v 8 → 0 ≤ r ∧ r ≤ 8 → K (some (xI r)) WW μ) : xMet yX8_ones cX8_ones 3 (some .int) 0 0 0 0 [xI v] WW μ K := by
  refine xMet.go RX8 "ones" rfl rfl (by decide) [some (xI v), none, none] (Nat.le_of_ble_eq_true rfl) rfl (fun X hL => ?_)
  refine r_iconst hL dX8_ones_0 ?_
  refine r_istore_n hL (lo' := [some (xI v), some (xI 0), none]) dX8_ones_1 (by decide) rfl ?_
  refine r_iconst hL dX8_ones_2 ?_
  refine r_istore_n hL (lo' := [some (xI v), some (xI 0), some (xI 0)]) dX8_ones_3 (by decide) rfl ?_
  have lp4 : ∀ (n4 : Nat) (n : Int) (i : Int), (n = xonf v i.toNat) → (0 ≤ i ∧ i ≤ 8) → ((8 - i).toNat) < n4 → X 0 0 WW μ 4 [some (xI v), some (xI n), some (xI i)] [] := by
    intro n4
    induction n4 with
    | zero => intro n i h1 h2 hn; exact absurd hn (Nat.not_lt_zero _)
    | succ n4 ih4 =>
      intro n i h1 h2 hn4
      refine r_iload_n hL (x := i) dX8_ones_4 rfl ?_
      refine r_bipush hL dX8_ones_5 (by decide) ?_
      refine r_icmp_ge hL (tgt := 24) dX8_ones_7 (by decide) (by omega) (by omega) (fun c7 => ?_) (fun c7 => ?_)
      · skip
        refine r_iload_n hL (x := n) dX8_ones_24 rfl ?_
        exact r_iret hL dX8_ones_25 rfl (hK _ (by rw [h1, show i = 8 by omega]; rfl) (by have := xonf_bd v 8; have e : n = xonf v 8 := (by rw [h1, show i = 8 by omega]; rfl); omega))
      · skip
        refine r_iload_n hL (x := n) dX8_ones_10 rfl ?_
        refine r_iload_n hL (x := v) dX8_ones_11 rfl ?_
        refine r_iload_n hL (x := i) dX8_ones_12 rfl ?_
        refine r_ishr hL dX8_ones_13 ?_
        obtain ⟨z13, hz13⟩ : ∃ z, z = xshr v i := ⟨_, rfl⟩
        rw [← hz13]
        have hr13 : xrg z13 := by rw [hz13]; exact xshr_rg _ _
        refine r_iconst hL dX8_ones_14 ?_
        refine r_iand hL dX8_ones_15 ?_
        obtain ⟨z15, hz15⟩ : ∃ z, z = xand z13 1 := ⟨_, rfl⟩
        rw [← hz15]
        have hr15 : xrg z15 := by rw [hz15]; exact xand_rg _ _
        refine r_iadd hL dX8_ones_16 ?_
        refine r_istore_n hL (lo' := [some (xI v), some (xI (n + z15)), some (xI i)]) dX8_ones_17 (by decide) rfl ?_
        refine r_iinc hL (x := i) (lo' := [some (xI v), some (xI (n + z15)), some (xI (i + 1))]) dX8_ones_18 (by decide) rfl rfl ?_
        refine r_goto hL (tgt := 4) dX8_ones_21 (by decide) ?_
        exact ih4 (n + z15) (i + 1) (by rw [show (i + 1).toNat = i.toNat + 1 by omega]; show _ = xonf v i.toNat + xand (xshr v (i.toNat : Int)) 1; rw [Int.toNat_of_nonneg h2.1, ← hz13, ← hz15, h1]) (by omega) (by omega)
  exact lp4 _ 0 0 rfl (by omega) (Nat.lt_succ_self _)

set_option maxHeartbeats 4000000 in
set_option maxRecDepth 20000 in
theorem m_X8_lesser {K : Option xV → xW → xM → Prop} {μ : xM} (a : Int) (ha : xrg a) (b : Int) (hb : xrg b) (hK : ∀ r, r = min a b → K (some (xI r)) WW μ) : xMet yX8_lesser cX8_lesser 2 (some .int) 0 0 0 0 [xI a, xI b] WW μ K := by
  refine xMet.go RX8 "lesser" rfl rfl (by decide) [some (xI a), some (xI b)] (Nat.le_of_ble_eq_true rfl) rfl (fun X hL => ?_)
  refine r_iload_n hL (x := a) dX8_lesser_0 rfl ?_
  refine r_iload_n hL (x := b) dX8_lesser_1 rfl ?_
  refine r_icmp_ge hL (tgt := 9) dX8_lesser_2 (by decide) (by omega) (by omega) (fun c2 => ?_) (fun c2 => ?_)
  · skip
    refine r_iload_n hL (x := b) dX8_lesser_9 rfl ?_
    exact r_iret hL dX8_lesser_10 rfl (hK _ (by omega))
  · skip
    refine r_iload_n hL (x := a) dX8_lesser_5 rfl ?_
    refine r_goto hL (tgt := 10) dX8_lesser_6 (by decide) ?_
    exact r_iret hL dX8_lesser_10 rfl (hK _ (by omega))

set_option maxHeartbeats 4000000 in
set_option maxRecDepth 20000 in
theorem m_X8_cellOf {K : Option xV → xW → xM → Prop} {μ : xM} (a b : Int) (hK : ∀ r, r = 11 * a + b → K (some (xI r)) WW μ) : xMet yX8_cellOf cX8_cellOf 2 (some .int) 0 0 0 0 [xI a, xI b] WW μ K := by
  refine xMet.go RX8 "cellOf" rfl rfl (by decide) [some (xI a), some (xI b)] (Nat.le_of_ble_eq_true rfl) rfl (fun X hL => ?_)
  refine r_bipush hL dX8_cellOf_0 (by decide) ?_
  refine r_iload_n hL (x := a) dX8_cellOf_2 rfl ?_
  refine r_imul hL dX8_cellOf_3 ?_
  refine r_iload_n hL (x := b) dX8_cellOf_4 rfl ?_
  refine r_iadd hL dX8_cellOf_5 ?_
  exact r_iret hL dX8_cellOf_6 rfl (hK _ rfl)

set_option maxHeartbeats 4000000 in
set_option maxRecDepth 20000 in
theorem m_X8_firstBy {K : Option xV → xW → xM → Prop} {μ : xM} (s : Int) (hs : 0 ≤ s ∧ s ≤ 3) (hK : ∀ r, r = xOF s → 0 ≤ r ∧ r ≤ 2 → K (some (xI r)) WW μ) : xMet yX8_firstBy cX8_firstBy 1 (some .int) 0 0 0 0 [xI s] WW μ K := by
  refine xMet.go RX8 "firstBy" rfl rfl (by decide) [some (xI s)] (Nat.le_of_ble_eq_true rfl) rfl (fun X hL => ?_)
  have hv := xOF_v s
  refine r_iload_n hL (x := s) dX8_firstBy_0 rfl ?_
  refine r_iconst hL dX8_firstBy_1 ?_
  refine r_icmp_ne hL (tgt := 9) dX8_firstBy_2 (by decide) (by omega) (by omega) (fun c2 => ?_) (fun c2 => ?_)
  · skip
    refine r_iload_n hL (x := s) dX8_firstBy_9 rfl ?_
    refine r_iconst hL dX8_firstBy_10 ?_
    refine r_icmp_ne hL (tgt := 18) dX8_firstBy_11 (by decide) (by omega) (by omega) (fun c11 => ?_) (fun c11 => ?_)
    · skip
      refine r_iconst hL dX8_firstBy_18 ?_
      exact r_iret hL dX8_firstBy_19 rfl (hK _ (by omega) (by omega))
    · skip
      refine r_iconst hL dX8_firstBy_14 ?_
      refine r_goto hL (tgt := 19) dX8_firstBy_15 (by decide) ?_
      exact r_iret hL dX8_firstBy_19 rfl (hK _ (by omega) (by omega))
  · skip
    refine r_iconst hL dX8_firstBy_5 ?_
    refine r_goto hL (tgt := 19) dX8_firstBy_6 (by decide) ?_
    exact r_iret hL dX8_firstBy_19 rfl (hK _ (by omega) (by omega))

set_option maxHeartbeats 4000000 in
set_option maxRecDepth 20000 in
theorem m_X8_otherBy {K : Option xV → xW → xM → Prop} {μ : xM} (s : Int) (hs : 0 ≤ s ∧ s ≤ 3) (hK : ∀ r, r = xOO s → 0 ≤ r ∧ r ≤ 2 → K (some (xI r)) WW μ) : xMet yX8_otherBy cX8_otherBy 1 (some .int) 0 0 0 0 [xI s] WW μ K := by
  refine xMet.go RX8 "otherBy" rfl rfl (by decide) [some (xI s)] (Nat.le_of_ble_eq_true rfl) rfl (fun X hL => ?_)
  have hv := xOO_v s
  refine r_iload_n hL (x := s) dX8_otherBy_0 rfl ?_
  refine r_iconst hL dX8_otherBy_1 ?_
  refine r_icmp_ne hL (tgt := 9) dX8_otherBy_2 (by decide) (by omega) (by omega) (fun c2 => ?_) (fun c2 => ?_)
  · skip
    refine r_iload_n hL (x := s) dX8_otherBy_9 rfl ?_
    refine r_iconst hL dX8_otherBy_10 ?_
    refine r_icmp_ne hL (tgt := 18) dX8_otherBy_11 (by decide) (by omega) (by omega) (fun c11 => ?_) (fun c11 => ?_)
    · skip
      refine r_iconst hL dX8_otherBy_18 ?_
      exact r_iret hL dX8_otherBy_19 rfl (hK _ (by omega) (by omega))
    · skip
      refine r_iconst hL dX8_otherBy_14 ?_
      refine r_goto hL (tgt := 19) dX8_otherBy_15 (by decide) ?_
      exact r_iret hL dX8_otherBy_19 rfl (hK _ (by omega) (by omega))
  · skip
    refine r_iconst hL dX8_otherBy_5 ?_
    refine r_goto hL (tgt := 19) dX8_otherBy_6 (by decide) ?_
    exact r_iret hL dX8_otherBy_19 rfl (hK _ (by omega) (by omega))

set_option maxHeartbeats 4000000 in
set_option maxRecDepth 20000 in
theorem m_X8_isTale {K : Option xV → xW → xM → Prop} {μ : xM} (hB0 : BI μ) (t : Int) (ht : xrg t) (hK : ∀ r, (0 ≤ t ∧ t < μ 121 0 ∧ t ≤ 7 ∧ r = 1) ∨ (¬ (0 ≤ t ∧ t < μ 121 0) ∧ r = 0) → K (some (xI r)) WW μ) : xMet yX8_isTale cX8_isTale 2 (some .boolean) 1 22 0 0 [xR 120, xI t] WW μ K := by
  refine xMet.go RX8 "isTale" rfl rfl (by decide) [some (xR 120), some (xI t)] (Nat.le_of_ble_eq_true rfl) rfl (fun X hL => ?_)
  have hB := hB0
  refine r_iload_n hL (x := t) dX8_isTale_0 rfl ?_
  refine r_iconst hL dX8_isTale_1 ?_
  refine r_aload_n hL (x := 120) dX8_isTale_2 rfl ?_
  refine r_getr hL xcl8 0 (by decide) s_120 (by decide) fl_X8_7 (by decide) f_120_0 dX8_isTale_3 ?_
  refine r_iconst hL dX8_isTale_6 ?_
  refine r_iald hL dX8_isTale_7 (by decide) s_121 (by decide) (by omega) (by omega) (fun hr7 => ?_)
  obtain ⟨z7, hz7⟩ : ∃ z, z = μ 121 0 := ⟨_, rfl⟩
  rw [← hz7] at hr7 ⊢
  have hb7 : 0 ≤ μ 121 0 ∧ μ 121 0 ≤ 8 := (show ((0 : Int) = 0 → 0 ≤ (μ 121 0) ∧ (μ 121 0) ≤ 8) ∧ ((0 : Int) = 1 → 0 ≤ (μ 121 0) ∧ (μ 121 0) ≤ 2) ∧ (2 ≤ (0 : Int) ∧ (0 : Int) ≤ 5 → 0 ≤ (μ 121 0) ∧ (μ 121 0) ≤ 9) ∧ (6 ≤ (0 : Int) ∧ (0 : Int) ≤ 13 → 0 ≤ (μ 121 0) ∧ (μ 121 0) ≤ 10) ∧ (30 ≤ (0 : Int) → 0 ≤ (μ 121 0) ∧ (μ 121 0) ≤ 7) from hB 121 0).1 (by omega)
  refine r_iconst hL dX8_isTale_8 ?_
  refine r_isub hL dX8_isTale_9 ?_
  refine r_callS hL (st := []) (av := [xI t, xI 0, xI (z7 - 1)]) (m_X8_in (μ := μ) t (by omega) 0 (by omega) (z7 - 1) (by omega) (fun z10 hc10 => ⟨rfl, ?_⟩)) ce_yX8_in sm_yX8_in ml_X8_62 dX8_isTale_10 rfl (Nat.le_of_ble_eq_true rfl) ⟨Nat.le_of_ble_eq_true rfl, Nat.le_of_ble_eq_true rfl⟩ ⟨Nat.le_of_ble_eq_true rfl, Nat.le_of_ble_eq_true rfl⟩
  show X 0 0 WW μ 13 [some (xR 120), some (xI t)] [xI z10]
  exact r_zret hL dX8_isTale_13 rfl (by omega) (hK _ (by omega))

set_option maxHeartbeats 4000000 in
set_option maxRecDepth 20000 in
theorem m_X8_areTales {K : Option xV → xW → xM → Prop} {μ : xM} (hB0 : BI μ) (t : Int) (ht : xrg t) (hK : ∀ r, (r = 1 ∧ (0 ≤ t ∧ t ≤ xshl 1 (μ 121 0) - 1)) ∨ (r = 0 ∧ ¬ (0 ≤ t ∧ t ≤ xshl 1 (μ 121 0) - 1)) → K (some (xI r)) WW μ) : xMet yX8_areTales cX8_areTales 2 (some .boolean) 1 22 0 0 [xR 120, xI t] WW μ K := by
  refine xMet.go RX8 "areTales" rfl rfl (by decide) [some (xR 120), some (xI t)] (Nat.le_of_ble_eq_true rfl) rfl (fun X hL => ?_)
  have hB := hB0
  refine r_iload_n hL (x := t) dX8_areTales_0 rfl ?_
  refine r_iconst hL dX8_areTales_1 ?_
  refine r_iconst hL dX8_areTales_2 ?_
  refine r_aload_n hL (x := 120) dX8_areTales_3 rfl ?_
  refine r_getr hL xcl8 0 (by decide) s_120 (by decide) fl_X8_7 (by decide) f_120_0 dX8_areTales_4 ?_
  refine r_iconst hL dX8_areTales_7 ?_
  refine r_iald hL dX8_areTales_8 (by decide) s_121 (by decide) (by omega) (by omega) (fun hr8 => ?_)
  obtain ⟨z8, hz8⟩ : ∃ z, z = μ 121 0 := ⟨_, rfl⟩
  rw [← hz8] at hr8 ⊢
  have hb8 : 0 ≤ μ 121 0 ∧ μ 121 0 ≤ 8 := (show ((0 : Int) = 0 → 0 ≤ (μ 121 0) ∧ (μ 121 0) ≤ 8) ∧ ((0 : Int) = 1 → 0 ≤ (μ 121 0) ∧ (μ 121 0) ≤ 2) ∧ (2 ≤ (0 : Int) ∧ (0 : Int) ≤ 5 → 0 ≤ (μ 121 0) ∧ (μ 121 0) ≤ 9) ∧ (6 ≤ (0 : Int) ∧ (0 : Int) ≤ 13 → 0 ≤ (μ 121 0) ∧ (μ 121 0) ≤ 10) ∧ (30 ≤ (0 : Int) → 0 ≤ (μ 121 0) ∧ (μ 121 0) ≤ 7) from hB 121 0).1 (by omega)
  refine r_ishl hL dX8_areTales_9 ?_
  obtain ⟨z9, hz9⟩ : ∃ z, z = xshl 1 z8 := ⟨_, rfl⟩
  rw [← hz9]
  have hr9 : xrg z9 := by rw [hz9]; exact xshl_rg _ _
  have hs9 : 1 ≤ z9 ∧ z9 ≤ 256 := by rw [hz9]; exact xsh_bd (by omega) (by omega)
  have hq9 : z9 = xshl 1 (μ 121 0) := by rw [hz9, hz8]
  refine r_iconst hL dX8_areTales_10 ?_
  refine r_isub hL dX8_areTales_11 ?_
  refine r_callS hL (st := []) (av := [xI t, xI 0, xI (z9 - 1)]) (m_X8_in (μ := μ) t (by omega) 0 (by omega) (z9 - 1) (by omega) (fun z12 hc12 => ⟨rfl, ?_⟩)) ce_yX8_in sm_yX8_in ml_X8_62 dX8_areTales_12 rfl (Nat.le_of_ble_eq_true rfl) ⟨Nat.le_of_ble_eq_true rfl, Nat.le_of_ble_eq_true rfl⟩ ⟨Nat.le_of_ble_eq_true rfl, Nat.le_of_ble_eq_true rfl⟩
  show X 0 0 WW μ 15 [some (xR 120), some (xI t)] [xI z12]
  exact r_zret hL dX8_areTales_15 rfl (by omega) (hK _ (by omega))

set_option maxHeartbeats 4000000 in
set_option maxRecDepth 20000 in
theorem m_X8_isPlace {K : Option xV → xW → xM → Prop} {μ : xM} (t : Int) (h : xrg t) (hK : ∀ r, (0 ≤ t ∧ t ≤ 7 ∧ r = 1) ∨ (¬ (0 ≤ t ∧ t ≤ 7) ∧ r = 0) → K (some (xI r)) WW μ) : xMet yX8_isPlace cX8_isPlace 1 (some .boolean) 1 22 0 0 [xI t] WW μ K := by
  refine xMet.go RX8 "isPlace" rfl rfl (by decide) [some (xI t)] (Nat.le_of_ble_eq_true rfl) rfl (fun X hL => ?_)
  refine r_iload_n hL (x := t) dX8_isPlace_0 rfl ?_
  refine r_iconst hL dX8_isPlace_1 ?_
  refine r_bipush hL dX8_isPlace_2 (by decide) ?_
  refine r_callS hL (st := []) (av := [xI t, xI 0, xI 7]) (m_X8_in (μ := μ) t (by omega) 0 (by omega) 7 (by omega) (fun z4 hc4 => ⟨rfl, ?_⟩)) ce_yX8_in sm_yX8_in ml_X8_62 dX8_isPlace_4 rfl (Nat.le_of_ble_eq_true rfl) ⟨Nat.le_of_ble_eq_true rfl, Nat.le_of_ble_eq_true rfl⟩ ⟨Nat.le_of_ble_eq_true rfl, Nat.le_of_ble_eq_true rfl⟩
  show X 0 0 WW μ 7 [some (xI t)] [xI z4]
  exact r_zret hL dX8_isPlace_7 rfl (by omega) (hK _ (by omega))

set_option maxHeartbeats 4000000 in
set_option maxRecDepth 20000 in
theorem m_X8_nodesMany {K : Option xV → xW → xM → Prop} {μ : xM} (hB0 : BI μ)  (hK : ∀ r, 0 ≤ r ∧ r ≤ 7 → (0 < μ 121 0 → r = μ 121 0 - 1) → (μ 121 0 = 0 → r = 0) → K (some (xI r)) WW μ) : xMet yX8_nodesMany cX8_nodesMany 1 (some .int) 0 0 0 0 [xR 120] WW μ K := by
  refine xMet.go RX8 "nodesMany" rfl rfl (by decide) [some (xR 120)] (Nat.le_of_ble_eq_true rfl) rfl (fun X hL => ?_)
  have hB := hB0
  refine r_aload_n hL (x := 120) dX8_nodesMany_0 rfl ?_
  refine r_getr hL xcl8 0 (by decide) s_120 (by decide) fl_X8_7 (by decide) f_120_0 dX8_nodesMany_1 ?_
  refine r_iconst hL dX8_nodesMany_4 ?_
  refine r_iald hL dX8_nodesMany_5 (by decide) s_121 (by decide) (by omega) (by omega) (fun hr5 => ?_)
  obtain ⟨z5, hz5⟩ : ∃ z, z = μ 121 0 := ⟨_, rfl⟩
  rw [← hz5] at hr5 ⊢
  have hb5 : 0 ≤ μ 121 0 ∧ μ 121 0 ≤ 8 := (show ((0 : Int) = 0 → 0 ≤ (μ 121 0) ∧ (μ 121 0) ≤ 8) ∧ ((0 : Int) = 1 → 0 ≤ (μ 121 0) ∧ (μ 121 0) ≤ 2) ∧ (2 ≤ (0 : Int) ∧ (0 : Int) ≤ 5 → 0 ≤ (μ 121 0) ∧ (μ 121 0) ≤ 9) ∧ (6 ≤ (0 : Int) ∧ (0 : Int) ≤ 13 → 0 ≤ (μ 121 0) ∧ (μ 121 0) ≤ 10) ∧ (30 ≤ (0 : Int) → 0 ≤ (μ 121 0) ∧ (μ 121 0) ≤ 7) from hB 121 0).1 (by omega)
  refine r_if_le hL (tgt := 20) dX8_nodesMany_6 (by decide) (by omega) (fun c6 => ?_) (fun c6 => ?_)
  · skip
    refine r_iconst hL dX8_nodesMany_20 ?_
    exact r_iret hL dX8_nodesMany_21 rfl (hK _ (by omega) (by omega) (by omega))
  · skip
    refine r_aload_n hL (x := 120) dX8_nodesMany_9 rfl ?_
    refine r_getr hL xcl8 0 (by decide) s_120 (by decide) fl_X8_7 (by decide) f_120_0 dX8_nodesMany_10 ?_
    refine r_iconst hL dX8_nodesMany_13 ?_
    refine r_iald hL dX8_nodesMany_14 (by decide) s_121 (by decide) (by omega) (by omega) (fun hr14 => ?_)
    obtain ⟨z14, hz14⟩ : ∃ z, z = μ 121 0 := ⟨_, rfl⟩
    rw [← hz14] at hr14 ⊢
    have hb14 : 0 ≤ μ 121 0 ∧ μ 121 0 ≤ 8 := (show ((0 : Int) = 0 → 0 ≤ (μ 121 0) ∧ (μ 121 0) ≤ 8) ∧ ((0 : Int) = 1 → 0 ≤ (μ 121 0) ∧ (μ 121 0) ≤ 2) ∧ (2 ≤ (0 : Int) ∧ (0 : Int) ≤ 5 → 0 ≤ (μ 121 0) ∧ (μ 121 0) ≤ 9) ∧ (6 ≤ (0 : Int) ∧ (0 : Int) ≤ 13 → 0 ≤ (μ 121 0) ∧ (μ 121 0) ≤ 10) ∧ (30 ≤ (0 : Int) → 0 ≤ (μ 121 0) ∧ (μ 121 0) ≤ 7) from hB 121 0).1 (by omega)
    refine r_iconst hL dX8_nodesMany_15 ?_
    refine r_isub hL dX8_nodesMany_16 ?_
    refine r_goto hL (tgt := 21) dX8_nodesMany_17 (by decide) ?_
    exact r_iret hL dX8_nodesMany_21 rfl (hK _ (by omega) (by omega) (by omega))

set_option maxHeartbeats 4000000 in
set_option maxRecDepth 20000 in
theorem m_X8_bring {K : Option xV → xW → xM → Prop} {μ : xM} (f lf : Nat) (h_fk : f < WW.1) (h_fs : WW.2.1 f = (1, lf)) (h_fl : lf ≤ 10000) (i : Int) (t lt : Nat) (h_tk : t < WW.1) (h_ts : WW.2.1 t = (1, lt)) (h_tl : lt ≤ 10000) (j n : Int) (hn : xrg n) (hr : 0 ≤ i ∧ 0 ≤ j ∧ (0 < n → i + n ≤ lf ∧ j + n ≤ lt)) (hft : f = t → j ≤ i) (hK : ∀ μ', μ' = xbr μ f i t j n → K none WW μ') : xMet yX8_bring cX8_bring 6 none 0 0 0 0 [xR f, xI i, xR t, xI j, xI n] WW μ K := by
  refine xMet.go RX8 "bring" rfl rfl (by decide) [some (xR f), some (xI i), some (xR t), some (xI j), some (xI n), none] (Nat.le_of_ble_eq_true rfl) rfl (fun X hL => ?_)
  refine r_iconst hL dX8_bring_0 ?_
  refine r_istore hL (lo' := [some (xR f), some (xI i), some (xR t), some (xI j), some (xI n), some (xI 0)]) dX8_bring_1 (by decide) rfl ?_
  have lp3 : ∀ (n3 : Nat) (k : Int) (μ103 : xM), (μ103 = xbr μ f i t j k) → (0 ≤ k ∧ (k ≤ n ∨ k = 0)) → ((n - k).toNat) < n3 → X 0 0 WW μ103 3 [some (xR f), some (xI i), some (xR t), some (xI j), some (xI n), some (xI k)] [] := by
    intro n3
    induction n3 with
    | zero => intro k μ103 h1 h2 hn; exact absurd hn (Nat.not_lt_zero _)
    | succ n3 ih3 =>
      intro k μ103 h1 h2 hn3
      refine r_iload hL (x := k) dX8_bring_3 rfl ?_
      refine r_iload hL (x := n) dX8_bring_5 rfl ?_
      refine r_icmp_ge hL (tgt := 28) dX8_bring_7 (by decide) (by omega) (by omega) (fun c7 => ?_) (fun c7 => ?_)
      · skip
        exact r_vret hL dX8_bring_28 rfl (hK _ (by rw [h1]; exact xbr_eq (by omega)))
      · skip
        refine r_aload_n hL (x := t) dX8_bring_10 rfl ?_
        refine r_iload_n hL (x := j) dX8_bring_11 rfl ?_
        refine r_iload hL (x := k) dX8_bring_12 rfl ?_
        refine r_iadd hL dX8_bring_14 ?_
        refine r_aload_n hL (x := f) dX8_bring_15 rfl ?_
        refine r_iload_n hL (x := i) dX8_bring_16 rfl ?_
        refine r_iload hL (x := k) dX8_bring_17 rfl ?_
        refine r_iadd hL dX8_bring_19 ?_
        refine r_iald hL dX8_bring_20 h_fk h_fs (by omega) (by omega) (by omega) (fun hr20 => ?_)
        obtain ⟨z20, hz20⟩ : ∃ z, z = μ103 f (i + k) := ⟨_, rfl⟩
        rw [← hz20] at hr20 ⊢
        refine r_iast hL dX8_bring_21 h_tk h_ts (by omega) (by omega) (by omega) (by omega) (fun μ1 hm1 => ?_)
        refine r_iinc hL (x := k) (lo' := [some (xR f), some (xI i), some (xR t), some (xI j), some (xI n), some (xI (k + 1))]) dX8_bring_22 (by decide) rfl rfl ?_
        refine r_goto hL (tgt := 3) dX8_bring_25 (by decide) ?_
        exact ih3 (k + 1) μ1 (by rw [hm1, hz20, h1]; exact xbr_step hft h2.1) (by omega) (by omega)
  exact lp3 _ 0 μ (xbr_0 (Int.le_refl 0)).symm (by omega) (Nat.lt_succ_self _)

set_option maxHeartbeats 4000000 in
set_option maxRecDepth 20000 in
theorem m_X8_notes {K : Option xV → xW → xM → Prop} {μ : xM} (hB0 : BI μ)  (hK : ∀ μ', BI μ' → mNt μ μ' → K none WW μ') : xMet yX8_notes cX8_notes 1 none 1 25 0 0 [xR 120] WW μ K := by
  refine xMet.go RX8 "notes" rfl rfl (by decide) [some (xR 120)] (Nat.le_of_ble_eq_true rfl) rfl (fun X hL => ?_)
  have hB := hB0
  have hF : Fr NT μ μ := Fr.rf
  refine r_aload_n hL (x := 120) dX8_notes_0 rfl ?_
  refine r_geti hL xcl8 2 (j' := 2) rfl (by decide) s_120 (by decide) fl_X8_161 (by decide) (by decide) dX8_notes_1 (fun hr1 => ?_)
  obtain ⟨z1, hz1⟩ : ∃ z, z = μ 120 2 := ⟨_, rfl⟩
  rw [← hz1] at hr1 ⊢
  have hb1 : 0 ≤ μ 120 2 ∧ μ 120 2 ≤ 16 := (show ((2 : Int) = 2 → 0 ≤ (μ 120 2) ∧ (μ 120 2) ≤ 16) ∧ ((2 : Int) = 6 → 0 ≤ (μ 120 2) ∧ (μ 120 2) ≤ 10) ∧ ((2 : Int) = 8 → 0 ≤ (μ 120 2) ∧ (μ 120 2) ≤ 20) ∧ ((2 : Int) = 9 → 0 ≤ (μ 120 2) ∧ (μ 120 2) ≤ 2147483647) ∧ ((2 : Int) = 11 → 0 ≤ (μ 120 2) ∧ (μ 120 2) ≤ 10) ∧ ((2 : Int) = 13 → 0 ≤ (μ 120 2) ∧ (μ 120 2) ≤ 10) ∧ ((2 : Int) = 20 → 0 ≤ (μ 120 2) ∧ (μ 120 2) ≤ 8) from hB 120 2).1 (by omega)
  refine r_bipush hL dX8_notes_4 (by decide) ?_
  refine r_icmp_ne hL (tgt := 36) dX8_notes_6 (by decide) (by omega) (by omega) (fun c6 => ?_) (fun c6 => ?_)
  · skip
    have hd36 : μ 120 2 = min (μ 120 2) 15 := by omega
    have hp36 : ∀ j, 0 ≤ j → j < 110 * (μ 120 2) → μ 122 j = μ 122 (j + 110 * (μ 120 2 - μ 120 2)) := fun j j0 j1 => by first | (rw [show μ 120 2 - μ 120 2 = 0 by omega]; simp; done) | (rw [hm2, congrFun (xup_c (by decide)) j, hm23c, show j + 110 * (μ 120 2 - (xup (xbr μ 122 110 122 0 1650) 120 2 (z28 - 1)) 120 2) = 110 + (j - 0) by rw [xup_s]; omega]; exact if_pos ⟨rfl, by omega, by omega⟩)
    have hs36 : ∀ j, μ 121 j = μ 121 j := fun j => by first | rfl | (rw [hm2, congrFun (xup_c (by decide)) j, hm23c]; exact congrFun (xbr_c (by decide)) j)
    refine r_aload_n hL (x := 120) dX8_notes_36 rfl ?_
    refine r_getr hL xcl8 0 (by decide) s_120 (by decide) fl_X8_7 (by decide) f_120_0 dX8_notes_37 ?_
    refine r_iconst hL dX8_notes_40 ?_
    refine r_aload_n hL (x := 120) dX8_notes_41 rfl ?_
    refine r_getr hL xcl8 1 (by decide) s_120 (by decide) fl_X8_13 (by decide) f_120_1 dX8_notes_42 ?_
    refine r_bipush hL dX8_notes_45 (by decide) ?_
    refine r_aload_n hL (x := 120) dX8_notes_47 rfl ?_
    refine r_geti hL xcl8 2 (j' := 2) rfl (by decide) s_120 (by decide) fl_X8_161 (by decide) (by decide) dX8_notes_48 (fun hr48 => ?_)
    obtain ⟨z48, hz48⟩ : ∃ z, z = μ 120 2 := ⟨_, rfl⟩
    rw [← hz48] at hr48 ⊢
    have hb48 : 0 ≤ μ 120 2 ∧ μ 120 2 ≤ 16 := (show ((2 : Int) = 2 → 0 ≤ (μ 120 2) ∧ (μ 120 2) ≤ 16) ∧ ((2 : Int) = 6 → 0 ≤ (μ 120 2) ∧ (μ 120 2) ≤ 10) ∧ ((2 : Int) = 8 → 0 ≤ (μ 120 2) ∧ (μ 120 2) ≤ 20) ∧ ((2 : Int) = 9 → 0 ≤ (μ 120 2) ∧ (μ 120 2) ≤ 2147483647) ∧ ((2 : Int) = 11 → 0 ≤ (μ 120 2) ∧ (μ 120 2) ≤ 10) ∧ ((2 : Int) = 13 → 0 ≤ (μ 120 2) ∧ (μ 120 2) ≤ 10) ∧ ((2 : Int) = 20 → 0 ≤ (μ 120 2) ∧ (μ 120 2) ≤ 8) from hB 120 2).1 (by omega)
    refine r_imul hL dX8_notes_51 ?_
    refine r_bipush hL dX8_notes_52 (by decide) ?_
    refine r_callS hL (st := []) (av := [xR 121, xI 0, xR 122, xI (110 * z48), xI 110]) (m_X8_bring (μ := μ) 121 110 (by decide) s_121 (by decide) 0 122 1760 (by decide) s_122 (by decide) (110 * z48) 110 (by omega) (by omega) (fun h => absurd h (by decide)) (fun μ54c hm54c => ⟨rfl, ?_⟩)) ce_yX8_bring sm_yX8_bring ml_X8_73 dX8_notes_54 rfl (Nat.le_of_ble_eq_true rfl) ⟨Nat.le_of_ble_eq_true rfl, Nat.le_of_ble_eq_true rfl⟩ ⟨Nat.le_of_ble_eq_true rfl, Nat.le_of_ble_eq_true rfl⟩
    show X 0 0 WW μ54c 57 [some (xR 120)] []
    have hB54c : BI μ54c := by rw [hm54c]; exact hB.br (fun k hk0 hk1 => by have hq : ((0 + k) = 0 → 0 ≤ (μ 121 (0 + k)) ∧ (μ 121 (0 + k)) ≤ 8) ∧ ((0 + k) = 1 → 0 ≤ (μ 121 (0 + k)) ∧ (μ 121 (0 + k)) ≤ 2) ∧ (2 ≤ (0 + k) ∧ (0 + k) ≤ 5 → 0 ≤ (μ 121 (0 + k)) ∧ (μ 121 (0 + k)) ≤ 9) ∧ (6 ≤ (0 + k) ∧ (0 + k) ≤ 13 → 0 ≤ (μ 121 (0 + k)) ∧ (μ 121 (0 + k)) ≤ 10) ∧ (30 ≤ (0 + k) → 0 ≤ (μ 121 (0 + k)) ∧ (μ 121 (0 + k)) ≤ 7) := hB 121 _; show (((110 * z48) + k) % 110 = 0 → 0 ≤ (μ 121 (0 + k)) ∧ (μ 121 (0 + k)) ≤ 8) ∧ (((110 * z48) + k) % 110 = 1 → 0 ≤ (μ 121 (0 + k)) ∧ (μ 121 (0 + k)) ≤ 2) ∧ (2 ≤ ((110 * z48) + k) % 110 ∧ ((110 * z48) + k) % 110 ≤ 5 → 0 ≤ (μ 121 (0 + k)) ∧ (μ 121 (0 + k)) ≤ 9) ∧ (6 ≤ ((110 * z48) + k) % 110 ∧ ((110 * z48) + k) % 110 ≤ 13 → 0 ≤ (μ 121 (0 + k)) ∧ (μ 121 (0 + k)) ≤ 10) ∧ (30 ≤ ((110 * z48) + k) % 110 → 0 ≤ (μ 121 (0 + k)) ∧ (μ 121 (0 + k)) ≤ 7); rw [show ((110 * z48) + k) % 110 = 0 + k by omega]; exact hq)
    have hF54c : Fr NT μ μ54c := by rw [hm54c]; exact hF.br (fun b _ _ => by unfold NT; omega)
    have hk54c_120_2 : μ54c 120 2 = μ 120 2 := by rw [hm54c]; exact congrFun (xbr_c (by decide)) _
    have hN3 : ∀ j, 0 ≤ j → j < 110 → μ54c 122 (110 * z48 + j) = μ 121 j := fun j j0 j1 => by rw [hm54c]; exact (if_pos ⟨rfl, by omega, by omega⟩).trans ((congrArg _ (show (0 : Int) + (110 * z48 + j - 110 * z48) = j by omega)).trans (hs36 j))
    have hN4 : ∀ j, 0 ≤ j → j < 110 * z48 → μ54c 122 j = μ 122 (j + 110 * (μ 120 2 - z48)) := fun j j0 j1 => by rw [hm54c, xbr_j (by omega)]; rw [hz48] at j1 ⊢; exact hp36 j j0 j1
    refine r_aload_n hL (x := 120) dX8_notes_57 rfl ?_
    refine r_dup hL dX8_notes_58 rfl ?_
    refine r_geti hL xcl8 2 (j' := 2) rfl (by decide) s_120 (by decide) fl_X8_161 (by decide) (by decide) dX8_notes_59 (fun hr59 => ?_)
    obtain ⟨z59, hz59⟩ : ∃ z, z = μ54c 120 2 := ⟨_, rfl⟩
    rw [← hz59] at hr59 ⊢
    have hb59 : 0 ≤ μ54c 120 2 ∧ μ54c 120 2 ≤ 16 := (show ((2 : Int) = 2 → 0 ≤ (μ54c 120 2) ∧ (μ54c 120 2) ≤ 16) ∧ ((2 : Int) = 6 → 0 ≤ (μ54c 120 2) ∧ (μ54c 120 2) ≤ 10) ∧ ((2 : Int) = 8 → 0 ≤ (μ54c 120 2) ∧ (μ54c 120 2) ≤ 20) ∧ ((2 : Int) = 9 → 0 ≤ (μ54c 120 2) ∧ (μ54c 120 2) ≤ 2147483647) ∧ ((2 : Int) = 11 → 0 ≤ (μ54c 120 2) ∧ (μ54c 120 2) ≤ 10) ∧ ((2 : Int) = 13 → 0 ≤ (μ54c 120 2) ∧ (μ54c 120 2) ≤ 10) ∧ ((2 : Int) = 20 → 0 ≤ (μ54c 120 2) ∧ (μ54c 120 2) ≤ 8) from hB54c 120 2).1 (by omega)
    refine r_iconst hL dX8_notes_62 ?_
    refine r_iadd hL dX8_notes_63 ?_
    refine r_puti hL xcl8 2 (j' := 2) rfl (by decide) s_120 (by decide) fl_X8_161 rfl rfl (by omega) dX8_notes_64 (fun μ1 hm1 => ?_)
    have hB1 : BI μ1 := by rw [hm1]; exact hB54c.up (by show ((2 : Int) = 2 → 0 ≤ (z59 + 1) ∧ (z59 + 1) ≤ 16) ∧ ((2 : Int) = 6 → 0 ≤ (z59 + 1) ∧ (z59 + 1) ≤ 10) ∧ ((2 : Int) = 8 → 0 ≤ (z59 + 1) ∧ (z59 + 1) ≤ 20) ∧ ((2 : Int) = 9 → 0 ≤ (z59 + 1) ∧ (z59 + 1) ≤ 2147483647) ∧ ((2 : Int) = 11 → 0 ≤ (z59 + 1) ∧ (z59 + 1) ≤ 10) ∧ ((2 : Int) = 13 → 0 ≤ (z59 + 1) ∧ (z59 + 1) ≤ 10) ∧ ((2 : Int) = 20 → 0 ≤ (z59 + 1) ∧ (z59 + 1) ≤ 8); omega)
    have hF1 : Fr NT μ μ1 := by rw [hm1]; exact hF54c.up (by unfold NT; omega)
    have hk1_120_2 : μ1 120 2 = z59 + 1 := by rw [hm1]; exact xup_s _ _ _ _
    have hN2 : ∀ j, μ1 122 j = μ54c 122 j := fun j => by rw [hm1]; exact congrFun (xup_c (by decide)) j
    exact r_vret hL dX8_notes_67 rfl (hK _ hB1 ⟨hF1, by omega, fun j j0 j1 => by rw [hN2, show μ1 120 2 - 1 = z48 by omega]; exact hN3 j j0 j1, fun j j0 j1 => by rw [hN2]; have e : μ1 120 2 = z48 + 1 := (by omega); rw [e] at j1 ⊢; rw [show μ 120 2 + 1 - (z48 + 1) = μ 120 2 - z48 by omega]; exact hN4 j j0 (by omega)⟩)
  · skip
    refine r_aload_n hL (x := 120) dX8_notes_9 rfl ?_
    refine r_getr hL xcl8 1 (by decide) s_120 (by decide) fl_X8_13 (by decide) f_120_1 dX8_notes_10 ?_
    refine r_bipush hL dX8_notes_13 (by decide) ?_
    refine r_aload_n hL (x := 120) dX8_notes_15 rfl ?_
    refine r_getr hL xcl8 1 (by decide) s_120 (by decide) fl_X8_13 (by decide) f_120_1 dX8_notes_16 ?_
    refine r_iconst hL dX8_notes_19 ?_
    refine r_sipush hL dX8_notes_20 (by decide) ?_
    refine r_callS hL (st := []) (av := [xR 122, xI 110, xR 122, xI 0, xI 1650]) (m_X8_bring (μ := μ) 122 1760 (by decide) s_122 (by decide) 110 122 1760 (by decide) s_122 (by decide) 0 1650 (by omega) (by omega) (fun _ => by omega) (fun μ23c hm23c => ⟨rfl, ?_⟩)) ce_yX8_bring sm_yX8_bring ml_X8_73 dX8_notes_23 rfl (Nat.le_of_ble_eq_true rfl) ⟨Nat.le_of_ble_eq_true rfl, Nat.le_of_ble_eq_true rfl⟩ ⟨Nat.le_of_ble_eq_true rfl, Nat.le_of_ble_eq_true rfl⟩
    show X 0 0 WW μ23c 26 [some (xR 120)] []
    have hB23c : BI μ23c := by rw [hm23c]; exact hB.br (fun k hk0 hk1 => by have hq : ((110 + k) % 110 = 0 → 0 ≤ (μ 122 (110 + k)) ∧ (μ 122 (110 + k)) ≤ 8) ∧ ((110 + k) % 110 = 1 → 0 ≤ (μ 122 (110 + k)) ∧ (μ 122 (110 + k)) ≤ 2) ∧ (2 ≤ (110 + k) % 110 ∧ (110 + k) % 110 ≤ 5 → 0 ≤ (μ 122 (110 + k)) ∧ (μ 122 (110 + k)) ≤ 9) ∧ (6 ≤ (110 + k) % 110 ∧ (110 + k) % 110 ≤ 13 → 0 ≤ (μ 122 (110 + k)) ∧ (μ 122 (110 + k)) ≤ 10) ∧ (30 ≤ (110 + k) % 110 → 0 ≤ (μ 122 (110 + k)) ∧ (μ 122 (110 + k)) ≤ 7) := hB 122 _; show ((0 + k) % 110 = 0 → 0 ≤ (μ 122 (110 + k)) ∧ (μ 122 (110 + k)) ≤ 8) ∧ ((0 + k) % 110 = 1 → 0 ≤ (μ 122 (110 + k)) ∧ (μ 122 (110 + k)) ≤ 2) ∧ (2 ≤ (0 + k) % 110 ∧ (0 + k) % 110 ≤ 5 → 0 ≤ (μ 122 (110 + k)) ∧ (μ 122 (110 + k)) ≤ 9) ∧ (6 ≤ (0 + k) % 110 ∧ (0 + k) % 110 ≤ 13 → 0 ≤ (μ 122 (110 + k)) ∧ (μ 122 (110 + k)) ≤ 10) ∧ (30 ≤ (0 + k) % 110 → 0 ≤ (μ 122 (110 + k)) ∧ (μ 122 (110 + k)) ≤ 7); rw [show (110 + k) % 110 = (0 + k) % 110 by omega] at hq; exact hq)
    have hF23c : Fr NT μ μ23c := by rw [hm23c]; exact hF.br (fun b _ _ => by unfold NT; omega)
    have hk23c_120_2 : μ23c 120 2 = μ 120 2 := by rw [hm23c]; exact congrFun (xbr_c (by decide)) _
    refine r_aload_n hL (x := 120) dX8_notes_26 rfl ?_
    refine r_dup hL dX8_notes_27 rfl ?_
    refine r_geti hL xcl8 2 (j' := 2) rfl (by decide) s_120 (by decide) fl_X8_161 (by decide) (by decide) dX8_notes_28 (fun hr28 => ?_)
    obtain ⟨z28, hz28⟩ : ∃ z, z = μ23c 120 2 := ⟨_, rfl⟩
    rw [← hz28] at hr28 ⊢
    have hb28 : 0 ≤ μ23c 120 2 ∧ μ23c 120 2 ≤ 16 := (show ((2 : Int) = 2 → 0 ≤ (μ23c 120 2) ∧ (μ23c 120 2) ≤ 16) ∧ ((2 : Int) = 6 → 0 ≤ (μ23c 120 2) ∧ (μ23c 120 2) ≤ 10) ∧ ((2 : Int) = 8 → 0 ≤ (μ23c 120 2) ∧ (μ23c 120 2) ≤ 20) ∧ ((2 : Int) = 9 → 0 ≤ (μ23c 120 2) ∧ (μ23c 120 2) ≤ 2147483647) ∧ ((2 : Int) = 11 → 0 ≤ (μ23c 120 2) ∧ (μ23c 120 2) ≤ 10) ∧ ((2 : Int) = 13 → 0 ≤ (μ23c 120 2) ∧ (μ23c 120 2) ≤ 10) ∧ ((2 : Int) = 20 → 0 ≤ (μ23c 120 2) ∧ (μ23c 120 2) ≤ 8) from hB23c 120 2).1 (by omega)
    refine r_iconst hL dX8_notes_31 ?_
    refine r_isub hL dX8_notes_32 ?_
    refine r_puti hL xcl8 2 (j' := 2) rfl (by decide) s_120 (by decide) fl_X8_161 rfl rfl (by omega) dX8_notes_33 (fun μ2 hm2 => ?_)
    have hB2 : BI μ2 := by rw [hm2]; exact hB23c.up (by show ((2 : Int) = 2 → 0 ≤ (z28 - 1) ∧ (z28 - 1) ≤ 16) ∧ ((2 : Int) = 6 → 0 ≤ (z28 - 1) ∧ (z28 - 1) ≤ 10) ∧ ((2 : Int) = 8 → 0 ≤ (z28 - 1) ∧ (z28 - 1) ≤ 20) ∧ ((2 : Int) = 9 → 0 ≤ (z28 - 1) ∧ (z28 - 1) ≤ 2147483647) ∧ ((2 : Int) = 11 → 0 ≤ (z28 - 1) ∧ (z28 - 1) ≤ 10) ∧ ((2 : Int) = 13 → 0 ≤ (z28 - 1) ∧ (z28 - 1) ≤ 10) ∧ ((2 : Int) = 20 → 0 ≤ (z28 - 1) ∧ (z28 - 1) ≤ 8); omega)
    have hF2 : Fr NT μ μ2 := by rw [hm2]; exact hF23c.up (by unfold NT; omega)
    have hk2_120_2 : μ2 120 2 = z28 - 1 := by rw [hm2]; exact xup_s _ _ _ _
    have hd36 : μ2 120 2 = min (μ 120 2) 15 := by omega
    have hp36 : ∀ j, 0 ≤ j → j < 110 * (μ2 120 2) → μ2 122 j = μ 122 (j + 110 * (μ 120 2 - μ2 120 2)) := fun j j0 j1 => by first | (rw [show μ 120 2 - μ2 120 2 = 0 by omega]; simp; done) | (rw [hm2, congrFun (xup_c (by decide)) j, hm23c, show j + 110 * (μ 120 2 - (xup (xbr μ 122 110 122 0 1650) 120 2 (z28 - 1)) 120 2) = 110 + (j - 0) by rw [xup_s]; omega]; exact if_pos ⟨rfl, by omega, by omega⟩)
    have hs36 : ∀ j, μ2 121 j = μ 121 j := fun j => by first | rfl | (rw [hm2, congrFun (xup_c (by decide)) j, hm23c]; exact congrFun (xbr_c (by decide)) j)
    refine r_aload_n hL (x := 120) dX8_notes_36 rfl ?_
    refine r_getr hL xcl8 0 (by decide) s_120 (by decide) fl_X8_7 (by decide) f_120_0 dX8_notes_37 ?_
    refine r_iconst hL dX8_notes_40 ?_
    refine r_aload_n hL (x := 120) dX8_notes_41 rfl ?_
    refine r_getr hL xcl8 1 (by decide) s_120 (by decide) fl_X8_13 (by decide) f_120_1 dX8_notes_42 ?_
    refine r_bipush hL dX8_notes_45 (by decide) ?_
    refine r_aload_n hL (x := 120) dX8_notes_47 rfl ?_
    refine r_geti hL xcl8 2 (j' := 2) rfl (by decide) s_120 (by decide) fl_X8_161 (by decide) (by decide) dX8_notes_48 (fun hr48 => ?_)
    obtain ⟨z48, hz48⟩ : ∃ z, z = μ2 120 2 := ⟨_, rfl⟩
    rw [← hz48] at hr48 ⊢
    have hb48 : 0 ≤ μ2 120 2 ∧ μ2 120 2 ≤ 16 := (show ((2 : Int) = 2 → 0 ≤ (μ2 120 2) ∧ (μ2 120 2) ≤ 16) ∧ ((2 : Int) = 6 → 0 ≤ (μ2 120 2) ∧ (μ2 120 2) ≤ 10) ∧ ((2 : Int) = 8 → 0 ≤ (μ2 120 2) ∧ (μ2 120 2) ≤ 20) ∧ ((2 : Int) = 9 → 0 ≤ (μ2 120 2) ∧ (μ2 120 2) ≤ 2147483647) ∧ ((2 : Int) = 11 → 0 ≤ (μ2 120 2) ∧ (μ2 120 2) ≤ 10) ∧ ((2 : Int) = 13 → 0 ≤ (μ2 120 2) ∧ (μ2 120 2) ≤ 10) ∧ ((2 : Int) = 20 → 0 ≤ (μ2 120 2) ∧ (μ2 120 2) ≤ 8) from hB2 120 2).1 (by omega)
    refine r_imul hL dX8_notes_51 ?_
    refine r_bipush hL dX8_notes_52 (by decide) ?_
    refine r_callS hL (st := []) (av := [xR 121, xI 0, xR 122, xI (110 * z48), xI 110]) (m_X8_bring (μ := μ2) 121 110 (by decide) s_121 (by decide) 0 122 1760 (by decide) s_122 (by decide) (110 * z48) 110 (by omega) (by omega) (fun h => absurd h (by decide)) (fun μ54c hm54c => ⟨rfl, ?_⟩)) ce_yX8_bring sm_yX8_bring ml_X8_73 dX8_notes_54 rfl (Nat.le_of_ble_eq_true rfl) ⟨Nat.le_of_ble_eq_true rfl, Nat.le_of_ble_eq_true rfl⟩ ⟨Nat.le_of_ble_eq_true rfl, Nat.le_of_ble_eq_true rfl⟩
    show X 0 0 WW μ54c 57 [some (xR 120)] []
    have hB54c : BI μ54c := by rw [hm54c]; exact hB2.br (fun k hk0 hk1 => by have hq : ((0 + k) = 0 → 0 ≤ (μ2 121 (0 + k)) ∧ (μ2 121 (0 + k)) ≤ 8) ∧ ((0 + k) = 1 → 0 ≤ (μ2 121 (0 + k)) ∧ (μ2 121 (0 + k)) ≤ 2) ∧ (2 ≤ (0 + k) ∧ (0 + k) ≤ 5 → 0 ≤ (μ2 121 (0 + k)) ∧ (μ2 121 (0 + k)) ≤ 9) ∧ (6 ≤ (0 + k) ∧ (0 + k) ≤ 13 → 0 ≤ (μ2 121 (0 + k)) ∧ (μ2 121 (0 + k)) ≤ 10) ∧ (30 ≤ (0 + k) → 0 ≤ (μ2 121 (0 + k)) ∧ (μ2 121 (0 + k)) ≤ 7) := hB2 121 _; show (((110 * z48) + k) % 110 = 0 → 0 ≤ (μ2 121 (0 + k)) ∧ (μ2 121 (0 + k)) ≤ 8) ∧ (((110 * z48) + k) % 110 = 1 → 0 ≤ (μ2 121 (0 + k)) ∧ (μ2 121 (0 + k)) ≤ 2) ∧ (2 ≤ ((110 * z48) + k) % 110 ∧ ((110 * z48) + k) % 110 ≤ 5 → 0 ≤ (μ2 121 (0 + k)) ∧ (μ2 121 (0 + k)) ≤ 9) ∧ (6 ≤ ((110 * z48) + k) % 110 ∧ ((110 * z48) + k) % 110 ≤ 13 → 0 ≤ (μ2 121 (0 + k)) ∧ (μ2 121 (0 + k)) ≤ 10) ∧ (30 ≤ ((110 * z48) + k) % 110 → 0 ≤ (μ2 121 (0 + k)) ∧ (μ2 121 (0 + k)) ≤ 7); rw [show ((110 * z48) + k) % 110 = 0 + k by omega]; exact hq)
    have hF54c : Fr NT μ μ54c := by rw [hm54c]; exact hF2.br (fun b _ _ => by unfold NT; omega)
    have hk54c_120_2 : μ54c 120 2 = μ2 120 2 := by rw [hm54c]; exact congrFun (xbr_c (by decide)) _
    have hN3 : ∀ j, 0 ≤ j → j < 110 → μ54c 122 (110 * z48 + j) = μ 121 j := fun j j0 j1 => by rw [hm54c]; exact (if_pos ⟨rfl, by omega, by omega⟩).trans ((congrArg _ (show (0 : Int) + (110 * z48 + j - 110 * z48) = j by omega)).trans (hs36 j))
    have hN4 : ∀ j, 0 ≤ j → j < 110 * z48 → μ54c 122 j = μ 122 (j + 110 * (μ 120 2 - z48)) := fun j j0 j1 => by rw [hm54c, xbr_j (by omega)]; rw [hz48] at j1 ⊢; exact hp36 j j0 j1
    refine r_aload_n hL (x := 120) dX8_notes_57 rfl ?_
    refine r_dup hL dX8_notes_58 rfl ?_
    refine r_geti hL xcl8 2 (j' := 2) rfl (by decide) s_120 (by decide) fl_X8_161 (by decide) (by decide) dX8_notes_59 (fun hr59 => ?_)
    obtain ⟨z59, hz59⟩ : ∃ z, z = μ54c 120 2 := ⟨_, rfl⟩
    rw [← hz59] at hr59 ⊢
    have hb59 : 0 ≤ μ54c 120 2 ∧ μ54c 120 2 ≤ 16 := (show ((2 : Int) = 2 → 0 ≤ (μ54c 120 2) ∧ (μ54c 120 2) ≤ 16) ∧ ((2 : Int) = 6 → 0 ≤ (μ54c 120 2) ∧ (μ54c 120 2) ≤ 10) ∧ ((2 : Int) = 8 → 0 ≤ (μ54c 120 2) ∧ (μ54c 120 2) ≤ 20) ∧ ((2 : Int) = 9 → 0 ≤ (μ54c 120 2) ∧ (μ54c 120 2) ≤ 2147483647) ∧ ((2 : Int) = 11 → 0 ≤ (μ54c 120 2) ∧ (μ54c 120 2) ≤ 10) ∧ ((2 : Int) = 13 → 0 ≤ (μ54c 120 2) ∧ (μ54c 120 2) ≤ 10) ∧ ((2 : Int) = 20 → 0 ≤ (μ54c 120 2) ∧ (μ54c 120 2) ≤ 8) from hB54c 120 2).1 (by omega)
    refine r_iconst hL dX8_notes_62 ?_
    refine r_iadd hL dX8_notes_63 ?_
    refine r_puti hL xcl8 2 (j' := 2) rfl (by decide) s_120 (by decide) fl_X8_161 rfl rfl (by omega) dX8_notes_64 (fun μ3 hm3 => ?_)
    have hB3 : BI μ3 := by rw [hm3]; exact hB54c.up (by show ((2 : Int) = 2 → 0 ≤ (z59 + 1) ∧ (z59 + 1) ≤ 16) ∧ ((2 : Int) = 6 → 0 ≤ (z59 + 1) ∧ (z59 + 1) ≤ 10) ∧ ((2 : Int) = 8 → 0 ≤ (z59 + 1) ∧ (z59 + 1) ≤ 20) ∧ ((2 : Int) = 9 → 0 ≤ (z59 + 1) ∧ (z59 + 1) ≤ 2147483647) ∧ ((2 : Int) = 11 → 0 ≤ (z59 + 1) ∧ (z59 + 1) ≤ 10) ∧ ((2 : Int) = 13 → 0 ≤ (z59 + 1) ∧ (z59 + 1) ≤ 10) ∧ ((2 : Int) = 20 → 0 ≤ (z59 + 1) ∧ (z59 + 1) ≤ 8); omega)
    have hF3 : Fr NT μ μ3 := by rw [hm3]; exact hF54c.up (by unfold NT; omega)
    have hk3_120_2 : μ3 120 2 = z59 + 1 := by rw [hm3]; exact xup_s _ _ _ _
    have hN2 : ∀ j, μ3 122 j = μ54c 122 j := fun j => by rw [hm3]; exact congrFun (xup_c (by decide)) j
    exact r_vret hL dX8_notes_67 rfl (hK _ hB3 ⟨hF3, by omega, fun j j0 j1 => by rw [hN2, show μ3 120 2 - 1 = z48 by omega]; exact hN3 j j0 j1, fun j j0 j1 => by rw [hN2]; have e : μ3 120 2 = z48 + 1 := (by omega); rw [e] at j1 ⊢; rw [show μ 120 2 + 1 - (z48 + 1) = μ 120 2 - z48 by omega]; exact hN4 j j0 (by omega)⟩)

set_option maxHeartbeats 4000000 in
set_option maxRecDepth 20000 in
theorem m_X8_draw {K : Option xV → xW → xM → Prop} {μ : xM} (hB0 : BI μ) (n : Int) (hn : 1 ≤ n ∧ n ≤ 1000) (hK : ∀ r μ', BI μ' → μ' = xup μ 120 9 (sd (μ 120 9)) → r = sd (μ 120 9) / 65536 % n → 0 ≤ r ∧ r < n → K (some (xI r)) WW μ') : xMet yX8_draw cX8_draw 4 (some .int) 0 0 0 0 [xR 120, xI n] WW μ K := by
  refine xMet.go RX8 "draw" rfl rfl (by decide) [some (xR 120), some (xI n), none, none] (Nat.le_of_ble_eq_true rfl) rfl (fun X hL => ?_)
  have hB := hB0
  refine r_aload_n hL (x := 120) dX8_draw_0 rfl ?_
  refine r_geti hL xcl8 9 (j' := 9) rfl (by decide) s_120 (by decide) fl_X8_205 (by decide) (by decide) dX8_draw_1 (fun hr1 => ?_)
  obtain ⟨z1, hz1⟩ : ∃ z, z = μ 120 9 := ⟨_, rfl⟩
  rw [← hz1] at hr1 ⊢
  have hb1 : 0 ≤ μ 120 9 ∧ μ 120 9 ≤ 2147483647 := (show ((9 : Int) = 2 → 0 ≤ (μ 120 9) ∧ (μ 120 9) ≤ 16) ∧ ((9 : Int) = 6 → 0 ≤ (μ 120 9) ∧ (μ 120 9) ≤ 10) ∧ ((9 : Int) = 8 → 0 ≤ (μ 120 9) ∧ (μ 120 9) ≤ 20) ∧ ((9 : Int) = 9 → 0 ≤ (μ 120 9) ∧ (μ 120 9) ≤ 2147483647) ∧ ((9 : Int) = 11 → 0 ≤ (μ 120 9) ∧ (μ 120 9) ≤ 10) ∧ ((9 : Int) = 13 → 0 ≤ (μ 120 9) ∧ (μ 120 9) ≤ 10) ∧ ((9 : Int) = 20 → 0 ≤ (μ 120 9) ∧ (μ 120 9) ≤ 8) from hB 120 9).2.2.2.1 (by omega)
  refine r_i2l hL dX8_draw_4 (by omega) ?_
  refine r_ldc2 hL (n := 1103515245) dX8_draw_5 kl_X8_208 (by decide) ?_
  refine r_lmul hL dX8_draw_8 ?_
  refine r_ldc2 hL (n := 12345) dX8_draw_9 kl_X8_210 (by decide) ?_
  refine r_ladd hL dX8_draw_12 ?_
  refine r_ldc2 hL (n := 2147483648) dX8_draw_13 kl_X8_212 (by decide) ?_
  refine r_lrem hL dX8_draw_16 (by omega) (by omega) ?_
  obtain ⟨z16, hz16⟩ : ∃ z, z = xlrem ((z1 * 1103515245) + 12345) 2147483648 := ⟨_, rfl⟩
  rw [← hz16]
  have hr16 : xrl z16 := by rw [hz16]; exact xlrem_rg _ _
  have hq16 : z16 = ((z1 * 1103515245) + 12345) % 2147483648 := by rw [hz16]; exact xlrem_nn (by omega) (by omega) (by omega) (by omega)
  have hl16 : z16 = sd (μ 120 9) := by rw [hq16, hz1]; rfl
  refine r_lstore_n hL (lo' := [some (xR 120), some (xI n), some (xL z16), none]) dX8_draw_17 (by decide) rfl ?_
  refine r_aload_n hL (x := 120) dX8_draw_18 rfl ?_
  refine r_lload_n hL (x := z16) dX8_draw_19 rfl ?_
  refine r_l2i hL dX8_draw_20 ?_
  refine r_puti hL xcl8 9 (j' := 9) rfl (by decide) s_120 (by decide) fl_X8_205 rfl rfl (by omega) dX8_draw_21 (fun μ1 hm1 => ?_)
  have hB1 : BI μ1 := by rw [hm1]; exact hB.up (by show ((9 : Int) = 2 → 0 ≤ z16 ∧ z16 ≤ 16) ∧ ((9 : Int) = 6 → 0 ≤ z16 ∧ z16 ≤ 10) ∧ ((9 : Int) = 8 → 0 ≤ z16 ∧ z16 ≤ 20) ∧ ((9 : Int) = 9 → 0 ≤ z16 ∧ z16 ≤ 2147483647) ∧ ((9 : Int) = 11 → 0 ≤ z16 ∧ z16 ≤ 10) ∧ ((9 : Int) = 13 → 0 ≤ z16 ∧ z16 ≤ 10) ∧ ((9 : Int) = 20 → 0 ≤ z16 ∧ z16 ≤ 8); omega)
  have hk1_120_9 : μ1 120 9 = z16 := by rw [hm1]; exact xup_s _ _ _ _
  refine r_aload_n hL (x := 120) dX8_draw_24 rfl ?_
  refine r_geti hL xcl8 9 (j' := 9) rfl (by decide) s_120 (by decide) fl_X8_205 (by decide) (by decide) dX8_draw_25 (fun hr25 => ?_)
  obtain ⟨z25, hz25⟩ : ∃ z, z = μ1 120 9 := ⟨_, rfl⟩
  rw [← hz25] at hr25 ⊢
  have hb25 : 0 ≤ μ1 120 9 ∧ μ1 120 9 ≤ 2147483647 := (show ((9 : Int) = 2 → 0 ≤ (μ1 120 9) ∧ (μ1 120 9) ≤ 16) ∧ ((9 : Int) = 6 → 0 ≤ (μ1 120 9) ∧ (μ1 120 9) ≤ 10) ∧ ((9 : Int) = 8 → 0 ≤ (μ1 120 9) ∧ (μ1 120 9) ≤ 20) ∧ ((9 : Int) = 9 → 0 ≤ (μ1 120 9) ∧ (μ1 120 9) ≤ 2147483647) ∧ ((9 : Int) = 11 → 0 ≤ (μ1 120 9) ∧ (μ1 120 9) ≤ 10) ∧ ((9 : Int) = 13 → 0 ≤ (μ1 120 9) ∧ (μ1 120 9) ≤ 10) ∧ ((9 : Int) = 20 → 0 ≤ (μ1 120 9) ∧ (μ1 120 9) ≤ 8) from hB1 120 9).2.2.2.1 (by omega)
  refine r_ldc hL (n := 65536) dX8_draw_28 kc_X8_214 (by decide) ?_
  refine r_idiv hL dX8_draw_30 (by omega) (by omega) ?_
  obtain ⟨z30, hz30⟩ : ∃ z, z = xdiv z25 65536 := ⟨_, rfl⟩
  rw [← hz30]
  have hr30 : xrg z30 := by rw [hz30]; exact xdiv_rg _ _
  have hq30 := xdiv_nn (x := z25) (y := 65536) (by omega) (by omega) (by omega) (by omega)
  rw [← hz30] at hq30
  refine r_iload_n hL (x := n) dX8_draw_31 rfl ?_
  refine r_irem hL dX8_draw_32 (by omega) (by omega) ?_
  obtain ⟨z32, hz32⟩ : ∃ z, z = xrem z30 n := ⟨_, rfl⟩
  rw [← hz32]
  have hr32 : xrg z32 := by rw [hz32]; exact xrem_rg _ _
  have hq32 := xrem_nn (x := z30) (y := n) (by omega) (by omega) (by omega) (by omega)
  rw [← hz32] at hq32
  have he1 := Int.emod_nonneg z30 (show n ≠ 0 by omega)
  have he2 := Int.emod_lt_of_pos z30 (show 0 < n by omega)
  exact r_iret hL dX8_draw_33 rfl (hK _ _ hB1 (by rw [hm1, hl16]) (by rw [hq32, hq30, show z25 = sd (μ 120 9) by omega]) (by omega))

set_option maxHeartbeats 4000000 in
set_option maxRecDepth 20000 in
theorem m_X8_hangs {K : Option xV → xW → xM → Prop} {μ : xM} (s : Int) (hs : xrg s) (hK : ∀ r, r = hgv (fun p => μ 121 (22 + p)) s → r = 0 ∨ r = 1 → K (some (xI r)) WW μ) : xMet yX8_hangs cX8_hangs 5 (some .boolean) 1 21 0 0 [xR 120, xI s] WW μ K := by
  refine xMet.go RX8 "hangs" rfl rfl (by decide) [some (xR 120), some (xI s), none, none, none] (Nat.le_of_ble_eq_true rfl) rfl (fun X hL => ?_)
  refine r_iload_n hL (x := s) dX8_hangs_0 rfl ?_
  refine r_iload_n hL (x := s) dX8_hangs_1 rfl ?_
  refine r_ineg hL dX8_hangs_2 ?_
  refine r_iand hL dX8_hangs_3 ?_
  obtain ⟨z3, hz3⟩ : ∃ z, z = xand s (-s) := ⟨_, rfl⟩
  rw [← hz3]
  have hr3 : xrg z3 := by rw [hz3]; exact xand_rg _ _
  refine r_istore_n hL (lo' := [some (xR 120), some (xI s), some (xI z3), none, none]) dX8_hangs_4 (by decide) rfl ?_
  refine r_iconst hL dX8_hangs_5 ?_
  refine r_istore_n hL (lo' := [some (xR 120), some (xI s), some (xI z3), some (xI 0), none]) dX8_hangs_6 (by decide) rfl ?_
  have lp7 : ∀ (n7 : Nat) (c : Int) (k : Int), (xrg c) → (0 ≤ k ∧ k ≤ 8) → (c = hgn (fun p => μ 121 (22 + p)) s (xand s (-s)) k.toNat) → ((8 - k).toNat) < n7 → X 0 0 WW μ 7 [some (xR 120), some (xI s), some (xI c), some (xI k), none] [] := by
    intro n7
    induction n7 with
    | zero => intro c k h1 h2 h5 hn; exact absurd hn (Nat.not_lt_zero _)
    | succ n7 ih7 =>
      intro c k h1 h2 h5 hn7
      refine r_iload_n hL (x := k) dX8_hangs_7 rfl ?_
      refine r_bipush hL dX8_hangs_8 (by decide) ?_
      refine r_icmp_ge hL (tgt := 63) dX8_hangs_10 (by decide) (by omega) (by omega) (fun c10 => ?_) (fun c10 => ?_)
      · skip
        refine r_iload_n hL (x := c) dX8_hangs_63 rfl ?_
        refine r_iload_n hL (x := s) dX8_hangs_64 rfl ?_
        refine r_icmp_ne hL (tgt := 72) dX8_hangs_65 (by decide) (by omega) (by omega) (fun c65 => ?_) (fun c65 => ?_)
        · skip
          refine r_iconst hL dX8_hangs_72 ?_
          exact r_zret hL dX8_hangs_73 rfl (by omega) (hK _ (hg_end h5 hs (by omega) (by omega) (by omega) (by omega)) (by omega))
        · skip
          refine r_iconst hL dX8_hangs_68 ?_
          refine r_goto hL (tgt := 73) dX8_hangs_69 (by decide) ?_
          exact r_zret hL dX8_hangs_73 rfl (by omega) (hK _ (hg_end h5 hs (by omega) (by omega) (by omega) (by omega)) (by omega))
      · skip
        refine r_iconst hL dX8_hangs_13 ?_
        refine r_istore hL (lo' := [some (xR 120), some (xI s), some (xI c), some (xI k), some (xI 0)]) dX8_hangs_14 (by decide) rfl ?_
        have lp16 : ∀ (n16 : Nat) (c2 : Int) (q : Int), (xrg c2) → (0 ≤ q ∧ q ≤ 8) → (c2 = hgi (fun p => μ 121 (22 + p)) s c q.toNat) → ((8 - q).toNat) < n16 → X 0 0 WW μ 16 [some (xR 120), some (xI s), some (xI c2), some (xI k), some (xI q)] [] := by
          intro n16
          induction n16 with
          | zero => intro c2 q h3 h4 h6 hn; exact absurd hn (Nat.not_lt_zero _)
          | succ n16 ih16 =>
            intro c2 q h3 h4 h6 hn16
            refine r_iload hL (x := q) dX8_hangs_16 rfl ?_
            refine r_bipush hL dX8_hangs_18 (by decide) ?_
            refine r_icmp_ge hL (tgt := 57) dX8_hangs_20 (by decide) (by omega) (by omega) (fun c20 => ?_) (fun c20 => ?_)
            · skip
              refine r_iinc hL (x := k) (lo' := [some (xR 120), some (xI s), some (xI c2), some (xI (k + 1)), some (xI q)]) dX8_hangs_57 (by decide) rfl rfl ?_
              refine r_goto hL (tgt := 7) dX8_hangs_60 (by decide) ?_
              refine r_drop hL (lo' := [some (xR 120), some (xI s), some (xI c2), some (xI (k + 1)), none]) [4] rfl ?_
              exact ih7 c2 (k + 1) (by omega) (by omega) (hgn_up h5 (by omega) h6 (by omega)) (by omega)
            · skip
              refine r_iload_n hL (x := c2) dX8_hangs_23 rfl ?_
              refine r_iload_n hL (x := c2) dX8_hangs_24 rfl ?_
              refine r_iload hL (x := q) dX8_hangs_25 rfl ?_
              refine r_callS hL (st := [xI c2]) (av := [xI c2, xI q]) (m_X8_has (μ := μ) c2 q (fun z27 heq27 hc27 => ⟨rfl, ?_⟩)) ce_yX8_has sm_yX8_has ml_X8_118 dX8_hangs_27 rfl (Nat.le_of_ble_eq_true rfl) ⟨Nat.le_of_ble_eq_true rfl, Nat.le_of_ble_eq_true rfl⟩ ⟨Nat.le_of_ble_eq_true rfl, Nat.le_of_ble_eq_true rfl⟩
              show X 0 0 WW μ 30 [some (xR 120), some (xI s), some (xI c2), some (xI k), some (xI q)] [xI z27, xI c2]
              refine r_if_eq hL (tgt := 48) dX8_hangs_30 (by decide) (by omega) (fun c30 => ?_) (fun c30 => ?_)
              · skip
                refine r_iconst hL dX8_hangs_48 ?_
                refine r_ior hL dX8_hangs_49 ?_
                obtain ⟨z49, hz49⟩ : ∃ z, z = xor' c2 0 := ⟨_, rfl⟩
                rw [← hz49]
                have hr49 : xrg z49 := by rw [hz49]; exact xor_rg _ _
                refine r_istore_n hL (lo' := [some (xR 120), some (xI s), some (xI z49), some (xI k), some (xI q)]) dX8_hangs_50 (by decide) rfl ?_
                refine r_iinc hL (x := q) (lo' := [some (xR 120), some (xI s), some (xI z49), some (xI k), some (xI (q + 1))]) dX8_hangs_51 (by decide) rfl rfl ?_
                refine r_goto hL (tgt := 16) dX8_hangs_54 (by decide) ?_
                exact ih16 z49 (q + 1) (by omega) (by omega) (hgi_up h6 (by omega) (by first | exact Or.inl ⟨by rw [← heq27]; omega, by rw [hz49, hz44, hz42]⟩ | exact Or.inr ⟨by rw [← heq27]; omega, by rw [hz49]; exact xor_0 h3⟩)) (by omega)
              · skip
                refine r_aload_n hL (x := 120) dX8_hangs_33 rfl ?_
                refine r_getr hL xcl8 0 (by decide) s_120 (by decide) fl_X8_7 (by decide) f_120_0 dX8_hangs_34 ?_
                refine r_bipush hL dX8_hangs_37 (by decide) ?_
                refine r_iload hL (x := q) dX8_hangs_39 rfl ?_
                refine r_iadd hL dX8_hangs_41 ?_
                refine r_iald hL dX8_hangs_42 (by decide) s_121 (by decide) (by omega) (by omega) (fun hr42 => ?_)
                obtain ⟨z42, hz42⟩ : ∃ z, z = μ 121 (22 + q) := ⟨_, rfl⟩
                rw [← hz42] at hr42 ⊢
                refine r_iload_n hL (x := s) dX8_hangs_43 rfl ?_
                refine r_iand hL dX8_hangs_44 ?_
                obtain ⟨z44, hz44⟩ : ∃ z, z = xand z42 s := ⟨_, rfl⟩
                rw [← hz44]
                have hr44 : xrg z44 := by rw [hz44]; exact xand_rg _ _
                refine r_goto hL (tgt := 49) dX8_hangs_45 (by decide) ?_
                refine r_ior hL dX8_hangs_49 ?_
                obtain ⟨z49, hz49⟩ : ∃ z, z = xor' c2 z44 := ⟨_, rfl⟩
                rw [← hz49]
                have hr49 : xrg z49 := by rw [hz49]; exact xor_rg _ _
                refine r_istore_n hL (lo' := [some (xR 120), some (xI s), some (xI z49), some (xI k), some (xI q)]) dX8_hangs_50 (by decide) rfl ?_
                refine r_iinc hL (x := q) (lo' := [some (xR 120), some (xI s), some (xI z49), some (xI k), some (xI (q + 1))]) dX8_hangs_51 (by decide) rfl rfl ?_
                refine r_goto hL (tgt := 16) dX8_hangs_54 (by decide) ?_
                exact ih16 z49 (q + 1) (by omega) (by omega) (hgi_up h6 (by omega) (by first | exact Or.inl ⟨by rw [← heq27]; omega, by rw [hz49, hz44, hz42]⟩ | exact Or.inr ⟨by rw [← heq27]; omega, by rw [hz49]; exact xor_0 h3⟩)) (by omega)
        exact lp16 _ c 0 (by omega) (by omega) rfl (Nat.lt_succ_self _)
  exact lp7 _ z3 0 (by omega) (by omega) (by rw [hz3]; rfl) (Nat.lt_succ_self _)

set_option maxHeartbeats 4000000 in
set_option maxRecDepth 20000 in
theorem m_X8_over {K : Option xV → xW → xM → Prop} {μ : xM} (s : Int) (hs : xrg s) (hK : ∀ r, r = ov (fun p => μ 121 (22 + p)) s 256 → -1 ≤ r ∧ r ≤ 255 → K (some (xI r)) WW μ) : xMet yX8_over cX8_over 4 (some .int) 2 45 0 0 [xR 120, xI s] WW μ K := by
  refine xMet.go RX8 "over" rfl rfl (by decide) [some (xR 120), some (xI s), none, none] (Nat.le_of_ble_eq_true rfl) rfl (fun X hL => ?_)
  refine r_iconst hL dX8_over_0 ?_
  refine r_istore_n hL (lo' := [some (xR 120), some (xI s), some (xI (-1)), none]) dX8_over_1 (by decide) rfl ?_
  refine r_iconst hL dX8_over_2 ?_
  refine r_istore_n hL (lo' := [some (xR 120), some (xI s), some (xI (-1)), some (xI 0)]) dX8_over_3 (by decide) rfl ?_
  have lp4 : ∀ (n4 : Nat) (b : Int) (v : Int), (-1 ≤ b ∧ b ≤ 255) → (0 ≤ v ∧ v ≤ 256) → (b = ov (fun p => μ 121 (22 + p)) s v.toNat) → ((256 - v).toNat) < n4 → X 0 0 WW μ 4 [some (xR 120), some (xI s), some (xI b), some (xI v)] [] := by
    intro n4
    induction n4 with
    | zero => intro b v h1 h2 h3 hn; exact absurd hn (Nat.not_lt_zero _)
    | succ n4 ih4 =>
      intro b v h1 h2 h3 hn4
      refine r_iload_n hL (x := v) dX8_over_4 rfl ?_
      refine r_sipush hL dX8_over_5 (by decide) ?_
      refine r_icmp_ge hL (tgt := 50) dX8_over_8 (by decide) (by omega) (by omega) (fun c8 => ?_) (fun c8 => ?_)
      · skip
        refine r_iload_n hL (x := b) dX8_over_50 rfl ?_
        exact r_iret hL dX8_over_51 rfl (hK _ (by rw [h3, show v.toNat = 256 by omega]) (by omega))
      · skip
        refine r_iload_n hL (x := v) dX8_over_11 rfl ?_
        refine r_iload_n hL (x := s) dX8_over_12 rfl ?_
        refine r_iand hL dX8_over_13 ?_
        obtain ⟨z13, hz13⟩ : ∃ z, z = xand v s := ⟨_, rfl⟩
        rw [← hz13]
        have hr13 : xrg z13 := by rw [hz13]; exact xand_rg _ _
        refine r_iload_n hL (x := s) dX8_over_14 rfl ?_
        refine r_icmp_ne hL (tgt := 44) dX8_over_15 (by decide) (by omega) (by omega) (fun c15 => ?_) (fun c15 => ?_)
        · skip
          refine r_iinc hL (x := v) (lo' := [some (xR 120), some (xI s), some (xI b), some (xI (v + 1))]) dX8_over_44 (by decide) rfl rfl ?_
          refine r_goto hL (tgt := 4) dX8_over_47 (by decide) ?_
          exact ih4 b (v + 1) (by omega) (by omega) (ov_step h3 (by omega) (by omega)) (by omega)
        · skip
          refine r_aload_n hL (x := 120) dX8_over_18 rfl ?_
          refine r_iload_n hL (x := v) dX8_over_19 rfl ?_
          refine r_callV hL (st := []) (av := [xI v]) (k := 120) (m_X8_hangs (μ := μ) v (by omega) (fun z20 hv20 hc20 => ⟨rfl, ?_⟩)) ce_yX8_hangs im_yX8_hangs se_yX8_hangs ml_X8_152 xcl8 (by decide) s_120 dX8_over_20 rfl (Nat.le_of_ble_eq_true rfl) ⟨Nat.le_of_ble_eq_true rfl, Nat.le_of_ble_eq_true rfl⟩ ⟨Nat.le_of_ble_eq_true rfl, Nat.le_of_ble_eq_true rfl⟩
          show X 0 0 WW μ 23 [some (xR 120), some (xI s), some (xI b), some (xI v)] [xI z20]
          refine r_if_eq hL (tgt := 44) dX8_over_23 (by decide) (by omega) (fun c23 => ?_) (fun c23 => ?_)
          · skip
            refine r_iinc hL (x := v) (lo' := [some (xR 120), some (xI s), some (xI b), some (xI (v + 1))]) dX8_over_44 (by decide) rfl rfl ?_
            refine r_goto hL (tgt := 4) dX8_over_47 (by decide) ?_
            exact ih4 b (v + 1) (by omega) (by omega) (ov_step h3 (by omega) (by omega)) (by omega)
          · skip
            refine r_iload_n hL (x := b) dX8_over_26 rfl ?_
            refine r_iconst hL dX8_over_27 ?_
            refine r_icmp_eq hL (tgt := 42) dX8_over_28 (by decide) (by omega) (by omega) (fun c28 => ?_) (fun c28 => ?_)
            · skip
              refine r_iload_n hL (x := v) dX8_over_42 rfl ?_
              refine r_istore_n hL (lo' := [some (xR 120), some (xI s), some (xI v), some (xI v)]) dX8_over_43 (by decide) rfl ?_
              refine r_iinc hL (x := v) (lo' := [some (xR 120), some (xI s), some (xI v), some (xI (v + 1))]) dX8_over_44 (by decide) rfl rfl ?_
              refine r_goto hL (tgt := 4) dX8_over_47 (by decide) ?_
              exact ih4 v (v + 1) (by omega) (by omega) (ov_step h3 (by omega) (by omega)) (by omega)
            · skip
              refine r_iload_n hL (x := v) dX8_over_31 rfl ?_
              refine r_callS hL (st := []) (av := [xI v]) (m_X8_ones (μ := μ) v (fun z32 hc32 hc32_1 => ⟨rfl, ?_⟩)) ce_yX8_ones sm_yX8_ones ml_X8_121 dX8_over_32 rfl (Nat.le_of_ble_eq_true rfl) ⟨Nat.le_of_ble_eq_true rfl, Nat.le_of_ble_eq_true rfl⟩ ⟨Nat.le_of_ble_eq_true rfl, Nat.le_of_ble_eq_true rfl⟩
              show X 0 0 WW μ 35 [some (xR 120), some (xI s), some (xI b), some (xI v)] [xI z32]
              refine r_iload_n hL (x := b) dX8_over_35 rfl ?_
              refine r_callS hL (st := [xI z32]) (av := [xI b]) (m_X8_ones (μ := μ) b (fun z36 hc36 hc36_1 => ⟨rfl, ?_⟩)) ce_yX8_ones sm_yX8_ones ml_X8_121 dX8_over_36 rfl (Nat.le_of_ble_eq_true rfl) ⟨Nat.le_of_ble_eq_true rfl, Nat.le_of_ble_eq_true rfl⟩ ⟨Nat.le_of_ble_eq_true rfl, Nat.le_of_ble_eq_true rfl⟩
              show X 0 0 WW μ 39 [some (xR 120), some (xI s), some (xI b), some (xI v)] [xI z36, xI z32]
              refine r_icmp_ge hL (tgt := 44) dX8_over_39 (by decide) (by omega) (by omega) (fun c39 => ?_) (fun c39 => ?_)
              · skip
                refine r_iinc hL (x := v) (lo' := [some (xR 120), some (xI s), some (xI b), some (xI (v + 1))]) dX8_over_44 (by decide) rfl rfl ?_
                refine r_goto hL (tgt := 4) dX8_over_47 (by decide) ?_
                exact ih4 b (v + 1) (by omega) (by omega) (ov_step h3 (by omega) (by omega)) (by omega)
              · skip
                refine r_iload_n hL (x := v) dX8_over_42 rfl ?_
                refine r_istore_n hL (lo' := [some (xR 120), some (xI s), some (xI v), some (xI v)]) dX8_over_43 (by decide) rfl ?_
                refine r_iinc hL (x := v) (lo' := [some (xR 120), some (xI s), some (xI v), some (xI (v + 1))]) dX8_over_44 (by decide) rfl rfl ?_
                refine r_goto hL (tgt := 4) dX8_over_47 (by decide) ?_
                exact ih4 v (v + 1) (by omega) (by omega) (ov_step h3 (by omega) (by omega)) (by omega)
  exact lp4 _ (-1) 0 (by omega) (by omega) rfl (Nat.lt_succ_self _)

set_option maxHeartbeats 4000000 in
set_option maxRecDepth 20000 in
theorem m_X8_wanders {K : Option xV → xW → xM → Prop} {μ : xM} (s : Int) (hs : xrg s) (hK : ∀ r, r = wnd (ov (fun p => μ 121 (22 + p)) s 256) → xrg r → K (some (xI r)) WW μ) : xMet yX8_wanders cX8_wanders 3 (some .int) 3 68 0 0 [xR 120, xI s] WW μ K := by
  refine xMet.go RX8 "wanders" rfl rfl (by decide) [some (xR 120), some (xI s), none] (Nat.le_of_ble_eq_true rfl) rfl (fun X hL => ?_)
  refine r_aload_n hL (x := 120) dX8_wanders_0 rfl ?_
  refine r_iload_n hL (x := s) dX8_wanders_1 rfl ?_
  refine r_callV hL (st := []) (av := [xI s]) (k := 120) (m_X8_over (μ := μ) s (by omega) (fun z2 hv2 hc2 => ⟨rfl, ?_⟩)) ce_yX8_over im_yX8_over se_yX8_over ml_X8_156 xcl8 (by decide) s_120 dX8_wanders_2 rfl (Nat.le_of_ble_eq_true rfl) ⟨Nat.le_of_ble_eq_true rfl, Nat.le_of_ble_eq_true rfl⟩ ⟨Nat.le_of_ble_eq_true rfl, Nat.le_of_ble_eq_true rfl⟩
  show X 0 0 WW μ 5 [some (xR 120), some (xI s), none] [xI z2]
  refine r_istore_n hL (lo' := [some (xR 120), some (xI s), some (xI z2)]) dX8_wanders_5 (by decide) rfl ?_
  refine r_iload_n hL (x := z2) dX8_wanders_6 rfl ?_
  refine r_iconst hL dX8_wanders_7 ?_
  refine r_icmp_ne hL (tgt := 15) dX8_wanders_8 (by decide) (by omega) (by omega) (fun c8 => ?_) (fun c8 => ?_)
  · skip
    refine r_iload_n hL (x := z2) dX8_wanders_15 rfl ?_
    refine r_if_ne hL (tgt := 23) dX8_wanders_16 (by decide) (by omega) (fun c16 => ?_) (fun c16 => ?_)
    · skip
      refine r_iload_n hL (x := z2) dX8_wanders_23 rfl ?_
      refine r_callS hL (st := []) (av := [xI z2]) (m_X8_ones (μ := μ) z2 (fun z24 hc24 hc24_1 => ⟨rfl, ?_⟩)) ce_yX8_ones sm_yX8_ones ml_X8_121 dX8_wanders_24 rfl (Nat.le_of_ble_eq_true rfl) ⟨Nat.le_of_ble_eq_true rfl, Nat.le_of_ble_eq_true rfl⟩ ⟨Nat.le_of_ble_eq_true rfl, Nat.le_of_ble_eq_true rfl⟩
      show X 0 0 WW μ 27 [some (xR 120), some (xI s), some (xI z2)] [xI z24]
      refine r_iconst hL dX8_wanders_27 ?_
      refine r_isub hL dX8_wanders_28 ?_
      exact r_iret hL dX8_wanders_29 rfl (hK _ (by rw [← hv2]; exact wnd_v (by omega)) (by omega))
    · skip
      refine r_iconst hL dX8_wanders_19 ?_
      refine r_goto hL (tgt := 29) dX8_wanders_20 (by decide) ?_
      exact r_iret hL dX8_wanders_29 rfl (hK _ (by rw [← hv2]; exact wnd_v (by omega)) (by omega))
  · skip
    refine r_iconst hL dX8_wanders_11 ?_
    refine r_goto hL (tgt := 29) dX8_wanders_12 (by decide) ?_
    exact r_iret hL dX8_wanders_29 rfl (hK _ (by rw [← hv2]; exact wnd_v (by omega)) (by omega))
