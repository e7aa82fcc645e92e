set_option maxHeartbeats 4000000 in
set_option maxRecDepth 20000 in
theorem m_X8_in {K : Option xV → xW → xM → Prop} {μ : xM} (v : Int) (hv : xrg v) (a : Int) (ha : xrg a) (b : Int) (hb : xrg b) (hK : ∀ r, (a ≤ v ∧ v ≤ b ∧ r = 1) ∨ (¬ (a ≤ v ∧ v ≤ b) ∧ r = 0) → K (some (xI r)) WW μ) : xMet yX8_in cX8_in 3 (some .boolean) 0 0 0 0 [xI v, xI a, xI b] WW μ K := by
  refine xMet.go RX8 "in" rfl rfl (by decide) [some (xI v), some (xI a), some (xI b)] (Nat.le_of_ble_eq_true rfl) rfl (fun X hL => ?_)
  refine r_iload_n hL (x := v) dX8_in_0 rfl ?_
  refine r_iload_n hL (x := a) dX8_in_1 rfl ?_
  refine r_icmp_lt hL (tgt := 14) dX8_in_2 (by decide) (by omega) (by omega) (fun c2 => ?_) (fun c2 => ?_)
  · skip
    refine r_iconst hL dX8_in_14 ?_
    exact r_zret hL dX8_in_15 rfl (by omega) (hK _ (by omega))
  · skip
    refine r_iload_n hL (x := v) dX8_in_5 rfl ?_
    refine r_iload_n hL (x := b) dX8_in_6 rfl ?_
    refine r_icmp_gt hL (tgt := 14) dX8_in_7 (by decide) (by omega) (by omega) (fun c7 => ?_) (fun c7 => ?_)
    · skip
      refine r_iconst hL dX8_in_14 ?_
      exact r_zret hL dX8_in_15 rfl (by omega) (hK _ (by omega))
    · skip
      refine r_iconst hL dX8_in_10 ?_
      refine r_goto hL (tgt := 15) dX8_in_11 (by decide) ?_
      exact r_zret hL dX8_in_15 rfl (by omega) (hK _ (by omega))

set_option maxHeartbeats 4000000 in
set_option maxRecDepth 20000 in
theorem m_X8_has {K : Option xV → xW → xM → Prop} {μ : xM} (v a : Int) (hK : ∀ r, r = 0 ∨ r = 1 → K (some (xI r)) WW μ) : xMet yX8_has cX8_has 2 (some .boolean) 0 0 0 0 [xI v, xI a] WW μ K := by
  refine xMet.go RX8 "has" rfl rfl (by decide) [some (xI v), some (xI a)] (Nat.le_of_ble_eq_true rfl) rfl (fun X hL => ?_)
  refine r_iload_n hL (x := v) dX8_has_0 rfl ?_
  refine r_iload_n hL (x := a) dX8_has_1 rfl ?_
  refine r_ishr hL dX8_has_2 ?_
  obtain ⟨z2, hz2⟩ : ∃ z, z = xshr v a := ⟨_, rfl⟩
  rw [← hz2]
  have hr2 : xrg z2 := by rw [hz2]; exact xshr_rg _ _
  refine r_iconst hL dX8_has_3 ?_
  refine r_iand hL dX8_has_4 ?_
  obtain ⟨z4, hz4⟩ : ∃ z, z = xand z2 1 := ⟨_, rfl⟩
  rw [← hz4]
  have hr4 : xrg z4 := by rw [hz4]; exact xand_rg _ _
  refine r_iconst hL dX8_has_5 ?_
  refine r_icmp_ne hL (tgt := 13) dX8_has_6 (by decide) (by omega) (by omega) (fun c6 => ?_) (fun c6 => ?_)
  · skip
    refine r_iconst hL dX8_has_13 ?_
    exact r_zret hL dX8_has_14 rfl (by omega) (hK _ (by omega))
  · skip
    refine r_iconst hL dX8_has_9 ?_
    refine r_goto hL (tgt := 14) dX8_has_10 (by decide) ?_
    exact r_zret hL dX8_has_14 rfl (by omega) (hK _ (by omega))

set_option maxHeartbeats 4000000 in
set_option maxRecDepth 20000 in
theorem m_X8_ones {K : Option xV → xW → xM → Prop} {μ : xM} (v : Int) (hK : ∀ r, r = xonf v 8 → 0 ≤ r ∧ r ≤ 8 → K (some (xI r)) WW μ) : xMet yX8_ones cX8_ones 3 (some .int) 0 0 0 0 [xI v] WW μ K := by
  refine xMet.go RX8 "ones" rfl rfl (by decide) [some (xI v), none, none] (Nat.le_of_ble_eq_true rfl) rfl (fun X hL => ?_)
  refine r_iconst hL dX8_ones_0 ?_
  refine r_istore_n hL (lo' := [some (xI v), some (xI 0), none]) dX8_ones_1 (by decide) rfl ?_
  refine r_iconst hL dX8_ones_2 ?_
  refine r_istore_n hL (lo' := [some (xI v), some (xI 0), some (xI 0)]) dX8_ones_3 (by decide) rfl ?_
  have lp4 : ∀ (n4 : Nat) (n : Int) (i : Int), (n = xonf v i.toNat) → (0 ≤ i ∧ i ≤ 8) → ((8 - i).toNat) < n4 → X 0 0 WW μ 4 [some (xI v), some (xI n), some (xI i)] [] := by
    intro n4
    induction n4 with
    | zero => intro n i h1 h2 hn; exact absurd hn (Nat.not_lt_zero _)
    | succ n4 ih4 =>
      intro n i h1 h2 hn4
      refine r_iload_n hL (x := i) dX8_ones_4 rfl ?_
      refine r_bipush hL dX8_ones_5 (by decide) ?_
      refine r_icmp_ge hL (tgt := 24) dX8_ones_7 (by decide) (by omega) (by omega) (fun c7 => ?_) (fun c7 => ?_)
      · skip
        refine r_iload_n hL (x := n) dX8_ones_24 rfl ?_
        exact r_iret hL dX8_ones_25 rfl (hK _ (by rw [h1, show i = 8 by omega]; rfl) (by have := xonf_bd v 8; have e : n = xonf v 8 := (by rw [h1, show i = 8 by omega]; rfl); omega))
      · skip
        refine r_iload_n hL (x := n) dX8_ones_10 rfl ?_
        refine r_iload_n hL (x := v) dX8_ones_11 rfl ?_
        refine r_iload_n hL (x := i) dX8_ones_12 rfl ?_
        refine r_ishr hL dX8_ones_13 ?_
        obtain ⟨z13, hz13⟩ : ∃ z, z = xshr v i := ⟨_, rfl⟩
        rw [← hz13]
        have hr13 : xrg z13 := by rw [hz13]; exact xshr_rg _ _
        refine r_iconst hL dX8_ones_14 ?_
        refine r_iand hL dX8_ones_15 ?_
        obtain ⟨z15, hz15⟩ : ∃ z, z = xand z13 1 := ⟨_, rfl⟩
        rw [← hz15]
        have hr15 : xrg z15 := by rw [hz15]; exact xand_rg _ _
        refine r_iadd hL dX8_ones_16 ?_
        refine r_istore_n hL (lo' := [some (xI v), some (xI (n + z15)), some (xI i)]) dX8_ones_17 (by decide) rfl ?_
        refine r_iinc hL (x := i) (lo' := [some (xI v), some (xI (n + z15)), some (xI (i + 1))]) dX8_ones_18 (by decide) rfl rfl ?_
        refine r_goto hL (tgt := 4) dX8_ones_21 (by decide) ?_
        exact ih4 (n + z15) (i + 1) (by rw [show (i + 1).toNat = i.toNat + 1 by omega]; show _ = xonf v i.toNat + xand (xshr v (i.toNat : Int)) 1; rw [Int.toNat_of_nonneg h2.1, ← hz13, ← hz15, h1]) (by omega) (by omega)
  exact lp4 _ 0 0 rfl (by omega) (Nat.lt_succ_self _)

set_option maxHeartbeats 4000000 in
set_option maxRecDepth 20000 in
theorem m_X8_lesser {K : Option xV → xW → xM → Prop} {μ : xM} (a : Int) (ha : xrg a) (b : Int) (hb : xrg b) (hK : ∀ r, r = min a b → K (some (xI r)) WW μ) : xMet yX8_lesser cX8_lesser 2 (some .int) 0 0 0 0 [xI a, xI b] WW μ K := by
  refine xMet.go RX8 "lesser" rfl rfl (by decide) [some (xI a), some (xI b)] (Nat.le_of_ble_eq_true rfl) rfl (fun X hL => ?_)
  refine r_iload_n hL (x := a) dX8_lesser_0 rfl ?_
  refine r_iload_n hL (x := b) dX8_lesser_1 rfl ?_
  refine r_icmp_ge hL (tgt := 9) dX8_lesser_2 (by decide) (by omega) (by omega) (fun c2 => ?_) (fun c2 => ?_)
  · skip
    refine r_iload_n hL (x := b) dX8_lesser_9 rfl ?_
    exact r_iret hL dX8_lesser_10 rfl (hK _ (by omega))
  · skip
    refine r_iload_n hL (x := a) dX8_lesser_5 rfl ?_
    refine r_goto hL (tgt := 10) dX8_lesser_6 (by decide) ?_
    exact r_iret hL dX8_lesser_10 rfl (hK _ (by omega))

set_option maxHeartbeats 4000000 in
set_option maxRecDepth 20000 in
theorem m_X8_cellOf {K : Option xV → xW → xM → Prop} {μ : xM} (a b : Int) (hK : ∀ r, r = 11 * a + b → K (some (xI r)) WW μ) : xMet yX8_cellOf cX8_cellOf 2 (some .int) 0 0 0 0 [xI a, xI b] WW μ K := by
  refine xMet.go RX8 "cellOf" rfl rfl (by decide) [some (xI a), some (xI b)] (Nat.le_of_ble_eq_true rfl) rfl (fun X hL => ?_)
  refine r_bipush hL dX8_cellOf_0 (by decide) ?_
  refine r_iload_n hL (x := a) dX8_cellOf_2 rfl ?_
  refine r_imul hL dX8_cellOf_3 ?_
  refine r_iload_n hL (x := b) dX8_cellOf_4 rfl ?_
  refine r_iadd hL dX8_cellOf_5 ?_
  exact r_iret hL dX8_cellOf_6 rfl (hK _ rfl)

set_option maxHeartbeats 4000000 in
set_option maxRecDepth 20000 in
theorem m_X8_firstBy {K : Option xV → xW → xM → Prop} {μ : xM} (s : Int) (hs : 0 ≤ s ∧ s ≤ 3) (hK : ∀ r, r = xOF s → 0 ≤ r ∧ r ≤ 2 → K (some (xI r)) WW μ) : xMet yX8_firstBy cX8_firstBy 1 (some .int) 0 0 0 0 [xI s] WW μ K := by
  refine xMet.go RX8 "firstBy" rfl rfl (by decide) [some (xI s)] (Nat.le_of_ble_eq_true rfl) rfl (fun X hL => ?_)
  have hv := xOF_v s
  refine r_iload_n hL (x := s) dX8_firstBy_0 rfl ?_
  refine r_iconst hL dX8_firstBy_1 ?_
  refine r_icmp_ne hL (tgt := 9) dX8_firstBy_2 (by decide) (by omega) (by omega) (fun c2 => ?_) (fun c2 => ?_)
  · skip
    refine r_iload_n hL (x := s) dX8_firstBy_9 rfl ?_
    refine r_iconst hL dX8_firstBy_10 ?_
    refine r_icmp_ne hL (tgt := 18) dX8_firstBy_11 (by decide) (by omega) (by omega) (fun c11 => ?_) (fun c11 => ?_)
    · skip
      refine r_iconst hL dX8_firstBy_18 ?_
      exact r_iret hL dX8_firstBy_19 rfl (hK _ (by omega) (by omega))
    · skip
      refine r_iconst hL dX8_firstBy_14 ?_
      refine r_goto hL (tgt := 19) dX8_firstBy_15 (by decide) ?_
      exact r_iret hL dX8_firstBy_19 rfl (hK _ (by omega) (by omega))
  · skip
    refine r_iconst hL dX8_firstBy_5 ?_
    refine r_goto hL (tgt := 19) dX8_firstBy_6 (by decide) ?_
    exact r_iret hL dX8_firstBy_19 rfl (hK _ (by omega) (by omega))

set_option maxHeartbeats 4000000 in
set_option maxRecDepth 20000 in
theorem m_X8_otherBy {K : Option xV → xW → xM → Prop} {μ : xM} (s : Int) (hs : 0 ≤ s ∧ s ≤ 3) (hK : ∀ r, r = xOO s → 0 ≤ r ∧ r ≤ 2 → K (some (xI r)) WW μ) : xMet yX8_otherBy cX8_otherBy 1 (some .int) 0 0 0 0 [xI s] WW μ K := by
  refine xMet.go RX8 "otherBy" rfl rfl (by decide) [some (xI s)] (Nat.le_of_ble_eq_true rfl) rfl (fun X hL => ?_)
  have hv := xOO_v s
  refine r_iload_n hL (x := s) dX8_otherBy_0 rfl ?_
  refine r_iconst hL dX8_otherBy_1 ?_
  refine r_icmp_ne hL (tgt := 9) dX8_otherBy_2 (by decide) (by omega) (by omega) (fun c2 => ?_) (fun c2 => ?_)
  · skip
    refine r_iload_n hL (x := s) dX8_otherBy_9 rfl ?_
    refine r_iconst hL dX8_otherBy_10 ?_
    refine r_icmp_ne hL (tgt := 18) dX8_otherBy_11 (by decide) (by omega) (by omega) (fun c11 => ?_) (fun c11 => ?_)
    · skip
      refine r_iconst hL dX8_otherBy_18 ?_
      exact r_iret hL dX8_otherBy_19 rfl (hK _ (by omega) (by omega))
    · skip
      refine r_iconst hL dX8_otherBy_14 ?_
      refine r_goto hL (tgt := 19) dX8_otherBy_15 (by decide) ?_
      exact r_iret hL dX8_otherBy_19 rfl (hK _ (by omega) (by omega))
  · skip
    refine r_iconst hL dX8_otherBy_5 ?_
    refine r_goto hL (tgt := 19) dX8_otherBy_6 (by decide) ?_
    exact r_iret hL dX8_otherBy_19 rfl (hK _ (by omega) (by omega))

set_option maxHeartbeats 4000000 in
set_option maxRecDepth 20000 in
theorem m_X8_isTale {K : Option xV → xW → xM → Prop} {μ : xM} (hB0 : BI μ) (t : Int) (ht : xrg t) (hK : ∀ r, (0 ≤ t ∧ t < μ 121 0 ∧ t ≤ 7 ∧ r = 1) ∨ (¬ (0 ≤ t ∧ t < μ 121 0) ∧ r = 0) → K (some (xI r)) WW μ) : xMet yX8_isTale cX8_isTale 2 (some .boolean) 1 22 0 0 [xR 120, xI t] WW μ K := by
  refine xMet.go RX8 "isTale" rfl rfl (by decide) [some (xR 120), some (xI t)] (Nat.le_of_ble_eq_true rfl) rfl (fun X hL => ?_)
  have hB := hB0
  refine r_iload_n hL (x := t) dX8_isTale_0 rfl ?_
  refine r_iconst hL dX8_isTale_1 ?_
  refine r_aload_n hL (x := 120) dX8_isTale_2 rfl ?_
  refine r_getr hL xcl8 0 (by decide) s_120 (by decide) fl_X8_7 (by decide) f_120_0 dX8_isTale_3 ?_
  refine r_iconst hL dX8_isTale_6 ?_
  refine r_iald hL dX8_isTale_7 (by decide) s_121 (by decide) (by omega) (by omega) (fun hr7 => ?_)
  obtain ⟨z7, hz7⟩ : ∃ z, z = μ 121 0 := ⟨_, rfl⟩
  rw [← hz7] at hr7 ⊢
  have hb7 : 0 ≤ μ 121 0 ∧ μ 121 0 ≤ 8 := (show ((0 : Int) = 0 → 0 ≤ (μ 121 0) ∧ (μ 121 0) ≤ 8) ∧ ((0 : Int) = 1 → 0 ≤ (μ 121 0) ∧ (μ 121 0) ≤ 2) ∧ (2 ≤ (0 : Int) ∧ (0 : Int) ≤ 5 → 0 ≤ (μ 121 0) ∧ (μ 121 0) ≤ 9) ∧ (6 ≤ (0 : Int) ∧ (0 : Int) ≤ 13 → 0 ≤ (μ 121 0) ∧ (μ 121 0) ≤ 10) ∧ (30 ≤ (0 : Int) → 0 ≤ (μ 121 0) ∧ (μ 121 0) ≤ 7) from hB 121 0).1 (by omega)
  refine r_iconst hL dX8_isTale_8 ?_
  refine r_isub hL dX8_isTale_9 ?_
  refine r_callS hL (st := []) (av := [xI t, xI 0, xI (z7 - 1)]) (m_X8_in (μ := μ) t (by omega) 0 (by omega) (z7 - 1) (by omega) (fun z10 hc10 => ⟨rfl, ?_⟩)) ce_yX8_in sm_yX8_in ml_X8_62 dX8_isTale_10 rfl (Nat.le_of_ble_eq_true rfl) ⟨Nat.le_of_ble_eq_true rfl, Nat.le_of_ble_eq_true rfl⟩ ⟨Nat.le_of_ble_eq_true rfl, Nat.le_of_ble_eq_true rfl⟩
  show X 0 0 WW μ 13 [some (xR 120), some (xI t)] [xI z10]
  exact r_zret hL dX8_isTale_13 rfl (by omega) (hK _ (by omega))

set_option maxHeartbeats 4000000 in
set_option maxRecDepth 20000 in
theorem m_X8_areTales {K : Option xV → xW → xM → Prop} {μ : xM} (hB0 : BI μ) (t : Int) (ht : xrg t) (hK : ∀ r, r = 0 ∨ r = 1 → K (some (xI r)) WW μ) : xMet yX8_areTales cX8_areTales 2 (some .boolean) 1 22 0 0 [xR 120, xI t] WW μ K := by
  refine xMet.go RX8 "areTales" rfl rfl (by decide) [some (xR 120), some (xI t)] (Nat.le_of_ble_eq_true rfl) rfl (fun X hL => ?_)
  have hB := hB0
  refine r_iload_n hL (x := t) dX8_areTales_0 rfl ?_
  refine r_iconst hL dX8_areTales_1 ?_
  refine r_iconst hL dX8_areTales_2 ?_
  refine r_aload_n hL (x := 120) dX8_areTales_3 rfl ?_
  refine r_getr hL xcl8 0 (by decide) s_120 (by decide) fl_X8_7 (by decide) f_120_0 dX8_areTales_4 ?_
  refine r_iconst hL dX8_areTales_7 ?_
  refine r_iald hL dX8_areTales_8 (by decide) s_121 (by decide) (by omega) (by omega) (fun hr8 => ?_)
  obtain ⟨z8, hz8⟩ : ∃ z, z = μ 121 0 := ⟨_, rfl⟩
  rw [← hz8] at hr8 ⊢
  have hb8 : 0 ≤ μ 121 0 ∧ μ 121 0 ≤ 8 := (show ((0 : Int) = 0 → 0 ≤ (μ 121 0) ∧ (μ 121 0) ≤ 8) ∧ ((0 : Int) = 1 → 0 ≤ (μ 121 0) ∧ (μ 121 0) ≤ 2) ∧ (2 ≤ (0 : Int) ∧ (0 : Int) ≤ 5 → 0 ≤ (μ 121 0) ∧ (μ 121 0) ≤ 9) ∧ (6 ≤ (0 : Int) ∧ (0 : Int) ≤ 13 → 0 ≤ (μ 121 0) ∧ (μ 121 0) ≤ 10) ∧ (30 ≤ (0 : Int) → 0 ≤ (μ 121 0) ∧ (μ 121 0) ≤ 7) from hB 121 0).1 (by omega)
  refine r_ishl hL dX8_areTales_9 ?_
  obtain ⟨z9, hz9⟩ : ∃ z, z = xshl 1 z8 := ⟨_, rfl⟩
  rw [← hz9]
  have hr9 : xrg z9 := by rw [hz9]; exact xshl_rg _ _
  refine r_iconst hL dX8_areTales_10 ?_
  refine r_isub hL dX8_areTales_11 ?_
  refine r_norm hL (fun y11 hy11 hyr11 => ?_)
  refine r_callS hL (st := []) (av := [xI t, xI 0, xI y11]) (m_X8_in (μ := μ) t (by omega) 0 (by omega) y11 (by omega) (fun z12 hc12 => ⟨rfl, ?_⟩)) ce_yX8_in sm_yX8_in ml_X8_62 dX8_areTales_12 rfl (Nat.le_of_ble_eq_true rfl) ⟨Nat.le_of_ble_eq_true rfl, Nat.le_of_ble_eq_true rfl⟩ ⟨Nat.le_of_ble_eq_true rfl, Nat.le_of_ble_eq_true rfl⟩
  show X 0 0 WW μ 15 [some (xR 120), some (xI t)] [xI z12]
  exact r_zret hL dX8_areTales_15 rfl (by omega) (hK _ (by omega))

set_option maxHeartbeats 4000000 in
set_option maxRecDepth 20000 in
theorem m_X8_isPlace {K : Option xV → xW → xM → Prop} {μ : xM} (t : Int) (h : xrg t) (hK : ∀ r, (0 ≤ t ∧ t ≤ 7 ∧ r = 1) ∨ (¬ (0 ≤ t ∧ t ≤ 7) ∧ r = 0) → K (some (xI r)) WW μ) : xMet yX8_isPlace cX8_isPlace 1 (some .boolean) 1 22 0 0 [xI t] WW μ K := by
  refine xMet.go RX8 "isPlace" rfl rfl (by decide) [some (xI t)] (Nat.le_of_ble_eq_true rfl) rfl (fun X hL => ?_)
  refine r_iload_n hL (x := t) dX8_isPlace_0 rfl ?_
  refine r_iconst hL dX8_isPlace_1 ?_
  refine r_bipush hL dX8_isPlace_2 (by decide) ?_
  refine r_callS hL (st := []) (av := [xI t, xI 0, xI 7]) (m_X8_in (μ := μ) t (by omega) 0 (by omega) 7 (by omega) (fun z4 hc4 => ⟨rfl, ?_⟩)) ce_yX8_in sm_yX8_in ml_X8_62 dX8_isPlace_4 rfl (Nat.le_of_ble_eq_true rfl) ⟨Nat.le_of_ble_eq_true rfl, Nat.le_of_ble_eq_true rfl⟩ ⟨Nat.le_of_ble_eq_true rfl, Nat.le_of_ble_eq_true rfl⟩
  show X 0 0 WW μ 7 [some (xI t)] [xI z4]
  exact r_zret hL dX8_isPlace_7 rfl (by omega) (hK _ (by omega))

set_option maxHeartbeats 4000000 in
set_option maxRecDepth 20000 in
theorem m_X8_nodesMany {K : Option xV → xW → xM → Prop} {μ : xM} (hB0 : BI μ)  (hK : ∀ r, 0 ≤ r ∧ r ≤ 7 → (0 < μ 121 0 → r = μ 121 0 - 1) → (μ 121 0 = 0 → r = 0) → K (some (xI r)) WW μ) : xMet yX8_nodesMany cX8_nodesMany 1 (some .int) 0 0 0 0 [xR 120] WW μ K := by
  refine xMet.go RX8 "nodesMany" rfl rfl (by decide) [some (xR 120)] (Nat.le_of_ble_eq_true rfl) rfl (fun X hL => ?_)
  have hB := hB0
  refine r_aload_n hL (x := 120) dX8_nodesMany_0 rfl ?_
  refine r_getr hL xcl8 0 (by decide) s_120 (by decide) fl_X8_7 (by decide) f_120_0 dX8_nodesMany_1 ?_
  refine r_iconst hL dX8_nodesMany_4 ?_
  refine r_iald hL dX8_nodesMany_5 (by decide) s_121 (by decide) (by omega) (by omega) (fun hr5 => ?_)
  obtain ⟨z5, hz5⟩ : ∃ z, z = μ 121 0 := ⟨_, rfl⟩
  rw [← hz5] at hr5 ⊢
  have hb5 : 0 ≤ μ 121 0 ∧ μ 121 0 ≤ 8 := (show ((0 : Int) = 0 → 0 ≤ (μ 121 0) ∧ (μ 121 0) ≤ 8) ∧ ((0 : Int) = 1 → 0 ≤ (μ 121 0) ∧ (μ 121 0) ≤ 2) ∧ (2 ≤ (0 : Int) ∧ (0 : Int) ≤ 5 → 0 ≤ (μ 121 0) ∧ (μ 121 0) ≤ 9) ∧ (6 ≤ (0 : Int) ∧ (0 : Int) ≤ 13 → 0 ≤ (μ 121 0) ∧ (μ 121 0) ≤ 10) ∧ (30 ≤ (0 : Int) → 0 ≤ (μ 121 0) ∧ (μ 121 0) ≤ 7) from hB 121 0).1 (by omega)
  refine r_if_le hL (tgt := 20) dX8_nodesMany_6 (by decide) (by omega) (fun c6 => ?_) (fun c6 => ?_)
  · skip
    refine r_iconst hL dX8_nodesMany_20 ?_
    exact r_iret hL dX8_nodesMany_21 rfl (hK _ (by omega) (by omega) (by omega))
  · skip
    refine r_aload_n hL (x := 120) dX8_nodesMany_9 rfl ?_
    refine r_getr hL xcl8 0 (by decide) s_120 (by decide) fl_X8_7 (by decide) f_120_0 dX8_nodesMany_10 ?_
    refine r_iconst hL dX8_nodesMany_13 ?_
    refine r_iald hL dX8_nodesMany_14 (by decide) s_121 (by decide) (by omega) (by omega) (fun hr14 => ?_)
    obtain ⟨z14, hz14⟩ : ∃ z, z = μ 121 0 := ⟨_, rfl⟩
    rw [← hz14] at hr14 ⊢
    have hb14 : 0 ≤ μ 121 0 ∧ μ 121 0 ≤ 8 := (show ((0 : Int) = 0 → 0 ≤ (μ 121 0) ∧ (μ 121 0) ≤ 8) ∧ ((0 : Int) = 1 → 0 ≤ (μ 121 0) ∧ (μ 121 0) ≤ 2) ∧ (2 ≤ (0 : Int) ∧ (0 : Int) ≤ 5 → 0 ≤ (μ 121 0) ∧ (μ 121 0) ≤ 9) ∧ (6 ≤ (0 : Int) ∧ (0 : Int) ≤ 13 → 0 ≤ (μ 121 0) ∧ (μ 121 0) ≤ 10) ∧ (30 ≤ (0 : Int) → 0 ≤ (μ 121 0) ∧ (μ 121 0) ≤ 7) from hB 121 0).1 (by omega)
    refine r_iconst hL dX8_nodesMany_15 ?_
    refine r_isub hL dX8_nodesMany_16 ?_
    refine r_goto hL (tgt := 21) dX8_nodesMany_17 (by decide) ?_
    exact r_iret hL dX8_nodesMany_21 rfl (hK _ (by omega) (by omega) (by omega))

set_option maxHeartbeats 4000000 in
set_option maxRecDepth 20000 in
theorem m_X8_bring {K : Option xV → xW → xM → Prop} {μ : xM} (f lf : Nat) (h_fk : f < WW.1) (h_fs : WW.2.1 f = (1, lf)) (h_fl : lf ≤ 10000) (i : Int) (t lt : Nat) (h_tk : t < WW.1) (h_ts : WW.2.1 t = (1, lt)) (h_tl : lt ≤ 10000) (j n : Int) (hn : xrg n) (hr : 0 ≤ i ∧ 0 ≤ j ∧ (0 < n → i + n ≤ lf ∧ j + n ≤ lt)) (hft : f = t → j ≤ i) (hK : ∀ μ', μ' = xbr μ f i t j n → K none WW μ') : xMet yX8_bring cX8_bring 6 none 0 0 0 0 [xR f, xI i, xR t, xI j, xI n] WW μ K := by
  refine xMet.go RX8 "bring" rfl rfl (by decide) [some (xR f), some (xI i), some (xR t), some (xI j), some (xI n), none] (Nat.le_of_ble_eq_true rfl) rfl (fun X hL => ?_)
  refine r_iconst hL dX8_bring_0 ?_
  refine r_istore hL (lo' := [some (xR f), some (xI i), some (xR t), some (xI j), some (xI n), some (xI 0)]) dX8_bring_1 (by decide) rfl ?_
  have lp3 : ∀ (n3 : Nat) (k : Int) (μ103 : xM), (μ103 = xbr μ f i t j k) → (0 ≤ k ∧ (k ≤ n ∨ k = 0)) → ((n - k).toNat) < n3 → X 0 0 WW μ103 3 [some (xR f), some (xI i), some (xR t), some (xI j), some (xI n), some (xI k)] [] := by
    intro n3
    induction n3 with
    | zero => intro k μ103 h1 h2 hn; exact absurd hn (Nat.not_lt_zero _)
    | succ n3 ih3 =>
      intro k μ103 h1 h2 hn3
      refine r_iload hL (x := k) dX8_bring_3 rfl ?_
      refine r_iload hL (x := n) dX8_bring_5 rfl ?_
      refine r_icmp_ge hL (tgt := 28) dX8_bring_7 (by decide) (by omega) (by omega) (fun c7 => ?_) (fun c7 => ?_)
      · skip
        exact r_vret hL dX8_bring_28 rfl (hK _ (by rw [h1]; exact xbr_eq (by omega)))
      · skip
        refine r_aload_n hL (x := t) dX8_bring_10 rfl ?_
        refine r_iload_n hL (x := j) dX8_bring_11 rfl ?_
        refine r_iload hL (x := k) dX8_bring_12 rfl ?_
        refine r_iadd hL dX8_bring_14 ?_
        refine r_aload_n hL (x := f) dX8_bring_15 rfl ?_
        refine r_iload_n hL (x := i) dX8_bring_16 rfl ?_
        refine r_iload hL (x := k) dX8_bring_17 rfl ?_
        refine r_iadd hL dX8_bring_19 ?_
        refine r_iald hL dX8_bring_20 h_fk h_fs (by omega) (by omega) (by omega) (fun hr20 => ?_)
        obtain ⟨z20, hz20⟩ : ∃ z, z = μ103 f (i + k) := ⟨_, rfl⟩
        rw [← hz20] at hr20 ⊢
        refine r_iast hL dX8_bring_21 h_tk h_ts (by omega) (by omega) (by omega) (by omega) (fun μ1 hm1 => ?_)
        refine r_iinc hL (x := k) (lo' := [some (xR f), some (xI i), some (xR t), some (xI j), some (xI n), some (xI (k + 1))]) dX8_bring_22 (by decide) rfl rfl ?_
        refine r_goto hL (tgt := 3) dX8_bring_25 (by decide) ?_
        exact ih3 (k + 1) μ1 (by rw [hm1, hz20, h1]; exact xbr_step hft h2.1) (by omega) (by omega)
  exact lp3 _ 0 μ (xbr_0 (Int.le_refl 0)).symm (by omega) (Nat.lt_succ_self _)

set_option maxHeartbeats 4000000 in
set_option maxRecDepth 20000 in
theorem m_X8_takes {K : Option xV → xW → xM → Prop} {μ : xM} (hB0 : BI μ) (t : Int) (ht : 0 ≤ t ∧ t ≤ 7) (u : Int) (hu : 0 ≤ u ∧ u ≤ 7) (hK : ∀ μ', BI μ' → Fr RM μ μ' → K none WW μ') : xMet yX8_takes cX8_takes 3 none 1 25 0 0 [xR 120, xI t, xI u] WW μ K := by
  refine xMet.go RX8 "takes" rfl rfl (by decide) [some (xR 120), some (xI t), some (xI u)] (Nat.le_of_ble_eq_true rfl) rfl (fun X hL => ?_)
  have hB := hB0
  have hF : Fr RM μ μ := Fr.rf
  refine r_aload_n hL (x := 120) dX8_takes_0 rfl ?_
  refine r_aload_n hL (x := 120) dX8_takes_1 rfl ?_
  refine r_getr hL xcl8 0 (by decide) s_120 (by decide) fl_X8_7 (by decide) f_120_0 dX8_takes_2 ?_
  refine r_bipush hL dX8_takes_5 (by decide) ?_
  refine r_iload_n hL (x := t) dX8_takes_7 rfl ?_
  refine r_iadd hL dX8_takes_8 ?_
  refine r_iald hL dX8_takes_9 (by decide) s_121 (by decide) (by omega) (by omega) (fun hr9 => ?_)
  obtain ⟨z9, hz9⟩ : ∃ z, z = μ 121 (6 + t) := ⟨_, rfl⟩
  rw [← hz9] at hr9 ⊢
  have hb9 : 0 ≤ μ 121 (6 + t) ∧ μ 121 (6 + t) ≤ 10 := (show ((6 + t) = 0 → 0 ≤ (μ 121 (6 + t)) ∧ (μ 121 (6 + t)) ≤ 8) ∧ ((6 + t) = 1 → 0 ≤ (μ 121 (6 + t)) ∧ (μ 121 (6 + t)) ≤ 2) ∧ (2 ≤ (6 + t) ∧ (6 + t) ≤ 5 → 0 ≤ (μ 121 (6 + t)) ∧ (μ 121 (6 + t)) ≤ 9) ∧ (6 ≤ (6 + t) ∧ (6 + t) ≤ 13 → 0 ≤ (μ 121 (6 + t)) ∧ (μ 121 (6 + t)) ≤ 10) ∧ (30 ≤ (6 + t) → 0 ≤ (μ 121 (6 + t)) ∧ (μ 121 (6 + t)) ≤ 7) from hB 121 (6 + t)).2.2.2.1 (by omega)
  refine r_puti hL xcl8 11 (j' := 11) rfl (by decide) s_120 (by decide) fl_X8_66 rfl rfl (by omega) dX8_takes_10 (fun μ1 hm1 => ?_)
  have hB1 : BI μ1 := by rw [hm1]; exact hB.up (by show ((11 : Int) = 2 → 0 ≤ z9 ∧ z9 ≤ 16) ∧ ((11 : Int) = 6 → 0 ≤ z9 ∧ z9 ≤ 10) ∧ ((11 : Int) = 8 → 0 ≤ z9 ∧ z9 ≤ 20) ∧ ((11 : Int) = 9 → 0 ≤ z9 ∧ z9 ≤ 2147483647) ∧ ((11 : Int) = 11 → 0 ≤ z9 ∧ z9 ≤ 10) ∧ ((11 : Int) = 13 → 0 ≤ z9 ∧ z9 ≤ 10) ∧ ((11 : Int) = 20 → 0 ≤ z9 ∧ z9 ≤ 8); omega)
  have hF1 : Fr RM μ μ1 := by rw [hm1]; exact hF.up (by unfold RM; omega)
  have hk1_120_11 : μ1 120 11 = z9 := by rw [hm1]; exact xup_s _ _ _ _
  have hk1_120_13 : μ1 120 13 = μ 120 13 := by rw [hm1]; exact xup_j (by omega)
  refine r_aload_n hL (x := 120) dX8_takes_13 rfl ?_
  refine r_aload_n hL (x := 120) dX8_takes_14 rfl ?_
  refine r_getr hL xcl8 0 (by decide) s_120 (by decide) fl_X8_7 (by decide) f_120_0 dX8_takes_15 ?_
  refine r_bipush hL dX8_takes_18 (by decide) ?_
  refine r_iload_n hL (x := u) dX8_takes_20 rfl ?_
  refine r_iadd hL dX8_takes_21 ?_
  refine r_iald hL dX8_takes_22 (by decide) s_121 (by decide) (by omega) (by omega) (fun hr22 => ?_)
  obtain ⟨z22, hz22⟩ : ∃ z, z = μ1 121 (6 + u) := ⟨_, rfl⟩
  rw [← hz22] at hr22 ⊢
  have hb22 : 0 ≤ μ1 121 (6 + u) ∧ μ1 121 (6 + u) ≤ 10 := (show ((6 + u) = 0 → 0 ≤ (μ1 121 (6 + u)) ∧ (μ1 121 (6 + u)) ≤ 8) ∧ ((6 + u) = 1 → 0 ≤ (μ1 121 (6 + u)) ∧ (μ1 121 (6 + u)) ≤ 2) ∧ (2 ≤ (6 + u) ∧ (6 + u) ≤ 5 → 0 ≤ (μ1 121 (6 + u)) ∧ (μ1 121 (6 + u)) ≤ 9) ∧ (6 ≤ (6 + u) ∧ (6 + u) ≤ 13 → 0 ≤ (μ1 121 (6 + u)) ∧ (μ1 121 (6 + u)) ≤ 10) ∧ (30 ≤ (6 + u) → 0 ≤ (μ1 121 (6 + u)) ∧ (μ1 121 (6 + u)) ≤ 7) from hB1 121 (6 + u)).2.2.2.1 (by omega)
  refine r_puti hL xcl8 13 (j' := 13) rfl (by decide) s_120 (by decide) fl_X8_70 rfl rfl (by omega) dX8_takes_23 (fun μ2 hm2 => ?_)
  have hB2 : BI μ2 := by rw [hm2]; exact hB1.up (by show ((13 : Int) = 2 → 0 ≤ z22 ∧ z22 ≤ 16) ∧ ((13 : Int) = 6 → 0 ≤ z22 ∧ z22 ≤ 10) ∧ ((13 : Int) = 8 → 0 ≤ z22 ∧ z22 ≤ 20) ∧ ((13 : Int) = 9 → 0 ≤ z22 ∧ z22 ≤ 2147483647) ∧ ((13 : Int) = 11 → 0 ≤ z22 ∧ z22 ≤ 10) ∧ ((13 : Int) = 13 → 0 ≤ z22 ∧ z22 ≤ 10) ∧ ((13 : Int) = 20 → 0 ≤ z22 ∧ z22 ≤ 8); omega)
  have hF2 : Fr RM μ μ2 := by rw [hm2]; exact hF1.up (by unfold RM; omega)
  have hk2_120_11 : μ2 120 11 = μ1 120 11 := by rw [hm2]; exact xup_j (by omega)
  have hk2_120_13 : μ2 120 13 = z22 := by rw [hm2]; exact xup_s _ _ _ _
  refine r_aload_n hL (x := 120) dX8_takes_26 rfl ?_
  refine r_getr hL xcl8 0 (by decide) s_120 (by decide) fl_X8_7 (by decide) f_120_0 dX8_takes_27 ?_
  refine r_bipush hL dX8_takes_30 (by decide) ?_
  refine r_bipush hL dX8_takes_32 (by decide) ?_
  refine r_iload_n hL (x := t) dX8_takes_34 rfl ?_
  refine r_imul hL dX8_takes_35 ?_
  refine r_iadd hL dX8_takes_36 ?_
  refine r_aload_n hL (x := 120) dX8_takes_37 rfl ?_
  refine r_getr hL xcl8 10 (by decide) s_120 (by decide) fl_X8_29 (by decide) f_120_10 dX8_takes_38 ?_
  refine r_iconst hL dX8_takes_41 ?_
  refine r_aload_n hL (x := 120) dX8_takes_42 rfl ?_
  refine r_geti hL xcl8 11 (j' := 11) rfl (by decide) s_120 (by decide) fl_X8_66 (by decide) (by decide) dX8_takes_43 (fun hr43 => ?_)
  obtain ⟨z43, hz43⟩ : ∃ z, z = μ2 120 11 := ⟨_, rfl⟩
  rw [← hz43] at hr43 ⊢
  have hb43 : 0 ≤ μ2 120 11 ∧ μ2 120 11 ≤ 10 := (show ((11 : Int) = 2 → 0 ≤ (μ2 120 11) ∧ (μ2 120 11) ≤ 16) ∧ ((11 : Int) = 6 → 0 ≤ (μ2 120 11) ∧ (μ2 120 11) ≤ 10) ∧ ((11 : Int) = 8 → 0 ≤ (μ2 120 11) ∧ (μ2 120 11) ≤ 20) ∧ ((11 : Int) = 9 → 0 ≤ (μ2 120 11) ∧ (μ2 120 11) ≤ 2147483647) ∧ ((11 : Int) = 11 → 0 ≤ (μ2 120 11) ∧ (μ2 120 11) ≤ 10) ∧ ((11 : Int) = 13 → 0 ≤ (μ2 120 11) ∧ (μ2 120 11) ≤ 10) ∧ ((11 : Int) = 20 → 0 ≤ (μ2 120 11) ∧ (μ2 120 11) ≤ 8) from hB2 120 11).2.2.2.2.1 (by omega)
  refine r_callS hL (st := []) (av := [xR 121, xI (30 + (10 * t)), xR 127, xI 0, xI z43]) (m_X8_bring (μ := μ2) 121 110 (by decide) s_121 (by decide) (30 + (10 * t)) 127 10 (by decide) s_127 (by decide) 0 z43 (by omega) (by omega) (fun h => absurd h (by decide)) (fun μ46c hm46c => ⟨rfl, ?_⟩)) ce_yX8_bring sm_yX8_bring ml_X8_73 dX8_takes_46 rfl (Nat.le_of_ble_eq_true rfl) ⟨Nat.le_of_ble_eq_true rfl, Nat.le_of_ble_eq_true rfl⟩ ⟨Nat.le_of_ble_eq_true rfl, Nat.le_of_ble_eq_true rfl⟩
  show X 0 0 WW μ46c 49 [some (xR 120), some (xI t), some (xI u)] []
  have hB46c : BI μ46c := by rw [hm46c]; exact hB2.br (fun k hk0 hk1 => by have hq : (((30 + (10 * t)) + k) = 0 → 0 ≤ (μ2 121 ((30 + (10 * t)) + k)) ∧ (μ2 121 ((30 + (10 * t)) + k)) ≤ 8) ∧ (((30 + (10 * t)) + k) = 1 → 0 ≤ (μ2 121 ((30 + (10 * t)) + k)) ∧ (μ2 121 ((30 + (10 * t)) + k)) ≤ 2) ∧ (2 ≤ ((30 + (10 * t)) + k) ∧ ((30 + (10 * t)) + k) ≤ 5 → 0 ≤ (μ2 121 ((30 + (10 * t)) + k)) ∧ (μ2 121 ((30 + (10 * t)) + k)) ≤ 9) ∧ (6 ≤ ((30 + (10 * t)) + k) ∧ ((30 + (10 * t)) + k) ≤ 13 → 0 ≤ (μ2 121 ((30 + (10 * t)) + k)) ∧ (μ2 121 ((30 + (10 * t)) + k)) ≤ 10) ∧ (30 ≤ ((30 + (10 * t)) + k) → 0 ≤ (μ2 121 ((30 + (10 * t)) + k)) ∧ (μ2 121 ((30 + (10 * t)) + k)) ≤ 7) := hB2 121 _; show 0 ≤ (μ2 121 ((30 + (10 * t)) + k)) ∧ (μ2 121 ((30 + (10 * t)) + k)) ≤ 7; omega)
  have hF46c : Fr RM μ μ46c := by rw [hm46c]; exact hF2.br (fun b _ _ => by unfold RM; omega)
  have hk46c_120_11 : μ46c 120 11 = μ2 120 11 := by rw [hm46c]; exact congrFun (xbr_c (by decide)) _
  have hk46c_120_13 : μ46c 120 13 = μ2 120 13 := by rw [hm46c]; exact congrFun (xbr_c (by decide)) _
  refine r_aload_n hL (x := 120) dX8_takes_49 rfl ?_
  refine r_getr hL xcl8 0 (by decide) s_120 (by decide) fl_X8_7 (by decide) f_120_0 dX8_takes_50 ?_
  refine r_bipush hL dX8_takes_53 (by decide) ?_
  refine r_bipush hL dX8_takes_55 (by decide) ?_
  refine r_iload_n hL (x := u) dX8_takes_57 rfl ?_
  refine r_imul hL dX8_takes_58 ?_
  refine r_iadd hL dX8_takes_59 ?_
  refine r_aload_n hL (x := 120) dX8_takes_60 rfl ?_
  refine r_getr hL xcl8 12 (by decide) s_120 (by decide) fl_X8_32 (by decide) f_120_12 dX8_takes_61 ?_
  refine r_iconst hL dX8_takes_64 ?_
  refine r_aload_n hL (x := 120) dX8_takes_65 rfl ?_
  refine r_geti hL xcl8 13 (j' := 13) rfl (by decide) s_120 (by decide) fl_X8_70 (by decide) (by decide) dX8_takes_66 (fun hr66 => ?_)
  obtain ⟨z66, hz66⟩ : ∃ z, z = μ46c 120 13 := ⟨_, rfl⟩
  rw [← hz66] at hr66 ⊢
  have hb66 : 0 ≤ μ46c 120 13 ∧ μ46c 120 13 ≤ 10 := (show ((13 : Int) = 2 → 0 ≤ (μ46c 120 13) ∧ (μ46c 120 13) ≤ 16) ∧ ((13 : Int) = 6 → 0 ≤ (μ46c 120 13) ∧ (μ46c 120 13) ≤ 10) ∧ ((13 : Int) = 8 → 0 ≤ (μ46c 120 13) ∧ (μ46c 120 13) ≤ 20) ∧ ((13 : Int) = 9 → 0 ≤ (μ46c 120 13) ∧ (μ46c 120 13) ≤ 2147483647) ∧ ((13 : Int) = 11 → 0 ≤ (μ46c 120 13) ∧ (μ46c 120 13) ≤ 10) ∧ ((13 : Int) = 13 → 0 ≤ (μ46c 120 13) ∧ (μ46c 120 13) ≤ 10) ∧ ((13 : Int) = 20 → 0 ≤ (μ46c 120 13) ∧ (μ46c 120 13) ≤ 8) from hB46c 120 13).2.2.2.2.2.1 (by omega)
  refine r_callS hL (st := []) (av := [xR 121, xI (30 + (10 * u)), xR 128, xI 0, xI z66]) (m_X8_bring (μ := μ46c) 121 110 (by decide) s_121 (by decide) (30 + (10 * u)) 128 10 (by decide) s_128 (by decide) 0 z66 (by omega) (by omega) (fun h => absurd h (by decide)) (fun μ69c hm69c => ⟨rfl, ?_⟩)) ce_yX8_bring sm_yX8_bring ml_X8_73 dX8_takes_69 rfl (Nat.le_of_ble_eq_true rfl) ⟨Nat.le_of_ble_eq_true rfl, Nat.le_of_ble_eq_true rfl⟩ ⟨Nat.le_of_ble_eq_true rfl, Nat.le_of_ble_eq_true rfl⟩
  show X 0 0 WW μ69c 72 [some (xR 120), some (xI t), some (xI u)] []
  have hB69c : BI μ69c := by rw [hm69c]; exact hB46c.br (fun k hk0 hk1 => by have hq : (((30 + (10 * u)) + k) = 0 → 0 ≤ (μ46c 121 ((30 + (10 * u)) + k)) ∧ (μ46c 121 ((30 + (10 * u)) + k)) ≤ 8) ∧ (((30 + (10 * u)) + k) = 1 → 0 ≤ (μ46c 121 ((30 + (10 * u)) + k)) ∧ (μ46c 121 ((30 + (10 * u)) + k)) ≤ 2) ∧ (2 ≤ ((30 + (10 * u)) + k) ∧ ((30 + (10 * u)) + k) ≤ 5 → 0 ≤ (μ46c 121 ((30 + (10 * u)) + k)) ∧ (μ46c 121 ((30 + (10 * u)) + k)) ≤ 9) ∧ (6 ≤ ((30 + (10 * u)) + k) ∧ ((30 + (10 * u)) + k) ≤ 13 → 0 ≤ (μ46c 121 ((30 + (10 * u)) + k)) ∧ (μ46c 121 ((30 + (10 * u)) + k)) ≤ 10) ∧ (30 ≤ ((30 + (10 * u)) + k) → 0 ≤ (μ46c 121 ((30 + (10 * u)) + k)) ∧ (μ46c 121 ((30 + (10 * u)) + k)) ≤ 7) := hB46c 121 _; show 0 ≤ (μ46c 121 ((30 + (10 * u)) + k)) ∧ (μ46c 121 ((30 + (10 * u)) + k)) ≤ 7; omega)
  have hF69c : Fr RM μ μ69c := by rw [hm69c]; exact hF46c.br (fun b _ _ => by unfold RM; omega)
  have hk69c_120_11 : μ69c 120 11 = μ46c 120 11 := by rw [hm69c]; exact congrFun (xbr_c (by decide)) _
  have hk69c_120_13 : μ69c 120 13 = μ46c 120 13 := by rw [hm69c]; exact congrFun (xbr_c (by decide)) _
  exact r_vret hL dX8_takes_72 rfl (hK _ hB69c hF69c)
