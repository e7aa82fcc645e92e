set_option maxHeartbeats 4000000 in
set_option maxRecDepth 20000 in
theorem m_X5_motifsOfAll {K : Option xV → xW → xM → Prop} {μ : xM} (hB0 : BI μ) (s : Int) (hs : xrg s) (hK : ∀ r, r = mal s (fun t => mos (cmot (μ 2 t)) (μ 2 t / 4294967296).toNat) (μ 1 4).toNat → xrg r → K (some (xI r)) WW μ) : xMet yX5_motifsOfAll cX5_motifsOfAll 4 (some .int) 2 45 0 0 [xR 1, xI s] WW μ K := by
  refine xMet.go RX5 "motifsOfAll" rfl rfl (by decide) [some (xR 1), some (xI s), none, none] (Nat.le_of_ble_eq_true rfl) rfl (fun X hL => ?_)
  have hB := hB0
  have hm4 : 0 ≤ μ 1 4 ∧ μ 1 4 ≤ 8 := (show ((4 : Int) = 4 → 0 ≤ (μ 1 4) ∧ (μ 1 4) ≤ 8) ∧ ((4 : Int) = 5 → 0 ≤ (μ 1 4) ∧ (μ 1 4) ≤ 2) from hB 1 4).1 (by omega)
  refine r_sipush hL dX5_motifsOfAll_0 (by decide) ?_
  refine r_istore_n hL (lo' := [some (xR 1), some (xI s), some (xI 255), none]) dX5_motifsOfAll_3 (by decide) rfl ?_
  refine r_iconst hL dX5_motifsOfAll_4 ?_
  refine r_istore_n hL (lo' := [some (xR 1), some (xI s), some (xI 255), some (xI 0)]) dX5_motifsOfAll_5 (by decide) rfl ?_
  have lp6 : ∀ (n6 : Nat) (u : Int) (t : Int), (xrg u) → (0 ≤ t ∧ t ≤ 8) → (u = mal s (fun t => mos (cmot (μ 2 t)) (μ 2 t / 4294967296).toNat) t.toNat) → (t ≤ μ 1 4) → ((8 - t).toNat) < n6 → X 0 0 WW μ 6 [some (xR 1), some (xI s), some (xI u), some (xI t)] [] := by
    intro n6
    induction n6 with
    | zero => intro u t h1 h2 h3 h4 hn; exact absurd hn (Nat.not_lt_zero _)
    | succ n6 ih6 =>
      intro u t h1 h2 h3 h4 hn6
      refine r_iload_n hL (x := t) dX5_motifsOfAll_6 rfl ?_
      refine r_aload_n hL (x := 1) dX5_motifsOfAll_7 rfl ?_
      refine r_geti hL xcl5 4 (j' := 4) rfl (by decide) s_1 (by decide) fl_X5_25 (by decide) (by decide) dX5_motifsOfAll_8 (fun hr8 => ?_)
      obtain ⟨z8, hz8⟩ : ∃ z, z = μ 1 4 := ⟨_, rfl⟩
      rw [← hz8] at hr8 ⊢
      have hb8 : 0 ≤ μ 1 4 ∧ μ 1 4 ≤ 8 := (show ((4 : Int) = 4 → 0 ≤ (μ 1 4) ∧ (μ 1 4) ≤ 8) ∧ ((4 : Int) = 5 → 0 ≤ (μ 1 4) ∧ (μ 1 4) ≤ 2) from hB 1 4).1 (by omega)
      refine r_icmp_ge hL (tgt := 41) dX5_motifsOfAll_11 (by decide) (by omega) (by omega) (fun c11 => ?_) (fun c11 => ?_)
      · skip
        refine r_iload_n hL (x := u) dX5_motifsOfAll_41 rfl ?_
        exact r_iret hL dX5_motifsOfAll_42 rfl (hK _ (by rw [h3, show t = μ 1 4 by omega]) (by omega))
      · skip
        refine r_iload_n hL (x := s) dX5_motifsOfAll_14 rfl ?_
        refine r_iload_n hL (x := t) dX5_motifsOfAll_15 rfl ?_
        refine r_ishr hL dX5_motifsOfAll_16 ?_
        obtain ⟨z16, hz16⟩ : ∃ z, z = xshr s t := ⟨_, rfl⟩
        rw [← hz16]
        have hr16 : xrg z16 := by rw [hz16]; exact xshr_rg _ _
        refine r_iconst hL dX5_motifsOfAll_17 ?_
        refine r_iand hL dX5_motifsOfAll_18 ?_
        obtain ⟨z18, hz18⟩ : ∃ z, z = xand z16 1 := ⟨_, rfl⟩
        rw [← hz18]
        have hr18 : xrg z18 := by rw [hz18]; exact xand_rg _ _
        refine r_iconst hL dX5_motifsOfAll_19 ?_
        refine r_icmp_ne hL (tgt := 35) dX5_motifsOfAll_20 (by decide) (by omega) (by omega) (fun c20 => ?_) (fun c20 => ?_)
        · skip
          refine r_iinc hL (x := t) (lo' := [some (xR 1), some (xI s), some (xI u), some (xI (t + 1))]) dX5_motifsOfAll_35 (by decide) rfl rfl ?_
          refine r_goto hL (tgt := 6) dX5_motifsOfAll_38 (by decide) ?_
          exact ih6 u (t + 1) (by omega) (by omega) (mal_up h3 (by omega) (by first | exact Or.inl ⟨by rw [← hz16, ← hz18]; omega, by rw [hz33, heq30, hz29]⟩ | exact Or.inr ⟨by rw [← hz16, ← hz18]; omega, rfl⟩)) (by omega) (by omega)
        · skip
          refine r_iload_n hL (x := u) dX5_motifsOfAll_23 rfl ?_
          refine r_aload_n hL (x := 1) dX5_motifsOfAll_24 rfl ?_
          refine r_getr hL xcl5 0 (by decide) s_1 (by decide) fl_X5_9 (by decide) f_1_0 dX5_motifsOfAll_25 ?_
          refine r_iload_n hL (x := t) dX5_motifsOfAll_28 rfl ?_
          refine r_lald hL dX5_motifsOfAll_29 (by decide) s_2 (by decide) (by omega) (by omega) (fun hr29 => ?_)
          obtain ⟨z29, hz29⟩ : ∃ z, z = μ 2 t := ⟨_, rfl⟩
          rw [← hz29] at hr29 ⊢
          have hb29 : 0 ≤ (μ 2 t) ∧ (μ 2 t) ≤ 47244640255 := hB 2 t
          refine r_callSN hL (st := [xI u]) (av := [xL z29]) (m_X7_motifsOf (μ := μ) z29 (by omega) (by omega) (fun z30 heq30 hc30 => ⟨rfl, ?_⟩)) ce_yX7_motifsOf sm_yX7_motifsOf ml_X5_44 dX5_motifsOfAll_30 rfl (Nat.le_of_ble_eq_true rfl) ⟨Nat.le_of_ble_eq_true rfl, Nat.le_of_ble_eq_true rfl⟩ ⟨Nat.le_of_ble_eq_true rfl, Nat.le_of_ble_eq_true rfl⟩
          show X 0 0 WW μ 33 [some (xR 1), some (xI s), some (xI u), some (xI t)] [xI z30, xI u]
          refine r_iand hL dX5_motifsOfAll_33 ?_
          obtain ⟨z33, hz33⟩ : ∃ z, z = xand u z30 := ⟨_, rfl⟩
          rw [← hz33]
          have hr33 : xrg z33 := by rw [hz33]; exact xand_rg _ _
          refine r_istore_n hL (lo' := [some (xR 1), some (xI s), some (xI z33), some (xI t)]) dX5_motifsOfAll_34 (by decide) rfl ?_
          refine r_iinc hL (x := t) (lo' := [some (xR 1), some (xI s), some (xI z33), some (xI (t + 1))]) dX5_motifsOfAll_35 (by decide) rfl rfl ?_
          refine r_goto hL (tgt := 6) dX5_motifsOfAll_38 (by decide) ?_
          exact ih6 z33 (t + 1) (by omega) (by omega) (mal_up h3 (by omega) (by first | exact Or.inl ⟨by rw [← hz16, ← hz18]; omega, by rw [hz33, heq30, hz29]⟩ | exact Or.inr ⟨by rw [← hz16, ← hz18]; omega, rfl⟩)) (by omega) (by omega)
  exact lp6 _ 255 0 (by omega) (by omega) rfl (by omega) (Nat.lt_succ_self _)

set_option maxHeartbeats 4000000 in
set_option maxRecDepth 20000 in
theorem m_X2_between {K : Option xV → xW → xM → Prop} {μ : xM} (hB0 : BI μ) (t : Int) (ht : 0 ≤ t ∧ t ≤ 7) (u : Int) (hu : 0 ≤ u ∧ u ≤ 7) (hK : ∀ r, r = μ 101 (t * 8 + u) → 0 ≤ r ∧ r ≤ 180 → K (some (xI r)) WW μ) : xMet yX2_between cX2_between 3 (some .int) 0 0 0 0 [xR 100, xI t, xI u] WW μ K := by
  refine xMet.go RX2 "between" rfl rfl (by decide) [some (xR 100), some (xI t), some (xI u)] (Nat.le_of_ble_eq_true rfl) rfl (fun X hL => ?_)
  have hB := hB0
  refine r_aload_n hL (x := 100) dX2_between_0 rfl ?_
  refine r_getr hL xcl2 0 (by decide) s_100 (by decide) fl_X2_9 (by decide) f_100_0 dX2_between_1 ?_
  refine r_iload_n hL (x := t) dX2_between_4 rfl ?_
  refine r_bipush hL dX2_between_5 (by decide) ?_
  refine r_imul hL dX2_between_7 ?_
  refine r_iload_n hL (x := u) dX2_between_8 rfl ?_
  refine r_iadd hL dX2_between_9 ?_
  refine r_iald hL dX2_between_10 (by decide) s_101 (by decide) (by omega) (by omega) (fun hr10 => ?_)
  obtain ⟨z10, hz10⟩ : ∃ z, z = μ 101 ((t * 8) + u) := ⟨_, rfl⟩
  rw [← hz10] at hr10 ⊢
  have hb10 : 0 ≤ (μ 101 ((t * 8) + u)) ∧ (μ 101 ((t * 8) + u)) ≤ 180 := hB 101 ((t * 8) + u)
  exact r_iret hL dX2_between_11 rfl (hK _ hz10 (by omega))

set_option maxHeartbeats 4000000 in
set_option maxRecDepth 20000 in
theorem m_X2_sumTo {K : Option xV → xW → xM → Prop} {μ : xM} (hB0 : BI μ) (t : Int) (ht : 0 ≤ t ∧ t ≤ 7) (s : Int) (hs : xrg s) (hK : ∀ r, 0 ≤ r ∧ r ≤ 1440 → K (some (xI r)) WW μ) : xMet yX2_sumTo cX2_sumTo 5 (some .int) 1 22 0 0 [xR 100, xI t, xI s] WW μ K := by
  refine xMet.go RX2 "sumTo" rfl rfl (by decide) [some (xR 100), some (xI t), some (xI s), none, none] (Nat.le_of_ble_eq_true rfl) rfl (fun X hL => ?_)
  have hB := hB0
  refine r_iconst hL dX2_sumTo_0 ?_
  refine r_istore_n hL (lo' := [some (xR 100), some (xI t), some (xI s), some (xI 0), none]) dX2_sumTo_1 (by decide) rfl ?_
  refine r_iconst hL dX2_sumTo_2 ?_
  refine r_istore hL (lo' := [some (xR 100), some (xI t), some (xI s), some (xI 0), some (xI 0)]) dX2_sumTo_3 (by decide) rfl ?_
  have lp5 : ∀ (n5 : Nat) (n : Int) (u : Int), (0 ≤ n ∧ n ≤ 180 * u) → (0 ≤ u ∧ u ≤ 8) → ((8 - u).toNat) < n5 → X 0 0 WW μ 5 [some (xR 100), some (xI t), some (xI s), some (xI n), some (xI u)] [] := by
    intro n5
    induction n5 with
    | zero => intro n u h1 h2 hn; exact absurd hn (Nat.not_lt_zero _)
    | succ n5 ih5 =>
      intro n u h1 h2 hn5
      refine r_iload hL (x := u) dX2_sumTo_5 rfl ?_
      refine r_bipush hL dX2_sumTo_7 (by decide) ?_
      refine r_icmp_ge hL (tgt := 38) dX2_sumTo_9 (by decide) (by omega) (by omega) (fun c9 => ?_) (fun c9 => ?_)
      · skip
        refine r_iload_n hL (x := n) dX2_sumTo_38 rfl ?_
        exact r_iret hL dX2_sumTo_39 rfl (hK _ (by omega))
      · skip
        refine r_iload_n hL (x := s) dX2_sumTo_12 rfl ?_
        refine r_iload hL (x := u) dX2_sumTo_13 rfl ?_
        refine r_ishr hL dX2_sumTo_15 ?_
        obtain ⟨z15, hz15⟩ : ∃ z, z = xshr s u := ⟨_, rfl⟩
        rw [← hz15]
        have hr15 : xrg z15 := by rw [hz15]; exact xshr_rg _ _
        refine r_iconst hL dX2_sumTo_16 ?_
        refine r_iand hL dX2_sumTo_17 ?_
        obtain ⟨z17, hz17⟩ : ∃ z, z = xand z15 1 := ⟨_, rfl⟩
        rw [← hz17]
        have hr17 : xrg z17 := by rw [hz17]; exact xand_rg _ _
        refine r_iconst hL dX2_sumTo_18 ?_
        refine r_icmp_ne hL (tgt := 32) dX2_sumTo_19 (by decide) (by omega) (by omega) (fun c19 => ?_) (fun c19 => ?_)
        · skip
          refine r_iinc hL (x := u) (lo' := [some (xR 100), some (xI t), some (xI s), some (xI n), some (xI (u + 1))]) dX2_sumTo_32 (by decide) rfl rfl ?_
          refine r_goto hL (tgt := 5) dX2_sumTo_35 (by decide) ?_
          exact ih5 n (u + 1) (by omega) (by omega) (by omega)
        · skip
          refine r_iload_n hL (x := n) dX2_sumTo_22 rfl ?_
          refine r_aload_n hL (x := 100) dX2_sumTo_23 rfl ?_
          refine r_iload_n hL (x := t) dX2_sumTo_24 rfl ?_
          refine r_iload hL (x := u) dX2_sumTo_25 rfl ?_
          refine r_callV hL (st := [xI n]) (av := [xI t, xI u]) (k := 100) (m_X2_between (μ := μ) hB t (by omega) u (by omega) (fun z27 hc27 hc27_1 => ⟨rfl, ?_⟩)) ce_yX2_between im_yX2_between se_yX2_between ml_X2_41 xcl2 (by decide) s_100 dX2_sumTo_27 rfl (Nat.le_of_ble_eq_true rfl) ⟨Nat.le_of_ble_eq_true rfl, Nat.le_of_ble_eq_true rfl⟩ ⟨Nat.le_of_ble_eq_true rfl, Nat.le_of_ble_eq_true rfl⟩
          show X 0 0 WW μ 30 [some (xR 100), some (xI t), some (xI s), some (xI n), some (xI u)] [xI z27, xI n]
          refine r_iadd hL dX2_sumTo_30 ?_
          refine r_istore_n hL (lo' := [some (xR 100), some (xI t), some (xI s), some (xI (n + z27)), some (xI u)]) dX2_sumTo_31 (by decide) rfl ?_
          refine r_iinc hL (x := u) (lo' := [some (xR 100), some (xI t), some (xI s), some (xI (n + z27)), some (xI (u + 1))]) dX2_sumTo_32 (by decide) rfl rfl ?_
          refine r_goto hL (tgt := 5) dX2_sumTo_35 (by decide) ?_
          exact ih5 (n + z27) (u + 1) (by omega) (by omega) (by omega)
  exact lp5 _ 0 0 (by omega) (by omega) (Nat.lt_succ_self _)

set_option maxHeartbeats 4000000 in
set_option maxRecDepth 20000 in
theorem m_X2_middleOf {K : Option xV → xW → xM → Prop} {μ : xM} (hB0 : BI μ) (s : Int) (hs : xrg s) (hK : ∀ r, -1 ≤ r ∧ r ≤ 7 → K (some (xI r)) WW μ) : xMet yX2_middleOf cX2_middleOf 6 (some .int) 2 46 0 0 [xR 100, xI s] WW μ K := by
  refine xMet.go RX2 "middleOf" rfl rfl (by decide) [some (xR 100), some (xI s), none, none, none, none] (Nat.le_of_ble_eq_true rfl) rfl (fun X hL => ?_)
  have hB := hB0
  refine r_iconst hL dX2_middleOf_0 ?_
  refine r_istore_n hL (lo' := [some (xR 100), some (xI s), some (xI (-1)), none, none, none]) dX2_middleOf_1 (by decide) rfl ?_
  refine r_iconst hL dX2_middleOf_2 ?_
  refine r_istore_n hL (lo' := [some (xR 100), some (xI s), some (xI (-1)), some (xI 0), none, none]) dX2_middleOf_3 (by decide) rfl ?_
  refine r_iconst hL dX2_middleOf_4 ?_
  refine r_istore hL (lo' := [some (xR 100), some (xI s), some (xI (-1)), some (xI 0), some (xI 0), none]) dX2_middleOf_5 (by decide) rfl ?_
  have lp7 : ∀ (n7 : Nat) (q : Int) (n : Int) (t : Int), (-1 ≤ q ∧ q ≤ 7) → (0 ≤ n ∧ n ≤ 1440) → (0 ≤ t ∧ t ≤ 8) → ((8 - t).toNat) < n7 → X 0 0 WW μ 7 [some (xR 100), some (xI s), some (xI q), some (xI n), some (xI t), none] [] := by
    intro n7
    induction n7 with
    | zero => intro q n t h1 h2 h3 hn; exact absurd hn (Nat.not_lt_zero _)
    | succ n7 ih7 =>
      intro q n t h1 h2 h3 hn7
      refine r_iload hL (x := t) dX2_middleOf_7 rfl ?_
      refine r_bipush hL dX2_middleOf_9 (by decide) ?_
      refine r_icmp_ge hL (tgt := 56) dX2_middleOf_11 (by decide) (by omega) (by omega) (fun c11 => ?_) (fun c11 => ?_)
      · skip
        refine r_iload_n hL (x := q) dX2_middleOf_56 rfl ?_
        exact r_iret hL dX2_middleOf_57 rfl (hK _ (by omega))
      · skip
        refine r_iload_n hL (x := s) dX2_middleOf_14 rfl ?_
        refine r_iload hL (x := t) dX2_middleOf_15 rfl ?_
        refine r_ishr hL dX2_middleOf_17 ?_
        obtain ⟨z17, hz17⟩ : ∃ z, z = xshr s t := ⟨_, rfl⟩
        rw [← hz17]
        have hr17 : xrg z17 := by rw [hz17]; exact xshr_rg _ _
        refine r_iconst hL dX2_middleOf_18 ?_
        refine r_iand hL dX2_middleOf_19 ?_
        obtain ⟨z19, hz19⟩ : ∃ z, z = xand z17 1 := ⟨_, rfl⟩
        rw [← hz19]
        have hr19 : xrg z19 := by rw [hz19]; exact xand_rg _ _
        refine r_iconst hL dX2_middleOf_20 ?_
        refine r_icmp_ne hL (tgt := 50) dX2_middleOf_21 (by decide) (by omega) (by omega) (fun c21 => ?_) (fun c21 => ?_)
        · skip
          refine r_iinc hL (x := t) (lo' := [some (xR 100), some (xI s), some (xI q), some (xI n), some (xI (t + 1)), none]) dX2_middleOf_50 (by decide) rfl rfl ?_
          refine r_goto hL (tgt := 7) dX2_middleOf_53 (by decide) ?_
          exact ih7 q n (t + 1) (by omega) (by omega) (by omega) (by omega)
        · skip
          refine r_aload_n hL (x := 100) dX2_middleOf_24 rfl ?_
          refine r_iload hL (x := t) dX2_middleOf_25 rfl ?_
          refine r_iload_n hL (x := s) dX2_middleOf_27 rfl ?_
          refine r_callV hL (st := []) (av := [xI t, xI s]) (k := 100) (m_X2_sumTo (μ := μ) hB t (by omega) s (by omega) (fun z28 hc28 => ⟨rfl, ?_⟩)) ce_yX2_sumTo im_yX2_sumTo se_yX2_sumTo ml_X2_37 xcl2 (by decide) s_100 dX2_middleOf_28 rfl (Nat.le_of_ble_eq_true rfl) ⟨Nat.le_of_ble_eq_true rfl, Nat.le_of_ble_eq_true rfl⟩ ⟨Nat.le_of_ble_eq_true rfl, Nat.le_of_ble_eq_true rfl⟩
          show X 0 0 WW μ 31 [some (xR 100), some (xI s), some (xI q), some (xI n), some (xI t), none] [xI z28]
          refine r_istore hL (lo' := [some (xR 100), some (xI s), some (xI q), some (xI n), some (xI t), some (xI z28)]) dX2_middleOf_31 (by decide) rfl ?_
          refine r_iload_n hL (x := q) dX2_middleOf_33 rfl ?_
          refine r_iconst hL dX2_middleOf_34 ?_
          refine r_icmp_eq hL (tgt := 44) dX2_middleOf_35 (by decide) (by omega) (by omega) (fun c35 => ?_) (fun c35 => ?_)
          · skip
            refine r_iload hL (x := t) dX2_middleOf_44 rfl ?_
            refine r_istore_n hL (lo' := [some (xR 100), some (xI s), some (xI t), some (xI n), some (xI t), some (xI z28)]) dX2_middleOf_46 (by decide) rfl ?_
            refine r_iload hL (x := z28) dX2_middleOf_47 rfl ?_
            refine r_istore_n hL (lo' := [some (xR 100), some (xI s), some (xI t), some (xI z28), some (xI t), some (xI z28)]) dX2_middleOf_49 (by decide) rfl ?_
            refine r_iinc hL (x := t) (lo' := [some (xR 100), some (xI s), some (xI t), some (xI z28), some (xI (t + 1)), some (xI z28)]) dX2_middleOf_50 (by decide) rfl rfl ?_
            refine r_goto hL (tgt := 7) dX2_middleOf_53 (by decide) ?_
            refine r_drop hL (lo' := [some (xR 100), some (xI s), some (xI t), some (xI z28), some (xI (t + 1)), none]) [5] rfl ?_
            exact ih7 t z28 (t + 1) (by omega) (by omega) (by omega) (by omega)
          · skip
            refine r_iload hL (x := z28) dX2_middleOf_38 rfl ?_
            refine r_iload_n hL (x := n) dX2_middleOf_40 rfl ?_
            refine r_icmp_ge hL (tgt := 50) dX2_middleOf_41 (by decide) (by omega) (by omega) (fun c41 => ?_) (fun c41 => ?_)
            · skip
              refine r_iinc hL (x := t) (lo' := [some (xR 100), some (xI s), some (xI q), some (xI n), some (xI (t + 1)), some (xI z28)]) dX2_middleOf_50 (by decide) rfl rfl ?_
              refine r_goto hL (tgt := 7) dX2_middleOf_53 (by decide) ?_
              refine r_drop hL (lo' := [some (xR 100), some (xI s), some (xI q), some (xI n), some (xI (t + 1)), none]) [5] rfl ?_
              exact ih7 q n (t + 1) (by omega) (by omega) (by omega) (by omega)
            · skip
              refine r_iload hL (x := t) dX2_middleOf_44 rfl ?_
              refine r_istore_n hL (lo' := [some (xR 100), some (xI s), some (xI t), some (xI n), some (xI t), some (xI z28)]) dX2_middleOf_46 (by decide) rfl ?_
              refine r_iload hL (x := z28) dX2_middleOf_47 rfl ?_
              refine r_istore_n hL (lo' := [some (xR 100), some (xI s), some (xI t), some (xI z28), some (xI t), some (xI z28)]) dX2_middleOf_49 (by decide) rfl ?_
              refine r_iinc hL (x := t) (lo' := [some (xR 100), some (xI s), some (xI t), some (xI z28), some (xI (t + 1)), some (xI z28)]) dX2_middleOf_50 (by decide) rfl rfl ?_
              refine r_goto hL (tgt := 7) dX2_middleOf_53 (by decide) ?_
              refine r_drop hL (lo' := [some (xR 100), some (xI s), some (xI t), some (xI z28), some (xI (t + 1)), none]) [5] rfl ?_
              exact ih7 t z28 (t + 1) (by omega) (by omega) (by omega) (by omega)
  exact lp7 _ (-1) 0 0 (by omega) (by omega) (by omega) (Nat.lt_succ_self _)

set_option maxHeartbeats 4000000 in
set_option maxRecDepth 20000 in
theorem m_X0_firstOtherwise {K : Option xV → xW → xM → Prop} {μ : xM} (hB0 : BI μ) (n : Int) (hn : 0 ≤ n ∧ n ≤ 8) (hK : ∀ r, -1 ≤ r ∧ r ≤ 19 → K (some (xI r)) WW μ) : xMet yX0_firstOtherwise cX0_firstOtherwise 5 (some .int) 1 22 0 0 [xR 88, xR 100, xI n] WW μ K := by
  refine xMet.go RX0 "firstOtherwise" rfl rfl (by decide) [some (xR 88), some (xR 100), some (xI n), none, none] (Nat.le_of_ble_eq_true rfl) rfl (fun X hL => ?_)
  have hB := hB0
  refine r_iconst hL dX0_firstOtherwise_0 ?_
  refine r_istore_n hL (lo' := [some (xR 88), some (xR 100), some (xI n), some (xI 0), none]) dX0_firstOtherwise_1 (by decide) rfl ?_
  have lp2 : ∀ (n2 : Nat) (k : Int), (0 ≤ k ∧ k ≤ 20) → ((20 - k).toNat) < n2 → X 0 0 WW μ 2 [some (xR 88), some (xR 100), some (xI n), some (xI k), none] [] := by
    intro n2
    induction n2 with
    | zero => intro k h1 hn; exact absurd hn (Nat.not_lt_zero _)
    | succ n2 ih2 =>
      intro k h1 hn2
      refine r_iload_n hL (x := k) dX0_firstOtherwise_2 rfl ?_
      refine r_aload_n hL (x := 88) dX0_firstOtherwise_3 rfl ?_
      refine r_geti hL xcl0 3 (j' := 3) rfl (by decide) s_88 (by decide) fl_X0_21 (by decide) (by decide) dX0_firstOtherwise_4 (fun hr4 => ?_)
      obtain ⟨z4, hz4⟩ : ∃ z, z = μ 88 3 := ⟨_, rfl⟩
      rw [← hz4] at hr4 ⊢
      have hb4 : 0 ≤ μ 88 3 ∧ μ 88 3 ≤ 20 := (show (3 : Int) = 3 → 0 ≤ (μ 88 3) ∧ (μ 88 3) ≤ 20 from hB 88 3) (by omega)
      refine r_icmp_ge hL (tgt := 75) dX0_firstOtherwise_7 (by decide) (by omega) (by omega) (fun c7 => ?_) (fun c7 => ?_)
      · skip
        refine r_iconst hL dX0_firstOtherwise_75 ?_
        exact r_iret hL dX0_firstOtherwise_76 rfl (hK _ (by omega))
      · skip
        refine r_aload_n hL (x := 88) dX0_firstOtherwise_10 rfl ?_
        refine r_getr hL xcl0 0 (by decide) s_88 (by decide) fl_X0_9 (by decide) f_88_0 dX0_firstOtherwise_11 ?_
        refine r_iload_n hL (x := k) dX0_firstOtherwise_14 rfl ?_
        refine r_iald hL dX0_firstOtherwise_15 (by decide) s_89 (by decide) (by omega) (by omega) (fun hr15 => ?_)
        obtain ⟨z15, hz15⟩ : ∃ z, z = μ 89 k := ⟨_, rfl⟩
        rw [← hz15] at hr15 ⊢
        have hb15 : 0 ≤ (μ 89 k) ∧ (μ 89 k) ≤ 7 := hB 89 k
        refine r_iload_n hL (x := n) dX0_firstOtherwise_16 rfl ?_
        refine r_icmp_ge hL (tgt := 30) dX0_firstOtherwise_17 (by decide) (by omega) (by omega) (fun c17 => ?_) (fun c17 => ?_)
        · skip
          refine r_iconst hL dX0_firstOtherwise_30 ?_
          refine r_goto hL (tgt := 35) dX0_firstOtherwise_31 (by decide) ?_
          refine r_istore hL (lo' := [some (xR 88), some (xR 100), some (xI n), some (xI k), some (xI 1)]) dX0_firstOtherwise_35 (by decide) rfl ?_
          refine r_iload hL (x := 1) dX0_firstOtherwise_37 rfl ?_
          refine r_if_ne hL (tgt := 67) dX0_firstOtherwise_39 (by decide) (by omega) (fun c39 => ?_) (fun c39 => ?_)
          · skip
            refine r_iload_n hL (x := k) dX0_firstOtherwise_67 rfl ?_
            exact r_iret hL dX0_firstOtherwise_68 rfl (hK _ (by omega))
          · skip
            exact absurd c39 (by decide)
        · skip
          refine r_aload_n hL (x := 88) dX0_firstOtherwise_20 rfl ?_
          refine r_getr hL xcl0 1 (by decide) s_88 (by decide) fl_X0_15 (by decide) f_88_1 dX0_firstOtherwise_21 ?_
          refine r_iload_n hL (x := k) dX0_firstOtherwise_24 rfl ?_
          refine r_iald hL dX0_firstOtherwise_25 (by decide) s_90 (by decide) (by omega) (by omega) (fun hr25 => ?_)
          obtain ⟨z25, hz25⟩ : ∃ z, z = μ 90 k := ⟨_, rfl⟩
          rw [← hz25] at hr25 ⊢
          have hb25 : 0 ≤ (μ 90 k) ∧ (μ 90 k) ≤ 7 := hB 90 k
          refine r_iload_n hL (x := n) dX0_firstOtherwise_26 rfl ?_
          refine r_icmp_lt hL (tgt := 34) dX0_firstOtherwise_27 (by decide) (by omega) (by omega) (fun c27 => ?_) (fun c27 => ?_)
          · skip
            refine r_iconst hL dX0_firstOtherwise_34 ?_
            refine r_istore hL (lo' := [some (xR 88), some (xR 100), some (xI n), some (xI k), some (xI 0)]) dX0_firstOtherwise_35 (by decide) rfl ?_
            refine r_iload hL (x := 0) dX0_firstOtherwise_37 rfl ?_
            refine r_if_ne hL (tgt := 67) dX0_firstOtherwise_39 (by decide) (by omega) (fun c39 => ?_) (fun c39 => ?_)
            · skip
              exact absurd c39 (by decide)
            · skip
              refine r_aload_n hL (x := 100) dX0_firstOtherwise_42 rfl ?_
              refine r_aload_n hL (x := 88) dX0_firstOtherwise_43 rfl ?_
              refine r_getr hL xcl0 0 (by decide) s_88 (by decide) fl_X0_9 (by decide) f_88_0 dX0_firstOtherwise_44 ?_
              refine r_iload_n hL (x := k) dX0_firstOtherwise_47 rfl ?_
              refine r_iald hL dX0_firstOtherwise_48 (by decide) s_89 (by decide) (by omega) (by omega) (fun hr48 => ?_)
              obtain ⟨z48, hz48⟩ : ∃ z, z = μ 89 k := ⟨_, rfl⟩
              rw [← hz48] at hr48 ⊢
              have hb48 : 0 ≤ (μ 89 k) ∧ (μ 89 k) ≤ 7 := hB 89 k
              refine r_aload_n hL (x := 88) dX0_firstOtherwise_49 rfl ?_
              refine r_getr hL xcl0 1 (by decide) s_88 (by decide) fl_X0_15 (by decide) f_88_1 dX0_firstOtherwise_50 ?_
              refine r_iload_n hL (x := k) dX0_firstOtherwise_53 rfl ?_
              refine r_iald hL dX0_firstOtherwise_54 (by decide) s_90 (by decide) (by omega) (by omega) (fun hr54 => ?_)
              obtain ⟨z54, hz54⟩ : ∃ z, z = μ 90 k := ⟨_, rfl⟩
              rw [← hz54] at hr54 ⊢
              have hb54 : 0 ≤ (μ 90 k) ∧ (μ 90 k) ≤ 7 := hB 90 k
              refine r_callV hL (st := []) (av := [xI z48, xI z54]) (k := 100) (m_X2_between (μ := μ) hB z48 (by omega) z54 (by omega) (fun z55 hc55 hc55_1 => ⟨rfl, ?_⟩)) ce_yX2_between im_yX2_between se_yX2_between ml_X0_25 xcl2 (by decide) s_100 dX0_firstOtherwise_55 rfl (Nat.le_of_ble_eq_true rfl) ⟨Nat.le_of_ble_eq_true rfl, Nat.le_of_ble_eq_true rfl⟩ ⟨Nat.le_of_ble_eq_true rfl, Nat.le_of_ble_eq_true rfl⟩
              show X 0 0 WW μ 58 [some (xR 88), some (xR 100), some (xI n), some (xI k), some (xI 0)] [xI z55]
              refine r_aload_n hL (x := 88) dX0_firstOtherwise_58 rfl ?_
              refine r_getr hL xcl0 2 (by decide) s_88 (by decide) fl_X0_18 (by decide) f_88_2 dX0_firstOtherwise_59 ?_
              refine r_iload_n hL (x := k) dX0_firstOtherwise_62 rfl ?_
              refine r_iald hL dX0_firstOtherwise_63 (by decide) s_91 (by decide) (by omega) (by omega) (fun hr63 => ?_)
              obtain ⟨z63, hz63⟩ : ∃ z, z = μ 91 k := ⟨_, rfl⟩
              rw [← hz63] at hr63 ⊢
              refine r_icmp_eq hL (tgt := 69) dX0_firstOtherwise_64 (by decide) (by omega) (by omega) (fun c64 => ?_) (fun c64 => ?_)
              · skip
                refine r_iinc hL (x := k) (lo' := [some (xR 88), some (xR 100), some (xI n), some (xI (k + 1)), some (xI 0)]) dX0_firstOtherwise_69 (by decide) rfl rfl ?_
                refine r_goto hL (tgt := 2) dX0_firstOtherwise_72 (by decide) ?_
                refine r_drop hL (lo' := [some (xR 88), some (xR 100), some (xI n), some (xI (k + 1)), none]) [4] rfl ?_
                exact ih2 (k + 1) (by omega) (by omega)
              · skip
                refine r_iload_n hL (x := k) dX0_firstOtherwise_67 rfl ?_
                exact r_iret hL dX0_firstOtherwise_68 rfl (hK _ (by omega))
          · skip
            refine r_iconst hL dX0_firstOtherwise_30 ?_
            refine r_goto hL (tgt := 35) dX0_firstOtherwise_31 (by decide) ?_
            refine r_istore hL (lo' := [some (xR 88), some (xR 100), some (xI n), some (xI k), some (xI 1)]) dX0_firstOtherwise_35 (by decide) rfl ?_
            refine r_iload hL (x := 1) dX0_firstOtherwise_37 rfl ?_
            refine r_if_ne hL (tgt := 67) dX0_firstOtherwise_39 (by decide) (by omega) (fun c39 => ?_) (fun c39 => ?_)
            · skip
              refine r_iload_n hL (x := k) dX0_firstOtherwise_67 rfl ?_
              exact r_iret hL dX0_firstOtherwise_68 rfl (hK _ (by omega))
            · skip
              exact absurd c39 (by decide)
  exact lp2 _ 0 (by omega) (Nat.lt_succ_self _)

set_option maxHeartbeats 4000000 in
set_option maxRecDepth 20000 in
theorem m_X4_apart {K : Option xV → xW → xM → Prop} {μ : xM} (hB0 : BI μ) (hU : LU μ) (hK : ∀ r, 0 ≤ r ∧ r ≤ 180 → r = μ 96 0 → K (some (xI r)) WW μ) : xMet yX4_apart cX4_apart 1 (some .int) 0 0 0 0 [xR 92] WW μ K := by
  refine xMet.go RX4 "apart" rfl rfl (by decide) [some (xR 92)] (Nat.le_of_ble_eq_true rfl) rfl (fun X hL => ?_)
  have hB := hB0
  refine r_aload_n hL (x := 92) dX4_apart_0 rfl ?_
  refine r_getr hL xcl4 3 (by decide) s_92 (by decide) fl_X4_21 (by decide) f_92_3 dX4_apart_1 ?_
  refine r_iconst hL dX4_apart_4 ?_
  refine r_iald hL dX4_apart_5 (by decide) s_96 (by decide) (by omega) (by omega) (fun hr5 => ?_)
  obtain ⟨z5, hz5⟩ : ∃ z, z = μ 96 0 := ⟨_, rfl⟩
  rw [← hz5] at hr5 ⊢
  exact r_iret hL dX4_apart_6 rfl (hK _ (by rw [hz5]; exact hU.zero hB) hz5)

set_option maxHeartbeats 4000000 in
set_option maxRecDepth 20000 in
theorem m_X4_isTurned {K : Option xV → xW → xM → Prop} {μ : xM} (i : Int) (hi : 0 ≤ i ∧ i ≤ 8) (j : Int) (hj : 0 ≤ j ∧ j ≤ 8) (hK : ∀ r, (r = 1 ∧ (μ 93 i = μ 94 (j + 1) ∧ μ 93 (i + 1) = μ 94 j ∧ ¬ μ 93 i = μ 93 (i + 1))) ∨ (r = 0 ∧ ¬ (μ 93 i = μ 94 (j + 1) ∧ μ 93 (i + 1) = μ 94 j ∧ ¬ μ 93 i = μ 93 (i + 1))) → K (some (xI r)) WW μ) : xMet yX4_isTurned cX4_isTurned 3 (some .boolean) 0 0 0 0 [xR 92, xI i, xI j] WW μ K := by
  refine xMet.go RX4 "isTurned" rfl rfl (by decide) [some (xR 92), some (xI i), some (xI j)] (Nat.le_of_ble_eq_true rfl) rfl (fun X hL => ?_)
  refine r_aload_n hL (x := 92) dX4_isTurned_0 rfl ?_
  refine r_getr hL xcl4 0 (by decide) s_92 (by decide) fl_X4_9 (by decide) f_92_0 dX4_isTurned_1 ?_
  refine r_iload_n hL (x := i) dX4_isTurned_4 rfl ?_
  refine r_iald hL dX4_isTurned_5 (by decide) s_93 (by decide) (by omega) (by omega) (fun hr5 => ?_)
  obtain ⟨z5, hz5⟩ : ∃ z, z = μ 93 i := ⟨_, rfl⟩
  rw [← hz5] at hr5 ⊢
  refine r_aload_n hL (x := 92) dX4_isTurned_6 rfl ?_
  refine r_getr hL xcl4 1 (by decide) s_92 (by decide) fl_X4_15 (by decide) f_92_1 dX4_isTurned_7 ?_
  refine r_iload_n hL (x := j) dX4_isTurned_10 rfl ?_
  refine r_iconst hL dX4_isTurned_11 ?_
  refine r_iadd hL dX4_isTurned_12 ?_
  refine r_iald hL dX4_isTurned_13 (by decide) s_94 (by decide) (by omega) (by omega) (fun hr13 => ?_)
  obtain ⟨z13, hz13⟩ : ∃ z, z = μ 94 (j + 1) := ⟨_, rfl⟩
  rw [← hz13] at hr13 ⊢
  refine r_icmp_ne hL (tgt := 55) dX4_isTurned_14 (by decide) (by omega) (by omega) (fun c14 => ?_) (fun c14 => ?_)
  · skip
    refine r_iconst hL dX4_isTurned_55 ?_
    exact r_zret hL dX4_isTurned_56 rfl (by omega) (hK _ (by omega))
  · skip
    refine r_aload_n hL (x := 92) dX4_isTurned_17 rfl ?_
    refine r_getr hL xcl4 0 (by decide) s_92 (by decide) fl_X4_9 (by decide) f_92_0 dX4_isTurned_18 ?_
    refine r_iload_n hL (x := i) dX4_isTurned_21 rfl ?_
    refine r_iconst hL dX4_isTurned_22 ?_
    refine r_iadd hL dX4_isTurned_23 ?_
    refine r_iald hL dX4_isTurned_24 (by decide) s_93 (by decide) (by omega) (by omega) (fun hr24 => ?_)
    obtain ⟨z24, hz24⟩ : ∃ z, z = μ 93 (i + 1) := ⟨_, rfl⟩
    rw [← hz24] at hr24 ⊢
    refine r_aload_n hL (x := 92) dX4_isTurned_25 rfl ?_
    refine r_getr hL xcl4 1 (by decide) s_92 (by decide) fl_X4_15 (by decide) f_92_1 dX4_isTurned_26 ?_
    refine r_iload_n hL (x := j) dX4_isTurned_29 rfl ?_
    refine r_iald hL dX4_isTurned_30 (by decide) s_94 (by decide) (by omega) (by omega) (fun hr30 => ?_)
    obtain ⟨z30, hz30⟩ : ∃ z, z = μ 94 j := ⟨_, rfl⟩
    rw [← hz30] at hr30 ⊢
    refine r_icmp_ne hL (tgt := 55) dX4_isTurned_31 (by decide) (by omega) (by omega) (fun c31 => ?_) (fun c31 => ?_)
    · skip
      refine r_iconst hL dX4_isTurned_55 ?_
      exact r_zret hL dX4_isTurned_56 rfl (by omega) (hK _ (by omega))
    · skip
      refine r_aload_n hL (x := 92) dX4_isTurned_34 rfl ?_
      refine r_getr hL xcl4 0 (by decide) s_92 (by decide) fl_X4_9 (by decide) f_92_0 dX4_isTurned_35 ?_
      refine r_iload_n hL (x := i) dX4_isTurned_38 rfl ?_
      refine r_iald hL dX4_isTurned_39 (by decide) s_93 (by decide) (by omega) (by omega) (fun hr39 => ?_)
      obtain ⟨z39, hz39⟩ : ∃ z, z = μ 93 i := ⟨_, rfl⟩
      rw [← hz39] at hr39 ⊢
      refine r_aload_n hL (x := 92) dX4_isTurned_40 rfl ?_
      refine r_getr hL xcl4 0 (by decide) s_92 (by decide) fl_X4_9 (by decide) f_92_0 dX4_isTurned_41 ?_
      refine r_iload_n hL (x := i) dX4_isTurned_44 rfl ?_
      refine r_iconst hL dX4_isTurned_45 ?_
      refine r_iadd hL dX4_isTurned_46 ?_
      refine r_iald hL dX4_isTurned_47 (by decide) s_93 (by decide) (by omega) (by omega) (fun hr47 => ?_)
      obtain ⟨z47, hz47⟩ : ∃ z, z = μ 93 (i + 1) := ⟨_, rfl⟩
      rw [← hz47] at hr47 ⊢
      refine r_icmp_eq hL (tgt := 55) dX4_isTurned_48 (by decide) (by omega) (by omega) (fun c48 => ?_) (fun c48 => ?_)
      · skip
        refine r_iconst hL dX4_isTurned_55 ?_
        exact r_zret hL dX4_isTurned_56 rfl (by omega) (hK _ (by omega))
      · skip
        refine r_iconst hL dX4_isTurned_51 ?_
        refine r_goto hL (tgt := 56) dX4_isTurned_52 (by decide) ?_
        exact r_zret hL dX4_isTurned_56 rfl (by omega) (hK _ (by omega))

set_option maxHeartbeats 4000000 in
set_option maxRecDepth 20000 in
theorem m_X4_sumThrough {K : Option xV → xW → xM → Prop} {μ : xM} (hB0 : BI μ) (i : Int) (hi : 0 ≤ i ∧ i ≤ μ 92 7) (j : Int) (hj : 0 ≤ j ∧ j ≤ μ 92 8) (s : Int) (hs : 0 ≤ s ∧ s ≤ 3) (hU : LUp (μ 96) (μ 92 7) (μ 92 8) i j) (hK : ∀ r, 0 ≤ r ∧ r ≤ 1000000 → (r = 1000000 ∨ (r ≤ 9 * ((μ 92 7 - i) + (μ 92 8 - j)) ∧ i + xOF s ≤ μ 92 7 ∧ j + xOO s ≤ μ 92 8)) → (s = 1 → i < μ 92 7 → r ≠ 1000000) → (s = 2 → j < μ 92 8 → r ≠ 1000000) → lsT (cco μ) (μ 96) i j s r → K (some (xI r)) WW μ) : xMet yX4_sumThrough cX4_sumThrough 8 (some .int) 1 26 0 0 [xR 92, xI i, xI j, xI s] WW μ K := by
  refine xMet.go RX4 "sumThrough" rfl rfl (by decide) [some (xR 92), some (xI i), some (xI j), some (xI s), none, none, none, none] (Nat.le_of_ble_eq_true rfl) rfl (fun X hL => ?_)
  have hB := hB0
  refine r_iload_n hL (x := i) dX4_sumThrough_0 rfl ?_
  refine r_getsF hL dX4_sumThrough_1 fw_X4_60 (fun a1 hTa1 => ?_)
  refine r_iload_n hL (x := s) dX4_sumThrough_4 rfl ?_
  refine hTa1 dX4_sumThrough_5 (by omega) (by omega) ?_
  obtain ⟨z5, hz5⟩ : ∃ z, z = xOF s := ⟨_, rfl⟩
  rw [← hz5]
  have hr5 : 0 ≤ z5 ∧ z5 ≤ 2 := by rw [hz5]; exact xOF_rg _
  have hv5 := xOF_v s
  rw [← hz5] at hv5
  refine r_iadd hL dX4_sumThrough_6 ?_
  refine r_istore hL (lo' := [some (xR 92), some (xI i), some (xI j), some (xI s), some (xI (i + z5)), none, none, none]) dX4_sumThrough_7 (by decide) rfl ?_
  refine r_iload_n hL (x := j) dX4_sumThrough_9 rfl ?_
  refine r_getsO hL dX4_sumThrough_10 fw_X4_63 (fun a10 hTa10 => ?_)
  refine r_iload_n hL (x := s) dX4_sumThrough_13 rfl ?_
  refine hTa10 dX4_sumThrough_14 (by omega) (by omega) ?_
  obtain ⟨z14, hz14⟩ : ∃ z, z = xOO s := ⟨_, rfl⟩
  rw [← hz14]
  have hr14 : 0 ≤ z14 ∧ z14 ≤ 2 := by rw [hz14]; exact xOO_rg _
  have hv14 := xOO_v s
  rw [← hz14] at hv14
  refine r_iadd hL dX4_sumThrough_15 ?_
  refine r_istore hL (lo' := [some (xR 92), some (xI i), some (xI j), some (xI s), some (xI (i + z5)), some (xI (j + z14)), none, none]) dX4_sumThrough_16 (by decide) rfl ?_
  refine r_iload hL (x := i + z5) dX4_sumThrough_18 rfl ?_
  refine r_aload_n hL (x := 92) dX4_sumThrough_20 rfl ?_
  refine r_geti hL xcl4 7 (j' := 7) rfl (by decide) s_92 (by decide) fl_X4_33 (by decide) (by decide) dX4_sumThrough_21 (fun hr21 => ?_)
  obtain ⟨z21, hz21⟩ : ∃ z, z = μ 92 7 := ⟨_, rfl⟩
  rw [← hz21] at hr21 ⊢
  have hb21 : 0 ≤ μ 92 7 ∧ μ 92 7 ≤ 10 := (show ((7 : Int) = 7 → 0 ≤ (μ 92 7) ∧ (μ 92 7) ≤ 10) ∧ ((7 : Int) = 8 → 0 ≤ (μ 92 7) ∧ (μ 92 7) ≤ 10) from hB 92 7).1 (by omega)
  refine r_icmp_gt hL (tgt := 36) dX4_sumThrough_24 (by decide) (by omega) (by omega) (fun c24 => ?_) (fun c24 => ?_)
  · skip
    refine r_ldc hL (n := 1000000) dX4_sumThrough_36 kc_X4_86 (by decide) ?_
    exact r_iret hL dX4_sumThrough_38 rfl (hK _ (by omega) (by omega) (by omega) (by omega) (lsT_out (by omega) (by omega) (by omega) (by omega) (by omega) rfl))
  · skip
    refine r_iload hL (x := j + z14) dX4_sumThrough_27 rfl ?_
    refine r_aload_n hL (x := 92) dX4_sumThrough_29 rfl ?_
    refine r_geti hL xcl4 8 (j' := 8) rfl (by decide) s_92 (by decide) fl_X4_37 (by decide) (by decide) dX4_sumThrough_30 (fun hr30 => ?_)
    obtain ⟨z30, hz30⟩ : ∃ z, z = μ 92 8 := ⟨_, rfl⟩
    rw [← hz30] at hr30 ⊢
    have hb30 : 0 ≤ μ 92 8 ∧ μ 92 8 ≤ 10 := (show ((8 : Int) = 7 → 0 ≤ (μ 92 8) ∧ (μ 92 8) ≤ 10) ∧ ((8 : Int) = 8 → 0 ≤ (μ 92 8) ∧ (μ 92 8) ≤ 10) from hB 92 8).2 (by omega)
    refine r_icmp_le hL (tgt := 39) dX4_sumThrough_33 (by decide) (by omega) (by omega) (fun c33 => ?_) (fun c33 => ?_)
    · skip
      refine r_aload_n hL (x := 92) dX4_sumThrough_39 rfl ?_
      refine r_getr hL xcl4 3 (by decide) s_92 (by decide) fl_X4_21 (by decide) f_92_3 dX4_sumThrough_40 ?_
      refine r_iload hL (x := i + z5) dX4_sumThrough_43 rfl ?_
      refine r_bipush hL dX4_sumThrough_45 (by decide) ?_
      refine r_imul hL dX4_sumThrough_47 ?_
      refine r_iload hL (x := j + z14) dX4_sumThrough_48 rfl ?_
      refine r_iadd hL dX4_sumThrough_50 ?_
      have hn1 := hb21; have hn2 := hb30
      refine r_iald hL dX4_sumThrough_51 (by decide) s_96 (by decide) (by omega) (by omega) (fun hr51 => ?_)
      obtain ⟨z51, hz51⟩ : ∃ z, z = μ 96 (((i + z5) * 11) + (j + z14)) := ⟨_, rfl⟩
      rw [← hz51] at hr51 ⊢
      have hl51 := hU (i + z5) (j + z14) (by omega) (by omega) (by omega) (by omega) (by omega)
      have ht51 : z51 = μ 96 (lnx i j s) := hz51.trans (congrArg (μ 96) (by unfold lnx; rw [← hz5, ← hz14]; omega))
      refine r_istore hL (lo' := [some (xR 92), some (xI i), some (xI j), some (xI s), some (xI (i + z5)), some (xI (j + z14)), some (xI z51), none]) dX4_sumThrough_52 (by decide) rfl ?_
      refine r_iload_n hL (x := s) dX4_sumThrough_54 rfl ?_
      refine r_if_ne hL (tgt := 98) dX4_sumThrough_55 (by decide) (by omega) (fun c55 => ?_) (fun c55 => ?_)
      · skip
        refine r_iload_n hL (x := s) dX4_sumThrough_98 rfl ?_
        refine r_iconst hL dX4_sumThrough_99 ?_
        refine r_icmp_ne hL (tgt := 127) dX4_sumThrough_100 (by decide) (by omega) (by omega) (fun c100 => ?_) (fun c100 => ?_)
        · skip
          refine r_iload hL (x := z51) dX4_sumThrough_127 rfl ?_
          refine r_aload_n hL (x := 92) dX4_sumThrough_129 rfl ?_
          refine r_getr hL xcl4 2 (by decide) s_92 (by decide) fl_X4_18 (by decide) f_92_2 dX4_sumThrough_130 ?_
          refine r_iconst hL dX4_sumThrough_133 ?_
          refine r_iald hL dX4_sumThrough_134 (by decide) s_95 (by decide) (by omega) (by omega) (fun hr134 => ?_)
          obtain ⟨z134, hz134⟩ : ∃ z, z = μ 95 0 := ⟨_, rfl⟩
          rw [← hz134] at hr134 ⊢
          have hb134 : 0 ≤ (μ 95 0) ∧ (μ 95 0) ≤ 9 := hB 95 0
          refine r_iadd hL dX4_sumThrough_135 ?_
          exact r_iret hL dX4_sumThrough_136 rfl (hK _ (by omega) (by omega) (by omega) (by omega) (lsT_g (x := z134) (by omega) hz134 (by omega) ht51 (by omega) rfl))
        · skip
          refine r_aload_n hL (x := 92) dX4_sumThrough_103 rfl ?_
          refine r_iload_n hL (x := i) dX4_sumThrough_104 rfl ?_
          refine r_iload_n hL (x := j) dX4_sumThrough_105 rfl ?_
          refine r_callV hL (st := []) (av := [xI i, xI j]) (k := 92) (m_X4_isTurned (μ := μ) i (by omega) j (by omega) (fun z106 hc106 => ⟨rfl, ?_⟩)) ce_yX4_isTurned im_yX4_isTurned se_yX4_isTurned ml_X4_95 xcl4 (by decide) s_92 dX4_sumThrough_106 rfl (Nat.le_of_ble_eq_true rfl) ⟨Nat.le_of_ble_eq_true rfl, Nat.le_of_ble_eq_true rfl⟩ ⟨Nat.le_of_ble_eq_true rfl, Nat.le_of_ble_eq_true rfl⟩
          show X 0 0 WW μ 109 [some (xR 92), some (xI i), some (xI j), some (xI s), some (xI (i + z5)), some (xI (j + z14)), some (xI z51), none] [xI z106]
          refine r_if_eq hL (tgt := 124) dX4_sumThrough_109 (by decide) (by omega) (fun c109 => ?_) (fun c109 => ?_)
          · skip
            refine r_ldc hL (n := 1000000) dX4_sumThrough_124 kc_X4_86 (by decide) ?_
            exact r_iret hL dX4_sumThrough_126 rfl (hK _ (by omega) (by omega) (by omega) (by omega) (by first | exact lsT_3n (by omega) (by omega) rfl | exact lsT_3 (x := z119) (by omega) (by omega) (by omega) (by omega) (by omega) (by omega) hz119 (by omega) ht51 (by omega) rfl))
          · skip
            refine r_iload hL (x := z51) dX4_sumThrough_112 rfl ?_
            refine r_aload_n hL (x := 92) dX4_sumThrough_114 rfl ?_
            refine r_getr hL xcl4 2 (by decide) s_92 (by decide) fl_X4_18 (by decide) f_92_2 dX4_sumThrough_115 ?_
            refine r_iconst hL dX4_sumThrough_118 ?_
            refine r_iald hL dX4_sumThrough_119 (by decide) s_95 (by decide) (by omega) (by omega) (fun hr119 => ?_)
            obtain ⟨z119, hz119⟩ : ∃ z, z = μ 95 1 := ⟨_, rfl⟩
            rw [← hz119] at hr119 ⊢
            have hb119 : 0 ≤ (μ 95 1) ∧ (μ 95 1) ≤ 9 := hB 95 1
            refine r_iadd hL dX4_sumThrough_120 ?_
            refine r_goto hL (tgt := 126) dX4_sumThrough_121 (by decide) ?_
            exact r_iret hL dX4_sumThrough_126 rfl (hK _ (by omega) (by omega) (by omega) (by omega) (by first | exact lsT_3n (by omega) (by omega) rfl | exact lsT_3 (x := z119) (by omega) (by omega) (by omega) (by omega) (by omega) (by omega) hz119 (by omega) ht51 (by omega) rfl))
      · skip
        refine r_aload_n hL (x := 92) dX4_sumThrough_58 rfl ?_
        refine r_getr hL xcl4 0 (by decide) s_92 (by decide) fl_X4_9 (by decide) f_92_0 dX4_sumThrough_59 ?_
        refine r_iload_n hL (x := i) dX4_sumThrough_62 rfl ?_
        refine r_iald hL dX4_sumThrough_63 (by decide) s_93 (by decide) (by omega) (by omega) (fun hr63 => ?_)
        obtain ⟨z63, hz63⟩ : ∃ z, z = μ 93 i := ⟨_, rfl⟩
        rw [← hz63] at hr63 ⊢
        have hb63 : 0 ≤ (μ 93 i) ∧ (μ 93 i) ≤ 7 := hB 93 i
        refine r_aload_n hL (x := 92) dX4_sumThrough_64 rfl ?_
        refine r_getr hL xcl4 1 (by decide) s_92 (by decide) fl_X4_15 (by decide) f_92_1 dX4_sumThrough_65 ?_
        refine r_iload_n hL (x := j) dX4_sumThrough_68 rfl ?_
        refine r_iald hL dX4_sumThrough_69 (by decide) s_94 (by decide) (by omega) (by omega) (fun hr69 => ?_)
        obtain ⟨z69, hz69⟩ : ∃ z, z = μ 94 j := ⟨_, rfl⟩
        rw [← hz69] at hr69 ⊢
        have hb69 : 0 ≤ (μ 94 j) ∧ (μ 94 j) ≤ 7 := hB 94 j
        refine r_isub hL dX4_sumThrough_70 ?_
        refine r_abs hL (by omega) ml_X4_91 sm_Lib_Math_abs_name it_java_lang_Math kd_Lib_Math_abs_name dX4_sumThrough_71 ⟨Nat.le_of_ble_eq_true rfl, Nat.le_of_ble_eq_true rfl⟩ ⟨Nat.le_of_ble_eq_true rfl, Nat.le_of_ble_eq_true rfl⟩ ?_
        obtain ⟨z71, hz71⟩ : ∃ z, z = if 0 ≤ z63 - z69 then z63 - z69 else 0 - (z63 - z69) := ⟨_, rfl⟩
        rw [← hz71]
        refine r_aload_n hL (x := 92) dX4_sumThrough_74 rfl ?_
        refine r_getr hL xcl4 2 (by decide) s_92 (by decide) fl_X4_18 (by decide) f_92_2 dX4_sumThrough_75 ?_
        refine r_iconst hL dX4_sumThrough_78 ?_
        refine r_iald hL dX4_sumThrough_79 (by decide) s_95 (by decide) (by omega) (by omega) (fun hr79 => ?_)
        obtain ⟨z79, hz79⟩ : ∃ z, z = μ 95 2 := ⟨_, rfl⟩
        rw [← hz79] at hr79 ⊢
        have hb79 : 0 ≤ (μ 95 2) ∧ (μ 95 2) ≤ 9 := hB 95 2
        refine r_imul hL dX4_sumThrough_80 ?_
        have hp80 := xmul_bd (a := z71) (b := z79) (A := 7) (B := 9) (by omega) (by omega) (by omega) (by omega)
        refine r_istore hL (lo' := [some (xR 92), some (xI i), some (xI j), some (xI s), some (xI (i + z5)), some (xI (j + z14)), some (xI z51), some (xI (z71 * z79))]) dX4_sumThrough_81 (by decide) rfl ?_
        refine r_iload hL (x := z51) dX4_sumThrough_83 rfl ?_
        refine r_iload hL (x := z71 * z79) dX4_sumThrough_85 rfl ?_
        refine r_aload_n hL (x := 92) dX4_sumThrough_87 rfl ?_
        refine r_getr hL xcl4 2 (by decide) s_92 (by decide) fl_X4_18 (by decide) f_92_2 dX4_sumThrough_88 ?_
        refine r_iconst hL dX4_sumThrough_91 ?_
        refine r_iald hL dX4_sumThrough_92 (by decide) s_95 (by decide) (by omega) (by omega) (fun hr92 => ?_)
        obtain ⟨z92, hz92⟩ : ∃ z, z = μ 95 3 := ⟨_, rfl⟩
        rw [← hz92] at hr92 ⊢
        have hb92 : 0 ≤ (μ 95 3) ∧ (μ 95 3) ≤ 9 := hB 95 3
        refine r_min hL (by omega) (by omega) ml_X4_77 sm_Lib_Math_min_name it_java_lang_Math kd_Lib_Math_min_name dX4_sumThrough_93 ⟨Nat.le_of_ble_eq_true rfl, Nat.le_of_ble_eq_true rfl⟩ ⟨Nat.le_of_ble_eq_true rfl, Nat.le_of_ble_eq_true rfl⟩ ?_
        obtain ⟨z93, hz93⟩ : ∃ z, z = min (z71 * z79) z92 := ⟨_, rfl⟩
        rw [← hz93]
        refine r_iadd hL dX4_sumThrough_96 ?_
        exact r_iret hL dX4_sumThrough_97 rfl (hK _ (by omega) (by omega) (by omega) (by omega) (lsT_0 (x := z93) (by omega) (by omega) (by omega) (by omega) (by omega) (lch_ab (x := z71) (by omega) (by omega) (by rw [← hz63, ← hz69]; exact hz71) (by rw [← hz79, ← hz92]; exact hz93)) ht51 (by omega) rfl))
    · skip
      refine r_ldc hL (n := 1000000) dX4_sumThrough_36 kc_X4_86 (by decide) ?_
      exact r_iret hL dX4_sumThrough_38 rfl (hK _ (by omega) (by omega) (by omega) (by omega) (lsT_out (by omega) (by omega) (by omega) (by omega) (by omega) rfl))

set_option maxHeartbeats 4000000 in
set_option maxRecDepth 20000 in
theorem m_X4_leastFrom {K : Option xV → xW → xM → Prop} {μ : xM} (hB0 : BI μ) (i : Int) (hi : 0 ≤ i ∧ i ≤ μ 92 7) (j : Int) (hj : 0 ≤ j ∧ j ≤ μ 92 8) (hU : LUp (μ 96) (μ 92 7) (μ 92 8) i j) (hK : ∀ r, 0 ≤ r ∧ r ≤ 9 * ((μ 92 7 - i) + (μ 92 8 - j)) → r = (if i = μ 92 7 ∧ j = μ 92 8 then 0 else lsv (cco μ) (μ 96) i j 4) → K (some (xI r)) WW μ) : xMet yX4_leastFrom cX4_leastFrom 5 (some .int) 2 53 0 0 [xR 92, xI i, xI j] WW μ K := by
  refine xMet.go RX4 "leastFrom" rfl rfl (by decide) [some (xR 92), some (xI i), some (xI j), none, none] (Nat.le_of_ble_eq_true rfl) rfl (fun X hL => ?_)
  have hB := hB0
  have hb7 : ((7 : Int) = 7 → 0 ≤ μ 92 7 ∧ μ 92 7 ≤ 10) ∧ ((7 : Int) = 8 → 0 ≤ μ 92 7 ∧ μ 92 7 ≤ 10) := hB 92 7
  have hb8 : ((8 : Int) = 7 → 0 ≤ μ 92 8 ∧ μ 92 8 ≤ 10) ∧ ((8 : Int) = 8 → 0 ≤ μ 92 8 ∧ μ 92 8 ≤ 10) := hB 92 8
  refine r_iload_n hL (x := i) dX4_leastFrom_0 rfl ?_
  refine r_aload_n hL (x := 92) dX4_leastFrom_1 rfl ?_
  refine r_geti hL xcl4 7 (j' := 7) rfl (by decide) s_92 (by decide) fl_X4_33 (by decide) (by decide) dX4_leastFrom_2 (fun hr2 => ?_)
  obtain ⟨z2, hz2⟩ : ∃ z, z = μ 92 7 := ⟨_, rfl⟩
  rw [← hz2] at hr2 ⊢
  have hb2 : 0 ≤ μ 92 7 ∧ μ 92 7 ≤ 10 := (show ((7 : Int) = 7 → 0 ≤ (μ 92 7) ∧ (μ 92 7) ≤ 10) ∧ ((7 : Int) = 8 → 0 ≤ (μ 92 7) ∧ (μ 92 7) ≤ 10) from hB 92 7).1 (by omega)
  refine r_icmp_ne hL (tgt := 18) dX4_leastFrom_5 (by decide) (by omega) (by omega) (fun c5 => ?_) (fun c5 => ?_)
  · skip
    refine r_ldc hL (n := 1000000) dX4_leastFrom_18 kc_X4_86 (by decide) ?_
    refine r_istore_n hL (lo' := [some (xR 92), some (xI i), some (xI j), some (xI 1000000), none]) dX4_leastFrom_20 (by decide) rfl ?_
    refine r_iconst hL dX4_leastFrom_21 ?_
    refine r_istore hL (lo' := [some (xR 92), some (xI i), some (xI j), some (xI 1000000), some (xI 0)]) dX4_leastFrom_22 (by decide) rfl ?_
    have lp24 : ∀ (n24 : Nat) (b : Int) (s : Int), (0 ≤ b ∧ b ≤ 1000000) → (0 ≤ s ∧ s ≤ 4) → (2 ≤ s → i < μ 92 7 → b ≤ 9 * ((μ 92 7 - i) + (μ 92 8 - j))) → (3 ≤ s → j < μ 92 8 → b ≤ 9 * ((μ 92 7 - i) + (μ 92 8 - j))) → (lsB (cco μ) (μ 96) i j s.toNat b) → ((4 - s).toNat) < n24 → X 0 0 WW μ 24 [some (xR 92), some (xI i), some (xI j), some (xI b), some (xI s)] [] := by
      intro n24
      induction n24 with
      | zero => intro b s h1 h2 h3 h4 h5 hn; exact absurd hn (Nat.not_lt_zero _)
      | succ n24 ih24 =>
        intro b s h1 h2 h3 h4 h5 hn24
        refine r_iload hL (x := s) dX4_leastFrom_24 rfl ?_
        refine r_iconst hL dX4_leastFrom_26 ?_
        refine r_icmp_ge hL (tgt := 49) dX4_leastFrom_27 (by decide) (by omega) (by omega) (fun c27 => ?_) (fun c27 => ?_)
        · skip
          refine r_iload_n hL (x := b) dX4_leastFrom_49 rfl ?_
          exact r_iret hL dX4_leastFrom_50 rfl (hK _ (by omega) ((h5.fin (by omega) (by omega)).trans (if_neg (by omega)).symm))
        · skip
          refine r_iload_n hL (x := b) dX4_leastFrom_30 rfl ?_
          refine r_aload_n hL (x := 92) dX4_leastFrom_31 rfl ?_
          refine r_iload_n hL (x := i) dX4_leastFrom_32 rfl ?_
          refine r_iload_n hL (x := j) dX4_leastFrom_33 rfl ?_
          refine r_iload hL (x := s) dX4_leastFrom_34 rfl ?_
          refine r_callV hL (st := [xI b]) (av := [xI i, xI j, xI s]) (k := 92) (m_X4_sumThrough (μ := μ) hB i (by omega) j (by omega) s (by omega) hU (fun z36 hc36 hc36_1 hc36_2 hc36_3 hT36 => ⟨rfl, ?_⟩)) ce_yX4_sumThrough im_yX4_sumThrough se_yX4_sumThrough ml_X4_87 xcl4 (by decide) s_92 dX4_leastFrom_36 rfl (Nat.le_of_ble_eq_true rfl) ⟨Nat.le_of_ble_eq_true rfl, Nat.le_of_ble_eq_true rfl⟩ ⟨Nat.le_of_ble_eq_true rfl, Nat.le_of_ble_eq_true rfl⟩
          show X 0 0 WW μ 39 [some (xR 92), some (xI i), some (xI j), some (xI b), some (xI s)] [xI z36, xI b]
          refine r_min hL (by omega) (by omega) ml_X4_77 sm_Lib_Math_min_name it_java_lang_Math kd_Lib_Math_min_name dX4_leastFrom_39 ⟨Nat.le_of_ble_eq_true rfl, Nat.le_of_ble_eq_true rfl⟩ ⟨Nat.le_of_ble_eq_true rfl, Nat.le_of_ble_eq_true rfl⟩ ?_
          obtain ⟨z39, hz39⟩ : ∃ z, z = min b z36 := ⟨_, rfl⟩
          rw [← hz39]
          refine r_istore_n hL (lo' := [some (xR 92), some (xI i), some (xI j), some (xI z39), some (xI s)]) dX4_leastFrom_42 (by decide) rfl ?_
          refine r_iinc hL (x := s) (lo' := [some (xR 92), some (xI i), some (xI j), some (xI z39), some (xI (s + 1))]) dX4_leastFrom_43 (by decide) rfl rfl ?_
          refine r_goto hL (tgt := 24) dX4_leastFrom_46 (by decide) ?_
          exact ih24 z39 (s + 1) (by omega) (by omega) (by omega) (by omega) (h5.up (by omega) hT36 hz39) (by omega)
    exact lp24 _ 1000000 0 (by omega) (by omega) (by omega) (by omega) (Or.inl ⟨rfl, rfl⟩) (Nat.lt_succ_self _)
  · skip
    refine r_iload_n hL (x := j) dX4_leastFrom_8 rfl ?_
    refine r_aload_n hL (x := 92) dX4_leastFrom_9 rfl ?_
    refine r_geti hL xcl4 8 (j' := 8) rfl (by decide) s_92 (by decide) fl_X4_37 (by decide) (by decide) dX4_leastFrom_10 (fun hr10 => ?_)
    obtain ⟨z10, hz10⟩ : ∃ z, z = μ 92 8 := ⟨_, rfl⟩
    rw [← hz10] at hr10 ⊢
    have hb10 : 0 ≤ μ 92 8 ∧ μ 92 8 ≤ 10 := (show ((8 : Int) = 7 → 0 ≤ (μ 92 8) ∧ (μ 92 8) ≤ 10) ∧ ((8 : Int) = 8 → 0 ≤ (μ 92 8) ∧ (μ 92 8) ≤ 10) from hB 92 8).2 (by omega)
    refine r_icmp_ne hL (tgt := 18) dX4_leastFrom_13 (by decide) (by omega) (by omega) (fun c13 => ?_) (fun c13 => ?_)
    · skip
      refine r_ldc hL (n := 1000000) dX4_leastFrom_18 kc_X4_86 (by decide) ?_
      refine r_istore_n hL (lo' := [some (xR 92), some (xI i), some (xI j), some (xI 1000000), none]) dX4_leastFrom_20 (by decide) rfl ?_
      refine r_iconst hL dX4_leastFrom_21 ?_
      refine r_istore hL (lo' := [some (xR 92), some (xI i), some (xI j), some (xI 1000000), some (xI 0)]) dX4_leastFrom_22 (by decide) rfl ?_
      have lp24 : ∀ (n24 : Nat) (b : Int) (s : Int), (0 ≤ b ∧ b ≤ 1000000) → (0 ≤ s ∧ s ≤ 4) → (2 ≤ s → i < μ 92 7 → b ≤ 9 * ((μ 92 7 - i) + (μ 92 8 - j))) → (3 ≤ s → j < μ 92 8 → b ≤ 9 * ((μ 92 7 - i) + (μ 92 8 - j))) → (lsB (cco μ) (μ 96) i j s.toNat b) → ((4 - s).toNat) < n24 → X 0 0 WW μ 24 [some (xR 92), some (xI i), some (xI j), some (xI b), some (xI s)] [] := by
        intro n24
        induction n24 with
        | zero => intro b s h1 h2 h3 h4 h5 hn; exact absurd hn (Nat.not_lt_zero _)
        | succ n24 ih24 =>
          intro b s h1 h2 h3 h4 h5 hn24
          refine r_iload hL (x := s) dX4_leastFrom_24 rfl ?_
          refine r_iconst hL dX4_leastFrom_26 ?_
          refine r_icmp_ge hL (tgt := 49) dX4_leastFrom_27 (by decide) (by omega) (by omega) (fun c27 => ?_) (fun c27 => ?_)
          · skip
            refine r_iload_n hL (x := b) dX4_leastFrom_49 rfl ?_
            exact r_iret hL dX4_leastFrom_50 rfl (hK _ (by omega) ((h5.fin (by omega) (by omega)).trans (if_neg (by omega)).symm))
          · skip
            refine r_iload_n hL (x := b) dX4_leastFrom_30 rfl ?_
            refine r_aload_n hL (x := 92) dX4_leastFrom_31 rfl ?_
            refine r_iload_n hL (x := i) dX4_leastFrom_32 rfl ?_
            refine r_iload_n hL (x := j) dX4_leastFrom_33 rfl ?_
            refine r_iload hL (x := s) dX4_leastFrom_34 rfl ?_
            refine r_callV hL (st := [xI b]) (av := [xI i, xI j, xI s]) (k := 92) (m_X4_sumThrough (μ := μ) hB i (by omega) j (by omega) s (by omega) hU (fun z36 hc36 hc36_1 hc36_2 hc36_3 hT36 => ⟨rfl, ?_⟩)) ce_yX4_sumThrough im_yX4_sumThrough se_yX4_sumThrough ml_X4_87 xcl4 (by decide) s_92 dX4_leastFrom_36 rfl (Nat.le_of_ble_eq_true rfl) ⟨Nat.le_of_ble_eq_true rfl, Nat.le_of_ble_eq_true rfl⟩ ⟨Nat.le_of_ble_eq_true rfl, Nat.le_of_ble_eq_true rfl⟩
            show X 0 0 WW μ 39 [some (xR 92), some (xI i), some (xI j), some (xI b), some (xI s)] [xI z36, xI b]
            refine r_min hL (by omega) (by omega) ml_X4_77 sm_Lib_Math_min_name it_java_lang_Math kd_Lib_Math_min_name dX4_leastFrom_39 ⟨Nat.le_of_ble_eq_true rfl, Nat.le_of_ble_eq_true rfl⟩ ⟨Nat.le_of_ble_eq_true rfl, Nat.le_of_ble_eq_true rfl⟩ ?_
            obtain ⟨z39, hz39⟩ : ∃ z, z = min b z36 := ⟨_, rfl⟩
            rw [← hz39]
            refine r_istore_n hL (lo' := [some (xR 92), some (xI i), some (xI j), some (xI z39), some (xI s)]) dX4_leastFrom_42 (by decide) rfl ?_
            refine r_iinc hL (x := s) (lo' := [some (xR 92), some (xI i), some (xI j), some (xI z39), some (xI (s + 1))]) dX4_leastFrom_43 (by decide) rfl rfl ?_
            refine r_goto hL (tgt := 24) dX4_leastFrom_46 (by decide) ?_
            exact ih24 z39 (s + 1) (by omega) (by omega) (by omega) (by omega) (h5.up (by omega) hT36 hz39) (by omega)
      exact lp24 _ 1000000 0 (by omega) (by omega) (by omega) (by omega) (Or.inl ⟨rfl, rfl⟩) (Nat.lt_succ_self _)
    · skip
      refine r_iconst hL dX4_leastFrom_16 ?_
      exact r_iret hL dX4_leastFrom_17 rfl (hK _ (by omega) (if_pos ⟨by omega, by omega⟩).symm)

set_option maxHeartbeats 4000000 in
set_option maxRecDepth 20000 in
theorem m_X4_spell {K : Option xV → xW → xM → Prop} {μ : xM} (hB0 : BI μ) (c : Int) (hc : 0 ≤ c ∧ c ≤ 47244640255) (ac : Nat) (h_k : ac < WW.1) (h_s : WW.2.1 ac = (1, 10)) (h_b : bk ac = 15) (hK : ∀ r μ', BI μ' → Fr (fun k _ => k = ac) μ μ' → 0 ≤ r ∧ r ≤ 10 → r = c / 4294967296 → (∀ q, 0 ≤ q → q < r → μ' ac q = cmot c q) → K (some (xI r)) WW μ') : xMet yX4_spell cX4_spell 5 (some .int) 1 26 0 0 [xL c, xR ac] WW μ K := by
  refine xMet.go RX4 "spell" rfl rfl (by decide) [some (xL c), none, some (xR ac), none, none] (Nat.le_of_ble_eq_true rfl) rfl (fun X hL => ?_)
  have hB := hB0
  have hF : Fr (fun k _ => k = ac) μ μ := Fr.rf
  refine r_lload_n hL (x := c) dX4_spell_0 rfl ?_
  refine r_callSN hL (st := []) (av := [xL c]) (m_X7_lengthOf (μ := μ) c (by omega) (by omega) (fun z1 hz1 => ⟨rfl, ?_⟩)) ce_yX7_lengthOf sm_yX7_lengthOf ml_X4_73 dX4_spell_1 rfl (Nat.le_of_ble_eq_true rfl) ⟨Nat.le_of_ble_eq_true rfl, Nat.le_of_ble_eq_true rfl⟩ ⟨Nat.le_of_ble_eq_true rfl, Nat.le_of_ble_eq_true rfl⟩
  show X 0 0 WW μ 4 [some (xL c), none, some (xR ac), none, none] [xI z1]
  refine r_bipush hL dX4_spell_4 (by decide) ?_
  refine r_min hL (by omega) (by omega) ml_X4_77 sm_Lib_Math_min_name it_java_lang_Math kd_Lib_Math_min_name dX4_spell_6 ⟨Nat.le_of_ble_eq_true rfl, Nat.le_of_ble_eq_true rfl⟩ ⟨Nat.le_of_ble_eq_true rfl, Nat.le_of_ble_eq_true rfl⟩ ?_
  obtain ⟨z6, hz6⟩ : ∃ z, z = min z1 10 := ⟨_, rfl⟩
  rw [← hz6]
  refine r_istore_n hL (lo' := [some (xL c), none, some (xR ac), some (xI z6), none]) dX4_spell_9 (by decide) rfl ?_
  refine r_iconst hL dX4_spell_10 ?_
  refine r_istore hL (lo' := [some (xL c), none, some (xR ac), some (xI z6), some (xI 0)]) dX4_spell_11 (by decide) rfl ?_
  have lp13 : ∀ (n13 : Nat) (i : Int) (μ113 : xM), (BI μ113) → (Fr (fun k _ => k = ac) μ μ113) → (0 ≤ i ∧ i ≤ 10) → (∀ q, 0 ≤ q → q < i → μ113 ac q = cmot c q) → ((10 - i).toNat) < n13 → X 0 0 WW μ113 13 [some (xL c), none, some (xR ac), some (xI z6), some (xI i)] [] := by
    intro n13
    induction n13 with
    | zero => intro i μ113 hB113 hF113 h1 h2 hn; exact absurd hn (Nat.not_lt_zero _)
    | succ n13 ih13 =>
      intro i μ113 hB113 hF113 h1 h2 hn13
      refine r_iload hL (x := i) dX4_spell_13 rfl ?_
      refine r_iload_n hL (x := z6) dX4_spell_15 rfl ?_
      refine r_icmp_ge hL (tgt := 35) dX4_spell_16 (by decide) (by omega) (by omega) (fun c16 => ?_) (fun c16 => ?_)
      · skip
        refine r_iload_n hL (x := z6) dX4_spell_35 rfl ?_
        exact r_iret hL dX4_spell_36 rfl (hK _ _ hB113 hF113 (by omega) (by omega) (fun q q0 q1 => h2 q q0 (by omega)))
      · skip
        refine r_aload_n hL (x := ac) dX4_spell_19 rfl ?_
        refine r_iload hL (x := i) dX4_spell_20 rfl ?_
        refine r_lload_n hL (x := c) dX4_spell_22 rfl ?_
        refine r_iload hL (x := i) dX4_spell_23 rfl ?_
        refine r_callSN hL (st := [xI i, xR ac]) (av := [xL c, xI i]) (m_X7_motifOf (μ := μ113) c i (fun z25 hcm25 hc25 => ⟨rfl, ?_⟩)) ce_yX7_motifOf sm_yX7_motifOf ml_X4_82 dX4_spell_25 rfl (Nat.le_of_ble_eq_true rfl) ⟨Nat.le_of_ble_eq_true rfl, Nat.le_of_ble_eq_true rfl⟩ ⟨Nat.le_of_ble_eq_true rfl, Nat.le_of_ble_eq_true rfl⟩
        show X 0 0 WW μ113 28 [some (xL c), none, some (xR ac), some (xI z6), some (xI i)] [xI z25, xI i, xR ac]
        refine r_iast hL dX4_spell_28 h_k h_s (by decide) (by omega) (by omega) (by omega) (fun μ1 hm1 => ?_)
        have hB1 : BI μ1 := by rw [hm1]; exact hB113.up (by rw [h_b]; show 0 ≤ z25 ∧ z25 ≤ 7; omega)
        have hF1 : Fr (fun k _ => k = ac) μ μ1 := by rw [hm1]; exact hF113.up (by rfl)
        refine r_iinc hL (x := i) (lo' := [some (xL c), none, some (xR ac), some (xI z6), some (xI (i + 1))]) dX4_spell_29 (by decide) rfl rfl ?_
        refine r_goto hL (tgt := 13) dX4_spell_32 (by decide) ?_
        exact ih13 (i + 1) μ1 hB1 hF1 (by omega) (fun q q0 q1 => by rcases (show q < i ∨ q = i by omega) with e | e; rw [hm1, xup_j (by omega)]; exact h2 q q0 e; rw [hm1, e, xup_s]; exact hcm25) (by omega)
  exact lp13 _ 0 μ hB hF (by omega) (fun q q0 q1 => by omega) (Nat.lt_succ_self _)

set_option maxHeartbeats 4000000 in
set_option maxRecDepth 20000 in
theorem m_X4_lineUp {K : Option xV → xW → xM → Prop} {μ : xM} (hB0 : BI μ) (a : Int) (ha : 0 ≤ a ∧ a ≤ 47244640255) (b : Int) (hb0 : 0 ≤ b ∧ b ≤ 47244640255) (hK : ∀ μ', BI μ' → Fr RO μ μ' → LU μ' → LSx a b μ μ' → K none WW μ') : xMet yX4_lineUp cX4_lineUp 8 none 3 77 0 0 [xR 92, xL a, xL b, xR 4] WW μ K := by
  refine xMet.go RX4 "lineUp" rfl rfl (by decide) [some (xR 92), some (xL a), none, some (xL b), none, some (xR 4), none, none] (Nat.le_of_ble_eq_true rfl) rfl (fun X hL => ?_)
  have hB := hB0
  have hF : Fr RO μ μ := Fr.rf
  refine r_aload_n hL (x := 92) dX4_lineUp_0 rfl ?_
  refine r_lload_n hL (x := a) dX4_lineUp_1 rfl ?_
  refine r_aload_n hL (x := 92) dX4_lineUp_2 rfl ?_
  refine r_getr hL xcl4 0 (by decide) s_92 (by decide) fl_X4_9 (by decide) f_92_0 dX4_lineUp_3 ?_
  refine r_callS hL (st := [xR 92]) (av := [xL a, xR 93]) (m_X4_spell (μ := μ) hB a (by omega) 93 (by decide) s_93 (by decide) (fun z6 μ6c hB6c hG6 hc6 hl6 hs6 => ⟨rfl, ?_⟩)) ce_yX4_spell sm_yX4_spell ml_X4_40 dX4_lineUp_6 rfl (Nat.le_of_ble_eq_true rfl) ⟨Nat.le_of_ble_eq_true rfl, Nat.le_of_ble_eq_true rfl⟩ ⟨Nat.le_of_ble_eq_true rfl, Nat.le_of_ble_eq_true rfl⟩
  show X 0 0 WW μ6c 9 [some (xR 92), some (xL a), none, some (xL b), none, some (xR 4), none, none] [xI z6, xR 92]
  have hF6c : Fr RO μ μ6c := hF.trans (hG6.sub (fun k j (h : k = 93) => by unfold RO; omega))
  have hk6c_92_7 : μ6c 92 7 = μ 92 7 := hG6 92 7 (by decide)
  refine r_puti hL xcl4 7 (j' := 7) rfl (by decide) s_92 (by decide) fl_X4_33 rfl rfl (by omega) dX4_lineUp_9 (fun μ1 hm1 => ?_)
  have hB1 : BI μ1 := by rw [hm1]; exact hB6c.up (by show ((7 : Int) = 7 → 0 ≤ z6 ∧ z6 ≤ 10) ∧ ((7 : Int) = 8 → 0 ≤ z6 ∧ z6 ≤ 10); omega)
  have hF1 : Fr RO μ μ1 := by rw [hm1]; exact hF6c.up (by unfold RO; omega)
  have hk1_92_7 : μ1 92 7 = z6 := by rw [hm1]; exact xup_s _ _ _ _
  have hk1_92_8 : μ1 92 8 = μ6c 92 8 := by rw [hm1]; exact xup_j (by omega)
  refine r_aload_n hL (x := 92) dX4_lineUp_12 rfl ?_
  refine r_lload_n hL (x := b) dX4_lineUp_13 rfl ?_
  refine r_aload_n hL (x := 92) dX4_lineUp_14 rfl ?_
  refine r_getr hL xcl4 1 (by decide) s_92 (by decide) fl_X4_15 (by decide) f_92_1 dX4_lineUp_15 ?_
  refine r_callS hL (st := [xR 92]) (av := [xL b, xR 94]) (m_X4_spell (μ := μ1) hB1 b (by omega) 94 (by decide) s_94 (by decide) (fun z18 μ18c hB18c hG18 hc18 hl18 hs18 => ⟨rfl, ?_⟩)) ce_yX4_spell sm_yX4_spell ml_X4_40 dX4_lineUp_18 rfl (Nat.le_of_ble_eq_true rfl) ⟨Nat.le_of_ble_eq_true rfl, Nat.le_of_ble_eq_true rfl⟩ ⟨Nat.le_of_ble_eq_true rfl, Nat.le_of_ble_eq_true rfl⟩
  show X 0 0 WW μ18c 21 [some (xR 92), some (xL a), none, some (xL b), none, some (xR 4), none, none] [xI z18, xR 92]
  have hF18c : Fr RO μ μ18c := hF1.trans (hG18.sub (fun k j (h : k = 94) => by unfold RO; omega))
  have hk18c_92_7 : μ18c 92 7 = μ1 92 7 := hG18 92 7 (by decide)
  refine r_puti hL xcl4 8 (j' := 8) rfl (by decide) s_92 (by decide) fl_X4_37 rfl rfl (by omega) dX4_lineUp_21 (fun μ2 hm2 => ?_)
  have hB2 : BI μ2 := by rw [hm2]; exact hB18c.up (by show ((8 : Int) = 7 → 0 ≤ z18 ∧ z18 ≤ 10) ∧ ((8 : Int) = 8 → 0 ≤ z18 ∧ z18 ≤ 10); omega)
  have hF2 : Fr RO μ μ2 := by rw [hm2]; exact hF18c.up (by unfold RO; omega)
  have hk2_92_7 : μ2 92 7 = μ18c 92 7 := by rw [hm2]; exact xup_j (by omega)
  have hk2_92_8 : μ2 92 8 = z18 := by rw [hm2]; exact xup_s _ _ _ _
  refine r_aload hL (x := 4) dX4_lineUp_24 rfl ?_
  refine r_iconst hL dX4_lineUp_26 ?_
  refine r_aload_n hL (x := 92) dX4_lineUp_27 rfl ?_
  refine r_getr hL xcl4 2 (by decide) s_92 (by decide) fl_X4_18 (by decide) f_92_2 dX4_lineUp_28 ?_
  refine r_iconst hL dX4_lineUp_31 ?_
  refine r_iconst hL dX4_lineUp_32 ?_
  refine r_copyi hL (by decide) (by decide) s_4 s_95 (by decide) (by decide) (by decide) (by decide) ml_X4_44 nm_arraycopyName sm_arraycopyName it_java_lang_System dX4_lineUp_33 ⟨Nat.le_of_ble_eq_true rfl, Nat.le_of_ble_eq_true rfl⟩ (fun μ3 hm3 => ?_)
  have hB3 : BI μ3 := by rw [hm3]; exact hB2.cp (by decide)
  have hF3 : Fr RO μ μ3 := by rw [hm3]; exact hF2.cp (fun j _ _ => by unfold RO; omega)
  refine r_aload_n hL (x := 92) dX4_lineUp_36 rfl ?_
  obtain ⟨fl, hfl⟩ : ∃ z, z = μ3 92 7 := ⟨_, rfl⟩
  obtain ⟨fo, hfo⟩ : ∃ z, z = μ3 92 8 := ⟨_, rfl⟩
  have hb7 : ((7 : Int) = 7 → 0 ≤ μ3 92 7 ∧ μ3 92 7 ≤ 10) ∧ ((7 : Int) = 8 → 0 ≤ μ3 92 7 ∧ μ3 92 7 ≤ 10) := hB3 92 7
  have hb8 : ((8 : Int) = 7 → 0 ≤ μ3 92 8 ∧ μ3 92 8 ≤ 10) ∧ ((8 : Int) = 8 → 0 ≤ μ3 92 8 ∧ μ3 92 8 ≤ 10) := hB3 92 8
  obtain ⟨MX, hMX⟩ : ∃ z : xM, z = μ3 := ⟨_, rfl⟩
  have hcpy : ∀ k q, k ≠ 95 → MX k q = μ2 k q := fun k q h => by rw [hMX, hm3]; simp only [xcp, h, false_and, if_false]
  have hx1 : MX 92 7 = a / 4294967296 := by rw [hcpy 92 7 (by decide)]; omega
  have hx2 : MX 92 8 = b / 4294967296 := by rw [hcpy 92 8 (by decide)]; omega
  have hx3 : ∀ q, 0 ≤ q → q < a / 4294967296 → MX 93 q = cmot a q := fun q q0 q1 => by rw [hcpy 93 q (by decide), hm2, congrFun (xup_c (by decide)) q, hG18 93 q (show ¬ (93 = 94) by decide), hm1, congrFun (xup_c (by decide)) q]; exact hs6 q q0 (by omega)
  have hx4 : ∀ q, 0 ≤ q → q < b / 4294967296 → MX 94 q = cmot b q := fun q q0 q1 => by rw [hcpy 94 q (by decide), hm2, congrFun (xup_c (by decide)) q]; exact hs18 q q0 (by omega)
  have hx5 : ∀ k, 0 ≤ k → k < 4 → MX 95 k = μ 4 k := fun k k0 k1 => by rw [hMX, hm3]; exact (if_pos ⟨rfl, k0, k1⟩).trans (hF2 4 k (by unfold RO; omega))
  have hOK : COk fl fo (cco MX) := by rw [hfl, hfo, ← hMX]; exact cco_ok (by rw [hMX]; exact hB3)
  refine r_geti hL xcl4 7 (j' := 7) rfl (by decide) s_92 (by decide) fl_X4_33 (by decide) (by decide) dX4_lineUp_37 (fun hr37 => ?_)
  obtain ⟨z37, hz37⟩ : ∃ z, z = μ3 92 7 := ⟨_, rfl⟩
  rw [← hz37] at hr37 ⊢
  have hb37 : 0 ≤ μ3 92 7 ∧ μ3 92 7 ≤ 10 := (show ((7 : Int) = 7 → 0 ≤ (μ3 92 7) ∧ (μ3 92 7) ≤ 10) ∧ ((7 : Int) = 8 → 0 ≤ (μ3 92 7) ∧ (μ3 92 7) ≤ 10) from hB3 92 7).1 (by omega)
  refine r_istore hL (lo' := [some (xR 92), some (xL a), none, some (xL b), none, some (xR 4), some (xI z37), none]) dX4_lineUp_40 (by decide) rfl ?_
  have lp42 : ∀ (n42 : Nat) (i : Int) (μ142 : xM), (BI μ142) → (Fr RO μ μ142) → (μ142 92 7 = fl) → (μ142 92 8 = fo) → (-1 ≤ i ∧ i ≤ fl) → (LUp (μ142 96) fl fo i fo) → (∀ k q, 92 ≤ k → k ≤ 95 → μ142 k q = MX k q) → (LQp fl fo (cco MX) (μ142 96) i fo) → ((i + 1).toNat) < n42 → X 0 0 WW μ142 42 [some (xR 92), none, none, none, none, none, some (xI i), none] [] := by
    intro n42
    induction n42 with
    | zero => intro i μ142 hB142 hF142 h1 h2 h3 h4 h9 h10 hn; exact absurd hn (Nat.not_lt_zero _)
    | succ n42 ih42 =>
      intro i μ142 hB142 hF142 h1 h2 h3 h4 h9 h10 hn42
      refine r_iload hL (x := i) dX4_lineUp_42 rfl ?_
      refine r_if_lt hL (tgt := 91) dX4_lineUp_44 (by decide) (by omega) (fun c44 => ?_) (fun c44 => ?_)
      · skip
        exact r_vret hL dX4_lineUp_91 rfl (hK _ hB142 hF142 (by unfold LU; rw [h1, h2, show (-1 : Int) = i by omega]; exact h4) ⟨by rw [h9 92 7 (by omega) (by omega)]; exact hx1, by rw [h9 92 8 (by omega) (by omega)]; exact hx2, fun q q0 q1 => by rw [h9 93 q (by omega) (by omega)]; exact hx3 q q0 q1, fun q q0 q1 => by rw [h9 94 q (by omega) (by omega)]; exact hx4 q q0 q1, fun q q0 q1 => by rw [h9 95 q (by omega) (by omega)]; exact hx5 q q0 q1, by unfold LQ; rw [h1, h2, cco_fr h9, show (-1 : Int) = i by omega]; exact h10⟩)
      · skip
        refine r_aload_n hL (x := 92) dX4_lineUp_47 rfl ?_
        refine r_geti hL xcl4 8 (j' := 8) rfl (by decide) s_92 (by decide) fl_X4_37 (by decide) (by decide) dX4_lineUp_48 (fun hr48 => ?_)
        obtain ⟨z48, hz48⟩ : ∃ z, z = μ142 92 8 := ⟨_, rfl⟩
        rw [← hz48] at hr48 ⊢
        have hb48 : 0 ≤ μ142 92 8 ∧ μ142 92 8 ≤ 10 := (show ((8 : Int) = 7 → 0 ≤ (μ142 92 8) ∧ (μ142 92 8) ≤ 10) ∧ ((8 : Int) = 8 → 0 ≤ (μ142 92 8) ∧ (μ142 92 8) ≤ 10) from hB142 92 8).2 (by omega)
        refine r_istore hL (lo' := [some (xR 92), none, none, none, none, none, some (xI i), some (xI z48)]) dX4_lineUp_51 (by decide) rfl ?_
        have lp53 : ∀ (n53 : Nat) (j : Int) (μ153 : xM), (BI μ153) → (Fr RO μ μ153) → (μ153 92 7 = fl) → (μ153 92 8 = fo) → (-1 ≤ j ∧ j ≤ fo) → (LUp (μ153 96) fl fo i j) → (∀ k q, 92 ≤ k → k ≤ 95 → μ153 k q = MX k q) → (LQp fl fo (cco MX) (μ153 96) i j) → ((j + 1).toNat) < n53 → X 0 0 WW μ153 53 [some (xR 92), none, none, none, none, none, some (xI i), some (xI j)] [] := by
          intro n53
          induction n53 with
          | zero => intro j μ153 hB153 hF153 h5 h6 h7 h8 h11 h12 hn; exact absurd hn (Nat.not_lt_zero _)
          | succ n53 ih53 =>
            intro j μ153 hB153 hF153 h5 h6 h7 h8 h11 h12 hn53
            refine r_iload hL (x := j) dX4_lineUp_53 rfl ?_
            refine r_if_lt hL (tgt := 85) dX4_lineUp_55 (by decide) (by omega) (fun c55 => ?_) (fun c55 => ?_)
            · skip
              refine r_iinc hL (x := i) (lo' := [some (xR 92), none, none, none, none, none, some (xI (i + (-1))), some (xI j)]) dX4_lineUp_85 (by decide) rfl rfl ?_
              refine r_goto hL (tgt := 42) dX4_lineUp_88 (by decide) ?_
              refine r_drop hL (lo' := [some (xR 92), none, none, none, none, none, some (xI (i + (-1))), none]) [7] rfl ?_
              exact ih42 (i + (-1)) μ153 hB153 hF153 (by omega) (by omega) (by omega) (LUp.up (by rw [show (-1 : Int) = j by omega]; exact h8)) h11 (LQp.up (by rw [show (-1 : Int) = j by omega]; exact h12)) (by omega)
            · skip
              refine r_aload_n hL (x := 92) dX4_lineUp_58 rfl ?_
              refine r_getr hL xcl4 3 (by decide) s_92 (by decide) fl_X4_21 (by decide) f_92_3 dX4_lineUp_59 ?_
              refine r_iload hL (x := i) dX4_lineUp_62 rfl ?_
              refine r_bipush hL dX4_lineUp_64 (by decide) ?_
              refine r_imul hL dX4_lineUp_66 ?_
              refine r_iload hL (x := j) dX4_lineUp_67 rfl ?_
              refine r_iadd hL dX4_lineUp_69 ?_
              refine r_aload_n hL (x := 92) dX4_lineUp_70 rfl ?_
              refine r_iload hL (x := i) dX4_lineUp_71 rfl ?_
              refine r_iload hL (x := j) dX4_lineUp_73 rfl ?_
              refine r_callV hL (st := [xI ((i * 11) + j), xR 96]) (av := [xI i, xI j]) (k := 92) (m_X4_leastFrom (μ := μ153) hB153 i (by omega) j (by omega) (by rw [h5, h6]; exact h8) (fun z75 hc75 heq75 => ⟨rfl, ?_⟩)) ce_yX4_leastFrom im_yX4_leastFrom se_yX4_leastFrom ml_X4_50 xcl4 (by decide) s_92 dX4_lineUp_75 rfl (Nat.le_of_ble_eq_true rfl) ⟨Nat.le_of_ble_eq_true rfl, Nat.le_of_ble_eq_true rfl⟩ ⟨Nat.le_of_ble_eq_true rfl, Nat.le_of_ble_eq_true rfl⟩
              show X 0 0 WW μ153 78 [some (xR 92), none, none, none, none, none, some (xI i), some (xI j)] [xI z75, xI ((i * 11) + j), xR 96]
              refine r_iast hL dX4_lineUp_78 (by decide) s_96 (by decide) (by omega) (by omega) (by omega) (fun μ4 hm4 => ?_)
              have hB4 : BI μ4 := by rw [hm4]; exact hB153.up trivial
              have hF4 : Fr RO μ μ4 := by rw [hm4]; exact hF153.up (by unfold RO; omega)
              have hk4_92_7 : μ4 92 7 = μ153 92 7 := by rw [hm4]; exact congrFun (xup_c (by decide)) _
              have hk4_92_8 : μ4 92 8 = μ153 92 8 := by rw [hm4]; exact congrFun (xup_c (by decide)) _
              refine r_iinc hL (x := j) (lo' := [some (xR 92), none, none, none, none, none, some (xI i), some (xI (j + (-1)))]) dX4_lineUp_79 (by decide) rfl rfl ?_
              refine r_goto hL (tgt := 53) dX4_lineUp_82 (by decide) ?_
              exact ih53 (j + (-1)) μ4 hB4 hF4 (by omega) (by omega) (by omega) (LUp.step (v := z75) h8 (by omega) (by omega) (by omega) (by omega) (fun q => by rw [hm4]; simp [xup])) (fun k q x y => by rw [hm4, congrFun (xup_c (by omega)) q]; exact h11 k q x y) (LQp.step (v := z75) h12 hOK (by omega) (by omega) (by omega) (by rw [heq75, h5, h6, cco_fr h11]) (fun q => by rw [hm4, show i * 11 + j = 11 * i + j by omega]; simp [xup])) (by omega)
        exact lp53 _ z48 μ142 hB142 hF142 (by omega) (by omega) (by omega) (by rw [show z48 = fo by omega]; exact h4) h9 (by rw [show z48 = fo by omega]; exact h10) (Nat.lt_succ_self _)
  refine r_drop hL (lo' := [some (xR 92), none, none, none, none, none, some (xI z37), none]) [1, 3, 5] rfl ?_
  exact lp42 _ z37 μ3 hB3 hF3 (by omega) (by omega) (by omega) (by rw [show z37 = fl by omega]; exact LUp.none) (fun k q _ _ => by rw [hMX]) (by rw [show z37 = fl by omega]; exact LQp.none) (Nat.lt_succ_self _)

set_option maxHeartbeats 4000000 in
set_option maxRecDepth 20000 in
theorem m_X4_rowsFrom {K : Option xV → xW → xM → Prop} {μ : xM} (hB0 : BI μ) (i : Int) (hi : 0 ≤ i ∧ i ≤ μ 92 7) (j : Int) (hj : 0 ≤ j ∧ j ≤ μ 92 8) (hU : LU μ) (hQ : LQ (μ 92 7) (μ 92 8) (cco μ) (μ 96)) (hK : ∀ r, xrg r → r = (if i = μ 92 7 ∧ j = μ 92 8 then 1 else lwy (cco μ) (μ 96) (μ 97) i j 4) → K (some (xI r)) WW μ) : xMet yX4_rowsFrom cX4_rowsFrom 5 (some .int) 2 53 0 0 [xR 92, xI i, xI j] WW μ K := by
  refine xMet.go RX4 "rowsFrom" rfl rfl (by decide) [some (xR 92), some (xI i), some (xI j), none, none] (Nat.le_of_ble_eq_true rfl) rfl (fun X hL => ?_)
  have hB := hB0
  have hb7 : ((7 : Int) = 7 → 0 ≤ μ 92 7 ∧ μ 92 7 ≤ 10) ∧ ((7 : Int) = 8 → 0 ≤ μ 92 7 ∧ μ 92 7 ≤ 10) := hB 92 7
  have hb8 : ((8 : Int) = 7 → 0 ≤ μ 92 8 ∧ μ 92 8 ≤ 10) ∧ ((8 : Int) = 8 → 0 ≤ μ 92 8 ∧ μ 92 8 ≤ 10) := hB 92 8
  have hT0 : 0 ≤ μ 96 (11 * i + j) ∧ μ 96 (11 * i + j) ≤ 180 := by have hq := hU.at (i := i) (j := j) (by omega) (by omega) (by omega) (by omega); rw [show i * 11 + j = 11 * i + j by omega] at hq; omega
  refine r_iload_n hL (x := i) dX4_rowsFrom_0 rfl ?_
  refine r_aload_n hL (x := 92) dX4_rowsFrom_1 rfl ?_
  refine r_geti hL xcl4 7 (j' := 7) rfl (by decide) s_92 (by decide) fl_X4_33 (by decide) (by decide) dX4_rowsFrom_2 (fun hr2 => ?_)
  obtain ⟨z2, hz2⟩ : ∃ z, z = μ 92 7 := ⟨_, rfl⟩
  rw [← hz2] at hr2 ⊢
  have hb2 : 0 ≤ μ 92 7 ∧ μ 92 7 ≤ 10 := (show ((7 : Int) = 7 → 0 ≤ (μ 92 7) ∧ (μ 92 7) ≤ 10) ∧ ((7 : Int) = 8 → 0 ≤ (μ 92 7) ∧ (μ 92 7) ≤ 10) from hB 92 7).1 (by omega)
  refine r_icmp_ne hL (tgt := 18) dX4_rowsFrom_5 (by decide) (by omega) (by omega) (fun c5 => ?_) (fun c5 => ?_)
  · skip
    have hL0 : μ 96 (11 * i + j) = lsv (cco μ) (μ 96) i j 4 := (hQ i j (by omega) (by omega) (by omega) (by omega) (by omega)).trans (if_neg (by omega))
    refine r_iconst hL dX4_rowsFrom_18 ?_
    refine r_istore_n hL (lo' := [some (xR 92), some (xI i), some (xI j), some (xI 0), none]) dX4_rowsFrom_19 (by decide) rfl ?_
    refine r_iconst hL dX4_rowsFrom_20 ?_
    refine r_istore hL (lo' := [some (xR 92), some (xI i), some (xI j), some (xI 0), some (xI 0)]) dX4_rowsFrom_21 (by decide) rfl ?_
    have lp23 : ∀ (n23 : Nat) (n : Int) (s : Int), (xrg n) → (0 ≤ s ∧ s ≤ 4) → (lwB (cco μ) (μ 96) (μ 97) i j s.toNat n) → ((4 - s).toNat) < n23 → X 0 0 WW μ 23 [some (xR 92), some (xI i), some (xI j), some (xI n), some (xI s)] [] := by
      intro n23
      induction n23 with
      | zero => intro n s h1 h2 h3 hn; exact absurd hn (Nat.not_lt_zero _)
      | succ n23 ih23 =>
        intro n s h1 h2 h3 hn23
        refine r_iload hL (x := s) dX4_rowsFrom_23 rfl ?_
        refine r_iconst hL dX4_rowsFrom_25 ?_
        refine r_icmp_ge hL (tgt := 85) dX4_rowsFrom_26 (by decide) (by omega) (by omega) (fun c26 => ?_) (fun c26 => ?_)
        · skip
          refine r_iload_n hL (x := n) dX4_rowsFrom_85 rfl ?_
          exact r_iret hL dX4_rowsFrom_86 rfl (hK _ (by omega) ((h3.fin (by omega) hL0).trans (if_neg (by omega)).symm))
        · skip
          refine r_aload_n hL (x := 92) dX4_rowsFrom_29 rfl ?_
          refine r_iload_n hL (x := i) dX4_rowsFrom_30 rfl ?_
          refine r_iload_n hL (x := j) dX4_rowsFrom_31 rfl ?_
          refine r_iload hL (x := s) dX4_rowsFrom_32 rfl ?_
          refine r_callV hL (st := []) (av := [xI i, xI j, xI s]) (k := 92) (m_X4_sumThrough (μ := μ) hB i (by omega) j (by omega) s (by omega) (hU.lup (by omega)) (fun z34 hc34 hc34_1 hc34_2 hc34_3 hT34 => ⟨rfl, ?_⟩)) ce_yX4_sumThrough im_yX4_sumThrough se_yX4_sumThrough ml_X4_87 xcl4 (by decide) s_92 dX4_rowsFrom_34 rfl (Nat.le_of_ble_eq_true rfl) ⟨Nat.le_of_ble_eq_true rfl, Nat.le_of_ble_eq_true rfl⟩ ⟨Nat.le_of_ble_eq_true rfl, Nat.le_of_ble_eq_true rfl⟩
          show X 0 0 WW μ 37 [some (xR 92), some (xI i), some (xI j), some (xI n), some (xI s)] [xI z34]
          refine r_aload_n hL (x := 92) dX4_rowsFrom_37 rfl ?_
          refine r_getr hL xcl4 3 (by decide) s_92 (by decide) fl_X4_21 (by decide) f_92_3 dX4_rowsFrom_38 ?_
          refine r_iload_n hL (x := i) dX4_rowsFrom_41 rfl ?_
          refine r_bipush hL dX4_rowsFrom_42 (by decide) ?_
          refine r_imul hL dX4_rowsFrom_44 ?_
          refine r_iload_n hL (x := j) dX4_rowsFrom_45 rfl ?_
          refine r_iadd hL dX4_rowsFrom_46 ?_
          refine r_iald hL dX4_rowsFrom_47 (by decide) s_96 (by decide) (by omega) (by omega) (fun hr47 => ?_)
          obtain ⟨z47, hz47⟩ : ∃ z, z = μ 96 ((i * 11) + j) := ⟨_, rfl⟩
          rw [← hz47] at hr47 ⊢
          have hl48 := hU.at (i := i) (j := j) (by omega) (by omega) (by omega) (by omega)
          have ht47 : z47 = μ 96 (11 * i + j) := hz47.trans (congrArg (μ 96) (by omega))
          refine r_icmp_ne hL (tgt := 79) dX4_rowsFrom_48 (by decide) (by omega) (by omega) (fun c48 => ?_) (fun c48 => ?_)
          · skip
            refine r_iinc hL (x := s) (lo' := [some (xR 92), some (xI i), some (xI j), some (xI n), some (xI (s + 1))]) dX4_rowsFrom_79 (by decide) rfl rfl ?_
            refine r_goto hL (tgt := 23) dX4_rowsFrom_82 (by decide) ?_
            exact ih23 n (s + 1) (by omega) (by omega) (h3.up (by omega) (by omega) hL0 (by omega) hT34 (by first | (have h_ := hy77; exact Or.inl ⟨by omega, by rw [← ht76]; exact hr76, by rw [hy77, ht76]⟩) | exact Or.inr ⟨by omega, rfl⟩)) (by omega)
          · skip
            refine r_iload_n hL (x := n) dX4_rowsFrom_51 rfl ?_
            refine r_aload_n hL (x := 92) dX4_rowsFrom_52 rfl ?_
            refine r_getr hL xcl4 4 (by decide) s_92 (by decide) fl_X4_24 (by decide) f_92_4 dX4_rowsFrom_53 ?_
            refine r_iload_n hL (x := i) dX4_rowsFrom_56 rfl ?_
            refine r_getsF hL dX4_rowsFrom_57 fw_X4_60 (fun a57 hTa57 => ?_)
            refine r_iload hL (x := s) dX4_rowsFrom_60 rfl ?_
            refine hTa57 dX4_rowsFrom_62 (by omega) (by omega) ?_
            obtain ⟨z62, hz62⟩ : ∃ z, z = xOF s := ⟨_, rfl⟩
            rw [← hz62]
            have hr62 : 0 ≤ z62 ∧ z62 ≤ 2 := by rw [hz62]; exact xOF_rg _
            have hv62 := xOF_v s
            rw [← hz62] at hv62
            refine r_iadd hL dX4_rowsFrom_63 ?_
            refine r_bipush hL dX4_rowsFrom_64 (by decide) ?_
            refine r_imul hL dX4_rowsFrom_66 ?_
            refine r_iload_n hL (x := j) dX4_rowsFrom_67 rfl ?_
            refine r_iadd hL dX4_rowsFrom_68 ?_
            refine r_getsO hL dX4_rowsFrom_69 fw_X4_63 (fun a69 hTa69 => ?_)
            refine r_iload hL (x := s) dX4_rowsFrom_72 rfl ?_
            refine hTa69 dX4_rowsFrom_74 (by omega) (by omega) ?_
            obtain ⟨z74, hz74⟩ : ∃ z, z = xOO s := ⟨_, rfl⟩
            rw [← hz74]
            have hr74 : 0 ≤ z74 ∧ z74 ≤ 2 := by rw [hz74]; exact xOO_rg _
            have hv74 := xOO_v s
            rw [← hz74] at hv74
            refine r_iadd hL dX4_rowsFrom_75 ?_
            refine r_iald hL dX4_rowsFrom_76 (by decide) s_97 (by decide) (by omega) (by omega) (fun hr76 => ?_)
            obtain ⟨z76, hz76⟩ : ∃ z, z = μ 97 ((((i + z62) * 11) + j) + z74) := ⟨_, rfl⟩
            rw [← hz76] at hr76 ⊢
            have ht76 : z76 = μ 97 (lnx i j s) := hz76.trans (congrArg (μ 97) (by unfold lnx; rw [← hz62, ← hz74]; omega))
            refine r_iadd hL dX4_rowsFrom_77 ?_
            refine r_norm hL (fun y77 hy77 hyr77 => ?_)
            refine r_istore_n hL (lo' := [some (xR 92), some (xI i), some (xI j), some (xI y77), some (xI s)]) dX4_rowsFrom_78 (by decide) rfl ?_
            refine r_iinc hL (x := s) (lo' := [some (xR 92), some (xI i), some (xI j), some (xI y77), some (xI (s + 1))]) dX4_rowsFrom_79 (by decide) rfl rfl ?_
            refine r_goto hL (tgt := 23) dX4_rowsFrom_82 (by decide) ?_
            exact ih23 y77 (s + 1) (by omega) (by omega) (h3.up (by omega) (by omega) hL0 (by omega) hT34 (by first | (have h_ := hy77; exact Or.inl ⟨by omega, by rw [← ht76]; exact hr76, by rw [hy77, ht76]⟩) | exact Or.inr ⟨by omega, rfl⟩)) (by omega)
    exact lp23 _ 0 0 (by omega) (by omega) (Or.inr ⟨by show μ 96 (11 * i + j) < 100000; omega, rfl⟩) (Nat.lt_succ_self _)
  · skip
    refine r_iload_n hL (x := j) dX4_rowsFrom_8 rfl ?_
    refine r_aload_n hL (x := 92) dX4_rowsFrom_9 rfl ?_
    refine r_geti hL xcl4 8 (j' := 8) rfl (by decide) s_92 (by decide) fl_X4_37 (by decide) (by decide) dX4_rowsFrom_10 (fun hr10 => ?_)
    obtain ⟨z10, hz10⟩ : ∃ z, z = μ 92 8 := ⟨_, rfl⟩
    rw [← hz10] at hr10 ⊢
    have hb10 : 0 ≤ μ 92 8 ∧ μ 92 8 ≤ 10 := (show ((8 : Int) = 7 → 0 ≤ (μ 92 8) ∧ (μ 92 8) ≤ 10) ∧ ((8 : Int) = 8 → 0 ≤ (μ 92 8) ∧ (μ 92 8) ≤ 10) from hB 92 8).2 (by omega)
    refine r_icmp_ne hL (tgt := 18) dX4_rowsFrom_13 (by decide) (by omega) (by omega) (fun c13 => ?_) (fun c13 => ?_)
    · skip
      have hL0 : μ 96 (11 * i + j) = lsv (cco μ) (μ 96) i j 4 := (hQ i j (by omega) (by omega) (by omega) (by omega) (by omega)).trans (if_neg (by omega))
      refine r_iconst hL dX4_rowsFrom_18 ?_
      refine r_istore_n hL (lo' := [some (xR 92), some (xI i), some (xI j), some (xI 0), none]) dX4_rowsFrom_19 (by decide) rfl ?_
      refine r_iconst hL dX4_rowsFrom_20 ?_
      refine r_istore hL (lo' := [some (xR 92), some (xI i), some (xI j), some (xI 0), some (xI 0)]) dX4_rowsFrom_21 (by decide) rfl ?_
      have lp23 : ∀ (n23 : Nat) (n : Int) (s : Int), (xrg n) → (0 ≤ s ∧ s ≤ 4) → (lwB (cco μ) (μ 96) (μ 97) i j s.toNat n) → ((4 - s).toNat) < n23 → X 0 0 WW μ 23 [some (xR 92), some (xI i), some (xI j), some (xI n), some (xI s)] [] := by
        intro n23
        induction n23 with
        | zero => intro n s h1 h2 h3 hn; exact absurd hn (Nat.not_lt_zero _)
        | succ n23 ih23 =>
          intro n s h1 h2 h3 hn23
          refine r_iload hL (x := s) dX4_rowsFrom_23 rfl ?_
          refine r_iconst hL dX4_rowsFrom_25 ?_
          refine r_icmp_ge hL (tgt := 85) dX4_rowsFrom_26 (by decide) (by omega) (by omega) (fun c26 => ?_) (fun c26 => ?_)
          · skip
            refine r_iload_n hL (x := n) dX4_rowsFrom_85 rfl ?_
            exact r_iret hL dX4_rowsFrom_86 rfl (hK _ (by omega) ((h3.fin (by omega) hL0).trans (if_neg (by omega)).symm))
          · skip
            refine r_aload_n hL (x := 92) dX4_rowsFrom_29 rfl ?_
            refine r_iload_n hL (x := i) dX4_rowsFrom_30 rfl ?_
            refine r_iload_n hL (x := j) dX4_rowsFrom_31 rfl ?_
            refine r_iload hL (x := s) dX4_rowsFrom_32 rfl ?_
            refine r_callV hL (st := []) (av := [xI i, xI j, xI s]) (k := 92) (m_X4_sumThrough (μ := μ) hB i (by omega) j (by omega) s (by omega) (hU.lup (by omega)) (fun z34 hc34 hc34_1 hc34_2 hc34_3 hT34 => ⟨rfl, ?_⟩)) ce_yX4_sumThrough im_yX4_sumThrough se_yX4_sumThrough ml_X4_87 xcl4 (by decide) s_92 dX4_rowsFrom_34 rfl (Nat.le_of_ble_eq_true rfl) ⟨Nat.le_of_ble_eq_true rfl, Nat.le_of_ble_eq_true rfl⟩ ⟨Nat.le_of_ble_eq_true rfl, Nat.le_of_ble_eq_true rfl⟩
            show X 0 0 WW μ 37 [some (xR 92), some (xI i), some (xI j), some (xI n), some (xI s)] [xI z34]
            refine r_aload_n hL (x := 92) dX4_rowsFrom_37 rfl ?_
            refine r_getr hL xcl4 3 (by decide) s_92 (by decide) fl_X4_21 (by decide) f_92_3 dX4_rowsFrom_38 ?_
            refine r_iload_n hL (x := i) dX4_rowsFrom_41 rfl ?_
            refine r_bipush hL dX4_rowsFrom_42 (by decide) ?_
            refine r_imul hL dX4_rowsFrom_44 ?_
            refine r_iload_n hL (x := j) dX4_rowsFrom_45 rfl ?_
            refine r_iadd hL dX4_rowsFrom_46 ?_
            refine r_iald hL dX4_rowsFrom_47 (by decide) s_96 (by decide) (by omega) (by omega) (fun hr47 => ?_)
            obtain ⟨z47, hz47⟩ : ∃ z, z = μ 96 ((i * 11) + j) := ⟨_, rfl⟩
            rw [← hz47] at hr47 ⊢
            have hl48 := hU.at (i := i) (j := j) (by omega) (by omega) (by omega) (by omega)
            have ht47 : z47 = μ 96 (11 * i + j) := hz47.trans (congrArg (μ 96) (by omega))
            refine r_icmp_ne hL (tgt := 79) dX4_rowsFrom_48 (by decide) (by omega) (by omega) (fun c48 => ?_) (fun c48 => ?_)
            · skip
              refine r_iinc hL (x := s) (lo' := [some (xR 92), some (xI i), some (xI j), some (xI n), some (xI (s + 1))]) dX4_rowsFrom_79 (by decide) rfl rfl ?_
              refine r_goto hL (tgt := 23) dX4_rowsFrom_82 (by decide) ?_
              exact ih23 n (s + 1) (by omega) (by omega) (h3.up (by omega) (by omega) hL0 (by omega) hT34 (by first | (have h_ := hy77; exact Or.inl ⟨by omega, by rw [← ht76]; exact hr76, by rw [hy77, ht76]⟩) | exact Or.inr ⟨by omega, rfl⟩)) (by omega)
            · skip
              refine r_iload_n hL (x := n) dX4_rowsFrom_51 rfl ?_
              refine r_aload_n hL (x := 92) dX4_rowsFrom_52 rfl ?_
              refine r_getr hL xcl4 4 (by decide) s_92 (by decide) fl_X4_24 (by decide) f_92_4 dX4_rowsFrom_53 ?_
              refine r_iload_n hL (x := i) dX4_rowsFrom_56 rfl ?_
              refine r_getsF hL dX4_rowsFrom_57 fw_X4_60 (fun a57 hTa57 => ?_)
              refine r_iload hL (x := s) dX4_rowsFrom_60 rfl ?_
              refine hTa57 dX4_rowsFrom_62 (by omega) (by omega) ?_
              obtain ⟨z62, hz62⟩ : ∃ z, z = xOF s := ⟨_, rfl⟩
              rw [← hz62]
              have hr62 : 0 ≤ z62 ∧ z62 ≤ 2 := by rw [hz62]; exact xOF_rg _
              have hv62 := xOF_v s
              rw [← hz62] at hv62
              refine r_iadd hL dX4_rowsFrom_63 ?_
              refine r_bipush hL dX4_rowsFrom_64 (by decide) ?_
              refine r_imul hL dX4_rowsFrom_66 ?_
              refine r_iload_n hL (x := j) dX4_rowsFrom_67 rfl ?_
              refine r_iadd hL dX4_rowsFrom_68 ?_
              refine r_getsO hL dX4_rowsFrom_69 fw_X4_63 (fun a69 hTa69 => ?_)
              refine r_iload hL (x := s) dX4_rowsFrom_72 rfl ?_
              refine hTa69 dX4_rowsFrom_74 (by omega) (by omega) ?_
              obtain ⟨z74, hz74⟩ : ∃ z, z = xOO s := ⟨_, rfl⟩
              rw [← hz74]
              have hr74 : 0 ≤ z74 ∧ z74 ≤ 2 := by rw [hz74]; exact xOO_rg _
              have hv74 := xOO_v s
              rw [← hz74] at hv74
              refine r_iadd hL dX4_rowsFrom_75 ?_
              refine r_iald hL dX4_rowsFrom_76 (by decide) s_97 (by decide) (by omega) (by omega) (fun hr76 => ?_)
              obtain ⟨z76, hz76⟩ : ∃ z, z = μ 97 ((((i + z62) * 11) + j) + z74) := ⟨_, rfl⟩
              rw [← hz76] at hr76 ⊢
              have ht76 : z76 = μ 97 (lnx i j s) := hz76.trans (congrArg (μ 97) (by unfold lnx; rw [← hz62, ← hz74]; omega))
              refine r_iadd hL dX4_rowsFrom_77 ?_
              refine r_norm hL (fun y77 hy77 hyr77 => ?_)
              refine r_istore_n hL (lo' := [some (xR 92), some (xI i), some (xI j), some (xI y77), some (xI s)]) dX4_rowsFrom_78 (by decide) rfl ?_
              refine r_iinc hL (x := s) (lo' := [some (xR 92), some (xI i), some (xI j), some (xI y77), some (xI (s + 1))]) dX4_rowsFrom_79 (by decide) rfl rfl ?_
              refine r_goto hL (tgt := 23) dX4_rowsFrom_82 (by decide) ?_
              exact ih23 y77 (s + 1) (by omega) (by omega) (h3.up (by omega) (by omega) hL0 (by omega) hT34 (by first | (have h_ := hy77; exact Or.inl ⟨by omega, by rw [← ht76]; exact hr76, by rw [hy77, ht76]⟩) | exact Or.inr ⟨by omega, rfl⟩)) (by omega)
      exact lp23 _ 0 0 (by omega) (by omega) (Or.inr ⟨by show μ 96 (11 * i + j) < 100000; omega, rfl⟩) (Nat.lt_succ_self _)
    · skip
      refine r_iconst hL dX4_rowsFrom_16 ?_
      exact r_iret hL dX4_rowsFrom_17 rfl (hK _ (by omega) (if_pos ⟨by omega, by omega⟩).symm)

set_option maxHeartbeats 4000000 in
set_option maxRecDepth 20000 in
theorem m_X4_leastStep {K : Option xV → xW → xM → Prop} {μ : xM} (hB0 : BI μ) (i : Int) (hi : 0 ≤ i ∧ i ≤ μ 92 7) (j : Int) (hj : 0 ≤ j ∧ j ≤ μ 92 8) (hU : LU μ) (hQ : LQ (μ 92 7) (μ 92 8) (cco μ) (μ 96)) (hK : ∀ r, (i = μ 92 7 ∧ j = μ 92 8 ∧ r = -1) ∨ (¬ (i = μ 92 7 ∧ j = μ 92 8) ∧ 0 ≤ r ∧ r ≤ 3 ∧ i + xOF r ≤ μ 92 7 ∧ j + xOO r ≤ μ 92 8 ∧ 1 ≤ xOF r + xOO r ∧ fst' (cco μ) (μ 96) i j = r) → K (some (xI r)) WW μ) : xMet yX4_leastStep cX4_leastStep 4 (some .int) 2 53 0 0 [xR 92, xI i, xI j] WW μ K := by
  refine xMet.go RX4 "leastStep" rfl rfl (by decide) [some (xR 92), some (xI i), some (xI j), none] (Nat.le_of_ble_eq_true rfl) rfl (fun X hL => ?_)
  have hB := hB0
  have hb7 : ((7 : Int) = 7 → 0 ≤ μ 92 7 ∧ μ 92 7 ≤ 10) ∧ ((7 : Int) = 8 → 0 ≤ μ 92 7 ∧ μ 92 7 ≤ 10) := hB 92 7
  have hb8 : ((8 : Int) = 7 → 0 ≤ μ 92 8 ∧ μ 92 8 ≤ 10) ∧ ((8 : Int) = 8 → 0 ≤ μ 92 8 ∧ μ 92 8 ≤ 10) := hB 92 8
  have hT0 : 0 ≤ μ 96 (11 * i + j) ∧ μ 96 (11 * i + j) ≤ 180 := by have hq := hU.at (i := i) (j := j) (by omega) (by omega) (by omega) (by omega); rw [show i * 11 + j = 11 * i + j by omega] at hq; omega
  refine r_iload_n hL (x := i) dX4_leastStep_0 rfl ?_
  refine r_aload_n hL (x := 92) dX4_leastStep_1 rfl ?_
  refine r_geti hL xcl4 7 (j' := 7) rfl (by decide) s_92 (by decide) fl_X4_33 (by decide) (by decide) dX4_leastStep_2 (fun hr2 => ?_)
  obtain ⟨z2, hz2⟩ : ∃ z, z = μ 92 7 := ⟨_, rfl⟩
  rw [← hz2] at hr2 ⊢
  have hb2 : 0 ≤ μ 92 7 ∧ μ 92 7 ≤ 10 := (show ((7 : Int) = 7 → 0 ≤ (μ 92 7) ∧ (μ 92 7) ≤ 10) ∧ ((7 : Int) = 8 → 0 ≤ (μ 92 7) ∧ (μ 92 7) ≤ 10) from hB 92 7).1 (by omega)
  refine r_icmp_ne hL (tgt := 18) dX4_leastStep_5 (by decide) (by omega) (by omega) (fun c5 => ?_) (fun c5 => ?_)
  · skip
    have hL0 : μ 96 (11 * i + j) = lsv (cco μ) (μ 96) i j 4 := (hQ i j (by omega) (by omega) (by omega) (by omega) (by omega)).trans (if_neg (by omega))
    refine r_iconst hL dX4_leastStep_18 ?_
    refine r_istore_n hL (lo' := [some (xR 92), some (xI i), some (xI j), some (xI 0)]) dX4_leastStep_19 (by decide) rfl ?_
    have lp20 : ∀ (n20 : Nat) (s : Int), (0 ≤ s ∧ s ≤ 4) → (∀ q, 0 ≤ q → q < s → ¬ att (cco μ) (μ 96) i j q) → ((4 - s).toNat) < n20 → X 0 0 WW μ 20 [some (xR 92), some (xI i), some (xI j), some (xI s)] [] := by
      intro n20
      induction n20 with
      | zero => intro s h2 h3 hn; exact absurd hn (Nat.not_lt_zero _)
      | succ n20 ih20 =>
        intro s h2 h3 hn20
        refine r_iload_n hL (x := s) dX4_leastStep_20 rfl ?_
        refine r_iconst hL dX4_leastStep_21 ?_
        refine r_icmp_ge hL (tgt := 54) dX4_leastStep_22 (by decide) (by omega) (by omega) (fun c22 => ?_) (fun c22 => ?_)
        · skip
          exact absurd (att_ex hL0 (by omega)) (fun ⟨q, q0, q3, qa⟩ => h3 q q0 (by omega) qa)
        · skip
          refine r_aload_n hL (x := 92) dX4_leastStep_25 rfl ?_
          refine r_iload_n hL (x := i) dX4_leastStep_26 rfl ?_
          refine r_iload_n hL (x := j) dX4_leastStep_27 rfl ?_
          refine r_iload_n hL (x := s) dX4_leastStep_28 rfl ?_
          refine r_callV hL (st := []) (av := [xI i, xI j, xI s]) (k := 92) (m_X4_sumThrough (μ := μ) hB i (by omega) j (by omega) s (by omega) (hU.lup (by omega)) (fun z29 hc29 hc29_1 hc29_2 hc29_3 hT29 => ⟨rfl, ?_⟩)) ce_yX4_sumThrough im_yX4_sumThrough se_yX4_sumThrough ml_X4_87 xcl4 (by decide) s_92 dX4_leastStep_29 rfl (Nat.le_of_ble_eq_true rfl) ⟨Nat.le_of_ble_eq_true rfl, Nat.le_of_ble_eq_true rfl⟩ ⟨Nat.le_of_ble_eq_true rfl, Nat.le_of_ble_eq_true rfl⟩
          show X 0 0 WW μ 32 [some (xR 92), some (xI i), some (xI j), some (xI s)] [xI z29]
          refine r_aload_n hL (x := 92) dX4_leastStep_32 rfl ?_
          refine r_getr hL xcl4 3 (by decide) s_92 (by decide) fl_X4_21 (by decide) f_92_3 dX4_leastStep_33 ?_
          refine r_iload_n hL (x := i) dX4_leastStep_36 rfl ?_
          refine r_bipush hL dX4_leastStep_37 (by decide) ?_
          refine r_imul hL dX4_leastStep_39 ?_
          refine r_iload_n hL (x := j) dX4_leastStep_40 rfl ?_
          refine r_iadd hL dX4_leastStep_41 ?_
          refine r_iald hL dX4_leastStep_42 (by decide) s_96 (by decide) (by omega) (by omega) (fun hr42 => ?_)
          obtain ⟨z42, hz42⟩ : ∃ z, z = μ 96 ((i * 11) + j) := ⟨_, rfl⟩
          rw [← hz42] at hr42 ⊢
          have hl43 := hU.at (i := i) (j := j) (by omega) (by omega) (by omega) (by omega)
          have ht42 : z42 = μ 96 (11 * i + j) := hz42.trans (congrArg (μ 96) (by omega))
          have hvF := xOF_v s
          have hvO := xOO_v s
          refine r_icmp_ne hL (tgt := 48) dX4_leastStep_43 (by decide) (by omega) (by omega) (fun c43 => ?_) (fun c43 => ?_)
          · skip
            refine r_iinc hL (x := s) (lo' := [some (xR 92), some (xI i), some (xI j), some (xI (s + 1))]) dX4_leastStep_48 (by decide) rfl rfl ?_
            refine r_goto hL (tgt := 20) dX4_leastStep_51 (by decide) ?_
            exact ih20 (s + 1) (by omega) (fun q q0 q1 => by rcases (show q < s ∨ q = s by omega) with e | e; exact h3 q q0 e; rw [e]; exact att_ne hT29 (by omega)) (by omega)
          · skip
            refine r_iload_n hL (x := s) dX4_leastStep_46 rfl ?_
            exact r_iret hL dX4_leastStep_47 rfl (hK _ (Or.inr ⟨by omega, by omega, by omega, by omega, by omega, by omega, fst_eq (by omega) (by omega) h3 (Or.inr (att_is hT29 (by omega) (by omega)))⟩))
    exact lp20 _ 0 (by omega) (fun q q0 q1 => by omega) (Nat.lt_succ_self _)
  · skip
    refine r_iload_n hL (x := j) dX4_leastStep_8 rfl ?_
    refine r_aload_n hL (x := 92) dX4_leastStep_9 rfl ?_
    refine r_geti hL xcl4 8 (j' := 8) rfl (by decide) s_92 (by decide) fl_X4_37 (by decide) (by decide) dX4_leastStep_10 (fun hr10 => ?_)
    obtain ⟨z10, hz10⟩ : ∃ z, z = μ 92 8 := ⟨_, rfl⟩
    rw [← hz10] at hr10 ⊢
    have hb10 : 0 ≤ μ 92 8 ∧ μ 92 8 ≤ 10 := (show ((8 : Int) = 7 → 0 ≤ (μ 92 8) ∧ (μ 92 8) ≤ 10) ∧ ((8 : Int) = 8 → 0 ≤ (μ 92 8) ∧ (μ 92 8) ≤ 10) from hB 92 8).2 (by omega)
    refine r_icmp_ne hL (tgt := 18) dX4_leastStep_13 (by decide) (by omega) (by omega) (fun c13 => ?_) (fun c13 => ?_)
    · skip
      have hL0 : μ 96 (11 * i + j) = lsv (cco μ) (μ 96) i j 4 := (hQ i j (by omega) (by omega) (by omega) (by omega) (by omega)).trans (if_neg (by omega))
      refine r_iconst hL dX4_leastStep_18 ?_
      refine r_istore_n hL (lo' := [some (xR 92), some (xI i), some (xI j), some (xI 0)]) dX4_leastStep_19 (by decide) rfl ?_
      have lp20 : ∀ (n20 : Nat) (s : Int), (0 ≤ s ∧ s ≤ 4) → (∀ q, 0 ≤ q → q < s → ¬ att (cco μ) (μ 96) i j q) → ((4 - s).toNat) < n20 → X 0 0 WW μ 20 [some (xR 92), some (xI i), some (xI j), some (xI s)] [] := by
        intro n20
        induction n20 with
        | zero => intro s h2 h3 hn; exact absurd hn (Nat.not_lt_zero _)
        | succ n20 ih20 =>
          intro s h2 h3 hn20
          refine r_iload_n hL (x := s) dX4_leastStep_20 rfl ?_
          refine r_iconst hL dX4_leastStep_21 ?_
          refine r_icmp_ge hL (tgt := 54) dX4_leastStep_22 (by decide) (by omega) (by omega) (fun c22 => ?_) (fun c22 => ?_)
          · skip
            exact absurd (att_ex hL0 (by omega)) (fun ⟨q, q0, q3, qa⟩ => h3 q q0 (by omega) qa)
          · skip
            refine r_aload_n hL (x := 92) dX4_leastStep_25 rfl ?_
            refine r_iload_n hL (x := i) dX4_leastStep_26 rfl ?_
            refine r_iload_n hL (x := j) dX4_leastStep_27 rfl ?_
            refine r_iload_n hL (x := s) dX4_leastStep_28 rfl ?_
            refine r_callV hL (st := []) (av := [xI i, xI j, xI s]) (k := 92) (m_X4_sumThrough (μ := μ) hB i (by omega) j (by omega) s (by omega) (hU.lup (by omega)) (fun z29 hc29 hc29_1 hc29_2 hc29_3 hT29 => ⟨rfl, ?_⟩)) ce_yX4_sumThrough im_yX4_sumThrough se_yX4_sumThrough ml_X4_87 xcl4 (by decide) s_92 dX4_leastStep_29 rfl (Nat.le_of_ble_eq_true rfl) ⟨Nat.le_of_ble_eq_true rfl, Nat.le_of_ble_eq_true rfl⟩ ⟨Nat.le_of_ble_eq_true rfl, Nat.le_of_ble_eq_true rfl⟩
            show X 0 0 WW μ 32 [some (xR 92), some (xI i), some (xI j), some (xI s)] [xI z29]
            refine r_aload_n hL (x := 92) dX4_leastStep_32 rfl ?_
            refine r_getr hL xcl4 3 (by decide) s_92 (by decide) fl_X4_21 (by decide) f_92_3 dX4_leastStep_33 ?_
            refine r_iload_n hL (x := i) dX4_leastStep_36 rfl ?_
            refine r_bipush hL dX4_leastStep_37 (by decide) ?_
            refine r_imul hL dX4_leastStep_39 ?_
            refine r_iload_n hL (x := j) dX4_leastStep_40 rfl ?_
            refine r_iadd hL dX4_leastStep_41 ?_
            refine r_iald hL dX4_leastStep_42 (by decide) s_96 (by decide) (by omega) (by omega) (fun hr42 => ?_)
            obtain ⟨z42, hz42⟩ : ∃ z, z = μ 96 ((i * 11) + j) := ⟨_, rfl⟩
            rw [← hz42] at hr42 ⊢
            have hl43 := hU.at (i := i) (j := j) (by omega) (by omega) (by omega) (by omega)
            have ht42 : z42 = μ 96 (11 * i + j) := hz42.trans (congrArg (μ 96) (by omega))
            have hvF := xOF_v s
            have hvO := xOO_v s
            refine r_icmp_ne hL (tgt := 48) dX4_leastStep_43 (by decide) (by omega) (by omega) (fun c43 => ?_) (fun c43 => ?_)
            · skip
              refine r_iinc hL (x := s) (lo' := [some (xR 92), some (xI i), some (xI j), some (xI (s + 1))]) dX4_leastStep_48 (by decide) rfl rfl ?_
              refine r_goto hL (tgt := 20) dX4_leastStep_51 (by decide) ?_
              exact ih20 (s + 1) (by omega) (fun q q0 q1 => by rcases (show q < s ∨ q = s by omega) with e | e; exact h3 q q0 e; rw [e]; exact att_ne hT29 (by omega)) (by omega)
            · skip
              refine r_iload_n hL (x := s) dX4_leastStep_46 rfl ?_
              exact r_iret hL dX4_leastStep_47 rfl (hK _ (Or.inr ⟨by omega, by omega, by omega, by omega, by omega, by omega, fst_eq (by omega) (by omega) h3 (Or.inr (att_is hT29 (by omega) (by omega)))⟩))
      exact lp20 _ 0 (by omega) (fun q q0 q1 => by omega) (Nat.lt_succ_self _)
    · skip
      refine r_iconst hL dX4_leastStep_16 ?_
      exact r_iret hL dX4_leastStep_17 rfl (hK _ (Or.inl ⟨by omega, by omega, rfl⟩))

set_option maxHeartbeats 4000000 in
set_option maxRecDepth 20000 in
theorem m_X4_sharedFrom {K : Option xV → xW → xM → Prop} {μ : xM} (hB0 : BI μ) (i : Int) (hi : 0 ≤ i ∧ i ≤ μ 92 7) (j : Int) (hj : 0 ≤ j ∧ j ≤ μ 92 8) (hS : CSp (μ 92 7) (μ 92 8) (μ 93) (μ 94) (μ 98) i j) (hK : ∀ r, r = csv (μ 92 7) (μ 92 8) (μ 93) (μ 94) (μ 98) i j → 0 ≤ r ∧ r ≤ μ 92 7 - i → K (some (xI r)) WW μ) : xMet yX4_sharedFrom cX4_sharedFrom 3 (some .int) 1 26 0 0 [xR 92, xI i, xI j] WW μ K := by
  refine xMet.go RX4 "sharedFrom" rfl rfl (by decide) [some (xR 92), some (xI i), some (xI j)] (Nat.le_of_ble_eq_true rfl) rfl (fun X hL => ?_)
  have hB := hB0
  have hb7 : ((7 : Int) = 7 → 0 ≤ μ 92 7 ∧ μ 92 7 ≤ 10) ∧ ((7 : Int) = 8 → 0 ≤ μ 92 7 ∧ μ 92 7 ≤ 10) := hB 92 7
  have hb8 : ((8 : Int) = 7 → 0 ≤ μ 92 8 ∧ μ 92 8 ≤ 10) ∧ ((8 : Int) = 8 → 0 ≤ μ 92 8 ∧ μ 92 8 ≤ 10) := hB 92 8
  refine r_iload_n hL (x := i) dX4_sharedFrom_0 rfl ?_
  refine r_aload_n hL (x := 92) dX4_sharedFrom_1 rfl ?_
  refine r_geti hL xcl4 7 (j' := 7) rfl (by decide) s_92 (by decide) fl_X4_33 (by decide) (by decide) dX4_sharedFrom_2 (fun hr2 => ?_)
  obtain ⟨z2, hz2⟩ : ∃ z, z = μ 92 7 := ⟨_, rfl⟩
  rw [← hz2] at hr2 ⊢
  have hb2 : 0 ≤ μ 92 7 ∧ μ 92 7 ≤ 10 := (show ((7 : Int) = 7 → 0 ≤ (μ 92 7) ∧ (μ 92 7) ≤ 10) ∧ ((7 : Int) = 8 → 0 ≤ (μ 92 7) ∧ (μ 92 7) ≤ 10) from hB 92 7).1 (by omega)
  refine r_icmp_eq hL (tgt := 16) dX4_sharedFrom_5 (by decide) (by omega) (by omega) (fun c5 => ?_) (fun c5 => ?_)
  · skip
    refine r_iconst hL dX4_sharedFrom_16 ?_
    exact r_iret hL dX4_sharedFrom_17 rfl (hK _ (by unfold csv; rw [if_pos (by omega)]) (by omega))
  · skip
    refine r_iload_n hL (x := j) dX4_sharedFrom_8 rfl ?_
    refine r_aload_n hL (x := 92) dX4_sharedFrom_9 rfl ?_
    refine r_geti hL xcl4 8 (j' := 8) rfl (by decide) s_92 (by decide) fl_X4_37 (by decide) (by decide) dX4_sharedFrom_10 (fun hr10 => ?_)
    obtain ⟨z10, hz10⟩ : ∃ z, z = μ 92 8 := ⟨_, rfl⟩
    rw [← hz10] at hr10 ⊢
    have hb10 : 0 ≤ μ 92 8 ∧ μ 92 8 ≤ 10 := (show ((8 : Int) = 7 → 0 ≤ (μ 92 8) ∧ (μ 92 8) ≤ 10) ∧ ((8 : Int) = 8 → 0 ≤ (μ 92 8) ∧ (μ 92 8) ≤ 10) from hB 92 8).2 (by omega)
    refine r_icmp_ne hL (tgt := 18) dX4_sharedFrom_13 (by decide) (by omega) (by omega) (fun c13 => ?_) (fun c13 => ?_)
    · skip
      refine r_aload_n hL (x := 92) dX4_sharedFrom_18 rfl ?_
      refine r_getr hL xcl4 0 (by decide) s_92 (by decide) fl_X4_9 (by decide) f_92_0 dX4_sharedFrom_19 ?_
      refine r_iload_n hL (x := i) dX4_sharedFrom_22 rfl ?_
      refine r_iald hL dX4_sharedFrom_23 (by decide) s_93 (by decide) (by omega) (by omega) (fun hr23 => ?_)
      obtain ⟨z23, hz23⟩ : ∃ z, z = μ 93 i := ⟨_, rfl⟩
      rw [← hz23] at hr23 ⊢
      have hb23 : 0 ≤ (μ 93 i) ∧ (μ 93 i) ≤ 7 := hB 93 i
      refine r_aload_n hL (x := 92) dX4_sharedFrom_24 rfl ?_
      refine r_getr hL xcl4 1 (by decide) s_92 (by decide) fl_X4_15 (by decide) f_92_1 dX4_sharedFrom_25 ?_
      refine r_iload_n hL (x := j) dX4_sharedFrom_28 rfl ?_
      refine r_iald hL dX4_sharedFrom_29 (by decide) s_94 (by decide) (by omega) (by omega) (fun hr29 => ?_)
      obtain ⟨z29, hz29⟩ : ∃ z, z = μ 94 j := ⟨_, rfl⟩
      rw [← hz29] at hr29 ⊢
      have hb29 : 0 ≤ (μ 94 j) ∧ (μ 94 j) ≤ 7 := hB 94 j
      refine r_icmp_ne hL (tgt := 51) dX4_sharedFrom_30 (by decide) (by omega) (by omega) (fun c30 => ?_) (fun c30 => ?_)
      · skip
        refine r_aload_n hL (x := 92) dX4_sharedFrom_51 rfl ?_
        refine r_getr hL xcl4 5 (by decide) s_92 (by decide) fl_X4_27 (by decide) f_92_5 dX4_sharedFrom_52 ?_
        refine r_iload_n hL (x := i) dX4_sharedFrom_55 rfl ?_
        refine r_iconst hL dX4_sharedFrom_56 ?_
        refine r_iadd hL dX4_sharedFrom_57 ?_
        refine r_bipush hL dX4_sharedFrom_58 (by decide) ?_
        refine r_imul hL dX4_sharedFrom_60 ?_
        refine r_iload_n hL (x := j) dX4_sharedFrom_61 rfl ?_
        refine r_iadd hL dX4_sharedFrom_62 ?_
        refine r_iald hL dX4_sharedFrom_63 (by decide) s_98 (by decide) (by omega) (by omega) (fun hr63 => ?_)
        obtain ⟨z63, hz63⟩ : ∃ z, z = μ 98 (((i + 1) * 11) + j) := ⟨_, rfl⟩
        rw [← hz63] at hr63 ⊢
        refine r_aload_n hL (x := 92) dX4_sharedFrom_64 rfl ?_
        refine r_getr hL xcl4 5 (by decide) s_92 (by decide) fl_X4_27 (by decide) f_92_5 dX4_sharedFrom_65 ?_
        refine r_iload_n hL (x := i) dX4_sharedFrom_68 rfl ?_
        refine r_bipush hL dX4_sharedFrom_69 (by decide) ?_
        refine r_imul hL dX4_sharedFrom_71 ?_
        refine r_iload_n hL (x := j) dX4_sharedFrom_72 rfl ?_
        refine r_iadd hL dX4_sharedFrom_73 ?_
        refine r_iconst hL dX4_sharedFrom_74 ?_
        refine r_iadd hL dX4_sharedFrom_75 ?_
        refine r_iald hL dX4_sharedFrom_76 (by decide) s_98 (by decide) (by omega) (by omega) (fun hr76 => ?_)
        obtain ⟨z76, hz76⟩ : ∃ z, z = μ 98 (((i * 11) + j) + 1) := ⟨_, rfl⟩
        rw [← hz76] at hr76 ⊢
        have ht63 : z63 = μ 98 (11 * (i + 1) + j) := hz63.trans (congrArg (μ 98) (by omega))
        have ht76 : z76 = μ 98 (11 * i + (j + 1)) := hz76.trans (congrArg (μ 98) (by omega))
        have hs63 := (hS (i + 1) j (by omega) (by omega) (by omega) (by omega) (by omega)).1
        have hs76 := (hS i (j + 1) (by omega) (by omega) (by omega) (by omega) (by omega)).1
        refine r_max hL (by omega) (by omega) ml_X4_99 sm_Lib_Math_max_name it_java_lang_Math kd_Lib_Math_max_name dX4_sharedFrom_77 ⟨Nat.le_of_ble_eq_true rfl, Nat.le_of_ble_eq_true rfl⟩ ⟨Nat.le_of_ble_eq_true rfl, Nat.le_of_ble_eq_true rfl⟩ ?_
        obtain ⟨z77, hz77⟩ : ∃ z, z = max z63 z76 := ⟨_, rfl⟩
        rw [← hz77]
        exact r_iret hL dX4_sharedFrom_80 rfl (hK _ (by unfold csv; rw [if_neg (by omega), if_neg (by omega), ← ht63, ← ht76]; exact hz77) (by omega))
      · skip
        refine r_iconst hL dX4_sharedFrom_33 ?_
        refine r_aload_n hL (x := 92) dX4_sharedFrom_34 rfl ?_
        refine r_getr hL xcl4 5 (by decide) s_92 (by decide) fl_X4_27 (by decide) f_92_5 dX4_sharedFrom_35 ?_
        refine r_iload_n hL (x := i) dX4_sharedFrom_38 rfl ?_
        refine r_iconst hL dX4_sharedFrom_39 ?_
        refine r_iadd hL dX4_sharedFrom_40 ?_
        refine r_bipush hL dX4_sharedFrom_41 (by decide) ?_
        refine r_imul hL dX4_sharedFrom_43 ?_
        refine r_iload_n hL (x := j) dX4_sharedFrom_44 rfl ?_
        refine r_iadd hL dX4_sharedFrom_45 ?_
        refine r_iconst hL dX4_sharedFrom_46 ?_
        refine r_iadd hL dX4_sharedFrom_47 ?_
        refine r_iald hL dX4_sharedFrom_48 (by decide) s_98 (by decide) (by omega) (by omega) (fun hr48 => ?_)
        obtain ⟨z48, hz48⟩ : ∃ z, z = μ 98 ((((i + 1) * 11) + j) + 1) := ⟨_, rfl⟩
        rw [← hz48] at hr48 ⊢
        have ht48 : z48 = μ 98 (11 * (i + 1) + (j + 1)) := hz48.trans (congrArg (μ 98) (by omega))
        have hs48 := (hS (i + 1) (j + 1) (by omega) (by omega) (by omega) (by omega) (by omega)).1
        refine r_iadd hL dX4_sharedFrom_49 ?_
        exact r_iret hL dX4_sharedFrom_50 rfl (hK _ (by unfold csv; rw [if_neg (by omega), if_pos (by omega), ← ht48]) (by omega))
    · skip
      refine r_iconst hL dX4_sharedFrom_16 ?_
      exact r_iret hL dX4_sharedFrom_17 rfl (hK _ (by unfold csv; rw [if_pos (by omega)]) (by omega))

set_option maxHeartbeats 4000000 in
set_option maxRecDepth 20000 in
theorem m_X4_ways {K : Option xV → xW → xM → Prop} {μ : xM} (hB0 : BI μ) (hU : LU μ) (hQ : LQ (μ 92 7) (μ 92 8) (cco μ) (μ 96)) (hK : ∀ r μ', BI μ' → Fr W97 μ μ' → r = μ' 97 0 → LW (μ 92 7) (μ 92 8) (cco μ) (μ 96) (μ' 97) → xrg r → K (some (xI r)) WW μ') : xMet yX4_ways cX4_ways 3 (some .int) 3 77 0 0 [xR 92] WW μ K := by
  refine xMet.go RX4 "ways" rfl rfl (by decide) [some (xR 92), none, none] (Nat.le_of_ble_eq_true rfl) rfl (fun X hL => ?_)
  have hB := hB0
  have hF : Fr W97 μ μ := Fr.rf
  obtain ⟨fl, hfl⟩ : ∃ z, z = μ 92 7 := ⟨_, rfl⟩
  obtain ⟨fo, hfo⟩ : ∃ z, z = μ 92 8 := ⟨_, rfl⟩
  have hb7 : ((7 : Int) = 7 → 0 ≤ μ 92 7 ∧ μ 92 7 ≤ 10) ∧ ((7 : Int) = 8 → 0 ≤ μ 92 7 ∧ μ 92 7 ≤ 10) := hB 92 7
  have hb8 : ((8 : Int) = 7 → 0 ≤ μ 92 8 ∧ μ 92 8 ≤ 10) ∧ ((8 : Int) = 8 → 0 ≤ μ 92 8 ∧ μ 92 8 ≤ 10) := hB 92 8
  have hQ0 : LQ fl fo (cco μ) (μ 96) := by rw [hfl, hfo]; exact hQ
  have hOK : COk fl fo (cco μ) := by rw [hfl, hfo]; exact cco_ok hB
  refine r_aload_n hL (x := 92) dX4_ways_0 rfl ?_
  refine r_geti hL xcl4 7 (j' := 7) rfl (by decide) s_92 (by decide) fl_X4_33 (by decide) (by decide) dX4_ways_1 (fun hr1 => ?_)
  obtain ⟨z1, hz1⟩ : ∃ z, z = μ 92 7 := ⟨_, rfl⟩
  rw [← hz1] at hr1 ⊢
  have hb1 : 0 ≤ μ 92 7 ∧ μ 92 7 ≤ 10 := (show ((7 : Int) = 7 → 0 ≤ (μ 92 7) ∧ (μ 92 7) ≤ 10) ∧ ((7 : Int) = 8 → 0 ≤ (μ 92 7) ∧ (μ 92 7) ≤ 10) from hB 92 7).1 (by omega)
  refine r_istore_n hL (lo' := [some (xR 92), some (xI z1), none]) dX4_ways_4 (by decide) rfl ?_
  have lp5 : ∀ (n5 : Nat) (i : Int) (μ105 : xM), (BI μ105) → (Fr W97 μ μ105) → (μ105 92 7 = fl) → (μ105 92 8 = fo) → (-1 ≤ i ∧ i ≤ fl) → (LU μ105) → (LWp fl fo (cco μ) (μ 96) (μ105 97) i fo) → ((i + 1).toNat) < n5 → X 0 0 WW μ105 5 [some (xR 92), some (xI i), none] [] := by
    intro n5
    induction n5 with
    | zero => intro i μ105 hB105 hF105 h1 h2 h3 hU105 h4 hn; exact absurd hn (Nat.not_lt_zero _)
    | succ n5 ih5 =>
      intro i μ105 hB105 hF105 h1 h2 h3 hU105 h4 hn5
      refine r_iload_n hL (x := i) dX4_ways_5 rfl ?_
      refine r_if_lt hL (tgt := 47) dX4_ways_6 (by decide) (by omega) (fun c6 => ?_) (fun c6 => ?_)
      · skip
        refine r_aload_n hL (x := 92) dX4_ways_47 rfl ?_
        refine r_getr hL xcl4 4 (by decide) s_92 (by decide) fl_X4_24 (by decide) f_92_4 dX4_ways_48 ?_
        refine r_iconst hL dX4_ways_51 ?_
        refine r_iald hL dX4_ways_52 (by decide) s_97 (by decide) (by omega) (by omega) (fun hr52 => ?_)
        obtain ⟨z52, hz52⟩ : ∃ z, z = μ105 97 0 := ⟨_, rfl⟩
        rw [← hz52] at hr52 ⊢
        exact r_iret hL dX4_ways_53 rfl (hK _ _ hB105 hF105 hz52 (by unfold LW; rw [← hfl, ← hfo, show (-1 : Int) = i by omega]; exact h4) (by omega))
      · skip
        refine r_aload_n hL (x := 92) dX4_ways_9 rfl ?_
        refine r_geti hL xcl4 8 (j' := 8) rfl (by decide) s_92 (by decide) fl_X4_37 (by decide) (by decide) dX4_ways_10 (fun hr10 => ?_)
        obtain ⟨z10, hz10⟩ : ∃ z, z = μ105 92 8 := ⟨_, rfl⟩
        rw [← hz10] at hr10 ⊢
        have hb10 : 0 ≤ μ105 92 8 ∧ μ105 92 8 ≤ 10 := (show ((8 : Int) = 7 → 0 ≤ (μ105 92 8) ∧ (μ105 92 8) ≤ 10) ∧ ((8 : Int) = 8 → 0 ≤ (μ105 92 8) ∧ (μ105 92 8) ≤ 10) from hB105 92 8).2 (by omega)
        refine r_istore_n hL (lo' := [some (xR 92), some (xI i), some (xI z10)]) dX4_ways_13 (by decide) rfl ?_
        have lp14 : ∀ (n14 : Nat) (j : Int) (μ114 : xM), (BI μ114) → (Fr W97 μ μ114) → (μ114 92 7 = fl) → (μ114 92 8 = fo) → (-1 ≤ j ∧ j ≤ fo) → (LU μ114) → (LWp fl fo (cco μ) (μ 96) (μ114 97) i j) → ((j + 1).toNat) < n14 → X 0 0 WW μ114 14 [some (xR 92), some (xI i), some (xI j)] [] := by
          intro n14
          induction n14 with
          | zero => intro j μ114 hB114 hF114 h5 h6 h7 hU114 h8 hn; exact absurd hn (Nat.not_lt_zero _)
          | succ n14 ih14 =>
            intro j μ114 hB114 hF114 h5 h6 h7 hU114 h8 hn14
            have hco114 : cco μ114 = cco μ := cco_fr (fun k q _ _ => hF114 k q (by unfold W97; omega))
            have h96114 : μ114 96 = μ 96 := funext fun q => hF114 96 q (by unfold W97; omega)
            have hQ114 : LQ (μ114 92 7) (μ114 92 8) (cco μ114) (μ114 96) := by rw [hco114, h96114, h5, h6]; exact hQ0
            refine r_iload_n hL (x := j) dX4_ways_14 rfl ?_
            refine r_if_lt hL (tgt := 41) dX4_ways_15 (by decide) (by omega) (fun c15 => ?_) (fun c15 => ?_)
            · skip
              refine r_iinc hL (x := i) (lo' := [some (xR 92), some (xI (i + (-1))), some (xI j)]) dX4_ways_41 (by decide) rfl rfl ?_
              refine r_goto hL (tgt := 5) dX4_ways_44 (by decide) ?_
              refine r_drop hL (lo' := [some (xR 92), some (xI (i + (-1))), none]) [2] rfl ?_
              exact ih5 (i + (-1)) μ114 hB114 hF114 (by omega) (by omega) (by omega) hU114 (LWp.up (by rw [show (-1 : Int) = j by omega]; exact h8)) (by omega)
            · skip
              refine r_aload_n hL (x := 92) dX4_ways_18 rfl ?_
              refine r_getr hL xcl4 4 (by decide) s_92 (by decide) fl_X4_24 (by decide) f_92_4 dX4_ways_19 ?_
              refine r_iload_n hL (x := i) dX4_ways_22 rfl ?_
              refine r_bipush hL dX4_ways_23 (by decide) ?_
              refine r_imul hL dX4_ways_25 ?_
              refine r_iload_n hL (x := j) dX4_ways_26 rfl ?_
              refine r_iadd hL dX4_ways_27 ?_
              refine r_aload_n hL (x := 92) dX4_ways_28 rfl ?_
              refine r_iload_n hL (x := i) dX4_ways_29 rfl ?_
              refine r_iload_n hL (x := j) dX4_ways_30 rfl ?_
              refine r_callV hL (st := [xI ((i * 11) + j), xR 97]) (av := [xI i, xI j]) (k := 92) (m_X4_rowsFrom (μ := μ114) hB114 i (by omega) j (by omega) hU114 hQ114 (fun z31 hc31 heq31 => ⟨rfl, ?_⟩)) ce_yX4_rowsFrom im_yX4_rowsFrom se_yX4_rowsFrom ml_X4_54 xcl4 (by decide) s_92 dX4_ways_31 rfl (Nat.le_of_ble_eq_true rfl) ⟨Nat.le_of_ble_eq_true rfl, Nat.le_of_ble_eq_true rfl⟩ ⟨Nat.le_of_ble_eq_true rfl, Nat.le_of_ble_eq_true rfl⟩
              show X 0 0 WW μ114 34 [some (xR 92), some (xI i), some (xI j)] [xI z31, xI ((i * 11) + j), xR 97]
              refine r_iast hL dX4_ways_34 (by decide) s_97 (by decide) (by omega) (by omega) (by omega) (fun μ1 hm1 => ?_)
              have hB1 : BI μ1 := by rw [hm1]; exact hB114.up trivial
              have hF1 : Fr W97 μ μ1 := by rw [hm1]; exact hF114.up (by unfold W97; omega)
              have hk1_92_7 : μ1 92 7 = μ114 92 7 := by rw [hm1]; exact congrFun (xup_c (by decide)) _
              have hk1_92_8 : μ1 92 8 = μ114 92 8 := by rw [hm1]; exact congrFun (xup_c (by decide)) _
              have hU1 : LU μ1 := hU114.keep (by rw [hm1]; exact xup_c (by decide)) (by rw [hm1]; exact congrFun (xup_c (by decide)) _) (by rw [hm1]; exact congrFun (xup_c (by decide)) _)
              refine r_iinc hL (x := j) (lo' := [some (xR 92), some (xI i), some (xI (j + (-1)))]) dX4_ways_35 (by decide) rfl rfl ?_
              refine r_goto hL (tgt := 14) dX4_ways_38 (by decide) ?_
              exact ih14 (j + (-1)) μ1 hB1 hF1 (by omega) (by omega) (by omega) hU1 (LWp.step (v := z31) h8 hOK (by omega) (by omega) (by omega) (by rw [heq31, hco114, h96114, h5, h6]) (fun q _ => rfl) (fun q => by rw [hm1, show i * 11 + j = 11 * i + j by omega]; simp [xup])) (by omega)
        exact lp14 _ z10 μ105 hB105 hF105 (by omega) (by omega) (by omega) hU105 (by rw [show z10 = fo by omega]; exact h4) (Nat.lt_succ_self _)
  exact lp5 _ z1 μ hB hF (by omega) (by omega) (by omega) hU (by rw [show z1 = fl by omega]; exact LWp.none) (Nat.lt_succ_self _)

set_option maxHeartbeats 4000000 in
set_option maxRecDepth 20000 in
theorem m_X4_commonLength {K : Option xV → xW → xM → Prop} {μ : xM} (hB0 : BI μ)  (hK : ∀ r μ', BI μ' → Fr W98 μ μ' → CSr (μ 92 7) (μ 92 8) (μ 93) (μ 94) r → xrg r → K (some (xI r)) WW μ') : xMet yX4_commonLength cX4_commonLength 3 (some .int) 2 48 0 0 [xR 92] WW μ K := by
  refine xMet.go RX4 "commonLength" rfl rfl (by decide) [some (xR 92), none, none] (Nat.le_of_ble_eq_true rfl) rfl (fun X hL => ?_)
  have hB := hB0
  have hF : Fr W98 μ μ := Fr.rf
  obtain ⟨fl, hfl⟩ : ∃ z, z = μ 92 7 := ⟨_, rfl⟩
  obtain ⟨fo, hfo⟩ : ∃ z, z = μ 92 8 := ⟨_, rfl⟩
  have hb7 : ((7 : Int) = 7 → 0 ≤ μ 92 7 ∧ μ 92 7 ≤ 10) ∧ ((7 : Int) = 8 → 0 ≤ μ 92 7 ∧ μ 92 7 ≤ 10) := hB 92 7
  have hb8 : ((8 : Int) = 7 → 0 ≤ μ 92 8 ∧ μ 92 8 ≤ 10) ∧ ((8 : Int) = 8 → 0 ≤ μ 92 8 ∧ μ 92 8 ≤ 10) := hB 92 8
  refine r_aload_n hL (x := 92) dX4_commonLength_0 rfl ?_
  refine r_geti hL xcl4 7 (j' := 7) rfl (by decide) s_92 (by decide) fl_X4_33 (by decide) (by decide) dX4_commonLength_1 (fun hr1 => ?_)
  obtain ⟨z1, hz1⟩ : ∃ z, z = μ 92 7 := ⟨_, rfl⟩
  rw [← hz1] at hr1 ⊢
  have hb1 : 0 ≤ μ 92 7 ∧ μ 92 7 ≤ 10 := (show ((7 : Int) = 7 → 0 ≤ (μ 92 7) ∧ (μ 92 7) ≤ 10) ∧ ((7 : Int) = 8 → 0 ≤ (μ 92 7) ∧ (μ 92 7) ≤ 10) from hB 92 7).1 (by omega)
  refine r_istore_n hL (lo' := [some (xR 92), some (xI z1), none]) dX4_commonLength_4 (by decide) rfl ?_
  have lp5 : ∀ (n5 : Nat) (i : Int) (μ105 : xM), (BI μ105) → (Fr W98 μ μ105) → (μ105 92 7 = fl) → (μ105 92 8 = fo) → (-1 ≤ i ∧ i ≤ fl) → (CSp fl fo (μ 93) (μ 94) (μ105 98) i fo) → ((i + 1).toNat) < n5 → X 0 0 WW μ105 5 [some (xR 92), some (xI i), none] [] := by
    intro n5
    induction n5 with
    | zero => intro i μ105 hB105 hF105 h1 h2 h3 h4 hn; exact absurd hn (Nat.not_lt_zero _)
    | succ n5 ih5 =>
      intro i μ105 hB105 hF105 h1 h2 h3 h4 hn5
      refine r_iload_n hL (x := i) dX4_commonLength_5 rfl ?_
      refine r_if_lt hL (tgt := 47) dX4_commonLength_6 (by decide) (by omega) (fun c6 => ?_) (fun c6 => ?_)
      · skip
        refine r_aload_n hL (x := 92) dX4_commonLength_47 rfl ?_
        refine r_getr hL xcl4 5 (by decide) s_92 (by decide) fl_X4_27 (by decide) f_92_5 dX4_commonLength_48 ?_
        refine r_iconst hL dX4_commonLength_51 ?_
        refine r_iald hL dX4_commonLength_52 (by decide) s_98 (by decide) (by omega) (by omega) (fun hr52 => ?_)
        obtain ⟨z52, hz52⟩ : ∃ z, z = μ105 98 0 := ⟨_, rfl⟩
        rw [← hz52] at hr52 ⊢
        exact r_iret hL dX4_commonLength_53 rfl (hK _ _ hB105 hF105 ⟨_, by rw [← hfl, ← hfo, show (-1 : Int) = i by omega]; exact h4, hz52⟩ (by omega))
      · skip
        refine r_aload_n hL (x := 92) dX4_commonLength_9 rfl ?_
        refine r_geti hL xcl4 8 (j' := 8) rfl (by decide) s_92 (by decide) fl_X4_37 (by decide) (by decide) dX4_commonLength_10 (fun hr10 => ?_)
        obtain ⟨z10, hz10⟩ : ∃ z, z = μ105 92 8 := ⟨_, rfl⟩
        rw [← hz10] at hr10 ⊢
        have hb10 : 0 ≤ μ105 92 8 ∧ μ105 92 8 ≤ 10 := (show ((8 : Int) = 7 → 0 ≤ (μ105 92 8) ∧ (μ105 92 8) ≤ 10) ∧ ((8 : Int) = 8 → 0 ≤ (μ105 92 8) ∧ (μ105 92 8) ≤ 10) from hB105 92 8).2 (by omega)
        refine r_istore_n hL (lo' := [some (xR 92), some (xI i), some (xI z10)]) dX4_commonLength_13 (by decide) rfl ?_
        have lp14 : ∀ (n14 : Nat) (j : Int) (μ114 : xM), (BI μ114) → (Fr W98 μ μ114) → (μ114 92 7 = fl) → (μ114 92 8 = fo) → (-1 ≤ j ∧ j ≤ fo) → (CSp fl fo (μ 93) (μ 94) (μ114 98) i j) → ((j + 1).toNat) < n14 → X 0 0 WW μ114 14 [some (xR 92), some (xI i), some (xI j)] [] := by
          intro n14
          induction n14 with
          | zero => intro j μ114 hB114 hF114 h5 h6 h7 h8 hn; exact absurd hn (Nat.not_lt_zero _)
          | succ n14 ih14 =>
            intro j μ114 hB114 hF114 h5 h6 h7 h8 hn14
            have hco114 : cco μ114 = cco μ := cco_fr (fun k q _ _ => hF114 k q (by unfold W98; omega))
            have h93114 : μ114 93 = μ 93 := funext fun q => hF114 93 q (by unfold W98; omega)
            have h94114 : μ114 94 = μ 94 := funext fun q => hF114 94 q (by unfold W98; omega)
            have hS114 : CSp (μ114 92 7) (μ114 92 8) (μ114 93) (μ114 94) (μ114 98) i j := by rw [h93114, h94114, h5, h6]; exact h8
            refine r_iload_n hL (x := j) dX4_commonLength_14 rfl ?_
            refine r_if_lt hL (tgt := 41) dX4_commonLength_15 (by decide) (by omega) (fun c15 => ?_) (fun c15 => ?_)
            · skip
              refine r_iinc hL (x := i) (lo' := [some (xR 92), some (xI (i + (-1))), some (xI j)]) dX4_commonLength_41 (by decide) rfl rfl ?_
              refine r_goto hL (tgt := 5) dX4_commonLength_44 (by decide) ?_
              refine r_drop hL (lo' := [some (xR 92), some (xI (i + (-1))), none]) [2] rfl ?_
              exact ih5 (i + (-1)) μ114 hB114 hF114 (by omega) (by omega) (by omega) (CSp.up (by rw [show (-1 : Int) = j by omega]; exact h8)) (by omega)
            · skip
              refine r_aload_n hL (x := 92) dX4_commonLength_18 rfl ?_
              refine r_getr hL xcl4 5 (by decide) s_92 (by decide) fl_X4_27 (by decide) f_92_5 dX4_commonLength_19 ?_
              refine r_iload_n hL (x := i) dX4_commonLength_22 rfl ?_
              refine r_bipush hL dX4_commonLength_23 (by decide) ?_
              refine r_imul hL dX4_commonLength_25 ?_
              refine r_iload_n hL (x := j) dX4_commonLength_26 rfl ?_
              refine r_iadd hL dX4_commonLength_27 ?_
              refine r_aload_n hL (x := 92) dX4_commonLength_28 rfl ?_
              refine r_iload_n hL (x := i) dX4_commonLength_29 rfl ?_
              refine r_iload_n hL (x := j) dX4_commonLength_30 rfl ?_
              refine r_callV hL (st := [xI ((i * 11) + j), xR 98]) (av := [xI i, xI j]) (k := 92) (m_X4_sharedFrom (μ := μ114) hB114 i (by omega) j (by omega) hS114 (fun z31 heq31 hc31 => ⟨rfl, ?_⟩)) ce_yX4_sharedFrom im_yX4_sharedFrom se_yX4_sharedFrom ml_X4_70 xcl4 (by decide) s_92 dX4_commonLength_31 rfl (Nat.le_of_ble_eq_true rfl) ⟨Nat.le_of_ble_eq_true rfl, Nat.le_of_ble_eq_true rfl⟩ ⟨Nat.le_of_ble_eq_true rfl, Nat.le_of_ble_eq_true rfl⟩
              show X 0 0 WW μ114 34 [some (xR 92), some (xI i), some (xI j)] [xI z31, xI ((i * 11) + j), xR 98]
              refine r_iast hL dX4_commonLength_34 (by decide) s_98 (by decide) (by omega) (by omega) (by omega) (fun μ1 hm1 => ?_)
              have hB1 : BI μ1 := by rw [hm1]; exact hB114.up trivial
              have hF1 : Fr W98 μ μ1 := by rw [hm1]; exact hF114.up (by unfold W98; omega)
              have hk1_92_7 : μ1 92 7 = μ114 92 7 := by rw [hm1]; exact congrFun (xup_c (by decide)) _
              have hk1_92_8 : μ1 92 8 = μ114 92 8 := by rw [hm1]; exact congrFun (xup_c (by decide)) _
              refine r_iinc hL (x := j) (lo' := [some (xR 92), some (xI i), some (xI (j + (-1)))]) dX4_commonLength_35 (by decide) rfl rfl ?_
              refine r_goto hL (tgt := 14) dX4_commonLength_38 (by decide) ?_
              exact ih14 (j + (-1)) μ1 hB1 hF1 (by omega) (by omega) (by omega) (CSp.step (v := z31) h8 (by omega) (by omega) (by omega) (by rw [heq31, h93114, h94114, h5, h6]) (by omega) (fun q => by rw [hm1, show i * 11 + j = 11 * i + j by omega]; simp [xup])) (by omega)
        exact lp14 _ z10 μ105 hB105 hF105 (by omega) (by omega) (by omega) (by rw [show z10 = fo by omega]; exact h4) (Nat.lt_succ_self _)
  exact lp5 _ z1 μ hB hF (by omega) (by omega) (by omega) (by rw [show z1 = fl by omega]; exact CSp.none) (Nat.lt_succ_self _)

set_option maxHeartbeats 4000000 in
set_option maxRecDepth 20000 in
theorem m_X4_wayLength {K : Option xV → xW → xM → Prop} {μ : xM} (hB0 : BI μ) (hU : LU μ) (hQ : LQ (μ 92 7) (μ 92 8) (cco μ) (μ 96)) (hK : ∀ r μ', BI μ' → Fr W99 μ μ' → WYF (μ 92 7) (μ 92 8) (cco μ) (μ 96) (μ' 99) r → 0 ≤ r ∧ r ≤ 20 → K (some (xI r)) WW μ') : xMet yX4_wayLength cX4_wayLength 5 (some .int) 3 76 0 0 [xR 92] WW μ K := by
  refine xMet.go RX4 "wayLength" rfl rfl (by decide) [some (xR 92), none, none, none, none] (Nat.le_of_ble_eq_true rfl) rfl (fun X hL => ?_)
  have hB := hB0
  have hF : Fr W99 μ μ := Fr.rf
  obtain ⟨fl, hfl⟩ : ∃ z, z = μ 92 7 := ⟨_, rfl⟩
  obtain ⟨fo, hfo⟩ : ∃ z, z = μ 92 8 := ⟨_, rfl⟩
  have hb7 : ((7 : Int) = 7 → 0 ≤ μ 92 7 ∧ μ 92 7 ≤ 10) ∧ ((7 : Int) = 8 → 0 ≤ μ 92 7 ∧ μ 92 7 ≤ 10) := hB 92 7
  have hb8 : ((8 : Int) = 7 → 0 ≤ μ 92 8 ∧ μ 92 8 ≤ 10) ∧ ((8 : Int) = 8 → 0 ≤ μ 92 8 ∧ μ 92 8 ≤ 10) := hB 92 8
  have hQ0 : LQ fl fo (cco μ) (μ 96) := by rw [hfl, hfo]; exact hQ
  have hOK : COk fl fo (cco μ) := by rw [hfl, hfo]; exact cco_ok hB
  refine r_iconst hL dX4_wayLength_0 ?_
  refine r_istore_n hL (lo' := [some (xR 92), some (xI 0), none, none, none]) dX4_wayLength_1 (by decide) rfl ?_
  refine r_iconst hL dX4_wayLength_2 ?_
  refine r_istore_n hL (lo' := [some (xR 92), some (xI 0), some (xI 0), none, none]) dX4_wayLength_3 (by decide) rfl ?_
  refine r_iconst hL dX4_wayLength_4 ?_
  refine r_istore_n hL (lo' := [some (xR 92), some (xI 0), some (xI 0), some (xI 0), none]) dX4_wayLength_5 (by decide) rfl ?_
  have lp6 : ∀ (n6 : Nat) (i : Int) (j : Int) (k : Int) (μ106 : xM), (BI μ106) → (Fr W99 μ μ106) → (μ106 92 7 = fl) → (μ106 92 8 = fo) → (0 ≤ i ∧ i ≤ fl) → (0 ≤ j ∧ j ≤ fo) → (0 ≤ k ∧ k ≤ 20 ∧ k ≤ i + j) → (LU μ106) → (WYp fl fo (cco μ) (μ 96) (μ106 99) k.toNat i j) → ((20 - k).toNat) < n6 → X 0 0 WW μ106 6 [some (xR 92), some (xI i), some (xI j), some (xI k), none] [] := by
    intro n6
    induction n6 with
    | zero => intro i j k μ106 hB106 hF106 h5 h6 h3 h4 h8 hU106 h7 hn; exact absurd hn (Nat.not_lt_zero _)
    | succ n6 ih6 =>
      intro i j k μ106 hB106 hF106 h5 h6 h3 h4 h8 hU106 h7 hn6
      have hco106 : cco μ106 = cco μ := cco_fr (fun k q _ _ => hF106 k q (by unfold W99; omega))
      have h96106 : μ106 96 = μ 96 := funext fun q => hF106 96 q (by unfold W99; omega)
      have hQ106 : LQ (μ106 92 7) (μ106 92 8) (cco μ106) (μ106 96) := by rw [hco106, h96106, h5, h6]; exact hQ0
      refine r_iload_n hL (x := k) dX4_wayLength_6 rfl ?_
      refine r_bipush hL dX4_wayLength_7 (by decide) ?_
      refine r_icmp_ge hL (tgt := 60) dX4_wayLength_9 (by decide) (by omega) (by omega) (fun c9 => ?_) (fun c9 => ?_)
      · skip
        refine r_bipush hL dX4_wayLength_60 (by decide) ?_
        exact r_iret hL dX4_wayLength_62 rfl (hK _ _ hB106 hF106 ⟨by omega, by rw [← hfl, ← hfo]; have e1 : i = fl := (by omega); have e2 : j = fo := (by omega); rw [e1, e2] at h7; first | exact h7 | (rw [show (20 : Int).toNat = k.toNat by omega]; exact h7)⟩ (by omega))
      · skip
        refine r_aload_n hL (x := 92) dX4_wayLength_12 rfl ?_
        refine r_iload_n hL (x := i) dX4_wayLength_13 rfl ?_
        refine r_iload_n hL (x := j) dX4_wayLength_14 rfl ?_
        refine r_callV hL (st := []) (av := [xI i, xI j]) (k := 92) (m_X4_leastStep (μ := μ106) hB106 i (by omega) j (by omega) hU106 hQ106 (fun z15 hc15 => ⟨rfl, ?_⟩)) ce_yX4_leastStep im_yX4_leastStep se_yX4_leastStep ml_X4_57 xcl4 (by decide) s_92 dX4_wayLength_15 rfl (Nat.le_of_ble_eq_true rfl) ⟨Nat.le_of_ble_eq_true rfl, Nat.le_of_ble_eq_true rfl⟩ ⟨Nat.le_of_ble_eq_true rfl, Nat.le_of_ble_eq_true rfl⟩
        show X 0 0 WW μ106 18 [some (xR 92), some (xI i), some (xI j), some (xI k), none] [xI z15]
        refine r_istore hL (lo' := [some (xR 92), some (xI i), some (xI j), some (xI k), some (xI z15)]) dX4_wayLength_18 (by decide) rfl ?_
        refine r_iload hL (x := z15) dX4_wayLength_20 rfl ?_
        refine r_iconst hL dX4_wayLength_22 ?_
        refine r_icmp_ne hL (tgt := 28) dX4_wayLength_23 (by decide) (by omega) (by omega) (fun c23 => ?_) (fun c23 => ?_)
        · skip
          refine r_aload_n hL (x := 92) dX4_wayLength_28 rfl ?_
          refine r_getr hL xcl4 6 (by decide) s_92 (by decide) fl_X4_30 (by decide) f_92_6 dX4_wayLength_29 ?_
          refine r_iload_n hL (x := k) dX4_wayLength_32 rfl ?_
          refine r_iload hL (x := z15) dX4_wayLength_33 rfl ?_
          refine r_iast hL dX4_wayLength_35 (by decide) s_99 (by decide) (by omega) (by omega) (by omega) (fun μ1 hm1 => ?_)
          have hB1 : BI μ1 := by rw [hm1]; exact hB106.up trivial
          have hF1 : Fr W99 μ μ1 := by rw [hm1]; exact hF106.up (by unfold W99; omega)
          have hk1_92_7 : μ1 92 7 = μ106 92 7 := by rw [hm1]; exact congrFun (xup_c (by decide)) _
          have hk1_92_8 : μ1 92 8 = μ106 92 8 := by rw [hm1]; exact congrFun (xup_c (by decide)) _
          have hU1 : LU μ1 := hU106.keep (by rw [hm1]; exact xup_c (by decide)) (by rw [hm1]; exact congrFun (xup_c (by decide)) _) (by rw [hm1]; exact congrFun (xup_c (by decide)) _)
          refine r_iload_n hL (x := i) dX4_wayLength_36 rfl ?_
          refine r_getsF hL dX4_wayLength_37 fw_X4_60 (fun a37 hTa37 => ?_)
          refine r_iload hL (x := z15) dX4_wayLength_40 rfl ?_
          refine hTa37 dX4_wayLength_42 (by omega) (by omega) ?_
          obtain ⟨z42, hz42⟩ : ∃ z, z = xOF z15 := ⟨_, rfl⟩
          rw [← hz42]
          have hr42 : 0 ≤ z42 ∧ z42 ≤ 2 := by rw [hz42]; exact xOF_rg _
          have hv42 := xOF_v z15
          rw [← hz42] at hv42
          refine r_iadd hL dX4_wayLength_43 ?_
          refine r_istore_n hL (lo' := [some (xR 92), some (xI (i + z42)), some (xI j), some (xI k), some (xI z15)]) dX4_wayLength_44 (by decide) rfl ?_
          refine r_iload_n hL (x := j) dX4_wayLength_45 rfl ?_
          refine r_getsO hL dX4_wayLength_46 fw_X4_63 (fun a46 hTa46 => ?_)
          refine r_iload hL (x := z15) dX4_wayLength_49 rfl ?_
          refine hTa46 dX4_wayLength_51 (by omega) (by omega) ?_
          obtain ⟨z51, hz51⟩ : ∃ z, z = xOO z15 := ⟨_, rfl⟩
          rw [← hz51]
          have hr51 : 0 ≤ z51 ∧ z51 ≤ 2 := by rw [hz51]; exact xOO_rg _
          have hv51 := xOO_v z15
          rw [← hz51] at hv51
          refine r_iadd hL dX4_wayLength_52 ?_
          refine r_istore_n hL (lo' := [some (xR 92), some (xI (i + z42)), some (xI (j + z51)), some (xI k), some (xI z15)]) dX4_wayLength_53 (by decide) rfl ?_
          refine r_iinc hL (x := k) (lo' := [some (xR 92), some (xI (i + z42)), some (xI (j + z51)), some (xI (k + 1)), some (xI z15)]) dX4_wayLength_54 (by decide) rfl rfl ?_
          refine r_goto hL (tgt := 6) dX4_wayLength_57 (by decide) ?_
          refine r_drop hL (lo' := [some (xR 92), some (xI (i + z42)), some (xI (j + z51)), some (xI (k + 1)), none]) [4] rfl ?_
          exact ih6 (i + z42) (j + z51) (k + 1) μ1 hB1 hF1 (by omega) (by omega) (by omega) (by omega) (by omega) hU1 (by rw [show (k + 1).toNat = k.toNat + 1 by omega]; exact WYp.go (s := z15) h7 (by omega) (by rcases hc15 with ⟨_, _, e⟩ | ⟨_, _, _, _, _, _, e⟩; omega; rw [← hco106, ← h96106]; exact e) (fun q => by rw [hm1, Int.toNat_of_nonneg (by omega)]; simp [xup]) (by rw [hz42]) (by rw [hz51]) (by omega) (by omega)) (by omega)
        · skip
          refine r_iload_n hL (x := k) dX4_wayLength_26 rfl ?_
          exact r_iret hL dX4_wayLength_27 rfl (hK _ _ hB106 hF106 ⟨by omega, by rw [← hfl, ← hfo]; have e1 : i = fl := (by omega); have e2 : j = fo := (by omega); rw [e1, e2] at h7; first | exact h7 | (rw [show (20 : Int).toNat = k.toNat by omega]; exact h7)⟩ (by omega))
  exact lp6 _ 0 0 0 μ hB hF (by omega) (by omega) (by omega) (by omega) (by omega) hU (WYp.zero (by omega) (by omega)) (Nat.lt_succ_self _)

set_option maxHeartbeats 4000000 in
set_option maxRecDepth 20000 in
theorem m_X4_stepOfWay {K : Option xV → xW → xM → Prop} {μ : xM} (hB0 : BI μ) (k : Int) (hk : xrg k) (hU : LU μ) (hQ : LQ (μ 92 7) (μ 92 8) (cco μ) (μ 96)) (hK : ∀ r μ', BI μ' → Fr W99 μ μ' → (∃ l, WYF (μ 92 7) (μ 92 8) (cco μ) (μ 96) (μ' 99) l ∧ ((0 ≤ k ∧ k < l ∧ r = μ' 99 k) ∨ (¬ (0 ≤ k ∧ k < l) ∧ r = -1))) → xrg r → K (some (xI r)) WW μ') : xMet yX4_stepOfWay cX4_stepOfWay 3 (some .int) 4 100 0 0 [xR 92, xI k] WW μ K := by
  refine xMet.go RX4 "stepOfWay" rfl rfl (by decide) [some (xR 92), some (xI k), none] (Nat.le_of_ble_eq_true rfl) rfl (fun X hL => ?_)
  have hB := hB0
  have hF : Fr W99 μ μ := Fr.rf
  refine r_aload_n hL (x := 92) dX4_stepOfWay_0 rfl ?_
  refine r_callV hL (st := []) (av := []) (k := 92) (m_X4_wayLength (μ := μ) hB hU hQ (fun z1 μ1c hB1c hG1 hY1 hc1 => ⟨rfl, ?_⟩)) ce_yX4_wayLength im_yX4_wayLength se_yX4_wayLength ml_X4_66 xcl4 (by decide) s_92 dX4_stepOfWay_1 rfl (Nat.le_of_ble_eq_true rfl) ⟨Nat.le_of_ble_eq_true rfl, Nat.le_of_ble_eq_true rfl⟩ ⟨Nat.le_of_ble_eq_true rfl, Nat.le_of_ble_eq_true rfl⟩
  show X 0 0 WW μ1c 4 [some (xR 92), some (xI k), none] [xI z1]
  have hF1c : Fr W99 μ μ1c := hF.trans hG1
  refine r_istore_n hL (lo' := [some (xR 92), some (xI k), some (xI z1)]) dX4_stepOfWay_4 (by decide) rfl ?_
  refine r_iload_n hL (x := k) dX4_stepOfWay_5 rfl ?_
  refine r_if_lt hL (tgt := 23) dX4_stepOfWay_6 (by decide) (by omega) (fun c6 => ?_) (fun c6 => ?_)
  · skip
    refine r_iconst hL dX4_stepOfWay_23 ?_
    exact r_iret hL dX4_stepOfWay_24 rfl (hK _ _ hB1c hF1c ⟨_, hY1, by first | exact Or.inl ⟨by omega, by omega, hz19⟩ | exact Or.inr ⟨by omega, rfl⟩⟩ (by omega))
  · skip
    refine r_iload_n hL (x := k) dX4_stepOfWay_9 rfl ?_
    refine r_iload_n hL (x := z1) dX4_stepOfWay_10 rfl ?_
    refine r_icmp_ge hL (tgt := 23) dX4_stepOfWay_11 (by decide) (by omega) (by omega) (fun c11 => ?_) (fun c11 => ?_)
    · skip
      refine r_iconst hL dX4_stepOfWay_23 ?_
      exact r_iret hL dX4_stepOfWay_24 rfl (hK _ _ hB1c hF1c ⟨_, hY1, by first | exact Or.inl ⟨by omega, by omega, hz19⟩ | exact Or.inr ⟨by omega, rfl⟩⟩ (by omega))
    · skip
      refine r_aload_n hL (x := 92) dX4_stepOfWay_14 rfl ?_
      refine r_getr hL xcl4 6 (by decide) s_92 (by decide) fl_X4_30 (by decide) f_92_6 dX4_stepOfWay_15 ?_
      refine r_iload_n hL (x := k) dX4_stepOfWay_18 rfl ?_
      refine r_iald hL dX4_stepOfWay_19 (by decide) s_99 (by decide) (by omega) (by omega) (fun hr19 => ?_)
      obtain ⟨z19, hz19⟩ : ∃ z, z = μ1c 99 k := ⟨_, rfl⟩
      rw [← hz19] at hr19 ⊢
      refine r_goto hL (tgt := 24) dX4_stepOfWay_20 (by decide) ?_
      exact r_iret hL dX4_stepOfWay_24 rfl (hK _ _ hB1c hF1c ⟨_, hY1, by first | exact Or.inl ⟨by omega, by omega, hz19⟩ | exact Or.inr ⟨by omega, rfl⟩⟩ (by omega))

set_option maxHeartbeats 4000000 in
set_option maxRecDepth 20000 in
theorem m_X2_measure {K : Option xV → xW → xM → Prop} {μ : xM} (hB0 : BI μ)  (hK : ∀ μ', BI μ' → Fr RO μ μ' → K none WW μ') : xMet yX2_measure cX2_measure 5 none 4 104 0 0 [xR 100, xR 1, xR 92] WW μ K := by
  refine xMet.go RX2 "measure" rfl rfl (by decide) [some (xR 100), some (xR 1), some (xR 92), none, none] (Nat.le_of_ble_eq_true rfl) rfl (fun X hL => ?_)
  have hB := hB0
  have hF : Fr RO μ μ := Fr.rf
  refine r_iconst hL dX2_measure_0 ?_
  refine r_istore_n hL (lo' := [some (xR 100), some (xR 1), some (xR 92), some (xI 0), none]) dX2_measure_1 (by decide) rfl ?_
  have lp2 : ∀ (n2 : Nat) (t : Int) (μ102 : xM), (BI μ102) → (Fr RO μ μ102) → (0 ≤ t ∧ t ≤ 8) → ((8 - t).toNat) < n2 → X 0 0 WW μ102 2 [some (xR 100), some (xR 1), some (xR 92), some (xI t), none] [] := by
    intro n2
    induction n2 with
    | zero => intro t μ102 hB102 hF102 h1 hn; exact absurd hn (Nat.not_lt_zero _)
    | succ n2 ih2 =>
      intro t μ102 hB102 hF102 h1 hn2
      refine r_iload_n hL (x := t) dX2_measure_2 rfl ?_
      refine r_aload_n hL (x := 1) dX2_measure_3 rfl ?_
      refine r_geti hL xcl5 4 (j' := 4) rfl (by decide) s_1 (by decide) fl_X2_15 (by decide) (by decide) dX2_measure_4 (fun hr4 => ?_)
      obtain ⟨z4, hz4⟩ : ∃ z, z = μ102 1 4 := ⟨_, rfl⟩
      rw [← hz4] at hr4 ⊢
      have hb4 : 0 ≤ μ102 1 4 ∧ μ102 1 4 ≤ 8 := (show ((4 : Int) = 4 → 0 ≤ (μ102 1 4) ∧ (μ102 1 4) ≤ 8) ∧ ((4 : Int) = 5 → 0 ≤ (μ102 1 4) ∧ (μ102 1 4) ≤ 2) from hB102 1 4).1 (by omega)
      refine r_icmp_ge hL (tgt := 87) dX2_measure_7 (by decide) (by omega) (by omega) (fun c7 => ?_) (fun c7 => ?_)
      · skip
        exact r_vret hL dX2_measure_87 rfl (hK _ hB102 hF102)
      · skip
        refine r_iload_n hL (x := t) dX2_measure_10 rfl ?_
        refine r_istore hL (lo' := [some (xR 100), some (xR 1), some (xR 92), some (xI t), some (xI t)]) dX2_measure_11 (by decide) rfl ?_
        have lp13 : ∀ (n13 : Nat) (u : Int) (μ113 : xM), (BI μ113) → (Fr RO μ μ113) → (0 ≤ u ∧ u ≤ 8) → ((8 - u).toNat) < n13 → X 0 0 WW μ113 13 [some (xR 100), some (xR 1), some (xR 92), some (xI t), some (xI u)] [] := by
          intro n13
          induction n13 with
          | zero => intro u μ113 hB113 hF113 h2 hn; exact absurd hn (Nat.not_lt_zero _)
          | succ n13 ih13 =>
            intro u μ113 hB113 hF113 h2 hn13
            refine r_iload hL (x := u) dX2_measure_13 rfl ?_
            refine r_aload_n hL (x := 1) dX2_measure_15 rfl ?_
            refine r_geti hL xcl5 4 (j' := 4) rfl (by decide) s_1 (by decide) fl_X2_15 (by decide) (by decide) dX2_measure_16 (fun hr16 => ?_)
            obtain ⟨z16, hz16⟩ : ∃ z, z = μ113 1 4 := ⟨_, rfl⟩
            rw [← hz16] at hr16 ⊢
            have hb16 : 0 ≤ μ113 1 4 ∧ μ113 1 4 ≤ 8 := (show ((4 : Int) = 4 → 0 ≤ (μ113 1 4) ∧ (μ113 1 4) ≤ 8) ∧ ((4 : Int) = 5 → 0 ≤ (μ113 1 4) ∧ (μ113 1 4) ≤ 2) from hB113 1 4).1 (by omega)
            refine r_icmp_ge hL (tgt := 81) dX2_measure_19 (by decide) (by omega) (by omega) (fun c19 => ?_) (fun c19 => ?_)
            · skip
              refine r_iinc hL (x := t) (lo' := [some (xR 100), some (xR 1), some (xR 92), some (xI (t + 1)), some (xI u)]) dX2_measure_81 (by decide) rfl rfl ?_
              refine r_goto hL (tgt := 2) dX2_measure_84 (by decide) ?_
              refine r_drop hL (lo' := [some (xR 100), some (xR 1), some (xR 92), some (xI (t + 1)), none]) [4] rfl ?_
              exact ih2 (t + 1) μ113 hB113 hF113 (by omega) (by omega)
            · skip
              refine r_aload_n hL (x := 92) dX2_measure_22 rfl ?_
              refine r_aload_n hL (x := 1) dX2_measure_23 rfl ?_
              refine r_getr hL xcl5 0 (by decide) s_1 (by decide) fl_X2_21 (by decide) f_1_0 dX2_measure_24 ?_
              refine r_iload_n hL (x := t) dX2_measure_27 rfl ?_
              refine r_lald hL dX2_measure_28 (by decide) s_2 (by decide) (by omega) (by omega) (fun hr28 => ?_)
              obtain ⟨z28, hz28⟩ : ∃ z, z = μ113 2 t := ⟨_, rfl⟩
              rw [← hz28] at hr28 ⊢
              have hb28 : 0 ≤ (μ113 2 t) ∧ (μ113 2 t) ≤ 47244640255 := hB113 2 t
              refine r_aload_n hL (x := 1) dX2_measure_29 rfl ?_
              refine r_getr hL xcl5 0 (by decide) s_1 (by decide) fl_X2_21 (by decide) f_1_0 dX2_measure_30 ?_
              refine r_iload hL (x := u) dX2_measure_33 rfl ?_
              refine r_lald hL dX2_measure_35 (by decide) s_2 (by decide) (by omega) (by omega) (fun hr35 => ?_)
              obtain ⟨z35, hz35⟩ : ∃ z, z = μ113 2 u := ⟨_, rfl⟩
              rw [← hz35] at hr35 ⊢
              have hb35 : 0 ≤ (μ113 2 u) ∧ (μ113 2 u) ≤ 47244640255 := hB113 2 u
              refine r_aload_n hL (x := 1) dX2_measure_36 rfl ?_
              refine r_getr hL xcl5 2 (by decide) s_1 (by decide) fl_X2_25 (by decide) f_1_2 dX2_measure_37 ?_
              refine r_callV hL (st := []) (av := [xL z28, xL z35, xR 4]) (k := 92) (m_X4_lineUp (μ := μ113) hB113 z28 (by omega) z35 (by omega) (fun μ40c hB40c hG40 hU40c hS40 => ⟨rfl, ?_⟩)) ce_yX4_lineUp im_yX4_lineUp se_yX4_lineUp ml_X2_28 xcl4 (by decide) s_92 dX2_measure_40 rfl (Nat.le_of_ble_eq_true rfl) ⟨Nat.le_of_ble_eq_true rfl, Nat.le_of_ble_eq_true rfl⟩ ⟨Nat.le_of_ble_eq_true rfl, Nat.le_of_ble_eq_true rfl⟩
              show X 0 0 WW μ40c 43 [some (xR 100), some (xR 1), some (xR 92), some (xI t), some (xI u)] []
              have hF40c : Fr RO μ μ40c := hF113.trans hG40
              refine r_aload_n hL (x := 100) dX2_measure_43 rfl ?_
              refine r_getr hL xcl2 0 (by decide) s_100 (by decide) fl_X2_9 (by decide) f_100_0 dX2_measure_44 ?_
              refine r_iload_n hL (x := t) dX2_measure_47 rfl ?_
              refine r_bipush hL dX2_measure_48 (by decide) ?_
              refine r_imul hL dX2_measure_50 ?_
              refine r_iload hL (x := u) dX2_measure_51 rfl ?_
              refine r_iadd hL dX2_measure_53 ?_
              refine r_aload_n hL (x := 92) dX2_measure_54 rfl ?_
              refine r_callV hL (st := [xI ((t * 8) + u), xR 101]) (av := []) (k := 92) (m_X4_apart (μ := μ40c) hB40c hU40c (fun z55 hc55 heq55 => ⟨rfl, ?_⟩)) ce_yX4_apart im_yX4_apart se_yX4_apart ml_X2_34 xcl4 (by decide) s_92 dX2_measure_55 rfl (Nat.le_of_ble_eq_true rfl) ⟨Nat.le_of_ble_eq_true rfl, Nat.le_of_ble_eq_true rfl⟩ ⟨Nat.le_of_ble_eq_true rfl, Nat.le_of_ble_eq_true rfl⟩
              show X 0 0 WW μ40c 58 [some (xR 100), some (xR 1), some (xR 92), some (xI t), some (xI u)] [xI z55, xI ((t * 8) + u), xR 101]
              refine r_iast hL dX2_measure_58 (by decide) s_101 (by decide) (by omega) (by omega) (by omega) (fun μ1 hm1 => ?_)
              have hB1 : BI μ1 := by rw [hm1]; exact hB40c.up (by show 0 ≤ z55 ∧ z55 ≤ 180; omega)
              have hF1 : Fr RO μ μ1 := by rw [hm1]; exact hF40c.up (by unfold RO; omega)
              have hU1 : LU μ1 := hU40c.keep (by rw [hm1]; exact xup_c (by decide)) (by rw [hm1]; exact congrFun (xup_c (by decide)) _) (by rw [hm1]; exact congrFun (xup_c (by decide)) _)
              refine r_aload_n hL (x := 100) dX2_measure_59 rfl ?_
              refine r_getr hL xcl2 0 (by decide) s_100 (by decide) fl_X2_9 (by decide) f_100_0 dX2_measure_60 ?_
              refine r_iload hL (x := u) dX2_measure_63 rfl ?_
              refine r_bipush hL dX2_measure_65 (by decide) ?_
              refine r_imul hL dX2_measure_67 ?_
              refine r_iload_n hL (x := t) dX2_measure_68 rfl ?_
              refine r_iadd hL dX2_measure_69 ?_
              refine r_aload_n hL (x := 92) dX2_measure_70 rfl ?_
              refine r_callV hL (st := [xI ((u * 8) + t), xR 101]) (av := []) (k := 92) (m_X4_apart (μ := μ1) hB1 hU1 (fun z71 hc71 heq71 => ⟨rfl, ?_⟩)) ce_yX4_apart im_yX4_apart se_yX4_apart ml_X2_34 xcl4 (by decide) s_92 dX2_measure_71 rfl (Nat.le_of_ble_eq_true rfl) ⟨Nat.le_of_ble_eq_true rfl, Nat.le_of_ble_eq_true rfl⟩ ⟨Nat.le_of_ble_eq_true rfl, Nat.le_of_ble_eq_true rfl⟩
              show X 0 0 WW μ1 74 [some (xR 100), some (xR 1), some (xR 92), some (xI t), some (xI u)] [xI z71, xI ((u * 8) + t), xR 101]
              refine r_iast hL dX2_measure_74 (by decide) s_101 (by decide) (by omega) (by omega) (by omega) (fun μ2 hm2 => ?_)
              have hB2 : BI μ2 := by rw [hm2]; exact hB1.up (by show 0 ≤ z71 ∧ z71 ≤ 180; omega)
              have hF2 : Fr RO μ μ2 := by rw [hm2]; exact hF1.up (by unfold RO; omega)
              refine r_iinc hL (x := u) (lo' := [some (xR 100), some (xR 1), some (xR 92), some (xI t), some (xI (u + 1))]) dX2_measure_75 (by decide) rfl rfl ?_
              refine r_goto hL (tgt := 13) dX2_measure_78 (by decide) ?_
              exact ih13 (u + 1) μ2 hB2 hF2 (by omega) (by omega)
        exact lp13 _ t μ102 hB102 hF102 (by omega) (Nat.lt_succ_self _)
  exact lp2 _ 0 μ hB hF (by omega) (Nat.lt_succ_self _)
