set_option maxHeartbeats 4000000 in
set_option maxRecDepth 20000 in
theorem m_X8_linesUp {K : Option xV → xW → xM → Prop} {μ : xM} (hB0 : BI μ)  (hK : ∀ r μ', BI μ' → Fr LN μ μ' → MD μ' → r = μ' 129 0 → LQ (μ 120 11) (μ 120 13) (mCo μ) (μ' 129) → LW (μ 120 11) (μ 120 13) (mCo μ) (μ' 129) (μ' 130) → 0 ≤ r ∧ r ≤ 180 → K (some (xI r)) WW μ') : xMet yX8_linesUp cX8_linesUp 10 (some .int) 3 67 0 0 [xR 120] WW μ K := by
  refine xMet.go RX8 "linesUp" rfl rfl (by decide) [some (xR 120), none, none, none, none, none, none, none, none, none] (Nat.le_of_ble_eq_true rfl) rfl (fun X hL => ?_)
  have hB := hB0
  have hm11 : 0 ≤ μ 120 11 ∧ μ 120 11 ≤ 10 := (show ((11 : Int) = 2 → 0 ≤ (μ 120 11) ∧ (μ 120 11) ≤ 16) ∧ ((11 : Int) = 6 → 0 ≤ (μ 120 11) ∧ (μ 120 11) ≤ 10) ∧ ((11 : Int) = 8 → 0 ≤ (μ 120 11) ∧ (μ 120 11) ≤ 20) ∧ ((11 : Int) = 9 → 0 ≤ (μ 120 11) ∧ (μ 120 11) ≤ 2147483647) ∧ ((11 : Int) = 11 → 0 ≤ (μ 120 11) ∧ (μ 120 11) ≤ 10) ∧ ((11 : Int) = 13 → 0 ≤ (μ 120 11) ∧ (μ 120 11) ≤ 10) ∧ ((11 : Int) = 20 → 0 ≤ (μ 120 11) ∧ (μ 120 11) ≤ 8) from hB 120 11).2.2.2.2.1 (by omega)
  have hm13 : 0 ≤ μ 120 13 ∧ μ 120 13 ≤ 10 := (show ((13 : Int) = 2 → 0 ≤ (μ 120 13) ∧ (μ 120 13) ≤ 16) ∧ ((13 : Int) = 6 → 0 ≤ (μ 120 13) ∧ (μ 120 13) ≤ 10) ∧ ((13 : Int) = 8 → 0 ≤ (μ 120 13) ∧ (μ 120 13) ≤ 20) ∧ ((13 : Int) = 9 → 0 ≤ (μ 120 13) ∧ (μ 120 13) ≤ 2147483647) ∧ ((13 : Int) = 11 → 0 ≤ (μ 120 13) ∧ (μ 120 13) ≤ 10) ∧ ((13 : Int) = 13 → 0 ≤ (μ 120 13) ∧ (μ 120 13) ≤ 10) ∧ ((13 : Int) = 20 → 0 ≤ (μ 120 13) ∧ (μ 120 13) ≤ 8) from hB 120 13).2.2.2.2.2.1 (by omega)
  have hOK := mCo_ok hB
  have hF : Fr LN μ μ := Fr.rf
  refine r_aload_n hL (x := 120) dX8_linesUp_0 rfl ?_
  refine r_geti hL xcl8 11 (j' := 11) rfl (by decide) s_120 (by decide) fl_X8_66 (by decide) (by decide) dX8_linesUp_1 (fun hr1 => ?_)
  obtain ⟨z1, hz1⟩ : ∃ z, z = μ 120 11 := ⟨_, rfl⟩
  rw [← hz1] at hr1 ⊢
  have hb1 : 0 ≤ μ 120 11 ∧ μ 120 11 ≤ 10 := (show ((11 : Int) = 2 → 0 ≤ (μ 120 11) ∧ (μ 120 11) ≤ 16) ∧ ((11 : Int) = 6 → 0 ≤ (μ 120 11) ∧ (μ 120 11) ≤ 10) ∧ ((11 : Int) = 8 → 0 ≤ (μ 120 11) ∧ (μ 120 11) ≤ 20) ∧ ((11 : Int) = 9 → 0 ≤ (μ 120 11) ∧ (μ 120 11) ≤ 2147483647) ∧ ((11 : Int) = 11 → 0 ≤ (μ 120 11) ∧ (μ 120 11) ≤ 10) ∧ ((11 : Int) = 13 → 0 ≤ (μ 120 11) ∧ (μ 120 11) ≤ 10) ∧ ((11 : Int) = 20 → 0 ≤ (μ 120 11) ∧ (μ 120 11) ≤ 8) from hB 120 11).2.2.2.2.1 (by omega)
  refine r_istore_n hL (lo' := [some (xR 120), some (xI z1), none, none, none, none, none, none, none, none]) dX8_linesUp_4 (by decide) rfl ?_
  have lp5 : ∀ (n5 : Nat) (i : Int) (μ105 : xM), (BI μ105) → (Fr LN μ μ105) → (-1 ≤ i ∧ i ≤ μ 120 11) → (MDp μ (μ105 129) i (μ 120 13)) → (LQp (μ 120 11) (μ 120 13) (mCo μ) (μ105 129) i (μ 120 13)) → (LWp (μ 120 11) (μ 120 13) (mCo μ) (μ105 129) (μ105 130) i (μ 120 13)) → ((i + 1).toNat) < n5 → X 0 0 WW μ105 5 [some (xR 120), some (xI i), none, none, none, none, none, none, none, none] [] := by
    intro n5
    induction n5 with
    | zero => intro i μ105 hB105 hF105 h3 h4 h5 h6 hn; exact absurd hn (Nat.not_lt_zero _)
    | succ n5 ih5 =>
      intro i μ105 hB105 hF105 h3 h4 h5 h6 hn5
      have e11_105 : μ105 120 11 = μ 120 11 := hF105 120 11 (by unfold LN; omega)
      have e13_105 : μ105 120 13 = μ 120 13 := hF105 120 13 (by unfold LN; omega)
      refine r_iload_n hL (x := i) dX8_linesUp_5 rfl ?_
      refine r_if_lt hL (tgt := 212) dX8_linesUp_6 (by decide) (by omega) (fun c6 => ?_) (fun c6 => ?_)
      · skip
        refine r_aload_n hL (x := 120) dX8_linesUp_212 rfl ?_
        refine r_getr hL xcl8 14 (by decide) s_120 (by decide) fl_X8_35 (by decide) f_120_14 dX8_linesUp_213 ?_
        refine r_iconst hL dX8_linesUp_216 ?_
        refine r_iald hL dX8_linesUp_217 (by decide) s_129 (by decide) (by omega) (by omega) (fun hr217 => ?_)
        obtain ⟨z217, hz217⟩ : ∃ z, z = μ105 129 0 := ⟨_, rfl⟩
        rw [← hz217] at hr217 ⊢
        exact r_iret hL dX8_linesUp_218 rfl (hK _ _ hB105 hF105 (by unfold MD; rw [show (-1 : Int) = i by omega, e13_105]; exact MDp.fr (fun k q hk => hF105 k q (by unfold LN; omega)) h4) hz217 (by unfold LQ; rw [show (-1 : Int) = i by omega]; exact h5) (by unfold LW; rw [show (-1 : Int) = i by omega]; exact h6) (by have hz := (h4 0 0 (by omega) (by omega) (by omega) (by omega) (by omega)).1; rw [show (11 * (0 : Int) + 0) = 0 from rfl] at hz; omega))
      · skip
        refine r_aload_n hL (x := 120) dX8_linesUp_9 rfl ?_
        refine r_geti hL xcl8 13 (j' := 13) rfl (by decide) s_120 (by decide) fl_X8_70 (by decide) (by decide) dX8_linesUp_10 (fun hr10 => ?_)
        obtain ⟨z10, hz10⟩ : ∃ z, z = μ105 120 13 := ⟨_, rfl⟩
        rw [← hz10] at hr10 ⊢
        have hb10 : 0 ≤ μ105 120 13 ∧ μ105 120 13 ≤ 10 := (show ((13 : Int) = 2 → 0 ≤ (μ105 120 13) ∧ (μ105 120 13) ≤ 16) ∧ ((13 : Int) = 6 → 0 ≤ (μ105 120 13) ∧ (μ105 120 13) ≤ 10) ∧ ((13 : Int) = 8 → 0 ≤ (μ105 120 13) ∧ (μ105 120 13) ≤ 20) ∧ ((13 : Int) = 9 → 0 ≤ (μ105 120 13) ∧ (μ105 120 13) ≤ 2147483647) ∧ ((13 : Int) = 11 → 0 ≤ (μ105 120 13) ∧ (μ105 120 13) ≤ 10) ∧ ((13 : Int) = 13 → 0 ≤ (μ105 120 13) ∧ (μ105 120 13) ≤ 10) ∧ ((13 : Int) = 20 → 0 ≤ (μ105 120 13) ∧ (μ105 120 13) ≤ 8) from hB105 120 13).2.2.2.2.2.1 (by omega)
        refine r_istore_n hL (lo' := [some (xR 120), some (xI i), some (xI z10), none, none, none, none, none, none, none]) dX8_linesUp_13 (by decide) rfl ?_
        have lp14 : ∀ (n14 : Nat) (j : Int) (μ114 : xM), (BI μ114) → (Fr LN μ μ114) → (-1 ≤ j ∧ j ≤ μ 120 13) → (MDp μ (μ114 129) i j) → (LQp (μ 120 11) (μ 120 13) (mCo μ) (μ114 129) i j) → (LWp (μ 120 11) (μ 120 13) (mCo μ) (μ114 129) (μ114 130) i j) → ((j + 1).toNat) < n14 → X 0 0 WW μ114 14 [some (xR 120), some (xI i), some (xI j), none, none, none, none, none, none, none] [] := by
          intro n14
          induction n14 with
          | zero => intro j μ114 hB114 hF114 h7 h8 h15 h16 hn; exact absurd hn (Nat.not_lt_zero _)
          | succ n14 ih14 =>
            intro j μ114 hB114 hF114 h7 h8 h15 h16 hn14
            have e11_114 : μ114 120 11 = μ 120 11 := hF114 120 11 (by unfold LN; omega)
            have e13_114 : μ114 120 13 = μ 120 13 := hF114 120 13 (by unfold LN; omega)
            refine r_iload_n hL (x := j) dX8_linesUp_14 rfl ?_
            refine r_if_lt hL (tgt := 206) dX8_linesUp_15 (by decide) (by omega) (fun c15 => ?_) (fun c15 => ?_)
            · skip
              refine r_iinc hL (x := i) (lo' := [some (xR 120), some (xI (i + (-1))), some (xI j), none, none, none, none, none, none, none]) dX8_linesUp_206 (by decide) rfl rfl ?_
              refine r_goto hL (tgt := 5) dX8_linesUp_209 (by decide) ?_
              refine r_drop hL (lo' := [some (xR 120), some (xI (i + (-1))), none, none, none, none, none, none, none, none]) [2] rfl ?_
              exact ih5 (i + (-1)) μ114 hB114 hF114 (by omega) (MDp.up (by rw [show (-1 : Int) = j by omega]; exact h8)) (LQp.up (by rw [show (-1 : Int) = j by omega]; exact h15)) (LWp.up (by rw [show (-1 : Int) = j by omega]; exact h16)) (by omega)
            · skip
              have lp66 : ∀ (n66 : Nat) (v : Int) (n : Int) (s : Int), (mLe μ (μ114 129) i j v) → (xrg n) → (0 ≤ s ∧ s ≤ 4) → (2 ≤ s → i < μ 120 11 → v ≠ 100000) → (3 ≤ s → j < μ 120 13 → v ≠ 100000) → (lmB (μ 120 11) (μ 120 13) (mCo μ) (μ114 129) (μ114 130) i j s.toNat v n) → ((4 - s).toNat) < n66 → X 0 0 WW μ114 66 [some (xR 120), some (xI i), some (xI j), none, some (xI v), some (xI n), some (xI s), none, none, none] [] := by
                intro n66
                induction n66 with
                | zero => intro v n s h9 h10 h11 h12 h13 h14 hn; exact absurd hn (Nat.not_lt_zero _)
                | succ n66 ih66 =>
                  intro v n s h9 h10 h11 h12 h13 h14 hn66
                  have hvb := h9.bd (by omega) (by omega) (by omega) (by omega)
                  refine r_iload hL (x := s) dX8_linesUp_66 rfl ?_
                  refine r_iconst hL dX8_linesUp_68 ?_
                  refine r_icmp_ge hL (tgt := 176) dX8_linesUp_69 (by decide) (by omega) (by omega) (fun c69 => ?_) (fun c69 => ?_)
                  · skip
                    refine r_aload_n hL (x := 120) dX8_linesUp_176 rfl ?_
                    refine r_getr hL xcl8 14 (by decide) s_120 (by decide) fl_X8_35 (by decide) f_120_14 dX8_linesUp_177 ?_
                    refine r_iload_n hL (x := i) dX8_linesUp_180 rfl ?_
                    refine r_iload_n hL (x := j) dX8_linesUp_181 rfl ?_
                    refine r_callS hL (st := [xR 129]) (av := [xI i, xI j]) (m_X8_cellOf (μ := μ114) i j (fun z182 hc182 => ⟨rfl, ?_⟩)) ce_yX8_cellOf sm_yX8_cellOf ml_X8_100 dX8_linesUp_182 rfl (Nat.le_of_ble_eq_true rfl) ⟨Nat.le_of_ble_eq_true rfl, Nat.le_of_ble_eq_true rfl⟩ ⟨Nat.le_of_ble_eq_true rfl, Nat.le_of_ble_eq_true rfl⟩
                    show X 0 0 WW μ114 185 [some (xR 120), some (xI i), some (xI j), none, some (xI v), some (xI n), some (xI s), none, none, none] [xI z182, xR 129]
                    refine r_iload hL (x := v) dX8_linesUp_185 rfl ?_
                    refine r_iast hL dX8_linesUp_187 (by decide) s_129 (by decide) (by omega) (by omega) (by omega) (fun μ1 hm1 => ?_)
                    have hB1 : BI μ1 := by rw [hm1]; exact hB114.up trivial
                    have hF1 : Fr LN μ μ1 := by rw [hm1]; exact hF114.up (by unfold LN; omega)
                    have hS1 : ∀ q, μ1 129 q = if q = z182 then v else μ114 129 q := fun q => by rw [hm1]; simp [xup]
                    have hS0 : ∀ q, μ1 130 q = μ114 130 q := fun q => by rw [hm1]; exact congrFun (xup_c (by decide)) q
                    refine r_aload_n hL (x := 120) dX8_linesUp_188 rfl ?_
                    refine r_getr hL xcl8 15 (by decide) s_120 (by decide) fl_X8_38 (by decide) f_120_15 dX8_linesUp_189 ?_
                    refine r_iload_n hL (x := i) dX8_linesUp_192 rfl ?_
                    refine r_iload_n hL (x := j) dX8_linesUp_193 rfl ?_
                    refine r_callS hL (st := [xR 130]) (av := [xI i, xI j]) (m_X8_cellOf (μ := μ1) i j (fun z194 hc194 => ⟨rfl, ?_⟩)) ce_yX8_cellOf sm_yX8_cellOf ml_X8_100 dX8_linesUp_194 rfl (Nat.le_of_ble_eq_true rfl) ⟨Nat.le_of_ble_eq_true rfl, Nat.le_of_ble_eq_true rfl⟩ ⟨Nat.le_of_ble_eq_true rfl, Nat.le_of_ble_eq_true rfl⟩
                    show X 0 0 WW μ1 197 [some (xR 120), some (xI i), some (xI j), none, some (xI v), some (xI n), some (xI s), none, none, none] [xI z194, xR 130]
                    refine r_iload hL (x := n) dX8_linesUp_197 rfl ?_
                    refine r_iast hL dX8_linesUp_199 (by decide) s_130 (by decide) (by omega) (by omega) (by omega) (fun μ2 hm2 => ?_)
                    have hB2 : BI μ2 := by rw [hm2]; exact hB1.up trivial
                    have hF2 : Fr LN μ μ2 := by rw [hm2]; exact hF1.up (by unfold LN; omega)
                    have hS2 : ∀ q, μ2 129 q = μ1 129 q := fun q => by rw [hm2]; exact congrFun (xup_c (by decide)) q
                    have hS3 : ∀ q, μ2 130 q = if q = z194 then n else μ1 130 q := fun q => by rw [hm2]; simp [xup]
                    refine r_iinc hL (x := j) (lo' := [some (xR 120), some (xI i), some (xI (j + (-1))), none, some (xI v), some (xI n), some (xI s), none, none, none]) dX8_linesUp_200 (by decide) rfl rfl ?_
                    refine r_goto hL (tgt := 14) dX8_linesUp_203 (by decide) ?_
                    refine r_drop hL (lo' := [some (xR 120), some (xI i), some (xI (j + (-1))), none, none, none, none, none, none, none]) [4, 5, 6] rfl ?_
                    exact ih14 (j + (-1)) μ2 hB2 hF2 (by omega) (MDp.step (v := v) h8 (by omega) (by omega) (by omega) (by rcases h9 with ⟨g1, g2, g3⟩ | ⟨g1, g2 | ⟨g3, g4, _⟩⟩ <;> omega) (fun hne => by rcases h9 with ⟨g1, g2, g3⟩ | ⟨g1, g2 | ⟨g3, g4, g5⟩⟩ <;> first | exact g5 | omega) (by omega) (fun q => (hS2 q).trans ((hS1 q).trans (by rw [hc182])))) (LQp.step (v := v) h15 hOK (by omega) (by omega) (by omega) (h14.val (by omega)).1 (fun q => (hS2 q).trans ((hS1 q).trans (by rw [hc182])))) (LWp.step (v := n) h16 hOK (by omega) (by omega) (by omega) (h14.val (by omega)).2 (fun q hq => (hS2 q).trans ((hS1 q).trans (by rw [hc182, if_neg hq]))) (fun q => (hS3 q).trans (by rw [hc194, hS0]))) (by omega)
                  · skip
                    refine r_aload_n hL (x := 120) dX8_linesUp_72 rfl ?_
                    refine r_iload_n hL (x := i) dX8_linesUp_73 rfl ?_
                    refine r_iload_n hL (x := j) dX8_linesUp_74 rfl ?_
                    refine r_iload hL (x := s) dX8_linesUp_75 rfl ?_
                    refine r_callV hL (st := []) (av := [xI i, xI j, xI s]) (k := 120) (m_X8_stepCost (μ := μ114) hB114 i (by omega) j (by omega) s (by omega) (fun z77 hc77 hc77_1 hc77_2 hc77_3 => ⟨rfl, ?_⟩)) ce_yX8_stepCost im_yX8_stepCost se_yX8_stepCost ml_X8_89 xcl8 (by decide) s_120 dX8_linesUp_77 rfl (Nat.le_of_ble_eq_true rfl) ⟨Nat.le_of_ble_eq_true rfl, Nat.le_of_ble_eq_true rfl⟩ ⟨Nat.le_of_ble_eq_true rfl, Nat.le_of_ble_eq_true rfl⟩
                    show X 0 0 WW μ114 80 [some (xR 120), some (xI i), some (xI j), none, some (xI v), some (xI n), some (xI s), none, none, none] [xI z77]
                    have hcm : mCo μ114 i j s = mCo μ i j s := mCo_fr (fun k q hk => hF114 k q (by unfold LN; omega)) i j s
                    refine r_istore hL (lo' := [some (xR 120), some (xI i), some (xI j), none, some (xI v), some (xI n), some (xI s), some (xI z77), none, none]) dX8_linesUp_80 (by decide) rfl ?_
                    refine r_iload hL (x := z77) dX8_linesUp_82 rfl ?_
                    refine r_ldc hL (n := 100000) dX8_linesUp_84 kc_X8_84 (by decide) ?_
                    refine r_icmp_ge hL (tgt := 170) dX8_linesUp_86 (by decide) (by omega) (by omega) (fun c86 => ?_) (fun c86 => ?_)
                    · skip
                      refine r_iinc hL (x := s) (lo' := [some (xR 120), some (xI i), some (xI j), none, some (xI v), some (xI n), some (xI (s + 1)), some (xI z77), none, none]) dX8_linesUp_170 (by decide) rfl rfl ?_
                      refine r_goto hL (tgt := 66) dX8_linesUp_173 (by decide) ?_
                      refine r_drop hL (lo' := [some (xR 120), some (xI i), some (xI j), none, some (xI v), some (xI n), some (xI (s + 1)), none, none, none]) [7] rfl ?_
                      exact ih66 v n (s + 1) (by first | exact h9 | (rw [hc165]; exact h9.least (s := s) (by omega) (by omega) (hc77.trans hcm) (by omega) (by omega) (by omega) (by omega) (by rw [hz116, hc103, hc92, hc99]) (by rw [← hc92, ← hc99]; omega))) (by omega) (by omega) (by omega) (by omega) (lmB.up h14 (by omega) (fun e1 e2 hlt => by rcases hOK i j s (by omega) (by omega) (by omega) (by omega) (by omega) (by omega) with e | ⟨_, _, g1, g2, g3⟩ <;> omega) (by first | (have h_ := hz133; exact Or.inl ⟨by rw [← hcm, ← hc77]; omega, by rw [← hcm, ← hc77, ← ht116]; exact hc165, by rw [← hcm, ← hc77, ← ht116]; exact Or.inl ⟨by omega, by rw [hz133, hc103, hc92, hc99]; rfl⟩⟩) | (have h_ := hy153; exact Or.inl ⟨by rw [← hcm, ← hc77]; omega, by rw [← hcm, ← hc77, ← ht116]; exact hc165, by rw [← hcm, ← hc77, ← ht116]; exact Or.inr (Or.inl ⟨by omega, by omega, by rw [hy153, hz152, hc103, hc92, hc99]; rfl⟩)⟩) | (have h_ := hc165; exact Or.inl ⟨by rw [← hcm, ← hc77]; omega, by rw [← hcm, ← hc77, ← ht116]; exact hc165, by rw [← hcm, ← hc77, ← ht116]; exact Or.inr (Or.inr ⟨by omega, by omega, rfl⟩)⟩) | exact Or.inr ⟨by rw [← hcm, ← hc77]; omega, rfl, rfl⟩)) (by omega)
                    · skip
                      refine r_iload_n hL (x := i) dX8_linesUp_89 rfl ?_
                      refine r_iload hL (x := s) dX8_linesUp_90 rfl ?_
                      refine r_callS hL (st := [xI i]) (av := [xI s]) (m_X8_firstBy (μ := μ114) s (by omega) (fun z92 hc92 hc92_1 => ⟨rfl, ?_⟩)) ce_yX8_firstBy sm_yX8_firstBy ml_X8_93 dX8_linesUp_92 rfl (Nat.le_of_ble_eq_true rfl) ⟨Nat.le_of_ble_eq_true rfl, Nat.le_of_ble_eq_true rfl⟩ ⟨Nat.le_of_ble_eq_true rfl, Nat.le_of_ble_eq_true rfl⟩
                      show X 0 0 WW μ114 95 [some (xR 120), some (xI i), some (xI j), none, some (xI v), some (xI n), some (xI s), some (xI z77), none, none] [xI z92, xI i]
                      refine r_iadd hL dX8_linesUp_95 ?_
                      refine r_iload_n hL (x := j) dX8_linesUp_96 rfl ?_
                      refine r_iload hL (x := s) dX8_linesUp_97 rfl ?_
                      refine r_callS hL (st := [xI j, xI (i + z92)]) (av := [xI s]) (m_X8_otherBy (μ := μ114) s (by omega) (fun z99 hc99 hc99_1 => ⟨rfl, ?_⟩)) ce_yX8_otherBy sm_yX8_otherBy ml_X8_97 dX8_linesUp_99 rfl (Nat.le_of_ble_eq_true rfl) ⟨Nat.le_of_ble_eq_true rfl, Nat.le_of_ble_eq_true rfl⟩ ⟨Nat.le_of_ble_eq_true rfl, Nat.le_of_ble_eq_true rfl⟩
                      show X 0 0 WW μ114 102 [some (xR 120), some (xI i), some (xI j), none, some (xI v), some (xI n), some (xI s), some (xI z77), none, none] [xI z99, xI j, xI (i + z92)]
                      refine r_iadd hL dX8_linesUp_102 ?_
                      refine r_callS hL (st := []) (av := [xI (i + z92), xI (j + z99)]) (m_X8_cellOf (μ := μ114) (i + z92) (j + z99) (fun z103 hc103 => ⟨rfl, ?_⟩)) ce_yX8_cellOf sm_yX8_cellOf ml_X8_100 dX8_linesUp_103 rfl (Nat.le_of_ble_eq_true rfl) ⟨Nat.le_of_ble_eq_true rfl, Nat.le_of_ble_eq_true rfl⟩ ⟨Nat.le_of_ble_eq_true rfl, Nat.le_of_ble_eq_true rfl⟩
                      show X 0 0 WW μ114 106 [some (xR 120), some (xI i), some (xI j), none, some (xI v), some (xI n), some (xI s), some (xI z77), none, none] [xI z103]
                      refine r_istore hL (lo' := [some (xR 120), some (xI i), some (xI j), none, some (xI v), some (xI n), some (xI s), some (xI z77), some (xI z103), none]) dX8_linesUp_106 (by decide) rfl ?_
                      refine r_iload hL (x := z77) dX8_linesUp_108 rfl ?_
                      refine r_aload_n hL (x := 120) dX8_linesUp_110 rfl ?_
                      refine r_getr hL xcl8 14 (by decide) s_120 (by decide) fl_X8_35 (by decide) f_120_14 dX8_linesUp_111 ?_
                      refine r_iload hL (x := z103) dX8_linesUp_114 rfl ?_
                      refine r_iald hL dX8_linesUp_116 (by decide) s_129 (by decide) (by omega) (by omega) (fun hr116 => ?_)
                      obtain ⟨z116, hz116⟩ : ∃ z, z = μ114 129 z103 := ⟨_, rfl⟩
                      rw [← hz116] at hr116 ⊢
                      have hvF := xOF_v s
                      have hvO := xOO_v s
                      have hnx := (h8 (i + z92) (j + z99) (by omega) (by omega) (by omega) (by omega) (by omega)).1
                      have hn116 : 0 ≤ z116 ∧ z116 ≤ 9 * ((μ 120 11 - (i + z92)) + (μ 120 13 - (j + z99))) := by rw [hz116, hc103]; exact hnx
                      clear hvF hvO hnx
                      have ht116 : z116 = μ114 129 (lnx i j s) := by rw [hz116, hc103, hc92, hc99]; rfl
                      refine r_iadd hL dX8_linesUp_117 ?_
                      refine r_istore hL (lo' := [some (xR 120), some (xI i), some (xI j), none, some (xI v), some (xI n), some (xI s), some (xI z77), some (xI z103), some (xI (z77 + z116))]) dX8_linesUp_118 (by decide) rfl ?_
                      refine r_iload hL (x := z77 + z116) dX8_linesUp_120 rfl ?_
                      refine r_iload hL (x := v) dX8_linesUp_122 rfl ?_
                      refine r_icmp_ge hL (tgt := 137) dX8_linesUp_124 (by decide) (by omega) (by omega) (fun c124 => ?_) (fun c124 => ?_)
                      · skip
                        refine r_iload hL (x := z77 + z116) dX8_linesUp_137 rfl ?_
                        refine r_iload hL (x := v) dX8_linesUp_139 rfl ?_
                        refine r_icmp_ne hL (tgt := 157) dX8_linesUp_141 (by decide) (by omega) (by omega) (fun c141 => ?_) (fun c141 => ?_)
                        · skip
                          refine r_iload hL (x := n) dX8_linesUp_157 rfl ?_
                          refine r_istore hL (lo' := [some (xR 120), some (xI i), some (xI j), none, some (xI v), some (xI n), some (xI s), some (xI z77), some (xI z103), some (xI (z77 + z116))]) dX8_linesUp_159 (by decide) rfl ?_
                          refine r_iload hL (x := z77 + z116) dX8_linesUp_161 rfl ?_
                          refine r_iload hL (x := v) dX8_linesUp_163 rfl ?_
                          refine r_callS hL (st := []) (av := [xI (z77 + z116), xI v]) (m_X8_lesser (μ := μ114) (z77 + z116) (by omega) v (by omega) (fun z165 hc165 => ⟨rfl, ?_⟩)) ce_yX8_lesser sm_yX8_lesser ml_X8_77 dX8_linesUp_165 rfl (Nat.le_of_ble_eq_true rfl) ⟨Nat.le_of_ble_eq_true rfl, Nat.le_of_ble_eq_true rfl⟩ ⟨Nat.le_of_ble_eq_true rfl, Nat.le_of_ble_eq_true rfl⟩
                          show X 0 0 WW μ114 168 [some (xR 120), some (xI i), some (xI j), none, some (xI v), some (xI n), some (xI s), some (xI z77), some (xI z103), some (xI (z77 + z116))] [xI z165]
                          refine r_istore hL (lo' := [some (xR 120), some (xI i), some (xI j), none, some (xI z165), some (xI n), some (xI s), some (xI z77), some (xI z103), some (xI (z77 + z116))]) dX8_linesUp_168 (by decide) rfl ?_
                          refine r_iinc hL (x := s) (lo' := [some (xR 120), some (xI i), some (xI j), none, some (xI z165), some (xI n), some (xI (s + 1)), some (xI z77), some (xI z103), some (xI (z77 + z116))]) dX8_linesUp_170 (by decide) rfl rfl ?_
                          refine r_goto hL (tgt := 66) dX8_linesUp_173 (by decide) ?_
                          refine r_drop hL (lo' := [some (xR 120), some (xI i), some (xI j), none, some (xI z165), some (xI n), some (xI (s + 1)), none, none, none]) [7, 8, 9] rfl ?_
                          exact ih66 z165 n (s + 1) (by first | exact h9 | (rw [hc165]; exact h9.least (s := s) (by omega) (by omega) (hc77.trans hcm) (by omega) (by omega) (by omega) (by omega) (by rw [hz116, hc103, hc92, hc99]) (by rw [← hc92, ← hc99]; omega))) (by omega) (by omega) (by omega) (by omega) (lmB.up h14 (by omega) (fun e1 e2 hlt => by rcases hOK i j s (by omega) (by omega) (by omega) (by omega) (by omega) (by omega) with e | ⟨_, _, g1, g2, g3⟩ <;> omega) (by first | (have h_ := hz133; exact Or.inl ⟨by rw [← hcm, ← hc77]; omega, by rw [← hcm, ← hc77, ← ht116]; exact hc165, by rw [← hcm, ← hc77, ← ht116]; exact Or.inl ⟨by omega, by rw [hz133, hc103, hc92, hc99]; rfl⟩⟩) | (have h_ := hy153; exact Or.inl ⟨by rw [← hcm, ← hc77]; omega, by rw [← hcm, ← hc77, ← ht116]; exact hc165, by rw [← hcm, ← hc77, ← ht116]; exact Or.inr (Or.inl ⟨by omega, by omega, by rw [hy153, hz152, hc103, hc92, hc99]; rfl⟩)⟩) | (have h_ := hc165; exact Or.inl ⟨by rw [← hcm, ← hc77]; omega, by rw [← hcm, ← hc77, ← ht116]; exact hc165, by rw [← hcm, ← hc77, ← ht116]; exact Or.inr (Or.inr ⟨by omega, by omega, rfl⟩)⟩) | exact Or.inr ⟨by rw [← hcm, ← hc77]; omega, rfl, rfl⟩)) (by omega)
                        · skip
                          refine r_iload hL (x := n) dX8_linesUp_144 rfl ?_
                          refine r_aload_n hL (x := 120) dX8_linesUp_146 rfl ?_
                          refine r_getr hL xcl8 15 (by decide) s_120 (by decide) fl_X8_38 (by decide) f_120_15 dX8_linesUp_147 ?_
                          refine r_iload hL (x := z103) dX8_linesUp_150 rfl ?_
                          refine r_iald hL dX8_linesUp_152 (by decide) s_130 (by decide) (by omega) (by omega) (fun hr152 => ?_)
                          obtain ⟨z152, hz152⟩ : ∃ z, z = μ114 130 z103 := ⟨_, rfl⟩
                          rw [← hz152] at hr152 ⊢
                          refine r_iadd hL dX8_linesUp_153 ?_
                          refine r_norm hL (fun y153 hy153 hyr153 => ?_)
                          refine r_goto hL (tgt := 159) dX8_linesUp_154 (by decide) ?_
                          refine r_istore hL (lo' := [some (xR 120), some (xI i), some (xI j), none, some (xI v), some (xI y153), some (xI s), some (xI z77), some (xI z103), some (xI (z77 + z116))]) dX8_linesUp_159 (by decide) rfl ?_
                          refine r_iload hL (x := z77 + z116) dX8_linesUp_161 rfl ?_
                          refine r_iload hL (x := v) dX8_linesUp_163 rfl ?_
                          refine r_callS hL (st := []) (av := [xI (z77 + z116), xI v]) (m_X8_lesser (μ := μ114) (z77 + z116) (by omega) v (by omega) (fun z165 hc165 => ⟨rfl, ?_⟩)) ce_yX8_lesser sm_yX8_lesser ml_X8_77 dX8_linesUp_165 rfl (Nat.le_of_ble_eq_true rfl) ⟨Nat.le_of_ble_eq_true rfl, Nat.le_of_ble_eq_true rfl⟩ ⟨Nat.le_of_ble_eq_true rfl, Nat.le_of_ble_eq_true rfl⟩
                          show X 0 0 WW μ114 168 [some (xR 120), some (xI i), some (xI j), none, some (xI v), some (xI y153), some (xI s), some (xI z77), some (xI z103), some (xI (z77 + z116))] [xI z165]
                          refine r_istore hL (lo' := [some (xR 120), some (xI i), some (xI j), none, some (xI z165), some (xI y153), some (xI s), some (xI z77), some (xI z103), some (xI (z77 + z116))]) dX8_linesUp_168 (by decide) rfl ?_
                          refine r_iinc hL (x := s) (lo' := [some (xR 120), some (xI i), some (xI j), none, some (xI z165), some (xI y153), some (xI (s + 1)), some (xI z77), some (xI z103), some (xI (z77 + z116))]) dX8_linesUp_170 (by decide) rfl rfl ?_
                          refine r_goto hL (tgt := 66) dX8_linesUp_173 (by decide) ?_
                          refine r_drop hL (lo' := [some (xR 120), some (xI i), some (xI j), none, some (xI z165), some (xI y153), some (xI (s + 1)), none, none, none]) [7, 8, 9] rfl ?_
                          exact ih66 z165 y153 (s + 1) (by first | exact h9 | (rw [hc165]; exact h9.least (s := s) (by omega) (by omega) (hc77.trans hcm) (by omega) (by omega) (by omega) (by omega) (by rw [hz116, hc103, hc92, hc99]) (by rw [← hc92, ← hc99]; omega))) (by omega) (by omega) (by omega) (by omega) (lmB.up h14 (by omega) (fun e1 e2 hlt => by rcases hOK i j s (by omega) (by omega) (by omega) (by omega) (by omega) (by omega) with e | ⟨_, _, g1, g2, g3⟩ <;> omega) (by first | (have h_ := hz133; exact Or.inl ⟨by rw [← hcm, ← hc77]; omega, by rw [← hcm, ← hc77, ← ht116]; exact hc165, by rw [← hcm, ← hc77, ← ht116]; exact Or.inl ⟨by omega, by rw [hz133, hc103, hc92, hc99]; rfl⟩⟩) | (have h_ := hy153; exact Or.inl ⟨by rw [← hcm, ← hc77]; omega, by rw [← hcm, ← hc77, ← ht116]; exact hc165, by rw [← hcm, ← hc77, ← ht116]; exact Or.inr (Or.inl ⟨by omega, by omega, by rw [hy153, hz152, hc103, hc92, hc99]; rfl⟩)⟩) | (have h_ := hc165; exact Or.inl ⟨by rw [← hcm, ← hc77]; omega, by rw [← hcm, ← hc77, ← ht116]; exact hc165, by rw [← hcm, ← hc77, ← ht116]; exact Or.inr (Or.inr ⟨by omega, by omega, rfl⟩)⟩) | exact Or.inr ⟨by rw [← hcm, ← hc77]; omega, rfl, rfl⟩)) (by omega)
                      · skip
                        refine r_aload_n hL (x := 120) dX8_linesUp_127 rfl ?_
                        refine r_getr hL xcl8 15 (by decide) s_120 (by decide) fl_X8_38 (by decide) f_120_15 dX8_linesUp_128 ?_
                        refine r_iload hL (x := z103) dX8_linesUp_131 rfl ?_
                        refine r_iald hL dX8_linesUp_133 (by decide) s_130 (by decide) (by omega) (by omega) (fun hr133 => ?_)
                        obtain ⟨z133, hz133⟩ : ∃ z, z = μ114 130 z103 := ⟨_, rfl⟩
                        rw [← hz133] at hr133 ⊢
                        refine r_goto hL (tgt := 159) dX8_linesUp_134 (by decide) ?_
                        refine r_istore hL (lo' := [some (xR 120), some (xI i), some (xI j), none, some (xI v), some (xI z133), some (xI s), some (xI z77), some (xI z103), some (xI (z77 + z116))]) dX8_linesUp_159 (by decide) rfl ?_
                        refine r_iload hL (x := z77 + z116) dX8_linesUp_161 rfl ?_
                        refine r_iload hL (x := v) dX8_linesUp_163 rfl ?_
                        refine r_callS hL (st := []) (av := [xI (z77 + z116), xI v]) (m_X8_lesser (μ := μ114) (z77 + z116) (by omega) v (by omega) (fun z165 hc165 => ⟨rfl, ?_⟩)) ce_yX8_lesser sm_yX8_lesser ml_X8_77 dX8_linesUp_165 rfl (Nat.le_of_ble_eq_true rfl) ⟨Nat.le_of_ble_eq_true rfl, Nat.le_of_ble_eq_true rfl⟩ ⟨Nat.le_of_ble_eq_true rfl, Nat.le_of_ble_eq_true rfl⟩
                        show X 0 0 WW μ114 168 [some (xR 120), some (xI i), some (xI j), none, some (xI v), some (xI z133), some (xI s), some (xI z77), some (xI z103), some (xI (z77 + z116))] [xI z165]
                        refine r_istore hL (lo' := [some (xR 120), some (xI i), some (xI j), none, some (xI z165), some (xI z133), some (xI s), some (xI z77), some (xI z103), some (xI (z77 + z116))]) dX8_linesUp_168 (by decide) rfl ?_
                        refine r_iinc hL (x := s) (lo' := [some (xR 120), some (xI i), some (xI j), none, some (xI z165), some (xI z133), some (xI (s + 1)), some (xI z77), some (xI z103), some (xI (z77 + z116))]) dX8_linesUp_170 (by decide) rfl rfl ?_
                        refine r_goto hL (tgt := 66) dX8_linesUp_173 (by decide) ?_
                        refine r_drop hL (lo' := [some (xR 120), some (xI i), some (xI j), none, some (xI z165), some (xI z133), some (xI (s + 1)), none, none, none]) [7, 8, 9] rfl ?_
                        exact ih66 z165 z133 (s + 1) (by first | exact h9 | (rw [hc165]; exact h9.least (s := s) (by omega) (by omega) (hc77.trans hcm) (by omega) (by omega) (by omega) (by omega) (by rw [hz116, hc103, hc92, hc99]) (by rw [← hc92, ← hc99]; omega))) (by omega) (by omega) (by omega) (by omega) (lmB.up h14 (by omega) (fun e1 e2 hlt => by rcases hOK i j s (by omega) (by omega) (by omega) (by omega) (by omega) (by omega) with e | ⟨_, _, g1, g2, g3⟩ <;> omega) (by first | (have h_ := hz133; exact Or.inl ⟨by rw [← hcm, ← hc77]; omega, by rw [← hcm, ← hc77, ← ht116]; exact hc165, by rw [← hcm, ← hc77, ← ht116]; exact Or.inl ⟨by omega, by rw [hz133, hc103, hc92, hc99]; rfl⟩⟩) | (have h_ := hy153; exact Or.inl ⟨by rw [← hcm, ← hc77]; omega, by rw [← hcm, ← hc77, ← ht116]; exact hc165, by rw [← hcm, ← hc77, ← ht116]; exact Or.inr (Or.inl ⟨by omega, by omega, by rw [hy153, hz152, hc103, hc92, hc99]; rfl⟩)⟩) | (have h_ := hc165; exact Or.inl ⟨by rw [← hcm, ← hc77]; omega, by rw [← hcm, ← hc77, ← ht116]; exact hc165, by rw [← hcm, ← hc77, ← ht116]; exact Or.inr (Or.inr ⟨by omega, by omega, rfl⟩)⟩) | exact Or.inr ⟨by rw [← hcm, ← hc77]; omega, rfl, rfl⟩)) (by omega)
              refine r_iload_n hL (x := i) dX8_linesUp_18 rfl ?_
              refine r_aload_n hL (x := 120) dX8_linesUp_19 rfl ?_
              refine r_geti hL xcl8 11 (j' := 11) rfl (by decide) s_120 (by decide) fl_X8_66 (by decide) (by decide) dX8_linesUp_20 (fun hr20 => ?_)
              obtain ⟨z20, hz20⟩ : ∃ z, z = μ114 120 11 := ⟨_, rfl⟩
              rw [← hz20] at hr20 ⊢
              have hb20 : 0 ≤ μ114 120 11 ∧ μ114 120 11 ≤ 10 := (show ((11 : Int) = 2 → 0 ≤ (μ114 120 11) ∧ (μ114 120 11) ≤ 16) ∧ ((11 : Int) = 6 → 0 ≤ (μ114 120 11) ∧ (μ114 120 11) ≤ 10) ∧ ((11 : Int) = 8 → 0 ≤ (μ114 120 11) ∧ (μ114 120 11) ≤ 20) ∧ ((11 : Int) = 9 → 0 ≤ (μ114 120 11) ∧ (μ114 120 11) ≤ 2147483647) ∧ ((11 : Int) = 11 → 0 ≤ (μ114 120 11) ∧ (μ114 120 11) ≤ 10) ∧ ((11 : Int) = 13 → 0 ≤ (μ114 120 11) ∧ (μ114 120 11) ≤ 10) ∧ ((11 : Int) = 20 → 0 ≤ (μ114 120 11) ∧ (μ114 120 11) ≤ 8) from hB114 120 11).2.2.2.2.1 (by omega)
              refine r_icmp_ne hL (tgt := 38) dX8_linesUp_23 (by decide) (by omega) (by omega) (fun c23 => ?_) (fun c23 => ?_)
              · skip
                refine r_iconst hL dX8_linesUp_38 ?_
                refine r_istore_n hL (lo' := [some (xR 120), some (xI i), some (xI j), some (xI 0), none, none, none, none, none, none]) dX8_linesUp_39 (by decide) rfl ?_
                refine r_iload_n hL (x := 0) dX8_linesUp_40 rfl ?_
                refine r_if_eq hL (tgt := 48) dX8_linesUp_41 (by decide) (by omega) (fun c41 => ?_) (fun c41 => ?_)
                · skip
                  refine r_ldc hL (n := 100000) dX8_linesUp_48 kc_X8_84 (by decide) ?_
                  refine r_istore hL (lo' := [some (xR 120), some (xI i), some (xI j), some (xI 0), some (xI 100000), none, none, none, none, none]) dX8_linesUp_50 (by decide) rfl ?_
                  refine r_iload_n hL (x := 0) dX8_linesUp_52 rfl ?_
                  refine r_if_eq hL (tgt := 60) dX8_linesUp_53 (by decide) (by omega) (fun c53 => ?_) (fun c53 => ?_)
                  · skip
                    refine r_iconst hL dX8_linesUp_60 ?_
                    refine r_istore hL (lo' := [some (xR 120), some (xI i), some (xI j), some (xI 0), some (xI 100000), some (xI 0), none, none, none, none]) dX8_linesUp_61 (by decide) rfl ?_
                    refine r_iconst hL dX8_linesUp_63 ?_
                    refine r_istore hL (lo' := [some (xR 120), some (xI i), some (xI j), some (xI 0), some (xI 100000), some (xI 0), some (xI 0), none, none, none]) dX8_linesUp_64 (by decide) rfl ?_
                    refine r_drop hL (lo' := [some (xR 120), some (xI i), some (xI j), none, some (xI 100000), some (xI 0), some (xI 0), none, none, none]) [3] rfl ?_
                    exact lp66 _ 100000 0 0 (by first | exact Or.inl ⟨by omega, by omega, rfl⟩ | exact Or.inr ⟨by omega, Or.inl rfl⟩) (by omega) (by omega) (by omega) (by omega) (by first | exact Or.inl ⟨by omega, by omega, rfl, rfl⟩ | exact Or.inr ⟨by omega, rfl, rfl⟩) (Nat.lt_succ_self _)
                  · skip
                    exact absurd c53 (by decide)
                · skip
                  exact absurd c41 (by decide)
              · skip
                refine r_iload_n hL (x := j) dX8_linesUp_26 rfl ?_
                refine r_aload_n hL (x := 120) dX8_linesUp_27 rfl ?_
                refine r_geti hL xcl8 13 (j' := 13) rfl (by decide) s_120 (by decide) fl_X8_70 (by decide) (by decide) dX8_linesUp_28 (fun hr28 => ?_)
                obtain ⟨z28, hz28⟩ : ∃ z, z = μ114 120 13 := ⟨_, rfl⟩
                rw [← hz28] at hr28 ⊢
                have hb28 : 0 ≤ μ114 120 13 ∧ μ114 120 13 ≤ 10 := (show ((13 : Int) = 2 → 0 ≤ (μ114 120 13) ∧ (μ114 120 13) ≤ 16) ∧ ((13 : Int) = 6 → 0 ≤ (μ114 120 13) ∧ (μ114 120 13) ≤ 10) ∧ ((13 : Int) = 8 → 0 ≤ (μ114 120 13) ∧ (μ114 120 13) ≤ 20) ∧ ((13 : Int) = 9 → 0 ≤ (μ114 120 13) ∧ (μ114 120 13) ≤ 2147483647) ∧ ((13 : Int) = 11 → 0 ≤ (μ114 120 13) ∧ (μ114 120 13) ≤ 10) ∧ ((13 : Int) = 13 → 0 ≤ (μ114 120 13) ∧ (μ114 120 13) ≤ 10) ∧ ((13 : Int) = 20 → 0 ≤ (μ114 120 13) ∧ (μ114 120 13) ≤ 8) from hB114 120 13).2.2.2.2.2.1 (by omega)
                refine r_icmp_ne hL (tgt := 38) dX8_linesUp_31 (by decide) (by omega) (by omega) (fun c31 => ?_) (fun c31 => ?_)
                · skip
                  refine r_iconst hL dX8_linesUp_38 ?_
                  refine r_istore_n hL (lo' := [some (xR 120), some (xI i), some (xI j), some (xI 0), none, none, none, none, none, none]) dX8_linesUp_39 (by decide) rfl ?_
                  refine r_iload_n hL (x := 0) dX8_linesUp_40 rfl ?_
                  refine r_if_eq hL (tgt := 48) dX8_linesUp_41 (by decide) (by omega) (fun c41 => ?_) (fun c41 => ?_)
                  · skip
                    refine r_ldc hL (n := 100000) dX8_linesUp_48 kc_X8_84 (by decide) ?_
                    refine r_istore hL (lo' := [some (xR 120), some (xI i), some (xI j), some (xI 0), some (xI 100000), none, none, none, none, none]) dX8_linesUp_50 (by decide) rfl ?_
                    refine r_iload_n hL (x := 0) dX8_linesUp_52 rfl ?_
                    refine r_if_eq hL (tgt := 60) dX8_linesUp_53 (by decide) (by omega) (fun c53 => ?_) (fun c53 => ?_)
                    · skip
                      refine r_iconst hL dX8_linesUp_60 ?_
                      refine r_istore hL (lo' := [some (xR 120), some (xI i), some (xI j), some (xI 0), some (xI 100000), some (xI 0), none, none, none, none]) dX8_linesUp_61 (by decide) rfl ?_
                      refine r_iconst hL dX8_linesUp_63 ?_
                      refine r_istore hL (lo' := [some (xR 120), some (xI i), some (xI j), some (xI 0), some (xI 100000), some (xI 0), some (xI 0), none, none, none]) dX8_linesUp_64 (by decide) rfl ?_
                      refine r_drop hL (lo' := [some (xR 120), some (xI i), some (xI j), none, some (xI 100000), some (xI 0), some (xI 0), none, none, none]) [3] rfl ?_
                      exact lp66 _ 100000 0 0 (by first | exact Or.inl ⟨by omega, by omega, rfl⟩ | exact Or.inr ⟨by omega, Or.inl rfl⟩) (by omega) (by omega) (by omega) (by omega) (by first | exact Or.inl ⟨by omega, by omega, rfl, rfl⟩ | exact Or.inr ⟨by omega, rfl, rfl⟩) (Nat.lt_succ_self _)
                    · skip
                      exact absurd c53 (by decide)
                  · skip
                    exact absurd c41 (by decide)
                · skip
                  refine r_iconst hL dX8_linesUp_34 ?_
                  refine r_goto hL (tgt := 39) dX8_linesUp_35 (by decide) ?_
                  refine r_istore_n hL (lo' := [some (xR 120), some (xI i), some (xI j), some (xI 1), none, none, none, none, none, none]) dX8_linesUp_39 (by decide) rfl ?_
                  refine r_iload_n hL (x := 1) dX8_linesUp_40 rfl ?_
                  refine r_if_eq hL (tgt := 48) dX8_linesUp_41 (by decide) (by omega) (fun c41 => ?_) (fun c41 => ?_)
                  · skip
                    exact absurd c41 (by decide)
                  · skip
                    refine r_iconst hL dX8_linesUp_44 ?_
                    refine r_goto hL (tgt := 50) dX8_linesUp_45 (by decide) ?_
                    refine r_istore hL (lo' := [some (xR 120), some (xI i), some (xI j), some (xI 1), some (xI 0), none, none, none, none, none]) dX8_linesUp_50 (by decide) rfl ?_
                    refine r_iload_n hL (x := 1) dX8_linesUp_52 rfl ?_
                    refine r_if_eq hL (tgt := 60) dX8_linesUp_53 (by decide) (by omega) (fun c53 => ?_) (fun c53 => ?_)
                    · skip
                      exact absurd c53 (by decide)
                    · skip
                      refine r_iconst hL dX8_linesUp_56 ?_
                      refine r_goto hL (tgt := 61) dX8_linesUp_57 (by decide) ?_
                      refine r_istore hL (lo' := [some (xR 120), some (xI i), some (xI j), some (xI 1), some (xI 0), some (xI 1), none, none, none, none]) dX8_linesUp_61 (by decide) rfl ?_
                      refine r_iconst hL dX8_linesUp_63 ?_
                      refine r_istore hL (lo' := [some (xR 120), some (xI i), some (xI j), some (xI 1), some (xI 0), some (xI 1), some (xI 0), none, none, none]) dX8_linesUp_64 (by decide) rfl ?_
                      refine r_drop hL (lo' := [some (xR 120), some (xI i), some (xI j), none, some (xI 0), some (xI 1), some (xI 0), none, none, none]) [3] rfl ?_
                      exact lp66 _ 0 1 0 (by first | exact Or.inl ⟨by omega, by omega, rfl⟩ | exact Or.inr ⟨by omega, Or.inl rfl⟩) (by omega) (by omega) (by omega) (by omega) (by first | exact Or.inl ⟨by omega, by omega, rfl, rfl⟩ | exact Or.inr ⟨by omega, rfl, rfl⟩) (Nat.lt_succ_self _)
        exact lp14 _ z10 μ105 hB105 hF105 (by omega) (by rw [show z10 = μ 120 13 by omega]; exact h4) (by rw [show z10 = μ 120 13 by omega]; exact h5) (by rw [show z10 = μ 120 13 by omega]; exact h6) (Nat.lt_succ_self _)
  exact lp5 _ z1 μ hB hF (by omega) (by rw [hz1]; exact MDp.none) (by rw [hz1]; exact LQp.none) (by rw [hz1]; exact LWp.none) (Nat.lt_succ_self _)
