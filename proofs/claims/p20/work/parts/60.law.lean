set_option maxHeartbeats 8000000 in
set_option maxRecDepth 40000 in
theorem law_loop {nm : String} {X : Nat → Nat → xW → xM → Nat → xLoc → List xV → Prop} (hL : Lg RL nm code 4 room_1 (some .boolean) 600000 7302250 (fun r _ _ => r = some (xI 1)) X) (b Ln : Nat) (hLn : Ln ≤ 2048) (sv : Int → Int) (hsl : ∀ {cu su : Nat} {w : xW} {μ : xM} {pc : Nat} {lo : xLoc} {st : List xV} {i : Int}, decode code pc = .ok (.iaload, 1) → 0 ≤ i → i < (Ln : Int) → (xrg (sv i) → X cu su w μ (pc + 1) lo (xI (sv i) :: st)) → X cu su w μ pc lo (xI i :: xA b :: st)) (hsn : ∀ {cu su : Nat} {w : xW} {μ : xM} {pc : Nat} {lo : xLoc} {st : List xV}, decode code pc = .ok (.arraylength, 1) → X cu su w μ (pc + 1) lo (xI (Ln : Int) :: st) → X cu su w μ pc lo (xA b :: st)) (μ2 : xM) (hB2 : BI μ2) (hR2 : Rel μ2 μ2) : X 138 3955 WW μ2 18 [some (xA b), some (xR 0), some (xR 120), some (xI 0)] [] := by
  have lp18 : ∀ (n18 : Nat) (i : Int) (μ118 : xM), (BI μ118) → (0 ≤ i ∧ i ≤ 2052) → (Rel μ118 μ118) → ((2052 - i).toNat) < n18 → X 138 3955 WW μ118 18 [some (xA b), some (xR 0), some (xR 120), some (xI i)] [] := by
    intro n18
    induction n18 with
    | zero => intro i μ118 hB118 h1 hR118 hn; exact absurd hn (Nat.not_lt_zero _)
    | succ n18 ih18 =>
      intro i μ118 hB118 h1 hR118 hn18
      have hRL := hR118
      refine r_iload_n hL (x := i) dL_law_18 rfl ?_
      refine r_aAload_n hL (x := b) dL_law_19 rfl ?_
      refine hsn dL_law_20 ?_
      refine r_iconst hL dL_law_21 ?_
      refine r_isub hL dL_law_22 ?_
      refine r_icmp_gt hL (tgt := 875) dL_law_23 (by decide) (by omega) (by omega) (fun c23 => ?_) (fun c23 => ?_)
      · skip
        refine r_widen hL (cu' := 600000) (su' := 7302250) (Nat.le_of_ble_eq_true rfl) (Nat.le_of_ble_eq_true rfl) ?_
        refine r_iconst hL dL_law_875 ?_
        exact r_zret hL dL_law_876 rfl (by omega) (rfl)
      · skip
        refine r_aAload_n hL (x := b) dL_law_26 rfl ?_
        refine r_iload_n hL (x := i) dL_law_27 rfl ?_
        refine hsl dL_law_28 (by omega) (by omega) (fun hr28 => ?_)
        obtain ⟨z28, hz28⟩ : ∃ z, z = sv i := ⟨_, rfl⟩
        rw [← hz28] at hr28 ⊢
        refine r_bipush hL dL_law_29 (by decide) ?_
        refine r_iand hL dL_law_31 ?_
        obtain ⟨z31, hz31⟩ : ∃ z, z = xand z28 31 := ⟨_, rfl⟩
        rw [← hz31]
        have hr31 : xrg z31 := by rw [hz31]; exact xand_rg _ _
        by_cases e32 : 0 ≤ z31 ∧ z31 ≤ 24
        · skip
          rcases (show z31 = 0 ∨ z31 = 1 ∨ z31 = 2 ∨ z31 = 3 ∨ z31 = 4 ∨ z31 = 5 ∨ z31 = 6 ∨ z31 = 7 ∨ z31 = 8 ∨ z31 = 9 ∨ z31 = 10 ∨ z31 = 11 ∨ z31 = 12 ∨ z31 = 13 ∨ z31 = 14 ∨ z31 = 15 ∨ z31 = 16 ∨ z31 = 17 ∨ z31 = 18 ∨ z31 = 19 ∨ z31 = 20 ∨ z31 = 21 ∨ z31 = 22 ∨ z31 = 23 ∨ z31 = 24 by omega) with e32 | e32 | e32 | e32 | e32 | e32 | e32 | e32 | e32 | e32 | e32 | e32 | e32 | e32 | e32 | e32 | e32 | e32 | e32 | e32 | e32 | e32 | e32 | e32 | e32
          · skip
            refine r_tableIn hL (tgt := 148) (off := 116) 0 dL_law_32 (by omega) e32 (by decide) (by decide) rfl (by decide) ?_
            refine r_aload_n hL (x := 0) dL_law_148 rfl ?_
            refine r_aAload_n hL (x := b) dL_law_149 rfl ?_
            refine r_iload_n hL (x := i) dL_law_150 rfl ?_
            refine r_iconst hL dL_law_151 ?_
            refine r_iadd hL dL_law_152 ?_
            refine hsl dL_law_153 (by omega) (by omega) (fun hr153 => ?_)
            obtain ⟨z153, hz153⟩ : ∃ z, z = sv (i + 1) := ⟨_, rfl⟩
            rw [← hz153] at hr153 ⊢
            refine r_callV hL (st := []) (av := [xI z153]) (k := 0) (m_X7_feed (μ := μ118) hB118 z153 (by omega) (fun z154 μ154c hB154c hG154 hC154 hx154 => ⟨rfl, ?_⟩)) ce_yX7_feed im_yX7_feed se_yX7_feed ml_L_13 xcl7 (by decide) s_0 dL_law_154 rfl (Nat.le_of_ble_eq_true rfl) ⟨Nat.le_of_ble_eq_true rfl, Nat.le_of_ble_eq_true rfl⟩ ⟨Nat.le_of_ble_eq_true rfl, Nat.le_of_ble_eq_true rfl⟩
            show X 138 3955 WW μ154c 157 [some (xA b), some (xR 0), some (xR 120), some (xI i)] [xI z154]
            refine r_pop hL dL_law_157 rfl ?_
            refine r_aload_n hL (x := 120) dL_law_158 rfl ?_
            refine r_aAload_n hL (x := b) dL_law_159 rfl ?_
            refine r_iload_n hL (x := i) dL_law_160 rfl ?_
            refine r_iconst hL dL_law_161 ?_
            refine r_iadd hL dL_law_162 ?_
            refine hsl dL_law_163 (by omega) (by omega) (fun hr163 => ?_)
            obtain ⟨z163, hz163⟩ : ∃ z, z = sv (i + 1) := ⟨_, rfl⟩
            rw [← hz163] at hr163 ⊢
            refine r_callV hL (st := []) (av := [xI z163]) (k := 120) (m_X8_feed (μ := μ154c) hB154c z163 (by omega) (fun z164 μ164c hB164c hG164 hD164 hx164 => ⟨rfl, ?_⟩)) ce_yX8_feed im_yX8_feed se_yX8_feed ml_L_17 xcl8 (by decide) s_120 dL_law_164 rfl (Nat.le_of_ble_eq_true rfl) ⟨Nat.le_of_ble_eq_true rfl, Nat.le_of_ble_eq_true rfl⟩ ⟨Nat.le_of_ble_eq_true rfl, Nat.le_of_ble_eq_true rfl⟩
            show X 138 3955 WW μ164c 167 [some (xA b), some (xR 0), some (xR 120), some (xI i)] [xI z164]
            refine r_pop hL dL_law_167 rfl ?_
            rw [hz153] at hC154
            rw [hz163] at hD164
            have hRL : Rel μ164c μ164c := by first | exact ((R_feed (hR118.rt hG154) hB154c hC154 hD164).2).lt hG164 | (exfalso; omega)
            refine r_goto hL (tgt := 869) dL_law_168 (by decide) ?_
            refine r_iinc hL (x := i) (lo' := [some (xA b), some (xR 0), some (xR 120), some (xI (i + 4))]) dL_law_869 (by decide) rfl rfl ?_
            refine r_goto hL (tgt := 18) dL_law_872 (by decide) ?_
            exact ih18 (i + 4) μ164c hB164c (by omega) hRL (by omega)
          · skip
            refine r_tableIn hL (tgt := 171) (off := 139) 1 dL_law_32 (by omega) e32 (by decide) (by decide) rfl (by decide) ?_
            refine r_aload_n hL (x := 0) dL_law_171 rfl ?_
            refine r_callV hL (st := []) (av := []) (k := 0) (m_X7_tale (μ := μ118) hB118  (fun z172 μ172c hB172c hG172 hC172 hx172 => ⟨rfl, ?_⟩)) ce_yX7_tale im_yX7_tale se_yX7_tale ml_L_18 xcl7 (by decide) s_0 dL_law_172 rfl (Nat.le_of_ble_eq_true rfl) ⟨Nat.le_of_ble_eq_true rfl, Nat.le_of_ble_eq_true rfl⟩ ⟨Nat.le_of_ble_eq_true rfl, Nat.le_of_ble_eq_true rfl⟩
            show X 138 3955 WW μ172c 175 [some (xA b), some (xR 0), some (xR 120), some (xI i)] [xI z172]
            refine r_pop hL dL_law_175 rfl ?_
            refine r_aload_n hL (x := 120) dL_law_176 rfl ?_
            refine r_callV hL (st := []) (av := []) (k := 120) (m_X8_tale (μ := μ172c) hB172c  (fun z177 μ177c hB177c hG177 hD177 hx177 => ⟨rfl, ?_⟩)) ce_yX8_tale im_yX8_tale se_yX8_tale ml_L_22 xcl8 (by decide) s_120 dL_law_177 rfl (Nat.le_of_ble_eq_true rfl) ⟨Nat.le_of_ble_eq_true rfl, Nat.le_of_ble_eq_true rfl⟩ ⟨Nat.le_of_ble_eq_true rfl, Nat.le_of_ble_eq_true rfl⟩
            show X 138 3955 WW μ177c 180 [some (xA b), some (xR 0), some (xR 120), some (xI i)] [xI z177]
            refine r_pop hL dL_law_180 rfl ?_
            have hRL : Rel μ177c μ177c := by first | exact ((R_tale (hR118.rt hG172) hB118 hB172c hC172 hD177).2).lt hG177 | (exfalso; omega)
            refine r_goto hL (tgt := 869) dL_law_181 (by decide) ?_
            refine r_iinc hL (x := i) (lo' := [some (xA b), some (xR 0), some (xR 120), some (xI (i + 4))]) dL_law_869 (by decide) rfl rfl ?_
            refine r_goto hL (tgt := 18) dL_law_872 (by decide) ?_
            exact ih18 (i + 4) μ177c hB177c (by omega) hRL (by omega)
          · skip
            refine r_tableIn hL (tgt := 184) (off := 152) 2 dL_law_32 (by omega) e32 (by decide) (by decide) rfl (by decide) ?_
            refine r_aload_n hL (x := 0) dL_law_184 rfl ?_
            refine r_aAload_n hL (x := b) dL_law_185 rfl ?_
            refine r_iload_n hL (x := i) dL_law_186 rfl ?_
            refine r_iconst hL dL_law_187 ?_
            refine r_iadd hL dL_law_188 ?_
            refine hsl dL_law_189 (by omega) (by omega) (fun hr189 => ?_)
            obtain ⟨z189, hz189⟩ : ∃ z, z = sv (i + 1) := ⟨_, rfl⟩
            rw [← hz189] at hr189 ⊢
            refine r_callV hL (st := []) (av := [xI z189]) (k := 0) (m_X7_told (μ := μ118) hB118 z189 (by omega) (fun z190 μ190c hB190c hG190 hc190 => ⟨rfl, ?_⟩)) ce_yX7_told im_yX7_told se_yX7_told ml_L_23 xcl7 (by decide) s_0 dL_law_190 rfl (Nat.le_of_ble_eq_true rfl) ⟨Nat.le_of_ble_eq_true rfl, Nat.le_of_ble_eq_true rfl⟩ ⟨Nat.le_of_ble_eq_true rfl, Nat.le_of_ble_eq_true rfl⟩
            show X 138 3955 WW μ190c 193 [some (xA b), some (xR 0), some (xR 120), some (xI i)] [xI z190]
            refine r_pop hL dL_law_193 rfl ?_
            refine r_aload_n hL (x := 120) dL_law_194 rfl ?_
            refine r_aAload_n hL (x := b) dL_law_195 rfl ?_
            refine r_iload_n hL (x := i) dL_law_196 rfl ?_
            refine r_iconst hL dL_law_197 ?_
            refine r_iadd hL dL_law_198 ?_
            refine hsl dL_law_199 (by omega) (by omega) (fun hr199 => ?_)
            obtain ⟨z199, hz199⟩ : ∃ z, z = sv (i + 1) := ⟨_, rfl⟩
            rw [← hz199] at hr199 ⊢
            refine r_callV hL (st := []) (av := [xI z199]) (k := 120) (m_X8_told (μ := μ190c) hB190c z199 (by omega) (fun z200 μ200c hB200c hG200 hc200 => ⟨rfl, ?_⟩)) ce_yX8_told im_yX8_told se_yX8_told ml_L_26 xcl8 (by decide) s_120 dL_law_200 rfl (Nat.le_of_ble_eq_true rfl) ⟨Nat.le_of_ble_eq_true rfl, Nat.le_of_ble_eq_true rfl⟩ ⟨Nat.le_of_ble_eq_true rfl, Nat.le_of_ble_eq_true rfl⟩
            show X 138 3955 WW μ200c 203 [some (xA b), some (xR 0), some (xR 120), some (xI i)] [xI z200]
            refine r_pop hL dL_law_203 rfl ?_
            have hRL : Rel μ200c μ200c := hR118.two hG190 hG200
            refine r_goto hL (tgt := 869) dL_law_204 (by decide) ?_
            refine r_iinc hL (x := i) (lo' := [some (xA b), some (xR 0), some (xR 120), some (xI (i + 4))]) dL_law_869 (by decide) rfl rfl ?_
            refine r_goto hL (tgt := 18) dL_law_872 (by decide) ?_
            exact ih18 (i + 4) μ200c hB200c (by omega) hRL (by omega)
          · skip
            refine r_tableIn hL (tgt := 207) (off := 175) 3 dL_law_32 (by omega) e32 (by decide) (by decide) rfl (by decide) ?_
            refine r_aload_n hL (x := 0) dL_law_207 rfl ?_
            refine r_aAload_n hL (x := b) dL_law_208 rfl ?_
            refine r_iload_n hL (x := i) dL_law_209 rfl ?_
            refine r_iconst hL dL_law_210 ?_
            refine r_iadd hL dL_law_211 ?_
            refine hsl dL_law_212 (by omega) (by omega) (fun hr212 => ?_)
            obtain ⟨z212, hz212⟩ : ∃ z, z = sv (i + 1) := ⟨_, rfl⟩
            rw [← hz212] at hr212 ⊢
            refine r_aAload_n hL (x := b) dL_law_213 rfl ?_
            refine r_iload_n hL (x := i) dL_law_214 rfl ?_
            refine r_iconst hL dL_law_215 ?_
            refine r_iadd hL dL_law_216 ?_
            refine hsl dL_law_217 (by omega) (by omega) (fun hr217 => ?_)
            obtain ⟨z217, hz217⟩ : ∃ z, z = sv (i + 2) := ⟨_, rfl⟩
            rw [← hz217] at hr217 ⊢
            refine r_callV hL (st := []) (av := [xI z212, xI z217]) (k := 0) (m_X7_taleAt (μ := μ118) hB118 z212 (by omega) z217 (by omega) hR118.pl (fun z218 hC218 hx218 => ⟨rfl, ?_⟩)) ce_yX7_taleAt im_yX7_taleAt se_yX7_taleAt ml_L_27 xcl7 (by decide) s_0 dL_law_218 rfl (Nat.le_of_ble_eq_true rfl) ⟨Nat.le_of_ble_eq_true rfl, Nat.le_of_ble_eq_true rfl⟩ ⟨Nat.le_of_ble_eq_true rfl, Nat.le_of_ble_eq_true rfl⟩
            show X 138 3955 WW μ118 221 [some (xA b), some (xR 0), some (xR 120), some (xI i)] [xI z218]
            refine r_pop hL dL_law_221 rfl ?_
            refine r_aload_n hL (x := 120) dL_law_222 rfl ?_
            refine r_aAload_n hL (x := b) dL_law_223 rfl ?_
            refine r_iload_n hL (x := i) dL_law_224 rfl ?_
            refine r_iconst hL dL_law_225 ?_
            refine r_iadd hL dL_law_226 ?_
            refine hsl dL_law_227 (by omega) (by omega) (fun hr227 => ?_)
            obtain ⟨z227, hz227⟩ : ∃ z, z = sv (i + 1) := ⟨_, rfl⟩
            rw [← hz227] at hr227 ⊢
            refine r_aAload_n hL (x := b) dL_law_228 rfl ?_
            refine r_iload_n hL (x := i) dL_law_229 rfl ?_
            refine r_iconst hL dL_law_230 ?_
            refine r_iadd hL dL_law_231 ?_
            refine hsl dL_law_232 (by omega) (by omega) (fun hr232 => ?_)
            obtain ⟨z232, hz232⟩ : ∃ z, z = sv (i + 2) := ⟨_, rfl⟩
            rw [← hz232] at hr232 ⊢
            refine r_callV hL (st := []) (av := [xI z227, xI z232]) (k := 120) (m_X8_taleAt (μ := μ118) hB118 z227 (by omega) z232 (by omega) (fun z233 hD233 hx233 => ⟨rfl, ?_⟩)) ce_yX8_taleAt im_yX8_taleAt se_yX8_taleAt ml_L_31 xcl8 (by decide) s_120 dL_law_233 rfl (Nat.le_of_ble_eq_true rfl) ⟨Nat.le_of_ble_eq_true rfl, Nat.le_of_ble_eq_true rfl⟩ ⟨Nat.le_of_ble_eq_true rfl, Nat.le_of_ble_eq_true rfl⟩
            show X 138 3955 WW μ118 236 [some (xA b), some (xR 0), some (xR 120), some (xI i)] [xI z233]
            refine r_pop hL dL_law_236 rfl ?_
            rw [hz212, hz217] at hC218
            rw [hz227, hz232] at hD233
            refine r_goto hL (tgt := 869) dL_law_237 (by decide) ?_
            refine r_iinc hL (x := i) (lo' := [some (xA b), some (xR 0), some (xR 120), some (xI (i + 4))]) dL_law_869 (by decide) rfl rfl ?_
            refine r_goto hL (tgt := 18) dL_law_872 (by decide) ?_
            exact ih18 (i + 4) μ118 hB118 (by omega) hRL (by omega)
          · skip
            refine r_tableIn hL (tgt := 240) (off := 208) 4 dL_law_32 (by omega) e32 (by decide) (by decide) rfl (by decide) ?_
            refine r_aload_n hL (x := 0) dL_law_240 rfl ?_
            refine r_aAload_n hL (x := b) dL_law_241 rfl ?_
            refine r_iload_n hL (x := i) dL_law_242 rfl ?_
            refine r_iconst hL dL_law_243 ?_
            refine r_iadd hL dL_law_244 ?_
            refine hsl dL_law_245 (by omega) (by omega) (fun hr245 => ?_)
            obtain ⟨z245, hz245⟩ : ∃ z, z = sv (i + 1) := ⟨_, rfl⟩
            rw [← hz245] at hr245 ⊢
            refine r_aAload_n hL (x := b) dL_law_246 rfl ?_
            refine r_iload_n hL (x := i) dL_law_247 rfl ?_
            refine r_iconst hL dL_law_248 ?_
            refine r_iadd hL dL_law_249 ?_
            refine hsl dL_law_250 (by omega) (by omega) (fun hr250 => ?_)
            obtain ⟨z250, hz250⟩ : ∃ z, z = sv (i + 2) := ⟨_, rfl⟩
            rw [← hz250] at hr250 ⊢
            refine r_callV hL (st := []) (av := [xI z245, xI z250]) (k := 0) (m_X7_motif (μ := μ118) hB118 z245 (by omega) z250 (by omega) (fun z251 hC251 hx251 => ⟨rfl, ?_⟩)) ce_yX7_motif im_yX7_motif se_yX7_motif ml_L_32 xcl7 (by decide) s_0 dL_law_251 rfl (Nat.le_of_ble_eq_true rfl) ⟨Nat.le_of_ble_eq_true rfl, Nat.le_of_ble_eq_true rfl⟩ ⟨Nat.le_of_ble_eq_true rfl, Nat.le_of_ble_eq_true rfl⟩
            show X 138 3955 WW μ118 254 [some (xA b), some (xR 0), some (xR 120), some (xI i)] [xI z251]
            refine r_pop hL dL_law_254 rfl ?_
            refine r_aload_n hL (x := 120) dL_law_255 rfl ?_
            refine r_aAload_n hL (x := b) dL_law_256 rfl ?_
            refine r_iload_n hL (x := i) dL_law_257 rfl ?_
            refine r_iconst hL dL_law_258 ?_
            refine r_iadd hL dL_law_259 ?_
            refine hsl dL_law_260 (by omega) (by omega) (fun hr260 => ?_)
            obtain ⟨z260, hz260⟩ : ∃ z, z = sv (i + 1) := ⟨_, rfl⟩
            rw [← hz260] at hr260 ⊢
            refine r_aAload_n hL (x := b) dL_law_261 rfl ?_
            refine r_iload_n hL (x := i) dL_law_262 rfl ?_
            refine r_iconst hL dL_law_263 ?_
            refine r_iadd hL dL_law_264 ?_
            refine hsl dL_law_265 (by omega) (by omega) (fun hr265 => ?_)
            obtain ⟨z265, hz265⟩ : ∃ z, z = sv (i + 2) := ⟨_, rfl⟩
            rw [← hz265] at hr265 ⊢
            refine r_callV hL (st := []) (av := [xI z260, xI z265]) (k := 120) (m_X8_motif (μ := μ118) hB118 z260 (by omega) z265 (by omega) (fun z266 hD266 hx266 => ⟨rfl, ?_⟩)) ce_yX8_motif im_yX8_motif se_yX8_motif ml_L_35 xcl8 (by decide) s_120 dL_law_266 rfl (Nat.le_of_ble_eq_true rfl) ⟨Nat.le_of_ble_eq_true rfl, Nat.le_of_ble_eq_true rfl⟩ ⟨Nat.le_of_ble_eq_true rfl, Nat.le_of_ble_eq_true rfl⟩
            show X 138 3955 WW μ118 269 [some (xA b), some (xR 0), some (xR 120), some (xI i)] [xI z266]
            refine r_pop hL dL_law_269 rfl ?_
            rw [hz245, hz250] at hC251
            rw [hz260, hz265] at hD266
            refine r_goto hL (tgt := 869) dL_law_270 (by decide) ?_
            refine r_iinc hL (x := i) (lo' := [some (xA b), some (xR 0), some (xR 120), some (xI (i + 4))]) dL_law_869 (by decide) rfl rfl ?_
            refine r_goto hL (tgt := 18) dL_law_872 (by decide) ?_
            exact ih18 (i + 4) μ118 hB118 (by omega) hRL (by omega)
          · skip
            refine r_tableIn hL (tgt := 273) (off := 241) 5 dL_law_32 (by omega) e32 (by decide) (by decide) rfl (by decide) ?_
            refine r_aload_n hL (x := 0) dL_law_273 rfl ?_
            refine r_aAload_n hL (x := b) dL_law_274 rfl ?_
            refine r_iload_n hL (x := i) dL_law_275 rfl ?_
            refine r_iconst hL dL_law_276 ?_
            refine r_iadd hL dL_law_277 ?_
            refine hsl dL_law_278 (by omega) (by omega) (fun hr278 => ?_)
            obtain ⟨z278, hz278⟩ : ∃ z, z = sv (i + 1) := ⟨_, rfl⟩
            rw [← hz278] at hr278 ⊢
            refine r_callV hL (st := []) (av := [xI z278]) (k := 0) (m_X7_costAt (μ := μ118) hB118 z278 (by omega) (fun z279 hC279 hx279 => ⟨rfl, ?_⟩)) ce_yX7_costAt im_yX7_costAt se_yX7_costAt ml_L_36 xcl7 (by decide) s_0 dL_law_279 rfl (Nat.le_of_ble_eq_true rfl) ⟨Nat.le_of_ble_eq_true rfl, Nat.le_of_ble_eq_true rfl⟩ ⟨Nat.le_of_ble_eq_true rfl, Nat.le_of_ble_eq_true rfl⟩
            show X 138 3955 WW μ118 282 [some (xA b), some (xR 0), some (xR 120), some (xI i)] [xI z279]
            refine r_pop hL dL_law_282 rfl ?_
            refine r_aload_n hL (x := 120) dL_law_283 rfl ?_
            refine r_aAload_n hL (x := b) dL_law_284 rfl ?_
            refine r_iload_n hL (x := i) dL_law_285 rfl ?_
            refine r_iconst hL dL_law_286 ?_
            refine r_iadd hL dL_law_287 ?_
            refine hsl dL_law_288 (by omega) (by omega) (fun hr288 => ?_)
            obtain ⟨z288, hz288⟩ : ∃ z, z = sv (i + 1) := ⟨_, rfl⟩
            rw [← hz288] at hr288 ⊢
            refine r_callV hL (st := []) (av := [xI z288]) (k := 120) (m_X8_costAt (μ := μ118) hB118 z288 (by omega) (fun z289 hD289 hx289 => ⟨rfl, ?_⟩)) ce_yX8_costAt im_yX8_costAt se_yX8_costAt ml_L_39 xcl8 (by decide) s_120 dL_law_289 rfl (Nat.le_of_ble_eq_true rfl) ⟨Nat.le_of_ble_eq_true rfl, Nat.le_of_ble_eq_true rfl⟩ ⟨Nat.le_of_ble_eq_true rfl, Nat.le_of_ble_eq_true rfl⟩
            show X 138 3955 WW μ118 292 [some (xA b), some (xR 0), some (xR 120), some (xI i)] [xI z289]
            refine r_pop hL dL_law_292 rfl ?_
            rw [hz278] at hC279
            rw [hz288] at hD289
            refine r_goto hL (tgt := 869) dL_law_293 (by decide) ?_
            refine r_iinc hL (x := i) (lo' := [some (xA b), some (xR 0), some (xR 120), some (xI (i + 4))]) dL_law_869 (by decide) rfl rfl ?_
            refine r_goto hL (tgt := 18) dL_law_872 (by decide) ?_
            exact ih18 (i + 4) μ118 hB118 (by omega) hRL (by omega)
          · skip
            refine r_tableIn hL (tgt := 296) (off := 264) 6 dL_law_32 (by omega) e32 (by decide) (by decide) rfl (by decide) ?_
            refine r_aload_n hL (x := 0) dL_law_296 rfl ?_
            refine r_aAload_n hL (x := b) dL_law_297 rfl ?_
            refine r_iload_n hL (x := i) dL_law_298 rfl ?_
            refine r_iconst hL dL_law_299 ?_
            refine r_iadd hL dL_law_300 ?_
            refine hsl dL_law_301 (by omega) (by omega) (fun hr301 => ?_)
            obtain ⟨z301, hz301⟩ : ∃ z, z = sv (i + 1) := ⟨_, rfl⟩
            rw [← hz301] at hr301 ⊢
            refine r_aAload_n hL (x := b) dL_law_302 rfl ?_
            refine r_iload_n hL (x := i) dL_law_303 rfl ?_
            refine r_iconst hL dL_law_304 ?_
            refine r_iadd hL dL_law_305 ?_
            refine hsl dL_law_306 (by omega) (by omega) (fun hr306 => ?_)
            obtain ⟨z306, hz306⟩ : ∃ z, z = sv (i + 2) := ⟨_, rfl⟩
            rw [← hz306] at hr306 ⊢
            refine r_aAload_n hL (x := b) dL_law_307 rfl ?_
            refine r_iload_n hL (x := i) dL_law_308 rfl ?_
            refine r_iconst hL dL_law_309 ?_
            refine r_iadd hL dL_law_310 ?_
            refine hsl dL_law_311 (by omega) (by omega) (fun hr311 => ?_)
            obtain ⟨z311, hz311⟩ : ∃ z, z = sv (i + 3) := ⟨_, rfl⟩
            rw [← hz311] at hr311 ⊢
            refine r_callV hL (st := []) (av := [xI z301, xI z306, xI z311]) (k := 0) (m_X7_pair (μ := μ118) hB118 z301 (by omega) z306 (by omega) z311 (by omega) (fun z312 μ312c hB312c hG312 hC312 hx312 => ⟨rfl, ?_⟩)) ce_yX7_pair im_yX7_pair se_yX7_pair ml_L_40 xcl7 (by decide) s_0 dL_law_312 rfl (Nat.le_of_ble_eq_true rfl) ⟨Nat.le_of_ble_eq_true rfl, Nat.le_of_ble_eq_true rfl⟩ ⟨Nat.le_of_ble_eq_true rfl, Nat.le_of_ble_eq_true rfl⟩
            show X 138 3955 WW μ312c 315 [some (xA b), some (xR 0), some (xR 120), some (xI i)] [xI z312]
            refine r_pop hL dL_law_315 rfl ?_
            refine r_aload_n hL (x := 120) dL_law_316 rfl ?_
            refine r_aAload_n hL (x := b) dL_law_317 rfl ?_
            refine r_iload_n hL (x := i) dL_law_318 rfl ?_
            refine r_iconst hL dL_law_319 ?_
            refine r_iadd hL dL_law_320 ?_
            refine hsl dL_law_321 (by omega) (by omega) (fun hr321 => ?_)
            obtain ⟨z321, hz321⟩ : ∃ z, z = sv (i + 1) := ⟨_, rfl⟩
            rw [← hz321] at hr321 ⊢
            refine r_aAload_n hL (x := b) dL_law_322 rfl ?_
            refine r_iload_n hL (x := i) dL_law_323 rfl ?_
            refine r_iconst hL dL_law_324 ?_
            refine r_iadd hL dL_law_325 ?_
            refine hsl dL_law_326 (by omega) (by omega) (fun hr326 => ?_)
            obtain ⟨z326, hz326⟩ : ∃ z, z = sv (i + 2) := ⟨_, rfl⟩
            rw [← hz326] at hr326 ⊢
            refine r_aAload_n hL (x := b) dL_law_327 rfl ?_
            refine r_iload_n hL (x := i) dL_law_328 rfl ?_
            refine r_iconst hL dL_law_329 ?_
            refine r_iadd hL dL_law_330 ?_
            refine hsl dL_law_331 (by omega) (by omega) (fun hr331 => ?_)
            obtain ⟨z331, hz331⟩ : ∃ z, z = sv (i + 3) := ⟨_, rfl⟩
            rw [← hz331] at hr331 ⊢
            refine r_callV hL (st := []) (av := [xI z321, xI z326, xI z331]) (k := 120) (m_X8_pair (μ := μ312c) hB312c z321 (by omega) z326 (by omega) z331 (by omega) (fun z332 μ332c hB332c hG332 hD332 hx332 => ⟨rfl, ?_⟩)) ce_yX8_pair im_yX8_pair se_yX8_pair ml_L_44 xcl8 (by decide) s_120 dL_law_332 rfl (Nat.le_of_ble_eq_true rfl) ⟨Nat.le_of_ble_eq_true rfl, Nat.le_of_ble_eq_true rfl⟩ ⟨Nat.le_of_ble_eq_true rfl, Nat.le_of_ble_eq_true rfl⟩
            show X 138 3955 WW μ332c 335 [some (xA b), some (xR 0), some (xR 120), some (xI i)] [xI z332]
            refine r_pop hL dL_law_335 rfl ?_
            rw [hz301, hz306, hz311] at hC312
            rw [hz321, hz326, hz331] at hD332
            have hRL : Rel μ332c μ332c := hR118.two hG312 hG332
            refine r_goto hL (tgt := 869) dL_law_336 (by decide) ?_
            refine r_iinc hL (x := i) (lo' := [some (xA b), some (xR 0), some (xR 120), some (xI (i + 4))]) dL_law_869 (by decide) rfl rfl ?_
            refine r_goto hL (tgt := 18) dL_law_872 (by decide) ?_
            exact ih18 (i + 4) μ332c hB332c (by omega) hRL (by omega)
          · skip
            refine r_tableIn hL (tgt := 339) (off := 307) 7 dL_law_32 (by omega) e32 (by decide) (by decide) rfl (by decide) ?_
            refine r_aload_n hL (x := 0) dL_law_339 rfl ?_
            refine r_aAload_n hL (x := b) dL_law_340 rfl ?_
            refine r_iload_n hL (x := i) dL_law_341 rfl ?_
            refine r_iconst hL dL_law_342 ?_
            refine r_iadd hL dL_law_343 ?_
            refine hsl dL_law_344 (by omega) (by omega) (fun hr344 => ?_)
            obtain ⟨z344, hz344⟩ : ∃ z, z = sv (i + 1) := ⟨_, rfl⟩
            rw [← hz344] at hr344 ⊢
            refine r_aAload_n hL (x := b) dL_law_345 rfl ?_
            refine r_iload_n hL (x := i) dL_law_346 rfl ?_
            refine r_iconst hL dL_law_347 ?_
            refine r_iadd hL dL_law_348 ?_
            refine hsl dL_law_349 (by omega) (by omega) (fun hr349 => ?_)
            obtain ⟨z349, hz349⟩ : ∃ z, z = sv (i + 2) := ⟨_, rfl⟩
            rw [← hz349] at hr349 ⊢
            refine r_aAload_n hL (x := b) dL_law_350 rfl ?_
            refine r_iload_n hL (x := i) dL_law_351 rfl ?_
            refine r_iconst hL dL_law_352 ?_
            refine r_iadd hL dL_law_353 ?_
            refine hsl dL_law_354 (by omega) (by omega) (fun hr354 => ?_)
            obtain ⟨z354, hz354⟩ : ∃ z, z = sv (i + 3) := ⟨_, rfl⟩
            rw [← hz354] at hr354 ⊢
            refine r_callV hL (st := []) (av := [xI z344, xI z349, xI z354]) (k := 0) (m_X7_step (μ := μ118) hB118 z344 (by omega) z349 (by omega) z354 (by omega) (fun z355 μ355c hB355c hG355 hC355 hx355 => ⟨rfl, ?_⟩)) ce_yX7_step im_yX7_step se_yX7_step ml_L_45 xcl7 (by decide) s_0 dL_law_355 rfl (Nat.le_of_ble_eq_true rfl) ⟨Nat.le_of_ble_eq_true rfl, Nat.le_of_ble_eq_true rfl⟩ ⟨Nat.le_of_ble_eq_true rfl, Nat.le_of_ble_eq_true rfl⟩
            show X 138 3955 WW μ355c 358 [some (xA b), some (xR 0), some (xR 120), some (xI i)] [xI z355]
            refine r_pop hL dL_law_358 rfl ?_
            refine r_aload_n hL (x := 120) dL_law_359 rfl ?_
            refine r_aAload_n hL (x := b) dL_law_360 rfl ?_
            refine r_iload_n hL (x := i) dL_law_361 rfl ?_
            refine r_iconst hL dL_law_362 ?_
            refine r_iadd hL dL_law_363 ?_
            refine hsl dL_law_364 (by omega) (by omega) (fun hr364 => ?_)
            obtain ⟨z364, hz364⟩ : ∃ z, z = sv (i + 1) := ⟨_, rfl⟩
            rw [← hz364] at hr364 ⊢
            refine r_aAload_n hL (x := b) dL_law_365 rfl ?_
            refine r_iload_n hL (x := i) dL_law_366 rfl ?_
            refine r_iconst hL dL_law_367 ?_
            refine r_iadd hL dL_law_368 ?_
            refine hsl dL_law_369 (by omega) (by omega) (fun hr369 => ?_)
            obtain ⟨z369, hz369⟩ : ∃ z, z = sv (i + 2) := ⟨_, rfl⟩
            rw [← hz369] at hr369 ⊢
            refine r_aAload_n hL (x := b) dL_law_370 rfl ?_
            refine r_iload_n hL (x := i) dL_law_371 rfl ?_
            refine r_iconst hL dL_law_372 ?_
            refine r_iadd hL dL_law_373 ?_
            refine hsl dL_law_374 (by omega) (by omega) (fun hr374 => ?_)
            obtain ⟨z374, hz374⟩ : ∃ z, z = sv (i + 3) := ⟨_, rfl⟩
            rw [← hz374] at hr374 ⊢
            refine r_callV hL (st := []) (av := [xI z364, xI z369, xI z374]) (k := 120) (m_X8_step (μ := μ355c) hB355c z364 (by omega) z369 (by omega) z374 (by omega) (fun z375 μ375c hB375c hG375 hD375 hx375 => ⟨rfl, ?_⟩)) ce_yX8_step im_yX8_step se_yX8_step ml_L_48 xcl8 (by decide) s_120 dL_law_375 rfl (Nat.le_of_ble_eq_true rfl) ⟨Nat.le_of_ble_eq_true rfl, Nat.le_of_ble_eq_true rfl⟩ ⟨Nat.le_of_ble_eq_true rfl, Nat.le_of_ble_eq_true rfl⟩
            show X 138 3955 WW μ375c 378 [some (xA b), some (xR 0), some (xR 120), some (xI i)] [xI z375]
            refine r_pop hL dL_law_378 rfl ?_
            rw [hz344, hz349, hz354] at hC355
            rw [hz364, hz369, hz374] at hD375
            have hRL : Rel μ375c μ375c := hR118.two hG355 hG375
            refine r_goto hL (tgt := 869) dL_law_379 (by decide) ?_
            refine r_iinc hL (x := i) (lo' := [some (xA b), some (xR 0), some (xR 120), some (xI (i + 4))]) dL_law_869 (by decide) rfl rfl ?_
            refine r_goto hL (tgt := 18) dL_law_872 (by decide) ?_
            exact ih18 (i + 4) μ375c hB375c (by omega) hRL (by omega)
          · skip
            refine r_tableIn hL (tgt := 382) (off := 350) 8 dL_law_32 (by omega) e32 (by decide) (by decide) rfl (by decide) ?_
            refine r_aload_n hL (x := 0) dL_law_382 rfl ?_
            refine r_aAload_n hL (x := b) dL_law_383 rfl ?_
            refine r_iload_n hL (x := i) dL_law_384 rfl ?_
            refine r_iconst hL dL_law_385 ?_
            refine r_iadd hL dL_law_386 ?_
            refine hsl dL_law_387 (by omega) (by omega) (fun hr387 => ?_)
            obtain ⟨z387, hz387⟩ : ∃ z, z = sv (i + 1) := ⟨_, rfl⟩
            rw [← hz387] at hr387 ⊢
            refine r_aAload_n hL (x := b) dL_law_388 rfl ?_
            refine r_iload_n hL (x := i) dL_law_389 rfl ?_
            refine r_iconst hL dL_law_390 ?_
            refine r_iadd hL dL_law_391 ?_
            refine hsl dL_law_392 (by omega) (by omega) (fun hr392 => ?_)
            obtain ⟨z392, hz392⟩ : ∃ z, z = sv (i + 2) := ⟨_, rfl⟩
            rw [← hz392] at hr392 ⊢
            refine r_callV hL (st := []) (av := [xI z387, xI z392]) (k := 0) (m_X7_node (μ := μ118) hB118 z387 (by omega) z392 (by omega) (fun z393 μ393c hB393c hG393 hc393 => ⟨rfl, ?_⟩)) ce_yX7_node im_yX7_node se_yX7_node ml_L_49 xcl7 (by decide) s_0 dL_law_393 rfl (Nat.le_of_ble_eq_true rfl) ⟨Nat.le_of_ble_eq_true rfl, Nat.le_of_ble_eq_true rfl⟩ ⟨Nat.le_of_ble_eq_true rfl, Nat.le_of_ble_eq_true rfl⟩
            show X 138 3955 WW μ393c 396 [some (xA b), some (xR 0), some (xR 120), some (xI i)] [xI z393]
            refine r_pop hL dL_law_396 rfl ?_
            refine r_aload_n hL (x := 120) dL_law_397 rfl ?_
            refine r_aAload_n hL (x := b) dL_law_398 rfl ?_
            refine r_iload_n hL (x := i) dL_law_399 rfl ?_
            refine r_iconst hL dL_law_400 ?_
            refine r_iadd hL dL_law_401 ?_
            refine hsl dL_law_402 (by omega) (by omega) (fun hr402 => ?_)
            obtain ⟨z402, hz402⟩ : ∃ z, z = sv (i + 1) := ⟨_, rfl⟩
            rw [← hz402] at hr402 ⊢
            refine r_aAload_n hL (x := b) dL_law_403 rfl ?_
            refine r_iload_n hL (x := i) dL_law_404 rfl ?_
            refine r_iconst hL dL_law_405 ?_
            refine r_iadd hL dL_law_406 ?_
            refine hsl dL_law_407 (by omega) (by omega) (fun hr407 => ?_)
            obtain ⟨z407, hz407⟩ : ∃ z, z = sv (i + 2) := ⟨_, rfl⟩
            rw [← hz407] at hr407 ⊢
            refine r_callV hL (st := []) (av := [xI z402, xI z407]) (k := 120) (m_X8_node (μ := μ393c) hB393c z402 (by omega) z407 (by omega) (fun z408 μ408c hB408c hG408 hc408 => ⟨rfl, ?_⟩)) ce_yX8_node im_yX8_node se_yX8_node ml_L_52 xcl8 (by decide) s_120 dL_law_408 rfl (Nat.le_of_ble_eq_true rfl) ⟨Nat.le_of_ble_eq_true rfl, Nat.le_of_ble_eq_true rfl⟩ ⟨Nat.le_of_ble_eq_true rfl, Nat.le_of_ble_eq_true rfl⟩
            show X 138 3955 WW μ408c 411 [some (xA b), some (xR 0), some (xR 120), some (xI i)] [xI z408]
            refine r_pop hL dL_law_411 rfl ?_
            have hRL : Rel μ408c μ408c := hR118.two hG393 hG408
            refine r_goto hL (tgt := 869) dL_law_412 (by decide) ?_
            refine r_iinc hL (x := i) (lo' := [some (xA b), some (xR 0), some (xR 120), some (xI (i + 4))]) dL_law_869 (by decide) rfl rfl ?_
            refine r_goto hL (tgt := 18) dL_law_872 (by decide) ?_
            exact ih18 (i + 4) μ408c hB408c (by omega) hRL (by omega)
          · skip
            refine r_tableIn hL (tgt := 415) (off := 383) 9 dL_law_32 (by omega) e32 (by decide) (by decide) rfl (by decide) ?_
            refine r_aload_n hL (x := 0) dL_law_415 rfl ?_
            refine r_aAload_n hL (x := b) dL_law_416 rfl ?_
            refine r_iload_n hL (x := i) dL_law_417 rfl ?_
            refine r_iconst hL dL_law_418 ?_
            refine r_iadd hL dL_law_419 ?_
            refine hsl dL_law_420 (by omega) (by omega) (fun hr420 => ?_)
            obtain ⟨z420, hz420⟩ : ∃ z, z = sv (i + 1) := ⟨_, rfl⟩
            rw [← hz420] at hr420 ⊢
            refine r_aAload_n hL (x := b) dL_law_421 rfl ?_
            refine r_iload_n hL (x := i) dL_law_422 rfl ?_
            refine r_iconst hL dL_law_423 ?_
            refine r_iadd hL dL_law_424 ?_
            refine hsl dL_law_425 (by omega) (by omega) (fun hr425 => ?_)
            obtain ⟨z425, hz425⟩ : ∃ z, z = sv (i + 2) := ⟨_, rfl⟩
            rw [← hz425] at hr425 ⊢
            refine r_callV hL (st := []) (av := [xI z420, xI z425]) (k := 0) (m_X7_types (μ := μ118) hB118 z420 (by omega) z425 (by omega) (fun z426 μ426c hB426c hG426 hc426 => ⟨rfl, ?_⟩)) ce_yX7_types im_yX7_types se_yX7_types ml_L_53 xcl7 (by decide) s_0 dL_law_426 rfl (Nat.le_of_ble_eq_true rfl) ⟨Nat.le_of_ble_eq_true rfl, Nat.le_of_ble_eq_true rfl⟩ ⟨Nat.le_of_ble_eq_true rfl, Nat.le_of_ble_eq_true rfl⟩
            show X 138 3955 WW μ426c 429 [some (xA b), some (xR 0), some (xR 120), some (xI i)] [xI z426]
            refine r_pop hL dL_law_429 rfl ?_
            refine r_aload_n hL (x := 120) dL_law_430 rfl ?_
            refine r_aAload_n hL (x := b) dL_law_431 rfl ?_
            refine r_iload_n hL (x := i) dL_law_432 rfl ?_
            refine r_iconst hL dL_law_433 ?_
            refine r_iadd hL dL_law_434 ?_
            refine hsl dL_law_435 (by omega) (by omega) (fun hr435 => ?_)
            obtain ⟨z435, hz435⟩ : ∃ z, z = sv (i + 1) := ⟨_, rfl⟩
            rw [← hz435] at hr435 ⊢
            refine r_aAload_n hL (x := b) dL_law_436 rfl ?_
            refine r_iload_n hL (x := i) dL_law_437 rfl ?_
            refine r_iconst hL dL_law_438 ?_
            refine r_iadd hL dL_law_439 ?_
            refine hsl dL_law_440 (by omega) (by omega) (fun hr440 => ?_)
            obtain ⟨z440, hz440⟩ : ∃ z, z = sv (i + 2) := ⟨_, rfl⟩
            rw [← hz440] at hr440 ⊢
            refine r_callV hL (st := []) (av := [xI z435, xI z440]) (k := 120) (m_X8_types (μ := μ426c) hB426c z435 (by omega) z440 (by omega) (fun z441 μ441c hB441c hG441 hc441 => ⟨rfl, ?_⟩)) ce_yX8_types im_yX8_types se_yX8_types ml_L_56 xcl8 (by decide) s_120 dL_law_441 rfl (Nat.le_of_ble_eq_true rfl) ⟨Nat.le_of_ble_eq_true rfl, Nat.le_of_ble_eq_true rfl⟩ ⟨Nat.le_of_ble_eq_true rfl, Nat.le_of_ble_eq_true rfl⟩
            show X 138 3955 WW μ441c 444 [some (xA b), some (xR 0), some (xR 120), some (xI i)] [xI z441]
            refine r_pop hL dL_law_444 rfl ?_
            have hRL : Rel μ441c μ441c := hR118.two hG426 hG441
            refine r_goto hL (tgt := 869) dL_law_445 (by decide) ?_
            refine r_iinc hL (x := i) (lo' := [some (xA b), some (xR 0), some (xR 120), some (xI (i + 4))]) dL_law_869 (by decide) rfl rfl ?_
            refine r_goto hL (tgt := 18) dL_law_872 (by decide) ?_
            exact ih18 (i + 4) μ441c hB441c (by omega) hRL (by omega)
          · skip
            refine r_tableIn hL (tgt := 448) (off := 416) 10 dL_law_32 (by omega) e32 (by decide) (by decide) rfl (by decide) ?_
            refine r_aload_n hL (x := 0) dL_law_448 rfl ?_
            refine r_aAload_n hL (x := b) dL_law_449 rfl ?_
            refine r_iload_n hL (x := i) dL_law_450 rfl ?_
            refine r_iconst hL dL_law_451 ?_
            refine r_iadd hL dL_law_452 ?_
            refine hsl dL_law_453 (by omega) (by omega) (fun hr453 => ?_)
            obtain ⟨z453, hz453⟩ : ∃ z, z = sv (i + 1) := ⟨_, rfl⟩
            rw [← hz453] at hr453 ⊢
            refine r_callV hL (st := []) (av := [xI z453]) (k := 0) (m_X7_middle (μ := μ118) hB118 z453 (by omega) (fun z454 μ454c hB454c hG454 hc454 => ⟨rfl, ?_⟩)) ce_yX7_middle im_yX7_middle se_yX7_middle ml_L_57 xcl7 (by decide) s_0 dL_law_454 rfl (Nat.le_of_ble_eq_true rfl) ⟨Nat.le_of_ble_eq_true rfl, Nat.le_of_ble_eq_true rfl⟩ ⟨Nat.le_of_ble_eq_true rfl, Nat.le_of_ble_eq_true rfl⟩
            show X 138 3955 WW μ454c 457 [some (xA b), some (xR 0), some (xR 120), some (xI i)] [xI z454]
            refine r_pop hL dL_law_457 rfl ?_
            refine r_aload_n hL (x := 120) dL_law_458 rfl ?_
            refine r_aAload_n hL (x := b) dL_law_459 rfl ?_
            refine r_iload_n hL (x := i) dL_law_460 rfl ?_
            refine r_iconst hL dL_law_461 ?_
            refine r_iadd hL dL_law_462 ?_
            refine hsl dL_law_463 (by omega) (by omega) (fun hr463 => ?_)
            obtain ⟨z463, hz463⟩ : ∃ z, z = sv (i + 1) := ⟨_, rfl⟩
            rw [← hz463] at hr463 ⊢
            refine r_callV hL (st := []) (av := [xI z463]) (k := 120) (m_X8_middle (μ := μ454c) hB454c z463 (by omega) (fun z464 μ464c hB464c hG464 hc464 => ⟨rfl, ?_⟩)) ce_yX8_middle im_yX8_middle se_yX8_middle ml_L_60 xcl8 (by decide) s_120 dL_law_464 rfl (Nat.le_of_ble_eq_true rfl) ⟨Nat.le_of_ble_eq_true rfl, Nat.le_of_ble_eq_true rfl⟩ ⟨Nat.le_of_ble_eq_true rfl, Nat.le_of_ble_eq_true rfl⟩
            show X 138 3955 WW μ464c 467 [some (xA b), some (xR 0), some (xR 120), some (xI i)] [xI z464]
            refine r_pop hL dL_law_467 rfl ?_
            have hRL : Rel μ464c μ464c := hR118.two hG454 hG464
            refine r_goto hL (tgt := 869) dL_law_468 (by decide) ?_
            refine r_iinc hL (x := i) (lo' := [some (xA b), some (xR 0), some (xR 120), some (xI (i + 4))]) dL_law_869 (by decide) rfl rfl ?_
            refine r_goto hL (tgt := 18) dL_law_872 (by decide) ?_
            exact ih18 (i + 4) μ464c hB464c (by omega) hRL (by omega)
          · skip
            refine r_tableIn hL (tgt := 471) (off := 439) 11 dL_law_32 (by omega) e32 (by decide) (by decide) rfl (by decide) ?_
            refine r_aload_n hL (x := 0) dL_law_471 rfl ?_
            refine r_aAload_n hL (x := b) dL_law_472 rfl ?_
            refine r_iload_n hL (x := i) dL_law_473 rfl ?_
            refine r_iconst hL dL_law_474 ?_
            refine r_iadd hL dL_law_475 ?_
            refine hsl dL_law_476 (by omega) (by omega) (fun hr476 => ?_)
            obtain ⟨z476, hz476⟩ : ∃ z, z = sv (i + 1) := ⟨_, rfl⟩
            rw [← hz476] at hr476 ⊢
            refine r_callV hL (st := []) (av := [xI z476]) (k := 0) (m_X7_common (μ := μ118) hB118 z476 (by omega) (fun z477 hC477 hx477 => ⟨rfl, ?_⟩)) ce_yX7_common im_yX7_common se_yX7_common ml_L_61 xcl7 (by decide) s_0 dL_law_477 rfl (Nat.le_of_ble_eq_true rfl) ⟨Nat.le_of_ble_eq_true rfl, Nat.le_of_ble_eq_true rfl⟩ ⟨Nat.le_of_ble_eq_true rfl, Nat.le_of_ble_eq_true rfl⟩
            show X 138 3955 WW μ118 480 [some (xA b), some (xR 0), some (xR 120), some (xI i)] [xI z477]
            refine r_pop hL dL_law_480 rfl ?_
            refine r_aload_n hL (x := 120) dL_law_481 rfl ?_
            refine r_aAload_n hL (x := b) dL_law_482 rfl ?_
            refine r_iload_n hL (x := i) dL_law_483 rfl ?_
            refine r_iconst hL dL_law_484 ?_
            refine r_iadd hL dL_law_485 ?_
            refine hsl dL_law_486 (by omega) (by omega) (fun hr486 => ?_)
            obtain ⟨z486, hz486⟩ : ∃ z, z = sv (i + 1) := ⟨_, rfl⟩
            rw [← hz486] at hr486 ⊢
            refine r_callV hL (st := []) (av := [xI z486]) (k := 120) (m_X8_common (μ := μ118) hB118 z486 (by omega) (fun z487 hD487 hx487 => ⟨rfl, ?_⟩)) ce_yX8_common im_yX8_common se_yX8_common ml_L_64 xcl8 (by decide) s_120 dL_law_487 rfl (Nat.le_of_ble_eq_true rfl) ⟨Nat.le_of_ble_eq_true rfl, Nat.le_of_ble_eq_true rfl⟩ ⟨Nat.le_of_ble_eq_true rfl, Nat.le_of_ble_eq_true rfl⟩
            show X 138 3955 WW μ118 490 [some (xA b), some (xR 0), some (xR 120), some (xI i)] [xI z487]
            refine r_pop hL dL_law_490 rfl ?_
            rw [hz476] at hC477
            rw [hz486] at hD487
            refine r_goto hL (tgt := 869) dL_law_491 (by decide) ?_
            refine r_iinc hL (x := i) (lo' := [some (xA b), some (xR 0), some (xR 120), some (xI (i + 4))]) dL_law_869 (by decide) rfl rfl ?_
            refine r_goto hL (tgt := 18) dL_law_872 (by decide) ?_
            exact ih18 (i + 4) μ118 hB118 (by omega) hRL (by omega)
          · skip
            refine r_tableIn hL (tgt := 494) (off := 462) 12 dL_law_32 (by omega) e32 (by decide) (by decide) rfl (by decide) ?_
            refine r_aload_n hL (x := 0) dL_law_494 rfl ?_
            refine r_aAload_n hL (x := b) dL_law_495 rfl ?_
            refine r_iload_n hL (x := i) dL_law_496 rfl ?_
            refine r_iconst hL dL_law_497 ?_
            refine r_iadd hL dL_law_498 ?_
            refine hsl dL_law_499 (by omega) (by omega) (fun hr499 => ?_)
            obtain ⟨z499, hz499⟩ : ∃ z, z = sv (i + 1) := ⟨_, rfl⟩
            rw [← hz499] at hr499 ⊢
            refine r_aAload_n hL (x := b) dL_law_500 rfl ?_
            refine r_iload_n hL (x := i) dL_law_501 rfl ?_
            refine r_iconst hL dL_law_502 ?_
            refine r_iadd hL dL_law_503 ?_
            refine hsl dL_law_504 (by omega) (by omega) (fun hr504 => ?_)
            obtain ⟨z504, hz504⟩ : ∃ z, z = sv (i + 2) := ⟨_, rfl⟩
            rw [← hz504] at hr504 ⊢
            refine r_callV hL (st := []) (av := [xI z499, xI z504]) (k := 0) (m_X7_wandered (μ := μ118) hB118 z499 (by omega) z504 (by omega) (fun z505 hC505 hx505 => ⟨rfl, ?_⟩)) ce_yX7_wandered im_yX7_wandered se_yX7_wandered ml_L_65 xcl7 (by decide) s_0 dL_law_505 rfl (Nat.le_of_ble_eq_true rfl) ⟨Nat.le_of_ble_eq_true rfl, Nat.le_of_ble_eq_true rfl⟩ ⟨Nat.le_of_ble_eq_true rfl, Nat.le_of_ble_eq_true rfl⟩
            show X 138 3955 WW μ118 508 [some (xA b), some (xR 0), some (xR 120), some (xI i)] [xI z505]
            refine r_pop hL dL_law_508 rfl ?_
            refine r_aload_n hL (x := 120) dL_law_509 rfl ?_
            refine r_aAload_n hL (x := b) dL_law_510 rfl ?_
            refine r_iload_n hL (x := i) dL_law_511 rfl ?_
            refine r_iconst hL dL_law_512 ?_
            refine r_iadd hL dL_law_513 ?_
            refine hsl dL_law_514 (by omega) (by omega) (fun hr514 => ?_)
            obtain ⟨z514, hz514⟩ : ∃ z, z = sv (i + 1) := ⟨_, rfl⟩
            rw [← hz514] at hr514 ⊢
            refine r_aAload_n hL (x := b) dL_law_515 rfl ?_
            refine r_iload_n hL (x := i) dL_law_516 rfl ?_
            refine r_iconst hL dL_law_517 ?_
            refine r_iadd hL dL_law_518 ?_
            refine hsl dL_law_519 (by omega) (by omega) (fun hr519 => ?_)
            obtain ⟨z519, hz519⟩ : ∃ z, z = sv (i + 2) := ⟨_, rfl⟩
            rw [← hz519] at hr519 ⊢
            refine r_callV hL (st := []) (av := [xI z514, xI z519]) (k := 120) (m_X8_wandered (μ := μ118) hB118 z514 (by omega) z519 (by omega) (fun z520 hD520 hx520 => ⟨rfl, ?_⟩)) ce_yX8_wandered im_yX8_wandered se_yX8_wandered ml_L_68 xcl8 (by decide) s_120 dL_law_520 rfl (Nat.le_of_ble_eq_true rfl) ⟨Nat.le_of_ble_eq_true rfl, Nat.le_of_ble_eq_true rfl⟩ ⟨Nat.le_of_ble_eq_true rfl, Nat.le_of_ble_eq_true rfl⟩
            show X 138 3955 WW μ118 523 [some (xA b), some (xR 0), some (xR 120), some (xI i)] [xI z520]
            refine r_pop hL dL_law_523 rfl ?_
            rw [hz499, hz504] at hC505
            rw [hz514, hz519] at hD520
            refine r_goto hL (tgt := 869) dL_law_524 (by decide) ?_
            refine r_iinc hL (x := i) (lo' := [some (xA b), some (xR 0), some (xR 120), some (xI (i + 4))]) dL_law_869 (by decide) rfl rfl ?_
            refine r_goto hL (tgt := 18) dL_law_872 (by decide) ?_
            exact ih18 (i + 4) μ118 hB118 (by omega) hRL (by omega)
          · skip
            refine r_tableIn hL (tgt := 527) (off := 495) 13 dL_law_32 (by omega) e32 (by decide) (by decide) rfl (by decide) ?_
            refine r_aload_n hL (x := 0) dL_law_527 rfl ?_
            refine r_aAload_n hL (x := b) dL_law_528 rfl ?_
            refine r_iload_n hL (x := i) dL_law_529 rfl ?_
            refine r_iconst hL dL_law_530 ?_
            refine r_iadd hL dL_law_531 ?_
            refine hsl dL_law_532 (by omega) (by omega) (fun hr532 => ?_)
            obtain ⟨z532, hz532⟩ : ∃ z, z = sv (i + 1) := ⟨_, rfl⟩
            rw [← hz532] at hr532 ⊢
            refine r_callV hL (st := []) (av := [xI z532]) (k := 0) (m_X7_take (μ := μ118) hB118 z532 (by omega) (fun z533 μ533c hB533c hG533 hC533 hx533 => ⟨rfl, ?_⟩)) ce_yX7_take im_yX7_take se_yX7_take ml_L_69 xcl7 (by decide) s_0 dL_law_533 rfl (Nat.le_of_ble_eq_true rfl) ⟨Nat.le_of_ble_eq_true rfl, Nat.le_of_ble_eq_true rfl⟩ ⟨Nat.le_of_ble_eq_true rfl, Nat.le_of_ble_eq_true rfl⟩
            show X 138 3955 WW μ533c 536 [some (xA b), some (xR 0), some (xR 120), some (xI i)] [xI z533]
            refine r_pop hL dL_law_536 rfl ?_
            refine r_aload_n hL (x := 120) dL_law_537 rfl ?_
            refine r_aAload_n hL (x := b) dL_law_538 rfl ?_
            refine r_iload_n hL (x := i) dL_law_539 rfl ?_
            refine r_iconst hL dL_law_540 ?_
            refine r_iadd hL dL_law_541 ?_
            refine hsl dL_law_542 (by omega) (by omega) (fun hr542 => ?_)
            obtain ⟨z542, hz542⟩ : ∃ z, z = sv (i + 1) := ⟨_, rfl⟩
            rw [← hz542] at hr542 ⊢
            refine r_callV hL (st := []) (av := [xI z542]) (k := 120) (m_X8_take (μ := μ533c) hB533c z542 (by omega) (fun z543 μ543c hB543c hG543 hD543 hx543 => ⟨rfl, ?_⟩)) ce_yX8_take im_yX8_take se_yX8_take ml_L_72 xcl8 (by decide) s_120 dL_law_543 rfl (Nat.le_of_ble_eq_true rfl) ⟨Nat.le_of_ble_eq_true rfl, Nat.le_of_ble_eq_true rfl⟩ ⟨Nat.le_of_ble_eq_true rfl, Nat.le_of_ble_eq_true rfl⟩
            show X 138 3955 WW μ543c 546 [some (xA b), some (xR 0), some (xR 120), some (xI i)] [xI z543]
            refine r_pop hL dL_law_546 rfl ?_
            rw [hz532] at hC533
            rw [hz542] at hD543
            have hRL : Rel μ543c μ543c := by first | exact ((R_take (hR118.rt hG533) hB118 hB533c hC533 hD543).2).lt hG543 | (exfalso; omega)
            refine r_goto hL (tgt := 869) dL_law_547 (by decide) ?_
            refine r_iinc hL (x := i) (lo' := [some (xA b), some (xR 0), some (xR 120), some (xI (i + 4))]) dL_law_869 (by decide) rfl rfl ?_
            refine r_goto hL (tgt := 18) dL_law_872 (by decide) ?_
            exact ih18 (i + 4) μ543c hB543c (by omega) hRL (by omega)
          · skip
            refine r_tableIn hL (tgt := 550) (off := 518) 14 dL_law_32 (by omega) e32 (by decide) (by decide) rfl (by decide) ?_
            refine r_aload_n hL (x := 0) dL_law_550 rfl ?_
            refine r_aAload_n hL (x := b) dL_law_551 rfl ?_
            refine r_iload_n hL (x := i) dL_law_552 rfl ?_
            refine r_iconst hL dL_law_553 ?_
            refine r_iadd hL dL_law_554 ?_
            refine hsl dL_law_555 (by omega) (by omega) (fun hr555 => ?_)
            obtain ⟨z555, hz555⟩ : ∃ z, z = sv (i + 1) := ⟨_, rfl⟩
            rw [← hz555] at hr555 ⊢
            refine r_aAload_n hL (x := b) dL_law_556 rfl ?_
            refine r_iload_n hL (x := i) dL_law_557 rfl ?_
            refine r_iconst hL dL_law_558 ?_
            refine r_iadd hL dL_law_559 ?_
            refine hsl dL_law_560 (by omega) (by omega) (fun hr560 => ?_)
            obtain ⟨z560, hz560⟩ : ∃ z, z = sv (i + 2) := ⟨_, rfl⟩
            rw [← hz560] at hr560 ⊢
            refine r_callV hL (st := []) (av := [xI z555, xI z560]) (k := 0) (m_X7_cost (μ := μ118) hB118 z555 (by omega) z560 (by omega) (fun z561 μ561c hB561c hG561 hC561 hx561 => ⟨rfl, ?_⟩)) ce_yX7_cost im_yX7_cost se_yX7_cost ml_L_73 xcl7 (by decide) s_0 dL_law_561 rfl (Nat.le_of_ble_eq_true rfl) ⟨Nat.le_of_ble_eq_true rfl, Nat.le_of_ble_eq_true rfl⟩ ⟨Nat.le_of_ble_eq_true rfl, Nat.le_of_ble_eq_true rfl⟩
            show X 138 3955 WW μ561c 564 [some (xA b), some (xR 0), some (xR 120), some (xI i)] [xI z561]
            refine r_pop hL dL_law_564 rfl ?_
            refine r_aload_n hL (x := 120) dL_law_565 rfl ?_
            refine r_aAload_n hL (x := b) dL_law_566 rfl ?_
            refine r_iload_n hL (x := i) dL_law_567 rfl ?_
            refine r_iconst hL dL_law_568 ?_
            refine r_iadd hL dL_law_569 ?_
            refine hsl dL_law_570 (by omega) (by omega) (fun hr570 => ?_)
            obtain ⟨z570, hz570⟩ : ∃ z, z = sv (i + 1) := ⟨_, rfl⟩
            rw [← hz570] at hr570 ⊢
            refine r_aAload_n hL (x := b) dL_law_571 rfl ?_
            refine r_iload_n hL (x := i) dL_law_572 rfl ?_
            refine r_iconst hL dL_law_573 ?_
            refine r_iadd hL dL_law_574 ?_
            refine hsl dL_law_575 (by omega) (by omega) (fun hr575 => ?_)
            obtain ⟨z575, hz575⟩ : ∃ z, z = sv (i + 2) := ⟨_, rfl⟩
            rw [← hz575] at hr575 ⊢
            refine r_callV hL (st := []) (av := [xI z570, xI z575]) (k := 120) (m_X8_cost (μ := μ561c) hB561c z570 (by omega) z575 (by omega) (fun z576 μ576c hB576c hG576 hD576 hx576 => ⟨rfl, ?_⟩)) ce_yX8_cost im_yX8_cost se_yX8_cost ml_L_76 xcl8 (by decide) s_120 dL_law_576 rfl (Nat.le_of_ble_eq_true rfl) ⟨Nat.le_of_ble_eq_true rfl, Nat.le_of_ble_eq_true rfl⟩ ⟨Nat.le_of_ble_eq_true rfl, Nat.le_of_ble_eq_true rfl⟩
            show X 138 3955 WW μ576c 579 [some (xA b), some (xR 0), some (xR 120), some (xI i)] [xI z576]
            refine r_pop hL dL_law_579 rfl ?_
            rw [hz555, hz560] at hC561
            rw [hz570, hz575] at hD576
            have hRL : Rel μ576c μ576c := by first | exact ((R_cost (hR118.rt hG561) hB118 hB561c hC561 hD576).2).lt hG576 | (exfalso; omega)
            refine r_goto hL (tgt := 869) dL_law_580 (by decide) ?_
            refine r_iinc hL (x := i) (lo' := [some (xA b), some (xR 0), some (xR 120), some (xI (i + 4))]) dL_law_869 (by decide) rfl rfl ?_
            refine r_goto hL (tgt := 18) dL_law_872 (by decide) ?_
            exact ih18 (i + 4) μ576c hB576c (by omega) hRL (by omega)
          · skip
            refine r_tableIn hL (tgt := 583) (off := 551) 15 dL_law_32 (by omega) e32 (by decide) (by decide) rfl (by decide) ?_
            refine r_aload_n hL (x := 0) dL_law_583 rfl ?_
            refine r_aAload_n hL (x := b) dL_law_584 rfl ?_
            refine r_iload_n hL (x := i) dL_law_585 rfl ?_
            refine r_iconst hL dL_law_586 ?_
            refine r_iadd hL dL_law_587 ?_
            refine hsl dL_law_588 (by omega) (by omega) (fun hr588 => ?_)
            obtain ⟨z588, hz588⟩ : ∃ z, z = sv (i + 1) := ⟨_, rfl⟩
            rw [← hz588] at hr588 ⊢
            refine r_callV hL (st := []) (av := [xI z588]) (k := 0) (m_X7_kind (μ := μ118) hB118 z588 (by omega) (fun z589 μ589c hB589c hG589 hC589 hx589 => ⟨rfl, ?_⟩)) ce_yX7_kind im_yX7_kind se_yX7_kind ml_L_77 xcl7 (by decide) s_0 dL_law_589 rfl (Nat.le_of_ble_eq_true rfl) ⟨Nat.le_of_ble_eq_true rfl, Nat.le_of_ble_eq_true rfl⟩ ⟨Nat.le_of_ble_eq_true rfl, Nat.le_of_ble_eq_true rfl⟩
            show X 138 3955 WW μ589c 592 [some (xA b), some (xR 0), some (xR 120), some (xI i)] [xI z589]
            refine r_pop hL dL_law_592 rfl ?_
            refine r_aload_n hL (x := 120) dL_law_593 rfl ?_
            refine r_aAload_n hL (x := b) dL_law_594 rfl ?_
            refine r_iload_n hL (x := i) dL_law_595 rfl ?_
            refine r_iconst hL dL_law_596 ?_
            refine r_iadd hL dL_law_597 ?_
            refine hsl dL_law_598 (by omega) (by omega) (fun hr598 => ?_)
            obtain ⟨z598, hz598⟩ : ∃ z, z = sv (i + 1) := ⟨_, rfl⟩
            rw [← hz598] at hr598 ⊢
            refine r_callV hL (st := []) (av := [xI z598]) (k := 120) (m_X8_kind (μ := μ589c) hB589c z598 (by omega) (fun z599 μ599c hB599c hG599 hD599 hx599 => ⟨rfl, ?_⟩)) ce_yX8_kind im_yX8_kind se_yX8_kind ml_L_80 xcl8 (by decide) s_120 dL_law_599 rfl (Nat.le_of_ble_eq_true rfl) ⟨Nat.le_of_ble_eq_true rfl, Nat.le_of_ble_eq_true rfl⟩ ⟨Nat.le_of_ble_eq_true rfl, Nat.le_of_ble_eq_true rfl⟩
            show X 138 3955 WW μ599c 602 [some (xA b), some (xR 0), some (xR 120), some (xI i)] [xI z599]
            refine r_pop hL dL_law_602 rfl ?_
            rw [hz588] at hC589
            rw [hz598] at hD599
            have hRL : Rel μ599c μ599c := by first | exact ((R_kind (hR118.rt hG589) hB118 hB589c hC589 hD599).2).lt hG599 | (exfalso; omega)
            refine r_goto hL (tgt := 869) dL_law_603 (by decide) ?_
            refine r_iinc hL (x := i) (lo' := [some (xA b), some (xR 0), some (xR 120), some (xI (i + 4))]) dL_law_869 (by decide) rfl rfl ?_
            refine r_goto hL (tgt := 18) dL_law_872 (by decide) ?_
            exact ih18 (i + 4) μ599c hB599c (by omega) hRL (by omega)
          · skip
            refine r_tableIn hL (tgt := 606) (off := 574) 16 dL_law_32 (by omega) e32 (by decide) (by decide) rfl (by decide) ?_
            refine r_aload_n hL (x := 0) dL_law_606 rfl ?_
            refine r_aAload_n hL (x := b) dL_law_607 rfl ?_
            refine r_iload_n hL (x := i) dL_law_608 rfl ?_
            refine r_iconst hL dL_law_609 ?_
            refine r_iadd hL dL_law_610 ?_
            refine hsl dL_law_611 (by omega) (by omega) (fun hr611 => ?_)
            obtain ⟨z611, hz611⟩ : ∃ z, z = sv (i + 1) := ⟨_, rfl⟩
            rw [← hz611] at hr611 ⊢
            refine r_aAload_n hL (x := b) dL_law_612 rfl ?_
            refine r_iload_n hL (x := i) dL_law_613 rfl ?_
            refine r_iconst hL dL_law_614 ?_
            refine r_iadd hL dL_law_615 ?_
            refine hsl dL_law_616 (by omega) (by omega) (fun hr616 => ?_)
            obtain ⟨z616, hz616⟩ : ∃ z, z = sv (i + 2) := ⟨_, rfl⟩
            rw [← hz616] at hr616 ⊢
            refine r_aAload_n hL (x := b) dL_law_617 rfl ?_
            refine r_iload_n hL (x := i) dL_law_618 rfl ?_
            refine r_iconst hL dL_law_619 ?_
            refine r_iadd hL dL_law_620 ?_
            refine hsl dL_law_621 (by omega) (by omega) (fun hr621 => ?_)
            obtain ⟨z621, hz621⟩ : ∃ z, z = sv (i + 3) := ⟨_, rfl⟩
            rw [← hz621] at hr621 ⊢
            refine r_if_eq hL (tgt := 629) dL_law_622 (by decide) (by omega) (fun c622 => ?_) (fun c622 => ?_)
            · skip
              refine r_iconst hL dL_law_629 ?_
              refine r_callV hL (st := []) (av := [xI z611, xI z616, xI 0]) (k := 0) (m_X7_road (μ := μ118) hB118 z611 (by omega) z616 (by omega) 0 (by omega) (fun z630 μ630c hB630c hG630 hC630 hx630 => ⟨rfl, ?_⟩)) ce_yX7_road im_yX7_road se_yX7_road ml_L_81 xcl7 (by decide) s_0 dL_law_630 rfl (Nat.le_of_ble_eq_true rfl) ⟨Nat.le_of_ble_eq_true rfl, Nat.le_of_ble_eq_true rfl⟩ ⟨Nat.le_of_ble_eq_true rfl, Nat.le_of_ble_eq_true rfl⟩
              show X 138 3955 WW μ630c 633 [some (xA b), some (xR 0), some (xR 120), some (xI i)] [xI z630]
              refine r_pop hL dL_law_633 rfl ?_
              refine r_aload_n hL (x := 120) dL_law_634 rfl ?_
              refine r_aAload_n hL (x := b) dL_law_635 rfl ?_
              refine r_iload_n hL (x := i) dL_law_636 rfl ?_
              refine r_iconst hL dL_law_637 ?_
              refine r_iadd hL dL_law_638 ?_
              refine hsl dL_law_639 (by omega) (by omega) (fun hr639 => ?_)
              obtain ⟨z639, hz639⟩ : ∃ z, z = sv (i + 1) := ⟨_, rfl⟩
              rw [← hz639] at hr639 ⊢
              refine r_aAload_n hL (x := b) dL_law_640 rfl ?_
              refine r_iload_n hL (x := i) dL_law_641 rfl ?_
              refine r_iconst hL dL_law_642 ?_
              refine r_iadd hL dL_law_643 ?_
              refine hsl dL_law_644 (by omega) (by omega) (fun hr644 => ?_)
              obtain ⟨z644, hz644⟩ : ∃ z, z = sv (i + 2) := ⟨_, rfl⟩
              rw [← hz644] at hr644 ⊢
              refine r_aAload_n hL (x := b) dL_law_645 rfl ?_
              refine r_iload_n hL (x := i) dL_law_646 rfl ?_
              refine r_iconst hL dL_law_647 ?_
              refine r_iadd hL dL_law_648 ?_
              refine hsl dL_law_649 (by omega) (by omega) (fun hr649 => ?_)
              obtain ⟨z649, hz649⟩ : ∃ z, z = sv (i + 3) := ⟨_, rfl⟩
              rw [← hz649] at hr649 ⊢
              refine r_if_eq hL (tgt := 657) dL_law_650 (by decide) (by omega) (fun c650 => ?_) (fun c650 => ?_)
              · skip
                refine r_iconst hL dL_law_657 ?_
                refine r_callV hL (st := []) (av := [xI z639, xI z644, xI 0]) (k := 120) (m_X8_road (μ := μ630c) hB630c z639 (by omega) z644 (by omega) 0 (by omega) (fun z658 μ658c hB658c hG658 hD658 hx658 => ⟨rfl, ?_⟩)) ce_yX8_road im_yX8_road se_yX8_road ml_L_85 xcl8 (by decide) s_120 dL_law_658 rfl (Nat.le_of_ble_eq_true rfl) ⟨Nat.le_of_ble_eq_true rfl, Nat.le_of_ble_eq_true rfl⟩ ⟨Nat.le_of_ble_eq_true rfl, Nat.le_of_ble_eq_true rfl⟩
                show X 138 3955 WW μ658c 661 [some (xA b), some (xR 0), some (xR 120), some (xI i)] [xI z658]
                refine r_pop hL dL_law_661 rfl ?_
                rw [hz611, hz616] at hC630
                rw [hz639, hz644] at hD658
                have hRL : Rel μ658c μ658c := by first | exact ((R_road (hR118.rt hG630) hB118 hB630c hC630 hD658).2).lt hG658 | (exfalso; omega)
                refine r_goto hL (tgt := 869) dL_law_662 (by decide) ?_
                refine r_iinc hL (x := i) (lo' := [some (xA b), some (xR 0), some (xR 120), some (xI (i + 4))]) dL_law_869 (by decide) rfl rfl ?_
                refine r_goto hL (tgt := 18) dL_law_872 (by decide) ?_
                exact ih18 (i + 4) μ658c hB658c (by omega) hRL (by omega)
              · skip
                refine r_iconst hL dL_law_653 ?_
                refine r_goto hL (tgt := 658) dL_law_654 (by decide) ?_
                refine r_callV hL (st := []) (av := [xI z639, xI z644, xI 1]) (k := 120) (m_X8_road (μ := μ630c) hB630c z639 (by omega) z644 (by omega) 1 (by omega) (fun z658 μ658c hB658c hG658 hD658 hx658 => ⟨rfl, ?_⟩)) ce_yX8_road im_yX8_road se_yX8_road ml_L_85 xcl8 (by decide) s_120 dL_law_658 rfl (Nat.le_of_ble_eq_true rfl) ⟨Nat.le_of_ble_eq_true rfl, Nat.le_of_ble_eq_true rfl⟩ ⟨Nat.le_of_ble_eq_true rfl, Nat.le_of_ble_eq_true rfl⟩
                show X 138 3955 WW μ658c 661 [some (xA b), some (xR 0), some (xR 120), some (xI i)] [xI z658]
                refine r_pop hL dL_law_661 rfl ?_
                rw [hz611, hz616] at hC630
                rw [hz639, hz644] at hD658
                have hRL : Rel μ658c μ658c := by first | exact ((R_road (hR118.rt hG630) hB118 hB630c hC630 hD658).2).lt hG658 | (exfalso; omega)
                refine r_goto hL (tgt := 869) dL_law_662 (by decide) ?_
                refine r_iinc hL (x := i) (lo' := [some (xA b), some (xR 0), some (xR 120), some (xI (i + 4))]) dL_law_869 (by decide) rfl rfl ?_
                refine r_goto hL (tgt := 18) dL_law_872 (by decide) ?_
                exact ih18 (i + 4) μ658c hB658c (by omega) hRL (by omega)
            · skip
              refine r_iconst hL dL_law_625 ?_
              refine r_goto hL (tgt := 630) dL_law_626 (by decide) ?_
              refine r_callV hL (st := []) (av := [xI z611, xI z616, xI 1]) (k := 0) (m_X7_road (μ := μ118) hB118 z611 (by omega) z616 (by omega) 1 (by omega) (fun z630 μ630c hB630c hG630 hC630 hx630 => ⟨rfl, ?_⟩)) ce_yX7_road im_yX7_road se_yX7_road ml_L_81 xcl7 (by decide) s_0 dL_law_630 rfl (Nat.le_of_ble_eq_true rfl) ⟨Nat.le_of_ble_eq_true rfl, Nat.le_of_ble_eq_true rfl⟩ ⟨Nat.le_of_ble_eq_true rfl, Nat.le_of_ble_eq_true rfl⟩
              show X 138 3955 WW μ630c 633 [some (xA b), some (xR 0), some (xR 120), some (xI i)] [xI z630]
              refine r_pop hL dL_law_633 rfl ?_
              refine r_aload_n hL (x := 120) dL_law_634 rfl ?_
              refine r_aAload_n hL (x := b) dL_law_635 rfl ?_
              refine r_iload_n hL (x := i) dL_law_636 rfl ?_
              refine r_iconst hL dL_law_637 ?_
              refine r_iadd hL dL_law_638 ?_
              refine hsl dL_law_639 (by omega) (by omega) (fun hr639 => ?_)
              obtain ⟨z639, hz639⟩ : ∃ z, z = sv (i + 1) := ⟨_, rfl⟩
              rw [← hz639] at hr639 ⊢
              refine r_aAload_n hL (x := b) dL_law_640 rfl ?_
              refine r_iload_n hL (x := i) dL_law_641 rfl ?_
              refine r_iconst hL dL_law_642 ?_
              refine r_iadd hL dL_law_643 ?_
              refine hsl dL_law_644 (by omega) (by omega) (fun hr644 => ?_)
              obtain ⟨z644, hz644⟩ : ∃ z, z = sv (i + 2) := ⟨_, rfl⟩
              rw [← hz644] at hr644 ⊢
              refine r_aAload_n hL (x := b) dL_law_645 rfl ?_
              refine r_iload_n hL (x := i) dL_law_646 rfl ?_
              refine r_iconst hL dL_law_647 ?_
              refine r_iadd hL dL_law_648 ?_
              refine hsl dL_law_649 (by omega) (by omega) (fun hr649 => ?_)
              obtain ⟨z649, hz649⟩ : ∃ z, z = sv (i + 3) := ⟨_, rfl⟩
              rw [← hz649] at hr649 ⊢
              refine r_if_eq hL (tgt := 657) dL_law_650 (by decide) (by omega) (fun c650 => ?_) (fun c650 => ?_)
              · skip
                refine r_iconst hL dL_law_657 ?_
                refine r_callV hL (st := []) (av := [xI z639, xI z644, xI 0]) (k := 120) (m_X8_road (μ := μ630c) hB630c z639 (by omega) z644 (by omega) 0 (by omega) (fun z658 μ658c hB658c hG658 hD658 hx658 => ⟨rfl, ?_⟩)) ce_yX8_road im_yX8_road se_yX8_road ml_L_85 xcl8 (by decide) s_120 dL_law_658 rfl (Nat.le_of_ble_eq_true rfl) ⟨Nat.le_of_ble_eq_true rfl, Nat.le_of_ble_eq_true rfl⟩ ⟨Nat.le_of_ble_eq_true rfl, Nat.le_of_ble_eq_true rfl⟩
                show X 138 3955 WW μ658c 661 [some (xA b), some (xR 0), some (xR 120), some (xI i)] [xI z658]
                refine r_pop hL dL_law_661 rfl ?_
                rw [hz611, hz616] at hC630
                rw [hz639, hz644] at hD658
                have hRL : Rel μ658c μ658c := by first | exact ((R_road (hR118.rt hG630) hB118 hB630c hC630 hD658).2).lt hG658 | (exfalso; omega)
                refine r_goto hL (tgt := 869) dL_law_662 (by decide) ?_
                refine r_iinc hL (x := i) (lo' := [some (xA b), some (xR 0), some (xR 120), some (xI (i + 4))]) dL_law_869 (by decide) rfl rfl ?_
                refine r_goto hL (tgt := 18) dL_law_872 (by decide) ?_
                exact ih18 (i + 4) μ658c hB658c (by omega) hRL (by omega)
              · skip
                refine r_iconst hL dL_law_653 ?_
                refine r_goto hL (tgt := 658) dL_law_654 (by decide) ?_
                refine r_callV hL (st := []) (av := [xI z639, xI z644, xI 1]) (k := 120) (m_X8_road (μ := μ630c) hB630c z639 (by omega) z644 (by omega) 1 (by omega) (fun z658 μ658c hB658c hG658 hD658 hx658 => ⟨rfl, ?_⟩)) ce_yX8_road im_yX8_road se_yX8_road ml_L_85 xcl8 (by decide) s_120 dL_law_658 rfl (Nat.le_of_ble_eq_true rfl) ⟨Nat.le_of_ble_eq_true rfl, Nat.le_of_ble_eq_true rfl⟩ ⟨Nat.le_of_ble_eq_true rfl, Nat.le_of_ble_eq_true rfl⟩
                show X 138 3955 WW μ658c 661 [some (xA b), some (xR 0), some (xR 120), some (xI i)] [xI z658]
                refine r_pop hL dL_law_661 rfl ?_
                rw [hz611, hz616] at hC630
                rw [hz639, hz644] at hD658
                have hRL : Rel μ658c μ658c := by first | exact ((R_road (hR118.rt hG630) hB118 hB630c hC630 hD658).2).lt hG658 | (exfalso; omega)
                refine r_goto hL (tgt := 869) dL_law_662 (by decide) ?_
                refine r_iinc hL (x := i) (lo' := [some (xA b), some (xR 0), some (xR 120), some (xI (i + 4))]) dL_law_869 (by decide) rfl rfl ?_
                refine r_goto hL (tgt := 18) dL_law_872 (by decide) ?_
                exact ih18 (i + 4) μ658c hB658c (by omega) hRL (by omega)
          · skip
            refine r_tableIn hL (tgt := 665) (off := 633) 17 dL_law_32 (by omega) e32 (by decide) (by decide) rfl (by decide) ?_
            refine r_aload_n hL (x := 0) dL_law_665 rfl ?_
            refine r_aAload_n hL (x := b) dL_law_666 rfl ?_
            refine r_iload_n hL (x := i) dL_law_667 rfl ?_
            refine r_iconst hL dL_law_668 ?_
            refine r_iadd hL dL_law_669 ?_
            refine hsl dL_law_670 (by omega) (by omega) (fun hr670 => ?_)
            obtain ⟨z670, hz670⟩ : ∃ z, z = sv (i + 1) := ⟨_, rfl⟩
            rw [← hz670] at hr670 ⊢
            refine r_aAload_n hL (x := b) dL_law_671 rfl ?_
            refine r_iload_n hL (x := i) dL_law_672 rfl ?_
            refine r_iconst hL dL_law_673 ?_
            refine r_iadd hL dL_law_674 ?_
            refine hsl dL_law_675 (by omega) (by omega) (fun hr675 => ?_)
            obtain ⟨z675, hz675⟩ : ∃ z, z = sv (i + 2) := ⟨_, rfl⟩
            rw [← hz675] at hr675 ⊢
            refine r_callV hL (st := []) (av := [xI z670, xI z675]) (k := 0) (m_X7_at (μ := μ118) hB118 z670 (by omega) z675 (by omega) (fun z676 μ676c hB676c hG676 hC676 hx676 => ⟨rfl, ?_⟩)) ce_yX7_at im_yX7_at se_yX7_at ml_L_86 xcl7 (by decide) s_0 dL_law_676 rfl (Nat.le_of_ble_eq_true rfl) ⟨Nat.le_of_ble_eq_true rfl, Nat.le_of_ble_eq_true rfl⟩ ⟨Nat.le_of_ble_eq_true rfl, Nat.le_of_ble_eq_true rfl⟩
            show X 138 3955 WW μ676c 679 [some (xA b), some (xR 0), some (xR 120), some (xI i)] [xI z676]
            refine r_pop hL dL_law_679 rfl ?_
            refine r_aload_n hL (x := 120) dL_law_680 rfl ?_
            refine r_aAload_n hL (x := b) dL_law_681 rfl ?_
            refine r_iload_n hL (x := i) dL_law_682 rfl ?_
            refine r_iconst hL dL_law_683 ?_
            refine r_iadd hL dL_law_684 ?_
            refine hsl dL_law_685 (by omega) (by omega) (fun hr685 => ?_)
            obtain ⟨z685, hz685⟩ : ∃ z, z = sv (i + 1) := ⟨_, rfl⟩
            rw [← hz685] at hr685 ⊢
            refine r_aAload_n hL (x := b) dL_law_686 rfl ?_
            refine r_iload_n hL (x := i) dL_law_687 rfl ?_
            refine r_iconst hL dL_law_688 ?_
            refine r_iadd hL dL_law_689 ?_
            refine hsl dL_law_690 (by omega) (by omega) (fun hr690 => ?_)
            obtain ⟨z690, hz690⟩ : ∃ z, z = sv (i + 2) := ⟨_, rfl⟩
            rw [← hz690] at hr690 ⊢
            refine r_callV hL (st := []) (av := [xI z685, xI z690]) (k := 120) (m_X8_at (μ := μ676c) hB676c z685 (by omega) z690 (by omega) (fun z691 μ691c hB691c hG691 hD691 hx691 => ⟨rfl, ?_⟩)) ce_yX8_at im_yX8_at se_yX8_at ml_L_89 xcl8 (by decide) s_120 dL_law_691 rfl (Nat.le_of_ble_eq_true rfl) ⟨Nat.le_of_ble_eq_true rfl, Nat.le_of_ble_eq_true rfl⟩ ⟨Nat.le_of_ble_eq_true rfl, Nat.le_of_ble_eq_true rfl⟩
            show X 138 3955 WW μ691c 694 [some (xA b), some (xR 0), some (xR 120), some (xI i)] [xI z691]
            refine r_pop hL dL_law_694 rfl ?_
            rw [hz670, hz675] at hC676
            rw [hz685, hz690] at hD691
            have hRL : Rel μ691c μ691c := by first | exact ((R_at (hR118.rt hG676) hB118 hB676c hC676 hD691).2).lt hG691 | (exfalso; omega)
            refine r_goto hL (tgt := 869) dL_law_695 (by decide) ?_
            refine r_iinc hL (x := i) (lo' := [some (xA b), some (xR 0), some (xR 120), some (xI (i + 4))]) dL_law_869 (by decide) rfl rfl ?_
            refine r_goto hL (tgt := 18) dL_law_872 (by decide) ?_
            exact ih18 (i + 4) μ691c hB691c (by omega) hRL (by omega)
          · skip
            refine r_tableIn hL (tgt := 698) (off := 666) 18 dL_law_32 (by omega) e32 (by decide) (by decide) rfl (by decide) ?_
            refine r_aload_n hL (x := 0) dL_law_698 rfl ?_
            refine r_aAload_n hL (x := b) dL_law_699 rfl ?_
            refine r_iload_n hL (x := i) dL_law_700 rfl ?_
            refine r_iconst hL dL_law_701 ?_
            refine r_iadd hL dL_law_702 ?_
            refine hsl dL_law_703 (by omega) (by omega) (fun hr703 => ?_)
            obtain ⟨z703, hz703⟩ : ∃ z, z = sv (i + 1) := ⟨_, rfl⟩
            rw [← hz703] at hr703 ⊢
            refine r_callV hL (st := []) (av := [xI z703]) (k := 0) (m_X7_drift (μ := μ118) hB118 z703 (by omega) (fun z704 μ704c hB704c hG704 hC704 hx704 => ⟨rfl, ?_⟩)) ce_yX7_drift im_yX7_drift se_yX7_drift ml_L_90 xcl7 (by decide) s_0 dL_law_704 rfl (Nat.le_of_ble_eq_true rfl) ⟨Nat.le_of_ble_eq_true rfl, Nat.le_of_ble_eq_true rfl⟩ ⟨Nat.le_of_ble_eq_true rfl, Nat.le_of_ble_eq_true rfl⟩
            show X 138 3955 WW μ704c 707 [some (xA b), some (xR 0), some (xR 120), some (xI i)] [xI z704]
            refine r_aload_n hL (x := 120) dL_law_707 rfl ?_
            refine r_aAload_n hL (x := b) dL_law_708 rfl ?_
            refine r_iload_n hL (x := i) dL_law_709 rfl ?_
            refine r_iconst hL dL_law_710 ?_
            refine r_iadd hL dL_law_711 ?_
            refine hsl dL_law_712 (by omega) (by omega) (fun hr712 => ?_)
            obtain ⟨z712, hz712⟩ : ∃ z, z = sv (i + 1) := ⟨_, rfl⟩
            rw [← hz712] at hr712 ⊢
            refine r_callV hL (st := [xI z704]) (av := [xI z712]) (k := 120) (m_X8_drift (μ := μ704c) hB704c z712 (by omega) (fun z713 μ713c hB713c hG713 hD713 hx713 => ⟨rfl, ?_⟩)) ce_yX8_drift im_yX8_drift se_yX8_drift ml_L_93 xcl8 (by decide) s_120 dL_law_713 rfl (Nat.le_of_ble_eq_true rfl) ⟨Nat.le_of_ble_eq_true rfl, Nat.le_of_ble_eq_true rfl⟩ ⟨Nat.le_of_ble_eq_true rfl, Nat.le_of_ble_eq_true rfl⟩
            show X 138 3955 WW μ713c 716 [some (xA b), some (xR 0), some (xR 120), some (xI i)] [xI z713, xI z704]
            rw [hz703] at hC704
            rw [hz712] at hD713
            refine r_icmp_eq hL (tgt := 869) dL_law_716 (by decide) (by omega) (by omega) (fun c716 => ?_) (fun c716 => ?_)
            · skip
              have hRL : Rel μ713c μ713c := by first | exact ((R_drift (hR118.rt hG704) hB118 hB704c hC704 hD713).2).lt hG713 | (exfalso; omega)
              refine r_iinc hL (x := i) (lo' := [some (xA b), some (xR 0), some (xR 120), some (xI (i + 4))]) dL_law_869 (by decide) rfl rfl ?_
              refine r_goto hL (tgt := 18) dL_law_872 (by decide) ?_
              exact ih18 (i + 4) μ713c hB713c (by omega) hRL (by omega)
            · skip
              exact absurd (by first | exact (R_drift (hR118.rt hG704) hB118 hB704c hC704 hD713).1 | (exfalso; omega)) c716
          · skip
            refine r_tableIn hL (tgt := 721) (off := 689) 19 dL_law_32 (by omega) e32 (by decide) (by decide) rfl (by decide) ?_
            refine r_aload_n hL (x := 0) dL_law_721 rfl ?_
            refine r_aAload_n hL (x := b) dL_law_722 rfl ?_
            refine r_iload_n hL (x := i) dL_law_723 rfl ?_
            refine r_iconst hL dL_law_724 ?_
            refine r_iadd hL dL_law_725 ?_
            refine hsl dL_law_726 (by omega) (by omega) (fun hr726 => ?_)
            obtain ⟨z726, hz726⟩ : ∃ z, z = sv (i + 1) := ⟨_, rfl⟩
            rw [← hz726] at hr726 ⊢
            refine r_callV hL (st := []) (av := [xI z726]) (k := 0) (m_X7_undo (μ := μ118) hB118 z726 (by omega) (fun z727 μ727c hB727c hG727 hC727 hx727 => ⟨rfl, ?_⟩)) ce_yX7_undo im_yX7_undo se_yX7_undo ml_L_94 xcl7 (by decide) s_0 dL_law_727 rfl (Nat.le_of_ble_eq_true rfl) ⟨Nat.le_of_ble_eq_true rfl, Nat.le_of_ble_eq_true rfl⟩ ⟨Nat.le_of_ble_eq_true rfl, Nat.le_of_ble_eq_true rfl⟩
            show X 138 3955 WW μ727c 730 [some (xA b), some (xR 0), some (xR 120), some (xI i)] [xI z727]
            refine r_pop hL dL_law_730 rfl ?_
            refine r_aload_n hL (x := 120) dL_law_731 rfl ?_
            refine r_aAload_n hL (x := b) dL_law_732 rfl ?_
            refine r_iload_n hL (x := i) dL_law_733 rfl ?_
            refine r_iconst hL dL_law_734 ?_
            refine r_iadd hL dL_law_735 ?_
            refine hsl dL_law_736 (by omega) (by omega) (fun hr736 => ?_)
            obtain ⟨z736, hz736⟩ : ∃ z, z = sv (i + 1) := ⟨_, rfl⟩
            rw [← hz736] at hr736 ⊢
            refine r_callV hL (st := []) (av := [xI z736]) (k := 120) (m_X8_undo (μ := μ727c) hB727c z736 (by omega) (fun z737 μ737c hB737c hG737 hD737 hx737 => ⟨rfl, ?_⟩)) ce_yX8_undo im_yX8_undo se_yX8_undo ml_L_97 xcl8 (by decide) s_120 dL_law_737 rfl (Nat.le_of_ble_eq_true rfl) ⟨Nat.le_of_ble_eq_true rfl, Nat.le_of_ble_eq_true rfl⟩ ⟨Nat.le_of_ble_eq_true rfl, Nat.le_of_ble_eq_true rfl⟩
            show X 138 3955 WW μ737c 740 [some (xA b), some (xR 0), some (xR 120), some (xI i)] [xI z737]
            refine r_pop hL dL_law_740 rfl ?_
            rw [hz726] at hC727
            rw [hz736] at hD737
            have hRL : Rel μ737c μ737c := by first | exact ((R_undo (hR118.rt hG727) hB118 hB727c hC727 hD737).2).lt hG737 | (exfalso; omega)
            refine r_goto hL (tgt := 869) dL_law_741 (by decide) ?_
            refine r_iinc hL (x := i) (lo' := [some (xA b), some (xR 0), some (xR 120), some (xI (i + 4))]) dL_law_869 (by decide) rfl rfl ?_
            refine r_goto hL (tgt := 18) dL_law_872 (by decide) ?_
            exact ih18 (i + 4) μ737c hB737c (by omega) hRL (by omega)
          · skip
            refine r_tableIn hL (tgt := 744) (off := 712) 20 dL_law_32 (by omega) e32 (by decide) (by decide) rfl (by decide) ?_
            refine r_aload_n hL (x := 0) dL_law_744 rfl ?_
            refine r_aAload_n hL (x := b) dL_law_745 rfl ?_
            refine r_iload_n hL (x := i) dL_law_746 rfl ?_
            refine r_iconst hL dL_law_747 ?_
            refine r_iadd hL dL_law_748 ?_
            refine hsl dL_law_749 (by omega) (by omega) (fun hr749 => ?_)
            obtain ⟨z749, hz749⟩ : ∃ z, z = sv (i + 1) := ⟨_, rfl⟩
            rw [← hz749] at hr749 ⊢
            refine r_aAload_n hL (x := b) dL_law_750 rfl ?_
            refine r_iload_n hL (x := i) dL_law_751 rfl ?_
            refine r_iconst hL dL_law_752 ?_
            refine r_iadd hL dL_law_753 ?_
            refine hsl dL_law_754 (by omega) (by omega) (fun hr754 => ?_)
            obtain ⟨z754, hz754⟩ : ∃ z, z = sv (i + 2) := ⟨_, rfl⟩
            rw [← hz754] at hr754 ⊢
            refine r_aAload_n hL (x := b) dL_law_755 rfl ?_
            refine r_iload_n hL (x := i) dL_law_756 rfl ?_
            refine r_iconst hL dL_law_757 ?_
            refine r_iadd hL dL_law_758 ?_
            refine hsl dL_law_759 (by omega) (by omega) (fun hr759 => ?_)
            obtain ⟨z759, hz759⟩ : ∃ z, z = sv (i + 3) := ⟨_, rfl⟩
            rw [← hz759] at hr759 ⊢
            refine r_callV hL (st := []) (av := [xI z749, xI z754, xI z759]) (k := 0) (m_X7_write (μ := μ118) hB118 z749 (by omega) z754 (by omega) z759 (by omega) (fun z760 μ760c hB760c hG760 hC760 hx760 => ⟨rfl, ?_⟩)) ce_yX7_write im_yX7_write se_yX7_write ml_L_98 xcl7 (by decide) s_0 dL_law_760 rfl (Nat.le_of_ble_eq_true rfl) ⟨Nat.le_of_ble_eq_true rfl, Nat.le_of_ble_eq_true rfl⟩ ⟨Nat.le_of_ble_eq_true rfl, Nat.le_of_ble_eq_true rfl⟩
            show X 138 3955 WW μ760c 763 [some (xA b), some (xR 0), some (xR 120), some (xI i)] [xI z760]
            refine r_pop hL dL_law_763 rfl ?_
            refine r_aload_n hL (x := 120) dL_law_764 rfl ?_
            refine r_aAload_n hL (x := b) dL_law_765 rfl ?_
            refine r_iload_n hL (x := i) dL_law_766 rfl ?_
            refine r_iconst hL dL_law_767 ?_
            refine r_iadd hL dL_law_768 ?_
            refine hsl dL_law_769 (by omega) (by omega) (fun hr769 => ?_)
            obtain ⟨z769, hz769⟩ : ∃ z, z = sv (i + 1) := ⟨_, rfl⟩
            rw [← hz769] at hr769 ⊢
            refine r_aAload_n hL (x := b) dL_law_770 rfl ?_
            refine r_iload_n hL (x := i) dL_law_771 rfl ?_
            refine r_iconst hL dL_law_772 ?_
            refine r_iadd hL dL_law_773 ?_
            refine hsl dL_law_774 (by omega) (by omega) (fun hr774 => ?_)
            obtain ⟨z774, hz774⟩ : ∃ z, z = sv (i + 2) := ⟨_, rfl⟩
            rw [← hz774] at hr774 ⊢
            refine r_aAload_n hL (x := b) dL_law_775 rfl ?_
            refine r_iload_n hL (x := i) dL_law_776 rfl ?_
            refine r_iconst hL dL_law_777 ?_
            refine r_iadd hL dL_law_778 ?_
            refine hsl dL_law_779 (by omega) (by omega) (fun hr779 => ?_)
            obtain ⟨z779, hz779⟩ : ∃ z, z = sv (i + 3) := ⟨_, rfl⟩
            rw [← hz779] at hr779 ⊢
            refine r_callV hL (st := []) (av := [xI z769, xI z774, xI z779]) (k := 120) (m_X8_write (μ := μ760c) hB760c z769 (by omega) z774 (by omega) z779 (by omega) (fun z780 μ780c hB780c hG780 hD780 hx780 => ⟨rfl, ?_⟩)) ce_yX8_write im_yX8_write se_yX8_write ml_L_101 xcl8 (by decide) s_120 dL_law_780 rfl (Nat.le_of_ble_eq_true rfl) ⟨Nat.le_of_ble_eq_true rfl, Nat.le_of_ble_eq_true rfl⟩ ⟨Nat.le_of_ble_eq_true rfl, Nat.le_of_ble_eq_true rfl⟩
            show X 138 3955 WW μ780c 783 [some (xA b), some (xR 0), some (xR 120), some (xI i)] [xI z780]
            refine r_pop hL dL_law_783 rfl ?_
            rw [hz749, hz754, hz759] at hC760
            rw [hz769, hz774, hz779] at hD780
            have hRL : Rel μ780c μ780c := by first | exact ((R_write (hR118.rt hG760) hB118 hB760c hC760 hD780).2).lt hG780 | (exfalso; omega)
            refine r_goto hL (tgt := 869) dL_law_784 (by decide) ?_
            refine r_iinc hL (x := i) (lo' := [some (xA b), some (xR 0), some (xR 120), some (xI (i + 4))]) dL_law_869 (by decide) rfl rfl ?_
            refine r_goto hL (tgt := 18) dL_law_872 (by decide) ?_
            exact ih18 (i + 4) μ780c hB780c (by omega) hRL (by omega)
          · skip
            refine r_tableIn hL (tgt := 787) (off := 755) 21 dL_law_32 (by omega) e32 (by decide) (by decide) rfl (by decide) ?_
            refine r_aload_n hL (x := 0) dL_law_787 rfl ?_
            refine r_callV hL (st := []) (av := []) (k := 0) (m_X7_tear (μ := μ118) hB118  (fun z788 μ788c hB788c hG788 hC788 hx788 => ⟨rfl, ?_⟩)) ce_yX7_tear im_yX7_tear se_yX7_tear ml_L_102 xcl7 (by decide) s_0 dL_law_788 rfl (Nat.le_of_ble_eq_true rfl) ⟨Nat.le_of_ble_eq_true rfl, Nat.le_of_ble_eq_true rfl⟩ ⟨Nat.le_of_ble_eq_true rfl, Nat.le_of_ble_eq_true rfl⟩
            show X 138 3955 WW μ788c 791 [some (xA b), some (xR 0), some (xR 120), some (xI i)] [xI z788]
            refine r_pop hL dL_law_791 rfl ?_
            refine r_aload_n hL (x := 120) dL_law_792 rfl ?_
            refine r_callV hL (st := []) (av := []) (k := 120) (m_X8_tear (μ := μ788c) hB788c  (fun z793 μ793c hB793c hG793 hD793 hx793 => ⟨rfl, ?_⟩)) ce_yX8_tear im_yX8_tear se_yX8_tear ml_L_105 xcl8 (by decide) s_120 dL_law_793 rfl (Nat.le_of_ble_eq_true rfl) ⟨Nat.le_of_ble_eq_true rfl, Nat.le_of_ble_eq_true rfl⟩ ⟨Nat.le_of_ble_eq_true rfl, Nat.le_of_ble_eq_true rfl⟩
            show X 138 3955 WW μ793c 796 [some (xA b), some (xR 0), some (xR 120), some (xI i)] [xI z793]
            refine r_pop hL dL_law_796 rfl ?_
            have hRL : Rel μ793c μ793c := by first | exact ((R_tear (hR118.rt hG788) hC788 hD793).2).lt hG793 | (exfalso; omega)
            refine r_goto hL (tgt := 869) dL_law_797 (by decide) ?_
            refine r_iinc hL (x := i) (lo' := [some (xA b), some (xR 0), some (xR 120), some (xI (i + 4))]) dL_law_869 (by decide) rfl rfl ?_
            refine r_goto hL (tgt := 18) dL_law_872 (by decide) ?_
            exact ih18 (i + 4) μ793c hB793c (by omega) hRL (by omega)
          · skip
            refine r_tableIn hL (tgt := 800) (off := 768) 22 dL_law_32 (by omega) e32 (by decide) (by decide) rfl (by decide) ?_
            refine r_aload_n hL (x := 0) dL_law_800 rfl ?_
            refine r_aAload_n hL (x := b) dL_law_801 rfl ?_
            refine r_iload_n hL (x := i) dL_law_802 rfl ?_
            refine r_iconst hL dL_law_803 ?_
            refine r_iadd hL dL_law_804 ?_
            refine hsl dL_law_805 (by omega) (by omega) (fun hr805 => ?_)
            obtain ⟨z805, hz805⟩ : ∃ z, z = sv (i + 1) := ⟨_, rfl⟩
            rw [← hz805] at hr805 ⊢
            refine r_callV hL (st := []) (av := [xI z805]) (k := 0) (m_X7_seed (μ := μ118) hB118 z805 (by omega) (fun z806 μ806c hB806c hG806 hC806 hx806 => ⟨rfl, ?_⟩)) ce_yX7_seed im_yX7_seed se_yX7_seed ml_L_106 xcl7 (by decide) s_0 dL_law_806 rfl (Nat.le_of_ble_eq_true rfl) ⟨Nat.le_of_ble_eq_true rfl, Nat.le_of_ble_eq_true rfl⟩ ⟨Nat.le_of_ble_eq_true rfl, Nat.le_of_ble_eq_true rfl⟩
            show X 138 3955 WW μ806c 809 [some (xA b), some (xR 0), some (xR 120), some (xI i)] [xI z806]
            refine r_pop hL dL_law_809 rfl ?_
            refine r_aload_n hL (x := 120) dL_law_810 rfl ?_
            refine r_aAload_n hL (x := b) dL_law_811 rfl ?_
            refine r_iload_n hL (x := i) dL_law_812 rfl ?_
            refine r_iconst hL dL_law_813 ?_
            refine r_iadd hL dL_law_814 ?_
            refine hsl dL_law_815 (by omega) (by omega) (fun hr815 => ?_)
            obtain ⟨z815, hz815⟩ : ∃ z, z = sv (i + 1) := ⟨_, rfl⟩
            rw [← hz815] at hr815 ⊢
            refine r_callV hL (st := []) (av := [xI z815]) (k := 120) (m_X8_seed (μ := μ806c) hB806c z815 (by omega) (fun z816 μ816c hB816c hG816 hD816 hx816 => ⟨rfl, ?_⟩)) ce_yX8_seed im_yX8_seed se_yX8_seed ml_L_109 xcl8 (by decide) s_120 dL_law_816 rfl (Nat.le_of_ble_eq_true rfl) ⟨Nat.le_of_ble_eq_true rfl, Nat.le_of_ble_eq_true rfl⟩ ⟨Nat.le_of_ble_eq_true rfl, Nat.le_of_ble_eq_true rfl⟩
            show X 138 3955 WW μ816c 819 [some (xA b), some (xR 0), some (xR 120), some (xI i)] [xI z816]
            refine r_pop hL dL_law_819 rfl ?_
            rw [hz805] at hC806
            rw [hz815] at hD816
            have hRL : Rel μ816c μ816c := by first | exact ((R_seed (hR118.rt hG806) hC806 hD816).2).lt hG816 | (exfalso; omega)
            refine r_goto hL (tgt := 869) dL_law_820 (by decide) ?_
            refine r_iinc hL (x := i) (lo' := [some (xA b), some (xR 0), some (xR 120), some (xI (i + 4))]) dL_law_869 (by decide) rfl rfl ?_
            refine r_goto hL (tgt := 18) dL_law_872 (by decide) ?_
            exact ih18 (i + 4) μ816c hB816c (by omega) hRL (by omega)
          · skip
            refine r_tableIn hL (tgt := 823) (off := 791) 23 dL_law_32 (by omega) e32 (by decide) (by decide) rfl (by decide) ?_
            refine r_aload_n hL (x := 0) dL_law_823 rfl ?_
            refine r_aAload_n hL (x := b) dL_law_824 rfl ?_
            refine r_iload_n hL (x := i) dL_law_825 rfl ?_
            refine r_iconst hL dL_law_826 ?_
            refine r_iadd hL dL_law_827 ?_
            refine hsl dL_law_828 (by omega) (by omega) (fun hr828 => ?_)
            obtain ⟨z828, hz828⟩ : ∃ z, z = sv (i + 1) := ⟨_, rfl⟩
            rw [← hz828] at hr828 ⊢
            refine r_callV hL (st := []) (av := [xI z828]) (k := 0) (m_X7_keep (μ := μ118) hB118 z828 (by omega) (fun z829 μ829c hB829c hG829 hC829 hx829 => ⟨rfl, ?_⟩)) ce_yX7_keep im_yX7_keep se_yX7_keep ml_L_110 xcl7 (by decide) s_0 dL_law_829 rfl (Nat.le_of_ble_eq_true rfl) ⟨Nat.le_of_ble_eq_true rfl, Nat.le_of_ble_eq_true rfl⟩ ⟨Nat.le_of_ble_eq_true rfl, Nat.le_of_ble_eq_true rfl⟩
            show X 138 3955 WW μ829c 832 [some (xA b), some (xR 0), some (xR 120), some (xI i)] [xI z829]
            refine r_pop hL dL_law_832 rfl ?_
            refine r_aload_n hL (x := 120) dL_law_833 rfl ?_
            refine r_aAload_n hL (x := b) dL_law_834 rfl ?_
            refine r_iload_n hL (x := i) dL_law_835 rfl ?_
            refine r_iconst hL dL_law_836 ?_
            refine r_iadd hL dL_law_837 ?_
            refine hsl dL_law_838 (by omega) (by omega) (fun hr838 => ?_)
            obtain ⟨z838, hz838⟩ : ∃ z, z = sv (i + 1) := ⟨_, rfl⟩
            rw [← hz838] at hr838 ⊢
            refine r_callV hL (st := []) (av := [xI z838]) (k := 120) (m_X8_keep (μ := μ829c) hB829c z838 (by omega) (fun z839 μ839c hB839c hG839 hD839 hx839 => ⟨rfl, ?_⟩)) ce_yX8_keep im_yX8_keep se_yX8_keep ml_L_113 xcl8 (by decide) s_120 dL_law_839 rfl (Nat.le_of_ble_eq_true rfl) ⟨Nat.le_of_ble_eq_true rfl, Nat.le_of_ble_eq_true rfl⟩ ⟨Nat.le_of_ble_eq_true rfl, Nat.le_of_ble_eq_true rfl⟩
            show X 138 3955 WW μ839c 842 [some (xA b), some (xR 0), some (xR 120), some (xI i)] [xI z839]
            refine r_pop hL dL_law_842 rfl ?_
            rw [hz828] at hC829
            rw [hz838] at hD839
            have hRL : Rel μ839c μ839c := by first | exact ((R_keep (hR118.rt hG829) hB829c hC829 hD839).2).lt hG839 | (exfalso; omega)
            refine r_goto hL (tgt := 869) dL_law_843 (by decide) ?_
            refine r_iinc hL (x := i) (lo' := [some (xA b), some (xR 0), some (xR 120), some (xI (i + 4))]) dL_law_869 (by decide) rfl rfl ?_
            refine r_goto hL (tgt := 18) dL_law_872 (by decide) ?_
            exact ih18 (i + 4) μ839c hB839c (by omega) hRL (by omega)
          · skip
            refine r_tableIn hL (tgt := 846) (off := 814) 24 dL_law_32 (by omega) e32 (by decide) (by decide) rfl (by decide) ?_
            refine r_aload_n hL (x := 0) dL_law_846 rfl ?_
            refine r_aAload_n hL (x := b) dL_law_847 rfl ?_
            refine r_iload_n hL (x := i) dL_law_848 rfl ?_
            refine r_iconst hL dL_law_849 ?_
            refine r_iadd hL dL_law_850 ?_
            refine hsl dL_law_851 (by omega) (by omega) (fun hr851 => ?_)
            obtain ⟨z851, hz851⟩ : ∃ z, z = sv (i + 1) := ⟨_, rfl⟩
            rw [← hz851] at hr851 ⊢
            refine r_callV hL (st := []) (av := [xI z851]) (k := 0) (m_X7_goBack (μ := μ118) hB118 z851 (by omega) (fun z852 μ852c hB852c hG852 hC852 hx852 => ⟨rfl, ?_⟩)) ce_yX7_goBack im_yX7_goBack se_yX7_goBack ml_L_114 xcl7 (by decide) s_0 dL_law_852 rfl (Nat.le_of_ble_eq_true rfl) ⟨Nat.le_of_ble_eq_true rfl, Nat.le_of_ble_eq_true rfl⟩ ⟨Nat.le_of_ble_eq_true rfl, Nat.le_of_ble_eq_true rfl⟩
            show X 138 3955 WW μ852c 855 [some (xA b), some (xR 0), some (xR 120), some (xI i)] [xI z852]
            refine r_pop hL dL_law_855 rfl ?_
            refine r_aload_n hL (x := 120) dL_law_856 rfl ?_
            refine r_aAload_n hL (x := b) dL_law_857 rfl ?_
            refine r_iload_n hL (x := i) dL_law_858 rfl ?_
            refine r_iconst hL dL_law_859 ?_
            refine r_iadd hL dL_law_860 ?_
            refine hsl dL_law_861 (by omega) (by omega) (fun hr861 => ?_)
            obtain ⟨z861, hz861⟩ : ∃ z, z = sv (i + 1) := ⟨_, rfl⟩
            rw [← hz861] at hr861 ⊢
            refine r_callV hL (st := []) (av := [xI z861]) (k := 120) (m_X8_goBack (μ := μ852c) hB852c z861 (by omega) (fun z862 μ862c hB862c hG862 hD862 hx862 => ⟨rfl, ?_⟩)) ce_yX8_goBack im_yX8_goBack se_yX8_goBack ml_L_117 xcl8 (by decide) s_120 dL_law_862 rfl (Nat.le_of_ble_eq_true rfl) ⟨Nat.le_of_ble_eq_true rfl, Nat.le_of_ble_eq_true rfl⟩ ⟨Nat.le_of_ble_eq_true rfl, Nat.le_of_ble_eq_true rfl⟩
            show X 138 3955 WW μ862c 865 [some (xA b), some (xR 0), some (xR 120), some (xI i)] [xI z862]
            refine r_pop hL dL_law_865 rfl ?_
            rw [hz851] at hC852
            rw [hz861] at hD862
            have hRL : Rel μ862c μ862c := by first | exact ((R_goBack (hR118.rt hG852) hB852c hC852 hD862).2).lt hG862 | (exfalso; omega)
            refine r_goto hL (tgt := 869) dL_law_866 (by decide) ?_
            refine r_iinc hL (x := i) (lo' := [some (xA b), some (xR 0), some (xR 120), some (xI (i + 4))]) dL_law_869 (by decide) rfl rfl ?_
            refine r_goto hL (tgt := 18) dL_law_872 (by decide) ?_
            exact ih18 (i + 4) μ862c hB862c (by omega) hRL (by omega)
        · skip
          refine r_tableOut hL (tgt := 869) dL_law_32 (by omega) (by omega) (by decide) ?_
          refine r_iinc hL (x := i) (lo' := [some (xA b), some (xR 0), some (xR 120), some (xI (i + 4))]) dL_law_869 (by decide) rfl rfl ?_
          refine r_goto hL (tgt := 18) dL_law_872 (by decide) ?_
          exact ih18 (i + 4) μ118 hB118 (by omega) hRL (by omega)
  exact lp18 _ 0 μ2 hB2 (by omega) hR2 (Nat.lt_succ_self _)
theorem BI_0 : BI (fun _ _ => 0) := by
  intro k j
  show bd (bk k) j 0
  unfold bd
  split <;> first | trivial | omega
set_option maxHeartbeats 4000000 in
set_option maxRecDepth 20000 in
theorem law_all {nm : String} {X : Nat → Nat → xW → xM → Nat → xLoc → List xV → Prop} (hL : Lg RL nm code 4 room_1 (some .boolean) 600000 7302250 (fun r _ _ => r = some (xI 1)) X) (b Ln : Nat) (hLn : Ln ≤ 2048) (sv : Int → Int) (hsl : ∀ {cu su : Nat} {w : xW} {μ : xM} {pc : Nat} {lo : xLoc} {st : List xV} {i : Int}, decode code pc = .ok (.iaload, 1) → 0 ≤ i → i < (Ln : Int) → (xrg (sv i) → X cu su w μ (pc + 1) lo (xI (sv i) :: st)) → X cu su w μ pc lo (xI i :: xA b :: st)) (hsn : ∀ {cu su : Nat} {w : xW} {μ : xM} {pc : Nat} {lo : xLoc} {st : List xV}, decode code pc = .ok (.arraylength, 1) → X cu su w μ (pc + 1) lo (xI (Ln : Int) :: st) → X cu su w μ pc lo (xA b :: st)) : X 0 0 (0, xSH, fun _ _ => -1) (fun _ _ => 0) 0 [some (xA b), none, none, none] [] := by
  refine r_new hL xcl7 dL_law_0 kk_L_7 in_RX7 it_TaleTypes df_7 s_0 (fun j => rfl) (fun j => rfl) (show True from trivial) (show True from trivial) ⟨Nat.le_of_ble_eq_true rfl, Nat.le_of_ble_eq_true rfl⟩ ?_
  show X 1 10 (1, xSH, fun _ _ => -1) (fun _ _ => 0) 3 [some (xA b), none, none, none] [xR 0]
  refine r_dup hL dL_law_3 rfl ?_
  refine r_callI hL (st := [xR 0]) (k := 0) (m_X7_init (μ := fun _ _ => 0) (fun _ _ => -1) ⟨fun _ _ _ => rfl, fun _ _ _ => rfl, BI_0, fun _ _ _ => rfl⟩ (fun wn μ1 hCK => ⟨rfl, ?_⟩)) ce_yX7_init rfl im_yX7_init ml_L_9 dL_law_4 (show 0 < 1 ∧ True from ⟨by omega, trivial⟩) (show True from trivial) (Nat.le_of_ble_eq_true rfl) ⟨Nat.le_of_ble_eq_true rfl, Nat.le_of_ble_eq_true rfl⟩ ⟨Nat.le_of_ble_eq_true rfl, Nat.le_of_ble_eq_true rfl⟩
  obtain ⟨rg, rfl, hl, hm, hf, hz, hB, hp, hca, hcb⟩ := hCK
  show X 120 1271 (120, xSH, rg) μ1 7 [some (xA b), none, none, none] [xR 0]
  refine r_astore_n hL (lo' := [some (xA b), some (xR 0), none, none]) dL_law_7 (by decide) rfl ?_
  refine r_new hL xcl8 dL_law_8 kk_L_10 in_RX8 it_TaleTypesModel df_8 s_120 (fun j => hf 120 j (by omega)) (fun j => hz 120 j (by omega)) (show True from trivial) (show 0 < 120 ∧ True from ⟨by omega, trivial⟩) ⟨Nat.le_of_ble_eq_true rfl, Nat.le_of_ble_eq_true rfl⟩ ?_
  show X 121 1295 (121, xSH, rg) μ1 11 [some (xA b), some (xR 0), none, none] [xR 120]
  refine r_dup hL dL_law_11 rfl ?_
  refine r_callI hL (st := [xR 120]) (k := 120) (m_X8_init (μ := μ1) rg ⟨fun k j hk => hf k j (by omega), fun k j hk => hz k j (by omega), hB⟩ (fun wn μ2 hCK => ⟨rfl, ?_⟩)) ce_yX8_init rfl im_yX8_init ml_L_12 dL_law_12 (show 120 < 121 ∧ True from ⟨by omega, trivial⟩) (show 0 < 121 ∧ True from ⟨by omega, trivial⟩) (Nat.le_of_ble_eq_true rfl) ⟨Nat.le_of_ble_eq_true rfl, Nat.le_of_ble_eq_true rfl⟩ ⟨Nat.le_of_ble_eq_true rfl, Nat.le_of_ble_eq_true rfl⟩
  obtain ⟨r2, rfl, hl2, hm2, hf2, hz2, hB2, hp2, hca2, hcb2⟩ := hCK
  show X 138 3955 (138, xSH, r2) μ2 15 [some (xA b), some (xR 0), none, none] [xR 120]
  refine r_weq hL (w' := WW) rfl (fun _ _ => rfl) (fun k j hk => ?_) ?_
  · have hk : k < 138 := hk
    by_cases h : k < 120
    · show xRF k j = r2 k j
      rw [hl2 k j h]; exact (hm k j (by omega) h).symm
    · show xRF k j = r2 k j
      exact (hm2 k j (by omega) hk).symm
  refine r_astore_n hL (lo' := [some (xA b), some (xR 0), some (xR 120), none]) dL_law_15 (by decide) rfl ?_
  refine r_iconst hL dL_law_16 ?_
  refine r_istore_n hL (lo' := [some (xA b), some (xR 0), some (xR 120), some (xI 0)]) dL_law_17 (by decide) rfl ?_
  exact law_loop hL b Ln hLn sv hsl hsn μ2 hB2.1 (Rel_0 hB2 ((hca (by omega)).keep (fun j => hp2 4 j (by omega))) (hcb2 rfl))
