/-! ===== calls ===== -/
/-- what the tables say of a method that is called -/
def xCe (y : MethodName) (cc : ByteArray) (maxL : Nat) (ret : Option FieldType) (n : Nat) : Prop := xWd (.code y cc maxL ret) ∧ xWd (.initialized y.cls) ∧ (y.cls ≠ "java/lang/invoke/MethodHandle" ∧ y.cls ≠ "java/lang/invoke/VarHandle") ∧ (parseMethodDescriptor y.desc).map (fun d => d.parameters.length) = some n
def xcs (st : List xV) : Nat := (st.map fun v => if xlg (some (some v)) then 2 else 1).sum
theorem xcs_cat (ad : Nat → Nat) : ∀ st : List xV, ((st.map (xt ad)).map fun v => v.category).sum = xcs st := by
  intro st
  induction st with
  | nil => rfl
  | cons a l ih =>
    simp only [xcs, List.map_cons, List.sum_cons] at ih ⊢
    rw [ih]
    congr 1
    match a with
    | .inl _ => rfl
    | .inr (.inl _) => rfl
    | .inr (.inr (.inl _)) => rfl
    | .inr (.inr (.inr _)) => rfl
section
variable {p : Program} {l : Launch} {e : Env} {R : Room} {s : State} {m : MethodId} {args : Array Value} {below : List Frame} {meth : Method} {c : Code} {H : Heap} {locs : List Loc} {cells slots : Nat} {Q : State → Prop}
/-- behind a call -/
theorem xcall {g : xG} {w : xW} {μ : xM} {ad : Nat → Nat} {A : Nat → Prop} {K : Option xV → xW → xM → Prop} {mc ms pc : Nat} {ls : Array Slot} {st0 rest : List Value} {a : Array Value} (hr : va_Run p l e R s m args below meth c H locs cells slots mc ms (F0 m pc ls st0) rest (xQ g w ad (xAs w ad H.size) K a) (xAs w ad H.size))
    (hS : va_S A s.heap H locs) (hD : va_D A (xw g w μ ad)) (hA : ∀ q, s.heap.size ≤ q → A q)
    (kk : ∀ (r : Option xV) (w' : xW) (μ' : xM) (ad' : Nat → Nat) (H1 : Heap) (locs1 : List Loc), K r w' μ' → w.1 ≤ w'.1 → (∀ k, k < w.1 → ad' k = ad k) → (w'.1 = w.1 → ad' = ad) → va_P g.1 vwCl (xw g w' μ' ad') H1 → va_D A (xw g w' μ' ad') → va_S A s.heap H1 locs1 → xok w' μ' → W p l e R s m args below meth c H1 locs1 (cells + mc) (slots + ms) Q (F0 m (pc + 3) ls ((r.map (xt ad')).toList ++ rest))) : W p l e R s m args below meth c H locs cells slots Q (F0 m pc ls st0) := by
  have hAA : ∀ q, xAs w ad H.size q → A q := by
    intro q h
    rcases h with ⟨k, hk, rfl⟩ | h
    · exact hD.2 k _ (xw_get hk)
    · exact hA q (Nat.le_trans hS.1 h)
  intro T hT X
  obtain ⟨v, st₀, t, T', L, h0, X', hL, e1, e2, ⟨⟨r, w', μ', ad', hv, hk, b1, b2, b3, hP1, hD1, hok1⟩, hz, hkp⟩, st⟩ := hr T hT X
  rw [h0] at hz hkp
  have hv' : v = r.map (xt ad') := Outcome.returned.inj hv
  subst hv'
  obtain ⟨t2, c1, c2⟩ := kk r w' μ' ad' T'.heap (locs ++ L) hk b1 b2 b3 (by rw [e1]; exact hP1) (hD1.weaken fun _ _ _ h => hAA _ h)
    ⟨Nat.le_trans hS.1 (by rw [e1]; exact hz), fun q h1 h2 => by rw [e1, hkp q (Nat.lt_of_lt_of_le h1 hS.1) (fun z => h2 (hAA q z))]; exact hS.2.1 q h1 h2, fun q hq => by
      rcases List.mem_append.mp hq with h | h
      · exact hS.2.2 q h
      · exact hAA _ (hL q h)⟩ hok1 T' rfl X'
  exact ⟨t2, st t2 c1, c2⟩
/-- the start of a callee -/
theorem xpre {g : xG} {w : xW} {μ : xM} {ad : Nat → Nat} {A : Nat → Prop} (hT : xTab s) (hK : va_K g.1 vwCl (xtys g) s) (hSt : xSt g A s s.heap) (hA : ∀ q, s.heap.size ≤ q → A q) (hP : va_P g.1 vwCl (xw g w μ ad) H) (hD : va_D A (xw g w μ ad)) (hS : va_S A s.heap H locs) (hok : xok w μ) (U : State) (hU : U.heap = H) (hW : s.WarmedH U.vm) : xPre g w μ ad H.size U := by
  refine ⟨by rw [hU], hT.warm hW, va_K.moved hW.alike hK, ?_, by rw [hU]; exact hP, hD.weaken fun _ _ _ _ => trivial, hok⟩
  rw [hU]
  refine ((hSt.kept hS.2.1).narrow fun q h => ?_).moved hW.alike
  rcases h with ⟨k, hk, rfl⟩ | h
  · exact hD.2 k _ (xw_get hk)
  · exact hA q (Nat.le_trans hS.1 h)
theorem xblind {g : xG} {w : xW} {μ : xM} {ad : Nat → Nat} {sz : Nat} {av : List Value} : FrameBlind (va_Pc av (xPre g w μ ad sz)) := fun _ U _ _ h => ⟨h.1, h.2.moved (State.WarmedH.refl U) rfl⟩
end
theorem xret (ad : Nat → Nat) (r : Option xV) (st : List xV) : (r.map (xt ad)).toList ++ st.map (xt ad) = (r.toList ++ st).map (xt ad) := by cases r <;> rfl
section
variable {own nm : String} {cc : ByteArray} {nL : Nat} {R : Room} {ret : Option FieldType} {mc ms : Nat} {K : Option xV → xW → xM → Prop} {X : Nat → Nat → xW → xM → Nat → xLoc → List xV → Prop}
variable {cu su : Nat} {w : xW} {μ : xM} {pc : Nat} {lo : xLoc} {st stk : List xV} {ci N : Nat} {C : String} {T : u_T} {ty : Nat → FieldType}
variable {y : MethodName} {b : ByteArray} {maxL fr lc i : Nat} {rt : Option FieldType} {av : List xV}
/-- a static method that makes nothing -/
theorem r_callS (hL : Lg own nm cc nL R ret mc ms K X) (hM : xMet y b maxL rt fr lc 0 0 av w μ (fun r w' μ' => w' = w ∧ X cu su w μ' (pc + 3) lo (r.toList ++ st))) (he : xCe y b maxL rt av.length) (hst : xWd (.static y)) (hl : xWd (.methodLink own i y)) (hd : decode cc pc = .ok (.invokestatic i, 3)) (hstk : stk = av.reverse ++ st) (hcs : xcs st ≤ 8) (hR : fr + 1 ≤ R.frames ∧ 8 + (maxL + 11) + lc ≤ R.locals) (hcu : cu ≤ R.cells ∧ su ≤ R.slots) : X cu su w μ pc lo stk := by
  subst hstk
  obtain ⟨p, l, e, s, m, args, below, meth, c, g, w0, ad0, A, ⟨hx, hb, hml, hown, hT, hK, hSt, hA⟩, hr, hlk, hnm, rfl⟩ := hL
  intro H locs ls ad a1 a2 a3 hP hD hS hok hlo
  obtain ⟨h1, h2, h3, h4⟩ := he
  refine xcall (va_runS (Ts := []) (As := av.map (xt ad)) (rest := st.map (xt ad)) (n := av.length) ⟨hx, hb, hml, hown, fun _ h => by cases h⟩ (hM l g ad H.size) ⟨⟨rfl, rfl, hR.1, hR.2, fun q hq a' U hW => by rw [List.mem_singleton.mp hq]; exact hT.warm hW _ h1 _, List.mem_singleton.mpr rfl, hT _ h1 _, hT _ h2 _, h3, fun sig h => ?_, hT _ hl _⟩, hT _ hst _⟩
    ⟨xblind, fun U hU hW => ⟨rfl, xpre hT hK hSt hA hP hD hS hok U hU hW⟩⟩ rfl (List.length_map ..) hlo.1 (by show List.map (xt ad) (av.reverse ++ st) = _; rw [List.map_append, List.map_reverse]) (lv_room (by rw [xcs_cat]; exact hcs)) hd ⟨hcu.1, hcu.2⟩) hS hD hA (fun r w' μ' ad' H1 locs1 hk b1 b2 b3 hP1 hD1 hS1 hok1 => ?_)
  · rw [h] at h4; exact (Option.some.inj h4).symm
  · obtain ⟨rfl, hk⟩ := hk
    have := b3 rfl
    subst this
    rw [xret]
    exact hk H1 locs1 ls ad' a1 a2 a3 hP1 hD1 hS1 hok1 hlo
/-- .. of a nest mate -/
theorem r_callSN (hL : Lg own nm cc nL R ret mc ms K X) (hM : xMet y b maxL rt fr lc 0 0 av w μ (fun r w' μ' => w' = w ∧ X cu su w μ' (pc + 3) lo (r.toList ++ st))) (he : xCe y b maxL rt av.length) (hst : xWd (.static y)) {host : String} (hl : xWd (.methodLinkNest own i y host)) (hd : decode cc pc = .ok (.invokestatic i, 3)) (hstk : stk = av.reverse ++ st) (hcs : xcs st ≤ 8) (hR : fr + 1 ≤ R.frames ∧ 8 + (maxL + 11) + lc ≤ R.locals) (hcu : cu ≤ R.cells ∧ su ≤ R.slots) : X cu su w μ pc lo stk := by
  subst hstk
  obtain ⟨p, l, e, s, m, args, below, meth, c, g, w0, ad0, A, ⟨hx, hb, hml, hown, hT, hK, hSt, hA⟩, hr, hlk, hnm, rfl⟩ := hL
  intro H locs ls ad a1 a2 a3 hP hD hS hok hlo
  obtain ⟨h1, h2, h3, h4⟩ := he
  refine xcall (va_runSN (Ts := []) (As := av.map (xt ad)) (rest := st.map (xt ad)) (n := av.length) ⟨hx, hb, hml, hown, fun _ h => by cases h⟩ (hM l g ad H.size) ⟨⟨⟨rfl, rfl, hR.1, hR.2, fun q hq a' U hW => by rw [List.mem_singleton.mp hq]; exact hT.warm hW _ h1 _, List.mem_singleton.mpr rfl⟩, hT _ h1 _, hT _ h2 _, h3, fun sig h => ?_, hT _ hl _⟩, hT _ hst _, trivial⟩
    ⟨xblind, fun U hU hW => ⟨rfl, xpre hT hK hSt hA hP hD hS hok U hU hW⟩⟩ rfl (List.length_map ..) hlo.1 (by show List.map (xt ad) (av.reverse ++ st) = _; rw [List.map_append, List.map_reverse]) (lv_room (by rw [xcs_cat]; exact hcs)) hd ⟨hcu.1, hcu.2⟩) hS hD hA (fun r w' μ' ad' H1 locs1 hk b1 b2 b3 hP1 hD1 hS1 hok1 => ?_)
  · rw [h] at h4; exact (Option.some.inj h4).symm
  · obtain ⟨rfl, hk⟩ := hk
    have := b3 rfl
    subst this
    rw [xret]
    exact hk H1 locs1 ls ad' a1 a2 a3 hP1 hD1 hS1 hok1 hlo
/-- a method of an object -/
theorem r_callV (hL : Lg own nm cc nL R ret mc ms K X) {k : Nat} (hM : xMet y b maxL rt fr lc 0 0 (xR k :: av) w μ (fun r w' μ' => w' = w ∧ X cu su w μ' (pc + 3) lo (r.toList ++ st))) (he : xCe y b maxL rt av.length) (hst : xWd (.instanceMethod y)) (hse : xWd (.selects C y y)) (hl : xWd (.methodLink own i y)) (hc : xCl ci C T N ty) (hk : k < w.1) (hs : w.2.1 k = (0, ci)) (hd : decode cc pc = .ok (.invokevirtual i, 3)) (hstk : stk = av.reverse ++ xR k :: st) (hcs : xcs st ≤ 8) (hR : fr + 1 ≤ R.frames ∧ 8 + (maxL + 11) + lc ≤ R.locals) (hcu : cu ≤ R.cells ∧ su ≤ R.slots) : X cu su w μ pc lo stk := by
  subst hstk
  obtain ⟨p, l, e, s, m, args, below, meth, c, g, w0, ad0, A, ⟨hx, hb, hml, hown, hT, hK, hSt, hA⟩, hr, hlk, hnm, rfl⟩ := hL
  intro H locs ls ad a1 a2 a3 hP hD hS hok hlo
  obtain ⟨h1, h2, h3, h4⟩ := he
  refine xcall (va_runV (Ts := []) (C := C) (b := ad k) (As := av.map (xt ad)) (rest := st.map (xt ad)) (n := av.length) ⟨hx, hb, hml, hown, fun _ h => by cases h⟩ (hM l g ad H.size) ⟨⟨rfl, rfl, hR.1, hR.2, fun q hq a' U hW => by rw [List.mem_singleton.mp hq]; exact hT.warm hW _ h1 _, List.mem_singleton.mpr rfl, hT _ h1 _, hT _ h2 _, h3, fun sig h => ?_, hT _ hl _⟩, hT _ hst _, hT _ hse _⟩
    ⟨xblind, va_recv hK hP hc.1 (xw_o hk hs), fun U hU hW => ⟨rfl, xpre hT hK hSt hA hP hD hS hok U hU hW⟩⟩ rfl (List.length_map ..) hlo.1 (by show List.map (xt ad) (av.reverse ++ xR k :: st) = _; rw [List.map_append, List.map_reverse]; rfl) (lv_room (by rw [xcs_cat]; exact hcs)) hd ⟨hcu.1, hcu.2⟩) hS hD hA (fun r w' μ' ad' H1 locs1 hk b1 b2 b3 hP1 hD1 hS1 hok1 => ?_)
  · rw [h] at h4; exact (Option.some.inj h4).symm
  · obtain ⟨rfl, hk⟩ := hk
    have := b3 rfl
    subst this
    rw [xret]
    exact hk H1 locs1 ls ad' a1 a2 a3 hP1 hD1 hS1 hok1 hlo
/-! the JDK's -/
theorem xif_min {x y : Int} (hx : xrg x) (hy : xrg y) : (if Int32.ofInt y < Int32.ofInt x then Int32.ofInt y else Int32.ofInt x) = Int32.ofInt (min x y) := by
  by_cases h : y < x
  · rw [if_pos ((xn_lt hy hx).mpr h), show min x y = y by omega]
  · rw [if_neg (fun q => h ((xn_lt hy hx).mp q)), show min x y = x by omega]
theorem xif_max {x y : Int} (hx : xrg x) (hy : xrg y) : (if Int32.ofInt x < Int32.ofInt y then Int32.ofInt y else Int32.ofInt x) = Int32.ofInt (max x y) := by
  by_cases h : x < y
  · rw [if_pos ((xn_lt hx hy).mpr h), show max x y = y by omega]
  · rw [if_neg (fun q => h ((xn_lt hx hy).mp q)), show max x y = x by omega]
theorem r_min (hL : Lg own nm cc nL R ret mc ms K X) {x y : Int} (hx0 : xrg x) (hy0 : xrg y) (hl : xWd (.methodLink own i Lib.Math.min.name)) (hst : xWd (.static Lib.Math.min.name)) (hi : xWd (.initialized "java/lang/Math")) (hc : xWd (.code Lib.Math.min.name Lib.Math.min.code 2 (some .int))) (hd : decode cc pc = .ok (.invokestatic i, 3)) (hR : 1 ≤ R.frames ∧ xcs st + 13 ≤ R.locals) (hcu : cu ≤ R.cells ∧ su ≤ R.slots) (k : X cu su w μ (pc + 3) lo (xI (min x y) :: st)) : X cu su w μ pc lo (xI y :: xI x :: st) := by
  obtain ⟨p, l, e, s, m, args, below, meth, c, g, w0, ad0, A, ⟨hx, hb, hml, hown, hT, hK, hSt, hA⟩, hr, hlk, hnm, rfl⟩ := hL
  intro H locs ls ad a1 a2 a3 hP hD hS hok hlo
  have kk := k H locs ls ad a1 a2 a3 hP hD hS hok hlo
  simp only [List.map_cons, xt] at kk ⊢
  refine va_mmin hx hb (hml.trans hlo.1.symm) hown (hT _ hl _) (hT _ hst _) (hT _ hi _) (hT _ hc _) hR.1 (by rw [xcs_cat]; exact hR.2) hcu.1 hcu.2 hd ?_
  rw [xif_min hx0 hy0]
  exact kk
theorem r_max (hL : Lg own nm cc nL R ret mc ms K X) {x y : Int} (hx0 : xrg x) (hy0 : xrg y) (hl : xWd (.methodLink own i Lib.Math.max.name)) (hst : xWd (.static Lib.Math.max.name)) (hi : xWd (.initialized "java/lang/Math")) (hc : xWd (.code Lib.Math.max.name Lib.Math.max.code 2 (some .int))) (hd : decode cc pc = .ok (.invokestatic i, 3)) (hR : 1 ≤ R.frames ∧ xcs st + 13 ≤ R.locals) (hcu : cu ≤ R.cells ∧ su ≤ R.slots) (k : X cu su w μ (pc + 3) lo (xI (max x y) :: st)) : X cu su w μ pc lo (xI y :: xI x :: st) := by
  obtain ⟨p, l, e, s, m, args, below, meth, c, g, w0, ad0, A, ⟨hx, hb, hml, hown, hT, hK, hSt, hA⟩, hr, hlk, hnm, rfl⟩ := hL
  intro H locs ls ad a1 a2 a3 hP hD hS hok hlo
  have kk := k H locs ls ad a1 a2 a3 hP hD hS hok hlo
  simp only [List.map_cons, xt] at kk ⊢
  refine va_mmax hx hb (hml.trans hlo.1.symm) hown (hT _ hl _) (hT _ hst _) (hT _ hi _) (hT _ hc _) hR.1 (by rw [xcs_cat]; exact hR.2) hcu.1 hcu.2 hd ?_
  rw [xif_max hx0 hy0]
  exact kk
theorem r_abs (hL : Lg own nm cc nL R ret mc ms K X) {x : Int} (hx0 : xrg x) (hl : xWd (.methodLink own i Lib.Math.abs.name)) (hst : xWd (.static Lib.Math.abs.name)) (hi : xWd (.initialized "java/lang/Math")) (hc : xWd (.code Lib.Math.abs.name Lib.Math.abs.code 1 (some .int))) (hd : decode cc pc = .ok (.invokestatic i, 3)) (hR : 1 ≤ R.frames ∧ xcs st + 13 ≤ R.locals) (hcu : cu ≤ R.cells ∧ su ≤ R.slots) (k : X cu su w μ (pc + 3) lo (xI (if 0 ≤ x then x else 0 - x) :: st)) : X cu su w μ pc lo (xI x :: st) := by
  obtain ⟨p, l, e, s, m, args, below, meth, c, g, w0, ad0, A, ⟨hx, hb, hml, hown, hT, hK, hSt, hA⟩, hr, hlk, hnm, rfl⟩ := hL
  intro H locs ls ad a1 a2 a3 hP hD hS hok hlo
  have kk := k H locs ls ad a1 a2 a3 hP hD hS hok hlo
  simp only [List.map_cons, xt] at kk ⊢
  refine va_mabs hx hb (hml.trans hlo.1.symm) hown (hT _ hl _) (hT _ hst _) (hT _ hi _) (hT _ hc _) hR.1 (by rw [xcs_cat]; exact hR.2) hcu.1 hcu.2 hd ?_
  rw [show (if (0 : Int32) ≤ Int32.ofInt x then Int32.ofInt x else 0 - Int32.ofInt x) = Int32.ofInt (if 0 ≤ x then x else 0 - x) by
    by_cases h : 0 ≤ x
    · rw [if_pos h, if_pos (show (0 : Int32) ≤ Int32.ofInt x from (xn_le (x := 0) (by omega) hx0).mpr h)]
    · rw [if_neg h, if_neg (show ¬ (0 : Int32) ≤ Int32.ofInt x from fun q => h ((xn_le (x := 0) (by omega) hx0).mp q)), Int32.ofInt_sub]; rfl]
  exact kk
/-- a row copied from its start over another's start -/
def xcp (μ : xM) (k q : Nat) (n : Int) : xM := fun a b => if a = q ∧ 0 ≤ b ∧ b < n then μ k b else μ a b
theorem xok.cp {w : xW} {μ : xM} (h : xok w μ) {k q : Nat} {n : Int} (hk : k < w.1) (hs : xsk (w.2.1 k) = xsk (w.2.1 q)) : xok w (xcp μ k q n) := by
  refine ⟨fun a b ha hz => ?_, fun a b ha hz => ?_, h.2.2⟩
  · by_cases hb : a = q ∧ 0 ≤ b ∧ b < n
    · simp only [xcp, if_pos hb]
      rw [hb.1, ← hs] at hz
      exact h.1 k b hk hz
    · simp only [xcp, if_neg hb]; exact h.1 a b ha hz
  · by_cases hb : a = q ∧ 0 ≤ b ∧ b < n
    · simp only [xcp, if_pos hb]
      rw [hb.1, ← hs] at hz
      exact h.2.1 k b hk hz
    · simp only [xcp, if_neg hb]; exact h.2.1 a b ha hz
theorem xcp_put (μ : xM) (k q : Nat) (n : Int) : xcp μ k q n = xput μ q (fun b => if 0 ≤ b ∧ b < n then μ k b else μ q b) := by
  funext a b
  simp only [xcp, xput]
  by_cases ha : a = q
  · subst ha; simp
  · simp [ha]
theorem r_copyi (hL : Lg own nm cc nL R ret mc ms K X) {k q n0 n1 : Nat} {n : Int} (hk : k < w.1) (hq : q < w.1) (hs : w.2.1 k = (1, n0)) (hs1 : w.2.1 q = (1, n1)) (hn0 : 0 ≤ n) (h4 : n ≤ n0) (h5 : n ≤ n1) (hb1 : n0 ≤ 2147483647) (hl : xWd (.methodLink own i arraycopyName)) (hna : xWd (.native arraycopyName)) (hst : xWd (.static arraycopyName)) (hi : xWd (.initialized "java/lang/System")) (hd : decode cc pc = .ok (.invokestatic i, 3)) (hR : 1 ≤ R.frames ∧ xcs st + 18 ≤ R.locals) (kk : ∀ μ', μ' = xcp μ k q n → X cu su w μ' (pc + 3) lo st) : X cu su w μ pc lo (xI n :: xI 0 :: xR q :: xI 0 :: xR k :: st) := by
  obtain ⟨p, l, e, s, m, args, below, meth, c, g, w0, ad0, A, ⟨hx, hb, hml, hown, hT, hK, hSt, hA⟩, hr, hlk, hnm, rfl⟩ := hL
  intro H locs ls ad a1 a2 a3 hP hD hS hok hlo
  simp only [List.map_cons, xt]
  have hcl := xn_cl hn0 (by omega)
  refine va_copyi hx hb (hml.trans hlo.1.symm) hown (hT _ hl _) (hT _ hna _) (hT _ hst _) (hT _ hi _) hK hP hD hS k q 0 0 (n0 := n0) (n1 := n1) (f := fun j => Int32.ofInt (μ k j)) (g := fun j => Int32.ofInt (μ q j)) (c0 := g.2.1 0) (c1 := g.2.1 0) (ty := .int) (by rw [xw_get hk, hs]; rfl) (by rw [xw_get hq, hs1]; rfl) rfl rfl rfl (by decide) (by decide) (fun z => by have := (xn_lt (y := 0) (by omega) (by omega)).mp z; omega) (by rw [hcl]; show 0 + _ ≤ _; omega) (by rw [hcl]; show 0 + _ ≤ _; omega) (fun _ _ => rfl) hR.1 (by rw [xcs_cat]; exact hR.2) hd (fun H1 locs1 hP1 hD1 hS1 => ?_)
  have hset : (xw g w μ ad).set q (ad q, .inl (g.2.1 0, n1, .inl (va_cpy (fun j => Int32.ofInt (μ k j)) (fun j => Int32.ofInt (μ q j)) (Int32.ofInt 0).toNatClampNeg (Int32.ofInt 0).toNatClampNeg (Int32.ofInt n).toNatClampNeg))) = xw g w (xcp μ k q n) ad := by
    rw [xcp_put, ← xw_set hq, hs1]
    show _ = (xw g w μ ad).set q (ad q, .inl (g.2.1 0, n1, .inl (fun j => Int32.ofInt (if 0 ≤ (j : Int) ∧ (j : Int) < n then μ k j else μ q j))))
    congr 6
    funext j
    rw [hcl]
    show va_cpy _ _ 0 0 _ _ = _
    simp only [va_cpy]
    by_cases hj : (j : Int) < n
    · rw [if_pos (by omega), if_pos (by omega)]
      simp
    · rw [if_neg (by omega), if_neg (by omega)]
  rw [hset] at hP1 hD1
  exact kk _ rfl H1 locs1 ls ad a1 a2 a3 hP1 hD1 hS1 (hok.cp hk (by rw [hs, hs1]; rfl)) hlo
theorem r_copyl (hL : Lg own nm cc nL R ret mc ms K X) {k q n0 n1 : Nat} {n : Int} (hk : k < w.1) (hq : q < w.1) (hs : w.2.1 k = (2, n0)) (hs1 : w.2.1 q = (2, n1)) (hn0 : 0 ≤ n) (h4 : n ≤ n0) (h5 : n ≤ n1) (hb1 : n0 ≤ 2147483647) (hl : xWd (.methodLink own i arraycopyName)) (hna : xWd (.native arraycopyName)) (hst : xWd (.static arraycopyName)) (hi : xWd (.initialized "java/lang/System")) (hd : decode cc pc = .ok (.invokestatic i, 3)) (hR : 1 ≤ R.frames ∧ xcs st + 18 ≤ R.locals) (kk : ∀ μ', μ' = xcp μ k q n → X cu su w μ' (pc + 3) lo st) : X cu su w μ pc lo (xI n :: xI 0 :: xR q :: xI 0 :: xR k :: st) := by
  obtain ⟨p, l, e, s, m, args, below, meth, c, g, w0, ad0, A, ⟨hx, hb, hml, hown, hT, hK, hSt, hA⟩, hr, hlk, hnm, rfl⟩ := hL
  intro H locs ls ad a1 a2 a3 hP hD hS hok hlo
  simp only [List.map_cons, xt]
  have hcl := xn_cl hn0 (by omega)
  refine va_copyl hx hb (hml.trans hlo.1.symm) hown (hT _ hl _) (hT _ hna _) (hT _ hst _) (hT _ hi _) hK hP hD hS k q 1 1 (n0 := n0) (n1 := n1) (f := fun j => Int64.ofInt (μ k j)) (g := fun j => Int64.ofInt (μ q j)) (c0 := g.2.1 1) (c1 := g.2.1 1) (ty := .long) (by rw [xw_get hk, hs]; rfl) (by rw [xw_get hq, hs1]; rfl) rfl rfl rfl (by decide) (by decide) (fun z => by have := (xn_lt (y := 0) (by omega) (by omega)).mp z; omega) (by rw [hcl]; show 0 + _ ≤ _; omega) (by rw [hcl]; show 0 + _ ≤ _; omega) (fun _ _ => rfl) hR.1 (by rw [xcs_cat]; exact hR.2) hd (fun H1 locs1 hP1 hD1 hS1 => ?_)
  have hset : (xw g w μ ad).set q (ad q, .inl (g.2.1 1, n1, .inr (.inl (va_cpy (fun j => Int64.ofInt (μ k j)) (fun j => Int64.ofInt (μ q j)) (Int32.ofInt 0).toNatClampNeg (Int32.ofInt 0).toNatClampNeg (Int32.ofInt n).toNatClampNeg)))) = xw g w (xcp μ k q n) ad := by
    rw [xcp_put, ← xw_set hq, hs1]
    show _ = (xw g w μ ad).set q (ad q, .inl (g.2.1 1, n1, .inr (.inl (fun j => Int64.ofInt (if 0 ≤ (j : Int) ∧ (j : Int) < n then μ k j else μ q j)))))
    congr 7
    funext j
    rw [hcl]
    show va_cpy _ _ 0 0 _ _ = _
    simp only [va_cpy]
    by_cases hj : (j : Int) < n
    · rw [if_pos (by omega), if_pos (by omega)]
      simp
    · rw [if_neg (by omega), if_neg (by omega)]
  rw [hset] at hP1 hD1
  exact kk _ rfl H1 locs1 ls ad a1 a2 a3 hP1 hD1 hS1 (hok.cp hk (by rw [hs, hs1]; rfl)) hlo
end
