/-! ===== cells are made ===== -/
theorem xent_ad {g : xG} {ad ad' : Nat → Nat} {s : Nat × Nat} {rf f : Int → Int} {n : Nat} (hr : ∀ j, rf j < (n : Int)) (ha : ∀ k, k < n → ad' k = ad k) : xent g ad' s rf f = xent g ad s rf f := by
  have key : ∀ j : Int, (if rf j < 0 then none else some (ad' (rf j).toNat)) = (if rf j < 0 then none else some (ad (rf j).toNat)) := by
    intro j
    by_cases h : rf j < 0
    · rw [if_pos h, if_pos h]
    · rw [if_neg h, if_neg h, ha _ (by have := hr j; omega)]
  unfold xent
  split
  · congr 2
    unfold xfs
    apply List.map_congr_left
    intro j _
    unfold xfv
    split
    · rfl
    · by_cases h : rf j < 0
      · rw [if_pos h, if_pos h]
      · rw [if_neg h, if_neg h, ha _ (by have := hr j; omega)]
    · rfl
  · rfl
  · rfl
  · rfl
  · rw [show (fun j : Nat => if rf j < 0 then none else some (ad' (rf j).toNat)) = (fun j : Nat => if rf j < 0 then none else some (ad (rf j).toNat)) from funext fun j => key j]
def xad (ad : Nat → Nat) (n q : Nat) : Nat → Nat := fun k => if k = n then q else ad k
theorem xad_lt {ad : Nat → Nat} {n q k : Nat} (h : k < n) : xad ad n q k = ad k := by unfold xad; rw [if_neg (by omega)]
def xgrow (w : xW) : xW := (w.1 + 1, w.2.1, w.2.2)
theorem xw_push {g : xG} {w : xW} {μ : xM} {ad : Nat → Nat} {q : Nat} (hok : xok w μ) (hr : ∀ j, w.2.2 w.1 j = -1) : xw g w μ ad ++ [(q, xent g ad (w.2.1 w.1) (w.2.2 w.1) (μ w.1))] = xw g (xgrow w) μ (xad ad w.1 q) := by
  unfold xw xgrow
  simp only
  rw [List.range_succ, List.map_append]
  congr 1
  · apply List.map_congr_left
    intro k hk
    have hk := List.mem_range.mp hk
    rw [xad_lt hk, xent_ad (n := w.1) (fun j => hok.2.2 k j hk) (fun k h => xad_lt h)]
  · simp only [List.map_cons, List.map_nil]
    rw [xent_ad (n := w.1) (ad' := xad ad w.1 q) (ad := ad) (fun j => by rw [hr]; omega) (fun k h => xad_lt h)]
    simp [xad]
theorem xok.grow {w : xW} {μ : xM} (h : xok w μ) (hr : ∀ j, w.2.2 w.1 j = -1) (hm : ∀ j, μ w.1 j = 0) : xok (xgrow w) μ := by
  refine ⟨fun k j hk hs => ?_, fun k j hk hs => ?_, fun k j hk => ?_⟩
  · by_cases e : k = w.1
    · subst e; rw [hm]; omega
    · exact h.1 k j (by have : k < w.1 + 1 := hk; omega) hs
  · by_cases e : k = w.1
    · subst e; rw [hm]; omega
    · exact h.2.1 k j (by have : k < w.1 + 1 := hk; omega) hs
  · show w.2.2 k j < ((w.1 + 1 : Nat) : Int)
    by_cases e : k = w.1
    · subst e; rw [hr]; omega
    · have := h.2.2 k j (by have : k < w.1 + 1 := hk; omega)
      omega
/-- the references at hand are of cells that there are -/
def xa1 (n : Nat) : List xV → Prop
  | [] => True
  | .inr (.inr (.inl k)) :: l => k < n ∧ xa1 n l
  | _ :: l => xa1 n l
def xa2 (n : Nat) : xLoc → Prop
  | [] => True
  | some (.inr (.inr (.inl k))) :: l => k < n ∧ xa2 n l
  | _ :: l => xa2 n l
theorem xa1_map {n : Nat} {ad ad' : Nat → Nat} (ha : ∀ k, k < n → ad' k = ad k) : ∀ st : List xV, xa1 n st → st.map (xt ad') = st.map (xt ad) := by
  intro st
  induction st with
  | nil => intro _; rfl
  | cons v l ih =>
    intro h
    match v, h with
    | .inl _, h => simp only [List.map_cons]; rw [ih h]; rfl
    | .inr (.inl _), h => simp only [List.map_cons]; rw [ih h]; rfl
    | .inr (.inr (.inl k)), h => simp only [List.map_cons]; rw [ih h.2]; simp only [xt]; rw [ha k h.1]
    | .inr (.inr (.inr _)), h => simp only [List.map_cons]; rw [ih h]; rfl
theorem xa2_get {n : Nat} : ∀ (lo : xLoc) (i k : Nat), xa2 n lo → lo[i]? = some (some (xR k)) → k < n := by
  intro lo
  induction lo with
  | nil => intro i k _ h; simp at h
  | cons o l ih =>
    intro i k h hi
    cases i with
    | zero =>
      simp only [List.getElem?_cons_zero, Option.some.injEq] at hi
      subst hi
      exact h.1
    | succ i =>
      simp only [List.getElem?_cons_succ] at hi
      refine ih i k ?_ hi
      match o, h with
      | none, h => exact h
      | some (.inl _), h => exact h
      | some (.inr (.inl _)), h => exact h
      | some (.inr (.inr (.inl _))), h => exact h.2
      | some (.inr (.inr (.inr _))), h => exact h
theorem xLo.ad {ls : Array Slot} {nL n : Nat} {lo : xLoc} {ad ad' : Nat → Nat} (h : xLo ls nL lo ad) (hl : xa2 n lo) (ha : ∀ k, k < n → ad' k = ad k) : xLo ls nL lo ad' := by
  refine ⟨h.1, h.2.1, fun i v hv => ?_⟩
  rw [h.2.2 i v hv]
  match v, hv with
  | .inl _, _ => rfl
  | .inr (.inl _), _ => rfl
  | .inr (.inr (.inl k)), hv => simp only [xt]; rw [ha k (xa2_get lo i k hl hv)]
  | .inr (.inr (.inr _)), _ => rfl
section
variable {own nm : String} {cc : ByteArray} {nL : Nat} {R : Room} {ret : Option FieldType} {mc ms : Nat} {K : Option xV → xW → xM → Prop} {X : Nat → Nat → xW → xM → Nat → xLoc → List xV → Prop}
variable {cu su : Nat} {w : xW} {μ : xM} {pc : Nat} {lo : xLoc} {st stk : List xV} {ci N : Nat} {C : String} {T : u_T} {ty : Nat → FieldType}
theorem r_new (hL : Lg own nm cc nL R ret mc ms K X) (hc : xCl ci C T N ty) {i : Nat} (hd : decode cc pc = .ok (.new i, 3)) (hcl : xWd (.classLink own i C)) (hin : xWd (.instantiable C N)) (hini : xWd (.initialized C)) (hdf : ∀ j, j < N → defaultValue (ty j) = xfv (fun _ => 0) (xkd (ty j)) (-1) 0)
    (hs : w.2.1 w.1 = (0, ci)) (hr : ∀ j, w.2.2 w.1 j = -1) (hm : ∀ j, μ w.1 j = 0) (h1 : xa1 w.1 st) (h2 : xa2 w.1 lo) (hcu : cu + 1 ≤ R.cells ∧ su + N ≤ R.slots) (k : X (cu + 1) (su + N) (xgrow w) μ (pc + 3) lo (xR w.1 :: st)) : X cu su w μ pc lo st := by
  obtain ⟨p, l, e, s, m, args, below, meth, c, g, w0, ad0, A, ⟨hx, hb, hml, hown, hT, hK, hSt, hA⟩, hr', hlk, hnm, rfl⟩ := hL
  intro H locs ls ad a1 a2 a3 hP hD hS hok hlo
  refine va_new (ci := ci) (C := C) (T := T) (N := N) hx hb (Ts := u_ws C T N) (fun w hw => hT w (hc.2.1 w hw) _) (fun _ h => h) ty hc.2.2.1 hown (hT _ hcl _) (hT _ hin _) (hT _ hini _) hK hP hD hS hA hc.1 (fs := xfs ad (xks ci) (w.2.2 w.1) (μ w.1)) ?_ hcu.1 hcu.2 hd (fun q H1 hP1 hD1 hS1 => ?_)
  · intro j hj
    have hlen : j < (xks ci).length := by rw [← hc.2.2.2.2.1]; exact hj
    have hg := xfs_get (ad := ad) (rf := w.2.2 w.1) (f := μ w.1) hlen
    unfold vp_V
    rw [List.getD_eq_getElem?_getD, hg, hdf j hj, hr, hm, hc.2.2.2.2.2.2 j hj]
    simp only [Option.getD_some]
    unfold xfv
    split <;> simp
  · have e : xw g w μ ad ++ [(q, .inr (ci, xfs ad (xks ci) (w.2.2 w.1) (μ w.1)))] = xw g (xgrow w) μ (xad ad w.1 q) := by
      rw [← xw_push hok hr, hs, xent_o]
    rw [e] at hP1 hD1
    have kk := k H1 locs ls (xad ad w.1 q) (Nat.le_succ_of_le a1) (fun k hk => by rw [xad_lt (by omega)]; exact a2 k hk) (fun h => by have : w.1 + 1 = w0.1 := h; omega) hP1 hD1 hS1 (hok.grow hr hm) (hlo.ad h2 (fun k h => xad_lt h))
    rw [List.map_cons, xa1_map (fun k h => xad_lt h) st h1] at kk
    rw [show xt (xad ad w.1 q) (xR w.1) = Value.ref q by simp [xt, xad]] at kk
    exact kk
/-- an array of ints, longs or booleans -/
theorem r_newa (hL : Lg own nm cc nL R ret mc ms K X) (kd : Nat) {n : Int} {nn : Nat} {at' : ArrayType} (hd : decode cc pc = .ok (.newarray at', 2)) (hty : (kd = 1 ∧ at' = .int) ∨ (kd = 2 ∧ at' = .long) ∨ (kd = 3 ∧ at' = .boolean)) (ha : xWd (.arrayClass (newarray.typeOf at'))) (hn : n = (nn : Int)) (hnn : nn ≤ 10000)
    (hs : w.2.1 w.1 = (kd, nn)) (hr : ∀ j, w.2.2 w.1 j = -1) (hm : ∀ j, μ w.1 j = 0) (h1 : xa1 w.1 st) (h2 : xa2 w.1 lo) (hcu : cu + 1 ≤ R.cells ∧ su + nn ≤ R.slots) (k : X (cu + 1) (su + nn) (xgrow w) μ (pc + 2) lo (xR w.1 :: st)) : X cu su w μ pc lo (xI n :: st) := by
  subst hn
  obtain ⟨p, l, e, s, m, args, below, meth, c, g, w0, ad0, A, ⟨hx, hb, hml, hown, hT, hK, hSt, hA⟩, hr', hlk, hnm, rfl⟩ := hL
  intro H locs ls ad a1 a2 a3 hP hD hS hok hlo
  simp only [List.map_cons, xt]
  have hneg : ¬ Int32.ofInt (nn : Int) < 0 := fun z => by have := (xn_lt (y := 0) (by omega) (by omega)).mp z; omega
  have hcl : (Int32.ofInt (nn : Int)).toNatClampNeg = nn := by rw [xn_cl (by omega) (by omega)]; simp
  have fin : ∀ (q : Nat) (H1 : Heap), va_P g.1 vwCl (xw g w μ ad ++ [(q, xent g ad (w.2.1 w.1) (w.2.2 w.1) (μ w.1))]) H1 → va_D A (xw g w μ ad ++ [(q, xent g ad (w.2.1 w.1) (w.2.2 w.1) (μ w.1))]) → va_S A s.heap H1 locs → W p l e R s m args below meth c H1 locs (cu + 1) (su + nn) (MQ below (xQ g w0 ad0 A K) args s mc ms A) (F0 m (pc + 2) ls (.ref q :: List.map (xt ad) st)) := by
    intro q H1 hP1 hD1 hS1
    rw [xw_push hok hr] at hP1 hD1
    have kk := k H1 locs ls (xad ad w.1 q) (Nat.le_succ_of_le a1) (fun k hk => by rw [xad_lt (by omega)]; exact a2 k hk) (fun h => by have : w.1 + 1 = w0.1 := h; omega) hP1 hD1 hS1 (hok.grow hr hm) (hlo.ad h2 (fun k h => xad_lt h))
    rw [List.map_cons, xa1_map (fun k h => xad_lt h) st h1] at kk
    rw [show xt (xad ad w.1 q) (xR w.1) = Value.ref q by simp [xt, xad]] at kk
    exact kk
  have hz : μ w.1 = fun _ => 0 := funext hm
  rcases hty with ⟨rfl, rfl⟩ | ⟨rfl, rfl⟩ | ⟨rfl, rfl⟩
  · refine va_newa (atype := .int) (ty := .int) (a0 := (nn, .inl fun _ => 0)) hx hb (hT _ ha _) rfl hK hP hD hS hA (fun cA => rfl) hneg hcl (by show nn * 4 ≤ _; omega) hcu.1 hcu.2 hd (fun q cA H1 hK1 hP1 hD1 hS1 => ?_)
    have e1 : cA = g.2.1 0 := Option.some.inj ((show s.vm.findClass _ = some cA from (hK1.2 5 (cA, .int) rfl).2).symm.trans (show s.vm.findClass _ = some (g.2.1 0) from (hK.2 0 (g.2.1 0, .int) rfl).2))
    subst e1
    refine fin q H1 ?_ ?_ hS1
    · rw [hs, hz]; exact hP1
    · rw [hs, hz]; exact hD1
  · refine va_newa (atype := .long) (ty := .long) (a0 := (nn, .inr (.inl fun _ => 0))) hx hb (hT _ ha _) rfl hK hP hD hS hA (fun cA => rfl) hneg hcl (by show nn * 8 ≤ _; omega) hcu.1 hcu.2 hd (fun q cA H1 hK1 hP1 hD1 hS1 => ?_)
    have e1 : cA = g.2.1 1 := Option.some.inj ((show s.vm.findClass _ = some cA from (hK1.2 5 (cA, .long) rfl).2).symm.trans (show s.vm.findClass _ = some (g.2.1 1) from (hK.2 1 (g.2.1 1, .long) rfl).2))
    subst e1
    refine fin q H1 ?_ ?_ hS1
    · rw [hs, hz]; exact hP1
    · rw [hs, hz]; exact hD1
  · refine va_newa (atype := .boolean) (ty := .boolean) (a0 := (nn, .inl fun _ => 0)) hx hb (hT _ ha _) rfl hK hP hD hS hA (fun cA => rfl) hneg hcl (by show nn * 1 ≤ _; omega) hcu.1 hcu.2 hd (fun q cA H1 hK1 hP1 hD1 hS1 => ?_)
    have e1 : cA = g.2.1 2 := Option.some.inj ((show s.vm.findClass _ = some cA from (hK1.2 5 (cA, .boolean) rfl).2).symm.trans (show s.vm.findClass _ = some (g.2.1 2) from (hK.2 2 (g.2.1 2, .boolean) rfl).2))
    subst e1
    refine fin q H1 ?_ ?_ hS1
    · rw [hs, hz]; exact hP1
    · rw [hs, hz]; exact hD1
/-- an array of objects -/
theorem r_newq (hL : Lg own nm cc nL R ret mc ms K X) (t : Nat) {n : Int} {nn i : Nat} {C : String} (hd : decode cc pc = .ok (.anewarray i, 3)) (hcl : xWd (.classLink own i C)) (hov : xWd (.arrayOver (.object C))) (hC : (t = 0 ∧ C = "TaleTypes$State") ∨ (t = 1 ∧ C = "TaleTypes$Image")) (hn : n = (nn : Int)) (hnn : nn ≤ 10000)
    (hs : w.2.1 w.1 = (t + 4, nn)) (hr : ∀ j, w.2.2 w.1 j = -1) (hm : ∀ j, μ w.1 j = 0) (h1 : xa1 w.1 st) (h2 : xa2 w.1 lo) (hcu : cu + 1 ≤ R.cells ∧ su + nn ≤ R.slots) (k : X (cu + 1) (su + nn) (xgrow w) μ (pc + 3) lo (xR w.1 :: st)) : X cu su w μ pc lo (xI n :: st) := by
  subst hn
  obtain ⟨p, l, e, s, m, args, below, meth, c, g, w0, ad0, A, ⟨hx, hb, hml, hown, hT, hK, hSt, hA⟩, hr', hlk, hnm, rfl⟩ := hL
  intro H locs ls ad a1 a2 a3 hP hD hS hok hlo
  simp only [List.map_cons, xt]
  have hneg : ¬ Int32.ofInt (nn : Int) < 0 := fun z => by have := (xn_lt (y := 0) (by omega) (by omega)).mp z; omega
  have hcn : (Int32.ofInt (nn : Int)).toNatClampNeg = nn := by rw [xn_cl (by omega) (by omega)]; simp
  refine va_newq hx hb hown (hT _ hcl _) (va_AO.of (hT _ hov #[])) hK hP hD hS hA hneg hcn (by omega) hcu.1 hcu.2 hd (fun q cA H1 hK1 hP1 hD1 hS1 => ?_)
  have e1 : cA = g.2.1 (t + 3) := by
    rcases hC with ⟨rfl, rfl⟩ | ⟨rfl, rfl⟩
    · obtain ⟨_, _, _, _, _, f1⟩ := (hK1.2 5 (cA, .object "TaleTypes$State") rfl).2
      obtain ⟨_, _, _, _, _, f2⟩ := (hK.2 3 (g.2.1 3, .object "TaleTypes$State") rfl).2
      exact Option.some.inj (f1.symm.trans f2)
    · obtain ⟨_, _, _, _, _, f1⟩ := (hK1.2 5 (cA, .object "TaleTypes$Image") rfl).2
      obtain ⟨_, _, _, _, _, f2⟩ := (hK.2 4 (g.2.1 4, .object "TaleTypes$Image") rfl).2
      exact Option.some.inj (f1.symm.trans f2)
  subst e1
  have e2 : xent g ad (w.2.1 w.1) (w.2.2 w.1) (μ w.1) = .inl (g.2.1 (t + 3), nn, .inr (.inr (.inr (.inr (fun _ => none))))) := by
    rw [hs, show w.2.2 w.1 = fun _ => -1 from funext hr]
    rfl
  rw [← e2, xw_push hok hr] at hP1 hD1
  have kk := k H1 locs ls (xad ad w.1 q) (Nat.le_succ_of_le a1) (fun k hk => by rw [xad_lt (by omega)]; exact a2 k hk) (fun h => by have : w.1 + 1 = w0.1 := h; omega) hP1 hD1 hS1 (hok.grow hr hm) (hlo.ad h2 (fun k h => xad_lt h))
  rw [List.map_cons, xa1_map (fun k h => xad_lt h) st h1] at kk
  rw [show xt (xad ad w.1 q) (xR w.1) = Value.ref q by simp [xt, xad]] at kk
  exact kk
theorem xok.rf {w : xW} {μ : xM} (h : xok w μ) {k : Nat} {j r : Int} (hr : r < (w.1 : Int)) : xok (xrf w k j r) μ := by
  refine ⟨h.1, h.2.1, fun a b ha => ?_⟩
  show xup w.2.2 k j r a b < (w.1 : Int)
  by_cases hab : a = k ∧ b = j
  · simp only [xup, if_pos hab]; exact hr
  · simp only [xup, if_neg hab]; exact h.2.2 a b ha
/-- a final reference, in a constructor -/
theorem r_putr (hL : Lg own "<init>" cc nL R ret mc ms K X) (hc : xCl ci C T N ty) {k i q : Nat} (j : Nat) {j' : Int} (hj' : (j : Int) = j') (hk : k < w.1) (hs : w.2.1 k = (0, ci)) (hj : j < N) (hl : xWd (.fieldLink own i C (T j).2.1 (T j).2.2.1)) (hf : (T j).2.2.2 = true) (hdecl : (T j).1 = own) (h2 : (xks ci).getD j 0 = 2) (hfit : ∀ a, narrow (ty j) (.ref a) = .ref a ∧ fits (ty j) (.ref a) = true) (hq : q < w.1)
    (hd : decode cc pc = .ok (.putfield i, 3)) (kk : X cu su (xrf w k j' (q : Int)) μ (pc + 3) lo st) : X cu su w μ pc lo (xR q :: xR k :: st) := by
  subst hj'
  obtain ⟨p, l, e, s, m, args, below, meth, c, g, w0, ad0, A, ⟨hx, hb, hml, hown, hT, hK, hSt, hA⟩, hr, hlk, hnm, rfl⟩ := hL
  intro H locs ls ad a1 a2 a3 hP hD hS hok hlo
  have hlen : j < (xks ci).length := by rw [← hc.2.2.2.2.1]; exact hj
  have hset : (xw g w μ ad).set k (ad k, .inr (ci, (xfs ad (xks ci) (w.2.2 k) (μ k)).set j (.ref (ad q)))) = xw g (xrf w k j (q : Int)) μ ad := by
    have hv : Value.ref (ad q) = xfv ad ((xks ci).getD j 0) (q : Int) (μ k j) := by
      rw [h2]
      show _ = if (q : Int) < 0 then Value.null else .ref (ad (q : Int).toNat)
      rw [if_neg (by omega)]
      rfl
    rw [hv, xfs_setr hlen, ← xw_setr hk, hs, xent_o]
  simp only [List.map_cons, xt]
  refine va_putF hx hb (Ts := u_ws C T N) (fun w hw => hT w (hc.2.1 w hw) _) (fun _ h => h) ty hc.2.2.1 hc.2.2.2.1 hown hK hP hD hS k (xw_o hk hs) hc.1 j hj (hT _ hl _) (fun x hx => (hc.2.2.2.2.2.1 j hj) ▸ hx) hf hnm hdecl (hc.2.2.1 j hj) (hfit _).1 (hfit _).2 (by rw [xfs_len]; exact hlen) hd (fun H1 locs1 hP1 hD1 hS1 => ?_)
  rw [hset] at hP1 hD1
  exact kk H1 locs1 ls ad a1 a2 a3 hP1 hD1 hS1 (hok.rf (by omega)) hlo
/-- an object into an array of objects -/
theorem r_aast (hL : Lg own nm cc nL R ret mc ms K X) (t : Nat) {k n q : Nat} {i : Int} (hc : xCl ci C T N ty) (hd : decode cc pc = .ok (.aastore, 1)) (hk : k < w.1) (hs : w.2.1 k = (t + 4, n)) (hC : (t = 0 ∧ C = "TaleTypes$State") ∨ (t = 1 ∧ C = "TaleTypes$Image")) (hn : n ≤ 10000) (h0 : 0 ≤ i) (h1 : i < n) (hq : q < w.1) (hqs : w.2.1 q = (0, ci)) (kk : X cu su (xrf w k i (q : Int)) μ (pc + 1) lo st) : X cu su w μ pc lo (xR q :: xI i :: xR k :: st) := by
  obtain ⟨p, l, e, s, m, args, below, meth, c, g, w0, ad0, A, ⟨hx, hb, hml, hown, hT, hK, hSt, hA⟩, hr, hlk, hnm, rfl⟩ := hL
  intro H locs ls ad a1 a2 a3 hP hD hS hok hlo
  simp only [List.map_cons, xt]
  have hty : (xtys g)[t + 3]? = some (g.2.1 (t + 3), .object C) := by
    rcases hC with ⟨rfl, rfl⟩ | ⟨rfl, rfl⟩ <;> rfl
  refine va_astq hx hb hK hP hD hS k (t + 3) q ci (n := n) (f := fun j => if w.2.2 k j < 0 then none else some (ad (w.2.2 k j).toNat)) (cA := g.2.1 (t + 3)) (r := (C, T, N)) (by rw [xw_get hk, hs]; rfl) hty (xw_o hq hqs) hc.1 (xn_in h0 h1 (by omega)) hd (fun H1 locs1 hP1 hD1 hS1 => ?_)
  have hset : (xw g w μ ad).set k (ad k, .inl (g.2.1 (t + 3), n, .inr (.inr (.inr (.inr (va_up (fun j => if w.2.2 k j < 0 then none else some (ad (w.2.2 k j).toNat)) (Int32.ofInt i).toNatClampNeg (some (ad q)))))))) = xw g (xrf w k i (q : Int)) μ ad := by
    rw [← xw_setr hk, hs]
    show _ = (xw g w μ ad).set k (ad k, .inl (g.2.1 (t + 3), n, .inr (.inr (.inr (.inr (fun j : Nat => if xf1 (w.2.2 k) i q j < 0 then none else some (ad (xf1 (w.2.2 k) i q j).toNat)))))))
    rw [show va_up (fun j : Nat => if w.2.2 k j < 0 then none else some (ad (w.2.2 k j).toNat)) (Int32.ofInt i).toNatClampNeg (some (ad q)) = (fun j : Nat => if xf1 (w.2.2 k) i q j < 0 then none else some (ad (xf1 (w.2.2 k) i q j).toNat)) from by
      funext j
      rw [xn_cl h0 (by omega)]
      unfold va_up xf1
      by_cases hj : j = i.toNat
      · rw [if_pos hj, if_pos (show (j : Int) = i by omega), if_neg (by omega)]
        simp
      · rw [if_neg hj, if_neg (show ¬ (j : Int) = i by omega)]]
  rw [hset] at hP1 hD1
  exact kk H1 locs1 ls ad a1 a2 a3 hP1 hD1 hS1 (hok.rf (by omega)) hlo
theorem r_objInit (hL : Lg own nm cc nL R ret mc ms K X) {i k : Nat} (hd : decode cc pc = .ok (.invokespecial i, 3)) (hl : xWd (.methodLink own i Lib.objectInit)) (him : xWd (.instanceMethod Lib.objectInit)) (hco : xWd (.code Lib.objectInit ⟨#[0xb1]⟩ 1 none)) (hR : 1 ≤ R.frames ∧ xcs st + 12 ≤ R.locals) (kk : X cu su w μ (pc + 3) lo st) : X cu su w μ pc lo (xR k :: st) := by
  obtain ⟨p, l, e, s, m, args, below, meth, c, g, w0, ad0, A, ⟨hx, hb, hml, hown, hT, hK, hSt, hA⟩, hr, hlk, hnm, rfl⟩ := hL
  intro H locs ls ad a1 a2 a3 hP hD hS hok hlo
  have kk := kk H locs ls ad a1 a2 a3 hP hD hS hok hlo
  simp only [List.map_cons, xt]
  exact W.objInit hx hb hown (hT _ hl _) (hT _ him _) (hT _ hco _) rfl (hlo.1.trans hml.symm) rfl hd hR.1 (by show 2 * 0 + _ + 12 ≤ _; rw [xcs_cat]; omega) kk
variable {y : MethodName} {b : ByteArray} {maxL fr lc i mc' ms' : Nat} {av : List xV}
/-- a constructor that makes cells -/
theorem r_callI (hL : Lg own nm cc nL R ret mc ms K X) {k : Nat} (hM : xMet y b maxL none fr lc mc' ms' [xR k] w μ (fun r w' μ' => r = none ∧ X (cu + mc') (su + ms') w' μ' (pc + 3) lo st)) (he : xCe y b maxL none 0) (hnm' : y.name = "<init>") (him : xWd (.instanceMethod y)) (hl : xWd (.methodLink own i y)) (hd : decode cc pc = .ok (.invokespecial i, 3)) (h1 : xa1 w.1 st) (h2 : xa2 w.1 lo) (hcs : xcs st ≤ 8) (hR : fr + 1 ≤ R.frames ∧ 8 + (maxL + 11) + lc ≤ R.locals) (hcu : cu + mc' ≤ R.cells ∧ su + ms' ≤ R.slots) : X cu su w μ pc lo (xR k :: st) := by
  obtain ⟨p, l, e, s, m, args, below, meth, c, g, w0, ad0, A, ⟨hx, hb, hml, hown, hT, hK, hSt, hA⟩, hr, hlk, hnm, rfl⟩ := hL
  intro H locs ls ad a1 a2 a3 hP hD hS hok hlo
  obtain ⟨g1, g2, g3, g4⟩ := he
  refine xcall (va_runI (Ts := []) (b := ad k) (As := []) (rest := st.map (xt ad)) (n := 0) ⟨hx, hb, hml, hown, fun _ h => by cases h⟩ (hM l g ad H.size) ⟨⟨rfl, rfl, hR.1, hR.2, fun q hq a' U hW => by rw [List.mem_singleton.mp hq]; exact hT.warm hW _ g1 _, List.mem_singleton.mpr rfl, hT _ g1 _, hT _ g2 _, g3, fun sig h => ?_, hT _ hl _⟩, hnm', hT _ him _⟩
    ⟨xblind, fun U hU hW => ⟨rfl, xpre hT hK hSt hA hP hD hS hok U hU hW⟩⟩ rfl rfl hlo.1 rfl (lv_room (by rw [xcs_cat]; exact hcs)) hd ⟨hcu.1, hcu.2⟩) hS hD hA (fun r w' μ' ad' H1 locs1 hk b1 b2 b3 hP1 hD1 hS1 hok1 => ?_)
  · rw [h] at g4; exact (Option.some.inj g4).symm
  · obtain ⟨rfl, hk⟩ := hk
    have kk := hk H1 locs1 ls ad' (Nat.le_trans a1 b1) (fun q hq => (b2 q (by omega)).trans (a2 q hq)) (fun h => (b3 (by omega)).trans (a3 (by omega))) hP1 hD1 hS1 hok1 (hlo.ad h2 b2)
    rw [xa1_map b2 st h1] at kk
    exact kk
theorem r_callIN (hL : Lg own nm cc nL R ret mc ms K X) {k : Nat} {host : String} (hM : xMet y b maxL none fr lc mc' ms' [xR k] w μ (fun r w' μ' => r = none ∧ X (cu + mc') (su + ms') w' μ' (pc + 3) lo st)) (he : xCe y b maxL none 0) (hnm' : y.name = "<init>") (him : xWd (.instanceMethod y)) (hl : xWd (.methodLinkNest own i y host)) (hd : decode cc pc = .ok (.invokespecial i, 3)) (h1 : xa1 w.1 st) (h2 : xa2 w.1 lo) (hcs : xcs st ≤ 8) (hR : fr + 1 ≤ R.frames ∧ 8 + (maxL + 11) + lc ≤ R.locals) (hcu : cu + mc' ≤ R.cells ∧ su + ms' ≤ R.slots) : X cu su w μ pc lo (xR k :: st) := by
  obtain ⟨p, l, e, s, m, args, below, meth, c, g, w0, ad0, A, ⟨hx, hb, hml, hown, hT, hK, hSt, hA⟩, hr, hlk, hnm, rfl⟩ := hL
  intro H locs ls ad a1 a2 a3 hP hD hS hok hlo
  obtain ⟨g1, g2, g3, g4⟩ := he
  refine xcall (va_runIN (Ts := []) (b := ad k) (As := []) (rest := st.map (xt ad)) (n := 0) ⟨hx, hb, hml, hown, fun _ h => by cases h⟩ (hM l g ad H.size) ⟨⟨⟨rfl, rfl, hR.1, hR.2, fun q hq a' U hW => by rw [List.mem_singleton.mp hq]; exact hT.warm hW _ g1 _, List.mem_singleton.mpr rfl⟩, hT _ g1 _, hT _ g2 _, g3, fun sig h => ?_, hT _ hl _⟩, hnm', hT _ him _⟩
    ⟨xblind, fun U hU hW => ⟨rfl, xpre hT hK hSt hA hP hD hS hok U hU hW⟩⟩ rfl rfl hlo.1 rfl (lv_room (by rw [xcs_cat]; exact hcs)) hd ⟨hcu.1, hcu.2⟩) hS hD hA (fun r w' μ' ad' H1 locs1 hk b1 b2 b3 hP1 hD1 hS1 hok1 => ?_)
  · rw [h] at g4; exact (Option.some.inj g4).symm
  · obtain ⟨rfl, hk⟩ := hk
    have kk := hk H1 locs1 ls ad' (Nat.le_trans a1 b1) (fun q hq => (b2 q (by omega)).trans (a2 q hq)) (fun h => (b3 (by omega)).trans (a3 (by omega))) hP1 hD1 hS1 hok1 (hlo.ad h2 b2)
    rw [xa1_map b2 st h1] at kk
    exact kk
/-- the same world under another name -/
theorem r_weq (hL : Lg own nm cc nL R ret mc ms K X) {w' : xW} (h1 : w'.1 = w.1) (h2 : ∀ k, k < w.1 → w'.2.1 k = w.2.1 k) (h3 : ∀ k j, k < w.1 → w'.2.2 k j = w.2.2 k j) (kk : X cu su w' μ pc lo st) : X cu su w μ pc lo st := by
  obtain ⟨p, l, e, s, m, args, below, meth, c, g, w0, ad0, A, ⟨hx, hb, hml, hown, hT, hK, hSt, hA⟩, hr, hlk, hnm, rfl⟩ := hL
  intro H locs ls ad a1 a2 a3 hP hD hS hok hlo
  have ew : xw g w' μ ad = xw g w μ ad := by
    unfold xw
    rw [h1]
    apply List.map_congr_left
    intro k hk
    have hk := List.mem_range.mp hk
    rw [h2 k hk, show w'.2.2 k = w.2.2 k from funext fun j => h3 k j hk]
  refine kk H locs ls ad (by omega) a2 (fun h => a3 (by omega)) (by rw [ew]; exact hP) (by rw [ew]; exact hD) hS ⟨fun k j hk hz => ?_, fun k j hk hz => ?_, fun k j hk => ?_⟩ hlo
  · rw [h1] at hk; rw [h2 k hk] at hz; exact hok.1 k j hk hz
  · rw [h1] at hk; rw [h2 k hk] at hz; exact hok.2.1 k j hk hz
  · rw [h1] at hk ⊢; rw [h3 k j hk]; exact hok.2.2 k j hk
end
