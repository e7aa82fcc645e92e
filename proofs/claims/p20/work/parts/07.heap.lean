/-! ===== fields, arrays, statics ===== -/
def xkd : FieldType → Nat
  | .int => 0
  | .long => 1
  | .boolean => 3
  | _ => 2
/-- a class of ours: its number, name, fields -/
def xCl (ci : Nat) (C : String) (T : u_T) (N : Nat) (ty : Nat → FieldType) : Prop := vwCl[ci]? = some (C, T, N) ∧ (∀ w ∈ u_ws C T N, xWd w) ∧ (∀ k, k < N → parseFieldDescriptor (T k).2.2.1 = some (ty k)) ∧ (∀ a, a < N → ∀ b, b < N → a ≠ b → (T a).2.1 ≠ (T b).2.1) ∧ N = (xks ci).length ∧ (∀ k, k < N → (T k).1 = C) ∧ ∀ k, k < N → (xks ci).getD k 0 = xkd (ty k)
/-- a field's place in the pool -/
def xFl (own : String) (i : Nat) (C f d : String) : Prop := xWd (.fieldLink own i C f d) ∨ ∃ h, xWd (.fieldLinkNest own i C f d h)
theorem xfv_i {ad : Nat → Nat} {kd : Nat} {r x : Int} (h1 : kd ≠ 1) (h2 : kd ≠ 2) : xfv ad kd r x = .int (Int32.ofInt x) := by
  unfold xfv
  split
  · exact absurd rfl h1
  · exact absurd rfl h2
  · rfl
theorem xent_o {g : xG} {ad : Nat → Nat} {ci : Nat} {rf f : Int → Int} : xent g ad (0, ci) rf f = .inr (ci, xfs ad (xks ci) rf f) := rfl
section
variable {own nm : String} {cc : ByteArray} {nL : Nat} {R : Room} {ret : Option FieldType} {mc ms : Nat} {K : Option xV → xW → xM → Prop} {X : Nat → Nat → xW → xM → Nat → xLoc → List xV → Prop}
variable {cu su : Nat} {w : xW} {μ : xM} {pc : Nat} {lo : xLoc} {st : List xV} {ci N : Nat} {C : String} {T : u_T} {ty : Nat → FieldType}
theorem xw_o {g : xG} {ad : Nat → Nat} {k : Nat} (hk : k < w.1) (hs : w.2.1 k = (0, ci)) : (xw g w μ ad)[k]? = some (ad k, .inr (ci, xfs ad (xks ci) (w.2.2 k) (μ k))) := by
  rw [xw_get hk, hs]; rfl
theorem r_geti (hL : Lg own nm cc nL R ret mc ms K X) (hc : xCl ci C T N ty) {k i : Nat} (j : Nat) {j' : Int} (hj' : (j : Int) = j') (hk : k < w.1) (hs : w.2.1 k = (0, ci)) (hj : j < N) (hl : xFl own i C (T j).2.1 (T j).2.2.1) (h1 : (xks ci).getD j 0 ≠ 1) (h2 : (xks ci).getD j 0 ≠ 2) (hd : decode cc pc = .ok (.getfield i, 3)) (kk : xrg (μ k j') → X cu su w μ (pc + 3) lo (xI (μ k j') :: st)) : X cu su w μ pc lo (xR k :: st) := by
  subst hj'
  obtain ⟨p, l, e, s, m, args, below, meth, c, g, w0, ad0, A, ⟨hx, hb, hml, hown, hT, hK, hSt, hA⟩, hr, hlk, hnm, rfl⟩ := hL
  intro H locs ls ad a1 a2 a3 hP hD hS hok hlo
  have hrg : xrg (μ k j) := hok.1 k j hk (by rw [hs]; simpa [xsk] using h1)
  have kk := kk hrg H locs ls ad a1 a2 a3 hP hD hS hok hlo
  simp only [List.map_cons, xt] at kk ⊢
  have hlen : j < (xks ci).length := by rw [← hc.2.2.2.2.1]; exact hj
  have hv : (xfs ad (xks ci) (w.2.2 k) (μ k))[j]? = some (.int (Int32.ofInt (μ k j))) := by rw [xfs_get hlen, xfv_i h1 h2]
  rcases hl with hl | ⟨h, hl⟩
  · exact va_get hx hb (Ts := u_ws C T N) (fun w hw => hT w (hc.2.1 w hw) _) (fun _ h => h) hown hK hP k (xw_o hk hs) hc.1 j hj (hT _ hl _) (fun x hx => (hc.2.2.2.2.2.1 j hj) ▸ hx) hv hd kk
  · exact va_getN hx hb (Ts := u_ws C T N) (fun w hw => hT w (hc.2.1 w hw) _) (fun _ h => h) hown hK hP k (xw_o hk hs) hc.1 j hj (hT _ hl _) (fun x hx => (hc.2.2.2.2.2.1 j hj) ▸ hx) hv hd kk
theorem r_getl (hL : Lg own nm cc nL R ret mc ms K X) (hc : xCl ci C T N ty) {k i : Nat} (j : Nat) {j' : Int} (hj' : (j : Int) = j') (hk : k < w.1) (hs : w.2.1 k = (0, ci)) (hj : j < N) (hl : xFl own i C (T j).2.1 (T j).2.2.1) (h1 : (xks ci).getD j 0 = 1) (hd : decode cc pc = .ok (.getfield i, 3)) (kk : xrl (μ k j') → X cu su w μ (pc + 3) lo (xL (μ k j') :: st)) : X cu su w μ pc lo (xR k :: st) := by
  subst hj'
  obtain ⟨p, l, e, s, m, args, below, meth, c, g, w0, ad0, A, ⟨hx, hb, hml, hown, hT, hK, hSt, hA⟩, hr, hlk, hnm, rfl⟩ := hL
  intro H locs ls ad a1 a2 a3 hP hD hS hok hlo
  have hrg : xrl (μ k j) := hok.2.1 k j hk (by rw [hs]; simpa [xsk] using h1)
  have kk := kk hrg H locs ls ad a1 a2 a3 hP hD hS hok hlo
  simp only [List.map_cons, xt] at kk ⊢
  have hlen : j < (xks ci).length := by rw [← hc.2.2.2.2.1]; exact hj
  have hv : (xfs ad (xks ci) (w.2.2 k) (μ k))[j]? = some (.long (Int64.ofInt (μ k j))) := by rw [xfs_get hlen, h1]; rfl
  rcases hl with hl | ⟨h, hl⟩
  · exact va_get hx hb (Ts := u_ws C T N) (fun w hw => hT w (hc.2.1 w hw) _) (fun _ h => h) hown hK hP k (xw_o hk hs) hc.1 j hj (hT _ hl _) (fun x hx => (hc.2.2.2.2.2.1 j hj) ▸ hx) hv hd kk
  · exact va_getN hx hb (Ts := u_ws C T N) (fun w hw => hT w (hc.2.1 w hw) _) (fun _ h => h) hown hK hP k (xw_o hk hs) hc.1 j hj (hT _ hl _) (fun x hx => (hc.2.2.2.2.2.1 j hj) ▸ hx) hv hd kk
theorem r_getr (hL : Lg own nm cc nL R ret mc ms K X) (hc : xCl ci C T N ty) {k i : Nat} (j : Nat) {q : Nat} (hk : k < w.1) (hs : w.2.1 k = (0, ci)) (hj : j < N) (hl : xFl own i C (T j).2.1 (T j).2.2.1) (h1 : (xks ci).getD j 0 = 2) (hq : w.2.2 k j = (q : Int)) (hd : decode cc pc = .ok (.getfield i, 3)) (kk : X cu su w μ (pc + 3) lo (xR q :: st)) : X cu su w μ pc lo (xR k :: st) := by
  obtain ⟨p, l, e, s, m, args, below, meth, c, g, w0, ad0, A, ⟨hx, hb, hml, hown, hT, hK, hSt, hA⟩, hr, hlk, hnm, rfl⟩ := hL
  intro H locs ls ad a1 a2 a3 hP hD hS hok hlo
  have kk := kk H locs ls ad a1 a2 a3 hP hD hS hok hlo
  simp only [List.map_cons, xt] at kk ⊢
  have hlen : j < (xks ci).length := by rw [← hc.2.2.2.2.1]; exact hj
  have hv : (xfs ad (xks ci) (w.2.2 k) (μ k))[j]? = some (.ref (ad q)) := by
    rw [xfs_get hlen, h1]
    show some (if w.2.2 k j < 0 then Value.null else .ref (ad (w.2.2 k j).toNat)) = _
    rw [hq, if_neg (by omega)]
    rfl
  rcases hl with hl | ⟨h, hl⟩
  · exact va_get hx hb (Ts := u_ws C T N) (fun w hw => hT w (hc.2.1 w hw) _) (fun _ h => h) hown hK hP k (xw_o hk hs) hc.1 j hj (hT _ hl _) (fun x hx => (hc.2.2.2.2.2.1 j hj) ▸ hx) hv hd kk
  · exact va_getN hx hb (Ts := u_ws C T N) (fun w hw => hT w (hc.2.1 w hw) _) (fun _ h => h) hown hK hP k (xw_o hk hs) hc.1 j hj (hT _ hl _) (fun x hx => (hc.2.2.2.2.2.1 j hj) ▸ hx) hv hd kk
/-- a put of an int, boolean or long -/
theorem r_put (hL : Lg own nm cc nL R ret mc ms K X) (hc : xCl ci C T N ty) {k i : Nat} (j : Nat) {j' x : Int} {v : xV} (hj' : (j : Int) = j') (hk : k < w.1) (hs : w.2.1 k = (0, ci)) (hj : j < N) (hl : xFl own i C (T j).2.1 (T j).2.2.1) (hf : (T j).2.2.2 = false)
    (hv : ∀ ad r, xt ad v = xfv ad ((xks ci).getD j 0) r x) (hn : ∀ ad, narrow (ty j) (xt ad v) = xt ad v) (hfit : ∀ ad, fits (ty j) (xt ad v) = true) (hrg : if (xks ci).getD j 0 = 1 then xrl x else xrg x)
    (hd : decode cc pc = .ok (.putfield i, 3)) (kk : ∀ μ', μ' = xup μ k j' x → X cu su w μ' (pc + 3) lo st) : X cu su w μ pc lo (v :: xR k :: st) := by
  subst hj'
  obtain ⟨p, l, e, s, m, args, below, meth, c, g, w0, ad0, A, ⟨hx, hb, hml, hown, hT, hK, hSt, hA⟩, hr, hlk, hnm, rfl⟩ := hL
  intro H locs ls ad a1 a2 a3 hP hD hS hok hlo
  have hlen : j < (xks ci).length := by rw [← hc.2.2.2.2.1]; exact hj
  have hset : (xw g w μ ad).set k (ad k, .inr (ci, (xfs ad (xks ci) (w.2.2 k) (μ k)).set j (xt ad v))) = xw g w (xup μ k j x) ad := by
    rw [hv ad (w.2.2 k j), xfs_set hlen, xup_put, ← xw_set hk, hs, xent_o]
  have hok' : xok w (xup μ k j x) := by
    by_cases h1 : (xks ci).getD j 0 = 1
    · rw [if_pos h1] at hrg
      exact hok.upl (by rw [hs]; simpa [xsk] using h1) hrg
    · rw [if_neg h1] at hrg
      exact hok.upi (by rw [hs]; simpa [xsk] using h1) hrg
  simp only [List.map_cons]
  rw [show xt ad (xR k) = Value.ref (ad k) from rfl]
  rcases hl with hl | ⟨h, hl⟩
  · refine va_put hx hb (Ts := u_ws C T N) (fun w hw => hT w (hc.2.1 w hw) _) (fun _ h => h) ty hc.2.2.1 hc.2.2.2.1 hown hK hP hD hS k (xw_o hk hs) hc.1 j hj (hT _ hl _) (fun x hx => (hc.2.2.2.2.2.1 j hj) ▸ hx) hf (hc.2.2.1 j hj) (hn ad) (hfit ad) (by rw [xfs_len]; exact hlen) hd (fun H1 locs1 hP1 hD1 hS1 => ?_)
    rw [hset] at hP1 hD1
    exact kk _ rfl H1 locs1 ls ad a1 a2 a3 hP1 hD1 hS1 hok' hlo
  · refine va_putN hx hb (Ts := u_ws C T N) (fun w hw => hT w (hc.2.1 w hw) _) (fun _ h => h) ty hc.2.2.1 hc.2.2.2.1 hown hK hP hD hS k (xw_o hk hs) hc.1 j hj (hT _ hl _) (fun x hx => (hc.2.2.2.2.2.1 j hj) ▸ hx) hf (hc.2.2.1 j hj) (hn ad) (hfit ad) (by rw [xfs_len]; exact hlen) hd (fun H1 locs1 hP1 hD1 hS1 => ?_)
    rw [hset] at hP1 hD1
    exact kk _ rfl H1 locs1 ls ad a1 a2 a3 hP1 hD1 hS1 hok' hlo
theorem r_puti (hL : Lg own nm cc nL R ret mc ms K X) (hc : xCl ci C T N ty) {k i : Nat} (j : Nat) {j' x : Int} (hj' : (j : Int) = j') (hk : k < w.1) (hs : w.2.1 k = (0, ci)) (hj : j < N) (hl : xFl own i C (T j).2.1 (T j).2.2.1) (hf : (T j).2.2.2 = false) (h0 : ty j = .int) (hrg : xrg x)
    (hd : decode cc pc = .ok (.putfield i, 3)) (kk : ∀ μ', μ' = xup μ k j' x → X cu su w μ' (pc + 3) lo st) : X cu su w μ pc lo (xI x :: xR k :: st) := by
  have h1 : (xks ci).getD j 0 = 0 := by rw [hc.2.2.2.2.2.2 j hj, h0]; rfl
  exact r_put hL hc j hj' hk hs hj hl hf (fun ad r => by rw [h1]; rfl) (fun ad => by rw [h0]; rfl) (fun ad => by rw [h0]; rfl) (by rw [h1, if_neg (by decide)]; exact hrg) hd kk
theorem r_putz (hL : Lg own nm cc nL R ret mc ms K X) (hc : xCl ci C T N ty) {k i : Nat} (j : Nat) {j' x : Int} (hj' : (j : Int) = j') (hk : k < w.1) (hs : w.2.1 k = (0, ci)) (hj : j < N) (hl : xFl own i C (T j).2.1 (T j).2.2.1) (hf : (T j).2.2.2 = false) (h0 : ty j = .boolean) (hrg : x = 0 ∨ x = 1)
    (hd : decode cc pc = .ok (.putfield i, 3)) (kk : ∀ μ', μ' = xup μ k j' x → X cu su w μ' (pc + 3) lo st) : X cu su w μ pc lo (xI x :: xR k :: st) := by
  have h1 : (xks ci).getD j 0 = 3 := by rw [hc.2.2.2.2.2.2 j hj, h0]; rfl
  exact r_put hL hc j hj' hk hs hj hl hf (fun ad r => by rw [h1]; rfl) (fun ad => by rw [h0]; rcases hrg with rfl | rfl <;> rfl) (fun ad => by rw [h0]; rcases hrg with rfl | rfl <;> rfl) (by rw [h1, if_neg (by decide)]; rcases hrg with rfl | rfl <;> omega) hd kk
theorem r_putl (hL : Lg own nm cc nL R ret mc ms K X) (hc : xCl ci C T N ty) {k i : Nat} (j : Nat) {j' x : Int} (hj' : (j : Int) = j') (hk : k < w.1) (hs : w.2.1 k = (0, ci)) (hj : j < N) (hl : xFl own i C (T j).2.1 (T j).2.2.1) (hf : (T j).2.2.2 = false) (h0 : ty j = .long) (hrg : xrl x)
    (hd : decode cc pc = .ok (.putfield i, 3)) (kk : ∀ μ', μ' = xup μ k j' x → X cu su w μ' (pc + 3) lo st) : X cu su w μ pc lo (xL x :: xR k :: st) := by
  have h1 : (xks ci).getD j 0 = 1 := by rw [hc.2.2.2.2.2.2 j hj, h0]; rfl
  exact r_put hL hc j hj' hk hs hj hl hf (fun ad r => by rw [h1]; rfl) (fun ad => by rw [h0]; rfl) (fun ad => by rw [h0]; rfl) (by rw [h1, if_pos rfl]; exact hrg) hd kk
/-! arrays -/
theorem r_iald (hL : Lg own nm cc nL R ret mc ms K X) {k n : Nat} {i : Int} (hd : decode cc pc = .ok (.iaload, 1)) (hk : k < w.1) (hs : w.2.1 k = (1, n)) (hn : n ≤ 2147483647) (h0 : 0 ≤ i) (h1 : i < n) (kk : xrg (μ k i) → X cu su w μ (pc + 1) lo (xI (μ k i) :: st)) : X cu su w μ pc lo (xI i :: xR k :: st) := by
  obtain ⟨p, l, e, s, m, args, below, meth, c, g, w0, ad0, A, ⟨hx, hb, hml, hown, hT, hK, hSt, hA⟩, hr, hlk, hnm, rfl⟩ := hL
  intro H locs ls ad a1 a2 a3 hP hD hS hok hlo
  have kk := kk (hok.1 k i hk (by rw [hs]; simp [xsk])) H locs ls ad a1 a2 a3 hP hD hS hok hlo
  simp only [List.map_cons, xt] at kk ⊢
  refine va_iald hx hb hK hP k 0 (n := n) (f := fun j => Int32.ofInt (μ k j)) (cA := g.2.1 0) (by rw [xw_get hk, hs]; rfl) rfl (xn_in h0 h1 hn) hd ?_
  rw [xn_cl h0 (by omega), Int.toNat_of_nonneg h0]
  exact kk
theorem r_lald (hL : Lg own nm cc nL R ret mc ms K X) {k n : Nat} {i : Int} (hd : decode cc pc = .ok (.laload, 1)) (hk : k < w.1) (hs : w.2.1 k = (2, n)) (hn : n ≤ 2147483647) (h0 : 0 ≤ i) (h1 : i < n) (kk : xrl (μ k i) → X cu su w μ (pc + 1) lo (xL (μ k i) :: st)) : X cu su w μ pc lo (xI i :: xR k :: st) := by
  obtain ⟨p, l, e, s, m, args, below, meth, c, g, w0, ad0, A, ⟨hx, hb, hml, hown, hT, hK, hSt, hA⟩, hr, hlk, hnm, rfl⟩ := hL
  intro H locs ls ad a1 a2 a3 hP hD hS hok hlo
  have kk := kk (hok.2.1 k i hk (by rw [hs]; rfl)) H locs ls ad a1 a2 a3 hP hD hS hok hlo
  simp only [List.map_cons, xt] at kk ⊢
  refine va_lald hx hb hK hP k 1 (n := n) (f := fun j => Int64.ofInt (μ k j)) (cA := g.2.1 1) (by rw [xw_get hk, hs]; rfl) rfl (xn_in h0 h1 hn) hd ?_
  rw [xn_cl h0 (by omega), Int.toNat_of_nonneg h0]
  exact kk
theorem r_zald (hL : Lg own nm cc nL R ret mc ms K X) {k n : Nat} {i : Int} (hd : decode cc pc = .ok (.baload, 1)) (hk : k < w.1) (hs : w.2.1 k = (3, n)) (hn : n ≤ 2147483647) (h0 : 0 ≤ i) (h1 : i < n) (kk : xrg (μ k i) → X cu su w μ (pc + 1) lo (xI (μ k i) :: st)) : X cu su w μ pc lo (xI i :: xR k :: st) := by
  obtain ⟨p, l, e, s, m, args, below, meth, c, g, w0, ad0, A, ⟨hx, hb, hml, hown, hT, hK, hSt, hA⟩, hr, hlk, hnm, rfl⟩ := hL
  intro H locs ls ad a1 a2 a3 hP hD hS hok hlo
  have kk := kk (hok.1 k i hk (by rw [hs]; simp [xsk])) H locs ls ad a1 a2 a3 hP hD hS hok hlo
  simp only [List.map_cons, xt] at kk ⊢
  refine va_zald hx hb hK hP k 2 (n := n) (f := fun j => Int32.ofInt (μ k j)) (cA := g.2.1 2) (by rw [xw_get hk, hs]; rfl) rfl (xn_in h0 h1 hn) hd ?_
  rw [xn_cl h0 (by omega), Int.toNat_of_nonneg h0]
  exact kk
theorem r_aald (hL : Lg own nm cc nL R ret mc ms K X) {k n t : Nat} {i : Int} (hd : decode cc pc = .ok (.aaload, 1)) (hk : k < w.1) (hs : w.2.1 k = (t + 4, n)) (ht : t < 2) (hn : n ≤ 2147483647) (h0 : 0 ≤ i) (h1 : i < n) {q : Nat} (hq : w.2.2 k i = (q : Int)) (kk : X cu su w μ (pc + 1) lo (xR q :: st)) : X cu su w μ pc lo (xI i :: xR k :: st) := by
  obtain ⟨p, l, e, s, m, args, below, meth, c, g, w0, ad0, A, ⟨hx, hb, hml, hown, hT, hK, hSt, hA⟩, hr, hlk, hnm, rfl⟩ := hL
  intro H locs ls ad a1 a2 a3 hP hD hS hok hlo
  have kk := kk H locs ls ad a1 a2 a3 hP hD hS hok hlo
  simp only [List.map_cons, xt] at kk ⊢
  have hty : ∃ C, (xtys g)[t + 3]? = some (g.2.1 (t + 3), .object C) := by
    rcases (show t = 0 ∨ t = 1 by omega) with rfl | rfl
    · exact ⟨_, rfl⟩
    · exact ⟨_, rfl⟩
  obtain ⟨C, hty⟩ := hty
  refine va_aldq hx hb hK hP k (t + 3) (n := n) (f := fun j => if w.2.2 k j < 0 then none else some (ad (w.2.2 k j).toNat)) (cA := g.2.1 (t + 3)) (by rw [xw_get hk, hs]; rfl) hty (xn_in h0 h1 hn) hd ?_
  rw [xn_cl h0 (by omega), Int.toNat_of_nonneg h0, hq, if_neg (by omega)]
  exact kk
theorem r_iast (hL : Lg own nm cc nL R ret mc ms K X) {k n : Nat} {i x : Int} (hd : decode cc pc = .ok (.iastore, 1)) (hk : k < w.1) (hs : w.2.1 k = (1, n)) (hn : n ≤ 2147483647) (h0 : 0 ≤ i) (h1 : i < n) (hrg : xrg x) (kk : ∀ μ', μ' = xup μ k i x → X cu su w μ' (pc + 1) lo st) : X cu su w μ pc lo (xI x :: xI i :: xR k :: st) := by
  obtain ⟨p, l, e, s, m, args, below, meth, c, g, w0, ad0, A, ⟨hx, hb, hml, hown, hT, hK, hSt, hA⟩, hr, hlk, hnm, rfl⟩ := hL
  intro H locs ls ad a1 a2 a3 hP hD hS hok hlo
  simp only [List.map_cons, xt]
  refine va_iast hx hb hK hP hD hS k 0 (n := n) (f := fun j => Int32.ofInt (μ k j)) (cA := g.2.1 0) (by rw [xw_get hk, hs]; rfl) rfl (xn_in h0 h1 hn) hd (fun H1 locs1 hP1 hD1 hS1 => ?_)
  have hset : (xw g w μ ad).set k (ad k, .inl (g.2.1 0, n, .inl (upd (fun j => Int32.ofInt (μ k j)) (Int32.ofInt i).toNatClampNeg (Int32.ofInt x)))) = xw g w (xup μ k i x) ad := by
    rw [xup_put, ← xw_set hk, hs]
    show _ = (xw g w μ ad).set k (ad k, .inl (g.2.1 0, n, .inl (fun j => Int32.ofInt (xf1 (μ k) i x j))))
    congr 6
    funext q
    rw [xn_cl h0 (by omega)]
    simp only [upd, xf1]
    by_cases hq : q = i.toNat
    · rw [if_pos hq, if_pos (by omega)]
    · rw [if_neg hq, if_neg (by omega)]
  rw [hset] at hP1 hD1
  exact kk _ rfl H1 locs1 ls ad a1 a2 a3 hP1 hD1 hS1 (hok.upi (by rw [hs]; simp [xsk]) hrg) hlo
theorem r_last (hL : Lg own nm cc nL R ret mc ms K X) {k n : Nat} {i x : Int} (hd : decode cc pc = .ok (.lastore, 1)) (hk : k < w.1) (hs : w.2.1 k = (2, n)) (hn : n ≤ 2147483647) (h0 : 0 ≤ i) (h1 : i < n) (hrg : xrl x) (kk : ∀ μ', μ' = xup μ k i x → X cu su w μ' (pc + 1) lo st) : X cu su w μ pc lo (xL x :: xI i :: xR k :: st) := by
  obtain ⟨p, l, e, s, m, args, below, meth, c, g, w0, ad0, A, ⟨hx, hb, hml, hown, hT, hK, hSt, hA⟩, hr, hlk, hnm, rfl⟩ := hL
  intro H locs ls ad a1 a2 a3 hP hD hS hok hlo
  simp only [List.map_cons, xt]
  refine va_last hx hb hK hP hD hS k 1 (n := n) (f := fun j => Int64.ofInt (μ k j)) (cA := g.2.1 1) (by rw [xw_get hk, hs]; rfl) rfl (xn_in h0 h1 hn) hd (fun H1 locs1 hP1 hD1 hS1 => ?_)
  have hset : (xw g w μ ad).set k (ad k, .inl (g.2.1 1, n, .inr (.inl (vp_updL (fun j => Int64.ofInt (μ k j)) (Int32.ofInt i).toNatClampNeg (Int64.ofInt x))))) = xw g w (xup μ k i x) ad := by
    rw [xup_put, ← xw_set hk, hs]
    show _ = (xw g w μ ad).set k (ad k, .inl (g.2.1 1, n, .inr (.inl (fun j => Int64.ofInt (xf1 (μ k) i x j)))))
    congr 7
    funext q
    rw [xn_cl h0 (by omega)]
    simp only [vp_updL, xf1]
    by_cases hq : q = i.toNat
    · rw [if_pos hq, if_pos (by omega)]
    · rw [if_neg hq, if_neg (by omega)]
  rw [hset] at hP1 hD1
  exact kk _ rfl H1 locs1 ls ad a1 a2 a3 hP1 hD1 hS1 (hok.upl (by rw [hs]; rfl) hrg) hlo
theorem r_zast (hL : Lg own nm cc nL R ret mc ms K X) {k n : Nat} {i x : Int} (hd : decode cc pc = .ok (.bastore, 1)) (hk : k < w.1) (hs : w.2.1 k = (3, n)) (hn : n ≤ 2147483647) (h0 : 0 ≤ i) (h1 : i < n) (hrg : x = 0 ∨ x = 1) (kk : ∀ μ', μ' = xup μ k i x → X cu su w μ' (pc + 1) lo st) : X cu su w μ pc lo (xI x :: xI i :: xR k :: st) := by
  obtain ⟨p, l, e, s, m, args, below, meth, c, g, w0, ad0, A, ⟨hx, hb, hml, hown, hT, hK, hSt, hA⟩, hr, hlk, hnm, rfl⟩ := hL
  intro H locs ls ad a1 a2 a3 hP hD hS hok hlo
  simp only [List.map_cons, xt]
  have hz : vp_nar .boolean (Int32.ofInt x) = Int32.ofInt x := by rcases hrg with rfl | rfl <;> rfl
  refine va_zast hx hb hK hP hD hS k 2 (n := n) (f := fun j => Int32.ofInt (μ k j)) (cA := g.2.1 2) (by rw [xw_get hk, hs]; rfl) rfl (xn_in h0 h1 hn) hd (fun H1 locs1 hP1 hD1 hS1 => ?_)
  rw [hz] at hP1 hD1
  have hset : (xw g w μ ad).set k (ad k, .inl (g.2.1 2, n, .inl (upd (fun j => Int32.ofInt (μ k j)) (Int32.ofInt i).toNatClampNeg (Int32.ofInt x)))) = xw g w (xup μ k i x) ad := by
    rw [xup_put, ← xw_set hk, hs]
    show _ = (xw g w μ ad).set k (ad k, .inl (g.2.1 2, n, .inl (fun j => Int32.ofInt (xf1 (μ k) i x j))))
    congr 6
    funext q
    rw [xn_cl h0 (by omega)]
    simp only [upd, xf1]
    by_cases hq : q = i.toNat
    · rw [if_pos hq, if_pos (by omega)]
    · rw [if_neg hq, if_neg (by omega)]
  rw [hset] at hP1 hD1
  exact kk _ rfl H1 locs1 ls ad a1 a2 a3 hP1 hD1 hS1 (hok.upi (by rw [hs]; simp [xsk]) (by rcases hrg with rfl | rfl <;> omega)) hlo
/-! the static rows -/
theorem r_getsF (hL : Lg own nm cc nL R ret mc ms K X) {i : Nat} (hd : decode cc pc = .ok (.getstatic i, 3)) (hl : xWd (.fieldLink own i "TaleTypes$Lineup" "OF_FIRST" "[I"))
    (kk : ∀ a : Nat, (∀ {cu su : Nat} {w : xW} {μ : xM} {pc : Nat} {lo : xLoc} {st : List xV} {i : Int}, decode cc pc = .ok (.iaload, 1) → 0 ≤ i → i < 4 → X cu su w μ (pc + 1) lo (xI (xOF i) :: st) → X cu su w μ pc lo (xI i :: xA a :: st)) → X cu su w μ (pc + 3) lo (xA a :: st)) : X cu su w μ pc lo st := by
  obtain ⟨p, l, e, s, m, args, below, meth, c, g, w0, ad0, A, ⟨hx, hb, hml, hown, hT, hK, hSt, hA⟩, hr, hlk, hnm, rfl⟩ := hL
  intro H locs ls ad a1 a2 a3 hP hD hS hok hlo
  refine va_gets hx hb hSt.1 hS hown (hT _ hl _) (fun _ h => h) hd (kk g.2.2.1 ?_ H locs ls ad a1 a2 a3 hP hD hS hok hlo)
  intro cu su w μ pc lo st i hd h0 h1 k H locs ls ad a1 a2 a3 hP hD hS hok hlo
  have kk := k H locs ls ad a1 a2 a3 hP hD hS hok hlo
  simp only [List.map_cons, xt] at kk ⊢
  refine va_ti hx hb hSt.2.2.1 hS (xn_in h0 (by omega) (by decide)) ?_ hd kk
  show Value.int (Int32.ofInt (xOF ((Int32.ofInt i).toNatClampNeg : Int))) = _
  rw [xn_cl h0 (by omega), Int.toNat_of_nonneg h0]
theorem r_getsO (hL : Lg own nm cc nL R ret mc ms K X) {i : Nat} (hd : decode cc pc = .ok (.getstatic i, 3)) (hl : xWd (.fieldLink own i "TaleTypes$Lineup" "OF_OTHER" "[I"))
    (kk : ∀ a : Nat, (∀ {cu su : Nat} {w : xW} {μ : xM} {pc : Nat} {lo : xLoc} {st : List xV} {i : Int}, decode cc pc = .ok (.iaload, 1) → 0 ≤ i → i < 4 → X cu su w μ (pc + 1) lo (xI (xOO i) :: st) → X cu su w μ pc lo (xI i :: xA a :: st)) → X cu su w μ (pc + 3) lo (xA a :: st)) : X cu su w μ pc lo st := by
  obtain ⟨p, l, e, s, m, args, below, meth, c, g, w0, ad0, A, ⟨hx, hb, hml, hown, hT, hK, hSt, hA⟩, hr, hlk, hnm, rfl⟩ := hL
  intro H locs ls ad a1 a2 a3 hP hD hS hok hlo
  refine va_gets hx hb hSt.2.1 hS hown (hT _ hl _) (fun _ h => h) hd (kk g.2.2.2 ?_ H locs ls ad a1 a2 a3 hP hD hS hok hlo)
  intro cu su w μ pc lo st i hd h0 h1 k H locs ls ad a1 a2 a3 hP hD hS hok hlo
  have kk := k H locs ls ad a1 a2 a3 hP hD hS hok hlo
  simp only [List.map_cons, xt] at kk ⊢
  refine va_ti hx hb hSt.2.2.2 hS (xn_in h0 (by omega) (by decide)) ?_ hd kk
  show Value.int (Int32.ofInt (xOO ((Int32.ofInt i).toNatClampNeg : Int))) = _
  rw [xn_cl h0 (by omega), Int.toNat_of_nonneg h0]
/-! returns -/
theorem r_iret (hL : Lg own nm cc nL R ret mc ms K X) {v : Int} (hd : decode cc pc = .ok (.ireturn, 1)) (hret : ret = some .int) (k : K (some (xI v)) w μ) : X mc ms w μ pc lo [xI v] := by
  obtain ⟨p, l, e, s, m, args, below, meth, c, g, w0, ad0, A, ⟨hx, hb, hml, hown, hT, hK, hSt, hA⟩, hr, hlk, hnm, rfl⟩ := hL
  intro H locs ls ad a1 a2 a3 hP hD hS hok hlo
  exact W.iret hx hb (hr.trans hret) (fun t ht hW => ⟨⟨some (xI v), w, μ, ad, rfl, k, a1, a2, a3, by rw [ht]; exact hP, hD, hok⟩, hS.F ht⟩) hS.2.2 hd hlk
theorem r_zret (hL : Lg own nm cc nL R ret mc ms K X) {v : Int} (hd : decode cc pc = .ok (.ireturn, 1)) (hret : ret = some .boolean) (hv : v = 0 ∨ v = 1) (k : K (some (xI v)) w μ) : X mc ms w μ pc lo [xI v] := by
  obtain ⟨p, l, e, s, m, args, below, meth, c, g, w0, ad0, A, ⟨hx, hb, hml, hown, hT, hK, hSt, hA⟩, hr, hlk, hnm, rfl⟩ := hL
  intro H locs ls ad a1 a2 a3 hP hD hS hok hlo
  exact W.zret hx hb (hr.trans hret) (by rcases hv with rfl | rfl <;> rfl) (fun t ht hW => ⟨⟨some (xI v), w, μ, ad, rfl, k, a1, a2, a3, by rw [ht]; exact hP, hD, hok⟩, hS.F ht⟩) hS.2.2 hd hlk
theorem r_lret (hL : Lg own nm cc nL R ret mc ms K X) {v : Int} (hd : decode cc pc = .ok (.lreturn, 1)) (hret : ret = some .long) (k : K (some (xL v)) w μ) : X mc ms w μ pc lo [xL v] := by
  obtain ⟨p, l, e, s, m, args, below, meth, c, g, w0, ad0, A, ⟨hx, hb, hml, hown, hT, hK, hSt, hA⟩, hr, hlk, hnm, rfl⟩ := hL
  intro H locs ls ad a1 a2 a3 hP hD hS hok hlo
  exact W.lret hx hb (hr.trans hret) (fun t ht hW => ⟨⟨some (xL v), w, μ, ad, rfl, k, a1, a2, a3, by rw [ht]; exact hP, hD, hok⟩, hS.F ht⟩) hS.2.2 hd hlk
theorem r_vret (hL : Lg own nm cc nL R ret mc ms K X) (hd : decode cc pc = .ok (.return_, 1)) (hret : ret = none) (k : K none w μ) : X mc ms w μ pc lo [] := by
  obtain ⟨p, l, e, s, m, args, below, meth, c, g, w0, ad0, A, ⟨hx, hb, hml, hown, hT, hK, hSt, hA⟩, hr, hlk, hnm, rfl⟩ := hL
  intro H locs ls ad a1 a2 a3 hP hD hS hok hlo
  exact W.vret hx hb (hr.trans hret) (fun t ht hW => ⟨⟨none, w, μ, ad, rfl, k, a1, a2, a3, by rw [ht]; exact hP, hD, hok⟩, hS.F ht⟩) hS.2.2 hd hlk
end
