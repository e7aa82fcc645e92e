/-! ===== whole numbers: an int of the machine is Int32.ofInt of a number ===== -/
abbrev xrg (x : Int) : Prop := -2147483648 ≤ x ∧ x ≤ 2147483647
abbrev xrl (x : Int) : Prop := -9223372036854775808 ≤ x ∧ x ≤ 9223372036854775807
theorem xn_i {x : Int} (h : xrg x) : (Int32.ofInt x).toInt = x := Int32.toInt_ofInt_of_le (by omega) (by omega)
theorem xn_l {x : Int} (h : xrl x) : (Int64.ofInt x).toInt = x := Int64.toInt_ofInt_of_le (by omega) (by omega)
theorem xn_lt {x y : Int} (hx : xrg x) (hy : xrg y) : Int32.ofInt x < Int32.ofInt y ↔ x < y := by
  rw [Int32.lt_iff_toInt_lt, xn_i hx, xn_i hy]
theorem xn_le {x y : Int} (hx : xrg x) (hy : xrg y) : Int32.ofInt x ≤ Int32.ofInt y ↔ x ≤ y := by
  rw [Int32.le_iff_toInt_le, xn_i hx, xn_i hy]
theorem xn_eq {x y : Int} (hx : xrg x) (hy : xrg y) : Int32.ofInt x = Int32.ofInt y ↔ x = y := by
  rw [← Int32.toInt_inj, xn_i hx, xn_i hy]
theorem xn_zero : (0 : Int32) = Int32.ofInt 0 := rfl
theorem xn_cl {x : Int} (h0 : 0 ≤ x) (h1 : x < 2147483648) : (Int32.ofInt x).toNatClampNeg = x.toNat := by
  rw [← Int32.toNat_toInt, xn_i (by omega)]
theorem xn_in {x : Int} {n : Nat} (h0 : 0 ≤ x) (h1 : x < n) (hn : n ≤ 2147483647) : vp_in (Int32.ofInt x) n := by
  rw [vp_in_iff, xn_i (by omega)]
  exact ⟨h0, h1⟩
theorem xn_rg (x : Int32) : xrg x.toInt := by
  have h1 := x.toInt_lt
  have h2 := x.le_toInt
  omega
theorem xn_rl (x : Int64) : xrl x.toInt := by
  have h1 := x.toInt_lt
  have h2 := x.le_toInt
  omega
theorem xn_of (x : Int32) : Int32.ofInt x.toInt = x := Int32.ofInt_toInt x
theorem xn_ofl (x : Int64) : Int64.ofInt x.toInt = x := Int64.ofInt_toInt x
def xand (x y : Int) : Int := (Int32.ofInt x &&& Int32.ofInt y).toInt
def xor' (x y : Int) : Int := (Int32.ofInt x ||| Int32.ofInt y).toInt
def xxor (x y : Int) : Int := (Int32.ofInt x ^^^ Int32.ofInt y).toInt
def xshl (x y : Int) : Int := (Int32.ofInt x <<< (Int32.ofInt y &&& 31)).toInt
def xshr (x y : Int) : Int := (Int32.ofInt x >>> (Int32.ofInt y &&& 31)).toInt
def xushr (x y : Int) : Int := ((Int32.ofInt x).toUInt32 >>> ((Int32.ofInt y).toUInt32 &&& Int32.toUInt32 31)).toInt32.toInt
def xdiv (x y : Int) : Int := (Int32.ofInt x / Int32.ofInt y).toInt
def xrem (x y : Int) : Int := (Int32.ofInt x - Int32.ofInt x / Int32.ofInt y * Int32.ofInt y).toInt
def xland (x y : Int) : Int := (Int64.ofInt x &&& Int64.ofInt y).toInt
def xlor (x y : Int) : Int := (Int64.ofInt x ||| Int64.ofInt y).toInt
def xlshl (x y : Int) : Int := (Int64.ofInt x <<< ((Int32.ofInt y).toInt64 &&& 63)).toInt
def xlushr (x y : Int) : Int := ((Int64.ofInt x).toUInt64 >>> ((Int32.ofInt y).toInt64.toUInt64 &&& Int64.toUInt64 63)).toInt64.toInt
def xlrem (x y : Int) : Int := (Int64.ofInt x - Int64.ofInt x / Int64.ofInt y * Int64.ofInt y).toInt
/-! ===== values, shapes, memory ===== -/
/-- an int, a long, a cell by its number, an address -/
abbrev xV : Type := Int ⊕ (Int ⊕ (Nat ⊕ Nat))
abbrev xI (x : Int) : xV := .inl x
abbrev xL (x : Int) : xV := .inr (.inl x)
abbrev xR (k : Nat) : xV := .inr (.inr (.inl k))
abbrev xA (a : Nat) : xV := .inr (.inr (.inr a))
def xt (ad : Nat → Nat) (v : xV) : Value := match v with
  | .inl x => .int (Int32.ofInt x)
  | .inr (.inl x) => .long (Int64.ofInt x)
  | .inr (.inr (.inl k)) => .ref (ad k)
  | .inr (.inr (.inr a)) => .ref a
abbrev xM : Type := Nat → Int → Int
/-- how many cells, their shapes, what their references are -/
abbrev xW : Type := Nat × (Nat → Nat × Nat) × (Nat → Int → Int)
abbrev xG : Type := va_G × (Nat → ClassId) × Nat × Nat
def xup (μ : xM) (k : Nat) (j v : Int) : xM := fun a b => if a = k ∧ b = j then v else μ a b
def xput (μ : xM) (k : Nat) (f : Int → Int) : xM := fun a => if a = k then f else μ a
def xf1 (f : Int → Int) (j v : Int) : Int → Int := fun b => if b = j then v else f b
theorem xup_put (μ : xM) (k : Nat) (j v : Int) : xup μ k j v = xput μ k (xf1 (μ k) j v) := by
  funext a b
  simp only [xup, xput, xf1]
  by_cases ha : a = k
  · subst ha; simp [xf1]
  · simp [ha]
theorem xup_s (μ : xM) (k : Nat) (j v : Int) : xup μ k j v k j = v := by simp [xup]
theorem xup_c {μ : xM} {k a : Nat} {j v : Int} (h : a ≠ k) : xup μ k j v a = μ a := by funext b; simp [xup, h]
theorem xup_j {μ : xM} {k a : Nat} {j v b : Int} (h : b ≠ j) : xup μ k j v a b = μ a b := by simp [xup, h]
/-- the kinds of a class's fields: 0 int, 1 long, 2 a reference, 3 boolean -/
def xks (ci : Nat) : List Nat := match ci with
  | 0 => [2, 2, 2, 0]
  | 1 => [2, 0, 0]
  | 2 => [2]
  | 3 => [2, 0, 3]
  | 4 => [2, 2, 2, 2, 2, 2, 2, 0, 0]
  | 5 => [2, 2, 2, 2, 0, 0]
  | 6 => [2, 2, 2, 2, 0, 0, 0, 0, 0, 0, 0]
  | 7 => [2, 2, 2, 2, 2, 2, 2, 1, 0, 3]
  | _ => [2, 2, 0, 2, 2, 2, 0, 2, 0, 0, 2, 0, 2, 0, 2, 2, 2, 2, 2, 2, 0, 2, 2, 2]
def xfv (ad : Nat → Nat) (kd : Nat) (r x : Int) : Value := match kd with
  | 1 => .long (Int64.ofInt x)
  | 2 => if r < 0 then .null else .ref (ad r.toNat)
  | _ => .int (Int32.ofInt x)
def xfs (ad : Nat → Nat) (ks : List Nat) (rf f : Int → Int) : List Value := (List.range ks.length).map fun j => xfv ad (ks.getD j 0) (rf j) (f j)
theorem xfs_get {ad : Nat → Nat} {ks : List Nat} {rf f : Int → Int} {j : Nat} (h : j < ks.length) : (xfs ad ks rf f)[j]? = some (xfv ad (ks.getD j 0) (rf j) (f j)) := by
  simp [xfs, h]
theorem xfs_len {ad : Nat → Nat} {ks : List Nat} {rf f : Int → Int} : (xfs ad ks rf f).length = ks.length := by simp [xfs]
theorem xfs_set {ad : Nat → Nat} {ks : List Nat} {rf f : Int → Int} {j : Nat} {x : Int} (hj : j < ks.length) : (xfs ad ks rf f).set j (xfv ad (ks.getD j 0) (rf j) x) = xfs ad ks rf (xf1 f j x) := by
  apply List.ext_getElem?
  intro i
  by_cases hi : i = j
  · subst hi
    rw [List.getElem?_set_self (by rw [xfs_len]; exact hj), xfs_get hj]
    simp [xf1]
  · rw [List.getElem?_set_ne (fun h => hi h.symm)]
    by_cases hl : i < ks.length
    · rw [xfs_get hl, xfs_get hl]
      simp [xf1, show ¬ ((i : Int) = (j : Int)) by omega]
    · rw [List.getElem?_eq_none (by rw [xfs_len]; omega), List.getElem?_eq_none (by rw [xfs_len]; omega)]
theorem xfs_setr {ad : Nat → Nat} {ks : List Nat} {rf f : Int → Int} {j : Nat} {r : Int} (hj : j < ks.length) : (xfs ad ks rf f).set j (xfv ad (ks.getD j 0) r (f j)) = xfs ad ks (xf1 rf j r) f := by
  apply List.ext_getElem?
  intro i
  by_cases hi : i = j
  · subst hi
    rw [List.getElem?_set_self (by rw [xfs_len]; exact hj), xfs_get hj]
    simp [xf1]
  · rw [List.getElem?_set_ne (fun h => hi h.symm)]
    by_cases hl : i < ks.length
    · rw [xfs_get hl, xfs_get hl]
      simp [xf1, show ¬ ((i : Int) = (j : Int)) by omega]
    · rw [List.getElem?_eq_none (by rw [xfs_len]; omega), List.getElem?_eq_none (by rw [xfs_len]; omega)]
/-- what a cell holds: an object of a class (0, its number); an array (1 int, 2 long, 3 boolean, 4 State, 5 Image; its length) -/
def xent (g : xG) (ad : Nat → Nat) (s : Nat × Nat) (rf f : Int → Int) : va_E := match s.1 with
  | 0 => .inr (s.2, xfs ad (xks s.2) rf f)
  | 1 => .inl (g.2.1 0, s.2, .inl fun j => Int32.ofInt (f j))
  | 2 => .inl (g.2.1 1, s.2, .inr (.inl fun j => Int64.ofInt (f j)))
  | 3 => .inl (g.2.1 2, s.2, .inl fun j => Int32.ofInt (f j))
  | k + 4 => .inl (g.2.1 (k + 3), s.2, .inr (.inr (.inr (.inr fun j => if rf j < 0 then none else some (ad (rf j).toNat)))))
def xw (g : xG) (w : xW) (μ : xM) (ad : Nat → Nat) : va_W := (List.range w.1).map fun k => (ad k, xent g ad (w.2.1 k) (w.2.2 k) (μ k))
theorem xw_get {g : xG} {w : xW} {μ : xM} {ad : Nat → Nat} {k : Nat} (h : k < w.1) : (xw g w μ ad)[k]? = some (ad k, xent g ad (w.2.1 k) (w.2.2 k) (μ k)) := by
  simp [xw, h]
theorem xw_len {g : xG} {w : xW} {μ : xM} {ad : Nat → Nat} : (xw g w μ ad).length = w.1 := by simp [xw]
theorem xw_inv {g : xG} {w : xW} {μ : xM} {ad : Nat → Nat} {k : Nat} {q : Nat × va_E} (h : (xw g w μ ad)[k]? = some q) : k < w.1 ∧ q = (ad k, xent g ad (w.2.1 k) (w.2.2 k) (μ k)) := by
  have hk : k < w.1 := by
    have := (List.getElem?_eq_some_iff.mp h).1
    rwa [xw_len] at this
  rw [xw_get hk] at h
  exact ⟨hk, (Option.some.inj h).symm⟩
theorem xw_set {g : xG} {w : xW} {μ : xM} {ad : Nat → Nat} {k : Nat} {f : Int → Int} (h : k < w.1) : (xw g w μ ad).set k (ad k, xent g ad (w.2.1 k) (w.2.2 k) f) = xw g w (xput μ k f) ad := by
  apply List.ext_getElem?
  intro i
  by_cases hi : i = k
  · subst hi
    rw [List.getElem?_set_self (by rw [xw_len]; exact h), xw_get h]
    simp [xput]
  · rw [List.getElem?_set_ne (fun h => hi h.symm)]
    by_cases hl : i < w.1
    · rw [xw_get hl, xw_get hl]
      simp [xput, hi]
    · rw [List.getElem?_eq_none (by rw [xw_len]; omega), List.getElem?_eq_none (by rw [xw_len]; omega)]
/-- the same world with other references -/
def xrf (w : xW) (k : Nat) (j r : Int) : xW := (w.1, w.2.1, xup w.2.2 k j r)
theorem xw_setr {g : xG} {w : xW} {μ : xM} {ad : Nat → Nat} {k : Nat} {j r : Int} (h : k < w.1) : (xw g w μ ad).set k (ad k, xent g ad (w.2.1 k) (xf1 (w.2.2 k) j r) (μ k)) = xw g (xrf w k j r) μ ad := by
  apply List.ext_getElem?
  intro i
  by_cases hi : i = k
  · subst hi
    rw [List.getElem?_set_self (by rw [xw_len]; exact h), xw_get (w := xrf w i j r) h]
    simp [xrf, xup_put, xput]
  · rw [List.getElem?_set_ne (fun h => hi h.symm)]
    by_cases hl : i < w.1
    · rw [xw_get hl, xw_get (w := xrf w k j r) hl]
      simp [xrf, xup_c hi]
    · rw [List.getElem?_eq_none (by rw [xw_len]; omega), List.getElem?_eq_none (by rw [xw_len]; exact Nat.not_lt.mp hl)]
/-- is a slot a long -/
def xsk (s : Nat × Nat) (j : Int) : Nat := match s.1 with
  | 0 => (xks s.2).getD j.toNat 0
  | 2 => 1
  | _ => 0
/-- what a memory must keep: ints are ints, longs are longs, references are of cells that there are -/
def xok (w : xW) (μ : xM) : Prop := (∀ k j, k < w.1 → xsk (w.2.1 k) j ≠ 1 → xrg (μ k j)) ∧ (∀ k j, k < w.1 → xsk (w.2.1 k) j = 1 → xrl (μ k j)) ∧ ∀ k j, k < w.1 → w.2.2 k j < (w.1 : Int)
theorem xok.upi {w : xW} {μ : xM} (h : xok w μ) {k : Nat} {j v : Int} (hk : xsk (w.2.1 k) j ≠ 1) (hv : xrg v) : xok w (xup μ k j v) := by
  refine ⟨fun a b ha hs => ?_, fun a b ha hs => ?_, h.2.2⟩
  · by_cases hb : a = k ∧ b = j
    · simp [xup, hb]; exact hv
    · simp only [xup, if_neg hb]; exact h.1 a b ha hs
  · by_cases hb : a = k ∧ b = j
    · rw [hb.1, hb.2] at hs; exact absurd hs hk
    · simp only [xup, if_neg hb]; exact h.2.1 a b ha hs
theorem xok.upl {w : xW} {μ : xM} (h : xok w μ) {k : Nat} {j v : Int} (hk : xsk (w.2.1 k) j = 1) (hv : xrl v) : xok w (xup μ k j v) := by
  refine ⟨fun a b ha hs => ?_, fun a b ha hs => ?_, h.2.2⟩
  · by_cases hb : a = k ∧ b = j
    · rw [hb.1, hb.2] at hs; exact absurd hk hs
    · simp only [xup, if_neg hb]; exact h.1 a b ha hs
  · by_cases hb : a = k ∧ b = j
    · simp [xup, hb]; exact hv
    · simp only [xup, if_neg hb]; exact h.2.1 a b ha hs
/-- the cells that a method may change -/
def xAs (w : xW) (ad : Nat → Nat) (sz : Nat) : Nat → Prop := fun q => (∃ k, k < w.1 ∧ ad k = q) ∨ sz ≤ q
abbrev vwCl : List vw_C := [(RX0, TX0, 4), (RX1, TX1, 3), (RX2, TX2, 1), (RX3, TX3, 3), (RX4, TX4, 9), (RX5, TX5, 6), (RX6, TX6, 11), (RX7, TX7, 10), (RX8, TX8, 24)]
def xtys (g : xG) : List (ClassId × FieldType) := [(g.2.1 0, .int), (g.2.1 1, .long), (g.2.1 2, .boolean), (g.2.1 3, .object "TaleTypes$State"), (g.2.1 4, .object "TaleTypes$Image")]
/-- the two static rows of Lineup -/
def xOF (j : Int) : Int := if j = 2 then 0 else if j = 3 then 2 else 1
def xOO (j : Int) : Int := if j = 1 then 0 else if j = 3 then 2 else 1
def xSt (g : xG) (A : Nat → Prop) (U : State) (H : Heap) : Prop := va_Z "TaleTypes$Lineup" "OF_FIRST" "[I" (.ref g.2.2.1) A U H ∧ va_Z "TaleTypes$Lineup" "OF_OTHER" "[I" (.ref g.2.2.2) A U H ∧ va_T .int g.2.2.1 4 (fun j => .int (Int32.ofInt (xOF j))) A U H ∧ va_T .int g.2.2.2 4 (fun j => .int (Int32.ofInt (xOO j))) A U H
theorem xSt.moved {g : xG} {A : Nat → Prop} {u U : State} {H : Heap} (hvm : u.vm.Alike U.vm) (h : xSt g A u H) : xSt g A U H := ⟨h.1.moved hvm, h.2.1.moved hvm, h.2.2.1.moved hvm, h.2.2.2.moved hvm⟩
theorem xSt.kept {g : xG} {A : Nat → Prop} {U : State} {H H1 : Heap} (h : xSt g A U H) (hq : ∀ a : Nat, a < H.size → ¬ A a → H1[a]? = H[a]?) : xSt g A U H1 := ⟨h.1.kept hq, h.2.1.kept hq, h.2.2.1.kept hq, h.2.2.2.kept hq⟩
theorem xSt.narrow {g : xG} {A B : Nat → Prop} {U : State} {H : Heap} (h : xSt g A U H) (hAB : ∀ q, B q → A q) : xSt g B U H := ⟨h.1.narrow hAB, h.2.1.narrow hAB, h.2.2.1.narrow hAB, h.2.2.2.narrow hAB⟩
/-- the tables' words, at a state -/
def xgw (w : Cond) : Bool := match w with
  | .fieldLinkNest _ _ _ _ _ _ => true
  | .methodLinkNest _ _ _ _ => true
  | .arrayOver (.object _) => true
  | w => goodWord w
def xWd (w : Cond) : Prop := w ∈ lw_tbl ∧ xgw w = true
def xTab (U : State) : Prop := ∀ w, xWd w → ∀ a : Array Value, w.before a U = true
theorem xTab.warm {s U : State} (h : xTab s) (hW : s.WarmedH U.vm) : xTab U := by
  intro w hw a
  have h0 := h w hw
  obtain ⟨hm, hg⟩ := hw
  unfold xgw at hg
  split at hg
  · exact va_Nw.use rfl (va_Nw.warmF hW (va_Nw.of rfl (h0 #[])))
  · exact va_Nw.use rfl (va_Nw.warmM hW (va_Nw.of rfl (h0 #[])))
  · exact va_AO.use (va_AO.moved hW.alike (va_AO.of (h0 #[])))
  · exact word_at hW (good_of_word hg) (h0 #[])
theorem xWd.at {i : Nat} {w : Cond} (h : lw_tbl[i]? = some w) (hg : xgw w = true) : xWd w := ⟨List.mem_of_getElem? h, hg⟩
