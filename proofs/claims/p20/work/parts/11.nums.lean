theorem wb_tb (n : Nat) : (lN n).toBitVec = BitVec.ofNat 64 n := rfl
theorem wb_inj {a b : Int64} (h : a.toBitVec = b.toBitVec) : a = b := Int64.toBitVec_inj.mp h
theorem wb_tn {n : Nat} (h : n < 2 ^ 64) : (lN n).toBitVec.toNat = n := by rw [wb_tb, BitVec.toNat_ofNat, Nat.mod_eq_of_lt h]
theorem wb_of (x : Int64) : ∃ n, n < 2 ^ 64 ∧ x = lN n := ⟨x.toBitVec.toNat, x.toBitVec.isLt, wb_inj (by rw [wb_tb]; simp)⟩
theorem wb_of32 (x : Int32) : ∃ n, n < 2 ^ 32 ∧ x = nI n := ⟨x.toBitVec.toNat, x.toBitVec.isLt, Int32.toBitVec_inj.mp (by show _ = BitVec.ofNat 32 _; simp)⟩
theorem wb_c : ∀ k, k < 64 → ((nI k).toInt64 &&& 63) = lN k := by decide +kernel
theorem wb_cu : ∀ k, k < 64 → ((nI k).toInt64.toUInt64 &&& Int64.toUInt64 63) = UInt64.ofNat k := by decide +kernel
theorem wb_sm : ∀ k, k < 64 → (BitVec.ofNat 64 k).smod 64 = BitVec.ofNat 64 k := by decide +kernel
theorem wb_pw {a b : Nat} (h : a ≤ b) : 2 ^ b = 2 ^ a * 2 ^ (b - a) := by rw [← Nat.pow_add]; congr 1; omega
theorem wb_lt2 {a b : Nat} (h : a < b) : 2 ^ a < 2 ^ b := Nat.pow_lt_pow_right (by decide) h
theorem wb_mod (n : Nat) : lN n = lN (n % 2 ^ 64) := wb_inj (by rw [wb_tb, wb_tb]; apply BitVec.eq_of_toNat_eq; rw [BitVec.toNat_ofNat, BitVec.toNat_ofNat, Nat.mod_mod])
theorem wb_shr {n k : Nat} (hn : n < 2 ^ 64) (hk : k < 64) : ((lN n).toUInt64 >>> ((nI k).toInt64.toUInt64 &&& Int64.toUInt64 63)).toInt64 = lN (n / 2 ^ k) := by
  rw [wb_cu k hk]
  apply wb_inj
  apply BitVec.eq_of_toNat_eq
  show ((lN n).toUInt64 >>> UInt64.ofNat k).toNat = (BitVec.ofNat 64 _).toNat
  have h1 : (UInt64.ofNat k).toNat = k := by
    show (BitVec.ofNat 64 k).toNat = k
    rw [BitVec.toNat_ofNat, Nat.mod_eq_of_lt (by omega)]
  have h2 : (lN n).toUInt64.toNat = n := wb_tn hn
  rw [UInt64.toNat_shiftRight, h1, h2, Nat.mod_eq_of_lt hk, Nat.shiftRight_eq_div_pow, BitVec.toNat_ofNat, Nat.mod_eq_of_lt (Nat.lt_of_le_of_lt (Nat.div_le_self _ _) hn)]
theorem wb_shl (n : Nat) {k : Nat} (hk : k < 64) : lN n <<< ((nI k).toInt64 &&& 63) = lN (n * 2 ^ k) := by
  rw [wb_c k hk]
  apply wb_inj
  rw [Int64.toBitVec_shiftLeft, wb_tb, wb_tb, wb_tb, wb_sm k hk]
  apply BitVec.eq_of_toNat_eq
  rw [BitVec.shiftLeft_eq', BitVec.toNat_shiftLeft, BitVec.toNat_ofNat, BitVec.toNat_ofNat, BitVec.toNat_ofNat, Nat.mod_eq_of_lt (show k < 2 ^ 64 by omega), Nat.shiftLeft_eq, Nat.mul_mod, Nat.mod_mod, ← Nat.mul_mod]
theorem wb_and {a b : Nat} (ha : a < 2 ^ 64) (hb : b < 2 ^ 64) : lN a &&& lN b = lN (a &&& b) := by
  apply wb_inj
  rw [Int64.toBitVec_and, wb_tb, wb_tb, wb_tb]
  apply BitVec.eq_of_toNat_eq
  rw [BitVec.toNat_and, BitVec.toNat_ofNat, BitVec.toNat_ofNat, BitVec.toNat_ofNat, Nat.mod_eq_of_lt ha, Nat.mod_eq_of_lt hb, Nat.mod_eq_of_lt (Nat.and_lt_two_pow _ hb)]
theorem wb_or {a b : Nat} (ha : a < 2 ^ 64) (hb : b < 2 ^ 64) : lN a ||| lN b = lN (a ||| b) := by
  apply wb_inj
  rw [Int64.toBitVec_or, wb_tb, wb_tb, wb_tb]
  apply BitVec.eq_of_toNat_eq
  rw [BitVec.toNat_or, BitVec.toNat_ofNat, BitVec.toNat_ofNat, BitVec.toNat_ofNat, Nat.mod_eq_of_lt ha, Nat.mod_eq_of_lt hb, Nat.mod_eq_of_lt (Nat.or_lt_two_pow ha hb)]
theorem wb_mask {n k : Nat} (hn : n < 2 ^ 64) (hk : k < 64) : lN n &&& lN (2 ^ k - 1) = lN (n % 2 ^ k) := by
  rw [wb_and hn (by have := wb_lt2 hk; omega), Nat.and_two_pow_sub_one_eq_mod]
theorem wb_a1 {n : Nat} (hn : n < 2 ^ 64) : lN n &&& 1 = lN (n % 2) := wb_mask (k := 1) hn (by decide)
theorem wb_bit {n k : Nat} (hn : n < 2 ^ 64) (hk : k < 64) : ((lN n).toUInt64 >>> ((nI k).toInt64.toUInt64 &&& Int64.toUInt64 63)).toInt64 &&& 1 = lN (n / 2 ^ k % 2) := by
  rw [wb_shr hn hk, wb_a1 (Nat.lt_of_le_of_lt (Nat.div_le_self _ _) hn)]
theorem xn_lN (n : Nat) : Int64.ofInt (n : Int) = lN n := by
  apply wb_inj
  show BitVec.ofInt 64 (n : Int) = BitVec.ofNat 64 n
  exact BitVec.ofInt_natCast ..
theorem xn_nI (n : Nat) : Int32.ofInt (n : Int) = nI n := by
  apply Int32.toBitVec_inj.mp
  show BitVec.ofInt 32 (n : Int) = BitVec.ofNat 32 n
  exact BitVec.ofInt_natCast ..
theorem xn_lT {n : Nat} (h : n < 2 ^ 63) : (lN n).toInt = (n : Int) := by
  rw [← xn_lN, xn_l (by omega)]
theorem xn_nT {n : Nat} (h : n < 2 ^ 31) : (nI n).toInt = (n : Int) := by
  rw [← xn_nI, xn_i (by omega)]
/-- a chain's bits from a place on -/
theorem xl_ushr {c s : Int} (h0 : 0 ≤ c) (h1 : c ≤ 9223372036854775807) (hs0 : 0 ≤ s) (hs : s < 64) : xlushr c s = c / 2 ^ s.toNat := by
  obtain ⟨n, rfl⟩ := Int.eq_ofNat_of_zero_le h0
  obtain ⟨k, rfl⟩ := Int.eq_ofNat_of_zero_le hs0
  unfold xlushr
  rw [xn_lN, xn_nI, wb_shr (by omega) (by omega), xn_lT (Nat.lt_of_le_of_lt (Nat.div_le_self _ _) (by omega))]
  simp
theorem xl_32 {c : Int} (h0 : 0 ≤ c) (h1 : c ≤ 9223372036854775807) : xlushr c 32 = c / 4294967296 := by
  rw [xl_ushr h0 h1 (by omega) (by omega)]
  rfl
/-- one motif more -/
theorem xl_longer {c m : Int} (h0 : 0 ≤ c) (h1 : c / 4294967296 ≤ 9) (hm0 : 0 ≤ m) (hm : m ≤ 7) : 0 ≤ xlor c (xlshl m (3 * (c / 4294967296))) ∧ xlor c (xlshl m (3 * (c / 4294967296))) / 4294967296 = c / 4294967296 := by
  obtain ⟨n, rfl⟩ := Int.eq_ofNat_of_zero_le h0
  obtain ⟨q, rfl⟩ := Int.eq_ofNat_of_zero_le hm0
  obtain ⟨k, hk⟩ : ∃ k : Nat, k = n / 4294967296 := ⟨_, rfl⟩
  have hk9 : k ≤ 9 := by omega
  have e1 : 3 * ((n : Int) / 4294967296) = ((3 * k : Nat) : Int) := by omega
  have hp : q * 2 ^ (3 * k) < 2 ^ 30 := by
    have h2 : 2 ^ (3 * k) ≤ 2 ^ 27 := Nat.pow_le_pow_right (by decide) (by omega)
    have h3 : q * 2 ^ (3 * k) ≤ 7 * 2 ^ 27 := Nat.mul_le_mul (by omega) h2
    omega
  have hs : xlshl (q : Int) (3 * ((n : Int) / 4294967296)) = ((q * 2 ^ (3 * k) : Nat) : Int) := by
    rw [e1]
    unfold xlshl
    rw [xn_lN, xn_nI, wb_shl _ (by omega), xn_lT (by omega)]
  have hor : n ||| q * 2 ^ (3 * k) < 2 ^ 63 := Nat.or_lt_two_pow (by omega) (by omega)
  have ho : xlor (n : Int) (xlshl (q : Int) (3 * ((n : Int) / 4294967296))) = ((n ||| q * 2 ^ (3 * k) : Nat) : Int) := by
    rw [hs]
    unfold xlor
    rw [xn_lN, xn_lN, wb_or (by omega) (by omega), xn_lT hor]
  rw [ho]
  refine ⟨by omega, ?_⟩
  have hd : (n ||| q * 2 ^ (3 * k)) / 2 ^ 32 = n / 2 ^ 32 := by
    rw [← Nat.shiftRight_eq_div_pow, ← Nat.shiftRight_eq_div_pow, Nat.shiftRight_or_distrib, Nat.shiftRight_eq_div_pow (q * 2 ^ (3 * k)), Nat.div_eq_of_lt (show q * 2 ^ (3 * k) < 2 ^ 32 by omega)]
    simp
  omega
theorem xdiv_nn {x y : Int} (h0 : 0 ≤ x) (h1 : x ≤ 2147483647) (h2 : 0 < y) (h3 : y ≤ 2147483647) : xdiv x y = x / y := by
  obtain ⟨n, rfl⟩ := Int.eq_ofNat_of_zero_le h0
  obtain ⟨k, rfl⟩ := Int.eq_ofNat_of_zero_le (Int.le_of_lt h2)
  unfold xdiv
  rw [xn_nI, xn_nI, pk_div (by omega) (by omega) (by omega), xn_nT (Nat.lt_of_le_of_lt (Nat.div_le_self _ _) (by omega))]
  simp
theorem xrem_nn {x y : Int} (h0 : 0 ≤ x) (h1 : x ≤ 2147483647) (h2 : 0 < y) (h3 : y ≤ 2147483647) : xrem x y = x % y := by
  obtain ⟨n, rfl⟩ := Int.eq_ofNat_of_zero_le h0
  obtain ⟨k, rfl⟩ := Int.eq_ofNat_of_zero_le (Int.le_of_lt h2)
  unfold xrem
  rw [xn_nI, xn_nI, pk_rem (by omega) (by omega) (by omega), xn_nT (Nat.lt_of_le_of_lt (Nat.mod_le _ _) (by omega))]
  simp
/-- the low bits of any number -/
theorem xand_m (x : Int) (k : Nat) (hk : k ≤ 30) {m : Int} (hm : m = 2 ^ k - 1) : 0 ≤ xand x m ∧ xand x m ≤ m := by
  subst hm
  have h2 : (2 : Int) ^ k - 1 = ((2 ^ k - 1 : Nat) : Int) := by
    have := Nat.one_le_two_pow (n := k)
    have e : ((2 ^ k : Nat) : Int) = (2 : Int) ^ k := by simp
    omega
  have hb : 2 ^ k ≤ 2 ^ 30 := Nat.pow_le_pow_right (by decide) hk
  have hm : (Int32.ofInt ((2 : Int) ^ k - 1)).toBitVec.toNat = 2 ^ k - 1 := by
    rw [h2, xn_nI, pk_tn (by omega)]
  obtain ⟨j, hj, e⟩ := pk_andE (Int32.ofInt x) k hm
  unfold xand
  rw [e, xn_nT (by omega), h2]
  omega
theorem xand_7 (x : Int) : 0 ≤ xand x 7 ∧ xand x 7 ≤ 7 := xand_m x 3 (by omega) (by decide)
theorem xand_1 (x : Int) : 0 ≤ xand x 1 ∧ xand x 1 ≤ 1 := xand_m x 1 (by omega) (by decide)
theorem xand_31 (x : Int) : 0 ≤ xand x 31 ∧ xand x 31 ≤ 31 := xand_m x 5 (by omega) (by decide)
theorem xOF_rg (j : Int) : 0 ≤ xOF j ∧ xOF j ≤ 2 := by unfold xOF; omega
theorem xOO_rg (j : Int) : 0 ≤ xOO j ∧ xOO j ≤ 2 := by unfold xOO; omega
section
variable {own nm : String} {cc : ByteArray} {nL : Nat} {R : Room} {ret : Option FieldType} {mc ms : Nat} {K : Option xV → xW → xM → Prop} {X : Nat → Nat → xW → xM → Nat → xLoc → List xV → Prop}
variable {cu su : Nat} {w : xW} {μ : xM} {pc : Nat} {lo : xLoc} {st : List xV}
theorem r_ldcw (hL : Lg own nm cc nL R ret mc ms K X) {i : Nat} {v : Int32} {n : Int} (hd : decode cc pc = .ok (.ldc_w i, 3)) (hc : xWd (.constant own i v)) (hv : v = Int32.ofInt n) (k : X cu su w μ (pc + 3) lo (xI n :: st)) : X cu su w μ pc lo st := by
  obtain ⟨p, l, e, s, m, args, below, meth, c, g, w0, ad0, A, ⟨hx, hb, hml, hown, hT, hK, hSt, hA⟩, hr, hlk, hnm, rfl⟩ := hL
  intro H locs ls ad a1 a2 a3 hP hD hS hok hlo
  have kk := k H locs ls ad a1 a2 a3 hP hD hS hok hlo
  simp only [List.map_cons, xt] at kk ⊢
  exact lv_ldcw hx hb hown (hT _ (hv ▸ hc) _) hd kk
end
theorem BI.cp {μ : xM} (h : BI μ) {k q : Nat} {n : Int} (hk : bk k = bk q) : BI (xcp μ k q n) := by
  intro a b
  by_cases hab : a = q ∧ 0 ≤ b ∧ b < n
  · simp only [xcp, if_pos hab]
    rw [hab.1, ← hk]
    exact h k b
  · simp only [xcp, if_neg hab]
    exact h a b
theorem Fr.cp {S : Nat → Int → Prop} {μ μ1 : xM} (h : Fr S μ μ1) {k q : Nat} {n : Int} (hs : ∀ j, 0 ≤ j → j < n → S q j) : Fr S μ (xcp μ1 k q n) := by
  intro a b hab
  have : ¬ (a = q ∧ 0 ≤ b ∧ b < n) := by
    rintro ⟨rfl, h1, h2⟩
    exact hab (hs b h1 h2)
  simp only [xcp, if_neg this]
  exact h a b hab
theorem st_bk : ∀ c ∈ xsts, bk c = 1 ∧ bk (c + 1) = 2 ∧ bk (c + 2) = 0 ∧ bk (c + 3) = 3 ∧ bk (c + 4) = 0 := by decide +kernel
theorem st_ap : ∀ a ∈ xsts, ∀ b ∈ xsts, a = b ∨ a + 4 < b ∨ b + 4 < a := by decide +kernel
/-- how many bits are set, as the JDK counts them -/
def xbc (x : Int) : Int :=
  let a := x - xand (xushr x 1) 1431655765
  let b := xand a 858993459 + xand (xushr a 2) 858993459
  let c := xand (b + xushr b 4) 252645135
  let d := c + xushr c 8
  let e := d + xushr d 16
  xand e 63
theorem xdrop_get : ∀ (is : List Nat) (lo : xLoc) (j : Nat) (v : xV), (is.foldl (fun l i => l.set i none) lo)[j]? = some (some v) → lo[j]? = some (some v) := by
  intro is
  induction is with
  | nil => intro lo j v h; exact h
  | cons i is ih =>
    intro lo j v h
    have h1 := ih _ j v h
    by_cases hij : i = j
    · subst hij
      have hl := (List.getElem?_eq_some_iff.mp h1).1
      rw [List.length_set] at hl
      rw [List.getElem?_set_self hl] at h1
      cases h1
    · rw [List.getElem?_set_ne hij] at h1
      exact h1
/-- less is kept in mind of the locals -/
theorem r_drop {own nm : String} {cc : ByteArray} {nL : Nat} {R : Room} {ret : Option FieldType} {mc ms : Nat} {K : Option xV → xW → xM → Prop} {X : Nat → Nat → xW → xM → Nat → xLoc → List xV → Prop} {cu su : Nat} {w : xW} {μ : xM} {pc : Nat} {lo lo' : xLoc} {st : List xV} (hL : Lg own nm cc nL R ret mc ms K X) (is : List Nat) (hl : is.foldl (fun l i => l.set i none) lo = lo') (k : X cu su w μ pc lo' st) : X cu su w μ pc lo st :=
  r_less hL (fun i v hv => xdrop_get is lo i v (by rw [hl]; exact hv)) k
/-- a number as an int keeps it -/
def xwr (x : Int) : Int := (Int32.ofInt x).toInt
theorem xwr_rg (x : Int) : xrg (xwr x) := xn_rg _
theorem xwr_id {x : Int} (h : xrg x) : xwr x = x := xn_i h
theorem r_norm {own nm : String} {cc : ByteArray} {nL : Nat} {R : Room} {ret : Option FieldType} {mc ms : Nat} {K : Option xV → xW → xM → Prop} {X : Nat → Nat → xW → xM → Nat → xLoc → List xV → Prop} {cu su : Nat} {w : xW} {μ : xM} {pc : Nat} {lo : xLoc} {st : List xV} {x : Int} (hL : Lg own nm cc nL R ret mc ms K X) (k : ∀ z, z = xwr x → xrg z → X cu su w μ pc lo (xI z :: st)) : X cu su w μ pc lo (xI x :: st) := by
  obtain ⟨p, l, e, s, m, args, below, meth, c, g, w0, ad0, A, ⟨hx, hb, hml, hown, hT, hK, hSt, hA⟩, hr, hlk, hnm, rfl⟩ := hL
  intro H locs ls ad a1 a2 a3 hP hD hS hok hlo
  have kk := k _ rfl (xwr_rg x) H locs ls ad a1 a2 a3 hP hD hS hok hlo
  simp only [List.map_cons, xt, xwr, xn_of] at kk ⊢
  exact kk
theorem xmul_bd {a b A B : Int} (h0 : 0 ≤ a) (h1 : a ≤ A) (h2 : 0 ≤ b) (h3 : b ≤ B) : 0 ≤ a * b ∧ a * b ≤ A * B := ⟨Int.mul_nonneg h0 h2, Int.mul_le_mul h1 h3 h2 (Int.le_trans h0 h1)⟩
theorem xOF_v (j : Int) : (j = 0 → xOF j = 1) ∧ (j = 1 → xOF j = 1) ∧ (j = 2 → xOF j = 0) ∧ (j = 3 → xOF j = 2) := by unfold xOF; omega
theorem xOO_v (j : Int) : (j = 0 → xOO j = 1) ∧ (j = 1 → xOO j = 0) ∧ (j = 2 → xOO j = 1) ∧ (j = 3 → xOO j = 2) := by unfold xOO; omega
/-! the lineup: what is left of two chains costs at most 9 a motif -/
def LUp (f : Int → Int) (fl ol i j : Int) : Prop := ∀ a b, 0 ≤ a → a ≤ fl → 0 ≤ b → b ≤ ol → (i < a ∨ (a = i ∧ j < b)) → 0 ≤ f (a * 11 + b) ∧ f (a * 11 + b) ≤ 9 * ((fl - a) + (ol - b))
def LU (μ : xM) : Prop := LUp (μ 96) (μ 92 7) (μ 92 8) (-1) (μ 92 8)
theorem LUp.step {f f' : Int → Int} {fl ol i j v : Int} (h : LUp f fl ol i j) (hj : 0 ≤ j) (hj2 : j ≤ 10) (ho : ol ≤ 10) (hv : 0 ≤ v ∧ v ≤ 9 * ((fl - i) + (ol - j))) (hf : ∀ q, f' q = if q = i * 11 + j then v else f q) : LUp f' fl ol i (j - 1) := by
  intro a b h1 h2 h3 h4 h5
  rw [hf]
  by_cases hq : a * 11 + b = i * 11 + j
  · have ha : a = i := by omega
    have hb : b = j := by omega
    rw [if_pos hq, ha, hb]
    exact hv
  · rw [if_neg hq]
    exact h a b h1 h2 h3 h4 (by omega)
theorem LUp.up {f : Int → Int} {fl ol i : Int} (h : LUp f fl ol i (-1)) : LUp f fl ol (i - 1) ol := by
  intro a b h1 h2 h3 h4 h5
  exact h a b h1 h2 h3 h4 (by omega)
theorem LUp.none {f : Int → Int} {fl ol : Int} : LUp f fl ol fl ol := by
  intro a b h1 h2 h3 h4 h5
  omega
theorem LU.keep {μ μ' : xM} (h : LU μ) (h1 : μ' 96 = μ 96) (h2 : μ' 92 7 = μ 92 7) (h3 : μ' 92 8 = μ 92 8) : LU μ' := by
  unfold LU
  rw [h1, h2, h3]
  exact h
theorem LU.at {μ : xM} (h : LU μ) {i j : Int} (h0 : 0 ≤ i) (h1 : i ≤ μ 92 7) (h2 : 0 ≤ j) (h3 : j ≤ μ 92 8) : 0 ≤ μ 96 (i * 11 + j) ∧ μ 96 (i * 11 + j) ≤ 9 * ((μ 92 7 - i) + (μ 92 8 - j)) := h i j h0 h1 h2 h3 (by omega)
theorem f_7b {j : Int} (h0 : 0 ≤ j) (h1 : j ≤ 15) : ∃ c ∈ xsts, WW.2.2 7 j = (c : Int) ∧ c = 8 + 5 * j.toNat := by
  obtain ⟨n, rfl⟩ := Int.eq_ofNat_of_zero_le h0
  have hn : n < 16 := by omega
  have key : ∀ n : Nat, n < 16 → (8 + 5 * n) ∈ xsts ∧ WW.2.2 7 (n : Int) = ((8 + 5 * n : Nat) : Int) := by decide +kernel
  exact ⟨8 + 5 * n, (key n hn).1, (key n hn).2, by simp⟩
theorem sm_Lib_Math_min_name : xWd (.static Lib.Math.min.name) := sm_yJ9_min_7cf53
theorem sm_Lib_Math_max_name : xWd (.static Lib.Math.max.name) := sm_yJ9_max_7cf53
theorem sm_Lib_Math_abs_name : xWd (.static Lib.Math.abs.name) := sm_yJ9_abs_0f7a4
theorem kd_Lib_Math_min_name : xWd (.code Lib.Math.min.name Lib.Math.min.code 2 (some .int)) := ce_yJ9_min_7cf53.1
theorem kd_Lib_Math_max_name : xWd (.code Lib.Math.max.name Lib.Math.max.code 2 (some .int)) := ce_yJ9_max_7cf53.1
theorem kd_Lib_Math_abs_name : xWd (.code Lib.Math.abs.name Lib.Math.abs.code 1 (some .int)) := ce_yJ9_abs_0f7a4.1
theorem LU.zero {μ : xM} (h : LU μ) (hB : BI μ) : 0 ≤ μ 96 0 ∧ μ 96 0 ≤ 180 := by
  have h1 : ((7 : Int) = 7 → 0 ≤ μ 92 7 ∧ μ 92 7 ≤ 10) ∧ ((7 : Int) = 8 → 0 ≤ μ 92 7 ∧ μ 92 7 ≤ 10) := hB 92 7
  have h2 : ((8 : Int) = 7 → 0 ≤ μ 92 8 ∧ μ 92 8 ≤ 10) ∧ ((8 : Int) = 8 → 0 ≤ μ 92 8 ∧ μ 92 8 ≤ 10) := hB 92 8
  have h3 := h.at (i := 0) (j := 0) (by omega) (by omega) (by omega) (by omega)
  rw [show ((0 : Int) * 11 + 0) = 0 from rfl] at h3
  omega
theorem LU.lup {μ : xM} (h : LU μ) {i j : Int} (hi : 0 ≤ i) : LUp (μ 96) (μ 92 7) (μ 92 8) i j := fun a b h1 h2 h3 h4 h5 => h a b h1 h2 h3 h4 (by omega)
/-- what comparing two types touches -/
def CT (k : Nat) (j : Int) : Prop := k = 102 ∧ (j = 5 ∨ j = 6)
theorem xland_31 (x : Int) : 0 ≤ xland x 2147483647 ∧ xland x 2147483647 ≤ 2147483647 := by
  unfold xland
  obtain ⟨n, hn, e⟩ := wb_of (Int64.ofInt x)
  have h2 : (Int64.ofInt 2147483647) = lN (2 ^ 31 - 1) := rfl
  rw [e, h2, wb_mask hn (by decide), xn_lT (by omega)]
  omega
