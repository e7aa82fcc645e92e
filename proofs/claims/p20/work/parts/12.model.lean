def bt (x : Int32) (i : Nat) : Bool := x.toBitVec.getLsbD i
theorem b_ext {x y : Int32} (h : ∀ i, i < 32 → bt x i = bt y i) : x = y := Int32.toBitVec_inj.mp (BitVec.eq_of_getLsbD_eq (fun i hi => h i hi))
theorem b_or (x y : Int32) (i : Nat) : bt (x ||| y) i = (bt x i || bt y i) := by unfold bt; rw [Int32.toBitVec_or, BitVec.getLsbD_or]
theorem b_and (x y : Int32) (i : Nat) : bt (x &&& y) i = (bt x i && bt y i) := by unfold bt; rw [Int32.toBitVec_and, BitVec.getLsbD_and]
theorem b_big {x : Int32} {i : Nat} (h : 32 ≤ i) : bt x i = false := BitVec.getLsbD_of_ge _ _ h
theorem b_0 (i : Nat) : bt 0 i = false := BitVec.getLsbD_zero
theorem s_l : ∀ n, n < 32 → ((nI n &&& 31).toBitVec.smod 32).toNat = n := by decide +kernel
theorem b_shl (n : Nat) (hn : n < 32) (x : Int32) {i : Nat} (hi : i < 32) : bt (x <<< (nI n &&& 31)) i = (decide (n ≤ i) && bt x (i - n)) := by
  unfold bt
  rw [Int32.toBitVec_shiftLeft]
  show (x.toBitVec <<< ((nI n &&& 31).toBitVec.smod 32).toNat).getLsbD i = _
  rw [s_l n hn, BitVec.getLsbD_shiftLeft]
  rcases Nat.lt_or_ge i n with h | h
  · simp [h, Nat.not_le.mpr h]
  · simp [hi, h, Nat.not_lt.mpr h]
theorem b_sshr (n : Nat) (hn : n < 32) (x : Int32) {i : Nat} (hi : i < 32) : bt (x >>> (nI n &&& 31)) i = if n + i < 32 then bt x (n + i) else bt x 31 := by
  unfold bt
  rw [Int32.toBitVec_shiftRight]
  show (x.toBitVec.sshiftRight ((nI n &&& 31).toBitVec.smod 32).toNat).getLsbD i = _
  rw [s_l n hn, BitVec.getLsbD_sshiftRight, BitVec.msb_eq_getLsbD_last]
  simp [hi]
theorem b_1 : ∀ i, i < 32 → bt 1 i = decide (i = 0) := by decide +kernel
def xB (x k : Int) : Bool := bt (Int32.ofInt x) k.toNat
theorem xbit (x : Int) {k : Int} (h0 : 0 ≤ k) (h1 : k < 32) : xand (xshr x k) 1 = if xB x k then 1 else 0 := by
  obtain ⟨n, rfl⟩ := Int.eq_ofNat_of_zero_le h0
  have hn : n < 32 := by omega
  have e : (Int32.ofInt (xshr x n) &&& Int32.ofInt 1) = if xB x n then 1 else 0 := by
    apply b_ext
    intro i hi
    rw [b_and, show Int32.ofInt 1 = (1 : Int32) from rfl, b_1 i hi]
    unfold xshr xB
    rw [xn_of, xn_nI, b_sshr n hn _ hi]
    by_cases hz : i = 0
    · subst hz
      rw [if_pos (by omega)]
      simp only [Nat.add_zero, decide_true, Bool.and_true, Int.toNat_natCast]
      by_cases hb : bt (Int32.ofInt x) n = true
      · rw [if_pos hb, hb]; rfl
      · rw [if_neg hb]
        simp at hb
        rw [hb]; rfl
    · simp only [hz, decide_false, Bool.and_false]
      split
      · rw [b_1 i hi]; simp [hz]
      · rw [b_0]
  unfold xand
  rw [e]
  split <;> rfl
/-- how many of the first bits are set -/
def xonf (x : Int) : Nat → Int
  | 0 => 0
  | n + 1 => xonf x n + xand (xshr x n) 1
theorem xonf_bd (x : Int) : ∀ n, 0 ≤ xonf x n ∧ xonf x n ≤ n := by
  intro n
  induction n with
  | zero => simp [xonf]
  | succ n ih =>
    have h := xand_1 (xshr x n)
    simp only [xonf]
    omega
/-- a set of tales that isn't empty -/
def xne (x : Int) : Prop := ∃ k : Nat, k < 8 ∧ bt (Int32.ofInt x) k = true
theorem xonf_pos {x : Int} (h : xne x) : 1 ≤ xonf x 8 := by
  obtain ⟨k, hk, hb⟩ := h
  have key : ∀ n : Nat, n ≤ 8 → k < n → 1 ≤ xonf x n := by
    intro n
    induction n with
    | zero => intro _ h; omega
    | succ n ih =>
      intro hn hkn
      simp only [xonf]
      have h1 := xand_1 (xshr x n)
      have h2 := xonf_bd x n
      by_cases e : k = n
      · subst e
        have h3 := xbit x (k := (k : Int)) (by omega) (by omega)
        rw [if_pos (by unfold xB; simpa using hb)] at h3
        omega
      · have := ih (by omega) (by omega)
        omega
  exact key 8 (by omega) hk
theorem xne_or {a b : Int} (h : xne a) : xne (xor' a b) := by
  obtain ⟨k, hk, hb⟩ := h
  refine ⟨k, hk, ?_⟩
  unfold xor'
  rw [xn_of, b_or, hb]
  rfl
theorem xne_one {t : Int} (h0 : 0 ≤ t) (h1 : t ≤ 7) : xne (xshl 1 t) := by
  obtain ⟨n, rfl⟩ := Int.eq_ofNat_of_zero_le h0
  refine ⟨n, by omega, ?_⟩
  unfold xshl
  rw [xn_of, xn_nI]
  exact (by decide +kernel : ∀ n, n < 8 → bt (Int32.ofInt 1 <<< (nI n &&& 31)) n = true) n (by omega)
/-! a stretch brought over -/
def xbr (μ : xM) (f : Nat) (i : Int) (t : Nat) (j n : Int) : xM := fun a b => if a = t ∧ j ≤ b ∧ b < j + n then μ f (i + (b - j)) else μ a b
theorem xbr_0 {μ : xM} {f t : Nat} {i j n : Int} (h : n ≤ 0) : xbr μ f i t j n = μ := by
  funext a b
  simp only [xbr]
  rw [if_neg (by omega)]
theorem xbr_eq {μ : xM} {f t : Nat} {i j n k : Int} (h : k = n ∨ (k ≤ 0 ∧ n ≤ 0)) : xbr μ f i t j k = xbr μ f i t j n := by
  rcases h with rfl | ⟨h1, h2⟩
  · rfl
  · rw [xbr_0 h1, xbr_0 h2]
theorem xbr_c {μ : xM} {f t a : Nat} {i j n : Int} (h : a ≠ t) : xbr μ f i t j n a = μ a := by
  funext b
  simp [xbr, h]
theorem xbr_j {μ : xM} {f t a : Nat} {i j n b : Int} (h : ¬ (j ≤ b ∧ b < j + n)) : xbr μ f i t j n a b = μ a b := by
  simp only [xbr]
  rw [if_neg (fun z => h z.2)]
theorem xbr_src {μ : xM} {f t : Nat} {i j k : Int} (hft : f = t → j ≤ i) (hk : 0 ≤ k) : xbr μ f i t j k f (i + k) = μ f (i + k) := by
  simp only [xbr]
  by_cases h : f = t ∧ j ≤ i + k ∧ i + k < j + k
  · exact absurd (hft h.1) (by omega)
  · rw [if_neg h]
theorem xbr_step {μ : xM} {f t : Nat} {i j k : Int} (hft : f = t → j ≤ i) (hk : 0 ≤ k) : xup (xbr μ f i t j k) t (j + k) (xbr μ f i t j k f (i + k)) = xbr μ f i t j (k + 1) := by
  rw [xbr_src hft hk]
  funext a b
  simp only [xup, xbr]
  by_cases h1 : a = t ∧ b = j + k
  · rw [if_pos h1, if_pos ⟨h1.1, by omega, by omega⟩, show i + (b - j) = i + k by omega]
  · rw [if_neg h1]
    by_cases h2 : a = t ∧ j ≤ b ∧ b < j + k
    · rw [if_pos h2, if_pos ⟨h2.1, by omega, by omega⟩]
    · rw [if_neg h2, if_neg]
      intro h3
      by_cases h4 : b = j + k
      · exact h1 ⟨h3.1, h4⟩
      · exact h2 ⟨h3.1, by omega, by omega⟩
theorem BI.br {μ : xM} (h : BI μ) {f t : Nat} {i j n : Int} (hb : ∀ k, 0 ≤ k → k < n → bd (bk t) (j + k) (μ f (i + k))) : BI (xbr μ f i t j n) := by
  intro a b
  by_cases hab : a = t ∧ j ≤ b ∧ b < j + n
  · simp only [xbr, if_pos hab]
    have := hb (b - j) (by omega) (by omega)
    rw [show j + (b - j) = b by omega] at this
    rw [hab.1]
    exact this
  · simp only [xbr, if_neg hab]
    exact h a b
theorem Fr.br {S : Nat → Int → Prop} {μ μ1 : xM} (h : Fr S μ μ1) {f t : Nat} {i j n : Int} (hs : ∀ b, j ≤ b → b < j + n → S t b) : Fr S μ (xbr μ1 f i t j n) := by
  intro a b hab
  have : ¬ (a = t ∧ j ≤ b ∧ b < j + n) := by
    rintro ⟨rfl, h1, h2⟩
    exact hab (hs b h1 h2)
  simp only [xbr, if_neg this]
  exact h a b hab
/-! what a step costs, in the reference -/
def mCh (μ : xM) (a b : Int) : Int := if a < b then min ((b - a) * μ 121 4) (if b - a = 0 then 0 else μ 121 5) else min ((a - b) * μ 121 4) (if a - b = 0 then 0 else μ 121 5)
abbrev mTu (μ : xM) (i j : Int) : Prop := i + 1 < μ 120 11 ∧ j + 1 < μ 120 13 ∧ μ 127 i = μ 128 (j + 1) ∧ μ 127 (i + 1) = μ 128 j ∧ ¬ μ 127 i = μ 128 j
def mCo (μ : xM) (i j s : Int) : Int := if s = 0 then (if i < μ 120 11 ∧ j < μ 120 13 then mCh μ (μ 127 i) (μ 128 j) else 100000) else if s = 1 then (if i < μ 120 11 then μ 121 2 else 100000) else if s = 2 then (if j < μ 120 13 then μ 121 2 else 100000) else if mTu μ i j then μ 121 3 else 100000
theorem mCo_in {μ : xM} {i j s : Int} (hi : i ≤ μ 120 11) (hj : j ≤ μ 120 13) (h0 : 0 ≤ s) (h3 : s ≤ 3) (h : mCo μ i j s ≤ 9) : i + xOF s ≤ μ 120 11 ∧ j + xOO s ≤ μ 120 13 ∧ 1 ≤ xOF s + xOO s := by
  have a := xOF_v s
  have b := xOO_v s
  unfold mCo at h
  rcases (show s = 0 ∨ s = 1 ∨ s = 2 ∨ s = 3 by omega) with e | e | e | e
  · rw [if_pos e] at h
    split at h
    · omega
    · omega
  · rw [if_neg (by omega), if_pos e] at h
    split at h
    · omega
    · omega
  · rw [if_neg (by omega), if_neg (by omega), if_pos e] at h
    split at h
    · omega
    · omega
  · rw [if_neg (by omega), if_neg (by omega), if_neg (by omega)] at h
    split at h
    · rename_i hh; omega
    · omega
theorem mCo_fr {μ ν : xM} (h : ∀ k j, (k = 120 ∨ k = 121 ∨ k = 127 ∨ k = 128) → ν k j = μ k j) (i j s : Int) : mCo ν i j s = mCo μ i j s := by
  simp only [mCo, mCh, mTu, h 120 11 (by omega), h 120 13 (by omega), h 121 2 (by omega), h 121 3 (by omega), h 121 4 (by omega), h 121 5 (by omega), h 127 i (by omega), h 127 (i + 1) (by omega), h 128 j (by omega), h 128 (j + 1) (by omega)]
/-- a sum that a first step gives -/
def mAt (μ : xM) (f : Int → Int) (a b v : Int) : Prop := ∃ s, 0 ≤ s ∧ s ≤ 3 ∧ mCo μ a b s ≤ 9 ∧ v = mCo μ a b s + f (11 * (a + xOF s) + (b + xOO s))
def MDp (μ : xM) (f : Int → Int) (i j : Int) : Prop := ∀ a b, 0 ≤ a → a ≤ μ 120 11 → 0 ≤ b → b ≤ μ 120 13 → (i < a ∨ (a = i ∧ j < b)) → (0 ≤ f (11 * a + b) ∧ f (11 * a + b) ≤ 9 * ((μ 120 11 - a) + (μ 120 13 - b))) ∧ ((a < μ 120 11 ∨ b < μ 120 13) → mAt μ f a b (f (11 * a + b)))
def MD (μ : xM) : Prop := MDp μ (μ 129) (-1) (μ 120 13)
theorem MDp.step {μ : xM} {f f' : Int → Int} {i j v : Int} (h : MDp μ f i j) (hj : 0 ≤ j) (hj2 : j ≤ 10) (ho : μ 120 13 ≤ 10) (hv : 0 ≤ v ∧ v ≤ 9 * ((μ 120 11 - i) + (μ 120 13 - j))) (hm : (i < μ 120 11 ∨ j < μ 120 13) → mAt μ f i j v) (hi : 0 ≤ i) (hf : ∀ q, f' q = if q = 11 * i + j then v else f q) : MDp μ f' i (j - 1) := by
  intro a b h1 h2 h3 h4 h5
  have hat : ∀ w, (a < μ 120 11 ∨ b < μ 120 13) → mAt μ f a b w → mAt μ f' a b w := by
    intro w hne hw
    obtain ⟨s, s0, s3, sc, sv⟩ := hw
    refine ⟨s, s0, s3, sc, ?_⟩
    obtain ⟨g1, g2, g3⟩ := mCo_in h2 h4 s0 s3 sc
    have r1 := xOF_rg s
    have r2 := xOO_rg s
    rw [hf, if_neg (by omega)]
    exact sv
  rw [hf]
  by_cases hq : 11 * a + b = 11 * i + j
  · have ha : a = i := by omega
    have hb : b = j := by omega
    subst ha; subst hb
    rw [if_pos rfl]
    exact ⟨hv, fun hne => hat v hne (hm hne)⟩
  · rw [if_neg hq]
    obtain ⟨e1, e2⟩ := h a b h1 h2 h3 h4 (by omega)
    exact ⟨e1, fun hne => hat _ hne (e2 hne)⟩
theorem MDp.up {μ : xM} {f : Int → Int} {i : Int} (h : MDp μ f i (-1)) : MDp μ f (i - 1) (μ 120 13) := by
  intro a b h1 h2 h3 h4 h5
  exact h a b h1 h2 h3 h4 (by omega)
theorem MDp.none {μ : xM} {f : Int → Int} : MDp μ f (μ 120 11) (μ 120 13) := by
  intro a b h1 h2 h3 h4 h5
  omega
theorem MDp.fr {μ ν : xM} {f : Int → Int} {i j : Int} (hfr : ∀ k j, (k = 120 ∨ k = 121 ∨ k = 127 ∨ k = 128) → ν k j = μ k j) (h : MDp μ f i j) : MDp ν f i j := by
  intro a b h1 h2 h3 h4 h5
  rw [hfr 120 11 (by omega)] at h2
  rw [hfr 120 13 (by omega)] at h4
  rw [hfr 120 11 (by omega), hfr 120 13 (by omega)]
  obtain ⟨e1, e2⟩ := h a b h1 h2 h3 h4 h5
  refine ⟨e1, fun hne => ?_⟩
  obtain ⟨s, s0, s3, sc, sv⟩ := e2 hne
  exact ⟨s, s0, s3, by rw [mCo_fr hfr]; exact sc, by rw [mCo_fr hfr]; exact sv⟩
theorem MD.keep {μ ν : xM} (h : MD μ) (hfr : ∀ k j, (k = 120 ∨ k = 121 ∨ k = 127 ∨ k = 128 ∨ k = 129) → ν k j = μ k j) : MD ν := by
  unfold MD
  rw [show ν 129 = μ 129 from funext fun j => hfr 129 j (by omega), hfr 120 13 (by omega)]
  exact MDp.fr (fun k j hk => hfr k j (by omega)) h
theorem MD.at {μ : xM} (h : MD μ) {a b : Int} (h1 : 0 ≤ a) (h2 : a ≤ μ 120 11) (h3 : 0 ≤ b) (h4 : b ≤ μ 120 13) : (0 ≤ μ 129 (11 * a + b) ∧ μ 129 (11 * a + b) ≤ 9 * ((μ 120 11 - a) + (μ 120 13 - b))) ∧ ((a < μ 120 11 ∨ b < μ 120 13) → mAt μ (μ 129) a b (μ 129 (11 * a + b))) := h a b h1 h2 h3 h4 (by omega)
/-- the least sum so far, while the steps are gone through -/
def mLe (μ : xM) (f : Int → Int) (i j v : Int) : Prop := (i = μ 120 11 ∧ j = μ 120 13 ∧ v = 0) ∨ ((i < μ 120 11 ∨ j < μ 120 13) ∧ (v = 100000 ∨ (0 ≤ v ∧ v ≤ 9 * ((μ 120 11 - i) + (μ 120 13 - j)) ∧ mAt μ f i j v)))
theorem mLe.bd {μ : xM} {f : Int → Int} {i j v : Int} (h : mLe μ f i j v) (h1 : 0 ≤ i ∧ i ≤ μ 120 11) (h2 : 0 ≤ j ∧ j ≤ μ 120 13) (h3 : μ 120 11 ≤ 10) (h4 : μ 120 13 ≤ 10) : 0 ≤ v ∧ v ≤ 100000 := by
  rcases h with ⟨_, _, rfl⟩ | ⟨_, rfl | ⟨g1, g2, _⟩⟩
  · omega
  · omega
  · omega
theorem mLe.least {μ : xM} {f : Int → Int} {i j v s c e : Int} (h : mLe μ f i j v) (s0 : 0 ≤ s) (s3 : s ≤ 3) (hc : c = mCo μ i j s) (h9 : c ≤ 9) (hc0 : 0 ≤ c) (hi : i ≤ μ 120 11) (hj : j ≤ μ 120 13) (he : e = f (11 * (i + xOF s) + (j + xOO s))) (hb : 0 ≤ e ∧ e ≤ 9 * ((μ 120 11 - (i + xOF s)) + (μ 120 13 - (j + xOO s)))) : mLe μ f i j (min (c + e) v) := by
  subst hc
  obtain ⟨g1, g2, g3⟩ := mCo_in hi hj s0 s3 h9
  have r1 := xOF_rg s
  have r2 := xOO_rg s
  have hne : i < μ 120 11 ∨ j < μ 120 13 := by omega
  have hat : mAt μ f i j (mCo μ i j s + e) := ⟨s, s0, s3, h9, by rw [he]⟩
  refine Or.inr ⟨hne, ?_⟩
  by_cases hl : mCo μ i j s + e < v
  · rw [show min (mCo μ i j s + e) v = mCo μ i j s + e by omega]
    exact Or.inr ⟨by omega, by omega, hat⟩
  · rw [show min (mCo μ i j s + e) v = v by omega]
    rcases h with ⟨e1, e2, _⟩ | ⟨_, e3⟩
    · omega
    · exact e3
/-- frames of the reference -/
def LN (k : Nat) (_ : Int) : Prop := k = 129 ∨ k = 130
def DW (k : Nat) (j : Int) : Prop := k = 120 ∧ j = 9
def NT (k : Nat) (j : Int) : Prop := k = 122 ∨ (k = 120 ∧ j = 2)
def TS (μ : xM) : Prop := ∀ q, 0 ≤ q → q < μ 120 20 → xne (μ 134 q)
theorem xlrem_nn {x y : Int} (h0 : 0 ≤ x) (h1 : x ≤ 9223372036854775807) (h2 : 0 < y) (h3 : y ≤ 9223372036854775807) : xlrem x y = x % y := by
  obtain ⟨n, rfl⟩ := Int.eq_ofNat_of_zero_le h0
  obtain ⟨k, rfl⟩ := Int.eq_ofNat_of_zero_le (Int.le_of_lt h2)
  unfold xlrem
  rw [xn_lN, xn_lN, pk_lRem (by omega) (by omega) (by omega), xn_lT (Nat.lt_of_le_of_lt (Nat.mod_le _ _) (by omega))]
  simp
theorem TS.keep {μ ν : xM} (h : TS μ) (h1 : ν 134 = μ 134) (h2 : ν 120 20 = μ 120 20) : TS ν := by
  unfold TS
  rw [h1, h2]
  exact h
theorem TS_join {μ M1 M2 M3 : xM} {a b z m n : Int} (hTS : TS μ) (hm : μ 120 20 = m) (ha : 0 ≤ a) (hab : a < b) (hbm : b < m) (e1 : M1 = xup μ 134 a z) (hz : xne z) (e2 : M2 = xup M1 120 20 (m - 1)) (hn : n = m - 1 - b) (e3 : M3 = xbr M2 134 (b + 1) 134 b n) : TS M3 ∧ M3 120 20 = m - 1 := by
  have c2 : M3 120 20 = m - 1 := by rw [e3, congrFun (xbr_c (by decide)) _, e2, xup_s]
  refine ⟨fun q h0 h1 => ?_, c2⟩
  rw [c2] at h1
  have k2 : ∀ r, M2 134 r = if r = a then z else μ 134 r := fun r => by rw [e2, congrFun (xup_c (by decide)) _, e1]; simp [xup]
  by_cases hq : q < b
  · rw [e3, xbr_j (by omega), k2]
    by_cases e : q = a
    · rw [if_pos e]; exact hz
    · rw [if_neg e]; exact hTS q h0 (by omega)
  · have : M3 134 q = M2 134 (b + 1 + (q - b)) := by
      rw [e3]
      exact if_pos ⟨rfl, by omega, by omega⟩
    rw [this, k2, if_neg (by omega)]
    exact hTS _ (by omega) (by omega)
