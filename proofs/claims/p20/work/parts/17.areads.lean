/-! ===== bits and sets ===== -/
theorem xand_nat {a b : Nat} (ha : a < 2 ^ 31) (hb : b < 2 ^ 31) : xand (a : Int) (b : Int) = ((a &&& b : Nat) : Int) := by
  unfold xand
  rw [xn_nI, xn_nI]
  have hab : a &&& b ≤ a := Nat.and_le_left
  have e : nI a &&& nI b = nI (a &&& b) := by
    apply Int32.toBitVec_inj.mp
    rw [Int32.toBitVec_and]
    apply BitVec.eq_of_toNat_eq
    rw [BitVec.toNat_and]
    show (BitVec.ofNat 32 a).toNat &&& (BitVec.ofNat 32 b).toNat = (BitVec.ofNat 32 (a &&& b)).toNat
    rw [BitVec.toNat_ofNat, BitVec.toNat_ofNat, BitVec.toNat_ofNat, Nat.mod_eq_of_lt (by omega), Nat.mod_eq_of_lt (by omega), Nat.mod_eq_of_lt (by omega)]
  rw [e, xn_nT (by omega)]
theorem xor_abs {s x : Int} (h : xrg s) : xor' s (xand x s) = s := by
  unfold xor' xand
  rw [xn_of]
  have e : Int32.ofInt s ||| (Int32.ofInt x &&& Int32.ofInt s) = Int32.ofInt s := by
    apply b_ext
    intro i _
    rw [b_or, b_and]
    cases bt (Int32.ofInt s) i <;> cases bt (Int32.ofInt x) i <;> rfl
  rw [e, xn_i h]
theorem xor_0 {c : Int} (h : xrg c) : xor' c 0 = c := by
  unfold xor'
  have e : Int32.ofInt c ||| Int32.ofInt 0 = Int32.ofInt c := by
    apply b_ext
    intro i _
    rw [b_or, show Int32.ofInt 0 = (0 : Int32) from rfl, b_0]
    cases bt (Int32.ofInt c) i <;> rfl
  rw [e, xn_i h]
/-! places that hang together -/
def hgi (R : Int → Int) (s c : Int) : Nat → Int
  | 0 => c
  | n + 1 => if xand (xshr (hgi R s c n) (n : Int)) 1 = 1 then xor' (hgi R s c n) (xand (R (n : Int)) s) else hgi R s c n
def hgn (R : Int → Int) (s c : Int) : Nat → Int
  | 0 => c
  | n + 1 => hgi R s (hgn R s c n) 8
theorem hgi_stay {R : Int → Int} {s : Int} (h : xrg s) : ∀ n, hgi R s s n = s := by
  intro n
  induction n with
  | zero => rfl
  | succ n ih =>
    simp only [hgi, ih]
    split
    · exact xor_abs h
    · rfl
theorem hgn_stay {R : Int → Int} {s c : Int} (h : xrg s) (n : Nat) (e : hgn R s c n = s) : ∀ k, hgn R s c (n + k) = s := by
  intro k
  induction k with
  | zero => exact e
  | succ k ih =>
    show hgi R s (hgn R s c (n + k)) 8 = s
    rw [ih]
    exact hgi_stay h 8
theorem hgi_cg {R R' : Int → Int} {s c : Int} : ∀ n : Nat, (∀ p : Nat, p < n → R (p : Int) = R' (p : Int)) → hgi R s c n = hgi R' s c n := by
  intro n
  induction n with
  | zero => intro _; rfl
  | succ n ih =>
    intro h
    simp only [hgi]
    rw [ih (fun p hp => h p (by omega)), h n (by omega)]
theorem hgn_cg {R R' : Int → Int} {s c : Int} (h : ∀ p : Nat, p < 8 → R (p : Int) = R' (p : Int)) : ∀ n : Nat, hgn R s c n = hgn R' s c n := by
  intro n
  induction n with
  | zero => rfl
  | succ n ih =>
    simp only [hgn]
    rw [ih, hgi_cg 8 h]
def hgv (R : Int → Int) (s : Int) : Int := if hgn R s (xand s (-s)) 8 = s then 1 else 0
theorem hgv_cg {R R' : Int → Int} (s : Int) (h : ∀ p : Nat, p < 8 → R (p : Int) = R' (p : Int)) : hgv R s = hgv R' s := by
  unfold hgv
  rw [hgn_cg h 8]
theorem hg_end {R : Int → Int} {s u r i : Int} (h : u = hgn R s (xand s (-s)) i.toNat) (hs : xrg s) (h0 : 0 ≤ i) (h8 : i ≤ 8) (hx : i = 8 ∨ u = s) (hr : (u = s ∧ r = 1) ∨ (¬ u = s ∧ r = 0)) : r = hgv R s := by
  unfold hgv
  have e : hgn R s (xand s (-s)) 8 = u := by
    rcases hx with hx | hx
    · rw [h, hx]
      rfl
    · have h2 := hgn_stay hs i.toNat (h.symm.trans hx) (8 - i.toNat)
      rw [show i.toNat + (8 - i.toNat) = 8 by omega] at h2
      rw [h2, hx]
  rw [e]
  rcases hr with ⟨a, b⟩ | ⟨a, b⟩
  · rw [if_pos a, b]
  · rw [if_neg a, b]
theorem hgi_up {R : Int → Int} {s c u u' q : Int} (h : u = hgi R s c q.toNat) (h0 : 0 ≤ q) (hc : (xand (xshr u q) 1 = 1 ∧ u' = xor' u (xand (R q) s)) ∨ (¬ xand (xshr u q) 1 = 1 ∧ u' = u)) : u' = hgi R s c (q + 1).toNat := by
  rw [show (q + 1).toNat = q.toNat + 1 by omega]
  simp only [hgi]
  rw [Int.toNat_of_nonneg h0, ← h]
  rcases hc with ⟨a, b⟩ | ⟨a, b⟩
  · rw [if_pos a, b]
  · rw [if_neg a, b]
theorem hgn_up {R : Int → Int} {s c u u' k : Int} (h : u = hgn R s c k.toNat) (h0 : 0 ≤ k) {q : Int} (hq : u' = hgi R s u q.toNat) (h8 : q = 8) : u' = hgn R s c (k + 1).toNat := by
  rw [show (k + 1).toNat = k.toNat + 1 by omega]
  simp only [hgn]
  rw [hq, h, h8]
  rfl
def ov (R : Int → Int) (s : Int) : Nat → Int
  | 0 => -1
  | n + 1 => if xand (n : Int) s = s ∧ hgv R (n : Int) = 1 ∧ (ov R s n = -1 ∨ xonf (n : Int) 8 < xonf (ov R s n) 8) then (n : Int) else ov R s n
theorem ov_rg {R : Int → Int} {s : Int} : ∀ n : Nat, -1 ≤ ov R s n ∧ ov R s n < (n : Int) := by
  intro n
  induction n with
  | zero => simp [ov]
  | succ n ih =>
    simp only [ov]
    split <;> omega
theorem ov_low {R : Int → Int} {s : Int} (h0 : 0 ≤ s) (h1 : s ≤ 255) : ∀ n : Nat, (n : Int) ≤ s → ov R s n = -1 := by
  intro n
  induction n with
  | zero => intro _; rfl
  | succ n ih =>
    intro hn
    have e := ih (by omega)
    simp only [ov]
    rw [if_neg, e]
    rintro ⟨a, _⟩
    obtain ⟨m, rfl⟩ := Int.eq_ofNat_of_zero_le h0
    rw [xand_nat (by omega) (by omega)] at a
    have h2 : n &&& m ≤ n := Nat.and_le_left
    omega
theorem ov_step {R : Int → Int} {s b b' v : Int} (h : b = ov R s v.toNat) (h0 : 0 ≤ v) (hc : (xand v s = s ∧ hgv R v = 1 ∧ (b = -1 ∨ xonf v 8 < xonf b 8) ∧ b' = v) ∨ ((¬ xand v s = s ∨ ¬ hgv R v = 1 ∨ ¬ (b = -1 ∨ xonf v 8 < xonf b 8)) ∧ b' = b)) : b' = ov R s (v + 1).toNat := by
  rw [show (v + 1).toNat = v.toNat + 1 by omega]
  simp only [ov]
  rw [Int.toNat_of_nonneg h0, ← h]
  rcases hc with ⟨a1, a2, a3, a4⟩ | ⟨a1, a2⟩
  · rw [if_pos ⟨a1, a2, a3⟩, a4]
  · rw [if_neg (fun q => by rcases a1 with a | a | a; exact a q.1; exact a q.2.1; exact a q.2.2), a2]
theorem ov_cg {R R' : Int → Int} {s : Int} (h : ∀ p : Nat, p < 8 → R (p : Int) = R' (p : Int)) : ∀ n : Nat, ov R s n = ov R' s n := by
  intro n
  induction n with
  | zero => rfl
  | succ n ih =>
    simp only [ov]
    rw [ih, hgv_cg _ h]
def wnd (h : Int) : Int := if h = -1 then -1 else if h = 0 then 0 else xonf h 8 - 1
theorem bc_on : ∀ n : Nat, n < 256 → xbc (n : Int) = xonf (n : Int) 8 := by decide +kernel
theorem bc_onI {x : Int} (h0 : 0 ≤ x) (h1 : x ≤ 255) : xbc x = xonf x 8 := by
  obtain ⟨n, rfl⟩ := Int.eq_ofNat_of_zero_le h0
  exact bc_on n (by omega)
theorem wnd_v {h r : Int} (hr : (h = -1 ∧ r = -1) ∨ (h = 0 ∧ r = 0) ∨ (¬ h = -1 ∧ ¬ h = 0 ∧ r = xonf h 8 - 1)) : r = wnd h := by
  unfold wnd
  rcases hr with ⟨a, b⟩ | ⟨a, b⟩ | ⟨a, b, c⟩
  · rw [if_pos a, b]
  · rw [if_neg (by omega), if_pos a, b]
  · rw [if_neg a, if_neg b, c]
/-! motifs -/
def mos (f : Int → Int) : Nat → Int
  | 0 => 0
  | n + 1 => xor' (mos f n) (xshl 1 (f (n : Int)))
def mal (s : Int) (g : Int → Int) : Nat → Int
  | 0 => 255
  | n + 1 => if xand (xshr s (n : Int)) 1 = 1 then xand (mal s g n) (g (n : Int)) else mal s g n
theorem mos_cg {f g : Int → Int} : ∀ n : Nat, (∀ i : Nat, i < n → f (i : Int) = g (i : Int)) → mos f n = mos g n := by
  intro n
  induction n with
  | zero => intro _; rfl
  | succ n ih =>
    intro h
    simp only [mos]
    rw [ih (fun i hi => h i (by omega)), h n (by omega)]
theorem mal_cg {s s' : Int} {f g : Int → Int} : ∀ n : Nat, (∀ i : Nat, i < n → f (i : Int) = g (i : Int) ∧ (xand (xshr s (i : Int)) 1 = 1 ↔ xand (xshr s' (i : Int)) 1 = 1)) → mal s f n = mal s' g n := by
  intro n
  induction n with
  | zero => intro _; rfl
  | succ n ih =>
    intro h
    simp only [mal]
    rw [ih (fun i hi => h i (by omega)), (h n (by omega)).1]
    by_cases e : xand (xshr s (n : Int)) 1 = 1
    · rw [if_pos e, if_pos ((h n (by omega)).2.mp e)]
    · rw [if_neg e, if_neg (fun q => e ((h n (by omega)).2.mpr q))]
theorem mos_up {f : Int → Int} {u u' i x : Int} (h : u = mos f i.toNat) (h0 : 0 ≤ i) (hx : x = f i) (hu : u' = xor' u (xshl 1 x)) : u' = mos f (i + 1).toNat := by
  rw [show (i + 1).toNat = i.toNat + 1 by omega]
  simp only [mos]
  rw [Int.toNat_of_nonneg h0, ← h, ← hx, hu]
theorem mal_up {s : Int} {g : Int → Int} {u u' t : Int} (h : u = mal s g t.toNat) (h0 : 0 ≤ t) (hc : (xand (xshr s t) 1 = 1 ∧ u' = xand u (g t)) ∨ (¬ xand (xshr s t) 1 = 1 ∧ u' = u)) : u' = mal s g (t + 1).toNat := by
  rw [show (t + 1).toNat = t.toNat + 1 by omega]
  simp only [mal]
  rw [Int.toNat_of_nonneg h0, ← h]
  rcases hc with ⟨a, b⟩ | ⟨a, b⟩
  · rw [if_pos a, b]
  · rw [if_neg a, b]
/-! sets of tales -/
theorem b_xor (x y : Int32) (i : Nat) : bt (x ^^^ y) i = (bt x i ^^ bt y i) := by unfold bt; rw [Int32.toBitVec_xor, BitVec.getLsbD_xor]
theorem b_m1 : ∀ i, i < 32 → bt (-1) i = true := by decide +kernel
theorem b_msk : ∀ n : Nat, n < 9 → ∀ i : Nat, i < 32 → n ≤ i → bt (Int32.ofInt (xxor (xshl 1 (n : Int) - 1) (-1))) i = true := by decide +kernel
theorem xsh1 : ∀ n : Nat, n < 9 → xshl 1 (n : Int) = 2 ^ n := by decide +kernel
theorem are_b : ∀ n : Nat, n < 9 → ∀ t : Nat, t < 2 ^ n → xand (t : Int) (xxor (xshl 1 (n : Int) - 1) (-1)) = 0 := by
  have key : ∀ n : Nat, n < 9 → ∀ t : Nat, t < 256 → t < 2 ^ n → xand (t : Int) (xxor (xshl 1 (n : Int) - 1) (-1)) = 0 := by decide +kernel
  intro n hn t ht
  exact key n hn t (Nat.lt_of_lt_of_le ht (show 2 ^ n ≤ 2 ^ 8 from Nat.pow_le_pow_right (by decide) (by omega))) ht
theorem are_tl {t n : Int} (ht : xrg t) (h0 : 0 ≤ n) (h8 : n ≤ 8) : xand t (xxor (xshl 1 n - 1) (-1)) = 0 ↔ (0 ≤ t ∧ t ≤ xshl 1 n - 1) := by
  obtain ⟨k, rfl⟩ := Int.eq_ofNat_of_zero_le h0
  have hk : k < 9 := by omega
  rw [xsh1 k hk]
  constructor
  · intro h
    rw [← xsh1 k hk] at h
    obtain ⟨m, hm⟩ : ∃ m, m = Int32.ofInt (xxor (xshl 1 (k : Int) - 1) (-1)) := ⟨_, rfl⟩
    have hb : ∀ i, i < 32 → k ≤ i → bt m i = true := fun i hi hki => by rw [hm]; exact b_msk k hk i hi hki
    have e : Int32.ofInt t &&& m = 0 := by
      rw [hm]
      have h2 : (Int32.ofInt t &&& Int32.ofInt (xxor (xshl 1 (k : Int) - 1) (-1))).toInt = (0 : Int32).toInt := h
      exact Int32.toInt_inj.mp h2
    have hlt : (Int32.ofInt t).toBitVec.toNat < 2 ^ k := by
      apply Nat.lt_pow_two_of_testBit
      intro i hi
      by_cases h32 : i < 32
      · have h3 : bt (Int32.ofInt t &&& m) i = false := by rw [e, b_0]
        rw [b_and, hb i h32 hi, Bool.and_true] at h3
        exact h3
      · exact b_big (x := Int32.ofInt t) (by omega)
    have h256 : 2 ^ k ≤ 2 ^ 8 := Nat.pow_le_pow_right (by decide) (by omega)
    obtain ⟨q, hq, he⟩ := wb_of32 (Int32.ofInt t)
    have hq2 : (Int32.ofInt t).toBitVec.toNat = q := by
      rw [he]
      show (BitVec.ofNat 32 q).toNat = q
      rw [BitVec.toNat_ofNat, Nat.mod_eq_of_lt hq]
    have ht2 : t = (q : Int) := by
      rw [← xn_i ht, he, xn_nT (by omega)]
    rw [hq2] at hlt
    have hlt2 : (q : Int) < ((2 ^ k : Nat) : Int) := by omega
    rw [show ((2 ^ k : Nat) : Int) = (2 : Int) ^ k by simp] at hlt2
    omega
  · rintro ⟨a, b⟩
    rw [← xsh1 k hk]
    obtain ⟨q, rfl⟩ := Int.eq_ofNat_of_zero_le a
    refine are_b k hk q ?_
    have : (q : Int) < ((2 ^ k : Nat) : Int) := by
      rw [show ((2 ^ k : Nat) : Int) = (2 : Int) ^ k by simp]
      omega
    omega
theorem all_bit : ∀ n : Nat, n < 9 → ∀ i : Nat, i < n → xand (xshr (xshl 1 (n : Int) - 1) (i : Int)) 1 = 1 := by decide +kernel
theorem all_255 : ∀ i : Nat, i < 8 → xand (xshr 255 (i : Int)) 1 = 1 := by decide +kernel
theorem xsh_bd {n : Int} (h0 : 0 ≤ n) (h8 : n ≤ 8) : 1 ≤ xshl 1 n ∧ xshl 1 n ≤ 256 := by
  obtain ⟨k, rfl⟩ := Int.eq_ofNat_of_zero_le h0
  exact (by decide +kernel : ∀ k : Nat, k < 9 → 1 ≤ xshl 1 (k : Int) ∧ xshl 1 (k : Int) ≤ 256) k (by omega)
