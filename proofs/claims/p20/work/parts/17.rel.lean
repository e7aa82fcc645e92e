/-! ===== chains as numbers ===== -/
def csum (f : Int → Int) : Nat → Int
  | 0 => 0
  | n + 1 => csum f n + f (n : Int) * 8 ^ n
theorem csum_cg {f g : Int → Int} : ∀ n : Nat, (∀ i : Nat, i < n → f (i : Int) = g (i : Int)) → csum f n = csum g n := by
  intro n
  induction n with
  | zero => intro _; rfl
  | succ n ih =>
    intro h
    simp only [csum]
    rw [ih (fun i hi => h i (by omega)), h n (by omega)]
theorem p8_pos (n : Nat) : (0 : Int) < 8 ^ n := Int.pow_pos (by decide)
theorem csum_bd {f : Int → Int} : ∀ n : Nat, (∀ i : Nat, i < n → 0 ≤ f (i : Int) ∧ f (i : Int) ≤ 7) → 0 ≤ csum f n ∧ csum f n < 8 ^ n := by
  intro n
  induction n with
  | zero => intro _; simp [csum]
  | succ n ih =>
    intro h
    have h1 := ih (fun i hi => h i (by omega))
    have h2 := h n (by omega)
    have hp := p8_pos n
    have h3 := Int.mul_le_mul_of_nonneg_right h2.2 (Int.le_of_lt hp)
    have h4 := Int.mul_nonneg h2.1 (Int.le_of_lt hp)
    simp only [csum]
    rw [Int.pow_succ]
    obtain ⟨P, hP⟩ : ∃ P : Int, P = 8 ^ n := ⟨_, rfl⟩
    obtain ⟨Q, hQ⟩ : ∃ Q : Int, Q = f n * 8 ^ n := ⟨_, rfl⟩
    rw [← hQ] at h3 h4 ⊢
    rw [← hP] at h1 hp h3 ⊢
    omega
theorem p8_30 : ∀ n : Nat, n < 11 → (8 : Int) ^ n ≤ 1073741824 := by decide +kernel
def chv (n : Int) (f : Int → Int) : Int := n * 4294967296 + csum f n.toNat
theorem chv_cg {n : Int} {f g : Int → Int} (h : ∀ i, 0 ≤ i → i < n → f i = g i) : chv n f = chv n g := by
  unfold chv
  rw [csum_cg n.toNat (fun i hi => h i (by omega) (by omega))]
theorem csum_lt {f : Int → Int} {n : Nat} (hn : n ≤ 10) (h : ∀ i : Nat, i < n → 0 ≤ f (i : Int) ∧ f (i : Int) ≤ 7) : 0 ≤ csum f n ∧ csum f n < 1073741824 := by
  have h1 := csum_bd n h
  have h2 := p8_30 n (by omega)
  exact ⟨h1.1, Int.lt_of_lt_of_le h1.2 h2⟩
theorem chv_len {n : Int} {f : Int → Int} (h0 : 0 ≤ n) (h1 : n ≤ 10) (hf : ∀ i, 0 ≤ i → i < n → 0 ≤ f i ∧ f i ≤ 7) : chv n f / 4294967296 = n ∧ 0 ≤ chv n f ∧ chv n f ≤ 47244640255 := by
  have h := csum_lt (f := f) (n := n.toNat) (by omega) (fun i hi => hf i (by omega) (by omega))
  unfold chv
  omega
theorem chv_0 (f : Int → Int) : chv 0 f = 0 := rfl
theorem csum_dig {f : Int → Int} : ∀ n : Nat, (∀ i : Nat, i < n → 0 ≤ f (i : Int) ∧ f (i : Int) ≤ 7) → ∀ i : Nat, i < n → csum f n / 8 ^ i % 8 = f (i : Int) := by
  intro n
  induction n with
  | zero => intro _ i hi; omega
  | succ n ih =>
    intro h i hi
    simp only [csum]
    have hne : (8 : Int) ^ i ≠ 0 := Int.ne_of_gt (p8_pos i)
    by_cases e : i = n
    · subst e
      have hb := csum_bd i (fun j hj => h j (by omega))
      rw [Int.add_mul_ediv_right _ _ hne, Int.ediv_eq_zero_of_lt hb.1 hb.2]
      have := h i (by omega)
      omega
    · obtain ⟨d, rfl⟩ : ∃ d, n = i + (1 + d) := ⟨n - i - 1, by omega⟩
      have e8 : f ((i + (1 + d) : Nat) : Int) * (8 : Int) ^ (i + (1 + d)) = (8 * (f ((i + (1 + d) : Nat) : Int) * 8 ^ d)) * 8 ^ i := by
        rw [Int.pow_add, Int.pow_add]
        simp only [Int.pow_one, Int.mul_assoc, Int.mul_comm, Int.mul_left_comm]
      rw [e8, Int.add_mul_ediv_right _ _ hne, Int.add_mul_emod_self_left]
      exact ih (fun j hj => h j (by omega)) i (by omega)
theorem xand_7e (n : Nat) : xand (n : Int) 7 = ((n % 8 : Nat) : Int) := by
  unfold xand
  rw [xn_nI]
  have e : nI n &&& Int32.ofInt 7 = nI (n % 8) := by
    apply Int32.toBitVec_inj.mp
    rw [Int32.toBitVec_and]
    apply BitVec.eq_of_toNat_eq
    rw [BitVec.toNat_and]
    show (BitVec.ofNat 32 n).toNat &&& 7 = (BitVec.ofNat 32 (n % 8)).toNat
    rw [BitVec.toNat_ofNat, BitVec.toNat_ofNat, show 7 = 2 ^ 3 - 1 from rfl, Nat.and_two_pow_sub_one_eq_mod]
    omega
  rw [e, xn_nT (by omega)]
def cmot (c i : Int) : Int := xand (xlushr c (3 * i)) 7
theorem chv_mot {n i : Int} {f : Int → Int} (h1 : n ≤ 10) (hf : ∀ i, 0 ≤ i → i < n → 0 ≤ f i ∧ f i ≤ 7) (hi0 : 0 ≤ i) (hi : i < n) : cmot (chv n f) i = f i := by
  obtain ⟨g1, g2, g3⟩ := chv_len (by omega) h1 hf
  obtain ⟨k, rfl⟩ := Int.eq_ofNat_of_zero_le hi0
  have hd := csum_dig (f := f) n.toNat (fun i hi => hf i (by omega) (by omega)) k (by omega)
  unfold cmot
  rw [xl_ushr g2 (by omega) (by omega) (by omega), show (3 * (k : Int)).toNat = 3 * k by omega, show (2 : Int) ^ (3 * k) = 8 ^ k by rw [Int.pow_mul]; rfl]
  have hq : 0 ≤ chv n f / 8 ^ k := Int.ediv_nonneg g2 (Int.le_of_lt (p8_pos k))
  obtain ⟨q, hqe⟩ := Int.eq_ofNat_of_zero_le hq
  rw [hqe, xand_7e]
  have e2 : chv n f / 8 ^ k % 8 = csum f n.toNat / 8 ^ k % 8 := by
    unfold chv
    have hk : k < 10 := by omega
    obtain ⟨S, hS⟩ : ∃ S, S = csum f n.toNat := ⟨_, rfl⟩
    rw [← hS]
    rcases (show k = 0 ∨ k = 1 ∨ k = 2 ∨ k = 3 ∨ k = 4 ∨ k = 5 ∨ k = 6 ∨ k = 7 ∨ k = 8 ∨ k = 9 by omega) with e | e | e | e | e | e | e | e | e | e <;> subst e <;> simp only [Int.reducePow] <;> omega
  rw [hqe] at e2
  omega
theorem xl_lor {n q k : Nat} (hk : k = n / 4294967296) (hk9 : k ≤ 9) (hq : q ≤ 7) : xlor (n : Int) (xlshl (q : Int) (3 * ((n : Int) / 4294967296))) = ((n ||| q * 2 ^ (3 * k) : Nat) : Int) := by
  have e1 : 3 * ((n : Int) / 4294967296) = ((3 * k : Nat) : Int) := by omega
  have hp : q * 2 ^ (3 * k) < 2 ^ 30 := by
    have h2 : 2 ^ (3 * k) ≤ 2 ^ 27 := Nat.pow_le_pow_right (by decide) (by omega)
    have h3 : q * 2 ^ (3 * k) ≤ 7 * 2 ^ 27 := Nat.mul_le_mul (by omega) h2
    omega
  have hs : xlshl (q : Int) (3 * ((n : Int) / 4294967296)) = ((q * 2 ^ (3 * k) : Nat) : Int) := by
    rw [e1]
    unfold xlshl
    rw [xn_lN, xn_nI, wb_shl _ (by omega), xn_lT (by omega)]
  have hor : n ||| q * 2 ^ (3 * k) < 2 ^ 63 := Nat.or_lt_two_pow (by omega) (by omega)
  rw [hs]
  unfold xlor
  rw [xn_lN, xn_lN, wb_or (by omega) (by omega), xn_lT hor]
def lgr (c q : Int) : Int := xlor c (xlshl q (3 * (c / 4294967296))) + 4294967296
theorem chv_longer {n q : Int} {f : Int → Int} (h0 : 0 ≤ n) (h9 : n ≤ 9) (hf : ∀ i, 0 ≤ i → i < n → 0 ≤ f i ∧ f i ≤ 7) (hq0 : 0 ≤ q) (hq : q ≤ 7) : lgr (chv n f) q = chv (n + 1) (fun i => if i = n then q else f i) := by
  obtain ⟨g1, g2, g3⟩ := chv_len h0 (by omega) hf
  obtain ⟨k, rfl⟩ := Int.eq_ofNat_of_zero_le h0
  obtain ⟨q, rfl⟩ := Int.eq_ofNat_of_zero_le hq0
  obtain ⟨c, hc⟩ := Int.eq_ofNat_of_zero_le g2
  have hS := csum_bd (f := f) k (fun i hi => hf i (by omega) (by omega))
  have hS2 := csum_lt (f := f) (n := k) (by omega) (fun i hi => hf i (by omega) (by omega))
  obtain ⟨S, hSe⟩ := Int.eq_ofNat_of_zero_le hS.1
  have hce : c = 2 ^ 32 * k + S := by
    have : chv (k : Int) f = (k : Int) * 4294967296 + csum f k := rfl
    omega
  have hS3 : S < 2 ^ (3 * k) := by
    have e : ((2 ^ (3 * k) : Nat) : Int) = 8 ^ k := by rw [Nat.pow_mul]; simp
    omega
  unfold lgr
  rw [hc, xl_lor (k := k) (by omega) (by omega) (by omega)]
  have hp : 2 ^ (3 * k) ≤ 2 ^ 27 := Nat.pow_le_pow_right (by decide) (by omega)
  have hm : q * 2 ^ (3 * k) ≤ 7 * 2 ^ (3 * k) := Nat.mul_le_mul_right _ (by omega)
  have hor : c ||| q * 2 ^ (3 * k) = 2 ^ 32 * k + (2 ^ (3 * k) * q + S) := by
    rw [hce, Nat.two_pow_add_eq_or_of_lt (by omega), Nat.or_assoc, Nat.or_comm S, Nat.mul_comm q, ← Nat.two_pow_add_eq_or_of_lt hS3, ← Nat.two_pow_add_eq_or_of_lt (by rw [Nat.mul_comm]; omega)]
  rw [hor]
  have hcs : chv ((k : Int) + 1) (fun i => if i = (k : Int) then (q : Int) else f i) = ((k : Int) + 1) * 4294967296 + (csum f k + q * 8 ^ k) := by
    unfold chv
    rw [show ((k : Int) + 1).toNat = k + 1 by omega]
    simp only [csum, if_true]
    rw [csum_cg (g := f) k (fun i hi => by rw [if_neg (by omega)])]
  rw [hcs, hSe]
  have e8 : ((2 ^ (3 * k) * q : Nat) : Int) = q * 8 ^ k := by
    rw [Nat.pow_mul, Int.natCast_mul, Int.mul_comm]; simp
  rw [← e8]
  omega
/-! ===== a state of the one beside a state of the other ===== -/
def stR (μ : xM) (c : Nat) (ν : xM) (m : Nat) (o : Int) : Prop :=
  μ c 4 = ν m o ∧ μ c 5 = ν m (o + 1) ∧ (∀ k, 0 ≤ k → k < 4 → μ (c + 3) k = ν m (o + (2 + k))) ∧
  (∀ t, 0 ≤ t → t < μ c 4 → μ (c + 1) t = chv (ν m (o + (6 + t))) (fun i => ν m (o + (30 + 10 * t + i)))) ∧
  (∀ t, 0 ≤ t → t < μ c 4 → μ (c + 2) t = ν m (o + (14 + t)) ∧ 0 ≤ μ (c + 2) t ∧ μ (c + 2) t ≤ 255) ∧
  (∀ p, 0 ≤ p → p < 8 → μ (c + 4) p = ν m (o + (22 + p)) ∧ 0 ≤ μ (c + 4) p ∧ μ (c + 4) p ≤ 255)
/-- a state as another was -/
def SE (μ' : xM) (a : Nat) (μ : xM) (b : Nat) : Prop :=
  μ' a 4 = μ b 4 ∧ μ' a 5 = μ b 5 ∧ (∀ j, 0 ≤ j → j < 8 → μ' (a + 1) j = μ (b + 1) j ∧ μ' (a + 2) j = μ (b + 2) j ∧ μ' (a + 4) j = μ (b + 4) j) ∧ (∀ j, 0 ≤ j → j < 4 → μ' (a + 3) j = μ (b + 3) j)
def ME (ν' : xM) (m' : Nat) (o' : Int) (ν : xM) (m : Nat) (o : Int) : Prop := ∀ j, 0 ≤ j → j < 110 → ν' m' (o' + j) = ν m (o + j)
/-- what the other's rows of a state hold -/
def mB (ν : xM) (m : Nat) (o : Int) : Prop := (0 ≤ ν m o ∧ ν m o ≤ 8) ∧ ∀ t, 0 ≤ t → t < 8 → (0 ≤ ν m (o + (6 + t)) ∧ ν m (o + (6 + t)) ≤ 10) ∧ ∀ i, 0 ≤ i → i < 10 → 0 ≤ ν m (o + (30 + 10 * t + i)) ∧ ν m (o + (30 + 10 * t + i)) ≤ 7
theorem stR.mv {μ μ' ν ν' : xM} {a b m m' : Nat} {o o' : Int} (h : stR μ b ν m o) (hs : SE μ' a μ b) (hm : ME ν' m' o' ν m o) (hB : mB ν m o) : stR μ' a ν' m' o' := by
  obtain ⟨h1, h2, h3, h4, h5, h6⟩ := h
  obtain ⟨s1, s2, s3, s4⟩ := hs
  have hb := hB.1
  have e0 : ν' m' o' = ν m o := by
    have := hm 0 (by omega) (by omega)
    rw [Int.add_zero, Int.add_zero] at this
    exact this
  refine ⟨by rw [s1, e0]; exact h1, by rw [s2, hm 1 (by omega) (by omega)]; exact h2, fun k a0 a1 => by rw [s4 k a0 a1, hm (2 + k) (by omega) (by omega)]; exact h3 k a0 a1, fun t a0 a1 => ?_, fun t a0 a1 => ?_, fun p a0 a1 => ?_⟩
  · rw [s1] at a1
    have h8 : t < 8 := by omega
    rw [(s3 t a0 h8).1, h4 t a0 a1, hm (6 + t) (by omega) (by omega)]
    have hl := (hB.2 t a0 h8).1
    exact (chv_cg (fun i i0 i1 => hm (30 + 10 * t + i) (by omega) (by omega))).symm
  · rw [s1] at a1
    have h8 : t < 8 := by omega
    rw [(s3 t a0 h8).2.1, hm (14 + t) (by omega) (by omega)]
    exact h5 t a0 a1
  · rw [(s3 p a0 a1).2.2, hm (22 + p) (by omega) (by omega)]
    exact h6 p a0 a1
theorem SE.same {μ μ' : xM} {c : Nat} (h : ∀ k j, c ≤ k → k ≤ c + 4 → μ' k j = μ k j) : SE μ' c μ c :=
  ⟨h c 4 (by omega) (by omega), h c 5 (by omega) (by omega), fun j _ _ => ⟨h _ j (by omega) (by omega), h _ j (by omega) (by omega), h _ j (by omega) (by omega)⟩, fun j _ _ => h _ j (by omega) (by omega)⟩
theorem ME.same {ν ν' : xM} {m : Nat} {o : Int} (h : ∀ j, ν' m j = ν m j) : ME ν' m o ν m o := fun j _ _ => h _
theorem stR.cg {μ μ' ν ν' : xM} {c m : Nat} {o : Int} (h : stR μ c ν m o) (h1 : ∀ k j, c ≤ k → k ≤ c + 4 → μ' k j = μ k j) (h2 : ∀ j, ν' m j = ν m j) : stR μ' c ν' m o := by
  obtain ⟨a1, a2, a3, a4, a5, a6⟩ := h
  unfold stR
  simp only [h2]
  refine ⟨by rw [h1 c 4 (by omega) (by omega)]; exact a1, by rw [h1 c 5 (by omega) (by omega)]; exact a2, fun k b0 b1 => by rw [h1 _ k (by omega) (by omega)]; exact a3 k b0 b1, fun t b0 b1 => ?_, fun t b0 b1 => ?_, fun p b0 b1 => ?_⟩
  · rw [h1 c 4 (by omega) (by omega)] at b1
    rw [h1 _ t (by omega) (by omega)]; exact a4 t b0 b1
  · rw [h1 c 4 (by omega) (by omega)] at b1
    rw [h1 _ t (by omega) (by omega)]; exact a5 t b0 b1
  · rw [h1 _ p (by omega) (by omega)]; exact a6 p b0 b1
def rT (μ ν : xM) : Prop := μ 0 7 = chv (ν 120 6) (fun i => ν 125 i)
def rS (μ ν : xM) : Prop := μ 0 8 = ν 120 9
def rB (μ ν : xM) : Prop := μ 88 3 = ν 120 8 ∧ ∀ k, 0 ≤ k → k < μ 88 3 → μ 89 k = ν 126 (3 * k) ∧ μ 90 k = ν 126 (3 * k + 1) ∧ μ 91 k = ν 126 (3 * k + 2)
def rgc (x : Int) : Nat := 8 + 5 * (x % 16).toNat
def rD (μ ν : xM) : Prop := μ 6 1 = ν 120 2 ∧ ∀ i, 0 ≤ i → i < μ 6 1 → stR μ (rgc (μ 6 2 - μ 6 1 + i)) ν 122 (110 * i)
def rI (q : Nat) (i : Int) (μ ν : xM) : Prop := μ q 2 = ν 124 i ∧ (ν 124 i ≠ 0 → stR μ (q + 1) ν 123 (111 * i) ∧ μ q 1 = ν 123 (111 * i + 110))
def Rel (μ ν : xM) : Prop := stR μ 1 ν 121 0 ∧ rT μ ν ∧ rS μ ν ∧ rB μ ν ∧ rD μ ν ∧ rI 108 0 μ ν ∧ rI 114 1 μ ν
theorem rgc_bd (x : Int) : 8 ≤ rgc x ∧ rgc x ≤ 83 := by
  unfold rgc
  have h1 := Int.emod_nonneg x (show (16 : Int) ≠ 0 by decide)
  have h2 := Int.emod_lt_of_pos x (show (0 : Int) < 16 by decide)
  omega
theorem rT.cg {μ μ' ν ν' : xM} (h : rT μ ν) (h1 : μ' 0 7 = μ 0 7) (h2 : ν' 120 6 = ν 120 6) (h3 : ∀ j, ν' 125 j = ν 125 j) : rT μ' ν' := by
  unfold rT
  simp only [h1, h2, h3]
  exact h
theorem rS.cg {μ μ' ν ν' : xM} (h : rS μ ν) (h1 : μ' 0 8 = μ 0 8) (h2 : ν' 120 9 = ν 120 9) : rS μ' ν' := by
  unfold rS
  rw [h1, h2]
  exact h
theorem rB.cg {μ μ' ν ν' : xM} (h : rB μ ν) (h1 : ∀ k j, 88 ≤ k → k ≤ 91 → μ' k j = μ k j) (h2 : ν' 120 8 = ν 120 8) (h3 : ∀ j, ν' 126 j = ν 126 j) : rB μ' ν' := by
  unfold rB
  simp only [h1 88 _ (by omega) (by omega), h1 89 _ (by omega) (by omega), h1 90 _ (by omega) (by omega), h1 91 _ (by omega) (by omega), h2, h3]
  exact h
theorem rD.cg {μ μ' ν ν' : xM} (h : rD μ ν) (h1 : μ' 6 1 = μ 6 1) (h2 : μ' 6 2 = μ 6 2) (h3 : ∀ k j, 8 ≤ k → k ≤ 87 → μ' k j = μ k j) (h4 : ν' 120 2 = ν 120 2) (h5 : ∀ j, ν' 122 j = ν 122 j) : rD μ' ν' := by
  refine ⟨by rw [h1, h4]; exact h.1, fun i a0 a1 => ?_⟩
  rw [h1] at a1 ⊢
  rw [h2]
  have hb := rgc_bd (μ 6 2 - μ 6 1 + i)
  exact (h.2 i a0 a1).cg (fun k j b0 b1 => h3 k j (by omega) (by omega)) h5
theorem rI.cg {q : Nat} {i : Int} {μ μ' ν ν' : xM} (h : rI q i μ ν) (h1 : ∀ k j, q ≤ k → k ≤ q + 5 → μ' k j = μ k j) (h2 : ∀ j, ν' 124 j = ν 124 j) (h3 : ∀ j, ν' 123 j = ν 123 j) : rI q i μ' ν' := by
  refine ⟨by rw [h1 _ _ (by omega) (by omega), h2]; exact h.1, fun hn => ?_⟩
  rw [h2] at hn
  obtain ⟨a, b⟩ := h.2 hn
  exact ⟨a.cg (fun k j b0 b1 => h1 k j (by omega) (by omega)) h3, by rw [h1 _ _ (by omega) (by omega), h3]; exact b⟩
/-- frames: the one's cells, the other's -/
def CF (k : Nat) (_ : Int) : Prop := k < 120
def MF (k : Nat) (_ : Int) : Prop := 120 ≤ k
theorem Rel.cg {μ μ' ν ν' : xM} (h : Rel μ ν) (c : ∀ k j, (k < 92 ∧ ¬ (k = 0 ∧ j = 9)) ∨ (107 ≤ k ∧ k < 120) → μ' k j = μ k j) (d1 : ∀ k j, 121 ≤ k → k ≤ 126 → ν' k j = ν k j) (d2 : ∀ j, j ≠ 11 → j ≠ 13 → j ≠ 20 → ν' 120 j = ν 120 j) : Rel μ' ν' := by
  obtain ⟨a1, a2, a3, a4, a5, a6, a7⟩ := h
  exact ⟨a1.cg (fun k j x y => c k j (by omega)) (fun j => d1 _ _ (by omega) (by omega)),
    a2.cg (c _ _ (by omega)) (d2 _ (by omega) (by omega) (by omega)) (fun j => d1 _ _ (by omega) (by omega)),
    a3.cg (c _ _ (by omega)) (d2 _ (by omega) (by omega) (by omega)),
    a4.cg (fun k j x y => c k j (by omega)) (d2 _ (by omega) (by omega) (by omega)) (fun j => d1 _ _ (by omega) (by omega)),
    a5.cg (c _ _ (by omega)) (c _ _ (by omega)) (fun k j x y => c k j (by omega)) (d2 _ (by omega) (by omega) (by omega)) (fun j => d1 _ _ (by omega) (by omega)),
    a6.cg (fun k j x y => c k j (by omega)) (fun j => d1 _ _ (by omega) (by omega)) (fun j => d1 _ _ (by omega) (by omega)),
    a7.cg (fun k j x y => c k j (by omega)) (fun j => d1 _ _ (by omega) (by omega)) (fun j => d1 _ _ (by omega) (by omega))⟩
theorem Rel.lr {μ μ' ν ν' : xM} (h : Rel μ ν) (h1 : Fr RO μ μ') (h2 : Fr RM ν ν') : Rel μ' ν' :=
  h.cg (fun k j hk => h1 k j (by unfold RO; omega)) (fun k j a b => h2 k j (by unfold RM; omega)) (fun j a b c => h2 120 j (by unfold RM; omega))
theorem Rel.rt {μ ν ν' : xM} (h : Rel μ ν) (h2 : Fr CF ν ν') : Rel μ ν' :=
  h.cg (fun k j hk => rfl) (fun k j a b => h2 k j (by unfold CF; omega)) (fun j a b c => h2 120 j (by unfold CF; omega))
theorem Rel.lt {μ μ' ν : xM} (h : Rel μ ν) (h1 : Fr MF μ μ') : Rel μ' ν :=
  h.cg (fun k j hk => h1 k j (by unfold MF; omega)) (fun k j a b => rfl) (fun j a b c => rfl)
/-! ===== what the calls do ===== -/
def SA (a : Nat) (k : Nat) (_ : Int) : Prop := a ≤ k ∧ k ≤ a + 4
theorem SE_bec {μ μ1 μ2 μ3 μ4 μ5 μ6 : xM} {a b : Nat} {x y : Int} (hab : a = b ∨ a + 4 < b ∨ b + 4 < a) (h1 : μ1 = xcp μ (b + 1) (a + 1) 8) (h2 : μ2 = xcp μ1 (b + 2) (a + 2) 8) (h3 : μ3 = xcp μ2 (b + 3) (a + 3) 4) (h4 : μ4 = xcp μ3 (b + 4) (a + 4) 8) (h5 : μ5 = xup μ4 a 4 x) (hx : x = μ4 b 4) (h6 : μ6 = xup μ5 a 5 y) (hy : y = μ5 b 5) : SE μ6 a μ b := by
  have f1 : ∀ k j, k ≠ a + 1 → μ1 k j = μ k j := fun k j h => by rw [h1]; simp only [xcp, h, false_and, if_false]
  have f2 : ∀ k j, k ≠ a + 2 → μ2 k j = μ1 k j := fun k j h => by rw [h2]; simp only [xcp, h, false_and, if_false]
  have f3 : ∀ k j, k ≠ a + 3 → μ3 k j = μ2 k j := fun k j h => by rw [h3]; simp only [xcp, h, false_and, if_false]
  have f4 : ∀ k j, k ≠ a + 4 → μ4 k j = μ3 k j := fun k j h => by rw [h4]; simp only [xcp, h, false_and, if_false]
  have f5 : ∀ k j, ¬ (k = a ∧ j = 4) → μ5 k j = μ4 k j := fun k j h => by rw [h5]; simp only [xup, if_neg h]
  have f6 : ∀ k j, ¬ (k = a ∧ j = 5) → μ6 k j = μ5 k j := fun k j h => by rw [h6]; simp only [xup, if_neg h]
  have g1 : ∀ j, 0 ≤ j → j < 8 → μ1 (a + 1) j = μ (b + 1) j := fun j p q => by rw [h1]; exact if_pos ⟨rfl, p, q⟩
  have g2 : ∀ j, 0 ≤ j → j < 8 → μ2 (a + 2) j = μ1 (b + 2) j := fun j p q => by rw [h2]; exact if_pos ⟨rfl, p, q⟩
  have g3 : ∀ j, 0 ≤ j → j < 4 → μ3 (a + 3) j = μ2 (b + 3) j := fun j p q => by rw [h3]; exact if_pos ⟨rfl, p, q⟩
  have g4 : ∀ j, 0 ≤ j → j < 8 → μ4 (a + 4) j = μ3 (b + 4) j := fun j p q => by rw [h4]; exact if_pos ⟨rfl, p, q⟩
  refine ⟨?_, ?_, fun j p q => ⟨?_, ?_, ?_⟩, fun j p q => ?_⟩
  · rw [f6 _ _ (by omega), h5, xup_s, hx, f4 _ _ (by omega), f3 _ _ (by omega), f2 _ _ (by omega), f1 _ _ (by omega)]
  · rw [h6, xup_s, hy, f5 _ _ (by omega), f4 _ _ (by omega), f3 _ _ (by omega), f2 _ _ (by omega), f1 _ _ (by omega)]
  · rw [f6 _ _ (by omega), f5 _ _ (by omega), f4 _ _ (by omega), f3 _ _ (by omega), f2 _ _ (by omega), g1 j p q]
  · rw [f6 _ _ (by omega), f5 _ _ (by omega), f4 _ _ (by omega), f3 _ _ (by omega), g2 j p q, f1 _ _ (by omega)]
  · rw [f6 _ _ (by omega), f5 _ _ (by omega), g4 j p q, f3 _ _ (by omega), f2 _ _ (by omega), f1 _ _ (by omega)]
  · rw [f6 _ _ (by omega), f5 _ _ (by omega), f4 _ _ (by omega), g3 j p q, f2 _ _ (by omega), f1 _ _ (by omega)]
def RBf (n : Int) (k : Nat) (j : Int) : Prop := (k = 0 ∧ j = 9) ∨ (k = 6 ∧ (j = 1 ∨ j = 2)) ∨ (rgc n ≤ k ∧ k ≤ rgc n + 4)
def cRm (μ μ' : xM) : Prop := Fr (RBf (μ 6 2)) μ μ' ∧ SE μ' (rgc (μ 6 2)) μ 1 ∧ μ' 6 2 = (μ 6 2 + 1) % 16 ∧ μ' 6 1 = min (μ 6 1 + 1) 16
def TBf (k : Nat) (j : Int) : Prop := (k = 0 ∧ j = 9) ∨ (k = 6 ∧ (j = 1 ∨ j = 2)) ∨ (1 ≤ k ∧ k ≤ 5)
def cTb (n : Int) (μ μ' : xM) : Prop := Fr TBf μ μ' ∧ SE μ' 1 μ (rgc (μ 6 2 - n)) ∧ μ' 6 2 = (μ 6 2 + 16 - n) % 16 ∧ μ' 6 1 = μ 6 1 - n
def AD (k : Nat) (j : Int) : Prop := (k = 1 ∧ j = 4) ∨ k = 2 ∨ k = 3
def cAdd (c s : Int) (μ μ' : xM) : Prop := Fr AD μ μ' ∧ μ' 1 4 = μ 1 4 + 1 ∧ ∀ j, μ' 2 j = (if j = μ 1 4 then c else μ 2 j) ∧ μ' 3 j = (if j = μ 1 4 then s else μ 3 j)
def sk (t q : Int) : Int := if q < t then q else q + 1
def cRv (t : Int) (μ μ' : xM) : Prop := Fr AD μ μ' ∧ μ' 1 4 = μ 1 4 - 1 ∧ ∀ j, 0 ≤ j → j < μ 1 4 - 1 → μ' 2 j = μ 2 (sk t j) ∧ μ' 3 j = μ 3 (sk t j)
def srd (v x q : Int) : Int := if v = 0 then xand x (xxor (xshl 1 q) (-1)) else xor' x (xshl 1 q)
def F5 (k : Nat) (_ : Int) : Prop := k = 5
def cRd (p q v : Int) (μ μ' : xM) : Prop := Fr F5 μ μ' ∧ ∀ j, μ' 5 j = if j = q then srd v (μ 5 q) p else if j = p then srd v (μ 5 p) q else μ 5 j
def sumf (g : Int → Int) : Nat → Int
  | 0 => 0
  | n + 1 => sumf g n + g (n : Int)
def sd (s : Int) : Int := (s * 1103515245 + 12345) % 2147483648
def sdn (s : Int) : Nat → Int
  | 0 => s
  | n + 1 => sd (sdn s n)
def drw (s : Int) (k : Nat) (n : Int) : Int := sdn s k / 65536 % n
def dL (s : Int) : Int := drw s 1 7 + 2
def dM (s : Int) (i : Int) : Int := drw s (i.toNat + 2) 5
def dP (s : Int) : Int := drw s ((dL s).toNat + 2) 256
def dS (s : Int) : Int := sdn s ((dL s).toNat + 2)
def ADs (k : Nat) (j : Int) : Prop := AD k j ∨ (k = 0 ∧ j = 8)
def cDw (μ μ' : xM) : Prop := Fr ADs μ μ' ∧ μ' 0 8 = dS (μ 0 8) ∧ μ' 1 4 = μ 1 4 + 1 ∧ ∀ j, μ' 2 j = (if j = μ 1 4 then chv (dL (μ 0 8)) (dM (μ 0 8)) else μ 2 j) ∧ μ' 3 j = (if j = μ 1 4 then dP (μ 0 8) else μ 3 j)
def cDs : Nat → xM → xM → Prop
  | 0, μ, μ' => μ' = μ
  | n + 1, μ, μ' => ∃ ν ν1, cDs n μ ν ∧ BI ν ∧ ν 1 4 < 8 ∧ cRm ν ν1 ∧ cDw ν1 μ'
def mNt (ν ν' : xM) : Prop := Fr NT ν ν' ∧ ν' 120 2 = min (ν 120 2 + 1) 16 ∧ (∀ j, 0 ≤ j → j < 110 → ν' 122 (110 * (ν' 120 2 - 1) + j) = ν 121 j) ∧ (∀ j, 0 ≤ j → j < 110 * (ν' 120 2 - 1) → ν' 122 j = ν 122 (j + 110 * (ν 120 2 + 1 - ν' 120 2)))
def mAd (L s : Int) (f : Int → Int) (ν ν' : xM) : Prop := ∀ j, 0 ≤ j → j < 110 → ν' 121 j = if j = 0 then ν 121 0 + 1 else if j = 6 + ν 121 0 then L else if j = 14 + ν 121 0 then s else if 30 + 10 * ν 121 0 ≤ j ∧ j < 30 + 10 * ν 121 0 + L then f (j - (30 + 10 * ν 121 0)) else ν 121 j
def F121 (k : Nat) (_ : Int) : Prop := k = 121
def TLf (k : Nat) (j : Int) : Prop := k = 121 ∨ (k = 120 ∧ j = 6)
def DRf (k : Nat) (j : Int) : Prop := k = 121 ∨ (k = 120 ∧ j = 9)
def mDw (ν ν' : xM) : Prop := Fr DRf ν ν' ∧ ν' 120 9 = dS (ν 120 9) ∧ mAd (dL (ν 120 9)) (dP (ν 120 9)) (dM (ν 120 9)) ν ν'
def mDs : Nat → xM → xM → Prop
  | 0, ν, ν' => ν' = ν
  | n + 1, ν, ν' => ∃ κ κ1, mDs n ν κ ∧ BI κ ∧ κ 121 0 < 8 ∧ mNt κ κ1 ∧ mDw κ1 ν'
def mRv (t : Int) (ν ν' : xM) : Prop := Fr F121 ν ν' ∧ ν' 121 0 = ν 121 0 - 1 ∧ (∀ j, 1 ≤ j → j < 6 → ν' 121 j = ν 121 j) ∧ (∀ j, 22 ≤ j → j < 30 → ν' 121 j = ν 121 j) ∧ (∀ q, 0 ≤ q → q < ν 121 0 - 1 → ν' 121 (6 + q) = ν 121 (6 + sk t q) ∧ ν' 121 (14 + q) = ν 121 (14 + sk t q) ∧ ∀ i, 0 ≤ i → i < 10 → ν' 121 (30 + 10 * q + i) = ν 121 (30 + 10 * sk t q + i))
def C_feed (t : Int) (μ : xM) (r : Int) (μ' : xM) : Prop := (¬ (97 ≤ t ∧ t ≤ 104) ∧ r = -1000000002 ∧ μ' = μ) ∨ ((97 ≤ t ∧ t ≤ 104) ∧ 10 ≤ μ 0 7 / 4294967296 ∧ r = -1000000004 ∧ μ' = μ) ∨ ((97 ≤ t ∧ t ≤ 104) ∧ μ 0 7 / 4294967296 < 10 ∧ μ' = xup μ 0 7 (lgr (μ 0 7) (t - 97)) ∧ r = lgr (μ 0 7) (t - 97) / 4294967296)
def D_feed (t : Int) (ν : xM) (r : Int) (ν' : xM) : Prop := (¬ (97 ≤ t ∧ t ≤ 104) ∧ r = -1000000002 ∧ ν' = ν) ∨ ((97 ≤ t ∧ t ≤ 104) ∧ ν 120 6 = 10 ∧ r = -1000000004 ∧ ν' = ν) ∨ ((97 ≤ t ∧ t ≤ 104) ∧ ν 120 6 < 10 ∧ ν' = xup (xup ν 125 (ν 120 6) (t - 97)) 120 6 (ν 120 6 + 1) ∧ r = ν 120 6 + 1)
def C_tale (μ : xM) (r : Int) (μ' : xM) : Prop := (8 ≤ μ 1 4 ∧ r = -1000000004 ∧ μ' = μ) ∨ (μ 1 4 < 8 ∧ μ 0 7 / 4294967296 = 0 ∧ r = -1000000003 ∧ μ' = μ) ∨ (μ 1 4 < 8 ∧ ¬ μ 0 7 / 4294967296 = 0 ∧ r = μ 1 4 ∧ ∃ μ1 μ2, cRm μ μ1 ∧ cAdd (μ 0 7) 0 μ1 μ2 ∧ μ' = xup μ2 0 7 0)
def D_tale (ν : xM) (r : Int) (ν' : xM) : Prop := (ν 121 0 = 8 ∧ r = -1000000004 ∧ ν' = ν) ∨ (ν 121 0 < 8 ∧ ν 120 6 = 0 ∧ r = -1000000003 ∧ ν' = ν) ∨ (ν 121 0 < 8 ∧ ¬ ν 120 6 = 0 ∧ r = ν 121 0 ∧ ∃ ν1, mNt ν ν1 ∧ Fr TLf ν1 ν' ∧ ν' 120 6 = 0 ∧ mAd (ν 120 6) 0 (fun i => ν 125 i) ν1 ν')
def C_take (t : Int) (μ : xM) (r : Int) (μ' : xM) : Prop := (¬ (0 ≤ t ∧ t < μ 1 4) ∧ r = -1000000001 ∧ μ' = μ) ∨ ((0 ≤ t ∧ t < μ 1 4) ∧ r = μ 1 4 - 1 ∧ ∃ μ1, cRm μ μ1 ∧ cRv t μ1 μ')
def D_take (t : Int) (ν : xM) (r : Int) (ν' : xM) : Prop := (¬ (0 ≤ t ∧ t < ν 121 0) ∧ r = -1000000001 ∧ ν' = ν) ∨ ((0 ≤ t ∧ t < ν 121 0) ∧ r = ν 121 0 - 1 ∧ ∃ ν1, mNt ν ν1 ∧ mRv t ν1 ν')
def okco (w v : Int) : Prop := (0 ≤ w ∧ w ≤ 3) ∧ v ≤ 9 ∧ ((w = 2 ∧ 0 ≤ v) ∨ (¬ w = 2 ∧ 1 ≤ v))
def C_cost (w v : Int) (μ : xM) (r : Int) (μ' : xM) : Prop := (¬ okco w v ∧ r = -1000000002 ∧ μ' = μ) ∨ (okco w v ∧ r = μ 4 w ∧ ∃ μ1, cRm μ μ1 ∧ μ' = xup μ1 4 w v)
def D_cost (w v : Int) (ν : xM) (r : Int) (ν' : xM) : Prop := (¬ okco w v ∧ r = -1000000002 ∧ ν' = ν) ∨ (okco w v ∧ r = ν 121 (2 + w) ∧ ∃ ν1, mNt ν ν1 ∧ ν' = xup ν1 121 (2 + w) v)
def C_kind (v : Int) (μ : xM) (r : Int) (μ' : xM) : Prop := (¬ (0 ≤ v ∧ v ≤ 2) ∧ r = -1000000002 ∧ μ' = μ) ∨ ((0 ≤ v ∧ v ≤ 2) ∧ r = μ 1 5 ∧ ∃ μ1, cRm μ μ1 ∧ μ' = xup μ1 1 5 v)
def D_kind (v : Int) (ν : xM) (r : Int) (ν' : xM) : Prop := (¬ (0 ≤ v ∧ v ≤ 2) ∧ r = -1000000002 ∧ ν' = ν) ∨ ((0 ≤ v ∧ v ≤ 2) ∧ r = ν 121 1 ∧ ∃ ν1, mNt ν ν1 ∧ ν' = xup ν1 121 1 v)
def okro (p q : Int) : Prop := (0 ≤ p ∧ p ≤ 7) ∧ (0 ≤ q ∧ q ≤ 7) ∧ ¬ p = q
def C_road (p q v : Int) (μ : xM) (r : Int) (μ' : xM) : Prop := (¬ okro p q ∧ r = -1000000001 ∧ μ' = μ) ∨ (okro p q ∧ r = sumf (fun k => xbc (μ' 5 k)) 8 / 2 ∧ ∃ μ1, cRm μ μ1 ∧ cRd p q v μ1 μ')
def D_road (p q v : Int) (ν : xM) (r : Int) (ν' : xM) : Prop := (¬ okro p q ∧ r = -1000000001 ∧ ν' = ν) ∨ (okro p q ∧ r = sumf (fun k => xonf (ν' 121 (22 + k)) 8) 8 / 2 ∧ ∃ ν1, mNt ν ν1 ∧ Fr F121 ν1 ν' ∧ ∀ j, ν' 121 j = if j = 22 + q then srd v (ν1 121 (22 + q)) p else if j = 22 + p then srd v (ν1 121 (22 + p)) q else ν1 121 j)
def C_at (t s : Int) (μ : xM) (r : Int) (μ' : xM) : Prop := (¬ (0 ≤ t ∧ t < μ 1 4) ∧ r = -1000000001 ∧ μ' = μ) ∨ ((0 ≤ t ∧ t < μ 1 4) ∧ ¬ (0 ≤ s ∧ s ≤ 255) ∧ r = -1000000002 ∧ μ' = μ) ∨ ((0 ≤ t ∧ t < μ 1 4) ∧ (0 ≤ s ∧ s ≤ 255) ∧ r = wnd (ov (μ' 5) s 256) ∧ ∃ μ1, cRm μ μ1 ∧ μ' = xup μ1 3 t s)
def D_at (t s : Int) (ν : xM) (r : Int) (ν' : xM) : Prop := (¬ (0 ≤ t ∧ t < ν 121 0) ∧ r = -1000000001 ∧ ν' = ν) ∨ ((0 ≤ t ∧ t < ν 121 0) ∧ ¬ (0 ≤ s ∧ s ≤ 255) ∧ r = -1000000002 ∧ ν' = ν) ∨ ((0 ≤ t ∧ t < ν 121 0) ∧ (0 ≤ s ∧ s ≤ 255) ∧ r = wnd (ov (fun p => ν' 121 (22 + p)) s 256) ∧ ∃ ν1, mNt ν ν1 ∧ ν' = xup ν1 121 (14 + t) s)
def C_drift (n : Int) (μ : xM) (r : Int) (μ' : xM) : Prop := (¬ (1 ≤ n ∧ n ≤ 8) ∧ r = -1000000002 ∧ μ' = μ) ∨ ((1 ≤ n ∧ n ≤ 8) ∧ r = μ' 1 4 ∧ ∃ k : Nat, cDs k μ μ' ∧ (k : Int) ≤ n ∧ ((k : Int) = n ∨ 8 ≤ μ' 1 4))
def D_drift (n : Int) (ν : xM) (r : Int) (ν' : xM) : Prop := (¬ (1 ≤ n ∧ n ≤ 8) ∧ r = -1000000002 ∧ ν' = ν) ∨ ((1 ≤ n ∧ n ≤ 8) ∧ r = ν' 121 0 ∧ ∃ k : Nat, mDs k ν ν' ∧ (k : Int) ≤ n ∧ ((k : Int) = n ∨ 8 ≤ ν' 121 0))
def C_undo (n : Int) (μ : xM) (r : Int) (μ' : xM) : Prop := (¬ (1 ≤ n ∧ n ≤ 16) ∧ r = -1000000002 ∧ μ' = μ) ∨ ((1 ≤ n ∧ n ≤ 16) ∧ μ 6 1 < n ∧ r = -1000000003 ∧ μ' = μ) ∨ ((1 ≤ n ∧ n ≤ 16) ∧ n ≤ μ 6 1 ∧ r = μ' 1 4 ∧ cTb n μ μ')
def UDf (k : Nat) (j : Int) : Prop := k = 121 ∨ (k = 120 ∧ j = 2)
def D_undo (n : Int) (ν : xM) (r : Int) (ν' : xM) : Prop := (¬ (1 ≤ n ∧ n ≤ 16) ∧ r = -1000000002 ∧ ν' = ν) ∨ ((1 ≤ n ∧ n ≤ 16) ∧ ν 120 2 < n ∧ r = -1000000003 ∧ ν' = ν) ∨ ((1 ≤ n ∧ n ≤ 16) ∧ n ≤ ν 120 2 ∧ r = ν' 121 0 ∧ Fr UDf ν ν' ∧ ν' 120 2 = ν 120 2 - n ∧ ∀ j, 0 ≤ j → j < 110 → ν' 121 j = ν 122 (110 * (ν 120 2 - n) + j))
def C_write (t u v : Int) (μ : xM) (r : Int) (μ' : xM) : Prop := (¬ ((0 ≤ t ∧ t < μ 1 4) ∧ (0 ≤ u ∧ u < μ 1 4)) ∧ r = -1000000001 ∧ μ' = μ) ∨ (((0 ≤ t ∧ t < μ 1 4) ∧ (0 ≤ u ∧ u < μ 1 4)) ∧ 20 ≤ μ 88 3 ∧ r = -1000000004 ∧ μ' = μ) ∨ (((0 ≤ t ∧ t < μ 1 4) ∧ (0 ≤ u ∧ u < μ 1 4)) ∧ μ 88 3 < 20 ∧ r = μ 88 3 + 1 ∧ μ' = xup (xup (xup (xup μ 89 (μ 88 3) t) 90 (μ 88 3) u) 91 (μ 88 3) v) 88 3 (μ 88 3 + 1))
def D_write (t u v : Int) (ν : xM) (r : Int) (ν' : xM) : Prop := (¬ ((0 ≤ t ∧ t < ν 121 0) ∧ (0 ≤ u ∧ u < ν 121 0)) ∧ r = -1000000001 ∧ ν' = ν) ∨ (((0 ≤ t ∧ t < ν 121 0) ∧ (0 ≤ u ∧ u < ν 121 0)) ∧ ν 120 8 = 20 ∧ r = -1000000004 ∧ ν' = ν) ∨ (((0 ≤ t ∧ t < ν 121 0) ∧ (0 ≤ u ∧ u < ν 121 0)) ∧ ν 120 8 < 20 ∧ r = ν 120 8 + 1 ∧ ν' = xup (xup (xup (xup ν 126 (3 * ν 120 8) t) 126 (3 * ν 120 8 + 1) u) 126 (3 * ν 120 8 + 2) v) 120 8 (ν 120 8 + 1))
def C_tear (μ : xM) (r : Int) (μ' : xM) : Prop := r = μ 88 3 ∧ μ' = xup μ 88 3 0
def D_tear (ν : xM) (r : Int) (ν' : xM) : Prop := r = ν 120 8 ∧ ν' = xup ν 120 8 0
def C_seed (v : Int) (μ : xM) (r : Int) (μ' : xM) : Prop := (v < 0 ∧ r = -1000000002 ∧ μ' = μ) ∨ (0 ≤ v ∧ r = μ 0 8 ∧ μ' = xup μ 0 8 v)
def D_seed (v : Int) (ν : xM) (r : Int) (ν' : xM) : Prop := (v < 0 ∧ r = -1000000002 ∧ ν' = ν) ∨ (0 ≤ v ∧ r = ν 120 9 ∧ ν' = xup ν 120 9 v)
def C_keep (i : Int) (μ : xM) (r : Int) (μ' : xM) : Prop := (¬ (0 ≤ i ∧ i ≤ 1) ∧ r = -1000000001 ∧ μ' = μ) ∨ (r = 1 ∧ ∃ (q : Nat) (μ1 : xM), ((i = 0 ∧ q = 108) ∨ (i = 1 ∧ q = 114)) ∧ Fr (SA (q + 1)) μ μ1 ∧ SE μ1 (q + 1) μ 1 ∧ μ' = xup (xup (xup μ1 q 1 (μ 0 8)) q 2 1) 6 1 0)
def KPf (k : Nat) (j : Int) : Prop := k = 123 ∨ k = 124 ∨ (k = 120 ∧ j = 2)
def D_keep (i : Int) (ν : xM) (r : Int) (ν' : xM) : Prop := (¬ (0 ≤ i ∧ i ≤ 1) ∧ r = -1000000001 ∧ ν' = ν) ∨ ((0 ≤ i ∧ i ≤ 1) ∧ r = 1 ∧ Fr KPf ν ν' ∧ (∀ j, ν' 124 j = if j = i then 1 else ν 124 j) ∧ (∀ j, ν' 123 j = if j = 111 * i + 110 then ν 120 9 else if 111 * i ≤ j ∧ j < 111 * i + 110 then ν 121 (j - 111 * i) else ν 123 j) ∧ ν' 120 2 = 0)
def C_goBack (i : Int) (μ : xM) (r : Int) (μ' : xM) : Prop := (¬ (0 ≤ i ∧ i ≤ 1) ∧ r = -1000000001 ∧ μ' = μ) ∨ (∃ (q : Nat), ((i = 0 ∧ q = 108) ∨ (i = 1 ∧ q = 114)) ∧ ((μ q 2 = 0 ∧ r = -1000000003 ∧ μ' = μ) ∨ (¬ μ q 2 = 0 ∧ r = 1 ∧ ∃ μ1 : xM, Fr (SA 1) μ μ1 ∧ SE μ1 1 μ (q + 1) ∧ μ' = xup (xup (xup μ1 0 8 (μ q 1)) 6 1 0) 0 9 0)))
def GBf (k : Nat) (j : Int) : Prop := k = 121 ∨ (k = 120 ∧ (j = 2 ∨ j = 9))
def D_goBack (i : Int) (ν : xM) (r : Int) (ν' : xM) : Prop := (¬ (0 ≤ i ∧ i ≤ 1) ∧ r = -1000000001 ∧ ν' = ν) ∨ ((0 ≤ i ∧ i ≤ 1) ∧ ν 124 i = 0 ∧ r = -1000000003 ∧ ν' = ν) ∨ ((0 ≤ i ∧ i ≤ 1) ∧ ¬ ν 124 i = 0 ∧ r = 1 ∧ Fr GBf ν ν' ∧ (∀ j, 0 ≤ j → j < 110 → ν' 121 j = ν 123 (111 * i + j)) ∧ ν' 120 9 = ν 123 (111 * i + 110) ∧ ν' 120 2 = 0)
def C_motif (t i : Int) (μ : xM) (r : Int) : Prop := (¬ (0 ≤ t ∧ t < μ 1 4) ∧ r = -1000000001) ∨ ((0 ≤ t ∧ t < μ 1 4) ∧ ¬ (0 ≤ i ∧ i < μ 2 t / 4294967296) ∧ r = -1) ∨ ((0 ≤ t ∧ t < μ 1 4) ∧ (0 ≤ i ∧ i < μ 2 t / 4294967296) ∧ r = cmot (μ 2 t) i)
def D_motif (t i : Int) (ν : xM) (r : Int) : Prop := (¬ (0 ≤ t ∧ t < ν 121 0) ∧ r = -1000000001) ∨ ((0 ≤ t ∧ t < ν 121 0) ∧ ¬ (0 ≤ i ∧ i < ν 121 (6 + t)) ∧ r = -1) ∨ ((0 ≤ t ∧ t < ν 121 0) ∧ (0 ≤ i ∧ i < ν 121 (6 + t)) ∧ r = ν 121 (30 + 10 * t + i))
def C_costAt (w : Int) (μ : xM) (r : Int) : Prop := (¬ (0 ≤ w ∧ w ≤ 3) ∧ r = -1000000002) ∨ ((0 ≤ w ∧ w ≤ 3) ∧ r = μ 4 w)
def D_costAt (w : Int) (ν : xM) (r : Int) : Prop := (¬ (0 ≤ w ∧ w ≤ 3) ∧ r = -1000000002) ∨ ((0 ≤ w ∧ w ≤ 3) ∧ r = ν 121 (2 + w))
theorem xland_31e {x : Int} (h : xrl x) : xland x 2147483647 = x % 2147483648 := by
  unfold xland
  obtain ⟨n, hn, e⟩ := wb_of (Int64.ofInt x)
  have h2 : (Int64.ofInt 2147483647) = lN (2 ^ 31 - 1) := rfl
  have hx : x % 2 ^ 64 = (n : Int) := by
    have h3 : (Int64.ofInt x).toBitVec.toNat = n := by rw [e]; exact wb_tn hn
    have h4 : (Int64.ofInt x).toBitVec = BitVec.ofInt 64 x := rfl
    rw [h4, BitVec.toNat_ofInt] at h3
    omega
  rw [e, h2, wb_mask hn (by decide), xn_lT (by omega)]
  omega
theorem SE.st {μ μ1 μ2 : xM} {a b : Nat} (h : SE μ1 a μ b) (hh : ∀ k j, a ≤ k → k ≤ a + 4 → μ2 k j = μ1 k j) : SE μ2 a μ b := by
  obtain ⟨h1, h2, h3, h4⟩ := h
  refine ⟨by rw [hh _ _ (by omega) (by omega)]; exact h1, by rw [hh _ _ (by omega) (by omega)]; exact h2, fun j p q => ?_, fun j p q => by rw [hh _ _ (by omega) (by omega)]; exact h4 j p q⟩
  rw [hh _ _ (by omega) (by omega), hh _ _ (by omega) (by omega), hh _ _ (by omega) (by omega)]
  exact h3 j p q
theorem SE.src {μ μ1 μ2 : xM} {a b : Nat} (h : SE μ2 a μ1 b) (hh : ∀ k j, b ≤ k → k ≤ b + 4 → μ1 k j = μ k j) : SE μ2 a μ b := by
  obtain ⟨h1, h2, h3, h4⟩ := h
  refine ⟨by rw [h1]; exact hh _ _ (by omega) (by omega), by rw [h2]; exact hh _ _ (by omega) (by omega), fun j p q => ?_, fun j p q => by rw [h4 j p q]; exact hh _ _ (by omega) (by omega)⟩
  obtain ⟨e1, e2, e3⟩ := h3 j p q
  exact ⟨e1.trans (hh _ _ (by omega) (by omega)), e2.trans (hh _ _ (by omega) (by omega)), e3.trans (hh _ _ (by omega) (by omega))⟩
def rvI (μ M : xM) (t i : Int) : Prop := ∀ q, 0 ≤ q → q < 8 → M 2 q = (if t ≤ q ∧ q < i then μ 2 (q + 1) else μ 2 q) ∧ M 3 q = (if t ≤ q ∧ q < i then μ 3 (q + 1) else μ 3 q)
theorem rvI.go {μ M MA MB : xM} {t i x y : Int} (h : rvI μ M t i) (ha : MA = xup M 2 i x) (hx : x = M 2 (i + 1)) (hb : MB = xup MA 3 i y) (hy : y = MA 3 (i + 1)) (ht : 0 ≤ t) (hti : t ≤ i) (hi : i < 7) : rvI μ MB t (i + 1) := by
  intro q q0 q1
  obtain ⟨e1, e2⟩ := h q q0 q1
  obtain ⟨g1, g2⟩ := h (i + 1) (by omega) (by omega)
  rw [if_neg (by omega)] at g1 g2
  have f2 : MB 2 q = if q = i then x else M 2 q := by rw [hb, congrFun (xup_c (by decide)) q, ha]; simp [xup]
  have f3 : MB 3 q = if q = i then y else M 3 q := by rw [hb, ha]; simp [xup]
  have hy' : y = M 3 (i + 1) := by rw [hy, ha]; exact congrFun (xup_c (by decide)) _
  rw [f2, f3]
  by_cases e : q = i
  · rw [if_pos e, if_pos e, if_pos (by omega), if_pos (by omega), hx, hy', g1, g2, e]
    exact ⟨rfl, rfl⟩
  · rw [if_neg e, if_neg e, e1, e2]
    by_cases h2 : t ≤ q ∧ q < i
    · rw [if_pos h2, if_pos h2, if_pos (by omega), if_pos (by omega)]
      exact ⟨rfl, rfl⟩
    · rw [if_neg h2, if_neg h2, if_neg (by omega), if_neg (by omega)]
      exact ⟨rfl, rfl⟩
theorem rvI.fin {μ M : xM} {t i n : Int} (h : rvI μ M t i) (hn : n ≤ 8) (hi : n - 1 ≤ i) : ∀ j, 0 ≤ j → j < n - 1 → M 2 j = μ 2 (sk t j) ∧ M 3 j = μ 3 (sk t j) := by
  intro j j0 j1
  obtain ⟨e1, e2⟩ := h j j0 (by omega)
  unfold sk
  by_cases h2 : j < t
  · rw [if_neg (by omega)] at e1 e2
    rw [if_pos h2]
    exact ⟨e1, e2⟩
  · rw [if_pos (by omega)] at e1 e2
    rw [if_neg h2]
    exact ⟨e1, e2⟩
theorem sd_bd (s : Int) : 0 ≤ sd s ∧ sd s < 2147483648 := by unfold sd; omega
theorem drw_bd (s : Int) (k : Nat) {n : Int} (h : 0 < n) : 0 ≤ drw s k n ∧ drw s k n < n := ⟨Int.emod_nonneg _ (by omega), Int.emod_lt_of_pos _ h⟩
theorem dM_bd (s i : Int) : 0 ≤ dM s i ∧ dM s i ≤ 7 := by have := drw_bd s (i.toNat + 2) (n := 5) (by omega); unfold dM; omega
theorem dL_bd (s : Int) : 2 ≤ dL s ∧ dL s ≤ 8 := by have := drw_bd s 1 (n := 7) (by omega); unfold dL; omega
theorem dM_step {s i : Int} (h0 : 0 ≤ i) (h9 : i ≤ 9) : lgr (chv i (dM s)) (dM s i) = chv (i + 1) (dM s) := by
  rw [chv_longer h0 h9 (fun j _ _ => dM_bd s j) (dM_bd s i).1 (dM_bd s i).2]
  apply chv_cg
  intro j _ _
  by_cases e : j = i
  · rw [if_pos e, e]
  · rw [if_neg e]
theorem tl_add {ν m1 m2 m3 m4 m5 : xM} {n L L' s v : Int} (e1 : m1 = xup ν 121 (6 + n) L) (e2 : m2 = xup m1 121 (14 + n) s) (e3 : m3 = xbr m2 125 0 121 (30 + 10 * n) L') (e4 : m4 = xup m3 121 0 v) (e5 : m5 = xup m4 120 6 0) (hn : n = ν 121 0) (h0 : 0 ≤ n ∧ n ≤ 7) (hL : L' = L) (hL0 : 0 ≤ L ∧ L ≤ 10) (hv : v = n + 1) : Fr TLf ν m5 ∧ m5 120 6 = 0 ∧ mAd L s (fun i => ν 125 i) ν m5 := by
  refine ⟨fun k j hk => ?_, by rw [e5]; exact xup_s _ _ _ _, fun j j0 j1 => ?_⟩
  · have a : k ≠ 121 := fun h => hk (Or.inl h)
    have b : ¬ (k = 120 ∧ j = 6) := fun h => hk (Or.inr h)
    rw [e5]
    simp only [xup, if_neg b]
    rw [e4, congrFun (xup_c a) j, e3, congrFun (xbr_c a) j, e2, congrFun (xup_c a) j, e1, congrFun (xup_c a) j]
  · rw [← hn, e5, congrFun (xup_c (by decide)) j, e4]
    by_cases a : j = 0
    · rw [a, xup_s, if_pos rfl, hv]
    · rw [xup_j a, if_neg a, e3]
      by_cases b : j = 6 + n
      · rw [xbr_j (by omega), if_pos b, e2, xup_j (by omega), e1, b, xup_s]
      · rw [if_neg b]
        by_cases c : j = 14 + n
        · rw [xbr_j (by omega), if_pos c, e2, c, xup_s]
        · rw [if_neg c]
          by_cases d : 30 + 10 * n ≤ j ∧ j < 30 + 10 * n + L
          · rw [if_pos d]
            refine (if_pos ⟨rfl, by omega, by omega⟩).trans ?_
            rw [e2, congrFun (xup_c (by decide)) _, e1, congrFun (xup_c (by decide)) _, Int.zero_add]
          · rw [if_neg d, xbr_j (by omega), e2, xup_j c, e1, xup_j b]
theorem mRv_mk {ν m1 m2 m3 m4 : xM} {t l v : Int} (e1 : m1 = xup ν 121 0 v) (e2 : m2 = xbr m1 121 (6 + t + 1) 121 (6 + t) l) (e3 : m3 = xbr m2 121 (14 + t + 1) 121 (14 + t) l) (e4 : m4 = xbr m3 121 (30 + 10 * (t + 1)) 121 (30 + 10 * t) (10 * l)) (ht : 0 ≤ t) (hl : l = ν 121 0 - 1 - t) (h : t < ν 121 0) (h8 : ν 121 0 ≤ 8) (hv : v = ν 121 0 - 1) : mRv t ν m4 := by
  refine ⟨fun k j hk => ?_, ?_, fun j j0 j1 => ?_, fun j j0 j1 => ?_, fun q q0 q1 => ⟨?_, ?_, fun i i0 i1 => ?_⟩⟩
  · have a : k ≠ 121 := hk
    rw [e4, congrFun (xbr_c a) j, e3, congrFun (xbr_c a) j, e2, congrFun (xbr_c a) j, e1, congrFun (xup_c a) j]
  · rw [e4, xbr_j (by omega), e3, xbr_j (by omega), e2, xbr_j (by omega), e1, xup_s, hv]
  · rw [e4, xbr_j (by omega), e3, xbr_j (by omega), e2, xbr_j (by omega), e1, xup_j (by omega)]
  · rw [e4, xbr_j (by omega), e3, xbr_j (by omega), e2, xbr_j (by omega), e1, xup_j (by omega)]
  · rw [e4, xbr_j (by omega), e3, xbr_j (by omega), e2]
    unfold sk
    by_cases a : q < t
    · rw [xbr_j (by omega), e1, xup_j (by omega), if_pos a]
    · rw [if_neg a]
      refine (if_pos ⟨rfl, by omega, by omega⟩).trans ?_
      rw [e1, xup_j (by omega), show 6 + t + 1 + (6 + q - (6 + t)) = 6 + (q + 1) by omega]
  · rw [e4, xbr_j (by omega), e3]
    unfold sk
    by_cases a : q < t
    · rw [xbr_j (by omega), e2, xbr_j (by omega), e1, xup_j (by omega), if_pos a]
    · rw [if_neg a]
      refine (if_pos ⟨rfl, by omega, by omega⟩).trans ?_
      rw [e2, xbr_j (by omega), e1, xup_j (by omega), show 14 + t + 1 + (14 + q - (14 + t)) = 14 + (q + 1) by omega]
  · rw [e4]
    unfold sk
    by_cases a : q < t
    · rw [xbr_j (by omega), e3, xbr_j (by omega), e2, xbr_j (by omega), e1, xup_j (by omega), if_pos a]
    · rw [if_neg a]
      refine (if_pos ⟨rfl, by omega, by omega⟩).trans ?_
      rw [e3, xbr_j (by omega), e2, xbr_j (by omega), e1, xup_j (by omega), show 30 + 10 * (t + 1) + (30 + 10 * q + i - (30 + 10 * t)) = 30 + 10 * (q + 1) + i by omega]
def dwI (ν M : xM) (n L i : Int) : Prop := M 120 9 = sdn (ν 120 9) (i.toNat + 1) ∧ (∀ j, M 121 j = if j = 6 + n then L else if 30 + 10 * n ≤ j ∧ j < 30 + 10 * n + i then dM (ν 120 9) (j - (30 + 10 * n)) else ν 121 j) ∧ (∀ k j, k ≠ 121 → ¬ (k = 120 ∧ j = 9) → M k j = ν k j)
theorem dwI.zero {ν m1 m2 : xM} {n L : Int} (e1 : m1 = xup ν 120 9 (sd (ν 120 9))) (e2 : m2 = xup m1 121 (6 + n) L) : dwI ν m2 n L 0 := by
  refine ⟨by rw [e2, congrFun (xup_c (by decide)) _, e1, xup_s]; rfl, fun j => ?_, fun k j a b => ?_⟩
  · rw [e2, e1]
    by_cases c : j = 6 + n
    · rw [c, xup_s, if_pos rfl]
    · rw [xup_j c, congrFun (xup_c (by decide)) _, if_neg c, if_neg (by omega)]
  · rw [e2, congrFun (xup_c a) _, e1]
    simp only [xup, if_neg b]
theorem dwI.go {ν M m1 m2 : xM} {n L i x y : Int} (h : dwI ν M n L i) (e1 : m1 = xup M 120 9 (sd (M 120 9))) (hx : x = sd (M 120 9) / 65536 % 5) (hy : y = 30 + 10 * n + i) (e2 : m2 = xup m1 121 y x) (hi : 0 ≤ i) (hn : n ≤ 7) (hn0 : 0 ≤ n) : dwI ν m2 n L (i + 1) := by
  obtain ⟨h1, h2, h3⟩ := h
  have ex : x = dM (ν 120 9) i := by rw [hx, h1]; rfl
  refine ⟨by rw [e2, congrFun (xup_c (by decide)) _, e1, xup_s, h1, show (i + 1).toNat = i.toNat + 1 by omega]; rfl, fun j => ?_, fun k j a b => ?_⟩
  · rw [e2, hy]
    by_cases c : j = 30 + 10 * n + i
    · rw [c, xup_s, if_neg (by omega), if_pos (by omega), show 30 + 10 * n + i - (30 + 10 * n) = i by omega, ex]
    · rw [xup_j c, e1, congrFun (xup_c (by decide)) _, h2 j]
      by_cases d : j = 6 + n
      · rw [if_pos d, if_pos d]
      · rw [if_neg d, if_neg d]
        by_cases f : 30 + 10 * n ≤ j ∧ j < 30 + 10 * n + i
        · rw [if_pos f, if_pos (by omega)]
        · rw [if_neg f, if_neg (by omega)]
  · rw [e2, congrFun (xup_c a) _, e1]
    simp only [xup, if_neg b]
    exact h3 k j a b
theorem dwI.fin {ν M m1 m2 m3 : xM} {n L i x v : Int} (h : dwI ν M n L i) (e1 : m1 = xup M 120 9 (sd (M 120 9))) (hx : x = sd (M 120 9) / 65536 % 256) (e2 : m2 = xup m1 121 (14 + n) x) (e3 : m3 = xup m2 121 0 v) (hv : v = n + 1) (hn : n = ν 121 0) (h0 : 0 ≤ n ∧ n ≤ 7) (hL : L = dL (ν 120 9)) (hi : i = L) : mDw ν m3 := by
  obtain ⟨h1, h2, h3⟩ := h
  have hb := dL_bd (ν 120 9)
  refine ⟨fun k j hk => ?_, ?_, fun j j0 j1 => ?_⟩
  · have a : k ≠ 121 := fun h => hk (Or.inl h)
    have b : ¬ (k = 120 ∧ j = 9) := fun h => hk (Or.inr h)
    rw [e3, congrFun (xup_c a) _, e2, congrFun (xup_c a) _, e1]
    simp only [xup, if_neg b]
    exact h3 k j a b
  · rw [e3, congrFun (xup_c (by decide)) _, e2, congrFun (xup_c (by decide)) _, e1, xup_s, h1, hi, hL]
    rfl
  · rw [← hn, e3]
    by_cases a : j = 0
    · rw [a, xup_s, if_pos rfl, hv]
    · rw [xup_j a, if_neg a, e2]
      by_cases c : j = 14 + n
      · rw [c, xup_s, if_neg (by omega), if_pos rfl, hx, h1, hi, hL]
        rfl
      · rw [xup_j c, e1, congrFun (xup_c (by decide)) _, h2 j, if_neg c, ← hL, hi]
def C_taleAt (t u : Int) (μ : xM) (r : Int) : Prop := (¬ (0 ≤ t ∧ t < μ 1 4) ∧ r = -1000000001) ∨ ((0 ≤ t ∧ t < μ 1 4) ∧ ((u = 0 ∧ r = μ 2 t / 4294967296) ∨ (u = 1 ∧ r = μ 3 t) ∨ (u = 2 ∧ r = wnd (ov (μ 5) (μ 3 t) 256)) ∨ (u = 3 ∧ r = ov (μ 5) (μ 3 t) 256) ∨ (¬ (0 ≤ u ∧ u ≤ 3) ∧ r = -1000000002)))
def D_taleAt (t u : Int) (ν : xM) (r : Int) : Prop := (¬ (0 ≤ t ∧ t < ν 121 0) ∧ r = -1000000001) ∨ ((0 ≤ t ∧ t < ν 121 0) ∧ ((u = 0 ∧ r = ν 121 (6 + t)) ∨ (u = 1 ∧ r = ν 121 (14 + t)) ∨ (u = 2 ∧ r = wnd (ov (fun p => ν 121 (22 + p)) (ν 121 (14 + t)) 256)) ∨ (u = 3 ∧ r = (ov (fun p => ν 121 (22 + p)) (ν 121 (14 + t)) 256)) ∨ (¬ (0 ≤ u ∧ u ≤ 3) ∧ r = -1000000002)))
def C_wandered (t u : Int) (μ : xM) (r : Int) : Prop := (¬ (0 ≤ t ∧ t ≤ 255) ∧ r = -1000000001) ∨ ((0 ≤ t ∧ t ≤ 255) ∧ ((u = 0 ∧ r = wnd (ov (μ 5) t 256)) ∨ (u = 1 ∧ r = ov (μ 5) t 256) ∨ (¬ (0 ≤ u ∧ u ≤ 1) ∧ r = -1000000002)))
def D_wandered (t u : Int) (ν : xM) (r : Int) : Prop := (¬ (0 ≤ t ∧ t ≤ 255) ∧ r = -1000000001) ∨ ((0 ≤ t ∧ t ≤ 255) ∧ ((u = 0 ∧ r = wnd (ov (fun p => ν 121 (22 + p)) t 256)) ∨ (u = 1 ∧ r = (ov (fun p => ν 121 (22 + p)) t 256)) ∨ (¬ (0 ≤ u ∧ u ≤ 1) ∧ r = -1000000002)))
def C_common (t : Int) (μ : xM) (r : Int) : Prop := (¬ (0 ≤ t ∧ t ≤ xshl 1 (μ 1 4) - 1) ∧ r = -1000000001) ∨ ((0 ≤ t ∧ t ≤ xshl 1 (μ 1 4) - 1) ∧ r = mal t (fun t => mos (cmot (μ 2 t)) (μ 2 t / 4294967296).toNat) (μ 1 4).toNat)
def D_common (t : Int) (ν : xM) (r : Int) : Prop := (¬ (0 ≤ t ∧ t ≤ xshl 1 (ν 121 0) - 1) ∧ r = -1000000001) ∨ ((0 ≤ t ∧ t ≤ xshl 1 (ν 121 0) - 1) ∧ r = mal t (fun t => mos (fun i => ν 121 (30 + 10 * t + i)) (ν 121 (6 + t)).toNat) (ν 121 0).toNat)
