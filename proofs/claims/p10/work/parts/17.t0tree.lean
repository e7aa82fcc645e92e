theorem bit_v : ∀ s : Nat, s < 256 → ∀ k : Nat, k < 8 → xand (xshr (s : Int) (k : Int)) 1 = ((s / 2 ^ k % 2 : Nat) : Int) := by decide +kernel
theorem bit_hi {s n : Int} (h0 : 0 ≤ s) (hs : s ≤ xshl 1 n - 1) (hn0 : 0 ≤ n) (hn : n ≤ 8) {k : Nat} (hk : n.toNat ≤ k) (h8 : k < 8) : ¬ xand (xshr s (k : Int)) 1 = 1 := by
  obtain ⟨m, rfl⟩ := Int.eq_ofNat_of_zero_le hn0
  obtain ⟨q, rfl⟩ := Int.eq_ofNat_of_zero_le h0
  rw [xsh1 m (by omega)] at hs
  have e : ((2 ^ m : Nat) : Int) = (2 : Int) ^ m := by simp
  have h1 : q < 2 ^ m := by omega
  have h2 : 2 ^ m ≤ 2 ^ k := Nat.pow_le_pow_right (by decide) (by omega)
  have h3 : 2 ^ m ≤ 2 ^ 8 := Nat.pow_le_pow_right (by decide) (by omega)
  rw [bit_v q (by omega) k h8, Nat.div_eq_of_lt (by omega)]
  decide
/-! ===== the tree of joinings ===== -/
def fI (op : Int → Int → Int) (D : Int → Int) (b acc : Int) : Nat → Int
  | 0 => acc
  | k + 1 => if xand (xshr b (k : Int)) 1 = 1 then op (fI op D b acc k) (D (k : Int)) else fI op D b acc k
def gI (op : Int → Int → Int) (D : Int → Int → Int) (a b t acc : Int) (k : Nat) : Int := if xand (xshr a t) 1 = 1 then fI op (D t) b acc k else acc
def fO (op : Int → Int → Int) (D : Int → Int → Int) (a b : Int) (N : Nat) (acc : Int) : Nat → Int
  | 0 => acc
  | k + 1 => gI op D a b (k : Int) (fO op D a b N acc k) N
theorem fI_cg {op : Int → Int → Int} {D D' : Int → Int} {b acc : Int} : ∀ n : Nat, (∀ k : Nat, k < n → D (k : Int) = D' (k : Int)) → fI op D b acc n = fI op D' b acc n := by
  intro n
  induction n with
  | zero => intro _; rfl
  | succ n ih =>
    intro h
    simp only [fI]
    rw [ih (fun k hk => h k (by omega)), h n (by omega)]
theorem fI_ext {op : Int → Int → Int} {D : Int → Int} {b acc : Int} {n : Nat} : ∀ d : Nat, (∀ k : Nat, n ≤ k → k < n + d → ¬ xand (xshr b (k : Int)) 1 = 1) → fI op D b acc (n + d) = fI op D b acc n := by
  intro d
  induction d with
  | zero => intro _; rfl
  | succ d ih =>
    intro h
    show fI op D b acc ((n + d) + 1) = _
    simp only [fI]
    rw [if_neg (h (n + d) (by omega) (by omega)), ih (fun k a b => h k a (by omega))]
theorem fO_cg {op : Int → Int → Int} {D D' : Int → Int → Int} {a b acc : Int} {N N' : Nat} : ∀ n : Nat, (∀ (k : Nat) (x : Int), k < n → fI op (D (k : Int)) b x N = fI op (D' (k : Int)) b x N') → fO op D a b N acc n = fO op D' a b N' acc n := by
  intro n
  induction n with
  | zero => intro _; rfl
  | succ n ih =>
    intro h
    simp only [fO, gI]
    rw [ih (fun k x hk => h k x (by omega)), h n _ (by omega)]
theorem fO_ext {op : Int → Int → Int} {D : Int → Int → Int} {a b acc : Int} {N n : Nat} : ∀ d : Nat, (∀ k : Nat, n ≤ k → k < n + d → ¬ xand (xshr a (k : Int)) 1 = 1) → fO op D a b N acc (n + d) = fO op D a b N acc n := by
  intro d
  induction d with
  | zero => intro _; rfl
  | succ d ih =>
    intro h
    show fO op D a b N acc ((n + d) + 1) = _
    simp only [fO, gI]
    rw [if_neg (h (n + d) (by omega) (by omega)), ih (fun k a b => h k a (by omega))]
theorem fO_x {op : Int → Int → Int} {D E : Int → Int → Int} {a b acc : Int} {n : Nat} (hn : n ≤ 8) (ha : ∀ k : Nat, n ≤ k → k < 8 → ¬ xand (xshr a (k : Int)) 1 = 1) (hb : ∀ k : Nat, n ≤ k → k < 8 → ¬ xand (xshr b (k : Int)) 1 = 1) (hD : ∀ i j : Nat, i < n → j < n → D (i : Int) (j : Int) = E (i : Int) (j : Int)) : fO op D a b 8 acc 8 = fO op E a b n acc n := by
  obtain ⟨d, hd⟩ : ∃ d, 8 = n + d := ⟨8 - n, by omega⟩
  have e1 : fO op D a b 8 acc 8 = fO op D a b 8 acc n := by
    have := fO_ext (op := op) (D := D) (a := a) (b := b) (acc := acc) (N := 8) (n := n) d (fun k h1 h2 => ha k h1 (by omega))
    rw [← hd] at this
    exact this
  rw [e1]
  refine fO_cg n (fun k x hk => ?_)
  have e2 : fI op (D (k : Int)) b x 8 = fI op (D (k : Int)) b x n := by
    have := fI_ext (op := op) (D := D (k : Int)) (b := b) (acc := x) (n := n) d (fun k h1 h2 => hb k h1 (by omega))
    rw [← hd] at this
    exact this
  rw [e2]
  exact fI_cg n (fun j hj => hD k j hk hj)
/-! bounds -/
theorem fI_min {D : Int → Int} {b A x : Int} : ∀ k : Nat, fI min D b (min A x) k = min A (fI min D b x k) := by
  intro k
  induction k with
  | zero => rfl
  | succ k ih =>
    simp only [fI]
    rw [ih]
    split <;> omega
theorem fO_min {D : Int → Int → Int} {a b A x : Int} {N : Nat} : ∀ k : Nat, fO min D a b N (min A x) k = min A (fO min D a b N x k) := by
  intro k
  induction k with
  | zero => rfl
  | succ k ih =>
    simp only [fO, gI]
    rw [ih, fI_min]
    split <;> rfl
theorem fI_mle {D : Int → Int} {b x : Int} : ∀ k : Nat, fI min D b x k ≤ x := by
  intro k
  induction k with
  | zero => exact Int.le_refl _
  | succ k ih =>
    simp only [fI]
    split <;> omega
theorem fI_mat {D : Int → Int} {b x : Int} : ∀ k u : Nat, u < k → xand (xshr b (u : Int)) 1 = 1 → fI min D b x k ≤ D (u : Int) := by
  intro k
  induction k with
  | zero => intro u h; omega
  | succ k ih =>
    intro u hu hb
    simp only [fI]
    by_cases e : u = k
    · subst e
      rw [if_pos hb]
      omega
    · have := ih u (by omega) hb
      split <;> omega
theorem fO_mat {D : Int → Int → Int} {a b x : Int} {N : Nat} : ∀ k t u : Nat, t < k → xand (xshr a (t : Int)) 1 = 1 → u < N → xand (xshr b (u : Int)) 1 = 1 → fO min D a b N x k ≤ D (t : Int) (u : Int) := by
  intro k
  induction k with
  | zero => intro t u h; omega
  | succ k ih =>
    intro t u ht ha hu hb
    simp only [fO, gI]
    by_cases e : t = k
    · subst e
      rw [if_pos ha]
      exact fI_mat N u hu hb
    · have h1 := ih t u (by omega) ha hu hb
      split
      · have := fI_mle (D := D (k : Int)) (b := b) (x := fO min D a b N x k) N
        omega
      · exact h1
theorem fI_bd {op : Int → Int → Int} {D : Int → Int} {b x : Int} {P : Int → Prop} (hx : P x) (hop : ∀ y (k : Nat), P y → P (op y (D (k : Int)))) : ∀ k : Nat, P (fI op D b x k) := by
  intro k
  induction k with
  | zero => exact hx
  | succ k ih =>
    simp only [fI]
    split
    · exact hop _ k ih
    · exact ih
theorem fO_bd {op : Int → Int → Int} {D : Int → Int → Int} {a b x : Int} {N : Nat} {P : Int → Prop} (hx : P x) (hop : ∀ y (t k : Nat), P y → P (op y (D (t : Int) (k : Int)))) : ∀ k : Nat, P (fO op D a b N x k) := by
  intro k
  induction k with
  | zero => exact hx
  | succ k ih =>
    simp only [fO, gI]
    split
    · exact fI_bd ih (fun y u hy => hop y k u hy) N
    · exact ih
theorem fI_sum {D : Int → Int} {b x : Int} (hD : ∀ k : Nat, 0 ≤ D (k : Int) ∧ D (k : Int) ≤ 180) : ∀ k : Nat, x ≤ fI (fun x y => x + y) D b x k ∧ fI (fun x y => x + y) D b x k ≤ x + 180 * (k : Int) := by
  intro k
  induction k with
  | zero => simp [fI]
  | succ k ih =>
    have := hD k
    simp only [fI]
    split <;> omega
theorem fO_sum {D : Int → Int → Int} {a b : Int} (hD : ∀ t k : Nat, 0 ≤ D (t : Int) (k : Int) ∧ D (t : Int) (k : Int) ≤ 180) : ∀ k : Nat, 0 ≤ fO (fun x y => x + y) D a b 8 0 k ∧ fO (fun x y => x + y) D a b 8 0 k ≤ 1440 * (k : Int) := by
  intro k
  induction k with
  | zero => simp [fO]
  | succ k ih =>
    have := fI_sum (b := b) (x := fO (fun x y => x + y) D a b 8 0 k) (fun u => hD k u) 8
    simp only [fO, gI]
    split <;> omega
/-- a set that isn't empty -/
def nez (x : Int) : Prop := ∃ k : Nat, k < 8 ∧ xand (xshr x (k : Int)) 1 = 1
theorem nez_n : ∀ n : Nat, n < 256 → 0 < n → ∃ k : Nat, k < 8 ∧ xand (xshr (n : Int) (k : Int)) 1 = 1 := by
  intro n hn h0
  by_cases h : ∀ k : Nat, k < 8 → ¬ xand (xshr (n : Int) (k : Int)) 1 = 1
  · exfalso
    have b : ∀ k : Nat, k < 8 → n / 2 ^ k % 2 = 0 := fun k hk => by
      have := h k hk
      rw [bit_v n hn k hk] at this
      omega
    have b0 := b 0 (by omega)
    have b1 := b 1 (by omega)
    have b2 := b 2 (by omega)
    have b3 := b 3 (by omega)
    have b4 := b 4 (by omega)
    have b5 := b 5 (by omega)
    have b6 := b 6 (by omega)
    have b7 := b 7 (by omega)
    simp only [Nat.reducePow] at b0 b1 b2 b3 b4 b5 b6 b7
    omega
  · refine Classical.byContradiction (fun hc => h (fun k hk hb => hc ⟨k, hk, hb⟩))
theorem nez_of {x : Int} (h0 : 1 ≤ x) (h1 : x ≤ 255) : nez x := by
  obtain ⟨n, rfl⟩ := Int.eq_ofNat_of_zero_le (show 0 ≤ x by omega)
  exact nez_n n (by omega) (by omega)
def nrv (kd : Int) (D : Int → Int → Int) (a b : Int) : Int := if kd = 0 then fO min D a b 8 1000000 8 else if kd = 1 then fO max D a b 8 0 8 else fO (fun x y => x + y) D a b 8 0 8
def ptv (kd a b : Int) : Int := if kd = 0 then 1 else if kd = 1 then 1 else xonf a 8 * xonf b 8
theorem nr_bd {kd a b : Int} {D : Int → Int → Int} (hD : ∀ t k : Nat, 0 ≤ D (t : Int) (k : Int) ∧ D (t : Int) (k : Int) ≤ 180) (ha : nez a) (hb : nez b) : 0 ≤ nrv kd D a b ∧ nrv kd D a b ≤ 11520 := by
  unfold nrv
  split
  · obtain ⟨t, t1, t2⟩ := ha
    obtain ⟨u, u1, u2⟩ := hb
    have h1 := fO_mat (D := D) (x := 1000000) 8 t u t1 t2 u1 u2
    have h2 := hD t u
    have h3 := fO_bd (op := min) (D := D) (a := a) (b := b) (x := 1000000) (N := 8) (P := fun y => 0 ≤ y) (by omega) (fun y t k hy => by have := hD t k; omega) 8
    exact ⟨h3, by omega⟩
  · split
    · have h3 := fO_bd (op := max) (D := D) (a := a) (b := b) (x := 0) (N := 8) (P := fun y => 0 ≤ y ∧ y ≤ 180) (by omega) (fun y t k hy => by have := hD t k; omega) 8
      exact ⟨h3.1, by have := h3.2; omega⟩
    · have := fO_sum (a := a) (b := b) hD 8
      omega
theorem xonf_nz {x : Int} (h : nez x) : 1 ≤ xonf x 8 := by
  obtain ⟨k, hk, hb⟩ := h
  have key : ∀ n : Nat, k < n → 1 ≤ xonf x n := by
    intro n
    induction n with
    | zero => intro h; omega
    | succ n ih =>
      intro hkn
      simp only [xonf]
      have h1 := xand_1 (xshr x n)
      have h2 := xonf_bd x n
      by_cases e : k = n
      · subst e
        omega
      · have := ih (by omega)
        omega
  exact key 8 hk
theorem pt_bd {kd a b : Int} (ha : nez a) (hb : nez b) : 1 ≤ ptv kd a b ∧ ptv kd a b ≤ 64 := by
  unfold ptv
  split
  · omega
  · split
    · omega
    · have h1 := xonf_nz ha
      have h2 := xonf_nz hb
      have h3 := xonf_bd a 8
      have h4 := xonf_bd b 8
      have h5 := xmul_bd (a := xonf a 8) (b := xonf b 8) (A := 8) (B := 8) (by omega) (by omega) (by omega) (by omega)
      have h6 : 0 < xonf a 8 * xonf b 8 := Int.mul_pos (by omega) (by omega)
      omega
/-- sets of the first tales -/
def vs (c : Nat) (x : Int) : Prop := 1 ≤ x ∧ x ≤ xshl 1 (c : Int) - 1
theorem vs_255 {c : Nat} {x : Int} (hc : c ≤ 8) (h : vs c x) : 1 ≤ x ∧ x ≤ 255 := by
  have := xsh_bd (n := (c : Int)) (by omega) (by omega)
  have h2 := h.2
  exact ⟨h.1, by omega⟩
theorem vs_hi {c : Nat} {x : Int} (hc : c ≤ 8) (h : vs c x) : ∀ k : Nat, c ≤ k → k < 8 → ¬ xand (xshr x (k : Int)) 1 = 1 := fun k h1 h2 => bit_hi (n := (c : Int)) (by have := h.1; omega) h.2 (by omega) (by omega) (by omega) h2
theorem xor_nat {a b : Nat} (ha : a < 2 ^ 31) (hb : b < 2 ^ 31) : xor' (a : Int) (b : Int) = ((a ||| b : Nat) : Int) := by
  unfold xor'
  rw [xn_nI, xn_nI]
  have hab : a ||| b < 2 ^ 31 := Nat.or_lt_two_pow ha hb
  have e : nI a ||| nI b = nI (a ||| b) := by
    apply Int32.toBitVec_inj.mp
    rw [Int32.toBitVec_or]
    apply BitVec.eq_of_toNat_eq
    rw [BitVec.toNat_or]
    show (BitVec.ofNat 32 a).toNat ||| (BitVec.ofNat 32 b).toNat = (BitVec.ofNat 32 (a ||| b)).toNat
    rw [BitVec.toNat_ofNat, BitVec.toNat_ofNat, BitVec.toNat_ofNat, Nat.mod_eq_of_lt (by omega), Nat.mod_eq_of_lt (by omega), Nat.mod_eq_of_lt (by omega)]
  rw [e, xn_nT hab]
theorem vs_or {c : Nat} {x y : Int} (hc : c ≤ 8) (hx : vs c x) (hy : vs c y) : vs c (xor' x y) := by
  have x1 := vs_255 hc hx
  have y1 := vs_255 hc hy
  obtain ⟨x2, x3⟩ := hx
  obtain ⟨y2, y3⟩ := hy
  obtain ⟨a, rfl⟩ := Int.eq_ofNat_of_zero_le (show 0 ≤ x by omega)
  obtain ⟨b, rfl⟩ := Int.eq_ofNat_of_zero_le (show 0 ≤ y by omega)
  unfold vs
  rw [xor_nat (by omega) (by omega), xsh1 c (by omega)]
  rw [xsh1 c (by omega)] at x3 y3
  have e : ((2 ^ c : Nat) : Int) = (2 : Int) ^ c := by simp
  have h1 : a ||| b < 2 ^ c := Nat.or_lt_two_pow (by omega) (by omega)
  have h2 : a ≤ a ||| b := Nat.left_le_or
  omega
theorem nrv_cg {kd a b : Int} {D E : Int → Int → Int} {c : Nat} (hc : c ≤ 8) (ha : vs c a) (hb : vs c b) (hD : ∀ i j : Nat, i < c → j < c → D (i : Int) (j : Int) = E (i : Int) (j : Int)) : nrv kd D a b = nrv kd E a b := by
  have h : ∀ (op : Int → Int → Int) (acc : Int), fO op D a b 8 acc 8 = fO op E a b 8 acc 8 := fun op acc => (fO_x (op := op) (acc := acc) hc (vs_hi hc ha) (vs_hi hc hb) hD).trans (fO_x (op := op) (acc := acc) (D := E) hc (vs_hi hc ha) (vs_hi hc hb) (fun i j _ _ => rfl)).symm
  unfold nrv
  rw [h, h, h]
/-- as the other reckons it -/
theorem nrv_m {kd a b : Int} {D : Int → Int → Int} {c : Nat} (hc : c ≤ 8) (ha : vs c a) (hb : vs c b) (hD : ∀ t k : Nat, 0 ≤ D (t : Int) (k : Int) ∧ D (t : Int) (k : Int) ≤ 180) : nrv kd D a b = if kd = 0 then fO min D a b c 100000 c else if kd = 1 then fO max D a b c 0 c else fO (fun x y => x + y) D a b c 0 c := by
  have h : ∀ (op : Int → Int → Int) (acc : Int), fO op D a b 8 acc 8 = fO op D a b c acc c := fun op acc => fO_x (op := op) (acc := acc) hc (vs_hi hc ha) (vs_hi hc hb) (fun i j _ _ => rfl)
  have a1 := vs_255 hc ha
  have b1 := vs_255 hc hb
  have e : fO min D a b c 100000 c = fO min D a b 8 1000000 8 := by
    rw [← h]
    have h1 := fO_min (D := D) (a := a) (b := b) (A := 100000) (x := 1000000) (N := 8) 8
    rw [show min (100000 : Int) 1000000 = 100000 by omega] at h1
    rw [h1]
    have h2 := nr_bd (kd := 0) hD (nez_of a1.1 a1.2) (nez_of b1.1 b1.2)
    unfold nrv at h2
    rw [if_pos rfl] at h2
    omega
  unfold nrv
  rw [h max, h (fun x y => x + y), e]
/-! three sums at once -/
def fO3 (D : Int → Int → Int) (a b : Int) (N : Nat) (far : Int) (k : Nat) (l m n : Int) : Prop := l = fO min D a b N far k ∧ m = fO max D a b N 0 k ∧ n = fO (fun x y => x + y) D a b N 0 k
def gI3 (D : Int → Int → Int) (a b t l0 m0 n0 : Int) (k : Nat) (l m n : Int) : Prop := l = gI min D a b t l0 k ∧ m = gI max D a b t m0 k ∧ n = gI (fun x y => x + y) D a b t n0 k
theorem gI_0 (op : Int → Int → Int) (D : Int → Int → Int) (a b t acc : Int) : gI op D a b t acc 0 = acc := by
  unfold gI
  split <;> rfl
theorem gI3.zero {D : Int → Int → Int} {a b t l m n : Int} : gI3 D a b t l m n 0 l m n := ⟨(gI_0 ..).symm, (gI_0 ..).symm, (gI_0 ..).symm⟩
theorem gI3.skip {D : Int → Int → Int} {a b t l m n : Int} {k : Nat} (h : ¬ xand (xshr a t) 1 = 1) : gI3 D a b t l m n k l m n := by
  unfold gI3 gI
  rw [if_neg h, if_neg h, if_neg h]
  exact ⟨rfl, rfl, rfl⟩
theorem gI3.up {D : Int → Int → Int} {a b t l0 m0 n0 u l m n l' m' n' : Int} (h : gI3 D a b t l0 m0 n0 u.toNat l m n) (h0 : 0 ≤ u) (hc : ((xand (xshr a t) 1 = 1 ∧ xand (xshr b u) 1 = 1) ∧ l' = min l (D t u) ∧ m' = max m (D t u) ∧ n' = n + D t u) ∨ (¬ (xand (xshr a t) 1 = 1 ∧ xand (xshr b u) 1 = 1) ∧ l' = l ∧ m' = m ∧ n' = n)) : gI3 D a b t l0 m0 n0 (u + 1).toNat l' m' n' := by
  rw [show (u + 1).toNat = u.toNat + 1 by omega]
  obtain ⟨h1, h2, h3⟩ := h
  unfold gI3 gI at *
  by_cases ha : xand (xshr a t) 1 = 1
  · rw [if_pos ha] at h1 h2 h3
    rw [if_pos ha, if_pos ha, if_pos ha]
    simp only [fI]
    rw [Int.toNat_of_nonneg h0, ← h1, ← h2, ← h3]
    rcases hc with ⟨⟨_, q⟩, e1, e2, e3⟩ | ⟨q, e1, e2, e3⟩
    · rw [if_pos q, if_pos q, if_pos q]
      exact ⟨e1, e2, e3⟩
    · have q' : ¬ xand (xshr b u) 1 = 1 := fun z => q ⟨ha, z⟩
      rw [if_neg q', if_neg q', if_neg q']
      exact ⟨e1, e2, e3⟩
  · rw [if_neg ha] at h1 h2 h3
    rw [if_neg ha, if_neg ha, if_neg ha]
    rcases hc with ⟨⟨q, _⟩, _⟩ | ⟨_, e1, e2, e3⟩
    · exact absurd q ha
    · exact ⟨e1.trans h1, e2.trans h2, e3.trans h3⟩
theorem fO3.zero {D : Int → Int → Int} {a b far : Int} {N : Nat} : fO3 D a b N far 0 far 0 0 := ⟨rfl, rfl, rfl⟩
theorem fO3.up {D : Int → Int → Int} {a b far t l0 m0 n0 l m n : Int} {N : Nat} (h : fO3 D a b N far t.toNat l0 m0 n0) (h0 : 0 ≤ t) (g : gI3 D a b t l0 m0 n0 N l m n) : fO3 D a b N far (t + 1).toNat l m n := by
  rw [show (t + 1).toNat = t.toNat + 1 by omega]
  obtain ⟨h1, h2, h3⟩ := h
  unfold fO3
  simp only [fO]
  rw [Int.toNat_of_nonneg h0, ← h1, ← h2, ← h3]
  exact g
theorem fO3.nr {D : Int → Int → Int} {a b kd l m n r : Int} (h : fO3 D a b 8 1000000 8 l m n) (hr : (kd = 0 ∧ r = l) ∨ (kd = 1 ∧ r = m) ∨ (¬ kd = 0 ∧ ¬ kd = 1 ∧ r = n)) : r = nrv kd D a b := by
  unfold nrv
  rcases hr with ⟨e, q⟩ | ⟨e, q⟩ | ⟨e, e2, q⟩
  · rw [if_pos e, q]; exact h.1
  · rw [if_neg (by omega), if_pos e, q]; exact h.2.1
  · rw [if_neg e, if_neg e2, q]; exact h.2.2
theorem fO3.nm {D : Int → Int → Int} {a b kd l m n r : Int} {c : Nat} (h : fO3 D a b c 100000 c l m n) (hc : c ≤ 8) (ha : vs c a) (hb : vs c b) (hD : ∀ t k : Nat, 0 ≤ D (t : Int) (k : Int) ∧ D (t : Int) (k : Int) ≤ 180) (hr : (kd = 0 ∧ r = l) ∨ (kd = 1 ∧ r = m) ∨ (¬ kd = 0 ∧ ¬ kd = 1 ∧ r = n)) : r = nrv kd D a b := by
  rw [nrv_m hc ha hb hD]
  rcases hr with ⟨e, q⟩ | ⟨e, q⟩ | ⟨e, e2, q⟩
  · rw [if_pos e, q]; exact h.1
  · rw [if_neg (by omega), if_pos e, q]; exact h.2.1
  · rw [if_neg e, if_neg e2, q]; exact h.2.2
/-! the nearest two -/
def pkJ (nr pt : Int → Int → Int) (i : Int) (acc : Int × Int) : Nat → Int × Int
  | 0 => acc
  | j + 1 => if i < (j : Int) ∧ nr i (j : Int) * pt (pkJ nr pt i acc j).1 (pkJ nr pt i acc j).2 < nr (pkJ nr pt i acc j).1 (pkJ nr pt i acc j).2 * pt i (j : Int) then (i, (j : Int)) else pkJ nr pt i acc j
def pkO (nr pt : Int → Int → Int) (l : Nat) : Nat → Int × Int
  | 0 => (0, 1)
  | i + 1 => pkJ nr pt (i : Int) (pkO nr pt l i) l
theorem pkJ_low {nr pt : Int → Int → Int} {i : Int} {acc : Int × Int} : ∀ j : Nat, (j : Int) ≤ i + 1 → pkJ nr pt i acc j = acc := by
  intro j
  induction j with
  | zero => intro _; rfl
  | succ j ih =>
    intro h
    simp only [pkJ]
    rw [if_neg (fun z => by have := z.1; omega), ih (by omega)]
def pin (l : Nat) (p : Int × Int) : Prop := 0 ≤ p.1 ∧ p.1 < p.2 ∧ p.2 < (l : Int)
theorem pkJ_in {nr pt : Int → Int → Int} {i : Int} {acc : Int × Int} {l : Nat} (hi : 0 ≤ i) (ha : pin l acc) : ∀ j : Nat, j ≤ l → pin l (pkJ nr pt i acc j) := by
  intro j
  induction j with
  | zero => intro _; exact ha
  | succ j ih =>
    intro h
    simp only [pkJ]
    split
    · rename_i z
      have := z.1
      exact ⟨hi, this, by show (j : Int) < (l : Int); omega⟩
    · exact ih (by omega)
theorem pkO_in {nr pt : Int → Int → Int} {l : Nat} (hl : 2 ≤ l) : ∀ i : Nat, pin l (pkO nr pt l i) := by
  intro i
  induction i with
  | zero => exact ⟨Int.le_refl 0, show (0 : Int) < 1 by decide, by show (1 : Int) < (l : Int); omega⟩
  | succ i ih => exact pkJ_in (by omega) ih l (Nat.le_refl _)
def pag (l : Nat) (f g : Int → Int → Int) : Prop := ∀ i j : Int, 0 ≤ i → i < j → j < (l : Int) → f i j = g i j
theorem pkJ_cg {nr pt nr' pt' : Int → Int → Int} {i : Int} {acc : Int × Int} {l : Nat} (hn : pag l nr nr') (hp : pag l pt pt') (hi : 0 ≤ i) (ha : pin l acc) : ∀ j : Nat, j ≤ l → pkJ nr pt i acc j = pkJ nr' pt' i acc j := by
  intro j
  induction j with
  | zero => intro _; rfl
  | succ j ih =>
    intro h
    have e := ih (by omega)
    obtain ⟨g1, g2, g3⟩ := pkJ_in (nr := nr') (pt := pt') hi ha j (by omega)
    simp only [pkJ]
    rw [e, hn _ _ g1 g2 g3, hp _ _ g1 g2 g3]
    by_cases z : i < (j : Int)
    · rw [hn i j hi z (by omega), hp i j hi z (by omega)]
    · rw [if_neg (fun q => z q.1), if_neg (fun q => z q.1)]
theorem pkO_cg {nr pt nr' pt' : Int → Int → Int} {l : Nat} (hn : pag l nr nr') (hp : pag l pt pt') (hl : 2 ≤ l) : ∀ i : Nat, pkO nr pt l i = pkO nr' pt' l i := by
  intro i
  induction i with
  | zero => rfl
  | succ i ih =>
    simp only [pkO]
    rw [ih]
    exact pkJ_cg hn hp (by omega) (pkO_in hl i) l (Nat.le_refl _)
theorem pkJ_up {nr pt : Int → Int → Int} {i j a b a' b' : Int} {acc : Int × Int} (h : pkJ nr pt i acc j.toNat = (a, b)) (h0 : 0 ≤ j) (hij : i < j) (hc : (nr i j * pt a b < nr a b * pt i j ∧ a' = i ∧ b' = j) ∨ (¬ nr i j * pt a b < nr a b * pt i j ∧ a' = a ∧ b' = b)) : pkJ nr pt i acc (j + 1).toNat = (a', b') := by
  rw [show (j + 1).toNat = j.toNat + 1 by omega]
  simp only [pkJ]
  rw [Int.toNat_of_nonneg h0, h]
  rcases hc with ⟨q, e1, e2⟩ | ⟨q, e1, e2⟩
  · rw [if_pos ⟨hij, q⟩, e1, e2]
  · rw [if_neg (fun z => q z.2), e1, e2]
theorem pkO_up {nr pt : Int → Int → Int} {i a b : Int} {l : Nat} {acc : Int × Int} (ha : pkO nr pt l i.toNat = acc) (h0 : 0 ≤ i) (h : pkJ nr pt i acc l = (a, b)) : pkO nr pt l (i + 1).toNat = (a, b) := by
  rw [show (i + 1).toNat = i.toNat + 1 by omega]
  simp only [pkO]
  rw [Int.toNat_of_nonneg h0, ha, h]
theorem pk_first {nr pt : Int → Int → Int} : pkJ nr pt 0 (0, 1) 2 = (0, 1) := by
  have h1 : pkJ nr pt 0 (0, 1) 1 = (0, 1) := pkJ_low 1 (by omega)
  show (if (0 : Int) < ((1 : Nat) : Int) ∧ nr 0 ((1 : Nat) : Int) * pt (pkJ nr pt 0 (0, 1) 1).1 (pkJ nr pt 0 (0, 1) 1).2 < nr (pkJ nr pt 0 (0, 1) 1).1 (pkJ nr pt 0 (0, 1) 1).2 * pt 0 ((1 : Nat) : Int) then ((0 : Int), ((1 : Nat) : Int)) else pkJ nr pt 0 (0, 1) 1) = (0, 1)
  rw [h1]
  split <;> rfl
/-! types, joined one after the other -/
def tyJ (ty : Int → Int) (a b : Int) : Int → Int := fun q => if q = a then xor' (ty a) (ty b) else if q < b then ty q else ty (q + 1)
def pkt (kd : Int) (D : Int → Int → Int) (ty : Int → Int) (l : Nat) : Int × Int := pkO (fun i j => nrv kd D (ty i) (ty j)) (fun i j => ptv kd (ty i) (ty j)) l l
def tyn (kd : Int) (D : Int → Int → Int) (c : Nat) : Nat → Int → Int
  | 0 => fun q => xshl 1 q
  | k + 1 => tyJ (tyn kd D c k) (pkt kd D (tyn kd D c k) (c - k)).1 (pkt kd D (tyn kd D c k) (c - k)).2
def pkn (kd : Int) (D : Int → Int → Int) (c k : Nat) : Int × Int := pkt kd D (tyn kd D c k) (c - k)
def htn (kd : Int) (D : Int → Int → Int) (c k : Nat) : Int := nrv kd D (tyn kd D c k (pkn kd D c k).1) (tyn kd D c k (pkn kd D c k).2) / ptv kd (tyn kd D c k (pkn kd D c k).1) (tyn kd D c k (pkn kd D c k).2)
def whn (kd : Int) (D : Int → Int → Int) (c k : Nat) : Int := xor' (tyn kd D c k (pkn kd D c k).1) (tyn kd D c k (pkn kd D c k).2)
def ltn (kd : Int) (D : Int → Int → Int) (c k : Nat) : Int := tyn kd D c k (pkn kd D c k).1
theorem vs_1 : ∀ c : Nat, c < 9 → ∀ q : Nat, q < c → 1 ≤ xshl 1 (q : Int) ∧ xshl 1 (q : Int) ≤ xshl 1 (c : Int) - 1 := by decide +kernel
theorem tyn_vs {kd : Int} {D : Int → Int → Int} {c : Nat} (hc : c ≤ 8) : ∀ k : Nat, k + 1 ≤ c → ∀ q : Int, 0 ≤ q → q < (c : Int) - (k : Int) → vs c (tyn kd D c k q) := by
  intro k
  induction k with
  | zero =>
    intro _ q q0 q1
    obtain ⟨n, rfl⟩ := Int.eq_ofNat_of_zero_le q0
    exact vs_1 c (by omega) n (by omega)
  | succ k ih =>
    intro hk q q0 q1
    have h := ih (by omega)
    obtain ⟨g1, g2, g3⟩ := pkO_in (nr := fun i j => nrv kd D (tyn kd D c k i) (tyn kd D c k j)) (pt := fun i j => ptv kd (tyn kd D c k i) (tyn kd D c k j)) (l := c - k) (by omega) (c - k)
    show vs c (tyJ (tyn kd D c k) (pkt kd D (tyn kd D c k) (c - k)).1 (pkt kd D (tyn kd D c k) (c - k)).2 q)
    unfold pkt tyJ
    split
    · exact vs_or hc (h _ g1 (by omega)) (h _ (by omega) (by omega))
    · split
      · exact h q q0 (by omega)
      · exact h (q + 1) (by omega) (by omega)
theorem pkt_cg {kd : Int} {D E : Int → Int → Int} {c l : Nat} {ty ty' : Int → Int} (hc : c ≤ 8) (hl : 2 ≤ l) (ht : ∀ q : Int, 0 ≤ q → q < (l : Int) → ty q = ty' q ∧ vs c (ty q)) (hD : ∀ i j : Nat, i < c → j < c → D (i : Int) (j : Int) = E (i : Int) (j : Int)) : pkt kd D ty l = pkt kd E ty' l := by
  unfold pkt
  refine pkO_cg (fun i j i0 ij jl => ?_) (fun i j i0 ij jl => ?_) hl l
  · show nrv kd D (ty i) (ty j) = nrv kd E (ty' i) (ty' j)
    obtain ⟨a1, a2⟩ := ht i i0 (by omega)
    obtain ⟨b1, b2⟩ := ht j (by omega) jl
    rw [← a1, ← b1]
    exact nrv_cg hc a2 b2 hD
  · show ptv kd (ty i) (ty j) = ptv kd (ty' i) (ty' j)
    rw [(ht i i0 (by omega)).1, (ht j (by omega) jl).1]
theorem tyn_cg {kd : Int} {D E : Int → Int → Int} {c : Nat} (hc : c ≤ 8) (hD : ∀ i j : Nat, i < c → j < c → D (i : Int) (j : Int) = E (i : Int) (j : Int)) : ∀ k : Nat, k + 1 ≤ c → ∀ q : Int, 0 ≤ q → q < (c : Int) - (k : Int) → tyn kd D c k q = tyn kd E c k q := by
  intro k
  induction k with
  | zero => intro _ q _ _; rfl
  | succ k ih =>
    intro hk q q0 q1
    have h := ih (by omega)
    have e : pkt kd D (tyn kd D c k) (c - k) = pkt kd E (tyn kd E c k) (c - k) := pkt_cg hc (by omega) (fun q a b => ⟨h q a (by omega), tyn_vs hc k (by omega) q a (by omega)⟩) hD
    obtain ⟨g1, g2, g3⟩ := pkO_in (nr := fun i j => nrv kd E (tyn kd E c k i) (tyn kd E c k j)) (pt := fun i j => ptv kd (tyn kd E c k i) (tyn kd E c k j)) (l := c - k) (by omega) (c - k)
    show tyJ (tyn kd D c k) (pkt kd D (tyn kd D c k) (c - k)).1 (pkt kd D (tyn kd D c k) (c - k)).2 q = tyJ (tyn kd E c k) (pkt kd E (tyn kd E c k) (c - k)).1 (pkt kd E (tyn kd E c k) (c - k)).2 q
    rw [e]
    unfold pkt tyJ
    rw [h _ g1 (by omega), h _ (by omega) (by omega)]
    split
    · rfl
    · split
      · exact h q q0 (by omega)
      · exact h (q + 1) (by omega) (by omega)
theorem pkn_in {kd : Int} {D : Int → Int → Int} {c k : Nat} (hk : k + 2 ≤ c) : pin (c - k) (pkn kd D c k) := pkO_in (by omega) (c - k)
theorem tree_cg {kd : Int} {D E : Int → Int → Int} {c : Nat} (hc : c ≤ 8) (hD : ∀ i j : Nat, i < c → j < c → D (i : Int) (j : Int) = E (i : Int) (j : Int)) (k : Nat) (hk : k + 2 ≤ c) : htn kd D c k = htn kd E c k ∧ whn kd D c k = whn kd E c k ∧ ltn kd D c k = ltn kd E c k := by
  have e : pkn kd D c k = pkn kd E c k := pkt_cg hc (by omega) (fun q a b => ⟨tyn_cg hc hD k (by omega) q a (by omega), tyn_vs hc k (by omega) q a (by omega)⟩) hD
  obtain ⟨g1, g2, g3⟩ := pkn_in (kd := kd) (D := E) hk
  have v1 := tyn_vs (kd := kd) (D := E) hc k (by omega) _ g1 (by omega)
  have v2 := tyn_vs (kd := kd) (D := E) hc k (by omega) (pkn kd E c k).2 (by omega) (by omega)
  have t1 := tyn_cg (kd := kd) hc hD k (by omega) _ g1 (by omega)
  have t2 := tyn_cg (kd := kd) hc hD k (by omega) (pkn kd E c k).2 (by omega) (by omega)
  unfold htn whn ltn
  rw [e, t1, t2, nrv_cg hc v1 v2 hD]
  exact ⟨rfl, rfl, rfl⟩
theorem whn_vs {kd : Int} {D : Int → Int → Int} {c k : Nat} (hc : c ≤ 8) (hk : k + 2 ≤ c) : vs c (whn kd D c k) := by
  obtain ⟨g1, g2, g3⟩ := pkn_in (kd := kd) (D := D) hk
  exact vs_or hc (tyn_vs hc k (by omega) _ g1 (by omega)) (tyn_vs hc k (by omega) _ (by omega) (by omega))
