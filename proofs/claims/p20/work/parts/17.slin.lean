/-! ===== two chains lined up: tables by their own equations ===== -/
def lch (c : Int → Int) (a b : Int) : Int := if a < b then min ((b - a) * c 2) (if b - a = 0 then 0 else c 3) else min ((a - b) * c 2) (if a - b = 0 then 0 else c 3)
def lco (n m : Int) (f g c : Int → Int) (i j s : Int) : Int := if s = 0 then (if i < n ∧ j < m then lch c (f i) (g j) else 100000) else if s = 1 then (if i < n then c 0 else 100000) else if s = 2 then (if j < m then c 0 else 100000) else if i + 1 < n ∧ j + 1 < m ∧ f i = g (j + 1) ∧ f (i + 1) = g j ∧ ¬ f i = g j then c 1 else 100000
theorem mCo_l (μ : xM) (i j s : Int) : mCo μ i j s = lco (μ 120 11) (μ 120 13) (μ 127) (μ 128) (fun k => μ 121 (2 + k)) i j s := by
  first | rfl | (unfold mCo mCh lco lch; rfl) | (simp only [mCo, mCh, mTu, lco, lch]; rfl)
theorem lch_bd {c : Int → Int} {a b : Int} (h2 : 0 ≤ c 2) (h3 : 0 ≤ c 3 ∧ c 3 ≤ 9) : 0 ≤ lch c a b ∧ lch c a b ≤ 9 := by
  unfold lch
  by_cases h : a < b
  · have := Int.mul_nonneg (show 0 ≤ b - a by omega) h2
    rw [if_pos h]
    split <;> omega
  · have := Int.mul_nonneg (show 0 ≤ a - b by omega) h2
    rw [if_neg h]
    split <;> omega
theorem lch_sy (c : Int → Int) (a b : Int) : lch c a b = lch c b a := by
  unfold lch
  rcases (show a < b ∨ a = b ∨ b < a by omega) with h | h | h
  · rw [if_pos h, if_neg (show ¬ b < a by omega)]
  · rw [h]
  · rw [if_neg (show ¬ a < b by omega), if_pos h]
/-- .. as the one reckons it -/
theorem lch_ab {c : Int → Int} {a b x y : Int} (h2 : 0 ≤ c 2) (h3 : 0 ≤ c 3) (hx : x = if 0 ≤ a - b then a - b else 0 - (a - b)) (hy : y = min (x * c 2) (c 3)) : y = lch c a b := by
  unfold lch
  by_cases h : a < b
  · rw [if_neg (by omega)] at hx
    have e : x = b - a := by omega
    rw [if_pos h, if_neg (by omega), hy, e]
  · rw [if_pos (by omega)] at hx
    rw [if_neg h, hy, hx]
    by_cases e : a - b = 0
    · rw [if_pos e, e, Int.zero_mul]
      omega
    · rw [if_neg e]
theorem lco_cg {n m i j s : Int} {f g c f' g' c' : Int → Int} (hf : ∀ i, 0 ≤ i → i < n → f i = f' i) (hg : ∀ j, 0 ≤ j → j < m → g j = g' j) (hc : ∀ k, 0 ≤ k → k < 4 → c k = c' k) (hi : 0 ≤ i) (hj : 0 ≤ j) : lco n m f g c i j s = lco n m f' g' c' i j s := by
  have c0 := hc 0 (by omega) (by omega)
  have c1 := hc 1 (by omega) (by omega)
  have c2 := hc 2 (by omega) (by omega)
  have c3 := hc 3 (by omega) (by omega)
  have ht : (i + 1 < n ∧ j + 1 < m ∧ f i = g (j + 1) ∧ f (i + 1) = g j ∧ ¬ f i = g j) ↔ (i + 1 < n ∧ j + 1 < m ∧ f' i = g' (j + 1) ∧ f' (i + 1) = g' j ∧ ¬ f' i = g' j) := by
    constructor
    · rintro ⟨a, b, d⟩
      rw [hf i hi (by omega), hf (i + 1) (by omega) a, hg j hj (by omega), hg (j + 1) (by omega) b] at d
      exact ⟨a, b, d⟩
    · rintro ⟨a, b, d⟩
      rw [← hf i hi (by omega), ← hf (i + 1) (by omega) a, ← hg j hj (by omega), ← hg (j + 1) (by omega) b] at d
      exact ⟨a, b, d⟩
  have h0 : (if i < n ∧ j < m then lch c (f i) (g j) else 100000) = (if i < n ∧ j < m then lch c' (f' i) (g' j) else 100000) := by
    by_cases h1 : i < n ∧ j < m
    · rw [if_pos h1, if_pos h1, hf i hi h1.1, hg j hj h1.2]
      unfold lch
      rw [c2, c3]
    · rw [if_neg h1, if_neg h1]
  have h3 : (if i + 1 < n ∧ j + 1 < m ∧ f i = g (j + 1) ∧ f (i + 1) = g j ∧ ¬ f i = g j then c 1 else 100000) = (if i + 1 < n ∧ j + 1 < m ∧ f' i = g' (j + 1) ∧ f' (i + 1) = g' j ∧ ¬ f' i = g' j then c' 1 else 100000) := by
    rw [c1]
    by_cases h : (i + 1 < n ∧ j + 1 < m ∧ f i = g (j + 1) ∧ f (i + 1) = g j ∧ ¬ f i = g j)
    · rw [if_pos h, if_pos (ht.mp h)]
    · rw [if_neg h, if_neg (fun q => h (ht.mpr q))]
  unfold lco
  rw [h0, h3, c0]
/-- what steps may cost -/
def COk (n m : Int) (co : Int → Int → Int → Int) : Prop := ∀ i j s, 0 ≤ i → i ≤ n → 0 ≤ j → j ≤ m → 0 ≤ s → s ≤ 3 → co i j s = 100000 ∨ (0 ≤ co i j s ∧ co i j s ≤ 9 ∧ i + xOF s ≤ n ∧ j + xOO s ≤ m ∧ 1 ≤ xOF s + xOO s)
theorem lco_ok {n m : Int} {f g c : Int → Int} (hc : ∀ k, 0 ≤ k → k < 4 → 0 ≤ c k ∧ c k ≤ 9) : COk n m (lco n m f g c) := by
  intro i j s i0 i1 j0 j1 s0 s3
  have a := xOF_v s
  have b := xOO_v s
  have c0 := hc 0 (by omega) (by omega)
  have c1 := hc 1 (by omega) (by omega)
  have c2 := hc 2 (by omega) (by omega)
  have c3 := hc 3 (by omega) (by omega)
  unfold lco
  rcases (show s = 0 ∨ s = 1 ∨ s = 2 ∨ s = 3 by omega) with e | e | e | e
  · rw [if_pos e]
    by_cases h : i < n ∧ j < m
    · have := lch_bd (c := c) (a := f i) (b := g j) c2.1 c3
      rw [if_pos h]
      omega
    · rw [if_neg h]
      exact Or.inl rfl
  · rw [if_neg (by omega), if_pos e]
    by_cases h : i < n
    · rw [if_pos h]
      omega
    · rw [if_neg h]
      exact Or.inl rfl
  · rw [if_neg (by omega), if_neg (by omega), if_pos e]
    by_cases h : j < m
    · rw [if_pos h]
      omega
    · rw [if_neg h]
      exact Or.inl rfl
  · rw [if_neg (by omega), if_neg (by omega), if_neg (by omega)]
    by_cases h : (i + 1 < n ∧ j + 1 < m ∧ f i = g (j + 1) ∧ f (i + 1) = g j ∧ ¬ f i = g j)
    · rw [if_pos h]
      obtain ⟨p, q, _⟩ := h
      omega
    · rw [if_neg h]
      exact Or.inl rfl
def lnx (i j s : Int) : Int := 11 * (i + xOF s) + (j + xOO s)
/-- the least sum over the first steps -/
def lsv (co : Int → Int → Int → Int) (T : Int → Int) (i j : Int) : Nat → Int
  | 0 => 100000
  | k + 1 => if co i j (k : Int) < 100000 then min (co i j (k : Int) + T (lnx i j (k : Int))) (lsv co T i j k) else lsv co T i j k
/-- .. in how many ways -/
def lwy (co : Int → Int → Int → Int) (T W : Int → Int) (i j : Int) : Nat → Int
  | 0 => 0
  | k + 1 => if co i j (k : Int) < 100000 then (if co i j (k : Int) + T (lnx i j (k : Int)) < lsv co T i j k then W (lnx i j (k : Int)) else if co i j (k : Int) + T (lnx i j (k : Int)) = lsv co T i j k then xwr (lwy co T W i j k + W (lnx i j (k : Int))) else lwy co T W i j k) else lwy co T W i j k
theorem lsv_cg {co co' : Int → Int → Int → Int} {T T' : Int → Int} {i j : Int} : ∀ k : Nat, (∀ s : Nat, s < k → co i j (s : Int) = co' i j (s : Int) ∧ (co i j (s : Int) < 100000 → T (lnx i j (s : Int)) = T' (lnx i j (s : Int)))) → lsv co T i j k = lsv co' T' i j k := by
  intro k
  induction k with
  | zero => intro _; rfl
  | succ k ih =>
    intro h
    have e := ih (fun s hs => h s (by omega))
    obtain ⟨h1, h2⟩ := h k (by omega)
    simp only [lsv]
    rw [e, ← h1]
    by_cases hc : co i j (k : Int) < 100000
    · rw [if_pos hc, if_pos hc, h2 hc]
    · rw [if_neg hc, if_neg hc]
theorem lwy_cg {co co' : Int → Int → Int → Int} {T T' W W' : Int → Int} {i j : Int} : ∀ k : Nat, (∀ s : Nat, s < k → co i j (s : Int) = co' i j (s : Int) ∧ (co i j (s : Int) < 100000 → T (lnx i j (s : Int)) = T' (lnx i j (s : Int)) ∧ W (lnx i j (s : Int)) = W' (lnx i j (s : Int)))) → lwy co T W i j k = lwy co' T' W' i j k := by
  intro k
  induction k with
  | zero => intro _; rfl
  | succ k ih =>
    intro h
    have e := ih (fun s hs => h s (by omega))
    have e2 : lsv co T i j k = lsv co' T' i j k := lsv_cg k (fun s hs => ⟨(h s (by omega)).1, fun hc => ((h s (by omega)).2 hc).1⟩)
    obtain ⟨h1, h2⟩ := h k (by omega)
    simp only [lwy]
    rw [e, e2, ← h1]
    by_cases hc : co i j (k : Int) < 100000
    · rw [if_pos hc, if_pos hc, (h2 hc).1, (h2 hc).2]
    · rw [if_neg hc, if_neg hc]
theorem lsv_le {co : Int → Int → Int → Int} {T : Int → Int} {i j : Int} : ∀ (k s : Nat), s < k → co i j (s : Int) < 100000 → lsv co T i j k ≤ co i j (s : Int) + T (lnx i j (s : Int)) := by
  intro k
  induction k with
  | zero => intro s hs; omega
  | succ k ih =>
    intro s hs hc
    simp only [lsv]
    by_cases e : s = k
    · subst e
      rw [if_pos hc]
      omega
    · have := ih s (by omega) hc
      split <;> omega
theorem lsv_at {co : Int → Int → Int → Int} {T : Int → Int} {i j : Int} : ∀ k : Nat, lsv co T i j k < 100000 → ∃ s : Nat, s < k ∧ co i j (s : Int) < 100000 ∧ lsv co T i j k = co i j (s : Int) + T (lnx i j (s : Int)) := by
  intro k
  induction k with
  | zero => intro h; simp [lsv] at h
  | succ k ih =>
    intro h
    simp only [lsv] at h ⊢
    by_cases hc : co i j (k : Int) < 100000
    · rw [if_pos hc] at h ⊢
      by_cases hl : co i j (k : Int) + T (lnx i j (k : Int)) < lsv co T i j k
      · exact ⟨k, by omega, hc, by omega⟩
      · obtain ⟨s, h1, h2, h3⟩ := ih (by omega)
        exact ⟨s, by omega, h2, by omega⟩
    · rw [if_neg hc] at h ⊢
      obtain ⟨s, h1, h2, h3⟩ := ih h
      exact ⟨s, by omega, h2, h3⟩
def LQp (n m : Int) (co : Int → Int → Int → Int) (T : Int → Int) (i j : Int) : Prop := ∀ a b, 0 ≤ a → a ≤ n → 0 ≤ b → b ≤ m → (i < a ∨ (a = i ∧ j < b)) → T (11 * a + b) = if a = n ∧ b = m then 0 else lsv co T a b 4
def LWp (n m : Int) (co : Int → Int → Int → Int) (T W : Int → Int) (i j : Int) : Prop := ∀ a b, 0 ≤ a → a ≤ n → 0 ≤ b → b ≤ m → (i < a ∨ (a = i ∧ j < b)) → W (11 * a + b) = if a = n ∧ b = m then 1 else lwy co T W a b 4
def LQ (n m : Int) (co : Int → Int → Int → Int) (T : Int → Int) : Prop := LQp n m co T (-1) m
def LW (n m : Int) (co : Int → Int → Int → Int) (T W : Int → Int) : Prop := LWp n m co T W (-1) m
theorem LQp.up {n m i : Int} {co : Int → Int → Int → Int} {T : Int → Int} (h : LQp n m co T i (-1)) : LQp n m co T (i - 1) m := fun a b h1 h2 h3 h4 h5 => h a b h1 h2 h3 h4 (by omega)
theorem LQp.none {n m : Int} {co : Int → Int → Int → Int} {T : Int → Int} : LQp n m co T n m := fun a b h1 h2 h3 h4 h5 => by omega
theorem LWp.up {n m i : Int} {co : Int → Int → Int → Int} {T W : Int → Int} (h : LWp n m co T W i (-1)) : LWp n m co T W (i - 1) m := fun a b h1 h2 h3 h4 h5 => h a b h1 h2 h3 h4 (by omega)
theorem LWp.none {n m : Int} {co : Int → Int → Int → Int} {T W : Int → Int} : LWp n m co T W n m := fun a b h1 h2 h3 h4 h5 => by omega
theorem lnx_ne {n m : Int} {co : Int → Int → Int → Int} (hc : COk n m co) (hm : m ≤ 10) {a b i j : Int} {s : Nat} (a0 : 0 ≤ a) (a1 : a ≤ n) (b0 : 0 ≤ b) (b1 : b ≤ m) (hs : s < 4) (hlt : co a b (s : Int) < 100000) (j0 : 0 ≤ j) (j1 : j ≤ m) (hab : i < a ∨ (a = i ∧ j ≤ b)) : ¬ lnx a b (s : Int) = 11 * i + j := by
  rcases hc a b (s : Int) a0 a1 b0 b1 (by omega) (by omega) with e | ⟨_, _, g1, g2, g3⟩
  · omega
  · have r1 := xOF_rg (s : Int)
    have r2 := xOO_rg (s : Int)
    unfold lnx
    omega
theorem LQp.step {n m i j v : Int} {co : Int → Int → Int → Int} {T T' : Int → Int} (h : LQp n m co T i j) (hc : COk n m co) (hm : m ≤ 10) (j0 : 0 ≤ j) (j1 : j ≤ m) (hv : v = if i = n ∧ j = m then 0 else lsv co T i j 4) (hf : ∀ q, T' q = if q = 11 * i + j then v else T q) : LQp n m co T' i (j - 1) := by
  intro a b a0 a1 b0 b1 hab
  have key : lsv co T' a b 4 = lsv co T a b 4 := by
    refine lsv_cg 4 (fun s hs => ⟨rfl, fun hlt => ?_⟩)
    rw [hf, if_neg (lnx_ne hc hm a0 a1 b0 b1 hs hlt j0 j1 (by omega))]
  rw [key, hf]
  by_cases hq : 11 * a + b = 11 * i + j
  · have ha : a = i := by omega
    have hb : b = j := by omega
    rw [if_pos hq, ha, hb]
    exact hv
  · rw [if_neg hq]
    exact h a b a0 a1 b0 b1 (by omega)
theorem LWp.step {n m i j v : Int} {co : Int → Int → Int → Int} {T T' W W' : Int → Int} (h : LWp n m co T W i j) (hc : COk n m co) (hm : m ≤ 10) (j0 : 0 ≤ j) (j1 : j ≤ m) (hv : v = if i = n ∧ j = m then 1 else lwy co T W i j 4) (hT : ∀ q, ¬ q = 11 * i + j → T' q = T q) (hf : ∀ q, W' q = if q = 11 * i + j then v else W q) : LWp n m co T' W' i (j - 1) := by
  intro a b a0 a1 b0 b1 hab
  have key : lwy co T' W' a b 4 = lwy co T W a b 4 := by
    refine lwy_cg 4 (fun s hs => ⟨rfl, fun hlt => ?_⟩)
    have hn := lnx_ne hc hm a0 a1 b0 b1 hs hlt j0 j1 (show i < a ∨ (a = i ∧ j ≤ b) by omega)
    rw [hf, if_neg hn, hT _ hn]
    exact ⟨rfl, rfl⟩
  rw [key, hf]
  by_cases hq : 11 * a + b = 11 * i + j
  · have ha : a = i := by omega
    have hb : b = j := by omega
    rw [if_pos hq, ha, hb]
    exact hv
  · rw [if_neg hq]
    exact h a b a0 a1 b0 b1 (by omega)
/-- costs that are alike where they are asked for -/
def CE (n m : Int) (co co' : Int → Int → Int → Int) : Prop := ∀ i j s, 0 ≤ i → i ≤ n → 0 ≤ j → j ≤ m → 0 ≤ s → s ≤ 3 → co i j s = co' i j s
theorem CE.sy {n m : Int} {co co' : Int → Int → Int → Int} (h : CE n m co co') : CE n m co' co := fun i j s a b c d e f => (h i j s a b c d e f).symm
theorem LQp.ce {n m i j : Int} {co co' : Int → Int → Int → Int} {T : Int → Int} (he : CE n m co co') (h : LQp n m co T i j) : LQp n m co' T i j := by
  intro a b a0 a1 b0 b1 hab
  rw [h a b a0 a1 b0 b1 hab, lsv_cg (co' := co') (T' := T) 4 (fun s hs => ⟨he a b s a0 a1 b0 b1 (by omega) (by omega), fun _ => rfl⟩)]
theorem LWp.ce {n m i j : Int} {co co' : Int → Int → Int → Int} {T W : Int → Int} (he : CE n m co co') (h : LWp n m co T W i j) : LWp n m co' T W i j := by
  intro a b a0 a1 b0 b1 hab
  rw [h a b a0 a1 b0 b1 hab, lwy_cg (co' := co') (T' := T) (W' := W) 4 (fun s hs => ⟨he a b s a0 a1 b0 b1 (by omega) (by omega), fun _ => ⟨rfl, rfl⟩⟩)]
theorem COk.nx {n m : Int} {co : Int → Int → Int → Int} (hc : COk n m co) {a b : Int} {s : Nat} (a0 : 0 ≤ a) (a1 : a ≤ n) (b0 : 0 ≤ b) (b1 : b ≤ m) (hs : s < 4) (hlt : co a b (s : Int) < 100000) : a + xOF (s : Int) ≤ n ∧ b + xOO (s : Int) ≤ m ∧ 1 ≤ xOF (s : Int) + xOO (s : Int) := by
  rcases hc a b (s : Int) a0 a1 b0 b1 (by omega) (by omega) with e | ⟨_, _, g1, g2, g3⟩
  · omega
  · exact ⟨g1, g2, g3⟩
theorem LQ_uq {n m : Int} {co co' : Int → Int → Int → Int} {T T' : Int → Int} (hc : COk n m co) (he : CE n m co co') (h : LQ n m co T) (h' : LQ n m co' T') : ∀ a b, 0 ≤ a → a ≤ n → 0 ≤ b → b ≤ m → T (11 * a + b) = T' (11 * a + b) := by
  have key : ∀ (d : Nat) (a b : Int), 0 ≤ a → a ≤ n → 0 ≤ b → b ≤ m → ((n - a) + (m - b)).toNat < d → T (11 * a + b) = T' (11 * a + b) := by
    intro d
    induction d with
    | zero => intro a b _ _ _ _ h; omega
    | succ d ih =>
      intro a b a0 a1 b0 b1 hd
      rw [h a b a0 a1 b0 b1 (by omega), h' a b a0 a1 b0 b1 (by omega)]
      by_cases e : a = n ∧ b = m
      · rw [if_pos e, if_pos e]
      · rw [if_neg e, if_neg e]
        refine lsv_cg 4 (fun s hs => ⟨he a b s a0 a1 b0 b1 (by omega) (by omega), fun hlt => ?_⟩)
        obtain ⟨g1, g2, g3⟩ := hc.nx a0 a1 b0 b1 hs hlt
        have r1 := xOF_rg (s : Int)
        have r2 := xOO_rg (s : Int)
        unfold lnx
        exact ih _ _ (by omega) g1 (by omega) g2 (by omega)
  exact fun a b a0 a1 b0 b1 => key _ a b a0 a1 b0 b1 (Nat.lt_succ_self _)
theorem LW_uq {n m : Int} {co co' : Int → Int → Int → Int} {T T' W W' : Int → Int} (hc : COk n m co) (he : CE n m co co') (h : LQ n m co T) (h' : LQ n m co' T') (g : LW n m co T W) (g' : LW n m co' T' W') : ∀ a b, 0 ≤ a → a ≤ n → 0 ≤ b → b ≤ m → W (11 * a + b) = W' (11 * a + b) := by
  have hT := LQ_uq hc he h h'
  have key : ∀ (d : Nat) (a b : Int), 0 ≤ a → a ≤ n → 0 ≤ b → b ≤ m → ((n - a) + (m - b)).toNat < d → W (11 * a + b) = W' (11 * a + b) := by
    intro d
    induction d with
    | zero => intro a b _ _ _ _ h; omega
    | succ d ih =>
      intro a b a0 a1 b0 b1 hd
      rw [g a b a0 a1 b0 b1 (by omega), g' a b a0 a1 b0 b1 (by omega)]
      by_cases e : a = n ∧ b = m
      · rw [if_pos e, if_pos e]
      · rw [if_neg e, if_neg e]
        refine lwy_cg 4 (fun s hs => ⟨he a b s a0 a1 b0 b1 (by omega) (by omega), fun hlt => ?_⟩)
        obtain ⟨g1, g2, g3⟩ := hc.nx a0 a1 b0 b1 hs hlt
        have r1 := xOF_rg (s : Int)
        have r2 := xOO_rg (s : Int)
        unfold lnx
        exact ⟨hT _ _ (by omega) g1 (by omega) g2, ih _ _ (by omega) g1 (by omega) g2 (by omega)⟩
  exact fun a b a0 a1 b0 b1 => key _ a b a0 a1 b0 b1 (Nat.lt_succ_self _)
/-! the steps gone through one by one -/
def lsB (co : Int → Int → Int → Int) (T : Int → Int) (i j : Int) (k : Nat) (b : Int) : Prop := (lsv co T i j k = 100000 ∧ b = 1000000) ∨ (lsv co T i j k ≤ 1000 ∧ b = lsv co T i j k)
/-- the sum that the one sees through a step -/
def lsT (co : Int → Int → Int → Int) (T : Int → Int) (i j s r : Int) : Prop := (co i j s = 100000 ∧ r = 1000000) ∨ (co i j s ≤ 9 ∧ r = co i j s + T (lnx i j s) ∧ r ≤ 1000)
theorem lsB.up {co : Int → Int → Int → Int} {T : Int → Int} {i j s b r b' : Int} (h : lsB co T i j s.toNat b) (h0 : 0 ≤ s) (hr : lsT co T i j s r) (hb : b' = min b r) : lsB co T i j (s + 1).toNat b' := by
  rw [show (s + 1).toNat = s.toNat + 1 by omega]
  unfold lsB lsT at *
  simp only [lsv]
  rw [Int.toNat_of_nonneg h0]
  rcases hr with ⟨e, e2⟩ | ⟨e, e2, e3⟩
  · rw [if_neg (by omega)]
    omega
  · rw [if_pos (by omega)]
    omega
def lwB (co : Int → Int → Int → Int) (T W : Int → Int) (i j : Int) (k : Nat) (v : Int) : Prop := (lsv co T i j k = T (11 * i + j) ∧ v = lwy co T W i j k) ∨ (T (11 * i + j) < lsv co T i j k ∧ v = 0)
theorem lwB.up {co : Int → Int → Int → Int} {T W : Int → Int} {i j s v r v' : Int} (h : lwB co T W i j s.toNat v) (h0 : 0 ≤ s) (h3 : s ≤ 3) (hL : T (11 * i + j) = lsv co T i j 4) (hb : T (11 * i + j) < 100000) (hr : lsT co T i j s r) (hv : (r = T (11 * i + j) ∧ xrg (W (lnx i j s)) ∧ v' = xwr (v + W (lnx i j s))) ∨ (¬ r = T (11 * i + j) ∧ v' = v)) : lwB co T W i j (s + 1).toNat v' := by
  rw [show (s + 1).toNat = s.toNat + 1 by omega]
  have hle : co i j s < 100000 → T (11 * i + j) ≤ co i j s + T (lnx i j s) := fun hc => by
    have := lsv_le (co := co) (T := T) (i := i) (j := j) 4 s.toNat (by omega) (by rw [Int.toNat_of_nonneg h0]; exact hc)
    rw [Int.toNat_of_nonneg h0, ← hL] at this
    exact this
  unfold lwB lsT at *
  simp only [lsv, lwy]
  rw [Int.toNat_of_nonneg h0]
  rcases hr with ⟨e, e2⟩ | ⟨e, e2, e3⟩
  · rw [if_neg (by omega), if_neg (by omega)]
    rcases hv with ⟨q, _⟩ | ⟨_, q⟩
    · omega
    · rw [q]; exact h
  · have hc : co i j s < 100000 := by omega
    have h5 := hle hc
    rw [if_pos hc, if_pos hc]
    rcases h with ⟨i1, i2⟩ | ⟨i1, i2⟩
    · rcases hv with ⟨q, hW, q2⟩ | ⟨q, q2⟩
      · rw [if_neg (by omega), if_pos (by omega)]
        exact Or.inl ⟨by omega, by rw [q2, i2]⟩
      · rw [if_neg (by omega), if_neg (by omega)]
        exact Or.inl ⟨by omega, by rw [q2, i2]⟩
    · rcases hv with ⟨q, hW, q2⟩ | ⟨q, q2⟩
      · rw [if_pos (by omega)]
        exact Or.inl ⟨by omega, by rw [q2, i2, Int.zero_add]; exact xwr_id hW⟩
      · exact Or.inr ⟨by omega, by rw [q2, i2]⟩
theorem lwB.fin {co : Int → Int → Int → Int} {T W : Int → Int} {i j s v : Int} (h : lwB co T W i j s.toNat v) (hs : s = 4) (hL : T (11 * i + j) = lsv co T i j 4) : v = lwy co T W i j 4 := by
  rw [hs] at h
  rcases h with ⟨_, h⟩ | ⟨h, _⟩
  · exact h
  · rw [hL] at h
    exact absurd h (Int.lt_irrefl _)
theorem lsB.fin {co : Int → Int → Int → Int} {T : Int → Int} {i j s b : Int} (h : lsB co T i j s.toNat b) (hs : s = 4) (hb : b ≤ 1000) : b = lsv co T i j 4 := by
  rw [hs] at h
  rcases h with ⟨_, h⟩ | ⟨_, h⟩
  · omega
  · exact h
/-- as the other goes through them -/
def lmB (n m : Int) (co : Int → Int → Int → Int) (T W : Int → Int) (i j : Int) (k : Nat) (v w : Int) : Prop := (i = n ∧ j = m ∧ v = 0 ∧ w = 1) ∨ (¬ (i = n ∧ j = m) ∧ v = lsv co T i j k ∧ w = lwy co T W i j k)
theorem lmB.up {n m : Int} {co : Int → Int → Int → Int} {T W : Int → Int} {i j s v w v' w' : Int} (h : lmB n m co T W i j s.toNat v w) (h0 : 0 ≤ s) (hend : i = n → j = m → ¬ co i j s < 100000) (hs : (co i j s < 100000 ∧ v' = min (co i j s + T (lnx i j s)) v ∧ ((co i j s + T (lnx i j s) < v ∧ w' = W (lnx i j s)) ∨ (¬ co i j s + T (lnx i j s) < v ∧ co i j s + T (lnx i j s) = v ∧ w' = xwr (w + W (lnx i j s))) ∨ (¬ co i j s + T (lnx i j s) < v ∧ ¬ co i j s + T (lnx i j s) = v ∧ w' = w))) ∨ (¬ co i j s < 100000 ∧ v' = v ∧ w' = w)) : lmB n m co T W i j (s + 1).toNat v' w' := by
  rw [show (s + 1).toNat = s.toNat + 1 by omega]
  unfold lmB at *
  rcases h with ⟨e1, e2, e3, e4⟩ | ⟨e1, e2, e3⟩
  · rcases hs with ⟨q, _⟩ | ⟨_, q1, q2⟩
    · exact absurd q (hend e1 e2)
    · exact Or.inl ⟨e1, e2, by omega, by omega⟩
  · refine Or.inr ⟨e1, ?_⟩
    simp only [lsv, lwy]
    rw [Int.toNat_of_nonneg h0, ← e2, ← e3]
    rcases hs with ⟨q, q1, q2⟩ | ⟨q, q1, q2⟩
    · rw [if_pos q, if_pos q]
      refine ⟨q1, ?_⟩
      rcases q2 with ⟨r1, r2⟩ | ⟨r1, r2, r3⟩ | ⟨r1, r2, r3⟩
      · rw [if_pos r1, r2]
      · rw [if_neg r1, if_pos r2, r3]
      · rw [if_neg r1, if_neg r2, r3]
    · rw [if_neg q, if_neg q]
      exact ⟨q1, q2⟩
theorem lmB.val {n m : Int} {co : Int → Int → Int → Int} {T W : Int → Int} {i j v w : Int} {k : Nat} (h : lmB n m co T W i j k v w) (hk : k = 4) : v = (if i = n ∧ j = m then 0 else lsv co T i j 4) ∧ w = if i = n ∧ j = m then 1 else lwy co T W i j 4 := by
  subst hk
  rcases h with ⟨e1, e2, e3, e4⟩ | ⟨e1, e2, e3⟩
  · rw [if_pos ⟨e1, e2⟩, if_pos ⟨e1, e2⟩]
    exact ⟨e3, e4⟩
  · rw [if_neg e1, if_neg e1]
    exact ⟨e2, e3⟩
/-! the way -/
abbrev att (co : Int → Int → Int → Int) (T : Int → Int) (i j s : Int) : Prop := co i j s < 100000 ∧ co i j s + T (lnx i j s) = T (11 * i + j)
def fst' (co : Int → Int → Int → Int) (T : Int → Int) (i j : Int) : Int := if att co T i j 0 then 0 else if att co T i j 1 then 1 else if att co T i j 2 then 2 else 3
theorem fst_eq {co : Int → Int → Int → Int} {T : Int → Int} {i j s : Int} (h0 : 0 ≤ s) (h3 : s ≤ 3) (hn : ∀ q, 0 ≤ q → q < s → ¬ att co T i j q) (hs : s = 3 ∨ att co T i j s) : fst' co T i j = s := by
  unfold fst'
  rcases (show s = 0 ∨ s = 1 ∨ s = 2 ∨ s = 3 by omega) with e | e | e | e
  · subst e
    rw [if_pos (hs.resolve_left (by omega))]
  · subst e
    rw [if_neg (hn 0 (by omega) (by omega)), if_pos (hs.resolve_left (by omega))]
  · subst e
    rw [if_neg (hn 0 (by omega) (by omega)), if_neg (hn 1 (by omega) (by omega)), if_pos (hs.resolve_left (by omega))]
  · subst e
    rw [if_neg (hn 0 (by omega) (by omega)), if_neg (hn 1 (by omega) (by omega)), if_neg (hn 2 (by omega) (by omega))]
theorem fst_cg {n m : Int} {co co' : Int → Int → Int → Int} {T T' : Int → Int} (hc : COk n m co) (he : CE n m co co') (hT : ∀ a b, 0 ≤ a → a ≤ n → 0 ≤ b → b ≤ m → T (11 * a + b) = T' (11 * a + b)) {i j : Int} (i0 : 0 ≤ i) (i1 : i ≤ n) (j0 : 0 ≤ j) (j1 : j ≤ m) : fst' co T i j = fst' co' T' i j := by
  have k : ∀ s : Nat, s < 4 → (att co T i j (s : Int) ↔ att co' T' i j (s : Int)) := by
    intro s hs
    have e := he i j (s : Int) i0 i1 j0 j1 (by omega) (by omega)
    have e2 := hT i j i0 i1 j0 j1
    have e3 : co i j (s : Int) < 100000 → T (lnx i j (s : Int)) = T' (lnx i j (s : Int)) := fun hlt => by
      obtain ⟨g1, g2, g3⟩ := hc.nx i0 i1 j0 j1 hs hlt
      have r1 := xOF_rg (s : Int)
      have r2 := xOO_rg (s : Int)
      exact hT _ _ (by omega) g1 (by omega) g2
    constructor
    · rintro ⟨a, b⟩
      have := e3 a
      exact ⟨by omega, by omega⟩
    · rintro ⟨a, b⟩
      have := e3 (by omega)
      exact ⟨by omega, by omega⟩
  have k0 : att co T i j 0 ↔ att co' T' i j 0 := k 0 (by omega)
  have k1 : att co T i j 1 ↔ att co' T' i j 1 := k 1 (by omega)
  have k2 : att co T i j 2 ↔ att co' T' i j 2 := k 2 (by omega)
  unfold fst'
  by_cases h0 : att co T i j 0
  · rw [if_pos h0, if_pos (k0.mp h0)]
  · rw [if_neg h0, if_neg (fun h => h0 (k0.mpr h))]
    by_cases h1 : att co T i j 1
    · rw [if_pos h1, if_pos (k1.mp h1)]
    · rw [if_neg h1, if_neg (fun h => h1 (k1.mpr h))]
      by_cases h2 : att co T i j 2
      · rw [if_pos h2, if_pos (k2.mp h2)]
      · rw [if_neg h2, if_neg (fun h => h2 (k2.mpr h))]
theorem att_ne {co : Int → Int → Int → Int} {T : Int → Int} {i j s r : Int} (h : lsT co T i j s r) (hr : ¬ r = T (11 * i + j)) : ¬ att co T i j s := by
  rintro ⟨a, b⟩
  rcases h with ⟨e, _⟩ | ⟨_, e, _⟩
  · omega
  · omega
theorem att_is {co : Int → Int → Int → Int} {T : Int → Int} {i j s r : Int} (h : lsT co T i j s r) (hr : r = T (11 * i + j)) (hb : T (11 * i + j) < 100000) : att co T i j s := by
  rcases h with ⟨_, e⟩ | ⟨e1, e, _⟩
  · omega
  · exact ⟨by omega, by omega⟩
theorem att_ex {co : Int → Int → Int → Int} {T : Int → Int} {i j : Int} (hL : T (11 * i + j) = lsv co T i j 4) (hb : T (11 * i + j) < 100000) : ∃ q : Int, 0 ≤ q ∧ q < 4 ∧ att co T i j q := by
  obtain ⟨s, h1, h2, h3⟩ := lsv_at (co := co) (T := T) (i := i) (j := j) 4 (by omega)
  exact ⟨(s : Int), by omega, by omega, h2, by omega⟩
def pst (co : Int → Int → Int → Int) (T : Int → Int) : Nat → Int × Int
  | 0 => (0, 0)
  | k + 1 => ((pst co T k).1 + xOF (fst' co T (pst co T k).1 (pst co T k).2), (pst co T k).2 + xOO (fst' co T (pst co T k).1 (pst co T k).2))
def WYp (n m : Int) (co : Int → Int → Int → Int) (T w : Int → Int) (k : Nat) (i j : Int) : Prop := pst co T k = (i, j) ∧ (∀ q : Nat, q ≤ k → (0 ≤ (pst co T q).1 ∧ (pst co T q).1 ≤ n) ∧ 0 ≤ (pst co T q).2 ∧ (pst co T q).2 ≤ m) ∧ ∀ q : Nat, q < k → ¬ ((pst co T q).1 = n ∧ (pst co T q).2 = m) ∧ w (q : Int) = fst' co T (pst co T q).1 (pst co T q).2
theorem WYp.zero {n m : Int} {co : Int → Int → Int → Int} {T w : Int → Int} (hn : 0 ≤ n) (hm : 0 ≤ m) : WYp n m co T w 0 0 0 := by
  refine ⟨rfl, fun q hq => ?_, fun q hq => by omega⟩
  have e : q = 0 := by omega
  subst e
  exact ⟨⟨Int.le_refl 0, hn⟩, Int.le_refl 0, hm⟩
theorem WYp.go {n m i j s i' j' : Int} {k : Nat} {co : Int → Int → Int → Int} {T w w' : Int → Int} (h : WYp n m co T w k i j) (hne : ¬ (i = n ∧ j = m)) (hs : fst' co T i j = s) (hw : ∀ q, w' q = if q = (k : Int) then s else w q) (hi : i' = i + xOF s) (hj : j' = j + xOO s) (ri : 0 ≤ i' ∧ i' ≤ n) (rj : 0 ≤ j' ∧ j' ≤ m) : WYp n m co T w' (k + 1) i' j' := by
  obtain ⟨h1, h2, h3⟩ := h
  have e1 : (pst co T k).1 = i := by rw [h1]
  have e2 : (pst co T k).2 = j := by rw [h1]
  have e : pst co T (k + 1) = (i', j') := by
    simp only [pst]
    rw [e1, e2, hs, hi, hj]
  refine ⟨e, fun q hq => ?_, fun q hq => ?_⟩
  · by_cases hk : q = k + 1
    · rw [hk, e]
      exact ⟨ri, rj⟩
    · exact h2 q (by omega)
  · by_cases hk : q = k
    · rw [hk, e1, e2, hw, if_pos rfl]
      exact ⟨hne, hs.symm⟩
    · rw [hw, if_neg (by omega)]
      exact h3 q (by omega)
def WYF (n m : Int) (co : Int → Int → Int → Int) (T w : Int → Int) (r : Int) : Prop := 0 ≤ r ∧ WYp n m co T w r.toNat n m
theorem WY_uq {n m r r' : Int} {co co' : Int → Int → Int → Int} {T T' w w' : Int → Int} (hc : COk n m co) (he : CE n m co co') (h : LQ n m co T) (h' : LQ n m co' T') (a : WYF n m co T w r) (b : WYF n m co' T' w' r') : r = r' ∧ ∀ q, 0 ≤ q → q < r → w q = w' q := by
  obtain ⟨a0, a1, a2, a3⟩ := a
  obtain ⟨b0, b1, b2, b3⟩ := b
  have hT := LQ_uq hc he h h'
  have hp : ∀ q : Nat, q ≤ r.toNat → pst co T q = pst co' T' q := by
    intro q
    induction q with
    | zero => intro _; rfl
    | succ q ih =>
      intro hq
      have e := ih (by omega)
      obtain ⟨⟨g1, g2⟩, g3, g4⟩ := a2 q (by omega)
      simp only [pst]
      rw [fst_cg hc he hT g1 g2 g3 g4, e]
  have hr : r = r' := by
    rcases (show r < r' ∨ r = r' ∨ r' < r by omega) with hl | hl | hl
    · have q := (b3 r.toNat (by omega)).1
      rw [← hp r.toNat (Nat.le_refl _), a1] at q
      exact absurd ⟨rfl, rfl⟩ q
    · exact hl
    · have q := (a3 r'.toNat (by omega)).1
      rw [hp r'.toNat (by omega), b1] at q
      exact absurd ⟨rfl, rfl⟩ q
  refine ⟨hr, fun q q0 q1 => ?_⟩
  have e1 := (a3 q.toNat (by omega)).2
  have e2 := (b3 q.toNat (by omega)).2
  obtain ⟨⟨g1, g2⟩, g3, g4⟩ := a2 q.toNat (by omega)
  rw [Int.toNat_of_nonneg q0] at e1 e2
  rw [e1, e2, ← hp q.toNat (by omega), fst_cg hc he hT g1 g2 g3 g4]
/-! what is common, from the ends and from the beginnings -/
theorem lcs {n m : Int} {f g : Int → Int} {s p : Int → Int → Int} (hn : 0 ≤ n) (hm : 0 ≤ m)
    (S0 : ∀ a b, 0 ≤ a → a ≤ n → 0 ≤ b → b ≤ m → (a = n ∨ b = m) → s a b = 0)
    (S1 : ∀ a b, 0 ≤ a → a < n → 0 ≤ b → b < m → f a = g b → s a b = 1 + s (a + 1) (b + 1))
    (S2 : ∀ a b, 0 ≤ a → a < n → 0 ≤ b → b < m → ¬ f a = g b → s a b = max (s (a + 1) b) (s a (b + 1)))
    (Sn : ∀ a b, 0 ≤ a → a ≤ n → 0 ≤ b → b ≤ m → 0 ≤ s a b)
    (P0 : ∀ a b, 0 ≤ a → a ≤ n → 0 ≤ b → b ≤ m → (a = 0 ∨ b = 0) → p a b = 0)
    (P1 : ∀ a b, 0 ≤ a → a < n → 0 ≤ b → b < m → f a = g b → p (a + 1) (b + 1) = p a b + 1)
    (P2 : ∀ a b, 0 ≤ a → a < n → 0 ≤ b → b < m → ¬ f a = g b → p (a + 1) (b + 1) = max (p a (b + 1)) (p (a + 1) b))
    (Pn : ∀ a b, 0 ≤ a → a ≤ n → 0 ≤ b → b ≤ m → 0 ≤ p a b) : p n m = s 0 0 := by
  have sl : ∀ (d : Nat) (a b : Int), 0 ≤ a → a ≤ n → 0 ≤ b → b ≤ m → ((n - a) + (m - b)).toNat < d → (a < n → s (a + 1) b ≤ s a b ∧ s a b ≤ s (a + 1) b + 1) ∧ (b < m → s a (b + 1) ≤ s a b ∧ s a b ≤ s a (b + 1) + 1) := by
    intro d
    induction d with
    | zero => intro a b _ _ _ _ h; omega
    | succ d ih =>
      intro a b a0 a1 b0 b1 hd
      by_cases ha : a < n
      · by_cases hb : b < m
        · have i1 := (ih (a + 1) b (by omega) (by omega) b0 b1 (by omega)).2 hb
          have i2 := (ih a (b + 1) a0 a1 (by omega) (by omega) (by omega)).1 ha
          by_cases e : f a = g b
          · have := S1 a b a0 ha b0 hb e
            exact ⟨fun _ => by omega, fun _ => by omega⟩
          · have := S2 a b a0 ha b0 hb e
            exact ⟨fun _ => by omega, fun _ => by omega⟩
        · have e1 := S0 a b a0 a1 b0 b1 (by omega)
          have e2 := S0 (a + 1) b (by omega) (by omega) b0 b1 (by omega)
          exact ⟨fun _ => by omega, fun h => absurd h hb⟩
      · refine ⟨fun h => absurd h ha, fun h => ?_⟩
        have e1 := S0 a b a0 a1 b0 b1 (by omega)
        have e2 := S0 a (b + 1) a0 a1 (by omega) (by omega) (by omega)
        omega
  have pl : ∀ (d : Nat) (a b : Int), 0 ≤ a → a ≤ n → 0 ≤ b → b ≤ m → (a + b).toNat < d → (a < n → p a b ≤ p (a + 1) b ∧ p (a + 1) b ≤ p a b + 1) ∧ (b < m → p a b ≤ p a (b + 1) ∧ p a (b + 1) ≤ p a b + 1) := by
    intro d
    induction d with
    | zero => intro a b _ _ _ _ h; omega
    | succ d ih =>
      intro a b a0 a1 b0 b1 hd
      constructor
      · intro ha
        by_cases hb : b = 0
        · have e1 := P0 a b a0 a1 b0 b1 (by omega)
          have e2 := P0 (a + 1) b (by omega) (by omega) b0 b1 (by omega)
          omega
        · obtain ⟨y, rfl⟩ : ∃ y, b = y + 1 := ⟨b - 1, by omega⟩
          have i1 := (ih a y a0 a1 (by omega) (by omega) (by omega)).1 ha
          have i2 := (ih a y a0 a1 (by omega) (by omega) (by omega)).2 (by omega)
          by_cases e : f a = g y
          · have := P1 a y a0 ha (by omega) (by omega) e
            omega
          · have := P2 a y a0 ha (by omega) (by omega) e
            omega
      · intro hb
        by_cases ha : a = 0
        · have e1 := P0 a b a0 a1 b0 b1 (by omega)
          have e2 := P0 a (b + 1) a0 a1 (by omega) (by omega) (by omega)
          omega
        · obtain ⟨x, rfl⟩ : ∃ x, a = x + 1 := ⟨a - 1, by omega⟩
          have i1 := (ih x b (by omega) (by omega) b0 b1 (by omega)).1 (by omega)
          have i2 := (ih x b (by omega) (by omega) b0 b1 (by omega)).2 hb
          by_cases e : f x = g b
          · have := P1 x b (by omega) (by omega) b0 hb e
            omega
          · have := P2 x b (by omega) (by omega) b0 hb e
            omega
  have A : ∀ (d : Nat) (a b : Int), 0 ≤ a → a ≤ n → 0 ≤ b → b ≤ m → (a + b).toNat < d → p a b + s a b ≤ s 0 0 := by
    intro d
    induction d with
    | zero => intro a b _ _ _ _ h; omega
    | succ d ih =>
      intro a b a0 a1 b0 b1 hd
      by_cases ha : a = 0
      · by_cases hb : b = 0
        · have e1 := P0 a b a0 a1 b0 b1 (by omega)
          rw [e1, ha, hb]
          omega
        · obtain ⟨y, rfl⟩ : ∃ y, b = y + 1 := ⟨b - 1, by omega⟩
          have e1 := P0 a (y + 1) a0 a1 b0 b1 (by omega)
          have e2 := Pn a y a0 a1 (by omega) (by omega)
          have i1 := ih a y a0 a1 (by omega) (by omega) (by omega)
          have i2 := (sl _ a y a0 a1 (by omega) (by omega) (Nat.lt_succ_self _)).2 (by omega)
          omega
      · obtain ⟨x, rfl⟩ : ∃ x, a = x + 1 := ⟨a - 1, by omega⟩
        have j2 := (sl _ x b (by omega) (by omega) b0 b1 (Nat.lt_succ_self _)).1 (by omega)
        have j1 := ih x b (by omega) (by omega) b0 b1 (by omega)
        by_cases hb : b = 0
        · have e1 := P0 (x + 1) b a0 a1 b0 b1 (by omega)
          have e2 := Pn x b (by omega) (by omega) b0 b1
          omega
        · obtain ⟨y, rfl⟩ : ∃ y, b = y + 1 := ⟨b - 1, by omega⟩
          have k1 := ih (x + 1) y a0 a1 (by omega) (by omega) (by omega)
          have k2 := (sl _ (x + 1) y a0 a1 (by omega) (by omega) (Nat.lt_succ_self _)).2 (by omega)
          by_cases e : f x = g y
          · have q1 := P1 x y (by omega) (by omega) (by omega) (by omega) e
            have q2 := S1 x y (by omega) (by omega) (by omega) (by omega) e
            have q3 := ih x y (by omega) (by omega) (by omega) (by omega) (by omega)
            omega
          · have q1 := P2 x y (by omega) (by omega) (by omega) (by omega) e
            omega
  have B : ∀ (d : Nat) (a b : Int), 0 ≤ a → a ≤ n → 0 ≤ b → b ≤ m → ((n - a) + (m - b)).toNat < d → p a b + s a b ≤ p n m := by
    intro d
    induction d with
    | zero => intro a b _ _ _ _ h; omega
    | succ d ih =>
      intro a b a0 a1 b0 b1 hd
      by_cases ha : a = n
      · by_cases hb : b = m
        · have e1 := S0 a b a0 a1 b0 b1 (by omega)
          rw [e1, ha, hb]
          omega
        · have e1 := S0 a b a0 a1 b0 b1 (by omega)
          have e2 := Sn a (b + 1) a0 a1 (by omega) (by omega)
          have i1 := ih a (b + 1) a0 a1 (by omega) (by omega) (by omega)
          have i2 := (pl _ a b a0 a1 b0 b1 (Nat.lt_succ_self _)).2 (by omega)
          omega
      · have j1 := ih (a + 1) b (by omega) (by omega) b0 b1 (by omega)
        have j2 := (pl _ a b a0 a1 b0 b1 (Nat.lt_succ_self _)).1 (by omega)
        by_cases hb : b = m
        · have e1 := S0 a b a0 a1 b0 b1 (by omega)
          have e2 := Sn (a + 1) b (by omega) (by omega) b0 b1
          omega
        · have k1 := ih a (b + 1) a0 a1 (by omega) (by omega) (by omega)
          have k2 := (pl _ a b a0 a1 b0 b1 (Nat.lt_succ_self _)).2 (by omega)
          by_cases e : f a = g b
          · have q1 := P1 a b a0 (by omega) b0 (by omega) e
            have q2 := S1 a b a0 (by omega) b0 (by omega) e
            have q3 := ih (a + 1) (b + 1) (by omega) (by omega) (by omega) (by omega) (by omega)
            omega
          · have q2 := S2 a b a0 (by omega) b0 (by omega) e
            omega
  have a1 := A _ n m hn (Int.le_refl _) hm (Int.le_refl _) (Nat.lt_succ_self _)
  have b1 := B _ 0 0 (Int.le_refl _) hn (Int.le_refl _) hm (Nat.lt_succ_self _)
  have a2 := S0 n m hn (Int.le_refl _) hm (Int.le_refl _) (Or.inl rfl)
  have b2 := P0 0 0 (Int.le_refl _) hn (Int.le_refl _) hm (Or.inl rfl)
  omega
/-! what is common: the tables -/
def csv (n m : Int) (f g S : Int → Int) (a b : Int) : Int := if a = n ∨ b = m then 0 else if f a = g b then 1 + S (11 * (a + 1) + (b + 1)) else max (S (11 * (a + 1) + b)) (S (11 * a + (b + 1)))
def CSp (n m : Int) (f g S : Int → Int) (i j : Int) : Prop := ∀ a b, 0 ≤ a → a ≤ n → 0 ≤ b → b ≤ m → (i < a ∨ (a = i ∧ j < b)) → (0 ≤ S (11 * a + b) ∧ S (11 * a + b) ≤ n - a) ∧ S (11 * a + b) = csv n m f g S a b
theorem CSp.up {n m i : Int} {f g S : Int → Int} (h : CSp n m f g S i (-1)) : CSp n m f g S (i - 1) m := fun a b h1 h2 h3 h4 h5 => h a b h1 h2 h3 h4 (by omega)
theorem CSp.none {n m : Int} {f g S : Int → Int} : CSp n m f g S n m := fun a b h1 h2 h3 h4 h5 => by omega
theorem CSp.step {n m i j v : Int} {f g S S' : Int → Int} (h : CSp n m f g S i j) (hm : m ≤ 10) (j0 : 0 ≤ j) (j1 : j ≤ m) (hv : v = csv n m f g S i j) (hb : 0 ≤ v ∧ v ≤ n - i) (hf : ∀ q, S' q = if q = 11 * i + j then v else S q) : CSp n m f g S' i (j - 1) := by
  intro a b a0 a1 b0 b1 hab
  have key : csv n m f g S' a b = csv n m f g S a b := by
    unfold csv
    by_cases e : a = n ∨ b = m
    · rw [if_pos e, if_pos e]
    · have n1 : S' (11 * (a + 1) + (b + 1)) = S (11 * (a + 1) + (b + 1)) := by rw [hf, if_neg (by omega)]
      have n2 : S' (11 * (a + 1) + b) = S (11 * (a + 1) + b) := by rw [hf, if_neg (by omega)]
      have n3 : S' (11 * a + (b + 1)) = S (11 * a + (b + 1)) := by rw [hf, if_neg (by omega)]
      rw [if_neg e, if_neg e, n1, n2, n3]
  rw [key, hf]
  by_cases hq : 11 * a + b = 11 * i + j
  · have ha : a = i := by omega
    have hb2 : b = j := by omega
    rw [if_pos hq, ha, hb2]
    exact ⟨hb, hv⟩
  · rw [if_neg hq]
    exact h a b a0 a1 b0 b1 (by omega)
def cpv (f g P : Int → Int) (a b : Int) : Int := if a = 0 ∨ b = 0 then 0 else if f (a - 1) = g (b - 1) then P (11 * (a - 1) + (b - 1)) + 1 else max (P (11 * (a - 1) + b)) (P (11 * a + (b - 1)))
def CPp (n m : Int) (f g P : Int → Int) (i j : Int) : Prop := ∀ a b, 0 ≤ a → a ≤ n → 0 ≤ b → b ≤ m → (a < i ∨ (a = i ∧ b < j)) → (0 ≤ P (11 * a + b) ∧ P (11 * a + b) ≤ a) ∧ P (11 * a + b) = cpv f g P a b
theorem CPp.up {n m i j : Int} {f g P : Int → Int} (h : CPp n m f g P i j) (hj : m < j) : CPp n m f g P (i + 1) 0 := fun a b h1 h2 h3 h4 h5 => h a b h1 h2 h3 h4 (by omega)
theorem CPp.fin {n m i : Int} {f g P : Int → Int} (h : CPp n m f g P i 0) (hi : n < i) : CPp n m f g P n (m + 1) := fun a b h1 h2 h3 h4 h5 => h a b h1 h2 h3 h4 (by omega)
theorem CPp.none {n m : Int} {f g P : Int → Int} : CPp n m f g P 0 0 := fun a b h1 h2 h3 h4 h5 => by omega
theorem CPp.step {n m i j v : Int} {f g P P' : Int → Int} (h : CPp n m f g P i j) (hm : m ≤ 10) (j0 : 0 ≤ j) (j1 : j ≤ m) (hv : v = cpv f g P i j) (hb : 0 ≤ v ∧ v ≤ i) (hf : ∀ q, P' q = if q = 11 * i + j then v else P q) : CPp n m f g P' i (j + 1) := by
  intro a b a0 a1 b0 b1 hab
  have key : cpv f g P' a b = cpv f g P a b := by
    unfold cpv
    by_cases e : a = 0 ∨ b = 0
    · rw [if_pos e, if_pos e]
    · have n1 : P' (11 * (a - 1) + (b - 1)) = P (11 * (a - 1) + (b - 1)) := by rw [hf, if_neg (by omega)]
      have n2 : P' (11 * (a - 1) + b) = P (11 * (a - 1) + b) := by rw [hf, if_neg (by omega)]
      have n3 : P' (11 * a + (b - 1)) = P (11 * a + (b - 1)) := by rw [hf, if_neg (by omega)]
      rw [if_neg e, if_neg e, n1, n2, n3]
  rw [key, hf]
  by_cases hq : 11 * a + b = 11 * i + j
  · have ha : a = i := by omega
    have hb2 : b = j := by omega
    rw [if_pos hq, ha, hb2]
    exact ⟨hb, hv⟩
  · rw [if_neg hq]
    exact h a b a0 a1 b0 b1 (by omega)
def CSr (n m : Int) (f g : Int → Int) (r : Int) : Prop := ∃ S, CSp n m f g S (-1) m ∧ r = S 0
def CPr (n m : Int) (f g : Int → Int) (r : Int) : Prop := ∃ P, CPp n m f g P n (m + 1) ∧ r = P (11 * n + m)
theorem CS_CP {n m r r' : Int} {f g f' g' : Int → Int} (hn : 0 ≤ n) (hm : 0 ≤ m) (hf : ∀ i, 0 ≤ i → i < n → f i = f' i) (hg : ∀ j, 0 ≤ j → j < m → g j = g' j) (a : CSr n m f g r) (b : CPr n m f' g' r') : r = r' := by
  obtain ⟨S, a1, a2⟩ := a
  obtain ⟨P, b1, b2⟩ := b
  have key := lcs (n := n) (m := m) (f := f) (g := g) (s := fun a b => S (11 * a + b)) (p := fun a b => P (11 * a + b)) hn hm
    (fun a b a0 h1 b0 h2 e => by
      have h := (a1 a b a0 h1 b0 h2 (by omega)).2
      unfold csv at h
      rw [if_pos e] at h
      exact h)
    (fun a b a0 h1 b0 h2 e => by
      have h := (a1 a b a0 (by omega) b0 (by omega) (by omega)).2
      unfold csv at h
      rw [if_neg (by omega), if_pos e] at h
      exact h)
    (fun a b a0 h1 b0 h2 e => by
      have h := (a1 a b a0 (by omega) b0 (by omega) (by omega)).2
      unfold csv at h
      rw [if_neg (by omega), if_neg e] at h
      exact h)
    (fun a b a0 h1 b0 h2 => (a1 a b a0 h1 b0 h2 (by omega)).1.1)
    (fun a b a0 h1 b0 h2 e => by
      have h := (b1 a b a0 h1 b0 h2 (by omega)).2
      unfold cpv at h
      rw [if_pos e] at h
      exact h)
    (fun a b a0 h1 b0 h2 e => by
      have h := (b1 (a + 1) (b + 1) (by omega) (by omega) (by omega) (by omega) (by omega)).2
      unfold cpv at h
      rw [if_neg (by omega), Int.add_sub_cancel, Int.add_sub_cancel, ← hf a a0 h1, ← hg b b0 h2, if_pos e] at h
      exact h)
    (fun a b a0 h1 b0 h2 e => by
      have h := (b1 (a + 1) (b + 1) (by omega) (by omega) (by omega) (by omega) (by omega)).2
      unfold cpv at h
      rw [if_neg (by omega), Int.add_sub_cancel, Int.add_sub_cancel, ← hf a a0 h1, ← hg b b0 h2, if_neg e] at h
      exact h)
    (fun a b a0 h1 b0 h2 => (b1 a b a0 h1 b0 h2 (by omega)).1.1)
  have e0 : P (11 * n + m) = S (11 * 0 + 0) := key
  rw [a2, b2, e0]
  rfl
/-! the rows of the one -/
def cco (μ : xM) : Int → Int → Int → Int := lco (μ 92 7) (μ 92 8) (μ 93) (μ 94) (μ 95)
theorem cco_fr {μ ν : xM} (h : ∀ k q, 92 ≤ k → k ≤ 95 → ν k q = μ k q) : cco ν = cco μ := by
  unfold cco
  rw [h 92 7 (by omega) (by omega), h 92 8 (by omega) (by omega), show ν 93 = μ 93 from funext fun q => h 93 q (by omega) (by omega), show ν 94 = μ 94 from funext fun q => h 94 q (by omega) (by omega), show ν 95 = μ 95 from funext fun q => h 95 q (by omega) (by omega)]
theorem cco_ok {μ : xM} (hB : BI μ) : COk (μ 92 7) (μ 92 8) (cco μ) := lco_ok (fun k _ _ => (show 0 ≤ μ 95 k ∧ μ 95 k ≤ 9 from hB 95 k))
theorem lco_out {n m i j s : Int} {f g c : Int → Int} (hi : i ≤ n) (hj : j ≤ m) (s0 : 0 ≤ s) (s3 : s ≤ 3) (h : n < i + xOF s ∨ m < j + xOO s) : lco n m f g c i j s = 100000 := by
  have a := xOF_v s
  have b := xOO_v s
  unfold lco
  rcases (show s = 0 ∨ s = 1 ∨ s = 2 ∨ s = 3 by omega) with e | e | e | e
  · rw [if_pos e, if_neg (by omega)]
  · rw [if_neg (by omega), if_pos e, if_neg (by omega)]
  · rw [if_neg (by omega), if_neg (by omega), if_pos e, if_neg (by omega)]
  · rw [if_neg (by omega), if_neg (by omega), if_neg (by omega), if_neg (fun q => by have q1 := q.1; have q2 := q.2.1; omega)]
theorem lsT_out {n m i j s r : Int} {f g c T : Int → Int} (hi : i ≤ n) (hj : j ≤ m) (s0 : 0 ≤ s) (s3 : s ≤ 3) (h : n < i + xOF s ∨ m < j + xOO s) (hr : r = 1000000) : lsT (lco n m f g c) T i j s r := Or.inl ⟨lco_out hi hj s0 s3 h, hr⟩
theorem lsT_0 {n m i j s r t x : Int} {f g c T : Int → Int} (e : s = 0) (hi : i < n) (hj : j < m) (h2 : 0 ≤ c 2) (h3 : 0 ≤ c 3 ∧ c 3 ≤ 9) (hx : x = lch c (f i) (g j)) (ht : t = T (lnx i j s)) (hb : t ≤ 900) (hr : r = t + x) : lsT (lco n m f g c) T i j s r := by
  have e1 : lco n m f g c i j s = x := by unfold lco; rw [if_pos e, if_pos ⟨hi, hj⟩, hx]
  have := lch_bd (c := c) (a := f i) (b := g j) h2 h3
  exact Or.inr ⟨by omega, by rw [e1, ← ht, hr]; omega, by omega⟩
theorem lsT_g {n m i j s r t x : Int} {f g c T : Int → Int} (e : (s = 1 ∧ i < n) ∨ (s = 2 ∧ j < m)) (hx : x = c 0) (h9 : x ≤ 9) (ht : t = T (lnx i j s)) (hb : t ≤ 900) (hr : r = t + x) : lsT (lco n m f g c) T i j s r := by
  have e1 : lco n m f g c i j s = x := by
    unfold lco
    rcases e with ⟨e, h⟩ | ⟨e, h⟩
    · rw [if_neg (by omega), if_pos e, if_pos h, hx]
    · rw [if_neg (by omega), if_neg (by omega), if_pos e, if_pos h, hx]
  exact Or.inr ⟨by omega, by rw [e1, ← ht, hr]; omega, by omega⟩
theorem lsT_3 {n m i j s r t x : Int} {f g c T : Int → Int} (e : s = 3) (hi : i + 1 < n) (hj : j + 1 < m) (h1 : f i = g (j + 1)) (h2 : f (i + 1) = g j) (h3 : ¬ f i = f (i + 1)) (hx : x = c 1) (h9 : x ≤ 9) (ht : t = T (lnx i j s)) (hb : t ≤ 900) (hr : r = t + x) : lsT (lco n m f g c) T i j s r := by
  have e1 : lco n m f g c i j s = x := by
    unfold lco
    rw [if_neg (by omega), if_neg (by omega), if_neg (by omega), if_pos ⟨hi, hj, h1, h2, by rw [← h2]; exact h3⟩, hx]
  exact Or.inr ⟨by omega, by rw [e1, ← ht, hr]; omega, by omega⟩
theorem lsT_3n {n m i j s r : Int} {f g c T : Int → Int} (e : s = 3) (h : ¬ (f i = g (j + 1) ∧ f (i + 1) = g j ∧ ¬ f i = f (i + 1))) (hr : r = 1000000) : lsT (lco n m f g c) T i j s r := by
  refine Or.inl ⟨?_, hr⟩
  unfold lco
  rw [if_neg (by omega), if_neg (by omega), if_neg (by omega), if_neg]
  rintro ⟨_, _, h1, h2, h3⟩
  exact h ⟨h1, h2, by rw [h2]; exact h3⟩
/-- two chains laid into the rows -/
def LSx (a b : Int) (μ μ' : xM) : Prop := μ' 92 7 = a / 4294967296 ∧ μ' 92 8 = b / 4294967296 ∧ (∀ q, 0 ≤ q → q < a / 4294967296 → μ' 93 q = cmot a q) ∧ (∀ q, 0 ≤ q → q < b / 4294967296 → μ' 94 q = cmot b q) ∧ (∀ k, 0 ≤ k → k < 4 → μ' 95 k = μ 4 k) ∧ LQ (μ' 92 7) (μ' 92 8) (cco μ') (μ' 96)
def W97 (k : Nat) (_ : Int) : Prop := k = 97
def W98 (k : Nat) (_ : Int) : Prop := k = 98
def W99 (k : Nat) (_ : Int) : Prop := k = 99
/-- how far two chains are apart; in how many ways; by which steps -/
def PR0 (n m : Int) (f g c : Int → Int) (r : Int) : Prop := ∃ co T, COk n m co ∧ CE n m co (lco n m f g c) ∧ LQ n m co T ∧ r = T 0
def PR1 (n m : Int) (f g c : Int → Int) (r : Int) : Prop := ∃ co T W, COk n m co ∧ CE n m co (lco n m f g c) ∧ LQ n m co T ∧ LW n m co T W ∧ r = W 0
def PRw (n m : Int) (f g c w : Int → Int) (r : Int) : Prop := ∃ co T, COk n m co ∧ CE n m co (lco n m f g c) ∧ LQ n m co T ∧ WYF n m co T w r
def PRs (n m : Int) (f g c : Int → Int) (k r : Int) : Prop := ∃ w l, PRw n m f g c w l ∧ ((0 ≤ k ∧ k < l ∧ r = w k) ∨ (¬ (0 ≤ k ∧ k < l) ∧ r = -1))
theorem CE.tr {n m : Int} {a b c : Int → Int → Int → Int} (h : CE n m a b) (h' : CE n m b c) : CE n m a c := fun i j s x y z u v w => (h i j s x y z u v w).trans (h' i j s x y z u v w)
theorem lco_ce {n m : Int} {f g c f' g' c' : Int → Int} (hf : ∀ i, 0 ≤ i → i < n → f i = f' i) (hg : ∀ j, 0 ≤ j → j < m → g j = g' j) (hc : ∀ k, 0 ≤ k → k < 4 → c k = c' k) : CE n m (lco n m f g c) (lco n m f' g' c') := fun i j s i0 _ j0 _ _ _ => lco_cg hf hg hc i0 j0
theorem PR0_uq {n m r r' : Int} {f g c f' g' c' : Int → Int} (hn : 0 ≤ n) (hm : 0 ≤ m) (hf : ∀ i, 0 ≤ i → i < n → f i = f' i) (hg : ∀ j, 0 ≤ j → j < m → g j = g' j) (hc : ∀ k, 0 ≤ k → k < 4 → c k = c' k) (a : PR0 n m f g c r) (b : PR0 n m f' g' c' r') : r = r' := by
  obtain ⟨co, T, a1, a2, a3, a4⟩ := a
  obtain ⟨co', T', b1, b2, b3, b4⟩ := b
  have h := LQ_uq a1 ((a2.tr (lco_ce hf hg hc)).tr b2.sy) a3 b3 0 0 (Int.le_refl _) hn (Int.le_refl _) hm
  rw [a4, b4]
  exact h
theorem PR1_uq {n m r r' : Int} {f g c f' g' c' : Int → Int} (hn : 0 ≤ n) (hm : 0 ≤ m) (hf : ∀ i, 0 ≤ i → i < n → f i = f' i) (hg : ∀ j, 0 ≤ j → j < m → g j = g' j) (hc : ∀ k, 0 ≤ k → k < 4 → c k = c' k) (a : PR1 n m f g c r) (b : PR1 n m f' g' c' r') : r = r' := by
  obtain ⟨co, T, W, a1, a2, a3, a4, a5⟩ := a
  obtain ⟨co', T', W', b1, b2, b3, b4, b5⟩ := b
  have h := LW_uq a1 ((a2.tr (lco_ce hf hg hc)).tr b2.sy) a3 b3 a4 b4 0 0 (Int.le_refl _) hn (Int.le_refl _) hm
  rw [a5, b5]
  exact h
theorem PRw_uq {n m r r' : Int} {f g c f' g' c' w w' : Int → Int} (hf : ∀ i, 0 ≤ i → i < n → f i = f' i) (hg : ∀ j, 0 ≤ j → j < m → g j = g' j) (hc : ∀ k, 0 ≤ k → k < 4 → c k = c' k) (a : PRw n m f g c w r) (b : PRw n m f' g' c' w' r') : r = r' ∧ ∀ q, 0 ≤ q → q < r → w q = w' q := by
  obtain ⟨co, T, a1, a2, a3, a4⟩ := a
  obtain ⟨co', T', b1, b2, b3, b4⟩ := b
  exact WY_uq a1 ((a2.tr (lco_ce hf hg hc)).tr b2.sy) a3 b3 a4 b4
theorem PRs_uq {n m k r r' : Int} {f g c f' g' c' : Int → Int} (hf : ∀ i, 0 ≤ i → i < n → f i = f' i) (hg : ∀ j, 0 ≤ j → j < m → g j = g' j) (hc : ∀ k, 0 ≤ k → k < 4 → c k = c' k) (a : PRs n m f g c k r) (b : PRs n m f' g' c' k r') : r = r' := by
  obtain ⟨w, l, a1, a2⟩ := a
  obtain ⟨w', l', b1, b2⟩ := b
  obtain ⟨e, h⟩ := PRw_uq hf hg hc a1 b1
  rcases a2 with ⟨p1, p2, p3⟩ | ⟨p1, p2⟩ <;> rcases b2 with ⟨q1, q2, q3⟩ | ⟨q1, q2⟩
  · rw [p3, q3]; exact h k p1 p2
  · omega
  · omega
  · omega
theorem LSx.ce {a b : Int} {μ μ' : xM} (h : LSx a b μ μ') : CE (a / 4294967296) (b / 4294967296) (cco μ') (lco (a / 4294967296) (b / 4294967296) (cmot a) (cmot b) (μ 4)) := by
  obtain ⟨e1, e2, e3, e4, e5, _⟩ := h
  unfold cco
  rw [e1, e2]
  exact lco_ce e3 e4 e5
theorem LSx.ok {a b : Int} {μ μ' : xM} (h : LSx a b μ μ') (hB : BI μ') : COk (a / 4294967296) (b / 4294967296) (cco μ') := by
  have := cco_ok hB
  rw [h.1, h.2.1] at this
  exact this
theorem LSx.lq {a b : Int} {μ μ' : xM} (h : LSx a b μ μ') : LQ (a / 4294967296) (b / 4294967296) (cco μ') (μ' 96) := by
  have := h.2.2.2.2.2
  rw [h.1, h.2.1] at this
  exact this
theorem LSx.p0 {a b r : Int} {μ μ' : xM} (h : LSx a b μ μ') (hB : BI μ') (hr : r = μ' 96 0) : PR0 (a / 4294967296) (b / 4294967296) (cmot a) (cmot b) (μ 4) r := ⟨_, _, h.ok hB, h.ce, h.lq, hr⟩
theorem LSx.p1 {a b r : Int} {μ μ' : xM} {W : Int → Int} (h : LSx a b μ μ') (hB : BI μ') (hw : LW (μ' 92 7) (μ' 92 8) (cco μ') (μ' 96) W) (hr : r = W 0) : PR1 (a / 4294967296) (b / 4294967296) (cmot a) (cmot b) (μ 4) r := by
  rw [h.1, h.2.1] at hw
  exact ⟨_, _, _, h.ok hB, h.ce, h.lq, hw, hr⟩
theorem LSx.pw {a b r : Int} {μ μ' : xM} {w : Int → Int} (h : LSx a b μ μ') (hB : BI μ') (hw : WYF (μ' 92 7) (μ' 92 8) (cco μ') (μ' 96) w r) : PRw (a / 4294967296) (b / 4294967296) (cmot a) (cmot b) (μ 4) w r := by
  rw [h.1, h.2.1] at hw
  exact ⟨_, _, h.ok hB, h.ce, h.lq, hw⟩
theorem CSr.cg {n m r : Int} {f g f' g' : Int → Int} (hf : ∀ i, 0 ≤ i → i < n → f i = f' i) (hg : ∀ j, 0 ≤ j → j < m → g j = g' j) (h : CSr n m f g r) : CSr n m f' g' r := by
  obtain ⟨S, h1, h2⟩ := h
  refine ⟨S, fun a b a0 a1 b0 b1 hab => ?_, h2⟩
  have h3 := h1 a b a0 a1 b0 b1 hab
  refine ⟨h3.1, h3.2.trans ?_⟩
  unfold csv
  by_cases e : a = n ∨ b = m
  · rw [if_pos e, if_pos e]
  · rw [if_neg e, if_neg e, hf a a0 (by omega), hg b b0 (by omega)]
theorem LSx.pc {a b r : Int} {μ μ' : xM} (h : LSx a b μ μ') (hw : CSr (μ' 92 7) (μ' 92 8) (μ' 93) (μ' 94) r) : CSr (a / 4294967296) (b / 4294967296) (cmot a) (cmot b) r := by
  rw [h.1, h.2.1] at hw
  exact hw.cg h.2.2.1 h.2.2.2.1
/-! the rows of the other -/
theorem mCo_f (μ : xM) : mCo μ = lco (μ 120 11) (μ 120 13) (μ 127) (μ 128) (fun k => μ 121 (2 + k)) := by
  funext i j s
  exact mCo_l μ i j s
theorem mCo_ok {μ : xM} (hB : BI μ) : COk (μ 120 11) (μ 120 13) (mCo μ) := by
  rw [mCo_f]
  exact lco_ok (fun k k0 k1 => (show _ ∧ _ ∧ _ ∧ _ ∧ _ from hB 121 (2 + k)).2.2.1 (by omega))
theorem mCo_ff {μ ν : xM} (h : ∀ k j, (k = 120 ∨ k = 121 ∨ k = 127 ∨ k = 128) → ν k j = μ k j) : mCo ν = mCo μ := by
  funext i j s
  exact mCo_fr h i j s
def MT (t u : Int) (μ μ' : xM) : Prop := μ' 120 11 = μ 121 (6 + t) ∧ μ' 120 13 = μ 121 (6 + u) ∧ (∀ q, 0 ≤ q → q < μ 121 (6 + t) → μ' 127 q = μ 121 (30 + 10 * t + q)) ∧ (∀ q, 0 ≤ q → q < μ 121 (6 + u) → μ' 128 q = μ 121 (30 + 10 * u + q))
theorem MT.fr {t u : Int} {μ μ1 μ2 : xM} (h : MT t u μ μ1) (hf : ∀ k q, k = 120 ∨ k = 127 ∨ k = 128 → μ2 k q = μ1 k q) : MT t u μ μ2 := by
  obtain ⟨h1, h2, h3, h4⟩ := h
  exact ⟨by rw [hf 120 11 (by omega)]; exact h1, by rw [hf 120 13 (by omega)]; exact h2, fun q a b => by rw [hf 127 q (by omega)]; exact h3 q a b, fun q a b => by rw [hf 128 q (by omega)]; exact h4 q a b⟩
def MQx (t u : Int) (μ μ' : xM) : Prop := MT t u μ μ' ∧ (∀ k, 0 ≤ k → k < 4 → μ' 121 (2 + k) = μ 121 (2 + k)) ∧ LQ (μ' 120 11) (μ' 120 13) (mCo μ') (μ' 129) ∧ LW (μ' 120 11) (μ' 120 13) (mCo μ') (μ' 129) (μ' 130)
theorem MQx.ce {t u : Int} {μ μ' : xM} (h : MQx t u μ μ') : CE (μ 121 (6 + t)) (μ 121 (6 + u)) (mCo μ') (lco (μ 121 (6 + t)) (μ 121 (6 + u)) (fun q => μ 121 (30 + 10 * t + q)) (fun q => μ 121 (30 + 10 * u + q)) (fun k => μ 121 (2 + k))) := by
  obtain ⟨⟨e1, e2, e3, e4⟩, e5, _⟩ := h
  rw [mCo_f, e1, e2]
  exact lco_ce e3 e4 e5
theorem MQx.ok {t u : Int} {μ μ' : xM} (h : MQx t u μ μ') (hB : BI μ') : COk (μ 121 (6 + t)) (μ 121 (6 + u)) (mCo μ') := by
  have := mCo_ok hB
  rw [h.1.1, h.1.2.1] at this
  exact this
theorem MQx.lq {t u : Int} {μ μ' : xM} (h : MQx t u μ μ') : LQ (μ 121 (6 + t)) (μ 121 (6 + u)) (mCo μ') (μ' 129) := by
  have := h.2.2.1
  rw [h.1.1, h.1.2.1] at this
  exact this
theorem MQx.p0 {t u r : Int} {μ μ' : xM} (h : MQx t u μ μ') (hB : BI μ') (hr : r = μ' 129 0) : PR0 (μ 121 (6 + t)) (μ 121 (6 + u)) (fun q => μ 121 (30 + 10 * t + q)) (fun q => μ 121 (30 + 10 * u + q)) (fun k => μ 121 (2 + k)) r := ⟨_, _, h.ok hB, h.ce, h.lq, hr⟩
theorem MQx.p1 {t u r : Int} {μ μ' : xM} (h : MQx t u μ μ') (hB : BI μ') (hr : r = μ' 130 0) : PR1 (μ 121 (6 + t)) (μ 121 (6 + u)) (fun q => μ 121 (30 + 10 * t + q)) (fun q => μ 121 (30 + 10 * u + q)) (fun k => μ 121 (2 + k)) r := by
  have := h.2.2.2
  rw [h.1.1, h.1.2.1] at this
  exact ⟨_, _, _, h.ok hB, h.ce, h.lq, this, hr⟩
theorem MQx.pw {t u r : Int} {μ μ' : xM} {w : Int → Int} (h : MQx t u μ μ') (hB : BI μ') (hw : WYF (μ' 120 11) (μ' 120 13) (mCo μ') (μ' 129) w r) : PRw (μ 121 (6 + t)) (μ 121 (6 + u)) (fun q => μ 121 (30 + 10 * t + q)) (fun q => μ 121 (30 + 10 * u + q)) (fun k => μ 121 (2 + k)) w r := by
  rw [h.1.1, h.1.2.1] at hw
  exact ⟨_, _, h.ok hB, h.ce, h.lq, hw⟩
theorem CPr.cg {n m r : Int} {f g f' g' : Int → Int} (hf : ∀ i, 0 ≤ i → i < n → f i = f' i) (hg : ∀ j, 0 ≤ j → j < m → g j = g' j) (h : CPr n m f g r) : CPr n m f' g' r := by
  obtain ⟨P, h1, h2⟩ := h
  refine ⟨P, fun a b a0 a1 b0 b1 hab => ?_, h2⟩
  have h3 := h1 a b a0 a1 b0 b1 hab
  refine ⟨h3.1, h3.2.trans ?_⟩
  unfold cpv
  by_cases e : a = 0 ∨ b = 0
  · rw [if_pos e, if_pos e]
  · rw [if_neg e, if_neg e, hf (a - 1) (by omega) (by omega), hg (b - 1) (by omega) (by omega)]
theorem MT.pc {t u r : Int} {μ μ' : xM} (h : MT t u μ μ') (hw : CPr (μ' 120 11) (μ' 120 13) (μ' 127) (μ' 128) r) : CPr (μ 121 (6 + t)) (μ 121 (6 + u)) (fun q => μ 121 (30 + 10 * t + q)) (fun q => μ 121 (30 + 10 * u + q)) r := by
  rw [h.1, h.2.1] at hw
  exact hw.cg h.2.2.1 h.2.2.2
/-- both tales are there -/
abbrev TWc (t u : Int) (μ : xM) : Prop := (0 ≤ t ∧ t < μ 1 4) ∧ (0 ≤ u ∧ u < μ 1 4)
abbrev TWm (t u : Int) (ν : xM) : Prop := (0 ≤ t ∧ t < ν 121 0) ∧ (0 ≤ u ∧ u < ν 121 0)
def C_pair (t u v : Int) (μ : xM) (r : Int) : Prop := (¬ TWc t u μ ∧ r = -1000000001) ∨ (TWc t u μ ∧ ¬ (0 ≤ v ∧ v ≤ 3) ∧ r = -1000000002) ∨ (TWc t u μ ∧ v = 0 ∧ PR0 (μ 2 t / 4294967296) (μ 2 u / 4294967296) (cmot (μ 2 t)) (cmot (μ 2 u)) (μ 4) r) ∨ (TWc t u μ ∧ v = 1 ∧ PR1 (μ 2 t / 4294967296) (μ 2 u / 4294967296) (cmot (μ 2 t)) (cmot (μ 2 u)) (μ 4) r) ∨ (TWc t u μ ∧ v = 2 ∧ ∃ w, PRw (μ 2 t / 4294967296) (μ 2 u / 4294967296) (cmot (μ 2 t)) (cmot (μ 2 u)) (μ 4) w r) ∨ (TWc t u μ ∧ v = 3 ∧ CSr (μ 2 t / 4294967296) (μ 2 u / 4294967296) (cmot (μ 2 t)) (cmot (μ 2 u)) r)
def D_pair (t u v : Int) (ν : xM) (r : Int) : Prop := (¬ TWm t u ν ∧ r = -1000000001) ∨ (TWm t u ν ∧ ¬ (0 ≤ v ∧ v ≤ 3) ∧ r = -1000000002) ∨ (TWm t u ν ∧ v = 0 ∧ PR0 (ν 121 (6 + t)) (ν 121 (6 + u)) (fun q => ν 121 (30 + 10 * t + q)) (fun q => ν 121 (30 + 10 * u + q)) (fun k => ν 121 (2 + k)) r) ∨ (TWm t u ν ∧ v = 1 ∧ PR1 (ν 121 (6 + t)) (ν 121 (6 + u)) (fun q => ν 121 (30 + 10 * t + q)) (fun q => ν 121 (30 + 10 * u + q)) (fun k => ν 121 (2 + k)) r) ∨ (TWm t u ν ∧ v = 2 ∧ ∃ w, PRw (ν 121 (6 + t)) (ν 121 (6 + u)) (fun q => ν 121 (30 + 10 * t + q)) (fun q => ν 121 (30 + 10 * u + q)) (fun k => ν 121 (2 + k)) w r) ∨ (TWm t u ν ∧ v = 3 ∧ CPr (ν 121 (6 + t)) (ν 121 (6 + u)) (fun q => ν 121 (30 + 10 * t + q)) (fun q => ν 121 (30 + 10 * u + q)) r)
def C_step (t u v : Int) (μ : xM) (r : Int) : Prop := (¬ TWc t u μ ∧ r = -1000000001) ∨ (TWc t u μ ∧ PRs (μ 2 t / 4294967296) (μ 2 u / 4294967296) (cmot (μ 2 t)) (cmot (μ 2 u)) (μ 4) v r)
def D_step (t u v : Int) (ν : xM) (r : Int) : Prop := (¬ TWm t u ν ∧ r = -1000000001) ∨ (TWm t u ν ∧ PRs (ν 121 (6 + t)) (ν 121 (6 + u)) (fun q => ν 121 (30 + 10 * t + q)) (fun q => ν 121 (30 + 10 * u + q)) (fun k => ν 121 (2 + k)) v r)
