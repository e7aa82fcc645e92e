/-! ===== how far, as a function of two chains ===== -/
theorem COk.ce {n m : Int} {co co' : Int → Int → Int → Int} (h : COk n m co) (he : CE n m co co') : COk n m co' := fun i j s a b c d e f => by rw [← he i j s a b c d e f]; exact h i j s a b c d e f
theorem PR0.cg {n m r : Int} {f g c f' g' c' : Int → Int} (hf : ∀ i, 0 ≤ i → i < n → f i = f' i) (hg : ∀ j, 0 ≤ j → j < m → g j = g' j) (hc : ∀ k, 0 ≤ k → k < 4 → c k = c' k) (h : PR0 n m f g c r) : PR0 n m f' g' c' r := by
  obtain ⟨co, T, a1, a2, a3, a4⟩ := h
  exact ⟨co, T, a1, a2.tr (lco_ce hf hg hc), a3, a4⟩
theorem lsv_top {co : Int → Int → Int → Int} {T : Int → Int} {i j : Int} : ∀ k : Nat, lsv co T i j k ≤ 100000 := by
  intro k
  induction k with
  | zero => exact Int.le_refl _
  | succ k ih =>
    simp only [lsv]
    split <;> omega
theorem lsv_sub {co co' : Int → Int → Int → Int} {T T' : Int → Int} {a b i j : Int} (h : ∀ s : Nat, s < 4 → co a b (s : Int) < 100000 → ∃ s' : Nat, s' < 4 ∧ co' i j (s' : Int) = co a b (s : Int) ∧ T' (lnx i j (s' : Int)) = T (lnx a b (s : Int))) : lsv co' T' i j 4 ≤ lsv co T a b 4 := by
  by_cases hl : lsv co T a b 4 < 100000
  · obtain ⟨s, h1, h2, h3⟩ := lsv_at 4 hl
    obtain ⟨s', g1, g2, g3⟩ := h s h1 h2
    have := lsv_le (co := co') (T := T') (i := i) (j := j) 4 s' g1 (by rw [g2]; exact h2)
    rw [h3, ← g2, ← g3]
    exact this
  · have := lsv_top (co := co') (T := T') (i := i) (j := j) 4
    omega
theorem lco_s0 {n m i j : Int} {f g c : Int → Int} : lco m n g f c j i 0 = lco n m f g c i j 0 := by
  unfold lco
  rw [if_pos rfl, if_pos rfl]
  by_cases h : i < n ∧ j < m
  · rw [if_pos h, if_pos ⟨h.2, h.1⟩, lch_sy]
  · rw [if_neg h, if_neg (fun q => h ⟨q.2, q.1⟩)]
theorem lco_s1 {n m i j : Int} {f g c : Int → Int} : lco m n g f c j i 2 = lco n m f g c i j 1 := by
  unfold lco
  rw [if_neg (show ¬ (2 : Int) = 0 by decide), if_neg (show ¬ (2 : Int) = 1 by decide), if_pos rfl, if_neg (show ¬ (1 : Int) = 0 by decide), if_pos rfl]
theorem lco_s3 {n m i j : Int} {f g c : Int → Int} : lco m n g f c j i 3 = lco n m f g c i j 3 := by
  unfold lco
  rw [if_neg (show ¬ (3 : Int) = 0 by decide), if_neg (show ¬ (3 : Int) = 1 by decide), if_neg (show ¬ (3 : Int) = 2 by decide), if_neg (show ¬ (3 : Int) = 0 by decide), if_neg (show ¬ (3 : Int) = 1 by decide), if_neg (show ¬ (3 : Int) = 2 by decide)]
  by_cases h : i + 1 < n ∧ j + 1 < m ∧ f i = g (j + 1) ∧ f (i + 1) = g j ∧ ¬ f i = g j
  · rw [if_pos h, if_pos (by omega)]
  · rw [if_neg h, if_neg (by omega)]
theorem PR0.sy {n m r : Int} {f g c : Int → Int} (hn : 0 ≤ n ∧ n ≤ 10) (hm : 0 ≤ m ∧ m ≤ 10) (hc : ∀ k, 0 ≤ k → k < 4 → 0 ≤ c k ∧ c k ≤ 9) (h : PR0 n m f g c r) : PR0 m n g f c r := by
  obtain ⟨co, T, a1, a2, a3, a4⟩ := h
  have b3 : LQ n m (lco n m f g c) T := LQp.ce a2 a3
  have k1 : COk n m (lco n m f g c) := lco_ok hc
  have k2 : COk m n (lco m n g f c) := lco_ok hc
  refine ⟨lco m n g f c, fun q => T (11 * (q % 11) + q / 11), k2, fun i j s _ _ _ _ _ _ => rfl, ?_, ?_⟩
  · intro b a b0 b1 a0 a1 _
    show T (11 * ((11 * b + a) % 11) + (11 * b + a) / 11) = _
    rw [show (11 * b + a) % 11 = a by omega, show (11 * b + a) / 11 = b by omega, b3 a b a0 a1 b0 b1 (by omega)]
    have hT : ∀ s s' : Int, xOF s' = xOO s → xOO s' = xOF s → a + xOF s ≤ n → 0 ≤ xOF s → T (11 * (lnx b a s' % 11) + lnx b a s' / 11) = T (lnx a b s) := by
      intro s s' e1 e2 e3 e4
      have e5 : 11 * (lnx b a s' % 11) + lnx b a s' / 11 = lnx a b s := by
        unfold lnx
        rw [e1, e2]
        omega
      rw [e5]
    have v0 := xOF_v 0
    have w0 := xOO_v 0
    have v1 := xOF_v 1
    have w1 := xOO_v 1
    have v2 := xOF_v 2
    have w2 := xOO_v 2
    have v3 := xOF_v 3
    have w3 := xOO_v 3
    by_cases e : a = n ∧ b = m
    · rw [if_pos e, if_pos ⟨e.2, e.1⟩]
    · rw [if_neg e, if_neg (fun q => e ⟨q.2, q.1⟩)]
      refine Int.le_antisymm (lsv_sub (fun s hs hlt => ?_)) (lsv_sub (fun s hs hlt => ?_))
      · obtain ⟨g1, g2, g3⟩ := k2.nx b0 b1 a0 a1 hs hlt
        rcases (show (s : Int) = 0 ∨ (s : Int) = 1 ∨ (s : Int) = 2 ∨ (s : Int) = 3 by omega) with e | e | e | e <;> rw [e] at g1 g2 g3 ⊢
        · exact ⟨0, by omega, lco_s0.symm, (hT 0 0 (by omega) (by omega) (by omega) (by omega)).symm⟩
        · exact ⟨2, by omega, (lco_s1 (n := m) (m := n) (i := b) (j := a) (f := g) (g := f)), (hT 2 1 (by omega) (by omega) (by omega) (by omega)).symm⟩
        · exact ⟨1, by omega, lco_s1.symm, (hT 1 2 (by omega) (by omega) (by omega) (by omega)).symm⟩
        · exact ⟨3, by omega, lco_s3.symm, (hT 3 3 (by omega) (by omega) (by omega) (by omega)).symm⟩
      · obtain ⟨g1, g2, g3⟩ := k1.nx a0 a1 b0 b1 hs hlt
        rcases (show (s : Int) = 0 ∨ (s : Int) = 1 ∨ (s : Int) = 2 ∨ (s : Int) = 3 by omega) with e | e | e | e <;> rw [e] at g1 g2 g3 ⊢
        · exact ⟨0, by omega, lco_s0, hT 0 0 (by omega) (by omega) (by omega) (by omega)⟩
        · exact ⟨2, by omega, lco_s1, hT 1 2 (by omega) (by omega) (by omega) (by omega)⟩
        · exact ⟨1, by omega, (lco_s1 (n := m) (m := n) (i := b) (j := a) (f := g) (g := f)).symm, hT 2 1 (by omega) (by omega) (by omega) (by omega)⟩
        · exact ⟨3, by omega, lco_s3, hT 3 3 (by omega) (by omega) (by omega) (by omega)⟩
  · rw [a4]
    rfl
noncomputable def ed (n m : Int) (f g c : Int → Int) : Int := Classical.epsilon (fun r : Int => PR0 n m f g c r)
theorem ed_eq {n m r : Int} {f g c : Int → Int} (hn : 0 ≤ n) (hm : 0 ≤ m) (h : PR0 n m f g c r) : r = ed n m f g c := PR0_uq hn hm (fun _ _ _ => rfl) (fun _ _ _ => rfl) (fun _ _ _ => rfl) h (Classical.epsilon_spec (p := fun r : Int => PR0 n m f g c r) ⟨r, h⟩)
theorem ed_cg {n m : Int} {f g c f' g' c' : Int → Int} (hf : ∀ i, 0 ≤ i → i < n → f i = f' i) (hg : ∀ j, 0 ≤ j → j < m → g j = g' j) (hc : ∀ k, 0 ≤ k → k < 4 → c k = c' k) : ed n m f g c = ed n m f' g' c' := by
  have e : (fun r : Int => PR0 n m f g c r) = (fun r : Int => PR0 n m f' g' c' r) := funext fun r => propext ⟨PR0.cg hf hg hc, PR0.cg (fun i a b => (hf i a b).symm) (fun i a b => (hg i a b).symm) (fun i a b => (hc i a b).symm)⟩
  unfold ed
  rw [e]
theorem ed_sy {n m : Int} {f g c : Int → Int} (hn : 0 ≤ n ∧ n ≤ 10) (hm : 0 ≤ m ∧ m ≤ 10) (hc : ∀ k, 0 ≤ k → k < 4 → 0 ≤ c k ∧ c k ≤ 9) : ed n m f g c = ed m n g f c := by
  have e : (fun r : Int => PR0 n m f g c r) = (fun r : Int => PR0 m n g f c r) := funext fun r => propext ⟨PR0.sy hn hm hc, PR0.sy hm hn hc⟩
  unfold ed
  rw [e]
noncomputable def edc (μ : xM) (t u : Int) : Int := ed (μ 2 t / 4294967296) (μ 2 u / 4294967296) (cmot (μ 2 t)) (cmot (μ 2 u)) (μ 4)
noncomputable def edm (ν : xM) (t u : Int) : Int := ed (ν 121 (6 + t)) (ν 121 (6 + u)) (fun q => ν 121 (30 + 10 * t + q)) (fun q => ν 121 (30 + 10 * u + q)) (fun k => ν 121 (2 + k))
theorem edc_fr {μ μ' : xM} (h2 : ∀ j, μ' 2 j = μ 2 j) (h4 : ∀ j, μ' 4 j = μ 4 j) : edc μ' = edc μ := by
  funext t u
  unfold edc
  rw [h2 t, h2 u, show μ' 4 = μ 4 from funext h4]
theorem edm_fr {ν ν' : xM} (h : ∀ j, ν' 121 j = ν 121 j) : edm ν' = edm ν := by
  funext t u
  unfold edm
  simp only [h]
theorem edc_sy {μ : xM} (hB : BI μ) (t u : Int) : edc μ t u = edc μ u t := by
  have ht : 0 ≤ μ 2 t ∧ μ 2 t ≤ 47244640255 := hB 2 t
  have hu : 0 ≤ μ 2 u ∧ μ 2 u ≤ 47244640255 := hB 2 u
  exact ed_sy (by omega) (by omega) (fun k _ _ => (show 0 ≤ μ 4 k ∧ μ 4 k ≤ 9 from hB 4 k))
/-! least of some -/
def sme (D : Int → Int) (s : Int) : Nat → Int
  | 0 => 0
  | k + 1 => if xand (xshr s (k : Int)) 1 = 1 then sme D s k + D (k : Int) else sme D s k
theorem sme_cg {D D' : Int → Int} {s : Int} : ∀ n : Nat, (∀ k : Nat, k < n → xand (xshr s (k : Int)) 1 = 1 → D (k : Int) = D' (k : Int)) → sme D s n = sme D' s n := by
  intro n
  induction n with
  | zero => intro _; rfl
  | succ n ih =>
    intro h
    simp only [sme]
    rw [ih (fun k hk => h k (by omega))]
    by_cases e : xand (xshr s (n : Int)) 1 = 1
    · rw [if_pos e, if_pos e, h n (by omega) e]
    · rw [if_neg e, if_neg e]
theorem sme_ext {D : Int → Int} {s : Int} {n : Nat} : ∀ d : Nat, (∀ k : Nat, n ≤ k → k < n + d → ¬ xand (xshr s (k : Int)) 1 = 1) → sme D s (n + d) = sme D s n := by
  intro d
  induction d with
  | zero => intro _; rfl
  | succ d ih =>
    intro h
    show sme D s ((n + d) + 1) = _
    simp only [sme]
    rw [if_neg (h (n + d) (by omega) (by omega)), ih (fun k a b => h k a (by omega))]
theorem sme_up {D : Int → Int} {s v v' k : Int} (h : v = sme D s k.toNat) (h0 : 0 ≤ k) (hc : (xand (xshr s k) 1 = 1 ∧ v' = v + D k) ∨ (¬ xand (xshr s k) 1 = 1 ∧ v' = v)) : v' = sme D s (k + 1).toNat := by
  rw [show (k + 1).toNat = k.toNat + 1 by omega]
  simp only [sme]
  rw [Int.toNat_of_nonneg h0, ← h]
  rcases hc with ⟨a, b⟩ | ⟨a, b⟩
  · rw [if_pos a, b]
  · rw [if_neg a, b]
def mnf (p : Int → Bool) (d : Int → Int) : Nat → Int × Int
  | 0 => (-1, 0)
  | k + 1 => if p (k : Int) = true ∧ ((mnf p d k).1 = -1 ∨ d (k : Int) < (mnf p d k).2) then ((k : Int), d (k : Int)) else mnf p d k
theorem mnf_cg {p p' : Int → Bool} {d d' : Int → Int} : ∀ n : Nat, (∀ k : Nat, k < n → p (k : Int) = p' (k : Int) ∧ (p (k : Int) = true → d (k : Int) = d' (k : Int))) → mnf p d n = mnf p' d' n := by
  intro n
  induction n with
  | zero => intro _; rfl
  | succ n ih =>
    intro h
    obtain ⟨h1, h2⟩ := h n (by omega)
    simp only [mnf]
    rw [ih (fun k hk => h k (by omega)), ← h1]
    by_cases e : p (n : Int) = true
    · rw [h2 e]
    · rw [if_neg (fun q => e q.1), if_neg (fun q => e q.1)]
theorem mnf_ext {p : Int → Bool} {d : Int → Int} {n : Nat} : ∀ q : Nat, (∀ k : Nat, n ≤ k → k < n + q → ¬ p (k : Int) = true) → mnf p d (n + q) = mnf p d n := by
  intro q
  induction q with
  | zero => intro _; rfl
  | succ q ih =>
    intro h
    show mnf p d ((n + q) + 1) = _
    simp only [mnf]
    rw [if_neg (fun z => h (n + q) (by omega) (by omega) z.1), ih (fun k a b => h k a (by omega))]
def mnC (p : Int → Bool) (d : Int → Int) (k : Nat) (q l : Int) : Prop := q = (mnf p d k).1 ∧ l = (mnf p d k).2
def mnM (p : Int → Bool) (d : Int → Int) (k : Nat) (q l : Int) : Prop := q = (mnf p d k).1 ∧ ((q = -1 ∧ l = 100000) ∨ (¬ q = -1 ∧ l = (mnf p d k).2))
theorem mnC.up {p : Int → Bool} {d : Int → Int} {k q l q' l' : Int} (h : mnC p d k.toNat q l) (h0 : 0 ≤ k) (hc : (p k = true ∧ (q = -1 ∨ d k < l) ∧ q' = k ∧ l' = d k) ∨ (¬ (p k = true ∧ (q = -1 ∨ d k < l)) ∧ q' = q ∧ l' = l)) : mnC p d (k + 1).toNat q' l' := by
  rw [show (k + 1).toNat = k.toNat + 1 by omega]
  obtain ⟨h1, h2⟩ := h
  unfold mnC
  simp only [mnf]
  rw [Int.toNat_of_nonneg h0, ← h1, ← h2]
  rcases hc with ⟨a, b, c, e⟩ | ⟨a, c, e⟩
  · rw [if_pos ⟨a, b⟩]
    exact ⟨c, e⟩
  · rw [if_neg a]
    exact ⟨c.trans h1, e.trans h2⟩
theorem mnM.up {p : Int → Bool} {d : Int → Int} {k q l q' l' : Int} (h : mnM p d k.toNat q l) (h0 : 0 ≤ k) (hd : p k = true → d k < 100000) (hc : (p k = true ∧ d k < l ∧ q' = k ∧ l' = d k) ∨ (¬ (p k = true ∧ d k < l) ∧ q' = q ∧ l' = l)) : mnM p d (k + 1).toNat q' l' := by
  rw [show (k + 1).toNat = k.toNat + 1 by omega]
  obtain ⟨h1, h2⟩ := h
  unfold mnM
  simp only [mnf]
  rw [Int.toNat_of_nonneg h0, ← h1]
  rcases hc with ⟨a, b, c, e⟩ | ⟨a, c, e⟩
  · rw [if_pos ⟨a, by rcases h2 with ⟨x, y⟩ | ⟨x, y⟩; exact Or.inl x; exact Or.inr (by rw [← y]; exact b)⟩]
    exact ⟨c, Or.inr ⟨by omega, e⟩⟩
  · rw [if_neg (fun z => a ⟨z.1, by have := hd z.1; rcases h2 with ⟨x, y⟩ | ⟨x, y⟩; omega; rcases z.2 with w | w; exact absurd w x; rw [y]; exact w⟩)]
    rw [c, e]
    exact ⟨h1, h2⟩
theorem bit_v : ∀ s : Nat, s < 256 → ∀ k : Nat, k < 8 → xand (xshr (s : Int) (k : Int)) 1 = ((s / 2 ^ k % 2 : Nat) : Int) := by decide +kernel
theorem bit_hi {s n : Int} (h0 : 0 ≤ s) (hs : s ≤ xshl 1 n - 1) (hn0 : 0 ≤ n) (hn : n ≤ 8) {k : Nat} (hk : n.toNat ≤ k) (h8 : k < 8) : ¬ xand (xshr s (k : Int)) 1 = 1 := by
  obtain ⟨m, rfl⟩ := Int.eq_ofNat_of_zero_le hn0
  obtain ⟨q, rfl⟩ := Int.eq_ofNat_of_zero_le h0
  rw [xsh1 m (by omega)] at hs
  have e : ((2 ^ m : Nat) : Int) = (2 : Int) ^ m := by simp
  have h1 : q < 2 ^ m := by omega
  have h2 : 2 ^ m ≤ 2 ^ k := Nat.pow_le_pow_right (by decide) (by omega)
  have h3 : 2 ^ m ≤ 2 ^ 8 := Nat.pow_le_pow_right (by decide) (by omega)
  rw [bit_v q (by omega) k h8, Nat.div_eq_of_lt (by omega)]
  decide
/-! what is measured -/
def DT (μ : xM) : Prop := ∀ t u, 0 ≤ t → t < μ 1 4 → 0 ≤ u → u < μ 1 4 → μ 101 (8 * t + u) = edc μ t u
theorem DT.cg {μ μ' : xM} (h : DT μ) (h1 : μ' 1 4 = μ 1 4) (h2 : ∀ j, μ' 2 j = μ 2 j) (h4 : ∀ j, μ' 4 j = μ 4 j) (h5 : ∀ j, μ' 101 j = μ 101 j) : DT μ' := by
  intro t u a b c d
  rw [edc_fr h2 h4, h5]
  rw [h1] at b d
  exact h t u a b c d
def Mz (μ : xM) : Prop := μ 0 9 = 0 ∨ DT μ
theorem Mz.cg {μ μ' : xM} (h : Mz μ) (h0 : μ' 0 9 = μ 0 9) (h1 : μ' 1 4 = μ 1 4) (h2 : ∀ j, μ' 2 j = μ 2 j) (h4 : ∀ j, μ' 4 j = μ 4 j) (h5 : ∀ j, μ' 101 j = μ 101 j) : Mz μ' := by
  rcases h with h | h
  · exact Or.inl (h0.trans h)
  · exact Or.inr (h.cg h1 h2 h4 h5)
/-- what lining up touches; what measuring touches; what growing the tree touches -/
def LF (k : Nat) (_ : Int) : Prop := 92 ≤ k ∧ k ≤ 99
def MSf (k : Nat) (_ : Int) : Prop := 92 ≤ k ∧ k ≤ 101
def AF (k : Nat) (j : Int) : Prop := (127 ≤ k ∧ k ≤ 130) ∨ (k = 120 ∧ (j = 11 ∨ j = 13))
def GF (k : Nat) (_ : Int) : Prop := 102 ≤ k ∧ k ≤ 106
theorem Mz.lf {μ μ' : xM} (h : Mz μ) (hf : Fr LF μ μ') : Mz μ' := h.cg (hf _ _ (by unfold LF; omega)) (hf _ _ (by unfold LF; omega)) (fun j => hf _ _ (by unfold LF; omega)) (fun j => hf _ _ (by unfold LF; omega)) (fun j => hf _ _ (by unfold LF; omega))
theorem Mz.mf {μ μ' : xM} (h : Mz μ) (hf : Fr MF μ μ') : Mz μ' := h.cg (hf _ _ (by unfold MF; omega)) (hf _ _ (by unfold MF; omega)) (fun j => hf _ _ (by unfold MF; omega)) (fun j => hf _ _ (by unfold MF; omega)) (fun j => hf _ _ (by unfold MF; omega))
theorem Mz.rm {μ μ' : xM} (h : Mz μ) (hf : Fr RM μ μ') : Mz μ' := h.cg (hf _ _ (by unfold RM; omega)) (hf _ _ (by unfold RM; omega)) (fun j => hf _ _ (by unfold RM; omega)) (fun j => hf _ _ (by unfold RM; omega)) (fun j => hf _ _ (by unfold RM; omega))
theorem lf_ro {μ μ' : xM} (h : Fr LF μ μ') : Fr RO μ μ' := h.sub (fun k j hk => by unfold LF at hk; unfold RO; omega)
/-- the middle of a set, by what is measured -/
abbrev btf (s : Int) : Int → Bool := fun k => decide (xand (xshr s k) 1 = 1)
theorem mid_x {n : Nat} {s : Int} {D E : Int → Int → Int} (hn : n ≤ 8) (hb : ∀ k : Nat, n ≤ k → k < 8 → ¬ xand (xshr s (k : Int)) 1 = 1) (hD : ∀ a b : Nat, a < n → b < n → D (a : Int) (b : Int) = E (a : Int) (b : Int)) : (mnf (btf s) (fun a => sme (D a) s 8) 8).1 = (mnf (btf s) (fun a => sme (E a) s n) n).1 := by
  obtain ⟨d, hd⟩ : ∃ d, 8 = n + d := ⟨8 - n, by omega⟩
  have e1 : ∀ a, sme (D a) s 8 = sme (D a) s n := fun a => by
    rw [hd]
    exact sme_ext d (fun k h1 h2 => hb k h1 (by omega))
  have e2 : mnf (btf s) (fun a => sme (D a) s 8) 8 = mnf (btf s) (fun a => sme (D a) s 8) n := by
    have := mnf_ext (p := btf s) (d := fun a => sme (D a) s 8) (n := n) d (fun k h1 h2 => by
      have := hb k h1 (by omega)
      simp only [btf, decide_eq_true_eq]
      exact this)
    rw [← hd] at this
    exact this
  rw [e2]
  refine congrArg Prod.fst (mnf_cg n (fun k hk => ⟨rfl, fun _ => ?_⟩))
  show sme (D (k : Int)) s 8 = sme (E (k : Int)) s n
  rw [e1]
  exact sme_cg n (fun j hj _ => hD k j hk hj)
theorem mid_c {μ : xM} {s : Int} (hB : BI μ) (hD : DT μ) (h0 : 0 ≤ s) (hs : s ≤ xshl 1 (μ 1 4) - 1) : (mnf (btf s) (fun a => sme (fun b => μ 101 (8 * a + b)) s 8) 8).1 = (mnf (btf s) (fun a => sme (edc μ a) s (μ 1 4).toNat) (μ 1 4).toNat).1 := by
  have h8 : 0 ≤ μ 1 4 ∧ μ 1 4 ≤ 8 := (show _ ∧ _ from hB 1 4).1 (by omega)
  exact mid_x (D := fun a b => μ 101 (8 * a + b)) (E := edc μ) (by omega) (fun k h1 h2 => bit_hi h0 hs h8.1 h8.2 h1 h2) (fun a b ha hb => hD a b (by omega) (by omega) (by omega) (by omega))
/-- the first that is bad -/
def FWr (sz : Int) (bad : Int → Prop) (r : Int) : Prop := (0 ≤ r ∧ r < sz ∧ bad r ∧ ∀ q, 0 ≤ q → q < r → ¬ bad q) ∨ (r = -1 ∧ ∀ q, 0 ≤ q → q < sz → ¬ bad q)
theorem FW_uq {sz r r' : Int} {bad bad' : Int → Prop} (hb : ∀ q, 0 ≤ q → q < sz → (bad q ↔ bad' q)) (h : FWr sz bad r) (h' : FWr sz bad' r') : r = r' := by
  rcases h with ⟨a1, a2, a3, a4⟩ | ⟨a1, a2⟩ <;> rcases h' with ⟨b1, b2, b3, b4⟩ | ⟨b1, b2⟩
  · rcases (show r < r' ∨ r = r' ∨ r' < r by omega) with e | e | e
    · exact absurd ((hb r a1 a2).mp a3) (b4 r a1 e)
    · exact e
    · exact absurd ((hb r' b1 b2).mpr b3) (a4 r' b1 e)
  · exact absurd ((hb r a1 a2).mp a3) (b2 r a1 a2)
  · exact absurd ((hb r' b1 b2).mpr b3) (a2 r' b1 b2)
  · omega
def badc (μ : xM) (k : Int) : Prop := ¬ (μ 89 k < μ 1 4 ∧ μ 90 k < μ 1 4) ∨ ¬ edc μ (μ 89 k) (μ 90 k) = μ 91 k
def badm (ν : xM) (k : Int) : Prop := ¬ ((0 ≤ ν 126 (3 * k) ∧ ν 126 (3 * k) < ν 121 0) ∧ (0 ≤ ν 126 (3 * k + 1) ∧ ν 126 (3 * k + 1) < ν 121 0)) ∨ ¬ edm ν (ν 126 (3 * k)) (ν 126 (3 * k + 1)) = ν 126 (3 * k + 2)
noncomputable def edt (μ : xM) (t : Int) : Int := ed (μ 0 7 / 4294967296) (μ 2 t / 4294967296) (cmot (μ 0 7)) (cmot (μ 2 t)) (μ 4)
noncomputable def edn (ν : xM) (t : Int) : Int := ed (ν 121 (6 + t)) (ν 120 6) (fun q => ν 121 (30 + 10 * t + q)) (fun q => ν 125 q) (fun k => ν 121 (2 + k))
noncomputable def lkc (μ : xM) : Int := if μ 0 7 / 4294967296 = 0 then -1 else (mnf (fun _ => true) (edt μ) (μ 1 4).toNat).1
noncomputable def lkm (ν : xM) : Int := if ν 120 6 = 0 then -1 else (mnf (fun _ => true) (edn ν) (ν 121 0).toNat).1
def C_middle (t : Int) (μ : xM) (r : Int) : Prop := (¬ (0 ≤ t ∧ t ≤ xshl 1 (μ 1 4) - 1) ∧ r = -1000000001) ∨ ((0 ≤ t ∧ t ≤ xshl 1 (μ 1 4) - 1) ∧ r = (mnf (btf t) (fun a => sme (edc μ a) t (μ 1 4).toNat) (μ 1 4).toNat).1)
def D_middle (t : Int) (ν : xM) (r : Int) : Prop := (¬ (0 ≤ t ∧ t ≤ xshl 1 (ν 121 0) - 1) ∧ r = -1000000001) ∨ ((0 ≤ t ∧ t ≤ xshl 1 (ν 121 0) - 1) ∧ r = (mnf (btf t) (fun a => sme (edm ν a) t (ν 121 0).toNat) (ν 121 0).toNat).1)
def C_told (w : Int) (μ : xM) (r : Int) : Prop := (w = 0 ∧ r = μ 1 4) ∨ (w = 1 ∧ r = μ 0 7 / 4294967296) ∨ (w = 2 ∧ r = μ 1 5) ∨ (w = 3 ∧ r = if 0 < μ 1 4 then μ 1 4 - 1 else 0) ∨ (w = 4 ∧ r = lkc μ) ∨ (w = 5 ∧ r = mal (xshl 1 (μ 1 4) - 1) (fun t => mos (cmot (μ 2 t)) (μ 2 t / 4294967296).toNat) (μ 1 4).toNat) ∨ (w = 6 ∧ r = μ 88 3) ∨ (w = 7 ∧ FWr (μ 88 3) (badc μ) r) ∨ (w = 8 ∧ r = μ 6 1) ∨ (¬ (0 ≤ w ∧ w ≤ 8) ∧ r = -1000000002)
def D_told (w : Int) (ν : xM) (r : Int) : Prop := (w = 0 ∧ r = ν 121 0) ∨ (w = 1 ∧ r = ν 120 6) ∨ (w = 2 ∧ r = ν 121 1) ∨ (w = 3 ∧ r = if 0 < ν 121 0 then ν 121 0 - 1 else 0) ∨ (w = 4 ∧ r = lkm ν) ∨ (w = 5 ∧ r = mal 255 (fun t => mos (fun i => ν 121 (30 + 10 * t + i)) (ν 121 (6 + t)).toNat) (ν 121 0).toNat) ∨ (w = 6 ∧ r = ν 120 8) ∨ (w = 7 ∧ FWr (ν 120 8) (badm ν) r) ∨ (w = 8 ∧ r = ν 120 2) ∨ (¬ (0 ≤ w ∧ w ≤ 8) ∧ r = -1000000002)
/-! measuring, step by step -/
def mzI (μ M : xM) (t u : Int) : Prop := ∀ a b, 0 ≤ a → a < μ 1 4 → 0 ≤ b → b < μ 1 4 → (a < t ∨ b < t ∨ (a = t ∧ b < u) ∨ (b = t ∧ a < u)) → M 101 (8 * a + b) = edc μ a b
theorem mzI.go {μ M M0 M1 M2 : xM} {t u v w : Int} (h : mzI μ M t u) (h8 : μ 1 4 ≤ 8) (h0 : ∀ q, M0 101 q = M 101 q) (e1 : M1 = xup M0 101 (t * 8 + u) v) (e2 : M2 = xup M1 101 (u * 8 + t) w) (hv : v = edc μ t u) (hw : w = v) (hsy : edc μ u t = edc μ t u) (ht : 0 ≤ t) (hu : t ≤ u) (hu8 : u ≤ 7) : mzI μ M2 t (u + 1) := by
  intro a b a0 a1 b0 b1 hab
  rw [e2]
  by_cases q1 : 8 * a + b = u * 8 + t
  · rw [q1, xup_s, hw, hv, show a = u by omega, show b = t by omega, hsy]
  · rw [xup_j q1, e1]
    by_cases q2 : 8 * a + b = t * 8 + u
    · rw [q2, xup_s, hv, show a = t by omega, show b = u by omega]
    · rw [xup_j q2, h0]
      exact h a b a0 a1 b0 b1 (by omega)
theorem mzI.nx {μ M : xM} {t u : Int} (h : mzI μ M t u) (hu : μ 1 4 ≤ u) : mzI μ M (t + 1) (t + 1) := fun a b a0 a1 b0 b1 hab => h a b a0 a1 b0 b1 (by omega)
theorem mzI.fin {μ M : xM} {t : Int} (h : mzI μ M t t) (hf : Fr MSf μ M) (ht : μ 1 4 ≤ t) : DT M := by
  intro a b a0 a1 b0 b1
  have e : M 1 4 = μ 1 4 := hf 1 4 (by unfold MSf; omega)
  rw [e] at a1 b1
  rw [edc_fr (μ := μ) (fun j => hf 2 j (by unfold MSf; omega)) (fun j => hf 4 j (by unfold MSf; omega))]
  exact h a b a0 a1 b0 b1 (by omega)
def FDm (ν : xM) : Prop := ∀ t u, 0 ≤ t → t < ν 121 0 → 0 ≤ u → u < ν 121 0 → ν 133 (8 * t + u) = edm ν t u
def mfI (μ M : xM) (t u : Int) : Prop := ∀ a b, 0 ≤ a → a < μ 121 0 → 0 ≤ b → b < μ 121 0 → (a < t ∨ (a = t ∧ b < u)) → M 133 (8 * a + b) = edm μ a b
theorem mfI.go {μ M M0 M1 : xM} {t u v : Int} (h : mfI μ M t u) (h8 : μ 121 0 ≤ 8) (h0 : ∀ q, M0 133 q = M 133 q) (e1 : M1 = xup M0 133 (8 * t + u) v) (hv : v = edm μ t u) (ht : 0 ≤ t) (hu : 0 ≤ u) (hu8 : u ≤ 7) : mfI μ M1 t (u + 1) := by
  intro a b a0 a1 b0 b1 hab
  rw [e1]
  by_cases q2 : 8 * a + b = 8 * t + u
  · rw [q2, xup_s, hv, show a = t by omega, show b = u by omega]
  · rw [xup_j q2, h0]
    exact h a b a0 a1 b0 b1 (by omega)
theorem mfI.nx {μ M : xM} {t u : Int} (h : mfI μ M t u) (hu : μ 121 0 ≤ u) : mfI μ M (t + 1) 0 := fun a b a0 a1 b0 b1 hab => h a b a0 a1 b0 b1 (by omega)
theorem mfI.fin {μ M : xM} {t : Int} (h : mfI μ M t 0) (hf : Fr RM μ M) (ht : μ 121 0 ≤ t) : FDm M := by
  intro a b a0 a1 b0 b1
  have e : M 121 0 = μ 121 0 := hf 121 0 (by unfold RM; omega)
  rw [e] at a1 b1
  rw [edm_fr (ν := μ) (fun j => hf 121 j (by unfold RM; omega))]
  exact h a b a0 a1 b0 b1 (by omega)
theorem mid_m {ν : xM} {s : Int} (hD : FDm ν) : (mnf (btf s) (fun a => sme (fun b => ν 133 (8 * a + b)) s (ν 121 0).toNat) (ν 121 0).toNat).1 = (mnf (btf s) (fun a => sme (edm ν a) s (ν 121 0).toNat) (ν 121 0).toNat).1 := by
  refine congrArg Prod.fst (mnf_cg _ (fun k hk => ⟨rfl, fun _ => ?_⟩))
  exact sme_cg _ (fun j hj _ => hD k j (by omega) (by omega) (by omega) (by omega))
theorem bi_len {ν : xM} (h : BI ν) {t : Int} (h0 : 0 ≤ t) (h1 : t < 8) : 0 ≤ ν 121 (6 + t) ∧ ν 121 (6 + t) ≤ 10 := (show _ ∧ _ ∧ _ ∧ _ ∧ _ from h 121 (6 + t)).2.2.2.1 (by omega)
theorem badc_ro {μ μ' : xM} (h : Fr RO μ μ') : badc μ' = badc μ := by
  funext k
  unfold badc
  rw [edc_fr (μ := μ) (fun j => h 2 j (by unfold RO; omega)) (fun j => h 4 j (by unfold RO; omega)), h 89 k (by unfold RO; omega), h 90 k (by unfold RO; omega), h 91 k (by unfold RO; omega), h 1 4 (by unfold RO; omega)]

/-- a tale lined up with what is typed -/
theorem like_pr {μ M M27 M1 M52 M56 : xM} {t n y r : Int} (hT : MT t t M M27) (e1 : M1 = xup M27 120 13 n) (e2 : M52 = xbr M1 125 0 128 0 y) (hG : Fr LN M52 M56) (hB : BI M56) (hB2 : BI M52) (hQ : LQ (M52 120 11) (M52 120 13) (mCo M52) (M56 129)) (hr : r = M56 129 0) (hn : n = μ 120 6) (hy : y = n) (g1 : ∀ q, M 121 q = μ 121 q) (g2 : ∀ q, M 125 q = μ 125 q) (g3 : ∀ q, M27 125 q = M 125 q) (g4 : ∀ q, M27 121 q = M 121 q) (h0 : 0 ≤ n) : PR0 (μ 121 (6 + t)) (μ 120 6) (fun q => μ 121 (30 + 10 * t + q)) (fun q => μ 125 q) (fun k => μ 121 (2 + k)) r := by
  obtain ⟨t1, _, t3, _⟩ := hT
  have f : ∀ k q, k ≠ 128 → M52 k q = M1 k q := fun k q hk => by rw [e2]; exact congrFun (xbr_c hk) q
  have c11 : M52 120 11 = μ 121 (6 + t) := by rw [f 120 11 (by decide), e1, xup_j (by omega), t1, g1]
  have c13 : M52 120 13 = μ 120 6 := by rw [f 120 13 (by decide), e1, xup_s, hn]
  have d1 : ∀ q, 0 ≤ q → q < μ 121 (6 + t) → M52 127 q = μ 121 (30 + 10 * t + q) := fun q a b => by
    rw [f 127 q (by decide), e1, congrFun (xup_c (by decide)) q, t3 q a (by rw [g1]; exact b), g1]
  have d2 : ∀ q, 0 ≤ q → q < μ 120 6 → M52 128 q = μ 125 q := fun q a b => by
    rw [e2]
    refine (if_pos ⟨rfl, by omega, by omega⟩).trans ?_
    rw [e1, congrFun (xup_c (by decide)) _, g3, g2, show (0 : Int) + (q - 0) = q by omega]
  have d3 : ∀ k, 0 ≤ k → k < 4 → M52 121 (2 + k) = μ 121 (2 + k) := fun k _ _ => by
    rw [f 121 _ (by decide), e1, congrFun (xup_c (by decide)) _, g4, g1]
  have ok := mCo_ok hB2
  have ce : CE (M52 120 11) (M52 120 13) (mCo M52) (lco (M52 120 11) (M52 120 13) (fun q => μ 121 (30 + 10 * t + q)) (fun q => μ 125 q) (fun k => μ 121 (2 + k))) := by
    rw [mCo_f]
    exact lco_ce (fun i a b => d1 i a (by rw [← c11]; exact b)) (fun i a b => d2 i a (by rw [← c13]; exact b)) d3
  rw [c11, c13] at ok ce hQ
  exact ⟨_, _, ok, ce, hQ, hr⟩
