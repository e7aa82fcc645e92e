/-! ===== the tree, in the rows of both ===== -/
def cD (μ : xM) : Int → Int → Int := fun t u => μ 101 (8 * t + u)
def mDd (ν : xM) : Int → Int → Int := fun t u => ν 133 (8 * t + u)
theorem cD_fr {μ μ' : xM} (h : ∀ j, μ' 101 j = μ 101 j) : cD μ' = cD μ := by
  funext t u
  exact h _
theorem mDd_fr {μ μ' : xM} (h : ∀ j, μ' 133 j = μ 133 j) : mDd μ' = mDd μ := by
  funext t u
  exact h _
theorem cD_bd {μ : xM} (hB : BI μ) (t k : Nat) : 0 ≤ cD μ (t : Int) (k : Int) ∧ cD μ (t : Int) (k : Int) ≤ 180 := (show 0 ≤ μ 101 (8 * (t : Int) + (k : Int)) ∧ μ 101 (8 * (t : Int) + (k : Int)) ≤ 180 from hB 101 _)
theorem mDd_bd {μ : xM} (hB : BI μ) (t k : Nat) : 0 ≤ mDd μ (t : Int) (k : Int) ∧ mDd μ (t : Int) (k : Int) ≤ 180 := (show 0 ≤ μ 133 (8 * (t : Int) + (k : Int)) ∧ μ 133 (8 * (t : Int) + (k : Int)) ≤ 180 from hB 133 _)
def nrc (q : Int) (μ : xM) : Int → Int → Int := fun i j => nrv q (cD μ) (μ 106 i) (μ 106 j)
def ptc (q : Int) (μ : xM) : Int → Int → Int := fun i j => ptv q (μ 106 i) (μ 106 j)
def fnE (q : Int) (μ M : xM) (p : Int × Int) : Prop := M 102 9 = p.1 ∧ M 102 10 = p.2 ∧ M 102 7 = nrc q μ p.1 p.2 ∧ M 102 8 = ptc q μ p.1 p.2
def FN (k : Nat) (j : Int) : Prop := k = 102 ∧ 5 ≤ j ∧ j ≤ 10
theorem fnE.up {q i j : Int} {μ M M' : xM} {acc : Int × Int} (h : fnE q μ M (pkJ (nrc q μ) (ptc q μ) i acc j.toNat)) (h0 : 0 ≤ j) (hij : i < j) (hc : (nrc q μ i j * M 102 8 < M 102 7 * ptc q μ i j ∧ M' 102 9 = i ∧ M' 102 10 = j ∧ M' 102 7 = nrc q μ i j ∧ M' 102 8 = ptc q μ i j) ∨ (¬ nrc q μ i j * M 102 8 < M 102 7 * ptc q μ i j ∧ M' 102 9 = M 102 9 ∧ M' 102 10 = M 102 10 ∧ M' 102 7 = M 102 7 ∧ M' 102 8 = M 102 8)) : fnE q μ M' (pkJ (nrc q μ) (ptc q μ) i acc (j + 1).toNat) := by
  obtain ⟨e1, e2, e3, e4⟩ := h
  have hp : pkJ (nrc q μ) (ptc q μ) i acc j.toNat = (M 102 9, M 102 10) := Prod.ext e1.symm e2.symm
  have n1 : nrc q μ (M 102 9) (M 102 10) = M 102 7 := by rw [e1, e2]; exact e3.symm
  have n2 : ptc q μ (M 102 9) (M 102 10) = M 102 8 := by rw [e1, e2]; exact e4.symm
  rcases hc with ⟨a1, a2, a3, a4, a5⟩ | ⟨a1, a2, a3, a4, a5⟩
  · rw [pkJ_up (a' := i) (b' := j) hp h0 hij (Or.inl ⟨by rw [n1, n2]; exact a1, rfl, rfl⟩)]
    exact ⟨a2, a3, a4, a5⟩
  · rw [pkJ_up (a' := M 102 9) (b' := M 102 10) hp h0 hij (Or.inr ⟨by rw [n1, n2]; exact a1, rfl, rfl⟩)]
    exact ⟨a2, a3, by rw [a4]; exact n1.symm, by rw [a5]; exact n2.symm⟩
theorem fnE.one {q i j l : Int} {μ M' : xM} (hi : i = 0) (hj : j = 1) (a2 : M' 102 9 = i) (a3 : M' 102 10 = j) (a4 : M' 102 7 = nrc q μ i j) (a5 : M' 102 8 = ptc q μ i j) : fnE q μ M' (pkJ (nrc q μ) (ptc q μ) i (pkO (nrc q μ) (ptc q μ) l.toNat i.toNat) (j + 1).toNat) := by
  subst hi
  subst hj
  show fnE q μ M' (pkJ (nrc q μ) (ptc q μ) 0 (0, 1) 2)
  rw [pk_first]
  exact ⟨a2, a3, a4, a5⟩
/-- two types joined, in the rows of the one -/
def jnI (μ M : xM) (a b i : Int) : Prop := ∀ q, 0 ≤ q → q < 8 → M 106 q = (if b ≤ q ∧ q < i then μ 106 (q + 1) else if q = a then xor' (μ 106 a) (μ 106 b) else μ 106 q)
theorem jnI.go {μ M M' : xM} {a b i z : Int} (h : jnI μ M a b i) (e : M' = xup M 106 i z) (hz : z = M 106 (i + 1)) (hb : b ≤ i) (hab : a < b) (h0 : 0 ≤ i) (h7 : i < 7) : jnI μ M' a b (i + 1) := by
  intro q q0 q1
  have h1 := h (i + 1) (by omega) (by omega)
  rw [if_neg (by omega), if_neg (by omega)] at h1
  rw [e]
  by_cases c : q = i
  · rw [c, xup_s, hz, h1, if_pos (by omega)]
  · rw [xup_j c, h q q0 q1]
    by_cases d : b ≤ q ∧ q < i
    · rw [if_pos d, if_pos (show b ≤ q ∧ q < i + 1 by omega)]
    · rw [if_neg d, if_neg (show ¬ (b ≤ q ∧ q < i + 1) by omega)]
theorem jnI.fin {μ M : xM} {a b i l : Int} (h : jnI μ M a b i) (hi : l - 1 ≤ i) (hab : a < b) (hl : l ≤ 8) : ∀ q, 0 ≤ q → q < l - 1 → M 106 q = tyJ (μ 106) a b q := by
  intro q q0 q1
  rw [h q q0 (by omega)]
  unfold tyJ
  by_cases c : q = a
  · rw [if_neg (show ¬ (b ≤ q ∧ q < i) by omega), if_pos c, if_pos c]
  · by_cases d : q < b
    · rw [if_neg (show ¬ (b ≤ q ∧ q < i) by omega), if_neg c, if_neg c, if_pos d]
    · rw [if_pos (show b ≤ q ∧ q < i by omega), if_neg c, if_neg d]
def jnE (μ μ' : xM) (l : Int) : Prop := μ' 102 4 = μ 102 4 + 1 ∧ μ' 103 (μ 102 4) = μ 102 7 / μ 102 8 ∧ μ' 105 (μ 102 4) = μ 106 (μ 102 9) ∧ μ' 104 (μ 102 4) = xor' (μ 106 (μ 102 9)) (μ 106 (μ 102 10)) ∧ (∀ j, j ≠ μ 102 4 → μ' 103 j = μ 103 j ∧ μ' 104 j = μ 104 j ∧ μ' 105 j = μ 105 j) ∧ ∀ q, 0 ≤ q → q < l - 1 → μ' 106 q = tyJ (μ 106) (μ 102 9) (μ 102 10) q
/-- how far the tree has grown -/
def trI (kd : Int) (D : Int → Int → Int) (c : Nat) (M : xM) (k : Nat) : Prop := (∀ q, 0 ≤ q → q < (c : Int) - (k : Int) → M 106 q = tyn kd D c k q) ∧ ∀ n : Nat, n < k → M 103 (n : Int) = htn kd D c n ∧ M 104 (n : Int) = whn kd D c n ∧ M 105 (n : Int) = ltn kd D c n
theorem trI.go {kd : Int} {c k : Nat} {μ M M1 M2 : xM} (h : trI kd (cD μ) c M k) (hk : k + 2 ≤ c) (h4 : M1 102 4 = (k : Int)) (hf : Fr FN M M1) (hD : cD M = cD μ) (hp : fnE kd M M1 (pkO (nrc kd M) (ptc kd M) (c - k) (c - k))) (hj : jnE M1 M2 ((c : Int) - (k : Int))) : trI kd (cD μ) c M2 (k + 1) := by
  obtain ⟨h1, h2⟩ := h
  obtain ⟨j1, j2, j3, j4, j5, j6⟩ := hj
  have f6 : ∀ q, M1 106 q = M 106 q := fun q => hf 106 q (by unfold FN; omega)
  have hn : pkO (nrc kd M) (ptc kd M) (c - k) (c - k) = pkn kd (cD μ) c k := by
    unfold pkn pkt
    refine pkO_cg (fun i j i0 ij jl => ?_) (fun i j i0 ij jl => ?_) (by omega) (c - k)
    · show nrv kd (cD M) (M 106 i) (M 106 j) = _
      rw [hD, h1 i i0 (by omega), h1 j (by omega) (by omega)]
    · show ptv kd (M 106 i) (M 106 j) = _
      rw [h1 i i0 (by omega), h1 j (by omega) (by omega)]
  rw [hn] at hp
  obtain ⟨p1, p2, p3, p4⟩ := hp
  obtain ⟨g1, g2, g3⟩ := pkn_in (kd := kd) (D := cD μ) hk
  have t1 : M 106 (pkn kd (cD μ) c k).1 = tyn kd (cD μ) c k (pkn kd (cD μ) c k).1 := h1 _ g1 (by omega)
  have t2 : M 106 (pkn kd (cD μ) c k).2 = tyn kd (cD μ) c k (pkn kd (cD μ) c k).2 := h1 _ (by omega) (by omega)
  unfold nrc at p3
  unfold ptc at p4
  rw [hD, t1, t2] at p3
  rw [t1, t2] at p4
  refine ⟨fun q q0 q1 => ?_, fun n hn => ?_⟩
  · rw [j6 q q0 (by omega), p1, p2, show M1 106 = M 106 from funext f6]
    show _ = tyJ (tyn kd (cD μ) c k) (pkn kd (cD μ) c k).1 (pkn kd (cD μ) c k).2 q
    unfold tyJ
    rw [t1, t2]
    split
    · rfl
    · split
      · exact h1 q q0 (by omega)
      · exact h1 (q + 1) (by omega) (by omega)
  · by_cases e : n = k
    · subst e
      rw [h4] at j2 j3 j4
      rw [j2, j4, j3, p1, p2, f6, f6, p3, p4, t1, t2]
      exact ⟨rfl, rfl, rfl⟩
    · obtain ⟨x1, x2, x3⟩ := j5 (n : Int) (by omega)
      rw [x1, x2, x3, hf 103 _ (by unfold FN; omega), hf 104 _ (by unfold FN; omega), hf 105 _ (by unfold FN; omega)]
      exact h2 n (by omega)
def TRc (μ : xM) (kd c : Int) (D : Int → Int → Int) : Prop := ∀ n : Int, 0 ≤ n → n < c - 1 → μ 103 n = htn kd D c.toNat n.toNat ∧ μ 104 n = whn kd D c.toNat n.toNat ∧ μ 105 n = ltn kd D c.toNat n.toNat
theorem trI.fin {kd c : Int} {D : Int → Int → Int} {M : xM} {k : Nat} (h : trI kd D c.toNat M k) (hk : c - 1 ≤ (k : Int)) : TRc M kd c D := by
  intro n n0 n1
  have := h.2 n.toNat (by omega)
  rw [Int.toNat_of_nonneg n0] at this
  exact this
theorem TRc.cg {μ μ' : xM} {kd c : Int} {D E : Int → Int → Int} (h : TRc μ kd c D) (hc : c ≤ 8) (hf : ∀ k j, 103 ≤ k → k ≤ 105 → μ' k j = μ k j) (hD : ∀ i j : Nat, (i : Int) < c → (j : Int) < c → D (i : Int) (j : Int) = E (i : Int) (j : Int)) : TRc μ' kd c E := by
  intro n n0 n1
  obtain ⟨a1, a2, a3⟩ := h n n0 n1
  obtain ⟨b1, b2, b3⟩ := tree_cg (kd := kd) (c := c.toNat) (by omega) (fun i j hi hj => hD i j (by omega) (by omega)) n.toNat (by omega)
  rw [hf 103 n (by omega) (by omega), hf 104 n (by omega) (by omega), hf 105 n (by omega) (by omega), a1, a2, a3, b1, b2, b3]
  exact ⟨rfl, rfl, rfl⟩
/-! the rows of the other -/
def nrm (ν : xM) : Int → Int → Int := fun i j => nrv (ν 121 1) (mDd ν) (ν 134 i) (ν 134 j)
def ptm (ν : xM) : Int → Int → Int := fun i j => ptv (ν 121 1) (ν 134 i) (ν 134 j)
def tmI (kd : Int) (D : Int → Int → Int) (c : Nat) (M : xM) (k : Nat) : Prop := (∀ q, 0 ≤ q → q < (c : Int) - (k : Int) → M 134 q = tyn kd D c k q) ∧ ∀ n : Nat, n < k → M 137 (n : Int) = htn kd D c n ∧ M 135 (n : Int) = whn kd D c n ∧ M 136 (n : Int) = ltn kd D c n
/-- two types joined, in the rows of the other -/
theorem jm_ty {μ M1 M2 M3 : xM} {a b z m n : Int} (ha : 0 ≤ a) (hab : a < b) (hbm : b < m) (e1 : M1 = xup μ 134 a z) (hz : z = xor' (μ 134 a) (μ 134 b)) (e2 : M2 = xup M1 120 20 (m - 1)) (hn : n = m - 1 - b) (e3 : M3 = xbr M2 134 (b + 1) 134 b n) : ∀ q, 0 ≤ q → q < m - 1 → M3 134 q = tyJ (μ 134) a b q := by
  intro q q0 q1
  have k2 : ∀ r, M2 134 r = if r = a then z else μ 134 r := fun r => by rw [e2, congrFun (xup_c (by decide)) _, e1]; simp [xup]
  unfold tyJ
  by_cases hq : q < b
  · rw [e3, xbr_j (by omega), k2]
    by_cases c : q = a
    · rw [if_pos c, if_pos c, hz]
    · rw [if_neg c, if_neg c, if_pos hq]
  · have : M3 134 q = M2 134 (b + 1 + (q - b)) := by
      rw [e3]
      exact if_pos ⟨rfl, by omega, by omega⟩
    rw [this, k2, if_neg (by omega), if_neg (by omega), if_neg hq, show b + 1 + (q - b) = q + 1 by omega]
def jmE (μ μ' : xM) (n : Int) : Prop := ∃ p : Int × Int, p = pkO (nrm μ) (ptm μ) (μ 120 20).toNat (μ 120 20).toNat ∧ μ' 137 n = nrm μ p.1 p.2 / ptm μ p.1 p.2 ∧ μ' 135 n = xor' (μ 134 p.1) (μ 134 p.2) ∧ μ' 136 n = μ 134 p.1 ∧ (∀ j, j ≠ n → μ' 137 j = μ 137 j ∧ μ' 135 j = μ 135 j ∧ μ' 136 j = μ 136 j) ∧ ∀ q, 0 ≤ q → q < μ 120 20 - 1 → μ' 134 q = tyJ (μ 134) p.1 p.2 q
theorem tmI.go {kd : Int} {D : Int → Int → Int} {c k : Nat} {M M2 : xM} (h : tmI kd D c M k) (hk : k + 2 ≤ c) (h2 : M 120 20 = (c : Int) - (k : Int)) (hkd : M 121 1 = kd) (hD : mDd M = D) (hj : jmE M M2 (k : Int)) : tmI kd D c M2 (k + 1) := by
  obtain ⟨h1, h3⟩ := h
  obtain ⟨p, hp, j2, j4, j3, j5, j6⟩ := hj
  have el : (M 120 20).toNat = c - k := by omega
  have hn : p = pkn kd D c k := by
    rw [hp, el]
    unfold pkn pkt
    refine pkO_cg (fun i j i0 ij jl => ?_) (fun i j i0 ij jl => ?_) (by omega) (c - k)
    · show nrv (M 121 1) (mDd M) (M 134 i) (M 134 j) = _
      rw [hD, hkd, h1 i i0 (by omega), h1 j (by omega) (by omega)]
    · show ptv (M 121 1) (M 134 i) (M 134 j) = _
      rw [hkd, h1 i i0 (by omega), h1 j (by omega) (by omega)]
  rw [hn] at j2 j3 j4 j6
  obtain ⟨g1, g2, g3⟩ := pkn_in (kd := kd) (D := D) hk
  have t1 : M 134 (pkn kd D c k).1 = tyn kd D c k (pkn kd D c k).1 := h1 _ g1 (by omega)
  have t2 : M 134 (pkn kd D c k).2 = tyn kd D c k (pkn kd D c k).2 := h1 _ (by omega) (by omega)
  unfold nrm ptm at j2
  rw [hD, hkd, t1, t2] at j2
  refine ⟨fun q q0 q1 => ?_, fun n hn => ?_⟩
  · rw [j6 q q0 (by omega)]
    show _ = tyJ (tyn kd D c k) (pkn kd D c k).1 (pkn kd D c k).2 q
    unfold tyJ
    rw [t1, t2]
    split
    · rfl
    · split
      · exact h1 q q0 (by omega)
      · exact h1 (q + 1) (by omega) (by omega)
  · by_cases e : n = k
    · subst e
      rw [j2, j4, j3, t1, t2]
      exact ⟨rfl, rfl, rfl⟩
    · obtain ⟨x1, x2, x3⟩ := j5 (n : Int) (by omega)
      rw [x1, x2, x3]
      exact h3 n (by omega)
def TRm (ν : xM) (kd c : Int) (D : Int → Int → Int) : Prop := ∀ n : Int, 0 ≤ n → n < c - 1 → ν 137 n = htn kd D c.toNat n.toNat ∧ ν 135 n = whn kd D c.toNat n.toNat ∧ ν 136 n = ltn kd D c.toNat n.toNat
theorem tmI.fin {kd c : Int} {D E : Int → Int → Int} {M : xM} {k : Nat} (h : tmI kd D c.toNat M k) (hk : c - 1 ≤ (k : Int)) (hc : c ≤ 8) (hD : ∀ i j : Nat, (i : Int) < c → (j : Int) < c → D (i : Int) (j : Int) = E (i : Int) (j : Int)) : TRm M kd c E := by
  intro n n0 n1
  obtain ⟨a1, a2, a3⟩ := h.2 n.toNat (by omega)
  rw [Int.toNat_of_nonneg n0] at a1 a2 a3
  obtain ⟨b1, b2, b3⟩ := tree_cg (kd := kd) (c := c.toNat) (by omega) (fun i j hi hj => hD i j (by omega) (by omega)) n.toNat (by omega)
  rw [a1, a2, a3, b1, b2, b3]
  exact ⟨rfl, rfl, rfl⟩
noncomputable def mdw (D : Int → Int → Int) (c : Nat) (s : Int) : Int := (mnf (btf s) (fun a => sme (D a) s c) c).1
def C_node (t u : Int) (μ : xM) (r : Int) : Prop := (¬ (0 ≤ t ∧ t < μ 1 4 - 1) ∧ r = -1000000001) ∨ ((0 ≤ t ∧ t < μ 1 4 - 1) ∧ ((u = 0 ∧ r = htn (μ 1 5) (edc μ) (μ 1 4).toNat t.toNat) ∨ (u = 1 ∧ r = whn (μ 1 5) (edc μ) (μ 1 4).toNat t.toNat) ∨ (u = 2 ∧ r = ltn (μ 1 5) (edc μ) (μ 1 4).toNat t.toNat) ∨ (u = 3 ∧ r = mdw (edc μ) (μ 1 4).toNat (whn (μ 1 5) (edc μ) (μ 1 4).toNat t.toNat)) ∨ (¬ (0 ≤ u ∧ u ≤ 3) ∧ r = -1000000002)))
def D_node (t u : Int) (ν : xM) (r : Int) : Prop := (¬ (0 ≤ t ∧ t < ν 121 0 - 1) ∧ r = -1000000001) ∨ ((0 ≤ t ∧ t < ν 121 0 - 1) ∧ ((u = 0 ∧ r = htn (ν 121 1) (edm ν) (ν 121 0).toNat t.toNat) ∨ (u = 1 ∧ r = whn (ν 121 1) (edm ν) (ν 121 0).toNat t.toNat) ∨ (u = 2 ∧ r = ltn (ν 121 1) (edm ν) (ν 121 0).toNat t.toNat) ∨ (u = 3 ∧ r = mdw (edm ν) (ν 121 0).toNat (whn (ν 121 1) (edm ν) (ν 121 0).toNat t.toNat)) ∨ (¬ (0 ≤ u ∧ u ≤ 3) ∧ r = -1000000002)))
theorem fnE.bd {q l : Int} {μ M : xM} {p : Int × Int} (h : fnE q μ M p) (hp : pin l.toNat p) (hT : ∀ k, 0 ≤ k → k < l → 1 ≤ μ 106 k ∧ μ 106 k ≤ 255) (hD : ∀ t k : Nat, 0 ≤ cD μ (t : Int) (k : Int) ∧ cD μ (t : Int) (k : Int) ≤ 180) : (0 ≤ M 102 7 ∧ M 102 7 ≤ 11520) ∧ (1 ≤ M 102 8 ∧ M 102 8 ≤ 64) ∧ 0 ≤ M 102 9 ∧ M 102 9 < M 102 10 ∧ M 102 10 < l := by
  obtain ⟨e1, e2, e3, e4⟩ := h
  obtain ⟨p1, p2, p3⟩ := hp
  have t1 := hT p.1 p1 (by omega)
  have t2 := hT p.2 (by omega) (by omega)
  have b1 : 0 ≤ nrc q μ p.1 p.2 ∧ nrc q μ p.1 p.2 ≤ 11520 := nr_bd hD (nez_of t1.1 t1.2) (nez_of t2.1 t2.2)
  have b2 : 1 ≤ ptc q μ p.1 p.2 ∧ ptc q μ p.1 p.2 ≤ 64 := pt_bd (nez_of t1.1 t1.2) (nez_of t2.1 t2.2)
  rw [← e3] at b1
  rw [← e4] at b2
  exact ⟨b1, b2, by omega, by omega, by omega⟩
theorem pkO_s {nr pt : Int → Int → Int} {i : Int} {l : Nat} (h0 : 0 ≤ i) : pkO nr pt l (i + 1).toNat = pkJ nr pt i (pkO nr pt l i.toNat) l := by
  rw [show (i + 1).toNat = i.toNat + 1 by omega]
  simp only [pkO]
  rw [Int.toNat_of_nonneg h0]
def JF (k : Nat) (j : Int) : Prop := k = 134 ∨ (k = 120 ∧ j = 20)
def JO (k : Nat) (j : Int) : Prop := (134 ≤ k ∧ k ≤ 137) ∨ (k = 120 ∧ j = 20)
theorem vs_nez {c : Nat} {x : Int} (hc : c ≤ 8) (h : vs c x) : nez x := by
  have := vs_255 hc h
  exact nez_of this.1 this.2
theorem mid_w {D E : Int → Int → Int} {c : Nat} {s : Int} (hc : c ≤ 8) (hs : vs c s) (hD : ∀ a b : Nat, a < c → b < c → D (a : Int) (b : Int) = E (a : Int) (b : Int)) : (mnf (btf s) (fun a => sme (D a) s 8) 8).1 = mdw E c s := mid_x hc (vs_hi hc hs) hD
theorem FDm.cg {ν ν' : xM} (h : FDm ν) (h1 : ∀ j, ν' 121 j = ν 121 j) (h2 : ∀ j, ν' 133 j = ν 133 j) : FDm ν' := by
  intro t u a b c d
  rw [h1] at b d
  rw [edm_fr h1, h2]
  exact h t u a b c d
