/-! ===== locals: a value a place, or nothing known ===== -/
abbrev xLoc : Type := List (Option xV)
def xLo (ls : Array Slot) (nL : Nat) (lo : xLoc) (ad : Nat → Nat) : Prop := ls.size = nL ∧ lv_wf ls ∧ ∀ (i : Nat) (v : xV), lo[i]? = some (some v) → ls[i]? = some (.val (xt ad v))
def xll (lo : xLoc) (ad : Nat → Nat) : List (Nat × Value) := (List.range lo.length).filterMap fun i => match lo[i]? with
  | some (some v) => some (i, xt ad v)
  | _ => none
theorem xll_mem {lo : xLoc} {ad : Nat → Nat} {i : Nat} {v : xV} (h : lo[i]? = some (some v)) : (i, xt ad v) ∈ xll lo ad := by
  refine List.mem_filterMap.mpr ⟨i, List.mem_range.mpr (List.getElem?_eq_some_iff.mp h).1, ?_⟩
  rw [h]
theorem xll_inv {lo : xLoc} {ad : Nat → Nat} {q : Nat × Value} (h : q ∈ xll lo ad) : ∃ v, lo[q.1]? = some (some v) ∧ q.2 = xt ad v := by
  obtain ⟨i, -, hi⟩ := List.mem_filterMap.mp h
  split at hi
  · rename_i v hv
    cases hi
    exact ⟨v, hv, rfl⟩
  · cases hi
theorem xLo.has {ls : Array Slot} {nL : Nat} {lo : xLoc} {ad : Nat → Nat} (h : xLo ls nL lo ad) : lv_has ls nL (xll lo ad) := by
  refine ⟨h.1, h.2.1, fun q hq => ?_⟩
  obtain ⟨v, h1, h2⟩ := xll_inv hq
  rw [h2]
  exact h.2.2 _ _ h1
/-- is it a long -/
def xlg (o : Option (Option xV)) : Bool := match o with
  | some (some (.inr (.inl _))) => true
  | _ => false
theorem xlg_cat {ad : Nat → Nat} {v : xV} (h : xlg (some (some v)) = false) : ¬ (xt ad v).category = 2 := by
  match v with
  | .inl _ => simp [xt, Value.category]
  | .inr (.inl _) => simp [xlg] at h
  | .inr (.inr (.inl _)) => simp [xt, Value.category]
  | .inr (.inr (.inr _)) => simp [xt, Value.category]
/-- the locals behind a store at a place, of one word -/
def xs1 (lo : xLoc) (i : Nat) (v : xV) : xLoc := match i with
  | 0 => lo.set 0 (some v)
  | j + 1 => if xlg lo[j]? then (lo.set j none).set (j + 1) (some v) else lo.set (j + 1) (some v)
/-- .. of two words -/
def xs2 (lo : xLoc) (i : Nat) (v : xV) : xLoc := (xs1 lo i v).set (i + 1) none
theorem xs1_get {lo : xLoc} {i j : Nat} {v u : xV} (h : (xs1 lo i v)[j]? = some (some u)) : (j = i ∧ u = v) ∨ (j ≠ i ∧ lo[j]? = some (some u) ∧ (j + 1 = i → xlg lo[j]? = false)) := by
  cases i with
  | zero =>
    by_cases hj : j = 0
    · subst hj
      simp only [xs1] at h
      have hl := (List.getElem?_eq_some_iff.mp h).1
      rw [List.length_set] at hl
      rw [List.getElem?_set_self hl] at h
      exact Or.inl ⟨rfl, by cases h; rfl⟩
    · simp only [xs1] at h
      rw [List.getElem?_set_ne (fun q => hj q.symm)] at h
      exact Or.inr ⟨hj, h, fun q => by omega⟩
  | succ i =>
    by_cases hj : j = i + 1
    · subst hj
      refine Or.inl ⟨rfl, ?_⟩
      have hl := (List.getElem?_eq_some_iff.mp h).1
      simp only [xs1] at h hl
      split at h
      · rename_i hx
        rw [if_pos hx, List.length_set] at hl
        rw [List.getElem?_set_self (by simpa using hl)] at h
        cases h; rfl
      · rename_i hx
        rw [if_neg hx, List.length_set] at hl
        rw [List.getElem?_set_self hl] at h
        cases h; rfl
    · refine Or.inr ⟨hj, ?_⟩
      simp only [xs1] at h
      split at h
      · rw [List.getElem?_set_ne (fun q => hj q.symm)] at h
        by_cases hji : j = i
        · subst hji
          have hl := (List.getElem?_eq_some_iff.mp h).1
          rw [List.length_set] at hl
          rw [List.getElem?_set_self hl] at h
          cases h
        · rw [List.getElem?_set_ne (fun q => hji q.symm)] at h
          exact ⟨h, fun q => by omega⟩
      · rename_i hx
        rw [List.getElem?_set_ne (fun q => hj q.symm)] at h
        refine ⟨h, fun q => ?_⟩
        have : j = i := by omega
        subst this
        simpa using hx
theorem xLo.of1 {ls : Array Slot} {nL : Nat} {lo : xLoc} {ad : Nat → Nat} {i : Nat} {v : xV} (h : lv_has ls nL ((i, xt ad v) :: (xll lo ad).filter (fun q => !(q.1 == i) && !(q.1 + 1 == i && q.2.category == 2)))) : xLo ls nL (xs1 lo i v) ad := by
  refine ⟨h.1, h.2.1, fun j u hj => ?_⟩
  rcases xs1_get hj with ⟨rfl, rfl⟩ | ⟨h1, h2, h3⟩
  · exact h.2.2 (j, xt ad u) List.mem_cons_self
  · refine h.2.2 (j, xt ad u) (List.mem_cons_of_mem _ (List.mem_filter.mpr ⟨xll_mem h2, ?_⟩))
    simp only [Bool.and_eq_true, Bool.not_eq_true', beq_eq_false_iff_ne, ne_eq, Bool.and_eq_false_iff]
    refine ⟨h1, ?_⟩
    by_cases h4 : j + 1 = i
    · exact Or.inr (xlg_cat (by rw [← h2]; exact h3 h4))
    · exact Or.inl h4
theorem xLo.of2 {ls : Array Slot} {nL : Nat} {lo : xLoc} {ad : Nat → Nat} {i : Nat} {v : xV} (h : lv_has ls nL ((i, xt ad v) :: (xll lo ad).filter (fun q => !(q.1 == i) && (!(q.1 == i + 1) && !(q.1 + 1 == i && q.2.category == 2))))) : xLo ls nL (xs2 lo i v) ad := by
  refine ⟨h.1, h.2.1, fun j u hj => ?_⟩
  by_cases hji : j = i + 1
  · subst hji
    simp only [xs2] at hj
    have hl := (List.getElem?_eq_some_iff.mp hj).1
    rw [List.length_set] at hl
    rw [List.getElem?_set_self hl] at hj
    cases hj
  · simp only [xs2] at hj
    rw [List.getElem?_set_ne (fun q => hji q.symm)] at hj
    rcases xs1_get hj with ⟨rfl, rfl⟩ | ⟨h1, h2, h3⟩
    · exact h.2.2 (j, xt ad u) List.mem_cons_self
    · refine h.2.2 (j, xt ad u) (List.mem_cons_of_mem _ (List.mem_filter.mpr ⟨xll_mem h2, ?_⟩))
      simp only [Bool.and_eq_true, Bool.not_eq_true', beq_eq_false_iff_ne, ne_eq, Bool.and_eq_false_iff]
      refine ⟨h1, hji, ?_⟩
      by_cases h4 : j + 1 = i
      · exact Or.inr (xlg_cat (by rw [← h2]; exact h3 h4))
      · exact Or.inl h4
/-- less is known -/
theorem xLo.less {ls : Array Slot} {nL : Nat} {lo lo' : xLoc} {ad : Nat → Nat} (h : xLo ls nL lo ad) (hl : ∀ (i : Nat) (v : xV), lo'[i]? = some (some v) → lo[i]? = some (some v)) : xLo ls nL lo' ad := ⟨h.1, h.2.1, fun i v hv => h.2.2 i v (hl i v hv)⟩
/-! ===== the walk of a method ===== -/
/-- a method's end -/
def xQ (g : xG) (w0 : xW) (ad0 : Nat → Nat) (A : Nat → Prop) (K : Option xV → xW → xM → Prop) : Array Value → State → Outcome → State → Prop := fun _ st oc t =>
  (∃ (r : Option xV) (w : xW) (μ : xM) (ad : Nat → Nat), oc = .returned (r.map (xt ad)) ∧ K r w μ ∧ w0.1 ≤ w.1 ∧ (∀ k, k < w0.1 → ad k = ad0 k) ∧ (w.1 = w0.1 → ad = ad0) ∧ va_P g.1 vwCl (xw g w μ ad) t.heap ∧ va_D A (xw g w μ ad) ∧ xok w μ) ∧ va_F A st t
/-- what a method needs -/
def xPre (g : xG) (w : xW) (μ : xM) (ad : Nat → Nat) (sz : Nat) (U : State) : Prop := U.heap.size = sz ∧ xTab U ∧ va_K g.1 vwCl (xtys g) U ∧ xSt g (xAs w ad sz) U U.heap ∧ va_P g.1 vwCl (xw g w μ ad) U.heap ∧ va_D (fun _ => True) (xw g w μ ad) ∧ xok w μ
theorem xPre.moved {g : xG} {w : xW} {μ : xM} {ad : Nat → Nat} {sz : Nat} {s U : State} (h : xPre g w μ ad sz s) (hW : s.WarmedH U.vm) (hh : U.heap = s.heap) : xPre g w μ ad sz U := by
  obtain ⟨h1, h2, h3, h4, h5, h6, h7⟩ := h
  exact ⟨by rw [hh]; exact h1, h2.warm hW, va_K.moved hW.alike h3, by rw [hh]; exact h4.moved hW.alike, by rw [hh]; exact h5, h6, h7⟩
/-- a method's contract -/
def xMet (y : MethodName) (cc : ByteArray) (maxL : Nat) (ret : Option FieldType) (fr lc mc ms : Nat) (av : List xV) (w : xW) (μ : xM) (K : Option xV → xW → xM → Prop) : Prop :=
  ∀ (l : Launch) (g : xG) (ad : Nat → Nat) (sz : Nat), Met l y [.code y cc maxL ret] { frames := fr, cells := mc, slots := ms, locals := lc } (va_Pc (av.map (xt ad)) (xPre g w μ ad sz)) (xQ g w ad (xAs w ad sz) K) mc ms (xAs w ad sz)
def xX (p : Program) (l : Launch) (e : Env) (R : Room) (s : State) (m : MethodId) (args : Array Value) (below : List Frame) (meth : Method) (c : Code) (g : xG) (w0 : xW) (ad0 : Nat → Nat) (A : Nat → Prop) (nL : Nat) (Q : State → Prop) (cu su : Nat) (w : xW) (μ : xM) (pc : Nat) (lo : xLoc) (st : List xV) : Prop :=
  ∀ (H : Heap) (locs : List Loc) (ls : Array Slot) (ad : Nat → Nat), w0.1 ≤ w.1 → (∀ k, k < w0.1 → ad k = ad0 k) → (w.1 = w0.1 → ad = ad0) → va_P g.1 vwCl (xw g w μ ad) H → va_D A (xw g w μ ad) → va_S A s.heap H locs → xok w μ → xLo ls nL lo ad →
    W p l e R s m args below meth c H locs cu su Q (F0 m pc ls (st.map (xt ad)))
def xCx (p : Program) (s : State) (m : MethodId) (c : Code) (cc : ByteArray) (nL : Nat) (own : String) (g : xG) (A : Nat → Prop) : Prop := p.tables.exec = Jvm.exec ∧ c.code = cc ∧ c.maxLocals = nL ∧ s.vm.findClass own = some m.cls ∧ xTab s ∧ va_K g.1 vwCl (xtys g) s ∧ xSt g A s s.heap ∧ ∀ q, s.heap.size ≤ q → A q
/-- X is the walk of a method: of class own, with these bytes, this room, this end -/
def Lg (own nm : String) (cc : ByteArray) (nL : Nat) (R : Room) (ret : Option FieldType) (mc ms : Nat) (K : Option xV → xW → xM → Prop) (X : Nat → Nat → xW → xM → Nat → xLoc → List xV → Prop) : Prop :=
  ∃ (p : Program) (l : Launch) (e : Env) (s : State) (m : MethodId) (args : Array Value) (below : List Frame) (meth : Method) (c : Code) (g : xG) (w0 : xW) (ad0 : Nat → Nat) (A : Nat → Prop),
    xCx p s m c cc nL own g A ∧ meth.sig.returnType = ret ∧ meth.locks = false ∧ meth.name = nm ∧ X = xX p l e R s m args below meth c g w0 ad0 A nL (MQ below (xQ g w0 ad0 A K) args s mc ms A)
/-- the arguments' places -/
def xpl : List xV → xLoc
  | [] => []
  | .inr (.inl x) :: l => some (.inr (.inl x)) :: none :: xpl l
  | v :: l => some v :: xpl l
theorem xpl_args (ad : Nat → Nat) : ∀ (av : List xV) (o i : Nat) (v : xV), (xpl av)[i]? = some (some v) → (o + i, xt ad v) ∈ lv_args o (av.map (xt ad)) := by
  intro av
  induction av with
  | nil => intro o i v h; simp [xpl] at h
  | cons a l ih =>
    intro o i v h
    match a, h with
    | .inl x, h =>
      cases i with
      | zero =>
        simp only [xpl, List.getElem?_cons_zero, Option.some.injEq] at h
        subst h
        simp [lv_args, xt]
      | succ i =>
        simp only [xpl, List.getElem?_cons_succ] at h
        have := ih (o + 1) i v h
        simp only [List.map_cons, xt, lv_args, Value.category] at this ⊢
        rw [show o + (i + 1) = o + 1 + i by omega]
        exact List.mem_cons_of_mem _ this
    | .inr (.inl x), h =>
      match i, h with
      | 0, h =>
        simp only [xpl, List.getElem?_cons_zero, Option.some.injEq] at h
        subst h
        simp [lv_args, xt]
      | 1, h => simp [xpl] at h
      | i + 2, h =>
        simp only [xpl, List.getElem?_cons_succ] at h
        have := ih (o + 2) i v h
        simp only [List.map_cons, xt, lv_args, Value.category] at this ⊢
        rw [show o + (i + 2) = o + 2 + i by omega]
        exact List.mem_cons_of_mem _ this
    | .inr (.inr (.inl x)), h =>
      cases i with
      | zero =>
        simp only [xpl, List.getElem?_cons_zero, Option.some.injEq] at h
        subst h
        simp [lv_args, xt]
      | succ i =>
        simp only [xpl, List.getElem?_cons_succ] at h
        have := ih (o + 1) i v h
        simp only [List.map_cons, xt, lv_args, Value.category] at this ⊢
        rw [show o + (i + 1) = o + 1 + i by omega]
        exact List.mem_cons_of_mem _ this
    | .inr (.inr (.inr x)), h =>
      cases i with
      | zero =>
        simp only [xpl, List.getElem?_cons_zero, Option.some.injEq] at h
        subst h
        simp [lv_args, xt]
      | succ i =>
        simp only [xpl, List.getElem?_cons_succ] at h
        have := ih (o + 1) i v h
        simp only [List.map_cons, xt, lv_args, Value.category] at this ⊢
        rw [show o + (i + 1) = o + 1 + i by omega]
        exact List.mem_cons_of_mem _ this
def xwd (av : List xV) : Nat := (av.map (fun v => match v with | .inr (.inl _) => 2 | _ => 1)).sum
theorem xpl_len (ad : Nat → Nat) : ∀ av : List xV, (lg_sl (av.map (xt ad))).length = (xpl av).length := by
  intro av
  induction av with
  | nil => rfl
  | cons a l ih =>
    match a with
    | .inl x => simp [lg_sl, xpl, xt, Value.category] at ih ⊢; omega
    | .inr (.inl x) => simp [lg_sl, xpl, xt, Value.category] at ih ⊢; omega
    | .inr (.inr (.inl x)) => simp [lg_sl, xpl, xt, Value.category] at ih ⊢; omega
    | .inr (.inr (.inr x)) => simp [lg_sl, xpl, xt, Value.category] at ih ⊢; omega
/-- a contract out of a walk -/
theorem xMet.of {y : MethodName} {cc : ByteArray} {maxL : Nat} {ret : Option FieldType} {fr lc mc ms : Nat} {av : List xV} {w : xW} {μ : xM} {K : Option xV → xW → xM → Prop} (hy : plainName y.cls = true) (lo : xLoc) (hlen : (xpl av).length ≤ maxL) (hlo : xpl av ++ List.replicate (maxL - (xpl av).length) none = lo)
    (body : ∀ X, Lg y.cls y.name cc maxL { frames := fr, cells := mc, slots := ms, locals := lc } ret mc ms K X → X 0 0 w μ 0 lo []) : xMet y cc maxL ret fr lc mc ms av w μ K := by
  intro l g ad sz
  refine Met.ofW (cc := cc) (maxL := maxL) (ret := ret) hy rfl ?_
  intro p e s m args below meth c s₁ B hml hv
  obtain ⟨rfl, hsz, hT, hK, hS, hP, hD, hok⟩ := hv
  have hX := body (xX p l e { frames := fr, cells := mc, slots := ms, locals := lc } s m (av.map (xt ad)).toArray below meth c g w ad (xAs w ad sz) maxL (MQ below (xQ g w ad (xAs w ad sz) K) (av.map (xt ad)).toArray s mc ms (xAs w ad sz))) ⟨p, l, e, s, m, (av.map (xt ad)).toArray, below, meth, c, g, w, ad, xAs w ad sz, ⟨B.exec, B.bytes, hml, findClass_of_methodNamed B.named, hT, hK, hS, fun q h => Or.inr (by omega)⟩, B.returns, B.notSynchronized, (name_of_methodNamed B.named B.method).1, rfl⟩
  rw [lg_entry_eq]
  refine hX s.heap [] _ ad (Nat.le_refl _) (fun _ _ => rfl) (fun _ => rfl) hP (hD.weaken fun k q hq _ => ?_) va_S.rf hok ?_
  · obtain ⟨hk, rfl⟩ := xw_inv hq
    exact Or.inl ⟨k, hk, rfl⟩
  · have hent := lv_entry (av.map (xt ad)) (n := maxL) (by rw [xpl_len]; exact hlen)
    refine ⟨hent.1, hent.2.1, fun i v hv => ?_⟩
    rw [← hlo] at hv
    by_cases hi : i < (xpl av).length
    · rw [List.getElem?_append_left hi] at hv
      have := hent.2.2 _ (xpl_args ad av 0 i v hv)
      rwa [Nat.zero_add] at this
    · rw [List.getElem?_append_right (by omega)] at hv
      have := List.eq_of_mem_replicate (List.mem_of_getElem? hv)
      cases this
