-- ===== end of PART A; then your names; then what follows =====
/-! THE CLAIM OUT OF ONE WALK OF THE LAW'S BODY. Your part is whole_start (and what it stands on); all else here is the same for every law, but numbers. -/
def R_law : String := "TaleTypesLaw"
def lw_P (b : Addr) (xs : List Int32) (args : Array Value) (s : State) : Prop := args = #[.ref b] ∧ s.IntsAt b xs ∧ xs.length ≤ 2048 ∧ (Jvm.Cond.and given_1 narrow_1).before args s = true
def lw_Q (_ : Array Value) (s : State) (o : Outcome) (t : State) : Prop := o = .returned (some (.int 1)) ∧ Framed s o t [] 600000 7302250
def lw_Z (below : List Frame) (a : Array Value) (s : State) : State → Prop := fun t => ∃ o, t.status = .running ∧ Ended t below o ∧ lw_Q a s o t
/-- the law's own end, with 1 on the stack, nothing written that was there before, its room as the claim has it -/
theorem lw_ret {p : Program} {l : Launch} {e : Env} {s : State} {m : MethodId} {below : List Frame} {meth : Method} {c : Code} {b : Nat} (hx : p.tables.exec = Jvm.exec) (hb : c.code = code) (hr : meth.sig.returnType = ret) (hlocks : meth.locks = false) {pc : Nat} {H : Heap} {ls : Array Slot} (hdg : decode code pc = .ok (.ireturn, 1)) : W p l e room_1 s m #[Value.ref b] below meth c H [] 600000 7302250 (lw_Z below #[Value.ref b] s) (F0 m pc ls [.int 1]) := by
  intro T hT X
  obtain ⟨fs, hret, hrun, hended, hW, hframe⟩ := X.leave (v := some (.int 1)) (hlocks := hlocks) (fun h => by rw [hr] at h; cases h)
  have hmeth' : T.vm.method? m = some meth := X.method'
  refine ⟨T.setFrames fs, ?_, .returned (some (.int 1)), hrun, hended, rfl, ⟨_, rfl⟩, hW, hframe⟩
  jvm_step X.here [X.here.top, hx, hb, hdg, hmeth', hr, ret, narrow_b1]
  (try refine ⟨rfl, ?_⟩); (try refine ⟨rfl, ?_⟩)
  first | (intro acts; rw [hret _ acts rfl rfl rfl]) | rw [hret _ _ rfl rfl rfl]
  exact Steps.refl _
/-- what holds at the law's entry: the machine, the code, the tables' words (any of lw_tbl by 'hts w (by decide +kernel)'), the script of L ints xs at the cell b, what the Statement gives of the start (any of its parts by flat_of_before) -/
def lw_At (p : Program) (s : State) (m : MethodId) (meth : Method) (c : Code) (b L : Nat) (xs : Nat → Int32) : Prop :=
  p.tables.exec = Jvm.exec ∧ c.code = code ∧ meth.sig.returnType = ret ∧ c.maxLocals = 4 ∧ s.vm.findClass R_law = some m.cls ∧ (∀ w ∈ lw_tbl, w.before #[Value.ref b] s = true) ∧ va_X b L xs s s.heap ∧ b < s.heap.size ∧ meth.locks = false ∧ (Jvm.Cond.and given_1 narrow_1).before #[Value.ref b] s = true
theorem W.monoQ {p : Program} {l : Launch} {e : Env} {R : Room} {s : State} {m : MethodId} {args : Array Value} {below : List Frame} {meth : Method} {c : Code} {H : Heap} {locs : List Loc} {cells slots : Nat} {Q Q' : State → Prop} {g : JFrame} (h : ∀ t, Q t → Q' t) (k : W p l e R s m args below meth c H locs cells slots Q g) : W p l e R s m args below meth c H locs cells slots Q' g := by
  intro T hT X
  obtain ⟨t, a, b⟩ := k T hT X
  exact ⟨t, a, h t b⟩
theorem law_Q {below : List Frame} {a : Array Value} {s t : State} {g : xG} {w0 : xW} {ad0 : Nat → Nat} {A : Nat → Prop} (hA : ∀ q, A q → s.heap.size ≤ q) (h : MQ below (xQ g w0 ad0 A (fun r _ _ => r = some (xI 1))) a s 600000 7302250 A t) : lw_Z below a s t := by
  obtain ⟨o, h1, h2, ⟨⟨r, w, μ, ad, e, rfl, -⟩, -⟩, L, ⟨f1, f2, f3⟩, hL⟩ := h
  refine ⟨o, h1, h2, e, f1, f2, f3.weaken (fun y hy hlt => absurd hlt (Nat.not_lt.mpr (hA _ (hL y hy)))) (Nat.le_refl _) (Nat.le_refl _)⟩
theorem law_eq {args : Array Value} {s : State} {a : Term} {z : Int32} (h : (Cond.eq a (.int z)).before args s = true) : a.eval args s none [] s = some (.int z) := by
  obtain ⟨y, h1, h2⟩ := Cond.eq_one (show (Cond.eq a (.int z)).holds args s none s [] = true from h)
  have hy : y = .int z := (Option.some.inj (show some (Value.int z) = some y from h2)).symm
  rw [hy] at h1
  exact h1
theorem law_tab {s : State} {b : Nat} (hts : ∀ w ∈ lw_tbl, w.before #[Value.ref b] s = true) : xTab s := by
  intro w hw a
  obtain ⟨hm, hg⟩ := hw
  have h0 := hts w hm
  unfold xgw at hg
  split at hg
  · exact va_Nw.use rfl (va_Nw.of rfl h0)
  · exact va_Nw.use rfl (va_Nw.of rfl h0)
  · exact va_AO.use (va_AO.of h0)
  · exact word_at (State.WarmedH.refl s) (good_of_word hg) h0
theorem law_arr {s : State} {ty : FieldType} (h : (Cond.arrayClass ty).before #[] s = true) : ∃ c, ArrOfT s c ty ∧ s.vm.findClass ("[" ++ ty.toString) = some c := by
  obtain ⟨c, k, comp, h1, h2, h3⟩ := Cond.arrayClass_spec (show (Cond.arrayClass ty).holds #[] s none s [] = true from h)
  exact ⟨c, fun n z => ⟨fun k h => (by cases h), k, h2, comp, h3⟩, h1⟩
theorem law_arq {s : State} {C : String} (h : (Cond.arrayOver (.object C)).before #[] s = true) : ∃ c, ArrOfT s c (.object C) ∧ va_RA s c (.object C) := by
  obtain ⟨comp, c, k, h1, h2, h3, h4, h5⟩ := Cond.arrayOver_spec (show (Cond.arrayOver (.object C)).holds #[] s none s [] = true from h)
  exact ⟨c, fun n z => ⟨fun k h => (by cases h), k, h3, comp, h4⟩, k, comp, h3, h4, h1, h5⟩
set_option maxHeartbeats 4000000 in
set_option maxRecDepth 100000 in
theorem law_world {s : State} {b : Nat} (hts : ∀ w ∈ lw_tbl, w.before #[Value.ref b] s = true) (hgv : (Jvm.Cond.and given_1 narrow_1).before #[Value.ref b] s = true) : ∃ g : xG, va_K g.1 vwCl (xtys g) s ∧ xSt g (fun q => s.heap.size ≤ q) s s.heap := by
  have hT := law_tab hts
  obtain ⟨c0, i0, hn0⟩ := u_known (C := RX0) (T := TX0) (N := 4) (n := 4) (ws := u_ws RX0 TX0 4) (args := #[]) (fun w hw => hT w (xcl0.2.1 w hw) #[]) (fun _ h => h) (hT _ in_RX0 #[])
  obtain ⟨c1, i1, hn1⟩ := u_known (C := RX1) (T := TX1) (N := 3) (n := 3) (ws := u_ws RX1 TX1 3) (args := #[]) (fun w hw => hT w (xcl1.2.1 w hw) #[]) (fun _ h => h) (hT _ in_RX1 #[])
  obtain ⟨c2, i2, hn2⟩ := u_known (C := RX2) (T := TX2) (N := 1) (n := 1) (ws := u_ws RX2 TX2 1) (args := #[]) (fun w hw => hT w (xcl2.2.1 w hw) #[]) (fun _ h => h) (hT _ in_RX2 #[])
  obtain ⟨c3, i3, hn3⟩ := u_known (C := RX3) (T := TX3) (N := 3) (n := 3) (ws := u_ws RX3 TX3 3) (args := #[]) (fun w hw => hT w (xcl3.2.1 w hw) #[]) (fun _ h => h) (hT _ in_RX3 #[])
  obtain ⟨c4, i4, hn4⟩ := u_known (C := RX4) (T := TX4) (N := 9) (n := 9) (ws := u_ws RX4 TX4 9) (args := #[]) (fun w hw => hT w (xcl4.2.1 w hw) #[]) (fun _ h => h) (hT _ in_RX4 #[])
  obtain ⟨c5, i5, hn5⟩ := u_known (C := RX5) (T := TX5) (N := 6) (n := 6) (ws := u_ws RX5 TX5 6) (args := #[]) (fun w hw => hT w (xcl5.2.1 w hw) #[]) (fun _ h => h) (hT _ in_RX5 #[])
  obtain ⟨c6, i6, hn6⟩ := u_known (C := RX6) (T := TX6) (N := 11) (n := 11) (ws := u_ws RX6 TX6 11) (args := #[]) (fun w hw => hT w (xcl6.2.1 w hw) #[]) (fun _ h => h) (hT _ in_RX6 #[])
  obtain ⟨c7, i7, hn7⟩ := u_known (C := RX7) (T := TX7) (N := 10) (n := 10) (ws := u_ws RX7 TX7 10) (args := #[]) (fun w hw => hT w (xcl7.2.1 w hw) #[]) (fun _ h => h) (hT _ in_RX7 #[])
  obtain ⟨c8, i8, hn8⟩ := u_known (C := RX8) (T := TX8) (N := 24) (n := 24) (ws := u_ws RX8 TX8 24) (args := #[]) (fun w hw => hT w (xcl8.2.1 w hw) #[]) (fun _ h => h) (hT _ in_RX8 #[])
  obtain ⟨dC, dI, hKc⟩ : ∃ (dC : Nat → ClassId) (dI : Nat → Nat → Nat), ∀ (k : Nat) (q : vw_C), vwCl[k]? = some q → u_Kn s q.1 q.2.1 q.2.2 (dC k) (dI k) := by
    refine ⟨fun k => if k = 0 then c0 else if k = 1 then c1 else if k = 2 then c2 else if k = 3 then c3 else if k = 4 then c4 else if k = 5 then c5 else if k = 6 then c6 else if k = 7 then c7 else c8, fun k => if k = 0 then i0 else if k = 1 then i1 else if k = 2 then i2 else if k = 3 then i3 else if k = 4 then i4 else if k = 5 then i5 else if k = 6 then i6 else if k = 7 then i7 else i8, ?_⟩
    intro k q hq
    match k, hq with
    | 0, hq => cases hq; exact hn0
    | 1, hq => cases hq; exact hn1
    | 2, hq => cases hq; exact hn2
    | 3, hq => cases hq; exact hn3
    | 4, hq => cases hq; exact hn4
    | 5, hq => cases hq; exact hn5
    | 6, hq => cases hq; exact hn6
    | 7, hq => cases hq; exact hn7
    | 8, hq => cases hq; exact hn8
    | k + 9, hq => simp [vwCl] at hq
  obtain ⟨a0, x0, y0⟩ := law_arr (hT _ ac_Jvm_ClassFile_FieldType_int #[])
  obtain ⟨a1, x1, y1⟩ := law_arr (hT _ ac_Jvm_ClassFile_FieldType_long #[])
  obtain ⟨a2, x2, y2⟩ := law_arr (hT _ ac_Jvm_ClassFile_FieldType_boolean #[])
  obtain ⟨a3, x3, y3⟩ := law_arq (hT _ ao_Jvm_ClassFile_FieldType_object_TaleTypes_State #[])
  obtain ⟨a4, x4, y4⟩ := law_arq (hT _ ao_Jvm_ClassFile_FieldType_object_TaleTypes_Image #[])
  have hs := flat_of_before _ hgv
  have hAn : ∀ a : Nat, a < s.heap.size → ¬ (fun q : Nat => s.heap.size ≤ q) a := fun a h => Nat.not_le.mpr h
  obtain ⟨txOF, evxOF, hTxOF⟩ := va_Tof (args := #[Value.ref b]) (s := s) (tm := (Term.static "TaleTypes$Lineup" "OF_FIRST" "[I")) (ty := .int) (N := 4) (f := fun j => .int (Int32.ofInt (xOF j))) (A := fun q => s.heap.size ≤ q) (by decide) (hs (Cond.arrayOf (Term.static "TaleTypes$Lineup" "OF_FIRST" "[I") .int) (by decide +kernel)) (law_eq (hs (Cond.eq (.length (Term.static "TaleTypes$Lineup" "OF_FIRST" "[I")) (.int 4)) (by decide +kernel))) (fun j hj => by
    rcases (show j = 0 ∨ j = 1 ∨ j = 2 ∨ j = 3 by omega) with h | h | h | h <;> subst h
    · exact law_eq (hs (Cond.eq (.elem (Term.static "TaleTypes$Lineup" "OF_FIRST" "[I") (.int 0)) (.int 1)) (by decide +kernel))
    · exact law_eq (hs (Cond.eq (.elem (Term.static "TaleTypes$Lineup" "OF_FIRST" "[I") (.int 1)) (.int 1)) (by decide +kernel))
    · exact law_eq (hs (Cond.eq (.elem (Term.static "TaleTypes$Lineup" "OF_FIRST" "[I") (.int 2)) (.int 0)) (by decide +kernel))
    · exact law_eq (hs (Cond.eq (.elem (Term.static "TaleTypes$Lineup" "OF_FIRST" "[I") (.int 3)) (.int 2)) (by decide +kernel))) hAn
  obtain ⟨txOO, evxOO, hTxOO⟩ := va_Tof (args := #[Value.ref b]) (s := s) (tm := (Term.static "TaleTypes$Lineup" "OF_OTHER" "[I")) (ty := .int) (N := 4) (f := fun j => .int (Int32.ofInt (xOO j))) (A := fun q => s.heap.size ≤ q) (by decide) (hs (Cond.arrayOf (Term.static "TaleTypes$Lineup" "OF_OTHER" "[I") .int) (by decide +kernel)) (law_eq (hs (Cond.eq (.length (Term.static "TaleTypes$Lineup" "OF_OTHER" "[I")) (.int 4)) (by decide +kernel))) (fun j hj => by
    rcases (show j = 0 ∨ j = 1 ∨ j = 2 ∨ j = 3 by omega) with h | h | h | h <;> subst h
    · exact law_eq (hs (Cond.eq (.elem (Term.static "TaleTypes$Lineup" "OF_OTHER" "[I") (.int 0)) (.int 1)) (by decide +kernel))
    · exact law_eq (hs (Cond.eq (.elem (Term.static "TaleTypes$Lineup" "OF_OTHER" "[I") (.int 1)) (.int 0)) (by decide +kernel))
    · exact law_eq (hs (Cond.eq (.elem (Term.static "TaleTypes$Lineup" "OF_OTHER" "[I") (.int 2)) (.int 1)) (by decide +kernel))
    · exact law_eq (hs (Cond.eq (.elem (Term.static "TaleTypes$Lineup" "OF_OTHER" "[I") (.int 3)) (.int 2)) (by decide +kernel))) hAn
  refine ⟨((dC, dI), (fun k => if k = 0 then a0 else if k = 1 then a1 else if k = 2 then a2 else if k = 3 then a3 else a4), txOF, txOO), ⟨hKc, fun k q hk => ?_⟩, ?_, ?_, hTxOF, hTxOO⟩
  · match k, hk with
    | 0, hk => cases hk; exact ⟨x0, y0⟩
    | 1, hk => cases hk; exact ⟨x1, y1⟩
    | 2, hk => cases hk; exact ⟨x2, y2⟩
    | 3, hk => cases hk; exact ⟨x3, y3⟩
    | 4, hk => cases hk; exact ⟨x4, y4⟩
    | k + 5, hk => simp [xtys] at hk
  · exact va_Zof (args := #[Value.ref b]) (hts _ (List.mem_of_getElem? (i := 359) (by decide +kernel))) (hT _ it_TaleTypes_Lineup _) evxOF hAn
  · exact va_Zof (args := #[Value.ref b]) (hts _ (List.mem_of_getElem? (i := 361) (by decide +kernel))) (hT _ it_TaleTypes_Lineup _) evxOO hAn
set_option maxHeartbeats 4000000 in
set_option maxRecDepth 100000 in
theorem whole_start {p : Program} {e : Env} {s : State} {m : MethodId} {below : List Frame} {meth : Method} {c : Code} (l : Launch) (hflags : l.flags = flags0) {b L : Nat} {xs : Nat → Int32} (hL : L ≤ 2048) (C0 : lw_At p s m meth c b L xs) : W p l e room_1 s m #[Value.ref b] below meth c s.heap [] 0 0 (lw_Z below #[Value.ref b] s) (entryFrame m ([Value.ref b] : List Value).toArray 4) := by
  obtain ⟨hx, hb, hr, hml, hown, hts, hX, hbl, hlocks, hgv⟩ := C0
  have hT := law_tab hts
  obtain ⟨g, hK, hSt⟩ := law_world hts hgv
  obtain ⟨A, hAe⟩ : ∃ A : Nat → Prop, A = fun q => s.heap.size ≤ q := ⟨_, rfl⟩
  rw [← hAe] at hSt
  have hA : ∀ q, s.heap.size ≤ q → A q := fun q h => by rw [hAe]; exact h
  have hA' : ∀ q, A q → s.heap.size ≤ q := fun q h => by rw [hAe] at h; exact h
  have hbA : ¬ A b := fun h => absurd (hA' b h) (Nat.not_le.mpr hbl)
  have hall := law_all (nm := meth.name) (X := xX p l e room_1 s m #[Value.ref b] below meth c g (0, xSH, fun _ _ => -1) (fun _ => 0) A 4 (MQ below (xQ g (0, xSH, fun _ _ => -1) (fun _ => 0) A (fun r _ _ => r = some (xI 1))) #[Value.ref b] s 600000 7302250 A)) ⟨p, l, e, s, m, #[Value.ref b], below, meth, c, g, (0, xSH, fun _ _ => -1), fun _ => 0, A, ⟨hx, hb, hml, hown, hT, hK, hSt, hA⟩, hr, hlocks, rfl, rfl⟩ b L hL (fun i => (xs i.toNat).toInt)
    (by
      intro cu su w μ pc lo st i hd h0 h1 k H locs ls ad a1 a2 a3 hP hD hS hok hlo
      have kk := k (xn_rg _) H locs ls ad a1 a2 a3 hP hD hS hok hlo
      simp only [List.map_cons, xt, xn_of] at kk ⊢
      refine va_sld hx hb hX hbl hbA hS (xn_in h0 h1 (by omega)) hd ?_
      rw [xn_cl h0 (by omega)]
      exact kk)
    (by
      intro cu su w μ pc lo st hd k H locs ls ad a1 a2 a3 hP hD hS hok hlo
      have kk := k H locs ls ad a1 a2 a3 hP hD hS hok hlo
      simp only [List.map_cons, xt] at kk ⊢
      refine va_slen hx hb hX hbl hbA hS hd ?_
      rw [xn_nI] at kk
      exact kk)
  refine W.monoQ (Q := MQ below (xQ g (0, xSH, fun _ _ => -1) (fun _ => 0) A (fun r _ _ => r = some (xI 1))) #[Value.ref b] s 600000 7302250 A) (fun t ht => law_Q (g := g) (w0 := (0, xSH, fun _ _ => -1)) (ad0 := fun _ => 0) hA' ht) ?_
  rw [lg_entry_eq]
  refine hall s.heap [] _ (fun _ => 0) (Nat.le_refl _) (fun _ _ => rfl) (fun _ => rfl) (fun k q h => by simp [xw] at h) ⟨fun i j p q h => by simp [xw] at h, fun k q h => by simp [xw] at h⟩ va_S.rf ⟨fun k j hk => absurd hk (Nat.not_lt_zero _), fun k j hk => absurd hk (Nat.not_lt_zero _), fun k j hk => absurd hk (Nat.not_lt_zero _)⟩ ?_
  have hent := lv_entry ([Value.ref b]) (n := 4) (Nat.le_of_ble_eq_true rfl)
  refine ⟨hent.1, hent.2.1, fun i v hv => ?_⟩
  match i, hv with
  | 0, hv =>
    cases hv
    exact hent.2.2 (0, .ref b) List.mem_cons_self
  | 1, hv => cases hv
  | 2, hv => cases hv
  | 3, hv => cases hv
  | i + 4, hv => simp at hv
-- ===== YOUR PART ENDS =====
set_option maxHeartbeats 4000000 in
theorem lw_walk (l : Launch) (hflags : l.flags = flags0) (b : Addr) (xs : List Int32) : MetFree l x (headSpec (Jvm.Cond.code x code maxLocals ret :: tables_1) room_1) (lw_P b xs) (fun _ _ _ _ _ => True) lw_Q := by
  refine MetFree.of_bodyS (code := code) (maxLocals := maxLocals) (ret := ret) (by decide) ?_ ?_
  · intro args s m h hn
    obtain ⟨meth, c, h1, h2, h3, h4, h5, h6, -, -⟩ := Cond.code_spec hn (atoms_spec (ws := Jvm.Cond.code x code maxLocals ret :: tables_1) h _ List.mem_cons_self)
    exact ⟨meth, c, h1, h2, h3, h4, h5, h6⟩
  · intro p e s m args below meth c s₁ B hml0 hP _
    obtain ⟨rfl, hx, hbd, hgv⟩ := hP
    obtain ⟨scr, harrAt, hlist, hof, hsmall⟩ := hx
    obtain ⟨hcb, hkn, -, -⟩ := State.arrayAt?_spec harrAt
    have hown : s.vm.findClass R_law = some m.cls := findClass_of_methodNamed B.named
    have hts0 : ∀ c ∈ (Jvm.Cond.code x code maxLocals ret :: tables_1), c.before #[Value.ref b] s = true := atoms_spec (ws := Jvm.Cond.code x code maxLocals ret :: tables_1) B.pre
    have hts : ∀ w ∈ lw_tbl, w.before #[Value.ref b] s = true := k2_hts_sels lw_privs (fun w hw => hts0 w (List.mem_cons_of_mem _ hw)) lw_privs_ok
    have hml : c.maxLocals = 4 := B.maxLocals_eq (hts0 _ List.mem_cons_self)
    have X₀ : Stand p l e room_1 s m #[Value.ref b] below meth c s₁ [] 0 0 := Stand.of_body B
    have hh0 : s₁.heap = s.heap := by rw [B.state]; rfl
    have hsz : scr.slots.size = xs.length := by rw [← Array.length_toList, hlist, List.length_map]
    have hval : ∀ j : Nat, j < xs.length → scr.slots[j]? = some (.int (xs.getD j 0)) := fun j hj => by
      rw [← Array.getElem?_toList, hlist]
      simp [hj]
    have hbl : b < s.heap.size := (Array.getElem?_eq_some_iff.mp hcb).1
    have hX : va_X b xs.length (fun j => xs.getD j 0) s s.heap := ⟨scr, hcb, hof, hkn, hsz, hval⟩
    have K : W p l e room_1 s m #[Value.ref b] below meth c s₁.heap [] 0 0 (lw_Z below #[Value.ref b] s) (entryFrame m ([Value.ref b] : List Value).toArray 4) := by
      rw [hh0]
      exact whole_start l hflags hbd ⟨B.exec, B.bytes, B.returns, hml, hown, hts, hX, hbl, B.notSynchronized, hgv⟩
    obtain ⟨t, a1, o, b1, b2, b3⟩ := K s₁ rfl X₀
    exact ⟨t, o, a1, b1, b2, b3⟩
theorem lw_pre_spec {args : Array Value} {s : State} (h : (Jvm.Cond.and given_1 narrow_1).before args s = true) (hr : rest_1_c.before args s = true) : ∃ (b : Addr) (xs : List Int32), lw_P b xs args s := by
  have hs := flat_of_before _ h
  have hq := flat_of_before _ hr
  have hc : (Cond.count 1).before args s = true := hs _ (by decide +kernel)
  have harr : (Cond.arrayOf (.arg 0) .int).before args s = true := hs _ (by decide +kernel)
  have hle : (Cond.le (.length (.arg 0)) (.int 2048)).before args s = true := hs _ (by decide +kernel)
  have hlen : (Cond.isInt (.length (.arg 0))).before args s = true := hq _ (by decide +kernel)
  have hall : (Cond.all (.arg 0) (.isInt (.elem (.arg 0) (.index 0)))).before args s = true := hq _ (by decide +kernel)
  obtain ⟨b, xs, hb, hx⟩ := State.ints_of_pre rfl harr hlen hall
  have hsm : xs.length < 2 ^ 31 := hx.choose_spec.2.2.2
  have hev : (Term.length (.arg 0)).eval args s none [] s = some (.int xs.length.toInt32) := hx.length_eval hb
  have hv := Cond.le_ints hev (show (Term.int 2048).eval args s none [] s = some (.int 2048) from rfl)
  have hd : xs.length.toInt32 ≤ 2048 := by
    simpa [Cond.before, Cond.holds, hv] using hle
  have hN : xs.length ≤ 2048 := (Int32.ofNat_le_ofNat hsm (by decide)).mp (show Int32.ofNat xs.length ≤ Int32.ofNat 2048 from hd)
  exact ⟨b, xs, Cond.one_arg hc (show args[0]? = some (.ref b) from hb), hx, hN, h⟩
theorem lw_comes (l : Launch) (hflags : l.flags = flags0) : Comes l x (Jvm.Cond.code x code maxLocals ret :: tables_1) room_1 (fun tb e args s => Calls_1 tb e args s ∧ rest_1 tb e args s ∧ Pre_1 tb e args s)
    (fun _ _ args s o t => lw_Q args s o t) := by
  intro p e ha hc hk s m args below hf hfit hheap happ hpre
  obtain ⟨b, xs, hP⟩ := lw_pre_spec hpre.2.2 hpre.2.1
  obtain ⟨k, o, h1, h2, h3, hQ⟩ := lw_walk l hflags b xs p e ha hc hk s m args below hf ((Spec.applies_iff_loose hf).mp happ).1 hP trivial
  exact ⟨k, o, h1, h2, h3, hQ⟩
theorem lw_frame {s t : State} {o : Outcome} {args : Array Value} (h : Framed s o t [] 600000 7302250) :
    Framed s o t (fieldLocs frame_1_writes args s ++ arrayLocs frame_1_arrays args s ++ staticLocs frame_1_statics s) 600000 7302250 := h
theorem lw_limb (L : Cond) (hL : ∀ (args : Array Value) (s t : State), L.after args s (.returned (some (.int 1))) t = true) :
    ArmFor flags0 classFile x code maxLocals ret World_1 tables_1 room_1 Calls_1 rest_1 Pre_1
      (fun tb e a s o t => postC L tb e a s o t ∧ Framed s o t (fieldLocs frame_1_writes a s ++ arrayLocs frame_1_arrays a s ++ staticLocs frame_1_statics s) 600000 7302250) := by
  intro l hflags _ _ p e ha hc hk s m args below hf hfit hheap happ hpre
  obtain ⟨k, o, h1, h2, h3, rfl, hF⟩ := lw_comes l hflags p e ha hc hk s m args below hf hfit hheap happ hpre
  exact ⟨k, _, h1, h2, h3, hL args s _, lw_frame hF⟩
theorem i_vc : Claimed_1_1 ∧ Claimed_1_2 := ⟨lw_limb limb_1_1 (fun args s t => by simp [limb_1_1, Cond.after, Cond.holds, Cond.value]), lw_limb limb_1_2 (fun args s t => Cond.after_iff.mpr (by
  first | (rw [show limb_1_2 = Cond.eq .result (.int 1) from rfl, Cond.eq_ints (x := 1) (y := 1) rfl rfl]; simp; done) | (simp [limb_1_2, Cond.value, Term.eval]; done)))⟩
