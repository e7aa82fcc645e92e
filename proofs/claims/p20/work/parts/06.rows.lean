section
variable {own nm : String} {cc : ByteArray} {nL : Nat} {R : Room} {ret : Option FieldType} {mc ms : Nat} {K : Option xV → xW → xM → Prop} {X : Nat → Nat → xW → xM → Nat → xLoc → List xV → Prop}
variable {cu su : Nat} {w : xW} {μ : xM} {pc : Nat} {lo : xLoc} {st : List xV}

theorem r_iadd (hL : Lg own nm cc nL R ret mc ms K X) {x y : Int} (hd : decode cc pc = .ok (.iadd, 1)) (k : X cu su w μ (pc + 1) lo (xI (x + y) :: st)) : X cu su w μ pc lo (xI y :: xI x :: st) := by
  obtain ⟨p, l, e, s, m, args, below, meth, c, g, w0, ad0, A, ⟨hx, hb, hml, hown, hT, hK, hSt, hA⟩, hr, hlk, hnm, rfl⟩ := hL
  intro H locs ls ad a1 a2 a3 hP hD hS hok hlo
  have kk := k H locs ls ad a1 a2 a3 hP hD hS hok hlo
  simp only [List.map_cons, xt, Int32.ofInt_add] at kk ⊢
  exact lv_iadd hx hb hd kk

theorem r_isub (hL : Lg own nm cc nL R ret mc ms K X) {x y : Int} (hd : decode cc pc = .ok (.isub, 1)) (k : X cu su w μ (pc + 1) lo (xI (x - y) :: st)) : X cu su w μ pc lo (xI y :: xI x :: st) := by
  obtain ⟨p, l, e, s, m, args, below, meth, c, g, w0, ad0, A, ⟨hx, hb, hml, hown, hT, hK, hSt, hA⟩, hr, hlk, hnm, rfl⟩ := hL
  intro H locs ls ad a1 a2 a3 hP hD hS hok hlo
  have kk := k H locs ls ad a1 a2 a3 hP hD hS hok hlo
  simp only [List.map_cons, xt, Int32.ofInt_sub] at kk ⊢
  exact lv_isub hx hb hd kk

theorem r_imul (hL : Lg own nm cc nL R ret mc ms K X) {x y : Int} (hd : decode cc pc = .ok (.imul, 1)) (k : X cu su w μ (pc + 1) lo (xI (x * y) :: st)) : X cu su w μ pc lo (xI y :: xI x :: st) := by
  obtain ⟨p, l, e, s, m, args, below, meth, c, g, w0, ad0, A, ⟨hx, hb, hml, hown, hT, hK, hSt, hA⟩, hr, hlk, hnm, rfl⟩ := hL
  intro H locs ls ad a1 a2 a3 hP hD hS hok hlo
  have kk := k H locs ls ad a1 a2 a3 hP hD hS hok hlo
  simp only [List.map_cons, xt, Int32.ofInt_mul] at kk ⊢
  exact lv_imul hx hb hd kk

theorem r_iand (hL : Lg own nm cc nL R ret mc ms K X) {x y : Int} (hd : decode cc pc = .ok (.iand, 1)) (k : X cu su w μ (pc + 1) lo (xI (xand x y) :: st)) : X cu su w μ pc lo (xI y :: xI x :: st) := by
  obtain ⟨p, l, e, s, m, args, below, meth, c, g, w0, ad0, A, ⟨hx, hb, hml, hown, hT, hK, hSt, hA⟩, hr, hlk, hnm, rfl⟩ := hL
  intro H locs ls ad a1 a2 a3 hP hD hS hok hlo
  have kk := k H locs ls ad a1 a2 a3 hP hD hS hok hlo
  simp only [List.map_cons, xt, xand, xn_of] at kk ⊢
  exact lv_iand hx hb hd kk

theorem r_ior (hL : Lg own nm cc nL R ret mc ms K X) {x y : Int} (hd : decode cc pc = .ok (.ior, 1)) (k : X cu su w μ (pc + 1) lo (xI (xor' x y) :: st)) : X cu su w μ pc lo (xI y :: xI x :: st) := by
  obtain ⟨p, l, e, s, m, args, below, meth, c, g, w0, ad0, A, ⟨hx, hb, hml, hown, hT, hK, hSt, hA⟩, hr, hlk, hnm, rfl⟩ := hL
  intro H locs ls ad a1 a2 a3 hP hD hS hok hlo
  have kk := k H locs ls ad a1 a2 a3 hP hD hS hok hlo
  simp only [List.map_cons, xt, xor', xn_of] at kk ⊢
  exact lv_ior hx hb hd kk

theorem r_ixor (hL : Lg own nm cc nL R ret mc ms K X) {x y : Int} (hd : decode cc pc = .ok (.ixor, 1)) (k : X cu su w μ (pc + 1) lo (xI (xxor x y) :: st)) : X cu su w μ pc lo (xI y :: xI x :: st) := by
  obtain ⟨p, l, e, s, m, args, below, meth, c, g, w0, ad0, A, ⟨hx, hb, hml, hown, hT, hK, hSt, hA⟩, hr, hlk, hnm, rfl⟩ := hL
  intro H locs ls ad a1 a2 a3 hP hD hS hok hlo
  have kk := k H locs ls ad a1 a2 a3 hP hD hS hok hlo
  simp only [List.map_cons, xt, xxor, xn_of] at kk ⊢
  exact lv_ixor hx hb hd kk

theorem r_ishl (hL : Lg own nm cc nL R ret mc ms K X) {x y : Int} (hd : decode cc pc = .ok (.ishl, 1)) (k : X cu su w μ (pc + 1) lo (xI (xshl x y) :: st)) : X cu su w μ pc lo (xI y :: xI x :: st) := by
  obtain ⟨p, l, e, s, m, args, below, meth, c, g, w0, ad0, A, ⟨hx, hb, hml, hown, hT, hK, hSt, hA⟩, hr, hlk, hnm, rfl⟩ := hL
  intro H locs ls ad a1 a2 a3 hP hD hS hok hlo
  have kk := k H locs ls ad a1 a2 a3 hP hD hS hok hlo
  simp only [List.map_cons, xt, xshl, xn_of] at kk ⊢
  exact lv_ishl hx hb hd kk

theorem r_ishr (hL : Lg own nm cc nL R ret mc ms K X) {x y : Int} (hd : decode cc pc = .ok (.ishr, 1)) (k : X cu su w μ (pc + 1) lo (xI (xshr x y) :: st)) : X cu su w μ pc lo (xI y :: xI x :: st) := by
  obtain ⟨p, l, e, s, m, args, below, meth, c, g, w0, ad0, A, ⟨hx, hb, hml, hown, hT, hK, hSt, hA⟩, hr, hlk, hnm, rfl⟩ := hL
  intro H locs ls ad a1 a2 a3 hP hD hS hok hlo
  have kk := k H locs ls ad a1 a2 a3 hP hD hS hok hlo
  simp only [List.map_cons, xt, xshr, xn_of] at kk ⊢
  exact lv_ishr hx hb hd kk

theorem r_idiv (hL : Lg own nm cc nL R ret mc ms K X) {x y : Int} (hd : decode cc pc = .ok (.idiv, 1)) (hy : xrg y) (h0 : y ≠ 0) (k : X cu su w μ (pc + 1) lo (xI (xdiv x y) :: st)) : X cu su w μ pc lo (xI y :: xI x :: st) := by
  obtain ⟨p, l, e, s, m, args, below, meth, c, g, w0, ad0, A, ⟨hx, hb, hml, hown, hT, hK, hSt, hA⟩, hr, hlk, hnm, rfl⟩ := hL
  intro H locs ls ad a1 a2 a3 hP hD hS hok hlo
  have kk := k H locs ls ad a1 a2 a3 hP hD hS hok hlo
  simp only [List.map_cons, xt, xdiv, xrem, xn_of] at kk ⊢
  exact lv_idiv hx hb hd (fun q => h0 ((xn_eq hy (by omega)).mp (q.trans xn_zero))) kk

theorem r_irem (hL : Lg own nm cc nL R ret mc ms K X) {x y : Int} (hd : decode cc pc = .ok (.irem, 1)) (hy : xrg y) (h0 : y ≠ 0) (k : X cu su w μ (pc + 1) lo (xI (xrem x y) :: st)) : X cu su w μ pc lo (xI y :: xI x :: st) := by
  obtain ⟨p, l, e, s, m, args, below, meth, c, g, w0, ad0, A, ⟨hx, hb, hml, hown, hT, hK, hSt, hA⟩, hr, hlk, hnm, rfl⟩ := hL
  intro H locs ls ad a1 a2 a3 hP hD hS hok hlo
  have kk := k H locs ls ad a1 a2 a3 hP hD hS hok hlo
  simp only [List.map_cons, xt, xdiv, xrem, xn_of] at kk ⊢
  exact lv_irem hx hb hd (fun q => h0 ((xn_eq hy (by omega)).mp (q.trans xn_zero))) kk

theorem r_iushr (hL : Lg own nm cc nL R ret mc ms K X) {x y : Int} (hd : decode cc pc = .ok (.iushr, 1)) (k : X cu su w μ (pc + 1) lo (xI (xushr x y) :: st)) : X cu su w μ pc lo (xI y :: xI x :: st) := by
  obtain ⟨p, l, e, s, m, args, below, meth, c, g, w0, ad0, A, ⟨hx, hb, hml, hown, hT, hK, hSt, hA⟩, hr, hlk, hnm, rfl⟩ := hL
  intro H locs ls ad a1 a2 a3 hP hD hS hok hlo
  have kk := k H locs ls ad a1 a2 a3 hP hD hS hok hlo
  simp only [List.map_cons, xt, xushr, xn_of] at kk ⊢
  exact lv_iushr hx hb hd rfl kk

theorem r_ineg (hL : Lg own nm cc nL R ret mc ms K X) {x : Int} (hd : decode cc pc = .ok (.ineg, 1)) (k : X cu su w μ (pc + 1) lo (xI (-x) :: st)) : X cu su w μ pc lo (xI x :: st) := by
  obtain ⟨p, l, e, s, m, args, below, meth, c, g, w0, ad0, A, ⟨hx, hb, hml, hown, hT, hK, hSt, hA⟩, hr, hlk, hnm, rfl⟩ := hL
  intro H locs ls ad a1 a2 a3 hP hD hS hok hlo
  have kk := k H locs ls ad a1 a2 a3 hP hD hS hok hlo
  simp only [List.map_cons, xt, Int32.ofInt_neg] at kk ⊢
  exact lv_ineg hx hb hd kk

theorem r_ladd (hL : Lg own nm cc nL R ret mc ms K X) {x y : Int} (hd : decode cc pc = .ok (.ladd, 1)) (k : X cu su w μ (pc + 1) lo (xL (x + y) :: st)) : X cu su w μ pc lo (xL y :: xL x :: st) := by
  obtain ⟨p, l, e, s, m, args, below, meth, c, g, w0, ad0, A, ⟨hx, hb, hml, hown, hT, hK, hSt, hA⟩, hr, hlk, hnm, rfl⟩ := hL
  intro H locs ls ad a1 a2 a3 hP hD hS hok hlo
  have kk := k H locs ls ad a1 a2 a3 hP hD hS hok hlo
  simp only [List.map_cons, xt, Int64.ofInt_add] at kk ⊢
  exact lv_ladd hx hb hd kk

theorem r_lmul (hL : Lg own nm cc nL R ret mc ms K X) {x y : Int} (hd : decode cc pc = .ok (.lmul, 1)) (k : X cu su w μ (pc + 1) lo (xL (x * y) :: st)) : X cu su w μ pc lo (xL y :: xL x :: st) := by
  obtain ⟨p, l, e, s, m, args, below, meth, c, g, w0, ad0, A, ⟨hx, hb, hml, hown, hT, hK, hSt, hA⟩, hr, hlk, hnm, rfl⟩ := hL
  intro H locs ls ad a1 a2 a3 hP hD hS hok hlo
  have kk := k H locs ls ad a1 a2 a3 hP hD hS hok hlo
  simp only [List.map_cons, xt, Int64.ofInt_mul] at kk ⊢
  exact lv_lmul hx hb hd kk

theorem r_land (hL : Lg own nm cc nL R ret mc ms K X) {x y : Int} (hd : decode cc pc = .ok (.land, 1)) (k : X cu su w μ (pc + 1) lo (xL (xland x y) :: st)) : X cu su w μ pc lo (xL y :: xL x :: st) := by
  obtain ⟨p, l, e, s, m, args, below, meth, c, g, w0, ad0, A, ⟨hx, hb, hml, hown, hT, hK, hSt, hA⟩, hr, hlk, hnm, rfl⟩ := hL
  intro H locs ls ad a1 a2 a3 hP hD hS hok hlo
  have kk := k H locs ls ad a1 a2 a3 hP hD hS hok hlo
  simp only [List.map_cons, xt, xland, xn_ofl] at kk ⊢
  exact lv_land hx hb hd kk

theorem r_lor (hL : Lg own nm cc nL R ret mc ms K X) {x y : Int} (hd : decode cc pc = .ok (.lor, 1)) (k : X cu su w μ (pc + 1) lo (xL (xlor x y) :: st)) : X cu su w μ pc lo (xL y :: xL x :: st) := by
  obtain ⟨p, l, e, s, m, args, below, meth, c, g, w0, ad0, A, ⟨hx, hb, hml, hown, hT, hK, hSt, hA⟩, hr, hlk, hnm, rfl⟩ := hL
  intro H locs ls ad a1 a2 a3 hP hD hS hok hlo
  have kk := k H locs ls ad a1 a2 a3 hP hD hS hok hlo
  simp only [List.map_cons, xt, xlor, xn_ofl] at kk ⊢
  exact lv_lor hx hb hd kk

theorem r_lrem (hL : Lg own nm cc nL R ret mc ms K X) {x y : Int} (hd : decode cc pc = .ok (.lrem, 1)) (hy : xrl y) (h0 : y ≠ 0) (k : X cu su w μ (pc + 1) lo (xL (xlrem x y) :: st)) : X cu su w μ pc lo (xL y :: xL x :: st) := by
  obtain ⟨p, l, e, s, m, args, below, meth, c, g, w0, ad0, A, ⟨hx, hb, hml, hown, hT, hK, hSt, hA⟩, hr, hlk, hnm, rfl⟩ := hL
  intro H locs ls ad a1 a2 a3 hP hD hS hok hlo
  have kk := k H locs ls ad a1 a2 a3 hP hD hS hok hlo
  simp only [List.map_cons, xt, xlrem, xn_ofl] at kk ⊢
  exact lv_lrem hx hb hd (fun q => h0 (by have := congrArg Int64.toInt q; rw [xn_l hy] at this; exact this)) kk

theorem r_lshl (hL : Lg own nm cc nL R ret mc ms K X) {x y : Int} (hd : decode cc pc = .ok (.lshl, 1)) (k : X cu su w μ (pc + 1) lo (xL (xlshl x y) :: st)) : X cu su w μ pc lo (xI y :: xL x :: st) := by
  obtain ⟨p, l, e, s, m, args, below, meth, c, g, w0, ad0, A, ⟨hx, hb, hml, hown, hT, hK, hSt, hA⟩, hr, hlk, hnm, rfl⟩ := hL
  intro H locs ls ad a1 a2 a3 hP hD hS hok hlo
  have kk := k H locs ls ad a1 a2 a3 hP hD hS hok hlo
  simp only [List.map_cons, xt, xlshl, xn_ofl] at kk ⊢
  exact lv_lshl hx hb hd rfl kk

theorem r_lushr (hL : Lg own nm cc nL R ret mc ms K X) {x y : Int} (hd : decode cc pc = .ok (.lushr, 1)) (k : X cu su w μ (pc + 1) lo (xL (xlushr x y) :: st)) : X cu su w μ pc lo (xI y :: xL x :: st) := by
  obtain ⟨p, l, e, s, m, args, below, meth, c, g, w0, ad0, A, ⟨hx, hb, hml, hown, hT, hK, hSt, hA⟩, hr, hlk, hnm, rfl⟩ := hL
  intro H locs ls ad a1 a2 a3 hP hD hS hok hlo
  have kk := k H locs ls ad a1 a2 a3 hP hD hS hok hlo
  simp only [List.map_cons, xt, xlushr, xn_ofl] at kk ⊢
  exact lv_lushr hx hb hd rfl kk

theorem r_i2l (hL : Lg own nm cc nL R ret mc ms K X) {x : Int} (hd : decode cc pc = .ok (.i2l, 1)) (hx0 : xrg x) (k : X cu su w μ (pc + 1) lo (xL x :: st)) : X cu su w μ pc lo (xI x :: st) := by
  obtain ⟨p, l, e, s, m, args, below, meth, c, g, w0, ad0, A, ⟨hx, hb, hml, hown, hT, hK, hSt, hA⟩, hr, hlk, hnm, rfl⟩ := hL
  intro H locs ls ad a1 a2 a3 hP hD hS hok hlo
  have kk := k H locs ls ad a1 a2 a3 hP hD hS hok hlo
  simp only [List.map_cons, xt] at kk ⊢
  exact lv_i2l hx hb hd (by rw [← Int64.ofInt_int32ToInt, xn_i hx0]) kk

theorem r_l2i (hL : Lg own nm cc nL R ret mc ms K X) {x : Int} (hd : decode cc pc = .ok (.l2i, 1)) (k : X cu su w μ (pc + 1) lo (xI x :: st)) : X cu su w μ pc lo (xL x :: st) := by
  obtain ⟨p, l, e, s, m, args, below, meth, c, g, w0, ad0, A, ⟨hx, hb, hml, hown, hT, hK, hSt, hA⟩, hr, hlk, hnm, rfl⟩ := hL
  intro H locs ls ad a1 a2 a3 hP hD hS hok hlo
  have kk := k H locs ls ad a1 a2 a3 hP hD hS hok hlo
  simp only [List.map_cons, xt] at kk ⊢
  exact lv_l2i hx hb hd (by simp) kk

theorem r_iconst (hL : Lg own nm cc nL R ret mc ms K X) {n : Int} (hd : decode cc pc = .ok (.iconst n, 1)) (k : X cu su w μ (pc + 1) lo (xI n :: st)) : X cu su w μ pc lo st := by
  obtain ⟨p, l, e, s, m, args, below, meth, c, g, w0, ad0, A, ⟨hx, hb, hml, hown, hT, hK, hSt, hA⟩, hr, hlk, hnm, rfl⟩ := hL
  intro H locs ls ad a1 a2 a3 hP hD hS hok hlo
  have kk := k H locs ls ad a1 a2 a3 hP hD hS hok hlo
  simp only [List.map_cons, xt] at kk ⊢
  exact lv_iconst hx hb hd rfl kk

theorem r_bipush (hL : Lg own nm cc nL R ret mc ms K X) {n : Int} (hd : decode cc pc = .ok (.bipush n, 2)) (hv : (Int8.ofInt n).toInt32 = Int32.ofInt n) (k : X cu su w μ (pc + 2) lo (xI n :: st)) : X cu su w μ pc lo st := by
  obtain ⟨p, l, e, s, m, args, below, meth, c, g, w0, ad0, A, ⟨hx, hb, hml, hown, hT, hK, hSt, hA⟩, hr, hlk, hnm, rfl⟩ := hL
  intro H locs ls ad a1 a2 a3 hP hD hS hok hlo
  have kk := k H locs ls ad a1 a2 a3 hP hD hS hok hlo
  simp only [List.map_cons, xt] at kk ⊢
  exact lv_bipush hx hb hd hv kk

theorem r_sipush (hL : Lg own nm cc nL R ret mc ms K X) {n : Int} (hd : decode cc pc = .ok (.sipush n, 3)) (hv : (Int16.ofInt n).toInt32 = Int32.ofInt n) (k : X cu su w μ (pc + 3) lo (xI n :: st)) : X cu su w μ pc lo st := by
  obtain ⟨p, l, e, s, m, args, below, meth, c, g, w0, ad0, A, ⟨hx, hb, hml, hown, hT, hK, hSt, hA⟩, hr, hlk, hnm, rfl⟩ := hL
  intro H locs ls ad a1 a2 a3 hP hD hS hok hlo
  have kk := k H locs ls ad a1 a2 a3 hP hD hS hok hlo
  simp only [List.map_cons, xt] at kk ⊢
  exact lv_sipush hx hb hd hv kk

theorem r_ldc (hL : Lg own nm cc nL R ret mc ms K X) {i : Nat} {v : Int32} {n : Int} (hd : decode cc pc = .ok (.ldc i, 2)) (hc : xWd (.constant own i v)) (hv : v = Int32.ofInt n) (k : X cu su w μ (pc + 2) lo (xI n :: st)) : X cu su w μ pc lo st := by
  obtain ⟨p, l, e, s, m, args, below, meth, c, g, w0, ad0, A, ⟨hx, hb, hml, hown, hT, hK, hSt, hA⟩, hr, hlk, hnm, rfl⟩ := hL
  intro H locs ls ad a1 a2 a3 hP hD hS hok hlo
  have kk := k H locs ls ad a1 a2 a3 hP hD hS hok hlo
  simp only [List.map_cons, xt] at kk ⊢
  exact lv_ldc hx hb hown (hT _ (hv ▸ hc) _) hd kk

theorem r_ldc2 (hL : Lg own nm cc nL R ret mc ms K X) {i : Nat} {v : Int64} {n : Int} (hd : decode cc pc = .ok (.ldc2_w i, 3)) (hc : xWd (.constantLong own i v)) (hv : v = Int64.ofInt n) (k : X cu su w μ (pc + 3) lo (xL n :: st)) : X cu su w μ pc lo st := by
  obtain ⟨p, l, e, s, m, args, below, meth, c, g, w0, ad0, A, ⟨hx, hb, hml, hown, hT, hK, hSt, hA⟩, hr, hlk, hnm, rfl⟩ := hL
  intro H locs ls ad a1 a2 a3 hP hD hS hok hlo
  have kk := k H locs ls ad a1 a2 a3 hP hD hS hok hlo
  simp only [List.map_cons, xt] at kk ⊢
  exact lv_ldc2 hx hb hown (hT _ (hv ▸ hc) _) hd kk

theorem r_lconst (hL : Lg own nm cc nL R ret mc ms K X) {i : Fin 2} {n : Int} (hd : decode cc pc = .ok (.lconst i, 1)) (hv : Int64.ofNat (i : Nat) = Int64.ofInt n) (k : X cu su w μ (pc + 1) lo (xL n :: st)) : X cu su w μ pc lo st := by
  obtain ⟨p, l, e, s, m, args, below, meth, c, g, w0, ad0, A, ⟨hx, hb, hml, hown, hT, hK, hSt, hA⟩, hr, hlk, hnm, rfl⟩ := hL
  intro H locs ls ad a1 a2 a3 hP hD hS hok hlo
  have kk := k H locs ls ad a1 a2 a3 hP hD hS hok hlo
  simp only [List.map_cons, xt] at kk ⊢
  exact lv_lconst hx hb hd hv kk

theorem r_iload (hL : Lg own nm cc nL R ret mc ms K X) {i : Nat} {x : Int} (hd : decode cc pc = .ok (.iload i, 2)) (hl : lo[i]? = some (some (xI x))) (k : X cu su w μ (pc + 2) lo (xI x :: st)) : X cu su w μ pc lo st := by
  obtain ⟨p, l, e, s, m, args, below, meth, c, g, w0, ad0, A, ⟨hx, hb, hml, hown, hT, hK, hSt, hA⟩, hr, hlk, hnm, rfl⟩ := hL
  intro H locs ls ad a1 a2 a3 hP hD hS hok hlo
  have kk := k H locs ls ad a1 a2 a3 hP hD hS hok hlo
  simp only [List.map_cons, xt] at kk ⊢
  exact lv_iload hx hb hd (hlo.2.2 _ _ hl) kk

theorem r_iload_n (hL : Lg own nm cc nL R ret mc ms K X) {j : Fin 4} {x : Int} (hd : decode cc pc = .ok (.iload_n j, 1)) (hl : lo[(j : Nat)]? = some (some (xI x))) (k : X cu su w μ (pc + 1) lo (xI x :: st)) : X cu su w μ pc lo st := by
  obtain ⟨p, l, e, s, m, args, below, meth, c, g, w0, ad0, A, ⟨hx, hb, hml, hown, hT, hK, hSt, hA⟩, hr, hlk, hnm, rfl⟩ := hL
  intro H locs ls ad a1 a2 a3 hP hD hS hok hlo
  have kk := k H locs ls ad a1 a2 a3 hP hD hS hok hlo
  simp only [List.map_cons, xt] at kk ⊢
  exact lv_iload_n hx hb hd rfl (hlo.2.2 _ _ hl) kk

theorem r_lload (hL : Lg own nm cc nL R ret mc ms K X) {i : Nat} {x : Int} (hd : decode cc pc = .ok (.lload i, 2)) (hl : lo[i]? = some (some (xL x))) (k : X cu su w μ (pc + 2) lo (xL x :: st)) : X cu su w μ pc lo st := by
  obtain ⟨p, l, e, s, m, args, below, meth, c, g, w0, ad0, A, ⟨hx, hb, hml, hown, hT, hK, hSt, hA⟩, hr, hlk, hnm, rfl⟩ := hL
  intro H locs ls ad a1 a2 a3 hP hD hS hok hlo
  have kk := k H locs ls ad a1 a2 a3 hP hD hS hok hlo
  simp only [List.map_cons, xt] at kk ⊢
  exact lv_lload hx hb hd (hlo.2.2 _ _ hl) kk

theorem r_lload_n (hL : Lg own nm cc nL R ret mc ms K X) {j : Fin 4} {x : Int} (hd : decode cc pc = .ok (.lload_n j, 1)) (hl : lo[(j : Nat)]? = some (some (xL x))) (k : X cu su w μ (pc + 1) lo (xL x :: st)) : X cu su w μ pc lo st := by
  obtain ⟨p, l, e, s, m, args, below, meth, c, g, w0, ad0, A, ⟨hx, hb, hml, hown, hT, hK, hSt, hA⟩, hr, hlk, hnm, rfl⟩ := hL
  intro H locs ls ad a1 a2 a3 hP hD hS hok hlo
  have kk := k H locs ls ad a1 a2 a3 hP hD hS hok hlo
  simp only [List.map_cons, xt] at kk ⊢
  exact lv_lload_n hx hb hd rfl (hlo.2.2 _ _ hl) kk

theorem r_aload (hL : Lg own nm cc nL R ret mc ms K X) {i : Nat} {x : Nat} (hd : decode cc pc = .ok (.aload i, 2)) (hl : lo[i]? = some (some (xR x))) (k : X cu su w μ (pc + 2) lo (xR x :: st)) : X cu su w μ pc lo st := by
  obtain ⟨p, l, e, s, m, args, below, meth, c, g, w0, ad0, A, ⟨hx, hb, hml, hown, hT, hK, hSt, hA⟩, hr, hlk, hnm, rfl⟩ := hL
  intro H locs ls ad a1 a2 a3 hP hD hS hok hlo
  have kk := k H locs ls ad a1 a2 a3 hP hD hS hok hlo
  simp only [List.map_cons, xt] at kk ⊢
  exact lv_aload hx hb hd (hlo.2.2 _ _ hl) kk

theorem r_aload_n (hL : Lg own nm cc nL R ret mc ms K X) {j : Fin 4} {x : Nat} (hd : decode cc pc = .ok (.aload_n j, 1)) (hl : lo[(j : Nat)]? = some (some (xR x))) (k : X cu su w μ (pc + 1) lo (xR x :: st)) : X cu su w μ pc lo st := by
  obtain ⟨p, l, e, s, m, args, below, meth, c, g, w0, ad0, A, ⟨hx, hb, hml, hown, hT, hK, hSt, hA⟩, hr, hlk, hnm, rfl⟩ := hL
  intro H locs ls ad a1 a2 a3 hP hD hS hok hlo
  have kk := k H locs ls ad a1 a2 a3 hP hD hS hok hlo
  simp only [List.map_cons, xt] at kk ⊢
  exact lv_aload_n hx hb hd rfl (hlo.2.2 _ _ hl) kk

theorem r_aAload (hL : Lg own nm cc nL R ret mc ms K X) {i : Nat} {x : Nat} (hd : decode cc pc = .ok (.aload i, 2)) (hl : lo[i]? = some (some (xA x))) (k : X cu su w μ (pc + 2) lo (xA x :: st)) : X cu su w μ pc lo st := by
  obtain ⟨p, l, e, s, m, args, below, meth, c, g, w0, ad0, A, ⟨hx, hb, hml, hown, hT, hK, hSt, hA⟩, hr, hlk, hnm, rfl⟩ := hL
  intro H locs ls ad a1 a2 a3 hP hD hS hok hlo
  have kk := k H locs ls ad a1 a2 a3 hP hD hS hok hlo
  simp only [List.map_cons, xt] at kk ⊢
  exact lv_aload hx hb hd (hlo.2.2 _ _ hl) kk

theorem r_aAload_n (hL : Lg own nm cc nL R ret mc ms K X) {j : Fin 4} {x : Nat} (hd : decode cc pc = .ok (.aload_n j, 1)) (hl : lo[(j : Nat)]? = some (some (xA x))) (k : X cu su w μ (pc + 1) lo (xA x :: st)) : X cu su w μ pc lo st := by
  obtain ⟨p, l, e, s, m, args, below, meth, c, g, w0, ad0, A, ⟨hx, hb, hml, hown, hT, hK, hSt, hA⟩, hr, hlk, hnm, rfl⟩ := hL
  intro H locs ls ad a1 a2 a3 hP hD hS hok hlo
  have kk := k H locs ls ad a1 a2 a3 hP hD hS hok hlo
  simp only [List.map_cons, xt] at kk ⊢
  exact lv_aload_n hx hb hd rfl (hlo.2.2 _ _ hl) kk

theorem r_istore (hL : Lg own nm cc nL R ret mc ms K X) {lo' : xLoc} {i : Nat} {x : Int} (hd : decode cc pc = .ok (.istore i, 2)) (hn : i < nL) (hl : xs1 lo i (xI x) = lo') (k : X cu su w μ (pc + 2) lo' st) : X cu su w μ pc lo (xI x :: st) := by
  obtain ⟨p, l, e, s, m, args, below, meth, c, g, w0, ad0, A, ⟨hx, hb, hml, hown, hT, hK, hSt, hA⟩, hr, hlk, hnm, rfl⟩ := hL
  intro H locs ls ad a1 a2 a3 hP hD hS hok hlo
  subst hl
  simp only [List.map_cons, xt]
  exact lv_istore hx hb hd hlo.has hn rfl (fun ls2 h2 => k H locs ls2 ad a1 a2 a3 hP hD hS hok (xLo.of1 (v := xI x) h2))

theorem r_istore_n (hL : Lg own nm cc nL R ret mc ms K X) {lo' : xLoc} {j : Fin 4} {x : Int} (hd : decode cc pc = .ok (.istore_n j, 1)) (hn : (j : Nat) < nL) (hl : xs1 lo (j : Nat) (xI x) = lo') (k : X cu su w μ (pc + 1) lo' st) : X cu su w μ pc lo (xI x :: st) := by
  obtain ⟨p, l, e, s, m, args, below, meth, c, g, w0, ad0, A, ⟨hx, hb, hml, hown, hT, hK, hSt, hA⟩, hr, hlk, hnm, rfl⟩ := hL
  intro H locs ls ad a1 a2 a3 hP hD hS hok hlo
  subst hl
  simp only [List.map_cons, xt]
  exact lv_istore_n hx hb hd rfl hlo.has hn rfl (fun ls2 h2 => k H locs ls2 ad a1 a2 a3 hP hD hS hok (xLo.of1 (v := xI x) h2))

theorem r_lstore (hL : Lg own nm cc nL R ret mc ms K X) {lo' : xLoc} {i : Nat} {x : Int} (hd : decode cc pc = .ok (.lstore i, 2)) (hn : i + 1 < nL) (hl : xs2 lo i (xL x) = lo') (k : X cu su w μ (pc + 2) lo' st) : X cu su w μ pc lo (xL x :: st) := by
  obtain ⟨p, l, e, s, m, args, below, meth, c, g, w0, ad0, A, ⟨hx, hb, hml, hown, hT, hK, hSt, hA⟩, hr, hlk, hnm, rfl⟩ := hL
  intro H locs ls ad a1 a2 a3 hP hD hS hok hlo
  subst hl
  simp only [List.map_cons, xt]
  exact lv_lstore hx hb hd hlo.has hn rfl (fun ls2 h2 => k H locs ls2 ad a1 a2 a3 hP hD hS hok (xLo.of2 (v := xL x) h2))

theorem r_lstore_n (hL : Lg own nm cc nL R ret mc ms K X) {lo' : xLoc} {j : Fin 4} {x : Int} (hd : decode cc pc = .ok (.lstore_n j, 1)) (hn : (j : Nat) + 1 < nL) (hl : xs2 lo (j : Nat) (xL x) = lo') (k : X cu su w μ (pc + 1) lo' st) : X cu su w μ pc lo (xL x :: st) := by
  obtain ⟨p, l, e, s, m, args, below, meth, c, g, w0, ad0, A, ⟨hx, hb, hml, hown, hT, hK, hSt, hA⟩, hr, hlk, hnm, rfl⟩ := hL
  intro H locs ls ad a1 a2 a3 hP hD hS hok hlo
  subst hl
  simp only [List.map_cons, xt]
  exact lv_lstore_n hx hb hd rfl hlo.has hn rfl (fun ls2 h2 => k H locs ls2 ad a1 a2 a3 hP hD hS hok (xLo.of2 (v := xL x) h2))

theorem r_astore (hL : Lg own nm cc nL R ret mc ms K X) {lo' : xLoc} {i : Nat} {x : Nat} (hd : decode cc pc = .ok (.astore i, 2)) (hn : i < nL) (hl : xs1 lo i (xR x) = lo') (k : X cu su w μ (pc + 2) lo' st) : X cu su w μ pc lo (xR x :: st) := by
  obtain ⟨p, l, e, s, m, args, below, meth, c, g, w0, ad0, A, ⟨hx, hb, hml, hown, hT, hK, hSt, hA⟩, hr, hlk, hnm, rfl⟩ := hL
  intro H locs ls ad a1 a2 a3 hP hD hS hok hlo
  subst hl
  simp only [List.map_cons, xt]
  exact lv_astore hx hb hd hlo.has hn rfl (fun ls2 h2 => k H locs ls2 ad a1 a2 a3 hP hD hS hok (xLo.of1 (v := xR x) h2))

theorem r_astore_n (hL : Lg own nm cc nL R ret mc ms K X) {lo' : xLoc} {j : Fin 4} {x : Nat} (hd : decode cc pc = .ok (.astore_n j, 1)) (hn : (j : Nat) < nL) (hl : xs1 lo (j : Nat) (xR x) = lo') (k : X cu su w μ (pc + 1) lo' st) : X cu su w μ pc lo (xR x :: st) := by
  obtain ⟨p, l, e, s, m, args, below, meth, c, g, w0, ad0, A, ⟨hx, hb, hml, hown, hT, hK, hSt, hA⟩, hr, hlk, hnm, rfl⟩ := hL
  intro H locs ls ad a1 a2 a3 hP hD hS hok hlo
  subst hl
  simp only [List.map_cons, xt]
  exact lv_astore_n hx hb hd rfl hlo.has hn rfl (fun ls2 h2 => k H locs ls2 ad a1 a2 a3 hP hD hS hok (xLo.of1 (v := xR x) h2))

theorem r_iinc (hL : Lg own nm cc nL R ret mc ms K X) {lo' : xLoc} {i : Nat} {n x : Int} (hd : decode cc pc = .ok (.iinc i n, 3)) (hn : i < nL) (hi : lo[i]? = some (some (xI x))) (hl : xs1 lo i (xI (x + n)) = lo') (k : X cu su w μ (pc + 3) lo' st) : X cu su w μ pc lo st := by
  obtain ⟨p, l, e, s, m, args, below, meth, c, g, w0, ad0, A, ⟨hx, hb, hml, hown, hT, hK, hSt, hA⟩, hr, hlk, hnm, rfl⟩ := hL
  intro H locs ls ad a1 a2 a3 hP hD hS hok hlo
  subst hl
  obtain ⟨q, hq⟩ := List.getElem?_of_mem (xll_mem (ad := ad) hi)
  exact lv_iinc (v := Int32.ofInt (x + n)) hx hb hd hlo.has hq (by rw [Int32.ofInt_add]) hn rfl (fun ls2 h2 => k H locs ls2 ad a1 a2 a3 hP hD hS hok (xLo.of1 (v := xI (x + n)) h2))

theorem r_pop (hL : Lg own nm cc nL R ret mc ms K X) {v : xV} (hd : decode cc pc = .ok (.pop, 1)) (hv : xlg (some (some v)) = false) (k : X cu su w μ (pc + 1) lo st) : X cu su w μ pc lo (v :: st) := by
  obtain ⟨p, l, e, s, m, args, below, meth, c, g, w0, ad0, A, ⟨hx, hb, hml, hown, hT, hK, hSt, hA⟩, hr, hlk, hnm, rfl⟩ := hL
  intro H locs ls ad a1 a2 a3 hP hD hS hok hlo
  have kk := k H locs ls ad a1 a2 a3 hP hD hS hok hlo
  simp only [List.map_cons]
  exact lv_pop hx hb hd ((lv_cat _).resolve_right (xlg_cat hv)) kk

theorem r_dup (hL : Lg own nm cc nL R ret mc ms K X) {v : xV} (hd : decode cc pc = .ok (.dup, 1)) (hv : xlg (some (some v)) = false) (k : X cu su w μ (pc + 1) lo (v :: v :: st)) : X cu su w μ pc lo (v :: st) := by
  obtain ⟨p, l, e, s, m, args, below, meth, c, g, w0, ad0, A, ⟨hx, hb, hml, hown, hT, hK, hSt, hA⟩, hr, hlk, hnm, rfl⟩ := hL
  intro H locs ls ad a1 a2 a3 hP hD hS hok hlo
  have kk := k H locs ls ad a1 a2 a3 hP hD hS hok hlo
  simp only [List.map_cons] at kk ⊢
  exact lv_dup hx hb hd ((lv_cat _).resolve_right (xlg_cat hv)) kk

theorem r_dup2 (hL : Lg own nm cc nL R ret mc ms K X) {v u : xV} (hd : decode cc pc = .ok (.dup2, 1)) (hv : xlg (some (some v)) = false) (hu : xlg (some (some u)) = false) (k : X cu su w μ (pc + 1) lo (v :: u :: v :: u :: st)) : X cu su w μ pc lo (v :: u :: st) := by
  obtain ⟨p, l, e, s, m, args, below, meth, c, g, w0, ad0, A, ⟨hx, hb, hml, hown, hT, hK, hSt, hA⟩, hr, hlk, hnm, rfl⟩ := hL
  intro H locs ls ad a1 a2 a3 hP hD hS hok hlo
  have kk := k H locs ls ad a1 a2 a3 hP hD hS hok hlo
  simp only [List.map_cons] at kk ⊢
  exact lv_dup2_11 hx hb hd ((lv_cat _).resolve_right (xlg_cat hv)) ((lv_cat _).resolve_right (xlg_cat hu)) kk

theorem r_goto (hL : Lg own nm cc nL R ret mc ms K X) {off : Int} {tgt : Nat} (hd : decode cc pc = .ok (.goto off, 3)) (ht : (pc : Int) + off = (tgt : Int)) (k : X cu su w μ tgt lo st) : X cu su w μ pc lo st := by
  obtain ⟨p, l, e, s, m, args, below, meth, c, g, w0, ad0, A, ⟨hx, hb, hml, hown, hT, hK, hSt, hA⟩, hr, hlk, hnm, rfl⟩ := hL
  intro H locs ls ad a1 a2 a3 hP hD hS hok hlo
  have kk := k H locs ls ad a1 a2 a3 hP hD hS hok hlo
  exact lv_goto hx hb hd ht kk

theorem r_icmp_eq (hL : Lg own nm cc nL R ret mc ms K X) {x y : Int} {off : Int} {tgt : Nat} (hd : decode cc pc = .ok (.if_icmp .eq off, 3)) (ht : (pc : Int) + off = (tgt : Int)) (hx0 : xrg x) (hy0 : xrg y) (kt : x = y → X cu su w μ tgt lo st) (kf : ¬ x = y → X cu su w μ (pc + 3) lo st) : X cu su w μ pc lo (xI y :: xI x :: st) := by
  obtain ⟨p, l, e, s, m, args, below, meth, c, g, w0, ad0, A, ⟨hx, hb, hml, hown, hT, hK, hSt, hA⟩, hr, hlk, hnm, rfl⟩ := hL
  intro H locs ls ad a1 a2 a3 hP hD hS hok hlo
  simp only [List.map_cons, xt]
  exact lv_icmp_eq hx hb hd ht (fun q => kt ((xn_eq hx0 hy0).mp q) H locs ls ad a1 a2 a3 hP hD hS hok hlo) (fun q => kf (fun z => q ((xn_eq hx0 hy0).mpr z)) H locs ls ad a1 a2 a3 hP hD hS hok hlo)

theorem r_if_eq (hL : Lg own nm cc nL R ret mc ms K X) {x : Int} {off : Int} {tgt : Nat} (hd : decode cc pc = .ok (.ifCond .eq off, 3)) (ht : (pc : Int) + off = (tgt : Int)) (hx0 : xrg x) (kt : x = 0 → X cu su w μ tgt lo st) (kf : ¬ x = 0 → X cu su w μ (pc + 3) lo st) : X cu su w μ pc lo (xI x :: st) := by
  obtain ⟨p, l, e, s, m, args, below, meth, c, g, w0, ad0, A, ⟨hx, hb, hml, hown, hT, hK, hSt, hA⟩, hr, hlk, hnm, rfl⟩ := hL
  intro H locs ls ad a1 a2 a3 hP hD hS hok hlo
  simp only [List.map_cons, xt]
  exact lv_if_eq hx hb hd ht (fun q => kt ((xn_eq hx0 (by omega : xrg 0)).mp q) H locs ls ad a1 a2 a3 hP hD hS hok hlo) (fun q => kf (fun z => q ((xn_eq hx0 (by omega : xrg 0)).mpr z)) H locs ls ad a1 a2 a3 hP hD hS hok hlo)

theorem r_icmp_ne (hL : Lg own nm cc nL R ret mc ms K X) {x y : Int} {off : Int} {tgt : Nat} (hd : decode cc pc = .ok (.if_icmp .ne off, 3)) (ht : (pc : Int) + off = (tgt : Int)) (hx0 : xrg x) (hy0 : xrg y) (kt : ¬ x = y → X cu su w μ tgt lo st) (kf : x = y → X cu su w μ (pc + 3) lo st) : X cu su w μ pc lo (xI y :: xI x :: st) := by
  obtain ⟨p, l, e, s, m, args, below, meth, c, g, w0, ad0, A, ⟨hx, hb, hml, hown, hT, hK, hSt, hA⟩, hr, hlk, hnm, rfl⟩ := hL
  intro H locs ls ad a1 a2 a3 hP hD hS hok hlo
  simp only [List.map_cons, xt]
  exact lv_icmp_ne hx hb hd ht (fun q => kt (fun z => q ((xn_eq hx0 hy0).mpr z)) H locs ls ad a1 a2 a3 hP hD hS hok hlo) (fun q => kf ((xn_eq hx0 hy0).mp q) H locs ls ad a1 a2 a3 hP hD hS hok hlo)

theorem r_if_ne (hL : Lg own nm cc nL R ret mc ms K X) {x : Int} {off : Int} {tgt : Nat} (hd : decode cc pc = .ok (.ifCond .ne off, 3)) (ht : (pc : Int) + off = (tgt : Int)) (hx0 : xrg x) (kt : ¬ x = 0 → X cu su w μ tgt lo st) (kf : x = 0 → X cu su w μ (pc + 3) lo st) : X cu su w μ pc lo (xI x :: st) := by
  obtain ⟨p, l, e, s, m, args, below, meth, c, g, w0, ad0, A, ⟨hx, hb, hml, hown, hT, hK, hSt, hA⟩, hr, hlk, hnm, rfl⟩ := hL
  intro H locs ls ad a1 a2 a3 hP hD hS hok hlo
  simp only [List.map_cons, xt]
  exact lv_if_ne hx hb hd ht (fun q => kt (fun z => q ((xn_eq hx0 (by omega : xrg 0)).mpr z)) H locs ls ad a1 a2 a3 hP hD hS hok hlo) (fun q => kf ((xn_eq hx0 (by omega : xrg 0)).mp q) H locs ls ad a1 a2 a3 hP hD hS hok hlo)

theorem r_icmp_lt (hL : Lg own nm cc nL R ret mc ms K X) {x y : Int} {off : Int} {tgt : Nat} (hd : decode cc pc = .ok (.if_icmp .lt off, 3)) (ht : (pc : Int) + off = (tgt : Int)) (hx0 : xrg x) (hy0 : xrg y) (kt : x < y → X cu su w μ tgt lo st) (kf : ¬ x < y → X cu su w μ (pc + 3) lo st) : X cu su w μ pc lo (xI y :: xI x :: st) := by
  obtain ⟨p, l, e, s, m, args, below, meth, c, g, w0, ad0, A, ⟨hx, hb, hml, hown, hT, hK, hSt, hA⟩, hr, hlk, hnm, rfl⟩ := hL
  intro H locs ls ad a1 a2 a3 hP hD hS hok hlo
  simp only [List.map_cons, xt]
  exact lv_icmp_lt hx hb hd ht (fun q => kt ((xn_lt hx0 hy0).mp q) H locs ls ad a1 a2 a3 hP hD hS hok hlo) (fun q => kf (fun z => q ((xn_lt hx0 hy0).mpr z)) H locs ls ad a1 a2 a3 hP hD hS hok hlo)

theorem r_if_lt (hL : Lg own nm cc nL R ret mc ms K X) {x : Int} {off : Int} {tgt : Nat} (hd : decode cc pc = .ok (.ifCond .lt off, 3)) (ht : (pc : Int) + off = (tgt : Int)) (hx0 : xrg x) (kt : x < 0 → X cu su w μ tgt lo st) (kf : ¬ x < 0 → X cu su w μ (pc + 3) lo st) : X cu su w μ pc lo (xI x :: st) := by
  obtain ⟨p, l, e, s, m, args, below, meth, c, g, w0, ad0, A, ⟨hx, hb, hml, hown, hT, hK, hSt, hA⟩, hr, hlk, hnm, rfl⟩ := hL
  intro H locs ls ad a1 a2 a3 hP hD hS hok hlo
  simp only [List.map_cons, xt]
  exact lv_if_lt hx hb hd ht (fun q => kt ((xn_lt hx0 (by omega : xrg 0)).mp q) H locs ls ad a1 a2 a3 hP hD hS hok hlo) (fun q => kf (fun z => q ((xn_lt hx0 (by omega : xrg 0)).mpr z)) H locs ls ad a1 a2 a3 hP hD hS hok hlo)

theorem r_icmp_ge (hL : Lg own nm cc nL R ret mc ms K X) {x y : Int} {off : Int} {tgt : Nat} (hd : decode cc pc = .ok (.if_icmp .ge off, 3)) (ht : (pc : Int) + off = (tgt : Int)) (hx0 : xrg x) (hy0 : xrg y) (kt : y ≤ x → X cu su w μ tgt lo st) (kf : ¬ y ≤ x → X cu su w μ (pc + 3) lo st) : X cu su w μ pc lo (xI y :: xI x :: st) := by
  obtain ⟨p, l, e, s, m, args, below, meth, c, g, w0, ad0, A, ⟨hx, hb, hml, hown, hT, hK, hSt, hA⟩, hr, hlk, hnm, rfl⟩ := hL
  intro H locs ls ad a1 a2 a3 hP hD hS hok hlo
  simp only [List.map_cons, xt]
  exact lv_icmp_ge hx hb hd ht (fun q => kt ((xn_le hy0 hx0).mp q) H locs ls ad a1 a2 a3 hP hD hS hok hlo) (fun q => kf (fun z => q ((xn_le hy0 hx0).mpr z)) H locs ls ad a1 a2 a3 hP hD hS hok hlo)

theorem r_if_ge (hL : Lg own nm cc nL R ret mc ms K X) {x : Int} {off : Int} {tgt : Nat} (hd : decode cc pc = .ok (.ifCond .ge off, 3)) (ht : (pc : Int) + off = (tgt : Int)) (hx0 : xrg x) (kt : 0 ≤ x → X cu su w μ tgt lo st) (kf : ¬ 0 ≤ x → X cu su w μ (pc + 3) lo st) : X cu su w μ pc lo (xI x :: st) := by
  obtain ⟨p, l, e, s, m, args, below, meth, c, g, w0, ad0, A, ⟨hx, hb, hml, hown, hT, hK, hSt, hA⟩, hr, hlk, hnm, rfl⟩ := hL
  intro H locs ls ad a1 a2 a3 hP hD hS hok hlo
  simp only [List.map_cons, xt]
  exact lv_if_ge hx hb hd ht (fun q => kt ((xn_le (by omega : xrg 0) hx0).mp q) H locs ls ad a1 a2 a3 hP hD hS hok hlo) (fun q => kf (fun z => q ((xn_le (by omega : xrg 0) hx0).mpr z)) H locs ls ad a1 a2 a3 hP hD hS hok hlo)

theorem r_icmp_gt (hL : Lg own nm cc nL R ret mc ms K X) {x y : Int} {off : Int} {tgt : Nat} (hd : decode cc pc = .ok (.if_icmp .gt off, 3)) (ht : (pc : Int) + off = (tgt : Int)) (hx0 : xrg x) (hy0 : xrg y) (kt : y < x → X cu su w μ tgt lo st) (kf : ¬ y < x → X cu su w μ (pc + 3) lo st) : X cu su w μ pc lo (xI y :: xI x :: st) := by
  obtain ⟨p, l, e, s, m, args, below, meth, c, g, w0, ad0, A, ⟨hx, hb, hml, hown, hT, hK, hSt, hA⟩, hr, hlk, hnm, rfl⟩ := hL
  intro H locs ls ad a1 a2 a3 hP hD hS hok hlo
  simp only [List.map_cons, xt]
  exact lv_icmp_gt hx hb hd ht (fun q => kt ((xn_lt hy0 hx0).mp q) H locs ls ad a1 a2 a3 hP hD hS hok hlo) (fun q => kf (fun z => q ((xn_lt hy0 hx0).mpr z)) H locs ls ad a1 a2 a3 hP hD hS hok hlo)

theorem r_if_gt (hL : Lg own nm cc nL R ret mc ms K X) {x : Int} {off : Int} {tgt : Nat} (hd : decode cc pc = .ok (.ifCond .gt off, 3)) (ht : (pc : Int) + off = (tgt : Int)) (hx0 : xrg x) (kt : 0 < x → X cu su w μ tgt lo st) (kf : ¬ 0 < x → X cu su w μ (pc + 3) lo st) : X cu su w μ pc lo (xI x :: st) := by
  obtain ⟨p, l, e, s, m, args, below, meth, c, g, w0, ad0, A, ⟨hx, hb, hml, hown, hT, hK, hSt, hA⟩, hr, hlk, hnm, rfl⟩ := hL
  intro H locs ls ad a1 a2 a3 hP hD hS hok hlo
  simp only [List.map_cons, xt]
  exact lv_if_gt hx hb hd ht (fun q => kt ((xn_lt (by omega : xrg 0) hx0).mp q) H locs ls ad a1 a2 a3 hP hD hS hok hlo) (fun q => kf (fun z => q ((xn_lt (by omega : xrg 0) hx0).mpr z)) H locs ls ad a1 a2 a3 hP hD hS hok hlo)

theorem r_icmp_le (hL : Lg own nm cc nL R ret mc ms K X) {x y : Int} {off : Int} {tgt : Nat} (hd : decode cc pc = .ok (.if_icmp .le off, 3)) (ht : (pc : Int) + off = (tgt : Int)) (hx0 : xrg x) (hy0 : xrg y) (kt : x ≤ y → X cu su w μ tgt lo st) (kf : ¬ x ≤ y → X cu su w μ (pc + 3) lo st) : X cu su w μ pc lo (xI y :: xI x :: st) := by
  obtain ⟨p, l, e, s, m, args, below, meth, c, g, w0, ad0, A, ⟨hx, hb, hml, hown, hT, hK, hSt, hA⟩, hr, hlk, hnm, rfl⟩ := hL
  intro H locs ls ad a1 a2 a3 hP hD hS hok hlo
  simp only [List.map_cons, xt]
  exact lv_icmp_le hx hb hd ht (fun q => kt ((xn_le hx0 hy0).mp q) H locs ls ad a1 a2 a3 hP hD hS hok hlo) (fun q => kf (fun z => q ((xn_le hx0 hy0).mpr z)) H locs ls ad a1 a2 a3 hP hD hS hok hlo)

theorem r_if_le (hL : Lg own nm cc nL R ret mc ms K X) {x : Int} {off : Int} {tgt : Nat} (hd : decode cc pc = .ok (.ifCond .le off, 3)) (ht : (pc : Int) + off = (tgt : Int)) (hx0 : xrg x) (kt : x ≤ 0 → X cu su w μ tgt lo st) (kf : ¬ x ≤ 0 → X cu su w μ (pc + 3) lo st) : X cu su w μ pc lo (xI x :: st) := by
  obtain ⟨p, l, e, s, m, args, below, meth, c, g, w0, ad0, A, ⟨hx, hb, hml, hown, hT, hK, hSt, hA⟩, hr, hlk, hnm, rfl⟩ := hL
  intro H locs ls ad a1 a2 a3 hP hD hS hok hlo
  simp only [List.map_cons, xt]
  exact lv_if_le hx hb hd ht (fun q => kt ((xn_le hx0 (by omega : xrg 0)).mp q) H locs ls ad a1 a2 a3 hP hD hS hok hlo) (fun q => kf (fun z => q ((xn_le hx0 (by omega : xrg 0)).mpr z)) H locs ls ad a1 a2 a3 hP hD hS hok hlo)

theorem r_tableOut (hL : Lg own nm cc nL R ret mc ms K X) {dflt lo0 hi : Int} {offs : Array Int} {len tgt : Nat} {x : Int} (hd : decode cc pc = .ok (.tableswitch dflt lo0 hi offs, len)) (hx0 : xrg x) (h : x < lo0 ∨ hi < x) (ht : (pc : Int) + dflt = (tgt : Int)) (k : X cu su w μ tgt lo st) : X cu su w μ pc lo (xI x :: st) := by
  obtain ⟨p, l, e, s, m, args, below, meth, c, g, w0, ad0, A, ⟨hx, hb, hml, hown, hT, hK, hSt, hA⟩, hr, hlk, hnm, rfl⟩ := hL
  intro H locs ls ad a1 a2 a3 hP hD hS hok hlo
  have kk := k H locs ls ad a1 a2 a3 hP hD hS hok hlo
  simp only [List.map_cons, xt]
  exact lv_tableOut hx hb hd (by rw [xn_i hx0]; exact h) ht kk

theorem r_tableIn (hL : Lg own nm cc nL R ret mc ms K X) {dflt lo0 hi off : Int} {offs : Array Int} {len tgt : Nat} {x : Int} (v : Int) (hd : decode cc pc = .ok (.tableswitch dflt lo0 hi offs, len)) (hx0 : xrg x) (hv : x = v) (h1 : ¬ v < lo0) (h2 : ¬ hi < v) (ho : offs[(v - lo0).toNat]? = some off) (ht : (pc : Int) + off = (tgt : Int)) (k : X cu su w μ tgt lo st) : X cu su w μ pc lo (xI x :: st) := by
  obtain ⟨p, l, e, s, m, args, below, meth, c, g, w0, ad0, A, ⟨hx, hb, hml, hown, hT, hK, hSt, hA⟩, hr, hlk, hnm, rfl⟩ := hL
  intro H locs ls ad a1 a2 a3 hP hD hS hok hlo
  subst hv
  have kk := k H locs ls ad a1 a2 a3 hP hD hS hok hlo
  simp only [List.map_cons, xt]
  exact lv_tableIn hx hb hd (by rw [xn_i hx0]; exact h1) (by rw [xn_i hx0]; exact h2) (by rw [xn_i hx0]; exact ho) ht kk

theorem r_lookup (hL : Lg own nm cc nL R ret mc ms K X) {dflt off : Int} {ps : Array (Int × Int)} {len tgt : Nat} {x : Int} (hd : decode cc pc = .ok (.lookupswitch dflt ps, len)) (hx0 : xrg x) (hp : (ps.toList.zip (ps.toList.drop 1)).all (fun (a, next) => a.1 < next.1) = true) (ho : Op.lookupswitch.offset ps.toList dflt x = off) (ht : (pc : Int) + off = (tgt : Int)) (k : X cu su w μ tgt lo st) : X cu su w μ pc lo (xI x :: st) := by
  obtain ⟨p, l, e, s, m, args, below, meth, c, g, w0, ad0, A, ⟨hx, hb, hml, hown, hT, hK, hSt, hA⟩, hr, hlk, hnm, rfl⟩ := hL
  intro H locs ls ad a1 a2 a3 hP hD hS hok hlo
  have kk := k H locs ls ad a1 a2 a3 hP hD hS hok hlo
  simp only [List.map_cons, xt]
  exact lv_lookup hx hb hd hp (by rw [xn_i hx0]; exact ho) ht kk

theorem r_less (hL : Lg own nm cc nL R ret mc ms K X) {lo' : xLoc} (hl : ∀ (i : Nat) (v : xV), lo'[i]? = some (some v) → lo[i]? = some (some v)) (k : X cu su w μ pc lo' st) : X cu su w μ pc lo st := by
  obtain ⟨p, l, e, s, m, args, below, meth, c, g, w0, ad0, A, ⟨hx, hb, hml, hown, hT, hK, hSt, hA⟩, hr, hlk, hnm, rfl⟩ := hL
  intro H locs ls ad a1 a2 a3 hP hD hS hok hlo
  exact k H locs ls ad a1 a2 a3 hP hD hS hok (hlo.less hl)
theorem r_widen (hL : Lg own nm cc nL R ret mc ms K X) {cu' su' : Nat} (h1 : cu ≤ cu') (h2 : su ≤ su') (k : X cu' su' w μ pc lo st) : X cu su w μ pc lo st := by
  obtain ⟨p, l, e, s, m, args, below, meth, c, g, w0, ad0, A, ⟨hx, hb, hml, hown, hT, hK, hSt, hA⟩, hr, hlk, hnm, rfl⟩ := hL
  intro H locs ls ad a1 a2 a3 hP hD hS hok hlo
  exact W.widen h1 h2 (k H locs ls ad a1 a2 a3 hP hD hS hok hlo)
/-- what memory keeps -/
theorem r_ok (hL : Lg own nm cc nL R ret mc ms K X) (k : xok w μ → X cu su w μ pc lo st) : X cu su w μ pc lo st := by
  obtain ⟨p, l, e, s, m, args, below, meth, c, g, w0, ad0, A, ⟨hx, hb, hml, hown, hT, hK, hSt, hA⟩, hr, hlk, hnm, rfl⟩ := hL
  intro H locs ls ad a1 a2 a3 hP hD hS hok hlo
  exact k hok H locs ls ad a1 a2 a3 hP hD hS hok hlo
end
