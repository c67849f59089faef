section ROWS
variable {E : EnvT} {cc : ByteArray} {own : String} {nL : Nat} {rm : Room} {kc ks : Nat} {ρ : Type} {r0 : ρ} {b b1 b2 : Option ρ} {σ : Mem} {pc : Nat} {lv lv' : List (Nat × Value)} {st : List Value}
theorem j_iadd (C : CX E cc own nL rm) {x y : Int32} (hd : decode cc pc = .ok (.iadd, 1)) (k : J E nL kc ks r0 b σ (pc + 1) lv (.int (x + y) :: st)) : J E nL kc ks r0 b σ pc lv (.int y :: .int x :: st) := by
  obtain ⟨p, l, e, R, s, m, args, below, meth, c, Q, A, D, tys, ids, ad, ent⟩ := E
  obtain ⟨hx, hb, hml, hown, hts, hK, hN, hR, hA, hlk, hAX⟩ := C
  exact fun h H locs ls hP hD hS hl => lv_iadd hx hb hd (k h H locs ls hP hD hS hl)
theorem j_isub (C : CX E cc own nL rm) {x y : Int32} (hd : decode cc pc = .ok (.isub, 1)) (k : J E nL kc ks r0 b σ (pc + 1) lv (.int (x - y) :: st)) : J E nL kc ks r0 b σ pc lv (.int y :: .int x :: st) := by
  obtain ⟨p, l, e, R, s, m, args, below, meth, c, Q, A, D, tys, ids, ad, ent⟩ := E
  obtain ⟨hx, hb, hml, hown, hts, hK, hN, hR, hA, hlk, hAX⟩ := C
  exact fun h H locs ls hP hD hS hl => lv_isub hx hb hd (k h H locs ls hP hD hS hl)
theorem j_imul (C : CX E cc own nL rm) {x y : Int32} (hd : decode cc pc = .ok (.imul, 1)) (k : J E nL kc ks r0 b σ (pc + 1) lv (.int (x * y) :: st)) : J E nL kc ks r0 b σ pc lv (.int y :: .int x :: st) := by
  obtain ⟨p, l, e, R, s, m, args, below, meth, c, Q, A, D, tys, ids, ad, ent⟩ := E
  obtain ⟨hx, hb, hml, hown, hts, hK, hN, hR, hA, hlk, hAX⟩ := C
  exact fun h H locs ls hP hD hS hl => lv_imul hx hb hd (k h H locs ls hP hD hS hl)
theorem j_iand (C : CX E cc own nL rm) {x y : Int32} (hd : decode cc pc = .ok (.iand, 1)) (k : J E nL kc ks r0 b σ (pc + 1) lv (.int (x &&& y) :: st)) : J E nL kc ks r0 b σ pc lv (.int y :: .int x :: st) := by
  obtain ⟨p, l, e, R, s, m, args, below, meth, c, Q, A, D, tys, ids, ad, ent⟩ := E
  obtain ⟨hx, hb, hml, hown, hts, hK, hN, hR, hA, hlk, hAX⟩ := C
  exact fun h H locs ls hP hD hS hl => lv_iand hx hb hd (k h H locs ls hP hD hS hl)
theorem j_ior (C : CX E cc own nL rm) {x y : Int32} (hd : decode cc pc = .ok (.ior, 1)) (k : J E nL kc ks r0 b σ (pc + 1) lv (.int (x ||| y) :: st)) : J E nL kc ks r0 b σ pc lv (.int y :: .int x :: st) := by
  obtain ⟨p, l, e, R, s, m, args, below, meth, c, Q, A, D, tys, ids, ad, ent⟩ := E
  obtain ⟨hx, hb, hml, hown, hts, hK, hN, hR, hA, hlk, hAX⟩ := C
  exact fun h H locs ls hP hD hS hl => lv_ior hx hb hd (k h H locs ls hP hD hS hl)
theorem j_ixor (C : CX E cc own nL rm) {x y : Int32} (hd : decode cc pc = .ok (.ixor, 1)) (k : J E nL kc ks r0 b σ (pc + 1) lv (.int (x ^^^ y) :: st)) : J E nL kc ks r0 b σ pc lv (.int y :: .int x :: st) := by
  obtain ⟨p, l, e, R, s, m, args, below, meth, c, Q, A, D, tys, ids, ad, ent⟩ := E
  obtain ⟨hx, hb, hml, hown, hts, hK, hN, hR, hA, hlk, hAX⟩ := C
  exact fun h H locs ls hP hD hS hl => lv_ixor hx hb hd (k h H locs ls hP hD hS hl)
theorem j_ladd (C : CX E cc own nL rm) {x y : Int64} (hd : decode cc pc = .ok (.ladd, 1)) (k : J E nL kc ks r0 b σ (pc + 1) lv (.long (x + y) :: st)) : J E nL kc ks r0 b σ pc lv (.long y :: .long x :: st) := by
  obtain ⟨p, l, e, R, s, m, args, below, meth, c, Q, A, D, tys, ids, ad, ent⟩ := E
  obtain ⟨hx, hb, hml, hown, hts, hK, hN, hR, hA, hlk, hAX⟩ := C
  exact fun h H locs ls hP hD hS hl => lv_ladd hx hb hd (k h H locs ls hP hD hS hl)
theorem j_lsub (C : CX E cc own nL rm) {x y : Int64} (hd : decode cc pc = .ok (.lsub, 1)) (k : J E nL kc ks r0 b σ (pc + 1) lv (.long (x - y) :: st)) : J E nL kc ks r0 b σ pc lv (.long y :: .long x :: st) := by
  obtain ⟨p, l, e, R, s, m, args, below, meth, c, Q, A, D, tys, ids, ad, ent⟩ := E
  obtain ⟨hx, hb, hml, hown, hts, hK, hN, hR, hA, hlk, hAX⟩ := C
  exact fun h H locs ls hP hD hS hl => lv_lsub hx hb hd (k h H locs ls hP hD hS hl)
theorem j_lmul (C : CX E cc own nL rm) {x y : Int64} (hd : decode cc pc = .ok (.lmul, 1)) (k : J E nL kc ks r0 b σ (pc + 1) lv (.long (x * y) :: st)) : J E nL kc ks r0 b σ pc lv (.long y :: .long x :: st) := by
  obtain ⟨p, l, e, R, s, m, args, below, meth, c, Q, A, D, tys, ids, ad, ent⟩ := E
  obtain ⟨hx, hb, hml, hown, hts, hK, hN, hR, hA, hlk, hAX⟩ := C
  exact fun h H locs ls hP hD hS hl => lv_lmul hx hb hd (k h H locs ls hP hD hS hl)
theorem j_lcmp (C : CX E cc own nL rm) {x y : Int64} (hd : decode cc pc = .ok (.lcmp, 1)) (k : J E nL kc ks r0 b σ (pc + 1) lv (.int (lg_cmp x y) :: st)) : J E nL kc ks r0 b σ pc lv (.long y :: .long x :: st) := by
  obtain ⟨p, l, e, R, s, m, args, below, meth, c, Q, A, D, tys, ids, ad, ent⟩ := E
  obtain ⟨hx, hb, hml, hown, hts, hK, hN, hR, hA, hlk, hAX⟩ := C
  exact fun h H locs ls hP hD hS hl => W.lcmp hx hb hd (k h H locs ls hP hD hS hl)
theorem j_idivK (C : CX E cc own nL rm) {x y : Int32} (hd : decode cc pc = .ok (.idiv, 1)) (hne : ¬ y = 0) (k : J E nL kc ks r0 b σ (pc + 1) lv (.int (x / y) :: st)) : J E nL kc ks r0 b σ pc lv (.int y :: .int x :: st) := by
  obtain ⟨p, l, e, R, s, m, args, below, meth, c, Q, A, D, tys, ids, ad, ent⟩ := E
  obtain ⟨hx, hb, hml, hown, hts, hK, hN, hR, hA, hlk, hAX⟩ := C
  exact fun h H locs ls hP hD hS hl => lv_idiv hx hb hd hne (k h H locs ls hP hD hS hl)
theorem j_idiv (C : CX E cc own nL rm) {x y : Int32} (hd : decode cc pc = .ok (.idiv, 1)) (k : J E nL kc ks r0 b σ (pc + 1) lv (.int (x / y) :: st)) : J E nL kc ks r0 (chk (nz y) b) σ pc lv (.int y :: .int x :: st) := by
  intro h
  unfold chk at h
  split at h
  · exact j_idivK C hd (nz_ne (by assumption)) k h
  · cases h
theorem j_iremK (C : CX E cc own nL rm) {x y : Int32} (hd : decode cc pc = .ok (.irem, 1)) (hne : ¬ y = 0) (k : J E nL kc ks r0 b σ (pc + 1) lv (.int (x - x / y * y) :: st)) : J E nL kc ks r0 b σ pc lv (.int y :: .int x :: st) := by
  obtain ⟨p, l, e, R, s, m, args, below, meth, c, Q, A, D, tys, ids, ad, ent⟩ := E
  obtain ⟨hx, hb, hml, hown, hts, hK, hN, hR, hA, hlk, hAX⟩ := C
  exact fun h H locs ls hP hD hS hl => lv_irem hx hb hd hne (k h H locs ls hP hD hS hl)
theorem j_irem (C : CX E cc own nL rm) {x y : Int32} (hd : decode cc pc = .ok (.irem, 1)) (k : J E nL kc ks r0 b σ (pc + 1) lv (.int (x - x / y * y) :: st)) : J E nL kc ks r0 (chk (nz y) b) σ pc lv (.int y :: .int x :: st) := by
  intro h
  unfold chk at h
  split at h
  · exact j_iremK C hd (nz_ne (by assumption)) k h
  · cases h
theorem j_ldivK (C : CX E cc own nL rm) {x y : Int64} (hd : decode cc pc = .ok (.ldiv, 1)) (hne : ¬ y = 0) (k : J E nL kc ks r0 b σ (pc + 1) lv (.long (x / y) :: st)) : J E nL kc ks r0 b σ pc lv (.long y :: .long x :: st) := by
  obtain ⟨p, l, e, R, s, m, args, below, meth, c, Q, A, D, tys, ids, ad, ent⟩ := E
  obtain ⟨hx, hb, hml, hown, hts, hK, hN, hR, hA, hlk, hAX⟩ := C
  exact fun h H locs ls hP hD hS hl => lv_ldiv hx hb hd hne (k h H locs ls hP hD hS hl)
theorem j_ldiv (C : CX E cc own nL rm) {x y : Int64} (hd : decode cc pc = .ok (.ldiv, 1)) (k : J E nL kc ks r0 b σ (pc + 1) lv (.long (x / y) :: st)) : J E nL kc ks r0 (chk (nzL y) b) σ pc lv (.long y :: .long x :: st) := by
  intro h
  unfold chk at h
  split at h
  · exact j_ldivK C hd (nzL_ne (by assumption)) k h
  · cases h
theorem j_i2l (C : CX E cc own nL rm) {x : Int32} (hd : decode cc pc = .ok (.i2l, 1)) (k : J E nL kc ks r0 b σ (pc + 1) lv (.long x.toInt64 :: st)) : J E nL kc ks r0 b σ pc lv (.int x :: st) := by
  obtain ⟨p, l, e, R, s, m, args, below, meth, c, Q, A, D, tys, ids, ad, ent⟩ := E
  obtain ⟨hx, hb, hml, hown, hts, hK, hN, hR, hA, hlk, hAX⟩ := C
  exact fun h H locs ls hP hD hS hl => lv_i2l hx hb hd rfl (k h H locs ls hP hD hS hl)
theorem j_l2i (C : CX E cc own nL rm) {x : Int64} (hd : decode cc pc = .ok (.l2i, 1)) (k : J E nL kc ks r0 b σ (pc + 1) lv (.int x.toInt32 :: st)) : J E nL kc ks r0 b σ pc lv (.long x :: st) := by
  obtain ⟨p, l, e, R, s, m, args, below, meth, c, Q, A, D, tys, ids, ad, ent⟩ := E
  obtain ⟨hx, hb, hml, hown, hts, hK, hN, hR, hA, hlk, hAX⟩ := C
  exact fun h H locs ls hP hD hS hl => lv_l2i hx hb hd rfl (k h H locs ls hP hD hS hl)
theorem j_i2b (C : CX E cc own nL rm) {x : Int32} (hd : decode cc pc = .ok (.i2b, 1)) (k : J E nL kc ks r0 b σ (pc + 1) lv (.int x.toInt8.toInt32 :: st)) : J E nL kc ks r0 b σ pc lv (.int x :: st) := by
  obtain ⟨p, l, e, R, s, m, args, below, meth, c, Q, A, D, tys, ids, ad, ent⟩ := E
  obtain ⟨hx, hb, hml, hown, hts, hK, hN, hR, hA, hlk, hAX⟩ := C
  exact fun h H locs ls hP hD hS hl => lv_i2b hx hb hd rfl (k h H locs ls hP hD hS hl)
theorem j_i2s (C : CX E cc own nL rm) {x : Int32} (hd : decode cc pc = .ok (.i2s, 1)) (k : J E nL kc ks r0 b σ (pc + 1) lv (.int x.toInt16.toInt32 :: st)) : J E nL kc ks r0 b σ pc lv (.int x :: st) := by
  obtain ⟨p, l, e, R, s, m, args, below, meth, c, Q, A, D, tys, ids, ad, ent⟩ := E
  obtain ⟨hx, hb, hml, hown, hts, hK, hN, hR, hA, hlk, hAX⟩ := C
  exact fun h H locs ls hP hD hS hl => lv_i2s hx hb hd rfl (k h H locs ls hP hD hS hl)
theorem j_iconst (C : CX E cc own nL rm) {n : Int} (v : Int32) (hd : decode cc pc = .ok (.iconst n, 1)) (hv : Int32.ofInt n = v) (k : J E nL kc ks r0 b σ (pc + 1) lv (.int v :: st)) : J E nL kc ks r0 b σ pc lv st := by
  obtain ⟨p, l, e, R, s, m, args, below, meth, c, Q, A, D, tys, ids, ad, ent⟩ := E
  obtain ⟨hx, hb, hml, hown, hts, hK, hN, hR, hA, hlk, hAX⟩ := C
  exact fun h H locs ls hP hD hS hl => lv_iconst hx hb hd hv (k h H locs ls hP hD hS hl)
theorem j_bipush (C : CX E cc own nL rm) {n : Int} (v : Int32) (hd : decode cc pc = .ok (.bipush n, 2)) (hv : (Int8.ofInt n).toInt32 = v) (k : J E nL kc ks r0 b σ (pc + 2) lv (.int v :: st)) : J E nL kc ks r0 b σ pc lv st := by
  obtain ⟨p, l, e, R, s, m, args, below, meth, c, Q, A, D, tys, ids, ad, ent⟩ := E
  obtain ⟨hx, hb, hml, hown, hts, hK, hN, hR, hA, hlk, hAX⟩ := C
  exact fun h H locs ls hP hD hS hl => lv_bipush hx hb hd hv (k h H locs ls hP hD hS hl)
theorem j_sipush (C : CX E cc own nL rm) {n : Int} (v : Int32) (hd : decode cc pc = .ok (.sipush n, 3)) (hv : (Int16.ofInt n).toInt32 = v) (k : J E nL kc ks r0 b σ (pc + 3) lv (.int v :: st)) : J E nL kc ks r0 b σ pc lv st := by
  obtain ⟨p, l, e, R, s, m, args, below, meth, c, Q, A, D, tys, ids, ad, ent⟩ := E
  obtain ⟨hx, hb, hml, hown, hts, hK, hN, hR, hA, hlk, hAX⟩ := C
  exact fun h H locs ls hP hD hS hl => lv_sipush hx hb hd hv (k h H locs ls hP hD hS hl)
theorem j_lconst (C : CX E cc own nL rm) {n : Fin 2} (v : Int64) (hd : decode cc pc = .ok (.lconst n, 1)) (hv : Int64.ofNat (n : Nat) = v) (k : J E nL kc ks r0 b σ (pc + 1) lv (.long v :: st)) : J E nL kc ks r0 b σ pc lv st := by
  obtain ⟨p, l, e, R, s, m, args, below, meth, c, Q, A, D, tys, ids, ad, ent⟩ := E
  obtain ⟨hx, hb, hml, hown, hts, hK, hN, hR, hA, hlk, hAX⟩ := C
  exact fun h H locs ls hP hD hS hl => lv_lconst hx hb hd hv (k h H locs ls hP hD hS hl)
theorem j_ldc2 (C : CX E cc own nL rm) {i : Nat} {v : Int64} (hc : Cond.constantLong own i v ∈ lw_g) (hd : decode cc pc = .ok (.ldc2_w i, 3)) (k : J E nL kc ks r0 b σ (pc + 3) lv (.long v :: st)) : J E nL kc ks r0 b σ pc lv st := by
  obtain ⟨p, l, e, R, s, m, args, below, meth, c, Q, A, D, tys, ids, ad, ent⟩ := E
  obtain ⟨hx, hb, hml, hown, hts, hK, hN, hR, hA, hlk, hAX⟩ := C
  exact fun h H locs ls hP hD hS hl => lv_ldc2 hx hb hown (hts _ hc) hd (k h H locs ls hP hD hS hl)
theorem j_iload_n (C : CX E cc own nL rm) {i : Fin 4} {x : Int32} (hd : decode cc pc = .ok (.iload_n i, 1)) (q : Nat) (hq : lv[q]? = some ((i : Nat), .int x)) (k : J E nL kc ks r0 b σ (pc + 1) lv (.int x :: st)) : J E nL kc ks r0 b σ pc lv st := by
  obtain ⟨p, l, e, R, s, m, args, below, meth, c, Q, A, D, tys, ids, ad, ent⟩ := E
  obtain ⟨hx, hb, hml, hown, hts, hK, hN, hR, hA, hlk, hAX⟩ := C
  exact fun h H locs ls hP hD hS hl => lv_iload_n hx hb hd rfl (lv_at hl q hq) (k h H locs ls hP hD hS hl)
theorem j_iload (C : CX E cc own nL rm) {i : Nat} {x : Int32} (hd : decode cc pc = .ok (.iload i, 2)) (q : Nat) (hq : lv[q]? = some (i, .int x)) (k : J E nL kc ks r0 b σ (pc + 2) lv (.int x :: st)) : J E nL kc ks r0 b σ pc lv st := by
  obtain ⟨p, l, e, R, s, m, args, below, meth, c, Q, A, D, tys, ids, ad, ent⟩ := E
  obtain ⟨hx, hb, hml, hown, hts, hK, hN, hR, hA, hlk, hAX⟩ := C
  exact fun h H locs ls hP hD hS hl => lv_iload hx hb hd (lv_at hl q hq) (k h H locs ls hP hD hS hl)
theorem j_lload_n (C : CX E cc own nL rm) {i : Fin 4} {x : Int64} (hd : decode cc pc = .ok (.lload_n i, 1)) (q : Nat) (hq : lv[q]? = some ((i : Nat), .long x)) (k : J E nL kc ks r0 b σ (pc + 1) lv (.long x :: st)) : J E nL kc ks r0 b σ pc lv st := by
  obtain ⟨p, l, e, R, s, m, args, below, meth, c, Q, A, D, tys, ids, ad, ent⟩ := E
  obtain ⟨hx, hb, hml, hown, hts, hK, hN, hR, hA, hlk, hAX⟩ := C
  exact fun h H locs ls hP hD hS hl => lv_lload_n hx hb hd rfl (lv_at hl q hq) (k h H locs ls hP hD hS hl)
theorem j_lload (C : CX E cc own nL rm) {i : Nat} {x : Int64} (hd : decode cc pc = .ok (.lload i, 2)) (q : Nat) (hq : lv[q]? = some (i, .long x)) (k : J E nL kc ks r0 b σ (pc + 2) lv (.long x :: st)) : J E nL kc ks r0 b σ pc lv st := by
  obtain ⟨p, l, e, R, s, m, args, below, meth, c, Q, A, D, tys, ids, ad, ent⟩ := E
  obtain ⟨hx, hb, hml, hown, hts, hK, hN, hR, hA, hlk, hAX⟩ := C
  exact fun h H locs ls hP hD hS hl => lv_lload hx hb hd (lv_at hl q hq) (k h H locs ls hP hD hS hl)
theorem j_aload_n (C : CX E cc own nL rm) {i : Fin 4} {x : Nat} (hd : decode cc pc = .ok (.aload_n i, 1)) (q : Nat) (hq : lv[q]? = some ((i : Nat), .ref x)) (k : J E nL kc ks r0 b σ (pc + 1) lv (.ref x :: st)) : J E nL kc ks r0 b σ pc lv st := by
  obtain ⟨p, l, e, R, s, m, args, below, meth, c, Q, A, D, tys, ids, ad, ent⟩ := E
  obtain ⟨hx, hb, hml, hown, hts, hK, hN, hR, hA, hlk, hAX⟩ := C
  exact fun h H locs ls hP hD hS hl => lv_aload_n hx hb hd rfl (lv_at hl q hq) (k h H locs ls hP hD hS hl)
theorem j_aload (C : CX E cc own nL rm) {i : Nat} {x : Nat} (hd : decode cc pc = .ok (.aload i, 2)) (q : Nat) (hq : lv[q]? = some (i, .ref x)) (k : J E nL kc ks r0 b σ (pc + 2) lv (.ref x :: st)) : J E nL kc ks r0 b σ pc lv st := by
  obtain ⟨p, l, e, R, s, m, args, below, meth, c, Q, A, D, tys, ids, ad, ent⟩ := E
  obtain ⟨hx, hb, hml, hown, hts, hK, hN, hR, hA, hlk, hAX⟩ := C
  exact fun h H locs ls hP hD hS hl => lv_aload hx hb hd (lv_at hl q hq) (k h H locs ls hP hD hS hl)
theorem j_aloadq_n (C : CX E cc own nL rm) {i : Fin 4} {o : Option Nat} (hd : decode cc pc = .ok (.aload_n i, 1)) (q : Nat) (hq : lv[q]? = some ((i : Nat), va_rf o)) (k : J E nL kc ks r0 b σ (pc + 1) lv (va_rf o :: st)) : J E nL kc ks r0 b σ pc lv st := by
  obtain ⟨p, l, e, R, s, m, args, below, meth, c, Q, A, D, tys, ids, ad, ent⟩ := E
  obtain ⟨hx, hb, hml, hown, hts, hK, hN, hR, hA, hlk, hAX⟩ := C
  cases o with
  | none => exact fun h H locs ls hP hD hS hl => lv_aload_nN hx hb hd rfl (lv_at hl q hq) (k h H locs ls hP hD hS hl)
  | some a => exact fun h H locs ls hP hD hS hl => lv_aload_n hx hb hd rfl (lv_at hl q hq) (k h H locs ls hP hD hS hl)
theorem j_aloadq (C : CX E cc own nL rm) {i : Nat} {o : Option Nat} (hd : decode cc pc = .ok (.aload i, 2)) (q : Nat) (hq : lv[q]? = some (i, va_rf o)) (k : J E nL kc ks r0 b σ (pc + 2) lv (va_rf o :: st)) : J E nL kc ks r0 b σ pc lv st := by
  obtain ⟨p, l, e, R, s, m, args, below, meth, c, Q, A, D, tys, ids, ad, ent⟩ := E
  obtain ⟨hx, hb, hml, hown, hts, hK, hN, hR, hA, hlk, hAX⟩ := C
  cases o with
  | none => exact fun h H locs ls hP hD hS hl => lv_aloadN hx hb hd (lv_at hl q hq) (k h H locs ls hP hD hS hl)
  | some a => exact fun h H locs ls hP hD hS hl => lv_aload hx hb hd (lv_at hl q hq) (k h H locs ls hP hD hS hl)
theorem j_istore_n (C : CX E cc own nL rm) {i : Fin 4} {x : Int32} (hd : decode cc pc = .ok (.istore_n i, 1)) (hn : (i : Nat) < nL) (hl' : ((i : Nat), Value.int x) :: lv.filter (fun q => !(q.1 == (i : Nat)) && !(q.1 + 1 == (i : Nat) && q.2.category == 2)) = lv') (k : J E nL kc ks r0 b σ (pc + 1) lv' st) : J E nL kc ks r0 b σ pc lv (.int x :: st) := by
  obtain ⟨p, l, e, R, s, m, args, below, meth, c, Q, A, D, tys, ids, ad, ent⟩ := E
  obtain ⟨hx, hb, hml, hown, hts, hK, hN, hR, hA, hlk, hAX⟩ := C
  exact fun h H locs ls hP hD hS hl => lv_istore_n hx hb hd rfl hl hn hl' (fun ls' hl => k h H locs ls' hP hD hS hl)
theorem j_istore (C : CX E cc own nL rm) {i : Nat} {x : Int32} (hd : decode cc pc = .ok (.istore i, 2)) (hn : i < nL) (hl' : (i, Value.int x) :: lv.filter (fun q => !(q.1 == i) && !(q.1 + 1 == i && q.2.category == 2)) = lv') (k : J E nL kc ks r0 b σ (pc + 2) lv' st) : J E nL kc ks r0 b σ pc lv (.int x :: st) := by
  obtain ⟨p, l, e, R, s, m, args, below, meth, c, Q, A, D, tys, ids, ad, ent⟩ := E
  obtain ⟨hx, hb, hml, hown, hts, hK, hN, hR, hA, hlk, hAX⟩ := C
  exact fun h H locs ls hP hD hS hl => lv_istore hx hb hd hl hn hl' (fun ls' hl => k h H locs ls' hP hD hS hl)
theorem j_lstore_n (C : CX E cc own nL rm) {i : Fin 4} {x : Int64} (hd : decode cc pc = .ok (.lstore_n i, 1)) (hn : (i : Nat) + 1 < nL) (hl' : ((i : Nat), Value.long x) :: lv.filter (fun q => !(q.1 == (i : Nat)) && (!(q.1 == (i : Nat) + 1) && !(q.1 + 1 == (i : Nat) && q.2.category == 2))) = lv') (k : J E nL kc ks r0 b σ (pc + 1) lv' st) : J E nL kc ks r0 b σ pc lv (.long x :: st) := by
  obtain ⟨p, l, e, R, s, m, args, below, meth, c, Q, A, D, tys, ids, ad, ent⟩ := E
  obtain ⟨hx, hb, hml, hown, hts, hK, hN, hR, hA, hlk, hAX⟩ := C
  exact fun h H locs ls hP hD hS hl => lv_lstore_n hx hb hd rfl hl hn hl' (fun ls' hl => k h H locs ls' hP hD hS hl)
theorem j_lstore (C : CX E cc own nL rm) {i : Nat} {x : Int64} (hd : decode cc pc = .ok (.lstore i, 2)) (hn : i + 1 < nL) (hl' : (i, Value.long x) :: lv.filter (fun q => !(q.1 == i) && (!(q.1 == i + 1) && !(q.1 + 1 == i && q.2.category == 2))) = lv') (k : J E nL kc ks r0 b σ (pc + 2) lv' st) : J E nL kc ks r0 b σ pc lv (.long x :: st) := by
  obtain ⟨p, l, e, R, s, m, args, below, meth, c, Q, A, D, tys, ids, ad, ent⟩ := E
  obtain ⟨hx, hb, hml, hown, hts, hK, hN, hR, hA, hlk, hAX⟩ := C
  exact fun h H locs ls hP hD hS hl => lv_lstore hx hb hd hl hn hl' (fun ls' hl => k h H locs ls' hP hD hS hl)
theorem j_astore_n (C : CX E cc own nL rm) {i : Fin 4} {x : Nat} (hd : decode cc pc = .ok (.astore_n i, 1)) (hn : (i : Nat) < nL) (hl' : ((i : Nat), Value.ref x) :: lv.filter (fun q => !(q.1 == (i : Nat)) && !(q.1 + 1 == (i : Nat) && q.2.category == 2)) = lv') (k : J E nL kc ks r0 b σ (pc + 1) lv' st) : J E nL kc ks r0 b σ pc lv (.ref x :: st) := by
  obtain ⟨p, l, e, R, s, m, args, below, meth, c, Q, A, D, tys, ids, ad, ent⟩ := E
  obtain ⟨hx, hb, hml, hown, hts, hK, hN, hR, hA, hlk, hAX⟩ := C
  exact fun h H locs ls hP hD hS hl => lv_astore_n hx hb hd rfl hl hn hl' (fun ls' hl => k h H locs ls' hP hD hS hl)
theorem j_astore (C : CX E cc own nL rm) {i : Nat} {x : Nat} (hd : decode cc pc = .ok (.astore i, 2)) (hn : i < nL) (hl' : (i, Value.ref x) :: lv.filter (fun q => !(q.1 == i) && !(q.1 + 1 == i && q.2.category == 2)) = lv') (k : J E nL kc ks r0 b σ (pc + 2) lv' st) : J E nL kc ks r0 b σ pc lv (.ref x :: st) := by
  obtain ⟨p, l, e, R, s, m, args, below, meth, c, Q, A, D, tys, ids, ad, ent⟩ := E
  obtain ⟨hx, hb, hml, hown, hts, hK, hN, hR, hA, hlk, hAX⟩ := C
  exact fun h H locs ls hP hD hS hl => lv_astore hx hb hd hl hn hl' (fun ls' hl => k h H locs ls' hP hD hS hl)
theorem j_astoreq_n (C : CX E cc own nL rm) {i : Fin 4} {o : Option Nat} (hd : decode cc pc = .ok (.astore_n i, 1)) (hn : (i : Nat) < nL) (hl' : ((i : Nat), va_rf o) :: lv.filter (fun q => !(q.1 == (i : Nat)) && !(q.1 + 1 == (i : Nat) && q.2.category == 2)) = lv') (k : J E nL kc ks r0 b σ (pc + 1) lv' st) : J E nL kc ks r0 b σ pc lv (va_rf o :: st) := by
  obtain ⟨p, l, e, R, s, m, args, below, meth, c, Q, A, D, tys, ids, ad, ent⟩ := E
  obtain ⟨hx, hb, hml, hown, hts, hK, hN, hR, hA, hlk, hAX⟩ := C
  cases o with
  | none => exact fun h H locs ls hP hD hS hl => lv_astore_nN hx hb hd rfl hl hn hl' (fun ls' hl => k h H locs ls' hP hD hS hl)
  | some a => exact fun h H locs ls hP hD hS hl => lv_astore_n hx hb hd rfl hl hn hl' (fun ls' hl => k h H locs ls' hP hD hS hl)
theorem j_astoreq (C : CX E cc own nL rm) {i : Nat} {o : Option Nat} (hd : decode cc pc = .ok (.astore i, 2)) (hn : i < nL) (hl' : (i, va_rf o) :: lv.filter (fun q => !(q.1 == i) && !(q.1 + 1 == i && q.2.category == 2)) = lv') (k : J E nL kc ks r0 b σ (pc + 2) lv' st) : J E nL kc ks r0 b σ pc lv (va_rf o :: st) := by
  obtain ⟨p, l, e, R, s, m, args, below, meth, c, Q, A, D, tys, ids, ad, ent⟩ := E
  obtain ⟨hx, hb, hml, hown, hts, hK, hN, hR, hA, hlk, hAX⟩ := C
  cases o with
  | none => exact fun h H locs ls hP hD hS hl => lv_astoreN hx hb hd hl hn hl' (fun ls' hl => k h H locs ls' hP hD hS hl)
  | some a => exact fun h H locs ls hP hD hS hl => lv_astore hx hb hd hl hn hl' (fun ls' hl => k h H locs ls' hP hD hS hl)
theorem j_iinc (C : CX E cc own nL rm) {i : Nat} {n : Int} {x v : Int32} (hd : decode cc pc = .ok (.iinc i n, 3)) (q : Nat) (hq : lv[q]? = some (i, .int x)) (hv : x + Int32.ofInt n = v) (hn : i < nL) (hl' : (i, Value.int v) :: lv.filter (fun q => !(q.1 == i) && !(q.1 + 1 == i && q.2.category == 2)) = lv') (k : J E nL kc ks r0 b σ (pc + 3) lv' st) : J E nL kc ks r0 b σ pc lv st := by
  obtain ⟨p, l, e, R, s, m, args, below, meth, c, Q, A, D, tys, ids, ad, ent⟩ := E
  obtain ⟨hx, hb, hml, hown, hts, hK, hN, hR, hA, hlk, hAX⟩ := C
  exact fun h H locs ls hP hD hS hl => lv_iinc hx hb hd hl hq hv hn hl' (fun ls' hl => k h H locs ls' hP hD hS hl)
theorem j_dup (C : CX E cc own nL rm) {v : Value} (hd : decode cc pc = .ok (.dup, 1)) (hv : v.category = 1) (k : J E nL kc ks r0 b σ (pc + 1) lv (v :: v :: st)) : J E nL kc ks r0 b σ pc lv (v :: st) := by
  obtain ⟨p, l, e, R, s, m, args, below, meth, c, Q, A, D, tys, ids, ad, ent⟩ := E
  obtain ⟨hx, hb, hml, hown, hts, hK, hN, hR, hA, hlk, hAX⟩ := C
  exact fun h H locs ls hP hD hS hl => lv_dup hx hb hd hv (k h H locs ls hP hD hS hl)
theorem j_goto (C : CX E cc own nL rm) {off : Int} (tgt : Nat) (hd : decode cc pc = .ok (.goto off, 3)) (ht : (pc : Int) + off = (tgt : Int)) (k : J E nL kc ks r0 b σ tgt lv st) : J E nL kc ks r0 b σ pc lv st := by
  obtain ⟨p, l, e, R, s, m, args, below, meth, c, Q, A, D, tys, ids, ad, ent⟩ := E
  obtain ⟨hx, hb, hml, hown, hts, hK, hN, hR, hA, hlk, hAX⟩ := C
  exact fun h H locs ls hP hD hS hl => lv_goto hx hb hd ht (k h H locs ls hP hD hS hl)
theorem j_null (C : CX E cc own nL rm) (hd : decode cc pc = .ok (.aconst_null, 1)) (k : J E nL kc ks r0 b σ (pc + 1) lv (.null :: st)) : J E nL kc ks r0 b σ pc lv st := by
  obtain ⟨p, l, e, R, s, m, args, below, meth, c, Q, A, D, tys, ids, ad, ent⟩ := E
  obtain ⟨hx, hb, hml, hown, hts, hK, hN, hR, hA, hlk, hAX⟩ := C
  exact fun h H locs ls hP hD hS hl => lv_null hx hb hd (k h H locs ls hP hD hS hl)
theorem j_if_eq (C : CX E cc own nL rm) {x : Int32} {off : Int} (tgt : Nat) (hd : decode cc pc = .ok (.ifCond .eq off, 3)) (ht : (pc : Int) + off = (tgt : Int)) (kt : J E nL kc ks r0 b1 σ tgt lv st) (kf : J E nL kc ks r0 b2 σ (pc + 3) lv st) : J E nL kc ks r0 (if x = 0 then b1 else b2) σ pc lv (.int x :: st) := by
  obtain ⟨p, l, e, R, s, m, args, below, meth, c, Q, A, D, tys, ids, ad, ent⟩ := E
  obtain ⟨hx, hb, hml, hown, hts, hK, hN, hR, hA, hlk, hAX⟩ := C
  exact fun h H locs ls hP hD hS hl => lv_if_eq hx hb hd ht (fun q => kt (by first | (rw [if_pos q] at h; exact h) | (rw [if_neg (fun z => z q)] at h; exact h)) H locs ls hP hD hS hl) (fun q => kf (by first | (rw [if_neg q] at h; exact h) | (rw [if_neg (fun z => z q)] at h; exact h)) H locs ls hP hD hS hl)
theorem j_icmp_eq (C : CX E cc own nL rm) {x y : Int32} {off : Int} (tgt : Nat) (hd : decode cc pc = .ok (.if_icmp .eq off, 3)) (ht : (pc : Int) + off = (tgt : Int)) (kt : J E nL kc ks r0 b1 σ tgt lv st) (kf : J E nL kc ks r0 b2 σ (pc + 3) lv st) : J E nL kc ks r0 (if x = y then b1 else b2) σ pc lv (.int y :: .int x :: st) := by
  obtain ⟨p, l, e, R, s, m, args, below, meth, c, Q, A, D, tys, ids, ad, ent⟩ := E
  obtain ⟨hx, hb, hml, hown, hts, hK, hN, hR, hA, hlk, hAX⟩ := C
  exact fun h H locs ls hP hD hS hl => lv_icmp_eq hx hb hd ht (fun q => kt (by first | (rw [if_pos q] at h; exact h) | (rw [if_neg (fun z => z q)] at h; exact h)) H locs ls hP hD hS hl) (fun q => kf (by first | (rw [if_neg q] at h; exact h) | (rw [if_neg (fun z => z q)] at h; exact h)) H locs ls hP hD hS hl)
theorem j_if_ne (C : CX E cc own nL rm) {x : Int32} {off : Int} (tgt : Nat) (hd : decode cc pc = .ok (.ifCond .ne off, 3)) (ht : (pc : Int) + off = (tgt : Int)) (kt : J E nL kc ks r0 b1 σ tgt lv st) (kf : J E nL kc ks r0 b2 σ (pc + 3) lv st) : J E nL kc ks r0 (if ¬ x = 0 then b1 else b2) σ pc lv (.int x :: st) := by
  obtain ⟨p, l, e, R, s, m, args, below, meth, c, Q, A, D, tys, ids, ad, ent⟩ := E
  obtain ⟨hx, hb, hml, hown, hts, hK, hN, hR, hA, hlk, hAX⟩ := C
  exact fun h H locs ls hP hD hS hl => lv_if_ne hx hb hd ht (fun q => kt (by first | (rw [if_pos q] at h; exact h) | (rw [if_neg (fun z => z q)] at h; exact h)) H locs ls hP hD hS hl) (fun q => kf (by first | (rw [if_neg q] at h; exact h) | (rw [if_neg (fun z => z q)] at h; exact h)) H locs ls hP hD hS hl)
theorem j_icmp_ne (C : CX E cc own nL rm) {x y : Int32} {off : Int} (tgt : Nat) (hd : decode cc pc = .ok (.if_icmp .ne off, 3)) (ht : (pc : Int) + off = (tgt : Int)) (kt : J E nL kc ks r0 b1 σ tgt lv st) (kf : J E nL kc ks r0 b2 σ (pc + 3) lv st) : J E nL kc ks r0 (if ¬ x = y then b1 else b2) σ pc lv (.int y :: .int x :: st) := by
  obtain ⟨p, l, e, R, s, m, args, below, meth, c, Q, A, D, tys, ids, ad, ent⟩ := E
  obtain ⟨hx, hb, hml, hown, hts, hK, hN, hR, hA, hlk, hAX⟩ := C
  exact fun h H locs ls hP hD hS hl => lv_icmp_ne hx hb hd ht (fun q => kt (by first | (rw [if_pos q] at h; exact h) | (rw [if_neg (fun z => z q)] at h; exact h)) H locs ls hP hD hS hl) (fun q => kf (by first | (rw [if_neg q] at h; exact h) | (rw [if_neg (fun z => z q)] at h; exact h)) H locs ls hP hD hS hl)
theorem j_if_lt (C : CX E cc own nL rm) {x : Int32} {off : Int} (tgt : Nat) (hd : decode cc pc = .ok (.ifCond .lt off, 3)) (ht : (pc : Int) + off = (tgt : Int)) (kt : J E nL kc ks r0 b1 σ tgt lv st) (kf : J E nL kc ks r0 b2 σ (pc + 3) lv st) : J E nL kc ks r0 (if x < 0 then b1 else b2) σ pc lv (.int x :: st) := by
  obtain ⟨p, l, e, R, s, m, args, below, meth, c, Q, A, D, tys, ids, ad, ent⟩ := E
  obtain ⟨hx, hb, hml, hown, hts, hK, hN, hR, hA, hlk, hAX⟩ := C
  exact fun h H locs ls hP hD hS hl => lv_if_lt hx hb hd ht (fun q => kt (by first | (rw [if_pos q] at h; exact h) | (rw [if_neg (fun z => z q)] at h; exact h)) H locs ls hP hD hS hl) (fun q => kf (by first | (rw [if_neg q] at h; exact h) | (rw [if_neg (fun z => z q)] at h; exact h)) H locs ls hP hD hS hl)
theorem j_icmp_lt (C : CX E cc own nL rm) {x y : Int32} {off : Int} (tgt : Nat) (hd : decode cc pc = .ok (.if_icmp .lt off, 3)) (ht : (pc : Int) + off = (tgt : Int)) (kt : J E nL kc ks r0 b1 σ tgt lv st) (kf : J E nL kc ks r0 b2 σ (pc + 3) lv st) : J E nL kc ks r0 (if x < y then b1 else b2) σ pc lv (.int y :: .int x :: st) := by
  obtain ⟨p, l, e, R, s, m, args, below, meth, c, Q, A, D, tys, ids, ad, ent⟩ := E
  obtain ⟨hx, hb, hml, hown, hts, hK, hN, hR, hA, hlk, hAX⟩ := C
  exact fun h H locs ls hP hD hS hl => lv_icmp_lt hx hb hd ht (fun q => kt (by first | (rw [if_pos q] at h; exact h) | (rw [if_neg (fun z => z q)] at h; exact h)) H locs ls hP hD hS hl) (fun q => kf (by first | (rw [if_neg q] at h; exact h) | (rw [if_neg (fun z => z q)] at h; exact h)) H locs ls hP hD hS hl)
theorem j_if_le (C : CX E cc own nL rm) {x : Int32} {off : Int} (tgt : Nat) (hd : decode cc pc = .ok (.ifCond .le off, 3)) (ht : (pc : Int) + off = (tgt : Int)) (kt : J E nL kc ks r0 b1 σ tgt lv st) (kf : J E nL kc ks r0 b2 σ (pc + 3) lv st) : J E nL kc ks r0 (if x ≤ 0 then b1 else b2) σ pc lv (.int x :: st) := by
  obtain ⟨p, l, e, R, s, m, args, below, meth, c, Q, A, D, tys, ids, ad, ent⟩ := E
  obtain ⟨hx, hb, hml, hown, hts, hK, hN, hR, hA, hlk, hAX⟩ := C
  exact fun h H locs ls hP hD hS hl => lv_if_le hx hb hd ht (fun q => kt (by first | (rw [if_pos q] at h; exact h) | (rw [if_neg (fun z => z q)] at h; exact h)) H locs ls hP hD hS hl) (fun q => kf (by first | (rw [if_neg q] at h; exact h) | (rw [if_neg (fun z => z q)] at h; exact h)) H locs ls hP hD hS hl)
theorem j_icmp_le (C : CX E cc own nL rm) {x y : Int32} {off : Int} (tgt : Nat) (hd : decode cc pc = .ok (.if_icmp .le off, 3)) (ht : (pc : Int) + off = (tgt : Int)) (kt : J E nL kc ks r0 b1 σ tgt lv st) (kf : J E nL kc ks r0 b2 σ (pc + 3) lv st) : J E nL kc ks r0 (if x ≤ y then b1 else b2) σ pc lv (.int y :: .int x :: st) := by
  obtain ⟨p, l, e, R, s, m, args, below, meth, c, Q, A, D, tys, ids, ad, ent⟩ := E
  obtain ⟨hx, hb, hml, hown, hts, hK, hN, hR, hA, hlk, hAX⟩ := C
  exact fun h H locs ls hP hD hS hl => lv_icmp_le hx hb hd ht (fun q => kt (by first | (rw [if_pos q] at h; exact h) | (rw [if_neg (fun z => z q)] at h; exact h)) H locs ls hP hD hS hl) (fun q => kf (by first | (rw [if_neg q] at h; exact h) | (rw [if_neg (fun z => z q)] at h; exact h)) H locs ls hP hD hS hl)
theorem j_if_ge (C : CX E cc own nL rm) {x : Int32} {off : Int} (tgt : Nat) (hd : decode cc pc = .ok (.ifCond .ge off, 3)) (ht : (pc : Int) + off = (tgt : Int)) (kt : J E nL kc ks r0 b1 σ tgt lv st) (kf : J E nL kc ks r0 b2 σ (pc + 3) lv st) : J E nL kc ks r0 (if 0 ≤ x then b1 else b2) σ pc lv (.int x :: st) := by
  obtain ⟨p, l, e, R, s, m, args, below, meth, c, Q, A, D, tys, ids, ad, ent⟩ := E
  obtain ⟨hx, hb, hml, hown, hts, hK, hN, hR, hA, hlk, hAX⟩ := C
  exact fun h H locs ls hP hD hS hl => lv_if_ge hx hb hd ht (fun q => kt (by first | (rw [if_pos q] at h; exact h) | (rw [if_neg (fun z => z q)] at h; exact h)) H locs ls hP hD hS hl) (fun q => kf (by first | (rw [if_neg q] at h; exact h) | (rw [if_neg (fun z => z q)] at h; exact h)) H locs ls hP hD hS hl)
theorem j_icmp_ge (C : CX E cc own nL rm) {x y : Int32} {off : Int} (tgt : Nat) (hd : decode cc pc = .ok (.if_icmp .ge off, 3)) (ht : (pc : Int) + off = (tgt : Int)) (kt : J E nL kc ks r0 b1 σ tgt lv st) (kf : J E nL kc ks r0 b2 σ (pc + 3) lv st) : J E nL kc ks r0 (if y ≤ x then b1 else b2) σ pc lv (.int y :: .int x :: st) := by
  obtain ⟨p, l, e, R, s, m, args, below, meth, c, Q, A, D, tys, ids, ad, ent⟩ := E
  obtain ⟨hx, hb, hml, hown, hts, hK, hN, hR, hA, hlk, hAX⟩ := C
  exact fun h H locs ls hP hD hS hl => lv_icmp_ge hx hb hd ht (fun q => kt (by first | (rw [if_pos q] at h; exact h) | (rw [if_neg (fun z => z q)] at h; exact h)) H locs ls hP hD hS hl) (fun q => kf (by first | (rw [if_neg q] at h; exact h) | (rw [if_neg (fun z => z q)] at h; exact h)) H locs ls hP hD hS hl)
theorem j_if_gt (C : CX E cc own nL rm) {x : Int32} {off : Int} (tgt : Nat) (hd : decode cc pc = .ok (.ifCond .gt off, 3)) (ht : (pc : Int) + off = (tgt : Int)) (kt : J E nL kc ks r0 b1 σ tgt lv st) (kf : J E nL kc ks r0 b2 σ (pc + 3) lv st) : J E nL kc ks r0 (if 0 < x then b1 else b2) σ pc lv (.int x :: st) := by
  obtain ⟨p, l, e, R, s, m, args, below, meth, c, Q, A, D, tys, ids, ad, ent⟩ := E
  obtain ⟨hx, hb, hml, hown, hts, hK, hN, hR, hA, hlk, hAX⟩ := C
  exact fun h H locs ls hP hD hS hl => lv_if_gt hx hb hd ht (fun q => kt (by first | (rw [if_pos q] at h; exact h) | (rw [if_neg (fun z => z q)] at h; exact h)) H locs ls hP hD hS hl) (fun q => kf (by first | (rw [if_neg q] at h; exact h) | (rw [if_neg (fun z => z q)] at h; exact h)) H locs ls hP hD hS hl)
theorem j_icmp_gt (C : CX E cc own nL rm) {x y : Int32} {off : Int} (tgt : Nat) (hd : decode cc pc = .ok (.if_icmp .gt off, 3)) (ht : (pc : Int) + off = (tgt : Int)) (kt : J E nL kc ks r0 b1 σ tgt lv st) (kf : J E nL kc ks r0 b2 σ (pc + 3) lv st) : J E nL kc ks r0 (if y < x then b1 else b2) σ pc lv (.int y :: .int x :: st) := by
  obtain ⟨p, l, e, R, s, m, args, below, meth, c, Q, A, D, tys, ids, ad, ent⟩ := E
  obtain ⟨hx, hb, hml, hown, hts, hK, hN, hR, hA, hlk, hAX⟩ := C
  exact fun h H locs ls hP hD hS hl => lv_icmp_gt hx hb hd ht (fun q => kt (by first | (rw [if_pos q] at h; exact h) | (rw [if_neg (fun z => z q)] at h; exact h)) H locs ls hP hD hS hl) (fun q => kf (by first | (rw [if_neg q] at h; exact h) | (rw [if_neg (fun z => z q)] at h; exact h)) H locs ls hP hD hS hl)
/-- a reference that may be null -/
theorem j_ifnull (C : CX E cc own nL rm) {o : Option Nat} {k : Nat → Option ρ} {off : Int} (tgt : Nat) (hd : decode cc pc = .ok (.ifnull off, 3)) (ht : (pc : Int) + off = (tgt : Int)) (kn : o = none → J E nL kc ks r0 b σ tgt lv st) (kf : ∀ a, o = some a → J E nL kc ks r0 (k a) σ (pc + 3) lv st) : J E nL kc ks r0 (caseo o b k) σ pc lv (va_rf (o.map (eAd E)) :: st) := by
  obtain ⟨p, l, e, R, s, m, args, below, meth, c, Q, A, D, tys, ids, ad, ent⟩ := E
  obtain ⟨hx, hb, hml, hown, hts, hK, hN, hR, hA, hlk, hAX⟩ := C
  cases o with
  | none => exact fun h H locs ls hP hD hS hl => lv_ifnullN hx hb hd ht (kn rfl h H locs ls hP hD hS hl)
  | some a => exact fun h H locs ls hP hD hS hl => lv_ifnull hx hb hd (kf a rfl h H locs ls hP hD hS hl)
theorem j_ifnonnull (C : CX E cc own nL rm) {o : Option Nat} {k : Nat → Option ρ} {off : Int} (tgt : Nat) (hd : decode cc pc = .ok (.ifnonnull off, 3)) (ht : (pc : Int) + off = (tgt : Int)) (kn : o = none → J E nL kc ks r0 b σ (pc + 3) lv st) (kf : ∀ a, o = some a → J E nL kc ks r0 (k a) σ tgt lv st) : J E nL kc ks r0 (caseo o b k) σ pc lv (va_rf (o.map (eAd E)) :: st) := by
  obtain ⟨p, l, e, R, s, m, args, below, meth, c, Q, A, D, tys, ids, ad, ent⟩ := E
  obtain ⟨hx, hb, hml, hown, hts, hK, hN, hR, hA, hlk, hAX⟩ := C
  cases o with
  | none => exact fun h H locs ls hP hD hS hl => lv_ifnonnullN hx hb hd (kn rfl h H locs ls hP hD hS hl)
  | some a => exact fun h H locs ls hP hD hS hl => lv_ifnonnull hx hb hd ht (kf a rfl h H locs ls hP hD hS hl)
/-- the words of a program -/
theorem j_lete {α : Type} {x : α} {k : α → Option ρ} {stf : α → List Value} (h : ∀ y, J E nL kc ks r0 (k y) σ pc lv (stf y)) : J E nL kc ks r0 (lete x k) σ pc lv (stf x) := h x
theorem j_nmi {x : Int32} {k : Int32 → Option ρ} (h : ∀ y, J E nL kc ks r0 (k y) σ pc lv (.int y :: st)) : J E nL kc ks r0 (lete x k) σ pc lv (.int x :: st) := h x
theorem j_nml {x : Int64} {k : Int64 → Option ρ} (h : ∀ y, J E nL kc ks r0 (k y) σ pc lv (.long y :: st)) : J E nL kc ks r0 (lete x k) σ pc lv (.long x :: st) := h x
theorem j_bind {α : Type} {x : Option α} {k : α → Option ρ} (h : ∀ a, x = some a → J E nL kc ks r0 (k a) σ pc lv st) : J E nL kc ks r0 (bindo x k) σ pc lv st := by
  intro hb
  cases x with
  | none => cases hb
  | some a => exact h a rfl hb
theorem j_chk {q : Bool} (h : q = true → J E nL kc ks r0 b σ pc lv st) : J E nL kc ks r0 (chk q b) σ pc lv st := by
  intro hb
  unfold chk at hb
  split at hb
  · exact h (by assumption) hb
  · cases hb
theorem j_ite {q : Prop} {hq : Decidable q} (h1 : q → J E nL kc ks r0 b1 σ pc lv st) (h2 : ¬ q → J E nL kc ks r0 b2 σ pc lv st) : J E nL kc ks r0 (if q then b1 else b2) σ pc lv st := by
  intro hb
  split at hb
  · exact h1 (by assumption) hb
  · exact h2 (by assumption) hb
theorem j_none : J E nL kc ks r0 none σ pc lv st := fun h => by cases h
theorem j_lv (lv' : List (Nat × Value)) (is : List Nat) (h : lv_pick lv is = lv') (k : J E nL kc ks r0 b σ pc lv' st) : J E nL kc ks r0 b σ pc lv st := by
  obtain ⟨p, l, e, R, s, m, args, below, meth, c, Q, A, D, tys, ids, ad, ent⟩ := E
  exact fun hb H locs ls hP hD hS hl => k hb H locs ls hP hD hS (lv_sub hl is h)
theorem j_loop {α : Type} {body : (α → Option ρ) → α → Option ρ} {M : α → Mem} {L : α → List (Nat × Value)} {S : α → List Value} (h : ∀ rec : α → Option ρ, (∀ a, J E nL kc ks r0 (rec a) (M a) pc (L a) (S a)) → ∀ a, J E nL kc ks r0 (body rec a) (M a) pc (L a) (S a)) : ∀ (f : Nat) (a : α), J E nL kc ks r0 (loopF body f a) (M a) pc (L a) (S a) := by
  intro f
  induction f with
  | zero => exact fun a => j_none
  | succ f ih => exact h _ ih
/-- switches: the case is known -/
theorem j_tsIn (C : CX E cc own nL rm) {x : Int32} {dflt lo hi : Int} {offs : Array Int} {len : Nat} {off : Int} (v : Int32) (tgt : Nat) (hd : decode cc pc = .ok (.tableswitch dflt lo hi offs, len)) (hv : x = v) (h1 : ¬ v.toInt < lo) (h2 : ¬ hi < v.toInt) (ho : offs[(v.toInt - lo).toNat]? = some off) (ht : (pc : Int) + off = (tgt : Int)) (k : J E nL kc ks r0 b σ tgt lv st) : J E nL kc ks r0 b σ pc lv (.int x :: st) := by
  obtain ⟨p, l, e, R, s, m, args, below, meth, c, Q, A, D, tys, ids, ad, ent⟩ := E
  obtain ⟨hx, hb, hml, hown, hts, hK, hN, hR, hA, hlk, hAX⟩ := C
  subst hv
  exact fun h H locs ls hP hD hS hl => lv_tableIn hx hb hd h1 h2 ho ht (k h H locs ls hP hD hS hl)
theorem j_tsOut (C : CX E cc own nL rm) {x : Int32} {dflt lo hi : Int} {offs : Array Int} {len : Nat} (tgt : Nat) (hd : decode cc pc = .ok (.tableswitch dflt lo hi offs, len)) (h1 : x.toInt < lo ∨ hi < x.toInt) (ht : (pc : Int) + dflt = (tgt : Int)) (k : J E nL kc ks r0 b σ tgt lv st) : J E nL kc ks r0 b σ pc lv (.int x :: st) := by
  obtain ⟨p, l, e, R, s, m, args, below, meth, c, Q, A, D, tys, ids, ad, ent⟩ := E
  obtain ⟨hx, hb, hml, hown, hts, hK, hN, hR, hA, hlk, hAX⟩ := C
  exact fun h H locs ls hP hD hS hl => lv_tableOut hx hb hd h1 ht (k h H locs ls hP hD hS hl)
/-- a field is read -/
theorem j_get (C : CX E cc own nL rm) {RC : String} {T : u_T} {N ci idx o : Nat} {fs : List Value} {v : Value} (hU : ∀ w ∈ u_ws RC T N, w ∈ lw_g) (hc : vwCl[ci]? = some (RC, T, N)) (ho : o ∈ eIds E) (he : eEnt E o (σ.1 o) (σ.2 o) = .inr (ci, fs)) (j : Nat) (hj : j < N) (hv : fs[j]? = some v) (hlink : Cond.fieldLink own idx (T j).1 (T j).2.1 (T j).2.2.1 ∈ lw_g) (hd : decode cc pc = .ok (.getfield idx, 3)) (k : J E nL kc ks r0 b σ (pc + 3) lv (v :: st)) : J E nL kc ks r0 b σ pc lv (.ref (eAd E o) :: st) := by
  obtain ⟨p, l, e, R, s, m, args, below, meth, c, Q, A, D, tys, ids, ad, ent⟩ := E
  obtain ⟨hx, hb, hml, hown, hts, hK, hN, hR, hA, hlk, hAX⟩ := C
  intro h H locs ls hP hD hS hl
  obtain ⟨q0, hq⟩ := wl_at (ad := ad) (ent := ent) σ ho
  rw [show ent o (σ.1 o) (σ.2 o) = .inr (ci, fs) from he] at hq
  exact va_get (D := D) hx hb hts hU hown hK hP q0 hq hc j hj (hts _ hlink) (fun _ h9 => h9) hv hd (k h H locs ls hP hD hS hl)
/-- a field is written: the memory has a new name -/
theorem j_put (C : CX E cc own nL rm) {RC : String} {T : u_T} {N ci idx o : Nat} {fs : List Value} {v : Value} {σ' : Mem} {ty0 : Nat → FieldType} {kb : Mem → Option ρ} (hU : ∀ w ∈ u_ws RC T N, w ∈ lw_g) (hty : ∀ k, k < N → parseFieldDescriptor (T k).2.2.1 = some (ty0 k)) (hnm : ∀ a, a < N → ∀ b, b < N → a ≠ b → (T a).2.1 ≠ (T b).2.1) (hc : vwCl[ci]? = some (RC, T, N)) (ho : o ∈ eIds E) (he : eEnt E o (σ.1 o) (σ.2 o) = .inr (ci, fs)) (j : Nat) (hj : j < N) (hjl : j < fs.length) (he' : eEnt E o (σ'.1 o) (σ'.2 o) = .inr (ci, fs.set j v)) (hne : ∀ o', o' ≠ o → σ'.1 o' = σ.1 o' ∧ σ'.2 o' = σ.2 o') (hfin : (T j).2.2.2 = false) (hn : narrow (ty0 j) v = v) (hfit : fits (ty0 j) v = true) (hlink : Cond.fieldLink own idx (T j).1 (T j).2.1 (T j).2.2.1 ∈ lw_g) (hd : decode cc pc = .ok (.putfield idx, 3)) (k : ∀ τ, J E nL kc ks r0 (kb τ) τ (pc + 3) lv st) : J E nL kc ks r0 (lete σ' kb) σ pc lv (v :: .ref (eAd E o) :: st) := by
  obtain ⟨p, l, e, R, s, m, args, below, meth, c, Q, A, D, tys, ids, ad, ent⟩ := E
  obtain ⟨hx, hb, hml, hown, hts, hK, hN, hR, hA, hlk, hAX⟩ := C
  intro h H locs ls hP hD hS hl
  obtain ⟨q0, hq⟩ := wl_at (ad := ad) (ent := ent) σ ho
  have hset := wl_set (σ' := σ') hD ho hq he' hne
  rw [show ent o (σ.1 o) (σ.2 o) = .inr (ci, fs) from he] at hq
  refine va_put (D := D) hx hb hts hU ty0 hty hnm hown hK hP hD hS q0 hq hc j hj (hts _ hlink) (fun _ h9 => h9) hfin (hty j hj) hn hfit hjl hd (fun H1 locs1 hP1 hD1 hS1 => ?_)
  have hP1 : va_P D vwCl ((wl ids ad ent σ).set q0 (ad o, .inr (ci, fs.set j v))) H1 := hP1
  have hD1 : va_D A ((wl ids ad ent σ).set q0 (ad o, .inr (ci, fs.set j v))) := hD1
  rw [hset] at hP1 hD1
  exact k σ' h H1 locs1 ls hP1 hD1 hS1 hl
theorem j_iald (C : CX E cc own nL rm) {o n t0 : Nat} {cA : ClassId} {f : Nat → Int32} {i : Int32} (ho : o ∈ eIds E) (he : eEnt E o (σ.1 o) (σ.2 o) = .inl (cA, n, .inl f)) (ht : (eTys E)[t0]? = some (cA, .int)) (hin : vp_in i n) (hd : decode cc pc = .ok (.iaload, 1)) (k : J E nL kc ks r0 b σ (pc + 1) lv (.int (f (ix i)) :: st)) : J E nL kc ks r0 b σ pc lv (.int i :: .ref (eAd E o) :: st) := by
  obtain ⟨p, l, e, R, s, m, args, below, meth, c, Q, A, D, tys, ids, ad, ent⟩ := E
  obtain ⟨hx, hb, hml, hown, hts, hK, hN, hR, hA, hlk, hAX⟩ := C
  intro h H locs ls hP hD hS hl
  obtain ⟨q0, hq⟩ := wl_at (ad := ad) (ent := ent) σ ho
  rw [show ent o (σ.1 o) (σ.2 o) = .inl (cA, n, .inl f) from he] at hq
  exact va_iald (D := D) hx hb hK hP q0 t0 hq ht hin hd (k h H locs ls hP hD hS hl)
theorem j_zald (C : CX E cc own nL rm) {o n t0 : Nat} {cA : ClassId} {f : Nat → Int32} {i : Int32} (ho : o ∈ eIds E) (he : eEnt E o (σ.1 o) (σ.2 o) = .inl (cA, n, .inl f)) (ht : (eTys E)[t0]? = some (cA, .boolean)) (hin : vp_in i n) (hd : decode cc pc = .ok (.baload, 1)) (k : J E nL kc ks r0 b σ (pc + 1) lv (.int (f (ix i)) :: st)) : J E nL kc ks r0 b σ pc lv (.int i :: .ref (eAd E o) :: st) := by
  obtain ⟨p, l, e, R, s, m, args, below, meth, c, Q, A, D, tys, ids, ad, ent⟩ := E
  obtain ⟨hx, hb, hml, hown, hts, hK, hN, hR, hA, hlk, hAX⟩ := C
  intro h H locs ls hP hD hS hl
  obtain ⟨q0, hq⟩ := wl_at (ad := ad) (ent := ent) σ ho
  rw [show ent o (σ.1 o) (σ.2 o) = .inl (cA, n, .inl f) from he] at hq
  exact va_zald (D := D) hx hb hK hP q0 t0 hq ht hin hd (k h H locs ls hP hD hS hl)
theorem j_lald (C : CX E cc own nL rm) {o n t0 : Nat} {cA : ClassId} {f : Nat → Int64} {i : Int32} (ho : o ∈ eIds E) (he : eEnt E o (σ.1 o) (σ.2 o) = .inl (cA, n, .inr (.inl f))) (ht : (eTys E)[t0]? = some (cA, .long)) (hin : vp_in i n) (hd : decode cc pc = .ok (.laload, 1)) (k : J E nL kc ks r0 b σ (pc + 1) lv (.long (f (ix i)) :: st)) : J E nL kc ks r0 b σ pc lv (.int i :: .ref (eAd E o) :: st) := by
  obtain ⟨p, l, e, R, s, m, args, below, meth, c, Q, A, D, tys, ids, ad, ent⟩ := E
  obtain ⟨hx, hb, hml, hown, hts, hK, hN, hR, hA, hlk, hAX⟩ := C
  intro h H locs ls hP hD hS hl
  obtain ⟨q0, hq⟩ := wl_at (ad := ad) (ent := ent) σ ho
  rw [show ent o (σ.1 o) (σ.2 o) = .inl (cA, n, .inr (.inl f)) from he] at hq
  exact va_lald (D := D) hx hb hK hP q0 t0 hq ht hin hd (k h H locs ls hP hD hS hl)
theorem j_aald (C : CX E cc own nL rm) {o n t0 : Nat} {cA : ClassId} {ty : String} {f : Nat → Option Nat} {i : Int32} (ho : o ∈ eIds E) (he : eEnt E o (σ.1 o) (σ.2 o) = .inl (cA, n, .inr (.inr (.inr (.inr fun j => (f j).map (eAd E)))))) (ht : (eTys E)[t0]? = some (cA, .object ty)) (hin : vp_in i n) (hd : decode cc pc = .ok (.aaload, 1)) (k : J E nL kc ks r0 b σ (pc + 1) lv (va_rf ((f (ix i)).map (eAd E)) :: st)) : J E nL kc ks r0 b σ pc lv (.int i :: .ref (eAd E o) :: st) := by
  obtain ⟨p, l, e, R, s, m, args, below, meth, c, Q, A, D, tys, ids, ad, ent⟩ := E
  obtain ⟨hx, hb, hml, hown, hts, hK, hN, hR, hA, hlk, hAX⟩ := C
  intro h H locs ls hP hD hS hl
  obtain ⟨q0, hq⟩ := wl_at (ad := ad) (ent := ent) σ ho
  rw [show ent o (σ.1 o) (σ.2 o) = _ from he] at hq
  exact va_aldq (D := D) hx hb hK hP q0 t0 hq ht hin hd (k h H locs ls hP hD hS hl)
theorem j_alen (C : CX E cc own nL rm) {o n t0 : Nat} {cA : ClassId} {ty : FieldType} {f : Nat → Int32} {v : Int32} (ho : o ∈ eIds E) (he : eEnt E o (σ.1 o) (σ.2 o) = .inl (cA, n, .inl f)) (ht : (eTys E)[t0]? = some (cA, ty)) (hv : Int32.ofNat n = v) (hd : decode cc pc = .ok (.arraylength, 1)) (k : J E nL kc ks r0 b σ (pc + 1) lv (.int v :: st)) : J E nL kc ks r0 b σ pc lv (.ref (eAd E o) :: st) := by
  obtain ⟨p, l, e, R, s, m, args, below, meth, c, Q, A, D, tys, ids, ad, ent⟩ := E
  obtain ⟨hx, hb, hml, hown, hts, hK, hN, hR, hA, hlk, hAX⟩ := C
  intro h H locs ls hP hD hS hl
  obtain ⟨q0, hq⟩ := wl_at (ad := ad) (ent := ent) σ ho
  rw [show ent o (σ.1 o) (σ.2 o) = _ from he] at hq
  exact va_alen (D := D) hx hb hK hP q0 t0 hq ht hv hd (k h H locs ls hP hD hS hl)
theorem j_iast (C : CX E cc own nL rm) {o n t0 : Nat} {cA : ClassId} {i : Int32} {x : Int32} {kb : Mem → Option ρ} (ho : o ∈ eIds E) (he : eEnt E o (σ.1 o) (σ.2 o) = .inl (cA, n, .inl (σ.1 o))) (he' : eEnt E o ((wI σ o (ix i) x).1 o) ((wI σ o (ix i) x).2 o) = .inl (cA, n, .inl (upd (σ.1 o) (ix i) x))) (ht : (eTys E)[t0]? = some (cA, .int)) (hin : vp_in i n) (hd : decode cc pc = .ok (.iastore, 1)) (k : ∀ τ, J E nL kc ks r0 (kb τ) τ (pc + 1) lv st) : J E nL kc ks r0 (lete (wI σ o (ix i) x) kb) σ pc lv (.int x :: .int i :: .ref (eAd E o) :: st) := by
  obtain ⟨p, l, e, R, s, m, args, below, meth, c, Q, A, D, tys, ids, ad, ent⟩ := E
  obtain ⟨hx, hb, hml, hown, hts, hK, hN, hR, hA, hlk, hAX⟩ := C
  intro h H locs ls hP hD hS hl
  obtain ⟨q0, hq⟩ := wl_at (ad := ad) (ent := ent) σ ho
  have hset := wl_set (σ' := wI σ o (ix i) x) hD ho hq he' (fun o' h' => ⟨wI_ne σ _ _ h', rfl⟩)
  rw [show ent o (σ.1 o) (σ.2 o) = _ from he] at hq
  refine va_iast (D := D) hx hb hK hP hD hS q0 t0 hq ht hin hd (fun H1 locs1 hP1 hD1 hS1 => ?_)
  have hP1 : va_P D vwCl ((wl ids ad ent σ).set q0 (ad o, .inl (cA, n, .inl (upd (σ.1 o) (ix i) x)))) H1 := hP1
  have hD1 : va_D A ((wl ids ad ent σ).set q0 (ad o, .inl (cA, n, .inl (upd (σ.1 o) (ix i) x)))) := hD1
  rw [hset] at hP1 hD1
  exact k _ h H1 locs1 ls hP1 hD1 hS1 hl
theorem j_last (C : CX E cc own nL rm) {o n t0 : Nat} {cA : ClassId} {i : Int32} {x : Int64} {kb : Mem → Option ρ} (ho : o ∈ eIds E) (he : eEnt E o (σ.1 o) (σ.2 o) = .inl (cA, n, .inr (.inl (σ.2 o)))) (he' : eEnt E o ((wJ σ o (ix i) x).1 o) ((wJ σ o (ix i) x).2 o) = .inl (cA, n, .inr (.inl (vp_updL (σ.2 o) (ix i) x)))) (ht : (eTys E)[t0]? = some (cA, .long)) (hin : vp_in i n) (hd : decode cc pc = .ok (.lastore, 1)) (k : ∀ τ, J E nL kc ks r0 (kb τ) τ (pc + 1) lv st) : J E nL kc ks r0 (lete (wJ σ o (ix i) x) kb) σ pc lv (.long x :: .int i :: .ref (eAd E o) :: st) := by
  obtain ⟨p, l, e, R, s, m, args, below, meth, c, Q, A, D, tys, ids, ad, ent⟩ := E
  obtain ⟨hx, hb, hml, hown, hts, hK, hN, hR, hA, hlk, hAX⟩ := C
  intro h H locs ls hP hD hS hl
  obtain ⟨q0, hq⟩ := wl_at (ad := ad) (ent := ent) σ ho
  have hset := wl_set (σ' := wJ σ o (ix i) x) hD ho hq he' (fun o' h' => ⟨rfl, wJ_ne σ _ _ h'⟩)
  rw [show ent o (σ.1 o) (σ.2 o) = _ from he] at hq
  refine va_last (D := D) hx hb hK hP hD hS q0 t0 hq ht hin hd (fun H1 locs1 hP1 hD1 hS1 => ?_)
  have hP1 : va_P D vwCl ((wl ids ad ent σ).set q0 (ad o, .inl (cA, n, .inr (.inl (vp_updL (σ.2 o) (ix i) x))))) H1 := hP1
  have hD1 : va_D A ((wl ids ad ent σ).set q0 (ad o, .inl (cA, n, .inr (.inl (vp_updL (σ.2 o) (ix i) x))))) := hD1
  rw [hset] at hP1 hD1
  exact k _ h H1 locs1 ls hP1 hD1 hS1 hl
theorem j_zast (C : CX E cc own nL rm) {o n t0 : Nat} {cA : ClassId} {i : Int32} {x : Int32} {kb : Mem → Option ρ} (ho : o ∈ eIds E) (he : eEnt E o (σ.1 o) (σ.2 o) = .inl (cA, n, .inl (σ.1 o))) (he' : eEnt E o ((wI σ o (ix i) x).1 o) ((wI σ o (ix i) x).2 o) = .inl (cA, n, .inl (upd (σ.1 o) (ix i) x))) (ht : (eTys E)[t0]? = some (cA, .boolean)) (hz : vp_nar .boolean x = x) (hin : vp_in i n) (hd : decode cc pc = .ok (.bastore, 1)) (k : ∀ τ, J E nL kc ks r0 (kb τ) τ (pc + 1) lv st) : J E nL kc ks r0 (lete (wI σ o (ix i) x) kb) σ pc lv (.int x :: .int i :: .ref (eAd E o) :: st) := by
  obtain ⟨p, l, e, R, s, m, args, below, meth, c, Q, A, D, tys, ids, ad, ent⟩ := E
  obtain ⟨hx, hb, hml, hown, hts, hK, hN, hR, hA, hlk, hAX⟩ := C
  intro h H locs ls hP hD hS hl
  obtain ⟨q0, hq⟩ := wl_at (ad := ad) (ent := ent) σ ho
  have hset := wl_set (σ' := wI σ o (ix i) x) hD ho hq he' (fun o' h' => ⟨wI_ne σ _ _ h', rfl⟩)
  rw [show ent o (σ.1 o) (σ.2 o) = _ from he] at hq
  refine va_zast (D := D) hx hb hK hP hD hS q0 t0 hq ht hin hd (fun H1 locs1 hP1 hD1 hS1 => ?_)
  rw [hz] at hP1 hD1
  have hP1 : va_P D vwCl ((wl ids ad ent σ).set q0 (ad o, .inl (cA, n, .inl (upd (σ.1 o) (ix i) x)))) H1 := hP1
  have hD1 : va_D A ((wl ids ad ent σ).set q0 (ad o, .inl (cA, n, .inl (upd (σ.1 o) (ix i) x)))) := hD1
  rw [hset] at hP1 hD1
  exact k _ h H1 locs1 ls hP1 hD1 hS1 hl
end ROWS
