/-! WORLDS THAT GROW: walks over an explicit list of cells -/
def GW (E : EnvT) (nL kc ks : Nat) (ws : va_W) (pc : Nat) (lv : List (Nat × Value)) (st : List Value) : Prop := match E with
  | (p, l, e, R, s, m, args, below, meth, c, Q, A, D, _, _, _, _) => ∀ (H : Heap) (locs : List Loc) (ls : Array Slot), va_P D vwCl ws H → va_D A ws → va_S A s.heap H locs → lv_has ls nL lv → W p l e R s m args below meth c H locs kc ks Q (F0 m pc ls st)
theorem gw_G {E : EnvT} {nL kc ks : Nat} {σ : Mem} {pc : Nat} {lv : List (Nat × Value)} {st : List Value} : GW E nL kc ks (wl (eIds E) (eAd E) (eEnt E) σ) pc lv st = G E nL kc ks σ pc lv st := by
  obtain ⟨p, l, e, R, s, m, args, below, meth, c, Q, A, D, tys, ids, ad, ent⟩ := E
  rfl
def INI (E : EnvT) : Prop := match E with
  | (_, _, _, _, _, _, _, _, meth, _, _, _, _, _, _, _, _) => meth.name = "<init>"
def AOs (U : State) : Prop := va_AO "EngineCell$Channel" U ∧ va_AO "EngineCell$Sheet" U
theorem AOs.moved {u U : State} (hvm : u.vm.Alike U.vm) (h : AOs u) : AOs U := ⟨h.1.moved hvm, h.2.moved hvm⟩
def EAO (E : EnvT) : Prop := match E with
  | (_, _, _, _, s, _, _, _, _, _, _, _, _, _, _, _, _) => AOs s
theorem va_tys_eq {D : va_G} {cl : List vw_C} {tys : List (ClassId × FieldType)} {U : State} {cA c0 : ClassId} {ty : FieldType} {t0 : Nat} (hK : va_K D cl (tys ++ [(cA, ty)]) U) (ht : tys[t0]? = some (c0, ty)) : cA = c0 := by
  have h1 := (hK.2 t0 (c0, ty) (by rw [List.getElem?_append_left (List.getElem?_eq_some_iff.mp ht).1]; exact ht)).2
  have h2 := (hK.2 tys.length (cA, ty) (by simp)).2
  cases ty with
  | object C =>
    obtain ⟨_, _, _, _, _, f1⟩ := h1
    obtain ⟨_, _, _, _, _, f2⟩ := h2
    exact Option.some.inj (f2.symm.trans f1)
  | _ =>
    first
    | exact Option.some.inj ((show U.vm.findClass _ = some cA from h2).symm.trans (show U.vm.findClass _ = some c0 from h1))
/-- behind a call: the caller's other cells, and the callee's world -/
theorem w_join {A F : Nat → Prop} {D : va_G} {cl : List vw_C} {w0 w1 w2 : va_W} {H H1 : Heap} (hP : va_P D cl (w0 ++ w1) H) (hD : va_D A (w0 ++ w1)) (hF : ∀ q, F q → A q) (hFx : ∀ q, F q → (∃ (k : Nat) (e : va_E), w1[k]? = some (q, e)) ∨ H.size ≤ q) (hk : ∀ q : Nat, q < H.size → ¬ F q → H1[q]? = H[q]?) (hP1 : va_P D cl w2 H1) (hD1 : va_D F w2) : va_P D cl (w0 ++ w2) H1 ∧ va_D A (w0 ++ w2) := by
  have h0 : ∀ (k : Nat) (q : Nat × va_E), w0[k]? = some q → (w0 ++ w1)[k]? = some q := fun k q hq => by
    rw [List.getElem?_append_left (List.getElem?_eq_some_iff.mp hq).1]; exact hq
  have hn : ∀ (k : Nat) (q : Nat × va_E), w0[k]? = some q → ¬ F q.1 := fun k q hq z => by
    rcases hFx _ z with ⟨k1, e, hk1⟩ | hz
    · have h1 : (w0 ++ w1)[w0.length + k1]? = some (q.1, e) := by
        rw [List.getElem?_append_right (by omega), Nat.add_sub_cancel_left]; exact hk1
      have := hD.1 k (w0.length + k1) q (q.1, e) (h0 k q hq) h1 rfl
      have := (List.getElem?_eq_some_iff.mp hq).1
      omega
    · have := (hP k q (h0 k q hq)).lt
      omega
  refine ⟨va_P.app (fun k q hq => (hP k q (h0 k q hq)).kept (hk q.1 (hP k q (h0 k q hq)).lt (hn k q hq))) hP1, va_D.app ⟨fun i j p q h1 h2 h3 => hD.1 i j p q (h0 i p h1) (h0 j q h2) h3, fun k q hq => hD.2 k q (h0 k q hq)⟩ (hD1.weaken (fun k q hq z => hF _ z)) (fun i j p q h1 h2 z => hn i p h1 (by rw [z]; exact hD1.2 j q h2))⟩
theorem w_perm {A : Nat → Prop} {D : va_G} {cl : List vw_C} {ws ws' : va_W} {H : Heap} (is : List Nat) (hn : va_nd is = true) (hs : is.map (fun i => ws[i]?) = ws'.map some) (hP : va_P D cl ws H) (hD : va_D A ws) : va_P D cl ws' H ∧ va_D A ws' := by
  refine ⟨fun k q hk => ?_, hD.sub is hn hs⟩
  have h1 : (is.map (fun i => ws[i]?))[k]? = some (some q) := by rw [hs, List.getElem?_map, hk]; rfl
  rw [List.getElem?_map] at h1
  cases hi : is[k]? with
  | none => rw [hi] at h1; cases h1
  | some i => rw [hi] at h1; exact hP i q (Option.some.inj h1)
theorem w_swap {A : Nat → Prop} {D : va_G} {cl : List vw_C} {w0 w1 : va_W} {H : Heap} (hP : va_P D cl (w0 ++ w1) H) (hD : va_D A (w0 ++ w1)) : va_P D cl (w1 ++ w0) H ∧ va_D A (w1 ++ w0) := by
  have a0 : ∀ (k : Nat) (q : Nat × va_E), w0[k]? = some q → (w0 ++ w1)[k]? = some q := fun k q hq => by
    rw [List.getElem?_append_left (List.getElem?_eq_some_iff.mp hq).1]; exact hq
  have a1 : ∀ (k : Nat) (q : Nat × va_E), w1[k]? = some q → (w0 ++ w1)[w0.length + k]? = some q := fun k q hq => by
    rw [List.getElem?_append_right (by omega), Nat.add_sub_cancel_left]; exact hq
  refine ⟨va_P.app (fun k q hq => hP _ q (a1 k q hq)) (fun k q hq => hP _ q (a0 k q hq)), va_D.app ⟨fun i j p q h1 h2 h3 => ?_, fun k q hq => hD.2 _ q (a1 k q hq)⟩ ⟨fun i j p q h1 h2 h3 => hD.1 i j p q (a0 i p h1) (a0 j q h2) h3, fun k q hq => hD.2 _ q (a0 k q hq)⟩ (fun i j p q h1 h2 h3 => ?_)⟩
  · have := hD.1 _ _ p q (a1 i p h1) (a1 j q h2) h3
    omega
  · have := hD.1 _ _ p q (a1 i p h1) (a0 j q h2) h3
    have := (List.getElem?_eq_some_iff.mp h2).1
    omega
-- the contract of a constructor: from the new cell to its world, at new addresses
abbrev WfT : Type := (Nat → Nat) → va_W
def RQc (Wf : WfT) : RQT := fun D tys ids ad _ sz => va_Qv (fun _ : Nat → Nat => True) (fun u t => va_P D vwCl (Wf u) t.heap ∧ va_K D vwCl tys t ∧ va_D (AX ids ad sz) (Wf u)) (AX ids ad sz)
def zM : Mem := (fun _ _ => 0, fun _ _ => 0)
def CI (l : Launch) (D : va_G) (tys : List (ClassId × FieldType)) (y : MethodName) (b : ByteArray) (nL : Nat) (rm : Room) (h : Nat) (As : List Value) (ci : Nat) (fs : List Value) (mc ms : Nat) (Wf : WfT) : Prop :=
  ∀ sz : Nat, Met l y (.code y b nL none :: lw_g) rm (va_Pc (.ref h :: As) (fun U => PX D tys [0] (fun _ => h) (fun _ _ _ => .inr (ci, fs)) zM sz U ∧ AOs U)) (RQc Wf D tys [0] (fun _ => h) (fun _ _ _ => .inr (ci, fs)) sz) mc ms (AX [0] (fun _ => h) sz)
theorem PI_blind {As : List Value} {D : va_G} {tys : List (ClassId × FieldType)} {ids : List Nat} {ad : Nat → Nat} {ent : EntT} {σ : Mem} {sz : Nat} : FrameBlind (va_Pc As (fun U => PX D tys ids ad ent σ sz U ∧ AOs U)) := fun a U g mk q => by
  obtain ⟨q0, ⟨q1, qP, qK, qN, qD⟩, qA⟩ := q
  exact ⟨q0, ⟨q1, qP, va_K.moved (u := U) (U := U.calling g mk a) (Vm.Alike.refl U.vm) qK, NW.same (u := U) (U := U.calling g mk a) rfl qN, qD⟩, AOs.moved (u := U) (U := U.calling g mk a) (Vm.Alike.refl U.vm) qA⟩
set_option maxHeartbeats 4000000 in
theorem ci_of {l : Launch} {D : va_G} {tys : List (ClassId × FieldType)} {y : MethodName} {b : ByteArray} {nL : Nat} {rm : Room} {h : Nat} {As : List Value} {ci : Nat} {fs : List Value} {mc ms : Nat} {Wf : WfT} (hy : plainName y.cls = true) (hyn : y.name = "<init>") (hn : (lg_sl (.ref h :: As)).length ≤ nL)
    (hm : ∀ E : EnvT, eL E = l → eD E = D → eTys E = tys → INI E → EAO E → CX E b y.cls nL rm → QE E mc ms none (RQc Wf) → GW E nL 0 0 [(h, .inr (ci, fs))] 0 (lv_args 0 (.ref h :: As)) []) : CI l D tys y b nL rm h As ci fs mc ms Wf := by
  intro sz
  refine Met.ofW (cc := b) (maxL := nL) (ret := none) hy rfl ?_
  intro p e s m args below meth c s₁ B hml hv
  obtain ⟨rfl, ⟨hsz, hP, hK, hN, hD0⟩, hAO⟩ := hv
  have hts := atoms_spec (ws := .code y b nL none :: lw_g) B.pre
  have hin : meth.name = "<init>" := (name_of_methodNamed B.named B.method).1.trans hyn
  subst hsz
  have hD : va_D (AX [0] (fun _ => h) s.heap.size) [(h, .inr (ci, fs))] := wl_D (ids := [0]) (ad := fun _ => h) (ent := fun _ _ _ => .inr (ci, fs)) (σ := zM) (σ' := zM) hD0 (fun o ho => Or.inl ⟨o, ho, rfl⟩)
  have hl := lv_entry (.ref h :: As) (n := nL) hn
  rw [lg_entry_eq]
  exact hm (p, l, e, rm, s, m, (.ref h :: As).toArray, below, meth, c, MQ below (RQc Wf D tys [0] (fun _ => h) (fun _ _ _ => .inr (ci, fs)) s.heap.size) (.ref h :: As).toArray s mc ms (AX [0] (fun _ => h) s.heap.size), AX [0] (fun _ => h) s.heap.size, D, tys, [0], (fun _ => h), (fun _ _ _ => .inr (ci, fs))) rfl rfl rfl hin hAO
    ⟨B.exec, B.bytes, hml, findClass_of_methodNamed B.named, fun w h => hts w (List.mem_cons_of_mem _ h), hK, hN, rfl, fun q h => Or.inr h, B.notSynchronized, rfl⟩ ⟨B.returns, rfl⟩ s.heap [] _ hP hD va_S.rf hl
section GROW
variable {E : EnvT} {cc : ByteArray} {own : String} {nL : Nat} {rm : Room} {kc ks : Nat} {ws : va_W} {pc : Nat} {lv lv' : List (Nat × Value)} {st : List Value}
theorem w_iadd (C : CX E cc own nL rm) {x y v : Int32} (hd : decode cc pc = .ok (.iadd, 1)) (hv : x + y = v) (k : GW E nL kc ks ws (pc + 1) lv (.int v :: st)) : GW E nL kc ks ws pc lv (.int y :: .int x :: st) := by
  obtain ⟨p, l, e, R, s, m, args, below, meth, c, Q, A, D, tys, ids, ad, ent⟩ := E
  obtain ⟨hx, hb, hml, hown, hts, hK, hN, hR, hA, hlk, hAX⟩ := C
  subst hv
  exact fun H locs ls hP hD hS hl => lv_iadd hx hb hd (k H locs ls hP hD hS hl)
theorem w_isub (C : CX E cc own nL rm) {x y v : Int32} (hd : decode cc pc = .ok (.isub, 1)) (hv : x - y = v) (k : GW E nL kc ks ws (pc + 1) lv (.int v :: st)) : GW E nL kc ks ws pc lv (.int y :: .int x :: st) := by
  obtain ⟨p, l, e, R, s, m, args, below, meth, c, Q, A, D, tys, ids, ad, ent⟩ := E
  obtain ⟨hx, hb, hml, hown, hts, hK, hN, hR, hA, hlk, hAX⟩ := C
  subst hv
  exact fun H locs ls hP hD hS hl => lv_isub hx hb hd (k H locs ls hP hD hS hl)
theorem w_iand (C : CX E cc own nL rm) {x y v : Int32} (hd : decode cc pc = .ok (.iand, 1)) (hv : x &&& y = v) (k : GW E nL kc ks ws (pc + 1) lv (.int v :: st)) : GW E nL kc ks ws pc lv (.int y :: .int x :: st) := by
  obtain ⟨p, l, e, R, s, m, args, below, meth, c, Q, A, D, tys, ids, ad, ent⟩ := E
  obtain ⟨hx, hb, hml, hown, hts, hK, hN, hR, hA, hlk, hAX⟩ := C
  subst hv
  exact fun H locs ls hP hD hS hl => lv_iand hx hb hd (k H locs ls hP hD hS hl)
theorem w_lcmp (C : CX E cc own nL rm) {x y : Int64} (hd : decode cc pc = .ok (.lcmp, 1)) (k : GW E nL kc ks ws (pc + 1) lv (.int (lg_cmp x y) :: st)) : GW E nL kc ks ws pc lv (.long y :: .long x :: st) := by
  obtain ⟨p, l, e, R, s, m, args, below, meth, c, Q, A, D, tys, ids, ad, ent⟩ := E
  obtain ⟨hx, hb, hml, hown, hts, hK, hN, hR, hA, hlk, hAX⟩ := C
  exact fun H locs ls hP hD hS hl => W.lcmp hx hb hd (k H locs ls hP hD hS hl)
theorem w_iconst (C : CX E cc own nL rm) {n : Int} (v : Int32) (hd : decode cc pc = .ok (.iconst n, 1)) (hv : Int32.ofInt n = v) (k : GW E nL kc ks ws (pc + 1) lv (.int v :: st)) : GW E nL kc ks ws pc lv st := by
  obtain ⟨p, l, e, R, s, m, args, below, meth, c, Q, A, D, tys, ids, ad, ent⟩ := E
  obtain ⟨hx, hb, hml, hown, hts, hK, hN, hR, hA, hlk, hAX⟩ := C
  exact fun H locs ls hP hD hS hl => lv_iconst hx hb hd hv (k H locs ls hP hD hS hl)
theorem w_bipush (C : CX E cc own nL rm) {n : Int} (v : Int32) (hd : decode cc pc = .ok (.bipush n, 2)) (hv : (Int8.ofInt n).toInt32 = v) (k : GW E nL kc ks ws (pc + 2) lv (.int v :: st)) : GW E nL kc ks ws pc lv st := by
  obtain ⟨p, l, e, R, s, m, args, below, meth, c, Q, A, D, tys, ids, ad, ent⟩ := E
  obtain ⟨hx, hb, hml, hown, hts, hK, hN, hR, hA, hlk, hAX⟩ := C
  exact fun H locs ls hP hD hS hl => lv_bipush hx hb hd hv (k H locs ls hP hD hS hl)
theorem w_sipush (C : CX E cc own nL rm) {n : Int} (v : Int32) (hd : decode cc pc = .ok (.sipush n, 3)) (hv : (Int16.ofInt n).toInt32 = v) (k : GW E nL kc ks ws (pc + 3) lv (.int v :: st)) : GW E nL kc ks ws pc lv st := by
  obtain ⟨p, l, e, R, s, m, args, below, meth, c, Q, A, D, tys, ids, ad, ent⟩ := E
  obtain ⟨hx, hb, hml, hown, hts, hK, hN, hR, hA, hlk, hAX⟩ := C
  exact fun H locs ls hP hD hS hl => lv_sipush hx hb hd hv (k H locs ls hP hD hS hl)
theorem w_lconst (C : CX E cc own nL rm) {n : Fin 2} (v : Int64) (hd : decode cc pc = .ok (.lconst n, 1)) (hv : Int64.ofNat (n : Nat) = v) (k : GW E nL kc ks ws (pc + 1) lv (.long v :: st)) : GW E nL kc ks ws pc lv st := by
  obtain ⟨p, l, e, R, s, m, args, below, meth, c, Q, A, D, tys, ids, ad, ent⟩ := E
  obtain ⟨hx, hb, hml, hown, hts, hK, hN, hR, hA, hlk, hAX⟩ := C
  exact fun H locs ls hP hD hS hl => lv_lconst hx hb hd hv (k H locs ls hP hD hS hl)
theorem w_iload_n (C : CX E cc own nL rm) {i : Fin 4} {x : Int32} (hd : decode cc pc = .ok (.iload_n i, 1)) (q : Nat) (hq : lv[q]? = some ((i : Nat), .int x)) (k : GW E nL kc ks ws (pc + 1) lv (.int x :: st)) : GW E nL kc ks ws pc lv st := by
  obtain ⟨p, l, e, R, s, m, args, below, meth, c, Q, A, D, tys, ids, ad, ent⟩ := E
  obtain ⟨hx, hb, hml, hown, hts, hK, hN, hR, hA, hlk, hAX⟩ := C
  exact fun H locs ls hP hD hS hl => lv_iload_n hx hb hd rfl (lv_at hl q hq) (k H locs ls hP hD hS hl)
theorem w_iload (C : CX E cc own nL rm) {i : Nat} {x : Int32} (hd : decode cc pc = .ok (.iload i, 2)) (q : Nat) (hq : lv[q]? = some (i, .int x)) (k : GW E nL kc ks ws (pc + 2) lv (.int x :: st)) : GW E nL kc ks ws pc lv st := by
  obtain ⟨p, l, e, R, s, m, args, below, meth, c, Q, A, D, tys, ids, ad, ent⟩ := E
  obtain ⟨hx, hb, hml, hown, hts, hK, hN, hR, hA, hlk, hAX⟩ := C
  exact fun H locs ls hP hD hS hl => lv_iload hx hb hd (lv_at hl q hq) (k H locs ls hP hD hS hl)
theorem w_aload_n (C : CX E cc own nL rm) {i : Fin 4} {x : Nat} (hd : decode cc pc = .ok (.aload_n i, 1)) (q : Nat) (hq : lv[q]? = some ((i : Nat), .ref x)) (k : GW E nL kc ks ws (pc + 1) lv (.ref x :: st)) : GW E nL kc ks ws pc lv st := by
  obtain ⟨p, l, e, R, s, m, args, below, meth, c, Q, A, D, tys, ids, ad, ent⟩ := E
  obtain ⟨hx, hb, hml, hown, hts, hK, hN, hR, hA, hlk, hAX⟩ := C
  exact fun H locs ls hP hD hS hl => lv_aload_n hx hb hd rfl (lv_at hl q hq) (k H locs ls hP hD hS hl)
theorem w_aload (C : CX E cc own nL rm) {i : Nat} {x : Nat} (hd : decode cc pc = .ok (.aload i, 2)) (q : Nat) (hq : lv[q]? = some (i, .ref x)) (k : GW E nL kc ks ws (pc + 2) lv (.ref x :: st)) : GW E nL kc ks ws pc lv st := by
  obtain ⟨p, l, e, R, s, m, args, below, meth, c, Q, A, D, tys, ids, ad, ent⟩ := E
  obtain ⟨hx, hb, hml, hown, hts, hK, hN, hR, hA, hlk, hAX⟩ := C
  exact fun H locs ls hP hD hS hl => lv_aload hx hb hd (lv_at hl q hq) (k H locs ls hP hD hS hl)
theorem w_istore_n (C : CX E cc own nL rm) {i : Fin 4} {x : Int32} (hd : decode cc pc = .ok (.istore_n i, 1)) (hn : (i : Nat) < nL) (hl' : ((i : Nat), Value.int x) :: lv.filter (fun q => !(q.1 == (i : Nat)) && !(q.1 + 1 == (i : Nat) && q.2.category == 2)) = lv') (k : GW E nL kc ks ws (pc + 1) lv' st) : GW E nL kc ks ws pc lv (.int x :: st) := by
  obtain ⟨p, l, e, R, s, m, args, below, meth, c, Q, A, D, tys, ids, ad, ent⟩ := E
  obtain ⟨hx, hb, hml, hown, hts, hK, hN, hR, hA, hlk, hAX⟩ := C
  exact fun H locs ls hP hD hS hl => lv_istore_n hx hb hd rfl hl hn hl' (fun ls' hl => k H locs ls' hP hD hS hl)
theorem w_istore (C : CX E cc own nL rm) {i : Nat} {x : Int32} (hd : decode cc pc = .ok (.istore i, 2)) (hn : i < nL) (hl' : (i, Value.int x) :: lv.filter (fun q => !(q.1 == i) && !(q.1 + 1 == i && q.2.category == 2)) = lv') (k : GW E nL kc ks ws (pc + 2) lv' st) : GW E nL kc ks ws pc lv (.int x :: st) := by
  obtain ⟨p, l, e, R, s, m, args, below, meth, c, Q, A, D, tys, ids, ad, ent⟩ := E
  obtain ⟨hx, hb, hml, hown, hts, hK, hN, hR, hA, hlk, hAX⟩ := C
  exact fun H locs ls hP hD hS hl => lv_istore hx hb hd hl hn hl' (fun ls' hl => k H locs ls' hP hD hS hl)
theorem w_astore_n (C : CX E cc own nL rm) {i : Fin 4} {x : Nat} (hd : decode cc pc = .ok (.astore_n i, 1)) (hn : (i : Nat) < nL) (hl' : ((i : Nat), Value.ref x) :: lv.filter (fun q => !(q.1 == (i : Nat)) && !(q.1 + 1 == (i : Nat) && q.2.category == 2)) = lv') (k : GW E nL kc ks ws (pc + 1) lv' st) : GW E nL kc ks ws pc lv (.ref x :: st) := by
  obtain ⟨p, l, e, R, s, m, args, below, meth, c, Q, A, D, tys, ids, ad, ent⟩ := E
  obtain ⟨hx, hb, hml, hown, hts, hK, hN, hR, hA, hlk, hAX⟩ := C
  exact fun H locs ls hP hD hS hl => lv_astore_n hx hb hd rfl hl hn hl' (fun ls' hl => k H locs ls' hP hD hS hl)
theorem w_astore (C : CX E cc own nL rm) {i : Nat} {x : Nat} (hd : decode cc pc = .ok (.astore i, 2)) (hn : i < nL) (hl' : (i, Value.ref x) :: lv.filter (fun q => !(q.1 == i) && !(q.1 + 1 == i && q.2.category == 2)) = lv') (k : GW E nL kc ks ws (pc + 2) lv' st) : GW E nL kc ks ws pc lv (.ref x :: st) := by
  obtain ⟨p, l, e, R, s, m, args, below, meth, c, Q, A, D, tys, ids, ad, ent⟩ := E
  obtain ⟨hx, hb, hml, hown, hts, hK, hN, hR, hA, hlk, hAX⟩ := C
  exact fun H locs ls hP hD hS hl => lv_astore hx hb hd hl hn hl' (fun ls' hl => k H locs ls' hP hD hS hl)
theorem w_iinc (C : CX E cc own nL rm) {i : Nat} {n : Int} {x v : Int32} (hd : decode cc pc = .ok (.iinc i n, 3)) (q : Nat) (hq : lv[q]? = some (i, .int x)) (hv : x + Int32.ofInt n = v) (hn : i < nL) (hl' : (i, Value.int v) :: lv.filter (fun q => !(q.1 == i) && !(q.1 + 1 == i && q.2.category == 2)) = lv') (k : GW E nL kc ks ws (pc + 3) lv' st) : GW E nL kc ks ws pc lv st := by
  obtain ⟨p, l, e, R, s, m, args, below, meth, c, Q, A, D, tys, ids, ad, ent⟩ := E
  obtain ⟨hx, hb, hml, hown, hts, hK, hN, hR, hA, hlk, hAX⟩ := C
  exact fun H locs ls hP hD hS hl => lv_iinc hx hb hd hl hq hv hn hl' (fun ls' hl => k H locs ls' hP hD hS hl)
theorem w_dup (C : CX E cc own nL rm) {v : Value} (hd : decode cc pc = .ok (.dup, 1)) (hv : v.category = 1) (k : GW E nL kc ks ws (pc + 1) lv (v :: v :: st)) : GW E nL kc ks ws pc lv (v :: st) := by
  obtain ⟨p, l, e, R, s, m, args, below, meth, c, Q, A, D, tys, ids, ad, ent⟩ := E
  obtain ⟨hx, hb, hml, hown, hts, hK, hN, hR, hA, hlk, hAX⟩ := C
  exact fun H locs ls hP hD hS hl => lv_dup hx hb hd hv (k H locs ls hP hD hS hl)
theorem w_goto (C : CX E cc own nL rm) {off : Int} (tgt : Nat) (hd : decode cc pc = .ok (.goto off, 3)) (ht : (pc : Int) + off = (tgt : Int)) (k : GW E nL kc ks ws tgt lv st) : GW E nL kc ks ws pc lv st := by
  obtain ⟨p, l, e, R, s, m, args, below, meth, c, Q, A, D, tys, ids, ad, ent⟩ := E
  obtain ⟨hx, hb, hml, hown, hts, hK, hN, hR, hA, hlk, hAX⟩ := C
  exact fun H locs ls hP hD hS hl => lv_goto hx hb hd ht (k H locs ls hP hD hS hl)
theorem w_if_eq (C : CX E cc own nL rm) {x : Int32} {off : Int} (tgt : Nat) (hd : decode cc pc = .ok (.ifCond .eq off, 3)) (ht : (pc : Int) + off = (tgt : Int)) (kt : x = 0 → GW E nL kc ks ws tgt lv st) (kf : ¬ x = 0 → GW E nL kc ks ws (pc + 3) lv st) : GW E nL kc ks ws pc lv (.int x :: st) := by
  obtain ⟨p, l, e, R, s, m, args, below, meth, c, Q, A, D, tys, ids, ad, ent⟩ := E
  obtain ⟨hx, hb, hml, hown, hts, hK, hN, hR, hA, hlk, hAX⟩ := C
  exact fun H locs ls hP hD hS hl => lv_if_eq hx hb hd ht (fun q => kt q H locs ls hP hD hS hl) (fun q => kf (by first | exact q | exact Decidable.not_not.mp q) H locs ls hP hD hS hl)
theorem w_icmp_eq (C : CX E cc own nL rm) {x y : Int32} {off : Int} (tgt : Nat) (hd : decode cc pc = .ok (.if_icmp .eq off, 3)) (ht : (pc : Int) + off = (tgt : Int)) (kt : x = y → GW E nL kc ks ws tgt lv st) (kf : ¬ x = y → GW E nL kc ks ws (pc + 3) lv st) : GW E nL kc ks ws pc lv (.int y :: .int x :: st) := by
  obtain ⟨p, l, e, R, s, m, args, below, meth, c, Q, A, D, tys, ids, ad, ent⟩ := E
  obtain ⟨hx, hb, hml, hown, hts, hK, hN, hR, hA, hlk, hAX⟩ := C
  exact fun H locs ls hP hD hS hl => lv_icmp_eq hx hb hd ht (fun q => kt q H locs ls hP hD hS hl) (fun q => kf (by first | exact q | exact Decidable.not_not.mp q) H locs ls hP hD hS hl)
theorem w_if_ne (C : CX E cc own nL rm) {x : Int32} {off : Int} (tgt : Nat) (hd : decode cc pc = .ok (.ifCond .ne off, 3)) (ht : (pc : Int) + off = (tgt : Int)) (kt : ¬ x = 0 → GW E nL kc ks ws tgt lv st) (kf : x = 0 → GW E nL kc ks ws (pc + 3) lv st) : GW E nL kc ks ws pc lv (.int x :: st) := by
  obtain ⟨p, l, e, R, s, m, args, below, meth, c, Q, A, D, tys, ids, ad, ent⟩ := E
  obtain ⟨hx, hb, hml, hown, hts, hK, hN, hR, hA, hlk, hAX⟩ := C
  exact fun H locs ls hP hD hS hl => lv_if_ne hx hb hd ht (fun q => kt q H locs ls hP hD hS hl) (fun q => kf (by first | exact q | exact Decidable.not_not.mp q) H locs ls hP hD hS hl)
theorem w_icmp_ne (C : CX E cc own nL rm) {x y : Int32} {off : Int} (tgt : Nat) (hd : decode cc pc = .ok (.if_icmp .ne off, 3)) (ht : (pc : Int) + off = (tgt : Int)) (kt : ¬ x = y → GW E nL kc ks ws tgt lv st) (kf : x = y → GW E nL kc ks ws (pc + 3) lv st) : GW E nL kc ks ws pc lv (.int y :: .int x :: st) := by
  obtain ⟨p, l, e, R, s, m, args, below, meth, c, Q, A, D, tys, ids, ad, ent⟩ := E
  obtain ⟨hx, hb, hml, hown, hts, hK, hN, hR, hA, hlk, hAX⟩ := C
  exact fun H locs ls hP hD hS hl => lv_icmp_ne hx hb hd ht (fun q => kt q H locs ls hP hD hS hl) (fun q => kf (by first | exact q | exact Decidable.not_not.mp q) H locs ls hP hD hS hl)
theorem w_if_lt (C : CX E cc own nL rm) {x : Int32} {off : Int} (tgt : Nat) (hd : decode cc pc = .ok (.ifCond .lt off, 3)) (ht : (pc : Int) + off = (tgt : Int)) (kt : x < 0 → GW E nL kc ks ws tgt lv st) (kf : ¬ x < 0 → GW E nL kc ks ws (pc + 3) lv st) : GW E nL kc ks ws pc lv (.int x :: st) := by
  obtain ⟨p, l, e, R, s, m, args, below, meth, c, Q, A, D, tys, ids, ad, ent⟩ := E
  obtain ⟨hx, hb, hml, hown, hts, hK, hN, hR, hA, hlk, hAX⟩ := C
  exact fun H locs ls hP hD hS hl => lv_if_lt hx hb hd ht (fun q => kt q H locs ls hP hD hS hl) (fun q => kf (by first | exact q | exact Decidable.not_not.mp q) H locs ls hP hD hS hl)
theorem w_icmp_lt (C : CX E cc own nL rm) {x y : Int32} {off : Int} (tgt : Nat) (hd : decode cc pc = .ok (.if_icmp .lt off, 3)) (ht : (pc : Int) + off = (tgt : Int)) (kt : x < y → GW E nL kc ks ws tgt lv st) (kf : ¬ x < y → GW E nL kc ks ws (pc + 3) lv st) : GW E nL kc ks ws pc lv (.int y :: .int x :: st) := by
  obtain ⟨p, l, e, R, s, m, args, below, meth, c, Q, A, D, tys, ids, ad, ent⟩ := E
  obtain ⟨hx, hb, hml, hown, hts, hK, hN, hR, hA, hlk, hAX⟩ := C
  exact fun H locs ls hP hD hS hl => lv_icmp_lt hx hb hd ht (fun q => kt q H locs ls hP hD hS hl) (fun q => kf (by first | exact q | exact Decidable.not_not.mp q) H locs ls hP hD hS hl)
theorem w_if_le (C : CX E cc own nL rm) {x : Int32} {off : Int} (tgt : Nat) (hd : decode cc pc = .ok (.ifCond .le off, 3)) (ht : (pc : Int) + off = (tgt : Int)) (kt : x ≤ 0 → GW E nL kc ks ws tgt lv st) (kf : ¬ x ≤ 0 → GW E nL kc ks ws (pc + 3) lv st) : GW E nL kc ks ws pc lv (.int x :: st) := by
  obtain ⟨p, l, e, R, s, m, args, below, meth, c, Q, A, D, tys, ids, ad, ent⟩ := E
  obtain ⟨hx, hb, hml, hown, hts, hK, hN, hR, hA, hlk, hAX⟩ := C
  exact fun H locs ls hP hD hS hl => lv_if_le hx hb hd ht (fun q => kt q H locs ls hP hD hS hl) (fun q => kf (by first | exact q | exact Decidable.not_not.mp q) H locs ls hP hD hS hl)
theorem w_icmp_le (C : CX E cc own nL rm) {x y : Int32} {off : Int} (tgt : Nat) (hd : decode cc pc = .ok (.if_icmp .le off, 3)) (ht : (pc : Int) + off = (tgt : Int)) (kt : x ≤ y → GW E nL kc ks ws tgt lv st) (kf : ¬ x ≤ y → GW E nL kc ks ws (pc + 3) lv st) : GW E nL kc ks ws pc lv (.int y :: .int x :: st) := by
  obtain ⟨p, l, e, R, s, m, args, below, meth, c, Q, A, D, tys, ids, ad, ent⟩ := E
  obtain ⟨hx, hb, hml, hown, hts, hK, hN, hR, hA, hlk, hAX⟩ := C
  exact fun H locs ls hP hD hS hl => lv_icmp_le hx hb hd ht (fun q => kt q H locs ls hP hD hS hl) (fun q => kf (by first | exact q | exact Decidable.not_not.mp q) H locs ls hP hD hS hl)
theorem w_if_ge (C : CX E cc own nL rm) {x : Int32} {off : Int} (tgt : Nat) (hd : decode cc pc = .ok (.ifCond .ge off, 3)) (ht : (pc : Int) + off = (tgt : Int)) (kt : 0 ≤ x → GW E nL kc ks ws tgt lv st) (kf : ¬ 0 ≤ x → GW E nL kc ks ws (pc + 3) lv st) : GW E nL kc ks ws pc lv (.int x :: st) := by
  obtain ⟨p, l, e, R, s, m, args, below, meth, c, Q, A, D, tys, ids, ad, ent⟩ := E
  obtain ⟨hx, hb, hml, hown, hts, hK, hN, hR, hA, hlk, hAX⟩ := C
  exact fun H locs ls hP hD hS hl => lv_if_ge hx hb hd ht (fun q => kt q H locs ls hP hD hS hl) (fun q => kf (by first | exact q | exact Decidable.not_not.mp q) H locs ls hP hD hS hl)
theorem w_icmp_ge (C : CX E cc own nL rm) {x y : Int32} {off : Int} (tgt : Nat) (hd : decode cc pc = .ok (.if_icmp .ge off, 3)) (ht : (pc : Int) + off = (tgt : Int)) (kt : y ≤ x → GW E nL kc ks ws tgt lv st) (kf : ¬ y ≤ x → GW E nL kc ks ws (pc + 3) lv st) : GW E nL kc ks ws pc lv (.int y :: .int x :: st) := by
  obtain ⟨p, l, e, R, s, m, args, below, meth, c, Q, A, D, tys, ids, ad, ent⟩ := E
  obtain ⟨hx, hb, hml, hown, hts, hK, hN, hR, hA, hlk, hAX⟩ := C
  exact fun H locs ls hP hD hS hl => lv_icmp_ge hx hb hd ht (fun q => kt q H locs ls hP hD hS hl) (fun q => kf (by first | exact q | exact Decidable.not_not.mp q) H locs ls hP hD hS hl)
theorem w_if_gt (C : CX E cc own nL rm) {x : Int32} {off : Int} (tgt : Nat) (hd : decode cc pc = .ok (.ifCond .gt off, 3)) (ht : (pc : Int) + off = (tgt : Int)) (kt : 0 < x → GW E nL kc ks ws tgt lv st) (kf : ¬ 0 < x → GW E nL kc ks ws (pc + 3) lv st) : GW E nL kc ks ws pc lv (.int x :: st) := by
  obtain ⟨p, l, e, R, s, m, args, below, meth, c, Q, A, D, tys, ids, ad, ent⟩ := E
  obtain ⟨hx, hb, hml, hown, hts, hK, hN, hR, hA, hlk, hAX⟩ := C
  exact fun H locs ls hP hD hS hl => lv_if_gt hx hb hd ht (fun q => kt q H locs ls hP hD hS hl) (fun q => kf (by first | exact q | exact Decidable.not_not.mp q) H locs ls hP hD hS hl)
theorem w_icmp_gt (C : CX E cc own nL rm) {x y : Int32} {off : Int} (tgt : Nat) (hd : decode cc pc = .ok (.if_icmp .gt off, 3)) (ht : (pc : Int) + off = (tgt : Int)) (kt : y < x → GW E nL kc ks ws tgt lv st) (kf : ¬ y < x → GW E nL kc ks ws (pc + 3) lv st) : GW E nL kc ks ws pc lv (.int y :: .int x :: st) := by
  obtain ⟨p, l, e, R, s, m, args, below, meth, c, Q, A, D, tys, ids, ad, ent⟩ := E
  obtain ⟨hx, hb, hml, hown, hts, hK, hN, hR, hA, hlk, hAX⟩ := C
  exact fun H locs ls hP hD hS hl => lv_icmp_gt hx hb hd ht (fun q => kt q H locs ls hP hD hS hl) (fun q => kf (by first | exact q | exact Decidable.not_not.mp q) H locs ls hP hD hS hl)
theorem w_tsIn (C : CX E cc own nL rm) {x : Int32} {dflt lo hi : Int} {offs : Array Int} {len : Nat} {off : Int} (v : Int32) (tgt : Nat) (hd : decode cc pc = .ok (.tableswitch dflt lo hi offs, len)) (hv : x = v) (h1 : ¬ v.toInt < lo) (h2 : ¬ hi < v.toInt) (ho : offs[(v.toInt - lo).toNat]? = some off) (ht : (pc : Int) + off = (tgt : Int)) (k : GW E nL kc ks ws tgt lv st) : GW E nL kc ks ws pc lv (.int x :: st) := by
  obtain ⟨p, l, e, R, s, m, args, below, meth, c, Q, A, D, tys, ids, ad, ent⟩ := E
  obtain ⟨hx, hb, hml, hown, hts, hK, hN, hR, hA, hlk, hAX⟩ := C
  subst hv
  exact fun H locs ls hP hD hS hl => lv_tableIn hx hb hd h1 h2 ho ht (k H locs ls hP hD hS hl)
theorem w_tsOut (C : CX E cc own nL rm) {x : Int32} {dflt lo hi : Int} {offs : Array Int} {len : Nat} (tgt : Nat) (hd : decode cc pc = .ok (.tableswitch dflt lo hi offs, len)) (h1 : x.toInt < lo ∨ hi < x.toInt) (ht : (pc : Int) + dflt = (tgt : Int)) (k : GW E nL kc ks ws tgt lv st) : GW E nL kc ks ws pc lv (.int x :: st) := by
  obtain ⟨p, l, e, R, s, m, args, below, meth, c, Q, A, D, tys, ids, ad, ent⟩ := E
  obtain ⟨hx, hb, hml, hown, hts, hK, hN, hR, hA, hlk, hAX⟩ := C
  exact fun H locs ls hP hD hS hl => lv_tableOut hx hb hd h1 ht (k H locs ls hP hD hS hl)
theorem w_obj (C : CX E cc own nL rm) {idx a : Nat} (hlink : Cond.methodLink own idx objectInit ∈ lw_g) (hfr : 1 ≤ rm.frames) (hlo : (st.map fun v => v.category).sum + 12 ≤ rm.locals) (hd : decode cc pc = .ok (.invokespecial idx, 3)) (k : GW E nL kc ks ws (pc + 3) lv st) : GW E nL kc ks ws pc lv (.ref a :: st) := by
  obtain ⟨p, l, e, R, s, m, args, below, meth, c, Q, A, D, tys, ids, ad, ent⟩ := E
  obtain ⟨hx, hb, hml, hown, hts, hK, hN, hR, hA, hlk, hAX⟩ := C
  subst hR
  exact fun H locs ls hP hD hS hl => W.objInit hx hb hown (hts _ hlink) (hts _ hI_obj) (hts _ hC_obj) rfl (by rw [hml]; exact hl.1) rfl hd hfr (by show 2 * 0 + _ + 12 ≤ _; omega) (W.eq (g2 := F0 m (pc + 3) ls st) rfl (k H locs ls hP hD hS hl))
theorem w_widen {kc' ks' : Nat} (h1 : kc ≤ kc') (h2 : ks ≤ ks') (k : GW E nL kc' ks' ws pc lv st) : GW E nL kc ks ws pc lv st := by
  obtain ⟨p, l, e, R, s, m, args, below, meth, c, Q, A, D, tys, ids, ad, ent⟩ := E
  exact fun H locs ls hP hD hS hl => W.widen h1 h2 (k H locs ls hP hD hS hl)
theorem w_to {ws' : va_W} (is : List Nat) (hn : va_nd is = true) (hs : is.map (fun i => ws[i]?) = ws'.map some) (k : GW E nL kc ks ws' pc lv st) : GW E nL kc ks ws pc lv st := by
  obtain ⟨p, l, e, R, s, m, args, below, meth, c, Q, A, D, tys, ids, ad, ent⟩ := E
  exact fun H locs ls hP hD hS hl => k H locs ls (w_perm is hn hs hP hD).1 (w_perm is hn hs hP hD).2 hS hl
theorem w_lv (lv' : List (Nat × Value)) (is : List Nat) (h : lv_pick lv is = lv') (k : GW E nL kc ks ws pc lv' st) : GW E nL kc ks ws pc lv st := by
  obtain ⟨p, l, e, R, s, m, args, below, meth, c, Q, A, D, tys, ids, ad, ent⟩ := E
  exact fun H locs ls hP hD hS hl => k H locs ls hP hD hS (lv_sub hl is h)
theorem w_new (C : CX E cc own nL rm) {RC : String} {T : u_T} {N ci idx kc' ks' : Nat} {ty0 : Nat → FieldType} {fs : List Value} {ws' : Nat → va_W} (hU : ∀ w ∈ u_ws RC T N, w ∈ lw_g) (hty : ∀ k, k < N → parseFieldDescriptor (T k).2.2.1 = some (ty0 k)) (hL : Cond.classLink own idx RC ∈ lw_g) (hB : Cond.instantiable RC N ∈ lw_g) (hZ : Cond.initialized RC ∈ lw_g) (hc : vwCl[ci]? = some (RC, T, N)) (hfs : ∀ j, j < N → defaultValue (ty0 j) = vp_V fs j) (e1 : kc + 1 = kc') (e2 : ks + N = ks') (h1 : kc' ≤ rm.cells) (h2 : ks' ≤ rm.slots) (hd : decode cc pc = .ok (.new idx, 3)) (hs : ∀ q, ws ++ [(q, .inr (ci, fs))] = ws' q) (k : ∀ q, GW E nL kc' ks' (ws' q) (pc + 3) lv (.ref q :: st)) : GW E nL kc ks ws pc lv st := by
  obtain ⟨p, l, e, R, s, m, args, below, meth, c, Q, A, D, tys, ids, ad, ent⟩ := E
  obtain ⟨hx, hb, hml, hown, hts, hK, hN, hR, hA, hlk, hAX⟩ := C
  subst hR
  subst e1
  subst e2
  intro H locs ls hP hD hS hl
  refine va_new hx hb hts hU ty0 hty hown (hts _ hL) (hts _ hB) (hts _ hZ) hK hP hD hS hA hc hfs h1 h2 hd (fun q H1 hP1 hD1 hS1 => ?_)
  rw [hs] at hP1 hD1
  exact k q H1 locs ls hP1 hD1 hS1 hl
theorem w_newa (C : CX E cc own nL rm) {t0 N kc' ks' : Nat} {n : Int32} {c0 : ClassId} {atype : ArrayType} {ty : FieldType} (a0 : vp_A) {ws' : Nat → va_W} (hA0 : Cond.arrayClass ty ∈ lw_g) (hty : newarray.typeOf atype = ty) (ht : (eTys E)[t0]? = some (c0, ty)) (ha : ∀ cA : ClassId, vp_cell cA a0 = arrV cA N (fun _ => defaultValue ty)) (hn : ¬ n < 0) (hNN : n.toNatClampNeg = N) (hby : N * componentBytes ty ≤ 536870912) (e1 : kc + 1 = kc') (e2 : ks + N = ks') (h1 : kc' ≤ rm.cells) (h2 : ks' ≤ rm.slots) (hd : decode cc pc = .ok (.newarray atype, 2)) (hs : ∀ q, ws ++ [(q, .inl (c0, a0))] = ws' q) (k : ∀ q, GW E nL kc' ks' (ws' q) (pc + 2) lv (.ref q :: st)) : GW E nL kc ks ws pc lv (.int n :: st) := by
  obtain ⟨p, l, e, R, s, m, args, below, meth, c, Q, A, D, tys, ids, ad, ent⟩ := E
  obtain ⟨hx, hb, hml, hown, hts, hK, hN, hR, hA, hlk, hAX⟩ := C
  subst hR
  subst e1
  subst e2
  intro H locs ls hP hD hS hl
  refine va_newa (atype := atype) hx hb (by rw [hty]; exact hts _ hA0) hty hK hP hD hS hA ha hn hNN hby h1 h2 hd (fun q cA H1 hK1 hP1 hD1 hS1 => ?_)
  have hcc : cA = c0 := va_tys_eq hK1 ht
  subst hcc
  rw [hs] at hP1 hD1
  exact k q H1 locs ls hP1 hD1 hS1 hl
theorem w_newq (C : CX E cc own nL rm) {t0 N kc' ks' idx : Nat} {n : Int32} {c0 : ClassId} {CN : String} {ws' : Nat → va_W} (hO : match E with | (_, _, _, _, s, _, _, _, _, _, _, _, _, _, _, _, _) => va_AO CN s) (hL : Cond.classLink own idx CN ∈ lw_g) (ht : (eTys E)[t0]? = some (c0, .object CN)) (hn : ¬ n < 0) (hNN : n.toNatClampNeg = N) (hby : N * 4 ≤ 536870912) (e1 : kc + 1 = kc') (e2 : ks + N = ks') (h1 : kc' ≤ rm.cells) (h2 : ks' ≤ rm.slots) (hd : decode cc pc = .ok (.anewarray idx, 3)) (hs : ∀ q, ws ++ [(q, .inl (c0, N, .inr (.inr (.inr (.inr (fun _ => none))))))] = ws' q) (k : ∀ q, GW E nL kc' ks' (ws' q) (pc + 3) lv (.ref q :: st)) : GW E nL kc ks ws pc lv (.int n :: st) := by
  obtain ⟨p, l, e, R, s, m, args, below, meth, c, Q, A, D, tys, ids, ad, ent⟩ := E
  obtain ⟨hx, hb, hml, hown, hts, hK, hN, hR, hA, hlk, hAX⟩ := C
  subst hR
  subst e1
  subst e2
  intro H locs ls hP hD hS hl
  refine va_newq hx hb hown (hts _ hL) hO hK hP hD hS hA hn hNN hby h1 h2 hd (fun q cA H1 hK1 hP1 hD1 hS1 => ?_)
  have hcc : cA = c0 := va_tys_eq hK1 ht
  subst hcc
  rw [hs] at hP1 hD1
  exact k q H1 locs ls hP1 hD1 hS1 hl
theorem w_get (C : CX E cc own nL rm) {RC : String} {T : u_T} {N ci idx a : Nat} {fs : List Value} {v : Value} (hU : ∀ w ∈ u_ws RC T N, w ∈ lw_g) (hc : vwCl[ci]? = some (RC, T, N)) (q0 : Nat) (hq : ws[q0]? = some (a, .inr (ci, fs))) (j : Nat) (hj : j < N) (hv : fs[j]? = some v) (hlink : Cond.fieldLink own idx (T j).1 (T j).2.1 (T j).2.2.1 ∈ lw_g) (hd : decode cc pc = .ok (.getfield idx, 3)) (k : GW E nL kc ks ws (pc + 3) lv (v :: st)) : GW E nL kc ks ws pc lv (.ref a :: st) := by
  obtain ⟨p, l, e, R, s, m, args, below, meth, c, Q, A, D, tys, ids, ad, ent⟩ := E
  obtain ⟨hx, hb, hml, hown, hts, hK, hN, hR, hA, hlk, hAX⟩ := C
  exact fun H locs ls hP hD hS hl => va_get (D := D) hx hb hts hU hown hK hP q0 hq hc j hj (hts _ hlink) (fun _ h9 => h9) hv hd (k H locs ls hP hD hS hl)
theorem w_put (C : CX E cc own nL rm) {RC : String} {T : u_T} {N ci idx a : Nat} {fs : List Value} {v : Value} {ty0 : Nat → FieldType} (ws' : va_W) (hU : ∀ w ∈ u_ws RC T N, w ∈ lw_g) (hty : ∀ k, k < N → parseFieldDescriptor (T k).2.2.1 = some (ty0 k)) (hnm : ∀ a, a < N → ∀ b, b < N → a ≠ b → (T a).2.1 ≠ (T b).2.1) (hc : vwCl[ci]? = some (RC, T, N)) (q0 : Nat) (hq : ws[q0]? = some (a, .inr (ci, fs))) (j : Nat) (hj : j < N) (hjl : j < fs.length) (hfin : (T j).2.2.2 = false) (hn : narrow (ty0 j) v = v) (hfit : fits (ty0 j) v = true) (hlink : Cond.fieldLink own idx (T j).1 (T j).2.1 (T j).2.2.1 ∈ lw_g) (hd : decode cc pc = .ok (.putfield idx, 3)) (hs : ws.set q0 (a, .inr (ci, fs.set j v)) = ws') (k : GW E nL kc ks ws' (pc + 3) lv st) : GW E nL kc ks ws pc lv (v :: .ref a :: st) := by
  obtain ⟨p, l, e, R, s, m, args, below, meth, c, Q, A, D, tys, ids, ad, ent⟩ := E
  obtain ⟨hx, hb, hml, hown, hts, hK, hN, hR, hA, hlk, hAX⟩ := C
  subst hs
  exact fun H locs ls hP hD hS hl => va_put (D := D) hx hb hts hU ty0 hty hnm hown hK hP hD hS q0 hq hc j hj (hts _ hlink) (fun _ h9 => h9) hfin (hty j hj) hn hfit hjl hd (fun H1 locs1 hP1 hD1 hS1 => k H1 locs1 ls hP1 hD1 hS1 hl)
theorem w_putF (C : CX E cc own nL rm) {RC : String} {T : u_T} {N ci idx a : Nat} {fs : List Value} {v : Value} {ty0 : Nat → FieldType} (ws' : va_W) (hU : ∀ w ∈ u_ws RC T N, w ∈ lw_g) (hty : ∀ k, k < N → parseFieldDescriptor (T k).2.2.1 = some (ty0 k)) (hnm : ∀ a, a < N → ∀ b, b < N → a ≠ b → (T a).2.1 ≠ (T b).2.1) (hc : vwCl[ci]? = some (RC, T, N)) (q0 : Nat) (hq : ws[q0]? = some (a, .inr (ci, fs))) (j : Nat) (hj : j < N) (hjl : j < fs.length) (hfin : (T j).2.2.2 = true) (hI : INI E) (hown2 : (T j).1 = own) (hn : narrow (ty0 j) v = v) (hfit : fits (ty0 j) v = true) (hlink : Cond.fieldLink own idx (T j).1 (T j).2.1 (T j).2.2.1 ∈ lw_g) (hd : decode cc pc = .ok (.putfield idx, 3)) (hs : ws.set q0 (a, .inr (ci, fs.set j v)) = ws') (k : GW E nL kc ks ws' (pc + 3) lv st) : GW E nL kc ks ws pc lv (v :: .ref a :: st) := by
  obtain ⟨p, l, e, R, s, m, args, below, meth, c, Q, A, D, tys, ids, ad, ent⟩ := E
  obtain ⟨hx, hb, hml, hown, hts, hK, hN, hR, hA, hlk, hAX⟩ := C
  subst hs
  exact fun H locs ls hP hD hS hl => va_putF (D := D) hx hb hts hU ty0 hty hnm hown hK hP hD hS q0 hq hc j hj (hts _ hlink) (fun _ h9 => h9) hfin hI hown2 (hty j hj) hn hfit hjl hd (fun H1 locs1 hP1 hD1 hS1 => k H1 locs1 ls hP1 hD1 hS1 hl)
theorem w_iast (C : CX E cc own nL rm) {N t0 a : Nat} {cA : ClassId} {f : Nat → Int32} {i x : Int32} (ws' : va_W) (q0 : Nat) (hq : ws[q0]? = some (a, .inl (cA, N, .inl f))) (ht : (eTys E)[t0]? = some (cA, .int)) (hin : vp_in i N) (hd : decode cc pc = .ok (.iastore, 1)) (hs : ws.set q0 (a, .inl (cA, N, .inl (upd f (ix i) x))) = ws') (k : GW E nL kc ks ws' (pc + 1) lv st) : GW E nL kc ks ws pc lv (.int x :: .int i :: .ref a :: st) := by
  obtain ⟨p, l, e, R, s, m, args, below, meth, c, Q, A, D, tys, ids, ad, ent⟩ := E
  obtain ⟨hx, hb, hml, hown, hts, hK, hN, hR, hA, hlk, hAX⟩ := C
  subst hs
  exact fun H locs ls hP hD hS hl => va_iast (D := D) hx hb hK hP hD hS q0 t0 hq ht hin hd (fun H1 locs1 hP1 hD1 hS1 => k H1 locs1 ls hP1 hD1 hS1 hl)
theorem w_aast (C : CX E cc own nL rm) {N t0 a ci v qk : Nat} {cA : ClassId} {r : vw_C} {vs : List Value} {f : Nat → Option Nat} {i : Int32} (ws' : va_W) (q0 : Nat) (hq : ws[q0]? = some (a, .inl (cA, N, .inr (.inr (.inr (.inr f)))))) (ht : (eTys E)[t0]? = some (cA, .object r.1)) (hv : ws[qk]? = some (v, .inr (ci, vs))) (hc : vwCl[ci]? = some r) (hin : vp_in i N) (hd : decode cc pc = .ok (.aastore, 1)) (hs : ws.set q0 (a, .inl (cA, N, .inr (.inr (.inr (.inr (va_up f (ix i) (some v))))))) = ws') (k : GW E nL kc ks ws' (pc + 1) lv st) : GW E nL kc ks ws pc lv (.ref v :: .int i :: .ref a :: st) := by
  obtain ⟨p, l, e, R, s, m, args, below, meth, c, Q, A, D, tys, ids, ad, ent⟩ := E
  obtain ⟨hx, hb, hml, hown, hts, hK, hN, hR, hA, hlk, hAX⟩ := C
  subst hs
  exact fun H locs ls hP hD hS hl => va_astq (D := D) hx hb hK hP hD hS q0 t0 qk ci hq ht hv hc hin hd (fun H1 locs1 hP1 hD1 hS1 => k H1 locs1 ls hP1 hD1 hS1 hl)
theorem w_callI (C : CX E cc own nL rm) (hAO : EAO E) {y : MethodName} {bt : ByteArray} {nL' idx h ci mc ms kc' ks' : Nat} {rm' : Room} {fs : List Value} {Wf : WfT} {w0 : va_W} {ws' : (Nat → Nat) → va_W} (As : List Value) {stk : List Value} (hct : CI (eL E) (eD E) (eTys E) y bt nL' rm' h As ci fs mc ms Wf) (hlink : Cond.methodLink own idx y ∈ lw_g) (hinst : Cond.instanceMethod y ∈ lw_g) (hini : Cond.initialized y.cls ∈ lw_g) (hcode : Cond.code y bt nL' none ∈ lw_g) (hyn : y.name = "<init>") (hdd : y.cls ≠ "java/lang/invoke/MethodHandle" ∧ y.cls ≠ "java/lang/invoke/VarHandle" ∧ (parseMethodDescriptor y.desc).map (fun d => d.parameters.length) = some As.length) (hR_ : rm'.frames + 1 ≤ rm.frames ∧ 8 + (nL' + 11) + rm'.locals ≤ rm.locals) (hrm : rm'.cells = mc ∧ rm'.slots = ms) (e1 : kc + mc = kc') (e2 : ks + ms = ks') (h1 : kc' ≤ rm.cells) (h2 : ks' ≤ rm.slots) (hst8 : (st.map fun v => v.category).sum ≤ 8) (hd : decode cc pc = .ok (.invokespecial idx, 3)) (hstk : stk = As.reverse ++ .ref h :: st) (hw : ws = w0 ++ [(h, .inr (ci, fs))]) (hs : ∀ u, w0 ++ Wf u = ws' u) (k : ∀ u, GW E nL kc' ks' (ws' u) (pc + 3) lv st) : GW E nL kc ks ws pc lv stk := by
  obtain ⟨p, l, e, R, s, m, args, below, meth, c, Q, A, D, tys, ids, ad, ent⟩ := E
  obtain ⟨hx, hb, hml, hown, hts, hK, hN, hR, hA, hlk, hAX⟩ := C
  subst hR
  subst hstk
  subst e1
  subst e2
  subst hw
  intro H locs ls hP hD hS hl
  have hct : ∀ sz : Nat, Met l y (.code y bt nL' none :: lw_g) rm' (va_Pc (.ref h :: As) (fun U => PX D tys [0] (fun _ => h) (fun _ _ _ => .inr (ci, fs)) zM sz U ∧ AOs U)) (RQc Wf D tys [0] (fun _ => h) (fun _ _ _ => .inr (ci, fs)) sz) mc ms (AX [0] (fun _ => h) sz) := hct
  have hlast : (w0 ++ [(h, .inr (ci, fs))] : va_W)[w0.length]? = some (h, .inr (ci, fs)) := by simp
  have hF : ∀ q, AX [0] (fun _ => h) H.size q → A q := fun q hq => by
    rcases hq with ⟨o, -, hq⟩ | hq
    · have := hD.2 _ _ hlast
      have hq : h = q := hq
      rw [← hq]; exact this
    · exact hA q (Nat.le_trans hS.1 hq)
  have hPc : va_P D vwCl [(h, .inr (ci, fs))] H := fun k q hk => by
    have hz : k < 1 := (List.getElem?_eq_some_iff.mp hk).1
    rw [show k = 0 by omega] at hk
    cases hk
    exact hP _ _ hlast
  have hDc : va_D (fun _ => True) ([(h, .inr (ci, fs))] : va_W) := ⟨fun i j p q h1 h2 _ => by
    have z1 : i < 1 := (List.getElem?_eq_some_iff.mp h1).1
    have z2 : j < 1 := (List.getElem?_eq_some_iff.mp h2).1
    omega, fun _ _ _ => trivial⟩
  have hgood : GoodIn lw_g (.code y bt nL' none :: lw_g) := good_N hcode
  refine va_callv (va_runI (As := As) (rest := st) ⟨hx, hb, hml, hown, hts⟩ (hct H.size) (cwI As.length hts hgood rfl hrm.1 hrm.2 (hts _ hini) (hts _ hlink) (hts _ hinst) hyn hdd hR_) ⟨PI_blind, fun U hU hW => ⟨rfl, ⟨by rw [hU], by rw [hU]; exact hPc, va_K.moved hW.alike hK, NW.warm hW hN, hDc⟩, AOs.moved hW.alike hAO⟩⟩ rfl rfl hl.1 rfl (lv_room hst8) hd ⟨h1, h2⟩) hS (fun q _ hq => hF q hq) hF (fun u t H1 locs1 ht hvm hw hB hz1 hk1 hS1 => ?_)
  obtain ⟨hP1, hK1, hD1⟩ := hB
  rw [ht] at hP1
  obtain ⟨hP2, hD2⟩ := w_join hP hD hF (fun q hq => by
    rcases hq with ⟨o, -, hq⟩ | hq
    · exact Or.inl ⟨0, .inr (ci, fs), by rw [show h = q from hq]; rfl⟩
    · exact Or.inr hq) hk1 hP1 hD1
  rw [hs] at hP2 hD2
  exact k u H1 locs1 ls hP2 hD2 hS1 hl
theorem w_vret (C : CX E cc own nL rm) {mc ms : Nat} {Wf : WfT} (u : Nat → Nat) (hws : ws = Wf u) (hq : QE E mc ms none (RQc Wf)) (h1 : kc ≤ mc) (h2 : ks ≤ ms) (hd : decode cc pc = .ok (.return_, 1)) : GW E nL kc ks ws pc lv [] := by
  obtain ⟨p, l, e, R, s, m, args, below, meth, c, Q, A, D, tys, ids, ad, ent⟩ := E
  obtain ⟨hx, hb, hml, hown, hts, hK, hN, hR, hA, hlk, hAX⟩ := C
  intro H locs ls hP hD hS hl
  obtain ⟨hr, hQ⟩ := hq
  subst hAX
  subst hws
  have hQ : Q = _ := hQ
  rw [hQ]
  exact W.widen h1 h2 (W.vret hx hb hr (fun t ht hW => ⟨⟨u, rfl, trivial, by rw [ht]; exact hP, va_K.moved hW.alike hK, hD⟩, hS.F ht⟩) hS.2.2 hd hlk)
end GROW
