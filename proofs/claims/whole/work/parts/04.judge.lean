/-! THE JUDGEMENT: a walk of a method over a memory of numbered objects. A state of the heap is Mem: for each object (or array) its ints, its longs. 'ids' the numbers, 'ad' their addresses, 'ent' what a cell holds. -/
abbrev Mem : Type := (Nat → Nat → Int32) × (Nat → Nat → Int64)
abbrev EntT : Type := Nat → (Nat → Int32) → (Nat → Int64) → va_E
def wl (ids : List Nat) (ad : Nat → Nat) (ent : EntT) (σ : Mem) : va_W := ids.map fun o => (ad o, ent o (σ.1 o) (σ.2 o))
def wI (σ : Mem) (o k : Nat) (x : Int32) : Mem := (fun o' => if o' = o then upd (σ.1 o) k x else σ.1 o', σ.2)
def wJ (σ : Mem) (o k : Nat) (x : Int64) : Mem := (σ.1, fun o' => if o' = o then vp_updL (σ.2 o) k x else σ.2 o')
def AX (ids : List Nat) (ad : Nat → Nat) (sz : Nat) : Nat → Prop := fun q => (∃ o, o ∈ ids ∧ ad o = q) ∨ sz ≤ q
theorem wl_at {ids : List Nat} {ad : Nat → Nat} {ent : EntT} (σ : Mem) {o : Nat} (h : o ∈ ids) : ∃ k : Nat, (wl ids ad ent σ)[k]? = some (ad o, ent o (σ.1 o) (σ.2 o)) := by
  obtain ⟨k, hk⟩ := List.getElem?_of_mem h
  exact ⟨k, by simp [wl, List.getElem?_map, hk]⟩
theorem wl_in {ids : List Nat} {ad : Nat → Nat} {ent : EntT} {σ : Mem} {k : Nat} {q : Nat × va_E} (h : (wl ids ad ent σ)[k]? = some q) : ∃ o, o ∈ ids ∧ ids[k]? = some o ∧ q = (ad o, ent o (σ.1 o) (σ.2 o)) := by
  simp only [wl, List.getElem?_map] at h
  cases hk : ids[k]? with
  | none => rw [hk] at h; cases h
  | some o => rw [hk] at h; exact ⟨o, List.mem_of_getElem? hk, rfl, (Option.some.inj h).symm⟩
/-- one place of the world is set: the world of the new memory -/
theorem wl_set {ids : List Nat} {ad : Nat → Nat} {ent : EntT} {σ σ' : Mem} {A : Nat → Prop} (hD : va_D A (wl ids ad ent σ)) {o k : Nat} {e : va_E} (ho : o ∈ ids) (hk : (wl ids ad ent σ)[k]? = some (ad o, ent o (σ.1 o) (σ.2 o))) (he : ent o (σ'.1 o) (σ'.2 o) = e) (hn : ∀ o', o' ≠ o → σ'.1 o' = σ.1 o' ∧ σ'.2 o' = σ.2 o') : (wl ids ad ent σ).set k (ad o, e) = wl ids ad ent σ' := by
  obtain ⟨k0, h0⟩ := List.getElem?_of_mem ho
  have hk0 : (wl ids ad ent σ)[k0]? = some (ad o, ent o (σ.1 o) (σ.2 o)) := by simp [wl, List.getElem?_map, h0]
  have hkk : k = k0 := hD.1 k k0 _ _ hk hk0 rfl
  subst hkk
  apply List.ext_getElem?
  intro j
  by_cases hj : j = k
  · subst hj
    have hlt : j < (wl ids ad ent σ).length := (List.getElem?_eq_some_iff.mp hk).1
    rw [List.getElem?_set_self hlt]
    simp [wl, List.getElem?_map, h0, he]
  · rw [List.getElem?_set_ne (Ne.symm hj)]
    simp only [wl, List.getElem?_map]
    cases hoj : ids[j]? with
    | none => rfl
    | some o' =>
      have hne : o' ≠ o := by
        intro e'
        subst e'
        have hj0 : (wl ids ad ent σ)[j]? = some (ad o', ent o' (σ.1 o') (σ.2 o')) := by simp [wl, List.getElem?_map, hoj]
        exact hj (hD.1 j k _ _ hj0 hk rfl)
      obtain ⟨e1, e2⟩ := hn o' hne
      simp only [Option.map_some, e1, e2]
theorem wI_o (σ : Mem) (o k : Nat) (x : Int32) : (wI σ o k x).1 o = upd (σ.1 o) k x := by simp [wI]
theorem wI_2 (σ : Mem) (o k : Nat) (x : Int32) : (wI σ o k x).2 = σ.2 := rfl
theorem wI_ne (σ : Mem) {o o' : Nat} (k : Nat) (x : Int32) (h : o' ≠ o) : (wI σ o k x).1 o' = σ.1 o' := by simp [wI, h]
theorem wJ_o (σ : Mem) (o k : Nat) (x : Int64) : (wJ σ o k x).2 o = vp_updL (σ.2 o) k x := by simp [wJ]
theorem wJ_1 (σ : Mem) (o k : Nat) (x : Int64) : (wJ σ o k x).1 = σ.1 := rfl
theorem wJ_ne (σ : Mem) {o o' : Nat} (k : Nat) (x : Int64) (h : o' ≠ o) : (wJ σ o k x).2 o' = σ.2 o' := by simp [wJ, h]
-- the words of a program over the memory
def lete {α ρ : Type} (x : α) (k : α → Option ρ) : Option ρ := k x
def chk {ρ : Type} (b : Bool) (k : Option ρ) : Option ρ := if b = true then k else none
def bindo {α ρ : Type} (x : Option α) (k : α → Option ρ) : Option ρ := match x with | none => none | some a => k a
def caseo {ρ : Type} (o : Option Nat) (n : Option ρ) (k : Nat → Option ρ) : Option ρ := match o with | none => n | some a => k a
def loopF {α ρ : Type} (body : (α → Option ρ) → α → Option ρ) : Nat → α → Option ρ
  | 0, _ => none
  | f + 1, x => body (loopF body f) x
def inb (i : Int32) (n : Nat) : Bool := decide (0 ≤ i.toInt) && decide (i.toInt < n)
def ix (i : Int32) : Nat := i.toNatClampNeg
def nz (i : Int32) : Bool := !decide (i = 0)
def nzL (i : Int64) : Bool := !decide (i = 0)
def isZ (i : Int32) : Bool := decide (i = 0) || decide (i = 1)
theorem inb_in {i : Int32} {n : Nat} (h : inb i n = true) : vp_in i n := by
  simp only [inb, Bool.and_eq_true, decide_eq_true_eq] at h
  exact vp_in_iff.mpr h
theorem nz_ne {i : Int32} (h : nz i = true) : ¬ i = 0 := by
  simpa [nz] using h
theorem nzL_ne {i : Int64} (h : nzL i = true) : ¬ i = 0 := by
  simpa [nzL] using h
theorem isZ_n {i : Int32} (h : isZ i = true) : narrow .boolean (.int i) = .int i := by
  simp only [isZ, Bool.or_eq_true, decide_eq_true_eq] at h
  rcases h with rfl | rfl <;> rfl
-- the surroundings of a walk, in one
abbrev EnvT : Type := Program × Launch × Env × Room × State × MethodId × Array Value × List Frame × Method × Code × (State → Prop) × (Nat → Prop) × va_G × List (ClassId × FieldType) × List Nat × (Nat → Nat) × EntT
def eAd (E : EnvT) : Nat → Nat := match E with | (_, _, _, _, _, _, _, _, _, _, _, _, _, _, _, ad, _) => ad
def eIds (E : EnvT) : List Nat := match E with | (_, _, _, _, _, _, _, _, _, _, _, _, _, _, ids, _, _) => ids
def eEnt (E : EnvT) : EntT := match E with | (_, _, _, _, _, _, _, _, _, _, _, _, _, _, _, _, ent) => ent
def eTys (E : EnvT) : List (ClassId × FieldType) := match E with | (_, _, _, _, _, _, _, _, _, _, _, _, _, tys, _, _, _) => tys
def eD (E : EnvT) : va_G := match E with | (_, _, _, _, _, _, _, _, _, _, _, _, D, _, _, _, _) => D
def eL (E : EnvT) : Launch := match E with | (_, l, _, _, _, _, _, _, _, _, _, _, _, _, _, _, _) => l
def G (E : EnvT) (nL kc ks : Nat) (σ : Mem) (pc : Nat) (lv : List (Nat × Value)) (st : List Value) : Prop := match E with
  | (p, l, e, R, s, m, args, below, meth, c, Q, A, D, _, ids, ad, ent) => ∀ (H : Heap) (locs : List Loc) (ls : Array Slot), va_P D vwCl (wl ids ad ent σ) H → va_D A (wl ids ad ent σ) → va_S A s.heap H locs → lv_has ls nL lv → W p l e R s m args below meth c H locs kc ks Q (F0 m pc ls st)
def J {ρ : Type} (E : EnvT) (nL kc ks : Nat) (r0 : ρ) (b : Option ρ) (σ : Mem) (pc : Nat) (lv : List (Nat × Value)) (st : List Value) : Prop := b = some r0 → G E nL kc ks σ pc lv st
def NW (U : State) : Prop := ∀ w ∈ lw_nest, va_Nw w U
theorem NW.same {u U : State} (h : u.vm = U.vm) (hN : NW u) : NW U := fun w hw => va_Nw.same (lw_nest_tab w hw) h (hN w hw)
def CX (E : EnvT) (cc : ByteArray) (own : String) (nL : Nat) (rm : Room) : Prop := match E with
  | (p, _, _, R, s, m, args, _, meth, c, _, A, D, tys, ids, ad, _) => p.tables.exec = Jvm.exec ∧ c.code = cc ∧ c.maxLocals = nL ∧ s.vm.findClass own = some m.cls ∧ (∀ w ∈ lw_g, w.before args s = true) ∧ va_K D vwCl tys s ∧ NW s ∧ R = rm ∧ (∀ q : Nat, s.heap.size ≤ q → A q) ∧ meth.locks = false ∧ A = AX ids ad s.heap.size
def PX (D : va_G) (tys : List (ClassId × FieldType)) (ids : List Nat) (ad : Nat → Nat) (ent : EntT) (σ : Mem) (sz : Nat) : State → Prop := fun U => U.heap.size = sz ∧ va_P D vwCl (wl ids ad ent σ) U.heap ∧ va_K D vwCl tys U ∧ NW U ∧ va_D (fun _ => True) (wl ids ad ent σ)
def BX (D : va_G) (tys : List (ClassId × FieldType)) (ids : List Nat) (ad : Nat → Nat) (ent : EntT) (sz : Nat) : Mem → State → Prop := fun u t => va_P D vwCl (wl ids ad ent u) t.heap ∧ va_K D vwCl tys t ∧ va_D (AX ids ad sz) (wl ids ad ent u)
-- the four ends of a method: an int (boolean), a long, nothing, a reference or null
def RQi (r : Int32) (σ' : Mem) (D : va_G) (tys : List (ClassId × FieldType)) (ids : List Nat) (ad : Nat → Nat) (ent : EntT) (sz : Nat) : Array Value → State → Outcome → State → Prop := va_Qi (fun r' u => r' = r ∧ u = σ') (BX D tys ids ad ent sz) (AX ids ad sz)
def RQl (r : Int64) (σ' : Mem) (D : va_G) (tys : List (ClassId × FieldType)) (ids : List Nat) (ad : Nat → Nat) (ent : EntT) (sz : Nat) : Array Value → State → Outcome → State → Prop := va_Ql (fun r' u => r' = r ∧ u = σ') (BX D tys ids ad ent sz) (AX ids ad sz)
def RQv (σ' : Mem) (D : va_G) (tys : List (ClassId × FieldType)) (ids : List Nat) (ad : Nat → Nat) (ent : EntT) (sz : Nat) : Array Value → State → Outcome → State → Prop := va_Qv (fun u => u = σ') (BX D tys ids ad ent sz) (AX ids ad sz)
def RQq (r : Option Nat) (σ' : Mem) (D : va_G) (tys : List (ClassId × FieldType)) (ids : List Nat) (ad : Nat → Nat) (ent : EntT) (sz : Nat) : Array Value → State → Outcome → State → Prop := va_Qq (fun r' u => r' = r.map ad ∧ u = σ') (BX D tys ids ad ent sz) (AX ids ad sz)
abbrev RQT : Type := va_G → List (ClassId × FieldType) → List Nat → (Nat → Nat) → EntT → Nat → Array Value → State → Outcome → State → Prop
/-- the walk's own end is the contract's -/
def QE (E : EnvT) (kc ks : Nat) (rt : Option FieldType) (rq : RQT) : Prop := match E with
  | (_, _, _, _, s, _, args, below, meth, _, Q, A, D, tys, ids, ad, ent) => meth.sig.returnType = rt ∧ Q = MQ below (rq D tys ids ad ent s.heap.size) args s kc ks A
/-- a method's contract, over the memory of E -/
def CT (E : EnvT) (y : MethodName) (b : ByteArray) (nL : Nat) (rt : Option FieldType) (rm : Room) (As : List Value) (σ : Mem) (rq : RQT) : Prop := match E with
  | (_, l, _, _, _, _, _, _, _, _, _, _, D, tys, ids, ad, ent) => ∀ sz : Nat, Met l y (.code y b nL rt :: lw_g) rm (va_Pc As (PX D tys ids ad ent σ sz)) (rq D tys ids ad ent sz) 0 0 (AX ids ad sz)
theorem PX_blind {As : List Value} {D : va_G} {tys : List (ClassId × FieldType)} {ids : List Nat} {ad : Nat → Nat} {ent : EntT} {σ : Mem} {sz : Nat} : FrameBlind (va_Pc As (PX D tys ids ad ent σ sz)) := fun a U g mk q => by
  obtain ⟨q0, q1, qP, qK, qN, qD⟩ := q
  exact ⟨q0, q1, qP, va_K.moved (u := U) (U := U.calling g mk a) (Vm.Alike.refl U.vm) qK, NW.same (u := U) (U := U.calling g mk a) rfl qN, qD⟩
theorem wl_free {ids : List Nat} {ad : Nat → Nat} {ent : EntT} {σ : Mem} {A : Nat → Prop} (hD : va_D A (wl ids ad ent σ)) {sz : Nat} (hA : ∀ q, sz ≤ q → A q) : ∀ q, AX ids ad sz q → A q := by
  intro q h
  rcases h with ⟨o, ho, rfl⟩ | h
  · obtain ⟨k, hk⟩ := wl_at (ad := ad) (ent := ent) σ ho
    exact hD.2 k _ hk
  · exact hA q h
theorem wl_D {ids : List Nat} {ad : Nat → Nat} {ent : EntT} {σ σ' : Mem} {A B : Nat → Prop} (hD : va_D A (wl ids ad ent σ)) (hB : ∀ o, o ∈ ids → B (ad o)) : va_D B (wl ids ad ent σ') := by
  refine ⟨fun i j p q h1 h2 h3 => ?_, fun k q h => ?_⟩
  · obtain ⟨o1, m1, i1, rfl⟩ := wl_in h1
    obtain ⟨o2, m2, i2, rfl⟩ := wl_in h2
    exact hD.1 i j (ad o1, ent o1 (σ.1 o1) (σ.2 o1)) (ad o2, ent o2 (σ.1 o2) (σ.2 o2)) (by simp [wl, List.getElem?_map, i1]) (by simp [wl, List.getElem?_map, i2]) h3
  · obtain ⟨o, m1, -, rfl⟩ := wl_in h
    exact hB o m1
set_option maxHeartbeats 4000000 in
/-- a walk of the body gives the contract -/
theorem ct_of {D : va_G} {tys : List (ClassId × FieldType)} {ids : List Nat} {ad : Nat → Nat} {ent : EntT} {l : Launch} {y : MethodName} {b : ByteArray} {nL : Nat} {rt : Option FieldType} {rm : Room} {As : List Value} {σ : Mem} {rq : RQT} {mc ms : Nat} (hy : plainName y.cls = true) (hn : (lg_sl As).length ≤ nL)
    (hm : ∀ E : EnvT, eD E = D → eTys E = tys → eIds E = ids → eAd E = ad → eEnt E = ent → CX E b y.cls nL rm → QE E mc ms rt rq → G E nL 0 0 σ 0 (lv_args 0 As) []) (sz : Nat) :
    Met l y (.code y b nL rt :: lw_g) rm (va_Pc As (PX D tys ids ad ent σ sz)) (rq D tys ids ad ent sz) mc ms (AX ids ad sz) := by
  refine Met.ofW (cc := b) (maxL := nL) (ret := rt) hy rfl ?_
  intro p e s m args below meth c s₁ B hml hv
  obtain ⟨rfl, hsz, hP, hK, hN, hD0⟩ := hv
  have hts := atoms_spec (ws := .code y b nL rt :: lw_g) B.pre
  subst hsz
  have hD : va_D (AX ids ad s.heap.size) (wl ids ad ent σ) := wl_D hD0 (fun o ho => Or.inl ⟨o, ho, rfl⟩)
  have hl := lv_entry As (n := nL) hn
  rw [lg_entry_eq]
  exact hm (p, l, e, rm, s, m, As.toArray, below, meth, c, MQ below (rq D tys ids ad ent s.heap.size) As.toArray s mc ms (AX ids ad s.heap.size), AX ids ad s.heap.size, D, tys, ids, ad, ent) rfl rfl rfl rfl rfl
    ⟨B.exec, B.bytes, hml, findClass_of_methodNamed B.named, fun w h => hts w (List.mem_cons_of_mem _ h), hK, hN, rfl, fun q h => Or.inr h, B.notSynchronized, rfl⟩ ⟨B.returns, rfl⟩ s.heap [] _ hP hD va_S.rf hl
