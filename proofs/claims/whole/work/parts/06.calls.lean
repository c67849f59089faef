section CALLS
variable {E : EnvT} {cc : ByteArray} {own : String} {nL : Nat} {rm : Room} {kc ks : Nat} {ρ : Type} {r0 : ρ} {σ : Mem} {pc : Nat} {lv : List (Nat × Value)} {st : List Value}
theorem g_ireti (C : CX E cc own nL rm) {v : Int32} (hq : QE E kc ks (some .int) (RQi v σ)) (hd : decode cc pc = .ok (.ireturn, 1)) : G E nL kc ks σ pc lv [.int v] := by
  obtain ⟨p, l, e, R, s, m, args, below, meth, c, Q, A, D, tys, ids, ad, ent⟩ := E
  obtain ⟨hx, hb, hml, hown, hts, hK, hN, hR, hA, hlk, hAX⟩ := C
  intro H locs ls hP hD hS hl
  obtain ⟨hr, hQ⟩ := hq
  subst hAX
  have hQ : Q = _ := hQ
  rw [hQ]
  exact W.iret hx hb hr (fun t ht hW => ⟨⟨v, σ, rfl, ⟨rfl, rfl⟩, by rw [ht]; exact hP, va_K.moved hW.alike hK, hD⟩, hS.F ht⟩) hS.2.2 hd hlk
theorem g_iretz (C : CX E cc own nL rm) {v : Int32} (hn : narrow .boolean (.int v) = .int v) (hq : QE E kc ks (some .boolean) (RQi v σ)) (hd : decode cc pc = .ok (.ireturn, 1)) : G E nL kc ks σ pc lv [.int v] := by
  obtain ⟨p, l, e, R, s, m, args, below, meth, c, Q, A, D, tys, ids, ad, ent⟩ := E
  obtain ⟨hx, hb, hml, hown, hts, hK, hN, hR, hA, hlk, hAX⟩ := C
  intro H locs ls hP hD hS hl
  obtain ⟨hr, hQ⟩ := hq
  subst hAX
  have hQ : Q = _ := hQ
  rw [hQ]
  exact W.zret hx hb hr hn (fun t ht hW => ⟨⟨v, σ, rfl, ⟨rfl, rfl⟩, by rw [ht]; exact hP, va_K.moved hW.alike hK, hD⟩, hS.F ht⟩) hS.2.2 hd hlk
theorem g_lret (C : CX E cc own nL rm) {v : Int64} (hq : QE E kc ks (some .long) (RQl v σ)) (hd : decode cc pc = .ok (.lreturn, 1)) : G E nL kc ks σ pc lv [.long v] := by
  obtain ⟨p, l, e, R, s, m, args, below, meth, c, Q, A, D, tys, ids, ad, ent⟩ := E
  obtain ⟨hx, hb, hml, hown, hts, hK, hN, hR, hA, hlk, hAX⟩ := C
  intro H locs ls hP hD hS hl
  obtain ⟨hr, hQ⟩ := hq
  subst hAX
  have hQ : Q = _ := hQ
  rw [hQ]
  exact W.lret hx hb hr (fun t ht hW => ⟨⟨v, σ, rfl, ⟨rfl, rfl⟩, by rw [ht]; exact hP, va_K.moved hW.alike hK, hD⟩, hS.F ht⟩) hS.2.2 hd hlk
theorem g_vret (C : CX E cc own nL rm)  (hq : QE E kc ks none (RQv σ)) (hd : decode cc pc = .ok (.return_, 1)) : G E nL kc ks σ pc lv [] := by
  obtain ⟨p, l, e, R, s, m, args, below, meth, c, Q, A, D, tys, ids, ad, ent⟩ := E
  obtain ⟨hx, hb, hml, hown, hts, hK, hN, hR, hA, hlk, hAX⟩ := C
  intro H locs ls hP hD hS hl
  obtain ⟨hr, hQ⟩ := hq
  subst hAX
  have hQ : Q = _ := hQ
  rw [hQ]
  exact W.vret hx hb hr (fun t ht hW => ⟨⟨σ, rfl, rfl, by rw [ht]; exact hP, va_K.moved hW.alike hK, hD⟩, hS.F ht⟩) hS.2.2 hd hlk
theorem g_aret (C : CX E cc own nL rm) {rt : FieldType} {v : Option Nat} (hrt : (∃ n, rt = FieldType.object n) ∨ ∃ t, rt = FieldType.array t) (hq : QE E kc ks (some rt) (RQq v σ)) (hd : decode cc pc = .ok (.areturn, 1)) : G E nL kc ks σ pc lv [va_rf (v.map (eAd E))] := by
  obtain ⟨p, l, e, R, s, m, args, below, meth, c, Q, A, D, tys, ids, ad, ent⟩ := E
  obtain ⟨hx, hb, hml, hown, hts, hK, hN, hR, hA, hlk, hAX⟩ := C
  intro H locs ls hP hD hS hl
  obtain ⟨hr, hQ⟩ := hq
  subst hAX
  have hQ : Q = _ := hQ
  rw [hQ]
  exact W.aret hx hb hr hrt (va_rf_or _) (fun t ht hW => ⟨⟨v.map ad, σ, rfl, ⟨rfl, rfl⟩, by rw [ht]; exact hP, va_K.moved hW.alike hK, hD⟩, hS.F ht⟩) hS.2.2 hd hlk
theorem j_ireti (C : CX E cc own nL rm) {v r0 : Int32} (hq : QE E kc ks (some .int) (RQi r0 σ)) (hd : decode cc pc = .ok (.ireturn, 1)) : J E nL kc ks r0 (some v) σ pc lv [.int v] := by
  intro h
  cases h
  exact g_ireti C hq hd
theorem j_ireti2 (C : CX E cc own nL rm) {v : Int32} {r0 : Int32 × Mem} (hq : QE E kc ks (some .int) (RQi r0.1 r0.2)) (hd : decode cc pc = .ok (.ireturn, 1)) : J E nL kc ks r0 (some (v, σ)) σ pc lv [.int v] := by
  intro h
  cases h
  exact g_ireti C hq hd
theorem j_iretz (C : CX E cc own nL rm) {v r0 : Int32} (hn : narrow .boolean (.int v) = .int v) (hq : QE E kc ks (some .boolean) (RQi r0 σ)) (hd : decode cc pc = .ok (.ireturn, 1)) : J E nL kc ks r0 (some v) σ pc lv [.int v] := by
  intro h
  cases h
  exact g_iretz C hn hq hd
theorem j_iretz2 (C : CX E cc own nL rm) {v : Int32} {r0 : Int32 × Mem} (hn : narrow .boolean (.int v) = .int v) (hq : QE E kc ks (some .boolean) (RQi r0.1 r0.2)) (hd : decode cc pc = .ok (.ireturn, 1)) : J E nL kc ks r0 (some (v, σ)) σ pc lv [.int v] := by
  intro h
  cases h
  exact g_iretz C hn hq hd
theorem j_lret (C : CX E cc own nL rm) {v r0 : Int64} (hq : QE E kc ks (some .long) (RQl r0 σ)) (hd : decode cc pc = .ok (.lreturn, 1)) : J E nL kc ks r0 (some v) σ pc lv [.long v] := by
  intro h
  cases h
  exact g_lret C hq hd
theorem j_lret2 (C : CX E cc own nL rm) {v : Int64} {r0 : Int64 × Mem} (hq : QE E kc ks (some .long) (RQl r0.1 r0.2)) (hd : decode cc pc = .ok (.lreturn, 1)) : J E nL kc ks r0 (some (v, σ)) σ pc lv [.long v] := by
  intro h
  cases h
  exact g_lret C hq hd
theorem j_vret2 (C : CX E cc own nL rm) {r0 : Mem} (hq : QE E kc ks none (RQv r0)) (hd : decode cc pc = .ok (.return_, 1)) : J E nL kc ks r0 (some σ) σ pc lv [] := by
  intro h
  cases h
  exact g_vret C hq hd
theorem j_aret (C : CX E cc own nL rm) {rt : FieldType} {v r0 : Option Nat} (hrt : (∃ n, rt = FieldType.object n) ∨ ∃ t, rt = FieldType.array t) (hq : QE E kc ks (some rt) (RQq r0 σ)) (hd : decode cc pc = .ok (.areturn, 1)) : J E nL kc ks r0 (some v) σ pc lv [va_rf (v.map (eAd E))] := by
  intro h
  cases h
  exact g_aret C hrt hq hd
theorem good_V {idx : Nat} {y : MethodName} {bt : ByteArray} {n : Nat} {rt : Option FieldType} {own : String} (hlink : Cond.methodLink own idx y ∈ lw_g) (hinst : Cond.instanceMethod y ∈ lw_g) (hsel : Cond.selects y.cls y y ∈ lw_g) (hini : Cond.initialized y.cls ∈ lw_g) (hcode : Cond.code y bt n rt ∈ lw_g) : GoodIn lw_g (wsV own idx y.cls y (.code y bt n rt :: lw_g)) := by
  have h : ∀ w ∈ wsV own idx y.cls y (.code y bt n rt :: lw_g), w ∈ lw_g := List.forall_mem_cons.mpr ⟨hlink, List.forall_mem_cons.mpr ⟨hinst, List.forall_mem_cons.mpr ⟨hsel, List.forall_mem_cons.mpr ⟨hini, List.forall_mem_cons.mpr ⟨hcode, fun _ h => h⟩⟩⟩⟩⟩
  exact fun w hw => ⟨h w hw, lw_good w (h w hw)⟩
theorem good_S {idx : Nat} {y : MethodName} {bt : ByteArray} {n : Nat} {rt : Option FieldType} {own : String} (hlink : Cond.methodLink own idx y ∈ lw_g) (hst : Cond.static y ∈ lw_g) (hini : Cond.initialized y.cls ∈ lw_g) (hcode : Cond.code y bt n rt ∈ lw_g) : GoodIn lw_g (va_wsS own idx y (.code y bt n rt :: lw_g)) := by
  have h : ∀ w ∈ va_wsS own idx y (.code y bt n rt :: lw_g), w ∈ lw_g := List.forall_mem_cons.mpr ⟨hlink, List.forall_mem_cons.mpr ⟨hst, List.forall_mem_cons.mpr ⟨hini, List.forall_mem_cons.mpr ⟨hcode, fun _ h => h⟩⟩⟩⟩
  exact fun w hw => ⟨h w hw, lw_good w (h w hw)⟩
theorem good_N {y : MethodName} {bt : ByteArray} {n : Nat} {rt : Option FieldType} (hcode : Cond.code y bt n rt ∈ lw_g) : GoodIn lw_g (.code y bt n rt :: lw_g) := by
  have h : ∀ w ∈ (.code y bt n rt :: lw_g : List Cond), w ∈ lw_g := List.forall_mem_cons.mpr ⟨hcode, fun _ h => h⟩
  exact fun w hw => ⟨h w hw, lw_good w (h w hw)⟩
def isNest : Cond → Bool
  | .methodLinkNest .. => true
  | _ => false
theorem lw_nest_is : ∀ w ∈ lw_nest, isNest w = true := fun w h => List.all_eq_true.mp (show lw_nest.all isNest = true from rfl) w h
theorem NW.warm {s U : State} (hW : s.WarmedH U.vm) (hN : NW s) : NW U := by
  intro w hw
  have h := hN w hw
  have hz := lw_nest_is w hw
  cases w <;> first | (simp [isNest] at hz; done) | exact va_Nw.warmM hW h
theorem j_callVi (C : CX E cc own nL rm) {y : MethodName} {bt : ByteArray} {nL' idx : Nat} {rt : Option FieldType} {rm' : Room} {o ci : Nat} {fs : List Value} {cl : vw_C} (As : List Value) {σ' : Mem} {r : Int32} {stk : List Value} {b : Option ρ} (hct : CT E y bt nL' rt rm' (.ref (eAd E o) :: As) σ (RQi r σ')) (hlink : Cond.methodLink own idx y ∈ lw_g) (hinst : Cond.instanceMethod y ∈ lw_g) (hsel : Cond.selects y.cls y y ∈ lw_g) (hini : Cond.initialized y.cls ∈ lw_g) (hcode : Cond.code y bt nL' rt ∈ lw_g) (ho : o ∈ eIds E) (he : eEnt E o (σ.1 o) (σ.2 o) = .inr (ci, fs)) (hci : vwCl[ci]? = some cl) (hcl : cl.1 = y.cls) (hdd : y.cls ≠ "java/lang/invoke/MethodHandle" ∧ y.cls ≠ "java/lang/invoke/VarHandle" ∧ (parseMethodDescriptor y.desc).map (fun d => d.parameters.length) = some As.length) (hR_ : rm'.frames + 1 ≤ rm.frames ∧ 8 + (nL' + 11) + rm'.locals ≤ rm.locals) (hrm : rm'.cells = 0 ∧ rm'.slots = 0) (hkk : kc ≤ rm.cells ∧ ks ≤ rm.slots) (hst8 : (st.map fun v => v.category).sum ≤ 8) (hd : decode cc pc = .ok (.invokevirtual idx, 3)) (hstk : stk = As.reverse ++ .ref (eAd E o) :: st) (k : J E nL kc ks r0 b σ' (pc + 3) lv (.int r :: st)) : J E nL kc ks r0 b σ pc lv stk := by
  obtain ⟨p, l, e, R, s, m, args, below, meth, c, Q, A, D, tys, ids, ad, ent⟩ := E
  obtain ⟨hx, hb, hml, hown, hts, hK, hN, hR, hA, hlk, hAX⟩ := C
  intro h H locs ls hP hD hS hl
  subst hR
  subst hstk
  have hct : ∀ sz : Nat, Met l y (.code y bt nL' rt :: lw_g) rm' (va_Pc (.ref (ad o) :: As) (PX D tys ids ad ent σ sz)) (RQi r σ' D tys ids ad ent sz) 0 0 (AX ids ad sz) := hct
  have hF : ∀ q, AX ids ad H.size q → A q := wl_free hD (fun q hq => hA q (Nat.le_trans hS.1 hq))
  have hR' := hR_
  refine va_calli (va_runV (C := y.cls) (As := As) (rest := st) ⟨hx, hb, hml, hown, hts⟩ (hct H.size) (cwV As.length hts (good_V hlink hinst hsel hini hcode) rfl hrm.1 hrm.2 ⟨rfl, hdd⟩ hR') ⟨PX_blind, (by obtain ⟨q0, hq⟩ := wl_at (ad := ad) (ent := ent) σ ho; rw [show ent o (σ.1 o) (σ.2 o) = _ from he] at hq; rw [← hcl]; exact va_recv hK hP hci hq), fun U hU hW => ⟨rfl, by rw [hU], by rw [hU]; exact hP, va_K.moved hW.alike hK, NW.warm hW hN, wl_D hD (fun _ _ => trivial)⟩⟩ rfl rfl hl.1 rfl (lv_room hst8) hd hkk) hS (fun q _ hq => hF q hq) hF (fun r_ u t H1 locs1 ht hvm hw hB hz1 hk1 hS1 => ?_)
  obtain ⟨hP1, hK1, hD1⟩ := hB
  rw [ht] at hP1
  obtain ⟨rfl, rfl⟩ := hw
  exact k h H1 locs1 ls hP1 (wl_D hD (fun o ho => by obtain ⟨k0, hk0⟩ := wl_at (ad := ad) (ent := ent) σ ho; exact hD.2 k0 _ hk0)) hS1 hl
theorem j_callSi (C : CX E cc own nL rm) {y : MethodName} {bt : ByteArray} {nL' idx : Nat} {rt : Option FieldType} {rm' : Room} (As : List Value) {σ' : Mem} {r : Int32} {stk : List Value} {b : Option ρ} (hct : CT E y bt nL' rt rm' (As) σ (RQi r σ')) (hlink : Cond.methodLink own idx y ∈ lw_g) (hst : Cond.static y ∈ lw_g) (hini : Cond.initialized y.cls ∈ lw_g) (hcode : Cond.code y bt nL' rt ∈ lw_g) (hdd : y.cls ≠ "java/lang/invoke/MethodHandle" ∧ y.cls ≠ "java/lang/invoke/VarHandle" ∧ (parseMethodDescriptor y.desc).map (fun d => d.parameters.length) = some As.length) (hR_ : rm'.frames + 1 ≤ rm.frames ∧ 8 + (nL' + 11) + rm'.locals ≤ rm.locals) (hrm : rm'.cells = 0 ∧ rm'.slots = 0) (hkk : kc ≤ rm.cells ∧ ks ≤ rm.slots) (hst8 : (st.map fun v => v.category).sum ≤ 8) (hd : decode cc pc = .ok (.invokestatic idx, 3)) (hstk : stk = As.reverse ++ st) (k : J E nL kc ks r0 b σ' (pc + 3) lv (.int r :: st)) : J E nL kc ks r0 b σ pc lv stk := by
  obtain ⟨p, l, e, R, s, m, args, below, meth, c, Q, A, D, tys, ids, ad, ent⟩ := E
  obtain ⟨hx, hb, hml, hown, hts, hK, hN, hR, hA, hlk, hAX⟩ := C
  intro h H locs ls hP hD hS hl
  subst hR
  subst hstk
  have hct : ∀ sz : Nat, Met l y (.code y bt nL' rt :: lw_g) rm' (va_Pc (As) (PX D tys ids ad ent σ sz)) (RQi r σ' D tys ids ad ent sz) 0 0 (AX ids ad sz) := hct
  have hF : ∀ q, AX ids ad H.size q → A q := wl_free hD (fun q hq => hA q (Nat.le_trans hS.1 hq))
  have hR' := hR_
  refine va_calli (va_runS (As := As) (rest := st) ⟨hx, hb, hml, hown, hts⟩ (hct H.size) (va_cwS As.length hts (good_S hlink hst hini hcode) rfl hrm.1 hrm.2 hdd hR') ⟨PX_blind, fun U hU hW => ⟨rfl, by rw [hU], by rw [hU]; exact hP, va_K.moved hW.alike hK, NW.warm hW hN, wl_D hD (fun _ _ => trivial)⟩⟩ rfl rfl hl.1 rfl (lv_room hst8) hd hkk) hS (fun q _ hq => hF q hq) hF (fun r_ u t H1 locs1 ht hvm hw hB hz1 hk1 hS1 => ?_)
  obtain ⟨hP1, hK1, hD1⟩ := hB
  rw [ht] at hP1
  obtain ⟨rfl, rfl⟩ := hw
  exact k h H1 locs1 ls hP1 (wl_D hD (fun o ho => by obtain ⟨k0, hk0⟩ := wl_at (ad := ad) (ent := ent) σ ho; exact hD.2 k0 _ hk0)) hS1 hl
theorem j_callNi (C : CX E cc own nL rm) {y : MethodName} {bt : ByteArray} {nL' idx : Nat} {rt : Option FieldType} {rm' : Room} {host : String} (As : List Value) {σ' : Mem} {r : Int32} {stk : List Value} {b : Option ρ} (hct : CT E y bt nL' rt rm' (As) σ (RQi r σ')) (hlink : Cond.methodLinkNest own idx y host ∈ lw_nest) (hst : Cond.static y ∈ lw_g) (hini : Cond.initialized y.cls ∈ lw_g) (hcode : Cond.code y bt nL' rt ∈ lw_g) (hdd : y.cls ≠ "java/lang/invoke/MethodHandle" ∧ y.cls ≠ "java/lang/invoke/VarHandle" ∧ (parseMethodDescriptor y.desc).map (fun d => d.parameters.length) = some As.length) (hR_ : rm'.frames + 1 ≤ rm.frames ∧ 8 + (nL' + 11) + rm'.locals ≤ rm.locals) (hrm : rm'.cells = 0 ∧ rm'.slots = 0) (hkk : kc ≤ rm.cells ∧ ks ≤ rm.slots) (hst8 : (st.map fun v => v.category).sum ≤ 8) (hd : decode cc pc = .ok (.invokestatic idx, 3)) (hstk : stk = As.reverse ++ st) (k : J E nL kc ks r0 b σ' (pc + 3) lv (.int r :: st)) : J E nL kc ks r0 b σ pc lv stk := by
  obtain ⟨p, l, e, R, s, m, args, below, meth, c, Q, A, D, tys, ids, ad, ent⟩ := E
  obtain ⟨hx, hb, hml, hown, hts, hK, hN, hR, hA, hlk, hAX⟩ := C
  intro h H locs ls hP hD hS hl
  subst hR
  subst hstk
  have hct : ∀ sz : Nat, Met l y (.code y bt nL' rt :: lw_g) rm' (va_Pc (As) (PX D tys ids ad ent σ sz)) (RQi r σ' D tys ids ad ent sz) 0 0 (AX ids ad sz) := hct
  have hF : ∀ q, AX ids ad H.size q → A q := wl_free hD (fun q hq => hA q (Nat.le_trans hS.1 hq))
  have hR' := hR_
  refine va_calli (va_runSN (As := As) (rest := st) ⟨hx, hb, hml, hown, hts⟩ (hct H.size) ⟨va_cnB As.length hts (good_N hcode) rfl hrm.1 hrm.2 (hN _ hlink) (hts _ hini) hdd hR', hts _ hst, trivial⟩ ⟨PX_blind, fun U hU hW => ⟨rfl, by rw [hU], by rw [hU]; exact hP, va_K.moved hW.alike hK, NW.warm hW hN, wl_D hD (fun _ _ => trivial)⟩⟩ rfl rfl hl.1 rfl (lv_room hst8) hd hkk) hS (fun q _ hq => hF q hq) hF (fun r_ u t H1 locs1 ht hvm hw hB hz1 hk1 hS1 => ?_)
  obtain ⟨hP1, hK1, hD1⟩ := hB
  rw [ht] at hP1
  obtain ⟨rfl, rfl⟩ := hw
  exact k h H1 locs1 ls hP1 (wl_D hD (fun o ho => by obtain ⟨k0, hk0⟩ := wl_at (ad := ad) (ent := ent) σ ho; exact hD.2 k0 _ hk0)) hS1 hl
theorem j_callVl (C : CX E cc own nL rm) {y : MethodName} {bt : ByteArray} {nL' idx : Nat} {rt : Option FieldType} {rm' : Room} {o ci : Nat} {fs : List Value} {cl : vw_C} (As : List Value) {σ' : Mem} {r : Int64} {stk : List Value} {b : Option ρ} (hct : CT E y bt nL' rt rm' (.ref (eAd E o) :: As) σ (RQl r σ')) (hlink : Cond.methodLink own idx y ∈ lw_g) (hinst : Cond.instanceMethod y ∈ lw_g) (hsel : Cond.selects y.cls y y ∈ lw_g) (hini : Cond.initialized y.cls ∈ lw_g) (hcode : Cond.code y bt nL' rt ∈ lw_g) (ho : o ∈ eIds E) (he : eEnt E o (σ.1 o) (σ.2 o) = .inr (ci, fs)) (hci : vwCl[ci]? = some cl) (hcl : cl.1 = y.cls) (hdd : y.cls ≠ "java/lang/invoke/MethodHandle" ∧ y.cls ≠ "java/lang/invoke/VarHandle" ∧ (parseMethodDescriptor y.desc).map (fun d => d.parameters.length) = some As.length) (hR_ : rm'.frames + 1 ≤ rm.frames ∧ 8 + (nL' + 11) + rm'.locals ≤ rm.locals) (hrm : rm'.cells = 0 ∧ rm'.slots = 0) (hkk : kc ≤ rm.cells ∧ ks ≤ rm.slots) (hst8 : (st.map fun v => v.category).sum ≤ 8) (hd : decode cc pc = .ok (.invokevirtual idx, 3)) (hstk : stk = As.reverse ++ .ref (eAd E o) :: st) (k : J E nL kc ks r0 b σ' (pc + 3) lv (.long r :: st)) : J E nL kc ks r0 b σ pc lv stk := by
  obtain ⟨p, l, e, R, s, m, args, below, meth, c, Q, A, D, tys, ids, ad, ent⟩ := E
  obtain ⟨hx, hb, hml, hown, hts, hK, hN, hR, hA, hlk, hAX⟩ := C
  intro h H locs ls hP hD hS hl
  subst hR
  subst hstk
  have hct : ∀ sz : Nat, Met l y (.code y bt nL' rt :: lw_g) rm' (va_Pc (.ref (ad o) :: As) (PX D tys ids ad ent σ sz)) (RQl r σ' D tys ids ad ent sz) 0 0 (AX ids ad sz) := hct
  have hF : ∀ q, AX ids ad H.size q → A q := wl_free hD (fun q hq => hA q (Nat.le_trans hS.1 hq))
  have hR' := hR_
  refine va_calll (va_runV (C := y.cls) (As := As) (rest := st) ⟨hx, hb, hml, hown, hts⟩ (hct H.size) (cwV As.length hts (good_V hlink hinst hsel hini hcode) rfl hrm.1 hrm.2 ⟨rfl, hdd⟩ hR') ⟨PX_blind, (by obtain ⟨q0, hq⟩ := wl_at (ad := ad) (ent := ent) σ ho; rw [show ent o (σ.1 o) (σ.2 o) = _ from he] at hq; rw [← hcl]; exact va_recv hK hP hci hq), fun U hU hW => ⟨rfl, by rw [hU], by rw [hU]; exact hP, va_K.moved hW.alike hK, NW.warm hW hN, wl_D hD (fun _ _ => trivial)⟩⟩ rfl rfl hl.1 rfl (lv_room hst8) hd hkk) hS (fun q _ hq => hF q hq) hF (fun r_ u t H1 locs1 ht hvm hw hB hz1 hk1 hS1 => ?_)
  obtain ⟨hP1, hK1, hD1⟩ := hB
  rw [ht] at hP1
  obtain ⟨rfl, rfl⟩ := hw
  exact k h H1 locs1 ls hP1 (wl_D hD (fun o ho => by obtain ⟨k0, hk0⟩ := wl_at (ad := ad) (ent := ent) σ ho; exact hD.2 k0 _ hk0)) hS1 hl
theorem j_callSl (C : CX E cc own nL rm) {y : MethodName} {bt : ByteArray} {nL' idx : Nat} {rt : Option FieldType} {rm' : Room} (As : List Value) {σ' : Mem} {r : Int64} {stk : List Value} {b : Option ρ} (hct : CT E y bt nL' rt rm' (As) σ (RQl r σ')) (hlink : Cond.methodLink own idx y ∈ lw_g) (hst : Cond.static y ∈ lw_g) (hini : Cond.initialized y.cls ∈ lw_g) (hcode : Cond.code y bt nL' rt ∈ lw_g) (hdd : y.cls ≠ "java/lang/invoke/MethodHandle" ∧ y.cls ≠ "java/lang/invoke/VarHandle" ∧ (parseMethodDescriptor y.desc).map (fun d => d.parameters.length) = some As.length) (hR_ : rm'.frames + 1 ≤ rm.frames ∧ 8 + (nL' + 11) + rm'.locals ≤ rm.locals) (hrm : rm'.cells = 0 ∧ rm'.slots = 0) (hkk : kc ≤ rm.cells ∧ ks ≤ rm.slots) (hst8 : (st.map fun v => v.category).sum ≤ 8) (hd : decode cc pc = .ok (.invokestatic idx, 3)) (hstk : stk = As.reverse ++ st) (k : J E nL kc ks r0 b σ' (pc + 3) lv (.long r :: st)) : J E nL kc ks r0 b σ pc lv stk := by
  obtain ⟨p, l, e, R, s, m, args, below, meth, c, Q, A, D, tys, ids, ad, ent⟩ := E
  obtain ⟨hx, hb, hml, hown, hts, hK, hN, hR, hA, hlk, hAX⟩ := C
  intro h H locs ls hP hD hS hl
  subst hR
  subst hstk
  have hct : ∀ sz : Nat, Met l y (.code y bt nL' rt :: lw_g) rm' (va_Pc (As) (PX D tys ids ad ent σ sz)) (RQl r σ' D tys ids ad ent sz) 0 0 (AX ids ad sz) := hct
  have hF : ∀ q, AX ids ad H.size q → A q := wl_free hD (fun q hq => hA q (Nat.le_trans hS.1 hq))
  have hR' := hR_
  refine va_calll (va_runS (As := As) (rest := st) ⟨hx, hb, hml, hown, hts⟩ (hct H.size) (va_cwS As.length hts (good_S hlink hst hini hcode) rfl hrm.1 hrm.2 hdd hR') ⟨PX_blind, fun U hU hW => ⟨rfl, by rw [hU], by rw [hU]; exact hP, va_K.moved hW.alike hK, NW.warm hW hN, wl_D hD (fun _ _ => trivial)⟩⟩ rfl rfl hl.1 rfl (lv_room hst8) hd hkk) hS (fun q _ hq => hF q hq) hF (fun r_ u t H1 locs1 ht hvm hw hB hz1 hk1 hS1 => ?_)
  obtain ⟨hP1, hK1, hD1⟩ := hB
  rw [ht] at hP1
  obtain ⟨rfl, rfl⟩ := hw
  exact k h H1 locs1 ls hP1 (wl_D hD (fun o ho => by obtain ⟨k0, hk0⟩ := wl_at (ad := ad) (ent := ent) σ ho; exact hD.2 k0 _ hk0)) hS1 hl
theorem j_callNl (C : CX E cc own nL rm) {y : MethodName} {bt : ByteArray} {nL' idx : Nat} {rt : Option FieldType} {rm' : Room} {host : String} (As : List Value) {σ' : Mem} {r : Int64} {stk : List Value} {b : Option ρ} (hct : CT E y bt nL' rt rm' (As) σ (RQl r σ')) (hlink : Cond.methodLinkNest own idx y host ∈ lw_nest) (hst : Cond.static y ∈ lw_g) (hini : Cond.initialized y.cls ∈ lw_g) (hcode : Cond.code y bt nL' rt ∈ lw_g) (hdd : y.cls ≠ "java/lang/invoke/MethodHandle" ∧ y.cls ≠ "java/lang/invoke/VarHandle" ∧ (parseMethodDescriptor y.desc).map (fun d => d.parameters.length) = some As.length) (hR_ : rm'.frames + 1 ≤ rm.frames ∧ 8 + (nL' + 11) + rm'.locals ≤ rm.locals) (hrm : rm'.cells = 0 ∧ rm'.slots = 0) (hkk : kc ≤ rm.cells ∧ ks ≤ rm.slots) (hst8 : (st.map fun v => v.category).sum ≤ 8) (hd : decode cc pc = .ok (.invokestatic idx, 3)) (hstk : stk = As.reverse ++ st) (k : J E nL kc ks r0 b σ' (pc + 3) lv (.long r :: st)) : J E nL kc ks r0 b σ pc lv stk := by
  obtain ⟨p, l, e, R, s, m, args, below, meth, c, Q, A, D, tys, ids, ad, ent⟩ := E
  obtain ⟨hx, hb, hml, hown, hts, hK, hN, hR, hA, hlk, hAX⟩ := C
  intro h H locs ls hP hD hS hl
  subst hR
  subst hstk
  have hct : ∀ sz : Nat, Met l y (.code y bt nL' rt :: lw_g) rm' (va_Pc (As) (PX D tys ids ad ent σ sz)) (RQl r σ' D tys ids ad ent sz) 0 0 (AX ids ad sz) := hct
  have hF : ∀ q, AX ids ad H.size q → A q := wl_free hD (fun q hq => hA q (Nat.le_trans hS.1 hq))
  have hR' := hR_
  refine va_calll (va_runSN (As := As) (rest := st) ⟨hx, hb, hml, hown, hts⟩ (hct H.size) ⟨va_cnB As.length hts (good_N hcode) rfl hrm.1 hrm.2 (hN _ hlink) (hts _ hini) hdd hR', hts _ hst, trivial⟩ ⟨PX_blind, fun U hU hW => ⟨rfl, by rw [hU], by rw [hU]; exact hP, va_K.moved hW.alike hK, NW.warm hW hN, wl_D hD (fun _ _ => trivial)⟩⟩ rfl rfl hl.1 rfl (lv_room hst8) hd hkk) hS (fun q _ hq => hF q hq) hF (fun r_ u t H1 locs1 ht hvm hw hB hz1 hk1 hS1 => ?_)
  obtain ⟨hP1, hK1, hD1⟩ := hB
  rw [ht] at hP1
  obtain ⟨rfl, rfl⟩ := hw
  exact k h H1 locs1 ls hP1 (wl_D hD (fun o ho => by obtain ⟨k0, hk0⟩ := wl_at (ad := ad) (ent := ent) σ ho; exact hD.2 k0 _ hk0)) hS1 hl
theorem j_callVv (C : CX E cc own nL rm) {y : MethodName} {bt : ByteArray} {nL' idx : Nat} {rt : Option FieldType} {rm' : Room} {o ci : Nat} {fs : List Value} {cl : vw_C} (As : List Value) {σ' : Mem}  {stk : List Value} {b : Option ρ} (hct : CT E y bt nL' rt rm' (.ref (eAd E o) :: As) σ (RQv σ')) (hlink : Cond.methodLink own idx y ∈ lw_g) (hinst : Cond.instanceMethod y ∈ lw_g) (hsel : Cond.selects y.cls y y ∈ lw_g) (hini : Cond.initialized y.cls ∈ lw_g) (hcode : Cond.code y bt nL' rt ∈ lw_g) (ho : o ∈ eIds E) (he : eEnt E o (σ.1 o) (σ.2 o) = .inr (ci, fs)) (hci : vwCl[ci]? = some cl) (hcl : cl.1 = y.cls) (hdd : y.cls ≠ "java/lang/invoke/MethodHandle" ∧ y.cls ≠ "java/lang/invoke/VarHandle" ∧ (parseMethodDescriptor y.desc).map (fun d => d.parameters.length) = some As.length) (hR_ : rm'.frames + 1 ≤ rm.frames ∧ 8 + (nL' + 11) + rm'.locals ≤ rm.locals) (hrm : rm'.cells = 0 ∧ rm'.slots = 0) (hkk : kc ≤ rm.cells ∧ ks ≤ rm.slots) (hst8 : (st.map fun v => v.category).sum ≤ 8) (hd : decode cc pc = .ok (.invokevirtual idx, 3)) (hstk : stk = As.reverse ++ .ref (eAd E o) :: st) (k : J E nL kc ks r0 b σ' (pc + 3) lv (st)) : J E nL kc ks r0 b σ pc lv stk := by
  obtain ⟨p, l, e, R, s, m, args, below, meth, c, Q, A, D, tys, ids, ad, ent⟩ := E
  obtain ⟨hx, hb, hml, hown, hts, hK, hN, hR, hA, hlk, hAX⟩ := C
  intro h H locs ls hP hD hS hl
  subst hR
  subst hstk
  have hct : ∀ sz : Nat, Met l y (.code y bt nL' rt :: lw_g) rm' (va_Pc (.ref (ad o) :: As) (PX D tys ids ad ent σ sz)) (RQv σ' D tys ids ad ent sz) 0 0 (AX ids ad sz) := hct
  have hF : ∀ q, AX ids ad H.size q → A q := wl_free hD (fun q hq => hA q (Nat.le_trans hS.1 hq))
  have hR' := hR_
  refine va_callv (va_runV (C := y.cls) (As := As) (rest := st) ⟨hx, hb, hml, hown, hts⟩ (hct H.size) (cwV As.length hts (good_V hlink hinst hsel hini hcode) rfl hrm.1 hrm.2 ⟨rfl, hdd⟩ hR') ⟨PX_blind, (by obtain ⟨q0, hq⟩ := wl_at (ad := ad) (ent := ent) σ ho; rw [show ent o (σ.1 o) (σ.2 o) = _ from he] at hq; rw [← hcl]; exact va_recv hK hP hci hq), fun U hU hW => ⟨rfl, by rw [hU], by rw [hU]; exact hP, va_K.moved hW.alike hK, NW.warm hW hN, wl_D hD (fun _ _ => trivial)⟩⟩ rfl rfl hl.1 rfl (lv_room hst8) hd hkk) hS (fun q _ hq => hF q hq) hF (fun u t H1 locs1 ht hvm hw hB hz1 hk1 hS1 => ?_)
  obtain ⟨hP1, hK1, hD1⟩ := hB
  rw [ht] at hP1
  have hw : u = σ' := hw
  subst hw
  exact k h H1 locs1 ls hP1 (wl_D hD (fun o ho => by obtain ⟨k0, hk0⟩ := wl_at (ad := ad) (ent := ent) σ ho; exact hD.2 k0 _ hk0)) hS1 hl
theorem j_callSv (C : CX E cc own nL rm) {y : MethodName} {bt : ByteArray} {nL' idx : Nat} {rt : Option FieldType} {rm' : Room} (As : List Value) {σ' : Mem}  {stk : List Value} {b : Option ρ} (hct : CT E y bt nL' rt rm' (As) σ (RQv σ')) (hlink : Cond.methodLink own idx y ∈ lw_g) (hst : Cond.static y ∈ lw_g) (hini : Cond.initialized y.cls ∈ lw_g) (hcode : Cond.code y bt nL' rt ∈ lw_g) (hdd : y.cls ≠ "java/lang/invoke/MethodHandle" ∧ y.cls ≠ "java/lang/invoke/VarHandle" ∧ (parseMethodDescriptor y.desc).map (fun d => d.parameters.length) = some As.length) (hR_ : rm'.frames + 1 ≤ rm.frames ∧ 8 + (nL' + 11) + rm'.locals ≤ rm.locals) (hrm : rm'.cells = 0 ∧ rm'.slots = 0) (hkk : kc ≤ rm.cells ∧ ks ≤ rm.slots) (hst8 : (st.map fun v => v.category).sum ≤ 8) (hd : decode cc pc = .ok (.invokestatic idx, 3)) (hstk : stk = As.reverse ++ st) (k : J E nL kc ks r0 b σ' (pc + 3) lv (st)) : J E nL kc ks r0 b σ pc lv stk := by
  obtain ⟨p, l, e, R, s, m, args, below, meth, c, Q, A, D, tys, ids, ad, ent⟩ := E
  obtain ⟨hx, hb, hml, hown, hts, hK, hN, hR, hA, hlk, hAX⟩ := C
  intro h H locs ls hP hD hS hl
  subst hR
  subst hstk
  have hct : ∀ sz : Nat, Met l y (.code y bt nL' rt :: lw_g) rm' (va_Pc (As) (PX D tys ids ad ent σ sz)) (RQv σ' D tys ids ad ent sz) 0 0 (AX ids ad sz) := hct
  have hF : ∀ q, AX ids ad H.size q → A q := wl_free hD (fun q hq => hA q (Nat.le_trans hS.1 hq))
  have hR' := hR_
  refine va_callv (va_runS (As := As) (rest := st) ⟨hx, hb, hml, hown, hts⟩ (hct H.size) (va_cwS As.length hts (good_S hlink hst hini hcode) rfl hrm.1 hrm.2 hdd hR') ⟨PX_blind, fun U hU hW => ⟨rfl, by rw [hU], by rw [hU]; exact hP, va_K.moved hW.alike hK, NW.warm hW hN, wl_D hD (fun _ _ => trivial)⟩⟩ rfl rfl hl.1 rfl (lv_room hst8) hd hkk) hS (fun q _ hq => hF q hq) hF (fun u t H1 locs1 ht hvm hw hB hz1 hk1 hS1 => ?_)
  obtain ⟨hP1, hK1, hD1⟩ := hB
  rw [ht] at hP1
  have hw : u = σ' := hw
  subst hw
  exact k h H1 locs1 ls hP1 (wl_D hD (fun o ho => by obtain ⟨k0, hk0⟩ := wl_at (ad := ad) (ent := ent) σ ho; exact hD.2 k0 _ hk0)) hS1 hl
theorem j_callNv (C : CX E cc own nL rm) {y : MethodName} {bt : ByteArray} {nL' idx : Nat} {rt : Option FieldType} {rm' : Room} {host : String} (As : List Value) {σ' : Mem}  {stk : List Value} {b : Option ρ} (hct : CT E y bt nL' rt rm' (As) σ (RQv σ')) (hlink : Cond.methodLinkNest own idx y host ∈ lw_nest) (hst : Cond.static y ∈ lw_g) (hini : Cond.initialized y.cls ∈ lw_g) (hcode : Cond.code y bt nL' rt ∈ lw_g) (hdd : y.cls ≠ "java/lang/invoke/MethodHandle" ∧ y.cls ≠ "java/lang/invoke/VarHandle" ∧ (parseMethodDescriptor y.desc).map (fun d => d.parameters.length) = some As.length) (hR_ : rm'.frames + 1 ≤ rm.frames ∧ 8 + (nL' + 11) + rm'.locals ≤ rm.locals) (hrm : rm'.cells = 0 ∧ rm'.slots = 0) (hkk : kc ≤ rm.cells ∧ ks ≤ rm.slots) (hst8 : (st.map fun v => v.category).sum ≤ 8) (hd : decode cc pc = .ok (.invokestatic idx, 3)) (hstk : stk = As.reverse ++ st) (k : J E nL kc ks r0 b σ' (pc + 3) lv (st)) : J E nL kc ks r0 b σ pc lv stk := by
  obtain ⟨p, l, e, R, s, m, args, below, meth, c, Q, A, D, tys, ids, ad, ent⟩ := E
  obtain ⟨hx, hb, hml, hown, hts, hK, hN, hR, hA, hlk, hAX⟩ := C
  intro h H locs ls hP hD hS hl
  subst hR
  subst hstk
  have hct : ∀ sz : Nat, Met l y (.code y bt nL' rt :: lw_g) rm' (va_Pc (As) (PX D tys ids ad ent σ sz)) (RQv σ' D tys ids ad ent sz) 0 0 (AX ids ad sz) := hct
  have hF : ∀ q, AX ids ad H.size q → A q := wl_free hD (fun q hq => hA q (Nat.le_trans hS.1 hq))
  have hR' := hR_
  refine va_callv (va_runSN (As := As) (rest := st) ⟨hx, hb, hml, hown, hts⟩ (hct H.size) ⟨va_cnB As.length hts (good_N hcode) rfl hrm.1 hrm.2 (hN _ hlink) (hts _ hini) hdd hR', hts _ hst, trivial⟩ ⟨PX_blind, fun U hU hW => ⟨rfl, by rw [hU], by rw [hU]; exact hP, va_K.moved hW.alike hK, NW.warm hW hN, wl_D hD (fun _ _ => trivial)⟩⟩ rfl rfl hl.1 rfl (lv_room hst8) hd hkk) hS (fun q _ hq => hF q hq) hF (fun u t H1 locs1 ht hvm hw hB hz1 hk1 hS1 => ?_)
  obtain ⟨hP1, hK1, hD1⟩ := hB
  rw [ht] at hP1
  have hw : u = σ' := hw
  subst hw
  exact k h H1 locs1 ls hP1 (wl_D hD (fun o ho => by obtain ⟨k0, hk0⟩ := wl_at (ad := ad) (ent := ent) σ ho; exact hD.2 k0 _ hk0)) hS1 hl
theorem j_callVq (C : CX E cc own nL rm) {y : MethodName} {bt : ByteArray} {nL' idx : Nat} {rt : Option FieldType} {rm' : Room} {o ci : Nat} {fs : List Value} {cl : vw_C} (As : List Value) {σ' : Mem} {r : Option Nat} {stk : List Value} {b : Option ρ} (hct : CT E y bt nL' rt rm' (.ref (eAd E o) :: As) σ (RQq r σ')) (hlink : Cond.methodLink own idx y ∈ lw_g) (hinst : Cond.instanceMethod y ∈ lw_g) (hsel : Cond.selects y.cls y y ∈ lw_g) (hini : Cond.initialized y.cls ∈ lw_g) (hcode : Cond.code y bt nL' rt ∈ lw_g) (ho : o ∈ eIds E) (he : eEnt E o (σ.1 o) (σ.2 o) = .inr (ci, fs)) (hci : vwCl[ci]? = some cl) (hcl : cl.1 = y.cls) (hdd : y.cls ≠ "java/lang/invoke/MethodHandle" ∧ y.cls ≠ "java/lang/invoke/VarHandle" ∧ (parseMethodDescriptor y.desc).map (fun d => d.parameters.length) = some As.length) (hR_ : rm'.frames + 1 ≤ rm.frames ∧ 8 + (nL' + 11) + rm'.locals ≤ rm.locals) (hrm : rm'.cells = 0 ∧ rm'.slots = 0) (hkk : kc ≤ rm.cells ∧ ks ≤ rm.slots) (hst8 : (st.map fun v => v.category).sum ≤ 8) (hd : decode cc pc = .ok (.invokevirtual idx, 3)) (hstk : stk = As.reverse ++ .ref (eAd E o) :: st) (k : J E nL kc ks r0 b σ' (pc + 3) lv (va_rf (r.map (eAd E)) :: st)) : J E nL kc ks r0 b σ pc lv stk := by
  obtain ⟨p, l, e, R, s, m, args, below, meth, c, Q, A, D, tys, ids, ad, ent⟩ := E
  obtain ⟨hx, hb, hml, hown, hts, hK, hN, hR, hA, hlk, hAX⟩ := C
  intro h H locs ls hP hD hS hl
  subst hR
  subst hstk
  have hct : ∀ sz : Nat, Met l y (.code y bt nL' rt :: lw_g) rm' (va_Pc (.ref (ad o) :: As) (PX D tys ids ad ent σ sz)) (RQq r σ' D tys ids ad ent sz) 0 0 (AX ids ad sz) := hct
  have hF : ∀ q, AX ids ad H.size q → A q := wl_free hD (fun q hq => hA q (Nat.le_trans hS.1 hq))
  have hR' := hR_
  refine va_callq (va_runV (C := y.cls) (As := As) (rest := st) ⟨hx, hb, hml, hown, hts⟩ (hct H.size) (cwV As.length hts (good_V hlink hinst hsel hini hcode) rfl hrm.1 hrm.2 ⟨rfl, hdd⟩ hR') ⟨PX_blind, (by obtain ⟨q0, hq⟩ := wl_at (ad := ad) (ent := ent) σ ho; rw [show ent o (σ.1 o) (σ.2 o) = _ from he] at hq; rw [← hcl]; exact va_recv hK hP hci hq), fun U hU hW => ⟨rfl, by rw [hU], by rw [hU]; exact hP, va_K.moved hW.alike hK, NW.warm hW hN, wl_D hD (fun _ _ => trivial)⟩⟩ rfl rfl hl.1 rfl (lv_room hst8) hd hkk) hS (fun q _ hq => hF q hq) hF (fun r_ u t H1 locs1 ht hvm hw hB hz1 hk1 hS1 => ?_)
  obtain ⟨hP1, hK1, hD1⟩ := hB
  rw [ht] at hP1
  obtain ⟨rfl, rfl⟩ := hw
  exact k h H1 locs1 ls hP1 (wl_D hD (fun o ho => by obtain ⟨k0, hk0⟩ := wl_at (ad := ad) (ent := ent) σ ho; exact hD.2 k0 _ hk0)) hS1 hl
theorem j_callSq (C : CX E cc own nL rm) {y : MethodName} {bt : ByteArray} {nL' idx : Nat} {rt : Option FieldType} {rm' : Room} (As : List Value) {σ' : Mem} {r : Option Nat} {stk : List Value} {b : Option ρ} (hct : CT E y bt nL' rt rm' (As) σ (RQq r σ')) (hlink : Cond.methodLink own idx y ∈ lw_g) (hst : Cond.static y ∈ lw_g) (hini : Cond.initialized y.cls ∈ lw_g) (hcode : Cond.code y bt nL' rt ∈ lw_g) (hdd : y.cls ≠ "java/lang/invoke/MethodHandle" ∧ y.cls ≠ "java/lang/invoke/VarHandle" ∧ (parseMethodDescriptor y.desc).map (fun d => d.parameters.length) = some As.length) (hR_ : rm'.frames + 1 ≤ rm.frames ∧ 8 + (nL' + 11) + rm'.locals ≤ rm.locals) (hrm : rm'.cells = 0 ∧ rm'.slots = 0) (hkk : kc ≤ rm.cells ∧ ks ≤ rm.slots) (hst8 : (st.map fun v => v.category).sum ≤ 8) (hd : decode cc pc = .ok (.invokestatic idx, 3)) (hstk : stk = As.reverse ++ st) (k : J E nL kc ks r0 b σ' (pc + 3) lv (va_rf (r.map (eAd E)) :: st)) : J E nL kc ks r0 b σ pc lv stk := by
  obtain ⟨p, l, e, R, s, m, args, below, meth, c, Q, A, D, tys, ids, ad, ent⟩ := E
  obtain ⟨hx, hb, hml, hown, hts, hK, hN, hR, hA, hlk, hAX⟩ := C
  intro h H locs ls hP hD hS hl
  subst hR
  subst hstk
  have hct : ∀ sz : Nat, Met l y (.code y bt nL' rt :: lw_g) rm' (va_Pc (As) (PX D tys ids ad ent σ sz)) (RQq r σ' D tys ids ad ent sz) 0 0 (AX ids ad sz) := hct
  have hF : ∀ q, AX ids ad H.size q → A q := wl_free hD (fun q hq => hA q (Nat.le_trans hS.1 hq))
  have hR' := hR_
  refine va_callq (va_runS (As := As) (rest := st) ⟨hx, hb, hml, hown, hts⟩ (hct H.size) (va_cwS As.length hts (good_S hlink hst hini hcode) rfl hrm.1 hrm.2 hdd hR') ⟨PX_blind, fun U hU hW => ⟨rfl, by rw [hU], by rw [hU]; exact hP, va_K.moved hW.alike hK, NW.warm hW hN, wl_D hD (fun _ _ => trivial)⟩⟩ rfl rfl hl.1 rfl (lv_room hst8) hd hkk) hS (fun q _ hq => hF q hq) hF (fun r_ u t H1 locs1 ht hvm hw hB hz1 hk1 hS1 => ?_)
  obtain ⟨hP1, hK1, hD1⟩ := hB
  rw [ht] at hP1
  obtain ⟨rfl, rfl⟩ := hw
  exact k h H1 locs1 ls hP1 (wl_D hD (fun o ho => by obtain ⟨k0, hk0⟩ := wl_at (ad := ad) (ent := ent) σ ho; exact hD.2 k0 _ hk0)) hS1 hl
theorem j_callNq (C : CX E cc own nL rm) {y : MethodName} {bt : ByteArray} {nL' idx : Nat} {rt : Option FieldType} {rm' : Room} {host : String} (As : List Value) {σ' : Mem} {r : Option Nat} {stk : List Value} {b : Option ρ} (hct : CT E y bt nL' rt rm' (As) σ (RQq r σ')) (hlink : Cond.methodLinkNest own idx y host ∈ lw_nest) (hst : Cond.static y ∈ lw_g) (hini : Cond.initialized y.cls ∈ lw_g) (hcode : Cond.code y bt nL' rt ∈ lw_g) (hdd : y.cls ≠ "java/lang/invoke/MethodHandle" ∧ y.cls ≠ "java/lang/invoke/VarHandle" ∧ (parseMethodDescriptor y.desc).map (fun d => d.parameters.length) = some As.length) (hR_ : rm'.frames + 1 ≤ rm.frames ∧ 8 + (nL' + 11) + rm'.locals ≤ rm.locals) (hrm : rm'.cells = 0 ∧ rm'.slots = 0) (hkk : kc ≤ rm.cells ∧ ks ≤ rm.slots) (hst8 : (st.map fun v => v.category).sum ≤ 8) (hd : decode cc pc = .ok (.invokestatic idx, 3)) (hstk : stk = As.reverse ++ st) (k : J E nL kc ks r0 b σ' (pc + 3) lv (va_rf (r.map (eAd E)) :: st)) : J E nL kc ks r0 b σ pc lv stk := by
  obtain ⟨p, l, e, R, s, m, args, below, meth, c, Q, A, D, tys, ids, ad, ent⟩ := E
  obtain ⟨hx, hb, hml, hown, hts, hK, hN, hR, hA, hlk, hAX⟩ := C
  intro h H locs ls hP hD hS hl
  subst hR
  subst hstk
  have hct : ∀ sz : Nat, Met l y (.code y bt nL' rt :: lw_g) rm' (va_Pc (As) (PX D tys ids ad ent σ sz)) (RQq r σ' D tys ids ad ent sz) 0 0 (AX ids ad sz) := hct
  have hF : ∀ q, AX ids ad H.size q → A q := wl_free hD (fun q hq => hA q (Nat.le_trans hS.1 hq))
  have hR' := hR_
  refine va_callq (va_runSN (As := As) (rest := st) ⟨hx, hb, hml, hown, hts⟩ (hct H.size) ⟨va_cnB As.length hts (good_N hcode) rfl hrm.1 hrm.2 (hN _ hlink) (hts _ hini) hdd hR', hts _ hst, trivial⟩ ⟨PX_blind, fun U hU hW => ⟨rfl, by rw [hU], by rw [hU]; exact hP, va_K.moved hW.alike hK, NW.warm hW hN, wl_D hD (fun _ _ => trivial)⟩⟩ rfl rfl hl.1 rfl (lv_room hst8) hd hkk) hS (fun q _ hq => hF q hq) hF (fun r_ u t H1 locs1 ht hvm hw hB hz1 hk1 hS1 => ?_)
  obtain ⟨hP1, hK1, hD1⟩ := hB
  rw [ht] at hP1
  obtain ⟨rfl, rfl⟩ := hw
  exact k h H1 locs1 ls hP1 (wl_D hD (fun o ho => by obtain ⟨k0, hk0⟩ := wl_at (ad := ad) (ent := ent) σ ho; exact hD.2 k0 _ hk0)) hS1 hl
theorem j_mmax (C : CX E cc own nL rm) {idx : Nat} {x y : Int32} {b : Option ρ} (hlink : Cond.methodLink own idx Lib.Math.max.name ∈ lw_g) (hstat : Cond.static Lib.Math.max.name ∈ lw_g) (hini : Cond.initialized "java/lang/Math" ∈ lw_g) (hcode : Cond.code Lib.Math.max.name Lib.Math.max.code 2 (some .int) ∈ lw_g) (hfr : 1 ≤ rm.frames) (hlo : (st.map fun v => v.category).sum + 13 ≤ rm.locals) (hkk : kc ≤ rm.cells ∧ ks ≤ rm.slots) (hd : decode cc pc = .ok (.invokestatic idx, 3)) (k : J E nL kc ks r0 b σ (pc + 3) lv (.int (if x < y then y else x) :: st)) : J E nL kc ks r0 b σ pc lv (.int y :: .int x :: st) := by
  obtain ⟨p, l, e, R, s, m, args, below, meth, c, Q, A, D, tys, ids, ad, ent⟩ := E
  obtain ⟨hx, hb, hml, hown, hts, hK, hN, hR, hA, hlk, hAX⟩ := C
  intro h H locs ls hP hD hS hl
  subst hR
  exact va_mmax hx hb (hml.trans hl.1.symm) hown (hts _ hlink) (hts _ hstat) (hts _ hini) (hts _ hcode) hfr hlo hkk.1 hkk.2 hd (k h H locs ls hP hD hS hl)
theorem j_mmin (C : CX E cc own nL rm) {idx : Nat} {x y : Int32} {b : Option ρ} (hlink : Cond.methodLink own idx Lib.Math.min.name ∈ lw_g) (hstat : Cond.static Lib.Math.min.name ∈ lw_g) (hini : Cond.initialized "java/lang/Math" ∈ lw_g) (hcode : Cond.code Lib.Math.min.name Lib.Math.min.code 2 (some .int) ∈ lw_g) (hfr : 1 ≤ rm.frames) (hlo : (st.map fun v => v.category).sum + 13 ≤ rm.locals) (hkk : kc ≤ rm.cells ∧ ks ≤ rm.slots) (hd : decode cc pc = .ok (.invokestatic idx, 3)) (k : J E nL kc ks r0 b σ (pc + 3) lv (.int (if y < x then y else x) :: st)) : J E nL kc ks r0 b σ pc lv (.int y :: .int x :: st) := by
  obtain ⟨p, l, e, R, s, m, args, below, meth, c, Q, A, D, tys, ids, ad, ent⟩ := E
  obtain ⟨hx, hb, hml, hown, hts, hK, hN, hR, hA, hlk, hAX⟩ := C
  intro h H locs ls hP hD hS hl
  subst hR
  exact va_mmin hx hb (hml.trans hl.1.symm) hown (hts _ hlink) (hts _ hstat) (hts _ hini) (hts _ hcode) hfr hlo hkk.1 hkk.2 hd (k h H locs ls hP hD hS hl)
theorem j_mmaxl (C : CX E cc own nL rm) {idx : Nat} {x y : Int64} {b : Option ρ} (hlink : Cond.methodLink own idx Lib.MathLoose.max_long.x ∈ lw_g) (hstat : Cond.static Lib.MathLoose.max_long.x ∈ lw_g) (hini : Cond.initialized "java/lang/Math" ∈ lw_g) (hcode : Cond.code Lib.MathLoose.max_long.x Lib.MathLoose.max_long.code 4 (some .long) ∈ lw_g) (hfr : 1 ≤ rm.frames) (hlo : (st.map fun v => v.category).sum + 15 ≤ rm.locals) (hkk : kc ≤ rm.cells ∧ ks ≤ rm.slots) (hd : decode cc pc = .ok (.invokestatic idx, 3)) (k : J E nL kc ks r0 b σ (pc + 3) lv (.long (if y < x then x else y) :: st)) : J E nL kc ks r0 b σ pc lv (.long y :: .long x :: st) := by
  obtain ⟨p, l, e, R, s, m, args, below, meth, c, Q, A, D, tys, ids, ad, ent⟩ := E
  obtain ⟨hx, hb, hml, hown, hts, hK, hN, hR, hA, hlk, hAX⟩ := C
  intro h H locs ls hP hD hS hl
  subst hR
  exact va_mmax_long hx hb (hml.trans hl.1.symm) hown (hts _ hlink) (hts _ hstat) (hts _ hini) (hts _ hcode) hfr hlo hkk.1 hkk.2 hd (k h H locs ls hP hD hS hl)
theorem j_mminl (C : CX E cc own nL rm) {idx : Nat} {x y : Int64} {b : Option ρ} (hlink : Cond.methodLink own idx Lib.MathLoose.min_long.x ∈ lw_g) (hstat : Cond.static Lib.MathLoose.min_long.x ∈ lw_g) (hini : Cond.initialized "java/lang/Math" ∈ lw_g) (hcode : Cond.code Lib.MathLoose.min_long.x Lib.MathLoose.min_long.code 4 (some .long) ∈ lw_g) (hfr : 1 ≤ rm.frames) (hlo : (st.map fun v => v.category).sum + 15 ≤ rm.locals) (hkk : kc ≤ rm.cells ∧ ks ≤ rm.slots) (hd : decode cc pc = .ok (.invokestatic idx, 3)) (k : J E nL kc ks r0 b σ (pc + 3) lv (.long (if y < x then y else x) :: st)) : J E nL kc ks r0 b σ pc lv (.long y :: .long x :: st) := by
  obtain ⟨p, l, e, R, s, m, args, below, meth, c, Q, A, D, tys, ids, ad, ent⟩ := E
  obtain ⟨hx, hb, hml, hown, hts, hK, hN, hR, hA, hlk, hAX⟩ := C
  intro h H locs ls hP hD hS hl
  subst hR
  exact va_mmin_long hx hb (hml.trans hl.1.symm) hown (hts _ hlink) (hts _ hstat) (hts _ hini) (hts _ hcode) hfr hlo hkk.1 hkk.2 hd (k h H locs ls hP hD hS hl)
theorem j_mabsl (C : CX E cc own nL rm) {idx : Nat} {x : Int64} {b : Option ρ} (hlink : Cond.methodLink own idx Lib.MathLoose.abs_long.x ∈ lw_g) (hstat : Cond.static Lib.MathLoose.abs_long.x ∈ lw_g) (hini : Cond.initialized "java/lang/Math" ∈ lw_g) (hcode : Cond.code Lib.MathLoose.abs_long.x Lib.MathLoose.abs_long.code 2 (some .long) ∈ lw_g) (hfr : 1 ≤ rm.frames) (hlo : (st.map fun v => v.category).sum + 13 ≤ rm.locals) (hkk : kc ≤ rm.cells ∧ ks ≤ rm.slots) (hd : decode cc pc = .ok (.invokestatic idx, 3)) (k : J E nL kc ks r0 b σ (pc + 3) lv (.long (if 0 < x then x else -x) :: st)) : J E nL kc ks r0 b σ pc lv (.long x :: st) := by
  obtain ⟨p, l, e, R, s, m, args, below, meth, c, Q, A, D, tys, ids, ad, ent⟩ := E
  obtain ⟨hx, hb, hml, hown, hts, hK, hN, hR, hA, hlk, hAX⟩ := C
  intro h H locs ls hP hD hS hl
  subst hR
  exact va_mabs_long hx hb (hml.trans hl.1.symm) hown (hts _ hlink) (hts _ hstat) (hts _ hini) (hts _ hcode) hfr hlo hkk.1 hkk.2 hd (k h H locs ls hP hD hS hl)
end CALLS
