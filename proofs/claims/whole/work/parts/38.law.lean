/-! THE LAW: the beginning, rows, calls over the two worlds -/
set_option maxRecDepth 100000 in
theorem rel0 : RelC 0 0 0 0 0 0 0 0 xM0 mM0 := by
  refine ⟨?_, ?_, ?_, ?_, ?_, ?_, ?_, ?_, ?_, ?_, ?_, ?_, ?_, ?_, ?_, ?_, ?_, ?_, ?_, ?_, ?_, ?_, ?_, ?_, ?_, ?_, ?_, ?_, ?_, ?_, ?_, ?_, ?_, ?_, ?_, ?_, ?_, ?_, ?_, ?_, ?_, ?_, ?_, ?_, ?_, ?_, ?_, ?_, ?_, ?_, ?_, ?_, ?_, ?_, ?_, ?_, ?_, ?_, ?_, ?_, ?_, ?_, ?_, ?_, ?_⟩
  · first | rfl | decide
  · first | rfl | decide
  · first | rfl | decide
  · first | rfl | decide
  · first | rfl | decide
  · first | rfl | decide
  · first | rfl | decide
  · first | rfl | decide
  · first | rfl | decide
  · first | rfl | decide
  · first | rfl | decide
  · first | rfl | decide
  · first | rfl | decide
  · first | rfl | decide
  · first | rfl | decide
  · first | rfl | decide
  · first | rfl | decide
  · first | rfl | decide
  · first | rfl | decide
  · first | rfl | decide
  · first | rfl | decide
  · first | rfl | decide
  · first | rfl | decide
  · first | rfl | decide
  · first | rfl | decide
  · first | rfl | decide
  · first | rfl | decide
  · first | rfl | decide
  · exact (fun s _ => ⟨rfl, rfl, rfl, rfl⟩)
  · exact (⟨rfl, fun i _ => rfl, Or.inl ⟨rfl, rfl⟩, 0, by decide, by first | rfl | decide⟩)
  · exact (⟨rfl, fun i _ => rfl, Or.inl ⟨rfl, rfl⟩, 0, by decide, by first | rfl | decide⟩)
  · exact (⟨rfl, fun i _ => rfl, Or.inl ⟨rfl, rfl⟩, 0, by decide, by first | rfl | decide⟩)
  · exact (⟨rfl, fun i _ => rfl, Or.inl ⟨rfl, rfl⟩, 0, by decide, by first | rfl | decide⟩)
  · exact (fun k hk => absurd hk (Nat.not_lt_zero k))
  · first | rfl | decide
  · decide
  · first | rfl | decide
  · decide
  · first | rfl | decide
  · decide
  · first | rfl | decide
  · decide
  · first | rfl | decide
  · decide
  · first | rfl | decide
  · decide
  · first | rfl | decide
  · decide
  · first | rfl | decide
  · decide
  · exact (fun s hs => absurd hs (Nat.not_lt_zero s))
  · exact (fun _ => rfl)
  · exact (Or.inl rfl)
  · exact (⟨by decide, by decide⟩)
  · exact (⟨fun _ => rfl, fun h => absurd h (by decide)⟩)
  · exact (fun h => absurd h (by decide))
  · exact (fun k _ => (show -500 ≤ (0 : Int32).toInt ∧ (0 : Int32).toInt ≤ 1000 by decide))
  · exact (fun i hi => by
    obtain rfl : i = 0 := by omega
    exact ⟨by decide, by decide, by decide, by decide, by decide, by decide, by decide, by decide⟩)
  · first | rfl | decide
  · first | rfl | decide
  · first | rfl | decide
  · first | rfl | decide
  · exact (fun i hi => absurd hi (Nat.not_lt_zero i))
  · exact (fun m hm => absurd hm (Nat.not_lt_zero m))
  · decide
def eG (E : EnvT) (ids : List Nat) (ad : Nat → Nat) (ent : EntT) : EnvT := match E with
  | (p, l, e, R, s, m, args, below, meth, c, Q, A, D, tys, _, _, _) => (p, l, e, R, s, m, args, below, meth, c, Q, A, D, tys, ids, ad, ent)
section EG
variable {E : EnvT} {ids : List Nat} {ad : Nat → Nat} {ent : EntT} {cs : Nat → ClassId} {n : Nat}
theorem eG_ids : eIds (eG E ids ad ent) = ids := by
  obtain ⟨p, l, e, R, s, m, args, below, meth, c, Q, A, D, tys, ids0, ad0, ent0⟩ := E
  simp only [eIds, eG]
theorem eG_ad : eAd (eG E ids ad ent) = ad := by
  obtain ⟨p, l, e, R, s, m, args, below, meth, c, Q, A, D, tys, ids0, ad0, ent0⟩ := E
  simp only [eAd, eG]
theorem eG_ent : eEnt (eG E ids ad ent) = ent := by
  obtain ⟨p, l, e, R, s, m, args, below, meth, c, Q, A, D, tys, ids0, ad0, ent0⟩ := E
  simp only [eEnt, eG]
theorem eG_tys : eTys (eG E ids ad ent) = eTys E := by
  obtain ⟨p, l, e, R, s, m, args, below, meth, c, Q, A, D, tys, ids0, ad0, ent0⟩ := E
  simp only [eTys, eG]
theorem eG_XF (hT : eTys E = wTys cs) : XF (eG E (xIds n) ad (xEnt ad cs n)) n cs := ⟨eG_ids, by rw [eG_ent, eG_ad], eG_tys.trans hT⟩
theorem eG_MF (hT : eTys E = wTys cs) : MF (eG E mIds ad (mEnt ad cs)) cs := ⟨eG_ids, by rw [eG_ent, eG_ad], eG_tys.trans hT⟩
end EG
def SC (E : EnvT) (b L : Nat) (xs : Nat → Int32) : Prop := match E with
  | (_, _, _, _, s, _, _, _, _, _, _, A, _, _, _, _, _) => va_X b L xs s s.heap ∧ b < s.heap.size ∧ ¬ A b
theorem xIds_0 {n : Nat} : 0 ∈ xIds n := List.mem_append_left _ (List.mem_range.mpr (by decide))
theorem mIds_0 : 0 ∈ mIds := List.mem_range.mpr (by decide)
section LAWROWS
variable {E : EnvT} {cc : ByteArray} {own : String} {nL : Nat} {rm : Room} {kc ks : Nat} {ws : va_W} {pc : Nat} {lv : List (Nat × Value)} {st : List Value} {b L : Nat} {xs : Nat → Int32}
theorem w_sld (C : CX E cc own nL rm) (hX : SC E b L xs) (hL : L ≤ 3072) {q : Nat} (hq : q < L) (hd : decode cc pc = .ok (.iaload, 1)) (k : GW E nL kc ks ws (pc + 1) lv (.int (xs q) :: st)) : GW E nL kc ks ws pc lv (.int (nI q) :: .ref b :: st) := by
  obtain ⟨p, l, e, R, s, m, args, below, meth, c, Q, A, D, tys, ids, ad, ent⟩ := E
  obtain ⟨hx, hb, hml, hown, hts, hK, hN, hR, hA, hlk, hAX⟩ := C
  exact fun H locs ls hP hD hS hl => va_sld hx hb hX.1 hX.2.1 hX.2.2 hS (nI_in hq (by omega)) hd (by rw [nI_clamp (by omega)]; exact k H locs ls hP hD hS hl)
theorem w_slen (C : CX E cc own nL rm) (hX : SC E b L xs) (hd : decode cc pc = .ok (.arraylength, 1)) (k : GW E nL kc ks ws (pc + 1) lv (.int (nI L) :: st)) : GW E nL kc ks ws pc lv (.ref b :: st) := by
  obtain ⟨p, l, e, R, s, m, args, below, meth, c, Q, A, D, tys, ids, ad, ent⟩ := E
  obtain ⟨hx, hb, hml, hown, hts, hK, hN, hR, hA, hlk, hAX⟩ := C
  exact fun H locs ls hP hD hS hl => va_slen hx hb hX.1 hX.2.1 hX.2.2 hS hd (k H locs ls hP hD hS hl)
/-- an argument: script[i + kn] -/
theorem w_arg (C : CX E cc own nL rm) (hX : SC E b L xs) (hL : L ≤ 3072) {kk : Int} {i : Nat} (kn : Nat) (h0 : decode cc pc = .ok (.aload_n 0, 1)) (h1 : decode cc (pc + 1) = .ok (.iload_n 3, 1)) (h2 : decode cc (pc + 2) = .ok (.iconst kk, 1)) (hkk : Int32.ofInt kk = nI kn) (h3 : decode cc (pc + 3) = .ok (.iadd, 1)) (h4 : decode cc (pc + 4) = .ok (.iaload, 1)) (q0 q3 : Nat) (hq0 : lv[q0]? = some (0, .ref b)) (hq3 : lv[q3]? = some (3, .int (nI i))) (hi : i + kn < L) (k : GW E nL kc ks ws (pc + 5) lv (.int (xs (i + kn)) :: st)) : GW E nL kc ks ws pc lv st :=
  w_aload_n C h0 q0 hq0 (w_iload_n C h1 q3 hq3 (w_iconst C (nI kn) h2 hkk (w_iadd (v := nI (i + kn)) C h3 (nI_add i kn) (w_sld C hX hL hi h4 k))))
theorem w_sw {w0 w1 : va_W} (k : GW E nL kc ks (w1 ++ w0) pc lv st) : GW E nL kc ks (w0 ++ w1) pc lv st := by
  obtain ⟨p, l, e, R, s, m, args, below, meth, c, Q, A, D, tys, ids, ad, ent⟩ := E
  exact fun H locs ls hP hD hS hl => k H locs ls (w_swap hP hD).1 (w_swap hP hD).2 hS hl
set_option maxHeartbeats 4000000 in
theorem law_2i (C : CX E cc own nL rm) {w0 : va_W} {ids : List Nat} {ad : Nat → Nat} {ent : EntT} {y : MethodName} {bt : ByteArray} {nL' idx : Nat} {rt : Option FieldType} {rm' : Room} {o ci : Nat} {fs : List Value} {cl : vw_C} (As : List Value) {σ σ' : Mem} {r : Int32} {stk : List Value} (hct : CT (eG E ids ad ent) y bt nL' rt rm' (.ref (eAd (eG E ids ad ent) o) :: As) σ (RQi r σ')) (hlink : Cond.methodLink own idx y ∈ lw_g) (hinst : Cond.instanceMethod y ∈ lw_g) (hsel : Cond.selects y.cls y y ∈ lw_g) (hini : Cond.initialized y.cls ∈ lw_g) (hcode : Cond.code y bt nL' rt ∈ lw_g) (ho : o ∈ ids) (he : ent o (σ.1 o) (σ.2 o) = .inr (ci, fs)) (hci : vwCl[ci]? = some cl) (hcl : cl.1 = y.cls) (hdd : y.cls ≠ "java/lang/invoke/MethodHandle" ∧ y.cls ≠ "java/lang/invoke/VarHandle" ∧ (parseMethodDescriptor y.desc).map (fun d => d.parameters.length) = some As.length) (hR_ : rm'.frames + 1 ≤ rm.frames ∧ 8 + (nL' + 11) + rm'.locals ≤ rm.locals) (hrm : rm'.cells = 0 ∧ rm'.slots = 0) (hkk : kc ≤ rm.cells ∧ ks ≤ rm.slots) (hst8 : (st.map fun v => v.category).sum ≤ 8) (hd : decode cc pc = .ok (.invokevirtual idx, 3)) (hstk : stk = As.reverse ++ .ref (ad o) :: st) (k : GW E nL kc ks (w0 ++ wl ids ad ent σ') (pc + 3) lv (.int r :: st)) : GW E nL kc ks (w0 ++ wl ids ad ent σ) pc lv stk := by
  obtain ⟨p, l, e, R, s, m, args, below, meth, c, Q, A, D, tys, ids0, ad0, ent0⟩ := E
  obtain ⟨hx, hb, hml, hown, hts, hK, hN, hR, hA, hlk, hAX⟩ := C
  intro H locs ls hP hD hS hl
  subst hR
  subst hstk
  have hct : ∀ sz : Nat, Met l y (.code y bt nL' rt :: lw_g) rm' (va_Pc (.ref (ad o) :: As) (PX D tys ids ad ent σ sz)) (RQi r σ' D tys ids ad ent sz) 0 0 (AX ids ad sz) := hct
  have hp1 : ∀ (k : Nat) (q : Nat × va_E), (wl ids ad ent σ)[k]? = some q → (w0 ++ wl ids ad ent σ)[w0.length + k]? = some q := fun k q hq => by
    rw [List.getElem?_append_right (by omega), Nat.add_sub_cancel_left]; exact hq
  have hPc : va_P D vwCl (wl ids ad ent σ) H := fun k q hq => hP _ q (hp1 k q hq)
  have hDc : va_D A (wl ids ad ent σ) := ⟨fun i j p q h1 h2 h3 => by
    have := hD.1 _ _ p q (hp1 i p h1) (hp1 j q h2) h3
    omega, fun k q hq => hD.2 _ q (hp1 k q hq)⟩
  have hF : ∀ q, AX ids ad H.size q → A q := wl_free hDc (fun q hq => hA q (Nat.le_trans hS.1 hq))
  have hR' := hR_
  refine va_calli (va_runV (C := y.cls) (As := As) (rest := st) ⟨hx, hb, hml, hown, hts⟩ (hct H.size) (cwV As.length hts (good_V hlink hinst hsel hini hcode) rfl hrm.1 hrm.2 ⟨rfl, hdd⟩ hR') ⟨PX_blind, (by obtain ⟨q0, hq⟩ := wl_at (ad := ad) (ent := ent) σ ho; rw [he] at hq; rw [← hcl]; exact va_recv hK hPc hci hq), fun U hU hW => ⟨rfl, by rw [hU], by rw [hU]; exact hPc, va_K.moved hW.alike hK, NW.warm hW hN, wl_D hDc (fun _ _ => trivial)⟩⟩ rfl rfl hl.1 rfl (lv_room hst8) hd hkk) hS (fun q _ hq => hF q hq) hF (fun r_ u t H1 locs1 ht hvm hw hB hz1 hk1 hS1 => ?_)
  obtain ⟨hP1, hK1, hD1⟩ := hB
  rw [ht] at hP1
  obtain ⟨rfl, rfl⟩ := hw
  obtain ⟨hP2, hD2⟩ := w_join hP hD hF (fun q hq => by
    rcases hq with ⟨o', ho', hz⟩ | hq
    · obtain ⟨k0, hk0⟩ := wl_at (ad := ad) (ent := ent) σ ho'
      exact Or.inl ⟨k0, _, by rw [← hz]; exact hk0⟩
    · exact Or.inr hq) hk1 hP1 hD1
  exact k H1 locs1 ls hP2 hD2 hS1 hl
theorem law_1i (C : CX E cc own nL rm) {w0 : va_W} {ids : List Nat} {ad : Nat → Nat} {ent : EntT} {y : MethodName} {bt : ByteArray} {nL' idx : Nat} {rt : Option FieldType} {rm' : Room} {o ci : Nat} {fs : List Value} {cl : vw_C} (As : List Value) {σ σ' : Mem} {r : Int32} {stk : List Value} (hct : CT (eG E ids ad ent) y bt nL' rt rm' (.ref (eAd (eG E ids ad ent) o) :: As) σ (RQi r σ')) (hlink : Cond.methodLink own idx y ∈ lw_g) (hinst : Cond.instanceMethod y ∈ lw_g) (hsel : Cond.selects y.cls y y ∈ lw_g) (hini : Cond.initialized y.cls ∈ lw_g) (hcode : Cond.code y bt nL' rt ∈ lw_g) (ho : o ∈ ids) (he : ent o (σ.1 o) (σ.2 o) = .inr (ci, fs)) (hci : vwCl[ci]? = some cl) (hcl : cl.1 = y.cls) (hdd : y.cls ≠ "java/lang/invoke/MethodHandle" ∧ y.cls ≠ "java/lang/invoke/VarHandle" ∧ (parseMethodDescriptor y.desc).map (fun d => d.parameters.length) = some As.length) (hR_ : rm'.frames + 1 ≤ rm.frames ∧ 8 + (nL' + 11) + rm'.locals ≤ rm.locals) (hrm : rm'.cells = 0 ∧ rm'.slots = 0) (hkk : kc ≤ rm.cells ∧ ks ≤ rm.slots) (hst8 : (st.map fun v => v.category).sum ≤ 8) (hd : decode cc pc = .ok (.invokevirtual idx, 3)) (hstk : stk = As.reverse ++ .ref (ad o) :: st) (k : GW E nL kc ks (wl ids ad ent σ' ++ w0) (pc + 3) lv (.int r :: st)) : GW E nL kc ks (wl ids ad ent σ ++ w0) pc lv stk :=
  w_sw (law_2i C As hct hlink hinst hsel hini hcode ho he hci hcl hdd hR_ hrm hkk hst8 hd hstk (w_sw k))
set_option maxHeartbeats 4000000 in
theorem law_2l (C : CX E cc own nL rm) {w0 : va_W} {ids : List Nat} {ad : Nat → Nat} {ent : EntT} {y : MethodName} {bt : ByteArray} {nL' idx : Nat} {rt : Option FieldType} {rm' : Room} {o ci : Nat} {fs : List Value} {cl : vw_C} (As : List Value) {σ σ' : Mem} {r : Int64} {stk : List Value} (hct : CT (eG E ids ad ent) y bt nL' rt rm' (.ref (eAd (eG E ids ad ent) o) :: As) σ (RQl r σ')) (hlink : Cond.methodLink own idx y ∈ lw_g) (hinst : Cond.instanceMethod y ∈ lw_g) (hsel : Cond.selects y.cls y y ∈ lw_g) (hini : Cond.initialized y.cls ∈ lw_g) (hcode : Cond.code y bt nL' rt ∈ lw_g) (ho : o ∈ ids) (he : ent o (σ.1 o) (σ.2 o) = .inr (ci, fs)) (hci : vwCl[ci]? = some cl) (hcl : cl.1 = y.cls) (hdd : y.cls ≠ "java/lang/invoke/MethodHandle" ∧ y.cls ≠ "java/lang/invoke/VarHandle" ∧ (parseMethodDescriptor y.desc).map (fun d => d.parameters.length) = some As.length) (hR_ : rm'.frames + 1 ≤ rm.frames ∧ 8 + (nL' + 11) + rm'.locals ≤ rm.locals) (hrm : rm'.cells = 0 ∧ rm'.slots = 0) (hkk : kc ≤ rm.cells ∧ ks ≤ rm.slots) (hst8 : (st.map fun v => v.category).sum ≤ 8) (hd : decode cc pc = .ok (.invokevirtual idx, 3)) (hstk : stk = As.reverse ++ .ref (ad o) :: st) (k : GW E nL kc ks (w0 ++ wl ids ad ent σ') (pc + 3) lv (.long r :: st)) : GW E nL kc ks (w0 ++ wl ids ad ent σ) pc lv stk := by
  obtain ⟨p, l, e, R, s, m, args, below, meth, c, Q, A, D, tys, ids0, ad0, ent0⟩ := E
  obtain ⟨hx, hb, hml, hown, hts, hK, hN, hR, hA, hlk, hAX⟩ := C
  intro H locs ls hP hD hS hl
  subst hR
  subst hstk
  have hct : ∀ sz : Nat, Met l y (.code y bt nL' rt :: lw_g) rm' (va_Pc (.ref (ad o) :: As) (PX D tys ids ad ent σ sz)) (RQl r σ' D tys ids ad ent sz) 0 0 (AX ids ad sz) := hct
  have hp1 : ∀ (k : Nat) (q : Nat × va_E), (wl ids ad ent σ)[k]? = some q → (w0 ++ wl ids ad ent σ)[w0.length + k]? = some q := fun k q hq => by
    rw [List.getElem?_append_right (by omega), Nat.add_sub_cancel_left]; exact hq
  have hPc : va_P D vwCl (wl ids ad ent σ) H := fun k q hq => hP _ q (hp1 k q hq)
  have hDc : va_D A (wl ids ad ent σ) := ⟨fun i j p q h1 h2 h3 => by
    have := hD.1 _ _ p q (hp1 i p h1) (hp1 j q h2) h3
    omega, fun k q hq => hD.2 _ q (hp1 k q hq)⟩
  have hF : ∀ q, AX ids ad H.size q → A q := wl_free hDc (fun q hq => hA q (Nat.le_trans hS.1 hq))
  have hR' := hR_
  refine va_calll (va_runV (C := y.cls) (As := As) (rest := st) ⟨hx, hb, hml, hown, hts⟩ (hct H.size) (cwV As.length hts (good_V hlink hinst hsel hini hcode) rfl hrm.1 hrm.2 ⟨rfl, hdd⟩ hR') ⟨PX_blind, (by obtain ⟨q0, hq⟩ := wl_at (ad := ad) (ent := ent) σ ho; rw [he] at hq; rw [← hcl]; exact va_recv hK hPc hci hq), fun U hU hW => ⟨rfl, by rw [hU], by rw [hU]; exact hPc, va_K.moved hW.alike hK, NW.warm hW hN, wl_D hDc (fun _ _ => trivial)⟩⟩ rfl rfl hl.1 rfl (lv_room hst8) hd hkk) hS (fun q _ hq => hF q hq) hF (fun r_ u t H1 locs1 ht hvm hw hB hz1 hk1 hS1 => ?_)
  obtain ⟨hP1, hK1, hD1⟩ := hB
  rw [ht] at hP1
  obtain ⟨rfl, rfl⟩ := hw
  obtain ⟨hP2, hD2⟩ := w_join hP hD hF (fun q hq => by
    rcases hq with ⟨o', ho', hz⟩ | hq
    · obtain ⟨k0, hk0⟩ := wl_at (ad := ad) (ent := ent) σ ho'
      exact Or.inl ⟨k0, _, by rw [← hz]; exact hk0⟩
    · exact Or.inr hq) hk1 hP1 hD1
  exact k H1 locs1 ls hP2 hD2 hS1 hl
theorem law_1l (C : CX E cc own nL rm) {w0 : va_W} {ids : List Nat} {ad : Nat → Nat} {ent : EntT} {y : MethodName} {bt : ByteArray} {nL' idx : Nat} {rt : Option FieldType} {rm' : Room} {o ci : Nat} {fs : List Value} {cl : vw_C} (As : List Value) {σ σ' : Mem} {r : Int64} {stk : List Value} (hct : CT (eG E ids ad ent) y bt nL' rt rm' (.ref (eAd (eG E ids ad ent) o) :: As) σ (RQl r σ')) (hlink : Cond.methodLink own idx y ∈ lw_g) (hinst : Cond.instanceMethod y ∈ lw_g) (hsel : Cond.selects y.cls y y ∈ lw_g) (hini : Cond.initialized y.cls ∈ lw_g) (hcode : Cond.code y bt nL' rt ∈ lw_g) (ho : o ∈ ids) (he : ent o (σ.1 o) (σ.2 o) = .inr (ci, fs)) (hci : vwCl[ci]? = some cl) (hcl : cl.1 = y.cls) (hdd : y.cls ≠ "java/lang/invoke/MethodHandle" ∧ y.cls ≠ "java/lang/invoke/VarHandle" ∧ (parseMethodDescriptor y.desc).map (fun d => d.parameters.length) = some As.length) (hR_ : rm'.frames + 1 ≤ rm.frames ∧ 8 + (nL' + 11) + rm'.locals ≤ rm.locals) (hrm : rm'.cells = 0 ∧ rm'.slots = 0) (hkk : kc ≤ rm.cells ∧ ks ≤ rm.slots) (hst8 : (st.map fun v => v.category).sum ≤ 8) (hd : decode cc pc = .ok (.invokevirtual idx, 3)) (hstk : stk = As.reverse ++ .ref (ad o) :: st) (k : GW E nL kc ks (wl ids ad ent σ' ++ w0) (pc + 3) lv (.long r :: st)) : GW E nL kc ks (wl ids ad ent σ ++ w0) pc lv stk :=
  w_sw (law_2l C As hct hlink hinst hsel hini hcode ho he hci hcl hdd hR_ hrm hkk hst8 hd hstk (w_sw k))
set_option maxHeartbeats 4000000 in
/-- channel: the world may have one object more behind it -/
theorem law_chan (C : CX E cc own nL rm) (hO : EAO E) {cs : Nat → ClassId} (hT : eTys E = wTys cs) {w0 : va_W} {n idx : Nat} {ad : Nat → Nat} {σ : Mem} (hn : n ≤ 8) (hc : σ.1 6 4 = nI n) (p1 p2 p3 p4 p5 : Int32) (hlink : Cond.methodLink own idx yX11_channel ∈ lw_g) (hR_ : rm_X11_channel.frames + 1 ≤ rm.frames ∧ 8 + (6 + 11) + rm_X11_channel.locals ≤ rm.locals) (hkk : kc + 1 ≤ rm.cells ∧ ks + 8 ≤ rm.slots) (hst8 : (st.map fun v => v.category).sum ≤ 8) (hd : decode cc pc = .ok (.invokevirtual idx, 3)) (k : ∀ u : Nat → Nat, u 0 = ad 0 → GW E nL (kc + 1) (ks + 8) (wl (xIds (chanX n σ p1 p2 p3 p4 p5).2.2) u (xEnt u cs (chanX n σ p1 p2 p3 p4 p5).2.2) (chanX n σ p1 p2 p3 p4 p5).2.1 ++ w0) (pc + 3) lv (.int (chanX n σ p1 p2 p3 p4 p5).1 :: st)) : GW E nL kc ks (wl (xIds n) ad (xEnt ad cs n) σ ++ w0) pc lv (.int p5 :: .int p4 :: .int p3 :: .int p2 :: .int p1 :: .ref (ad 0) :: st) := by
  refine w_sw ?_
  have k2 : ∀ u : Nat → Nat, u 0 = ad 0 → GW E nL (kc + 1) (ks + 8) (w0 ++ wl (xIds (chanX n σ p1 p2 p3 p4 p5).2.2) u (xEnt u cs (chanX n σ p1 p2 p3 p4 p5).2.2) (chanX n σ p1 p2 p3 p4 p5).2.1) (pc + 3) lv (.int (chanX n σ p1 p2 p3 p4 p5).1 :: st) := fun u hu => w_sw (k u hu)
  clear k
  obtain ⟨p, l, e, R, s, m, args, below, meth, c, Q, A, D, tys, ids0, ad0, ent0⟩ := E
  obtain ⟨hx, hb, hml, hown, hts, hK, hN, hR, hA, hlk, hAX⟩ := C
  have hT : tys = wTys cs := hT
  subst hT
  intro H locs ls hP hD hS hl
  subst hR
  have hct := fun sz => c_X11_channel (l := l) (D := D) (ad := ad) (cs := cs) (n := n) (σ := σ) hn hc p1 p2 p3 p4 p5 sz
  have hp1 : ∀ (k : Nat) (q : Nat × va_E), (wl (xIds n) ad (xEnt ad cs n) σ)[k]? = some q → (w0 ++ wl (xIds n) ad (xEnt ad cs n) σ)[w0.length + k]? = some q := fun k q hq => by
    rw [List.getElem?_append_right (by omega), Nat.add_sub_cancel_left]; exact hq
  have hPc : va_P D vwCl (wl (xIds n) ad (xEnt ad cs n) σ) H := fun k q hq => hP _ q (hp1 k q hq)
  have hDc : va_D A (wl (xIds n) ad (xEnt ad cs n) σ) := ⟨fun i j p q h1 h2 h3 => by
    have := hD.1 _ _ p q (hp1 i p h1) (hp1 j q h2) h3
    omega, fun k q hq => hD.2 _ q (hp1 k q hq)⟩
  have hF : ∀ q, AX (xIds n) ad H.size q → A q := wl_free hDc (fun q hq => hA q (Nat.le_trans hS.1 hq))
  have he : xEnt ad cs n 0 (σ.1 0) (σ.2 0) = .inr (11, [.ref (ad 1), .ref (ad 4), .ref (ad 6), .ref (ad 18), .ref (ad 20), .ref (ad 22), .ref (ad 26), .ref (ad 27), .ref (ad 28), .int (σ.1 0 9)]) := rfl
  refine va_calli (va_runV (C := yX11_channel.cls) (As := [.int p1, .int p2, .int p3, .int p4, .int p5]) (rest := st) ⟨hx, hb, hml, hown, hts⟩ (hct H.size) (cwV 5 hts (good_V hlink hI_X11_channel hS_X11_channel hZ_X11 hC_X11_channel) rfl rfl rfl ⟨rfl, dd_X11_channel⟩ hR_) ⟨PI_blind, (by obtain ⟨q0, hq⟩ := wl_at (ad := ad) (ent := xEnt ad cs n) σ xIds_0; rw [he] at hq; exact va_recv (q := (RX11, TX11, 10)) hK hPc rfl hq), fun U hU hW => ⟨rfl, ⟨by rw [hU], by rw [hU]; exact hPc, va_K.moved hW.alike hK, NW.warm hW hN, wl_D hDc (fun _ _ => trivial)⟩, AOs.moved hW.alike hO⟩⟩ rfl rfl hl.1 rfl (lv_room hst8) hd hkk) hS (fun q _ hq => hF q hq) hF (fun r_ u t H1 locs1 ht hvm hw hB hz1 hk1 hS1 => ?_)
  obtain ⟨hP1, hK1, hD1⟩ := hB
  rw [ht] at hP1
  obtain ⟨hr, hu⟩ := hw
  rw [hr]
  obtain ⟨hP2, hD2⟩ := w_join hP hD hF (fun q hq => by
    rcases hq with ⟨o', ho', hz⟩ | hq
    · obtain ⟨k0, hk0⟩ := wl_at (ad := ad) (ent := xEnt ad cs n) σ ho'
      exact Or.inl ⟨k0, _, by rw [← hz]; exact hk0⟩
    · exact Or.inr hq) hk1 hP1 hD1
  exact k2 u (hu 0 xIds_0) H1 locs1 ls hP2 hD2 hS1 hl
end LAWROWS
