/-- the new channel is put into its row -/
theorem u_aast {E : EnvT} {cc : ByteArray} {own : String} {nL : Nat} {rm : Room} {kc ks : Nat} {σ : Mem} {pc : Nat} {lv : List (Nat × Value)} {st : List Value} {n : Nat} {cs : Nat → ClassId} (C : CX E cc own nL rm) (F : XG E n cs) (hn : n < 8) (hd : decode cc pc = .ok (.aastore, 1)) (k : G (eW E (xEnt (eAd E) cs (n + 1))) nL kc ks σ (pc + 1) lv st) : G E nL kc ks σ pc lv (.ref (eAd E (100 + n)) :: .int (nI n) :: .ref (eAd E 7) :: st) := by
  have h7 := gin F (o := 7) (by decide)
  have hc := gin_Ch F
  have e7 := ge_7 F (σ.1 7) (σ.2 7)
  have eC := ge_Ch F (σ.1 (100 + n)) (σ.2 (100 + n))
  have F2 := F.2.1
  have F3 := F.2.2
  obtain ⟨p, l, e, R, s, m, args, below, meth, c, Q, A, D, tys, ids, ad, ent⟩ := E
  obtain ⟨hx, hb, hml, hown, hts, hK, hN, hR, hA, hlk, hAX⟩ := C
  intro H locs ls hP hD hS hl
  obtain ⟨q7, hq7⟩ := wl_at (ad := ad) (ent := ent) σ h7
  obtain ⟨qc, hqc⟩ := wl_at (ad := ad) (ent := ent) σ hc
  have F2 : ent = xEnt ad cs n := F2
  have F3 : tys = wTys cs := F3
  subst F2
  subst F3
  have hset := wl_set_ent (ent' := xEnt ad cs (n + 1)) (e := .inl (cs 3, 8, .inr (.inr (.inr (.inr fun j => (xRows (n + 1) j).map ad))))) hD h7 hq7 rfl (fun o' h' => (xEnt_n h').trans (xEnt_n h').symm)
  rw [show xEnt ad cs n 7 (σ.1 7) (σ.2 7) = _ from e7] at hq7
  rw [show xEnt ad cs n (100 + n) (σ.1 (100 + n)) (σ.2 (100 + n)) = _ from eC] at hqc
  refine va_astq (D := D) (r := (RX1, TX1, 8)) hx hb hK hP hD hS q7 3 qc 1 hq7 rfl hqc rfl (nI_in hn (by decide)) hd (fun H1 locs1 hP1 hD1 hS1 => ?_)
  rw [show (nI n).toNatClampNeg = n from nI_clamp (by omega), show (fun j => Option.map (eAd (p, l, e, R, s, m, args, below, meth, c, Q, A, D, wTys cs, ids, ad, xEnt ad cs n)) (xRows n j)) = (fun j => (xRows n j).map ad) from rfl, xrows_up, hset] at hP1 hD1
  exact k H1 locs1 ls hP1 hD1 hS1 hl
def RQadd (cs : Nat → ClassId) (n : Nat) (σ' : Mem) : RQT := fun D tys ids ad _ sz => RQv σ' D tys ids ad (xEnt ad cs (n + 1)) sz
theorem eW_QE {E : EnvT} {cs : Nat → ClassId} {n kc ks : Nat} {rt : Option FieldType} {σ' : Mem} (Q : QE E kc ks rt (RQadd cs n σ')) : QE (eW E (xEnt (eAd E) cs (n + 1))) kc ks rt (RQv σ') := by
  obtain ⟨p, l, e, R, s, m, args, below, meth, c, Q, A, D, tys, ids, ad, ent⟩ := E
  exact Q
abbrev rm_X2_add : Room := { frames := 1, cells := 0, slots := 0, locals := 22 }
set_option maxRecDepth 100000 in
set_option maxHeartbeats 4000000 in
theorem m_X2_add2 {E : EnvT} {n : Nat} {cs : Nat → ClassId} (F : XF E n cs) {v : Nat} {σ : Mem} (C : CX E cX2_add RX2 2 rm_X2_add) {r0 : Mem} (Q : QE E 0 0 none (RQv r0)) : J E 2 0 0 r0 (lete (wI σ 6 4 (σ.1 6 4 + 1)) (fun σ1 => some σ1)) σ 23 [(0, .ref (eAd E 6)), (1, .ref v)] [] := by
  refine j_aload_n C dX2_add_23 0 rfl ?_
  refine j_dup C dX2_add_24 rfl ?_
  refine j_get (ci := 2) C hU_X2 rfl (xin F (by decide)) (xe_6 F _ _) 4 (by decide) rfl hF_X2_27 dX2_add_25 ?_
  refine j_iconst C (1 : Int32) dX2_add_28 (by decide) ?_
  refine j_iadd C dX2_add_29 ?_
  refine j_put (ci := 2) C hU_X2 tyX2_ok nmX2 rfl (xin F (by decide)) (xe_6 F _ _) 4 (by decide) (Nat.le_of_ble_eq_true rfl) (by rw [wI_o, wI_2]; exact (xe_6 F _ _)) (fun o' h' => ⟨wI_ne _ _ _ h', rfl⟩) rfl (by first | rfl | decide) (by first | rfl | decide) hF_X2_27 dX2_add_30 (fun σ1 => ?_)
  exact j_vret2 C Q dX2_add_33
set_option maxRecDepth 100000 in
set_option maxHeartbeats 4000000 in
theorem m_X2_add {E : EnvT} {n : Nat} {cs : Nat → ClassId} (F : XG E n cs) (hn : n < 8) {σ : Mem} (hc : σ.1 6 4 = nI n) (C : CX E cX2_add RX2 2 rm_X2_add) (Q : QE E 0 0 none (RQadd cs n (wI σ 6 4 (nI (n + 1))))) : G E 2 0 0 σ 0 [(0, .ref (eAd E 6)), (1, .ref (eAd E (100 + n)))] [] := by
  have hw : X11_within (σ.1 6 4) 0 7 = some 1 := by
    rw [xw, hc, nI_toInt (by omega), t32_0, t32_7]
    unfold bz
    rw [if_pos (by omega)]
  have K : JU E 2 0 0 σ 0 [(0, .ref (eAd E 6)), (1, .ref (eAd E (100 + n)))] [] := by
    refine j_aload_n C dX2_add_0 0 rfl ?_
    refine j_get (ci := 2) C hU_X2 rfl (gin F (by decide)) (ge_6 F _ _) 4 (by decide) rfl hF_X2_27 dX2_add_1 ?_
    refine j_iconst C (0 : Int32) dX2_add_4 (by decide) ?_
    refine j_bipush C (7 : Int32) dX2_add_5 (by decide) ?_
    refine j_callNi C [.int (σ.1 6 4), .int (0 : Int32), .int (7 : Int32)] (c_within_any hw) nhN_X2_35 hT_X11_within hZ_X11 hC_X11_within dd_X11_within (by decide) ⟨rfl, rfl⟩ (by decide) (Nat.le_of_ble_eq_true rfl) dX2_add_7 rfl ?_
    refine u_if_eq C 33 dX2_add_10 (by decide) (fun z => absurd z (by decide)) (fun _ => ?_)
    refine j_aload_n C dX2_add_13 0 rfl ?_
    refine j_get (ci := 2) C hU_X2 rfl (gin F (by decide)) (ge_6 F _ _) 1 (by decide) rfl hF_X2_11 dX2_add_14 ?_
    refine j_aload_n C dX2_add_17 0 rfl ?_
    refine j_get (ci := 2) C hU_X2 rfl (gin F (by decide)) (ge_6 F _ _) 4 (by decide) rfl hF_X2_27 dX2_add_18 ?_
    refine j_aload_n C dX2_add_21 1 rfl ?_
    rw [hc]
    refine ju_g (u_aast C F hn dX2_add_22 ?_)
    have T := m_X2_add2 (v := eAd E (100 + n)) (σ := σ) (eW_XF F) (eW_CX C) (eW_QE Q)
    rw [hc, nI_1, eW_ad] at T
    exact T rfl
  exact K rfl
set_option maxRecDepth 100000 in
set_option maxHeartbeats 4000000 in
theorem c_X2_add {E : EnvT} {n : Nat} {cs : Nat → ClassId} (F : XG E n cs) (hn : n < 8) {σ : Mem} (hc : σ.1 6 4 = nI n) : CT E yX2_add cX2_add 2 none rm_X2_add [.ref (eAd E 6), .ref (eAd E (100 + n))] σ (RQadd cs n (wI σ 6 4 (nI (n + 1)))) := by
  obtain ⟨p, l, e, R, s, m, args, below, meth, c, Q, A, D, tys, ids, ad, ent⟩ := E
  intro sz
  exact ct_of (by decide) (Nat.le_of_ble_eq_true rfl) (fun E' e1 e2 e3 e4 e5 C Q => by
    have F' : XG E' n cs := ⟨e3.trans F.1, e5.trans (F.2.1.trans (by rw [e4]; rfl)), e2.trans F.2.2⟩
    have ea : ad = eAd E' := e4.symm
    show G E' 2 0 0 σ 0 [(0, .ref (ad 6)), (1, .ref (ad (100 + n)))] []
    rw [ea]
    exact m_X2_add F' hn hc C Q) sz
theorem dd_X2_add : yX2_add.cls ≠ "java/lang/invoke/MethodHandle" ∧ yX2_add.cls ≠ "java/lang/invoke/VarHandle" ∧ (parseMethodDescriptor yX2_add.desc).map (fun d => d.parameters.length) = some 1 := by decide +kernel
