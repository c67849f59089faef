section XR
variable {E : EnvT} {cc : ByteArray} {own : String} {nL : Nat} {rm : Room} {kc ks : Nat} {ρ : Type} {r0 : ρ} {b : Option ρ} {σ : Mem} {pc : Nat} {lv : List (Nat × Value)} {st : List Value}
theorem j_nmq {o : Option Nat} {k : Option Nat → Option ρ} (h : ∀ y, J E nL kc ks r0 (k y) σ pc lv (va_rf (Option.map (eAd E) y) :: st)) : J E nL kc ks r0 (lete o k) σ pc lv (va_rf (Option.map (eAd E) o) :: st) := h o
theorem j_iincN (C : CX E cc own nL rm) {i : Nat} {n : Int} {x v : Int32} {k : Int32 → Option ρ} {lf : Int32 → List (Nat × Value)} (hd : decode cc pc = .ok (.iinc i n, 3)) (q : Nat) (hq : lv[q]? = some (i, .int x)) (hv : x + Int32.ofInt n = v) (hn : i < nL) (hl' : ∀ y, (i, Value.int y) :: lv.filter (fun q => !(q.1 == i) && !(q.1 + 1 == i && q.2.category == 2)) = lf y) (h : ∀ y, J E nL kc ks r0 (k y) σ (pc + 3) (lf y) st) : J E nL kc ks r0 (lete v k) σ pc lv st := j_iinc (lv' := lf v) C hd q hq hv hn (hl' v) (h v)
theorem j_dup2 (C : CX E cc own nL rm) {va vb : Value} (hd : decode cc pc = .ok (.dup2, 1)) (hva : va.category = 1) (hvb : vb.category = 1) (k : J E nL kc ks r0 b σ (pc + 1) lv (va :: vb :: va :: vb :: st)) : J E nL kc ks r0 b σ pc lv (va :: vb :: st) := by
  obtain ⟨p, l, e, R, s, m, args, below, meth, c, Q, A, D, tys, ids, ad, ent⟩ := E
  obtain ⟨hx, hb, hml, hown, hts, hK, hN, hR, hA, hlk, hAX⟩ := C
  exact fun h H locs ls hP hD hS hl => lv_dup2_11 hx hb hd hva hvb (k h H locs ls hP hD hS hl)
theorem xt0 {n : Nat} {cs : Nat → ClassId} (F : XF E n cs) : (eTys E)[0]? = some (cs 0, .int) := by rw [F.2.2]; rfl
theorem xt1 {n : Nat} {cs : Nat → ClassId} (F : XF E n cs) : (eTys E)[1]? = some (cs 1, .long) := by rw [F.2.2]; rfl
theorem xt2 {n : Nat} {cs : Nat → ClassId} (F : XF E n cs) : (eTys E)[2]? = some (cs 2, .boolean) := by rw [F.2.2]; rfl
theorem xt3 {n : Nat} {cs : Nat → ClassId} (F : XF E n cs) : (eTys E)[3]? = some (cs 3, .object "EngineCell$Channel") := by rw [F.2.2]; rfl
theorem xt4 {n : Nat} {cs : Nat → ClassId} (F : XF E n cs) : (eTys E)[4]? = some (cs 4, .object "EngineCell$Sheet") := by rw [F.2.2]; rfl
theorem mt0 {cs : Nat → ClassId} (F : MF E cs) : (eTys E)[0]? = some (cs 0, .int) := by rw [F.2.2]; rfl
theorem mt1 {cs : Nat → ClassId} (F : MF E cs) : (eTys E)[1]? = some (cs 1, .long) := by rw [F.2.2]; rfl
theorem mt2 {cs : Nat → ClassId} (F : MF E cs) : (eTys E)[2]? = some (cs 2, .boolean) := by rw [F.2.2]; rfl
theorem mt3 {cs : Nat → ClassId} (F : MF E cs) : (eTys E)[3]? = some (cs 3, .object "EngineCell$Channel") := by rw [F.2.2]; rfl
theorem mt4 {cs : Nat → ClassId} (F : MF E cs) : (eTys E)[4]? = some (cs 4, .object "EngineCell$Sheet") := by rw [F.2.2]; rfl
theorem j_lneg (C : CX E cc own nL rm) {x : Int64} (hd : decode cc pc = .ok (.lneg, 1)) (k : J E nL kc ks r0 b σ (pc + 1) lv (.long (-x) :: st)) : J E nL kc ks r0 b σ pc lv (.long x :: st) := by
  obtain ⟨p, l, e, R, s, m, args, below, meth, c, Q, A, D, tys, ids, ad, ent⟩ := E
  obtain ⟨hx, hb, hml, hown, hts, hK, hN, hR, hA, hlk, hAX⟩ := C
  exact fun h H locs ls hP hD hS hl => lv_lneg hx hb hd (k h H locs ls hP hD hS hl)
end XR
def X0_isA (p1 : Int32) (p2 : Int32) : Option (Int32) :=
  if ¬ p2 = (0 : Int32) then
  (if p1 = p2 then
  (some (1 : Int32))
  else
  (if ¬ p1 = (4 : Int32) then
  (some (0 : Int32))
  else
  (if ¬ p2 = (3 : Int32) then
  (some (0 : Int32))
  else
  (some (1 : Int32)))))
  else
  (if p1 = (0 : Int32) then
  (some (1 : Int32))
  else
  (if p1 = (1 : Int32) then
  (some (1 : Int32))
  else
  (if ¬ p1 = (2 : Int32) then
  (some (0 : Int32))
  else
  (some (1 : Int32)))))
abbrev rm_X0_isA : Room := { frames := 0, cells := 0, slots := 0, locals := 0 }
set_option maxRecDepth 100000 in
set_option maxHeartbeats 4000000 in
theorem m_X0_isA {E : EnvT}  {p1 : Int32} {p2 : Int32} {σ : Mem} (C : CX E cX0_isA RX0 2 rm_X0_isA) {r0 : Int32} (Q : QE E 0 0 (some .boolean) (RQi r0 σ)) : J E 2 0 0 r0 (X0_isA p1 p2) σ 0 [(0, .int p1), (1, .int p2)] [] := by

  unfold X0_isA
  refine j_iload_n C dX0_isA_0 1 rfl ?_
  refine j_if_ne C 24 dX0_isA_1 (by decide) ?_ ?_
  · refine j_iload_n C dX0_isA_24 0 rfl ?_
    refine j_iload_n C dX0_isA_25 1 rfl ?_
    refine j_icmp_eq C 39 dX0_isA_26 (by decide) ?_ ?_
    · refine j_iconst C (1 : Int32) dX0_isA_39 (by decide) ?_
      refine j_goto C 44 dX0_isA_40 (by decide) ?_
      exact j_iretz C rfl Q dX0_isA_44
    · refine j_iload_n C dX0_isA_29 0 rfl ?_
      refine j_iconst C (4 : Int32) dX0_isA_30 (by decide) ?_
      refine j_icmp_ne C 43 dX0_isA_31 (by decide) ?_ ?_
      · refine j_iconst C (0 : Int32) dX0_isA_43 (by decide) ?_
        exact j_iretz C rfl Q dX0_isA_44
      · refine j_iload_n C dX0_isA_34 1 rfl ?_
        refine j_iconst C (3 : Int32) dX0_isA_35 (by decide) ?_
        refine j_icmp_ne C 43 dX0_isA_36 (by decide) ?_ ?_
        · refine j_iconst C (0 : Int32) dX0_isA_43 (by decide) ?_
          exact j_iretz C rfl Q dX0_isA_44
        · refine j_iconst C (1 : Int32) dX0_isA_39 (by decide) ?_
          refine j_goto C 44 dX0_isA_40 (by decide) ?_
          exact j_iretz C rfl Q dX0_isA_44
  · refine j_iload_n C dX0_isA_4 0 rfl ?_
    refine j_if_eq C 18 dX0_isA_5 (by decide) ?_ ?_
    · refine j_iconst C (1 : Int32) dX0_isA_18 (by decide) ?_
      refine j_goto C 23 dX0_isA_19 (by decide) ?_
      exact j_iretz C rfl Q dX0_isA_23
    · refine j_iload_n C dX0_isA_8 0 rfl ?_
      refine j_iconst C (1 : Int32) dX0_isA_9 (by decide) ?_
      refine j_icmp_eq C 18 dX0_isA_10 (by decide) ?_ ?_
      · refine j_iconst C (1 : Int32) dX0_isA_18 (by decide) ?_
        refine j_goto C 23 dX0_isA_19 (by decide) ?_
        exact j_iretz C rfl Q dX0_isA_23
      · refine j_iload_n C dX0_isA_13 0 rfl ?_
        refine j_iconst C (2 : Int32) dX0_isA_14 (by decide) ?_
        refine j_icmp_ne C 22 dX0_isA_15 (by decide) ?_ ?_
        · refine j_iconst C (0 : Int32) dX0_isA_22 (by decide) ?_
          exact j_iretz C rfl Q dX0_isA_23
        · refine j_iconst C (1 : Int32) dX0_isA_18 (by decide) ?_
          refine j_goto C 23 dX0_isA_19 (by decide) ?_
          exact j_iretz C rfl Q dX0_isA_23
set_option maxRecDepth 100000 in
set_option maxHeartbeats 4000000 in
theorem c_X0_isA {E : EnvT} {n : Nat} {cs : Nat → ClassId} (F : XF E n cs) {σ : Mem} {p1 : Int32} {p2 : Int32} {r : Int32} (h : X0_isA p1 p2 = some r) : CT E yX0_isA cX0_isA 2 (some .boolean) rm_X0_isA [.int p1, .int p2] σ (RQi r σ) :=
  ct_X F (by decide) (Nat.le_of_ble_eq_true rfl) (fun E' ea F' C Q => by exact m_X0_isA  C Q h)
theorem dd_X0_isA : yX0_isA.cls ≠ "java/lang/invoke/MethodHandle" ∧ yX0_isA.cls ≠ "java/lang/invoke/VarHandle" ∧ (parseMethodDescriptor yX0_isA.desc).map (fun d => d.parameters.length) = some 2 := by decide +kernel
def X0_leave (n : Nat) (σ : Mem) (p1 : Int32) : Option (Mem) :=
  lete (wI σ 27 0 (((31 : Int32) * (σ.1 27 0)) + p1)) (fun σ1 =>
  some σ1)
abbrev rm_X0_leave : Room := { frames := 0, cells := 0, slots := 0, locals := 0 }
set_option maxRecDepth 100000 in
set_option maxHeartbeats 4000000 in
theorem m_X0_leave {E : EnvT} {n : Nat} {cs : Nat → ClassId} (F : XF E n cs) {p1 : Int32} {σ : Mem} (C : CX E cX0_leave RX0 2 rm_X0_leave) {r0 : Mem} (Q : QE E 0 0 none (RQv r0)) : J E 2 0 0 r0 (X0_leave n σ p1) σ 0 [(0, .ref (eAd E 27)), (1, .int p1)] [] := by

  unfold X0_leave
  refine j_aload_n C dX0_leave_0 0 rfl ?_
  refine j_bipush C (31 : Int32) dX0_leave_1 (by decide) ?_
  refine j_aload_n C dX0_leave_3 0 rfl ?_
  refine j_get (ci := 0) C hU_X0 rfl (xin F (by decide)) (xe_27 F _ _) 0 (by decide) rfl hF_X0_9 dX0_leave_4 ?_
  refine j_imul C dX0_leave_7 ?_
  refine j_iload_n C dX0_leave_8 1 rfl ?_
  refine j_iadd C dX0_leave_9 ?_
  refine j_put (ci := 0) C hU_X0 tyX0_ok nmX0 rfl (xin F (by decide)) (xe_27 F _ _) 0 (by decide) (Nat.le_of_ble_eq_true rfl) (by rw [wI_o, wI_2]; exact (xe_27 F _ _)) (fun o' h' => ⟨wI_ne _ _ _ h', rfl⟩) rfl (by first | rfl | decide) (by first | rfl | decide) hF_X0_9 dX0_leave_10 (fun σ1 => ?_)
  exact j_vret2 C Q dX0_leave_13
set_option maxRecDepth 100000 in
set_option maxHeartbeats 4000000 in
theorem c_X0_leave {E : EnvT} {n : Nat} {cs : Nat → ClassId} (F : XF E n cs) {σ : Mem} {p1 : Int32} {r : Mem} (h : X0_leave n σ p1 = some r) : CT E yX0_leave cX0_leave 2 none rm_X0_leave [.ref (eAd E 27), .int p1] σ (RQv r) :=
  ct_X F (by decide) (Nat.le_of_ble_eq_true rfl) (fun E' ea F' C Q => by rw [← ea]; exact m_X0_leave F'  C Q h)
theorem dd_X0_leave : yX0_leave.cls ≠ "java/lang/invoke/MethodHandle" ∧ yX0_leave.cls ≠ "java/lang/invoke/VarHandle" ∧ (parseMethodDescriptor yX0_leave.desc).map (fun d => d.parameters.length) = some 1 := by decide +kernel
def X0_holds (n : Nat) (σ : Mem) (p1 : Int32) : Option (Int32 × Mem) :=
  bindo (X0_leave n σ (1 : Int32)) (fun σ2 =>
  some (p1, σ2))
abbrev rm_X0_holds : Room := { frames := 1, cells := 0, slots := 0, locals := 21 }
set_option maxRecDepth 100000 in
set_option maxHeartbeats 4000000 in
theorem m_X0_holds {E : EnvT} {n : Nat} {cs : Nat → ClassId} (F : XF E n cs) {p1 : Int32} {σ : Mem} (C : CX E cX0_holds RX0 2 rm_X0_holds) {r0 : Int32 × Mem} (Q : QE E 0 0 (some .int) (RQi r0.1 r0.2)) : J E 2 0 0 r0 (X0_holds n σ p1) σ 0 [(0, .ref (eAd E 27)), (1, .int p1)] [] := by

  unfold X0_holds
  refine j_aload_n C dX0_holds_0 0 rfl ?_
  refine j_iconst C (1 : Int32) dX0_holds_1 (by decide) ?_
  refine j_bind (fun σ2 h1 => ?_)
  refine j_callVv (ci := 0) C [.int (1 : Int32)] (c_X0_leave F h1) hM_X0_30 hI_X0_leave hS_X0_leave hZ_X0 hC_X0_leave (xin F (by decide)) (xe_27 F _ _) rfl rfl dd_X0_leave (by decide) ⟨rfl, rfl⟩ (by decide) (Nat.le_of_ble_eq_true rfl) dX0_holds_2 rfl ?_
  refine j_iload_n C dX0_holds_5 1 rfl ?_
  exact j_ireti2 C Q dX0_holds_6
set_option maxRecDepth 100000 in
set_option maxHeartbeats 4000000 in
theorem c_X0_holds {E : EnvT} {n : Nat} {cs : Nat → ClassId} (F : XF E n cs) {σ : Mem} {p1 : Int32} {r : Int32 × Mem} (h : X0_holds n σ p1 = some r) : CT E yX0_holds cX0_holds 2 (some .int) rm_X0_holds [.ref (eAd E 27), .int p1] σ (RQi r.1 r.2) :=
  ct_X F (by decide) (Nat.le_of_ble_eq_true rfl) (fun E' ea F' C Q => by rw [← ea]; exact m_X0_holds F'  C Q h)
theorem dd_X0_holds : yX0_holds.cls ≠ "java/lang/invoke/MethodHandle" ∧ yX0_holds.cls ≠ "java/lang/invoke/VarHandle" ∧ (parseMethodDescriptor yX0_holds.desc).map (fun d => d.parameters.length) = some 1 := by decide +kernel
def X0_ramps (n : Nat) (σ : Mem) (p1 : Int32) : Option (Int32 × Mem) :=
  bindo (X0_leave n σ (2 : Int32)) (fun σ2 =>
  bindo (X0_holds n σ2 p1) (fun a4 =>
  some (((10 : Int32) * a4.1), a4.2)))
abbrev rm_X0_ramps : Room := { frames := 2, cells := 0, slots := 0, locals := 42 }
set_option maxRecDepth 100000 in
set_option maxHeartbeats 4000000 in
theorem m_X0_ramps {E : EnvT} {n : Nat} {cs : Nat → ClassId} (F : XF E n cs) {p1 : Int32} {σ : Mem} (C : CX E cX0_ramps RX0 2 rm_X0_ramps) {r0 : Int32 × Mem} (Q : QE E 0 0 (some .int) (RQi r0.1 r0.2)) : J E 2 0 0 r0 (X0_ramps n σ p1) σ 0 [(0, .ref (eAd E 27)), (1, .int p1)] [] := by

  unfold X0_ramps
  refine j_aload_n C dX0_ramps_0 0 rfl ?_
  refine j_iconst C (2 : Int32) dX0_ramps_1 (by decide) ?_
  refine j_bind (fun σ2 h1 => ?_)
  refine j_callVv (ci := 0) C [.int (2 : Int32)] (c_X0_leave F h1) hM_X0_30 hI_X0_leave hS_X0_leave hZ_X0 hC_X0_leave (xin F (by decide)) (xe_27 F _ _) rfl rfl dd_X0_leave (by decide) ⟨rfl, rfl⟩ (by decide) (Nat.le_of_ble_eq_true rfl) dX0_ramps_2 rfl ?_
  refine j_bipush C (10 : Int32) dX0_ramps_5 (by decide) ?_
  refine j_aload_n C dX0_ramps_7 0 rfl ?_
  refine j_iload_n C dX0_ramps_8 1 rfl ?_
  refine j_bind (fun a4 h3 => ?_)
  refine j_callVi (ci := 0) C [.int p1] (c_X0_holds F h3) hM_X0_15 hI_X0_holds hS_X0_holds hZ_X0 hC_X0_holds (xin F (by decide)) (xe_27 F _ _) rfl rfl dd_X0_holds (by decide) ⟨rfl, rfl⟩ (by decide) (Nat.le_of_ble_eq_true rfl) dX0_ramps_9 rfl ?_
  refine j_imul C dX0_ramps_12 ?_
  exact j_ireti2 C Q dX0_ramps_13
set_option maxRecDepth 100000 in
set_option maxHeartbeats 4000000 in
theorem c_X0_ramps {E : EnvT} {n : Nat} {cs : Nat → ClassId} (F : XF E n cs) {σ : Mem} {p1 : Int32} {r : Int32 × Mem} (h : X0_ramps n σ p1 = some r) : CT E yX0_ramps cX0_ramps 2 (some .int) rm_X0_ramps [.ref (eAd E 27), .int p1] σ (RQi r.1 r.2) :=
  ct_X F (by decide) (Nat.le_of_ble_eq_true rfl) (fun E' ea F' C Q => by rw [← ea]; exact m_X0_ramps F'  C Q h)
theorem dd_X0_ramps : yX0_ramps.cls ≠ "java/lang/invoke/MethodHandle" ∧ yX0_ramps.cls ≠ "java/lang/invoke/VarHandle" ∧ (parseMethodDescriptor yX0_ramps.desc).map (fun d => d.parameters.length) = some 1 := by decide +kernel
def X0_waits (n : Nat) (σ : Mem) (p1 : Int32) (p2 : Int32) : Option (Int32 × Mem) :=
  bindo (X0_leave n σ (3 : Int32)) (fun σ2 =>
  bindo (X0_holds n σ2 p1) (fun a4 =>
  some ((a4.1 + p2), a4.2)))
abbrev rm_X0_waits : Room := { frames := 2, cells := 0, slots := 0, locals := 42 }
set_option maxRecDepth 100000 in
set_option maxHeartbeats 4000000 in
theorem m_X0_waits {E : EnvT} {n : Nat} {cs : Nat → ClassId} (F : XF E n cs) {p1 : Int32} {p2 : Int32} {σ : Mem} (C : CX E cX0_waits RX0 3 rm_X0_waits) {r0 : Int32 × Mem} (Q : QE E 0 0 (some .int) (RQi r0.1 r0.2)) : J E 3 0 0 r0 (X0_waits n σ p1 p2) σ 0 [(0, .ref (eAd E 27)), (1, .int p1), (2, .int p2)] [] := by

  unfold X0_waits
  refine j_aload_n C dX0_waits_0 0 rfl ?_
  refine j_iconst C (3 : Int32) dX0_waits_1 (by decide) ?_
  refine j_bind (fun σ2 h1 => ?_)
  refine j_callVv (ci := 0) C [.int (3 : Int32)] (c_X0_leave F h1) hM_X0_30 hI_X0_leave hS_X0_leave hZ_X0 hC_X0_leave (xin F (by decide)) (xe_27 F _ _) rfl rfl dd_X0_leave (by decide) ⟨rfl, rfl⟩ (by decide) (Nat.le_of_ble_eq_true rfl) dX0_waits_2 rfl ?_
  refine j_aload_n C dX0_waits_5 0 rfl ?_
  refine j_iload_n C dX0_waits_6 1 rfl ?_
  refine j_bind (fun a4 h3 => ?_)
  refine j_callVi (ci := 0) C [.int p1] (c_X0_holds F h3) hM_X0_15 hI_X0_holds hS_X0_holds hZ_X0 hC_X0_holds (xin F (by decide)) (xe_27 F _ _) rfl rfl dd_X0_holds (by decide) ⟨rfl, rfl⟩ (by decide) (Nat.le_of_ble_eq_true rfl) dX0_waits_7 rfl ?_
  refine j_iload_n C dX0_waits_10 2 rfl ?_
  refine j_iadd C dX0_waits_11 ?_
  exact j_ireti2 C Q dX0_waits_12
set_option maxRecDepth 100000 in
set_option maxHeartbeats 4000000 in
theorem c_X0_waits {E : EnvT} {n : Nat} {cs : Nat → ClassId} (F : XF E n cs) {σ : Mem} {p1 : Int32} {p2 : Int32} {r : Int32 × Mem} (h : X0_waits n σ p1 p2 = some r) : CT E yX0_waits cX0_waits 3 (some .int) rm_X0_waits [.ref (eAd E 27), .int p1, .int p2] σ (RQi r.1 r.2) :=
  ct_X F (by decide) (Nat.le_of_ble_eq_true rfl) (fun E' ea F' C Q => by rw [← ea]; exact m_X0_waits F'  C Q h)
theorem dd_X0_waits : yX0_waits.cls ≠ "java/lang/invoke/MethodHandle" ∧ yX0_waits.cls ≠ "java/lang/invoke/VarHandle" ∧ (parseMethodDescriptor yX0_waits.desc).map (fun d => d.parameters.length) = some 2 := by decide +kernel
def X0_loops (n : Nat) (σ : Mem) : Option (Int32 × Mem) :=
  bindo (X0_leave n σ (4 : Int32)) (fun σ2 =>
  some ((7 : Int32), σ2))
abbrev rm_X0_loops : Room := { frames := 1, cells := 0, slots := 0, locals := 21 }
set_option maxRecDepth 100000 in
set_option maxHeartbeats 4000000 in
theorem m_X0_loops {E : EnvT} {n : Nat} {cs : Nat → ClassId} (F : XF E n cs) {σ : Mem} (C : CX E cX0_loops RX0 1 rm_X0_loops) {r0 : Int32 × Mem} (Q : QE E 0 0 (some .int) (RQi r0.1 r0.2)) : J E 1 0 0 r0 (X0_loops n σ) σ 0 [(0, .ref (eAd E 27))] [] := by

  unfold X0_loops
  refine j_aload_n C dX0_loops_0 0 rfl ?_
  refine j_iconst C (4 : Int32) dX0_loops_1 (by decide) ?_
  refine j_bind (fun σ2 h1 => ?_)
  refine j_callVv (ci := 0) C [.int (4 : Int32)] (c_X0_leave F h1) hM_X0_30 hI_X0_leave hS_X0_leave hZ_X0 hC_X0_leave (xin F (by decide)) (xe_27 F _ _) rfl rfl dd_X0_leave (by decide) ⟨rfl, rfl⟩ (by decide) (Nat.le_of_ble_eq_true rfl) dX0_loops_2 rfl ?_
  refine j_bipush C (7 : Int32) dX0_loops_5 (by decide) ?_
  exact j_ireti2 C Q dX0_loops_7
set_option maxRecDepth 100000 in
set_option maxHeartbeats 4000000 in
theorem c_X0_loops {E : EnvT} {n : Nat} {cs : Nat → ClassId} (F : XF E n cs) {σ : Mem} {r : Int32 × Mem} (h : X0_loops n σ = some r) : CT E yX0_loops cX0_loops 1 (some .int) rm_X0_loops [.ref (eAd E 27)] σ (RQi r.1 r.2) :=
  ct_X F (by decide) (Nat.le_of_ble_eq_true rfl) (fun E' ea F' C Q => by rw [← ea]; exact m_X0_loops F'  C Q h)
theorem dd_X0_loops : yX0_loops.cls ≠ "java/lang/invoke/MethodHandle" ∧ yX0_loops.cls ≠ "java/lang/invoke/VarHandle" ∧ (parseMethodDescriptor yX0_loops.desc).map (fun d => d.parameters.length) = some 0 := by decide +kernel
def X0_telling (n : Nat) (σ : Mem) (p1 : Int32) (p2 : Int32) (p3 : Int32) : Option (Int32 × Mem) :=
  if p1 = (0 : Int32) then
  (bindo (X0_holds n σ p2) (fun a2 =>
  some (a2.1, a2.2)))
  else
  if p1 = (1 : Int32) then
  (bindo (X0_ramps n σ p2) (fun a4 =>
  some (a4.1, a4.2)))
  else
  if p1 = (2 : Int32) then
  (bindo (X0_waits n σ p2 p3) (fun a6 =>
  some (a6.1, a6.2)))
  else
  (bindo (X0_loops n σ) (fun a8 =>
  some (a8.1, a8.2)))
abbrev rm_X0_telling : Room := { frames := 3, cells := 0, slots := 0, locals := 64 }
set_option maxRecDepth 100000 in
set_option maxHeartbeats 4000000 in
theorem m_X0_telling {E : EnvT} {n : Nat} {cs : Nat → ClassId} (F : XF E n cs) {p1 : Int32} {p2 : Int32} {p3 : Int32} {σ : Mem} (C : CX E cX0_telling RX0 4 rm_X0_telling) {r0 : Int32 × Mem} (Q : QE E 0 0 (some .int) (RQi r0.1 r0.2)) : J E 4 0 0 r0 (X0_telling n σ p1 p2 p3) σ 0 [(0, .ref (eAd E 27)), (1, .int p1), (2, .int p2), (3, .int p3)] [] := by

  unfold X0_telling
  refine j_iload_n C dX0_telling_0 1 rfl ?_
  refine j_ite (fun q0 => ?_) (fun q0 => ?_)
  · refine j_tsIn C (0 : Int32) 28 dX0_telling_1 q0 (by decide) (by decide) rfl (by decide) ?_
    refine j_aload_n C dX0_telling_28 0 rfl ?_
    refine j_iload_n C dX0_telling_29 2 rfl ?_
    refine j_bind (fun a2 h1 => ?_)
    refine j_callVi (ci := 0) C [.int p2] (c_X0_holds F h1) hM_X0_15 hI_X0_holds hS_X0_holds hZ_X0 hC_X0_holds (xin F (by decide)) (xe_27 F _ _) rfl rfl dd_X0_holds (by decide) ⟨rfl, rfl⟩ (by decide) (Nat.le_of_ble_eq_true rfl) dX0_telling_30 rfl ?_
    exact j_ireti2 C Q dX0_telling_33
  refine j_ite (fun q1 => ?_) (fun q1 => ?_)
  · refine j_tsIn C (1 : Int32) 34 dX0_telling_1 q1 (by decide) (by decide) rfl (by decide) ?_
    refine j_aload_n C dX0_telling_34 0 rfl ?_
    refine j_iload_n C dX0_telling_35 2 rfl ?_
    refine j_bind (fun a4 h3 => ?_)
    refine j_callVi (ci := 0) C [.int p2] (c_X0_ramps F h3) hM_X0_19 hI_X0_ramps hS_X0_ramps hZ_X0 hC_X0_ramps (xin F (by decide)) (xe_27 F _ _) rfl rfl dd_X0_ramps (by decide) ⟨rfl, rfl⟩ (by decide) (Nat.le_of_ble_eq_true rfl) dX0_telling_36 rfl ?_
    exact j_ireti2 C Q dX0_telling_39
  refine j_ite (fun q2 => ?_) (fun q2 => ?_)
  · refine j_tsIn C (2 : Int32) 40 dX0_telling_1 q2 (by decide) (by decide) rfl (by decide) ?_
    refine j_aload_n C dX0_telling_40 0 rfl ?_
    refine j_iload_n C dX0_telling_41 2 rfl ?_
    refine j_iload_n C dX0_telling_42 3 rfl ?_
    refine j_bind (fun a6 h5 => ?_)
    refine j_callVi (ci := 0) C [.int p2, .int p3] (c_X0_waits F h5) hM_X0_22 hI_X0_waits hS_X0_waits hZ_X0 hC_X0_waits (xin F (by decide)) (xe_27 F _ _) rfl rfl dd_X0_waits (by decide) ⟨rfl, rfl⟩ (by decide) (Nat.le_of_ble_eq_true rfl) dX0_telling_43 rfl ?_
    exact j_ireti2 C Q dX0_telling_46
  refine j_tsOut C 47 dX0_telling_1 (by have z0 := lv_neT (k := (0 : Int32)) (a := 0) q0 (by decide); have z1 := lv_neT (k := (1 : Int32)) (a := 1) q1 (by decide); have z2 := lv_neT (k := (2 : Int32)) (a := 2) q2 (by decide); omega) (by decide) ?_
  refine j_aload_n C dX0_telling_47 0 rfl ?_
  refine j_bind (fun a8 h7 => ?_)
  refine j_callVi (ci := 0) C [] (c_X0_loops F h7) hM_X0_26 hI_X0_loops hS_X0_loops hZ_X0 hC_X0_loops (xin F (by decide)) (xe_27 F _ _) rfl rfl dd_X0_loops (by decide) ⟨rfl, rfl⟩ (by decide) (Nat.le_of_ble_eq_true rfl) dX0_telling_48 rfl ?_
  exact j_ireti2 C Q dX0_telling_51
set_option maxRecDepth 100000 in
set_option maxHeartbeats 4000000 in
theorem c_X0_telling {E : EnvT} {n : Nat} {cs : Nat → ClassId} (F : XF E n cs) {σ : Mem} {p1 : Int32} {p2 : Int32} {p3 : Int32} {r : Int32 × Mem} (h : X0_telling n σ p1 p2 p3 = some r) : CT E yX0_telling cX0_telling 4 (some .int) rm_X0_telling [.ref (eAd E 27), .int p1, .int p2, .int p3] σ (RQi r.1 r.2) :=
  ct_X F (by decide) (Nat.le_of_ble_eq_true rfl) (fun E' ea F' C Q => by rw [← ea]; exact m_X0_telling F'  C Q h)
theorem dd_X0_telling : yX0_telling.cls ≠ "java/lang/invoke/MethodHandle" ∧ yX0_telling.cls ≠ "java/lang/invoke/VarHandle" ∧ (parseMethodDescriptor yX0_telling.desc).map (fun d => d.parameters.length) = some 3 := by decide +kernel
def X0_drawing (n : Nat) (σ : Mem) (p1 : Int32) : Option (Int32 × Mem) :=
  if ¬ p1 = (1 : Int32) then
  (bindo (X0_leave n σ (5 : Int32)) (fun σ2 =>
  some (((100 : Int32) + p1), σ2)))
  else
  (bindo (X0_leave n σ (6 : Int32)) (fun σ4 =>
  some ((3 : Int32), σ4)))
abbrev rm_X0_drawing : Room := { frames := 1, cells := 0, slots := 0, locals := 21 }
set_option maxRecDepth 100000 in
set_option maxHeartbeats 4000000 in
theorem m_X0_drawing {E : EnvT} {n : Nat} {cs : Nat → ClassId} (F : XF E n cs) {p1 : Int32} {σ : Mem} (C : CX E cX0_drawing RX0 2 rm_X0_drawing) {r0 : Int32 × Mem} (Q : QE E 0 0 (some .int) (RQi r0.1 r0.2)) : J E 2 0 0 r0 (X0_drawing n σ p1) σ 0 [(0, .ref (eAd E 27)), (1, .int p1)] [] := by

  unfold X0_drawing
  refine j_iload_n C dX0_drawing_0 1 rfl ?_
  refine j_iconst C (1 : Int32) dX0_drawing_1 (by decide) ?_
  refine j_icmp_ne C 13 dX0_drawing_2 (by decide) ?_ ?_
  · refine j_aload_n C dX0_drawing_13 0 rfl ?_
    refine j_iconst C (5 : Int32) dX0_drawing_14 (by decide) ?_
    refine j_bind (fun σ2 h1 => ?_)
    refine j_callVv (ci := 0) C [.int (5 : Int32)] (c_X0_leave F h1) hM_X0_30 hI_X0_leave hS_X0_leave hZ_X0 hC_X0_leave (xin F (by decide)) (xe_27 F _ _) rfl rfl dd_X0_leave (by decide) ⟨rfl, rfl⟩ (by decide) (Nat.le_of_ble_eq_true rfl) dX0_drawing_15 rfl ?_
    refine j_bipush C (100 : Int32) dX0_drawing_18 (by decide) ?_
    refine j_iload_n C dX0_drawing_20 1 rfl ?_
    refine j_iadd C dX0_drawing_21 ?_
    exact j_ireti2 C Q dX0_drawing_22
  · refine j_aload_n C dX0_drawing_5 0 rfl ?_
    refine j_bipush C (6 : Int32) dX0_drawing_6 (by decide) ?_
    refine j_bind (fun σ4 h3 => ?_)
    refine j_callVv (ci := 0) C [.int (6 : Int32)] (c_X0_leave F h3) hM_X0_30 hI_X0_leave hS_X0_leave hZ_X0 hC_X0_leave (xin F (by decide)) (xe_27 F _ _) rfl rfl dd_X0_leave (by decide) ⟨rfl, rfl⟩ (by decide) (Nat.le_of_ble_eq_true rfl) dX0_drawing_8 rfl ?_
    refine j_iconst C (3 : Int32) dX0_drawing_11 (by decide) ?_
    exact j_ireti2 C Q dX0_drawing_12
set_option maxRecDepth 100000 in
set_option maxHeartbeats 4000000 in
theorem c_X0_drawing {E : EnvT} {n : Nat} {cs : Nat → ClassId} (F : XF E n cs) {σ : Mem} {p1 : Int32} {r : Int32 × Mem} (h : X0_drawing n σ p1 = some r) : CT E yX0_drawing cX0_drawing 2 (some .int) rm_X0_drawing [.ref (eAd E 27), .int p1] σ (RQi r.1 r.2) :=
  ct_X F (by decide) (Nat.le_of_ble_eq_true rfl) (fun E' ea F' C Q => by rw [← ea]; exact m_X0_drawing F'  C Q h)
theorem dd_X0_drawing : yX0_drawing.cls ≠ "java/lang/invoke/MethodHandle" ∧ yX0_drawing.cls ≠ "java/lang/invoke/VarHandle" ∧ (parseMethodDescriptor yX0_drawing.desc).map (fun d => d.parameters.length) = some 1 := by decide +kernel
def X1_readsAt (n : Nat) (o : Nat) (σ : Mem) (p1 : Int32) : Option (Int32) :=
  if (σ.1 o 2) ≤ (0 : Int32) then
  (some (0 : Int32))
  else
  (chk (nz (σ.1 o 2)) (
  if ¬ (p1 - p1 / (σ.1 o 2) * (σ.1 o 2)) = (0 : Int32) then
  (some (0 : Int32))
  else
  (some (1 : Int32))))
abbrev rm_X1_readsAt : Room := { frames := 0, cells := 0, slots := 0, locals := 0 }
set_option maxRecDepth 100000 in
set_option maxHeartbeats 4000000 in
theorem m_X1_readsAt {E : EnvT} {n : Nat} {cs : Nat → ClassId} (F : XF E n cs) {o : Nat} {p1 : Int32} {σ : Mem} (ho : isCh n o = true) (C : CX E cX1_readsAt RX1 2 rm_X1_readsAt) {r0 : Int32} (Q : QE E 0 0 (some .boolean) (RQi r0 σ)) : J E 2 0 0 r0 (X1_readsAt n o σ p1) σ 0 [(0, .ref (eAd E o)), (1, .int p1)] [] := by

  unfold X1_readsAt
  refine j_aload_n C dX1_readsAt_0 0 rfl ?_
  refine j_get (ci := 1) C hU_X1 rfl (xin_Ch F ho) (xe_Ch F ho _ _) 2 (by decide) rfl hF_X1_23 dX1_readsAt_1 ?_
  refine j_if_le C 20 dX1_readsAt_4 (by decide) ?_ ?_
  · refine j_iconst C (0 : Int32) dX1_readsAt_20 (by decide) ?_
    exact j_iretz C rfl Q dX1_readsAt_21
  · refine j_iload_n C dX1_readsAt_7 1 rfl ?_
    refine j_aload_n C dX1_readsAt_8 0 rfl ?_
    refine j_get (ci := 1) C hU_X1 rfl (xin_Ch F ho) (xe_Ch F ho _ _) 2 (by decide) rfl hF_X1_23 dX1_readsAt_9 ?_
    refine j_chk (fun h1 => ?_)
    refine j_iremK C dX1_readsAt_12 (nz_ne h1) ?_
    refine j_if_ne C 20 dX1_readsAt_13 (by decide) ?_ ?_
    · refine j_iconst C (0 : Int32) dX1_readsAt_20 (by decide) ?_
      exact j_iretz C rfl Q dX1_readsAt_21
    · refine j_iconst C (1 : Int32) dX1_readsAt_16 (by decide) ?_
      refine j_goto C 21 dX1_readsAt_17 (by decide) ?_
      exact j_iretz C rfl Q dX1_readsAt_21
set_option maxRecDepth 100000 in
set_option maxHeartbeats 4000000 in
theorem c_X1_readsAt {E : EnvT} {n : Nat} {cs : Nat → ClassId} (F : XF E n cs) {σ : Mem} {o : Nat} {p1 : Int32} (ho : isCh n o = true) {r : Int32} (h : X1_readsAt n o σ p1 = some r) : CT E yX1_readsAt cX1_readsAt 2 (some .boolean) rm_X1_readsAt [.ref (eAd E o), .int p1] σ (RQi r σ) :=
  ct_X F (by decide) (Nat.le_of_ble_eq_true rfl) (fun E' ea F' C Q => by rw [← ea]; exact m_X1_readsAt F' ho C Q h)
theorem dd_X1_readsAt : yX1_readsAt.cls ≠ "java/lang/invoke/MethodHandle" ∧ yX1_readsAt.cls ≠ "java/lang/invoke/VarHandle" ∧ (parseMethodDescriptor yX1_readsAt.desc).map (fun d => d.parameters.length) = some 1 := by decide +kernel
def X1_latestAt (n : Nat) (o : Nat) (σ : Mem) (p1 : Int32) : Option (Int32) :=
  if (σ.1 o 2) ≤ (0 : Int32) then
  (some p1)
  else
  (chk (nz (σ.1 o 2)) (
  some ((p1 / (σ.1 o 2)) * (σ.1 o 2))))
abbrev rm_X1_latestAt : Room := { frames := 0, cells := 0, slots := 0, locals := 0 }
set_option maxRecDepth 100000 in
set_option maxHeartbeats 4000000 in
theorem m_X1_latestAt {E : EnvT} {n : Nat} {cs : Nat → ClassId} (F : XF E n cs) {o : Nat} {p1 : Int32} {σ : Mem} (ho : isCh n o = true) (C : CX E cX1_latestAt RX1 2 rm_X1_latestAt) {r0 : Int32} (Q : QE E 0 0 (some .int) (RQi r0 σ)) : J E 2 0 0 r0 (X1_latestAt n o σ p1) σ 0 [(0, .ref (eAd E o)), (1, .int p1)] [] := by

  unfold X1_latestAt
  refine j_aload_n C dX1_latestAt_0 0 rfl ?_
  refine j_get (ci := 1) C hU_X1 rfl (xin_Ch F ho) (xe_Ch F ho _ _) 2 (by decide) rfl hF_X1_23 dX1_latestAt_1 ?_
  refine j_if_le C 21 dX1_latestAt_4 (by decide) ?_ ?_
  · refine j_iload_n C dX1_latestAt_21 1 rfl ?_
    exact j_ireti C Q dX1_latestAt_22
  · refine j_iload_n C dX1_latestAt_7 1 rfl ?_
    refine j_aload_n C dX1_latestAt_8 0 rfl ?_
    refine j_get (ci := 1) C hU_X1 rfl (xin_Ch F ho) (xe_Ch F ho _ _) 2 (by decide) rfl hF_X1_23 dX1_latestAt_9 ?_
    refine j_chk (fun h1 => ?_)
    refine j_idivK C dX1_latestAt_12 (nz_ne h1) ?_
    refine j_aload_n C dX1_latestAt_13 0 rfl ?_
    refine j_get (ci := 1) C hU_X1 rfl (xin_Ch F ho) (xe_Ch F ho _ _) 2 (by decide) rfl hF_X1_23 dX1_latestAt_14 ?_
    refine j_imul C dX1_latestAt_17 ?_
    refine j_goto C 22 dX1_latestAt_18 (by decide) ?_
    exact j_ireti C Q dX1_latestAt_22
set_option maxRecDepth 100000 in
set_option maxHeartbeats 4000000 in
theorem c_X1_latestAt {E : EnvT} {n : Nat} {cs : Nat → ClassId} (F : XF E n cs) {σ : Mem} {o : Nat} {p1 : Int32} (ho : isCh n o = true) {r : Int32} (h : X1_latestAt n o σ p1 = some r) : CT E yX1_latestAt cX1_latestAt 2 (some .int) rm_X1_latestAt [.ref (eAd E o), .int p1] σ (RQi r σ) :=
  ct_X F (by decide) (Nat.le_of_ble_eq_true rfl) (fun E' ea F' C Q => by rw [← ea]; exact m_X1_latestAt F' ho C Q h)
theorem dd_X1_latestAt : yX1_latestAt.cls ≠ "java/lang/invoke/MethodHandle" ∧ yX1_latestAt.cls ≠ "java/lang/invoke/VarHandle" ∧ (parseMethodDescriptor yX1_latestAt.desc).map (fun d => d.parameters.length) = some 1 := by decide +kernel
def X1_firstFrom (n : Nat) (o : Nat) (σ : Mem) (p1 : Int32) : Option (Int32) :=
  bindo (X1_latestAt n o σ ((p1 + (σ.1 o 2)) - (1 : Int32))) (fun r2 =>
  some r2)
abbrev rm_X1_firstFrom : Room := { frames := 1, cells := 0, slots := 0, locals := 21 }
set_option maxRecDepth 100000 in
set_option maxHeartbeats 4000000 in
theorem m_X1_firstFrom {E : EnvT} {n : Nat} {cs : Nat → ClassId} (F : XF E n cs) {o : Nat} {p1 : Int32} {σ : Mem} (ho : isCh n o = true) (C : CX E cX1_firstFrom RX1 2 rm_X1_firstFrom) {r0 : Int32} (Q : QE E 0 0 (some .int) (RQi r0 σ)) : J E 2 0 0 r0 (X1_firstFrom n o σ p1) σ 0 [(0, .ref (eAd E o)), (1, .int p1)] [] := by

  unfold X1_firstFrom
  refine j_aload_n C dX1_firstFrom_0 0 rfl ?_
  refine j_iload_n C dX1_firstFrom_1 1 rfl ?_
  refine j_aload_n C dX1_firstFrom_2 0 rfl ?_
  refine j_get (ci := 1) C hU_X1 rfl (xin_Ch F ho) (xe_Ch F ho _ _) 2 (by decide) rfl hF_X1_23 dX1_firstFrom_3 ?_
  refine j_iadd C dX1_firstFrom_6 ?_
  refine j_iconst C (1 : Int32) dX1_firstFrom_7 (by decide) ?_
  refine j_isub C dX1_firstFrom_8 ?_
  refine j_bind (fun r2 h1 => ?_)
  refine j_callVi (ci := 1) C [.int ((p1 + (σ.1 o 2)) - (1 : Int32))] (c_X1_latestAt F ho h1) hM_X1_35 hI_X1_latestAt hS_X1_latestAt hZ_X1 hC_X1_latestAt (xin_Ch F ho) (xe_Ch F ho _ _) rfl rfl dd_X1_latestAt (by decide) ⟨rfl, rfl⟩ (by decide) (Nat.le_of_ble_eq_true rfl) dX1_firstFrom_9 rfl ?_
  exact j_ireti C Q dX1_firstFrom_12
set_option maxRecDepth 100000 in
set_option maxHeartbeats 4000000 in
theorem c_X1_firstFrom {E : EnvT} {n : Nat} {cs : Nat → ClassId} (F : XF E n cs) {σ : Mem} {o : Nat} {p1 : Int32} (ho : isCh n o = true) {r : Int32} (h : X1_firstFrom n o σ p1 = some r) : CT E yX1_firstFrom cX1_firstFrom 2 (some .int) rm_X1_firstFrom [.ref (eAd E o), .int p1] σ (RQi r σ) :=
  ct_X F (by decide) (Nat.le_of_ble_eq_true rfl) (fun E' ea F' C Q => by rw [← ea]; exact m_X1_firstFrom F' ho C Q h)
theorem dd_X1_firstFrom : yX1_firstFrom.cls ≠ "java/lang/invoke/MethodHandle" ∧ yX1_firstFrom.cls ≠ "java/lang/invoke/VarHandle" ∧ (parseMethodDescriptor yX1_firstFrom.desc).map (fun d => d.parameters.length) = some 1 := by decide +kernel
def X11_within (p1 : Int32) (p2 : Int32) (p3 : Int32) : Option (Int32) :=
  if p1 < p2 then
  (some (0 : Int32))
  else
  (if p3 < p1 then
  (some (0 : Int32))
  else
  (some (1 : Int32)))
abbrev rm_X11_within : Room := { frames := 0, cells := 0, slots := 0, locals := 0 }
set_option maxRecDepth 100000 in
set_option maxHeartbeats 4000000 in
theorem m_X11_within {E : EnvT}  {p1 : Int32} {p2 : Int32} {p3 : Int32} {σ : Mem} (C : CX E cX11_within RX11 3 rm_X11_within) {r0 : Int32} (Q : QE E 0 0 (some .boolean) (RQi r0 σ)) : J E 3 0 0 r0 (X11_within p1 p2 p3) σ 0 [(0, .int p1), (1, .int p2), (2, .int p3)] [] := by

  unfold X11_within
  refine j_iload_n C dX11_within_0 0 rfl ?_
  refine j_iload_n C dX11_within_1 1 rfl ?_
  refine j_icmp_lt C 14 dX11_within_2 (by decide) ?_ ?_
  · refine j_iconst C (0 : Int32) dX11_within_14 (by decide) ?_
    exact j_iretz C rfl Q dX11_within_15
  · refine j_iload_n C dX11_within_5 0 rfl ?_
    refine j_iload_n C dX11_within_6 2 rfl ?_
    refine j_icmp_gt C 14 dX11_within_7 (by decide) ?_ ?_
    · refine j_iconst C (0 : Int32) dX11_within_14 (by decide) ?_
      exact j_iretz C rfl Q dX11_within_15
    · refine j_iconst C (1 : Int32) dX11_within_10 (by decide) ?_
      refine j_goto C 15 dX11_within_11 (by decide) ?_
      exact j_iretz C rfl Q dX11_within_15
set_option maxRecDepth 100000 in
set_option maxHeartbeats 4000000 in
theorem c_X11_within {E : EnvT} {n : Nat} {cs : Nat → ClassId} (F : XF E n cs) {σ : Mem} {p1 : Int32} {p2 : Int32} {p3 : Int32} {r : Int32} (h : X11_within p1 p2 p3 = some r) : CT E yX11_within cX11_within 3 (some .boolean) rm_X11_within [.int p1, .int p2, .int p3] σ (RQi r σ) :=
  ct_X F (by decide) (Nat.le_of_ble_eq_true rfl) (fun E' ea F' C Q => by exact m_X11_within  C Q h)
theorem dd_X11_within : yX11_within.cls ≠ "java/lang/invoke/MethodHandle" ∧ yX11_within.cls ≠ "java/lang/invoke/VarHandle" ∧ (parseMethodDescriptor yX11_within.desc).map (fun d => d.parameters.length) = some 3 := by decide +kernel
def X10_covers_b48 (n : Nat) (o : Nat) (rec2 : (Int32 × Int32 × Int32) → Option (Int32)) (σ : Mem) (v1 : Int32) (v2 : Int32) (v3 : Int32) : Option (Int32) :=
  lete (v3 + (1 : Int32)) (fun x1 =>
  rec2 (v1, v2, x1))
def X10_covers_l2 (n : Nat) (o : Nat) (rec2 : (Int32 × Int32 × Int32) → Option (Int32)) (σ : Mem) (v1 : Int32) (v2 : Int32) (v3 : Int32) : Option (Int32) :=
  if (σ.1 o 4) ≤ v3 then
  (some (0 : Int32))
  else
  (if (20 : Int32) ≤ v3 then
  (some (0 : Int32))
  else
  (chk (inb v3 20) (
  if ¬ (σ.1 (o + 1) (ix v3)) = v1 then
  (X10_covers_b48 n o rec2 σ v1 v2 v3)
  else
  (chk (inb v3 20) (
  if v2 < (σ.1 (o + 2) (ix v3)) then
  (X10_covers_b48 n o rec2 σ v1 v2 v3)
  else
  (chk (inb v3 20) (
  if (σ.1 (o + 3) (ix v3)) < v2 then
  (X10_covers_b48 n o rec2 σ v1 v2 v3)
  else
  (some (1 : Int32)))))))))
def X10_covers (n : Nat) (o : Nat) (σ : Mem) (p1 : Int32) (p2 : Int32) : Option (Int32) :=
  loopF (fun (rec : (Int32 × Int32 × Int32) → Option (Int32)) (s : Int32 × Int32 × Int32) => X10_covers_l2 n o rec σ s.1 s.2.1 s.2.2)  FU (p1, p2, (0 : Int32))
abbrev rm_X10_covers : Room := { frames := 0, cells := 0, slots := 0, locals := 0 }
set_option maxRecDepth 100000 in
set_option maxHeartbeats 4000000 in
theorem m_X10_covers {E : EnvT} {n : Nat} {cs : Nat → ClassId} (F : XF E n cs) {o : Nat} {p1 : Int32} {p2 : Int32} {σ : Mem} (ho : isTl o = true) (C : CX E cX10_covers RX10 4 rm_X10_covers) {r0 : Int32} (Q : QE E 0 0 (some .boolean) (RQi r0 σ)) : J E 4 0 0 r0 (X10_covers n o σ p1 p2) σ 0 [(0, .ref (eAd E o)), (1, .int p1), (2, .int p2)] [] := by
  have hB48 : ∀ (rec2 : (Int32 × Int32 × Int32) → Option (Int32)) (hrec2 : ∀ a : Int32 × Int32 × Int32, J E 4 0 0 r0 (rec2 a) σ 2 [(0, .ref (eAd E o)), (1, .int a.1), (2, .int a.2.1), (3, .int a.2.2)] []) (v1 : Int32) (v2 : Int32) (v3 : Int32), J E 4 0 0 r0 (X10_covers_b48 n o rec2 σ v1 v2 v3) σ 48 [(0, .ref (eAd E o)), (1, .int v1), (2, .int v2), (3, .int v3)] [] := by
    intro rec2 hrec2 v1 v2 v3
    unfold X10_covers_b48
    refine j_iincN (lf := fun x1 => [(3, .int x1), (0, .ref (eAd E o)), (1, .int v1), (2, .int v2)]) C dX10_covers_48 3 rfl (by rfl) (by decide) (fun _ => rfl) (fun x1 => ?_)
    refine j_goto C 2 dX10_covers_51 (by decide) ?_
    refine j_lv [(0, .ref (eAd E o)), (1, .int v1), (2, .int v2), (3, .int x1)] [1, 2, 3, 0] rfl ?_
    exact hrec2 (v1, v2, x1)
  have hL2 : ∀ (f : Nat) (a : Int32 × Int32 × Int32), J E 4 0 0 r0 (loopF (fun (rec : (Int32 × Int32 × Int32) → Option (Int32)) (s : Int32 × Int32 × Int32) => X10_covers_l2 n o rec σ s.1 s.2.1 s.2.2) f a) σ 2 [(0, .ref (eAd E o)), (1, .int a.1), (2, .int a.2.1), (3, .int a.2.2)] [] := by
    refine j_loop (M := fun (a : Int32 × Int32 × Int32) => σ) (L := fun (a : Int32 × Int32 × Int32) => [(0, .ref (eAd E o)), (1, .int a.1), (2, .int a.2.1), (3, .int a.2.2)]) (S := fun (a : Int32 × Int32 × Int32) => []) (fun rec2 hrec2 a => ?_)
    obtain ⟨v1, v2, v3⟩ := a
    show J E 4 0 0 r0 (X10_covers_l2 n o rec2 σ v1 v2 v3) σ 2 [(0, .ref (eAd E o)), (1, .int v1), (2, .int v2), (3, .int v3)] []
    unfold X10_covers_l2
    refine j_iload_n C dX10_covers_2 3 rfl ?_
    refine j_aload_n C dX10_covers_3 0 rfl ?_
    refine j_get (ci := 10) C hU_X10 rfl (xin_Tl F ho) (xe_Tl F ho _ _) 4 (by decide) rfl hF_X10_24 dX10_covers_4 ?_
    refine j_icmp_ge C 54 dX10_covers_7 (by decide) ?_ ?_
    · refine j_iconst C (0 : Int32) dX10_covers_54 (by decide) ?_
      exact j_iretz C rfl Q dX10_covers_55
    · refine j_iload_n C dX10_covers_10 3 rfl ?_
      refine j_bipush C (20 : Int32) dX10_covers_11 (by decide) ?_
      refine j_icmp_ge C 54 dX10_covers_13 (by decide) ?_ ?_
      · refine j_iconst C (0 : Int32) dX10_covers_54 (by decide) ?_
        exact j_iretz C rfl Q dX10_covers_55
      · refine j_aload_n C dX10_covers_16 0 rfl ?_
        refine j_get (ci := 10) C hU_X10 rfl (xin_Tl F ho) (xe_Tl F ho _ _) 0 (by decide) rfl hF_X10_9 dX10_covers_17 ?_
        refine j_iload_n C dX10_covers_20 3 rfl ?_
        refine j_chk (fun h1 => ?_)
        refine j_iald (t0 := 0) C (xin_Tl1 F ho) (xe_Tl1 F ho _ _) (xt0 F) (inb_in h1) dX10_covers_21 ?_
        refine j_iload_n C dX10_covers_22 1 rfl ?_
        refine j_icmp_ne C 48 dX10_covers_23 (by decide) ?_ ?_
        · refine j_lv [(0, .ref (eAd E o)), (1, .int v1), (2, .int v2), (3, .int v3)] [0, 1, 2, 3] rfl ?_
          exact hB48 rec2 hrec2 v1 v2 v3
        · refine j_aload_n C dX10_covers_26 0 rfl ?_
          refine j_get (ci := 10) C hU_X10 rfl (xin_Tl F ho) (xe_Tl F ho _ _) 1 (by decide) rfl hF_X10_15 dX10_covers_27 ?_
          refine j_iload_n C dX10_covers_30 3 rfl ?_
          refine j_chk (fun h2 => ?_)
          refine j_iald (t0 := 0) C (xin_Tl2 F ho) (xe_Tl2 F ho _ _) (xt0 F) (inb_in h2) dX10_covers_31 ?_
          refine j_iload_n C dX10_covers_32 2 rfl ?_
          refine j_icmp_gt C 48 dX10_covers_33 (by decide) ?_ ?_
          · refine j_lv [(0, .ref (eAd E o)), (1, .int v1), (2, .int v2), (3, .int v3)] [0, 1, 2, 3] rfl ?_
            exact hB48 rec2 hrec2 v1 v2 v3
          · refine j_iload_n C dX10_covers_36 2 rfl ?_
            refine j_aload_n C dX10_covers_37 0 rfl ?_
            refine j_get (ci := 10) C hU_X10 rfl (xin_Tl F ho) (xe_Tl F ho _ _) 2 (by decide) rfl hF_X10_18 dX10_covers_38 ?_
            refine j_iload_n C dX10_covers_41 3 rfl ?_
            refine j_chk (fun h3 => ?_)
            refine j_iald (t0 := 0) C (xin_Tl3 F ho) (xe_Tl3 F ho _ _) (xt0 F) (inb_in h3) dX10_covers_42 ?_
            refine j_icmp_gt C 48 dX10_covers_43 (by decide) ?_ ?_
            · refine j_lv [(0, .ref (eAd E o)), (1, .int v1), (2, .int v2), (3, .int v3)] [0, 1, 2, 3] rfl ?_
              exact hB48 rec2 hrec2 v1 v2 v3
            · refine j_iconst C (1 : Int32) dX10_covers_46 (by decide) ?_
              exact j_iretz C rfl Q dX10_covers_47
  unfold X10_covers
  refine j_iconst C (0 : Int32) dX10_covers_0 (by decide) ?_
  refine j_istore_n (lv' := [(3, .int (0 : Int32)), (0, .ref (eAd E o)), (1, .int p1), (2, .int p2)]) C dX10_covers_1 (by decide) rfl ?_
  refine j_lv [(0, .ref (eAd E o)), (1, .int p1), (2, .int p2), (3, .int (0 : Int32))] [1, 2, 3, 0] rfl ?_
  exact hL2  FU (p1, p2, (0 : Int32))
set_option maxRecDepth 100000 in
set_option maxHeartbeats 4000000 in
theorem c_X10_covers {E : EnvT} {n : Nat} {cs : Nat → ClassId} (F : XF E n cs) {σ : Mem} {o : Nat} {p1 : Int32} {p2 : Int32} (ho : isTl o = true) {r : Int32} (h : X10_covers n o σ p1 p2 = some r) : CT E yX10_covers cX10_covers 4 (some .boolean) rm_X10_covers [.ref (eAd E o), .int p1, .int p2] σ (RQi r σ) :=
  ct_X F (by decide) (Nat.le_of_ble_eq_true rfl) (fun E' ea F' C Q => by rw [← ea]; exact m_X10_covers F' ho C Q h)
theorem dd_X10_covers : yX10_covers.cls ≠ "java/lang/invoke/MethodHandle" ∧ yX10_covers.cls ≠ "java/lang/invoke/VarHandle" ∧ (parseMethodDescriptor yX10_covers.desc).map (fun d => d.parameters.length) = some 2 := by decide +kernel
def X3_part (n : Nat) (σ : Mem) (p1 : Int32) (p2 : Int32) : Option (Int32) :=
  bindo (X11_within p1 (0 : Int32) (3000 : Int32)) (fun r2 =>
  if r2 = (0 : Int32) then
  (some (0 : Int32))
  else
  (bindo (X11_within p2 (0 : Int32) (6 : Int32)) (fun r4 =>
  if ¬ r4 = (0 : Int32) then
  (chk (inb ((p1 * (7 : Int32)) + p2) 21007) (
  some (σ.1 3 (ix ((p1 * (7 : Int32)) + p2)))))
  else
  (some (0 : Int32)))))
abbrev rm_X3_part : Room := { frames := 1, cells := 0, slots := 0, locals := 22 }
set_option maxRecDepth 100000 in
set_option maxHeartbeats 4000000 in
theorem m_X3_part {E : EnvT} {n : Nat} {cs : Nat → ClassId} (F : XF E n cs) {p1 : Int32} {p2 : Int32} {σ : Mem} (C : CX E cX3_part RX3 3 rm_X3_part) {r0 : Int32} (Q : QE E 0 0 (some .int) (RQi r0 σ)) : J E 3 0 0 r0 (X3_part n σ p1 p2) σ 0 [(0, .ref (eAd E 1)), (1, .int p1), (2, .int p2)] [] := by

  unfold X3_part
  refine j_iload_n C dX3_part_0 1 rfl ?_
  refine j_iconst C (0 : Int32) dX3_part_1 (by decide) ?_
  refine j_sipush C (3000 : Int32) dX3_part_2 (by decide) ?_
  refine j_bind (fun r2 h1 => ?_)
  refine j_callNi C [.int p1, .int (0 : Int32), .int (3000 : Int32)] (c_X11_within F h1) nhN_X3_25 hT_X11_within hZ_X11 hC_X11_within dd_X11_within (by decide) ⟨rfl, rfl⟩ (by decide) (Nat.le_of_ble_eq_true rfl) dX3_part_5 rfl ?_
  refine j_if_eq C 21 dX3_part_8 (by decide) ?_ ?_
  · refine j_iconst C (0 : Int32) dX3_part_21 (by decide) ?_
    exact j_ireti C Q dX3_part_22
  · refine j_iload_n C dX3_part_11 2 rfl ?_
    refine j_iconst C (0 : Int32) dX3_part_12 (by decide) ?_
    refine j_bipush C (6 : Int32) dX3_part_13 (by decide) ?_
    refine j_bind (fun r4 h3 => ?_)
    refine j_callNi C [.int p2, .int (0 : Int32), .int (6 : Int32)] (c_X11_within F h3) nhN_X3_25 hT_X11_within hZ_X11 hC_X11_within dd_X11_within (by decide) ⟨rfl, rfl⟩ (by decide) (Nat.le_of_ble_eq_true rfl) dX3_part_15 rfl ?_
    refine j_if_ne C 23 dX3_part_18 (by decide) ?_ ?_
    · refine j_aload_n C dX3_part_23 0 rfl ?_
      refine j_get (ci := 3) C hU_X3 rfl (xin F (by decide)) (xe_1 F _ _) 1 (by decide) rfl hF_X3_15 dX3_part_24 ?_
      refine j_iload_n C dX3_part_27 1 rfl ?_
      refine j_bipush C (7 : Int32) dX3_part_28 (by decide) ?_
      refine j_imul C dX3_part_30 ?_
      refine j_iload_n C dX3_part_31 2 rfl ?_
      refine j_iadd C dX3_part_32 ?_
      refine j_chk (fun h5 => ?_)
      refine j_iald (t0 := 0) C (xin F (by decide)) (xe_3 F _ _) (xt0 F) (inb_in h5) dX3_part_33 ?_
      exact j_ireti C Q dX3_part_34
    · refine j_iconst C (0 : Int32) dX3_part_21 (by decide) ?_
      exact j_ireti C Q dX3_part_22
set_option maxRecDepth 100000 in
set_option maxHeartbeats 4000000 in
theorem c_X3_part {E : EnvT} {n : Nat} {cs : Nat → ClassId} (F : XF E n cs) {σ : Mem} {p1 : Int32} {p2 : Int32} {r : Int32} (h : X3_part n σ p1 p2 = some r) : CT E yX3_part cX3_part 3 (some .int) rm_X3_part [.ref (eAd E 1), .int p1, .int p2] σ (RQi r σ) :=
  ct_X F (by decide) (Nat.le_of_ble_eq_true rfl) (fun E' ea F' C Q => by rw [← ea]; exact m_X3_part F'  C Q h)
theorem dd_X3_part : yX3_part.cls ≠ "java/lang/invoke/MethodHandle" ∧ yX3_part.cls ≠ "java/lang/invoke/VarHandle" ∧ (parseMethodDescriptor yX3_part.desc).map (fun d => d.parameters.length) = some 2 := by decide +kernel
def X10_apply_b62 (n : Nat) (o : Nat) (rec13 : (Int32 × Int32 × Int32 × Int32) → Option (Int32)) (σ : Mem) (v1 : Int32) (v2 : Int32) (v3 : Int32) (v4 : Int32) : Option (Int32) :=
  lete (v4 + (-1 : Int32)) (fun x1 =>
  rec13 (v1, v2, v3, x1))
def X10_apply_l13 (n : Nat) (o : Nat) (rec13 : (Int32 × Int32 × Int32 × Int32) → Option (Int32)) (σ : Mem) (v1 : Int32) (v2 : Int32) (v3 : Int32) (v4 : Int32) : Option (Int32) :=
  if v4 < (0 : Int32) then
  (some v3)
  else
  (chk (inb v4 20) (
  if ¬ (σ.1 (o + 1) (ix v4)) = v1 then
  (X10_apply_b62 n o rec13 σ v1 v2 v3 v4)
  else
  (chk (inb v4 20) (
  if v2 < (σ.1 (o + 2) (ix v4)) then
  (X10_apply_b62 n o rec13 σ v1 v2 v3 v4)
  else
  (chk (inb v4 20) (
  chk (inb v4 20) (
  some (((v3 * (σ.1 (o + 3) (ix v4))) / (1000 : Int32)) + (σ.1 (o + 4) (ix v4))))))))))
def X10_apply (n : Nat) (o : Nat) (σ : Mem) (p1 : Int32) (p2 : Int32) (p3 : Int32) : Option (Int32) :=
  lete (mnI (σ.1 o 4) (20 : Int32)) (fun x1 =>
  lete (x1 - (1 : Int32)) (fun x2 =>
  loopF (fun (rec : (Int32 × Int32 × Int32 × Int32) → Option (Int32)) (s : Int32 × Int32 × Int32 × Int32) => X10_apply_l13 n o rec σ s.1 s.2.1 s.2.2.1 s.2.2.2)  FU (p1, p2, p3, x2)))
abbrev rm_X10_apply : Room := { frames := 1, cells := 0, slots := 0, locals := 24 }
set_option maxRecDepth 100000 in
set_option maxHeartbeats 4000000 in
theorem m_X10_apply {E : EnvT} {n : Nat} {cs : Nat → ClassId} (F : XF E n cs) {o : Nat} {p1 : Int32} {p2 : Int32} {p3 : Int32} {σ : Mem} (ho : isTl o = true) (C : CX E cX10_apply RX10 5 rm_X10_apply) {r0 : Int32} (Q : QE E 0 0 (some .int) (RQi r0 σ)) : J E 5 0 0 r0 (X10_apply n o σ p1 p2 p3) σ 0 [(0, .ref (eAd E o)), (1, .int p1), (2, .int p2), (3, .int p3)] [] := by
  have hB62 : ∀ (rec13 : (Int32 × Int32 × Int32 × Int32) → Option (Int32)) (hrec13 : ∀ a : Int32 × Int32 × Int32 × Int32, J E 5 0 0 r0 (rec13 a) σ 13 [(0, .ref (eAd E o)), (1, .int a.1), (2, .int a.2.1), (3, .int a.2.2.1), (4, .int a.2.2.2)] []) (v1 : Int32) (v2 : Int32) (v3 : Int32) (v4 : Int32), J E 5 0 0 r0 (X10_apply_b62 n o rec13 σ v1 v2 v3 v4) σ 62 [(0, .ref (eAd E o)), (1, .int v1), (2, .int v2), (3, .int v3), (4, .int v4)] [] := by
    intro rec13 hrec13 v1 v2 v3 v4
    unfold X10_apply_b62
    refine j_iincN (lf := fun x1 => [(4, .int x1), (0, .ref (eAd E o)), (1, .int v1), (2, .int v2), (3, .int v3)]) C dX10_apply_62 4 rfl (by rfl) (by decide) (fun _ => rfl) (fun x1 => ?_)
    refine j_goto C 13 dX10_apply_65 (by decide) ?_
    refine j_lv [(0, .ref (eAd E o)), (1, .int v1), (2, .int v2), (3, .int v3), (4, .int x1)] [1, 2, 3, 4, 0] rfl ?_
    exact hrec13 (v1, v2, v3, x1)
  have hL13 : ∀ (f : Nat) (a : Int32 × Int32 × Int32 × Int32), J E 5 0 0 r0 (loopF (fun (rec : (Int32 × Int32 × Int32 × Int32) → Option (Int32)) (s : Int32 × Int32 × Int32 × Int32) => X10_apply_l13 n o rec σ s.1 s.2.1 s.2.2.1 s.2.2.2) f a) σ 13 [(0, .ref (eAd E o)), (1, .int a.1), (2, .int a.2.1), (3, .int a.2.2.1), (4, .int a.2.2.2)] [] := by
    refine j_loop (M := fun (a : Int32 × Int32 × Int32 × Int32) => σ) (L := fun (a : Int32 × Int32 × Int32 × Int32) => [(0, .ref (eAd E o)), (1, .int a.1), (2, .int a.2.1), (3, .int a.2.2.1), (4, .int a.2.2.2)]) (S := fun (a : Int32 × Int32 × Int32 × Int32) => []) (fun rec13 hrec13 a => ?_)
    obtain ⟨v1, v2, v3, v4⟩ := a
    show J E 5 0 0 r0 (X10_apply_l13 n o rec13 σ v1 v2 v3 v4) σ 13 [(0, .ref (eAd E o)), (1, .int v1), (2, .int v2), (3, .int v3), (4, .int v4)] []
    unfold X10_apply_l13
    refine j_iload C dX10_apply_13 4 rfl ?_
    refine j_if_lt C 68 dX10_apply_15 (by decide) ?_ ?_
    · refine j_iload_n C dX10_apply_68 3 rfl ?_
      exact j_ireti C Q dX10_apply_69
    · refine j_aload_n C dX10_apply_18 0 rfl ?_
      refine j_get (ci := 10) C hU_X10 rfl (xin_Tl F ho) (xe_Tl F ho _ _) 0 (by decide) rfl hF_X10_9 dX10_apply_19 ?_
      refine j_iload C dX10_apply_22 4 rfl ?_
      refine j_chk (fun h1 => ?_)
      refine j_iald (t0 := 0) C (xin_Tl1 F ho) (xe_Tl1 F ho _ _) (xt0 F) (inb_in h1) dX10_apply_24 ?_
      refine j_iload_n C dX10_apply_25 1 rfl ?_
      refine j_icmp_ne C 62 dX10_apply_26 (by decide) ?_ ?_
      · refine j_lv [(0, .ref (eAd E o)), (1, .int v1), (2, .int v2), (3, .int v3), (4, .int v4)] [0, 1, 2, 3, 4] rfl ?_
        exact hB62 rec13 hrec13 v1 v2 v3 v4
      · refine j_aload_n C dX10_apply_29 0 rfl ?_
        refine j_get (ci := 10) C hU_X10 rfl (xin_Tl F ho) (xe_Tl F ho _ _) 1 (by decide) rfl hF_X10_15 dX10_apply_30 ?_
        refine j_iload C dX10_apply_33 4 rfl ?_
        refine j_chk (fun h2 => ?_)
        refine j_iald (t0 := 0) C (xin_Tl2 F ho) (xe_Tl2 F ho _ _) (xt0 F) (inb_in h2) dX10_apply_35 ?_
        refine j_iload_n C dX10_apply_36 2 rfl ?_
        refine j_icmp_gt C 62 dX10_apply_37 (by decide) ?_ ?_
        · refine j_lv [(0, .ref (eAd E o)), (1, .int v1), (2, .int v2), (3, .int v3), (4, .int v4)] [0, 1, 2, 3, 4] rfl ?_
          exact hB62 rec13 hrec13 v1 v2 v3 v4
        · refine j_iload_n C dX10_apply_40 3 rfl ?_
          refine j_aload_n C dX10_apply_41 0 rfl ?_
          refine j_get (ci := 10) C hU_X10 rfl (xin_Tl F ho) (xe_Tl F ho _ _) 2 (by decide) rfl hF_X10_18 dX10_apply_42 ?_
          refine j_iload C dX10_apply_45 4 rfl ?_
          refine j_chk (fun h3 => ?_)
          refine j_iald (t0 := 0) C (xin_Tl3 F ho) (xe_Tl3 F ho _ _) (xt0 F) (inb_in h3) dX10_apply_47 ?_
          refine j_imul C dX10_apply_48 ?_
          refine j_sipush C (1000 : Int32) dX10_apply_49 (by decide) ?_
          refine j_idivK C dX10_apply_52 (by decide) ?_
          refine j_aload_n C dX10_apply_53 0 rfl ?_
          refine j_get (ci := 10) C hU_X10 rfl (xin_Tl F ho) (xe_Tl F ho _ _) 3 (by decide) rfl hF_X10_21 dX10_apply_54 ?_
          refine j_iload C dX10_apply_57 4 rfl ?_
          refine j_chk (fun h4 => ?_)
          refine j_iald (t0 := 0) C (xin_Tl4 F ho) (xe_Tl4 F ho _ _) (xt0 F) (inb_in h4) dX10_apply_59 ?_
          refine j_iadd C dX10_apply_60 ?_
          exact j_ireti C Q dX10_apply_61
  unfold X10_apply
  refine j_aload_n C dX10_apply_0 0 rfl ?_
  refine j_get (ci := 10) C hU_X10 rfl (xin_Tl F ho) (xe_Tl F ho _ _) 4 (by decide) rfl hF_X10_24 dX10_apply_1 ?_
  refine j_bipush C (20 : Int32) dX10_apply_4 (by decide) ?_
  refine j_mmin C hM_X10_32 hT_J9_min_7cf53 hZ_J9 hC_J9_min_7cf53 (by decide) (Nat.le_of_ble_eq_true rfl) (by decide) dX10_apply_6 ?_
  refine j_nmi (fun x1 => ?_)
  refine j_iconst C (1 : Int32) dX10_apply_9 (by decide) ?_
  refine j_isub C dX10_apply_10 ?_
  refine j_nmi (fun x2 => ?_)
  refine j_istore (lv' := [(4, .int x2), (0, .ref (eAd E o)), (1, .int p1), (2, .int p2), (3, .int p3)]) C dX10_apply_11 (by decide) rfl ?_
  refine j_lv [(0, .ref (eAd E o)), (1, .int p1), (2, .int p2), (3, .int p3), (4, .int x2)] [1, 2, 3, 4, 0] rfl ?_
  exact hL13  FU (p1, p2, p3, x2)
set_option maxRecDepth 100000 in
set_option maxHeartbeats 4000000 in
theorem c_X10_apply {E : EnvT} {n : Nat} {cs : Nat → ClassId} (F : XF E n cs) {σ : Mem} {o : Nat} {p1 : Int32} {p2 : Int32} {p3 : Int32} (ho : isTl o = true) {r : Int32} (h : X10_apply n o σ p1 p2 p3 = some r) : CT E yX10_apply cX10_apply 5 (some .int) rm_X10_apply [.ref (eAd E o), .int p1, .int p2, .int p3] σ (RQi r σ) :=
  ct_X F (by decide) (Nat.le_of_ble_eq_true rfl) (fun E' ea F' C Q => by rw [← ea]; exact m_X10_apply F' ho C Q h)
theorem dd_X10_apply : yX10_apply.cls ≠ "java/lang/invoke/MethodHandle" ∧ yX10_apply.cls ≠ "java/lang/invoke/VarHandle" ∧ (parseMethodDescriptor yX10_apply.desc).map (fun d => d.parameters.length) = some 3 := by decide +kernel
def X3_mapped (n : Nat) (σ : Mem) (p1 : Int32) : Option (Int32) :=
  bindo (X11_within p1 (0 : Int32) (24 : Int32)) (fun r2 =>
  if r2 = (0 : Int32) then
  (some (0 : Int32))
  else
  (chk (inb p1 25) (
  some (σ.1 2 (ix p1)))))
abbrev rm_X3_mapped : Room := { frames := 1, cells := 0, slots := 0, locals := 22 }
set_option maxRecDepth 100000 in
set_option maxHeartbeats 4000000 in
theorem m_X3_mapped {E : EnvT} {n : Nat} {cs : Nat → ClassId} (F : XF E n cs) {p1 : Int32} {σ : Mem} (C : CX E cX3_mapped RX3 2 rm_X3_mapped) {r0 : Int32} (Q : QE E 0 0 (some .int) (RQi r0 σ)) : J E 2 0 0 r0 (X3_mapped n σ p1) σ 0 [(0, .ref (eAd E 1)), (1, .int p1)] [] := by

  unfold X3_mapped
  refine j_iload_n C dX3_mapped_0 1 rfl ?_
  refine j_iconst C (0 : Int32) dX3_mapped_1 (by decide) ?_
  refine j_bipush C (24 : Int32) dX3_mapped_2 (by decide) ?_
  refine j_bind (fun r2 h1 => ?_)
  refine j_callNi C [.int p1, .int (0 : Int32), .int (24 : Int32)] (c_X11_within F h1) nhN_X3_25 hT_X11_within hZ_X11 hC_X11_within dd_X11_within (by decide) ⟨rfl, rfl⟩ (by decide) (Nat.le_of_ble_eq_true rfl) dX3_mapped_4 rfl ?_
  refine j_if_eq C 19 dX3_mapped_7 (by decide) ?_ ?_
  · refine j_iconst C (0 : Int32) dX3_mapped_19 (by decide) ?_
    exact j_ireti C Q dX3_mapped_20
  · refine j_aload_n C dX3_mapped_10 0 rfl ?_
    refine j_get (ci := 3) C hU_X3 rfl (xin F (by decide)) (xe_1 F _ _) 0 (by decide) rfl hF_X3_9 dX3_mapped_11 ?_
    refine j_iload_n C dX3_mapped_14 1 rfl ?_
    refine j_chk (fun h3 => ?_)
    refine j_iald (t0 := 0) C (xin F (by decide)) (xe_2 F _ _) (xt0 F) (inb_in h3) dX3_mapped_15 ?_
    refine j_goto C 20 dX3_mapped_16 (by decide) ?_
    exact j_ireti C Q dX3_mapped_20
set_option maxRecDepth 100000 in
set_option maxHeartbeats 4000000 in
theorem c_X3_mapped {E : EnvT} {n : Nat} {cs : Nat → ClassId} (F : XF E n cs) {σ : Mem} {p1 : Int32} {r : Int32} (h : X3_mapped n σ p1 = some r) : CT E yX3_mapped cX3_mapped 2 (some .int) rm_X3_mapped [.ref (eAd E 1), .int p1] σ (RQi r σ) :=
  ct_X F (by decide) (Nat.le_of_ble_eq_true rfl) (fun E' ea F' C Q => by rw [← ea]; exact m_X3_mapped F'  C Q h)
theorem dd_X3_mapped : yX3_mapped.cls ≠ "java/lang/invoke/MethodHandle" ∧ yX3_mapped.cls ≠ "java/lang/invoke/VarHandle" ∧ (parseMethodDescriptor yX3_mapped.desc).map (fun d => d.parameters.length) = some 1 := by decide +kernel
def X3_remap (n : Nat) (σ : Mem) (p1 : Int32) (p2 : Int32) : Option (Mem) :=
  bindo (X11_within p1 (0 : Int32) (24 : Int32)) (fun r2 =>
  if r2 = (0 : Int32) then
  (some σ)
  else
  (chk (inb p1 25) (
  lete (wI σ 2 (ix p1) p2) (fun σ4 =>
  some σ4))))
abbrev rm_X3_remap : Room := { frames := 1, cells := 0, slots := 0, locals := 22 }
set_option maxRecDepth 100000 in
set_option maxHeartbeats 4000000 in
theorem m_X3_remap {E : EnvT} {n : Nat} {cs : Nat → ClassId} (F : XF E n cs) {p1 : Int32} {p2 : Int32} {σ : Mem} (C : CX E cX3_remap RX3 3 rm_X3_remap) {r0 : Mem} (Q : QE E 0 0 none (RQv r0)) : J E 3 0 0 r0 (X3_remap n σ p1 p2) σ 0 [(0, .ref (eAd E 1)), (1, .int p1), (2, .int p2)] [] := by

  unfold X3_remap
  refine j_iload_n C dX3_remap_0 1 rfl ?_
  refine j_iconst C (0 : Int32) dX3_remap_1 (by decide) ?_
  refine j_bipush C (24 : Int32) dX3_remap_2 (by decide) ?_
  refine j_bind (fun r2 h1 => ?_)
  refine j_callNi C [.int p1, .int (0 : Int32), .int (24 : Int32)] (c_X11_within F h1) nhN_X3_25 hT_X11_within hZ_X11 hC_X11_within dd_X11_within (by decide) ⟨rfl, rfl⟩ (by decide) (Nat.le_of_ble_eq_true rfl) dX3_remap_4 rfl ?_
  refine j_if_eq C 17 dX3_remap_7 (by decide) ?_ ?_
  · exact j_vret2 C Q dX3_remap_17
  · refine j_aload_n C dX3_remap_10 0 rfl ?_
    refine j_get (ci := 3) C hU_X3 rfl (xin F (by decide)) (xe_1 F _ _) 0 (by decide) rfl hF_X3_9 dX3_remap_11 ?_
    refine j_iload_n C dX3_remap_14 1 rfl ?_
    refine j_iload_n C dX3_remap_15 2 rfl ?_
    refine j_chk (fun h3 => ?_)
    refine j_iast (t0 := 0) C (xin F (by decide)) (xe_2 F _ _) (by rw [wI_o, wI_2]; exact (xe_2 F _ _)) (xt0 F) (inb_in h3) dX3_remap_16 (fun σ4 => ?_)
    exact j_vret2 C Q dX3_remap_17
set_option maxRecDepth 100000 in
set_option maxHeartbeats 4000000 in
theorem c_X3_remap {E : EnvT} {n : Nat} {cs : Nat → ClassId} (F : XF E n cs) {σ : Mem} {p1 : Int32} {p2 : Int32} {r : Mem} (h : X3_remap n σ p1 p2 = some r) : CT E yX3_remap cX3_remap 3 none rm_X3_remap [.ref (eAd E 1), .int p1, .int p2] σ (RQv r) :=
  ct_X F (by decide) (Nat.le_of_ble_eq_true rfl) (fun E' ea F' C Q => by rw [← ea]; exact m_X3_remap F'  C Q h)
theorem dd_X3_remap : yX3_remap.cls ≠ "java/lang/invoke/MethodHandle" ∧ yX3_remap.cls ≠ "java/lang/invoke/VarHandle" ∧ (parseMethodDescriptor yX3_remap.desc).map (fun d => d.parameters.length) = some 2 := by decide +kernel
def X3_torqueAt (n : Nat) (σ : Mem) (p1 : Int32) (p2 : Int32) : Option (Int32) :=
  lete (mnI (p1 / (2000 : Int32)) (3 : Int32)) (fun x1 =>
  lete (mnI (p2 / (250 : Int32)) (3 : Int32)) (fun x2 =>
  lete (((5 : Int32) * x1) + x2) (fun x3 =>
  lete (((p1 - ((2000 : Int32) * x1))).toInt64) (fun x4 =>
  lete (((p2 - ((250 : Int32) * x2))).toInt64) (fun x5 =>
  bindo (X3_mapped n σ x3) (fun r7 =>
  bindo (X3_mapped n σ (x3 + (5 : Int32))) (fun r9 =>
  bindo (X3_mapped n σ (x3 + (1 : Int32))) (fun r11 =>
  bindo (X3_mapped n σ (x3 + (6 : Int32))) (fun r13 =>
  lete ((((((r7.toInt64) * ((2000 : Int64) - x4)) * ((250 : Int64) - x5)) + (((r9.toInt64) * x4) * ((250 : Int64) - x5))) + (((r11.toInt64) * ((2000 : Int64) - x4)) * x5)) + (((r13.toInt64) * x4) * x5)) (fun x14 =>
  some (((x14 / (500000 : Int64))).toInt32)))))))))))
abbrev rm_X3_torqueAt : Room := { frames := 2, cells := 0, slots := 0, locals := 43 }
set_option maxRecDepth 100000 in
set_option maxHeartbeats 4000000 in
theorem m_X3_torqueAt {E : EnvT} {n : Nat} {cs : Nat → ClassId} (F : XF E n cs) {p1 : Int32} {p2 : Int32} {σ : Mem} (C : CX E cX3_torqueAt RX3 12 rm_X3_torqueAt) {r0 : Int32} (Q : QE E 0 0 (some .int) (RQi r0 σ)) : J E 12 0 0 r0 (X3_torqueAt n σ p1 p2) σ 0 [(0, .ref (eAd E 1)), (1, .int p1), (2, .int p2)] [] := by

  unfold X3_torqueAt
  refine j_iload_n C dX3_torqueAt_0 1 rfl ?_
  refine j_sipush C (2000 : Int32) dX3_torqueAt_1 (by decide) ?_
  refine j_idivK C dX3_torqueAt_4 (by decide) ?_
  refine j_iconst C (3 : Int32) dX3_torqueAt_5 (by decide) ?_
  refine j_mmin C hM_X3_29 hT_J9_min_7cf53 hZ_J9 hC_J9_min_7cf53 (by decide) (Nat.le_of_ble_eq_true rfl) (by decide) dX3_torqueAt_6 ?_
  refine j_nmi (fun x1 => ?_)
  refine j_istore_n (lv' := [(3, .int x1), (0, .ref (eAd E 1)), (1, .int p1), (2, .int p2)]) C dX3_torqueAt_9 (by decide) rfl ?_
  refine j_iload_n C dX3_torqueAt_10 3 rfl ?_
  refine j_sipush C (250 : Int32) dX3_torqueAt_11 (by decide) ?_
  refine j_idivK C dX3_torqueAt_14 (by decide) ?_
  refine j_iconst C (3 : Int32) dX3_torqueAt_15 (by decide) ?_
  refine j_mmin C hM_X3_29 hT_J9_min_7cf53 hZ_J9 hC_J9_min_7cf53 (by decide) (Nat.le_of_ble_eq_true rfl) (by decide) dX3_torqueAt_16 ?_
  refine j_nmi (fun x2 => ?_)
  refine j_istore (lv' := [(4, .int x2), (3, .int x1), (0, .ref (eAd E 1)), (1, .int p1), (2, .int p2)]) C dX3_torqueAt_19 (by decide) rfl ?_
  refine j_iconst C (5 : Int32) dX3_torqueAt_21 (by decide) ?_
  refine j_iload_n C dX3_torqueAt_22 1 rfl ?_
  refine j_imul C dX3_torqueAt_23 ?_
  refine j_iload C dX3_torqueAt_24 0 rfl ?_
  refine j_iadd C dX3_torqueAt_26 ?_
  refine j_nmi (fun x3 => ?_)
  refine j_istore (lv' := [(5, .int x3), (4, .int x2), (3, .int x1), (0, .ref (eAd E 1)), (1, .int p1), (2, .int p2)]) C dX3_torqueAt_27 (by decide) rfl ?_
  refine j_iload_n C dX3_torqueAt_29 4 rfl ?_
  refine j_sipush C (2000 : Int32) dX3_torqueAt_30 (by decide) ?_
  refine j_iload_n C dX3_torqueAt_33 2 rfl ?_
  refine j_imul C dX3_torqueAt_34 ?_
  refine j_isub C dX3_torqueAt_35 ?_
  refine j_i2l C dX3_torqueAt_36 ?_
  refine j_nml (fun x4 => ?_)
  refine j_lstore (lv' := [(6, .long x4), (5, .int x3), (4, .int x2), (3, .int x1), (0, .ref (eAd E 1)), (1, .int p1), (2, .int p2)]) C dX3_torqueAt_37 (by decide) rfl ?_
  refine j_iload_n C dX3_torqueAt_39 6 rfl ?_
  refine j_sipush C (250 : Int32) dX3_torqueAt_40 (by decide) ?_
  refine j_iload C dX3_torqueAt_43 2 rfl ?_
  refine j_imul C dX3_torqueAt_45 ?_
  refine j_isub C dX3_torqueAt_46 ?_
  refine j_i2l C dX3_torqueAt_47 ?_
  refine j_nml (fun x5 => ?_)
  refine j_lstore (lv' := [(8, .long x5), (6, .long x4), (5, .int x3), (4, .int x2), (3, .int x1), (0, .ref (eAd E 1)), (1, .int p1), (2, .int p2)]) C dX3_torqueAt_48 (by decide) rfl ?_
  refine j_aload_n C dX3_torqueAt_50 5 rfl ?_
  refine j_iload C dX3_torqueAt_51 2 rfl ?_
  refine j_bind (fun r7 h6 => ?_)
  refine j_callVi (ci := 3) C [.int x3] (c_X3_mapped F h6) hM_X3_35 hI_X3_mapped hS_X3_mapped hZ_X3 hC_X3_mapped (xin F (by decide)) (xe_1 F _ _) rfl rfl dd_X3_mapped (by decide) ⟨rfl, rfl⟩ (by decide) (Nat.le_of_ble_eq_true rfl) dX3_torqueAt_53 rfl ?_
  refine j_i2l C dX3_torqueAt_56 ?_
  refine j_ldc2 C hK_X3_39 dX3_torqueAt_57 ?_
  refine j_lload C dX3_torqueAt_60 1 rfl ?_
  refine j_lsub C dX3_torqueAt_62 ?_
  refine j_lmul C dX3_torqueAt_63 ?_
  refine j_ldc2 C hK_X3_41 dX3_torqueAt_64 ?_
  refine j_lload C dX3_torqueAt_67 0 rfl ?_
  refine j_lsub C dX3_torqueAt_69 ?_
  refine j_lmul C dX3_torqueAt_70 ?_
  refine j_aload_n C dX3_torqueAt_71 5 rfl ?_
  refine j_iload C dX3_torqueAt_72 2 rfl ?_
  refine j_iconst C (5 : Int32) dX3_torqueAt_74 (by decide) ?_
  refine j_iadd C dX3_torqueAt_75 ?_
  refine j_bind (fun r9 h8 => ?_)
  refine j_callVi (ci := 3) C [.int (x3 + (5 : Int32))] (c_X3_mapped F h8) hM_X3_35 hI_X3_mapped hS_X3_mapped hZ_X3 hC_X3_mapped (xin F (by decide)) (xe_1 F _ _) rfl rfl dd_X3_mapped (by decide) ⟨rfl, rfl⟩ (by decide) (Nat.le_of_ble_eq_true rfl) dX3_torqueAt_76 rfl ?_
  refine j_i2l C dX3_torqueAt_79 ?_
  refine j_lload C dX3_torqueAt_80 1 rfl ?_
  refine j_lmul C dX3_torqueAt_82 ?_
  refine j_ldc2 C hK_X3_41 dX3_torqueAt_83 ?_
  refine j_lload C dX3_torqueAt_86 0 rfl ?_
  refine j_lsub C dX3_torqueAt_88 ?_
  refine j_lmul C dX3_torqueAt_89 ?_
  refine j_ladd C dX3_torqueAt_90 ?_
  refine j_aload_n C dX3_torqueAt_91 5 rfl ?_
  refine j_iload C dX3_torqueAt_92 2 rfl ?_
  refine j_iconst C (1 : Int32) dX3_torqueAt_94 (by decide) ?_
  refine j_iadd C dX3_torqueAt_95 ?_
  refine j_bind (fun r11 h10 => ?_)
  refine j_callVi (ci := 3) C [.int (x3 + (1 : Int32))] (c_X3_mapped F h10) hM_X3_35 hI_X3_mapped hS_X3_mapped hZ_X3 hC_X3_mapped (xin F (by decide)) (xe_1 F _ _) rfl rfl dd_X3_mapped (by decide) ⟨rfl, rfl⟩ (by decide) (Nat.le_of_ble_eq_true rfl) dX3_torqueAt_96 rfl ?_
  refine j_i2l C dX3_torqueAt_99 ?_
  refine j_ldc2 C hK_X3_39 dX3_torqueAt_100 ?_
  refine j_lload C dX3_torqueAt_103 1 rfl ?_
  refine j_lsub C dX3_torqueAt_105 ?_
  refine j_lmul C dX3_torqueAt_106 ?_
  refine j_lload C dX3_torqueAt_107 0 rfl ?_
  refine j_lmul C dX3_torqueAt_109 ?_
  refine j_ladd C dX3_torqueAt_110 ?_
  refine j_aload_n C dX3_torqueAt_111 5 rfl ?_
  refine j_iload C dX3_torqueAt_112 2 rfl ?_
  refine j_bipush C (6 : Int32) dX3_torqueAt_114 (by decide) ?_
  refine j_iadd C dX3_torqueAt_116 ?_
  refine j_bind (fun r13 h12 => ?_)
  refine j_callVi (ci := 3) C [.int (x3 + (6 : Int32))] (c_X3_mapped F h12) hM_X3_35 hI_X3_mapped hS_X3_mapped hZ_X3 hC_X3_mapped (xin F (by decide)) (xe_1 F _ _) rfl rfl dd_X3_mapped (by decide) ⟨rfl, rfl⟩ (by decide) (Nat.le_of_ble_eq_true rfl) dX3_torqueAt_117 rfl ?_
  refine j_i2l C dX3_torqueAt_120 ?_
  refine j_lload C dX3_torqueAt_121 1 rfl ?_
  refine j_lmul C dX3_torqueAt_123 ?_
  refine j_lload C dX3_torqueAt_124 0 rfl ?_
  refine j_lmul C dX3_torqueAt_126 ?_
  refine j_ladd C dX3_torqueAt_127 ?_
  refine j_nml (fun x14 => ?_)
  refine j_lstore (lv' := [(10, .long x14), (8, .long x5), (6, .long x4), (5, .int x3), (4, .int x2), (3, .int x1), (0, .ref (eAd E 1)), (1, .int p1), (2, .int p2)]) C dX3_torqueAt_128 (by decide) rfl ?_
  refine j_lload C dX3_torqueAt_130 0 rfl ?_
  refine j_ldc2 C hK_X3_43 dX3_torqueAt_132 ?_
  refine j_ldivK C dX3_torqueAt_135 (by decide) ?_
  refine j_l2i C dX3_torqueAt_136 ?_
  exact j_ireti C Q dX3_torqueAt_137
set_option maxRecDepth 100000 in
set_option maxHeartbeats 4000000 in
theorem c_X3_torqueAt {E : EnvT} {n : Nat} {cs : Nat → ClassId} (F : XF E n cs) {σ : Mem} {p1 : Int32} {p2 : Int32} {r : Int32} (h : X3_torqueAt n σ p1 p2 = some r) : CT E yX3_torqueAt cX3_torqueAt 12 (some .int) rm_X3_torqueAt [.ref (eAd E 1), .int p1, .int p2] σ (RQi r σ) :=
  ct_X F (by decide) (Nat.le_of_ble_eq_true rfl) (fun E' ea F' C Q => by rw [← ea]; exact m_X3_torqueAt F'  C Q h)
theorem dd_X3_torqueAt : yX3_torqueAt.cls ≠ "java/lang/invoke/MethodHandle" ∧ yX3_torqueAt.cls ≠ "java/lang/invoke/VarHandle" ∧ (parseMethodDescriptor yX3_torqueAt.desc).map (fun d => d.parameters.length) = some 2 := by decide +kernel
def X3_latest (n : Nat) (σ : Mem) (p1 : Int32) : Option (Int32) :=
  bindo (X3_part n σ (σ.1 1 3) p1) (fun r2 =>
  some r2)
abbrev rm_X3_latest : Room := { frames := 2, cells := 0, slots := 0, locals := 44 }
set_option maxRecDepth 100000 in
set_option maxHeartbeats 4000000 in
theorem m_X3_latest {E : EnvT} {n : Nat} {cs : Nat → ClassId} (F : XF E n cs) {p1 : Int32} {σ : Mem} (C : CX E cX3_latest RX3 2 rm_X3_latest) {r0 : Int32} (Q : QE E 0 0 (some .int) (RQi r0 σ)) : J E 2 0 0 r0 (X3_latest n σ p1) σ 0 [(0, .ref (eAd E 1)), (1, .int p1)] [] := by

  unfold X3_latest
  refine j_aload_n C dX3_latest_0 0 rfl ?_
  refine j_aload_n C dX3_latest_1 0 rfl ?_
  refine j_get (ci := 3) C hU_X3 rfl (xin F (by decide)) (xe_1 F _ _) 3 (by decide) rfl hF_X3_22 dX3_latest_2 ?_
  refine j_iload_n C dX3_latest_5 1 rfl ?_
  refine j_bind (fun r2 h1 => ?_)
  refine j_callVi (ci := 3) C [.int (σ.1 1 3), .int p1] (c_X3_part F h1) hM_X3_45 hI_X3_part hS_X3_part hZ_X3 hC_X3_part (xin F (by decide)) (xe_1 F _ _) rfl rfl dd_X3_part (by decide) ⟨rfl, rfl⟩ (by decide) (Nat.le_of_ble_eq_true rfl) dX3_latest_6 rfl ?_
  exact j_ireti C Q dX3_latest_9
set_option maxRecDepth 100000 in
set_option maxHeartbeats 4000000 in
theorem c_X3_latest {E : EnvT} {n : Nat} {cs : Nat → ClassId} (F : XF E n cs) {σ : Mem} {p1 : Int32} {r : Int32} (h : X3_latest n σ p1 = some r) : CT E yX3_latest cX3_latest 2 (some .int) rm_X3_latest [.ref (eAd E 1), .int p1] σ (RQi r σ) :=
  ct_X F (by decide) (Nat.le_of_ble_eq_true rfl) (fun E' ea F' C Q => by rw [← ea]; exact m_X3_latest F'  C Q h)
theorem dd_X3_latest : yX3_latest.cls ≠ "java/lang/invoke/MethodHandle" ∧ yX3_latest.cls ≠ "java/lang/invoke/VarHandle" ∧ (parseMethodDescriptor yX3_latest.desc).map (fun d => d.parameters.length) = some 1 := by decide +kernel
def J6_compare_7cf53 (p1 : Int32) (p2 : Int32) : Option (Int32) :=
  if p2 ≤ p1 then
  (if ¬ p1 = p2 then
  (some (1 : Int32))
  else
  (some (0 : Int32)))
  else
  (some (-1 : Int32))
abbrev rm_J6_compare_7cf53 : Room := { frames := 0, cells := 0, slots := 0, locals := 0 }
set_option maxRecDepth 100000 in
set_option maxHeartbeats 4000000 in
theorem m_J6_compare_7cf53 {E : EnvT}  {p1 : Int32} {p2 : Int32} {σ : Mem} (C : CX E cJ6_compare_7cf53 RJ6 2 rm_J6_compare_7cf53) {r0 : Int32} (Q : QE E 0 0 (some .int) (RQi r0 σ)) : J E 2 0 0 r0 (J6_compare_7cf53 p1 p2) σ 0 [(0, .int p1), (1, .int p2)] [] := by

  unfold J6_compare_7cf53
  refine j_iload_n C dJ6_compare_7cf53_0 0 rfl ?_
  refine j_iload_n C dJ6_compare_7cf53_1 1 rfl ?_
  refine j_icmp_ge C 9 dJ6_compare_7cf53_2 (by decide) ?_ ?_
  · refine j_iload_n C dJ6_compare_7cf53_9 0 rfl ?_
    refine j_iload_n C dJ6_compare_7cf53_10 1 rfl ?_
    refine j_icmp_ne C 18 dJ6_compare_7cf53_11 (by decide) ?_ ?_
    · refine j_iconst C (1 : Int32) dJ6_compare_7cf53_18 (by decide) ?_
      exact j_ireti C Q dJ6_compare_7cf53_19
    · refine j_iconst C (0 : Int32) dJ6_compare_7cf53_14 (by decide) ?_
      refine j_goto C 19 dJ6_compare_7cf53_15 (by decide) ?_
      exact j_ireti C Q dJ6_compare_7cf53_19
  · refine j_iconst C (-1 : Int32) dJ6_compare_7cf53_5 (by decide) ?_
    refine j_goto C 19 dJ6_compare_7cf53_6 (by decide) ?_
    exact j_ireti C Q dJ6_compare_7cf53_19
set_option maxRecDepth 100000 in
set_option maxHeartbeats 4000000 in
theorem c_J6_compare_7cf53 {E : EnvT} {n : Nat} {cs : Nat → ClassId} (F : XF E n cs) {σ : Mem} {p1 : Int32} {p2 : Int32} {r : Int32} (h : J6_compare_7cf53 p1 p2 = some r) : CT E yJ6_compare_7cf53 cJ6_compare_7cf53 2 (some .int) rm_J6_compare_7cf53 [.int p1, .int p2] σ (RQi r σ) :=
  ct_X F (by decide) (Nat.le_of_ble_eq_true rfl) (fun E' ea F' C Q => by exact m_J6_compare_7cf53  C Q h)
theorem dd_J6_compare_7cf53 : yJ6_compare_7cf53.cls ≠ "java/lang/invoke/MethodHandle" ∧ yJ6_compare_7cf53.cls ≠ "java/lang/invoke/VarHandle" ∧ (parseMethodDescriptor yJ6_compare_7cf53.desc).map (fun d => d.parameters.length) = some 2 := by decide +kernel
def X3_change_b19 (n : Nat) (σ : Mem) (v1 : Int32) (v2 : Int32) (s0 : Int32) : Option (Int32) :=
  if s0 = (0 : Int32) then
  (bindo (J6_compare_7cf53 v2 v1) (fun r2 =>
  some r2))
  else
  (some s0)
def X3_change (n : Nat) (σ : Mem) (p1 : Int32) (p2 : Int32) : Option (Int32) :=
  if (σ.1 1 2) ≤ (0 : Int32) then
  (X3_change_b19 n σ p1 p2 (0 : Int32))
  else
  (chk (nz (σ.1 1 2)) (
  X3_change_b19 n σ p1 p2 ((p2 - p1) / (σ.1 1 2))))
abbrev rm_X3_change : Room := { frames := 1, cells := 0, slots := 0, locals := 21 }
set_option maxRecDepth 100000 in
set_option maxHeartbeats 4000000 in
theorem m_X3_change {E : EnvT} {n : Nat} {cs : Nat → ClassId} (F : XF E n cs) {p1 : Int32} {p2 : Int32} {σ : Mem} (C : CX E cX3_change RX3 4 rm_X3_change) {r0 : Int32} (Q : QE E 0 0 (some .int) (RQi r0 σ)) : J E 4 0 0 r0 (X3_change n σ p1 p2) σ 0 [(0, .ref (eAd E 1)), (1, .int p1), (2, .int p2)] [] := by
  have hB19 : ∀ (v1 : Int32) (v2 : Int32) (s0 : Int32), J E 4 0 0 r0 (X3_change_b19 n σ v1 v2 s0) σ 19 [(1, .int v1), (2, .int v2)] [.int s0] := by
    intro v1 v2 s0
    unfold X3_change_b19
    refine j_istore_n (lv' := [(3, .int s0), (1, .int v1), (2, .int v2)]) C dX3_change_19 (by decide) rfl ?_
    refine j_iload_n C dX3_change_20 0 rfl ?_
    refine j_if_eq C 28 dX3_change_21 (by decide) ?_ ?_
    · refine j_iload_n C dX3_change_28 2 rfl ?_
      refine j_iload_n C dX3_change_29 1 rfl ?_
      refine j_bind (fun r2 h1 => ?_)
      refine j_callSi C [.int v2, .int v1] (c_J6_compare_7cf53 F h1) hM_X3_60 hT_J6_compare_7cf53 hZ_J6 hC_J6_compare_7cf53 dd_J6_compare_7cf53 (by decide) ⟨rfl, rfl⟩ (by decide) (Nat.le_of_ble_eq_true rfl) dX3_change_30 rfl ?_
      exact j_ireti C Q dX3_change_33
    · refine j_iload_n C dX3_change_24 0 rfl ?_
      refine j_goto C 33 dX3_change_25 (by decide) ?_
      exact j_ireti C Q dX3_change_33
  unfold X3_change
  refine j_aload_n C dX3_change_0 0 rfl ?_
  refine j_get (ci := 3) C hU_X3 rfl (xin F (by decide)) (xe_1 F _ _) 2 (by decide) rfl hF_X3_18 dX3_change_1 ?_
  refine j_if_le C 18 dX3_change_4 (by decide) ?_ ?_
  · refine j_iconst C (0 : Int32) dX3_change_18 (by decide) ?_
    refine j_lv [(1, .int p1), (2, .int p2)] [1, 2] rfl ?_
    exact hB19 p1 p2 (0 : Int32)
  · refine j_iload_n C dX3_change_7 2 rfl ?_
    refine j_iload_n C dX3_change_8 1 rfl ?_
    refine j_isub C dX3_change_9 ?_
    refine j_aload_n C dX3_change_10 0 rfl ?_
    refine j_get (ci := 3) C hU_X3 rfl (xin F (by decide)) (xe_1 F _ _) 2 (by decide) rfl hF_X3_18 dX3_change_11 ?_
    refine j_chk (fun h1 => ?_)
    refine j_idivK C dX3_change_14 (nz_ne h1) ?_
    refine j_goto C 19 dX3_change_15 (by decide) ?_
    refine j_lv [(1, .int p1), (2, .int p2)] [1, 2] rfl ?_
    exact hB19 p1 p2 ((p2 - p1) / (σ.1 1 2))
set_option maxRecDepth 100000 in
set_option maxHeartbeats 4000000 in
theorem c_X3_change {E : EnvT} {n : Nat} {cs : Nat → ClassId} (F : XF E n cs) {σ : Mem} {p1 : Int32} {p2 : Int32} {r : Int32} (h : X3_change n σ p1 p2 = some r) : CT E yX3_change cX3_change 4 (some .int) rm_X3_change [.ref (eAd E 1), .int p1, .int p2] σ (RQi r σ) :=
  ct_X F (by decide) (Nat.le_of_ble_eq_true rfl) (fun E' ea F' C Q => by rw [← ea]; exact m_X3_change F'  C Q h)
theorem dd_X3_change : yX3_change.cls ≠ "java/lang/invoke/MethodHandle" ∧ yX3_change.cls ≠ "java/lang/invoke/VarHandle" ∧ (parseMethodDescriptor yX3_change.desc).map (fun d => d.parameters.length) = some 2 := by decide +kernel
def X3_advance_b110 (n : Nat) (σ : Mem) (v1 : Int32) (v2 : Int32) (v3 : Int32) (v4 : Int32) (v5 : Int32) (v6 : Int32) (s0 : Int32) : Option (Mem) :=
  lete (wI σ 1 3 ((σ.1 1 3) + (1 : Int32))) (fun σ1 =>
  lete ((σ1.1 1 3) * (7 : Int32)) (fun x2 =>
  chk (inb (x2 + (0 : Int32)) 21007) (
  lete (wI σ1 3 (ix (x2 + (0 : Int32))) v3) (fun σ4 =>
  chk (inb (x2 + (1 : Int32)) 21007) (
  lete (wI σ4 3 (ix (x2 + (1 : Int32))) v4) (fun σ6 =>
  chk (inb (x2 + (2 : Int32)) 21007) (
  lete (wI σ6 3 (ix (x2 + (2 : Int32))) v5) (fun σ8 =>
  chk (inb (x2 + (3 : Int32)) 21007) (
  lete (wI σ8 3 (ix (x2 + (3 : Int32))) v6) (fun σ10 =>
  chk (inb (x2 + (4 : Int32)) 21007) (
  lete (wI σ10 3 (ix (x2 + (4 : Int32))) s0) (fun σ12 =>
  chk (inb (x2 + (5 : Int32)) 21007) (
  lete (wI σ12 3 (ix (x2 + (5 : Int32))) v1) (fun σ14 =>
  chk (inb (x2 + (6 : Int32)) 21007) (
  lete (wI σ14 3 (ix (x2 + (6 : Int32))) v2) (fun σ16 =>
  some σ16))))))))))))))))
def X3_advance (n : Nat) (σ : Mem) (p1 : Int32) (p2 : Int32) : Option (Mem) :=
  bindo (X11_within (σ.1 1 3) (0 : Int32) (2999 : Int32)) (fun r2 =>
  if ¬ r2 = (0 : Int32) then
  (bindo (X3_latest n σ (0 : Int32)) (fun r4 =>
  bindo (X3_latest n σ (0 : Int32)) (fun r6 =>
  bindo (X3_change n σ r6 p1) (fun r8 =>
  lete (r4 + r8) (fun x9 =>
  bindo (X3_torqueAt n σ x9 p2) (fun r11 =>
  lete (mxI (0 : Int32) ((x9 * (r11 + (50 : Int32))) / (1000 : Int32))) (fun x12 =>
  bindo (X3_latest n σ (3 : Int32)) (fun r14 =>
  bindo (X3_latest n σ (3 : Int32)) (fun r16 =>
  lete (r14 + ((x12 - ((2 : Int32) * (r16 - (20 : Int32)))) / (16 : Int32))) (fun x17 =>
  bindo (X3_latest n σ (1 : Int32)) (fun r19 =>
  lete (r11 - r19) (fun x20 =>
  if x20 ≤ (0 : Int32) then
  (bindo (X3_latest n σ (4 : Int32)) (fun r22 =>
  X3_advance_b110 n σ p1 p2 x9 r11 x12 x17 (r22 / (2 : Int32))))
  else
  (X3_advance_b110 n σ p1 p2 x9 r11 x12 x17 ((3 : Int32) * x20))))))))))))))
  else
  (some σ))
abbrev rm_X3_advance : Room := { frames := 3, cells := 0, slots := 0, locals := 74 }
set_option maxRecDepth 100000 in
set_option maxHeartbeats 4000000 in
theorem m_X3_advance {E : EnvT} {n : Nat} {cs : Nat → ClassId} (F : XF E n cs) {p1 : Int32} {p2 : Int32} {σ : Mem} (C : CX E cX3_advance RX3 10 rm_X3_advance) {r0 : Mem} (Q : QE E 0 0 none (RQv r0)) : J E 10 0 0 r0 (X3_advance n σ p1 p2) σ 0 [(0, .ref (eAd E 1)), (1, .int p1), (2, .int p2)] [] := by
  have hB110 : ∀ (σ : Mem) (v1 : Int32) (v2 : Int32) (v3 : Int32) (v4 : Int32) (v5 : Int32) (v6 : Int32) (s0 : Int32), J E 10 0 0 r0 (X3_advance_b110 n σ v1 v2 v3 v4 v5 v6 s0) σ 110 [(0, .ref (eAd E 1)), (1, .int v1), (2, .int v2), (3, .int v3), (4, .int v4), (5, .int v5), (6, .int v6)] [.int s0] := by
    intro σ v1 v2 v3 v4 v5 v6 s0
    unfold X3_advance_b110
    refine j_istore (lv' := [(8, .int s0), (0, .ref (eAd E 1)), (1, .int v1), (2, .int v2), (3, .int v3), (4, .int v4), (5, .int v5), (6, .int v6)]) C dX3_advance_110 (by decide) rfl ?_
    refine j_aload_n C dX3_advance_112 1 rfl ?_
    refine j_dup C dX3_advance_113 rfl ?_
    refine j_get (ci := 3) C hU_X3 rfl (xin F (by decide)) (xe_1 F _ _) 3 (by decide) rfl hF_X3_22 dX3_advance_114 ?_
    refine j_iconst C (1 : Int32) dX3_advance_117 (by decide) ?_
    refine j_iadd C dX3_advance_118 ?_
    refine j_put (ci := 3) C hU_X3 tyX3_ok nmX3 rfl (xin F (by decide)) (xe_1 F _ _) 3 (by decide) (Nat.le_of_ble_eq_true rfl) (by rw [wI_o, wI_2]; exact (xe_1 F _ _)) (fun o' h' => ⟨wI_ne _ _ _ h', rfl⟩) rfl (by first | rfl | decide) (by first | rfl | decide) hF_X3_22 dX3_advance_119 (fun σ1 => ?_)
    refine j_aload_n C dX3_advance_122 1 rfl ?_
    refine j_get (ci := 3) C hU_X3 rfl (xin F (by decide)) (xe_1 F _ _) 3 (by decide) rfl hF_X3_22 dX3_advance_123 ?_
    refine j_bipush C (7 : Int32) dX3_advance_126 (by decide) ?_
    refine j_imul C dX3_advance_128 ?_
    refine j_nmi (fun x2 => ?_)
    refine j_istore (lv' := [(9, .int x2), (8, .int s0), (0, .ref (eAd E 1)), (1, .int v1), (2, .int v2), (3, .int v3), (4, .int v4), (5, .int v5), (6, .int v6)]) C dX3_advance_129 (by decide) rfl ?_
    refine j_aload_n C dX3_advance_131 2 rfl ?_
    refine j_get (ci := 3) C hU_X3 rfl (xin F (by decide)) (xe_1 F _ _) 1 (by decide) rfl hF_X3_15 dX3_advance_132 ?_
    refine j_iload C dX3_advance_135 0 rfl ?_
    refine j_iconst C (0 : Int32) dX3_advance_137 (by decide) ?_
    refine j_iadd C dX3_advance_138 ?_
    refine j_iload_n C dX3_advance_139 5 rfl ?_
    refine j_chk (fun h3 => ?_)
    refine j_iast (t0 := 0) C (xin F (by decide)) (xe_3 F _ _) (by rw [wI_o, wI_2]; exact (xe_3 F _ _)) (xt0 F) (inb_in h3) dX3_advance_140 (fun σ4 => ?_)
    refine j_aload_n C dX3_advance_141 2 rfl ?_
    refine j_get (ci := 3) C hU_X3 rfl (xin F (by decide)) (xe_1 F _ _) 1 (by decide) rfl hF_X3_15 dX3_advance_142 ?_
    refine j_iload C dX3_advance_145 0 rfl ?_
    refine j_iconst C (1 : Int32) dX3_advance_147 (by decide) ?_
    refine j_iadd C dX3_advance_148 ?_
    refine j_iload C dX3_advance_149 6 rfl ?_
    refine j_chk (fun h5 => ?_)
    refine j_iast (t0 := 0) C (xin F (by decide)) (xe_3 F _ _) (by rw [wI_o, wI_2]; exact (xe_3 F _ _)) (xt0 F) (inb_in h5) dX3_advance_151 (fun σ6 => ?_)
    refine j_aload_n C dX3_advance_152 2 rfl ?_
    refine j_get (ci := 3) C hU_X3 rfl (xin F (by decide)) (xe_1 F _ _) 1 (by decide) rfl hF_X3_15 dX3_advance_153 ?_
    refine j_iload C dX3_advance_156 0 rfl ?_
    refine j_iconst C (2 : Int32) dX3_advance_158 (by decide) ?_
    refine j_iadd C dX3_advance_159 ?_
    refine j_iload C dX3_advance_160 7 rfl ?_
    refine j_chk (fun h7 => ?_)
    refine j_iast (t0 := 0) C (xin F (by decide)) (xe_3 F _ _) (by rw [wI_o, wI_2]; exact (xe_3 F _ _)) (xt0 F) (inb_in h7) dX3_advance_162 (fun σ8 => ?_)
    refine j_aload_n C dX3_advance_163 2 rfl ?_
    refine j_get (ci := 3) C hU_X3 rfl (xin F (by decide)) (xe_1 F _ _) 1 (by decide) rfl hF_X3_15 dX3_advance_164 ?_
    refine j_iload C dX3_advance_167 0 rfl ?_
    refine j_iconst C (3 : Int32) dX3_advance_169 (by decide) ?_
    refine j_iadd C dX3_advance_170 ?_
    refine j_iload C dX3_advance_171 8 rfl ?_
    refine j_chk (fun h9 => ?_)
    refine j_iast (t0 := 0) C (xin F (by decide)) (xe_3 F _ _) (by rw [wI_o, wI_2]; exact (xe_3 F _ _)) (xt0 F) (inb_in h9) dX3_advance_173 (fun σ10 => ?_)
    refine j_aload_n C dX3_advance_174 2 rfl ?_
    refine j_get (ci := 3) C hU_X3 rfl (xin F (by decide)) (xe_1 F _ _) 1 (by decide) rfl hF_X3_15 dX3_advance_175 ?_
    refine j_iload C dX3_advance_178 0 rfl ?_
    refine j_iconst C (4 : Int32) dX3_advance_180 (by decide) ?_
    refine j_iadd C dX3_advance_181 ?_
    refine j_iload C dX3_advance_182 1 rfl ?_
    refine j_chk (fun h11 => ?_)
    refine j_iast (t0 := 0) C (xin F (by decide)) (xe_3 F _ _) (by rw [wI_o, wI_2]; exact (xe_3 F _ _)) (xt0 F) (inb_in h11) dX3_advance_184 (fun σ12 => ?_)
    refine j_aload_n C dX3_advance_185 2 rfl ?_
    refine j_get (ci := 3) C hU_X3 rfl (xin F (by decide)) (xe_1 F _ _) 1 (by decide) rfl hF_X3_15 dX3_advance_186 ?_
    refine j_iload C dX3_advance_189 0 rfl ?_
    refine j_iconst C (5 : Int32) dX3_advance_191 (by decide) ?_
    refine j_iadd C dX3_advance_192 ?_
    refine j_iload_n C dX3_advance_193 3 rfl ?_
    refine j_chk (fun h13 => ?_)
    refine j_iast (t0 := 0) C (xin F (by decide)) (xe_3 F _ _) (by rw [wI_o, wI_2]; exact (xe_3 F _ _)) (xt0 F) (inb_in h13) dX3_advance_194 (fun σ14 => ?_)
    refine j_aload_n C dX3_advance_195 2 rfl ?_
    refine j_get (ci := 3) C hU_X3 rfl (xin F (by decide)) (xe_1 F _ _) 1 (by decide) rfl hF_X3_15 dX3_advance_196 ?_
    refine j_iload C dX3_advance_199 0 rfl ?_
    refine j_bipush C (6 : Int32) dX3_advance_201 (by decide) ?_
    refine j_iadd C dX3_advance_203 ?_
    refine j_iload_n C dX3_advance_204 4 rfl ?_
    refine j_chk (fun h15 => ?_)
    refine j_iast (t0 := 0) C (xin F (by decide)) (xe_3 F _ _) (by rw [wI_o, wI_2]; exact (xe_3 F _ _)) (xt0 F) (inb_in h15) dX3_advance_205 (fun σ16 => ?_)
    exact j_vret2 C Q dX3_advance_206
  unfold X3_advance
  refine j_aload_n C dX3_advance_0 0 rfl ?_
  refine j_get (ci := 3) C hU_X3 rfl (xin F (by decide)) (xe_1 F _ _) 3 (by decide) rfl hF_X3_22 dX3_advance_1 ?_
  refine j_iconst C (0 : Int32) dX3_advance_4 (by decide) ?_
  refine j_sipush C (2999 : Int32) dX3_advance_5 (by decide) ?_
  refine j_bind (fun r2 h1 => ?_)
  refine j_callNi C [.int (σ.1 1 3), .int (0 : Int32), .int (2999 : Int32)] (c_X11_within F h1) nhN_X3_25 hT_X11_within hZ_X11 hC_X11_within dd_X11_within (by decide) ⟨rfl, rfl⟩ (by decide) (Nat.le_of_ble_eq_true rfl) dX3_advance_8 rfl ?_
  refine j_if_ne C 15 dX3_advance_11 (by decide) ?_ ?_
  · refine j_aload_n C dX3_advance_15 0 rfl ?_
    refine j_iconst C (0 : Int32) dX3_advance_16 (by decide) ?_
    refine j_bind (fun r4 h3 => ?_)
    refine j_callVi (ci := 3) C [.int (0 : Int32)] (c_X3_latest F h3) hM_X3_48 hI_X3_latest hS_X3_latest hZ_X3 hC_X3_latest (xin F (by decide)) (xe_1 F _ _) rfl rfl dd_X3_latest (by decide) ⟨rfl, rfl⟩ (by decide) (Nat.le_of_ble_eq_true rfl) dX3_advance_17 rfl ?_
    refine j_aload_n C dX3_advance_20 0 rfl ?_
    refine j_aload_n C dX3_advance_21 0 rfl ?_
    refine j_iconst C (0 : Int32) dX3_advance_22 (by decide) ?_
    refine j_bind (fun r6 h5 => ?_)
    refine j_callVi (ci := 3) C [.int (0 : Int32)] (c_X3_latest F h5) hM_X3_48 hI_X3_latest hS_X3_latest hZ_X3 hC_X3_latest (xin F (by decide)) (xe_1 F _ _) rfl rfl dd_X3_latest (by decide) ⟨rfl, rfl⟩ (by decide) (Nat.le_of_ble_eq_true rfl) dX3_advance_23 rfl ?_
    refine j_iload_n C dX3_advance_26 1 rfl ?_
    refine j_bind (fun r8 h7 => ?_)
    refine j_callVi (ci := 3) C [.int r6, .int p1] (c_X3_change F h7) hM_X3_51 hI_X3_change hS_X3_change hZ_X3 hC_X3_change (xin F (by decide)) (xe_1 F _ _) rfl rfl dd_X3_change (by decide) ⟨rfl, rfl⟩ (by decide) (Nat.le_of_ble_eq_true rfl) dX3_advance_27 rfl ?_
    refine j_iadd C dX3_advance_30 ?_
    refine j_nmi (fun x9 => ?_)
    refine j_istore_n (lv' := [(3, .int x9), (0, .ref (eAd E 1)), (1, .int p1), (2, .int p2)]) C dX3_advance_31 (by decide) rfl ?_
    refine j_aload_n C dX3_advance_32 1 rfl ?_
    refine j_iload_n C dX3_advance_33 0 rfl ?_
    refine j_iload_n C dX3_advance_34 3 rfl ?_
    refine j_bind (fun r11 h10 => ?_)
    refine j_callVi (ci := 3) C [.int x9, .int p2] (c_X3_torqueAt F h10) hM_X3_54 hI_X3_torqueAt hS_X3_torqueAt hZ_X3 hC_X3_torqueAt (xin F (by decide)) (xe_1 F _ _) rfl rfl dd_X3_torqueAt (by decide) ⟨rfl, rfl⟩ (by decide) (Nat.le_of_ble_eq_true rfl) dX3_advance_35 rfl ?_
    refine j_istore (lv' := [(4, .int r11), (3, .int x9), (0, .ref (eAd E 1)), (1, .int p1), (2, .int p2)]) C dX3_advance_38 (by decide) rfl ?_
    refine j_iconst C (0 : Int32) dX3_advance_40 (by decide) ?_
    refine j_iload_n C dX3_advance_41 1 rfl ?_
    refine j_iload C dX3_advance_42 0 rfl ?_
    refine j_bipush C (50 : Int32) dX3_advance_44 (by decide) ?_
    refine j_iadd C dX3_advance_46 ?_
    refine j_imul C dX3_advance_47 ?_
    refine j_sipush C (1000 : Int32) dX3_advance_48 (by decide) ?_
    refine j_idivK C dX3_advance_51 (by decide) ?_
    refine j_mmax C hM_X3_57 hT_J9_max_7cf53 hZ_J9 hC_J9_max_7cf53 (by decide) (Nat.le_of_ble_eq_true rfl) (by decide) dX3_advance_52 ?_
    refine j_nmi (fun x12 => ?_)
    refine j_istore (lv' := [(5, .int x12), (4, .int r11), (3, .int x9), (0, .ref (eAd E 1)), (1, .int p1), (2, .int p2)]) C dX3_advance_55 (by decide) rfl ?_
    refine j_aload_n C dX3_advance_57 3 rfl ?_
    refine j_iconst C (3 : Int32) dX3_advance_58 (by decide) ?_
    refine j_bind (fun r14 h13 => ?_)
    refine j_callVi (ci := 3) C [.int (3 : Int32)] (c_X3_latest F h13) hM_X3_48 hI_X3_latest hS_X3_latest hZ_X3 hC_X3_latest (xin F (by decide)) (xe_1 F _ _) rfl rfl dd_X3_latest (by decide) ⟨rfl, rfl⟩ (by decide) (Nat.le_of_ble_eq_true rfl) dX3_advance_59 rfl ?_
    refine j_iload C dX3_advance_62 0 rfl ?_
    refine j_iconst C (2 : Int32) dX3_advance_64 (by decide) ?_
    refine j_aload_n C dX3_advance_65 3 rfl ?_
    refine j_iconst C (3 : Int32) dX3_advance_66 (by decide) ?_
    refine j_bind (fun r16 h15 => ?_)
    refine j_callVi (ci := 3) C [.int (3 : Int32)] (c_X3_latest F h15) hM_X3_48 hI_X3_latest hS_X3_latest hZ_X3 hC_X3_latest (xin F (by decide)) (xe_1 F _ _) rfl rfl dd_X3_latest (by decide) ⟨rfl, rfl⟩ (by decide) (Nat.le_of_ble_eq_true rfl) dX3_advance_67 rfl ?_
    refine j_bipush C (20 : Int32) dX3_advance_70 (by decide) ?_
    refine j_isub C dX3_advance_72 ?_
    refine j_imul C dX3_advance_73 ?_
    refine j_isub C dX3_advance_74 ?_
    refine j_bipush C (16 : Int32) dX3_advance_75 (by decide) ?_
    refine j_idivK C dX3_advance_77 (by decide) ?_
    refine j_iadd C dX3_advance_78 ?_
    refine j_nmi (fun x17 => ?_)
    refine j_istore (lv' := [(6, .int x17), (5, .int x12), (4, .int r11), (3, .int x9), (0, .ref (eAd E 1)), (1, .int p1), (2, .int p2)]) C dX3_advance_79 (by decide) rfl ?_
    refine j_iload C dX3_advance_81 2 rfl ?_
    refine j_aload_n C dX3_advance_83 4 rfl ?_
    refine j_iconst C (1 : Int32) dX3_advance_84 (by decide) ?_
    refine j_bind (fun r19 h18 => ?_)
    refine j_callVi (ci := 3) C [.int (1 : Int32)] (c_X3_latest F h18) hM_X3_48 hI_X3_latest hS_X3_latest hZ_X3 hC_X3_latest (xin F (by decide)) (xe_1 F _ _) rfl rfl dd_X3_latest (by decide) ⟨rfl, rfl⟩ (by decide) (Nat.le_of_ble_eq_true rfl) dX3_advance_85 rfl ?_
    refine j_isub C dX3_advance_88 ?_
    refine j_nmi (fun x20 => ?_)
    refine j_istore (lv' := [(7, .int x20), (6, .int x17), (5, .int x12), (4, .int r11), (3, .int x9), (0, .ref (eAd E 1)), (1, .int p1), (2, .int p2)]) C dX3_advance_89 (by decide) rfl ?_
    refine j_iload C dX3_advance_91 0 rfl ?_
    refine j_if_le C 103 dX3_advance_93 (by decide) ?_ ?_
    · refine j_aload_n C dX3_advance_103 5 rfl ?_
      refine j_iconst C (4 : Int32) dX3_advance_104 (by decide) ?_
      refine j_bind (fun r22 h21 => ?_)
      refine j_callVi (ci := 3) C [.int (4 : Int32)] (c_X3_latest F h21) hM_X3_48 hI_X3_latest hS_X3_latest hZ_X3 hC_X3_latest (xin F (by decide)) (xe_1 F _ _) rfl rfl dd_X3_latest (by decide) ⟨rfl, rfl⟩ (by decide) (Nat.le_of_ble_eq_true rfl) dX3_advance_105 rfl ?_
      refine j_iconst C (2 : Int32) dX3_advance_108 (by decide) ?_
      refine j_idivK C dX3_advance_109 (by decide) ?_
      refine j_lv [(0, .ref (eAd E 1)), (1, .int p1), (2, .int p2), (3, .int x9), (4, .int r11), (5, .int x12), (6, .int x17)] [5, 6, 7, 4, 3, 2, 1] rfl ?_
      exact hB110 σ p1 p2 x9 r11 x12 x17 (r22 / (2 : Int32))
    · refine j_iconst C (3 : Int32) dX3_advance_96 (by decide) ?_
      refine j_iload C dX3_advance_97 0 rfl ?_
      refine j_imul C dX3_advance_99 ?_
      refine j_goto C 110 dX3_advance_100 (by decide) ?_
      refine j_lv [(0, .ref (eAd E 1)), (1, .int p1), (2, .int p2), (3, .int x9), (4, .int r11), (5, .int x12), (6, .int x17)] [5, 6, 7, 4, 3, 2, 1] rfl ?_
      exact hB110 σ p1 p2 x9 r11 x12 x17 ((3 : Int32) * x20)
  · exact j_vret2 C Q dX3_advance_14
set_option maxRecDepth 100000 in
set_option maxHeartbeats 4000000 in
theorem c_X3_advance {E : EnvT} {n : Nat} {cs : Nat → ClassId} (F : XF E n cs) {σ : Mem} {p1 : Int32} {p2 : Int32} {r : Mem} (h : X3_advance n σ p1 p2 = some r) : CT E yX3_advance cX3_advance 10 none rm_X3_advance [.ref (eAd E 1), .int p1, .int p2] σ (RQv r) :=
  ct_X F (by decide) (Nat.le_of_ble_eq_true rfl) (fun E' ea F' C Q => by rw [← ea]; exact m_X3_advance F'  C Q h)
theorem dd_X3_advance : yX3_advance.cls ≠ "java/lang/invoke/MethodHandle" ∧ yX3_advance.cls ≠ "java/lang/invoke/VarHandle" ∧ (parseMethodDescriptor yX3_advance.desc).map (fun d => d.parameters.length) = some 2 := by decide +kernel
def X5_add (n : Nat) (σ : Mem) (p1 : Int32) : Option (Mem) :=
  bindo (X11_within (σ.1 18 1) (0 : Int32) (19 : Int32)) (fun r2 =>
  if r2 = (0 : Int32) then
  (some σ)
  else
  (chk (inb (σ.1 18 1) 20) (
  lete (wI σ 19 (ix (σ.1 18 1)) p1) (fun σ4 =>
  lete (wI σ4 18 1 ((σ4.1 18 1) + (1 : Int32))) (fun σ5 =>
  some σ5)))))
abbrev rm_X5_add : Room := { frames := 1, cells := 0, slots := 0, locals := 22 }
set_option maxRecDepth 100000 in
set_option maxHeartbeats 4000000 in
theorem m_X5_add {E : EnvT} {n : Nat} {cs : Nat → ClassId} (F : XF E n cs) {p1 : Int32} {σ : Mem} (C : CX E cX5_add RX5 2 rm_X5_add) {r0 : Mem} (Q : QE E 0 0 none (RQv r0)) : J E 2 0 0 r0 (X5_add n σ p1) σ 0 [(0, .ref (eAd E 18)), (1, .int p1)] [] := by

  unfold X5_add
  refine j_aload_n C dX5_add_0 0 rfl ?_
  refine j_get (ci := 5) C hU_X5 rfl (xin F (by decide)) (xe_18 F _ _) 1 (by decide) rfl hF_X5_15 dX5_add_1 ?_
  refine j_iconst C (0 : Int32) dX5_add_4 (by decide) ?_
  refine j_bipush C (19 : Int32) dX5_add_5 (by decide) ?_
  refine j_bind (fun r2 h1 => ?_)
  refine j_callNi C [.int (σ.1 18 1), .int (0 : Int32), .int (19 : Int32)] (c_X11_within F h1) nhN_X5_19 hT_X11_within hZ_X11 hC_X11_within dd_X11_within (by decide) ⟨rfl, rfl⟩ (by decide) (Nat.le_of_ble_eq_true rfl) dX5_add_7 rfl ?_
  refine j_if_eq C 33 dX5_add_10 (by decide) ?_ ?_
  · exact j_vret2 C Q dX5_add_33
  · refine j_aload_n C dX5_add_13 0 rfl ?_
    refine j_get (ci := 5) C hU_X5 rfl (xin F (by decide)) (xe_18 F _ _) 0 (by decide) rfl hF_X5_9 dX5_add_14 ?_
    refine j_aload_n C dX5_add_17 0 rfl ?_
    refine j_get (ci := 5) C hU_X5 rfl (xin F (by decide)) (xe_18 F _ _) 1 (by decide) rfl hF_X5_15 dX5_add_18 ?_
    refine j_iload_n C dX5_add_21 1 rfl ?_
    refine j_chk (fun h3 => ?_)
    refine j_iast (t0 := 0) C (xin F (by decide)) (xe_19 F _ _) (by rw [wI_o, wI_2]; exact (xe_19 F _ _)) (xt0 F) (inb_in h3) dX5_add_22 (fun σ4 => ?_)
    refine j_aload_n C dX5_add_23 0 rfl ?_
    refine j_dup C dX5_add_24 rfl ?_
    refine j_get (ci := 5) C hU_X5 rfl (xin F (by decide)) (xe_18 F _ _) 1 (by decide) rfl hF_X5_15 dX5_add_25 ?_
    refine j_iconst C (1 : Int32) dX5_add_28 (by decide) ?_
    refine j_iadd C dX5_add_29 ?_
    refine j_put (ci := 5) C hU_X5 tyX5_ok nmX5 rfl (xin F (by decide)) (xe_18 F _ _) 1 (by decide) (Nat.le_of_ble_eq_true rfl) (by rw [wI_o, wI_2]; exact (xe_18 F _ _)) (fun o' h' => ⟨wI_ne _ _ _ h', rfl⟩) rfl (by first | rfl | decide) (by first | rfl | decide) hF_X5_15 dX5_add_30 (fun σ5 => ?_)
    exact j_vret2 C Q dX5_add_33
set_option maxRecDepth 100000 in
set_option maxHeartbeats 4000000 in
theorem c_X5_add {E : EnvT} {n : Nat} {cs : Nat → ClassId} (F : XF E n cs) {σ : Mem} {p1 : Int32} {r : Mem} (h : X5_add n σ p1 = some r) : CT E yX5_add cX5_add 2 none rm_X5_add [.ref (eAd E 18), .int p1] σ (RQv r) :=
  ct_X F (by decide) (Nat.le_of_ble_eq_true rfl) (fun E' ea F' C Q => by rw [← ea]; exact m_X5_add F'  C Q h)
theorem dd_X5_add : yX5_add.cls ≠ "java/lang/invoke/MethodHandle" ∧ yX5_add.cls ≠ "java/lang/invoke/VarHandle" ∧ (parseMethodDescriptor yX5_add.desc).map (fun d => d.parameters.length) = some 1 := by decide +kernel
def X5_has (n : Nat) (σ : Mem) (p1 : Int32) : Option (Int32) :=
  bindo (X11_within p1 (0 : Int32) ((σ.1 18 1) - (1 : Int32))) (fun r2 =>
  chk (isZ r2) (
  some r2))
abbrev rm_X5_has : Room := { frames := 1, cells := 0, slots := 0, locals := 22 }
set_option maxRecDepth 100000 in
set_option maxHeartbeats 4000000 in
theorem m_X5_has {E : EnvT} {n : Nat} {cs : Nat → ClassId} (F : XF E n cs) {p1 : Int32} {σ : Mem} (C : CX E cX5_has RX5 2 rm_X5_has) {r0 : Int32} (Q : QE E 0 0 (some .boolean) (RQi r0 σ)) : J E 2 0 0 r0 (X5_has n σ p1) σ 0 [(0, .ref (eAd E 18)), (1, .int p1)] [] := by

  unfold X5_has
  refine j_iload_n C dX5_has_0 1 rfl ?_
  refine j_iconst C (0 : Int32) dX5_has_1 (by decide) ?_
  refine j_aload_n C dX5_has_2 0 rfl ?_
  refine j_get (ci := 5) C hU_X5 rfl (xin F (by decide)) (xe_18 F _ _) 1 (by decide) rfl hF_X5_15 dX5_has_3 ?_
  refine j_iconst C (1 : Int32) dX5_has_6 (by decide) ?_
  refine j_isub C dX5_has_7 ?_
  refine j_bind (fun r2 h1 => ?_)
  refine j_callNi C [.int p1, .int (0 : Int32), .int ((σ.1 18 1) - (1 : Int32))] (c_X11_within F h1) nhN_X5_19 hT_X11_within hZ_X11 hC_X11_within dd_X11_within (by decide) ⟨rfl, rfl⟩ (by decide) (Nat.le_of_ble_eq_true rfl) dX5_has_8 rfl ?_
  refine j_chk (fun h3 => ?_)
  exact j_iretz C (isZ_n h3) Q dX5_has_11
set_option maxRecDepth 100000 in
set_option maxHeartbeats 4000000 in
theorem c_X5_has {E : EnvT} {n : Nat} {cs : Nat → ClassId} (F : XF E n cs) {σ : Mem} {p1 : Int32} {r : Int32} (h : X5_has n σ p1 = some r) : CT E yX5_has cX5_has 2 (some .boolean) rm_X5_has [.ref (eAd E 18), .int p1] σ (RQi r σ) :=
  ct_X F (by decide) (Nat.le_of_ble_eq_true rfl) (fun E' ea F' C Q => by rw [← ea]; exact m_X5_has F'  C Q h)
theorem dd_X5_has : yX5_has.cls ≠ "java/lang/invoke/MethodHandle" ∧ yX5_has.cls ≠ "java/lang/invoke/VarHandle" ∧ (parseMethodDescriptor yX5_has.desc).map (fun d => d.parameters.length) = some 1 := by decide +kernel
def X5_first (n : Nat) (σ : Mem) (p1 : Int32) : Option (Int32) :=
  bindo (X11_within p1 (0 : Int32) (19 : Int32)) (fun r2 =>
  if r2 = (0 : Int32) then
  (some (0 : Int32))
  else
  (chk (inb p1 20) (
  some (σ.1 19 (ix p1)))))
abbrev rm_X5_first : Room := { frames := 1, cells := 0, slots := 0, locals := 22 }
set_option maxRecDepth 100000 in
set_option maxHeartbeats 4000000 in
theorem m_X5_first {E : EnvT} {n : Nat} {cs : Nat → ClassId} (F : XF E n cs) {p1 : Int32} {σ : Mem} (C : CX E cX5_first RX5 2 rm_X5_first) {r0 : Int32} (Q : QE E 0 0 (some .int) (RQi r0 σ)) : J E 2 0 0 r0 (X5_first n σ p1) σ 0 [(0, .ref (eAd E 18)), (1, .int p1)] [] := by

  unfold X5_first
  refine j_iload_n C dX5_first_0 1 rfl ?_
  refine j_iconst C (0 : Int32) dX5_first_1 (by decide) ?_
  refine j_bipush C (19 : Int32) dX5_first_2 (by decide) ?_
  refine j_bind (fun r2 h1 => ?_)
  refine j_callNi C [.int p1, .int (0 : Int32), .int (19 : Int32)] (c_X11_within F h1) nhN_X5_19 hT_X11_within hZ_X11 hC_X11_within dd_X11_within (by decide) ⟨rfl, rfl⟩ (by decide) (Nat.le_of_ble_eq_true rfl) dX5_first_4 rfl ?_
  refine j_if_eq C 19 dX5_first_7 (by decide) ?_ ?_
  · refine j_iconst C (0 : Int32) dX5_first_19 (by decide) ?_
    exact j_ireti C Q dX5_first_20
  · refine j_aload_n C dX5_first_10 0 rfl ?_
    refine j_get (ci := 5) C hU_X5 rfl (xin F (by decide)) (xe_18 F _ _) 0 (by decide) rfl hF_X5_9 dX5_first_11 ?_
    refine j_iload_n C dX5_first_14 1 rfl ?_
    refine j_chk (fun h3 => ?_)
    refine j_iald (t0 := 0) C (xin F (by decide)) (xe_19 F _ _) (xt0 F) (inb_in h3) dX5_first_15 ?_
    refine j_goto C 20 dX5_first_16 (by decide) ?_
    exact j_ireti C Q dX5_first_20
set_option maxRecDepth 100000 in
set_option maxHeartbeats 4000000 in
theorem c_X5_first {E : EnvT} {n : Nat} {cs : Nat → ClassId} (F : XF E n cs) {σ : Mem} {p1 : Int32} {r : Int32} (h : X5_first n σ p1 = some r) : CT E yX5_first cX5_first 2 (some .int) rm_X5_first [.ref (eAd E 18), .int p1] σ (RQi r σ) :=
  ct_X F (by decide) (Nat.le_of_ble_eq_true rfl) (fun E' ea F' C Q => by rw [← ea]; exact m_X5_first F'  C Q h)
theorem dd_X5_first : yX5_first.cls ≠ "java/lang/invoke/MethodHandle" ∧ yX5_first.cls ≠ "java/lang/invoke/VarHandle" ∧ (parseMethodDescriptor yX5_first.desc).map (fun d => d.parameters.length) = some 1 := by decide +kernel
def X5_last (n : Nat) (σ : Mem) (p1 : Int32) (p2 : Int32) : Option (Int32) :=
  bindo (X5_has n σ (p1 + (1 : Int32))) (fun r2 =>
  if r2 = (0 : Int32) then
  (some p2)
  else
  (bindo (X5_first n σ (p1 + (1 : Int32))) (fun r4 =>
  some (r4 - (1 : Int32)))))
abbrev rm_X5_last : Room := { frames := 2, cells := 0, slots := 0, locals := 43 }
set_option maxRecDepth 100000 in
set_option maxHeartbeats 4000000 in
theorem m_X5_last {E : EnvT} {n : Nat} {cs : Nat → ClassId} (F : XF E n cs) {p1 : Int32} {p2 : Int32} {σ : Mem} (C : CX E cX5_last RX5 3 rm_X5_last) {r0 : Int32} (Q : QE E 0 0 (some .int) (RQi r0 σ)) : J E 3 0 0 r0 (X5_last n σ p1 p2) σ 0 [(0, .ref (eAd E 18)), (1, .int p1), (2, .int p2)] [] := by

  unfold X5_last
  refine j_aload_n C dX5_last_0 0 rfl ?_
  refine j_iload_n C dX5_last_1 1 rfl ?_
  refine j_iconst C (1 : Int32) dX5_last_2 (by decide) ?_
  refine j_iadd C dX5_last_3 ?_
  refine j_bind (fun r2 h1 => ?_)
  refine j_callVi (ci := 5) C [.int (p1 + (1 : Int32))] (c_X5_has F h1) hM_X5_23 hI_X5_has hS_X5_has hZ_X5 hC_X5_has (xin F (by decide)) (xe_18 F _ _) rfl rfl dd_X5_has (by decide) ⟨rfl, rfl⟩ (by decide) (Nat.le_of_ble_eq_true rfl) dX5_last_4 rfl ?_
  refine j_if_eq C 22 dX5_last_7 (by decide) ?_ ?_
  · refine j_iload_n C dX5_last_22 2 rfl ?_
    exact j_ireti C Q dX5_last_23
  · refine j_aload_n C dX5_last_10 0 rfl ?_
    refine j_iload_n C dX5_last_11 1 rfl ?_
    refine j_iconst C (1 : Int32) dX5_last_12 (by decide) ?_
    refine j_iadd C dX5_last_13 ?_
    refine j_bind (fun r4 h3 => ?_)
    refine j_callVi (ci := 5) C [.int (p1 + (1 : Int32))] (c_X5_first F h3) hM_X5_27 hI_X5_first hS_X5_first hZ_X5 hC_X5_first (xin F (by decide)) (xe_18 F _ _) rfl rfl dd_X5_first (by decide) ⟨rfl, rfl⟩ (by decide) (Nat.le_of_ble_eq_true rfl) dX5_last_14 rfl ?_
    refine j_iconst C (1 : Int32) dX5_last_17 (by decide) ?_
    refine j_isub C dX5_last_18 ?_
    refine j_goto C 23 dX5_last_19 (by decide) ?_
    exact j_ireti C Q dX5_last_23
set_option maxRecDepth 100000 in
set_option maxHeartbeats 4000000 in
theorem c_X5_last {E : EnvT} {n : Nat} {cs : Nat → ClassId} (F : XF E n cs) {σ : Mem} {p1 : Int32} {p2 : Int32} {r : Int32} (h : X5_last n σ p1 p2 = some r) : CT E yX5_last cX5_last 3 (some .int) rm_X5_last [.ref (eAd E 18), .int p1, .int p2] σ (RQi r σ) :=
  ct_X F (by decide) (Nat.le_of_ble_eq_true rfl) (fun E' ea F' C Q => by rw [← ea]; exact m_X5_last F'  C Q h)
theorem dd_X5_last : yX5_last.cls ≠ "java/lang/invoke/MethodHandle" ∧ yX5_last.cls ≠ "java/lang/invoke/VarHandle" ∧ (parseMethodDescriptor yX5_last.desc).map (fun d => d.parameters.length) = some 2 := by decide +kernel
def X6_fits (p1 : Int32) (p2 : Int32) (p3 : Int32) (p4 : Int32) (p5 : Int32) : Option (Int32) :=
  if p2 = (0 : Int32) then
  (bindo (X11_within p3 (1 : Int32) (500 : Int32)) (fun r2 =>
  chk (isZ r2) (
  some r2)))
  else
  if p2 = (1 : Int32) then
  (bindo (X11_within p3 (1 : Int32) (500 : Int32)) (fun r5 =>
  if r5 = (0 : Int32) then
  (some (0 : Int32))
  else
  (bindo (X11_within p4 (0 : Int32) (8000 : Int32)) (fun r7 =>
  if r7 = (0 : Int32) then
  (some (0 : Int32))
  else
  (bindo (X11_within p5 (0 : Int32) (1000 : Int32)) (fun r9 =>
  if r9 = (0 : Int32) then
  (some (0 : Int32))
  else
  (some (1 : Int32))))))))
  else
  if p2 = (2 : Int32) then
  (bindo (X11_within p5 (1 : Int32) (500 : Int32)) (fun r11 =>
  chk (isZ r11) (
  some r11)))
  else
  if p2 = (3 : Int32) then
  (bindo (X11_within p3 (0 : Int32) p1) (fun r14 =>
  if r14 = (0 : Int32) then
  (some (0 : Int32))
  else
  (bindo (X11_within p4 (1 : Int32) (100 : Int32)) (fun r16 =>
  if r16 = (0 : Int32) then
  (some (0 : Int32))
  else
  (some (1 : Int32))))))
  else
  (if ¬ p2 = (4 : Int32) then
  (some (0 : Int32))
  else
  (some (1 : Int32)))
abbrev rm_X6_fits : Room := { frames := 1, cells := 0, slots := 0, locals := 22 }
set_option maxRecDepth 100000 in
set_option maxHeartbeats 4000000 in
theorem m_X6_fits {E : EnvT} {n : Nat} {cs : Nat → ClassId} (F : XF E n cs) {p1 : Int32} {p2 : Int32} {p3 : Int32} {p4 : Int32} {p5 : Int32} {σ : Mem} (C : CX E cX6_fits RX6 5 rm_X6_fits) {r0 : Int32} (Q : QE E 0 0 (some .boolean) (RQi r0 σ)) : J E 5 0 0 r0 (X6_fits p1 p2 p3 p4 p5) σ 0 [(0, .int p1), (1, .int p2), (2, .int p3), (3, .int p4), (4, .int p5)] [] := by

  unfold X6_fits
  refine j_iload_n C dX6_fits_0 1 rfl ?_
  refine j_ite (fun q0 => ?_) (fun q0 => ?_)
  · refine j_tsIn C (0 : Int32) 32 dX6_fits_1 q0 (by decide) (by decide) rfl (by decide) ?_
    refine j_iload_n C dX6_fits_32 2 rfl ?_
    refine j_iconst C (1 : Int32) dX6_fits_33 (by decide) ?_
    refine j_sipush C (500 : Int32) dX6_fits_34 (by decide) ?_
    refine j_bind (fun r2 h1 => ?_)
    refine j_callNi C [.int p3, .int (1 : Int32), .int (500 : Int32)] (c_X11_within F h1) nhN_X6_19 hT_X11_within hZ_X11 hC_X11_within dd_X11_within (by decide) ⟨rfl, rfl⟩ (by decide) (Nat.le_of_ble_eq_true rfl) dX6_fits_37 rfl ?_
    refine j_chk (fun h3 => ?_)
    exact j_iretz C (isZ_n h3) Q dX6_fits_40
  refine j_ite (fun q1 => ?_) (fun q1 => ?_)
  · refine j_tsIn C (1 : Int32) 41 dX6_fits_1 q1 (by decide) (by decide) rfl (by decide) ?_
    refine j_iload_n C dX6_fits_41 2 rfl ?_
    refine j_iconst C (1 : Int32) dX6_fits_42 (by decide) ?_
    refine j_sipush C (500 : Int32) dX6_fits_43 (by decide) ?_
    refine j_bind (fun r5 h4 => ?_)
    refine j_callNi C [.int p3, .int (1 : Int32), .int (500 : Int32)] (c_X11_within F h4) nhN_X6_19 hT_X11_within hZ_X11 hC_X11_within dd_X11_within (by decide) ⟨rfl, rfl⟩ (by decide) (Nat.le_of_ble_eq_true rfl) dX6_fits_46 rfl ?_
    refine j_if_eq C 79 dX6_fits_49 (by decide) ?_ ?_
    · refine j_iconst C (0 : Int32) dX6_fits_79 (by decide) ?_
      exact j_iretz C rfl Q dX6_fits_80
    · refine j_iload_n C dX6_fits_52 3 rfl ?_
      refine j_iconst C (0 : Int32) dX6_fits_53 (by decide) ?_
      refine j_sipush C (8000 : Int32) dX6_fits_54 (by decide) ?_
      refine j_bind (fun r7 h6 => ?_)
      refine j_callNi C [.int p4, .int (0 : Int32), .int (8000 : Int32)] (c_X11_within F h6) nhN_X6_19 hT_X11_within hZ_X11 hC_X11_within dd_X11_within (by decide) ⟨rfl, rfl⟩ (by decide) (Nat.le_of_ble_eq_true rfl) dX6_fits_57 rfl ?_
      refine j_if_eq C 79 dX6_fits_60 (by decide) ?_ ?_
      · refine j_iconst C (0 : Int32) dX6_fits_79 (by decide) ?_
        exact j_iretz C rfl Q dX6_fits_80
      · refine j_iload C dX6_fits_63 4 rfl ?_
        refine j_iconst C (0 : Int32) dX6_fits_65 (by decide) ?_
        refine j_sipush C (1000 : Int32) dX6_fits_66 (by decide) ?_
        refine j_bind (fun r9 h8 => ?_)
        refine j_callNi C [.int p5, .int (0 : Int32), .int (1000 : Int32)] (c_X11_within F h8) nhN_X6_19 hT_X11_within hZ_X11 hC_X11_within dd_X11_within (by decide) ⟨rfl, rfl⟩ (by decide) (Nat.le_of_ble_eq_true rfl) dX6_fits_69 rfl ?_
        refine j_if_eq C 79 dX6_fits_72 (by decide) ?_ ?_
        · refine j_iconst C (0 : Int32) dX6_fits_79 (by decide) ?_
          exact j_iretz C rfl Q dX6_fits_80
        · refine j_iconst C (1 : Int32) dX6_fits_75 (by decide) ?_
          refine j_goto C 80 dX6_fits_76 (by decide) ?_
          exact j_iretz C rfl Q dX6_fits_80
  refine j_ite (fun q2 => ?_) (fun q2 => ?_)
  · refine j_tsIn C (2 : Int32) 81 dX6_fits_1 q2 (by decide) (by decide) rfl (by decide) ?_
    refine j_iload C dX6_fits_81 4 rfl ?_
    refine j_iconst C (1 : Int32) dX6_fits_83 (by decide) ?_
    refine j_sipush C (500 : Int32) dX6_fits_84 (by decide) ?_
    refine j_bind (fun r11 h10 => ?_)
    refine j_callNi C [.int p5, .int (1 : Int32), .int (500 : Int32)] (c_X11_within F h10) nhN_X6_19 hT_X11_within hZ_X11 hC_X11_within dd_X11_within (by decide) ⟨rfl, rfl⟩ (by decide) (Nat.le_of_ble_eq_true rfl) dX6_fits_87 rfl ?_
    refine j_chk (fun h12 => ?_)
    exact j_iretz C (isZ_n h12) Q dX6_fits_90
  refine j_ite (fun q3 => ?_) (fun q3 => ?_)
  · refine j_tsIn C (3 : Int32) 91 dX6_fits_1 q3 (by decide) (by decide) rfl (by decide) ?_
    refine j_iload_n C dX6_fits_91 2 rfl ?_
    refine j_iconst C (0 : Int32) dX6_fits_92 (by decide) ?_
    refine j_iload_n C dX6_fits_93 0 rfl ?_
    refine j_bind (fun r14 h13 => ?_)
    refine j_callNi C [.int p3, .int (0 : Int32), .int p1] (c_X11_within F h13) nhN_X6_19 hT_X11_within hZ_X11 hC_X11_within dd_X11_within (by decide) ⟨rfl, rfl⟩ (by decide) (Nat.le_of_ble_eq_true rfl) dX6_fits_94 rfl ?_
    refine j_if_eq C 114 dX6_fits_97 (by decide) ?_ ?_
    · refine j_iconst C (0 : Int32) dX6_fits_114 (by decide) ?_
      exact j_iretz C rfl Q dX6_fits_115
    · refine j_iload_n C dX6_fits_100 3 rfl ?_
      refine j_iconst C (1 : Int32) dX6_fits_101 (by decide) ?_
      refine j_bipush C (100 : Int32) dX6_fits_102 (by decide) ?_
      refine j_bind (fun r16 h15 => ?_)
      refine j_callNi C [.int p4, .int (1 : Int32), .int (100 : Int32)] (c_X11_within F h15) nhN_X6_19 hT_X11_within hZ_X11 hC_X11_within dd_X11_within (by decide) ⟨rfl, rfl⟩ (by decide) (Nat.le_of_ble_eq_true rfl) dX6_fits_104 rfl ?_
      refine j_if_eq C 114 dX6_fits_107 (by decide) ?_ ?_
      · refine j_iconst C (0 : Int32) dX6_fits_114 (by decide) ?_
        exact j_iretz C rfl Q dX6_fits_115
      · refine j_iconst C (1 : Int32) dX6_fits_110 (by decide) ?_
        refine j_goto C 115 dX6_fits_111 (by decide) ?_
        exact j_iretz C rfl Q dX6_fits_115
  refine j_tsOut C 116 dX6_fits_1 (by have z0 := lv_neT (k := (0 : Int32)) (a := 0) q0 (by decide); have z1 := lv_neT (k := (1 : Int32)) (a := 1) q1 (by decide); have z2 := lv_neT (k := (2 : Int32)) (a := 2) q2 (by decide); have z3 := lv_neT (k := (3 : Int32)) (a := 3) q3 (by decide); omega) (by decide) ?_
  refine j_iload_n C dX6_fits_116 1 rfl ?_
  refine j_iconst C (4 : Int32) dX6_fits_117 (by decide) ?_
  refine j_icmp_ne C 125 dX6_fits_118 (by decide) ?_ ?_
  · refine j_iconst C (0 : Int32) dX6_fits_125 (by decide) ?_
    exact j_iretz C rfl Q dX6_fits_126
  · refine j_iconst C (1 : Int32) dX6_fits_121 (by decide) ?_
    refine j_goto C 126 dX6_fits_122 (by decide) ?_
    exact j_iretz C rfl Q dX6_fits_126
set_option maxRecDepth 100000 in
set_option maxHeartbeats 4000000 in
theorem c_X6_fits {E : EnvT} {n : Nat} {cs : Nat → ClassId} (F : XF E n cs) {σ : Mem} {p1 : Int32} {p2 : Int32} {p3 : Int32} {p4 : Int32} {p5 : Int32} {r : Int32} (h : X6_fits p1 p2 p3 p4 p5 = some r) : CT E yX6_fits cX6_fits 5 (some .boolean) rm_X6_fits [.int p1, .int p2, .int p3, .int p4, .int p5] σ (RQi r σ) :=
  ct_X F (by decide) (Nat.le_of_ble_eq_true rfl) (fun E' ea F' C Q => by exact m_X6_fits F'  C Q h)
theorem dd_X6_fits : yX6_fits.cls ≠ "java/lang/invoke/MethodHandle" ∧ yX6_fits.cls ≠ "java/lang/invoke/VarHandle" ∧ (parseMethodDescriptor yX6_fits.desc).map (fun d => d.parameters.length) = some 5 := by decide +kernel
def X6_has (n : Nat) (σ : Mem) (p1 : Int32) : Option (Int32) :=
  bindo (X11_within p1 (0 : Int32) ((σ.1 4 1) - (1 : Int32))) (fun r2 =>
  chk (isZ r2) (
  some r2))
abbrev rm_X6_has : Room := { frames := 1, cells := 0, slots := 0, locals := 22 }
set_option maxRecDepth 100000 in
set_option maxHeartbeats 4000000 in
theorem m_X6_has {E : EnvT} {n : Nat} {cs : Nat → ClassId} (F : XF E n cs) {p1 : Int32} {σ : Mem} (C : CX E cX6_has RX6 2 rm_X6_has) {r0 : Int32} (Q : QE E 0 0 (some .boolean) (RQi r0 σ)) : J E 2 0 0 r0 (X6_has n σ p1) σ 0 [(0, .ref (eAd E 4)), (1, .int p1)] [] := by

  unfold X6_has
  refine j_iload_n C dX6_has_0 1 rfl ?_
  refine j_iconst C (0 : Int32) dX6_has_1 (by decide) ?_
  refine j_aload_n C dX6_has_2 0 rfl ?_
  refine j_get (ci := 6) C hU_X6 rfl (xin F (by decide)) (xe_4 F _ _) 1 (by decide) rfl hF_X6_15 dX6_has_3 ?_
  refine j_iconst C (1 : Int32) dX6_has_6 (by decide) ?_
  refine j_isub C dX6_has_7 ?_
  refine j_bind (fun r2 h1 => ?_)
  refine j_callNi C [.int p1, .int (0 : Int32), .int ((σ.1 4 1) - (1 : Int32))] (c_X11_within F h1) nhN_X6_19 hT_X11_within hZ_X11 hC_X11_within dd_X11_within (by decide) ⟨rfl, rfl⟩ (by decide) (Nat.le_of_ble_eq_true rfl) dX6_has_8 rfl ?_
  refine j_chk (fun h3 => ?_)
  exact j_iretz C (isZ_n h3) Q dX6_has_11
set_option maxRecDepth 100000 in
set_option maxHeartbeats 4000000 in
theorem c_X6_has {E : EnvT} {n : Nat} {cs : Nat → ClassId} (F : XF E n cs) {σ : Mem} {p1 : Int32} {r : Int32} (h : X6_has n σ p1 = some r) : CT E yX6_has cX6_has 2 (some .boolean) rm_X6_has [.ref (eAd E 4), .int p1] σ (RQi r σ) :=
  ct_X F (by decide) (Nat.le_of_ble_eq_true rfl) (fun E' ea F' C Q => by rw [← ea]; exact m_X6_has F'  C Q h)
theorem dd_X6_has : yX6_has.cls ≠ "java/lang/invoke/MethodHandle" ∧ yX6_has.cls ≠ "java/lang/invoke/VarHandle" ∧ (parseMethodDescriptor yX6_has.desc).map (fun d => d.parameters.length) = some 1 := by decide +kernel
def X6_cell (n : Nat) (σ : Mem) (p1 : Int32) (p2 : Int32) : Option (Int32) :=
  bindo (X11_within p1 (0 : Int32) (29 : Int32)) (fun r2 =>
  if r2 = (0 : Int32) then
  (some (0 : Int32))
  else
  (bindo (X11_within p2 (0 : Int32) (3 : Int32)) (fun r4 =>
  if ¬ r4 = (0 : Int32) then
  (chk (inb ((p1 * (4 : Int32)) + p2) 120) (
  some (σ.1 5 (ix ((p1 * (4 : Int32)) + p2)))))
  else
  (some (0 : Int32)))))
abbrev rm_X6_cell : Room := { frames := 1, cells := 0, slots := 0, locals := 22 }
set_option maxRecDepth 100000 in
set_option maxHeartbeats 4000000 in
theorem m_X6_cell {E : EnvT} {n : Nat} {cs : Nat → ClassId} (F : XF E n cs) {p1 : Int32} {p2 : Int32} {σ : Mem} (C : CX E cX6_cell RX6 3 rm_X6_cell) {r0 : Int32} (Q : QE E 0 0 (some .int) (RQi r0 σ)) : J E 3 0 0 r0 (X6_cell n σ p1 p2) σ 0 [(0, .ref (eAd E 4)), (1, .int p1), (2, .int p2)] [] := by

  unfold X6_cell
  refine j_iload_n C dX6_cell_0 1 rfl ?_
  refine j_iconst C (0 : Int32) dX6_cell_1 (by decide) ?_
  refine j_bipush C (29 : Int32) dX6_cell_2 (by decide) ?_
  refine j_bind (fun r2 h1 => ?_)
  refine j_callNi C [.int p1, .int (0 : Int32), .int (29 : Int32)] (c_X11_within F h1) nhN_X6_19 hT_X11_within hZ_X11 hC_X11_within dd_X11_within (by decide) ⟨rfl, rfl⟩ (by decide) (Nat.le_of_ble_eq_true rfl) dX6_cell_4 rfl ?_
  refine j_if_eq C 19 dX6_cell_7 (by decide) ?_ ?_
  · refine j_iconst C (0 : Int32) dX6_cell_19 (by decide) ?_
    exact j_ireti C Q dX6_cell_20
  · refine j_iload_n C dX6_cell_10 2 rfl ?_
    refine j_iconst C (0 : Int32) dX6_cell_11 (by decide) ?_
    refine j_iconst C (3 : Int32) dX6_cell_12 (by decide) ?_
    refine j_bind (fun r4 h3 => ?_)
    refine j_callNi C [.int p2, .int (0 : Int32), .int (3 : Int32)] (c_X11_within F h3) nhN_X6_19 hT_X11_within hZ_X11 hC_X11_within dd_X11_within (by decide) ⟨rfl, rfl⟩ (by decide) (Nat.le_of_ble_eq_true rfl) dX6_cell_13 rfl ?_
    refine j_if_ne C 21 dX6_cell_16 (by decide) ?_ ?_
    · refine j_aload_n C dX6_cell_21 0 rfl ?_
      refine j_get (ci := 6) C hU_X6 rfl (xin F (by decide)) (xe_4 F _ _) 0 (by decide) rfl hF_X6_9 dX6_cell_22 ?_
      refine j_iload_n C dX6_cell_25 1 rfl ?_
      refine j_iconst C (4 : Int32) dX6_cell_26 (by decide) ?_
      refine j_imul C dX6_cell_27 ?_
      refine j_iload_n C dX6_cell_28 2 rfl ?_
      refine j_iadd C dX6_cell_29 ?_
      refine j_chk (fun h5 => ?_)
      refine j_iald (t0 := 0) C (xin F (by decide)) (xe_5 F _ _) (xt0 F) (inb_in h5) dX6_cell_30 ?_
      exact j_ireti C Q dX6_cell_31
    · refine j_iconst C (0 : Int32) dX6_cell_19 (by decide) ?_
      exact j_ireti C Q dX6_cell_20
set_option maxRecDepth 100000 in
set_option maxHeartbeats 4000000 in
theorem c_X6_cell {E : EnvT} {n : Nat} {cs : Nat → ClassId} (F : XF E n cs) {σ : Mem} {p1 : Int32} {p2 : Int32} {r : Int32} (h : X6_cell n σ p1 p2 = some r) : CT E yX6_cell cX6_cell 3 (some .int) rm_X6_cell [.ref (eAd E 4), .int p1, .int p2] σ (RQi r σ) :=
  ct_X F (by decide) (Nat.le_of_ble_eq_true rfl) (fun E' ea F' C Q => by rw [← ea]; exact m_X6_cell F'  C Q h)
theorem dd_X6_cell : yX6_cell.cls ≠ "java/lang/invoke/MethodHandle" ∧ yX6_cell.cls ≠ "java/lang/invoke/VarHandle" ∧ (parseMethodDescriptor yX6_cell.desc).map (fun d => d.parameters.length) = some 2 := by decide +kernel
def X6_add (n : Nat) (σ : Mem) (p1 : Int32) (p2 : Int32) (p3 : Int32) (p4 : Int32) : Option (Mem) :=
  bindo (X11_within (σ.1 4 1) (0 : Int32) (29 : Int32)) (fun r2 =>
  if ¬ r2 = (0 : Int32) then
  (lete ((σ.1 4 1) * (4 : Int32)) (fun x3 =>
  chk (inb (x3 + (0 : Int32)) 120) (
  lete (wI σ 5 (ix (x3 + (0 : Int32))) p1) (fun σ5 =>
  chk (inb (x3 + (1 : Int32)) 120) (
  lete (wI σ5 5 (ix (x3 + (1 : Int32))) p2) (fun σ7 =>
  chk (inb (x3 + (2 : Int32)) 120) (
  lete (wI σ7 5 (ix (x3 + (2 : Int32))) p3) (fun σ9 =>
  chk (inb (x3 + (3 : Int32)) 120) (
  lete (wI σ9 5 (ix (x3 + (3 : Int32))) p4) (fun σ11 =>
  lete (wI σ11 4 1 ((σ11.1 4 1) + (1 : Int32))) (fun σ12 =>
  some σ12)))))))))))
  else
  (some σ))
abbrev rm_X6_add : Room := { frames := 1, cells := 0, slots := 0, locals := 22 }
set_option maxRecDepth 100000 in
set_option maxHeartbeats 4000000 in
theorem m_X6_add {E : EnvT} {n : Nat} {cs : Nat → ClassId} (F : XF E n cs) {p1 : Int32} {p2 : Int32} {p3 : Int32} {p4 : Int32} {σ : Mem} (C : CX E cX6_add RX6 6 rm_X6_add) {r0 : Mem} (Q : QE E 0 0 none (RQv r0)) : J E 6 0 0 r0 (X6_add n σ p1 p2 p3 p4) σ 0 [(0, .ref (eAd E 4)), (1, .int p1), (2, .int p2), (3, .int p3), (4, .int p4)] [] := by

  unfold X6_add
  refine j_aload_n C dX6_add_0 0 rfl ?_
  refine j_get (ci := 6) C hU_X6 rfl (xin F (by decide)) (xe_4 F _ _) 1 (by decide) rfl hF_X6_15 dX6_add_1 ?_
  refine j_iconst C (0 : Int32) dX6_add_4 (by decide) ?_
  refine j_bipush C (29 : Int32) dX6_add_5 (by decide) ?_
  refine j_bind (fun r2 h1 => ?_)
  refine j_callNi C [.int (σ.1 4 1), .int (0 : Int32), .int (29 : Int32)] (c_X11_within F h1) nhN_X6_19 hT_X11_within hZ_X11 hC_X11_within dd_X11_within (by decide) ⟨rfl, rfl⟩ (by decide) (Nat.le_of_ble_eq_true rfl) dX6_add_7 rfl ?_
  refine j_if_ne C 14 dX6_add_10 (by decide) ?_ ?_
  · refine j_aload_n C dX6_add_14 0 rfl ?_
    refine j_get (ci := 6) C hU_X6 rfl (xin F (by decide)) (xe_4 F _ _) 1 (by decide) rfl hF_X6_15 dX6_add_15 ?_
    refine j_iconst C (4 : Int32) dX6_add_18 (by decide) ?_
    refine j_imul C dX6_add_19 ?_
    refine j_nmi (fun x3 => ?_)
    refine j_istore (lv' := [(5, .int x3), (0, .ref (eAd E 4)), (1, .int p1), (2, .int p2), (3, .int p3), (4, .int p4)]) C dX6_add_20 (by decide) rfl ?_
    refine j_aload_n C dX6_add_22 1 rfl ?_
    refine j_get (ci := 6) C hU_X6 rfl (xin F (by decide)) (xe_4 F _ _) 0 (by decide) rfl hF_X6_9 dX6_add_23 ?_
    refine j_iload C dX6_add_26 0 rfl ?_
    refine j_iconst C (0 : Int32) dX6_add_28 (by decide) ?_
    refine j_iadd C dX6_add_29 ?_
    refine j_iload_n C dX6_add_30 2 rfl ?_
    refine j_chk (fun h4 => ?_)
    refine j_iast (t0 := 0) C (xin F (by decide)) (xe_5 F _ _) (by rw [wI_o, wI_2]; exact (xe_5 F _ _)) (xt0 F) (inb_in h4) dX6_add_31 (fun σ5 => ?_)
    refine j_aload_n C dX6_add_32 1 rfl ?_
    refine j_get (ci := 6) C hU_X6 rfl (xin F (by decide)) (xe_4 F _ _) 0 (by decide) rfl hF_X6_9 dX6_add_33 ?_
    refine j_iload C dX6_add_36 0 rfl ?_
    refine j_iconst C (1 : Int32) dX6_add_38 (by decide) ?_
    refine j_iadd C dX6_add_39 ?_
    refine j_iload_n C dX6_add_40 3 rfl ?_
    refine j_chk (fun h6 => ?_)
    refine j_iast (t0 := 0) C (xin F (by decide)) (xe_5 F _ _) (by rw [wI_o, wI_2]; exact (xe_5 F _ _)) (xt0 F) (inb_in h6) dX6_add_41 (fun σ7 => ?_)
    refine j_aload_n C dX6_add_42 1 rfl ?_
    refine j_get (ci := 6) C hU_X6 rfl (xin F (by decide)) (xe_4 F _ _) 0 (by decide) rfl hF_X6_9 dX6_add_43 ?_
    refine j_iload C dX6_add_46 0 rfl ?_
    refine j_iconst C (2 : Int32) dX6_add_48 (by decide) ?_
    refine j_iadd C dX6_add_49 ?_
    refine j_iload_n C dX6_add_50 4 rfl ?_
    refine j_chk (fun h8 => ?_)
    refine j_iast (t0 := 0) C (xin F (by decide)) (xe_5 F _ _) (by rw [wI_o, wI_2]; exact (xe_5 F _ _)) (xt0 F) (inb_in h8) dX6_add_51 (fun σ9 => ?_)
    refine j_aload_n C dX6_add_52 1 rfl ?_
    refine j_get (ci := 6) C hU_X6 rfl (xin F (by decide)) (xe_4 F _ _) 0 (by decide) rfl hF_X6_9 dX6_add_53 ?_
    refine j_iload C dX6_add_56 0 rfl ?_
    refine j_iconst C (3 : Int32) dX6_add_58 (by decide) ?_
    refine j_iadd C dX6_add_59 ?_
    refine j_iload C dX6_add_60 5 rfl ?_
    refine j_chk (fun h10 => ?_)
    refine j_iast (t0 := 0) C (xin F (by decide)) (xe_5 F _ _) (by rw [wI_o, wI_2]; exact (xe_5 F _ _)) (xt0 F) (inb_in h10) dX6_add_62 (fun σ11 => ?_)
    refine j_aload_n C dX6_add_63 1 rfl ?_
    refine j_dup C dX6_add_64 rfl ?_
    refine j_get (ci := 6) C hU_X6 rfl (xin F (by decide)) (xe_4 F _ _) 1 (by decide) rfl hF_X6_15 dX6_add_65 ?_
    refine j_iconst C (1 : Int32) dX6_add_68 (by decide) ?_
    refine j_iadd C dX6_add_69 ?_
    refine j_put (ci := 6) C hU_X6 tyX6_ok nmX6 rfl (xin F (by decide)) (xe_4 F _ _) 1 (by decide) (Nat.le_of_ble_eq_true rfl) (by rw [wI_o, wI_2]; exact (xe_4 F _ _)) (fun o' h' => ⟨wI_ne _ _ _ h', rfl⟩) rfl (by first | rfl | decide) (by first | rfl | decide) hF_X6_15 dX6_add_70 (fun σ12 => ?_)
    exact j_vret2 C Q dX6_add_73
  · exact j_vret2 C Q dX6_add_13
set_option maxRecDepth 100000 in
set_option maxHeartbeats 4000000 in
theorem c_X6_add {E : EnvT} {n : Nat} {cs : Nat → ClassId} (F : XF E n cs) {σ : Mem} {p1 : Int32} {p2 : Int32} {p3 : Int32} {p4 : Int32} {r : Mem} (h : X6_add n σ p1 p2 p3 p4 = some r) : CT E yX6_add cX6_add 6 none rm_X6_add [.ref (eAd E 4), .int p1, .int p2, .int p3, .int p4] σ (RQv r) :=
  ct_X F (by decide) (Nat.le_of_ble_eq_true rfl) (fun E' ea F' C Q => by rw [← ea]; exact m_X6_add F'  C Q h)
theorem dd_X6_add : yX6_add.cls ≠ "java/lang/invoke/MethodHandle" ∧ yX6_add.cls ≠ "java/lang/invoke/VarHandle" ∧ (parseMethodDescriptor yX6_add.desc).map (fun d => d.parameters.length) = some 4 := by decide +kernel
def X9_cell (n : Nat) (o : Nat) (σ : Mem) (p1 : Int32) : Option (Int32) :=
  bindo (X11_within p1 (0 : Int32) (39 : Int32)) (fun r2 =>
  if r2 = (0 : Int32) then
  (some (0 : Int32))
  else
  (chk (inb p1 40) (
  some (σ.1 (o + 1) (ix p1)))))
abbrev rm_X9_cell : Room := { frames := 1, cells := 0, slots := 0, locals := 22 }
set_option maxRecDepth 100000 in
set_option maxHeartbeats 4000000 in
theorem m_X9_cell {E : EnvT} {n : Nat} {cs : Nat → ClassId} (F : XF E n cs) {o : Nat} {p1 : Int32} {σ : Mem} (ho : isSh o = true) (C : CX E cX9_cell RX9 2 rm_X9_cell) {r0 : Int32} (Q : QE E 0 0 (some .int) (RQi r0 σ)) : J E 2 0 0 r0 (X9_cell n o σ p1) σ 0 [(0, .ref (eAd E o)), (1, .int p1)] [] := by

  unfold X9_cell
  refine j_iload_n C dX9_cell_0 1 rfl ?_
  refine j_iconst C (0 : Int32) dX9_cell_1 (by decide) ?_
  refine j_bipush C (39 : Int32) dX9_cell_2 (by decide) ?_
  refine j_bind (fun r2 h1 => ?_)
  refine j_callNi C [.int p1, .int (0 : Int32), .int (39 : Int32)] (c_X11_within F h1) nhN_X9_26 hT_X11_within hZ_X11 hC_X11_within dd_X11_within (by decide) ⟨rfl, rfl⟩ (by decide) (Nat.le_of_ble_eq_true rfl) dX9_cell_4 rfl ?_
  refine j_if_eq C 19 dX9_cell_7 (by decide) ?_ ?_
  · refine j_iconst C (0 : Int32) dX9_cell_19 (by decide) ?_
    exact j_ireti C Q dX9_cell_20
  · refine j_aload_n C dX9_cell_10 0 rfl ?_
    refine j_get (ci := 9) C hU_X9 rfl (xin_Sh F ho) (xe_Sh F ho _ _) 0 (by decide) rfl hF_X9_9 dX9_cell_11 ?_
    refine j_iload_n C dX9_cell_14 1 rfl ?_
    refine j_chk (fun h3 => ?_)
    refine j_iald (t0 := 0) C (xin_Sh1 F ho) (xe_Sh1 F ho _ _) (xt0 F) (inb_in h3) dX9_cell_15 ?_
    refine j_goto C 20 dX9_cell_16 (by decide) ?_
    exact j_ireti C Q dX9_cell_20
set_option maxRecDepth 100000 in
set_option maxHeartbeats 4000000 in
theorem c_X9_cell {E : EnvT} {n : Nat} {cs : Nat → ClassId} (F : XF E n cs) {σ : Mem} {o : Nat} {p1 : Int32} (ho : isSh o = true) {r : Int32} (h : X9_cell n o σ p1 = some r) : CT E yX9_cell cX9_cell 2 (some .int) rm_X9_cell [.ref (eAd E o), .int p1] σ (RQi r σ) :=
  ct_X F (by decide) (Nat.le_of_ble_eq_true rfl) (fun E' ea F' C Q => by rw [← ea]; exact m_X9_cell F' ho C Q h)
theorem dd_X9_cell : yX9_cell.cls ≠ "java/lang/invoke/MethodHandle" ∧ yX9_cell.cls ≠ "java/lang/invoke/VarHandle" ∧ (parseMethodDescriptor yX9_cell.desc).map (fun d => d.parameters.length) = some 1 := by decide +kernel
def X6_fitAll_l3 (n : Nat) (p1 : Nat) (rec3 : (Int32 × Int32 × Int32) → Option (Int32)) (σ : Mem) (v2 : Int32) (v3 : Int32) (v4 : Int32) : Option (Int32) :=
  if v3 ≤ v4 then
  (some (1 : Int32))
  else
  (lete (v2 + ((4 : Int32) * v4)) (fun x1 =>
  bindo (X9_cell n p1 σ (x1 + (0 : Int32))) (fun r3 =>
  bindo (X9_cell n p1 σ (x1 + (1 : Int32))) (fun r5 =>
  bindo (X9_cell n p1 σ (x1 + (2 : Int32))) (fun r7 =>
  bindo (X9_cell n p1 σ (x1 + (3 : Int32))) (fun r9 =>
  bindo (X6_fits ((σ.1 4 1) + v4) r3 r5 r7 r9) (fun r11 =>
  if ¬ r11 = (0 : Int32) then
  (lete (v4 + (1 : Int32)) (fun x12 =>
  rec3 (v2, v3, x12)))
  else
  (some (0 : Int32)))))))))
def X6_fitAll (n : Nat) (σ : Mem) (p1 : Nat) (p2 : Int32) (p3 : Int32) : Option (Int32) :=
  loopF (fun (rec : (Int32 × Int32 × Int32) → Option (Int32)) (s : Int32 × Int32 × Int32) => X6_fitAll_l3 n p1 rec σ s.1 s.2.1 s.2.2)  FU (p2, p3, (0 : Int32))
abbrev rm_X6_fitAll : Room := { frames := 2, cells := 0, slots := 0, locals := 46 }
set_option maxRecDepth 100000 in
set_option maxHeartbeats 4000000 in
theorem m_X6_fitAll {E : EnvT} {n : Nat} {cs : Nat → ClassId} (F : XF E n cs) {p1 : Nat} {p2 : Int32} {p3 : Int32} {σ : Mem} (hp1 : isSh p1 = true) (C : CX E cX6_fitAll RX6 6 rm_X6_fitAll) {r0 : Int32} (Q : QE E 0 0 (some .boolean) (RQi r0 σ)) : J E 6 0 0 r0 (X6_fitAll n σ p1 p2 p3) σ 0 [(0, .ref (eAd E 4)), (1, .ref (eAd E p1)), (2, .int p2), (3, .int p3)] [] := by
  have hL3 : ∀ (f : Nat) (a : Int32 × Int32 × Int32), J E 6 0 0 r0 (loopF (fun (rec : (Int32 × Int32 × Int32) → Option (Int32)) (s : Int32 × Int32 × Int32) => X6_fitAll_l3 n p1 rec σ s.1 s.2.1 s.2.2) f a) σ 3 [(0, .ref (eAd E 4)), (1, .ref (eAd E p1)), (2, .int a.1), (3, .int a.2.1), (4, .int a.2.2)] [] := by
    refine j_loop (M := fun (a : Int32 × Int32 × Int32) => σ) (L := fun (a : Int32 × Int32 × Int32) => [(0, .ref (eAd E 4)), (1, .ref (eAd E p1)), (2, .int a.1), (3, .int a.2.1), (4, .int a.2.2)]) (S := fun (a : Int32 × Int32 × Int32) => []) (fun rec3 hrec3 a => ?_)
    obtain ⟨v2, v3, v4⟩ := a
    show J E 6 0 0 r0 (X6_fitAll_l3 n p1 rec3 σ v2 v3 v4) σ 3 [(0, .ref (eAd E 4)), (1, .ref (eAd E p1)), (2, .int v2), (3, .int v3), (4, .int v4)] []
    unfold X6_fitAll_l3
    refine j_iload C dX6_fitAll_3 4 rfl ?_
    refine j_iload_n C dX6_fitAll_5 3 rfl ?_
    refine j_icmp_ge C 70 dX6_fitAll_6 (by decide) ?_ ?_
    · refine j_iconst C (1 : Int32) dX6_fitAll_70 (by decide) ?_
      exact j_iretz C rfl Q dX6_fitAll_71
    · refine j_iload_n C dX6_fitAll_9 2 rfl ?_
      refine j_iconst C (4 : Int32) dX6_fitAll_10 (by decide) ?_
      refine j_iload C dX6_fitAll_11 4 rfl ?_
      refine j_imul C dX6_fitAll_13 ?_
      refine j_iadd C dX6_fitAll_14 ?_
      refine j_nmi (fun x1 => ?_)
      refine j_istore (lv' := [(5, .int x1), (0, .ref (eAd E 4)), (1, .ref (eAd E p1)), (2, .int v2), (3, .int v3), (4, .int v4)]) C dX6_fitAll_15 (by decide) rfl ?_
      refine j_aload_n C dX6_fitAll_17 1 rfl ?_
      refine j_get (ci := 6) C hU_X6 rfl (xin F (by decide)) (xe_4 F _ _) 1 (by decide) rfl hF_X6_15 dX6_fitAll_18 ?_
      refine j_iload C dX6_fitAll_21 5 rfl ?_
      refine j_iadd C dX6_fitAll_23 ?_
      refine j_aload_n C dX6_fitAll_24 2 rfl ?_
      refine j_iload C dX6_fitAll_25 0 rfl ?_
      refine j_iconst C (0 : Int32) dX6_fitAll_27 (by decide) ?_
      refine j_iadd C dX6_fitAll_28 ?_
      refine j_bind (fun r3 h2 => ?_)
      refine j_callVi (ci := 9) C [.int (x1 + (0 : Int32))] (c_X9_cell F hp1 h2) hM_X6_23 hI_X9_cell hS_X9_cell hZ_X9 hC_X9_cell (xin_Sh F hp1) (xe_Sh F hp1 _ _) rfl rfl dd_X9_cell (by decide) ⟨rfl, rfl⟩ (by decide) (Nat.le_of_ble_eq_true rfl) dX6_fitAll_29 rfl ?_
      refine j_aload_n C dX6_fitAll_32 2 rfl ?_
      refine j_iload C dX6_fitAll_33 0 rfl ?_
      refine j_iconst C (1 : Int32) dX6_fitAll_35 (by decide) ?_
      refine j_iadd C dX6_fitAll_36 ?_
      refine j_bind (fun r5 h4 => ?_)
      refine j_callVi (ci := 9) C [.int (x1 + (1 : Int32))] (c_X9_cell F hp1 h4) hM_X6_23 hI_X9_cell hS_X9_cell hZ_X9 hC_X9_cell (xin_Sh F hp1) (xe_Sh F hp1 _ _) rfl rfl dd_X9_cell (by decide) ⟨rfl, rfl⟩ (by decide) (Nat.le_of_ble_eq_true rfl) dX6_fitAll_37 rfl ?_
      refine j_aload_n C dX6_fitAll_40 2 rfl ?_
      refine j_iload C dX6_fitAll_41 0 rfl ?_
      refine j_iconst C (2 : Int32) dX6_fitAll_43 (by decide) ?_
      refine j_iadd C dX6_fitAll_44 ?_
      refine j_bind (fun r7 h6 => ?_)
      refine j_callVi (ci := 9) C [.int (x1 + (2 : Int32))] (c_X9_cell F hp1 h6) hM_X6_23 hI_X9_cell hS_X9_cell hZ_X9 hC_X9_cell (xin_Sh F hp1) (xe_Sh F hp1 _ _) rfl rfl dd_X9_cell (by decide) ⟨rfl, rfl⟩ (by decide) (Nat.le_of_ble_eq_true rfl) dX6_fitAll_45 rfl ?_
      refine j_aload_n C dX6_fitAll_48 2 rfl ?_
      refine j_iload C dX6_fitAll_49 0 rfl ?_
      refine j_iconst C (3 : Int32) dX6_fitAll_51 (by decide) ?_
      refine j_iadd C dX6_fitAll_52 ?_
      refine j_bind (fun r9 h8 => ?_)
      refine j_callVi (ci := 9) C [.int (x1 + (3 : Int32))] (c_X9_cell F hp1 h8) hM_X6_23 hI_X9_cell hS_X9_cell hZ_X9 hC_X9_cell (xin_Sh F hp1) (xe_Sh F hp1 _ _) rfl rfl dd_X9_cell (by decide) ⟨rfl, rfl⟩ (by decide) (Nat.le_of_ble_eq_true rfl) dX6_fitAll_53 rfl ?_
      refine j_bind (fun r11 h10 => ?_)
      refine j_callSi C [.int ((σ.1 4 1) + v4), .int r3, .int r5, .int r7, .int r9] (c_X6_fits F h10) hM_X6_29 hT_X6_fits hZ_X6 hC_X6_fits dd_X6_fits (by decide) ⟨rfl, rfl⟩ (by decide) (Nat.le_of_ble_eq_true rfl) dX6_fitAll_56 rfl ?_
      refine j_if_ne C 64 dX6_fitAll_59 (by decide) ?_ ?_
      · refine j_iincN (lf := fun x12 => [(4, .int x12), (5, .int x1), (0, .ref (eAd E 4)), (1, .ref (eAd E p1)), (2, .int v2), (3, .int v3)]) C dX6_fitAll_64 5 rfl (by rfl) (by decide) (fun _ => rfl) (fun x12 => ?_)
        refine j_goto C 3 dX6_fitAll_67 (by decide) ?_
        refine j_lv [(0, .ref (eAd E 4)), (1, .ref (eAd E p1)), (2, .int v2), (3, .int v3), (4, .int x12)] [2, 3, 4, 5, 0] rfl ?_
        exact hrec3 (v2, v3, x12)
      · refine j_iconst C (0 : Int32) dX6_fitAll_62 (by decide) ?_
        exact j_iretz C rfl Q dX6_fitAll_63
  unfold X6_fitAll
  refine j_iconst C (0 : Int32) dX6_fitAll_0 (by decide) ?_
  refine j_istore (lv' := [(4, .int (0 : Int32)), (0, .ref (eAd E 4)), (1, .ref (eAd E p1)), (2, .int p2), (3, .int p3)]) C dX6_fitAll_1 (by decide) rfl ?_
  refine j_lv [(0, .ref (eAd E 4)), (1, .ref (eAd E p1)), (2, .int p2), (3, .int p3), (4, .int (0 : Int32))] [1, 2, 3, 4, 0] rfl ?_
  exact hL3  FU (p2, p3, (0 : Int32))
set_option maxRecDepth 100000 in
set_option maxHeartbeats 4000000 in
theorem c_X6_fitAll {E : EnvT} {n : Nat} {cs : Nat → ClassId} (F : XF E n cs) {σ : Mem} {p1 : Nat} {p2 : Int32} {p3 : Int32} (hp1 : isSh p1 = true) {r : Int32} (h : X6_fitAll n σ p1 p2 p3 = some r) : CT E yX6_fitAll cX6_fitAll 6 (some .boolean) rm_X6_fitAll [.ref (eAd E 4), .ref (eAd E p1), .int p2, .int p3] σ (RQi r σ) :=
  ct_X F (by decide) (Nat.le_of_ble_eq_true rfl) (fun E' ea F' C Q => by rw [← ea]; exact m_X6_fitAll F' hp1 C Q h)
theorem dd_X6_fitAll : yX6_fitAll.cls ≠ "java/lang/invoke/MethodHandle" ∧ yX6_fitAll.cls ≠ "java/lang/invoke/VarHandle" ∧ (parseMethodDescriptor yX6_fitAll.desc).map (fun d => d.parameters.length) = some 3 := by decide +kernel
def X6_addAll_l3 (n : Nat) (p1 : Nat) (rec3 : (Mem × Int32 × Int32 × Int32) → Option (Mem)) (σ : Mem) (v2 : Int32) (v3 : Int32) (v4 : Int32) : Option (Mem) :=
  if v3 ≤ v4 then
  (some σ)
  else
  (lete (v2 + ((4 : Int32) * v4)) (fun x1 =>
  bindo (X9_cell n p1 σ (x1 + (0 : Int32))) (fun r3 =>
  bindo (X9_cell n p1 σ (x1 + (1 : Int32))) (fun r5 =>
  bindo (X9_cell n p1 σ (x1 + (2 : Int32))) (fun r7 =>
  bindo (X9_cell n p1 σ (x1 + (3 : Int32))) (fun r9 =>
  bindo (X6_add n σ r3 r5 r7 r9) (fun σ11 =>
  lete (v4 + (1 : Int32)) (fun x12 =>
  rec3 (σ11, v2, v3, x12)))))))))
def X6_addAll (n : Nat) (σ : Mem) (p1 : Nat) (p2 : Int32) (p3 : Int32) : Option (Mem) :=
  loopF (fun (rec : (Mem × Int32 × Int32 × Int32) → Option (Mem)) (s : Mem × Int32 × Int32 × Int32) => X6_addAll_l3 n p1 rec s.1 s.2.1 s.2.2.1 s.2.2.2)  FU (σ, p2, p3, (0 : Int32))
abbrev rm_X6_addAll : Room := { frames := 2, cells := 0, slots := 0, locals := 47 }
set_option maxRecDepth 100000 in
set_option maxHeartbeats 4000000 in
theorem m_X6_addAll {E : EnvT} {n : Nat} {cs : Nat → ClassId} (F : XF E n cs) {p1 : Nat} {p2 : Int32} {p3 : Int32} {σ : Mem} (hp1 : isSh p1 = true) (C : CX E cX6_addAll RX6 6 rm_X6_addAll) {r0 : Mem} (Q : QE E 0 0 none (RQv r0)) : J E 6 0 0 r0 (X6_addAll n σ p1 p2 p3) σ 0 [(0, .ref (eAd E 4)), (1, .ref (eAd E p1)), (2, .int p2), (3, .int p3)] [] := by
  have hL3 : ∀ (f : Nat) (a : Mem × Int32 × Int32 × Int32), J E 6 0 0 r0 (loopF (fun (rec : (Mem × Int32 × Int32 × Int32) → Option (Mem)) (s : Mem × Int32 × Int32 × Int32) => X6_addAll_l3 n p1 rec s.1 s.2.1 s.2.2.1 s.2.2.2) f a) a.1 3 [(0, .ref (eAd E 4)), (1, .ref (eAd E p1)), (2, .int a.2.1), (3, .int a.2.2.1), (4, .int a.2.2.2)] [] := by
    refine j_loop (M := fun (a : Mem × Int32 × Int32 × Int32) => a.1) (L := fun (a : Mem × Int32 × Int32 × Int32) => [(0, .ref (eAd E 4)), (1, .ref (eAd E p1)), (2, .int a.2.1), (3, .int a.2.2.1), (4, .int a.2.2.2)]) (S := fun (a : Mem × Int32 × Int32 × Int32) => []) (fun rec3 hrec3 a => ?_)
    obtain ⟨σ, v2, v3, v4⟩ := a
    show J E 6 0 0 r0 (X6_addAll_l3 n p1 rec3 σ v2 v3 v4) σ 3 [(0, .ref (eAd E 4)), (1, .ref (eAd E p1)), (2, .int v2), (3, .int v3), (4, .int v4)] []
    unfold X6_addAll_l3
    refine j_iload C dX6_addAll_3 4 rfl ?_
    refine j_iload_n C dX6_addAll_5 3 rfl ?_
    refine j_icmp_ge C 59 dX6_addAll_6 (by decide) ?_ ?_
    · exact j_vret2 C Q dX6_addAll_59
    · refine j_iload_n C dX6_addAll_9 2 rfl ?_
      refine j_iconst C (4 : Int32) dX6_addAll_10 (by decide) ?_
      refine j_iload C dX6_addAll_11 4 rfl ?_
      refine j_imul C dX6_addAll_13 ?_
      refine j_iadd C dX6_addAll_14 ?_
      refine j_nmi (fun x1 => ?_)
      refine j_istore (lv' := [(5, .int x1), (0, .ref (eAd E 4)), (1, .ref (eAd E p1)), (2, .int v2), (3, .int v3), (4, .int v4)]) C dX6_addAll_15 (by decide) rfl ?_
      refine j_aload_n C dX6_addAll_17 1 rfl ?_
      refine j_aload_n C dX6_addAll_18 2 rfl ?_
      refine j_iload C dX6_addAll_19 0 rfl ?_
      refine j_iconst C (0 : Int32) dX6_addAll_21 (by decide) ?_
      refine j_iadd C dX6_addAll_22 ?_
      refine j_bind (fun r3 h2 => ?_)
      refine j_callVi (ci := 9) C [.int (x1 + (0 : Int32))] (c_X9_cell F hp1 h2) hM_X6_23 hI_X9_cell hS_X9_cell hZ_X9 hC_X9_cell (xin_Sh F hp1) (xe_Sh F hp1 _ _) rfl rfl dd_X9_cell (by decide) ⟨rfl, rfl⟩ (by decide) (Nat.le_of_ble_eq_true rfl) dX6_addAll_23 rfl ?_
      refine j_aload_n C dX6_addAll_26 2 rfl ?_
      refine j_iload C dX6_addAll_27 0 rfl ?_
      refine j_iconst C (1 : Int32) dX6_addAll_29 (by decide) ?_
      refine j_iadd C dX6_addAll_30 ?_
      refine j_bind (fun r5 h4 => ?_)
      refine j_callVi (ci := 9) C [.int (x1 + (1 : Int32))] (c_X9_cell F hp1 h4) hM_X6_23 hI_X9_cell hS_X9_cell hZ_X9 hC_X9_cell (xin_Sh F hp1) (xe_Sh F hp1 _ _) rfl rfl dd_X9_cell (by decide) ⟨rfl, rfl⟩ (by decide) (Nat.le_of_ble_eq_true rfl) dX6_addAll_31 rfl ?_
      refine j_aload_n C dX6_addAll_34 2 rfl ?_
      refine j_iload C dX6_addAll_35 0 rfl ?_
      refine j_iconst C (2 : Int32) dX6_addAll_37 (by decide) ?_
      refine j_iadd C dX6_addAll_38 ?_
      refine j_bind (fun r7 h6 => ?_)
      refine j_callVi (ci := 9) C [.int (x1 + (2 : Int32))] (c_X9_cell F hp1 h6) hM_X6_23 hI_X9_cell hS_X9_cell hZ_X9 hC_X9_cell (xin_Sh F hp1) (xe_Sh F hp1 _ _) rfl rfl dd_X9_cell (by decide) ⟨rfl, rfl⟩ (by decide) (Nat.le_of_ble_eq_true rfl) dX6_addAll_39 rfl ?_
      refine j_aload_n C dX6_addAll_42 2 rfl ?_
      refine j_iload C dX6_addAll_43 0 rfl ?_
      refine j_iconst C (3 : Int32) dX6_addAll_45 (by decide) ?_
      refine j_iadd C dX6_addAll_46 ?_
      refine j_bind (fun r9 h8 => ?_)
      refine j_callVi (ci := 9) C [.int (x1 + (3 : Int32))] (c_X9_cell F hp1 h8) hM_X6_23 hI_X9_cell hS_X9_cell hZ_X9 hC_X9_cell (xin_Sh F hp1) (xe_Sh F hp1 _ _) rfl rfl dd_X9_cell (by decide) ⟨rfl, rfl⟩ (by decide) (Nat.le_of_ble_eq_true rfl) dX6_addAll_47 rfl ?_
      refine j_bind (fun σ11 h10 => ?_)
      refine j_callVv (ci := 6) C [.int r3, .int r5, .int r7, .int r9] (c_X6_add F h10) hM_X6_33 hI_X6_add hS_X6_add hZ_X6 hC_X6_add (xin F (by decide)) (xe_4 F _ _) rfl rfl dd_X6_add (by decide) ⟨rfl, rfl⟩ (by decide) (Nat.le_of_ble_eq_true rfl) dX6_addAll_50 rfl ?_
      refine j_iincN (lf := fun x12 => [(4, .int x12), (5, .int x1), (0, .ref (eAd E 4)), (1, .ref (eAd E p1)), (2, .int v2), (3, .int v3)]) C dX6_addAll_53 5 rfl (by rfl) (by decide) (fun _ => rfl) (fun x12 => ?_)
      refine j_goto C 3 dX6_addAll_56 (by decide) ?_
      refine j_lv [(0, .ref (eAd E 4)), (1, .ref (eAd E p1)), (2, .int v2), (3, .int v3), (4, .int x12)] [2, 3, 4, 5, 0] rfl ?_
      exact hrec3 (σ11, v2, v3, x12)
  unfold X6_addAll
  refine j_iconst C (0 : Int32) dX6_addAll_0 (by decide) ?_
  refine j_istore (lv' := [(4, .int (0 : Int32)), (0, .ref (eAd E 4)), (1, .ref (eAd E p1)), (2, .int p2), (3, .int p3)]) C dX6_addAll_1 (by decide) rfl ?_
  refine j_lv [(0, .ref (eAd E 4)), (1, .ref (eAd E p1)), (2, .int p2), (3, .int p3), (4, .int (0 : Int32))] [1, 2, 3, 4, 0] rfl ?_
  exact hL3  FU (σ, p2, p3, (0 : Int32))
set_option maxRecDepth 100000 in
set_option maxHeartbeats 4000000 in
theorem c_X6_addAll {E : EnvT} {n : Nat} {cs : Nat → ClassId} (F : XF E n cs) {σ : Mem} {p1 : Nat} {p2 : Int32} {p3 : Int32} (hp1 : isSh p1 = true) {r : Mem} (h : X6_addAll n σ p1 p2 p3 = some r) : CT E yX6_addAll cX6_addAll 6 none rm_X6_addAll [.ref (eAd E 4), .ref (eAd E p1), .int p2, .int p3] σ (RQv r) :=
  ct_X F (by decide) (Nat.le_of_ble_eq_true rfl) (fun E' ea F' C Q => by rw [← ea]; exact m_X6_addAll F' hp1 C Q h)
theorem dd_X6_addAll : yX6_addAll.cls ≠ "java/lang/invoke/MethodHandle" ∧ yX6_addAll.cls ≠ "java/lang/invoke/VarHandle" ∧ (parseMethodDescriptor yX6_addAll.desc).map (fun d => d.parameters.length) = some 3 := by decide +kernel
def X9_renew_l2 (n : Nat) (o : Nat) (rec2 : (Mem × Int32 × Int32 × Int32) → Option (Mem)) (σ : Mem) (v1 : Int32) (v2 : Int32) (v3 : Int32) : Option (Mem) :=
  if (40 : Int32) ≤ v3 then
  (lete (wI σ o 3 (1 : Int32)) (fun σ1 =>
  lete (wI σ1 o 2 v1) (fun σ2 =>
  lete (wI σ2 o 1 v2) (fun σ3 =>
  some σ3))))
  else
  (chk (inb v3 40) (
  lete (wI σ (o + 1) (ix v3) (0 : Int32)) (fun σ5 =>
  lete (v3 + (1 : Int32)) (fun x6 =>
  rec2 (σ5, v1, v2, x6)))))
def X9_renew (n : Nat) (o : Nat) (σ : Mem) (p1 : Int32) (p2 : Int32) : Option (Mem) :=
  loopF (fun (rec : (Mem × Int32 × Int32 × Int32) → Option (Mem)) (s : Mem × Int32 × Int32 × Int32) => X9_renew_l2 n o rec s.1 s.2.1 s.2.2.1 s.2.2.2)  FU (σ, p1, p2, (0 : Int32))
abbrev rm_X9_renew : Room := { frames := 0, cells := 0, slots := 0, locals := 0 }
set_option maxRecDepth 100000 in
set_option maxHeartbeats 4000000 in
theorem m_X9_renew {E : EnvT} {n : Nat} {cs : Nat → ClassId} (F : XF E n cs) {o : Nat} {p1 : Int32} {p2 : Int32} {σ : Mem} (ho : isSh o = true) (C : CX E cX9_renew RX9 4 rm_X9_renew) {r0 : Mem} (Q : QE E 0 0 none (RQv r0)) : J E 4 0 0 r0 (X9_renew n o σ p1 p2) σ 0 [(0, .ref (eAd E o)), (1, .int p1), (2, .int p2)] [] := by
  have hL2 : ∀ (f : Nat) (a : Mem × Int32 × Int32 × Int32), J E 4 0 0 r0 (loopF (fun (rec : (Mem × Int32 × Int32 × Int32) → Option (Mem)) (s : Mem × Int32 × Int32 × Int32) => X9_renew_l2 n o rec s.1 s.2.1 s.2.2.1 s.2.2.2) f a) a.1 2 [(0, .ref (eAd E o)), (1, .int a.2.1), (2, .int a.2.2.1), (3, .int a.2.2.2)] [] := by
    refine j_loop (M := fun (a : Mem × Int32 × Int32 × Int32) => a.1) (L := fun (a : Mem × Int32 × Int32 × Int32) => [(0, .ref (eAd E o)), (1, .int a.2.1), (2, .int a.2.2.1), (3, .int a.2.2.2)]) (S := fun (a : Mem × Int32 × Int32 × Int32) => []) (fun rec2 hrec2 a => ?_)
    obtain ⟨σ, v1, v2, v3⟩ := a
    show J E 4 0 0 r0 (X9_renew_l2 n o rec2 σ v1 v2 v3) σ 2 [(0, .ref (eAd E o)), (1, .int v1), (2, .int v2), (3, .int v3)] []
    unfold X9_renew_l2
    refine j_iload_n C dX9_renew_2 3 rfl ?_
    refine j_bipush C (40 : Int32) dX9_renew_3 (by decide) ?_
    refine j_icmp_ge C 21 dX9_renew_5 (by decide) ?_ ?_
    · refine j_aload_n C dX9_renew_21 0 rfl ?_
      refine j_iconst C (1 : Int32) dX9_renew_22 (by decide) ?_
      refine j_put (ci := 9) C hU_X9 tyX9_ok nmX9 rfl (xin_Sh F ho) (xe_Sh F ho _ _) 3 (by decide) (Nat.le_of_ble_eq_true rfl) (by rw [wI_o, wI_2]; exact (xe_Sh F ho _ _)) (fun o' h' => ⟨wI_ne _ _ _ h', rfl⟩) rfl (by first | rfl | decide) (by first | rfl | decide) hF_X9_22 dX9_renew_23 (fun σ1 => ?_)
      refine j_aload_n C dX9_renew_26 0 rfl ?_
      refine j_iload_n C dX9_renew_27 1 rfl ?_
      refine j_put (ci := 9) C hU_X9 tyX9_ok nmX9 rfl (xin_Sh F ho) (xe_Sh F ho _ _) 2 (by decide) (Nat.le_of_ble_eq_true rfl) (by rw [wI_o, wI_2]; exact (xe_Sh F ho _ _)) (fun o' h' => ⟨wI_ne _ _ _ h', rfl⟩) rfl (by first | rfl | decide) (by first | rfl | decide) hF_X9_19 dX9_renew_28 (fun σ2 => ?_)
      refine j_aload_n C dX9_renew_31 0 rfl ?_
      refine j_iload_n C dX9_renew_32 2 rfl ?_
      refine j_put (ci := 9) C hU_X9 tyX9_ok nmX9 rfl (xin_Sh F ho) (xe_Sh F ho _ _) 1 (by decide) (Nat.le_of_ble_eq_true rfl) (by rw [wI_o, wI_2]; exact (xe_Sh F ho _ _)) (fun o' h' => ⟨wI_ne _ _ _ h', rfl⟩) rfl (by first | rfl | decide) (by first | rfl | decide) hF_X9_15 dX9_renew_33 (fun σ3 => ?_)
      exact j_vret2 C Q dX9_renew_36
    · refine j_aload_n C dX9_renew_8 0 rfl ?_
      refine j_get (ci := 9) C hU_X9 rfl (xin_Sh F ho) (xe_Sh F ho _ _) 0 (by decide) rfl hF_X9_9 dX9_renew_9 ?_
      refine j_iload_n C dX9_renew_12 3 rfl ?_
      refine j_iconst C (0 : Int32) dX9_renew_13 (by decide) ?_
      refine j_chk (fun h4 => ?_)
      refine j_iast (t0 := 0) C (xin_Sh1 F ho) (xe_Sh1 F ho _ _) (by rw [wI_o, wI_2]; exact (xe_Sh1 F ho _ _)) (xt0 F) (inb_in h4) dX9_renew_14 (fun σ5 => ?_)
      refine j_iincN (lf := fun x6 => [(3, .int x6), (0, .ref (eAd E o)), (1, .int v1), (2, .int v2)]) C dX9_renew_15 3 rfl (by rfl) (by decide) (fun _ => rfl) (fun x6 => ?_)
      refine j_goto C 2 dX9_renew_18 (by decide) ?_
      refine j_lv [(0, .ref (eAd E o)), (1, .int v1), (2, .int v2), (3, .int x6)] [1, 2, 3, 0] rfl ?_
      exact hrec2 (σ5, v1, v2, x6)
  unfold X9_renew
  refine j_iconst C (0 : Int32) dX9_renew_0 (by decide) ?_
  refine j_istore_n (lv' := [(3, .int (0 : Int32)), (0, .ref (eAd E o)), (1, .int p1), (2, .int p2)]) C dX9_renew_1 (by decide) rfl ?_
  refine j_lv [(0, .ref (eAd E o)), (1, .int p1), (2, .int p2), (3, .int (0 : Int32))] [1, 2, 3, 0] rfl ?_
  exact hL2  FU (σ, p1, p2, (0 : Int32))
set_option maxRecDepth 100000 in
set_option maxHeartbeats 4000000 in
theorem c_X9_renew {E : EnvT} {n : Nat} {cs : Nat → ClassId} (F : XF E n cs) {σ : Mem} {o : Nat} {p1 : Int32} {p2 : Int32} (ho : isSh o = true) {r : Mem} (h : X9_renew n o σ p1 p2 = some r) : CT E yX9_renew cX9_renew 4 none rm_X9_renew [.ref (eAd E o), .int p1, .int p2] σ (RQv r) :=
  ct_X F (by decide) (Nat.le_of_ble_eq_true rfl) (fun E' ea F' C Q => by rw [← ea]; exact m_X9_renew F' ho C Q h)
theorem dd_X9_renew : yX9_renew.cls ≠ "java/lang/invoke/MethodHandle" ∧ yX9_renew.cls ≠ "java/lang/invoke/VarHandle" ∧ (parseMethodDescriptor yX9_renew.desc).map (fun d => d.parameters.length) = some 2 := by decide +kernel
def X9_faultAs (n : Nat) (o : Nat) (σ : Mem) (p1 : Int32) : Option (Int32) :=
  if ¬ (σ.1 o 3) = (0 : Int32) then
  (if ¬ (σ.1 o 2) = p1 then
  (some (2 : Int32))
  else
  (some (0 : Int32)))
  else
  (some (1 : Int32))
abbrev rm_X9_faultAs : Room := { frames := 0, cells := 0, slots := 0, locals := 0 }
set_option maxRecDepth 100000 in
set_option maxHeartbeats 4000000 in
theorem m_X9_faultAs {E : EnvT} {n : Nat} {cs : Nat → ClassId} (F : XF E n cs) {o : Nat} {p1 : Int32} {σ : Mem} (ho : isSh o = true) (C : CX E cX9_faultAs RX9 2 rm_X9_faultAs) {r0 : Int32} (Q : QE E 0 0 (some .int) (RQi r0 σ)) : J E 2 0 0 r0 (X9_faultAs n o σ p1) σ 0 [(0, .ref (eAd E o)), (1, .int p1)] [] := by

  unfold X9_faultAs
  refine j_aload_n C dX9_faultAs_0 0 rfl ?_
  refine j_get (ci := 9) C hU_X9 rfl (xin_Sh F ho) (xe_Sh F ho _ _) 3 (by decide) rfl hF_X9_22 dX9_faultAs_1 ?_
  refine j_if_ne C 9 dX9_faultAs_4 (by decide) ?_ ?_
  · refine j_aload_n C dX9_faultAs_9 0 rfl ?_
    refine j_get (ci := 9) C hU_X9 rfl (xin_Sh F ho) (xe_Sh F ho _ _) 2 (by decide) rfl hF_X9_19 dX9_faultAs_10 ?_
    refine j_iload_n C dX9_faultAs_13 1 rfl ?_
    refine j_icmp_ne C 21 dX9_faultAs_14 (by decide) ?_ ?_
    · refine j_iconst C (2 : Int32) dX9_faultAs_21 (by decide) ?_
      exact j_ireti C Q dX9_faultAs_22
    · refine j_iconst C (0 : Int32) dX9_faultAs_17 (by decide) ?_
      refine j_goto C 22 dX9_faultAs_18 (by decide) ?_
      exact j_ireti C Q dX9_faultAs_22
  · refine j_iconst C (1 : Int32) dX9_faultAs_7 (by decide) ?_
    exact j_ireti C Q dX9_faultAs_8
set_option maxRecDepth 100000 in
set_option maxHeartbeats 4000000 in
theorem c_X9_faultAs {E : EnvT} {n : Nat} {cs : Nat → ClassId} (F : XF E n cs) {σ : Mem} {o : Nat} {p1 : Int32} (ho : isSh o = true) {r : Int32} (h : X9_faultAs n o σ p1 = some r) : CT E yX9_faultAs cX9_faultAs 2 (some .int) rm_X9_faultAs [.ref (eAd E o), .int p1] σ (RQi r σ) :=
  ct_X F (by decide) (Nat.le_of_ble_eq_true rfl) (fun E' ea F' C Q => by rw [← ea]; exact m_X9_faultAs F' ho C Q h)
theorem dd_X9_faultAs : yX9_faultAs.cls ≠ "java/lang/invoke/MethodHandle" ∧ yX9_faultAs.cls ≠ "java/lang/invoke/VarHandle" ∧ (parseMethodDescriptor yX9_faultAs.desc).map (fun d => d.parameters.length) = some 1 := by decide +kernel
def X9_faultFrom (n : Nat) (o : Nat) (σ : Mem) (p1 : Int32) (p2 : Int64) : Option (Int32) :=
  if p1 < (0 : Int32) then
  (some (3 : Int32))
  else
  (if (lg_cmp p2 (0 : Int64)) < (0 : Int32) then
  (some (3 : Int32))
  else
  (if (0 : Int32) < (lg_cmp ((p1.toInt64) + p2) (((σ.1 o 1)).toInt64)) then
  (some (3 : Int32))
  else
  (some (0 : Int32))))
abbrev rm_X9_faultFrom : Room := { frames := 0, cells := 0, slots := 0, locals := 0 }
set_option maxRecDepth 100000 in
set_option maxHeartbeats 4000000 in
theorem m_X9_faultFrom {E : EnvT} {n : Nat} {cs : Nat → ClassId} (F : XF E n cs) {o : Nat} {p1 : Int32} {p2 : Int64} {σ : Mem} (ho : isSh o = true) (C : CX E cX9_faultFrom RX9 4 rm_X9_faultFrom) {r0 : Int32} (Q : QE E 0 0 (some .int) (RQi r0 σ)) : J E 4 0 0 r0 (X9_faultFrom n o σ p1 p2) σ 0 [(0, .ref (eAd E o)), (1, .int p1), (2, .long p2)] [] := by

  unfold X9_faultFrom
  refine j_iload_n C dX9_faultFrom_0 1 rfl ?_
  refine j_if_lt C 27 dX9_faultFrom_1 (by decide) ?_ ?_
  · refine j_iconst C (3 : Int32) dX9_faultFrom_27 (by decide) ?_
    exact j_ireti C Q dX9_faultFrom_28
  · refine j_lload_n C dX9_faultFrom_4 2 rfl ?_
    refine j_lconst C (0 : Int64) dX9_faultFrom_5 (by decide) ?_
    refine j_lcmp C dX9_faultFrom_6 ?_
    refine j_if_lt C 27 dX9_faultFrom_7 (by decide) ?_ ?_
    · refine j_iconst C (3 : Int32) dX9_faultFrom_27 (by decide) ?_
      exact j_ireti C Q dX9_faultFrom_28
    · refine j_iload_n C dX9_faultFrom_10 1 rfl ?_
      refine j_i2l C dX9_faultFrom_11 ?_
      refine j_lload_n C dX9_faultFrom_12 2 rfl ?_
      refine j_ladd C dX9_faultFrom_13 ?_
      refine j_aload_n C dX9_faultFrom_14 0 rfl ?_
      refine j_get (ci := 9) C hU_X9 rfl (xin_Sh F ho) (xe_Sh F ho _ _) 1 (by decide) rfl hF_X9_15 dX9_faultFrom_15 ?_
      refine j_i2l C dX9_faultFrom_18 ?_
      refine j_lcmp C dX9_faultFrom_19 ?_
      refine j_if_gt C 27 dX9_faultFrom_20 (by decide) ?_ ?_
      · refine j_iconst C (3 : Int32) dX9_faultFrom_27 (by decide) ?_
        exact j_ireti C Q dX9_faultFrom_28
      · refine j_iconst C (0 : Int32) dX9_faultFrom_23 (by decide) ?_
        refine j_goto C 28 dX9_faultFrom_24 (by decide) ?_
        exact j_ireti C Q dX9_faultFrom_28
set_option maxRecDepth 100000 in
set_option maxHeartbeats 4000000 in
theorem c_X9_faultFrom {E : EnvT} {n : Nat} {cs : Nat → ClassId} (F : XF E n cs) {σ : Mem} {o : Nat} {p1 : Int32} {p2 : Int64} (ho : isSh o = true) {r : Int32} (h : X9_faultFrom n o σ p1 p2 = some r) : CT E yX9_faultFrom cX9_faultFrom 4 (some .int) rm_X9_faultFrom [.ref (eAd E o), .int p1, .long p2] σ (RQi r σ) :=
  ct_X F (by decide) (Nat.le_of_ble_eq_true rfl) (fun E' ea F' C Q => by rw [← ea]; exact m_X9_faultFrom F' ho C Q h)
theorem dd_X9_faultFrom : yX9_faultFrom.cls ≠ "java/lang/invoke/MethodHandle" ∧ yX9_faultFrom.cls ≠ "java/lang/invoke/VarHandle" ∧ (parseMethodDescriptor yX9_faultFrom.desc).map (fun d => d.parameters.length) = some 2 := by decide +kernel
def X9_write (n : Nat) (o : Nat) (σ : Mem) (p1 : Int32) (p2 : Int32) : Option (Mem) :=
  bindo (X11_within p1 (0 : Int32) (39 : Int32)) (fun r2 =>
  if r2 = (0 : Int32) then
  (some σ)
  else
  (if ¬ (σ.1 o 2) = (0 : Int32) then
  (if ¬ (σ.1 o 2) = (1 : Int32) then
  (chk (inb p1 40) (
  lete (wI σ (o + 1) (ix p1) p2) (fun σ4 =>
  some σ4)))
  else
  (chk (inb p1 40) (
  lete (wI σ (o + 1) (ix p1) (p2.toInt16.toInt32)) (fun σ6 =>
  some σ6))))
  else
  (chk (inb p1 40) (
  lete (wI σ (o + 1) (ix p1) (p2.toInt8.toInt32)) (fun σ8 =>
  some σ8)))))
abbrev rm_X9_write : Room := { frames := 1, cells := 0, slots := 0, locals := 22 }
set_option maxRecDepth 100000 in
set_option maxHeartbeats 4000000 in
theorem m_X9_write {E : EnvT} {n : Nat} {cs : Nat → ClassId} (F : XF E n cs) {o : Nat} {p1 : Int32} {p2 : Int32} {σ : Mem} (ho : isSh o = true) (C : CX E cX9_write RX9 3 rm_X9_write) {r0 : Mem} (Q : QE E 0 0 none (RQv r0)) : J E 3 0 0 r0 (X9_write n o σ p1 p2) σ 0 [(0, .ref (eAd E o)), (1, .int p1), (2, .int p2)] [] := by

  unfold X9_write
  refine j_iload_n C dX9_write_0 1 rfl ?_
  refine j_iconst C (0 : Int32) dX9_write_1 (by decide) ?_
  refine j_bipush C (39 : Int32) dX9_write_2 (by decide) ?_
  refine j_bind (fun r2 h1 => ?_)
  refine j_callNi C [.int p1, .int (0 : Int32), .int (39 : Int32)] (c_X11_within F h1) nhN_X9_26 hT_X11_within hZ_X11 hC_X11_within dd_X11_within (by decide) ⟨rfl, rfl⟩ (by decide) (Nat.le_of_ble_eq_true rfl) dX9_write_4 rfl ?_
  refine j_if_eq C 42 dX9_write_7 (by decide) ?_ ?_
  · exact j_vret2 C Q dX9_write_42
  · refine j_aload_n C dX9_write_10 0 rfl ?_
    refine j_get (ci := 9) C hU_X9 rfl (xin_Sh F ho) (xe_Sh F ho _ _) 0 (by decide) rfl hF_X9_9 dX9_write_11 ?_
    refine j_iload_n C dX9_write_14 1 rfl ?_
    refine j_aload_n C dX9_write_15 0 rfl ?_
    refine j_get (ci := 9) C hU_X9 rfl (xin_Sh F ho) (xe_Sh F ho _ _) 2 (by decide) rfl hF_X9_19 dX9_write_16 ?_
    refine j_if_ne C 27 dX9_write_19 (by decide) ?_ ?_
    · refine j_aload_n C dX9_write_27 0 rfl ?_
      refine j_get (ci := 9) C hU_X9 rfl (xin_Sh F ho) (xe_Sh F ho _ _) 2 (by decide) rfl hF_X9_19 dX9_write_28 ?_
      refine j_iconst C (1 : Int32) dX9_write_31 (by decide) ?_
      refine j_icmp_ne C 40 dX9_write_32 (by decide) ?_ ?_
      · refine j_iload_n C dX9_write_40 2 rfl ?_
        refine j_chk (fun h3 => ?_)
        refine j_iast (t0 := 0) C (xin_Sh1 F ho) (xe_Sh1 F ho _ _) (by rw [wI_o, wI_2]; exact (xe_Sh1 F ho _ _)) (xt0 F) (inb_in h3) dX9_write_41 (fun σ4 => ?_)
        exact j_vret2 C Q dX9_write_42
      · refine j_iload_n C dX9_write_35 2 rfl ?_
        refine j_i2s C dX9_write_36 ?_
        refine j_goto C 41 dX9_write_37 (by decide) ?_
        refine j_chk (fun h5 => ?_)
        refine j_iast (t0 := 0) C (xin_Sh1 F ho) (xe_Sh1 F ho _ _) (by rw [wI_o, wI_2]; exact (xe_Sh1 F ho _ _)) (xt0 F) (inb_in h5) dX9_write_41 (fun σ6 => ?_)
        exact j_vret2 C Q dX9_write_42
    · refine j_iload_n C dX9_write_22 2 rfl ?_
      refine j_i2b C dX9_write_23 ?_
      refine j_goto C 41 dX9_write_24 (by decide) ?_
      refine j_chk (fun h7 => ?_)
      refine j_iast (t0 := 0) C (xin_Sh1 F ho) (xe_Sh1 F ho _ _) (by rw [wI_o, wI_2]; exact (xe_Sh1 F ho _ _)) (xt0 F) (inb_in h7) dX9_write_41 (fun σ8 => ?_)
      exact j_vret2 C Q dX9_write_42
set_option maxRecDepth 100000 in
set_option maxHeartbeats 4000000 in
theorem c_X9_write {E : EnvT} {n : Nat} {cs : Nat → ClassId} (F : XF E n cs) {σ : Mem} {o : Nat} {p1 : Int32} {p2 : Int32} (ho : isSh o = true) {r : Mem} (h : X9_write n o σ p1 p2 = some r) : CT E yX9_write cX9_write 3 none rm_X9_write [.ref (eAd E o), .int p1, .int p2] σ (RQv r) :=
  ct_X F (by decide) (Nat.le_of_ble_eq_true rfl) (fun E' ea F' C Q => by rw [← ea]; exact m_X9_write F' ho C Q h)
theorem dd_X9_write : yX9_write.cls ≠ "java/lang/invoke/MethodHandle" ∧ yX9_write.cls ≠ "java/lang/invoke/VarHandle" ∧ (parseMethodDescriptor yX9_write.desc).map (fun d => d.parameters.length) = some 2 := by decide +kernel
def X10_add (n : Nat) (o : Nat) (σ : Mem) (p1 : Int32) (p2 : Int32) (p3 : Int32) (p4 : Int32) : Option (Mem) :=
  bindo (X11_within (σ.1 o 4) (0 : Int32) (19 : Int32)) (fun r2 =>
  if r2 = (0 : Int32) then
  (some σ)
  else
  (chk (inb (σ.1 o 4) 20) (
  lete (wI σ (o + 1) (ix (σ.1 o 4)) p1) (fun σ4 =>
  chk (inb (σ4.1 o 4) 20) (
  lete (wI σ4 (o + 2) (ix (σ4.1 o 4)) p2) (fun σ6 =>
  chk (inb (σ6.1 o 4) 20) (
  lete (wI σ6 (o + 3) (ix (σ6.1 o 4)) p3) (fun σ8 =>
  chk (inb (σ8.1 o 4) 20) (
  lete (wI σ8 (o + 4) (ix (σ8.1 o 4)) p4) (fun σ10 =>
  lete (wI σ10 o 4 ((σ10.1 o 4) + (1 : Int32))) (fun σ11 =>
  some σ11)))))))))))
abbrev rm_X10_add : Room := { frames := 1, cells := 0, slots := 0, locals := 22 }
set_option maxRecDepth 100000 in
set_option maxHeartbeats 4000000 in
theorem m_X10_add {E : EnvT} {n : Nat} {cs : Nat → ClassId} (F : XF E n cs) {o : Nat} {p1 : Int32} {p2 : Int32} {p3 : Int32} {p4 : Int32} {σ : Mem} (ho : isTl o = true) (C : CX E cX10_add RX10 5 rm_X10_add) {r0 : Mem} (Q : QE E 0 0 none (RQv r0)) : J E 5 0 0 r0 (X10_add n o σ p1 p2 p3 p4) σ 0 [(0, .ref (eAd E o)), (1, .int p1), (2, .int p2), (3, .int p3), (4, .int p4)] [] := by

  unfold X10_add
  refine j_aload_n C dX10_add_0 0 rfl ?_
  refine j_get (ci := 10) C hU_X10 rfl (xin_Tl F ho) (xe_Tl F ho _ _) 4 (by decide) rfl hF_X10_24 dX10_add_1 ?_
  refine j_iconst C (0 : Int32) dX10_add_4 (by decide) ?_
  refine j_bipush C (19 : Int32) dX10_add_5 (by decide) ?_
  refine j_bind (fun r2 h1 => ?_)
  refine j_callNi C [.int (σ.1 o 4), .int (0 : Int32), .int (19 : Int32)] (c_X11_within F h1) nhN_X10_28 hT_X11_within hZ_X11 hC_X11_within dd_X11_within (by decide) ⟨rfl, rfl⟩ (by decide) (Nat.le_of_ble_eq_true rfl) dX10_add_7 rfl ?_
  refine j_if_eq C 64 dX10_add_10 (by decide) ?_ ?_
  · exact j_vret2 C Q dX10_add_64
  · refine j_aload_n C dX10_add_13 0 rfl ?_
    refine j_get (ci := 10) C hU_X10 rfl (xin_Tl F ho) (xe_Tl F ho _ _) 0 (by decide) rfl hF_X10_9 dX10_add_14 ?_
    refine j_aload_n C dX10_add_17 0 rfl ?_
    refine j_get (ci := 10) C hU_X10 rfl (xin_Tl F ho) (xe_Tl F ho _ _) 4 (by decide) rfl hF_X10_24 dX10_add_18 ?_
    refine j_iload_n C dX10_add_21 1 rfl ?_
    refine j_chk (fun h3 => ?_)
    refine j_iast (t0 := 0) C (xin_Tl1 F ho) (xe_Tl1 F ho _ _) (by rw [wI_o, wI_2]; exact (xe_Tl1 F ho _ _)) (xt0 F) (inb_in h3) dX10_add_22 (fun σ4 => ?_)
    refine j_aload_n C dX10_add_23 0 rfl ?_
    refine j_get (ci := 10) C hU_X10 rfl (xin_Tl F ho) (xe_Tl F ho _ _) 1 (by decide) rfl hF_X10_15 dX10_add_24 ?_
    refine j_aload_n C dX10_add_27 0 rfl ?_
    refine j_get (ci := 10) C hU_X10 rfl (xin_Tl F ho) (xe_Tl F ho _ _) 4 (by decide) rfl hF_X10_24 dX10_add_28 ?_
    refine j_iload_n C dX10_add_31 2 rfl ?_
    refine j_chk (fun h5 => ?_)
    refine j_iast (t0 := 0) C (xin_Tl2 F ho) (xe_Tl2 F ho _ _) (by rw [wI_o, wI_2]; exact (xe_Tl2 F ho _ _)) (xt0 F) (inb_in h5) dX10_add_32 (fun σ6 => ?_)
    refine j_aload_n C dX10_add_33 0 rfl ?_
    refine j_get (ci := 10) C hU_X10 rfl (xin_Tl F ho) (xe_Tl F ho _ _) 2 (by decide) rfl hF_X10_18 dX10_add_34 ?_
    refine j_aload_n C dX10_add_37 0 rfl ?_
    refine j_get (ci := 10) C hU_X10 rfl (xin_Tl F ho) (xe_Tl F ho _ _) 4 (by decide) rfl hF_X10_24 dX10_add_38 ?_
    refine j_iload_n C dX10_add_41 3 rfl ?_
    refine j_chk (fun h7 => ?_)
    refine j_iast (t0 := 0) C (xin_Tl3 F ho) (xe_Tl3 F ho _ _) (by rw [wI_o, wI_2]; exact (xe_Tl3 F ho _ _)) (xt0 F) (inb_in h7) dX10_add_42 (fun σ8 => ?_)
    refine j_aload_n C dX10_add_43 0 rfl ?_
    refine j_get (ci := 10) C hU_X10 rfl (xin_Tl F ho) (xe_Tl F ho _ _) 3 (by decide) rfl hF_X10_21 dX10_add_44 ?_
    refine j_aload_n C dX10_add_47 0 rfl ?_
    refine j_get (ci := 10) C hU_X10 rfl (xin_Tl F ho) (xe_Tl F ho _ _) 4 (by decide) rfl hF_X10_24 dX10_add_48 ?_
    refine j_iload C dX10_add_51 4 rfl ?_
    refine j_chk (fun h9 => ?_)
    refine j_iast (t0 := 0) C (xin_Tl4 F ho) (xe_Tl4 F ho _ _) (by rw [wI_o, wI_2]; exact (xe_Tl4 F ho _ _)) (xt0 F) (inb_in h9) dX10_add_53 (fun σ10 => ?_)
    refine j_aload_n C dX10_add_54 0 rfl ?_
    refine j_dup C dX10_add_55 rfl ?_
    refine j_get (ci := 10) C hU_X10 rfl (xin_Tl F ho) (xe_Tl F ho _ _) 4 (by decide) rfl hF_X10_24 dX10_add_56 ?_
    refine j_iconst C (1 : Int32) dX10_add_59 (by decide) ?_
    refine j_iadd C dX10_add_60 ?_
    refine j_put (ci := 10) C hU_X10 tyX10_ok nmX10 rfl (xin_Tl F ho) (xe_Tl F ho _ _) 4 (by decide) (Nat.le_of_ble_eq_true rfl) (by rw [wI_o, wI_2]; exact (xe_Tl F ho _ _)) (fun o' h' => ⟨wI_ne _ _ _ h', rfl⟩) rfl (by first | rfl | decide) (by first | rfl | decide) hF_X10_24 dX10_add_61 (fun σ11 => ?_)
    exact j_vret2 C Q dX10_add_64
set_option maxRecDepth 100000 in
set_option maxHeartbeats 4000000 in
theorem c_X10_add {E : EnvT} {n : Nat} {cs : Nat → ClassId} (F : XF E n cs) {σ : Mem} {o : Nat} {p1 : Int32} {p2 : Int32} {p3 : Int32} {p4 : Int32} (ho : isTl o = true) {r : Mem} (h : X10_add n o σ p1 p2 p3 p4 = some r) : CT E yX10_add cX10_add 5 none rm_X10_add [.ref (eAd E o), .int p1, .int p2, .int p3, .int p4] σ (RQv r) :=
  ct_X F (by decide) (Nat.le_of_ble_eq_true rfl) (fun E' ea F' C Q => by rw [← ea]; exact m_X10_add F' ho C Q h)
theorem dd_X10_add : yX10_add.cls ≠ "java/lang/invoke/MethodHandle" ∧ yX10_add.cls ≠ "java/lang/invoke/VarHandle" ∧ (parseMethodDescriptor yX10_add.desc).map (fun d => d.parameters.length) = some 4 := by decide +kernel
