def X2_find (n : Nat) (σ : Mem) (p1 : Int32) : Option (Option Nat) :=
  lete (mnI (σ.1 6 4) (8 : Int32)) (fun x1 =>
  bindo (X11_within p1 (0 : Int32) (x1 - (1 : Int32))) (fun r3 =>
  if r3 = (0 : Int32) then
  (some none)
  else
  (chk (inb p1 8) (
  lete (xRows n (ix p1)) (fun y5 =>
  some y5)))))
abbrev rm_X2_find : Room := { frames := 1, cells := 0, slots := 0, locals := 24 }
set_option maxRecDepth 100000 in
set_option maxHeartbeats 4000000 in
theorem m_X2_find {E : EnvT} {n : Nat} {cs : Nat → ClassId} (F : XF E n cs) {p1 : Int32} {σ : Mem} (C : CX E cX2_find RX2 2 rm_X2_find) {r0 : Option Nat} (Q : QE E 0 0 (some (.object "EngineCell$Channel")) (RQq r0 σ)) : J E 2 0 0 r0 (X2_find n σ p1) σ 0 [(0, .ref (eAd E 6)), (1, .int p1)] [] := by

  unfold X2_find
  refine j_iload_n C dX2_find_0 1 rfl ?_
  refine j_iconst C (0 : Int32) dX2_find_1 (by decide) ?_
  refine j_aload_n C dX2_find_2 0 rfl ?_
  refine j_get (ci := 2) C hU_X2 rfl (xin F (by decide)) (xe_6 F _ _) 4 (by decide) rfl hF_X2_27 dX2_find_3 ?_
  refine j_bipush C (8 : Int32) dX2_find_6 (by decide) ?_
  refine j_mmin C hM_X2_39 hT_J9_min_7cf53 hZ_J9 hC_J9_min_7cf53 (by decide) (Nat.le_of_ble_eq_true rfl) (by decide) dX2_find_8 ?_
  refine j_nmi (fun x1 => ?_)
  refine j_iconst C (1 : Int32) dX2_find_11 (by decide) ?_
  refine j_isub C dX2_find_12 ?_
  refine j_bind (fun r3 h2 => ?_)
  refine j_callNi C [.int p1, .int (0 : Int32), .int (x1 - (1 : Int32))] (c_X11_within F h2) nhN_X2_35 hT_X11_within hZ_X11 hC_X11_within dd_X11_within (by decide) ⟨rfl, rfl⟩ (by decide) (Nat.le_of_ble_eq_true rfl) dX2_find_13 rfl ?_
  refine j_if_eq C 28 dX2_find_16 (by decide) ?_ ?_
  · refine j_null C dX2_find_28 ?_
    exact j_aret (v := none) C (Or.inl ⟨_, rfl⟩) Q dX2_find_29
  · refine j_aload_n C dX2_find_19 0 rfl ?_
    refine j_get (ci := 2) C hU_X2 rfl (xin F (by decide)) (xe_6 F _ _) 1 (by decide) rfl hF_X2_11 dX2_find_20 ?_
    refine j_iload_n C dX2_find_23 1 rfl ?_
    refine j_chk (fun h4 => ?_)
    refine j_aald (t0 := 3) C (xin F (by decide)) (xe_7 F _ _) (xt3 F) (inb_in h4) dX2_find_24 ?_
    refine j_nmq (fun y5 => ?_)
    refine j_goto C 29 dX2_find_25 (by decide) ?_
    exact j_aret (v := y5) C (Or.inl ⟨_, rfl⟩) Q dX2_find_29
set_option maxRecDepth 100000 in
set_option maxHeartbeats 4000000 in
theorem c_X2_find {E : EnvT} {n : Nat} {cs : Nat → ClassId} (F : XF E n cs) {σ : Mem} {p1 : Int32} {r : Option Nat} (h : X2_find n σ p1 = some r) : CT E yX2_find cX2_find 2 (some (.object "EngineCell$Channel")) rm_X2_find [.ref (eAd E 6), .int p1] σ (RQq r σ) :=
  ct_X F (by decide) (Nat.le_of_ble_eq_true rfl) (fun E' ea F' C Q => by rw [← ea]; exact m_X2_find F'  C Q h)
theorem dd_X2_find : yX2_find.cls ≠ "java/lang/invoke/MethodHandle" ∧ yX2_find.cls ≠ "java/lang/invoke/VarHandle" ∧ (parseMethodDescriptor yX2_find.desc).map (fun d => d.parameters.length) = some 1 := by decide +kernel
def X2_isLost (n : Nat) (σ : Mem) (p1 : Nat) (p2 : Int32) : Option (Int32) :=
  if p2 < (σ.1 p1 3) then
  (some (1 : Int32))
  else
  (bindo (X10_covers n 8 σ (σ.1 p1 0) p2) (fun r2 =>
  if r2 = (0 : Int32) then
  (some (0 : Int32))
  else
  (some (1 : Int32))))
abbrev rm_X2_isLost : Room := { frames := 1, cells := 0, slots := 0, locals := 23 }
set_option maxRecDepth 100000 in
set_option maxHeartbeats 4000000 in
theorem m_X2_isLost {E : EnvT} {n : Nat} {cs : Nat → ClassId} (F : XF E n cs) {p1 : Nat} {p2 : Int32} {σ : Mem} (hp1 : isCh n p1 = true) (C : CX E cX2_isLost RX2 3 rm_X2_isLost) {r0 : Int32} (Q : QE E 0 0 (some .boolean) (RQi r0 σ)) : J E 3 0 0 r0 (X2_isLost n σ p1 p2) σ 0 [(0, .ref (eAd E 6)), (1, .ref (eAd E p1)), (2, .int p2)] [] := by

  unfold X2_isLost
  refine j_iload_n C dX2_isLost_0 2 rfl ?_
  refine j_aload_n C dX2_isLost_1 1 rfl ?_
  refine j_get (ci := 1) C hU_X1 rfl (xin_Ch F hp1) (xe_Ch F hp1 _ _) 3 (by decide) rfl hF_X2_45 dX2_isLost_2 ?_
  refine j_icmp_lt C 23 dX2_isLost_5 (by decide) ?_ ?_
  · refine j_iconst C (1 : Int32) dX2_isLost_23 (by decide) ?_
    refine j_goto C 28 dX2_isLost_24 (by decide) ?_
    exact j_iretz C rfl Q dX2_isLost_28
  · refine j_aload_n C dX2_isLost_8 0 rfl ?_
    refine j_get (ci := 2) C hU_X2 rfl (xin F (by decide)) (xe_6 F _ _) 2 (by decide) rfl hF_X2_20 dX2_isLost_9 ?_
    refine j_aload_n C dX2_isLost_12 1 rfl ?_
    refine j_get (ci := 1) C hU_X1 rfl (xin_Ch F hp1) (xe_Ch F hp1 _ _) 0 (by decide) rfl hF_X2_48 dX2_isLost_13 ?_
    refine j_iload_n C dX2_isLost_16 2 rfl ?_
    refine j_bind (fun r2 h1 => ?_)
    refine j_callVi (ci := 10) C [.int (σ.1 p1 0), .int p2] (c_X10_covers F (by decide) h1) hM_X2_51 hI_X10_covers hS_X10_covers hZ_X10 hC_X10_covers (xin F (by decide)) (xe_8 F _ _) rfl rfl dd_X10_covers (by decide) ⟨rfl, rfl⟩ (by decide) (Nat.le_of_ble_eq_true rfl) dX2_isLost_17 rfl ?_
    refine j_if_eq C 27 dX2_isLost_20 (by decide) ?_ ?_
    · refine j_iconst C (0 : Int32) dX2_isLost_27 (by decide) ?_
      exact j_iretz C rfl Q dX2_isLost_28
    · refine j_iconst C (1 : Int32) dX2_isLost_23 (by decide) ?_
      refine j_goto C 28 dX2_isLost_24 (by decide) ?_
      exact j_iretz C rfl Q dX2_isLost_28
set_option maxRecDepth 100000 in
set_option maxHeartbeats 4000000 in
theorem c_X2_isLost {E : EnvT} {n : Nat} {cs : Nat → ClassId} (F : XF E n cs) {σ : Mem} {p1 : Nat} {p2 : Int32} (hp1 : isCh n p1 = true) {r : Int32} (h : X2_isLost n σ p1 p2 = some r) : CT E yX2_isLost cX2_isLost 3 (some .boolean) rm_X2_isLost [.ref (eAd E 6), .ref (eAd E p1), .int p2] σ (RQi r σ) :=
  ct_X F (by decide) (Nat.le_of_ble_eq_true rfl) (fun E' ea F' C Q => by rw [← ea]; exact m_X2_isLost F' hp1 C Q h)
theorem dd_X2_isLost : yX2_isLost.cls ≠ "java/lang/invoke/MethodHandle" ∧ yX2_isLost.cls ≠ "java/lang/invoke/VarHandle" ∧ (parseMethodDescriptor yX2_isLost.desc).map (fun d => d.parameters.length) = some 2 := by decide +kernel
def X2_isFull (n : Nat) (σ : Mem) (p1 : Nat) (p2 : Int32) : Option (Int32) :=
  bindo (X3_part n σ (p2 - (σ.1 p1 3)) (σ.1 p1 1)) (fun r2 =>
  bindo (X11_within r2 (σ.1 p1 4) (σ.1 p1 5)) (fun r4 =>
  if ¬ r4 = (0 : Int32) then
  (some (0 : Int32))
  else
  (some (1 : Int32))))
abbrev rm_X2_isFull : Room := { frames := 2, cells := 0, slots := 0, locals := 44 }
set_option maxRecDepth 100000 in
set_option maxHeartbeats 4000000 in
theorem m_X2_isFull {E : EnvT} {n : Nat} {cs : Nat → ClassId} (F : XF E n cs) {p1 : Nat} {p2 : Int32} {σ : Mem} (hp1 : isCh n p1 = true) (C : CX E cX2_isFull RX2 3 rm_X2_isFull) {r0 : Int32} (Q : QE E 0 0 (some .boolean) (RQi r0 σ)) : J E 3 0 0 r0 (X2_isFull n σ p1 p2) σ 0 [(0, .ref (eAd E 6)), (1, .ref (eAd E p1)), (2, .int p2)] [] := by

  unfold X2_isFull
  refine j_aload_n C dX2_isFull_0 0 rfl ?_
  refine j_get (ci := 2) C hU_X2 rfl (xin F (by decide)) (xe_6 F _ _) 0 (by decide) rfl hF_X2_31 dX2_isFull_1 ?_
  refine j_iload_n C dX2_isFull_4 2 rfl ?_
  refine j_aload_n C dX2_isFull_5 1 rfl ?_
  refine j_get (ci := 1) C hU_X1 rfl (xin_Ch F hp1) (xe_Ch F hp1 _ _) 3 (by decide) rfl hF_X2_45 dX2_isFull_6 ?_
  refine j_isub C dX2_isFull_9 ?_
  refine j_aload_n C dX2_isFull_10 1 rfl ?_
  refine j_get (ci := 1) C hU_X1 rfl (xin_Ch F hp1) (xe_Ch F hp1 _ _) 1 (by decide) rfl hF_X2_55 dX2_isFull_11 ?_
  refine j_bind (fun r2 h1 => ?_)
  refine j_callVi (ci := 3) C [.int (p2 - (σ.1 p1 3)), .int (σ.1 p1 1)] (c_X3_part F h1) hM_X2_58 hI_X3_part hS_X3_part hZ_X3 hC_X3_part (xin F (by decide)) (xe_1 F _ _) rfl rfl dd_X3_part (by decide) ⟨rfl, rfl⟩ (by decide) (Nat.le_of_ble_eq_true rfl) dX2_isFull_14 rfl ?_
  refine j_aload_n C dX2_isFull_17 1 rfl ?_
  refine j_get (ci := 1) C hU_X1 rfl (xin_Ch F hp1) (xe_Ch F hp1 _ _) 4 (by decide) rfl hF_X2_63 dX2_isFull_18 ?_
  refine j_aload_n C dX2_isFull_21 1 rfl ?_
  refine j_get (ci := 1) C hU_X1 rfl (xin_Ch F hp1) (xe_Ch F hp1 _ _) 5 (by decide) rfl hF_X2_66 dX2_isFull_22 ?_
  refine j_bind (fun r4 h3 => ?_)
  refine j_callNi C [.int r2, .int (σ.1 p1 4), .int (σ.1 p1 5)] (c_X11_within F h3) nhN_X2_35 hT_X11_within hZ_X11 hC_X11_within dd_X11_within (by decide) ⟨rfl, rfl⟩ (by decide) (Nat.le_of_ble_eq_true rfl) dX2_isFull_25 rfl ?_
  refine j_if_ne C 35 dX2_isFull_28 (by decide) ?_ ?_
  · refine j_iconst C (0 : Int32) dX2_isFull_35 (by decide) ?_
    exact j_iretz C rfl Q dX2_isFull_36
  · refine j_iconst C (1 : Int32) dX2_isFull_31 (by decide) ?_
    refine j_goto C 36 dX2_isFull_32 (by decide) ?_
    exact j_iretz C rfl Q dX2_isFull_36
set_option maxRecDepth 100000 in
set_option maxHeartbeats 4000000 in
theorem c_X2_isFull {E : EnvT} {n : Nat} {cs : Nat → ClassId} (F : XF E n cs) {σ : Mem} {p1 : Nat} {p2 : Int32} (hp1 : isCh n p1 = true) {r : Int32} (h : X2_isFull n σ p1 p2 = some r) : CT E yX2_isFull cX2_isFull 3 (some .boolean) rm_X2_isFull [.ref (eAd E 6), .ref (eAd E p1), .int p2] σ (RQi r σ) :=
  ct_X F (by decide) (Nat.le_of_ble_eq_true rfl) (fun E' ea F' C Q => by rw [← ea]; exact m_X2_isFull F' hp1 C Q h)
theorem dd_X2_isFull : yX2_isFull.cls ≠ "java/lang/invoke/MethodHandle" ∧ yX2_isFull.cls ≠ "java/lang/invoke/VarHandle" ∧ (parseMethodDescriptor yX2_isFull.desc).map (fun d => d.parameters.length) = some 2 := by decide +kernel
def X2_value (n : Nat) (σ : Mem) (p1 : Nat) (p2 : Int32) : Option (Int64) :=
  bindo (X2_isLost n σ p1 p2) (fun r2 =>
  if r2 = (0 : Int32) then
  (bindo (X3_part n σ (p2 - (σ.1 p1 3)) (σ.1 p1 1)) (fun r4 =>
  lete (mnI (σ.1 p1 5) r4) (fun x5 =>
  lete (mxI (σ.1 p1 4) x5) (fun x6 =>
  bindo (X10_apply n 13 σ (σ.1 p1 0) p2 x6) (fun r8 =>
  some (r8.toInt64))))))
  else
  (some (-9223372036854775808 : Int64)))
abbrev rm_X2_value : Room := { frames := 2, cells := 0, slots := 0, locals := 48 }
set_option maxRecDepth 100000 in
set_option maxHeartbeats 4000000 in
theorem m_X2_value {E : EnvT} {n : Nat} {cs : Nat → ClassId} (F : XF E n cs) {p1 : Nat} {p2 : Int32} {σ : Mem} (hp1 : isCh n p1 = true) (C : CX E cX2_value RX2 5 rm_X2_value) {r0 : Int64} (Q : QE E 0 0 (some .long) (RQl r0 σ)) : J E 5 0 0 r0 (X2_value n σ p1 p2) σ 0 [(0, .ref (eAd E 6)), (1, .ref (eAd E p1)), (2, .int p2)] [] := by

  unfold X2_value
  refine j_aload_n C dX2_value_0 0 rfl ?_
  refine j_aload_n C dX2_value_1 1 rfl ?_
  refine j_iload_n C dX2_value_2 2 rfl ?_
  refine j_bind (fun r2 h1 => ?_)
  refine j_callVi (ci := 2) C [.ref (eAd E p1), .int p2] (c_X2_isLost F hp1 h1) hM_X2_69 hI_X2_isLost hS_X2_isLost hZ_X2 hC_X2_isLost (xin F (by decide)) (xe_6 F _ _) rfl rfl dd_X2_isLost (by decide) ⟨rfl, rfl⟩ (by decide) (Nat.le_of_ble_eq_true rfl) dX2_value_3 rfl ?_
  refine j_if_eq C 13 dX2_value_6 (by decide) ?_ ?_
  · refine j_aload_n C dX2_value_13 0 rfl ?_
    refine j_get (ci := 2) C hU_X2 rfl (xin F (by decide)) (xe_6 F _ _) 0 (by decide) rfl hF_X2_31 dX2_value_14 ?_
    refine j_iload_n C dX2_value_17 2 rfl ?_
    refine j_aload_n C dX2_value_18 1 rfl ?_
    refine j_get (ci := 1) C hU_X1 rfl (xin_Ch F hp1) (xe_Ch F hp1 _ _) 3 (by decide) rfl hF_X2_45 dX2_value_19 ?_
    refine j_isub C dX2_value_22 ?_
    refine j_aload_n C dX2_value_23 1 rfl ?_
    refine j_get (ci := 1) C hU_X1 rfl (xin_Ch F hp1) (xe_Ch F hp1 _ _) 1 (by decide) rfl hF_X2_55 dX2_value_24 ?_
    refine j_bind (fun r4 h3 => ?_)
    refine j_callVi (ci := 3) C [.int (p2 - (σ.1 p1 3)), .int (σ.1 p1 1)] (c_X3_part F h3) hM_X2_58 hI_X3_part hS_X3_part hZ_X3 hC_X3_part (xin F (by decide)) (xe_1 F _ _) rfl rfl dd_X3_part (by decide) ⟨rfl, rfl⟩ (by decide) (Nat.le_of_ble_eq_true rfl) dX2_value_27 rfl ?_
    refine j_istore_n (lv' := [(3, .int r4), (0, .ref (eAd E 6)), (1, .ref (eAd E p1)), (2, .int p2)]) C dX2_value_30 (by decide) rfl ?_
    refine j_aload_n C dX2_value_31 2 rfl ?_
    refine j_get (ci := 1) C hU_X1 rfl (xin_Ch F hp1) (xe_Ch F hp1 _ _) 4 (by decide) rfl hF_X2_63 dX2_value_32 ?_
    refine j_aload_n C dX2_value_35 2 rfl ?_
    refine j_get (ci := 1) C hU_X1 rfl (xin_Ch F hp1) (xe_Ch F hp1 _ _) 5 (by decide) rfl hF_X2_66 dX2_value_36 ?_
    refine j_iload_n C dX2_value_39 0 rfl ?_
    refine j_mmin C hM_X2_39 hT_J9_min_7cf53 hZ_J9 hC_J9_min_7cf53 (by decide) (Nat.le_of_ble_eq_true rfl) (by decide) dX2_value_40 ?_
    refine j_nmi (fun x5 => ?_)
    refine j_mmax C hM_X2_75 hT_J9_max_7cf53 hZ_J9 hC_J9_max_7cf53 (by decide) (Nat.le_of_ble_eq_true rfl) (by decide) dX2_value_43 ?_
    refine j_nmi (fun x6 => ?_)
    refine j_istore (lv' := [(4, .int x6), (3, .int r4), (0, .ref (eAd E 6)), (1, .ref (eAd E p1)), (2, .int p2)]) C dX2_value_46 (by decide) rfl ?_
    refine j_aload_n C dX2_value_48 2 rfl ?_
    refine j_get (ci := 2) C hU_X2 rfl (xin F (by decide)) (xe_6 F _ _) 3 (by decide) rfl hF_X2_24 dX2_value_49 ?_
    refine j_aload_n C dX2_value_52 3 rfl ?_
    refine j_get (ci := 1) C hU_X1 rfl (xin_Ch F hp1) (xe_Ch F hp1 _ _) 0 (by decide) rfl hF_X2_48 dX2_value_53 ?_
    refine j_iload_n C dX2_value_56 4 rfl ?_
    refine j_iload C dX2_value_57 0 rfl ?_
    refine j_bind (fun r8 h7 => ?_)
    refine j_callVi (ci := 10) C [.int (σ.1 p1 0), .int p2, .int x6] (c_X10_apply F (by decide) h7) hM_X2_78 hI_X10_apply hS_X10_apply hZ_X10 hC_X10_apply (xin F (by decide)) (xe_13 F _ _) rfl rfl dd_X10_apply (by decide) ⟨rfl, rfl⟩ (by decide) (Nat.le_of_ble_eq_true rfl) dX2_value_59 rfl ?_
    refine j_i2l C dX2_value_62 ?_
    exact j_lret C Q dX2_value_63
  · refine j_ldc2 C hK_X2_73 dX2_value_9 ?_
    exact j_lret C Q dX2_value_12
set_option maxRecDepth 100000 in
set_option maxHeartbeats 4000000 in
theorem c_X2_value {E : EnvT} {n : Nat} {cs : Nat → ClassId} (F : XF E n cs) {σ : Mem} {p1 : Nat} {p2 : Int32} (hp1 : isCh n p1 = true) {r : Int64} (h : X2_value n σ p1 p2 = some r) : CT E yX2_value cX2_value 5 (some .long) rm_X2_value [.ref (eAd E 6), .ref (eAd E p1), .int p2] σ (RQl r σ) :=
  ct_X F (by decide) (Nat.le_of_ble_eq_true rfl) (fun E' ea F' C Q => by rw [← ea]; exact m_X2_value F' hp1 C Q h)
theorem dd_X2_value : yX2_value.cls ≠ "java/lang/invoke/MethodHandle" ∧ yX2_value.cls ≠ "java/lang/invoke/VarHandle" ∧ (parseMethodDescriptor yX2_value.desc).map (fun d => d.parameters.length) = some 2 := by decide +kernel
def X2_isOneAbove_b72 (n : Nat) (rec2 : (Int32 × Int32) → Option (Int32)) (σ : Mem) (v1 : Int32) (v2 : Int32) : Option (Int32) :=
  lete (v2 + (1 : Int32)) (fun x1 =>
  rec2 (v1, x1))
def X2_isOneAbove_l2 (n : Nat) (rec2 : (Int32 × Int32) → Option (Int32)) (σ : Mem) (v1 : Int32) (v2 : Int32) : Option (Int32) :=
  if (σ.1 6 4) ≤ v2 then
  (some (0 : Int32))
  else
  (if (8 : Int32) ≤ v2 then
  (some (0 : Int32))
  else
  (chk (inb v2 8) (
  lete (xRows n (ix v2)) (fun y2 =>
  caseo y2 (X2_isOneAbove_b72 n rec2 σ v1 v2)
  (fun a3 => chk (isCh n a3) (if (σ.1 a3 6) = (0 : Int32) then
  (X2_isOneAbove_b72 n rec2 σ v1 v2)
  else
  (bindo (X1_readsAt n a3 σ v1) (fun r6 =>
  if r6 = (0 : Int32) then
  (X2_isOneAbove_b72 n rec2 σ v1 v2)
  else
  (bindo (X2_value n σ a3 v1) (fun r8 =>
  if (lg_cmp r8 (-9223372036854775808 : Int64)) = (0 : Int32) then
  (X2_isOneAbove_b72 n rec2 σ v1 v2)
  else
  (if (lg_cmp r8 (((σ.1 a3 7)).toInt64)) ≤ (0 : Int32) then
  (X2_isOneAbove_b72 n rec2 σ v1 v2)
  else
  (some (1 : Int32)))))))))))))
def X2_isOneAbove (n : Nat) (σ : Mem) (p1 : Int32) : Option (Int32) :=
  loopF (fun (rec : (Int32 × Int32) → Option (Int32)) (s : Int32 × Int32) => X2_isOneAbove_l2 n rec σ s.1 s.2)  FU (p1, (0 : Int32))
abbrev rm_X2_isOneAbove : Room := { frames := 3, cells := 0, slots := 0, locals := 72 }
set_option maxRecDepth 100000 in
set_option maxHeartbeats 4000000 in
theorem m_X2_isOneAbove {E : EnvT} {n : Nat} {cs : Nat → ClassId} (F : XF E n cs) {p1 : Int32} {σ : Mem} (C : CX E cX2_isOneAbove RX2 6 rm_X2_isOneAbove) {r0 : Int32} (Q : QE E 0 0 (some .boolean) (RQi r0 σ)) : J E 6 0 0 r0 (X2_isOneAbove n σ p1) σ 0 [(0, .ref (eAd E 6)), (1, .int p1)] [] := by
  have hB72 : ∀ (rec2 : (Int32 × Int32) → Option (Int32)) (hrec2 : ∀ a : Int32 × Int32, J E 6 0 0 r0 (rec2 a) σ 2 [(0, .ref (eAd E 6)), (1, .int a.1), (2, .int a.2)] []) (v1 : Int32) (v2 : Int32), J E 6 0 0 r0 (X2_isOneAbove_b72 n rec2 σ v1 v2) σ 72 [(0, .ref (eAd E 6)), (1, .int v1), (2, .int v2)] [] := by
    intro rec2 hrec2 v1 v2
    unfold X2_isOneAbove_b72
    refine j_iincN (lf := fun x1 => [(2, .int x1), (0, .ref (eAd E 6)), (1, .int v1)]) C dX2_isOneAbove_72 2 rfl (by rfl) (by decide) (fun _ => rfl) (fun x1 => ?_)
    refine j_goto C 2 dX2_isOneAbove_75 (by decide) ?_
    refine j_lv [(0, .ref (eAd E 6)), (1, .int v1), (2, .int x1)] [1, 2, 0] rfl ?_
    exact hrec2 (v1, x1)
  have hL2 : ∀ (f : Nat) (a : Int32 × Int32), J E 6 0 0 r0 (loopF (fun (rec : (Int32 × Int32) → Option (Int32)) (s : Int32 × Int32) => X2_isOneAbove_l2 n rec σ s.1 s.2) f a) σ 2 [(0, .ref (eAd E 6)), (1, .int a.1), (2, .int a.2)] [] := by
    refine j_loop (M := fun (a : Int32 × Int32) => σ) (L := fun (a : Int32 × Int32) => [(0, .ref (eAd E 6)), (1, .int a.1), (2, .int a.2)]) (S := fun (a : Int32 × Int32) => []) (fun rec2 hrec2 a => ?_)
    obtain ⟨v1, v2⟩ := a
    show J E 6 0 0 r0 (X2_isOneAbove_l2 n rec2 σ v1 v2) σ 2 [(0, .ref (eAd E 6)), (1, .int v1), (2, .int v2)] []
    unfold X2_isOneAbove_l2
    refine j_iload_n C dX2_isOneAbove_2 2 rfl ?_
    refine j_aload_n C dX2_isOneAbove_3 0 rfl ?_
    refine j_get (ci := 2) C hU_X2 rfl (xin F (by decide)) (xe_6 F _ _) 4 (by decide) rfl hF_X2_27 dX2_isOneAbove_4 ?_
    refine j_icmp_ge C 78 dX2_isOneAbove_7 (by decide) ?_ ?_
    · refine j_iconst C (0 : Int32) dX2_isOneAbove_78 (by decide) ?_
      exact j_iretz C rfl Q dX2_isOneAbove_79
    · refine j_iload_n C dX2_isOneAbove_10 2 rfl ?_
      refine j_bipush C (8 : Int32) dX2_isOneAbove_11 (by decide) ?_
      refine j_icmp_ge C 78 dX2_isOneAbove_13 (by decide) ?_ ?_
      · refine j_iconst C (0 : Int32) dX2_isOneAbove_78 (by decide) ?_
        exact j_iretz C rfl Q dX2_isOneAbove_79
      · refine j_aload_n C dX2_isOneAbove_16 0 rfl ?_
        refine j_get (ci := 2) C hU_X2 rfl (xin F (by decide)) (xe_6 F _ _) 1 (by decide) rfl hF_X2_11 dX2_isOneAbove_17 ?_
        refine j_iload_n C dX2_isOneAbove_20 2 rfl ?_
        refine j_chk (fun h1 => ?_)
        refine j_aald (t0 := 3) C (xin F (by decide)) (xe_7 F _ _) (xt3 F) (inb_in h1) dX2_isOneAbove_21 ?_
        refine j_nmq (fun y2 => ?_)
        refine j_astoreq_n (lv' := [(3, va_rf (Option.map (eAd E) y2)), (0, .ref (eAd E 6)), (1, .int v1), (2, .int v2)]) C dX2_isOneAbove_22 (by decide) rfl ?_
        refine j_aloadq_n C dX2_isOneAbove_23 0 rfl ?_
        refine j_ifnull C 72 dX2_isOneAbove_24 (by decide) (fun e => ?_) (fun a3 e => ?_)
        · refine j_lv [(0, .ref (eAd E 6)), (1, .int v1), (2, .int v2)] [1, 2, 3] rfl ?_
          refine j_lv [(0, .ref (eAd E 6)), (1, .int v1), (2, .int v2)] [0, 1, 2] rfl ?_
          exact hB72 rec2 hrec2 v1 v2
        · subst e
          refine j_chk (fun h4 => ?_)
          refine j_aload_n C dX2_isOneAbove_27 0 rfl ?_
          refine j_get (ci := 1) C hU_X1 rfl (xin_Ch F h4) (xe_Ch F h4 _ _) 6 (by decide) rfl hF_X2_82 dX2_isOneAbove_28 ?_
          refine j_if_eq C 72 dX2_isOneAbove_31 (by decide) ?_ ?_
          · refine j_lv [(0, .ref (eAd E 6)), (1, .int v1), (2, .int v2)] [1, 2, 3] rfl ?_
            exact hB72 rec2 hrec2 v1 v2
          · refine j_aload_n C dX2_isOneAbove_34 0 rfl ?_
            refine j_iload_n C dX2_isOneAbove_35 2 rfl ?_
            refine j_bind (fun r6 h5 => ?_)
            refine j_callVi (ci := 1) C [.int v1] (c_X1_readsAt F h4 h5) hM_X2_86 hI_X1_readsAt hS_X1_readsAt hZ_X1 hC_X1_readsAt (xin_Ch F h4) (xe_Ch F h4 _ _) rfl rfl dd_X1_readsAt (by decide) ⟨rfl, rfl⟩ (by decide) (Nat.le_of_ble_eq_true rfl) dX2_isOneAbove_36 rfl ?_
            refine j_if_eq C 72 dX2_isOneAbove_39 (by decide) ?_ ?_
            · refine j_lv [(0, .ref (eAd E 6)), (1, .int v1), (2, .int v2)] [1, 2, 3] rfl ?_
              exact hB72 rec2 hrec2 v1 v2
            · refine j_aload_n C dX2_isOneAbove_42 1 rfl ?_
              refine j_aload_n C dX2_isOneAbove_43 0 rfl ?_
              refine j_iload_n C dX2_isOneAbove_44 2 rfl ?_
              refine j_bind (fun r8 h7 => ?_)
              refine j_callVl (ci := 2) C [.ref (eAd E a3), .int v1] (c_X2_value F h4 h7) hM_X2_90 hI_X2_value hS_X2_value hZ_X2 hC_X2_value (xin F (by decide)) (xe_6 F _ _) rfl rfl dd_X2_value (by decide) ⟨rfl, rfl⟩ (by decide) (Nat.le_of_ble_eq_true rfl) dX2_isOneAbove_45 rfl ?_
              refine j_lstore (lv' := [(4, .long r8), (3, .ref (eAd E a3)), (0, .ref (eAd E 6)), (1, .int v1), (2, .int v2)]) C dX2_isOneAbove_48 (by decide) rfl ?_
              refine j_lload C dX2_isOneAbove_50 0 rfl ?_
              refine j_ldc2 C hK_X2_73 dX2_isOneAbove_52 ?_
              refine j_lcmp C dX2_isOneAbove_55 ?_
              refine j_if_eq C 72 dX2_isOneAbove_56 (by decide) ?_ ?_
              · refine j_lv [(0, .ref (eAd E 6)), (1, .int v1), (2, .int v2)] [2, 3, 4] rfl ?_
                exact hB72 rec2 hrec2 v1 v2
              · refine j_lload C dX2_isOneAbove_59 0 rfl ?_
                refine j_aload_n C dX2_isOneAbove_61 1 rfl ?_
                refine j_get (ci := 1) C hU_X1 rfl (xin_Ch F h4) (xe_Ch F h4 _ _) 7 (by decide) rfl hF_X2_94 dX2_isOneAbove_62 ?_
                refine j_i2l C dX2_isOneAbove_65 ?_
                refine j_lcmp C dX2_isOneAbove_66 ?_
                refine j_if_le C 72 dX2_isOneAbove_67 (by decide) ?_ ?_
                · refine j_lv [(0, .ref (eAd E 6)), (1, .int v1), (2, .int v2)] [2, 3, 4] rfl ?_
                  exact hB72 rec2 hrec2 v1 v2
                · refine j_iconst C (1 : Int32) dX2_isOneAbove_70 (by decide) ?_
                  exact j_iretz C rfl Q dX2_isOneAbove_71
  unfold X2_isOneAbove
  refine j_iconst C (0 : Int32) dX2_isOneAbove_0 (by decide) ?_
  refine j_istore_n (lv' := [(2, .int (0 : Int32)), (0, .ref (eAd E 6)), (1, .int p1)]) C dX2_isOneAbove_1 (by decide) rfl ?_
  refine j_lv [(0, .ref (eAd E 6)), (1, .int p1), (2, .int (0 : Int32))] [1, 2, 0] rfl ?_
  exact hL2  FU (p1, (0 : Int32))
set_option maxRecDepth 100000 in
set_option maxHeartbeats 4000000 in
theorem c_X2_isOneAbove {E : EnvT} {n : Nat} {cs : Nat → ClassId} (F : XF E n cs) {σ : Mem} {p1 : Int32} {r : Int32} (h : X2_isOneAbove n σ p1 = some r) : CT E yX2_isOneAbove cX2_isOneAbove 6 (some .boolean) rm_X2_isOneAbove [.ref (eAd E 6), .int p1] σ (RQi r σ) :=
  ct_X F (by decide) (Nat.le_of_ble_eq_true rfl) (fun E' ea F' C Q => by rw [← ea]; exact m_X2_isOneAbove F'  C Q h)
theorem dd_X2_isOneAbove : yX2_isOneAbove.cls ≠ "java/lang/invoke/MethodHandle" ∧ yX2_isOneAbove.cls ≠ "java/lang/invoke/VarHandle" ∧ (parseMethodDescriptor yX2_isOneAbove.desc).map (fun d => d.parameters.length) = some 1 := by decide +kernel
def X4_count (n : Nat) (σ : Mem) (p1 : Int64) (p2 : Int64) : Option (Mem) :=
  lete (wJ σ 26 2 ((σ.2 26 2) + (1 : Int64))) (fun σ1 =>
  lete (wJ σ1 26 3 ((σ1.2 26 3) + (p2 - p1))) (fun σ2 =>
  lete (abL (p2 - p1)) (fun x3 =>
  lete (mxL (σ2.2 26 4) x3) (fun x4 =>
  lete (wJ σ2 26 4 x4) (fun σ5 =>
  lete (wJ σ5 26 5 ((σ5.2 26 5) + p1)) (fun σ6 =>
  lete (wJ σ6 26 6 ((σ6.2 26 6) + p2)) (fun σ7 =>
  lete (wJ σ7 26 7 ((σ7.2 26 7) + (p1 * p1))) (fun σ8 =>
  lete (wJ σ8 26 8 ((σ8.2 26 8) + (p1 * p2))) (fun σ9 =>
  some σ9)))))))))
abbrev rm_X4_count : Room := { frames := 1, cells := 0, slots := 0, locals := 24 }
set_option maxRecDepth 100000 in
set_option maxHeartbeats 4000000 in
theorem m_X4_count {E : EnvT} {n : Nat} {cs : Nat → ClassId} (F : XF E n cs) {p1 : Int64} {p2 : Int64} {σ : Mem} (C : CX E cX4_count RX4 5 rm_X4_count) {r0 : Mem} (Q : QE E 0 0 none (RQv r0)) : J E 5 0 0 r0 (X4_count n σ p1 p2) σ 0 [(0, .ref (eAd E 26)), (1, .long p1), (3, .long p2)] [] := by

  unfold X4_count
  refine j_aload_n C dX4_count_0 0 rfl ?_
  refine j_dup C dX4_count_1 rfl ?_
  refine j_get (ci := 4) C hU_X4 rfl (xin F (by decide)) (xe_26 F _ _) 2 (by decide) rfl hF_X4_9 dX4_count_2 ?_
  refine j_lconst C (1 : Int64) dX4_count_5 (by decide) ?_
  refine j_ladd C dX4_count_6 ?_
  refine j_put (ci := 4) C hU_X4 tyX4_ok nmX4 rfl (xin F (by decide)) (xe_26 F _ _) 2 (by decide) (Nat.le_of_ble_eq_true rfl) (by rw [wJ_o, wJ_1]; exact (xe_26 F _ _)) (fun o' h' => ⟨rfl, wJ_ne _ _ _ h'⟩) rfl (by first | rfl | decide) (by first | rfl | decide) hF_X4_9 dX4_count_7 (fun σ1 => ?_)
  refine j_aload_n C dX4_count_10 0 rfl ?_
  refine j_dup C dX4_count_11 rfl ?_
  refine j_get (ci := 4) C hU_X4 rfl (xin F (by decide)) (xe_26 F _ _) 3 (by decide) rfl hF_X4_15 dX4_count_12 ?_
  refine j_lload_n C dX4_count_15 2 rfl ?_
  refine j_lload_n C dX4_count_16 1 rfl ?_
  refine j_lsub C dX4_count_17 ?_
  refine j_ladd C dX4_count_18 ?_
  refine j_put (ci := 4) C hU_X4 tyX4_ok nmX4 rfl (xin F (by decide)) (xe_26 F _ _) 3 (by decide) (Nat.le_of_ble_eq_true rfl) (by rw [wJ_o, wJ_1]; exact (xe_26 F _ _)) (fun o' h' => ⟨rfl, wJ_ne _ _ _ h'⟩) rfl (by first | rfl | decide) (by first | rfl | decide) hF_X4_15 dX4_count_19 (fun σ2 => ?_)
  refine j_aload_n C dX4_count_22 0 rfl ?_
  refine j_aload_n C dX4_count_23 0 rfl ?_
  refine j_get (ci := 4) C hU_X4 rfl (xin F (by decide)) (xe_26 F _ _) 4 (by decide) rfl hF_X4_18 dX4_count_24 ?_
  refine j_lload_n C dX4_count_27 2 rfl ?_
  refine j_lload_n C dX4_count_28 1 rfl ?_
  refine j_lsub C dX4_count_29 ?_
  refine j_mabsl C hM_X4_76 hT_J9_abs_067f4 hZ_J9 hC_J9_abs_067f4 (by decide) (Nat.le_of_ble_eq_true rfl) (by decide) dX4_count_30 ?_
  refine j_nml (fun x3 => ?_)
  refine j_mmaxl C hM_X4_80 hT_J9_max_f86c9 hZ_J9 hC_J9_max_f86c9 (by decide) (Nat.le_of_ble_eq_true rfl) (by decide) dX4_count_33 ?_
  refine j_nml (fun x4 => ?_)
  refine j_put (ci := 4) C hU_X4 tyX4_ok nmX4 rfl (xin F (by decide)) (xe_26 F _ _) 4 (by decide) (Nat.le_of_ble_eq_true rfl) (by rw [wJ_o, wJ_1]; exact (xe_26 F _ _)) (fun o' h' => ⟨rfl, wJ_ne _ _ _ h'⟩) rfl (by first | rfl | decide) (by first | rfl | decide) hF_X4_18 dX4_count_36 (fun σ5 => ?_)
  refine j_aload_n C dX4_count_39 0 rfl ?_
  refine j_dup C dX4_count_40 rfl ?_
  refine j_get (ci := 4) C hU_X4 rfl (xin F (by decide)) (xe_26 F _ _) 5 (by decide) rfl hF_X4_21 dX4_count_41 ?_
  refine j_lload_n C dX4_count_44 1 rfl ?_
  refine j_ladd C dX4_count_45 ?_
  refine j_put (ci := 4) C hU_X4 tyX4_ok nmX4 rfl (xin F (by decide)) (xe_26 F _ _) 5 (by decide) (Nat.le_of_ble_eq_true rfl) (by rw [wJ_o, wJ_1]; exact (xe_26 F _ _)) (fun o' h' => ⟨rfl, wJ_ne _ _ _ h'⟩) rfl (by first | rfl | decide) (by first | rfl | decide) hF_X4_21 dX4_count_46 (fun σ6 => ?_)
  refine j_aload_n C dX4_count_49 0 rfl ?_
  refine j_dup C dX4_count_50 rfl ?_
  refine j_get (ci := 4) C hU_X4 rfl (xin F (by decide)) (xe_26 F _ _) 6 (by decide) rfl hF_X4_24 dX4_count_51 ?_
  refine j_lload_n C dX4_count_54 2 rfl ?_
  refine j_ladd C dX4_count_55 ?_
  refine j_put (ci := 4) C hU_X4 tyX4_ok nmX4 rfl (xin F (by decide)) (xe_26 F _ _) 6 (by decide) (Nat.le_of_ble_eq_true rfl) (by rw [wJ_o, wJ_1]; exact (xe_26 F _ _)) (fun o' h' => ⟨rfl, wJ_ne _ _ _ h'⟩) rfl (by first | rfl | decide) (by first | rfl | decide) hF_X4_24 dX4_count_56 (fun σ7 => ?_)
  refine j_aload_n C dX4_count_59 0 rfl ?_
  refine j_dup C dX4_count_60 rfl ?_
  refine j_get (ci := 4) C hU_X4 rfl (xin F (by decide)) (xe_26 F _ _) 7 (by decide) rfl hF_X4_27 dX4_count_61 ?_
  refine j_lload_n C dX4_count_64 1 rfl ?_
  refine j_lload_n C dX4_count_65 1 rfl ?_
  refine j_lmul C dX4_count_66 ?_
  refine j_ladd C dX4_count_67 ?_
  refine j_put (ci := 4) C hU_X4 tyX4_ok nmX4 rfl (xin F (by decide)) (xe_26 F _ _) 7 (by decide) (Nat.le_of_ble_eq_true rfl) (by rw [wJ_o, wJ_1]; exact (xe_26 F _ _)) (fun o' h' => ⟨rfl, wJ_ne _ _ _ h'⟩) rfl (by first | rfl | decide) (by first | rfl | decide) hF_X4_27 dX4_count_68 (fun σ8 => ?_)
  refine j_aload_n C dX4_count_71 0 rfl ?_
  refine j_dup C dX4_count_72 rfl ?_
  refine j_get (ci := 4) C hU_X4 rfl (xin F (by decide)) (xe_26 F _ _) 8 (by decide) rfl hF_X4_30 dX4_count_73 ?_
  refine j_lload_n C dX4_count_76 1 rfl ?_
  refine j_lload_n C dX4_count_77 2 rfl ?_
  refine j_lmul C dX4_count_78 ?_
  refine j_ladd C dX4_count_79 ?_
  refine j_put (ci := 4) C hU_X4 tyX4_ok nmX4 rfl (xin F (by decide)) (xe_26 F _ _) 8 (by decide) (Nat.le_of_ble_eq_true rfl) (by rw [wJ_o, wJ_1]; exact (xe_26 F _ _)) (fun o' h' => ⟨rfl, wJ_ne _ _ _ h'⟩) rfl (by first | rfl | decide) (by first | rfl | decide) hF_X4_30 dX4_count_80 (fun σ9 => ?_)
  exact j_vret2 C Q dX4_count_83
set_option maxRecDepth 100000 in
set_option maxHeartbeats 4000000 in
theorem c_X4_count {E : EnvT} {n : Nat} {cs : Nat → ClassId} (F : XF E n cs) {σ : Mem} {p1 : Int64} {p2 : Int64} {r : Mem} (h : X4_count n σ p1 p2 = some r) : CT E yX4_count cX4_count 5 none rm_X4_count [.ref (eAd E 26), .long p1, .long p2] σ (RQv r) :=
  ct_X F (by decide) (Nat.le_of_ble_eq_true rfl) (fun E' ea F' C Q => by rw [← ea]; exact m_X4_count F'  C Q h)
theorem dd_X4_count : yX4_count.cls ≠ "java/lang/invoke/MethodHandle" ∧ yX4_count.cls ≠ "java/lang/invoke/VarHandle" ∧ (parseMethodDescriptor yX4_count.desc).map (fun d => d.parameters.length) = some 2 := by decide +kernel
def X4_reckon_b86 (n : Nat) (p1 : Nat) (rec37 : (Mem × Int32) → Option (Mem)) (σ : Mem) (v2 : Int32) : Option (Mem) :=
  lete (mxI (1 : Int32) (σ.1 p1 2)) (fun x1 =>
  lete (v2 + x1) (fun x2 =>
  rec37 (σ, x2)))
def X4_reckon_l37 (n : Nat) (p1 : Nat) (rec37 : (Mem × Int32) → Option (Mem)) (σ : Mem) (v2 : Int32) : Option (Mem) :=
  if (σ.1 1 3) < v2 then
  (some σ)
  else
  (bindo (X2_value n σ p1 v2) (fun r2 =>
  if (lg_cmp r2 (-9223372036854775808 : Int64)) = (0 : Int32) then
  (X4_reckon_b86 n p1 rec37 σ v2)
  else
  (bindo (X3_part n σ (v2 - (σ.1 p1 3)) (5 : Int32)) (fun r4 =>
  bindo (X4_count n σ (r4.toInt64) r2) (fun σ6 =>
  X4_reckon_b86 n p1 rec37 σ6 v2)))))
def X4_reckon (n : Nat) (σ : Mem) (p1 : Nat) : Option (Mem) :=
  lete (wJ σ 26 2 (0 : Int64)) (fun σ1 =>
  lete (wJ σ1 26 3 (0 : Int64)) (fun σ2 =>
  lete (wJ σ2 26 4 (0 : Int64)) (fun σ3 =>
  lete (wJ σ3 26 5 (0 : Int64)) (fun σ4 =>
  lete (wJ σ4 26 6 (0 : Int64)) (fun σ5 =>
  lete (wJ σ5 26 7 (0 : Int64)) (fun σ6 =>
  lete (wJ σ6 26 8 (0 : Int64)) (fun σ7 =>
  loopF (fun (rec : (Mem × Int32) → Option (Mem)) (s : Mem × Int32) => X4_reckon_l37 n p1 rec s.1 s.2)  FU (σ7, (0 : Int32)))))))))
abbrev rm_X4_reckon : Room := { frames := 3, cells := 0, slots := 0, locals := 72 }
set_option maxRecDepth 100000 in
set_option maxHeartbeats 4000000 in
theorem m_X4_reckon {E : EnvT} {n : Nat} {cs : Nat → ClassId} (F : XF E n cs) {p1 : Nat} {σ : Mem} (hp1 : isCh n p1 = true) (C : CX E cX4_reckon RX4 5 rm_X4_reckon) {r0 : Mem} (Q : QE E 0 0 none (RQv r0)) : J E 5 0 0 r0 (X4_reckon n σ p1) σ 0 [(0, .ref (eAd E 26)), (1, .ref (eAd E p1))] [] := by
  have hB86 : ∀ (rec37 : (Mem × Int32) → Option (Mem)) (hrec37 : ∀ a : Mem × Int32, J E 5 0 0 r0 (rec37 a) a.1 37 [(0, .ref (eAd E 26)), (1, .ref (eAd E p1)), (2, .int a.2)] []) (σ : Mem) (v2 : Int32), J E 5 0 0 r0 (X4_reckon_b86 n p1 rec37 σ v2) σ 86 [(0, .ref (eAd E 26)), (1, .ref (eAd E p1)), (2, .int v2)] [] := by
    intro rec37 hrec37 σ v2
    unfold X4_reckon_b86
    refine j_iload_n C dX4_reckon_86 2 rfl ?_
    refine j_iconst C (1 : Int32) dX4_reckon_87 (by decide) ?_
    refine j_aload_n C dX4_reckon_88 1 rfl ?_
    refine j_get (ci := 1) C hU_X1 rfl (xin_Ch F hp1) (xe_Ch F hp1 _ _) 2 (by decide) rfl hF_X4_68 dX4_reckon_89 ?_
    refine j_mmax C hM_X4_71 hT_J9_max_7cf53 hZ_J9 hC_J9_max_7cf53 (by decide) (Nat.le_of_ble_eq_true rfl) (by decide) dX4_reckon_92 ?_
    refine j_nmi (fun x1 => ?_)
    refine j_iadd C dX4_reckon_95 ?_
    refine j_nmi (fun x2 => ?_)
    refine j_istore_n (lv' := [(2, .int x2), (0, .ref (eAd E 26)), (1, .ref (eAd E p1))]) C dX4_reckon_96 (by decide) rfl ?_
    refine j_goto C 37 dX4_reckon_97 (by decide) ?_
    refine j_lv [(0, .ref (eAd E 26)), (1, .ref (eAd E p1)), (2, .int x2)] [1, 2, 0] rfl ?_
    exact hrec37 (σ, x2)
  have hL37 : ∀ (f : Nat) (a : Mem × Int32), J E 5 0 0 r0 (loopF (fun (rec : (Mem × Int32) → Option (Mem)) (s : Mem × Int32) => X4_reckon_l37 n p1 rec s.1 s.2) f a) a.1 37 [(0, .ref (eAd E 26)), (1, .ref (eAd E p1)), (2, .int a.2)] [] := by
    refine j_loop (M := fun (a : Mem × Int32) => a.1) (L := fun (a : Mem × Int32) => [(0, .ref (eAd E 26)), (1, .ref (eAd E p1)), (2, .int a.2)]) (S := fun (a : Mem × Int32) => []) (fun rec37 hrec37 a => ?_)
    obtain ⟨σ, v2⟩ := a
    show J E 5 0 0 r0 (X4_reckon_l37 n p1 rec37 σ v2) σ 37 [(0, .ref (eAd E 26)), (1, .ref (eAd E p1)), (2, .int v2)] []
    unfold X4_reckon_l37
    refine j_iload_n C dX4_reckon_37 2 rfl ?_
    refine j_aload_n C dX4_reckon_38 0 rfl ?_
    refine j_get (ci := 4) C hU_X4 rfl (xin F (by decide)) (xe_26 F _ _) 0 (by decide) rfl hF_X4_33 dX4_reckon_39 ?_
    refine j_get (ci := 3) C hU_X3 rfl (xin F (by decide)) (xe_1 F _ _) 3 (by decide) rfl hF_X4_41 dX4_reckon_42 ?_
    refine j_icmp_gt C 100 dX4_reckon_45 (by decide) ?_ ?_
    · exact j_vret2 C Q dX4_reckon_100
    · refine j_aload_n C dX4_reckon_48 0 rfl ?_
      refine j_get (ci := 4) C hU_X4 rfl (xin F (by decide)) (xe_26 F _ _) 1 (by decide) rfl hF_X4_37 dX4_reckon_49 ?_
      refine j_aload_n C dX4_reckon_52 1 rfl ?_
      refine j_iload_n C dX4_reckon_53 2 rfl ?_
      refine j_bind (fun r2 h1 => ?_)
      refine j_callVl (ci := 2) C [.ref (eAd E p1), .int v2] (c_X2_value F hp1 h1) hM_X4_47 hI_X2_value hS_X2_value hZ_X2 hC_X2_value (xin F (by decide)) (xe_6 F _ _) rfl rfl dd_X2_value (by decide) ⟨rfl, rfl⟩ (by decide) (Nat.le_of_ble_eq_true rfl) dX4_reckon_54 rfl ?_
      refine j_lstore_n (lv' := [(3, .long r2), (0, .ref (eAd E 26)), (1, .ref (eAd E p1)), (2, .int v2)]) C dX4_reckon_57 (by decide) rfl ?_
      refine j_lload_n C dX4_reckon_58 0 rfl ?_
      refine j_ldc2 C hK_X4_53 dX4_reckon_59 ?_
      refine j_lcmp C dX4_reckon_62 ?_
      refine j_if_eq C 86 dX4_reckon_63 (by decide) ?_ ?_
      · refine j_lv [(0, .ref (eAd E 26)), (1, .ref (eAd E p1)), (2, .int v2)] [1, 2, 3] rfl ?_
        exact hB86 rec37 hrec37 σ v2
      · refine j_aload_n C dX4_reckon_66 1 rfl ?_
        refine j_aload_n C dX4_reckon_67 1 rfl ?_
        refine j_get (ci := 4) C hU_X4 rfl (xin F (by decide)) (xe_26 F _ _) 0 (by decide) rfl hF_X4_33 dX4_reckon_68 ?_
        refine j_iload_n C dX4_reckon_71 3 rfl ?_
        refine j_aload_n C dX4_reckon_72 2 rfl ?_
        refine j_get (ci := 1) C hU_X1 rfl (xin_Ch F hp1) (xe_Ch F hp1 _ _) 3 (by decide) rfl hF_X4_55 dX4_reckon_73 ?_
        refine j_isub C dX4_reckon_76 ?_
        refine j_iconst C (5 : Int32) dX4_reckon_77 (by decide) ?_
        refine j_bind (fun r4 h3 => ?_)
        refine j_callVi (ci := 3) C [.int (v2 - (σ.1 p1 3)), .int (5 : Int32)] (c_X3_part F h3) hM_X4_60 hI_X3_part hS_X3_part hZ_X3 hC_X3_part (xin F (by decide)) (xe_1 F _ _) rfl rfl dd_X3_part (by decide) ⟨rfl, rfl⟩ (by decide) (Nat.le_of_ble_eq_true rfl) dX4_reckon_78 rfl ?_
        refine j_i2l C dX4_reckon_81 ?_
        refine j_lload_n C dX4_reckon_82 0 rfl ?_
        refine j_bind (fun σ6 h5 => ?_)
        refine j_callVv (ci := 4) C [.long (r4.toInt64), .long r2] (c_X4_count F h5) hM_X4_64 hI_X4_count hS_X4_count hZ_X4 hC_X4_count (xin F (by decide)) (xe_26 F _ _) rfl rfl dd_X4_count (by decide) ⟨rfl, rfl⟩ (by decide) (Nat.le_of_ble_eq_true rfl) dX4_reckon_83 rfl ?_
        refine j_lv [(0, .ref (eAd E 26)), (1, .ref (eAd E p1)), (2, .int v2)] [1, 2, 3] rfl ?_
        exact hB86 rec37 hrec37 σ6 v2
  unfold X4_reckon
  refine j_aload_n C dX4_reckon_0 0 rfl ?_
  refine j_lconst C (0 : Int64) dX4_reckon_1 (by decide) ?_
  refine j_put (ci := 4) C hU_X4 tyX4_ok nmX4 rfl (xin F (by decide)) (xe_26 F _ _) 2 (by decide) (Nat.le_of_ble_eq_true rfl) (by rw [wJ_o, wJ_1]; exact (xe_26 F _ _)) (fun o' h' => ⟨rfl, wJ_ne _ _ _ h'⟩) rfl (by first | rfl | decide) (by first | rfl | decide) hF_X4_9 dX4_reckon_2 (fun σ1 => ?_)
  refine j_aload_n C dX4_reckon_5 0 rfl ?_
  refine j_lconst C (0 : Int64) dX4_reckon_6 (by decide) ?_
  refine j_put (ci := 4) C hU_X4 tyX4_ok nmX4 rfl (xin F (by decide)) (xe_26 F _ _) 3 (by decide) (Nat.le_of_ble_eq_true rfl) (by rw [wJ_o, wJ_1]; exact (xe_26 F _ _)) (fun o' h' => ⟨rfl, wJ_ne _ _ _ h'⟩) rfl (by first | rfl | decide) (by first | rfl | decide) hF_X4_15 dX4_reckon_7 (fun σ2 => ?_)
  refine j_aload_n C dX4_reckon_10 0 rfl ?_
  refine j_lconst C (0 : Int64) dX4_reckon_11 (by decide) ?_
  refine j_put (ci := 4) C hU_X4 tyX4_ok nmX4 rfl (xin F (by decide)) (xe_26 F _ _) 4 (by decide) (Nat.le_of_ble_eq_true rfl) (by rw [wJ_o, wJ_1]; exact (xe_26 F _ _)) (fun o' h' => ⟨rfl, wJ_ne _ _ _ h'⟩) rfl (by first | rfl | decide) (by first | rfl | decide) hF_X4_18 dX4_reckon_12 (fun σ3 => ?_)
  refine j_aload_n C dX4_reckon_15 0 rfl ?_
  refine j_lconst C (0 : Int64) dX4_reckon_16 (by decide) ?_
  refine j_put (ci := 4) C hU_X4 tyX4_ok nmX4 rfl (xin F (by decide)) (xe_26 F _ _) 5 (by decide) (Nat.le_of_ble_eq_true rfl) (by rw [wJ_o, wJ_1]; exact (xe_26 F _ _)) (fun o' h' => ⟨rfl, wJ_ne _ _ _ h'⟩) rfl (by first | rfl | decide) (by first | rfl | decide) hF_X4_21 dX4_reckon_17 (fun σ4 => ?_)
  refine j_aload_n C dX4_reckon_20 0 rfl ?_
  refine j_lconst C (0 : Int64) dX4_reckon_21 (by decide) ?_
  refine j_put (ci := 4) C hU_X4 tyX4_ok nmX4 rfl (xin F (by decide)) (xe_26 F _ _) 6 (by decide) (Nat.le_of_ble_eq_true rfl) (by rw [wJ_o, wJ_1]; exact (xe_26 F _ _)) (fun o' h' => ⟨rfl, wJ_ne _ _ _ h'⟩) rfl (by first | rfl | decide) (by first | rfl | decide) hF_X4_24 dX4_reckon_22 (fun σ5 => ?_)
  refine j_aload_n C dX4_reckon_25 0 rfl ?_
  refine j_lconst C (0 : Int64) dX4_reckon_26 (by decide) ?_
  refine j_put (ci := 4) C hU_X4 tyX4_ok nmX4 rfl (xin F (by decide)) (xe_26 F _ _) 7 (by decide) (Nat.le_of_ble_eq_true rfl) (by rw [wJ_o, wJ_1]; exact (xe_26 F _ _)) (fun o' h' => ⟨rfl, wJ_ne _ _ _ h'⟩) rfl (by first | rfl | decide) (by first | rfl | decide) hF_X4_27 dX4_reckon_27 (fun σ6 => ?_)
  refine j_aload_n C dX4_reckon_30 0 rfl ?_
  refine j_lconst C (0 : Int64) dX4_reckon_31 (by decide) ?_
  refine j_put (ci := 4) C hU_X4 tyX4_ok nmX4 rfl (xin F (by decide)) (xe_26 F _ _) 8 (by decide) (Nat.le_of_ble_eq_true rfl) (by rw [wJ_o, wJ_1]; exact (xe_26 F _ _)) (fun o' h' => ⟨rfl, wJ_ne _ _ _ h'⟩) rfl (by first | rfl | decide) (by first | rfl | decide) hF_X4_30 dX4_reckon_32 (fun σ7 => ?_)
  refine j_iconst C (0 : Int32) dX4_reckon_35 (by decide) ?_
  refine j_istore_n (lv' := [(2, .int (0 : Int32)), (0, .ref (eAd E 26)), (1, .ref (eAd E p1))]) C dX4_reckon_36 (by decide) rfl ?_
  refine j_lv [(0, .ref (eAd E 26)), (1, .ref (eAd E p1)), (2, .int (0 : Int32))] [1, 2, 0] rfl ?_
  exact hL37  FU (σ7, (0 : Int32))
set_option maxRecDepth 100000 in
set_option maxHeartbeats 4000000 in
theorem c_X4_reckon {E : EnvT} {n : Nat} {cs : Nat → ClassId} (F : XF E n cs) {σ : Mem} {p1 : Nat} (hp1 : isCh n p1 = true) {r : Mem} (h : X4_reckon n σ p1 = some r) : CT E yX4_reckon cX4_reckon 5 none rm_X4_reckon [.ref (eAd E 26), .ref (eAd E p1)] σ (RQv r) :=
  ct_X F (by decide) (Nat.le_of_ble_eq_true rfl) (fun E' ea F' C Q => by rw [← ea]; exact m_X4_reckon F' hp1 C Q h)
theorem dd_X4_reckon : yX4_reckon.cls ≠ "java/lang/invoke/MethodHandle" ∧ yX4_reckon.cls ≠ "java/lang/invoke/VarHandle" ∧ (parseMethodDescriptor yX4_reckon.desc).map (fun d => d.parameters.length) = some 1 := by decide +kernel
def X4_a (n : Nat) (σ : Mem) : Option (Int64) :=
  some (((σ.2 26 2) * (σ.2 26 8)) - ((σ.2 26 5) * (σ.2 26 6)))
abbrev rm_X4_a : Room := { frames := 0, cells := 0, slots := 0, locals := 0 }
set_option maxRecDepth 100000 in
set_option maxHeartbeats 4000000 in
theorem m_X4_a {E : EnvT} {n : Nat} {cs : Nat → ClassId} (F : XF E n cs) {σ : Mem} (C : CX E cX4_a RX4 1 rm_X4_a) {r0 : Int64} (Q : QE E 0 0 (some .long) (RQl r0 σ)) : J E 1 0 0 r0 (X4_a n σ) σ 0 [(0, .ref (eAd E 26))] [] := by

  unfold X4_a
  refine j_aload_n C dX4_a_0 0 rfl ?_
  refine j_get (ci := 4) C hU_X4 rfl (xin F (by decide)) (xe_26 F _ _) 2 (by decide) rfl hF_X4_9 dX4_a_1 ?_
  refine j_aload_n C dX4_a_4 0 rfl ?_
  refine j_get (ci := 4) C hU_X4 rfl (xin F (by decide)) (xe_26 F _ _) 8 (by decide) rfl hF_X4_30 dX4_a_5 ?_
  refine j_lmul C dX4_a_8 ?_
  refine j_aload_n C dX4_a_9 0 rfl ?_
  refine j_get (ci := 4) C hU_X4 rfl (xin F (by decide)) (xe_26 F _ _) 5 (by decide) rfl hF_X4_21 dX4_a_10 ?_
  refine j_aload_n C dX4_a_13 0 rfl ?_
  refine j_get (ci := 4) C hU_X4 rfl (xin F (by decide)) (xe_26 F _ _) 6 (by decide) rfl hF_X4_24 dX4_a_14 ?_
  refine j_lmul C dX4_a_17 ?_
  refine j_lsub C dX4_a_18 ?_
  exact j_lret C Q dX4_a_19
set_option maxRecDepth 100000 in
set_option maxHeartbeats 4000000 in
theorem c_X4_a {E : EnvT} {n : Nat} {cs : Nat → ClassId} (F : XF E n cs) {σ : Mem} {r : Int64} (h : X4_a n σ = some r) : CT E yX4_a cX4_a 1 (some .long) rm_X4_a [.ref (eAd E 26)] σ (RQl r σ) :=
  ct_X F (by decide) (Nat.le_of_ble_eq_true rfl) (fun E' ea F' C Q => by rw [← ea]; exact m_X4_a F'  C Q h)
theorem dd_X4_a : yX4_a.cls ≠ "java/lang/invoke/MethodHandle" ∧ yX4_a.cls ≠ "java/lang/invoke/VarHandle" ∧ (parseMethodDescriptor yX4_a.desc).map (fun d => d.parameters.length) = some 0 := by decide +kernel
def X4_b (n : Nat) (σ : Mem) : Option (Int64) :=
  some (((σ.2 26 2) * (σ.2 26 7)) - ((σ.2 26 5) * (σ.2 26 5)))
abbrev rm_X4_b : Room := { frames := 0, cells := 0, slots := 0, locals := 0 }
set_option maxRecDepth 100000 in
set_option maxHeartbeats 4000000 in
theorem m_X4_b {E : EnvT} {n : Nat} {cs : Nat → ClassId} (F : XF E n cs) {σ : Mem} (C : CX E cX4_b RX4 1 rm_X4_b) {r0 : Int64} (Q : QE E 0 0 (some .long) (RQl r0 σ)) : J E 1 0 0 r0 (X4_b n σ) σ 0 [(0, .ref (eAd E 26))] [] := by

  unfold X4_b
  refine j_aload_n C dX4_b_0 0 rfl ?_
  refine j_get (ci := 4) C hU_X4 rfl (xin F (by decide)) (xe_26 F _ _) 2 (by decide) rfl hF_X4_9 dX4_b_1 ?_
  refine j_aload_n C dX4_b_4 0 rfl ?_
  refine j_get (ci := 4) C hU_X4 rfl (xin F (by decide)) (xe_26 F _ _) 7 (by decide) rfl hF_X4_27 dX4_b_5 ?_
  refine j_lmul C dX4_b_8 ?_
  refine j_aload_n C dX4_b_9 0 rfl ?_
  refine j_get (ci := 4) C hU_X4 rfl (xin F (by decide)) (xe_26 F _ _) 5 (by decide) rfl hF_X4_21 dX4_b_10 ?_
  refine j_aload_n C dX4_b_13 0 rfl ?_
  refine j_get (ci := 4) C hU_X4 rfl (xin F (by decide)) (xe_26 F _ _) 5 (by decide) rfl hF_X4_21 dX4_b_14 ?_
  refine j_lmul C dX4_b_17 ?_
  refine j_lsub C dX4_b_18 ?_
  exact j_lret C Q dX4_b_19
set_option maxRecDepth 100000 in
set_option maxHeartbeats 4000000 in
theorem c_X4_b {E : EnvT} {n : Nat} {cs : Nat → ClassId} (F : XF E n cs) {σ : Mem} {r : Int64} (h : X4_b n σ = some r) : CT E yX4_b cX4_b 1 (some .long) rm_X4_b [.ref (eAd E 26)] σ (RQl r σ) :=
  ct_X F (by decide) (Nat.le_of_ble_eq_true rfl) (fun E' ea F' C Q => by rw [← ea]; exact m_X4_b F'  C Q h)
theorem dd_X4_b : yX4_b.cls ≠ "java/lang/invoke/MethodHandle" ∧ yX4_b.cls ≠ "java/lang/invoke/VarHandle" ∧ (parseMethodDescriptor yX4_b.desc).map (fun d => d.parameters.length) = some 0 := by decide +kernel
def X4_verdict (n : Nat) (σ : Mem) : Option (Int32) :=
  bindo (X4_b n σ) (fun r2 =>
  if (lg_cmp r2 (0 : Int64)) ≤ (0 : Int32) then
  (some (1 : Int32))
  else
  (bindo (X4_b n σ) (fun r4 =>
  bindo (X4_a n σ) (fun r6 =>
  if (0 : Int32) < (lg_cmp ((950 : Int64) * r4) ((1000 : Int64) * r6)) then
  (some (1 : Int32))
  else
  (bindo (X4_a n σ) (fun r8 =>
  bindo (X4_b n σ) (fun r10 =>
  if (lg_cmp ((1000 : Int64) * r8) ((1050 : Int64) * r10)) ≤ (0 : Int32) then
  (lete (abL (σ.2 26 3)) (fun x11 =>
  if (lg_cmp x11 ((50 : Int64) * (σ.2 26 2))) ≤ (0 : Int32) then
  (if (lg_cmp (σ.2 26 4) (400 : Int64)) ≤ (0 : Int32) then
  (some (0 : Int32))
  else
  (some (3 : Int32)))
  else
  (some (2 : Int32))))
  else
  (some (1 : Int32)))))))))
abbrev rm_X4_verdict : Room := { frames := 1, cells := 0, slots := 0, locals := 24 }
set_option maxRecDepth 100000 in
set_option maxHeartbeats 4000000 in
theorem m_X4_verdict {E : EnvT} {n : Nat} {cs : Nat → ClassId} (F : XF E n cs) {σ : Mem} (C : CX E cX4_verdict RX4 1 rm_X4_verdict) {r0 : Int32} (Q : QE E 0 0 (some .int) (RQi r0 σ)) : J E 1 0 0 r0 (X4_verdict n σ) σ 0 [(0, .ref (eAd E 26))] [] := by

  unfold X4_verdict
  refine j_aload_n C dX4_verdict_0 0 rfl ?_
  refine j_bind (fun r2 h1 => ?_)
  refine j_callVl (ci := 4) C [] (c_X4_b F h1) hM_X4_83 hI_X4_b hS_X4_b hZ_X4 hC_X4_b (xin F (by decide)) (xe_26 F _ _) rfl rfl dd_X4_b (by decide) ⟨rfl, rfl⟩ (by decide) (Nat.le_of_ble_eq_true rfl) dX4_verdict_1 rfl ?_
  refine j_lconst C (0 : Int64) dX4_verdict_4 (by decide) ?_
  refine j_lcmp C dX4_verdict_5 ?_
  refine j_if_le C 49 dX4_verdict_6 (by decide) ?_ ?_
  · refine j_iconst C (1 : Int32) dX4_verdict_49 (by decide) ?_
    exact j_ireti C Q dX4_verdict_50
  · refine j_ldc2 C hK_X4_87 dX4_verdict_9 ?_
    refine j_aload_n C dX4_verdict_12 0 rfl ?_
    refine j_bind (fun r4 h3 => ?_)
    refine j_callVl (ci := 4) C [] (c_X4_b F h3) hM_X4_83 hI_X4_b hS_X4_b hZ_X4 hC_X4_b (xin F (by decide)) (xe_26 F _ _) rfl rfl dd_X4_b (by decide) ⟨rfl, rfl⟩ (by decide) (Nat.le_of_ble_eq_true rfl) dX4_verdict_13 rfl ?_
    refine j_lmul C dX4_verdict_16 ?_
    refine j_ldc2 C hK_X4_89 dX4_verdict_17 ?_
    refine j_aload_n C dX4_verdict_20 0 rfl ?_
    refine j_bind (fun r6 h5 => ?_)
    refine j_callVl (ci := 4) C [] (c_X4_a F h5) hM_X4_91 hI_X4_a hS_X4_a hZ_X4 hC_X4_a (xin F (by decide)) (xe_26 F _ _) rfl rfl dd_X4_a (by decide) ⟨rfl, rfl⟩ (by decide) (Nat.le_of_ble_eq_true rfl) dX4_verdict_21 rfl ?_
    refine j_lmul C dX4_verdict_24 ?_
    refine j_lcmp C dX4_verdict_25 ?_
    refine j_if_gt C 49 dX4_verdict_26 (by decide) ?_ ?_
    · refine j_iconst C (1 : Int32) dX4_verdict_49 (by decide) ?_
      exact j_ireti C Q dX4_verdict_50
    · refine j_ldc2 C hK_X4_89 dX4_verdict_29 ?_
      refine j_aload_n C dX4_verdict_32 0 rfl ?_
      refine j_bind (fun r8 h7 => ?_)
      refine j_callVl (ci := 4) C [] (c_X4_a F h7) hM_X4_91 hI_X4_a hS_X4_a hZ_X4 hC_X4_a (xin F (by decide)) (xe_26 F _ _) rfl rfl dd_X4_a (by decide) ⟨rfl, rfl⟩ (by decide) (Nat.le_of_ble_eq_true rfl) dX4_verdict_33 rfl ?_
      refine j_lmul C dX4_verdict_36 ?_
      refine j_ldc2 C hK_X4_94 dX4_verdict_37 ?_
      refine j_aload_n C dX4_verdict_40 0 rfl ?_
      refine j_bind (fun r10 h9 => ?_)
      refine j_callVl (ci := 4) C [] (c_X4_b F h9) hM_X4_83 hI_X4_b hS_X4_b hZ_X4 hC_X4_b (xin F (by decide)) (xe_26 F _ _) rfl rfl dd_X4_b (by decide) ⟨rfl, rfl⟩ (by decide) (Nat.le_of_ble_eq_true rfl) dX4_verdict_41 rfl ?_
      refine j_lmul C dX4_verdict_44 ?_
      refine j_lcmp C dX4_verdict_45 ?_
      refine j_if_le C 51 dX4_verdict_46 (by decide) ?_ ?_
      · refine j_aload_n C dX4_verdict_51 0 rfl ?_
        refine j_get (ci := 4) C hU_X4 rfl (xin F (by decide)) (xe_26 F _ _) 3 (by decide) rfl hF_X4_15 dX4_verdict_52 ?_
        refine j_mabsl C hM_X4_76 hT_J9_abs_067f4 hZ_J9 hC_J9_abs_067f4 (by decide) (Nat.le_of_ble_eq_true rfl) (by decide) dX4_verdict_55 ?_
        refine j_nml (fun x11 => ?_)
        refine j_ldc2 C hK_X4_96 dX4_verdict_58 ?_
        refine j_aload_n C dX4_verdict_61 0 rfl ?_
        refine j_get (ci := 4) C hU_X4 rfl (xin F (by decide)) (xe_26 F _ _) 2 (by decide) rfl hF_X4_9 dX4_verdict_62 ?_
        refine j_lmul C dX4_verdict_65 ?_
        refine j_lcmp C dX4_verdict_66 ?_
        refine j_if_le C 72 dX4_verdict_67 (by decide) ?_ ?_
        · refine j_aload_n C dX4_verdict_72 0 rfl ?_
          refine j_get (ci := 4) C hU_X4 rfl (xin F (by decide)) (xe_26 F _ _) 4 (by decide) rfl hF_X4_18 dX4_verdict_73 ?_
          refine j_ldc2 C hK_X4_98 dX4_verdict_76 ?_
          refine j_lcmp C dX4_verdict_79 ?_
          refine j_if_le C 87 dX4_verdict_80 (by decide) ?_ ?_
          · refine j_iconst C (0 : Int32) dX4_verdict_87 (by decide) ?_
            exact j_ireti C Q dX4_verdict_88
          · refine j_iconst C (3 : Int32) dX4_verdict_83 (by decide) ?_
            refine j_goto C 88 dX4_verdict_84 (by decide) ?_
            exact j_ireti C Q dX4_verdict_88
        · refine j_iconst C (2 : Int32) dX4_verdict_70 (by decide) ?_
          exact j_ireti C Q dX4_verdict_71
      · refine j_iconst C (1 : Int32) dX4_verdict_49 (by decide) ?_
        exact j_ireti C Q dX4_verdict_50
set_option maxRecDepth 100000 in
set_option maxHeartbeats 4000000 in
theorem c_X4_verdict {E : EnvT} {n : Nat} {cs : Nat → ClassId} (F : XF E n cs) {σ : Mem} {r : Int32} (h : X4_verdict n σ = some r) : CT E yX4_verdict cX4_verdict 1 (some .int) rm_X4_verdict [.ref (eAd E 26)] σ (RQi r σ) :=
  ct_X F (by decide) (Nat.le_of_ble_eq_true rfl) (fun E' ea F' C Q => by rw [← ea]; exact m_X4_verdict F'  C Q h)
theorem dd_X4_verdict : yX4_verdict.cls ≠ "java/lang/invoke/MethodHandle" ∧ yX4_verdict.cls ≠ "java/lang/invoke/VarHandle" ∧ (parseMethodDescriptor yX4_verdict.desc).map (fun d => d.parameters.length) = some 0 := by decide +kernel
