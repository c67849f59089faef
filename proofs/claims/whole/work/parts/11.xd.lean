def X11_map (n : Nat) (σ : Mem) (p1 : Int32) (p2 : Int32) : Option (Int32 × Mem) :=
  bindo (X11_within p1 (0 : Int32) (24 : Int32)) (fun r2 =>
  if ¬ r2 = (0 : Int32) then
  (bindo (X11_within p2 (-500 : Int32) (1000 : Int32)) (fun r4 =>
  if ¬ r4 = (0 : Int32) then
  (bindo (X8_isOff n σ) (fun r6 =>
  if ¬ r6 = (0 : Int32) then
  (bindo (X3_mapped n σ p1) (fun r8 =>
  bindo (X3_remap n σ p1 p2) (fun σ10 =>
  some (r8, σ10))))
  else
  (some ((-3 : Int32), σ))))
  else
  (some ((-2 : Int32), σ))))
  else
  (some ((-1 : Int32), σ)))
abbrev rm_X11_map : Room := { frames := 2, cells := 0, slots := 0, locals := 44 }
set_option maxRecDepth 100000 in
set_option maxHeartbeats 4000000 in
theorem m_X11_map {E : EnvT} {n : Nat} {cs : Nat → ClassId} (F : XF E n cs) {p1 : Int32} {p2 : Int32} {σ : Mem} (C : CX E cX11_map RX11 4 rm_X11_map) {r0 : Int32 × Mem} (Q : QE E 0 0 (some .int) (RQi r0.1 r0.2)) : J E 4 0 0 r0 (X11_map n σ p1 p2) σ 0 [(0, .ref (eAd E 0)), (1, .int p1), (2, .int p2)] [] := by

  unfold X11_map
  refine j_iload_n C dX11_map_0 1 rfl ?_
  refine j_iconst C (0 : Int32) dX11_map_1 (by decide) ?_
  refine j_bipush C (24 : Int32) dX11_map_2 (by decide) ?_
  refine j_bind (fun r2 h1 => ?_)
  refine j_callSi C [.int p1, .int (0 : Int32), .int (24 : Int32)] (c_X11_within F h1) hM_X11_86 hT_X11_within hZ_X11 hC_X11_within dd_X11_within (by decide) ⟨rfl, rfl⟩ (by decide) (Nat.le_of_ble_eq_true rfl) dX11_map_4 rfl ?_
  refine j_if_ne C 12 dX11_map_7 (by decide) ?_ ?_
  · refine j_iload_n C dX11_map_12 2 rfl ?_
    refine j_sipush C (-500 : Int32) dX11_map_13 (by decide) ?_
    refine j_sipush C (1000 : Int32) dX11_map_16 (by decide) ?_
    refine j_bind (fun r4 h3 => ?_)
    refine j_callSi C [.int p2, .int (-500 : Int32), .int (1000 : Int32)] (c_X11_within F h3) hM_X11_86 hT_X11_within hZ_X11 hC_X11_within dd_X11_within (by decide) ⟨rfl, rfl⟩ (by decide) (Nat.le_of_ble_eq_true rfl) dX11_map_19 rfl ?_
    refine j_if_ne C 28 dX11_map_22 (by decide) ?_ ?_
    · refine j_aload_n C dX11_map_28 0 rfl ?_
      refine j_get (ci := 11) C hU_X11 rfl (xin F (by decide)) (xe_0 F _ _) 4 (by decide) rfl hF_X11_50 dX11_map_29 ?_
      refine j_bind (fun r6 h5 => ?_)
      refine j_callVi (ci := 8) C [] (c_X8_isOff F h5) hM_X11_90 hI_X8_isOff hS_X8_isOff hZ_X8 hC_X8_isOff (xin F (by decide)) (xe_20 F _ _) rfl rfl dd_X8_isOff (by decide) ⟨rfl, rfl⟩ (by decide) (Nat.le_of_ble_eq_true rfl) dX11_map_32 rfl ?_
      refine j_if_ne C 41 dX11_map_35 (by decide) ?_ ?_
      · refine j_aload_n C dX11_map_41 0 rfl ?_
        refine j_get (ci := 11) C hU_X11 rfl (xin F (by decide)) (xe_0 F _ _) 0 (by decide) rfl hF_X11_18 dX11_map_42 ?_
        refine j_iload_n C dX11_map_45 1 rfl ?_
        refine j_bind (fun r8 h7 => ?_)
        refine j_callVi (ci := 3) C [.int p1] (c_X3_mapped F h7) hM_X11_94 hI_X3_mapped hS_X3_mapped hZ_X3 hC_X3_mapped (xin F (by decide)) (xe_1 F _ _) rfl rfl dd_X3_mapped (by decide) ⟨rfl, rfl⟩ (by decide) (Nat.le_of_ble_eq_true rfl) dX11_map_46 rfl ?_
        refine j_istore_n (lv' := [(3, .int r8), (0, .ref (eAd E 0)), (1, .int p1), (2, .int p2)]) C dX11_map_49 (by decide) rfl ?_
        refine j_aload_n C dX11_map_50 1 rfl ?_
        refine j_get (ci := 11) C hU_X11 rfl (xin F (by decide)) (xe_0 F _ _) 0 (by decide) rfl hF_X11_18 dX11_map_51 ?_
        refine j_iload_n C dX11_map_54 2 rfl ?_
        refine j_iload_n C dX11_map_55 3 rfl ?_
        refine j_bind (fun σ10 h9 => ?_)
        refine j_callVv (ci := 3) C [.int p1, .int p2] (c_X3_remap F h9) hM_X11_98 hI_X3_remap hS_X3_remap hZ_X3 hC_X3_remap (xin F (by decide)) (xe_1 F _ _) rfl rfl dd_X3_remap (by decide) ⟨rfl, rfl⟩ (by decide) (Nat.le_of_ble_eq_true rfl) dX11_map_56 rfl ?_
        refine j_iload_n C dX11_map_59 0 rfl ?_
        exact j_ireti2 C Q dX11_map_60
      · refine j_bipush C (-3 : Int32) dX11_map_38 (by decide) ?_
        exact j_ireti2 C Q dX11_map_40
    · refine j_bipush C (-2 : Int32) dX11_map_25 (by decide) ?_
      exact j_ireti2 C Q dX11_map_27
  · refine j_iconst C (-1 : Int32) dX11_map_10 (by decide) ?_
    exact j_ireti2 C Q dX11_map_11
set_option maxRecDepth 100000 in
set_option maxHeartbeats 4000000 in
theorem c_X11_map {E : EnvT} {n : Nat} {cs : Nat → ClassId} (F : XF E n cs) {σ : Mem} {p1 : Int32} {p2 : Int32} {r : Int32 × Mem} (h : X11_map n σ p1 p2 = some r) : CT E yX11_map cX11_map 4 (some .int) rm_X11_map [.ref (eAd E 0), .int p1, .int p2] σ (RQi r.1 r.2) :=
  ct_X F (by decide) (Nat.le_of_ble_eq_true rfl) (fun E' ea F' C Q => by rw [← ea]; exact m_X11_map F'  C Q h)
theorem dd_X11_map : yX11_map.cls ≠ "java/lang/invoke/MethodHandle" ∧ yX11_map.cls ≠ "java/lang/invoke/VarHandle" ∧ (parseMethodDescriptor yX11_map.desc).map (fun d => d.parameters.length) = some 2 := by decide +kernel
def X11_torque (n : Nat) (σ : Mem) (p1 : Int32) (p2 : Int32) : Option (Int64) :=
  bindo (X11_within p1 (0 : Int32) (8000 : Int32)) (fun r2 =>
  if r2 = (0 : Int32) then
  (some (-9223372036854775808 : Int64))
  else
  (bindo (X11_within p2 (0 : Int32) (1000 : Int32)) (fun r4 =>
  if ¬ r4 = (0 : Int32) then
  (bindo (X3_torqueAt n σ p1 p2) (fun r6 =>
  some (r6.toInt64)))
  else
  (some (-9223372036854775808 : Int64)))))
abbrev rm_X11_torque : Room := { frames := 3, cells := 0, slots := 0, locals := 74 }
set_option maxRecDepth 100000 in
set_option maxHeartbeats 4000000 in
theorem m_X11_torque {E : EnvT} {n : Nat} {cs : Nat → ClassId} (F : XF E n cs) {p1 : Int32} {p2 : Int32} {σ : Mem} (C : CX E cX11_torque RX11 3 rm_X11_torque) {r0 : Int64} (Q : QE E 0 0 (some .long) (RQl r0 σ)) : J E 3 0 0 r0 (X11_torque n σ p1 p2) σ 0 [(0, .ref (eAd E 0)), (1, .int p1), (2, .int p2)] [] := by

  unfold X11_torque
  refine j_iload_n C dX11_torque_0 1 rfl ?_
  refine j_iconst C (0 : Int32) dX11_torque_1 (by decide) ?_
  refine j_sipush C (8000 : Int32) dX11_torque_2 (by decide) ?_
  refine j_bind (fun r2 h1 => ?_)
  refine j_callSi C [.int p1, .int (0 : Int32), .int (8000 : Int32)] (c_X11_within F h1) hM_X11_86 hT_X11_within hZ_X11 hC_X11_within dd_X11_within (by decide) ⟨rfl, rfl⟩ (by decide) (Nat.le_of_ble_eq_true rfl) dX11_torque_5 rfl ?_
  refine j_if_eq C 22 dX11_torque_8 (by decide) ?_ ?_
  · refine j_ldc2 C hK_X11_102 dX11_torque_22 ?_
    exact j_lret C Q dX11_torque_25
  · refine j_iload_n C dX11_torque_11 2 rfl ?_
    refine j_iconst C (0 : Int32) dX11_torque_12 (by decide) ?_
    refine j_sipush C (1000 : Int32) dX11_torque_13 (by decide) ?_
    refine j_bind (fun r4 h3 => ?_)
    refine j_callSi C [.int p2, .int (0 : Int32), .int (1000 : Int32)] (c_X11_within F h3) hM_X11_86 hT_X11_within hZ_X11 hC_X11_within dd_X11_within (by decide) ⟨rfl, rfl⟩ (by decide) (Nat.le_of_ble_eq_true rfl) dX11_torque_16 rfl ?_
    refine j_if_ne C 26 dX11_torque_19 (by decide) ?_ ?_
    · refine j_aload_n C dX11_torque_26 0 rfl ?_
      refine j_get (ci := 11) C hU_X11 rfl (xin F (by decide)) (xe_0 F _ _) 0 (by decide) rfl hF_X11_18 dX11_torque_27 ?_
      refine j_iload_n C dX11_torque_30 1 rfl ?_
      refine j_iload_n C dX11_torque_31 2 rfl ?_
      refine j_bind (fun r6 h5 => ?_)
      refine j_callVi (ci := 3) C [.int p1, .int p2] (c_X3_torqueAt F h5) hM_X11_104 hI_X3_torqueAt hS_X3_torqueAt hZ_X3 hC_X3_torqueAt (xin F (by decide)) (xe_1 F _ _) rfl rfl dd_X3_torqueAt (by decide) ⟨rfl, rfl⟩ (by decide) (Nat.le_of_ble_eq_true rfl) dX11_torque_32 rfl ?_
      refine j_i2l C dX11_torque_35 ?_
      exact j_lret C Q dX11_torque_36
    · refine j_ldc2 C hK_X11_102 dX11_torque_22 ?_
      exact j_lret C Q dX11_torque_25
set_option maxRecDepth 100000 in
set_option maxHeartbeats 4000000 in
theorem c_X11_torque {E : EnvT} {n : Nat} {cs : Nat → ClassId} (F : XF E n cs) {σ : Mem} {p1 : Int32} {p2 : Int32} {r : Int64} (h : X11_torque n σ p1 p2 = some r) : CT E yX11_torque cX11_torque 3 (some .long) rm_X11_torque [.ref (eAd E 0), .int p1, .int p2] σ (RQl r σ) :=
  ct_X F (by decide) (Nat.le_of_ble_eq_true rfl) (fun E' ea F' C Q => by rw [← ea]; exact m_X11_torque F'  C Q h)
theorem dd_X11_torque : yX11_torque.cls ≠ "java/lang/invoke/MethodHandle" ∧ yX11_torque.cls ≠ "java/lang/invoke/VarHandle" ∧ (parseMethodDescriptor yX11_torque.desc).map (fun d => d.parameters.length) = some 2 := by decide +kernel
def X11_lag (n : Nat) (σ : Mem) (p1 : Int32) : Option (Int32 × Mem) :=
  bindo (X11_within p1 (1 : Int32) (20 : Int32)) (fun r2 =>
  if ¬ r2 = (0 : Int32) then
  (bindo (X8_isOff n σ) (fun r4 =>
  if ¬ r4 = (0 : Int32) then
  (lete (σ.1 1 2) (fun x5 =>
  lete (wI σ 1 2 p1) (fun σ6 =>
  some (x5, σ6))))
  else
  (some ((-3 : Int32), σ))))
  else
  (some ((-2 : Int32), σ)))
abbrev rm_X11_lag : Room := { frames := 1, cells := 0, slots := 0, locals := 22 }
set_option maxRecDepth 100000 in
set_option maxHeartbeats 4000000 in
theorem m_X11_lag {E : EnvT} {n : Nat} {cs : Nat → ClassId} (F : XF E n cs) {p1 : Int32} {σ : Mem} (C : CX E cX11_lag RX11 3 rm_X11_lag) {r0 : Int32 × Mem} (Q : QE E 0 0 (some .int) (RQi r0.1 r0.2)) : J E 3 0 0 r0 (X11_lag n σ p1) σ 0 [(0, .ref (eAd E 0)), (1, .int p1)] [] := by

  unfold X11_lag
  refine j_iload_n C dX11_lag_0 1 rfl ?_
  refine j_iconst C (1 : Int32) dX11_lag_1 (by decide) ?_
  refine j_bipush C (20 : Int32) dX11_lag_2 (by decide) ?_
  refine j_bind (fun r2 h1 => ?_)
  refine j_callSi C [.int p1, .int (1 : Int32), .int (20 : Int32)] (c_X11_within F h1) hM_X11_86 hT_X11_within hZ_X11 hC_X11_within dd_X11_within (by decide) ⟨rfl, rfl⟩ (by decide) (Nat.le_of_ble_eq_true rfl) dX11_lag_4 rfl ?_
  refine j_if_ne C 13 dX11_lag_7 (by decide) ?_ ?_
  · refine j_aload_n C dX11_lag_13 0 rfl ?_
    refine j_get (ci := 11) C hU_X11 rfl (xin F (by decide)) (xe_0 F _ _) 4 (by decide) rfl hF_X11_50 dX11_lag_14 ?_
    refine j_bind (fun r4 h3 => ?_)
    refine j_callVi (ci := 8) C [] (c_X8_isOff F h3) hM_X11_90 hI_X8_isOff hS_X8_isOff hZ_X8 hC_X8_isOff (xin F (by decide)) (xe_20 F _ _) rfl rfl dd_X8_isOff (by decide) ⟨rfl, rfl⟩ (by decide) (Nat.le_of_ble_eq_true rfl) dX11_lag_17 rfl ?_
    refine j_if_ne C 26 dX11_lag_20 (by decide) ?_ ?_
    · refine j_aload_n C dX11_lag_26 0 rfl ?_
      refine j_get (ci := 11) C hU_X11 rfl (xin F (by decide)) (xe_0 F _ _) 0 (by decide) rfl hF_X11_18 dX11_lag_27 ?_
      refine j_get (ci := 3) C hU_X3 rfl (xin F (by decide)) (xe_1 F _ _) 2 (by decide) rfl hF_X11_108 dX11_lag_30 ?_
      refine j_nmi (fun x5 => ?_)
      refine j_istore_n (lv' := [(2, .int x5), (0, .ref (eAd E 0)), (1, .int p1)]) C dX11_lag_33 (by decide) rfl ?_
      refine j_aload_n C dX11_lag_34 1 rfl ?_
      refine j_get (ci := 11) C hU_X11 rfl (xin F (by decide)) (xe_0 F _ _) 0 (by decide) rfl hF_X11_18 dX11_lag_35 ?_
      refine j_iload_n C dX11_lag_38 2 rfl ?_
      refine j_put (ci := 3) C hU_X3 tyX3_ok nmX3 rfl (xin F (by decide)) (xe_1 F _ _) 2 (by decide) (Nat.le_of_ble_eq_true rfl) (by rw [wI_o, wI_2]; exact (xe_1 F _ _)) (fun o' h' => ⟨wI_ne _ _ _ h', rfl⟩) rfl (by first | rfl | decide) (by first | rfl | decide) hF_X11_108 dX11_lag_39 (fun σ6 => ?_)
      refine j_iload_n C dX11_lag_42 0 rfl ?_
      exact j_ireti2 C Q dX11_lag_43
    · refine j_bipush C (-3 : Int32) dX11_lag_23 (by decide) ?_
      exact j_ireti2 C Q dX11_lag_25
  · refine j_bipush C (-2 : Int32) dX11_lag_10 (by decide) ?_
    exact j_ireti2 C Q dX11_lag_12
set_option maxRecDepth 100000 in
set_option maxHeartbeats 4000000 in
theorem c_X11_lag {E : EnvT} {n : Nat} {cs : Nat → ClassId} (F : XF E n cs) {σ : Mem} {p1 : Int32} {r : Int32 × Mem} (h : X11_lag n σ p1 = some r) : CT E yX11_lag cX11_lag 3 (some .int) rm_X11_lag [.ref (eAd E 0), .int p1] σ (RQi r.1 r.2) :=
  ct_X F (by decide) (Nat.le_of_ble_eq_true rfl) (fun E' ea F' C Q => by rw [← ea]; exact m_X11_lag F'  C Q h)
theorem dd_X11_lag : yX11_lag.cls ≠ "java/lang/invoke/MethodHandle" ∧ yX11_lag.cls ≠ "java/lang/invoke/VarHandle" ∧ (parseMethodDescriptor yX11_lag.desc).map (fun d => d.parameters.length) = some 1 := by decide +kernel
def X11_step (n : Nat) (σ : Mem) (p1 : Int32) (p2 : Int32) (p3 : Int32) (p4 : Int32) : Option (Int32 × Mem) :=
  bindo (X8_isOff n σ) (fun r2 =>
  if ¬ r2 = (0 : Int32) then
  (bindo (X6_fits (σ.1 4 1) p1 p2 p3 p4) (fun r4 =>
  if ¬ r4 = (0 : Int32) then
  (if (σ.1 4 1) < (30 : Int32) then
  (bindo (X6_add n σ p1 p2 p3 p4) (fun σ6 =>
  some (((σ6.1 4 1) - (1 : Int32)), σ6)))
  else
  (some ((-4 : Int32), σ)))
  else
  (some ((-2 : Int32), σ))))
  else
  (some ((-3 : Int32), σ)))
abbrev rm_X11_step : Room := { frames := 2, cells := 0, slots := 0, locals := 47 }
set_option maxRecDepth 100000 in
set_option maxHeartbeats 4000000 in
theorem m_X11_step {E : EnvT} {n : Nat} {cs : Nat → ClassId} (F : XF E n cs) {p1 : Int32} {p2 : Int32} {p3 : Int32} {p4 : Int32} {σ : Mem} (C : CX E cX11_step RX11 5 rm_X11_step) {r0 : Int32 × Mem} (Q : QE E 0 0 (some .int) (RQi r0.1 r0.2)) : J E 5 0 0 r0 (X11_step n σ p1 p2 p3 p4) σ 0 [(0, .ref (eAd E 0)), (1, .int p1), (2, .int p2), (3, .int p3), (4, .int p4)] [] := by

  unfold X11_step
  refine j_aload_n C dX11_step_0 0 rfl ?_
  refine j_get (ci := 11) C hU_X11 rfl (xin F (by decide)) (xe_0 F _ _) 4 (by decide) rfl hF_X11_50 dX11_step_1 ?_
  refine j_bind (fun r2 h1 => ?_)
  refine j_callVi (ci := 8) C [] (c_X8_isOff F h1) hM_X11_90 hI_X8_isOff hS_X8_isOff hZ_X8 hC_X8_isOff (xin F (by decide)) (xe_20 F _ _) rfl rfl dd_X8_isOff (by decide) ⟨rfl, rfl⟩ (by decide) (Nat.le_of_ble_eq_true rfl) dX11_step_4 rfl ?_
  refine j_if_ne C 13 dX11_step_7 (by decide) ?_ ?_
  · refine j_aload_n C dX11_step_13 0 rfl ?_
    refine j_get (ci := 11) C hU_X11 rfl (xin F (by decide)) (xe_0 F _ _) 1 (by decide) rfl hF_X11_25 dX11_step_14 ?_
    refine j_get (ci := 6) C hU_X6 rfl (xin F (by decide)) (xe_4 F _ _) 1 (by decide) rfl hF_X11_111 dX11_step_17 ?_
    refine j_iload_n C dX11_step_20 1 rfl ?_
    refine j_iload_n C dX11_step_21 2 rfl ?_
    refine j_iload_n C dX11_step_22 3 rfl ?_
    refine j_iload C dX11_step_23 4 rfl ?_
    refine j_bind (fun r4 h3 => ?_)
    refine j_callSi C [.int (σ.1 4 1), .int p1, .int p2, .int p3, .int p4] (c_X6_fits F h3) hM_X11_114 hT_X6_fits hZ_X6 hC_X6_fits dd_X6_fits (by decide) ⟨rfl, rfl⟩ (by decide) (Nat.le_of_ble_eq_true rfl) dX11_step_25 rfl ?_
    refine j_if_ne C 34 dX11_step_28 (by decide) ?_ ?_
    · refine j_aload_n C dX11_step_34 0 rfl ?_
      refine j_get (ci := 11) C hU_X11 rfl (xin F (by decide)) (xe_0 F _ _) 1 (by decide) rfl hF_X11_25 dX11_step_35 ?_
      refine j_get (ci := 6) C hU_X6 rfl (xin F (by decide)) (xe_4 F _ _) 1 (by decide) rfl hF_X11_111 dX11_step_38 ?_
      refine j_bipush C (30 : Int32) dX11_step_41 (by decide) ?_
      refine j_icmp_lt C 49 dX11_step_43 (by decide) ?_ ?_
      · refine j_aload_n C dX11_step_49 0 rfl ?_
        refine j_get (ci := 11) C hU_X11 rfl (xin F (by decide)) (xe_0 F _ _) 1 (by decide) rfl hF_X11_25 dX11_step_50 ?_
        refine j_iload_n C dX11_step_53 1 rfl ?_
        refine j_iload_n C dX11_step_54 2 rfl ?_
        refine j_iload_n C dX11_step_55 3 rfl ?_
        refine j_iload C dX11_step_56 4 rfl ?_
        refine j_bind (fun σ6 h5 => ?_)
        refine j_callVv (ci := 6) C [.int p1, .int p2, .int p3, .int p4] (c_X6_add F h5) hM_X11_118 hI_X6_add hS_X6_add hZ_X6 hC_X6_add (xin F (by decide)) (xe_4 F _ _) rfl rfl dd_X6_add (by decide) ⟨rfl, rfl⟩ (by decide) (Nat.le_of_ble_eq_true rfl) dX11_step_58 rfl ?_
        refine j_aload_n C dX11_step_61 0 rfl ?_
        refine j_get (ci := 11) C hU_X11 rfl (xin F (by decide)) (xe_0 F _ _) 1 (by decide) rfl hF_X11_25 dX11_step_62 ?_
        refine j_get (ci := 6) C hU_X6 rfl (xin F (by decide)) (xe_4 F _ _) 1 (by decide) rfl hF_X11_111 dX11_step_65 ?_
        refine j_iconst C (1 : Int32) dX11_step_68 (by decide) ?_
        refine j_isub C dX11_step_69 ?_
        exact j_ireti2 C Q dX11_step_70
      · refine j_bipush C (-4 : Int32) dX11_step_46 (by decide) ?_
        exact j_ireti2 C Q dX11_step_48
    · refine j_bipush C (-2 : Int32) dX11_step_31 (by decide) ?_
      exact j_ireti2 C Q dX11_step_33
  · refine j_bipush C (-3 : Int32) dX11_step_10 (by decide) ?_
    exact j_ireti2 C Q dX11_step_12
set_option maxRecDepth 100000 in
set_option maxHeartbeats 4000000 in
theorem c_X11_step {E : EnvT} {n : Nat} {cs : Nat → ClassId} (F : XF E n cs) {σ : Mem} {p1 : Int32} {p2 : Int32} {p3 : Int32} {p4 : Int32} {r : Int32 × Mem} (h : X11_step n σ p1 p2 p3 p4 = some r) : CT E yX11_step cX11_step 5 (some .int) rm_X11_step [.ref (eAd E 0), .int p1, .int p2, .int p3, .int p4] σ (RQi r.1 r.2) :=
  ct_X F (by decide) (Nat.le_of_ble_eq_true rfl) (fun E' ea F' C Q => by rw [← ea]; exact m_X11_step F'  C Q h)
theorem dd_X11_step : yX11_step.cls ≠ "java/lang/invoke/MethodHandle" ∧ yX11_step.cls ≠ "java/lang/invoke/VarHandle" ∧ (parseMethodDescriptor yX11_step.desc).map (fun d => d.parameters.length) = some 4 := by decide +kernel
def X11_findSheet (n : Nat) (σ : Mem) (p1 : Int32) : Option (Option Nat) :=
  bindo (X11_within p1 (0 : Int32) (3 : Int32)) (fun r2 =>
  if r2 = (0 : Int32) then
  (some none)
  else
  (chk (inb p1 4) (
  lete (xSheets (ix p1)) (fun y4 =>
  some y4))))
abbrev rm_X11_findSheet : Room := { frames := 1, cells := 0, slots := 0, locals := 22 }
set_option maxRecDepth 100000 in
set_option maxHeartbeats 4000000 in
theorem m_X11_findSheet {E : EnvT} {n : Nat} {cs : Nat → ClassId} (F : XF E n cs) {p1 : Int32} {σ : Mem} (C : CX E cX11_findSheet RX11 2 rm_X11_findSheet) {r0 : Option Nat} (Q : QE E 0 0 (some (.object "EngineCell$Sheet")) (RQq r0 σ)) : J E 2 0 0 r0 (X11_findSheet n σ p1) σ 0 [(0, .ref (eAd E 0)), (1, .int p1)] [] := by

  unfold X11_findSheet
  refine j_iload_n C dX11_findSheet_0 1 rfl ?_
  refine j_iconst C (0 : Int32) dX11_findSheet_1 (by decide) ?_
  refine j_iconst C (3 : Int32) dX11_findSheet_2 (by decide) ?_
  refine j_bind (fun r2 h1 => ?_)
  refine j_callSi C [.int p1, .int (0 : Int32), .int (3 : Int32)] (c_X11_within F h1) hM_X11_86 hT_X11_within hZ_X11 hC_X11_within dd_X11_within (by decide) ⟨rfl, rfl⟩ (by decide) (Nat.le_of_ble_eq_true rfl) dX11_findSheet_3 rfl ?_
  refine j_if_eq C 18 dX11_findSheet_6 (by decide) ?_ ?_
  · refine j_null C dX11_findSheet_18 ?_
    exact j_aret (v := none) C (Or.inl ⟨_, rfl⟩) Q dX11_findSheet_19
  · refine j_aload_n C dX11_findSheet_9 0 rfl ?_
    refine j_get (ci := 11) C hU_X11 rfl (xin F (by decide)) (xe_0 F _ _) 8 (by decide) rfl hF_X11_81 dX11_findSheet_10 ?_
    refine j_iload_n C dX11_findSheet_13 1 rfl ?_
    refine j_chk (fun h3 => ?_)
    refine j_aald (t0 := 4) C (xin F (by decide)) (xe_28 F _ _) (xt4 F) (inb_in h3) dX11_findSheet_14 ?_
    refine j_nmq (fun y4 => ?_)
    refine j_goto C 19 dX11_findSheet_15 (by decide) ?_
    exact j_aret (v := y4) C (Or.inl ⟨_, rfl⟩) Q dX11_findSheet_19
set_option maxRecDepth 100000 in
set_option maxHeartbeats 4000000 in
theorem c_X11_findSheet {E : EnvT} {n : Nat} {cs : Nat → ClassId} (F : XF E n cs) {σ : Mem} {p1 : Int32} {r : Option Nat} (h : X11_findSheet n σ p1 = some r) : CT E yX11_findSheet cX11_findSheet 2 (some (.object "EngineCell$Sheet")) rm_X11_findSheet [.ref (eAd E 0), .int p1] σ (RQq r σ) :=
  ct_X F (by decide) (Nat.le_of_ble_eq_true rfl) (fun E' ea F' C Q => by rw [← ea]; exact m_X11_findSheet F'  C Q h)
theorem dd_X11_findSheet : yX11_findSheet.cls ≠ "java/lang/invoke/MethodHandle" ∧ yX11_findSheet.cls ≠ "java/lang/invoke/VarHandle" ∧ (parseMethodDescriptor yX11_findSheet.desc).map (fun d => d.parameters.length) = some 1 := by decide +kernel
def X11_faulted (n : Nat) (σ : Mem) (p1 : Int32) : Option (Int32 × Mem) :=
  lete (wI σ 0 9 p1) (fun σ1 =>
  some (((-10 : Int32) - p1), σ1))
abbrev rm_X11_faulted : Room := { frames := 0, cells := 0, slots := 0, locals := 0 }
set_option maxRecDepth 100000 in
set_option maxHeartbeats 4000000 in
theorem m_X11_faulted {E : EnvT} {n : Nat} {cs : Nat → ClassId} (F : XF E n cs) {p1 : Int32} {σ : Mem} (C : CX E cX11_faulted RX11 2 rm_X11_faulted) {r0 : Int32 × Mem} (Q : QE E 0 0 (some .int) (RQi r0.1 r0.2)) : J E 2 0 0 r0 (X11_faulted n σ p1) σ 0 [(0, .ref (eAd E 0)), (1, .int p1)] [] := by

  unfold X11_faulted
  refine j_aload_n C dX11_faulted_0 0 rfl ?_
  refine j_iload_n C dX11_faulted_1 1 rfl ?_
  refine j_put (ci := 11) C hU_X11 tyX11_ok nmX11 rfl (xin F (by decide)) (xe_0 F _ _) 9 (by decide) (Nat.le_of_ble_eq_true rfl) (by rw [wI_o, wI_2]; exact (xe_0 F _ _)) (fun o' h' => ⟨wI_ne _ _ _ h', rfl⟩) rfl (by first | rfl | decide) (by first | rfl | decide) hF_X11_11 dX11_faulted_2 (fun σ1 => ?_)
  refine j_bipush C (-10 : Int32) dX11_faulted_5 (by decide) ?_
  refine j_iload_n C dX11_faulted_7 1 rfl ?_
  refine j_isub C dX11_faulted_8 ?_
  exact j_ireti2 C Q dX11_faulted_9
set_option maxRecDepth 100000 in
set_option maxHeartbeats 4000000 in
theorem c_X11_faulted {E : EnvT} {n : Nat} {cs : Nat → ClassId} (F : XF E n cs) {σ : Mem} {p1 : Int32} {r : Int32 × Mem} (h : X11_faulted n σ p1 = some r) : CT E yX11_faulted cX11_faulted 2 (some .int) rm_X11_faulted [.ref (eAd E 0), .int p1] σ (RQi r.1 r.2) :=
  ct_X F (by decide) (Nat.le_of_ble_eq_true rfl) (fun E' ea F' C Q => by rw [← ea]; exact m_X11_faulted F'  C Q h)
theorem dd_X11_faulted : yX11_faulted.cls ≠ "java/lang/invoke/MethodHandle" ∧ yX11_faulted.cls ≠ "java/lang/invoke/VarHandle" ∧ (parseMethodDescriptor yX11_faulted.desc).map (fun d => d.parameters.length) = some 1 := by decide +kernel
def X11_load_b81 (n : Nat) (σ : Mem) (v3 : Int32) (v4 : Int32) (v5 : Nat) (v6 : Int32) : Option (Int32 × Mem) :=
  if v6 = (0 : Int32) then
  (bindo (X6_fitAll n σ v5 v3 v4) (fun r2 =>
  if ¬ r2 = (0 : Int32) then
  (if v4 ≤ ((30 : Int32) - (σ.1 4 1)) then
  (bindo (X6_addAll n σ v5 v3 v4) (fun σ4 =>
  some ((σ4.1 4 1), σ4)))
  else
  (some ((-4 : Int32), σ)))
  else
  (some ((-2 : Int32), σ))))
  else
  (bindo (X11_faulted n σ v6) (fun a6 =>
  some (a6.1, a6.2)))
def X11_load_b79 (n : Nat) (σ : Mem) (v3 : Int32) (v4 : Int32) (v5 : Nat) (s0 : Int32) : Option (Int32 × Mem) :=
  X11_load_b81 n σ v3 v4 v5 s0
def X11_load (n : Nat) (σ : Mem) (p1 : Int32) (p2 : Int32) (p3 : Int32) (p4 : Int32) : Option (Int32 × Mem) :=
  lete (wI σ 0 9 (0 : Int32)) (fun σ1 =>
  bindo (X11_findSheet n σ1 p1) (fun r3 =>
  caseo r3 (some ((-1 : Int32), σ1))
  (fun a4 => chk (isSh a4) (bindo (X11_within p2 (0 : Int32) (2 : Int32)) (fun r7 =>
  if ¬ r7 = (0 : Int32) then
  (bindo (X8_isOff n σ1) (fun r9 =>
  if ¬ r9 = (0 : Int32) then
  (bindo (X9_faultAs n a4 σ1 p2) (fun r11 =>
  if ¬ r11 = (0 : Int32) then
  (X11_load_b81 n σ1 p3 p4 a4 r11)
  else
  (if (0 : Int32) ≤ p4 then
  (bindo (X9_faultFrom n a4 σ1 p3 ((4 : Int64) * (p4.toInt64))) (fun r13 =>
  X11_load_b79 n σ1 p3 p4 a4 r13))
  else
  (X11_load_b79 n σ1 p3 p4 a4 (4 : Int32)))))
  else
  (some ((-3 : Int32), σ1))))
  else
  (some ((-2 : Int32), σ1)))))))
abbrev rm_X11_load : Room := { frames := 3, cells := 0, slots := 0, locals := 72 }
set_option maxRecDepth 100000 in
set_option maxHeartbeats 4000000 in
theorem m_X11_load {E : EnvT} {n : Nat} {cs : Nat → ClassId} (F : XF E n cs) {p1 : Int32} {p2 : Int32} {p3 : Int32} {p4 : Int32} {σ : Mem} (C : CX E cX11_load RX11 7 rm_X11_load) {r0 : Int32 × Mem} (Q : QE E 0 0 (some .int) (RQi r0.1 r0.2)) : J E 7 0 0 r0 (X11_load n σ p1 p2 p3 p4) σ 0 [(0, .ref (eAd E 0)), (1, .int p1), (2, .int p2), (3, .int p3), (4, .int p4)] [] := by
  have hB81 : ∀ (σ : Mem) (v3 : Int32) (v4 : Int32) (v5 : Nat) (v6 : Int32) (hv5 : isSh v5 = true), J E 7 0 0 r0 (X11_load_b81 n σ v3 v4 v5 v6) σ 81 [(0, .ref (eAd E 0)), (3, .int v3), (4, .int v4), (5, .ref (eAd E v5)), (6, .int v6)] [] := by
    intro σ v3 v4 v5 v6 hv5
    unfold X11_load_b81
    refine j_iload C dX11_load_81 4 rfl ?_
    refine j_if_eq C 93 dX11_load_83 (by decide) ?_ ?_
    · refine j_aload_n C dX11_load_93 0 rfl ?_
      refine j_get (ci := 11) C hU_X11 rfl (xin F (by decide)) (xe_0 F _ _) 1 (by decide) rfl hF_X11_25 dX11_load_94 ?_
      refine j_aload C dX11_load_97 3 rfl ?_
      refine j_iload_n C dX11_load_99 1 rfl ?_
      refine j_iload C dX11_load_100 2 rfl ?_
      refine j_bind (fun r2 h1 => ?_)
      refine j_callVi (ci := 6) C [.ref (eAd E v5), .int v3, .int v4] (c_X6_fitAll F hv5 h1) hM_X11_138 hI_X6_fitAll hS_X6_fitAll hZ_X6 hC_X6_fitAll (xin F (by decide)) (xe_4 F _ _) rfl rfl dd_X6_fitAll (by decide) ⟨rfl, rfl⟩ (by decide) (Nat.le_of_ble_eq_true rfl) dX11_load_102 rfl ?_
      refine j_if_ne C 111 dX11_load_105 (by decide) ?_ ?_
      · refine j_iload C dX11_load_111 2 rfl ?_
        refine j_bipush C (30 : Int32) dX11_load_113 (by decide) ?_
        refine j_aload_n C dX11_load_115 0 rfl ?_
        refine j_get (ci := 11) C hU_X11 rfl (xin F (by decide)) (xe_0 F _ _) 1 (by decide) rfl hF_X11_25 dX11_load_116 ?_
        refine j_get (ci := 6) C hU_X6 rfl (xin F (by decide)) (xe_4 F _ _) 1 (by decide) rfl hF_X11_111 dX11_load_119 ?_
        refine j_isub C dX11_load_122 ?_
        refine j_icmp_le C 129 dX11_load_123 (by decide) ?_ ?_
        · refine j_aload_n C dX11_load_129 0 rfl ?_
          refine j_get (ci := 11) C hU_X11 rfl (xin F (by decide)) (xe_0 F _ _) 1 (by decide) rfl hF_X11_25 dX11_load_130 ?_
          refine j_aload C dX11_load_133 3 rfl ?_
          refine j_iload_n C dX11_load_135 1 rfl ?_
          refine j_iload C dX11_load_136 2 rfl ?_
          refine j_bind (fun σ4 h3 => ?_)
          refine j_callVv (ci := 6) C [.ref (eAd E v5), .int v3, .int v4] (c_X6_addAll F hv5 h3) hM_X11_142 hI_X6_addAll hS_X6_addAll hZ_X6 hC_X6_addAll (xin F (by decide)) (xe_4 F _ _) rfl rfl dd_X6_addAll (by decide) ⟨rfl, rfl⟩ (by decide) (Nat.le_of_ble_eq_true rfl) dX11_load_138 rfl ?_
          refine j_aload_n C dX11_load_141 0 rfl ?_
          refine j_get (ci := 11) C hU_X11 rfl (xin F (by decide)) (xe_0 F _ _) 1 (by decide) rfl hF_X11_25 dX11_load_142 ?_
          refine j_get (ci := 6) C hU_X6 rfl (xin F (by decide)) (xe_4 F _ _) 1 (by decide) rfl hF_X11_111 dX11_load_145 ?_
          exact j_ireti2 C Q dX11_load_148
        · refine j_bipush C (-4 : Int32) dX11_load_126 (by decide) ?_
          exact j_ireti2 C Q dX11_load_128
      · refine j_bipush C (-2 : Int32) dX11_load_108 (by decide) ?_
        exact j_ireti2 C Q dX11_load_110
    · refine j_aload_n C dX11_load_86 0 rfl ?_
      refine j_iload C dX11_load_87 4 rfl ?_
      refine j_bind (fun a6 h5 => ?_)
      refine j_callVi (ci := 11) C [.int v6] (c_X11_faulted F h5) hM_X11_135 hI_X11_faulted hS_X11_faulted hZ_X11 hC_X11_faulted (xin F (by decide)) (xe_0 F _ _) rfl rfl dd_X11_faulted (by decide) ⟨rfl, rfl⟩ (by decide) (Nat.le_of_ble_eq_true rfl) dX11_load_89 rfl ?_
      exact j_ireti2 C Q dX11_load_92
  have hB79 : ∀ (σ : Mem) (v3 : Int32) (v4 : Int32) (v5 : Nat) (s0 : Int32) (hv5 : isSh v5 = true), J E 7 0 0 r0 (X11_load_b79 n σ v3 v4 v5 s0) σ 79 [(0, .ref (eAd E 0)), (3, .int v3), (4, .int v4), (5, .ref (eAd E v5))] [.int s0] := by
    intro σ v3 v4 v5 s0 hv5
    unfold X11_load_b79
    refine j_istore (lv' := [(6, .int s0), (0, .ref (eAd E 0)), (3, .int v3), (4, .int v4), (5, .ref (eAd E v5))]) C dX11_load_79 (by decide) rfl ?_
    refine j_lv [(0, .ref (eAd E 0)), (3, .int v3), (4, .int v4), (5, .ref (eAd E v5)), (6, .int s0)] [1, 2, 3, 4, 0] rfl ?_
    exact hB81 σ v3 v4 v5 s0 hv5
  unfold X11_load
  refine j_aload_n C dX11_load_0 0 rfl ?_
  refine j_iconst C (0 : Int32) dX11_load_1 (by decide) ?_
  refine j_put (ci := 11) C hU_X11 tyX11_ok nmX11 rfl (xin F (by decide)) (xe_0 F _ _) 9 (by decide) (Nat.le_of_ble_eq_true rfl) (by rw [wI_o, wI_2]; exact (xe_0 F _ _)) (fun o' h' => ⟨wI_ne _ _ _ h', rfl⟩) rfl (by first | rfl | decide) (by first | rfl | decide) hF_X11_11 dX11_load_2 (fun σ1 => ?_)
  refine j_aload_n C dX11_load_5 0 rfl ?_
  refine j_iload_n C dX11_load_6 1 rfl ?_
  refine j_bind (fun r3 h2 => ?_)
  refine j_callVq (ci := 11) C [.int p1] (c_X11_findSheet F h2) hM_X11_122 hI_X11_findSheet hS_X11_findSheet hZ_X11 hC_X11_findSheet (xin F (by decide)) (xe_0 F _ _) rfl rfl dd_X11_findSheet (by decide) ⟨rfl, rfl⟩ (by decide) (Nat.le_of_ble_eq_true rfl) dX11_load_7 rfl ?_
  refine j_astoreq (lv' := [(5, va_rf (Option.map (eAd E) r3)), (0, .ref (eAd E 0)), (1, .int p1), (2, .int p2), (3, .int p3), (4, .int p4)]) C dX11_load_10 (by decide) rfl ?_
  refine j_aloadq C dX11_load_12 0 rfl ?_
  refine j_ifnonnull C 19 dX11_load_14 (by decide) (fun e => ?_) (fun a4 e => ?_)
  · refine j_lv [(0, .ref (eAd E 0)), (1, .int p1), (2, .int p2), (3, .int p3), (4, .int p4)] [1, 2, 3, 4, 5] rfl ?_
    refine j_iconst C (-1 : Int32) dX11_load_17 (by decide) ?_
    exact j_ireti2 C Q dX11_load_18
  · subst e
    refine j_chk (fun h5 => ?_)
    refine j_iload_n C dX11_load_19 3 rfl ?_
    refine j_iconst C (0 : Int32) dX11_load_20 (by decide) ?_
    refine j_iconst C (2 : Int32) dX11_load_21 (by decide) ?_
    refine j_bind (fun r7 h6 => ?_)
    refine j_callSi C [.int p2, .int (0 : Int32), .int (2 : Int32)] (c_X11_within F h6) hM_X11_86 hT_X11_within hZ_X11 hC_X11_within dd_X11_within (by decide) ⟨rfl, rfl⟩ (by decide) (Nat.le_of_ble_eq_true rfl) dX11_load_22 rfl ?_
    refine j_if_ne C 31 dX11_load_25 (by decide) ?_ ?_
    · refine j_aload_n C dX11_load_31 1 rfl ?_
      refine j_get (ci := 11) C hU_X11 rfl (xin F (by decide)) (xe_0 F _ _) 4 (by decide) rfl hF_X11_50 dX11_load_32 ?_
      refine j_bind (fun r9 h8 => ?_)
      refine j_callVi (ci := 8) C [] (c_X8_isOff F h8) hM_X11_90 hI_X8_isOff hS_X8_isOff hZ_X8 hC_X8_isOff (xin F (by decide)) (xe_20 F _ _) rfl rfl dd_X8_isOff (by decide) ⟨rfl, rfl⟩ (by decide) (Nat.le_of_ble_eq_true rfl) dX11_load_35 rfl ?_
      refine j_if_ne C 44 dX11_load_38 (by decide) ?_ ?_
      · refine j_aload C dX11_load_44 0 rfl ?_
        refine j_iload_n C dX11_load_46 3 rfl ?_
        refine j_bind (fun r11 h10 => ?_)
        refine j_callVi (ci := 9) C [.int p2] (c_X9_faultAs F h5 h10) hM_X11_126 hI_X9_faultAs hS_X9_faultAs hZ_X9 hC_X9_faultAs (xin_Sh F h5) (xe_Sh F h5 _ _) rfl rfl dd_X9_faultAs (by decide) ⟨rfl, rfl⟩ (by decide) (Nat.le_of_ble_eq_true rfl) dX11_load_47 rfl ?_
        refine j_istore (lv' := [(6, .int r11), (5, .ref (eAd E a4)), (0, .ref (eAd E 0)), (1, .int p1), (2, .int p2), (3, .int p3), (4, .int p4)]) C dX11_load_50 (by decide) rfl ?_
        refine j_iload C dX11_load_52 0 rfl ?_
        refine j_if_ne C 81 dX11_load_54 (by decide) ?_ ?_
        · refine j_lv [(0, .ref (eAd E 0)), (3, .int p3), (4, .int p4), (5, .ref (eAd E a4)), (6, .int r11)] [2, 5, 6, 1, 0] rfl ?_
          exact hB81 σ1 p3 p4 a4 r11 h5
        · refine j_iload C dX11_load_57 6 rfl ?_
          refine j_if_ge C 66 dX11_load_59 (by decide) ?_ ?_
          · refine j_aload C dX11_load_66 1 rfl ?_
            refine j_iload_n C dX11_load_68 5 rfl ?_
            refine j_ldc2 C hK_X11_129 dX11_load_69 ?_
            refine j_iload C dX11_load_72 6 rfl ?_
            refine j_i2l C dX11_load_74 ?_
            refine j_lmul C dX11_load_75 ?_
            refine j_bind (fun r13 h12 => ?_)
            refine j_callVi (ci := 9) C [.int p3, .long ((4 : Int64) * (p4.toInt64))] (c_X9_faultFrom F h5 h12) hM_X11_131 hI_X9_faultFrom hS_X9_faultFrom hZ_X9 hC_X9_faultFrom (xin_Sh F h5) (xe_Sh F h5 _ _) rfl rfl dd_X9_faultFrom (by decide) ⟨rfl, rfl⟩ (by decide) (Nat.le_of_ble_eq_true rfl) dX11_load_76 rfl ?_
            refine j_lv [(0, .ref (eAd E 0)), (3, .int p3), (4, .int p4), (5, .ref (eAd E a4))] [2, 5, 6, 1] rfl ?_
            exact hB79 σ1 p3 p4 a4 r13 h5
          · refine j_iconst C (4 : Int32) dX11_load_62 (by decide) ?_
            refine j_goto C 79 dX11_load_63 (by decide) ?_
            refine j_lv [(0, .ref (eAd E 0)), (3, .int p3), (4, .int p4), (5, .ref (eAd E a4))] [2, 5, 6, 1] rfl ?_
            exact hB79 σ1 p3 p4 a4 (4 : Int32) h5
      · refine j_bipush C (-3 : Int32) dX11_load_41 (by decide) ?_
        exact j_ireti2 C Q dX11_load_43
    · refine j_bipush C (-2 : Int32) dX11_load_28 (by decide) ?_
      exact j_ireti2 C Q dX11_load_30
set_option maxRecDepth 100000 in
set_option maxHeartbeats 4000000 in
theorem c_X11_load {E : EnvT} {n : Nat} {cs : Nat → ClassId} (F : XF E n cs) {σ : Mem} {p1 : Int32} {p2 : Int32} {p3 : Int32} {p4 : Int32} {r : Int32 × Mem} (h : X11_load n σ p1 p2 p3 p4 = some r) : CT E yX11_load cX11_load 7 (some .int) rm_X11_load [.ref (eAd E 0), .int p1, .int p2, .int p3, .int p4] σ (RQi r.1 r.2) :=
  ct_X F (by decide) (Nat.le_of_ble_eq_true rfl) (fun E' ea F' C Q => by rw [← ea]; exact m_X11_load F'  C Q h)
theorem dd_X11_load : yX11_load.cls ≠ "java/lang/invoke/MethodHandle" ∧ yX11_load.cls ≠ "java/lang/invoke/VarHandle" ∧ (parseMethodDescriptor yX11_load.desc).map (fun d => d.parameters.length) = some 4 := by decide +kernel
def X11_clear (n : Nat) (σ : Mem) : Option (Int32 × Mem) :=
  bindo (X8_isOff n σ) (fun r2 =>
  if ¬ r2 = (0 : Int32) then
  (lete (σ.1 4 1) (fun x3 =>
  lete (wI σ 4 1 (0 : Int32)) (fun σ4 =>
  some (x3, σ4))))
  else
  (some ((-3 : Int32), σ)))
abbrev rm_X11_clear : Room := { frames := 1, cells := 0, slots := 0, locals := 20 }
set_option maxRecDepth 100000 in
set_option maxHeartbeats 4000000 in
theorem m_X11_clear {E : EnvT} {n : Nat} {cs : Nat → ClassId} (F : XF E n cs) {σ : Mem} (C : CX E cX11_clear RX11 2 rm_X11_clear) {r0 : Int32 × Mem} (Q : QE E 0 0 (some .int) (RQi r0.1 r0.2)) : J E 2 0 0 r0 (X11_clear n σ) σ 0 [(0, .ref (eAd E 0))] [] := by

  unfold X11_clear
  refine j_aload_n C dX11_clear_0 0 rfl ?_
  refine j_get (ci := 11) C hU_X11 rfl (xin F (by decide)) (xe_0 F _ _) 4 (by decide) rfl hF_X11_50 dX11_clear_1 ?_
  refine j_bind (fun r2 h1 => ?_)
  refine j_callVi (ci := 8) C [] (c_X8_isOff F h1) hM_X11_90 hI_X8_isOff hS_X8_isOff hZ_X8 hC_X8_isOff (xin F (by decide)) (xe_20 F _ _) rfl rfl dd_X8_isOff (by decide) ⟨rfl, rfl⟩ (by decide) (Nat.le_of_ble_eq_true rfl) dX11_clear_4 rfl ?_
  refine j_if_ne C 13 dX11_clear_7 (by decide) ?_ ?_
  · refine j_aload_n C dX11_clear_13 0 rfl ?_
    refine j_get (ci := 11) C hU_X11 rfl (xin F (by decide)) (xe_0 F _ _) 1 (by decide) rfl hF_X11_25 dX11_clear_14 ?_
    refine j_get (ci := 6) C hU_X6 rfl (xin F (by decide)) (xe_4 F _ _) 1 (by decide) rfl hF_X11_111 dX11_clear_17 ?_
    refine j_nmi (fun x3 => ?_)
    refine j_istore_n (lv' := [(1, .int x3), (0, .ref (eAd E 0))]) C dX11_clear_20 (by decide) rfl ?_
    refine j_aload_n C dX11_clear_21 1 rfl ?_
    refine j_get (ci := 11) C hU_X11 rfl (xin F (by decide)) (xe_0 F _ _) 1 (by decide) rfl hF_X11_25 dX11_clear_22 ?_
    refine j_iconst C (0 : Int32) dX11_clear_25 (by decide) ?_
    refine j_put (ci := 6) C hU_X6 tyX6_ok nmX6 rfl (xin F (by decide)) (xe_4 F _ _) 1 (by decide) (Nat.le_of_ble_eq_true rfl) (by rw [wI_o, wI_2]; exact (xe_4 F _ _)) (fun o' h' => ⟨wI_ne _ _ _ h', rfl⟩) rfl (by first | rfl | decide) (by first | rfl | decide) hF_X11_111 dX11_clear_26 (fun σ4 => ?_)
    refine j_iload_n C dX11_clear_29 0 rfl ?_
    exact j_ireti2 C Q dX11_clear_30
  · refine j_bipush C (-3 : Int32) dX11_clear_10 (by decide) ?_
    exact j_ireti2 C Q dX11_clear_12
set_option maxRecDepth 100000 in
set_option maxHeartbeats 4000000 in
theorem c_X11_clear {E : EnvT} {n : Nat} {cs : Nat → ClassId} (F : XF E n cs) {σ : Mem} {r : Int32 × Mem} (h : X11_clear n σ = some r) : CT E yX11_clear cX11_clear 2 (some .int) rm_X11_clear [.ref (eAd E 0)] σ (RQi r.1 r.2) :=
  ct_X F (by decide) (Nat.le_of_ble_eq_true rfl) (fun E' ea F' C Q => by rw [← ea]; exact m_X11_clear F'  C Q h)
theorem dd_X11_clear : yX11_clear.cls ≠ "java/lang/invoke/MethodHandle" ∧ yX11_clear.cls ≠ "java/lang/invoke/VarHandle" ∧ (parseMethodDescriptor yX11_clear.desc).map (fun d => d.parameters.length) = some 0 := by decide +kernel
def X11_stepped (n : Nat) (σ : Mem) (p1 : Int32) (p2 : Int32) : Option (Int32) :=
  bindo (X6_has n σ p1) (fun r2 =>
  if ¬ r2 = (0 : Int32) then
  (bindo (X11_within p2 (0 : Int32) (3 : Int32)) (fun r4 =>
  if ¬ r4 = (0 : Int32) then
  (bindo (X6_cell n σ p1 p2) (fun r6 =>
  some r6))
  else
  (some (-2 : Int32))))
  else
  (some (-1 : Int32)))
abbrev rm_X11_stepped : Room := { frames := 2, cells := 0, slots := 0, locals := 44 }
set_option maxRecDepth 100000 in
set_option maxHeartbeats 4000000 in
theorem m_X11_stepped {E : EnvT} {n : Nat} {cs : Nat → ClassId} (F : XF E n cs) {p1 : Int32} {p2 : Int32} {σ : Mem} (C : CX E cX11_stepped RX11 3 rm_X11_stepped) {r0 : Int32} (Q : QE E 0 0 (some .int) (RQi r0 σ)) : J E 3 0 0 r0 (X11_stepped n σ p1 p2) σ 0 [(0, .ref (eAd E 0)), (1, .int p1), (2, .int p2)] [] := by

  unfold X11_stepped
  refine j_aload_n C dX11_stepped_0 0 rfl ?_
  refine j_get (ci := 11) C hU_X11 rfl (xin F (by decide)) (xe_0 F _ _) 1 (by decide) rfl hF_X11_25 dX11_stepped_1 ?_
  refine j_iload_n C dX11_stepped_4 1 rfl ?_
  refine j_bind (fun r2 h1 => ?_)
  refine j_callVi (ci := 6) C [.int p1] (c_X6_has F h1) hM_X11_146 hI_X6_has hS_X6_has hZ_X6 hC_X6_has (xin F (by decide)) (xe_4 F _ _) rfl rfl dd_X6_has (by decide) ⟨rfl, rfl⟩ (by decide) (Nat.le_of_ble_eq_true rfl) dX11_stepped_5 rfl ?_
  refine j_if_ne C 13 dX11_stepped_8 (by decide) ?_ ?_
  · refine j_iload_n C dX11_stepped_13 2 rfl ?_
    refine j_iconst C (0 : Int32) dX11_stepped_14 (by decide) ?_
    refine j_iconst C (3 : Int32) dX11_stepped_15 (by decide) ?_
    refine j_bind (fun r4 h3 => ?_)
    refine j_callSi C [.int p2, .int (0 : Int32), .int (3 : Int32)] (c_X11_within F h3) hM_X11_86 hT_X11_within hZ_X11 hC_X11_within dd_X11_within (by decide) ⟨rfl, rfl⟩ (by decide) (Nat.le_of_ble_eq_true rfl) dX11_stepped_16 rfl ?_
    refine j_if_ne C 25 dX11_stepped_19 (by decide) ?_ ?_
    · refine j_aload_n C dX11_stepped_25 0 rfl ?_
      refine j_get (ci := 11) C hU_X11 rfl (xin F (by decide)) (xe_0 F _ _) 1 (by decide) rfl hF_X11_25 dX11_stepped_26 ?_
      refine j_iload_n C dX11_stepped_29 1 rfl ?_
      refine j_iload_n C dX11_stepped_30 2 rfl ?_
      refine j_bind (fun r6 h5 => ?_)
      refine j_callVi (ci := 6) C [.int p1, .int p2] (c_X6_cell F h5) hM_X11_150 hI_X6_cell hS_X6_cell hZ_X6 hC_X6_cell (xin F (by decide)) (xe_4 F _ _) rfl rfl dd_X6_cell (by decide) ⟨rfl, rfl⟩ (by decide) (Nat.le_of_ble_eq_true rfl) dX11_stepped_31 rfl ?_
      exact j_ireti C Q dX11_stepped_34
    · refine j_bipush C (-2 : Int32) dX11_stepped_22 (by decide) ?_
      exact j_ireti C Q dX11_stepped_24
  · refine j_iconst C (-1 : Int32) dX11_stepped_11 (by decide) ?_
    exact j_ireti C Q dX11_stepped_12
set_option maxRecDepth 100000 in
set_option maxHeartbeats 4000000 in
theorem c_X11_stepped {E : EnvT} {n : Nat} {cs : Nat → ClassId} (F : XF E n cs) {σ : Mem} {p1 : Int32} {p2 : Int32} {r : Int32} (h : X11_stepped n σ p1 p2 = some r) : CT E yX11_stepped cX11_stepped 3 (some .int) rm_X11_stepped [.ref (eAd E 0), .int p1, .int p2] σ (RQi r σ) :=
  ct_X F (by decide) (Nat.le_of_ble_eq_true rfl) (fun E' ea F' C Q => by rw [← ea]; exact m_X11_stepped F'  C Q h)
theorem dd_X11_stepped : yX11_stepped.cls ≠ "java/lang/invoke/MethodHandle" ∧ yX11_stepped.cls ≠ "java/lang/invoke/VarHandle" ∧ (parseMethodDescriptor yX11_stepped.desc).map (fun d => d.parameters.length) = some 2 := by decide +kernel
def X11_start (n : Nat) (σ : Mem) : Option (Int32 × Mem) :=
  bindo (X8_isOff n σ) (fun r2 =>
  if r2 = (0 : Int32) then
  (some ((-3 : Int32), σ))
  else
  (if ¬ (σ.1 4 1) = (0 : Int32) then
  (bindo (X8_begin n σ) (fun σ4 =>
  some ((1 : Int32), σ4)))
  else
  (some ((-3 : Int32), σ))))
abbrev rm_X11_start : Room := { frames := 2, cells := 0, slots := 0, locals := 42 }
set_option maxRecDepth 100000 in
set_option maxHeartbeats 4000000 in
theorem m_X11_start {E : EnvT} {n : Nat} {cs : Nat → ClassId} (F : XF E n cs) {σ : Mem} (C : CX E cX11_start RX11 1 rm_X11_start) {r0 : Int32 × Mem} (Q : QE E 0 0 (some .int) (RQi r0.1 r0.2)) : J E 1 0 0 r0 (X11_start n σ) σ 0 [(0, .ref (eAd E 0))] [] := by

  unfold X11_start
  refine j_aload_n C dX11_start_0 0 rfl ?_
  refine j_get (ci := 11) C hU_X11 rfl (xin F (by decide)) (xe_0 F _ _) 4 (by decide) rfl hF_X11_50 dX11_start_1 ?_
  refine j_bind (fun r2 h1 => ?_)
  refine j_callVi (ci := 8) C [] (c_X8_isOff F h1) hM_X11_90 hI_X8_isOff hS_X8_isOff hZ_X8 hC_X8_isOff (xin F (by decide)) (xe_20 F _ _) rfl rfl dd_X8_isOff (by decide) ⟨rfl, rfl⟩ (by decide) (Nat.le_of_ble_eq_true rfl) dX11_start_4 rfl ?_
  refine j_if_eq C 20 dX11_start_7 (by decide) ?_ ?_
  · refine j_bipush C (-3 : Int32) dX11_start_20 (by decide) ?_
    exact j_ireti2 C Q dX11_start_22
  · refine j_aload_n C dX11_start_10 0 rfl ?_
    refine j_get (ci := 11) C hU_X11 rfl (xin F (by decide)) (xe_0 F _ _) 1 (by decide) rfl hF_X11_25 dX11_start_11 ?_
    refine j_get (ci := 6) C hU_X6 rfl (xin F (by decide)) (xe_4 F _ _) 1 (by decide) rfl hF_X11_111 dX11_start_14 ?_
    refine j_if_ne C 23 dX11_start_17 (by decide) ?_ ?_
    · refine j_aload_n C dX11_start_23 0 rfl ?_
      refine j_get (ci := 11) C hU_X11 rfl (xin F (by decide)) (xe_0 F _ _) 4 (by decide) rfl hF_X11_50 dX11_start_24 ?_
      refine j_bind (fun σ4 h3 => ?_)
      refine j_callVv (ci := 8) C [] (c_X8_begin F h3) hM_X11_153 hI_X8_begin hS_X8_begin hZ_X8 hC_X8_begin (xin F (by decide)) (xe_20 F _ _) rfl rfl dd_X8_begin (by decide) ⟨rfl, rfl⟩ (by decide) (Nat.le_of_ble_eq_true rfl) dX11_start_27 rfl ?_
      refine j_iconst C (1 : Int32) dX11_start_30 (by decide) ?_
      exact j_ireti2 C Q dX11_start_31
    · refine j_bipush C (-3 : Int32) dX11_start_20 (by decide) ?_
      exact j_ireti2 C Q dX11_start_22
set_option maxRecDepth 100000 in
set_option maxHeartbeats 4000000 in
theorem c_X11_start {E : EnvT} {n : Nat} {cs : Nat → ClassId} (F : XF E n cs) {σ : Mem} {r : Int32 × Mem} (h : X11_start n σ = some r) : CT E yX11_start cX11_start 1 (some .int) rm_X11_start [.ref (eAd E 0)] σ (RQi r.1 r.2) :=
  ct_X F (by decide) (Nat.le_of_ble_eq_true rfl) (fun E' ea F' C Q => by rw [← ea]; exact m_X11_start F'  C Q h)
theorem dd_X11_start : yX11_start.cls ≠ "java/lang/invoke/MethodHandle" ∧ yX11_start.cls ≠ "java/lang/invoke/VarHandle" ∧ (parseMethodDescriptor yX11_start.desc).map (fun d => d.parameters.length) = some 0 := by decide +kernel
def X11_tick_l29 (n : Nat) (rec29 : (Mem × Int32 × Int32) → Option (Int32 × Mem)) (σ : Mem) (v1 : Int32) (v2 : Int32) : Option (Int32 × Mem) :=
  if v1 ≤ v2 then
  (some (v2, σ))
  else
  (bindo (X8_isGoing n σ) (fun r2 =>
  if r2 = (0 : Int32) then
  (some (v2, σ))
  else
  (if (3000 : Int32) ≤ (σ.1 1 3) then
  (some (v2, σ))
  else
  (bindo (X8_oneTick n σ) (fun σ4 =>
  lete (v2 + (1 : Int32)) (fun x5 =>
  rec29 (σ4, v1, x5)))))))
def X11_tick (n : Nat) (σ : Mem) (p1 : Int32) : Option (Int32 × Mem) :=
  bindo (X11_within p1 (0 : Int32) (1000 : Int32)) (fun r2 =>
  if ¬ r2 = (0 : Int32) then
  (bindo (X8_isOff n σ) (fun r4 =>
  if r4 = (0 : Int32) then
  (loopF (fun (rec : (Mem × Int32 × Int32) → Option (Int32 × Mem)) (s : Mem × Int32 × Int32) => X11_tick_l29 n rec s.1 s.2.1 s.2.2)  FU (σ, p1, (0 : Int32)))
  else
  (some ((-3 : Int32), σ))))
  else
  (some ((-2 : Int32), σ)))
abbrev rm_X11_tick : Room := { frames := 6, cells := 0, slots := 0, locals := 136 }
set_option maxRecDepth 100000 in
set_option maxHeartbeats 4000000 in
theorem m_X11_tick {E : EnvT} {n : Nat} {cs : Nat → ClassId} (F : XF E n cs) {p1 : Int32} {σ : Mem} (C : CX E cX11_tick RX11 3 rm_X11_tick) {r0 : Int32 × Mem} (Q : QE E 0 0 (some .int) (RQi r0.1 r0.2)) : J E 3 0 0 r0 (X11_tick n σ p1) σ 0 [(0, .ref (eAd E 0)), (1, .int p1)] [] := by
  have hL29 : ∀ (f : Nat) (a : Mem × Int32 × Int32), J E 3 0 0 r0 (loopF (fun (rec : (Mem × Int32 × Int32) → Option (Int32 × Mem)) (s : Mem × Int32 × Int32) => X11_tick_l29 n rec s.1 s.2.1 s.2.2) f a) a.1 29 [(0, .ref (eAd E 0)), (1, .int a.2.1), (2, .int a.2.2)] [] := by
    refine j_loop (M := fun (a : Mem × Int32 × Int32) => a.1) (L := fun (a : Mem × Int32 × Int32) => [(0, .ref (eAd E 0)), (1, .int a.2.1), (2, .int a.2.2)]) (S := fun (a : Mem × Int32 × Int32) => []) (fun rec29 hrec29 a => ?_)
    obtain ⟨σ, v1, v2⟩ := a
    show J E 3 0 0 r0 (X11_tick_l29 n rec29 σ v1 v2) σ 29 [(0, .ref (eAd E 0)), (1, .int v1), (2, .int v2)] []
    unfold X11_tick_l29
    refine j_iload_n C dX11_tick_29 2 rfl ?_
    refine j_iload_n C dX11_tick_30 1 rfl ?_
    refine j_icmp_ge C 70 dX11_tick_31 (by decide) ?_ ?_
    · refine j_iload_n C dX11_tick_70 2 rfl ?_
      exact j_ireti2 C Q dX11_tick_71
    · refine j_aload_n C dX11_tick_34 0 rfl ?_
      refine j_get (ci := 11) C hU_X11 rfl (xin F (by decide)) (xe_0 F _ _) 4 (by decide) rfl hF_X11_50 dX11_tick_35 ?_
      refine j_bind (fun r2 h1 => ?_)
      refine j_callVi (ci := 8) C [] (c_X8_isGoing F h1) hM_X11_156 hI_X8_isGoing hS_X8_isGoing hZ_X8 hC_X8_isGoing (xin F (by decide)) (xe_20 F _ _) rfl rfl dd_X8_isGoing (by decide) ⟨rfl, rfl⟩ (by decide) (Nat.le_of_ble_eq_true rfl) dX11_tick_38 rfl ?_
      refine j_if_eq C 70 dX11_tick_41 (by decide) ?_ ?_
      · refine j_iload_n C dX11_tick_70 2 rfl ?_
        exact j_ireti2 C Q dX11_tick_71
      · refine j_aload_n C dX11_tick_44 0 rfl ?_
        refine j_get (ci := 11) C hU_X11 rfl (xin F (by decide)) (xe_0 F _ _) 0 (by decide) rfl hF_X11_18 dX11_tick_45 ?_
        refine j_get (ci := 3) C hU_X3 rfl (xin F (by decide)) (xe_1 F _ _) 3 (by decide) rfl hF_X11_159 dX11_tick_48 ?_
        refine j_sipush C (3000 : Int32) dX11_tick_51 (by decide) ?_
        refine j_icmp_ge C 70 dX11_tick_54 (by decide) ?_ ?_
        · refine j_iload_n C dX11_tick_70 2 rfl ?_
          exact j_ireti2 C Q dX11_tick_71
        · refine j_aload_n C dX11_tick_57 0 rfl ?_
          refine j_get (ci := 11) C hU_X11 rfl (xin F (by decide)) (xe_0 F _ _) 4 (by decide) rfl hF_X11_50 dX11_tick_58 ?_
          refine j_bind (fun σ4 h3 => ?_)
          refine j_callVv (ci := 8) C [] (c_X8_oneTick F h3) hM_X11_162 hI_X8_oneTick hS_X8_oneTick hZ_X8 hC_X8_oneTick (xin F (by decide)) (xe_20 F _ _) rfl rfl dd_X8_oneTick (by decide) ⟨rfl, rfl⟩ (by decide) (Nat.le_of_ble_eq_true rfl) dX11_tick_61 rfl ?_
          refine j_iincN (lf := fun x5 => [(2, .int x5), (0, .ref (eAd E 0)), (1, .int v1)]) C dX11_tick_64 2 rfl (by rfl) (by decide) (fun _ => rfl) (fun x5 => ?_)
          refine j_goto C 29 dX11_tick_67 (by decide) ?_
          refine j_lv [(0, .ref (eAd E 0)), (1, .int v1), (2, .int x5)] [1, 2, 0] rfl ?_
          exact hrec29 (σ4, v1, x5)
  unfold X11_tick
  refine j_iload_n C dX11_tick_0 1 rfl ?_
  refine j_iconst C (0 : Int32) dX11_tick_1 (by decide) ?_
  refine j_sipush C (1000 : Int32) dX11_tick_2 (by decide) ?_
  refine j_bind (fun r2 h1 => ?_)
  refine j_callSi C [.int p1, .int (0 : Int32), .int (1000 : Int32)] (c_X11_within F h1) hM_X11_86 hT_X11_within hZ_X11 hC_X11_within dd_X11_within (by decide) ⟨rfl, rfl⟩ (by decide) (Nat.le_of_ble_eq_true rfl) dX11_tick_5 rfl ?_
  refine j_if_ne C 14 dX11_tick_8 (by decide) ?_ ?_
  · refine j_aload_n C dX11_tick_14 0 rfl ?_
    refine j_get (ci := 11) C hU_X11 rfl (xin F (by decide)) (xe_0 F _ _) 4 (by decide) rfl hF_X11_50 dX11_tick_15 ?_
    refine j_bind (fun r4 h3 => ?_)
    refine j_callVi (ci := 8) C [] (c_X8_isOff F h3) hM_X11_90 hI_X8_isOff hS_X8_isOff hZ_X8 hC_X8_isOff (xin F (by decide)) (xe_20 F _ _) rfl rfl dd_X8_isOff (by decide) ⟨rfl, rfl⟩ (by decide) (Nat.le_of_ble_eq_true rfl) dX11_tick_18 rfl ?_
    refine j_if_eq C 27 dX11_tick_21 (by decide) ?_ ?_
    · refine j_iconst C (0 : Int32) dX11_tick_27 (by decide) ?_
      refine j_istore_n (lv' := [(2, .int (0 : Int32)), (0, .ref (eAd E 0)), (1, .int p1)]) C dX11_tick_28 (by decide) rfl ?_
      refine j_lv [(0, .ref (eAd E 0)), (1, .int p1), (2, .int (0 : Int32))] [1, 2, 0] rfl ?_
      exact hL29  FU (σ, p1, (0 : Int32))
    · refine j_bipush C (-3 : Int32) dX11_tick_24 (by decide) ?_
      exact j_ireti2 C Q dX11_tick_26
  · refine j_bipush C (-2 : Int32) dX11_tick_11 (by decide) ?_
    exact j_ireti2 C Q dX11_tick_13
set_option maxRecDepth 100000 in
set_option maxHeartbeats 4000000 in
theorem c_X11_tick {E : EnvT} {n : Nat} {cs : Nat → ClassId} (F : XF E n cs) {σ : Mem} {p1 : Int32} {r : Int32 × Mem} (h : X11_tick n σ p1 = some r) : CT E yX11_tick cX11_tick 3 (some .int) rm_X11_tick [.ref (eAd E 0), .int p1] σ (RQi r.1 r.2) :=
  ct_X F (by decide) (Nat.le_of_ble_eq_true rfl) (fun E' ea F' C Q => by rw [← ea]; exact m_X11_tick F'  C Q h)
theorem dd_X11_tick : yX11_tick.cls ≠ "java/lang/invoke/MethodHandle" ∧ yX11_tick.cls ≠ "java/lang/invoke/VarHandle" ∧ (parseMethodDescriptor yX11_tick.desc).map (fun d => d.parameters.length) = some 1 := by decide +kernel
def X11_stop (n : Nat) (σ : Mem) : Option (Int32 × Mem) :=
  if (σ.1 20 5) = (1 : Int32) then
  (bindo (X8_halt n σ (4 : Int32)) (fun σ2 =>
  some ((1 : Int32), σ2)))
  else
  (some ((-3 : Int32), σ))
abbrev rm_X11_stop : Room := { frames := 1, cells := 0, slots := 0, locals := 21 }
set_option maxRecDepth 100000 in
set_option maxHeartbeats 4000000 in
theorem m_X11_stop {E : EnvT} {n : Nat} {cs : Nat → ClassId} (F : XF E n cs) {σ : Mem} (C : CX E cX11_stop RX11 1 rm_X11_stop) {r0 : Int32 × Mem} (Q : QE E 0 0 (some .int) (RQi r0.1 r0.2)) : J E 1 0 0 r0 (X11_stop n σ) σ 0 [(0, .ref (eAd E 0))] [] := by

  unfold X11_stop
  refine j_aload_n C dX11_stop_0 0 rfl ?_
  refine j_get (ci := 11) C hU_X11 rfl (xin F (by decide)) (xe_0 F _ _) 4 (by decide) rfl hF_X11_50 dX11_stop_1 ?_
  refine j_get (ci := 8) C hU_X8 rfl (xin F (by decide)) (xe_20 F _ _) 5 (by decide) rfl hF_X11_165 dX11_stop_4 ?_
  refine j_iconst C (1 : Int32) dX11_stop_7 (by decide) ?_
  refine j_icmp_eq C 14 dX11_stop_8 (by decide) ?_ ?_
  · refine j_aload_n C dX11_stop_14 0 rfl ?_
    refine j_get (ci := 11) C hU_X11 rfl (xin F (by decide)) (xe_0 F _ _) 4 (by decide) rfl hF_X11_50 dX11_stop_15 ?_
    refine j_iconst C (4 : Int32) dX11_stop_18 (by decide) ?_
    refine j_bind (fun σ2 h1 => ?_)
    refine j_callVv (ci := 8) C [.int (4 : Int32)] (c_X8_halt F h1) hM_X11_168 hI_X8_halt hS_X8_halt hZ_X8 hC_X8_halt (xin F (by decide)) (xe_20 F _ _) rfl rfl dd_X8_halt (by decide) ⟨rfl, rfl⟩ (by decide) (Nat.le_of_ble_eq_true rfl) dX11_stop_19 rfl ?_
    refine j_iconst C (1 : Int32) dX11_stop_22 (by decide) ?_
    exact j_ireti2 C Q dX11_stop_23
  · refine j_bipush C (-3 : Int32) dX11_stop_11 (by decide) ?_
    exact j_ireti2 C Q dX11_stop_13
set_option maxRecDepth 100000 in
set_option maxHeartbeats 4000000 in
theorem c_X11_stop {E : EnvT} {n : Nat} {cs : Nat → ClassId} (F : XF E n cs) {σ : Mem} {r : Int32 × Mem} (h : X11_stop n σ = some r) : CT E yX11_stop cX11_stop 1 (some .int) rm_X11_stop [.ref (eAd E 0)] σ (RQi r.1 r.2) :=
  ct_X F (by decide) (Nat.le_of_ble_eq_true rfl) (fun E' ea F' C Q => by rw [← ea]; exact m_X11_stop F'  C Q h)
theorem dd_X11_stop : yX11_stop.cls ≠ "java/lang/invoke/MethodHandle" ∧ yX11_stop.cls ≠ "java/lang/invoke/VarHandle" ∧ (parseMethodDescriptor yX11_stop.desc).map (fun d => d.parameters.length) = some 0 := by decide +kernel
def X11_reset (n : Nat) (σ : Mem) : Option (Int32 × Mem) :=
  bindo (X8_isGoing n σ) (fun r2 =>
  if r2 = (0 : Int32) then
  (lete (σ.1 1 3) (fun x3 =>
  lete (wI σ 1 3 (0 : Int32)) (fun σ4 =>
  lete (wI σ4 18 1 (0 : Int32)) (fun σ5 =>
  bindo (X8_rest n σ5) (fun σ7 =>
  some (x3, σ7))))))
  else
  (some ((-3 : Int32), σ)))
abbrev rm_X11_reset : Room := { frames := 2, cells := 0, slots := 0, locals := 41 }
set_option maxRecDepth 100000 in
set_option maxHeartbeats 4000000 in
theorem m_X11_reset {E : EnvT} {n : Nat} {cs : Nat → ClassId} (F : XF E n cs) {σ : Mem} (C : CX E cX11_reset RX11 2 rm_X11_reset) {r0 : Int32 × Mem} (Q : QE E 0 0 (some .int) (RQi r0.1 r0.2)) : J E 2 0 0 r0 (X11_reset n σ) σ 0 [(0, .ref (eAd E 0))] [] := by

  unfold X11_reset
  refine j_aload_n C dX11_reset_0 0 rfl ?_
  refine j_get (ci := 11) C hU_X11 rfl (xin F (by decide)) (xe_0 F _ _) 4 (by decide) rfl hF_X11_50 dX11_reset_1 ?_
  refine j_bind (fun r2 h1 => ?_)
  refine j_callVi (ci := 8) C [] (c_X8_isGoing F h1) hM_X11_156 hI_X8_isGoing hS_X8_isGoing hZ_X8 hC_X8_isGoing (xin F (by decide)) (xe_20 F _ _) rfl rfl dd_X8_isGoing (by decide) ⟨rfl, rfl⟩ (by decide) (Nat.le_of_ble_eq_true rfl) dX11_reset_4 rfl ?_
  refine j_if_eq C 13 dX11_reset_7 (by decide) ?_ ?_
  · refine j_aload_n C dX11_reset_13 0 rfl ?_
    refine j_get (ci := 11) C hU_X11 rfl (xin F (by decide)) (xe_0 F _ _) 0 (by decide) rfl hF_X11_18 dX11_reset_14 ?_
    refine j_get (ci := 3) C hU_X3 rfl (xin F (by decide)) (xe_1 F _ _) 3 (by decide) rfl hF_X11_159 dX11_reset_17 ?_
    refine j_nmi (fun x3 => ?_)
    refine j_istore_n (lv' := [(1, .int x3), (0, .ref (eAd E 0))]) C dX11_reset_20 (by decide) rfl ?_
    refine j_aload_n C dX11_reset_21 1 rfl ?_
    refine j_get (ci := 11) C hU_X11 rfl (xin F (by decide)) (xe_0 F _ _) 0 (by decide) rfl hF_X11_18 dX11_reset_22 ?_
    refine j_iconst C (0 : Int32) dX11_reset_25 (by decide) ?_
    refine j_put (ci := 3) C hU_X3 tyX3_ok nmX3 rfl (xin F (by decide)) (xe_1 F _ _) 3 (by decide) (Nat.le_of_ble_eq_true rfl) (by rw [wI_o, wI_2]; exact (xe_1 F _ _)) (fun o' h' => ⟨wI_ne _ _ _ h', rfl⟩) rfl (by first | rfl | decide) (by first | rfl | decide) hF_X11_159 dX11_reset_26 (fun σ4 => ?_)
    refine j_aload_n C dX11_reset_29 1 rfl ?_
    refine j_get (ci := 11) C hU_X11 rfl (xin F (by decide)) (xe_0 F _ _) 3 (by decide) rfl hF_X11_41 dX11_reset_30 ?_
    refine j_iconst C (0 : Int32) dX11_reset_33 (by decide) ?_
    refine j_put (ci := 5) C hU_X5 tyX5_ok nmX5 rfl (xin F (by decide)) (xe_18 F _ _) 1 (by decide) (Nat.le_of_ble_eq_true rfl) (by rw [wI_o, wI_2]; exact (xe_18 F _ _)) (fun o' h' => ⟨wI_ne _ _ _ h', rfl⟩) rfl (by first | rfl | decide) (by first | rfl | decide) hF_X11_172 dX11_reset_34 (fun σ5 => ?_)
    refine j_aload_n C dX11_reset_37 1 rfl ?_
    refine j_get (ci := 11) C hU_X11 rfl (xin F (by decide)) (xe_0 F _ _) 4 (by decide) rfl hF_X11_50 dX11_reset_38 ?_
    refine j_bind (fun σ7 h6 => ?_)
    refine j_callVv (ci := 8) C [] (c_X8_rest F h6) hM_X11_173 hI_X8_rest hS_X8_rest hZ_X8 hC_X8_rest (xin F (by decide)) (xe_20 F _ _) rfl rfl dd_X8_rest (by decide) ⟨rfl, rfl⟩ (by decide) (Nat.le_of_ble_eq_true rfl) dX11_reset_41 rfl ?_
    refine j_iload_n C dX11_reset_44 0 rfl ?_
    exact j_ireti2 C Q dX11_reset_45
  · refine j_bipush C (-3 : Int32) dX11_reset_10 (by decide) ?_
    exact j_ireti2 C Q dX11_reset_12
set_option maxRecDepth 100000 in
set_option maxHeartbeats 4000000 in
theorem c_X11_reset {E : EnvT} {n : Nat} {cs : Nat → ClassId} (F : XF E n cs) {σ : Mem} {r : Int32 × Mem} (h : X11_reset n σ = some r) : CT E yX11_reset cX11_reset 2 (some .int) rm_X11_reset [.ref (eAd E 0)] σ (RQi r.1 r.2) :=
  ct_X F (by decide) (Nat.le_of_ble_eq_true rfl) (fun E' ea F' C Q => by rw [← ea]; exact m_X11_reset F'  C Q h)
theorem dd_X11_reset : yX11_reset.cls ≠ "java/lang/invoke/MethodHandle" ∧ yX11_reset.cls ≠ "java/lang/invoke/VarHandle" ∧ (parseMethodDescriptor yX11_reset.desc).map (fun d => d.parameters.length) = some 0 := by decide +kernel
def X11_told (n : Nat) (σ : Mem) (p1 : Int32) : Option (Int32) :=
  if p1 = (0 : Int32) then
  (some (σ.1 20 5))
  else
  if p1 = (1 : Int32) then
  (some (σ.1 1 3))
  else
  if p1 = (2 : Int32) then
  (some (σ.1 20 6))
  else
  if p1 = (3 : Int32) then
  (some (σ.1 20 7))
  else
  if p1 = (4 : Int32) then
  (some (σ.1 20 8))
  else
  if p1 = (5 : Int32) then
  (some (σ.1 18 1))
  else
  if p1 = (6 : Int32) then
  (some (σ.1 4 1))
  else
  if p1 = (7 : Int32) then
  (some (σ.1 6 4))
  else
  if p1 = (8 : Int32) then
  (some (σ.1 13 4))
  else
  if p1 = (9 : Int32) then
  (some (σ.1 1 2))
  else
  (some (-2 : Int32))
abbrev rm_X11_told : Room := { frames := 0, cells := 0, slots := 0, locals := 0 }
set_option maxRecDepth 100000 in
set_option maxHeartbeats 4000000 in
theorem m_X11_told {E : EnvT} {n : Nat} {cs : Nat → ClassId} (F : XF E n cs) {p1 : Int32} {σ : Mem} (C : CX E cX11_told RX11 2 rm_X11_told) {r0 : Int32} (Q : QE E 0 0 (some .int) (RQi r0 σ)) : J E 2 0 0 r0 (X11_told n σ p1) σ 0 [(0, .ref (eAd E 0)), (1, .int p1)] [] := by

  unfold X11_told
  refine j_iload_n C dX11_told_0 1 rfl ?_
  refine j_ite (fun q0 => ?_) (fun q0 => ?_)
  · refine j_tsIn C (0 : Int32) 56 dX11_told_1 q0 (by decide) (by decide) rfl (by decide) ?_
    refine j_aload_n C dX11_told_56 0 rfl ?_
    refine j_get (ci := 11) C hU_X11 rfl (xin F (by decide)) (xe_0 F _ _) 4 (by decide) rfl hF_X11_50 dX11_told_57 ?_
    refine j_get (ci := 8) C hU_X8 rfl (xin F (by decide)) (xe_20 F _ _) 5 (by decide) rfl hF_X11_165 dX11_told_60 ?_
    exact j_ireti C Q dX11_told_63
  refine j_ite (fun q1 => ?_) (fun q1 => ?_)
  · refine j_tsIn C (1 : Int32) 64 dX11_told_1 q1 (by decide) (by decide) rfl (by decide) ?_
    refine j_aload_n C dX11_told_64 0 rfl ?_
    refine j_get (ci := 11) C hU_X11 rfl (xin F (by decide)) (xe_0 F _ _) 0 (by decide) rfl hF_X11_18 dX11_told_65 ?_
    refine j_get (ci := 3) C hU_X3 rfl (xin F (by decide)) (xe_1 F _ _) 3 (by decide) rfl hF_X11_159 dX11_told_68 ?_
    exact j_ireti C Q dX11_told_71
  refine j_ite (fun q2 => ?_) (fun q2 => ?_)
  · refine j_tsIn C (2 : Int32) 72 dX11_told_1 q2 (by decide) (by decide) rfl (by decide) ?_
    refine j_aload_n C dX11_told_72 0 rfl ?_
    refine j_get (ci := 11) C hU_X11 rfl (xin F (by decide)) (xe_0 F _ _) 4 (by decide) rfl hF_X11_50 dX11_told_73 ?_
    refine j_get (ci := 8) C hU_X8 rfl (xin F (by decide)) (xe_20 F _ _) 6 (by decide) rfl hF_X11_176 dX11_told_76 ?_
    exact j_ireti C Q dX11_told_79
  refine j_ite (fun q3 => ?_) (fun q3 => ?_)
  · refine j_tsIn C (3 : Int32) 80 dX11_told_1 q3 (by decide) (by decide) rfl (by decide) ?_
    refine j_aload_n C dX11_told_80 0 rfl ?_
    refine j_get (ci := 11) C hU_X11 rfl (xin F (by decide)) (xe_0 F _ _) 4 (by decide) rfl hF_X11_50 dX11_told_81 ?_
    refine j_get (ci := 8) C hU_X8 rfl (xin F (by decide)) (xe_20 F _ _) 7 (by decide) rfl hF_X11_179 dX11_told_84 ?_
    exact j_ireti C Q dX11_told_87
  refine j_ite (fun q4 => ?_) (fun q4 => ?_)
  · refine j_tsIn C (4 : Int32) 88 dX11_told_1 q4 (by decide) (by decide) rfl (by decide) ?_
    refine j_aload_n C dX11_told_88 0 rfl ?_
    refine j_get (ci := 11) C hU_X11 rfl (xin F (by decide)) (xe_0 F _ _) 4 (by decide) rfl hF_X11_50 dX11_told_89 ?_
    refine j_get (ci := 8) C hU_X8 rfl (xin F (by decide)) (xe_20 F _ _) 8 (by decide) rfl hF_X11_182 dX11_told_92 ?_
    exact j_ireti C Q dX11_told_95
  refine j_ite (fun q5 => ?_) (fun q5 => ?_)
  · refine j_tsIn C (5 : Int32) 96 dX11_told_1 q5 (by decide) (by decide) rfl (by decide) ?_
    refine j_aload_n C dX11_told_96 0 rfl ?_
    refine j_get (ci := 11) C hU_X11 rfl (xin F (by decide)) (xe_0 F _ _) 3 (by decide) rfl hF_X11_41 dX11_told_97 ?_
    refine j_get (ci := 5) C hU_X5 rfl (xin F (by decide)) (xe_18 F _ _) 1 (by decide) rfl hF_X11_172 dX11_told_100 ?_
    exact j_ireti C Q dX11_told_103
  refine j_ite (fun q6 => ?_) (fun q6 => ?_)
  · refine j_tsIn C (6 : Int32) 104 dX11_told_1 q6 (by decide) (by decide) rfl (by decide) ?_
    refine j_aload_n C dX11_told_104 0 rfl ?_
    refine j_get (ci := 11) C hU_X11 rfl (xin F (by decide)) (xe_0 F _ _) 1 (by decide) rfl hF_X11_25 dX11_told_105 ?_
    refine j_get (ci := 6) C hU_X6 rfl (xin F (by decide)) (xe_4 F _ _) 1 (by decide) rfl hF_X11_111 dX11_told_108 ?_
    exact j_ireti C Q dX11_told_111
  refine j_ite (fun q7 => ?_) (fun q7 => ?_)
  · refine j_tsIn C (7 : Int32) 112 dX11_told_1 q7 (by decide) (by decide) rfl (by decide) ?_
    refine j_aload_n C dX11_told_112 0 rfl ?_
    refine j_get (ci := 11) C hU_X11 rfl (xin F (by decide)) (xe_0 F _ _) 2 (by decide) rfl hF_X11_34 dX11_told_113 ?_
    refine j_get (ci := 2) C hU_X2 rfl (xin F (by decide)) (xe_6 F _ _) 4 (by decide) rfl hF_X11_185 dX11_told_116 ?_
    exact j_ireti C Q dX11_told_119
  refine j_ite (fun q8 => ?_) (fun q8 => ?_)
  · refine j_tsIn C (8 : Int32) 120 dX11_told_1 q8 (by decide) (by decide) rfl (by decide) ?_
    refine j_aload_n C dX11_told_120 0 rfl ?_
    refine j_get (ci := 11) C hU_X11 rfl (xin F (by decide)) (xe_0 F _ _) 2 (by decide) rfl hF_X11_34 dX11_told_121 ?_
    refine j_get (ci := 2) C hU_X2 rfl (xin F (by decide)) (xe_6 F _ _) 3 (by decide) rfl hF_X11_186 dX11_told_124 ?_
    refine j_get (ci := 10) C hU_X10 rfl (xin F (by decide)) (xe_13 F _ _) 4 (by decide) rfl hF_X11_190 dX11_told_127 ?_
    exact j_ireti C Q dX11_told_130
  refine j_ite (fun q9 => ?_) (fun q9 => ?_)
  · refine j_tsIn C (9 : Int32) 131 dX11_told_1 q9 (by decide) (by decide) rfl (by decide) ?_
    refine j_aload_n C dX11_told_131 0 rfl ?_
    refine j_get (ci := 11) C hU_X11 rfl (xin F (by decide)) (xe_0 F _ _) 0 (by decide) rfl hF_X11_18 dX11_told_132 ?_
    refine j_get (ci := 3) C hU_X3 rfl (xin F (by decide)) (xe_1 F _ _) 2 (by decide) rfl hF_X11_108 dX11_told_135 ?_
    exact j_ireti C Q dX11_told_138
  refine j_tsOut C 139 dX11_told_1 (by have z0 := lv_neT (k := (0 : Int32)) (a := 0) q0 (by decide); have z1 := lv_neT (k := (1 : Int32)) (a := 1) q1 (by decide); have z2 := lv_neT (k := (2 : Int32)) (a := 2) q2 (by decide); have z3 := lv_neT (k := (3 : Int32)) (a := 3) q3 (by decide); have z4 := lv_neT (k := (4 : Int32)) (a := 4) q4 (by decide); have z5 := lv_neT (k := (5 : Int32)) (a := 5) q5 (by decide); have z6 := lv_neT (k := (6 : Int32)) (a := 6) q6 (by decide); have z7 := lv_neT (k := (7 : Int32)) (a := 7) q7 (by decide); have z8 := lv_neT (k := (8 : Int32)) (a := 8) q8 (by decide); have z9 := lv_neT (k := (9 : Int32)) (a := 9) q9 (by decide); omega) (by decide) ?_
  refine j_bipush C (-2 : Int32) dX11_told_139 (by decide) ?_
  exact j_ireti C Q dX11_told_141
set_option maxRecDepth 100000 in
set_option maxHeartbeats 4000000 in
theorem c_X11_told {E : EnvT} {n : Nat} {cs : Nat → ClassId} (F : XF E n cs) {σ : Mem} {p1 : Int32} {r : Int32} (h : X11_told n σ p1 = some r) : CT E yX11_told cX11_told 2 (some .int) rm_X11_told [.ref (eAd E 0), .int p1] σ (RQi r σ) :=
  ct_X F (by decide) (Nat.le_of_ble_eq_true rfl) (fun E' ea F' C Q => by rw [← ea]; exact m_X11_told F'  C Q h)
theorem dd_X11_told : yX11_told.cls ≠ "java/lang/invoke/MethodHandle" ∧ yX11_told.cls ≠ "java/lang/invoke/VarHandle" ∧ (parseMethodDescriptor yX11_told.desc).map (fun d => d.parameters.length) = some 1 := by decide +kernel
def X11_was (n : Nat) (σ : Mem) (p1 : Int32) (p2 : Int32) : Option (Int32) :=
  bindo (X11_within p1 (0 : Int32) (σ.1 1 3)) (fun r2 =>
  if ¬ r2 = (0 : Int32) then
  (bindo (X11_within p2 (0 : Int32) (6 : Int32)) (fun r4 =>
  if ¬ r4 = (0 : Int32) then
  (bindo (X3_part n σ p1 p2) (fun r6 =>
  some r6))
  else
  (some (-2 : Int32))))
  else
  (some (-1 : Int32)))
abbrev rm_X11_was : Room := { frames := 2, cells := 0, slots := 0, locals := 44 }
set_option maxRecDepth 100000 in
set_option maxHeartbeats 4000000 in
theorem m_X11_was {E : EnvT} {n : Nat} {cs : Nat → ClassId} (F : XF E n cs) {p1 : Int32} {p2 : Int32} {σ : Mem} (C : CX E cX11_was RX11 3 rm_X11_was) {r0 : Int32} (Q : QE E 0 0 (some .int) (RQi r0 σ)) : J E 3 0 0 r0 (X11_was n σ p1 p2) σ 0 [(0, .ref (eAd E 0)), (1, .int p1), (2, .int p2)] [] := by

  unfold X11_was
  refine j_iload_n C dX11_was_0 1 rfl ?_
  refine j_iconst C (0 : Int32) dX11_was_1 (by decide) ?_
  refine j_aload_n C dX11_was_2 0 rfl ?_
  refine j_get (ci := 11) C hU_X11 rfl (xin F (by decide)) (xe_0 F _ _) 0 (by decide) rfl hF_X11_18 dX11_was_3 ?_
  refine j_get (ci := 3) C hU_X3 rfl (xin F (by decide)) (xe_1 F _ _) 3 (by decide) rfl hF_X11_159 dX11_was_6 ?_
  refine j_bind (fun r2 h1 => ?_)
  refine j_callSi C [.int p1, .int (0 : Int32), .int (σ.1 1 3)] (c_X11_within F h1) hM_X11_86 hT_X11_within hZ_X11 hC_X11_within dd_X11_within (by decide) ⟨rfl, rfl⟩ (by decide) (Nat.le_of_ble_eq_true rfl) dX11_was_9 rfl ?_
  refine j_if_ne C 17 dX11_was_12 (by decide) ?_ ?_
  · refine j_iload_n C dX11_was_17 2 rfl ?_
    refine j_iconst C (0 : Int32) dX11_was_18 (by decide) ?_
    refine j_bipush C (6 : Int32) dX11_was_19 (by decide) ?_
    refine j_bind (fun r4 h3 => ?_)
    refine j_callSi C [.int p2, .int (0 : Int32), .int (6 : Int32)] (c_X11_within F h3) hM_X11_86 hT_X11_within hZ_X11 hC_X11_within dd_X11_within (by decide) ⟨rfl, rfl⟩ (by decide) (Nat.le_of_ble_eq_true rfl) dX11_was_21 rfl ?_
    refine j_if_ne C 30 dX11_was_24 (by decide) ?_ ?_
    · refine j_aload_n C dX11_was_30 0 rfl ?_
      refine j_get (ci := 11) C hU_X11 rfl (xin F (by decide)) (xe_0 F _ _) 0 (by decide) rfl hF_X11_18 dX11_was_31 ?_
      refine j_iload_n C dX11_was_34 1 rfl ?_
      refine j_iload_n C dX11_was_35 2 rfl ?_
      refine j_bind (fun r6 h5 => ?_)
      refine j_callVi (ci := 3) C [.int p1, .int p2] (c_X3_part F h5) hM_X11_193 hI_X3_part hS_X3_part hZ_X3 hC_X3_part (xin F (by decide)) (xe_1 F _ _) rfl rfl dd_X3_part (by decide) ⟨rfl, rfl⟩ (by decide) (Nat.le_of_ble_eq_true rfl) dX11_was_36 rfl ?_
      exact j_ireti C Q dX11_was_39
    · refine j_bipush C (-2 : Int32) dX11_was_27 (by decide) ?_
      exact j_ireti C Q dX11_was_29
  · refine j_iconst C (-1 : Int32) dX11_was_15 (by decide) ?_
    exact j_ireti C Q dX11_was_16
set_option maxRecDepth 100000 in
set_option maxHeartbeats 4000000 in
theorem c_X11_was {E : EnvT} {n : Nat} {cs : Nat → ClassId} (F : XF E n cs) {σ : Mem} {p1 : Int32} {p2 : Int32} {r : Int32} (h : X11_was n σ p1 p2 = some r) : CT E yX11_was cX11_was 3 (some .int) rm_X11_was [.ref (eAd E 0), .int p1, .int p2] σ (RQi r σ) :=
  ct_X F (by decide) (Nat.le_of_ble_eq_true rfl) (fun E' ea F' C Q => by rw [← ea]; exact m_X11_was F'  C Q h)
theorem dd_X11_was : yX11_was.cls ≠ "java/lang/invoke/MethodHandle" ∧ yX11_was.cls ≠ "java/lang/invoke/VarHandle" ∧ (parseMethodDescriptor yX11_was.desc).map (fun d => d.parameters.length) = some 2 := by decide +kernel
def X11_mark (n : Nat) (σ : Mem) (p1 : Int32) : Option (Int32) :=
  bindo (X5_has n σ p1) (fun r2 =>
  if r2 = (0 : Int32) then
  (some (-1 : Int32))
  else
  (bindo (X5_first n σ p1) (fun r4 =>
  some r4)))
abbrev rm_X11_mark : Room := { frames := 2, cells := 0, slots := 0, locals := 43 }
set_option maxRecDepth 100000 in
set_option maxHeartbeats 4000000 in
theorem m_X11_mark {E : EnvT} {n : Nat} {cs : Nat → ClassId} (F : XF E n cs) {p1 : Int32} {σ : Mem} (C : CX E cX11_mark RX11 2 rm_X11_mark) {r0 : Int32} (Q : QE E 0 0 (some .int) (RQi r0 σ)) : J E 2 0 0 r0 (X11_mark n σ p1) σ 0 [(0, .ref (eAd E 0)), (1, .int p1)] [] := by

  unfold X11_mark
  refine j_aload_n C dX11_mark_0 0 rfl ?_
  refine j_get (ci := 11) C hU_X11 rfl (xin F (by decide)) (xe_0 F _ _) 3 (by decide) rfl hF_X11_41 dX11_mark_1 ?_
  refine j_iload_n C dX11_mark_4 1 rfl ?_
  refine j_bind (fun r2 h1 => ?_)
  refine j_callVi (ci := 5) C [.int p1] (c_X5_has F h1) hM_X11_196 hI_X5_has hS_X5_has hZ_X5 hC_X5_has (xin F (by decide)) (xe_18 F _ _) rfl rfl dd_X5_has (by decide) ⟨rfl, rfl⟩ (by decide) (Nat.le_of_ble_eq_true rfl) dX11_mark_5 rfl ?_
  refine j_if_eq C 22 dX11_mark_8 (by decide) ?_ ?_
  · refine j_iconst C (-1 : Int32) dX11_mark_22 (by decide) ?_
    exact j_ireti C Q dX11_mark_23
  · refine j_aload_n C dX11_mark_11 0 rfl ?_
    refine j_get (ci := 11) C hU_X11 rfl (xin F (by decide)) (xe_0 F _ _) 3 (by decide) rfl hF_X11_41 dX11_mark_12 ?_
    refine j_iload_n C dX11_mark_15 1 rfl ?_
    refine j_bind (fun r4 h3 => ?_)
    refine j_callVi (ci := 5) C [.int p1] (c_X5_first F h3) hM_X11_197 hI_X5_first hS_X5_first hZ_X5 hC_X5_first (xin F (by decide)) (xe_18 F _ _) rfl rfl dd_X5_first (by decide) ⟨rfl, rfl⟩ (by decide) (Nat.le_of_ble_eq_true rfl) dX11_mark_16 rfl ?_
    refine j_goto C 23 dX11_mark_19 (by decide) ?_
    exact j_ireti C Q dX11_mark_23
set_option maxRecDepth 100000 in
set_option maxHeartbeats 4000000 in
theorem c_X11_mark {E : EnvT} {n : Nat} {cs : Nat → ClassId} (F : XF E n cs) {σ : Mem} {p1 : Int32} {r : Int32} (h : X11_mark n σ p1 = some r) : CT E yX11_mark cX11_mark 2 (some .int) rm_X11_mark [.ref (eAd E 0), .int p1] σ (RQi r σ) :=
  ct_X F (by decide) (Nat.le_of_ble_eq_true rfl) (fun E' ea F' C Q => by rw [← ea]; exact m_X11_mark F'  C Q h)
theorem dd_X11_mark : yX11_mark.cls ≠ "java/lang/invoke/MethodHandle" ∧ yX11_mark.cls ≠ "java/lang/invoke/VarHandle" ∧ (parseMethodDescriptor yX11_mark.desc).map (fun d => d.parameters.length) = some 1 := by decide +kernel
def X11_limit (n : Nat) (σ : Mem) (p1 : Int32) (p2 : Int32) : Option (Int32 × Mem) :=
  bindo (X2_find n σ p1) (fun r2 =>
  caseo r2 (some ((-1 : Int32), σ))
  (fun a3 => chk (isCh n a3) (bindo (X11_within p2 (-30000 : Int32) (30000 : Int32)) (fun r6 =>
  if ¬ r6 = (0 : Int32) then
  (lete (wI σ a3 6 (1 : Int32)) (fun σ7 =>
  lete (wI σ7 a3 7 p2) (fun σ8 =>
  some ((1 : Int32), σ8))))
  else
  (some ((-2 : Int32), σ))))))
abbrev rm_X11_limit : Room := { frames := 2, cells := 0, slots := 0, locals := 45 }
set_option maxRecDepth 100000 in
set_option maxHeartbeats 4000000 in
theorem m_X11_limit {E : EnvT} {n : Nat} {cs : Nat → ClassId} (F : XF E n cs) {p1 : Int32} {p2 : Int32} {σ : Mem} (C : CX E cX11_limit RX11 4 rm_X11_limit) {r0 : Int32 × Mem} (Q : QE E 0 0 (some .int) (RQi r0.1 r0.2)) : J E 4 0 0 r0 (X11_limit n σ p1 p2) σ 0 [(0, .ref (eAd E 0)), (1, .int p1), (2, .int p2)] [] := by

  unfold X11_limit
  refine j_aload_n C dX11_limit_0 0 rfl ?_
  refine j_get (ci := 11) C hU_X11 rfl (xin F (by decide)) (xe_0 F _ _) 2 (by decide) rfl hF_X11_34 dX11_limit_1 ?_
  refine j_iload_n C dX11_limit_4 1 rfl ?_
  refine j_bind (fun r2 h1 => ?_)
  refine j_callVq (ci := 2) C [.int p1] (c_X2_find F h1) hM_X11_208 hI_X2_find hS_X2_find hZ_X2 hC_X2_find (xin F (by decide)) (xe_6 F _ _) rfl rfl dd_X2_find (by decide) ⟨rfl, rfl⟩ (by decide) (Nat.le_of_ble_eq_true rfl) dX11_limit_5 rfl ?_
  refine j_astoreq_n (lv' := [(3, va_rf (Option.map (eAd E) r2)), (0, .ref (eAd E 0)), (1, .int p1), (2, .int p2)]) C dX11_limit_8 (by decide) rfl ?_
  refine j_aloadq_n C dX11_limit_9 0 rfl ?_
  refine j_ifnonnull C 15 dX11_limit_10 (by decide) (fun e => ?_) (fun a3 e => ?_)
  · refine j_lv [(0, .ref (eAd E 0)), (1, .int p1), (2, .int p2)] [1, 2, 3] rfl ?_
    refine j_iconst C (-1 : Int32) dX11_limit_13 (by decide) ?_
    exact j_ireti2 C Q dX11_limit_14
  · subst e
    refine j_chk (fun h4 => ?_)
    refine j_iload_n C dX11_limit_15 3 rfl ?_
    refine j_sipush C (-30000 : Int32) dX11_limit_16 (by decide) ?_
    refine j_sipush C (30000 : Int32) dX11_limit_19 (by decide) ?_
    refine j_bind (fun r6 h5 => ?_)
    refine j_callSi C [.int p2, .int (-30000 : Int32), .int (30000 : Int32)] (c_X11_within F h5) hM_X11_86 hT_X11_within hZ_X11 hC_X11_within dd_X11_within (by decide) ⟨rfl, rfl⟩ (by decide) (Nat.le_of_ble_eq_true rfl) dX11_limit_22 rfl ?_
    refine j_if_ne C 31 dX11_limit_25 (by decide) ?_ ?_
    · refine j_aload_n C dX11_limit_31 0 rfl ?_
      refine j_iconst C (1 : Int32) dX11_limit_32 (by decide) ?_
      refine j_put (ci := 1) C hU_X1 tyX1_ok nmX1 rfl (xin_Ch F h4) (xe_Ch F h4 _ _) 6 (by decide) (Nat.le_of_ble_eq_true rfl) (by rw [wI_o, wI_2]; exact (xe_Ch F h4 _ _)) (fun o' h' => ⟨wI_ne _ _ _ h', rfl⟩) rfl (by first | rfl | decide) (by first | rfl | decide) hF_X11_212 dX11_limit_33 (fun σ7 => ?_)
      refine j_aload_n C dX11_limit_36 0 rfl ?_
      refine j_iload_n C dX11_limit_37 3 rfl ?_
      refine j_put (ci := 1) C hU_X1 tyX1_ok nmX1 rfl (xin_Ch F h4) (xe_Ch F h4 _ _) 7 (by decide) (Nat.le_of_ble_eq_true rfl) (by rw [wI_o, wI_2]; exact (xe_Ch F h4 _ _)) (fun o' h' => ⟨wI_ne _ _ _ h', rfl⟩) rfl (by first | rfl | decide) (by first | rfl | decide) hF_X11_216 dX11_limit_38 (fun σ8 => ?_)
      refine j_iconst C (1 : Int32) dX11_limit_41 (by decide) ?_
      exact j_ireti2 C Q dX11_limit_42
    · refine j_bipush C (-2 : Int32) dX11_limit_28 (by decide) ?_
      exact j_ireti2 C Q dX11_limit_30
set_option maxRecDepth 100000 in
set_option maxHeartbeats 4000000 in
theorem c_X11_limit {E : EnvT} {n : Nat} {cs : Nat → ClassId} (F : XF E n cs) {σ : Mem} {p1 : Int32} {p2 : Int32} {r : Int32 × Mem} (h : X11_limit n σ p1 p2 = some r) : CT E yX11_limit cX11_limit 4 (some .int) rm_X11_limit [.ref (eAd E 0), .int p1, .int p2] σ (RQi r.1 r.2) :=
  ct_X F (by decide) (Nat.le_of_ble_eq_true rfl) (fun E' ea F' C Q => by rw [← ea]; exact m_X11_limit F'  C Q h)
theorem dd_X11_limit : yX11_limit.cls ≠ "java/lang/invoke/MethodHandle" ∧ yX11_limit.cls ≠ "java/lang/invoke/VarHandle" ∧ (parseMethodDescriptor yX11_limit.desc).map (fun d => d.parameters.length) = some 2 := by decide +kernel
def X11_lose (n : Nat) (σ : Mem) (p1 : Int32) (p2 : Int32) (p3 : Int32) : Option (Int32 × Mem) :=
  bindo (X2_find n σ p1) (fun r2 =>
  caseo r2 (some ((-1 : Int32), σ))
  (fun a3 => chk (isCh n a3) (bindo (X11_within p2 (0 : Int32) (3000 : Int32)) (fun r6 =>
  if r6 = (0 : Int32) then
  (some ((-2 : Int32), σ))
  else
  (bindo (X11_within p3 p2 (3000 : Int32)) (fun r8 =>
  if ¬ r8 = (0 : Int32) then
  (if (σ.1 8 4) < (20 : Int32) then
  (bindo (X10_add n 8 σ p1 p2 p3 (0 : Int32)) (fun σ10 =>
  some ((σ10.1 8 4), σ10)))
  else
  (some ((-4 : Int32), σ)))
  else
  (some ((-2 : Int32), σ))))))))
abbrev rm_X11_lose : Room := { frames := 2, cells := 0, slots := 0, locals := 46 }
set_option maxRecDepth 100000 in
set_option maxHeartbeats 4000000 in
theorem m_X11_lose {E : EnvT} {n : Nat} {cs : Nat → ClassId} (F : XF E n cs) {p1 : Int32} {p2 : Int32} {p3 : Int32} {σ : Mem} (C : CX E cX11_lose RX11 4 rm_X11_lose) {r0 : Int32 × Mem} (Q : QE E 0 0 (some .int) (RQi r0.1 r0.2)) : J E 4 0 0 r0 (X11_lose n σ p1 p2 p3) σ 0 [(0, .ref (eAd E 0)), (1, .int p1), (2, .int p2), (3, .int p3)] [] := by

  unfold X11_lose
  refine j_aload_n C dX11_lose_0 0 rfl ?_
  refine j_get (ci := 11) C hU_X11 rfl (xin F (by decide)) (xe_0 F _ _) 2 (by decide) rfl hF_X11_34 dX11_lose_1 ?_
  refine j_iload_n C dX11_lose_4 1 rfl ?_
  refine j_bind (fun r2 h1 => ?_)
  refine j_callVq (ci := 2) C [.int p1] (c_X2_find F h1) hM_X11_208 hI_X2_find hS_X2_find hZ_X2 hC_X2_find (xin F (by decide)) (xe_6 F _ _) rfl rfl dd_X2_find (by decide) ⟨rfl, rfl⟩ (by decide) (Nat.le_of_ble_eq_true rfl) dX11_lose_5 rfl ?_
  refine j_ifnonnull C 13 dX11_lose_8 (by decide) (fun e => ?_) (fun a3 e => ?_)
  · refine j_lv [(0, .ref (eAd E 0)), (1, .int p1), (2, .int p2), (3, .int p3)] [0, 1, 2, 3] rfl ?_
    refine j_iconst C (-1 : Int32) dX11_lose_11 (by decide) ?_
    exact j_ireti2 C Q dX11_lose_12
  · subst e
    refine j_chk (fun h4 => ?_)
    refine j_iload_n C dX11_lose_13 2 rfl ?_
    refine j_iconst C (0 : Int32) dX11_lose_14 (by decide) ?_
    refine j_sipush C (3000 : Int32) dX11_lose_15 (by decide) ?_
    refine j_bind (fun r6 h5 => ?_)
    refine j_callSi C [.int p2, .int (0 : Int32), .int (3000 : Int32)] (c_X11_within F h5) hM_X11_86 hT_X11_within hZ_X11 hC_X11_within dd_X11_within (by decide) ⟨rfl, rfl⟩ (by decide) (Nat.le_of_ble_eq_true rfl) dX11_lose_18 rfl ?_
    refine j_if_eq C 35 dX11_lose_21 (by decide) ?_ ?_
    · refine j_bipush C (-2 : Int32) dX11_lose_35 (by decide) ?_
      exact j_ireti2 C Q dX11_lose_37
    · refine j_iload_n C dX11_lose_24 3 rfl ?_
      refine j_iload_n C dX11_lose_25 2 rfl ?_
      refine j_sipush C (3000 : Int32) dX11_lose_26 (by decide) ?_
      refine j_bind (fun r8 h7 => ?_)
      refine j_callSi C [.int p3, .int p2, .int (3000 : Int32)] (c_X11_within F h7) hM_X11_86 hT_X11_within hZ_X11 hC_X11_within dd_X11_within (by decide) ⟨rfl, rfl⟩ (by decide) (Nat.le_of_ble_eq_true rfl) dX11_lose_29 rfl ?_
      refine j_if_ne C 38 dX11_lose_32 (by decide) ?_ ?_
      · refine j_aload_n C dX11_lose_38 0 rfl ?_
        refine j_get (ci := 11) C hU_X11 rfl (xin F (by decide)) (xe_0 F _ _) 2 (by decide) rfl hF_X11_34 dX11_lose_39 ?_
        refine j_get (ci := 2) C hU_X2 rfl (xin F (by decide)) (xe_6 F _ _) 2 (by decide) rfl hF_X11_219 dX11_lose_42 ?_
        refine j_get (ci := 10) C hU_X10 rfl (xin F (by decide)) (xe_8 F _ _) 4 (by decide) rfl hF_X11_190 dX11_lose_45 ?_
        refine j_bipush C (20 : Int32) dX11_lose_48 (by decide) ?_
        refine j_icmp_lt C 56 dX11_lose_50 (by decide) ?_ ?_
        · refine j_aload_n C dX11_lose_56 0 rfl ?_
          refine j_get (ci := 11) C hU_X11 rfl (xin F (by decide)) (xe_0 F _ _) 2 (by decide) rfl hF_X11_34 dX11_lose_57 ?_
          refine j_get (ci := 2) C hU_X2 rfl (xin F (by decide)) (xe_6 F _ _) 2 (by decide) rfl hF_X11_219 dX11_lose_60 ?_
          refine j_iload_n C dX11_lose_63 1 rfl ?_
          refine j_iload_n C dX11_lose_64 2 rfl ?_
          refine j_iload_n C dX11_lose_65 3 rfl ?_
          refine j_iconst C (0 : Int32) dX11_lose_66 (by decide) ?_
          refine j_bind (fun σ10 h9 => ?_)
          refine j_callVv (ci := 10) C [.int p1, .int p2, .int p3, .int (0 : Int32)] (c_X10_add F (by decide) h9) hM_X11_222 hI_X10_add hS_X10_add hZ_X10 hC_X10_add (xin F (by decide)) (xe_8 F _ _) rfl rfl dd_X10_add (by decide) ⟨rfl, rfl⟩ (by decide) (Nat.le_of_ble_eq_true rfl) dX11_lose_67 rfl ?_
          refine j_aload_n C dX11_lose_70 0 rfl ?_
          refine j_get (ci := 11) C hU_X11 rfl (xin F (by decide)) (xe_0 F _ _) 2 (by decide) rfl hF_X11_34 dX11_lose_71 ?_
          refine j_get (ci := 2) C hU_X2 rfl (xin F (by decide)) (xe_6 F _ _) 2 (by decide) rfl hF_X11_219 dX11_lose_74 ?_
          refine j_get (ci := 10) C hU_X10 rfl (xin F (by decide)) (xe_8 F _ _) 4 (by decide) rfl hF_X11_190 dX11_lose_77 ?_
          exact j_ireti2 C Q dX11_lose_80
        · refine j_bipush C (-4 : Int32) dX11_lose_53 (by decide) ?_
          exact j_ireti2 C Q dX11_lose_55
      · refine j_bipush C (-2 : Int32) dX11_lose_35 (by decide) ?_
        exact j_ireti2 C Q dX11_lose_37
set_option maxRecDepth 100000 in
set_option maxHeartbeats 4000000 in
theorem c_X11_lose {E : EnvT} {n : Nat} {cs : Nat → ClassId} (F : XF E n cs) {σ : Mem} {p1 : Int32} {p2 : Int32} {p3 : Int32} {r : Int32 × Mem} (h : X11_lose n σ p1 p2 p3 = some r) : CT E yX11_lose cX11_lose 4 (some .int) rm_X11_lose [.ref (eAd E 0), .int p1, .int p2, .int p3] σ (RQi r.1 r.2) :=
  ct_X F (by decide) (Nat.le_of_ble_eq_true rfl) (fun E' ea F' C Q => by rw [← ea]; exact m_X11_lose F'  C Q h)
theorem dd_X11_lose : yX11_lose.cls ≠ "java/lang/invoke/MethodHandle" ∧ yX11_lose.cls ≠ "java/lang/invoke/VarHandle" ∧ (parseMethodDescriptor yX11_lose.desc).map (fun d => d.parameters.length) = some 3 := by decide +kernel
def X11_correct (n : Nat) (σ : Mem) (p1 : Int32) (p2 : Int32) (p3 : Int32) (p4 : Int32) : Option (Int32 × Mem) :=
  bindo (X2_find n σ p1) (fun r2 =>
  caseo r2 (some ((-1 : Int32), σ))
  (fun a3 => chk (isCh n a3) (bindo (X11_within p2 (0 : Int32) (3000 : Int32)) (fun r6 =>
  if r6 = (0 : Int32) then
  (some ((-2 : Int32), σ))
  else
  (bindo (X11_within p3 (1 : Int32) (2000 : Int32)) (fun r8 =>
  if r8 = (0 : Int32) then
  (some ((-2 : Int32), σ))
  else
  (bindo (X11_within p4 (-1000 : Int32) (1000 : Int32)) (fun r10 =>
  if ¬ r10 = (0 : Int32) then
  (if (σ.1 13 4) < (20 : Int32) then
  (bindo (X7_keepAhead n σ a3) (fun σ12 =>
  bindo (X10_add n 13 σ12 p1 p2 p3 p4) (fun σ14 =>
  bindo (X7_nameOthers n σ14 a3) (fun σ16 =>
  some ((σ16.1 22 6), σ16)))))
  else
  (some ((-4 : Int32), σ)))
  else
  (some ((-2 : Int32), σ))))))))))
abbrev rm_X11_correct : Room := { frames := 5, cells := 0, slots := 0, locals := 124 }
set_option maxRecDepth 100000 in
set_option maxHeartbeats 4000000 in
theorem m_X11_correct {E : EnvT} {n : Nat} {cs : Nat → ClassId} (F : XF E n cs) {p1 : Int32} {p2 : Int32} {p3 : Int32} {p4 : Int32} {σ : Mem} (C : CX E cX11_correct RX11 6 rm_X11_correct) {r0 : Int32 × Mem} (Q : QE E 0 0 (some .int) (RQi r0.1 r0.2)) : J E 6 0 0 r0 (X11_correct n σ p1 p2 p3 p4) σ 0 [(0, .ref (eAd E 0)), (1, .int p1), (2, .int p2), (3, .int p3), (4, .int p4)] [] := by

  unfold X11_correct
  refine j_aload_n C dX11_correct_0 0 rfl ?_
  refine j_get (ci := 11) C hU_X11 rfl (xin F (by decide)) (xe_0 F _ _) 2 (by decide) rfl hF_X11_34 dX11_correct_1 ?_
  refine j_iload_n C dX11_correct_4 1 rfl ?_
  refine j_bind (fun r2 h1 => ?_)
  refine j_callVq (ci := 2) C [.int p1] (c_X2_find F h1) hM_X11_208 hI_X2_find hS_X2_find hZ_X2 hC_X2_find (xin F (by decide)) (xe_6 F _ _) rfl rfl dd_X2_find (by decide) ⟨rfl, rfl⟩ (by decide) (Nat.le_of_ble_eq_true rfl) dX11_correct_5 rfl ?_
  refine j_astoreq (lv' := [(5, va_rf (Option.map (eAd E) r2)), (0, .ref (eAd E 0)), (1, .int p1), (2, .int p2), (3, .int p3), (4, .int p4)]) C dX11_correct_8 (by decide) rfl ?_
  refine j_aloadq C dX11_correct_10 0 rfl ?_
  refine j_ifnonnull C 17 dX11_correct_12 (by decide) (fun e => ?_) (fun a3 e => ?_)
  · refine j_lv [(0, .ref (eAd E 0)), (1, .int p1), (2, .int p2), (3, .int p3), (4, .int p4)] [1, 2, 3, 4, 5] rfl ?_
    refine j_iconst C (-1 : Int32) dX11_correct_15 (by decide) ?_
    exact j_ireti2 C Q dX11_correct_16
  · subst e
    refine j_chk (fun h4 => ?_)
    refine j_iload_n C dX11_correct_17 3 rfl ?_
    refine j_iconst C (0 : Int32) dX11_correct_18 (by decide) ?_
    refine j_sipush C (3000 : Int32) dX11_correct_19 (by decide) ?_
    refine j_bind (fun r6 h5 => ?_)
    refine j_callSi C [.int p2, .int (0 : Int32), .int (3000 : Int32)] (c_X11_within F h5) hM_X11_86 hT_X11_within hZ_X11 hC_X11_within dd_X11_within (by decide) ⟨rfl, rfl⟩ (by decide) (Nat.le_of_ble_eq_true rfl) dX11_correct_22 rfl ?_
    refine j_if_eq C 53 dX11_correct_25 (by decide) ?_ ?_
    · refine j_bipush C (-2 : Int32) dX11_correct_53 (by decide) ?_
      exact j_ireti2 C Q dX11_correct_55
    · refine j_iload_n C dX11_correct_28 4 rfl ?_
      refine j_iconst C (1 : Int32) dX11_correct_29 (by decide) ?_
      refine j_sipush C (2000 : Int32) dX11_correct_30 (by decide) ?_
      refine j_bind (fun r8 h7 => ?_)
      refine j_callSi C [.int p3, .int (1 : Int32), .int (2000 : Int32)] (c_X11_within F h7) hM_X11_86 hT_X11_within hZ_X11 hC_X11_within dd_X11_within (by decide) ⟨rfl, rfl⟩ (by decide) (Nat.le_of_ble_eq_true rfl) dX11_correct_33 rfl ?_
      refine j_if_eq C 53 dX11_correct_36 (by decide) ?_ ?_
      · refine j_bipush C (-2 : Int32) dX11_correct_53 (by decide) ?_
        exact j_ireti2 C Q dX11_correct_55
      · refine j_iload C dX11_correct_39 5 rfl ?_
        refine j_sipush C (-1000 : Int32) dX11_correct_41 (by decide) ?_
        refine j_sipush C (1000 : Int32) dX11_correct_44 (by decide) ?_
        refine j_bind (fun r10 h9 => ?_)
        refine j_callSi C [.int p4, .int (-1000 : Int32), .int (1000 : Int32)] (c_X11_within F h9) hM_X11_86 hT_X11_within hZ_X11 hC_X11_within dd_X11_within (by decide) ⟨rfl, rfl⟩ (by decide) (Nat.le_of_ble_eq_true rfl) dX11_correct_47 rfl ?_
        refine j_if_ne C 56 dX11_correct_50 (by decide) ?_ ?_
        · refine j_aload_n C dX11_correct_56 1 rfl ?_
          refine j_get (ci := 11) C hU_X11 rfl (xin F (by decide)) (xe_0 F _ _) 2 (by decide) rfl hF_X11_34 dX11_correct_57 ?_
          refine j_get (ci := 2) C hU_X2 rfl (xin F (by decide)) (xe_6 F _ _) 3 (by decide) rfl hF_X11_186 dX11_correct_60 ?_
          refine j_get (ci := 10) C hU_X10 rfl (xin F (by decide)) (xe_13 F _ _) 4 (by decide) rfl hF_X11_190 dX11_correct_63 ?_
          refine j_bipush C (20 : Int32) dX11_correct_66 (by decide) ?_
          refine j_icmp_lt C 74 dX11_correct_68 (by decide) ?_ ?_
          · refine j_aload_n C dX11_correct_74 1 rfl ?_
            refine j_get (ci := 11) C hU_X11 rfl (xin F (by decide)) (xe_0 F _ _) 5 (by decide) rfl hF_X11_59 dX11_correct_75 ?_
            refine j_aload C dX11_correct_78 0 rfl ?_
            refine j_bind (fun σ12 h11 => ?_)
            refine j_callVv (ci := 7) C [.ref (eAd E a3)] (c_X7_keepAhead F h4 h11) hM_X11_223 hI_X7_keepAhead hS_X7_keepAhead hZ_X7 hC_X7_keepAhead (xin F (by decide)) (xe_22 F _ _) rfl rfl dd_X7_keepAhead (by decide) ⟨rfl, rfl⟩ (by decide) (Nat.le_of_ble_eq_true rfl) dX11_correct_80 rfl ?_
            refine j_aload_n C dX11_correct_83 1 rfl ?_
            refine j_get (ci := 11) C hU_X11 rfl (xin F (by decide)) (xe_0 F _ _) 2 (by decide) rfl hF_X11_34 dX11_correct_84 ?_
            refine j_get (ci := 2) C hU_X2 rfl (xin F (by decide)) (xe_6 F _ _) 3 (by decide) rfl hF_X11_186 dX11_correct_87 ?_
            refine j_iload_n C dX11_correct_90 2 rfl ?_
            refine j_iload_n C dX11_correct_91 3 rfl ?_
            refine j_iload_n C dX11_correct_92 4 rfl ?_
            refine j_iload C dX11_correct_93 5 rfl ?_
            refine j_bind (fun σ14 h13 => ?_)
            refine j_callVv (ci := 10) C [.int p1, .int p2, .int p3, .int p4] (c_X10_add F (by decide) h13) hM_X11_222 hI_X10_add hS_X10_add hZ_X10 hC_X10_add (xin F (by decide)) (xe_13 F _ _) rfl rfl dd_X10_add (by decide) ⟨rfl, rfl⟩ (by decide) (Nat.le_of_ble_eq_true rfl) dX11_correct_95 rfl ?_
            refine j_aload_n C dX11_correct_98 1 rfl ?_
            refine j_get (ci := 11) C hU_X11 rfl (xin F (by decide)) (xe_0 F _ _) 5 (by decide) rfl hF_X11_59 dX11_correct_99 ?_
            refine j_aload C dX11_correct_102 0 rfl ?_
            refine j_bind (fun σ16 h15 => ?_)
            refine j_callVv (ci := 7) C [.ref (eAd E a3)] (c_X7_nameOthers F h4 h15) hM_X11_226 hI_X7_nameOthers hS_X7_nameOthers hZ_X7 hC_X7_nameOthers (xin F (by decide)) (xe_22 F _ _) rfl rfl dd_X7_nameOthers (by decide) ⟨rfl, rfl⟩ (by decide) (Nat.le_of_ble_eq_true rfl) dX11_correct_104 rfl ?_
            refine j_aload_n C dX11_correct_107 1 rfl ?_
            refine j_get (ci := 11) C hU_X11 rfl (xin F (by decide)) (xe_0 F _ _) 5 (by decide) rfl hF_X11_59 dX11_correct_108 ?_
            refine j_get (ci := 7) C hU_X7 rfl (xin F (by decide)) (xe_22 F _ _) 6 (by decide) rfl hF_X11_229 dX11_correct_111 ?_
            exact j_ireti2 C Q dX11_correct_114
          · refine j_bipush C (-4 : Int32) dX11_correct_71 (by decide) ?_
            exact j_ireti2 C Q dX11_correct_73
        · refine j_bipush C (-2 : Int32) dX11_correct_53 (by decide) ?_
          exact j_ireti2 C Q dX11_correct_55
set_option maxRecDepth 100000 in
set_option maxHeartbeats 4000000 in
theorem c_X11_correct {E : EnvT} {n : Nat} {cs : Nat → ClassId} (F : XF E n cs) {σ : Mem} {p1 : Int32} {p2 : Int32} {p3 : Int32} {p4 : Int32} {r : Int32 × Mem} (h : X11_correct n σ p1 p2 p3 p4 = some r) : CT E yX11_correct cX11_correct 6 (some .int) rm_X11_correct [.ref (eAd E 0), .int p1, .int p2, .int p3, .int p4] σ (RQi r.1 r.2) :=
  ct_X F (by decide) (Nat.le_of_ble_eq_true rfl) (fun E' ea F' C Q => by rw [← ea]; exact m_X11_correct F'  C Q h)
theorem dd_X11_correct : yX11_correct.cls ≠ "java/lang/invoke/MethodHandle" ∧ yX11_correct.cls ≠ "java/lang/invoke/VarHandle" ∧ (parseMethodDescriptor yX11_correct.desc).map (fun d => d.parameters.length) = some 4 := by decide +kernel
def X11_other (n : Nat) (σ : Mem) (p1 : Int32) : Option (Int32) :=
  bindo (X11_within p1 (0 : Int32) ((σ.1 22 6) - (1 : Int32))) (fun r2 =>
  if r2 = (0 : Int32) then
  (some (-1 : Int32))
  else
  (bindo (X7_otherAt n σ p1) (fun r4 =>
  some r4)))
abbrev rm_X11_other : Room := { frames := 2, cells := 0, slots := 0, locals := 43 }
set_option maxRecDepth 100000 in
set_option maxHeartbeats 4000000 in
theorem m_X11_other {E : EnvT} {n : Nat} {cs : Nat → ClassId} (F : XF E n cs) {p1 : Int32} {σ : Mem} (C : CX E cX11_other RX11 2 rm_X11_other) {r0 : Int32} (Q : QE E 0 0 (some .int) (RQi r0 σ)) : J E 2 0 0 r0 (X11_other n σ p1) σ 0 [(0, .ref (eAd E 0)), (1, .int p1)] [] := by

  unfold X11_other
  refine j_iload_n C dX11_other_0 1 rfl ?_
  refine j_iconst C (0 : Int32) dX11_other_1 (by decide) ?_
  refine j_aload_n C dX11_other_2 0 rfl ?_
  refine j_get (ci := 11) C hU_X11 rfl (xin F (by decide)) (xe_0 F _ _) 5 (by decide) rfl hF_X11_59 dX11_other_3 ?_
  refine j_get (ci := 7) C hU_X7 rfl (xin F (by decide)) (xe_22 F _ _) 6 (by decide) rfl hF_X11_229 dX11_other_6 ?_
  refine j_iconst C (1 : Int32) dX11_other_9 (by decide) ?_
  refine j_isub C dX11_other_10 ?_
  refine j_bind (fun r2 h1 => ?_)
  refine j_callSi C [.int p1, .int (0 : Int32), .int ((σ.1 22 6) - (1 : Int32))] (c_X11_within F h1) hM_X11_86 hT_X11_within hZ_X11 hC_X11_within dd_X11_within (by decide) ⟨rfl, rfl⟩ (by decide) (Nat.le_of_ble_eq_true rfl) dX11_other_11 rfl ?_
  refine j_if_eq C 28 dX11_other_14 (by decide) ?_ ?_
  · refine j_iconst C (-1 : Int32) dX11_other_28 (by decide) ?_
    exact j_ireti C Q dX11_other_29
  · refine j_aload_n C dX11_other_17 0 rfl ?_
    refine j_get (ci := 11) C hU_X11 rfl (xin F (by decide)) (xe_0 F _ _) 5 (by decide) rfl hF_X11_59 dX11_other_18 ?_
    refine j_iload_n C dX11_other_21 1 rfl ?_
    refine j_bind (fun r4 h3 => ?_)
    refine j_callVi (ci := 7) C [.int p1] (c_X7_otherAt F h3) hM_X11_232 hI_X7_otherAt hS_X7_otherAt hZ_X7 hC_X7_otherAt (xin F (by decide)) (xe_22 F _ _) rfl rfl dd_X7_otherAt (by decide) ⟨rfl, rfl⟩ (by decide) (Nat.le_of_ble_eq_true rfl) dX11_other_22 rfl ?_
    refine j_goto C 29 dX11_other_25 (by decide) ?_
    exact j_ireti C Q dX11_other_29
set_option maxRecDepth 100000 in
set_option maxHeartbeats 4000000 in
theorem c_X11_other {E : EnvT} {n : Nat} {cs : Nat → ClassId} (F : XF E n cs) {σ : Mem} {p1 : Int32} {r : Int32} (h : X11_other n σ p1 = some r) : CT E yX11_other cX11_other 2 (some .int) rm_X11_other [.ref (eAd E 0), .int p1] σ (RQi r σ) :=
  ct_X F (by decide) (Nat.le_of_ble_eq_true rfl) (fun E' ea F' C Q => by rw [← ea]; exact m_X11_other F'  C Q h)
theorem dd_X11_other : yX11_other.cls ≠ "java/lang/invoke/MethodHandle" ∧ yX11_other.cls ≠ "java/lang/invoke/VarHandle" ∧ (parseMethodDescriptor yX11_other.desc).map (fun d => d.parameters.length) = some 1 := by decide +kernel
def X11_reading (n : Nat) (σ : Mem) (p1 : Int32) (p2 : Int32) : Option (Int64) :=
  bindo (X2_find n σ p1) (fun r2 =>
  caseo r2 (some (-9223372036854775808 : Int64))
  (fun a3 => chk (isCh n a3) (bindo (X11_within p2 (0 : Int32) (σ.1 1 3)) (fun r6 =>
  if r6 = (0 : Int32) then
  (some (-9223372036854775808 : Int64))
  else
  (bindo (X1_readsAt n a3 σ p2) (fun r8 =>
  if ¬ r8 = (0 : Int32) then
  (bindo (X2_value n σ a3 p2) (fun r10 =>
  some r10))
  else
  (some (-9223372036854775808 : Int64))))))))
abbrev rm_X11_reading : Room := { frames := 3, cells := 0, slots := 0, locals := 72 }
set_option maxRecDepth 100000 in
set_option maxHeartbeats 4000000 in
theorem m_X11_reading {E : EnvT} {n : Nat} {cs : Nat → ClassId} (F : XF E n cs) {p1 : Int32} {p2 : Int32} {σ : Mem} (C : CX E cX11_reading RX11 4 rm_X11_reading) {r0 : Int64} (Q : QE E 0 0 (some .long) (RQl r0 σ)) : J E 4 0 0 r0 (X11_reading n σ p1 p2) σ 0 [(0, .ref (eAd E 0)), (1, .int p1), (2, .int p2)] [] := by

  unfold X11_reading
  refine j_aload_n C dX11_reading_0 0 rfl ?_
  refine j_get (ci := 11) C hU_X11 rfl (xin F (by decide)) (xe_0 F _ _) 2 (by decide) rfl hF_X11_34 dX11_reading_1 ?_
  refine j_iload_n C dX11_reading_4 1 rfl ?_
  refine j_bind (fun r2 h1 => ?_)
  refine j_callVq (ci := 2) C [.int p1] (c_X2_find F h1) hM_X11_208 hI_X2_find hS_X2_find hZ_X2 hC_X2_find (xin F (by decide)) (xe_6 F _ _) rfl rfl dd_X2_find (by decide) ⟨rfl, rfl⟩ (by decide) (Nat.le_of_ble_eq_true rfl) dX11_reading_5 rfl ?_
  refine j_astoreq_n (lv' := [(3, va_rf (Option.map (eAd E) r2)), (0, .ref (eAd E 0)), (1, .int p1), (2, .int p2)]) C dX11_reading_8 (by decide) rfl ?_
  refine j_aloadq_n C dX11_reading_9 0 rfl ?_
  refine j_ifnull C 36 dX11_reading_10 (by decide) (fun e => ?_) (fun a3 e => ?_)
  · refine j_lv [(0, .ref (eAd E 0)), (1, .int p1), (2, .int p2)] [1, 2, 3] rfl ?_
    refine j_ldc2 C hK_X11_102 dX11_reading_36 ?_
    exact j_lret C Q dX11_reading_39
  · subst e
    refine j_chk (fun h4 => ?_)
    refine j_iload_n C dX11_reading_13 3 rfl ?_
    refine j_iconst C (0 : Int32) dX11_reading_14 (by decide) ?_
    refine j_aload_n C dX11_reading_15 1 rfl ?_
    refine j_get (ci := 11) C hU_X11 rfl (xin F (by decide)) (xe_0 F _ _) 0 (by decide) rfl hF_X11_18 dX11_reading_16 ?_
    refine j_get (ci := 3) C hU_X3 rfl (xin F (by decide)) (xe_1 F _ _) 3 (by decide) rfl hF_X11_159 dX11_reading_19 ?_
    refine j_bind (fun r6 h5 => ?_)
    refine j_callSi C [.int p2, .int (0 : Int32), .int (σ.1 1 3)] (c_X11_within F h5) hM_X11_86 hT_X11_within hZ_X11 hC_X11_within dd_X11_within (by decide) ⟨rfl, rfl⟩ (by decide) (Nat.le_of_ble_eq_true rfl) dX11_reading_22 rfl ?_
    refine j_if_eq C 36 dX11_reading_25 (by decide) ?_ ?_
    · refine j_ldc2 C hK_X11_102 dX11_reading_36 ?_
      exact j_lret C Q dX11_reading_39
    · refine j_aload_n C dX11_reading_28 0 rfl ?_
      refine j_iload_n C dX11_reading_29 3 rfl ?_
      refine j_bind (fun r8 h7 => ?_)
      refine j_callVi (ci := 1) C [.int p2] (c_X1_readsAt F h4 h7) hM_X11_235 hI_X1_readsAt hS_X1_readsAt hZ_X1 hC_X1_readsAt (xin_Ch F h4) (xe_Ch F h4 _ _) rfl rfl dd_X1_readsAt (by decide) ⟨rfl, rfl⟩ (by decide) (Nat.le_of_ble_eq_true rfl) dX11_reading_30 rfl ?_
      refine j_if_ne C 40 dX11_reading_33 (by decide) ?_ ?_
      · refine j_aload_n C dX11_reading_40 1 rfl ?_
        refine j_get (ci := 11) C hU_X11 rfl (xin F (by decide)) (xe_0 F _ _) 2 (by decide) rfl hF_X11_34 dX11_reading_41 ?_
        refine j_aload_n C dX11_reading_44 0 rfl ?_
        refine j_iload_n C dX11_reading_45 3 rfl ?_
        refine j_bind (fun r10 h9 => ?_)
        refine j_callVl (ci := 2) C [.ref (eAd E a3), .int p2] (c_X2_value F h4 h9) hM_X11_238 hI_X2_value hS_X2_value hZ_X2 hC_X2_value (xin F (by decide)) (xe_6 F _ _) rfl rfl dd_X2_value (by decide) ⟨rfl, rfl⟩ (by decide) (Nat.le_of_ble_eq_true rfl) dX11_reading_46 rfl ?_
        exact j_lret C Q dX11_reading_49
      · refine j_ldc2 C hK_X11_102 dX11_reading_36 ?_
        exact j_lret C Q dX11_reading_39
set_option maxRecDepth 100000 in
set_option maxHeartbeats 4000000 in
theorem c_X11_reading {E : EnvT} {n : Nat} {cs : Nat → ClassId} (F : XF E n cs) {σ : Mem} {p1 : Int32} {p2 : Int32} {r : Int64} (h : X11_reading n σ p1 p2 = some r) : CT E yX11_reading cX11_reading 4 (some .long) rm_X11_reading [.ref (eAd E 0), .int p1, .int p2] σ (RQl r σ) :=
  ct_X F (by decide) (Nat.le_of_ble_eq_true rfl) (fun E' ea F' C Q => by rw [← ea]; exact m_X11_reading F'  C Q h)
theorem dd_X11_reading : yX11_reading.cls ≠ "java/lang/invoke/MethodHandle" ∧ yX11_reading.cls ≠ "java/lang/invoke/VarHandle" ∧ (parseMethodDescriptor yX11_reading.desc).map (fun d => d.parameters.length) = some 2 := by decide +kernel
def X11_state (n : Nat) (σ : Mem) (p1 : Int32) (p2 : Int32) : Option (Int32) :=
  bindo (X2_find n σ p1) (fun r2 =>
  caseo r2 (some (-1 : Int32))
  (fun a3 => chk (isCh n a3) (bindo (X11_within p2 (0 : Int32) (σ.1 1 3)) (fun r6 =>
  if r6 = (0 : Int32) then
  (some (-1 : Int32))
  else
  (bindo (X1_readsAt n a3 σ p2) (fun r8 =>
  if ¬ r8 = (0 : Int32) then
  (bindo (X2_isLost n σ a3 p2) (fun r10 =>
  if r10 = (0 : Int32) then
  (bindo (X2_isFull n σ a3 p2) (fun r12 =>
  if r12 = (0 : Int32) then
  (some (0 : Int32))
  else
  (some (1 : Int32))))
  else
  (some (2 : Int32))))
  else
  (some (-1 : Int32))))))))
abbrev rm_X11_state : Room := { frames := 3, cells := 0, slots := 0, locals := 66 }
set_option maxRecDepth 100000 in
set_option maxHeartbeats 4000000 in
theorem m_X11_state {E : EnvT} {n : Nat} {cs : Nat → ClassId} (F : XF E n cs) {p1 : Int32} {p2 : Int32} {σ : Mem} (C : CX E cX11_state RX11 4 rm_X11_state) {r0 : Int32} (Q : QE E 0 0 (some .int) (RQi r0 σ)) : J E 4 0 0 r0 (X11_state n σ p1 p2) σ 0 [(0, .ref (eAd E 0)), (1, .int p1), (2, .int p2)] [] := by

  unfold X11_state
  refine j_aload_n C dX11_state_0 0 rfl ?_
  refine j_get (ci := 11) C hU_X11 rfl (xin F (by decide)) (xe_0 F _ _) 2 (by decide) rfl hF_X11_34 dX11_state_1 ?_
  refine j_iload_n C dX11_state_4 1 rfl ?_
  refine j_bind (fun r2 h1 => ?_)
  refine j_callVq (ci := 2) C [.int p1] (c_X2_find F h1) hM_X11_208 hI_X2_find hS_X2_find hZ_X2 hC_X2_find (xin F (by decide)) (xe_6 F _ _) rfl rfl dd_X2_find (by decide) ⟨rfl, rfl⟩ (by decide) (Nat.le_of_ble_eq_true rfl) dX11_state_5 rfl ?_
  refine j_astoreq_n (lv' := [(3, va_rf (Option.map (eAd E) r2)), (0, .ref (eAd E 0)), (1, .int p1), (2, .int p2)]) C dX11_state_8 (by decide) rfl ?_
  refine j_aloadq_n C dX11_state_9 0 rfl ?_
  refine j_ifnull C 36 dX11_state_10 (by decide) (fun e => ?_) (fun a3 e => ?_)
  · refine j_lv [(0, .ref (eAd E 0)), (1, .int p1), (2, .int p2)] [1, 2, 3] rfl ?_
    refine j_iconst C (-1 : Int32) dX11_state_36 (by decide) ?_
    exact j_ireti C Q dX11_state_37
  · subst e
    refine j_chk (fun h4 => ?_)
    refine j_iload_n C dX11_state_13 3 rfl ?_
    refine j_iconst C (0 : Int32) dX11_state_14 (by decide) ?_
    refine j_aload_n C dX11_state_15 1 rfl ?_
    refine j_get (ci := 11) C hU_X11 rfl (xin F (by decide)) (xe_0 F _ _) 0 (by decide) rfl hF_X11_18 dX11_state_16 ?_
    refine j_get (ci := 3) C hU_X3 rfl (xin F (by decide)) (xe_1 F _ _) 3 (by decide) rfl hF_X11_159 dX11_state_19 ?_
    refine j_bind (fun r6 h5 => ?_)
    refine j_callSi C [.int p2, .int (0 : Int32), .int (σ.1 1 3)] (c_X11_within F h5) hM_X11_86 hT_X11_within hZ_X11 hC_X11_within dd_X11_within (by decide) ⟨rfl, rfl⟩ (by decide) (Nat.le_of_ble_eq_true rfl) dX11_state_22 rfl ?_
    refine j_if_eq C 36 dX11_state_25 (by decide) ?_ ?_
    · refine j_iconst C (-1 : Int32) dX11_state_36 (by decide) ?_
      exact j_ireti C Q dX11_state_37
    · refine j_aload_n C dX11_state_28 0 rfl ?_
      refine j_iload_n C dX11_state_29 3 rfl ?_
      refine j_bind (fun r8 h7 => ?_)
      refine j_callVi (ci := 1) C [.int p2] (c_X1_readsAt F h4 h7) hM_X11_235 hI_X1_readsAt hS_X1_readsAt hZ_X1 hC_X1_readsAt (xin_Ch F h4) (xe_Ch F h4 _ _) rfl rfl dd_X1_readsAt (by decide) ⟨rfl, rfl⟩ (by decide) (Nat.le_of_ble_eq_true rfl) dX11_state_30 rfl ?_
      refine j_if_ne C 38 dX11_state_33 (by decide) ?_ ?_
      · refine j_aload_n C dX11_state_38 1 rfl ?_
        refine j_get (ci := 11) C hU_X11 rfl (xin F (by decide)) (xe_0 F _ _) 2 (by decide) rfl hF_X11_34 dX11_state_39 ?_
        refine j_aload_n C dX11_state_42 0 rfl ?_
        refine j_iload_n C dX11_state_43 3 rfl ?_
        refine j_bind (fun r10 h9 => ?_)
        refine j_callVi (ci := 2) C [.ref (eAd E a3), .int p2] (c_X2_isLost F h4 h9) hM_X11_242 hI_X2_isLost hS_X2_isLost hZ_X2 hC_X2_isLost (xin F (by decide)) (xe_6 F _ _) rfl rfl dd_X2_isLost (by decide) ⟨rfl, rfl⟩ (by decide) (Nat.le_of_ble_eq_true rfl) dX11_state_44 rfl ?_
        refine j_if_eq C 52 dX11_state_47 (by decide) ?_ ?_
        · refine j_aload_n C dX11_state_52 1 rfl ?_
          refine j_get (ci := 11) C hU_X11 rfl (xin F (by decide)) (xe_0 F _ _) 2 (by decide) rfl hF_X11_34 dX11_state_53 ?_
          refine j_aload_n C dX11_state_56 0 rfl ?_
          refine j_iload_n C dX11_state_57 3 rfl ?_
          refine j_bind (fun r12 h11 => ?_)
          refine j_callVi (ci := 2) C [.ref (eAd E a3), .int p2] (c_X2_isFull F h4 h11) hM_X11_246 hI_X2_isFull hS_X2_isFull hZ_X2 hC_X2_isFull (xin F (by decide)) (xe_6 F _ _) rfl rfl dd_X2_isFull (by decide) ⟨rfl, rfl⟩ (by decide) (Nat.le_of_ble_eq_true rfl) dX11_state_58 rfl ?_
          refine j_if_eq C 68 dX11_state_61 (by decide) ?_ ?_
          · refine j_iconst C (0 : Int32) dX11_state_68 (by decide) ?_
            exact j_ireti C Q dX11_state_69
          · refine j_iconst C (1 : Int32) dX11_state_64 (by decide) ?_
            refine j_goto C 69 dX11_state_65 (by decide) ?_
            exact j_ireti C Q dX11_state_69
        · refine j_iconst C (2 : Int32) dX11_state_50 (by decide) ?_
          exact j_ireti C Q dX11_state_51
      · refine j_iconst C (-1 : Int32) dX11_state_36 (by decide) ?_
        exact j_ireti C Q dX11_state_37
set_option maxRecDepth 100000 in
set_option maxHeartbeats 4000000 in
theorem c_X11_state {E : EnvT} {n : Nat} {cs : Nat → ClassId} (F : XF E n cs) {σ : Mem} {p1 : Int32} {p2 : Int32} {r : Int32} (h : X11_state n σ p1 p2 = some r) : CT E yX11_state cX11_state 4 (some .int) rm_X11_state [.ref (eAd E 0), .int p1, .int p2] σ (RQi r σ) :=
  ct_X F (by decide) (Nat.le_of_ble_eq_true rfl) (fun E' ea F' C Q => by rw [← ea]; exact m_X11_state F'  C Q h)
theorem dd_X11_state : yX11_state.cls ≠ "java/lang/invoke/MethodHandle" ∧ yX11_state.cls ≠ "java/lang/invoke/VarHandle" ∧ (parseMethodDescriptor yX11_state.desc).map (fun d => d.parameters.length) = some 2 := by decide +kernel
def X11_report (n : Nat) (σ : Mem) (p1 : Int32) (p2 : Int32) (p3 : Int32) : Option (Int64 × Mem) :=
  bindo (X2_find n σ p2) (fun r2 =>
  bindo (X5_has n σ p1) (fun r4 =>
  if r4 = (0 : Int32) then
  (some ((-9223372036854775808 : Int64), σ))
  else
  (caseo r2 (some ((-9223372036854775808 : Int64), σ))
  (fun a5 => chk (isCh n a5) (bindo (X11_within p3 (0 : Int32) (7 : Int32)) (fun r8 =>
  if ¬ r8 = (0 : Int32) then
  (bindo (X7_reckon n σ a5 p1) (fun σ10 =>
  bindo (X7_number n σ10 p3) (fun r12 =>
  some (r12, σ10))))
  else
  (some ((-9223372036854775808 : Int64), σ))))))))
abbrev rm_X11_report : Room := { frames := 4, cells := 0, slots := 0, locals := 101 }
set_option maxRecDepth 100000 in
set_option maxHeartbeats 4000000 in
theorem m_X11_report {E : EnvT} {n : Nat} {cs : Nat → ClassId} (F : XF E n cs) {p1 : Int32} {p2 : Int32} {p3 : Int32} {σ : Mem} (C : CX E cX11_report RX11 5 rm_X11_report) {r0 : Int64 × Mem} (Q : QE E 0 0 (some .long) (RQl r0.1 r0.2)) : J E 5 0 0 r0 (X11_report n σ p1 p2 p3) σ 0 [(0, .ref (eAd E 0)), (1, .int p1), (2, .int p2), (3, .int p3)] [] := by

  unfold X11_report
  refine j_aload_n C dX11_report_0 0 rfl ?_
  refine j_get (ci := 11) C hU_X11 rfl (xin F (by decide)) (xe_0 F _ _) 2 (by decide) rfl hF_X11_34 dX11_report_1 ?_
  refine j_iload_n C dX11_report_4 2 rfl ?_
  refine j_bind (fun r2 h1 => ?_)
  refine j_callVq (ci := 2) C [.int p2] (c_X2_find F h1) hM_X11_208 hI_X2_find hS_X2_find hZ_X2 hC_X2_find (xin F (by decide)) (xe_6 F _ _) rfl rfl dd_X2_find (by decide) ⟨rfl, rfl⟩ (by decide) (Nat.le_of_ble_eq_true rfl) dX11_report_5 rfl ?_
  refine j_astoreq (lv' := [(4, va_rf (Option.map (eAd E) r2)), (0, .ref (eAd E 0)), (1, .int p1), (2, .int p2), (3, .int p3)]) C dX11_report_8 (by decide) rfl ?_
  refine j_aload_n C dX11_report_10 1 rfl ?_
  refine j_get (ci := 11) C hU_X11 rfl (xin F (by decide)) (xe_0 F _ _) 3 (by decide) rfl hF_X11_41 dX11_report_11 ?_
  refine j_iload_n C dX11_report_14 2 rfl ?_
  refine j_bind (fun r4 h3 => ?_)
  refine j_callVi (ci := 5) C [.int p1] (c_X5_has F h3) hM_X11_196 hI_X5_has hS_X5_has hZ_X5 hC_X5_has (xin F (by decide)) (xe_18 F _ _) rfl rfl dd_X5_has (by decide) ⟨rfl, rfl⟩ (by decide) (Nat.le_of_ble_eq_true rfl) dX11_report_15 rfl ?_
  refine j_if_eq C 36 dX11_report_18 (by decide) ?_ ?_
  · refine j_ldc2 C hK_X11_102 dX11_report_36 ?_
    exact j_lret2 C Q dX11_report_39
  · refine j_aloadq C dX11_report_21 0 rfl ?_
    refine j_ifnull C 36 dX11_report_23 (by decide) (fun e => ?_) (fun a5 e => ?_)
    · refine j_lv [(0, .ref (eAd E 0)), (1, .int p1), (2, .int p2), (3, .int p3)] [1, 2, 3, 4] rfl ?_
      refine j_ldc2 C hK_X11_102 dX11_report_36 ?_
      exact j_lret2 C Q dX11_report_39
    · subst e
      refine j_chk (fun h6 => ?_)
      refine j_iload_n C dX11_report_26 4 rfl ?_
      refine j_iconst C (0 : Int32) dX11_report_27 (by decide) ?_
      refine j_bipush C (7 : Int32) dX11_report_28 (by decide) ?_
      refine j_bind (fun r8 h7 => ?_)
      refine j_callSi C [.int p3, .int (0 : Int32), .int (7 : Int32)] (c_X11_within F h7) hM_X11_86 hT_X11_within hZ_X11 hC_X11_within dd_X11_within (by decide) ⟨rfl, rfl⟩ (by decide) (Nat.le_of_ble_eq_true rfl) dX11_report_30 rfl ?_
      refine j_if_ne C 40 dX11_report_33 (by decide) ?_ ?_
      · refine j_aload_n C dX11_report_40 1 rfl ?_
        refine j_get (ci := 11) C hU_X11 rfl (xin F (by decide)) (xe_0 F _ _) 5 (by decide) rfl hF_X11_59 dX11_report_41 ?_
        refine j_aload C dX11_report_44 0 rfl ?_
        refine j_iload_n C dX11_report_46 2 rfl ?_
        refine j_bind (fun σ10 h9 => ?_)
        refine j_callVv (ci := 7) C [.ref (eAd E a5), .int p1] (c_X7_reckon F h6 h9) hM_X11_249 hI_X7_reckon hS_X7_reckon hZ_X7 hC_X7_reckon (xin F (by decide)) (xe_22 F _ _) rfl rfl dd_X7_reckon (by decide) ⟨rfl, rfl⟩ (by decide) (Nat.le_of_ble_eq_true rfl) dX11_report_47 rfl ?_
        refine j_aload_n C dX11_report_50 1 rfl ?_
        refine j_get (ci := 11) C hU_X11 rfl (xin F (by decide)) (xe_0 F _ _) 5 (by decide) rfl hF_X11_59 dX11_report_51 ?_
        refine j_iload_n C dX11_report_54 4 rfl ?_
        refine j_bind (fun r12 h11 => ?_)
        refine j_callVl (ci := 7) C [.int p3] (c_X7_number F h11) hM_X11_253 hI_X7_number hS_X7_number hZ_X7 hC_X7_number (xin F (by decide)) (xe_22 F _ _) rfl rfl dd_X7_number (by decide) ⟨rfl, rfl⟩ (by decide) (Nat.le_of_ble_eq_true rfl) dX11_report_55 rfl ?_
        exact j_lret2 C Q dX11_report_58
      · refine j_ldc2 C hK_X11_102 dX11_report_36 ?_
        exact j_lret2 C Q dX11_report_39
set_option maxRecDepth 100000 in
set_option maxHeartbeats 4000000 in
theorem c_X11_report {E : EnvT} {n : Nat} {cs : Nat → ClassId} (F : XF E n cs) {σ : Mem} {p1 : Int32} {p2 : Int32} {p3 : Int32} {r : Int64 × Mem} (h : X11_report n σ p1 p2 p3 = some r) : CT E yX11_report cX11_report 5 (some .long) rm_X11_report [.ref (eAd E 0), .int p1, .int p2, .int p3] σ (RQl r.1 r.2) :=
  ct_X F (by decide) (Nat.le_of_ble_eq_true rfl) (fun E' ea F' C Q => by rw [← ea]; exact m_X11_report F'  C Q h)
theorem dd_X11_report : yX11_report.cls ≠ "java/lang/invoke/MethodHandle" ∧ yX11_report.cls ≠ "java/lang/invoke/VarHandle" ∧ (parseMethodDescriptor yX11_report.desc).map (fun d => d.parameters.length) = some 3 := by decide +kernel
def X11_valid (n : Nat) (σ : Mem) (p1 : Int32) : Option (Int32 × Mem) :=
  bindo (X2_find n σ p1) (fun r2 =>
  caseo r2 (some ((-1 : Int32), σ))
  (fun a3 => chk (isCh n a3) (bindo (X4_reckon n σ a3) (fun σ6 =>
  bindo (X4_verdict n σ6) (fun r8 =>
  some (r8, σ6))))))
abbrev rm_X11_valid : Room := { frames := 4, cells := 0, slots := 0, locals := 96 }
set_option maxRecDepth 100000 in
set_option maxHeartbeats 4000000 in
theorem m_X11_valid {E : EnvT} {n : Nat} {cs : Nat → ClassId} (F : XF E n cs) {p1 : Int32} {σ : Mem} (C : CX E cX11_valid RX11 3 rm_X11_valid) {r0 : Int32 × Mem} (Q : QE E 0 0 (some .int) (RQi r0.1 r0.2)) : J E 3 0 0 r0 (X11_valid n σ p1) σ 0 [(0, .ref (eAd E 0)), (1, .int p1)] [] := by

  unfold X11_valid
  refine j_aload_n C dX11_valid_0 0 rfl ?_
  refine j_get (ci := 11) C hU_X11 rfl (xin F (by decide)) (xe_0 F _ _) 2 (by decide) rfl hF_X11_34 dX11_valid_1 ?_
  refine j_iload_n C dX11_valid_4 1 rfl ?_
  refine j_bind (fun r2 h1 => ?_)
  refine j_callVq (ci := 2) C [.int p1] (c_X2_find F h1) hM_X11_208 hI_X2_find hS_X2_find hZ_X2 hC_X2_find (xin F (by decide)) (xe_6 F _ _) rfl rfl dd_X2_find (by decide) ⟨rfl, rfl⟩ (by decide) (Nat.le_of_ble_eq_true rfl) dX11_valid_5 rfl ?_
  refine j_astoreq_n (lv' := [(2, va_rf (Option.map (eAd E) r2)), (0, .ref (eAd E 0)), (1, .int p1)]) C dX11_valid_8 (by decide) rfl ?_
  refine j_aloadq_n C dX11_valid_9 0 rfl ?_
  refine j_ifnonnull C 15 dX11_valid_10 (by decide) (fun e => ?_) (fun a3 e => ?_)
  · refine j_lv [(0, .ref (eAd E 0)), (1, .int p1)] [1, 2] rfl ?_
    refine j_iconst C (-1 : Int32) dX11_valid_13 (by decide) ?_
    exact j_ireti2 C Q dX11_valid_14
  · subst e
    refine j_chk (fun h4 => ?_)
    refine j_aload_n C dX11_valid_15 1 rfl ?_
    refine j_get (ci := 11) C hU_X11 rfl (xin F (by decide)) (xe_0 F _ _) 6 (by decide) rfl hF_X11_68 dX11_valid_16 ?_
    refine j_aload_n C dX11_valid_19 0 rfl ?_
    refine j_bind (fun σ6 h5 => ?_)
    refine j_callVv (ci := 4) C [.ref (eAd E a3)] (c_X4_reckon F h4 h5) hM_X11_257 hI_X4_reckon hS_X4_reckon hZ_X4 hC_X4_reckon (xin F (by decide)) (xe_26 F _ _) rfl rfl dd_X4_reckon (by decide) ⟨rfl, rfl⟩ (by decide) (Nat.le_of_ble_eq_true rfl) dX11_valid_20 rfl ?_
    refine j_aload_n C dX11_valid_23 1 rfl ?_
    refine j_get (ci := 11) C hU_X11 rfl (xin F (by decide)) (xe_0 F _ _) 6 (by decide) rfl hF_X11_68 dX11_valid_24 ?_
    refine j_bind (fun r8 h7 => ?_)
    refine j_callVi (ci := 4) C [] (c_X4_verdict F h7) hM_X11_259 hI_X4_verdict hS_X4_verdict hZ_X4 hC_X4_verdict (xin F (by decide)) (xe_26 F _ _) rfl rfl dd_X4_verdict (by decide) ⟨rfl, rfl⟩ (by decide) (Nat.le_of_ble_eq_true rfl) dX11_valid_27 rfl ?_
    exact j_ireti2 C Q dX11_valid_30
set_option maxRecDepth 100000 in
set_option maxHeartbeats 4000000 in
theorem c_X11_valid {E : EnvT} {n : Nat} {cs : Nat → ClassId} (F : XF E n cs) {σ : Mem} {p1 : Int32} {r : Int32 × Mem} (h : X11_valid n σ p1 = some r) : CT E yX11_valid cX11_valid 3 (some .int) rm_X11_valid [.ref (eAd E 0), .int p1] σ (RQi r.1 r.2) :=
  ct_X F (by decide) (Nat.le_of_ble_eq_true rfl) (fun E' ea F' C Q => by rw [← ea]; exact m_X11_valid F'  C Q h)
theorem dd_X11_valid : yX11_valid.cls ≠ "java/lang/invoke/MethodHandle" ∧ yX11_valid.cls ≠ "java/lang/invoke/VarHandle" ∧ (parseMethodDescriptor yX11_valid.desc).map (fun d => d.parameters.length) = some 1 := by decide +kernel
def X11_law (n : Nat) (σ : Mem) (p1 : Int32) (p2 : Int32) : Option (Int64 × Mem) :=
  bindo (X2_find n σ p1) (fun r2 =>
  caseo r2 (some ((-9223372036854775808 : Int64), σ))
  (fun a3 => chk (isCh n a3) (bindo (X4_reckon n σ a3) (fun σ6 =>
  if p2 = (0 : Int32) then
  (some ((σ6.2 26 2), σ6))
  else
  if p2 = (1 : Int32) then
  (bindo (X4_a n σ6) (fun r8 =>
  some (r8, σ6)))
  else
  if p2 = (2 : Int32) then
  (bindo (X4_b n σ6) (fun r10 =>
  some (r10, σ6)))
  else
  if p2 = (3 : Int32) then
  (some ((σ6.2 26 3), σ6))
  else
  if p2 = (4 : Int32) then
  (some ((σ6.2 26 4), σ6))
  else
  (some ((-9223372036854775808 : Int64), σ6))))))
abbrev rm_X11_law : Room := { frames := 4, cells := 0, slots := 0, locals := 96 }
set_option maxRecDepth 100000 in
set_option maxHeartbeats 4000000 in
theorem m_X11_law {E : EnvT} {n : Nat} {cs : Nat → ClassId} (F : XF E n cs) {p1 : Int32} {p2 : Int32} {σ : Mem} (C : CX E cX11_law RX11 4 rm_X11_law) {r0 : Int64 × Mem} (Q : QE E 0 0 (some .long) (RQl r0.1 r0.2)) : J E 4 0 0 r0 (X11_law n σ p1 p2) σ 0 [(0, .ref (eAd E 0)), (1, .int p1), (2, .int p2)] [] := by

  unfold X11_law
  refine j_aload_n C dX11_law_0 0 rfl ?_
  refine j_get (ci := 11) C hU_X11 rfl (xin F (by decide)) (xe_0 F _ _) 2 (by decide) rfl hF_X11_34 dX11_law_1 ?_
  refine j_iload_n C dX11_law_4 1 rfl ?_
  refine j_bind (fun r2 h1 => ?_)
  refine j_callVq (ci := 2) C [.int p1] (c_X2_find F h1) hM_X11_208 hI_X2_find hS_X2_find hZ_X2 hC_X2_find (xin F (by decide)) (xe_6 F _ _) rfl rfl dd_X2_find (by decide) ⟨rfl, rfl⟩ (by decide) (Nat.le_of_ble_eq_true rfl) dX11_law_5 rfl ?_
  refine j_astoreq_n (lv' := [(3, va_rf (Option.map (eAd E) r2)), (0, .ref (eAd E 0)), (1, .int p1), (2, .int p2)]) C dX11_law_8 (by decide) rfl ?_
  refine j_aloadq_n C dX11_law_9 0 rfl ?_
  refine j_ifnonnull C 17 dX11_law_10 (by decide) (fun e => ?_) (fun a3 e => ?_)
  · refine j_lv [(0, .ref (eAd E 0)), (1, .int p1), (2, .int p2)] [1, 2, 3] rfl ?_
    refine j_ldc2 C hK_X11_102 dX11_law_13 ?_
    exact j_lret2 C Q dX11_law_16
  · subst e
    refine j_chk (fun h4 => ?_)
    refine j_aload_n C dX11_law_17 1 rfl ?_
    refine j_get (ci := 11) C hU_X11 rfl (xin F (by decide)) (xe_0 F _ _) 6 (by decide) rfl hF_X11_68 dX11_law_18 ?_
    refine j_aload_n C dX11_law_21 0 rfl ?_
    refine j_bind (fun σ6 h5 => ?_)
    refine j_callVv (ci := 4) C [.ref (eAd E a3)] (c_X4_reckon F h4 h5) hM_X11_257 hI_X4_reckon hS_X4_reckon hZ_X4 hC_X4_reckon (xin F (by decide)) (xe_26 F _ _) rfl rfl dd_X4_reckon (by decide) ⟨rfl, rfl⟩ (by decide) (Nat.le_of_ble_eq_true rfl) dX11_law_22 rfl ?_
    refine j_iload_n C dX11_law_25 3 rfl ?_
    refine j_ite (fun q0 => ?_) (fun q0 => ?_)
    · refine j_tsIn C (0 : Int32) 60 dX11_law_26 q0 (by decide) (by decide) rfl (by decide) ?_
      refine j_aload_n C dX11_law_60 1 rfl ?_
      refine j_get (ci := 11) C hU_X11 rfl (xin F (by decide)) (xe_0 F _ _) 6 (by decide) rfl hF_X11_68 dX11_law_61 ?_
      refine j_get (ci := 4) C hU_X4 rfl (xin F (by decide)) (xe_26 F _ _) 2 (by decide) rfl hF_X11_263 dX11_law_64 ?_
      exact j_lret2 C Q dX11_law_67
    refine j_ite (fun q1 => ?_) (fun q1 => ?_)
    · refine j_tsIn C (1 : Int32) 68 dX11_law_26 q1 (by decide) (by decide) rfl (by decide) ?_
      refine j_aload_n C dX11_law_68 1 rfl ?_
      refine j_get (ci := 11) C hU_X11 rfl (xin F (by decide)) (xe_0 F _ _) 6 (by decide) rfl hF_X11_68 dX11_law_69 ?_
      refine j_bind (fun r8 h7 => ?_)
      refine j_callVl (ci := 4) C [] (c_X4_a F h7) hM_X11_267 hI_X4_a hS_X4_a hZ_X4 hC_X4_a (xin F (by decide)) (xe_26 F _ _) rfl rfl dd_X4_a (by decide) ⟨rfl, rfl⟩ (by decide) (Nat.le_of_ble_eq_true rfl) dX11_law_72 rfl ?_
      exact j_lret2 C Q dX11_law_75
    refine j_ite (fun q2 => ?_) (fun q2 => ?_)
    · refine j_tsIn C (2 : Int32) 76 dX11_law_26 q2 (by decide) (by decide) rfl (by decide) ?_
      refine j_aload_n C dX11_law_76 1 rfl ?_
      refine j_get (ci := 11) C hU_X11 rfl (xin F (by decide)) (xe_0 F _ _) 6 (by decide) rfl hF_X11_68 dX11_law_77 ?_
      refine j_bind (fun r10 h9 => ?_)
      refine j_callVl (ci := 4) C [] (c_X4_b F h9) hM_X11_271 hI_X4_b hS_X4_b hZ_X4 hC_X4_b (xin F (by decide)) (xe_26 F _ _) rfl rfl dd_X4_b (by decide) ⟨rfl, rfl⟩ (by decide) (Nat.le_of_ble_eq_true rfl) dX11_law_80 rfl ?_
      exact j_lret2 C Q dX11_law_83
    refine j_ite (fun q3 => ?_) (fun q3 => ?_)
    · refine j_tsIn C (3 : Int32) 84 dX11_law_26 q3 (by decide) (by decide) rfl (by decide) ?_
      refine j_aload_n C dX11_law_84 1 rfl ?_
      refine j_get (ci := 11) C hU_X11 rfl (xin F (by decide)) (xe_0 F _ _) 6 (by decide) rfl hF_X11_68 dX11_law_85 ?_
      refine j_get (ci := 4) C hU_X4 rfl (xin F (by decide)) (xe_26 F _ _) 3 (by decide) rfl hF_X11_274 dX11_law_88 ?_
      exact j_lret2 C Q dX11_law_91
    refine j_ite (fun q4 => ?_) (fun q4 => ?_)
    · refine j_tsIn C (4 : Int32) 92 dX11_law_26 q4 (by decide) (by decide) rfl (by decide) ?_
      refine j_aload_n C dX11_law_92 1 rfl ?_
      refine j_get (ci := 11) C hU_X11 rfl (xin F (by decide)) (xe_0 F _ _) 6 (by decide) rfl hF_X11_68 dX11_law_93 ?_
      refine j_get (ci := 4) C hU_X4 rfl (xin F (by decide)) (xe_26 F _ _) 4 (by decide) rfl hF_X11_277 dX11_law_96 ?_
      exact j_lret2 C Q dX11_law_99
    refine j_tsOut C 100 dX11_law_26 (by have z0 := lv_neT (k := (0 : Int32)) (a := 0) q0 (by decide); have z1 := lv_neT (k := (1 : Int32)) (a := 1) q1 (by decide); have z2 := lv_neT (k := (2 : Int32)) (a := 2) q2 (by decide); have z3 := lv_neT (k := (3 : Int32)) (a := 3) q3 (by decide); have z4 := lv_neT (k := (4 : Int32)) (a := 4) q4 (by decide); omega) (by decide) ?_
    refine j_ldc2 C hK_X11_102 dX11_law_100 ?_
    exact j_lret2 C Q dX11_law_103
set_option maxRecDepth 100000 in
set_option maxHeartbeats 4000000 in
theorem c_X11_law {E : EnvT} {n : Nat} {cs : Nat → ClassId} (F : XF E n cs) {σ : Mem} {p1 : Int32} {p2 : Int32} {r : Int64 × Mem} (h : X11_law n σ p1 p2 = some r) : CT E yX11_law cX11_law 4 (some .long) rm_X11_law [.ref (eAd E 0), .int p1, .int p2] σ (RQl r.1 r.2) :=
  ct_X F (by decide) (Nat.le_of_ble_eq_true rfl) (fun E' ea F' C Q => by rw [← ea]; exact m_X11_law F'  C Q h)
theorem dd_X11_law : yX11_law.cls ≠ "java/lang/invoke/MethodHandle" ∧ yX11_law.cls ≠ "java/lang/invoke/VarHandle" ∧ (parseMethodDescriptor yX11_law.desc).map (fun d => d.parameters.length) = some 2 := by decide +kernel
def X11_sheet (n : Nat) (σ : Mem) (p1 : Int32) (p2 : Int32) (p3 : Int32) : Option (Int32 × Mem) :=
  lete (wI σ 0 9 (0 : Int32)) (fun σ1 =>
  bindo (X11_findSheet n σ1 p1) (fun r3 =>
  caseo r3 (some ((-1 : Int32), σ1))
  (fun a4 => chk (isSh a4) (bindo (X11_within p2 (0 : Int32) (2 : Int32)) (fun r7 =>
  if r7 = (0 : Int32) then
  (some ((-2 : Int32), σ1))
  else
  (if p3 ≤ (40 : Int32) then
  (if (0 : Int32) ≤ p3 then
  (bindo (X9_renew n a4 σ1 p2 p3) (fun σ9 =>
  some ((1 : Int32), σ9)))
  else
  (bindo (X11_faulted n σ1 (4 : Int32)) (fun a11 =>
  some (a11.1, a11.2))))
  else
  (some ((-2 : Int32), σ1))))))))
abbrev rm_X11_sheet : Room := { frames := 2, cells := 0, slots := 0, locals := 43 }
set_option maxRecDepth 100000 in
set_option maxHeartbeats 4000000 in
theorem m_X11_sheet {E : EnvT} {n : Nat} {cs : Nat → ClassId} (F : XF E n cs) {p1 : Int32} {p2 : Int32} {p3 : Int32} {σ : Mem} (C : CX E cX11_sheet RX11 5 rm_X11_sheet) {r0 : Int32 × Mem} (Q : QE E 0 0 (some .int) (RQi r0.1 r0.2)) : J E 5 0 0 r0 (X11_sheet n σ p1 p2 p3) σ 0 [(0, .ref (eAd E 0)), (1, .int p1), (2, .int p2), (3, .int p3)] [] := by

  unfold X11_sheet
  refine j_aload_n C dX11_sheet_0 0 rfl ?_
  refine j_iconst C (0 : Int32) dX11_sheet_1 (by decide) ?_
  refine j_put (ci := 11) C hU_X11 tyX11_ok nmX11 rfl (xin F (by decide)) (xe_0 F _ _) 9 (by decide) (Nat.le_of_ble_eq_true rfl) (by rw [wI_o, wI_2]; exact (xe_0 F _ _)) (fun o' h' => ⟨wI_ne _ _ _ h', rfl⟩) rfl (by first | rfl | decide) (by first | rfl | decide) hF_X11_11 dX11_sheet_2 (fun σ1 => ?_)
  refine j_aload_n C dX11_sheet_5 0 rfl ?_
  refine j_iload_n C dX11_sheet_6 1 rfl ?_
  refine j_bind (fun r3 h2 => ?_)
  refine j_callVq (ci := 11) C [.int p1] (c_X11_findSheet F h2) hM_X11_122 hI_X11_findSheet hS_X11_findSheet hZ_X11 hC_X11_findSheet (xin F (by decide)) (xe_0 F _ _) rfl rfl dd_X11_findSheet (by decide) ⟨rfl, rfl⟩ (by decide) (Nat.le_of_ble_eq_true rfl) dX11_sheet_7 rfl ?_
  refine j_astoreq (lv' := [(4, va_rf (Option.map (eAd E) r3)), (0, .ref (eAd E 0)), (1, .int p1), (2, .int p2), (3, .int p3)]) C dX11_sheet_10 (by decide) rfl ?_
  refine j_aloadq C dX11_sheet_12 0 rfl ?_
  refine j_ifnonnull C 19 dX11_sheet_14 (by decide) (fun e => ?_) (fun a4 e => ?_)
  · refine j_lv [(0, .ref (eAd E 0)), (1, .int p1), (2, .int p2), (3, .int p3)] [1, 2, 3, 4] rfl ?_
    refine j_iconst C (-1 : Int32) dX11_sheet_17 (by decide) ?_
    exact j_ireti2 C Q dX11_sheet_18
  · subst e
    refine j_chk (fun h5 => ?_)
    refine j_iload_n C dX11_sheet_19 3 rfl ?_
    refine j_iconst C (0 : Int32) dX11_sheet_20 (by decide) ?_
    refine j_iconst C (2 : Int32) dX11_sheet_21 (by decide) ?_
    refine j_bind (fun r7 h6 => ?_)
    refine j_callSi C [.int p2, .int (0 : Int32), .int (2 : Int32)] (c_X11_within F h6) hM_X11_86 hT_X11_within hZ_X11 hC_X11_within dd_X11_within (by decide) ⟨rfl, rfl⟩ (by decide) (Nat.le_of_ble_eq_true rfl) dX11_sheet_22 rfl ?_
    refine j_if_eq C 34 dX11_sheet_25 (by decide) ?_ ?_
    · refine j_bipush C (-2 : Int32) dX11_sheet_34 (by decide) ?_
      exact j_ireti2 C Q dX11_sheet_36
    · refine j_iload_n C dX11_sheet_28 4 rfl ?_
      refine j_bipush C (40 : Int32) dX11_sheet_29 (by decide) ?_
      refine j_icmp_le C 37 dX11_sheet_31 (by decide) ?_ ?_
      · refine j_iload_n C dX11_sheet_37 4 rfl ?_
        refine j_if_ge C 47 dX11_sheet_38 (by decide) ?_ ?_
        · refine j_aload C dX11_sheet_47 0 rfl ?_
          refine j_iload_n C dX11_sheet_49 3 rfl ?_
          refine j_iload_n C dX11_sheet_50 4 rfl ?_
          refine j_bind (fun σ9 h8 => ?_)
          refine j_callVv (ci := 9) C [.int p2, .int p3] (c_X9_renew F h5 h8) hM_X11_280 hI_X9_renew hS_X9_renew hZ_X9 hC_X9_renew (xin_Sh F h5) (xe_Sh F h5 _ _) rfl rfl dd_X9_renew (by decide) ⟨rfl, rfl⟩ (by decide) (Nat.le_of_ble_eq_true rfl) dX11_sheet_51 rfl ?_
          refine j_iconst C (1 : Int32) dX11_sheet_54 (by decide) ?_
          exact j_ireti2 C Q dX11_sheet_55
        · refine j_aload_n C dX11_sheet_41 1 rfl ?_
          refine j_iconst C (4 : Int32) dX11_sheet_42 (by decide) ?_
          refine j_bind (fun a11 h10 => ?_)
          refine j_callVi (ci := 11) C [.int (4 : Int32)] (c_X11_faulted F h10) hM_X11_135 hI_X11_faulted hS_X11_faulted hZ_X11 hC_X11_faulted (xin F (by decide)) (xe_0 F _ _) rfl rfl dd_X11_faulted (by decide) ⟨rfl, rfl⟩ (by decide) (Nat.le_of_ble_eq_true rfl) dX11_sheet_43 rfl ?_
          exact j_ireti2 C Q dX11_sheet_46
      · refine j_bipush C (-2 : Int32) dX11_sheet_34 (by decide) ?_
        exact j_ireti2 C Q dX11_sheet_36
set_option maxRecDepth 100000 in
set_option maxHeartbeats 4000000 in
theorem c_X11_sheet {E : EnvT} {n : Nat} {cs : Nat → ClassId} (F : XF E n cs) {σ : Mem} {p1 : Int32} {p2 : Int32} {p3 : Int32} {r : Int32 × Mem} (h : X11_sheet n σ p1 p2 p3 = some r) : CT E yX11_sheet cX11_sheet 5 (some .int) rm_X11_sheet [.ref (eAd E 0), .int p1, .int p2, .int p3] σ (RQi r.1 r.2) :=
  ct_X F (by decide) (Nat.le_of_ble_eq_true rfl) (fun E' ea F' C Q => by rw [← ea]; exact m_X11_sheet F'  C Q h)
theorem dd_X11_sheet : yX11_sheet.cls ≠ "java/lang/invoke/MethodHandle" ∧ yX11_sheet.cls ≠ "java/lang/invoke/VarHandle" ∧ (parseMethodDescriptor yX11_sheet.desc).map (fun d => d.parameters.length) = some 3 := by decide +kernel
def X11_drop_b24 (n : Nat) (σ : Mem) (v2 : Nat) (s0 : Int32) : Option (Int32 × Mem) :=
  lete (wI σ v2 3 (0 : Int32)) (fun σ1 =>
  some (s0, σ1))
def X11_drop (n : Nat) (σ : Mem) (p1 : Int32) : Option (Int32 × Mem) :=
  bindo (X11_findSheet n σ p1) (fun r2 =>
  caseo r2 (some ((-1 : Int32), σ))
  (fun a3 => chk (isSh a3) (if (σ.1 a3 3) = (0 : Int32) then
  (X11_drop_b24 n σ a3 (0 : Int32))
  else
  (X11_drop_b24 n σ a3 (1 : Int32)))))
abbrev rm_X11_drop : Room := { frames := 2, cells := 0, slots := 0, locals := 43 }
set_option maxRecDepth 100000 in
set_option maxHeartbeats 4000000 in
theorem m_X11_drop {E : EnvT} {n : Nat} {cs : Nat → ClassId} (F : XF E n cs) {p1 : Int32} {σ : Mem} (C : CX E cX11_drop RX11 4 rm_X11_drop) {r0 : Int32 × Mem} (Q : QE E 0 0 (some .int) (RQi r0.1 r0.2)) : J E 4 0 0 r0 (X11_drop n σ p1) σ 0 [(0, .ref (eAd E 0)), (1, .int p1)] [] := by
  have hB24 : ∀ (σ : Mem) (v2 : Nat) (s0 : Int32) (hv2 : isSh v2 = true), J E 4 0 0 r0 (X11_drop_b24 n σ v2 s0) σ 24 [(2, .ref (eAd E v2))] [.int s0] := by
    intro σ v2 s0 hv2
    unfold X11_drop_b24
    refine j_istore_n (lv' := [(3, .int s0), (2, .ref (eAd E v2))]) C dX11_drop_24 (by decide) rfl ?_
    refine j_aload_n C dX11_drop_25 1 rfl ?_
    refine j_iconst C (0 : Int32) dX11_drop_26 (by decide) ?_
    refine j_put (ci := 9) C hU_X9 tyX9_ok nmX9 rfl (xin_Sh F hv2) (xe_Sh F hv2 _ _) 3 (by decide) (Nat.le_of_ble_eq_true rfl) (by rw [wI_o, wI_2]; exact (xe_Sh F hv2 _ _)) (fun o' h' => ⟨wI_ne _ _ _ h', rfl⟩) rfl (by first | rfl | decide) (by first | rfl | decide) hF_X11_283 dX11_drop_27 (fun σ1 => ?_)
    refine j_iload_n C dX11_drop_30 0 rfl ?_
    exact j_ireti2 C Q dX11_drop_31
  unfold X11_drop
  refine j_aload_n C dX11_drop_0 0 rfl ?_
  refine j_iload_n C dX11_drop_1 1 rfl ?_
  refine j_bind (fun r2 h1 => ?_)
  refine j_callVq (ci := 11) C [.int p1] (c_X11_findSheet F h1) hM_X11_122 hI_X11_findSheet hS_X11_findSheet hZ_X11 hC_X11_findSheet (xin F (by decide)) (xe_0 F _ _) rfl rfl dd_X11_findSheet (by decide) ⟨rfl, rfl⟩ (by decide) (Nat.le_of_ble_eq_true rfl) dX11_drop_2 rfl ?_
  refine j_astoreq_n (lv' := [(2, va_rf (Option.map (eAd E) r2)), (0, .ref (eAd E 0)), (1, .int p1)]) C dX11_drop_5 (by decide) rfl ?_
  refine j_aloadq_n C dX11_drop_6 0 rfl ?_
  refine j_ifnonnull C 12 dX11_drop_7 (by decide) (fun e => ?_) (fun a3 e => ?_)
  · refine j_lv [(0, .ref (eAd E 0)), (1, .int p1)] [1, 2] rfl ?_
    refine j_iconst C (-1 : Int32) dX11_drop_10 (by decide) ?_
    exact j_ireti2 C Q dX11_drop_11
  · subst e
    refine j_chk (fun h4 => ?_)
    refine j_aload_n C dX11_drop_12 0 rfl ?_
    refine j_get (ci := 9) C hU_X9 rfl (xin_Sh F h4) (xe_Sh F h4 _ _) 3 (by decide) rfl hF_X11_283 dX11_drop_13 ?_
    refine j_if_eq C 23 dX11_drop_16 (by decide) ?_ ?_
    · refine j_iconst C (0 : Int32) dX11_drop_23 (by decide) ?_
      refine j_lv [(2, .ref (eAd E a3))] [0] rfl ?_
      exact hB24 σ a3 (0 : Int32) h4
    · refine j_iconst C (1 : Int32) dX11_drop_19 (by decide) ?_
      refine j_goto C 24 dX11_drop_20 (by decide) ?_
      refine j_lv [(2, .ref (eAd E a3))] [0] rfl ?_
      exact hB24 σ a3 (1 : Int32) h4
set_option maxRecDepth 100000 in
set_option maxHeartbeats 4000000 in
theorem c_X11_drop {E : EnvT} {n : Nat} {cs : Nat → ClassId} (F : XF E n cs) {σ : Mem} {p1 : Int32} {r : Int32 × Mem} (h : X11_drop n σ p1 = some r) : CT E yX11_drop cX11_drop 4 (some .int) rm_X11_drop [.ref (eAd E 0), .int p1] σ (RQi r.1 r.2) :=
  ct_X F (by decide) (Nat.le_of_ble_eq_true rfl) (fun E' ea F' C Q => by rw [← ea]; exact m_X11_drop F'  C Q h)
theorem dd_X11_drop : yX11_drop.cls ≠ "java/lang/invoke/MethodHandle" ∧ yX11_drop.cls ≠ "java/lang/invoke/VarHandle" ∧ (parseMethodDescriptor yX11_drop.desc).map (fun d => d.parameters.length) = some 1 := by decide +kernel
def X11_put_b38 (n : Nat) (σ : Mem) (v2 : Int32) (v3 : Int32) (v4 : Nat) (s0 : Int32) : Option (Int32 × Mem) :=
  if s0 = (0 : Int32) then
  (bindo (X9_write n v4 σ v2 v3) (fun σ2 =>
  some ((1 : Int32), σ2)))
  else
  (bindo (X11_faulted n σ s0) (fun a4 =>
  some (a4.1, a4.2)))
def X11_put (n : Nat) (σ : Mem) (p1 : Int32) (p2 : Int32) (p3 : Int32) : Option (Int32 × Mem) :=
  lete (wI σ 0 9 (0 : Int32)) (fun σ1 =>
  bindo (X11_findSheet n σ1 p1) (fun r3 =>
  caseo r3 (some ((-1 : Int32), σ1))
  (fun a4 => chk (isSh a4) (if (σ1.1 a4 3) = (0 : Int32) then
  (X11_put_b38 n σ1 p2 p3 a4 (1 : Int32))
  else
  (bindo (X9_faultFrom n a4 σ1 p2 (1 : Int64)) (fun r7 =>
  X11_put_b38 n σ1 p2 p3 a4 r7))))))
abbrev rm_X11_put : Room := { frames := 2, cells := 0, slots := 0, locals := 44 }
set_option maxRecDepth 100000 in
set_option maxHeartbeats 4000000 in
theorem m_X11_put {E : EnvT} {n : Nat} {cs : Nat → ClassId} (F : XF E n cs) {p1 : Int32} {p2 : Int32} {p3 : Int32} {σ : Mem} (C : CX E cX11_put RX11 6 rm_X11_put) {r0 : Int32 × Mem} (Q : QE E 0 0 (some .int) (RQi r0.1 r0.2)) : J E 6 0 0 r0 (X11_put n σ p1 p2 p3) σ 0 [(0, .ref (eAd E 0)), (1, .int p1), (2, .int p2), (3, .int p3)] [] := by
  have hB38 : ∀ (σ : Mem) (v2 : Int32) (v3 : Int32) (v4 : Nat) (s0 : Int32) (hv4 : isSh v4 = true), J E 6 0 0 r0 (X11_put_b38 n σ v2 v3 v4 s0) σ 38 [(0, .ref (eAd E 0)), (2, .int v2), (3, .int v3), (4, .ref (eAd E v4))] [.int s0] := by
    intro σ v2 v3 v4 s0 hv4
    unfold X11_put_b38
    refine j_istore (lv' := [(5, .int s0), (0, .ref (eAd E 0)), (2, .int v2), (3, .int v3), (4, .ref (eAd E v4))]) C dX11_put_38 (by decide) rfl ?_
    refine j_iload C dX11_put_40 0 rfl ?_
    refine j_if_eq C 52 dX11_put_42 (by decide) ?_ ?_
    · refine j_aload C dX11_put_52 4 rfl ?_
      refine j_iload_n C dX11_put_54 2 rfl ?_
      refine j_iload_n C dX11_put_55 3 rfl ?_
      refine j_bind (fun σ2 h1 => ?_)
      refine j_callVv (ci := 9) C [.int v2, .int v3] (c_X9_write F hv4 h1) hM_X11_286 hI_X9_write hS_X9_write hZ_X9 hC_X9_write (xin_Sh F hv4) (xe_Sh F hv4 _ _) rfl rfl dd_X9_write (by decide) ⟨rfl, rfl⟩ (by decide) (Nat.le_of_ble_eq_true rfl) dX11_put_56 rfl ?_
      refine j_iconst C (1 : Int32) dX11_put_59 (by decide) ?_
      exact j_ireti2 C Q dX11_put_60
    · refine j_aload_n C dX11_put_45 1 rfl ?_
      refine j_iload C dX11_put_46 0 rfl ?_
      refine j_bind (fun a4 h3 => ?_)
      refine j_callVi (ci := 11) C [.int s0] (c_X11_faulted F h3) hM_X11_135 hI_X11_faulted hS_X11_faulted hZ_X11 hC_X11_faulted (xin F (by decide)) (xe_0 F _ _) rfl rfl dd_X11_faulted (by decide) ⟨rfl, rfl⟩ (by decide) (Nat.le_of_ble_eq_true rfl) dX11_put_48 rfl ?_
      exact j_ireti2 C Q dX11_put_51
  unfold X11_put
  refine j_aload_n C dX11_put_0 0 rfl ?_
  refine j_iconst C (0 : Int32) dX11_put_1 (by decide) ?_
  refine j_put (ci := 11) C hU_X11 tyX11_ok nmX11 rfl (xin F (by decide)) (xe_0 F _ _) 9 (by decide) (Nat.le_of_ble_eq_true rfl) (by rw [wI_o, wI_2]; exact (xe_0 F _ _)) (fun o' h' => ⟨wI_ne _ _ _ h', rfl⟩) rfl (by first | rfl | decide) (by first | rfl | decide) hF_X11_11 dX11_put_2 (fun σ1 => ?_)
  refine j_aload_n C dX11_put_5 0 rfl ?_
  refine j_iload_n C dX11_put_6 1 rfl ?_
  refine j_bind (fun r3 h2 => ?_)
  refine j_callVq (ci := 11) C [.int p1] (c_X11_findSheet F h2) hM_X11_122 hI_X11_findSheet hS_X11_findSheet hZ_X11 hC_X11_findSheet (xin F (by decide)) (xe_0 F _ _) rfl rfl dd_X11_findSheet (by decide) ⟨rfl, rfl⟩ (by decide) (Nat.le_of_ble_eq_true rfl) dX11_put_7 rfl ?_
  refine j_astoreq (lv' := [(4, va_rf (Option.map (eAd E) r3)), (0, .ref (eAd E 0)), (1, .int p1), (2, .int p2), (3, .int p3)]) C dX11_put_10 (by decide) rfl ?_
  refine j_aloadq C dX11_put_12 0 rfl ?_
  refine j_ifnonnull C 19 dX11_put_14 (by decide) (fun e => ?_) (fun a4 e => ?_)
  · refine j_lv [(0, .ref (eAd E 0)), (1, .int p1), (2, .int p2), (3, .int p3)] [1, 2, 3, 4] rfl ?_
    refine j_iconst C (-1 : Int32) dX11_put_17 (by decide) ?_
    exact j_ireti2 C Q dX11_put_18
  · subst e
    refine j_chk (fun h5 => ?_)
    refine j_aload C dX11_put_19 0 rfl ?_
    refine j_get (ci := 9) C hU_X9 rfl (xin_Sh F h5) (xe_Sh F h5 _ _) 3 (by decide) rfl hF_X11_283 dX11_put_21 ?_
    refine j_if_eq C 37 dX11_put_24 (by decide) ?_ ?_
    · refine j_iconst C (1 : Int32) dX11_put_37 (by decide) ?_
      refine j_lv [(0, .ref (eAd E 0)), (2, .int p2), (3, .int p3), (4, .ref (eAd E a4))] [1, 3, 4, 0] rfl ?_
      exact hB38 σ1 p2 p3 a4 (1 : Int32) h5
    · refine j_aload C dX11_put_27 0 rfl ?_
      refine j_iload_n C dX11_put_29 3 rfl ?_
      refine j_lconst C (1 : Int64) dX11_put_30 (by decide) ?_
      refine j_bind (fun r7 h6 => ?_)
      refine j_callVi (ci := 9) C [.int p2, .long (1 : Int64)] (c_X9_faultFrom F h5 h6) hM_X11_131 hI_X9_faultFrom hS_X9_faultFrom hZ_X9 hC_X9_faultFrom (xin_Sh F h5) (xe_Sh F h5 _ _) rfl rfl dd_X9_faultFrom (by decide) ⟨rfl, rfl⟩ (by decide) (Nat.le_of_ble_eq_true rfl) dX11_put_31 rfl ?_
      refine j_goto C 38 dX11_put_34 (by decide) ?_
      refine j_lv [(0, .ref (eAd E 0)), (2, .int p2), (3, .int p3), (4, .ref (eAd E a4))] [1, 3, 4, 0] rfl ?_
      exact hB38 σ1 p2 p3 a4 r7 h5
set_option maxRecDepth 100000 in
set_option maxHeartbeats 4000000 in
theorem c_X11_put {E : EnvT} {n : Nat} {cs : Nat → ClassId} (F : XF E n cs) {σ : Mem} {p1 : Int32} {p2 : Int32} {p3 : Int32} {r : Int32 × Mem} (h : X11_put n σ p1 p2 p3 = some r) : CT E yX11_put cX11_put 6 (some .int) rm_X11_put [.ref (eAd E 0), .int p1, .int p2, .int p3] σ (RQi r.1 r.2) :=
  ct_X F (by decide) (Nat.le_of_ble_eq_true rfl) (fun E' ea F' C Q => by rw [← ea]; exact m_X11_put F'  C Q h)
theorem dd_X11_put : yX11_put.cls ≠ "java/lang/invoke/MethodHandle" ∧ yX11_put.cls ≠ "java/lang/invoke/VarHandle" ∧ (parseMethodDescriptor yX11_put.desc).map (fun d => d.parameters.length) = some 3 := by decide +kernel
def X11_at_b52 (n : Nat) (σ : Mem) (v2 : Int32) (v4 : Nat) (v5 : Int32) : Option (Int64 × Mem) :=
  if v5 = (0 : Int32) then
  (bindo (X9_cell n v4 σ v2) (fun r2 =>
  some ((r2.toInt64), σ)))
  else
  (lete (wI σ 0 9 v5) (fun σ3 =>
  some ((-9223372036854775808 : Int64), σ3)))
def X11_at (n : Nat) (σ : Mem) (p1 : Int32) (p2 : Int32) (p3 : Int32) : Option (Int64 × Mem) :=
  lete (wI σ 0 9 (0 : Int32)) (fun σ1 =>
  bindo (X11_findSheet n σ1 p1) (fun r3 =>
  caseo r3 (some ((-9223372036854775808 : Int64), σ1))
  (fun a4 => chk (isSh a4) (bindo (X11_within p3 (0 : Int32) (2 : Int32)) (fun r7 =>
  if ¬ r7 = (0 : Int32) then
  (bindo (X9_faultAs n a4 σ1 p3) (fun r9 =>
  if ¬ r9 = (0 : Int32) then
  (X11_at_b52 n σ1 p2 a4 r9)
  else
  (bindo (X9_faultFrom n a4 σ1 p2 (1 : Int64)) (fun r11 =>
  X11_at_b52 n σ1 p2 a4 r11))))
  else
  (some ((-9223372036854775808 : Int64), σ1)))))))
abbrev rm_X11_at : Room := { frames := 2, cells := 0, slots := 0, locals := 43 }
set_option maxRecDepth 100000 in
set_option maxHeartbeats 4000000 in
theorem m_X11_at {E : EnvT} {n : Nat} {cs : Nat → ClassId} (F : XF E n cs) {p1 : Int32} {p2 : Int32} {p3 : Int32} {σ : Mem} (C : CX E cX11_at RX11 6 rm_X11_at) {r0 : Int64 × Mem} (Q : QE E 0 0 (some .long) (RQl r0.1 r0.2)) : J E 6 0 0 r0 (X11_at n σ p1 p2 p3) σ 0 [(0, .ref (eAd E 0)), (1, .int p1), (2, .int p2), (3, .int p3)] [] := by
  have hB52 : ∀ (σ : Mem) (v2 : Int32) (v4 : Nat) (v5 : Int32) (hv4 : isSh v4 = true), J E 6 0 0 r0 (X11_at_b52 n σ v2 v4 v5) σ 52 [(0, .ref (eAd E 0)), (2, .int v2), (4, .ref (eAd E v4)), (5, .int v5)] [] := by
    intro σ v2 v4 v5 hv4
    unfold X11_at_b52
    refine j_iload C dX11_at_52 3 rfl ?_
    refine j_if_eq C 67 dX11_at_54 (by decide) ?_ ?_
    · refine j_aload C dX11_at_67 2 rfl ?_
      refine j_iload_n C dX11_at_69 1 rfl ?_
      refine j_bind (fun r2 h1 => ?_)
      refine j_callVi (ci := 9) C [.int v2] (c_X9_cell F hv4 h1) hM_X11_289 hI_X9_cell hS_X9_cell hZ_X9 hC_X9_cell (xin_Sh F hv4) (xe_Sh F hv4 _ _) rfl rfl dd_X9_cell (by decide) ⟨rfl, rfl⟩ (by decide) (Nat.le_of_ble_eq_true rfl) dX11_at_70 rfl ?_
      refine j_i2l C dX11_at_73 ?_
      exact j_lret2 C Q dX11_at_74
    · refine j_aload_n C dX11_at_57 0 rfl ?_
      refine j_iload C dX11_at_58 3 rfl ?_
      refine j_put (ci := 11) C hU_X11 tyX11_ok nmX11 rfl (xin F (by decide)) (xe_0 F _ _) 9 (by decide) (Nat.le_of_ble_eq_true rfl) (by rw [wI_o, wI_2]; exact (xe_0 F _ _)) (fun o' h' => ⟨wI_ne _ _ _ h', rfl⟩) rfl (by first | rfl | decide) (by first | rfl | decide) hF_X11_11 dX11_at_60 (fun σ3 => ?_)
      refine j_ldc2 C hK_X11_102 dX11_at_63 ?_
      exact j_lret2 C Q dX11_at_66
  unfold X11_at
  refine j_aload_n C dX11_at_0 0 rfl ?_
  refine j_iconst C (0 : Int32) dX11_at_1 (by decide) ?_
  refine j_put (ci := 11) C hU_X11 tyX11_ok nmX11 rfl (xin F (by decide)) (xe_0 F _ _) 9 (by decide) (Nat.le_of_ble_eq_true rfl) (by rw [wI_o, wI_2]; exact (xe_0 F _ _)) (fun o' h' => ⟨wI_ne _ _ _ h', rfl⟩) rfl (by first | rfl | decide) (by first | rfl | decide) hF_X11_11 dX11_at_2 (fun σ1 => ?_)
  refine j_aload_n C dX11_at_5 0 rfl ?_
  refine j_iload_n C dX11_at_6 1 rfl ?_
  refine j_bind (fun r3 h2 => ?_)
  refine j_callVq (ci := 11) C [.int p1] (c_X11_findSheet F h2) hM_X11_122 hI_X11_findSheet hS_X11_findSheet hZ_X11 hC_X11_findSheet (xin F (by decide)) (xe_0 F _ _) rfl rfl dd_X11_findSheet (by decide) ⟨rfl, rfl⟩ (by decide) (Nat.le_of_ble_eq_true rfl) dX11_at_7 rfl ?_
  refine j_astoreq (lv' := [(4, va_rf (Option.map (eAd E) r3)), (0, .ref (eAd E 0)), (1, .int p1), (2, .int p2), (3, .int p3)]) C dX11_at_10 (by decide) rfl ?_
  refine j_aloadq C dX11_at_12 0 rfl ?_
  refine j_ifnull C 26 dX11_at_14 (by decide) (fun e => ?_) (fun a4 e => ?_)
  · refine j_lv [(0, .ref (eAd E 0)), (1, .int p1), (2, .int p2), (3, .int p3)] [1, 2, 3, 4] rfl ?_
    refine j_ldc2 C hK_X11_102 dX11_at_26 ?_
    exact j_lret2 C Q dX11_at_29
  · subst e
    refine j_chk (fun h5 => ?_)
    refine j_iload_n C dX11_at_17 4 rfl ?_
    refine j_iconst C (0 : Int32) dX11_at_18 (by decide) ?_
    refine j_iconst C (2 : Int32) dX11_at_19 (by decide) ?_
    refine j_bind (fun r7 h6 => ?_)
    refine j_callSi C [.int p3, .int (0 : Int32), .int (2 : Int32)] (c_X11_within F h6) hM_X11_86 hT_X11_within hZ_X11 hC_X11_within dd_X11_within (by decide) ⟨rfl, rfl⟩ (by decide) (Nat.le_of_ble_eq_true rfl) dX11_at_20 rfl ?_
    refine j_if_ne C 30 dX11_at_23 (by decide) ?_ ?_
    · refine j_aload C dX11_at_30 0 rfl ?_
      refine j_iload_n C dX11_at_32 4 rfl ?_
      refine j_bind (fun r9 h8 => ?_)
      refine j_callVi (ci := 9) C [.int p3] (c_X9_faultAs F h5 h8) hM_X11_126 hI_X9_faultAs hS_X9_faultAs hZ_X9 hC_X9_faultAs (xin_Sh F h5) (xe_Sh F h5 _ _) rfl rfl dd_X9_faultAs (by decide) ⟨rfl, rfl⟩ (by decide) (Nat.le_of_ble_eq_true rfl) dX11_at_33 rfl ?_
      refine j_istore (lv' := [(5, .int r9), (4, .ref (eAd E a4)), (0, .ref (eAd E 0)), (1, .int p1), (2, .int p2), (3, .int p3)]) C dX11_at_36 (by decide) rfl ?_
      refine j_iload C dX11_at_38 0 rfl ?_
      refine j_if_ne C 52 dX11_at_40 (by decide) ?_ ?_
      · refine j_lv [(0, .ref (eAd E 0)), (2, .int p2), (4, .ref (eAd E a4)), (5, .int r9)] [2, 4, 1, 0] rfl ?_
        exact hB52 σ1 p2 a4 r9 h5
      · refine j_aload C dX11_at_43 1 rfl ?_
        refine j_iload_n C dX11_at_45 4 rfl ?_
        refine j_lconst C (1 : Int64) dX11_at_46 (by decide) ?_
        refine j_bind (fun r11 h10 => ?_)
        refine j_callVi (ci := 9) C [.int p2, .long (1 : Int64)] (c_X9_faultFrom F h5 h10) hM_X11_131 hI_X9_faultFrom hS_X9_faultFrom hZ_X9 hC_X9_faultFrom (xin_Sh F h5) (xe_Sh F h5 _ _) rfl rfl dd_X9_faultFrom (by decide) ⟨rfl, rfl⟩ (by decide) (Nat.le_of_ble_eq_true rfl) dX11_at_47 rfl ?_
        refine j_istore (lv' := [(5, .int r11), (4, .ref (eAd E a4)), (0, .ref (eAd E 0)), (1, .int p1), (2, .int p2), (3, .int p3)]) C dX11_at_50 (by decide) rfl ?_
        refine j_lv [(0, .ref (eAd E 0)), (2, .int p2), (4, .ref (eAd E a4)), (5, .int r11)] [2, 4, 1, 0] rfl ?_
        exact hB52 σ1 p2 a4 r11 h5
    · refine j_ldc2 C hK_X11_102 dX11_at_26 ?_
      exact j_lret2 C Q dX11_at_29
set_option maxRecDepth 100000 in
set_option maxHeartbeats 4000000 in
theorem c_X11_at {E : EnvT} {n : Nat} {cs : Nat → ClassId} (F : XF E n cs) {σ : Mem} {p1 : Int32} {p2 : Int32} {p3 : Int32} {r : Int64 × Mem} (h : X11_at n σ p1 p2 p3 = some r) : CT E yX11_at cX11_at 6 (some .long) rm_X11_at [.ref (eAd E 0), .int p1, .int p2, .int p3] σ (RQl r.1 r.2) :=
  ct_X F (by decide) (Nat.le_of_ble_eq_true rfl) (fun E' ea F' C Q => by rw [← ea]; exact m_X11_at F'  C Q h)
theorem dd_X11_at : yX11_at.cls ≠ "java/lang/invoke/MethodHandle" ∧ yX11_at.cls ≠ "java/lang/invoke/VarHandle" ∧ (parseMethodDescriptor yX11_at.desc).map (fun d => d.parameters.length) = some 3 := by decide +kernel
def X11_tell (n : Nat) (σ : Mem) (p1 : Int32) : Option (Int32 × Mem) :=
  bindo (X6_has n σ p1) (fun r2 =>
  if ¬ r2 = (0 : Int32) then
  (bindo (X6_cell n σ p1 (0 : Int32)) (fun r4 =>
  bindo (X6_cell n σ p1 (1 : Int32)) (fun r6 =>
  bindo (X6_cell n σ p1 (3 : Int32)) (fun r8 =>
  bindo (X0_telling n σ r4 r6 r8) (fun a10 =>
  some (a10.1, a10.2))))))
  else
  (some ((-1 : Int32), σ)))
abbrev rm_X11_tell : Room := { frames := 4, cells := 0, slots := 0, locals := 87 }
set_option maxRecDepth 100000 in
set_option maxHeartbeats 4000000 in
theorem m_X11_tell {E : EnvT} {n : Nat} {cs : Nat → ClassId} (F : XF E n cs) {p1 : Int32} {σ : Mem} (C : CX E cX11_tell RX11 2 rm_X11_tell) {r0 : Int32 × Mem} (Q : QE E 0 0 (some .int) (RQi r0.1 r0.2)) : J E 2 0 0 r0 (X11_tell n σ p1) σ 0 [(0, .ref (eAd E 0)), (1, .int p1)] [] := by

  unfold X11_tell
  refine j_aload_n C dX11_tell_0 0 rfl ?_
  refine j_get (ci := 11) C hU_X11 rfl (xin F (by decide)) (xe_0 F _ _) 1 (by decide) rfl hF_X11_25 dX11_tell_1 ?_
  refine j_iload_n C dX11_tell_4 1 rfl ?_
  refine j_bind (fun r2 h1 => ?_)
  refine j_callVi (ci := 6) C [.int p1] (c_X6_has F h1) hM_X11_146 hI_X6_has hS_X6_has hZ_X6 hC_X6_has (xin F (by decide)) (xe_4 F _ _) rfl rfl dd_X6_has (by decide) ⟨rfl, rfl⟩ (by decide) (Nat.le_of_ble_eq_true rfl) dX11_tell_5 rfl ?_
  refine j_if_ne C 13 dX11_tell_8 (by decide) ?_ ?_
  · refine j_aload_n C dX11_tell_13 0 rfl ?_
    refine j_get (ci := 11) C hU_X11 rfl (xin F (by decide)) (xe_0 F _ _) 7 (by decide) rfl hF_X11_75 dX11_tell_14 ?_
    refine j_aload_n C dX11_tell_17 0 rfl ?_
    refine j_get (ci := 11) C hU_X11 rfl (xin F (by decide)) (xe_0 F _ _) 1 (by decide) rfl hF_X11_25 dX11_tell_18 ?_
    refine j_iload_n C dX11_tell_21 1 rfl ?_
    refine j_iconst C (0 : Int32) dX11_tell_22 (by decide) ?_
    refine j_bind (fun r4 h3 => ?_)
    refine j_callVi (ci := 6) C [.int p1, .int (0 : Int32)] (c_X6_cell F h3) hM_X11_150 hI_X6_cell hS_X6_cell hZ_X6 hC_X6_cell (xin F (by decide)) (xe_4 F _ _) rfl rfl dd_X6_cell (by decide) ⟨rfl, rfl⟩ (by decide) (Nat.le_of_ble_eq_true rfl) dX11_tell_23 rfl ?_
    refine j_aload_n C dX11_tell_26 0 rfl ?_
    refine j_get (ci := 11) C hU_X11 rfl (xin F (by decide)) (xe_0 F _ _) 1 (by decide) rfl hF_X11_25 dX11_tell_27 ?_
    refine j_iload_n C dX11_tell_30 1 rfl ?_
    refine j_iconst C (1 : Int32) dX11_tell_31 (by decide) ?_
    refine j_bind (fun r6 h5 => ?_)
    refine j_callVi (ci := 6) C [.int p1, .int (1 : Int32)] (c_X6_cell F h5) hM_X11_150 hI_X6_cell hS_X6_cell hZ_X6 hC_X6_cell (xin F (by decide)) (xe_4 F _ _) rfl rfl dd_X6_cell (by decide) ⟨rfl, rfl⟩ (by decide) (Nat.le_of_ble_eq_true rfl) dX11_tell_32 rfl ?_
    refine j_aload_n C dX11_tell_35 0 rfl ?_
    refine j_get (ci := 11) C hU_X11 rfl (xin F (by decide)) (xe_0 F _ _) 1 (by decide) rfl hF_X11_25 dX11_tell_36 ?_
    refine j_iload_n C dX11_tell_39 1 rfl ?_
    refine j_iconst C (3 : Int32) dX11_tell_40 (by decide) ?_
    refine j_bind (fun r8 h7 => ?_)
    refine j_callVi (ci := 6) C [.int p1, .int (3 : Int32)] (c_X6_cell F h7) hM_X11_150 hI_X6_cell hS_X6_cell hZ_X6 hC_X6_cell (xin F (by decide)) (xe_4 F _ _) rfl rfl dd_X6_cell (by decide) ⟨rfl, rfl⟩ (by decide) (Nat.le_of_ble_eq_true rfl) dX11_tell_41 rfl ?_
    refine j_bind (fun a10 h9 => ?_)
    refine j_callVi (ci := 0) C [.int r4, .int r6, .int r8] (c_X0_telling F h9) hM_X11_291 hI_X0_telling hS_X0_telling hZ_X0 hC_X0_telling (xin F (by decide)) (xe_27 F _ _) rfl rfl dd_X0_telling (by decide) ⟨rfl, rfl⟩ (by decide) (Nat.le_of_ble_eq_true rfl) dX11_tell_44 rfl ?_
    exact j_ireti2 C Q dX11_tell_47
  · refine j_iconst C (-1 : Int32) dX11_tell_11 (by decide) ?_
    exact j_ireti2 C Q dX11_tell_12
set_option maxRecDepth 100000 in
set_option maxHeartbeats 4000000 in
theorem c_X11_tell {E : EnvT} {n : Nat} {cs : Nat → ClassId} (F : XF E n cs) {σ : Mem} {p1 : Int32} {r : Int32 × Mem} (h : X11_tell n σ p1 = some r) : CT E yX11_tell cX11_tell 2 (some .int) rm_X11_tell [.ref (eAd E 0), .int p1] σ (RQi r.1 r.2) :=
  ct_X F (by decide) (Nat.le_of_ble_eq_true rfl) (fun E' ea F' C Q => by rw [← ea]; exact m_X11_tell F'  C Q h)
theorem dd_X11_tell : yX11_tell.cls ≠ "java/lang/invoke/MethodHandle" ∧ yX11_tell.cls ≠ "java/lang/invoke/VarHandle" ∧ (parseMethodDescriptor yX11_tell.desc).map (fun d => d.parameters.length) = some 1 := by decide +kernel
def X11_draw (n : Nat) (σ : Mem) (p1 : Int32) : Option (Int32 × Mem) :=
  bindo (X6_has n σ p1) (fun r2 =>
  if ¬ r2 = (0 : Int32) then
  (bindo (X6_cell n σ p1 (0 : Int32)) (fun r4 =>
  bindo (X0_drawing n σ r4) (fun a6 =>
  some (a6.1, a6.2))))
  else
  (some ((-1 : Int32), σ)))
abbrev rm_X11_draw : Room := { frames := 2, cells := 0, slots := 0, locals := 44 }
set_option maxRecDepth 100000 in
set_option maxHeartbeats 4000000 in
theorem m_X11_draw {E : EnvT} {n : Nat} {cs : Nat → ClassId} (F : XF E n cs) {p1 : Int32} {σ : Mem} (C : CX E cX11_draw RX11 2 rm_X11_draw) {r0 : Int32 × Mem} (Q : QE E 0 0 (some .int) (RQi r0.1 r0.2)) : J E 2 0 0 r0 (X11_draw n σ p1) σ 0 [(0, .ref (eAd E 0)), (1, .int p1)] [] := by

  unfold X11_draw
  refine j_aload_n C dX11_draw_0 0 rfl ?_
  refine j_get (ci := 11) C hU_X11 rfl (xin F (by decide)) (xe_0 F _ _) 1 (by decide) rfl hF_X11_25 dX11_draw_1 ?_
  refine j_iload_n C dX11_draw_4 1 rfl ?_
  refine j_bind (fun r2 h1 => ?_)
  refine j_callVi (ci := 6) C [.int p1] (c_X6_has F h1) hM_X11_146 hI_X6_has hS_X6_has hZ_X6 hC_X6_has (xin F (by decide)) (xe_4 F _ _) rfl rfl dd_X6_has (by decide) ⟨rfl, rfl⟩ (by decide) (Nat.le_of_ble_eq_true rfl) dX11_draw_5 rfl ?_
  refine j_if_ne C 13 dX11_draw_8 (by decide) ?_ ?_
  · refine j_aload_n C dX11_draw_13 0 rfl ?_
    refine j_get (ci := 11) C hU_X11 rfl (xin F (by decide)) (xe_0 F _ _) 7 (by decide) rfl hF_X11_75 dX11_draw_14 ?_
    refine j_aload_n C dX11_draw_17 0 rfl ?_
    refine j_get (ci := 11) C hU_X11 rfl (xin F (by decide)) (xe_0 F _ _) 1 (by decide) rfl hF_X11_25 dX11_draw_18 ?_
    refine j_iload_n C dX11_draw_21 1 rfl ?_
    refine j_iconst C (0 : Int32) dX11_draw_22 (by decide) ?_
    refine j_bind (fun r4 h3 => ?_)
    refine j_callVi (ci := 6) C [.int p1, .int (0 : Int32)] (c_X6_cell F h3) hM_X11_150 hI_X6_cell hS_X6_cell hZ_X6 hC_X6_cell (xin F (by decide)) (xe_4 F _ _) rfl rfl dd_X6_cell (by decide) ⟨rfl, rfl⟩ (by decide) (Nat.le_of_ble_eq_true rfl) dX11_draw_23 rfl ?_
    refine j_bind (fun a6 h5 => ?_)
    refine j_callVi (ci := 0) C [.int r4] (c_X0_drawing F h5) hM_X11_295 hI_X0_drawing hS_X0_drawing hZ_X0 hC_X0_drawing (xin F (by decide)) (xe_27 F _ _) rfl rfl dd_X0_drawing (by decide) ⟨rfl, rfl⟩ (by decide) (Nat.le_of_ble_eq_true rfl) dX11_draw_26 rfl ?_
    exact j_ireti2 C Q dX11_draw_29
  · refine j_iconst C (-1 : Int32) dX11_draw_11 (by decide) ?_
    exact j_ireti2 C Q dX11_draw_12
set_option maxRecDepth 100000 in
set_option maxHeartbeats 4000000 in
theorem c_X11_draw {E : EnvT} {n : Nat} {cs : Nat → ClassId} (F : XF E n cs) {σ : Mem} {p1 : Int32} {r : Int32 × Mem} (h : X11_draw n σ p1 = some r) : CT E yX11_draw cX11_draw 2 (some .int) rm_X11_draw [.ref (eAd E 0), .int p1] σ (RQi r.1 r.2) :=
  ct_X F (by decide) (Nat.le_of_ble_eq_true rfl) (fun E' ea F' C Q => by rw [← ea]; exact m_X11_draw F'  C Q h)
theorem dd_X11_draw : yX11_draw.cls ≠ "java/lang/invoke/MethodHandle" ∧ yX11_draw.cls ≠ "java/lang/invoke/VarHandle" ∧ (parseMethodDescriptor yX11_draw.desc).map (fun d => d.parameters.length) = some 1 := by decide +kernel
def X11_as (n : Nat) (σ : Mem) (p1 : Int32) (p2 : Int32) : Option (Int32 × Mem) :=
  lete (wI σ 0 9 (0 : Int32)) (fun σ1 =>
  bindo (X6_has n σ1 p1) (fun r3 =>
  if ¬ r3 = (0 : Int32) then
  (bindo (X11_within p2 (0 : Int32) (4 : Int32)) (fun r5 =>
  if ¬ r5 = (0 : Int32) then
  (bindo (X6_cell n σ1 p1 (0 : Int32)) (fun r7 =>
  bindo (X0_isA r7 p2) (fun r9 =>
  if r9 = (0 : Int32) then
  (bindo (X11_faulted n σ1 (2 : Int32)) (fun a11 =>
  some (a11.1, a11.2)))
  else
  (some ((1 : Int32), σ1)))))
  else
  (some ((-2 : Int32), σ1))))
  else
  (some ((-1 : Int32), σ1))))
abbrev rm_X11_as : Room := { frames := 2, cells := 0, slots := 0, locals := 44 }
set_option maxRecDepth 100000 in
set_option maxHeartbeats 4000000 in
theorem m_X11_as {E : EnvT} {n : Nat} {cs : Nat → ClassId} (F : XF E n cs) {p1 : Int32} {p2 : Int32} {σ : Mem} (C : CX E cX11_as RX11 3 rm_X11_as) {r0 : Int32 × Mem} (Q : QE E 0 0 (some .int) (RQi r0.1 r0.2)) : J E 3 0 0 r0 (X11_as n σ p1 p2) σ 0 [(0, .ref (eAd E 0)), (1, .int p1), (2, .int p2)] [] := by

  unfold X11_as
  refine j_aload_n C dX11_as_0 0 rfl ?_
  refine j_iconst C (0 : Int32) dX11_as_1 (by decide) ?_
  refine j_put (ci := 11) C hU_X11 tyX11_ok nmX11 rfl (xin F (by decide)) (xe_0 F _ _) 9 (by decide) (Nat.le_of_ble_eq_true rfl) (by rw [wI_o, wI_2]; exact (xe_0 F _ _)) (fun o' h' => ⟨wI_ne _ _ _ h', rfl⟩) rfl (by first | rfl | decide) (by first | rfl | decide) hF_X11_11 dX11_as_2 (fun σ1 => ?_)
  refine j_aload_n C dX11_as_5 0 rfl ?_
  refine j_get (ci := 11) C hU_X11 rfl (xin F (by decide)) (xe_0 F _ _) 1 (by decide) rfl hF_X11_25 dX11_as_6 ?_
  refine j_iload_n C dX11_as_9 1 rfl ?_
  refine j_bind (fun r3 h2 => ?_)
  refine j_callVi (ci := 6) C [.int p1] (c_X6_has F h2) hM_X11_146 hI_X6_has hS_X6_has hZ_X6 hC_X6_has (xin F (by decide)) (xe_4 F _ _) rfl rfl dd_X6_has (by decide) ⟨rfl, rfl⟩ (by decide) (Nat.le_of_ble_eq_true rfl) dX11_as_10 rfl ?_
  refine j_if_ne C 18 dX11_as_13 (by decide) ?_ ?_
  · refine j_iload_n C dX11_as_18 2 rfl ?_
    refine j_iconst C (0 : Int32) dX11_as_19 (by decide) ?_
    refine j_iconst C (4 : Int32) dX11_as_20 (by decide) ?_
    refine j_bind (fun r5 h4 => ?_)
    refine j_callSi C [.int p2, .int (0 : Int32), .int (4 : Int32)] (c_X11_within F h4) hM_X11_86 hT_X11_within hZ_X11 hC_X11_within dd_X11_within (by decide) ⟨rfl, rfl⟩ (by decide) (Nat.le_of_ble_eq_true rfl) dX11_as_21 rfl ?_
    refine j_if_ne C 30 dX11_as_24 (by decide) ?_ ?_
    · refine j_aload_n C dX11_as_30 0 rfl ?_
      refine j_get (ci := 11) C hU_X11 rfl (xin F (by decide)) (xe_0 F _ _) 1 (by decide) rfl hF_X11_25 dX11_as_31 ?_
      refine j_iload_n C dX11_as_34 1 rfl ?_
      refine j_iconst C (0 : Int32) dX11_as_35 (by decide) ?_
      refine j_bind (fun r7 h6 => ?_)
      refine j_callVi (ci := 6) C [.int p1, .int (0 : Int32)] (c_X6_cell F h6) hM_X11_150 hI_X6_cell hS_X6_cell hZ_X6 hC_X6_cell (xin F (by decide)) (xe_4 F _ _) rfl rfl dd_X6_cell (by decide) ⟨rfl, rfl⟩ (by decide) (Nat.le_of_ble_eq_true rfl) dX11_as_36 rfl ?_
      refine j_iload_n C dX11_as_39 2 rfl ?_
      refine j_bind (fun r9 h8 => ?_)
      refine j_callSi C [.int r7, .int p2] (c_X0_isA F h8) hM_X11_298 hT_X0_isA hZ_X0 hC_X0_isA dd_X0_isA (by decide) ⟨rfl, rfl⟩ (by decide) (Nat.le_of_ble_eq_true rfl) dX11_as_40 rfl ?_
      refine j_if_eq C 50 dX11_as_43 (by decide) ?_ ?_
      · refine j_aload_n C dX11_as_50 0 rfl ?_
        refine j_iconst C (2 : Int32) dX11_as_51 (by decide) ?_
        refine j_bind (fun a11 h10 => ?_)
        refine j_callVi (ci := 11) C [.int (2 : Int32)] (c_X11_faulted F h10) hM_X11_135 hI_X11_faulted hS_X11_faulted hZ_X11 hC_X11_faulted (xin F (by decide)) (xe_0 F _ _) rfl rfl dd_X11_faulted (by decide) ⟨rfl, rfl⟩ (by decide) (Nat.le_of_ble_eq_true rfl) dX11_as_52 rfl ?_
        exact j_ireti2 C Q dX11_as_55
      · refine j_iconst C (1 : Int32) dX11_as_46 (by decide) ?_
        refine j_goto C 55 dX11_as_47 (by decide) ?_
        exact j_ireti2 C Q dX11_as_55
    · refine j_bipush C (-2 : Int32) dX11_as_27 (by decide) ?_
      exact j_ireti2 C Q dX11_as_29
  · refine j_iconst C (-1 : Int32) dX11_as_16 (by decide) ?_
    exact j_ireti2 C Q dX11_as_17
set_option maxRecDepth 100000 in
set_option maxHeartbeats 4000000 in
theorem c_X11_as {E : EnvT} {n : Nat} {cs : Nat → ClassId} (F : XF E n cs) {σ : Mem} {p1 : Int32} {p2 : Int32} {r : Int32 × Mem} (h : X11_as n σ p1 p2 = some r) : CT E yX11_as cX11_as 3 (some .int) rm_X11_as [.ref (eAd E 0), .int p1, .int p2] σ (RQi r.1 r.2) :=
  ct_X F (by decide) (Nat.le_of_ble_eq_true rfl) (fun E' ea F' C Q => by rw [← ea]; exact m_X11_as F'  C Q h)
theorem dd_X11_as : yX11_as.cls ≠ "java/lang/invoke/MethodHandle" ∧ yX11_as.cls ≠ "java/lang/invoke/VarHandle" ∧ (parseMethodDescriptor yX11_as.desc).map (fun d => d.parameters.length) = some 2 := by decide +kernel
def X11_trace (n : Nat) (σ : Mem) : Option (Int32) :=
  some (σ.1 27 0)
abbrev rm_X11_trace : Room := { frames := 0, cells := 0, slots := 0, locals := 0 }
set_option maxRecDepth 100000 in
set_option maxHeartbeats 4000000 in
theorem m_X11_trace {E : EnvT} {n : Nat} {cs : Nat → ClassId} (F : XF E n cs) {σ : Mem} (C : CX E cX11_trace RX11 1 rm_X11_trace) {r0 : Int32} (Q : QE E 0 0 (some .int) (RQi r0 σ)) : J E 1 0 0 r0 (X11_trace n σ) σ 0 [(0, .ref (eAd E 0))] [] := by

  unfold X11_trace
  refine j_aload_n C dX11_trace_0 0 rfl ?_
  refine j_get (ci := 11) C hU_X11 rfl (xin F (by decide)) (xe_0 F _ _) 7 (by decide) rfl hF_X11_75 dX11_trace_1 ?_
  refine j_get (ci := 0) C hU_X0 rfl (xin F (by decide)) (xe_27 F _ _) 0 (by decide) rfl hF_X11_302 dX11_trace_4 ?_
  exact j_ireti C Q dX11_trace_7
set_option maxRecDepth 100000 in
set_option maxHeartbeats 4000000 in
theorem c_X11_trace {E : EnvT} {n : Nat} {cs : Nat → ClassId} (F : XF E n cs) {σ : Mem} {r : Int32} (h : X11_trace n σ = some r) : CT E yX11_trace cX11_trace 1 (some .int) rm_X11_trace [.ref (eAd E 0)] σ (RQi r σ) :=
  ct_X F (by decide) (Nat.le_of_ble_eq_true rfl) (fun E' ea F' C Q => by rw [← ea]; exact m_X11_trace F'  C Q h)
theorem dd_X11_trace : yX11_trace.cls ≠ "java/lang/invoke/MethodHandle" ∧ yX11_trace.cls ≠ "java/lang/invoke/VarHandle" ∧ (parseMethodDescriptor yX11_trace.desc).map (fun d => d.parameters.length) = some 0 := by decide +kernel
def X11_fault (n : Nat) (σ : Mem) : Option (Int32) :=
  some (σ.1 0 9)
abbrev rm_X11_fault : Room := { frames := 0, cells := 0, slots := 0, locals := 0 }
set_option maxRecDepth 100000 in
set_option maxHeartbeats 4000000 in
theorem m_X11_fault {E : EnvT} {n : Nat} {cs : Nat → ClassId} (F : XF E n cs) {σ : Mem} (C : CX E cX11_fault RX11 1 rm_X11_fault) {r0 : Int32} (Q : QE E 0 0 (some .int) (RQi r0 σ)) : J E 1 0 0 r0 (X11_fault n σ) σ 0 [(0, .ref (eAd E 0))] [] := by

  unfold X11_fault
  refine j_aload_n C dX11_fault_0 0 rfl ?_
  refine j_get (ci := 11) C hU_X11 rfl (xin F (by decide)) (xe_0 F _ _) 9 (by decide) rfl hF_X11_11 dX11_fault_1 ?_
  exact j_ireti C Q dX11_fault_4
set_option maxRecDepth 100000 in
set_option maxHeartbeats 4000000 in
theorem c_X11_fault {E : EnvT} {n : Nat} {cs : Nat → ClassId} (F : XF E n cs) {σ : Mem} {r : Int32} (h : X11_fault n σ = some r) : CT E yX11_fault cX11_fault 1 (some .int) rm_X11_fault [.ref (eAd E 0)] σ (RQi r σ) :=
  ct_X F (by decide) (Nat.le_of_ble_eq_true rfl) (fun E' ea F' C Q => by rw [← ea]; exact m_X11_fault F'  C Q h)
theorem dd_X11_fault : yX11_fault.cls ≠ "java/lang/invoke/MethodHandle" ∧ yX11_fault.cls ≠ "java/lang/invoke/VarHandle" ∧ (parseMethodDescriptor yX11_fault.desc).map (fun d => d.parameters.length) = some 0 := by decide +kernel
