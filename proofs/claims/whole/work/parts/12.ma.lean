def X12_fails (σ : Mem) (p1 : Int32) : Option (Int32 × Mem) :=
  lete (wI σ 0 0 p1) (fun σ1 =>
  some (((-10 : Int32) - p1), σ1))
abbrev rm_X12_fails : Room := { frames := 0, cells := 0, slots := 0, locals := 0 }
set_option maxRecDepth 100000 in
set_option maxHeartbeats 4000000 in
theorem m_X12_fails {E : EnvT} {cs : Nat → ClassId} (F : MF E cs) {p1 : Int32} {σ : Mem} (C : CX E cX12_fails RX12 2 rm_X12_fails) {r0 : Int32 × Mem} (Q : QE E 0 0 (some .int) (RQi r0.1 r0.2)) : J E 2 0 0 r0 (X12_fails σ p1) σ 0 [(0, .ref (eAd E 0)), (1, .int p1)] [] := by

  unfold X12_fails
  refine j_aload_n C dX12_fails_0 0 rfl ?_
  refine j_iload_n C dX12_fails_1 1 rfl ?_
  refine j_put (ci := 12) C hU_X12 tyX12_ok nmX12 rfl (min_ F (by decide)) (me_0 F _ _) 0 (by decide) (Nat.le_of_ble_eq_true rfl) (by rw [wI_o, wI_2]; exact (me_0 F _ _)) (fun o' h' => ⟨wI_ne _ _ _ h', rfl⟩) rfl (by first | rfl | decide) (by first | rfl | decide) hF_X12_103 dX12_fails_2 (fun σ1 => ?_)
  refine j_bipush C (-10 : Int32) dX12_fails_5 (by decide) ?_
  refine j_iload_n C dX12_fails_7 1 rfl ?_
  refine j_isub C dX12_fails_8 ?_
  exact j_ireti2 C Q dX12_fails_9
set_option maxRecDepth 100000 in
set_option maxHeartbeats 4000000 in
theorem c_X12_fails {E : EnvT} {cs : Nat → ClassId} (F : MF E cs) {σ : Mem} {p1 : Int32} {r : Int32 × Mem} (h : X12_fails σ p1 = some r) : CT E yX12_fails cX12_fails 2 (some .int) rm_X12_fails [.ref (eAd E 0), .int p1] σ (RQi r.1 r.2) :=
  ct_M F (by decide) (Nat.le_of_ble_eq_true rfl) (fun E' ea F' C Q => by rw [← ea]; exact m_X12_fails F'  C Q h)
theorem dd_X12_fails : yX12_fails.cls ≠ "java/lang/invoke/MethodHandle" ∧ yX12_fails.cls ≠ "java/lang/invoke/VarHandle" ∧ (parseMethodDescriptor yX12_fails.desc).map (fun d => d.parameters.length) = some 1 := by decide +kernel
def X12_lost (σ : Mem) (p1 : Int32) : Option (Int64 × Mem) :=
  lete (wI σ 0 0 p1) (fun σ1 =>
  some ((-9223372036854775808 : Int64), σ1))
abbrev rm_X12_lost : Room := { frames := 0, cells := 0, slots := 0, locals := 0 }
set_option maxRecDepth 100000 in
set_option maxHeartbeats 4000000 in
theorem m_X12_lost {E : EnvT} {cs : Nat → ClassId} (F : MF E cs) {p1 : Int32} {σ : Mem} (C : CX E cX12_lost RX12 2 rm_X12_lost) {r0 : Int64 × Mem} (Q : QE E 0 0 (some .long) (RQl r0.1 r0.2)) : J E 2 0 0 r0 (X12_lost σ p1) σ 0 [(0, .ref (eAd E 0)), (1, .int p1)] [] := by

  unfold X12_lost
  refine j_aload_n C dX12_lost_0 0 rfl ?_
  refine j_iload_n C dX12_lost_1 1 rfl ?_
  refine j_put (ci := 12) C hU_X12 tyX12_ok nmX12 rfl (min_ F (by decide)) (me_0 F _ _) 0 (by decide) (Nat.le_of_ble_eq_true rfl) (by rw [wI_o, wI_2]; exact (me_0 F _ _)) (fun o' h' => ⟨wI_ne _ _ _ h', rfl⟩) rfl (by first | rfl | decide) (by first | rfl | decide) hF_X12_103 dX12_lost_2 (fun σ1 => ?_)
  refine j_ldc2 C hK_X12_106 dX12_lost_5 ?_
  exact j_lret2 C Q dX12_lost_8
set_option maxRecDepth 100000 in
set_option maxHeartbeats 4000000 in
theorem c_X12_lost {E : EnvT} {cs : Nat → ClassId} (F : MF E cs) {σ : Mem} {p1 : Int32} {r : Int64 × Mem} (h : X12_lost σ p1 = some r) : CT E yX12_lost cX12_lost 2 (some .long) rm_X12_lost [.ref (eAd E 0), .int p1] σ (RQl r.1 r.2) :=
  ct_M F (by decide) (Nat.le_of_ble_eq_true rfl) (fun E' ea F' C Q => by rw [← ea]; exact m_X12_lost F'  C Q h)
theorem dd_X12_lost : yX12_lost.cls ≠ "java/lang/invoke/MethodHandle" ∧ yX12_lost.cls ≠ "java/lang/invoke/VarHandle" ∧ (parseMethodDescriptor yX12_lost.desc).map (fun d => d.parameters.length) = some 1 := by decide +kernel
def X12_within (p1 : Int64) (p2 : Int64) (p3 : Int64) : Option (Int32) :=
  if (lg_cmp p1 p2) < (0 : Int32) then
  (some (0 : Int32))
  else
  (if (0 : Int32) < (lg_cmp p1 p3) then
  (some (0 : Int32))
  else
  (some (1 : Int32)))
abbrev rm_X12_within : Room := { frames := 0, cells := 0, slots := 0, locals := 0 }
set_option maxRecDepth 100000 in
set_option maxHeartbeats 4000000 in
theorem m_X12_within {E : EnvT}  {p1 : Int64} {p2 : Int64} {p3 : Int64} {σ : Mem} (C : CX E cX12_within RX12 6 rm_X12_within) {r0 : Int32} (Q : QE E 0 0 (some .boolean) (RQi r0 σ)) : J E 6 0 0 r0 (X12_within p1 p2 p3) σ 0 [(0, .long p1), (2, .long p2), (4, .long p3)] [] := by

  unfold X12_within
  refine j_lload_n C dX12_within_0 0 rfl ?_
  refine j_lload_n C dX12_within_1 1 rfl ?_
  refine j_lcmp C dX12_within_2 ?_
  refine j_if_lt C 17 dX12_within_3 (by decide) ?_ ?_
  · refine j_iconst C (0 : Int32) dX12_within_17 (by decide) ?_
    exact j_iretz C rfl Q dX12_within_18
  · refine j_lload_n C dX12_within_6 0 rfl ?_
    refine j_lload C dX12_within_7 2 rfl ?_
    refine j_lcmp C dX12_within_9 ?_
    refine j_if_gt C 17 dX12_within_10 (by decide) ?_ ?_
    · refine j_iconst C (0 : Int32) dX12_within_17 (by decide) ?_
      exact j_iretz C rfl Q dX12_within_18
    · refine j_iconst C (1 : Int32) dX12_within_13 (by decide) ?_
      refine j_goto C 18 dX12_within_14 (by decide) ?_
      exact j_iretz C rfl Q dX12_within_18
set_option maxRecDepth 100000 in
set_option maxHeartbeats 4000000 in
theorem c_X12_within {E : EnvT} {cs : Nat → ClassId} (F : MF E cs) {σ : Mem} {p1 : Int64} {p2 : Int64} {p3 : Int64} {r : Int32} (h : X12_within p1 p2 p3 = some r) : CT E yX12_within cX12_within 6 (some .boolean) rm_X12_within [.long p1, .long p2, .long p3] σ (RQi r σ) :=
  ct_M F (by decide) (Nat.le_of_ble_eq_true rfl) (fun E' ea F' C Q => by exact m_X12_within  C Q h)
theorem dd_X12_within : yX12_within.cls ≠ "java/lang/invoke/MethodHandle" ∧ yX12_within.cls ≠ "java/lang/invoke/VarHandle" ∧ (parseMethodDescriptor yX12_within.desc).map (fun d => d.parameters.length) = some 3 := by decide +kernel
def X12_map (σ : Mem) (p1 : Int32) (p2 : Int32) : Option (Int32 × Mem) :=
  bindo (X12_within (p1.toInt64) (0 : Int64) (24 : Int64)) (fun r2 =>
  if ¬ r2 = (0 : Int32) then
  (bindo (X12_within (p2.toInt64) (-500 : Int64) (1000 : Int64)) (fun r4 =>
  if ¬ r4 = (0 : Int32) then
  (if (σ.1 0 4) = (0 : Int32) then
  (chk (inb p1 25) (
  lete (σ.1 1 (ix p1)) (fun x6 =>
  chk (inb p1 25) (
  lete (wI σ 1 (ix p1) p2) (fun σ8 =>
  some (x6, σ8))))))
  else
  (some ((-3 : Int32), σ)))
  else
  (some ((-2 : Int32), σ))))
  else
  (some ((-1 : Int32), σ)))
abbrev rm_X12_map : Room := { frames := 1, cells := 0, slots := 0, locals := 25 }
set_option maxRecDepth 100000 in
set_option maxHeartbeats 4000000 in
theorem m_X12_map {E : EnvT} {cs : Nat → ClassId} (F : MF E cs) {p1 : Int32} {p2 : Int32} {σ : Mem} (C : CX E cX12_map RX12 4 rm_X12_map) {r0 : Int32 × Mem} (Q : QE E 0 0 (some .int) (RQi r0.1 r0.2)) : J E 4 0 0 r0 (X12_map σ p1 p2) σ 0 [(0, .ref (eAd E 0)), (1, .int p1), (2, .int p2)] [] := by

  unfold X12_map
  refine j_iload_n C dX12_map_0 1 rfl ?_
  refine j_i2l C dX12_map_1 ?_
  refine j_lconst C (0 : Int64) dX12_map_2 (by decide) ?_
  refine j_ldc2 C hK_X12_108 dX12_map_3 ?_
  refine j_bind (fun r2 h1 => ?_)
  refine j_callSi C [.long (p1.toInt64), .long (0 : Int64), .long (24 : Int64)] (c_X12_within F h1) hM_X12_110 hT_X12_within hZ_X12 hC_X12_within dd_X12_within (by decide) ⟨rfl, rfl⟩ (by decide) (Nat.le_of_ble_eq_true rfl) dX12_map_6 rfl ?_
  refine j_if_ne C 14 dX12_map_9 (by decide) ?_ ?_
  · refine j_iload_n C dX12_map_14 2 rfl ?_
    refine j_i2l C dX12_map_15 ?_
    refine j_ldc2 C hK_X12_114 dX12_map_16 ?_
    refine j_ldc2 C hK_X12_116 dX12_map_19 ?_
    refine j_bind (fun r4 h3 => ?_)
    refine j_callSi C [.long (p2.toInt64), .long (-500 : Int64), .long (1000 : Int64)] (c_X12_within F h3) hM_X12_110 hT_X12_within hZ_X12 hC_X12_within dd_X12_within (by decide) ⟨rfl, rfl⟩ (by decide) (Nat.le_of_ble_eq_true rfl) dX12_map_22 rfl ?_
    refine j_if_ne C 31 dX12_map_25 (by decide) ?_ ?_
    · refine j_aload_n C dX12_map_31 0 rfl ?_
      refine j_get (ci := 12) C hU_X12 rfl (min_ F (by decide)) (me_0 F _ _) 4 (by decide) rfl hF_X12_118 dX12_map_32 ?_
      refine j_if_eq C 41 dX12_map_35 (by decide) ?_ ?_
      · refine j_aload_n C dX12_map_41 0 rfl ?_
        refine j_get (ci := 12) C hU_X12 rfl (min_ F (by decide)) (me_0 F _ _) 2 (by decide) rfl hF_X12_7 dX12_map_42 ?_
        refine j_iload_n C dX12_map_45 1 rfl ?_
        refine j_chk (fun h5 => ?_)
        refine j_iald (t0 := 0) C (min_ F (by decide)) (me_1 F _ _) (mt0 F) (inb_in h5) dX12_map_46 ?_
        refine j_nmi (fun x6 => ?_)
        refine j_istore_n (lv' := [(3, .int x6), (0, .ref (eAd E 0)), (1, .int p1), (2, .int p2)]) C dX12_map_47 (by decide) rfl ?_
        refine j_aload_n C dX12_map_48 1 rfl ?_
        refine j_get (ci := 12) C hU_X12 rfl (min_ F (by decide)) (me_0 F _ _) 2 (by decide) rfl hF_X12_7 dX12_map_49 ?_
        refine j_iload_n C dX12_map_52 2 rfl ?_
        refine j_iload_n C dX12_map_53 3 rfl ?_
        refine j_chk (fun h7 => ?_)
        refine j_iast (t0 := 0) C (min_ F (by decide)) (me_1 F _ _) (by rw [wI_o, wI_2]; exact (me_1 F _ _)) (mt0 F) (inb_in h7) dX12_map_54 (fun σ8 => ?_)
        refine j_iload_n C dX12_map_55 0 rfl ?_
        exact j_ireti2 C Q dX12_map_56
      · refine j_bipush C (-3 : Int32) dX12_map_38 (by decide) ?_
        exact j_ireti2 C Q dX12_map_40
    · refine j_bipush C (-2 : Int32) dX12_map_28 (by decide) ?_
      exact j_ireti2 C Q dX12_map_30
  · refine j_iconst C (-1 : Int32) dX12_map_12 (by decide) ?_
    exact j_ireti2 C Q dX12_map_13
set_option maxRecDepth 100000 in
set_option maxHeartbeats 4000000 in
theorem c_X12_map {E : EnvT} {cs : Nat → ClassId} (F : MF E cs) {σ : Mem} {p1 : Int32} {p2 : Int32} {r : Int32 × Mem} (h : X12_map σ p1 p2 = some r) : CT E yX12_map cX12_map 4 (some .int) rm_X12_map [.ref (eAd E 0), .int p1, .int p2] σ (RQi r.1 r.2) :=
  ct_M F (by decide) (Nat.le_of_ble_eq_true rfl) (fun E' ea F' C Q => by rw [← ea]; exact m_X12_map F'  C Q h)
theorem dd_X12_map : yX12_map.cls ≠ "java/lang/invoke/MethodHandle" ∧ yX12_map.cls ≠ "java/lang/invoke/VarHandle" ∧ (parseMethodDescriptor yX12_map.desc).map (fun d => d.parameters.length) = some 2 := by decide +kernel
def X12_torqueAt_b36 (σ : Mem) (v1 : Int32) (v2 : Int32) (v3 : Int32) (s0 : Int32) : Option (Int32) :=
  lete ((v1.toInt64) - ((2000 : Int64) * (v3.toInt64))) (fun x1 =>
  lete ((v2.toInt64) - ((250 : Int64) * (s0.toInt64))) (fun x2 =>
  chk (inb (((5 : Int32) * v3) + s0) 25) (
  chk (inb ((((5 : Int32) * v3) + (5 : Int32)) + s0) 25) (
  chk (inb ((((5 : Int32) * v3) + s0) + (1 : Int32)) 25) (
  chk (inb ((((5 : Int32) * v3) + (6 : Int32)) + s0) 25) (
  lete ((((((((σ.1 1 (ix (((5 : Int32) * v3) + s0)))).toInt64) * ((2000 : Int64) - x1)) * ((250 : Int64) - x2)) + (((((σ.1 1 (ix ((((5 : Int32) * v3) + (5 : Int32)) + s0)))).toInt64) * x1) * ((250 : Int64) - x2))) + (((((σ.1 1 (ix ((((5 : Int32) * v3) + s0) + (1 : Int32))))).toInt64) * ((2000 : Int64) - x1)) * x2)) + (((((σ.1 1 (ix ((((5 : Int32) * v3) + (6 : Int32)) + s0)))).toInt64) * x1) * x2)) (fun x7 =>
  some (((x7 / (500000 : Int64))).toInt32))))))))
def X12_torqueAt_b23 (σ : Mem) (v1 : Int32) (v2 : Int32) (v4 : Int32) (s0 : Int32) : Option (Int32) :=
  if v4 ≤ (3 : Int32) then
  (X12_torqueAt_b36 σ v1 v2 s0 v4)
  else
  (X12_torqueAt_b36 σ v1 v2 s0 (3 : Int32))
def X12_torqueAt (σ : Mem) (p1 : Int32) (p2 : Int32) : Option (Int32) :=
  lete (p1 / (2000 : Int32)) (fun x1 =>
  lete (p2 / (250 : Int32)) (fun x2 =>
  if x1 ≤ (3 : Int32) then
  (X12_torqueAt_b23 σ p1 p2 x2 x1)
  else
  (X12_torqueAt_b23 σ p1 p2 x2 (3 : Int32))))
abbrev rm_X12_torqueAt : Room := { frames := 0, cells := 0, slots := 0, locals := 0 }
set_option maxRecDepth 100000 in
set_option maxHeartbeats 4000000 in
theorem m_X12_torqueAt {E : EnvT} {cs : Nat → ClassId} (F : MF E cs) {p1 : Int32} {p2 : Int32} {σ : Mem} (C : CX E cX12_torqueAt RX12 11 rm_X12_torqueAt) {r0 : Int32} (Q : QE E 0 0 (some .int) (RQi r0 σ)) : J E 11 0 0 r0 (X12_torqueAt σ p1 p2) σ 0 [(0, .ref (eAd E 0)), (1, .int p1), (2, .int p2)] [] := by
  have hB36 : ∀ (v1 : Int32) (v2 : Int32) (v3 : Int32) (s0 : Int32), J E 11 0 0 r0 (X12_torqueAt_b36 σ v1 v2 v3 s0) σ 36 [(0, .ref (eAd E 0)), (1, .int v1), (2, .int v2), (3, .int v3)] [.int s0] := by
    intro v1 v2 v3 s0
    unfold X12_torqueAt_b36
    refine j_istore (lv' := [(4, .int s0), (0, .ref (eAd E 0)), (1, .int v1), (2, .int v2), (3, .int v3)]) C dX12_torqueAt_36 (by decide) rfl ?_
    refine j_iload_n C dX12_torqueAt_38 2 rfl ?_
    refine j_i2l C dX12_torqueAt_39 ?_
    refine j_ldc2 C hK_X12_121 dX12_torqueAt_40 ?_
    refine j_iload_n C dX12_torqueAt_43 4 rfl ?_
    refine j_i2l C dX12_torqueAt_44 ?_
    refine j_lmul C dX12_torqueAt_45 ?_
    refine j_lsub C dX12_torqueAt_46 ?_
    refine j_nml (fun x1 => ?_)
    refine j_lstore (lv' := [(5, .long x1), (4, .int s0), (0, .ref (eAd E 0)), (1, .int v1), (2, .int v2), (3, .int v3)]) C dX12_torqueAt_47 (by decide) rfl ?_
    refine j_iload_n C dX12_torqueAt_49 4 rfl ?_
    refine j_i2l C dX12_torqueAt_50 ?_
    refine j_ldc2 C hK_X12_123 dX12_torqueAt_51 ?_
    refine j_iload C dX12_torqueAt_54 1 rfl ?_
    refine j_i2l C dX12_torqueAt_56 ?_
    refine j_lmul C dX12_torqueAt_57 ?_
    refine j_lsub C dX12_torqueAt_58 ?_
    refine j_nml (fun x2 => ?_)
    refine j_lstore (lv' := [(7, .long x2), (5, .long x1), (4, .int s0), (0, .ref (eAd E 0)), (1, .int v1), (2, .int v2), (3, .int v3)]) C dX12_torqueAt_59 (by decide) rfl ?_
    refine j_aload_n C dX12_torqueAt_61 3 rfl ?_
    refine j_get (ci := 12) C hU_X12 rfl (min_ F (by decide)) (me_0 F _ _) 2 (by decide) rfl hF_X12_7 dX12_torqueAt_62 ?_
    refine j_iconst C (5 : Int32) dX12_torqueAt_65 (by decide) ?_
    refine j_iload_n C dX12_torqueAt_66 6 rfl ?_
    refine j_imul C dX12_torqueAt_67 ?_
    refine j_iload C dX12_torqueAt_68 2 rfl ?_
    refine j_iadd C dX12_torqueAt_70 ?_
    refine j_chk (fun h3 => ?_)
    refine j_iald (t0 := 0) C (min_ F (by decide)) (me_1 F _ _) (mt0 F) (inb_in h3) dX12_torqueAt_71 ?_
    refine j_i2l C dX12_torqueAt_72 ?_
    refine j_ldc2 C hK_X12_121 dX12_torqueAt_73 ?_
    refine j_lload C dX12_torqueAt_76 1 rfl ?_
    refine j_lsub C dX12_torqueAt_78 ?_
    refine j_lmul C dX12_torqueAt_79 ?_
    refine j_ldc2 C hK_X12_123 dX12_torqueAt_80 ?_
    refine j_lload C dX12_torqueAt_83 0 rfl ?_
    refine j_lsub C dX12_torqueAt_85 ?_
    refine j_lmul C dX12_torqueAt_86 ?_
    refine j_aload_n C dX12_torqueAt_87 3 rfl ?_
    refine j_get (ci := 12) C hU_X12 rfl (min_ F (by decide)) (me_0 F _ _) 2 (by decide) rfl hF_X12_7 dX12_torqueAt_88 ?_
    refine j_iconst C (5 : Int32) dX12_torqueAt_91 (by decide) ?_
    refine j_iload_n C dX12_torqueAt_92 6 rfl ?_
    refine j_imul C dX12_torqueAt_93 ?_
    refine j_iconst C (5 : Int32) dX12_torqueAt_94 (by decide) ?_
    refine j_iadd C dX12_torqueAt_95 ?_
    refine j_iload C dX12_torqueAt_96 2 rfl ?_
    refine j_iadd C dX12_torqueAt_98 ?_
    refine j_chk (fun h4 => ?_)
    refine j_iald (t0 := 0) C (min_ F (by decide)) (me_1 F _ _) (mt0 F) (inb_in h4) dX12_torqueAt_99 ?_
    refine j_i2l C dX12_torqueAt_100 ?_
    refine j_lload C dX12_torqueAt_101 1 rfl ?_
    refine j_lmul C dX12_torqueAt_103 ?_
    refine j_ldc2 C hK_X12_123 dX12_torqueAt_104 ?_
    refine j_lload C dX12_torqueAt_107 0 rfl ?_
    refine j_lsub C dX12_torqueAt_109 ?_
    refine j_lmul C dX12_torqueAt_110 ?_
    refine j_ladd C dX12_torqueAt_111 ?_
    refine j_aload_n C dX12_torqueAt_112 3 rfl ?_
    refine j_get (ci := 12) C hU_X12 rfl (min_ F (by decide)) (me_0 F _ _) 2 (by decide) rfl hF_X12_7 dX12_torqueAt_113 ?_
    refine j_iconst C (5 : Int32) dX12_torqueAt_116 (by decide) ?_
    refine j_iload_n C dX12_torqueAt_117 6 rfl ?_
    refine j_imul C dX12_torqueAt_118 ?_
    refine j_iload C dX12_torqueAt_119 2 rfl ?_
    refine j_iadd C dX12_torqueAt_121 ?_
    refine j_iconst C (1 : Int32) dX12_torqueAt_122 (by decide) ?_
    refine j_iadd C dX12_torqueAt_123 ?_
    refine j_chk (fun h5 => ?_)
    refine j_iald (t0 := 0) C (min_ F (by decide)) (me_1 F _ _) (mt0 F) (inb_in h5) dX12_torqueAt_124 ?_
    refine j_i2l C dX12_torqueAt_125 ?_
    refine j_ldc2 C hK_X12_121 dX12_torqueAt_126 ?_
    refine j_lload C dX12_torqueAt_129 1 rfl ?_
    refine j_lsub C dX12_torqueAt_131 ?_
    refine j_lmul C dX12_torqueAt_132 ?_
    refine j_lload C dX12_torqueAt_133 0 rfl ?_
    refine j_lmul C dX12_torqueAt_135 ?_
    refine j_ladd C dX12_torqueAt_136 ?_
    refine j_aload_n C dX12_torqueAt_137 3 rfl ?_
    refine j_get (ci := 12) C hU_X12 rfl (min_ F (by decide)) (me_0 F _ _) 2 (by decide) rfl hF_X12_7 dX12_torqueAt_138 ?_
    refine j_iconst C (5 : Int32) dX12_torqueAt_141 (by decide) ?_
    refine j_iload_n C dX12_torqueAt_142 6 rfl ?_
    refine j_imul C dX12_torqueAt_143 ?_
    refine j_bipush C (6 : Int32) dX12_torqueAt_144 (by decide) ?_
    refine j_iadd C dX12_torqueAt_146 ?_
    refine j_iload C dX12_torqueAt_147 2 rfl ?_
    refine j_iadd C dX12_torqueAt_149 ?_
    refine j_chk (fun h6 => ?_)
    refine j_iald (t0 := 0) C (min_ F (by decide)) (me_1 F _ _) (mt0 F) (inb_in h6) dX12_torqueAt_150 ?_
    refine j_i2l C dX12_torqueAt_151 ?_
    refine j_lload C dX12_torqueAt_152 1 rfl ?_
    refine j_lmul C dX12_torqueAt_154 ?_
    refine j_lload C dX12_torqueAt_155 0 rfl ?_
    refine j_lmul C dX12_torqueAt_157 ?_
    refine j_ladd C dX12_torqueAt_158 ?_
    refine j_nml (fun x7 => ?_)
    refine j_lstore (lv' := [(9, .long x7), (7, .long x2), (5, .long x1), (4, .int s0), (0, .ref (eAd E 0)), (1, .int v1), (2, .int v2), (3, .int v3)]) C dX12_torqueAt_159 (by decide) rfl ?_
    refine j_lload C dX12_torqueAt_161 0 rfl ?_
    refine j_ldc2 C hK_X12_125 dX12_torqueAt_163 ?_
    refine j_ldivK C dX12_torqueAt_166 (by decide) ?_
    refine j_l2i C dX12_torqueAt_167 ?_
    exact j_ireti C Q dX12_torqueAt_168
  have hB23 : ∀ (v1 : Int32) (v2 : Int32) (v4 : Int32) (s0 : Int32), J E 11 0 0 r0 (X12_torqueAt_b23 σ v1 v2 v4 s0) σ 23 [(0, .ref (eAd E 0)), (1, .int v1), (2, .int v2), (4, .int v4)] [.int s0] := by
    intro v1 v2 v4 s0
    unfold X12_torqueAt_b23
    refine j_istore_n (lv' := [(3, .int s0), (0, .ref (eAd E 0)), (1, .int v1), (2, .int v2), (4, .int v4)]) C dX12_torqueAt_23 (by decide) rfl ?_
    refine j_iload C dX12_torqueAt_24 4 rfl ?_
    refine j_iconst C (3 : Int32) dX12_torqueAt_26 (by decide) ?_
    refine j_icmp_le C 34 dX12_torqueAt_27 (by decide) ?_ ?_
    · refine j_iload C dX12_torqueAt_34 4 rfl ?_
      refine j_lv [(0, .ref (eAd E 0)), (1, .int v1), (2, .int v2), (3, .int s0)] [1, 2, 3, 0] rfl ?_
      exact hB36 v1 v2 s0 v4
    · refine j_iconst C (3 : Int32) dX12_torqueAt_30 (by decide) ?_
      refine j_goto C 36 dX12_torqueAt_31 (by decide) ?_
      refine j_lv [(0, .ref (eAd E 0)), (1, .int v1), (2, .int v2), (3, .int s0)] [1, 2, 3, 0] rfl ?_
      exact hB36 v1 v2 s0 (3 : Int32)
  unfold X12_torqueAt
  refine j_iload_n C dX12_torqueAt_0 1 rfl ?_
  refine j_sipush C (2000 : Int32) dX12_torqueAt_1 (by decide) ?_
  refine j_idivK C dX12_torqueAt_4 (by decide) ?_
  refine j_nmi (fun x1 => ?_)
  refine j_istore_n (lv' := [(3, .int x1), (0, .ref (eAd E 0)), (1, .int p1), (2, .int p2)]) C dX12_torqueAt_5 (by decide) rfl ?_
  refine j_iload_n C dX12_torqueAt_6 3 rfl ?_
  refine j_sipush C (250 : Int32) dX12_torqueAt_7 (by decide) ?_
  refine j_idivK C dX12_torqueAt_10 (by decide) ?_
  refine j_nmi (fun x2 => ?_)
  refine j_istore (lv' := [(4, .int x2), (3, .int x1), (0, .ref (eAd E 0)), (1, .int p1), (2, .int p2)]) C dX12_torqueAt_11 (by decide) rfl ?_
  refine j_iload_n C dX12_torqueAt_13 1 rfl ?_
  refine j_iconst C (3 : Int32) dX12_torqueAt_14 (by decide) ?_
  refine j_icmp_le C 22 dX12_torqueAt_15 (by decide) ?_ ?_
  · refine j_iload_n C dX12_torqueAt_22 1 rfl ?_
    refine j_lv [(0, .ref (eAd E 0)), (1, .int p1), (2, .int p2), (4, .int x2)] [2, 3, 4, 0] rfl ?_
    exact hB23 p1 p2 x2 x1
  · refine j_iconst C (3 : Int32) dX12_torqueAt_18 (by decide) ?_
    refine j_goto C 23 dX12_torqueAt_19 (by decide) ?_
    refine j_lv [(0, .ref (eAd E 0)), (1, .int p1), (2, .int p2), (4, .int x2)] [2, 3, 4, 0] rfl ?_
    exact hB23 p1 p2 x2 (3 : Int32)
set_option maxRecDepth 100000 in
set_option maxHeartbeats 4000000 in
theorem c_X12_torqueAt {E : EnvT} {cs : Nat → ClassId} (F : MF E cs) {σ : Mem} {p1 : Int32} {p2 : Int32} {r : Int32} (h : X12_torqueAt σ p1 p2 = some r) : CT E yX12_torqueAt cX12_torqueAt 11 (some .int) rm_X12_torqueAt [.ref (eAd E 0), .int p1, .int p2] σ (RQi r σ) :=
  ct_M F (by decide) (Nat.le_of_ble_eq_true rfl) (fun E' ea F' C Q => by rw [← ea]; exact m_X12_torqueAt F'  C Q h)
theorem dd_X12_torqueAt : yX12_torqueAt.cls ≠ "java/lang/invoke/MethodHandle" ∧ yX12_torqueAt.cls ≠ "java/lang/invoke/VarHandle" ∧ (parseMethodDescriptor yX12_torqueAt.desc).map (fun d => d.parameters.length) = some 2 := by decide +kernel
def X12_torque (σ : Mem) (p1 : Int32) (p2 : Int32) : Option (Int64) :=
  bindo (X12_within (p1.toInt64) (0 : Int64) (8000 : Int64)) (fun r2 =>
  if r2 = (0 : Int32) then
  (some (-9223372036854775808 : Int64))
  else
  (bindo (X12_within (p2.toInt64) (0 : Int64) (1000 : Int64)) (fun r4 =>
  if r4 = (0 : Int32) then
  (some (-9223372036854775808 : Int64))
  else
  (bindo (X12_torqueAt σ p1 p2) (fun r6 =>
  some (r6.toInt64))))))
abbrev rm_X12_torque : Room := { frames := 1, cells := 0, slots := 0, locals := 30 }
set_option maxRecDepth 100000 in
set_option maxHeartbeats 4000000 in
theorem m_X12_torque {E : EnvT} {cs : Nat → ClassId} (F : MF E cs) {p1 : Int32} {p2 : Int32} {σ : Mem} (C : CX E cX12_torque RX12 3 rm_X12_torque) {r0 : Int64} (Q : QE E 0 0 (some .long) (RQl r0 σ)) : J E 3 0 0 r0 (X12_torque σ p1 p2) σ 0 [(0, .ref (eAd E 0)), (1, .int p1), (2, .int p2)] [] := by

  unfold X12_torque
  refine j_iload_n C dX12_torque_0 1 rfl ?_
  refine j_i2l C dX12_torque_1 ?_
  refine j_lconst C (0 : Int64) dX12_torque_2 (by decide) ?_
  refine j_ldc2 C hK_X12_127 dX12_torque_3 ?_
  refine j_bind (fun r2 h1 => ?_)
  refine j_callSi C [.long (p1.toInt64), .long (0 : Int64), .long (8000 : Int64)] (c_X12_within F h1) hM_X12_110 hT_X12_within hZ_X12 hC_X12_within dd_X12_within (by decide) ⟨rfl, rfl⟩ (by decide) (Nat.le_of_ble_eq_true rfl) dX12_torque_6 rfl ?_
  refine j_if_eq C 34 dX12_torque_9 (by decide) ?_ ?_
  · refine j_ldc2 C hK_X12_106 dX12_torque_34 ?_
    exact j_lret C Q dX12_torque_37
  · refine j_iload_n C dX12_torque_12 2 rfl ?_
    refine j_i2l C dX12_torque_13 ?_
    refine j_lconst C (0 : Int64) dX12_torque_14 (by decide) ?_
    refine j_ldc2 C hK_X12_116 dX12_torque_15 ?_
    refine j_bind (fun r4 h3 => ?_)
    refine j_callSi C [.long (p2.toInt64), .long (0 : Int64), .long (1000 : Int64)] (c_X12_within F h3) hM_X12_110 hT_X12_within hZ_X12 hC_X12_within dd_X12_within (by decide) ⟨rfl, rfl⟩ (by decide) (Nat.le_of_ble_eq_true rfl) dX12_torque_18 rfl ?_
    refine j_if_eq C 34 dX12_torque_21 (by decide) ?_ ?_
    · refine j_ldc2 C hK_X12_106 dX12_torque_34 ?_
      exact j_lret C Q dX12_torque_37
    · refine j_aload_n C dX12_torque_24 0 rfl ?_
      refine j_iload_n C dX12_torque_25 1 rfl ?_
      refine j_iload_n C dX12_torque_26 2 rfl ?_
      refine j_bind (fun r6 h5 => ?_)
      refine j_callVi (ci := 12) C [.int p1, .int p2] (c_X12_torqueAt F h5) hM_X12_129 hI_X12_torqueAt hS_X12_torqueAt hZ_X12 hC_X12_torqueAt (min_ F (by decide)) (me_0 F _ _) rfl rfl dd_X12_torqueAt (by decide) ⟨rfl, rfl⟩ (by decide) (Nat.le_of_ble_eq_true rfl) dX12_torque_27 rfl ?_
      refine j_i2l C dX12_torque_30 ?_
      refine j_goto C 37 dX12_torque_31 (by decide) ?_
      exact j_lret C Q dX12_torque_37
set_option maxRecDepth 100000 in
set_option maxHeartbeats 4000000 in
theorem c_X12_torque {E : EnvT} {cs : Nat → ClassId} (F : MF E cs) {σ : Mem} {p1 : Int32} {p2 : Int32} {r : Int64} (h : X12_torque σ p1 p2 = some r) : CT E yX12_torque cX12_torque 3 (some .long) rm_X12_torque [.ref (eAd E 0), .int p1, .int p2] σ (RQl r σ) :=
  ct_M F (by decide) (Nat.le_of_ble_eq_true rfl) (fun E' ea F' C Q => by rw [← ea]; exact m_X12_torque F'  C Q h)
theorem dd_X12_torque : yX12_torque.cls ≠ "java/lang/invoke/MethodHandle" ∧ yX12_torque.cls ≠ "java/lang/invoke/VarHandle" ∧ (parseMethodDescriptor yX12_torque.desc).map (fun d => d.parameters.length) = some 2 := by decide +kernel
def X12_lag (σ : Mem) (p1 : Int32) : Option (Int32 × Mem) :=
  bindo (X12_within (p1.toInt64) (1 : Int64) (20 : Int64)) (fun r2 =>
  if ¬ r2 = (0 : Int32) then
  (if (σ.1 0 4) = (0 : Int32) then
  (lete (σ.1 0 3) (fun x3 =>
  lete (wI σ 0 3 p1) (fun σ4 =>
  some (x3, σ4))))
  else
  (some ((-3 : Int32), σ)))
  else
  (some ((-2 : Int32), σ)))
abbrev rm_X12_lag : Room := { frames := 1, cells := 0, slots := 0, locals := 25 }
set_option maxRecDepth 100000 in
set_option maxHeartbeats 4000000 in
theorem m_X12_lag {E : EnvT} {cs : Nat → ClassId} (F : MF E cs) {p1 : Int32} {σ : Mem} (C : CX E cX12_lag RX12 3 rm_X12_lag) {r0 : Int32 × Mem} (Q : QE E 0 0 (some .int) (RQi r0.1 r0.2)) : J E 3 0 0 r0 (X12_lag σ p1) σ 0 [(0, .ref (eAd E 0)), (1, .int p1)] [] := by

  unfold X12_lag
  refine j_iload_n C dX12_lag_0 1 rfl ?_
  refine j_i2l C dX12_lag_1 ?_
  refine j_lconst C (1 : Int64) dX12_lag_2 (by decide) ?_
  refine j_ldc2 C hK_X12_133 dX12_lag_3 ?_
  refine j_bind (fun r2 h1 => ?_)
  refine j_callSi C [.long (p1.toInt64), .long (1 : Int64), .long (20 : Int64)] (c_X12_within F h1) hM_X12_110 hT_X12_within hZ_X12 hC_X12_within dd_X12_within (by decide) ⟨rfl, rfl⟩ (by decide) (Nat.le_of_ble_eq_true rfl) dX12_lag_6 rfl ?_
  refine j_if_ne C 15 dX12_lag_9 (by decide) ?_ ?_
  · refine j_aload_n C dX12_lag_15 0 rfl ?_
    refine j_get (ci := 12) C hU_X12 rfl (min_ F (by decide)) (me_0 F _ _) 4 (by decide) rfl hF_X12_118 dX12_lag_16 ?_
    refine j_if_eq C 25 dX12_lag_19 (by decide) ?_ ?_
    · refine j_aload_n C dX12_lag_25 0 rfl ?_
      refine j_get (ci := 12) C hU_X12 rfl (min_ F (by decide)) (me_0 F _ _) 3 (by decide) rfl hF_X12_13 dX12_lag_26 ?_
      refine j_nmi (fun x3 => ?_)
      refine j_istore_n (lv' := [(2, .int x3), (0, .ref (eAd E 0)), (1, .int p1)]) C dX12_lag_29 (by decide) rfl ?_
      refine j_aload_n C dX12_lag_30 1 rfl ?_
      refine j_iload_n C dX12_lag_31 2 rfl ?_
      refine j_put (ci := 12) C hU_X12 tyX12_ok nmX12 rfl (min_ F (by decide)) (me_0 F _ _) 3 (by decide) (Nat.le_of_ble_eq_true rfl) (by rw [wI_o, wI_2]; exact (me_0 F _ _)) (fun o' h' => ⟨wI_ne _ _ _ h', rfl⟩) rfl (by first | rfl | decide) (by first | rfl | decide) hF_X12_13 dX12_lag_32 (fun σ4 => ?_)
      refine j_iload_n C dX12_lag_35 0 rfl ?_
      exact j_ireti2 C Q dX12_lag_36
    · refine j_bipush C (-3 : Int32) dX12_lag_22 (by decide) ?_
      exact j_ireti2 C Q dX12_lag_24
  · refine j_bipush C (-2 : Int32) dX12_lag_12 (by decide) ?_
    exact j_ireti2 C Q dX12_lag_14
set_option maxRecDepth 100000 in
set_option maxHeartbeats 4000000 in
theorem c_X12_lag {E : EnvT} {cs : Nat → ClassId} (F : MF E cs) {σ : Mem} {p1 : Int32} {r : Int32 × Mem} (h : X12_lag σ p1 = some r) : CT E yX12_lag cX12_lag 3 (some .int) rm_X12_lag [.ref (eAd E 0), .int p1] σ (RQi r.1 r.2) :=
  ct_M F (by decide) (Nat.le_of_ble_eq_true rfl) (fun E' ea F' C Q => by rw [← ea]; exact m_X12_lag F'  C Q h)
theorem dd_X12_lag : yX12_lag.cls ≠ "java/lang/invoke/MethodHandle" ∧ yX12_lag.cls ≠ "java/lang/invoke/VarHandle" ∧ (parseMethodDescriptor yX12_lag.desc).map (fun d => d.parameters.length) = some 1 := by decide +kernel
def X12_mayStand (p1 : Int32) (p2 : Int32) (p3 : Int32) (p4 : Int32) (p5 : Int32) : Option (Int32) :=
  if p2 = (0 : Int32) then
  (bindo (X12_within (p3.toInt64) (1 : Int64) (500 : Int64)) (fun r2 =>
  chk (isZ r2) (
  some r2)))
  else
  if p2 = (1 : Int32) then
  (bindo (X12_within (p3.toInt64) (1 : Int64) (500 : Int64)) (fun r5 =>
  if r5 = (0 : Int32) then
  (some (0 : Int32))
  else
  (bindo (X12_within (p4.toInt64) (0 : Int64) (8000 : Int64)) (fun r7 =>
  if r7 = (0 : Int32) then
  (some (0 : Int32))
  else
  (bindo (X12_within (p5.toInt64) (0 : Int64) (1000 : Int64)) (fun r9 =>
  if r9 = (0 : Int32) then
  (some (0 : Int32))
  else
  (some (1 : Int32))))))))
  else
  if p2 = (2 : Int32) then
  (bindo (X12_within (p5.toInt64) (1 : Int64) (500 : Int64)) (fun r11 =>
  chk (isZ r11) (
  some r11)))
  else
  if p2 = (3 : Int32) then
  (bindo (X12_within (p3.toInt64) (0 : Int64) (p1.toInt64)) (fun r14 =>
  if r14 = (0 : Int32) then
  (some (0 : Int32))
  else
  (bindo (X12_within (p4.toInt64) (1 : Int64) (100 : Int64)) (fun r16 =>
  if r16 = (0 : Int32) then
  (some (0 : Int32))
  else
  (some (1 : Int32))))))
  else
  (if ¬ p2 = (4 : Int32) then
  (some (0 : Int32))
  else
  (some (1 : Int32)))
abbrev rm_X12_mayStand : Room := { frames := 1, cells := 0, slots := 0, locals := 25 }
set_option maxRecDepth 100000 in
set_option maxHeartbeats 4000000 in
theorem m_X12_mayStand {E : EnvT} {cs : Nat → ClassId} (F : MF E cs) {p1 : Int32} {p2 : Int32} {p3 : Int32} {p4 : Int32} {p5 : Int32} {σ : Mem} (C : CX E cX12_mayStand RX12 5 rm_X12_mayStand) {r0 : Int32} (Q : QE E 0 0 (some .boolean) (RQi r0 σ)) : J E 5 0 0 r0 (X12_mayStand p1 p2 p3 p4 p5) σ 0 [(0, .int p1), (1, .int p2), (2, .int p3), (3, .int p4), (4, .int p5)] [] := by

  unfold X12_mayStand
  refine j_iload_n C dX12_mayStand_0 1 rfl ?_
  refine j_ite (fun q0 => ?_) (fun q0 => ?_)
  · refine j_tsIn C (0 : Int32) 32 dX12_mayStand_1 q0 (by decide) (by decide) rfl (by decide) ?_
    refine j_iload_n C dX12_mayStand_32 2 rfl ?_
    refine j_i2l C dX12_mayStand_33 ?_
    refine j_lconst C (1 : Int64) dX12_mayStand_34 (by decide) ?_
    refine j_ldc2 C hK_X12_135 dX12_mayStand_35 ?_
    refine j_bind (fun r2 h1 => ?_)
    refine j_callSi C [.long (p3.toInt64), .long (1 : Int64), .long (500 : Int64)] (c_X12_within F h1) hM_X12_110 hT_X12_within hZ_X12 hC_X12_within dd_X12_within (by decide) ⟨rfl, rfl⟩ (by decide) (Nat.le_of_ble_eq_true rfl) dX12_mayStand_38 rfl ?_
    refine j_chk (fun h3 => ?_)
    exact j_iretz C (isZ_n h3) Q dX12_mayStand_41
  refine j_ite (fun q1 => ?_) (fun q1 => ?_)
  · refine j_tsIn C (1 : Int32) 42 dX12_mayStand_1 q1 (by decide) (by decide) rfl (by decide) ?_
    refine j_iload_n C dX12_mayStand_42 2 rfl ?_
    refine j_i2l C dX12_mayStand_43 ?_
    refine j_lconst C (1 : Int64) dX12_mayStand_44 (by decide) ?_
    refine j_ldc2 C hK_X12_135 dX12_mayStand_45 ?_
    refine j_bind (fun r5 h4 => ?_)
    refine j_callSi C [.long (p3.toInt64), .long (1 : Int64), .long (500 : Int64)] (c_X12_within F h4) hM_X12_110 hT_X12_within hZ_X12 hC_X12_within dd_X12_within (by decide) ⟨rfl, rfl⟩ (by decide) (Nat.le_of_ble_eq_true rfl) dX12_mayStand_48 rfl ?_
    refine j_if_eq C 83 dX12_mayStand_51 (by decide) ?_ ?_
    · refine j_iconst C (0 : Int32) dX12_mayStand_83 (by decide) ?_
      exact j_iretz C rfl Q dX12_mayStand_84
    · refine j_iload_n C dX12_mayStand_54 3 rfl ?_
      refine j_i2l C dX12_mayStand_55 ?_
      refine j_lconst C (0 : Int64) dX12_mayStand_56 (by decide) ?_
      refine j_ldc2 C hK_X12_127 dX12_mayStand_57 ?_
      refine j_bind (fun r7 h6 => ?_)
      refine j_callSi C [.long (p4.toInt64), .long (0 : Int64), .long (8000 : Int64)] (c_X12_within F h6) hM_X12_110 hT_X12_within hZ_X12 hC_X12_within dd_X12_within (by decide) ⟨rfl, rfl⟩ (by decide) (Nat.le_of_ble_eq_true rfl) dX12_mayStand_60 rfl ?_
      refine j_if_eq C 83 dX12_mayStand_63 (by decide) ?_ ?_
      · refine j_iconst C (0 : Int32) dX12_mayStand_83 (by decide) ?_
        exact j_iretz C rfl Q dX12_mayStand_84
      · refine j_iload C dX12_mayStand_66 4 rfl ?_
        refine j_i2l C dX12_mayStand_68 ?_
        refine j_lconst C (0 : Int64) dX12_mayStand_69 (by decide) ?_
        refine j_ldc2 C hK_X12_116 dX12_mayStand_70 ?_
        refine j_bind (fun r9 h8 => ?_)
        refine j_callSi C [.long (p5.toInt64), .long (0 : Int64), .long (1000 : Int64)] (c_X12_within F h8) hM_X12_110 hT_X12_within hZ_X12 hC_X12_within dd_X12_within (by decide) ⟨rfl, rfl⟩ (by decide) (Nat.le_of_ble_eq_true rfl) dX12_mayStand_73 rfl ?_
        refine j_if_eq C 83 dX12_mayStand_76 (by decide) ?_ ?_
        · refine j_iconst C (0 : Int32) dX12_mayStand_83 (by decide) ?_
          exact j_iretz C rfl Q dX12_mayStand_84
        · refine j_iconst C (1 : Int32) dX12_mayStand_79 (by decide) ?_
          refine j_goto C 84 dX12_mayStand_80 (by decide) ?_
          exact j_iretz C rfl Q dX12_mayStand_84
  refine j_ite (fun q2 => ?_) (fun q2 => ?_)
  · refine j_tsIn C (2 : Int32) 85 dX12_mayStand_1 q2 (by decide) (by decide) rfl (by decide) ?_
    refine j_iload C dX12_mayStand_85 4 rfl ?_
    refine j_i2l C dX12_mayStand_87 ?_
    refine j_lconst C (1 : Int64) dX12_mayStand_88 (by decide) ?_
    refine j_ldc2 C hK_X12_135 dX12_mayStand_89 ?_
    refine j_bind (fun r11 h10 => ?_)
    refine j_callSi C [.long (p5.toInt64), .long (1 : Int64), .long (500 : Int64)] (c_X12_within F h10) hM_X12_110 hT_X12_within hZ_X12 hC_X12_within dd_X12_within (by decide) ⟨rfl, rfl⟩ (by decide) (Nat.le_of_ble_eq_true rfl) dX12_mayStand_92 rfl ?_
    refine j_chk (fun h12 => ?_)
    exact j_iretz C (isZ_n h12) Q dX12_mayStand_95
  refine j_ite (fun q3 => ?_) (fun q3 => ?_)
  · refine j_tsIn C (3 : Int32) 96 dX12_mayStand_1 q3 (by decide) (by decide) rfl (by decide) ?_
    refine j_iload_n C dX12_mayStand_96 2 rfl ?_
    refine j_i2l C dX12_mayStand_97 ?_
    refine j_lconst C (0 : Int64) dX12_mayStand_98 (by decide) ?_
    refine j_iload_n C dX12_mayStand_99 0 rfl ?_
    refine j_i2l C dX12_mayStand_100 ?_
    refine j_bind (fun r14 h13 => ?_)
    refine j_callSi C [.long (p3.toInt64), .long (0 : Int64), .long (p1.toInt64)] (c_X12_within F h13) hM_X12_110 hT_X12_within hZ_X12 hC_X12_within dd_X12_within (by decide) ⟨rfl, rfl⟩ (by decide) (Nat.le_of_ble_eq_true rfl) dX12_mayStand_101 rfl ?_
    refine j_if_eq C 123 dX12_mayStand_104 (by decide) ?_ ?_
    · refine j_iconst C (0 : Int32) dX12_mayStand_123 (by decide) ?_
      exact j_iretz C rfl Q dX12_mayStand_124
    · refine j_iload_n C dX12_mayStand_107 3 rfl ?_
      refine j_i2l C dX12_mayStand_108 ?_
      refine j_lconst C (1 : Int64) dX12_mayStand_109 (by decide) ?_
      refine j_ldc2 C hK_X12_137 dX12_mayStand_110 ?_
      refine j_bind (fun r16 h15 => ?_)
      refine j_callSi C [.long (p4.toInt64), .long (1 : Int64), .long (100 : Int64)] (c_X12_within F h15) hM_X12_110 hT_X12_within hZ_X12 hC_X12_within dd_X12_within (by decide) ⟨rfl, rfl⟩ (by decide) (Nat.le_of_ble_eq_true rfl) dX12_mayStand_113 rfl ?_
      refine j_if_eq C 123 dX12_mayStand_116 (by decide) ?_ ?_
      · refine j_iconst C (0 : Int32) dX12_mayStand_123 (by decide) ?_
        exact j_iretz C rfl Q dX12_mayStand_124
      · refine j_iconst C (1 : Int32) dX12_mayStand_119 (by decide) ?_
        refine j_goto C 124 dX12_mayStand_120 (by decide) ?_
        exact j_iretz C rfl Q dX12_mayStand_124
  refine j_tsOut C 125 dX12_mayStand_1 (by have z0 := lv_neT (k := (0 : Int32)) (a := 0) q0 (by decide); have z1 := lv_neT (k := (1 : Int32)) (a := 1) q1 (by decide); have z2 := lv_neT (k := (2 : Int32)) (a := 2) q2 (by decide); have z3 := lv_neT (k := (3 : Int32)) (a := 3) q3 (by decide); omega) (by decide) ?_
  refine j_iload_n C dX12_mayStand_125 1 rfl ?_
  refine j_iconst C (4 : Int32) dX12_mayStand_126 (by decide) ?_
  refine j_icmp_ne C 134 dX12_mayStand_127 (by decide) ?_ ?_
  · refine j_iconst C (0 : Int32) dX12_mayStand_134 (by decide) ?_
    exact j_iretz C rfl Q dX12_mayStand_135
  · refine j_iconst C (1 : Int32) dX12_mayStand_130 (by decide) ?_
    refine j_goto C 135 dX12_mayStand_131 (by decide) ?_
    exact j_iretz C rfl Q dX12_mayStand_135
set_option maxRecDepth 100000 in
set_option maxHeartbeats 4000000 in
theorem c_X12_mayStand {E : EnvT} {cs : Nat → ClassId} (F : MF E cs) {σ : Mem} {p1 : Int32} {p2 : Int32} {p3 : Int32} {p4 : Int32} {p5 : Int32} {r : Int32} (h : X12_mayStand p1 p2 p3 p4 p5 = some r) : CT E yX12_mayStand cX12_mayStand 5 (some .boolean) rm_X12_mayStand [.int p1, .int p2, .int p3, .int p4, .int p5] σ (RQi r σ) :=
  ct_M F (by decide) (Nat.le_of_ble_eq_true rfl) (fun E' ea F' C Q => by exact m_X12_mayStand F'  C Q h)
theorem dd_X12_mayStand : yX12_mayStand.cls ≠ "java/lang/invoke/MethodHandle" ∧ yX12_mayStand.cls ≠ "java/lang/invoke/VarHandle" ∧ (parseMethodDescriptor yX12_mayStand.desc).map (fun d => d.parameters.length) = some 5 := by decide +kernel
def X12_addStep (σ : Mem) (p1 : Int32) (p2 : Int32) (p3 : Int32) (p4 : Int32) : Option (Mem) :=
  chk (inb (σ.1 0 13) 30) (
  lete (wI σ 3 (ix (σ.1 0 13)) p1) (fun σ2 =>
  chk (inb (σ2.1 0 13) 30) (
  lete (wI σ2 4 (ix (σ2.1 0 13)) p2) (fun σ4 =>
  chk (inb (σ4.1 0 13) 30) (
  lete (wI σ4 5 (ix (σ4.1 0 13)) p3) (fun σ6 =>
  chk (inb (σ6.1 0 13) 30) (
  lete (wI σ6 6 (ix (σ6.1 0 13)) p4) (fun σ8 =>
  lete (wI σ8 0 13 ((σ8.1 0 13) + (1 : Int32))) (fun σ9 =>
  some σ9)))))))))
abbrev rm_X12_addStep : Room := { frames := 0, cells := 0, slots := 0, locals := 0 }
set_option maxRecDepth 100000 in
set_option maxHeartbeats 4000000 in
theorem m_X12_addStep {E : EnvT} {cs : Nat → ClassId} (F : MF E cs) {p1 : Int32} {p2 : Int32} {p3 : Int32} {p4 : Int32} {σ : Mem} (C : CX E cX12_addStep RX12 5 rm_X12_addStep) {r0 : Mem} (Q : QE E 0 0 none (RQv r0)) : J E 5 0 0 r0 (X12_addStep σ p1 p2 p3 p4) σ 0 [(0, .ref (eAd E 0)), (1, .int p1), (2, .int p2), (3, .int p3), (4, .int p4)] [] := by

  unfold X12_addStep
  refine j_aload_n C dX12_addStep_0 0 rfl ?_
  refine j_get (ci := 12) C hU_X12 rfl (min_ F (by decide)) (me_0 F _ _) 14 (by decide) rfl hF_X12_23 dX12_addStep_1 ?_
  refine j_aload_n C dX12_addStep_4 0 rfl ?_
  refine j_get (ci := 12) C hU_X12 rfl (min_ F (by decide)) (me_0 F _ _) 13 (by decide) rfl hF_X12_139 dX12_addStep_5 ?_
  refine j_iload_n C dX12_addStep_8 1 rfl ?_
  refine j_chk (fun h1 => ?_)
  refine j_iast (t0 := 0) C (min_ F (by decide)) (me_3 F _ _) (by rw [wI_o, wI_2]; exact (me_3 F _ _)) (mt0 F) (inb_in h1) dX12_addStep_9 (fun σ2 => ?_)
  refine j_aload_n C dX12_addStep_10 0 rfl ?_
  refine j_get (ci := 12) C hU_X12 rfl (min_ F (by decide)) (me_0 F _ _) 15 (by decide) rfl hF_X12_26 dX12_addStep_11 ?_
  refine j_aload_n C dX12_addStep_14 0 rfl ?_
  refine j_get (ci := 12) C hU_X12 rfl (min_ F (by decide)) (me_0 F _ _) 13 (by decide) rfl hF_X12_139 dX12_addStep_15 ?_
  refine j_iload_n C dX12_addStep_18 2 rfl ?_
  refine j_chk (fun h3 => ?_)
  refine j_iast (t0 := 0) C (min_ F (by decide)) (me_4 F _ _) (by rw [wI_o, wI_2]; exact (me_4 F _ _)) (mt0 F) (inb_in h3) dX12_addStep_19 (fun σ4 => ?_)
  refine j_aload_n C dX12_addStep_20 0 rfl ?_
  refine j_get (ci := 12) C hU_X12 rfl (min_ F (by decide)) (me_0 F _ _) 16 (by decide) rfl hF_X12_29 dX12_addStep_21 ?_
  refine j_aload_n C dX12_addStep_24 0 rfl ?_
  refine j_get (ci := 12) C hU_X12 rfl (min_ F (by decide)) (me_0 F _ _) 13 (by decide) rfl hF_X12_139 dX12_addStep_25 ?_
  refine j_iload_n C dX12_addStep_28 3 rfl ?_
  refine j_chk (fun h5 => ?_)
  refine j_iast (t0 := 0) C (min_ F (by decide)) (me_5 F _ _) (by rw [wI_o, wI_2]; exact (me_5 F _ _)) (mt0 F) (inb_in h5) dX12_addStep_29 (fun σ6 => ?_)
  refine j_aload_n C dX12_addStep_30 0 rfl ?_
  refine j_get (ci := 12) C hU_X12 rfl (min_ F (by decide)) (me_0 F _ _) 17 (by decide) rfl hF_X12_32 dX12_addStep_31 ?_
  refine j_aload_n C dX12_addStep_34 0 rfl ?_
  refine j_get (ci := 12) C hU_X12 rfl (min_ F (by decide)) (me_0 F _ _) 13 (by decide) rfl hF_X12_139 dX12_addStep_35 ?_
  refine j_iload C dX12_addStep_38 4 rfl ?_
  refine j_chk (fun h7 => ?_)
  refine j_iast (t0 := 0) C (min_ F (by decide)) (me_6 F _ _) (by rw [wI_o, wI_2]; exact (me_6 F _ _)) (mt0 F) (inb_in h7) dX12_addStep_40 (fun σ8 => ?_)
  refine j_aload_n C dX12_addStep_41 0 rfl ?_
  refine j_dup C dX12_addStep_42 rfl ?_
  refine j_get (ci := 12) C hU_X12 rfl (min_ F (by decide)) (me_0 F _ _) 13 (by decide) rfl hF_X12_139 dX12_addStep_43 ?_
  refine j_iconst C (1 : Int32) dX12_addStep_46 (by decide) ?_
  refine j_iadd C dX12_addStep_47 ?_
  refine j_put (ci := 12) C hU_X12 tyX12_ok nmX12 rfl (min_ F (by decide)) (me_0 F _ _) 13 (by decide) (Nat.le_of_ble_eq_true rfl) (by rw [wI_o, wI_2]; exact (me_0 F _ _)) (fun o' h' => ⟨wI_ne _ _ _ h', rfl⟩) rfl (by first | rfl | decide) (by first | rfl | decide) hF_X12_139 dX12_addStep_48 (fun σ9 => ?_)
  exact j_vret2 C Q dX12_addStep_51
set_option maxRecDepth 100000 in
set_option maxHeartbeats 4000000 in
theorem c_X12_addStep {E : EnvT} {cs : Nat → ClassId} (F : MF E cs) {σ : Mem} {p1 : Int32} {p2 : Int32} {p3 : Int32} {p4 : Int32} {r : Mem} (h : X12_addStep σ p1 p2 p3 p4 = some r) : CT E yX12_addStep cX12_addStep 5 none rm_X12_addStep [.ref (eAd E 0), .int p1, .int p2, .int p3, .int p4] σ (RQv r) :=
  ct_M F (by decide) (Nat.le_of_ble_eq_true rfl) (fun E' ea F' C Q => by rw [← ea]; exact m_X12_addStep F'  C Q h)
theorem dd_X12_addStep : yX12_addStep.cls ≠ "java/lang/invoke/MethodHandle" ∧ yX12_addStep.cls ≠ "java/lang/invoke/VarHandle" ∧ (parseMethodDescriptor yX12_addStep.desc).map (fun d => d.parameters.length) = some 4 := by decide +kernel
def X12_step (σ : Mem) (p1 : Int32) (p2 : Int32) (p3 : Int32) (p4 : Int32) : Option (Int32 × Mem) :=
  if (σ.1 0 4) = (0 : Int32) then
  (bindo (X12_mayStand (σ.1 0 13) p1 p2 p3 p4) (fun r2 =>
  if ¬ r2 = (0 : Int32) then
  (if ¬ (σ.1 0 13) = (30 : Int32) then
  (bindo (X12_addStep σ p1 p2 p3 p4) (fun σ4 =>
  some (((σ4.1 0 13) - (1 : Int32)), σ4)))
  else
  (some ((-4 : Int32), σ)))
  else
  (some ((-2 : Int32), σ))))
  else
  (some ((-3 : Int32), σ))
abbrev rm_X12_step : Room := { frames := 2, cells := 0, slots := 0, locals := 49 }
set_option maxRecDepth 100000 in
set_option maxHeartbeats 4000000 in
theorem m_X12_step {E : EnvT} {cs : Nat → ClassId} (F : MF E cs) {p1 : Int32} {p2 : Int32} {p3 : Int32} {p4 : Int32} {σ : Mem} (C : CX E cX12_step RX12 5 rm_X12_step) {r0 : Int32 × Mem} (Q : QE E 0 0 (some .int) (RQi r0.1 r0.2)) : J E 5 0 0 r0 (X12_step σ p1 p2 p3 p4) σ 0 [(0, .ref (eAd E 0)), (1, .int p1), (2, .int p2), (3, .int p3), (4, .int p4)] [] := by

  unfold X12_step
  refine j_aload_n C dX12_step_0 0 rfl ?_
  refine j_get (ci := 12) C hU_X12 rfl (min_ F (by decide)) (me_0 F _ _) 4 (by decide) rfl hF_X12_118 dX12_step_1 ?_
  refine j_if_eq C 10 dX12_step_4 (by decide) ?_ ?_
  · refine j_aload_n C dX12_step_10 0 rfl ?_
    refine j_get (ci := 12) C hU_X12 rfl (min_ F (by decide)) (me_0 F _ _) 13 (by decide) rfl hF_X12_139 dX12_step_11 ?_
    refine j_iload_n C dX12_step_14 1 rfl ?_
    refine j_iload_n C dX12_step_15 2 rfl ?_
    refine j_iload_n C dX12_step_16 3 rfl ?_
    refine j_iload C dX12_step_17 4 rfl ?_
    refine j_bind (fun r2 h1 => ?_)
    refine j_callSi C [.int (σ.1 0 13), .int p1, .int p2, .int p3, .int p4] (c_X12_mayStand F h1) hM_X12_142 hT_X12_mayStand hZ_X12 hC_X12_mayStand dd_X12_mayStand (by decide) ⟨rfl, rfl⟩ (by decide) (Nat.le_of_ble_eq_true rfl) dX12_step_19 rfl ?_
    refine j_if_ne C 28 dX12_step_22 (by decide) ?_ ?_
    · refine j_aload_n C dX12_step_28 0 rfl ?_
      refine j_get (ci := 12) C hU_X12 rfl (min_ F (by decide)) (me_0 F _ _) 13 (by decide) rfl hF_X12_139 dX12_step_29 ?_
      refine j_bipush C (30 : Int32) dX12_step_32 (by decide) ?_
      refine j_icmp_ne C 40 dX12_step_34 (by decide) ?_ ?_
      · refine j_aload_n C dX12_step_40 0 rfl ?_
        refine j_iload_n C dX12_step_41 1 rfl ?_
        refine j_iload_n C dX12_step_42 2 rfl ?_
        refine j_iload_n C dX12_step_43 3 rfl ?_
        refine j_iload C dX12_step_44 4 rfl ?_
        refine j_bind (fun σ4 h3 => ?_)
        refine j_callVv (ci := 12) C [.int p1, .int p2, .int p3, .int p4] (c_X12_addStep F h3) hM_X12_146 hI_X12_addStep hS_X12_addStep hZ_X12 hC_X12_addStep (min_ F (by decide)) (me_0 F _ _) rfl rfl dd_X12_addStep (by decide) ⟨rfl, rfl⟩ (by decide) (Nat.le_of_ble_eq_true rfl) dX12_step_46 rfl ?_
        refine j_aload_n C dX12_step_49 0 rfl ?_
        refine j_get (ci := 12) C hU_X12 rfl (min_ F (by decide)) (me_0 F _ _) 13 (by decide) rfl hF_X12_139 dX12_step_50 ?_
        refine j_iconst C (1 : Int32) dX12_step_53 (by decide) ?_
        refine j_isub C dX12_step_54 ?_
        exact j_ireti2 C Q dX12_step_55
      · refine j_bipush C (-4 : Int32) dX12_step_37 (by decide) ?_
        exact j_ireti2 C Q dX12_step_39
    · refine j_bipush C (-2 : Int32) dX12_step_25 (by decide) ?_
      exact j_ireti2 C Q dX12_step_27
  · refine j_bipush C (-3 : Int32) dX12_step_7 (by decide) ?_
    exact j_ireti2 C Q dX12_step_9
set_option maxRecDepth 100000 in
set_option maxHeartbeats 4000000 in
theorem c_X12_step {E : EnvT} {cs : Nat → ClassId} (F : MF E cs) {σ : Mem} {p1 : Int32} {p2 : Int32} {p3 : Int32} {p4 : Int32} {r : Int32 × Mem} (h : X12_step σ p1 p2 p3 p4 = some r) : CT E yX12_step cX12_step 5 (some .int) rm_X12_step [.ref (eAd E 0), .int p1, .int p2, .int p3, .int p4] σ (RQi r.1 r.2) :=
  ct_M F (by decide) (Nat.le_of_ble_eq_true rfl) (fun E' ea F' C Q => by rw [← ea]; exact m_X12_step F'  C Q h)
theorem dd_X12_step : yX12_step.cls ≠ "java/lang/invoke/MethodHandle" ∧ yX12_step.cls ≠ "java/lang/invoke/VarHandle" ∧ (parseMethodDescriptor yX12_step.desc).map (fun d => d.parameters.length) = some 4 := by decide +kernel
def X12_load_b133 (σ : Mem) : Option (Int32 × Mem) :=
  bindo (X12_fails σ (3 : Int32)) (fun a2 =>
  some (a2.1, a2.2))
def X12_load_l236 (rec236 : (Mem × Int32 × Int32 × Int32 × Int32) → Option (Int32 × Mem)) (σ : Mem) (v1 : Int32) (v3 : Int32) (v4 : Int32) (v5 : Int32) : Option (Int32 × Mem) :=
  if v4 ≤ v5 then
  (some ((σ.1 0 13), σ))
  else
  (lete ((((40 : Int32) * v1) + v3) + ((4 : Int32) * v5)) (fun x1 =>
  chk (inb x1 160) (
  chk (inb (x1 + (1 : Int32)) 160) (
  chk (inb (x1 + (2 : Int32)) 160) (
  chk (inb (x1 + (3 : Int32)) 160) (
  bindo (X12_addStep σ (σ.1 10 (ix x1)) (σ.1 10 (ix (x1 + (1 : Int32)))) (σ.1 10 (ix (x1 + (2 : Int32)))) (σ.1 10 (ix (x1 + (3 : Int32))))) (fun σ7 =>
  lete (v5 + (1 : Int32)) (fun x8 =>
  rec236 (σ7, v1, v3, v4, x8)))))))))
def X12_load_l142 (rec142 : (Mem × Int32 × Int32 × Int32 × Int32) → Option (Int32 × Mem)) (σ : Mem) (v1 : Int32) (v3 : Int32) (v4 : Int32) (v5 : Int32) : Option (Int32 × Mem) :=
  if v4 ≤ v5 then
  (if ((σ.1 0 13) + v4) ≤ (30 : Int32) then
  (loopF (fun (rec : (Mem × Int32 × Int32 × Int32 × Int32) → Option (Int32 × Mem)) (s : Mem × Int32 × Int32 × Int32 × Int32) => X12_load_l236 rec s.1 s.2.1 s.2.2.1 s.2.2.2.1 s.2.2.2.2)  FU (σ, v1, v3, v4, (0 : Int32)))
  else
  (some ((-4 : Int32), σ)))
  else
  (lete ((((40 : Int32) * v1) + v3) + ((4 : Int32) * v5)) (fun x1 =>
  chk (inb x1 160) (
  chk (inb (x1 + (1 : Int32)) 160) (
  chk (inb (x1 + (2 : Int32)) 160) (
  chk (inb (x1 + (3 : Int32)) 160) (
  bindo (X12_mayStand ((σ.1 0 13) + v5) (σ.1 10 (ix x1)) (σ.1 10 (ix (x1 + (1 : Int32)))) (σ.1 10 (ix (x1 + (2 : Int32)))) (σ.1 10 (ix (x1 + (3 : Int32))))) (fun r7 =>
  if ¬ r7 = (0 : Int32) then
  (lete (v5 + (1 : Int32)) (fun x8 =>
  rec142 (σ, v1, v3, v4, x8)))
  else
  (some ((-2 : Int32), σ)))))))))
def X12_load_b71 (σ : Mem) (v1 : Int32) (v3 : Int32) (v4 : Int32) : Option (Int32 × Mem) :=
  chk (inb v1 4) (
  if ¬ (σ.1 8 (ix v1)) = (-9 : Int32) then
  (if (0 : Int32) ≤ v4 then
  (if v3 < (0 : Int32) then
  (X12_load_b133 σ)
  else
  (chk (inb v1 4) (
  if (σ.1 9 (ix v1)) < v3 then
  (X12_load_b133 σ)
  else
  (chk (inb v1 4) (
  if (lg_cmp ((4 : Int64) * (v4.toInt64)) ((((σ.1 9 (ix v1)) - v3)).toInt64)) ≤ (0 : Int32) then
  (loopF (fun (rec : (Mem × Int32 × Int32 × Int32 × Int32) → Option (Int32 × Mem)) (s : Mem × Int32 × Int32 × Int32 × Int32) => X12_load_l142 rec s.1 s.2.1 s.2.2.1 s.2.2.2.1 s.2.2.2.2)  FU (σ, v1, v3, v4, (0 : Int32)))
  else
  (X12_load_b133 σ))))))
  else
  (bindo (X12_fails σ (4 : Int32)) (fun a5 =>
  some (a5.1, a5.2))))
  else
  (bindo (X12_fails σ (1 : Int32)) (fun a7 =>
  some (a7.1, a7.2))))
def X12_load (σ : Mem) (p1 : Int32) (p2 : Int32) (p3 : Int32) (p4 : Int32) : Option (Int32 × Mem) :=
  lete (wI σ 0 0 (0 : Int32)) (fun σ1 =>
  bindo (X12_within (p1.toInt64) (0 : Int64) (3 : Int64)) (fun r3 =>
  if ¬ r3 = (0 : Int32) then
  (bindo (X12_within (p2.toInt64) (0 : Int64) (2 : Int64)) (fun r5 =>
  if ¬ r5 = (0 : Int32) then
  (if (σ1.1 0 4) = (0 : Int32) then
  (chk (inb p1 4) (
  if (σ1.1 8 (ix p1)) = (-9 : Int32) then
  (X12_load_b71 σ1 p1 p3 p4)
  else
  (chk (inb p1 4) (
  if (σ1.1 8 (ix p1)) = p2 then
  (X12_load_b71 σ1 p1 p3 p4)
  else
  (bindo (X12_fails σ1 (2 : Int32)) (fun a9 =>
  some (a9.1, a9.2)))))))
  else
  (some ((-3 : Int32), σ1)))
  else
  (some ((-2 : Int32), σ1))))
  else
  (some ((-1 : Int32), σ1))))
abbrev rm_X12_load : Room := { frames := 2, cells := 0, slots := 0, locals := 49 }
set_option maxRecDepth 100000 in
set_option maxHeartbeats 4000000 in
theorem m_X12_load {E : EnvT} {cs : Nat → ClassId} (F : MF E cs) {p1 : Int32} {p2 : Int32} {p3 : Int32} {p4 : Int32} {σ : Mem} (C : CX E cX12_load RX12 7 rm_X12_load) {r0 : Int32 × Mem} (Q : QE E 0 0 (some .int) (RQi r0.1 r0.2)) : J E 7 0 0 r0 (X12_load σ p1 p2 p3 p4) σ 0 [(0, .ref (eAd E 0)), (1, .int p1), (2, .int p2), (3, .int p3), (4, .int p4)] [] := by
  have hB133 : ∀ (σ : Mem), J E 7 0 0 r0 (X12_load_b133 σ) σ 133 [(0, .ref (eAd E 0))] [] := by
    intro σ
    unfold X12_load_b133
    refine j_aload_n C dX12_load_133 0 rfl ?_
    refine j_iconst C (3 : Int32) dX12_load_134 (by decide) ?_
    refine j_bind (fun a2 h1 => ?_)
    refine j_callVi (ci := 12) C [.int (3 : Int32)] (c_X12_fails F h1) hM_X12_154 hI_X12_fails hS_X12_fails hZ_X12 hC_X12_fails (min_ F (by decide)) (me_0 F _ _) rfl rfl dd_X12_fails (by decide) ⟨rfl, rfl⟩ (by decide) (Nat.le_of_ble_eq_true rfl) dX12_load_135 rfl ?_
    exact j_ireti2 C Q dX12_load_138
  have hL236 : ∀ (f : Nat) (a : Mem × Int32 × Int32 × Int32 × Int32), J E 7 0 0 r0 (loopF (fun (rec : (Mem × Int32 × Int32 × Int32 × Int32) → Option (Int32 × Mem)) (s : Mem × Int32 × Int32 × Int32 × Int32) => X12_load_l236 rec s.1 s.2.1 s.2.2.1 s.2.2.2.1 s.2.2.2.2) f a) a.1 236 [(0, .ref (eAd E 0)), (1, .int a.2.1), (3, .int a.2.2.1), (4, .int a.2.2.2.1), (5, .int a.2.2.2.2)] [] := by
    refine j_loop (M := fun (a : Mem × Int32 × Int32 × Int32 × Int32) => a.1) (L := fun (a : Mem × Int32 × Int32 × Int32 × Int32) => [(0, .ref (eAd E 0)), (1, .int a.2.1), (3, .int a.2.2.1), (4, .int a.2.2.2.1), (5, .int a.2.2.2.2)]) (S := fun (a : Mem × Int32 × Int32 × Int32 × Int32) => []) (fun rec236 hrec236 a => ?_)
    obtain ⟨σ, v1, v3, v4, v5⟩ := a
    show J E 7 0 0 r0 (X12_load_l236 rec236 σ v1 v3 v4 v5) σ 236 [(0, .ref (eAd E 0)), (1, .int v1), (3, .int v3), (4, .int v4), (5, .int v5)] []
    unfold X12_load_l236
    refine j_iload C dX12_load_236 4 rfl ?_
    refine j_iload C dX12_load_238 3 rfl ?_
    refine j_icmp_ge C 300 dX12_load_240 (by decide) ?_ ?_
    · refine j_aload_n C dX12_load_300 0 rfl ?_
      refine j_get (ci := 12) C hU_X12 rfl (min_ F (by decide)) (me_0 F _ _) 13 (by decide) rfl hF_X12_139 dX12_load_301 ?_
      exact j_ireti2 C Q dX12_load_304
    · refine j_bipush C (40 : Int32) dX12_load_243 (by decide) ?_
      refine j_iload_n C dX12_load_245 1 rfl ?_
      refine j_imul C dX12_load_246 ?_
      refine j_iload_n C dX12_load_247 2 rfl ?_
      refine j_iadd C dX12_load_248 ?_
      refine j_iconst C (4 : Int32) dX12_load_249 (by decide) ?_
      refine j_iload C dX12_load_250 4 rfl ?_
      refine j_imul C dX12_load_252 ?_
      refine j_iadd C dX12_load_253 ?_
      refine j_nmi (fun x1 => ?_)
      refine j_istore (lv' := [(6, .int x1), (0, .ref (eAd E 0)), (1, .int v1), (3, .int v3), (4, .int v4), (5, .int v5)]) C dX12_load_254 (by decide) rfl ?_
      refine j_aload_n C dX12_load_256 1 rfl ?_
      refine j_aload_n C dX12_load_257 1 rfl ?_
      refine j_get (ci := 12) C hU_X12 rfl (min_ F (by decide)) (me_0 F _ _) 21 (by decide) rfl hF_X12_44 dX12_load_258 ?_
      refine j_iload C dX12_load_261 0 rfl ?_
      refine j_chk (fun h2 => ?_)
      refine j_iald (t0 := 0) C (min_ F (by decide)) (me_10 F _ _) (mt0 F) (inb_in h2) dX12_load_263 ?_
      refine j_aload_n C dX12_load_264 1 rfl ?_
      refine j_get (ci := 12) C hU_X12 rfl (min_ F (by decide)) (me_0 F _ _) 21 (by decide) rfl hF_X12_44 dX12_load_265 ?_
      refine j_iload C dX12_load_268 0 rfl ?_
      refine j_iconst C (1 : Int32) dX12_load_270 (by decide) ?_
      refine j_iadd C dX12_load_271 ?_
      refine j_chk (fun h3 => ?_)
      refine j_iald (t0 := 0) C (min_ F (by decide)) (me_10 F _ _) (mt0 F) (inb_in h3) dX12_load_272 ?_
      refine j_aload_n C dX12_load_273 1 rfl ?_
      refine j_get (ci := 12) C hU_X12 rfl (min_ F (by decide)) (me_0 F _ _) 21 (by decide) rfl hF_X12_44 dX12_load_274 ?_
      refine j_iload C dX12_load_277 0 rfl ?_
      refine j_iconst C (2 : Int32) dX12_load_279 (by decide) ?_
      refine j_iadd C dX12_load_280 ?_
      refine j_chk (fun h4 => ?_)
      refine j_iald (t0 := 0) C (min_ F (by decide)) (me_10 F _ _) (mt0 F) (inb_in h4) dX12_load_281 ?_
      refine j_aload_n C dX12_load_282 1 rfl ?_
      refine j_get (ci := 12) C hU_X12 rfl (min_ F (by decide)) (me_0 F _ _) 21 (by decide) rfl hF_X12_44 dX12_load_283 ?_
      refine j_iload C dX12_load_286 0 rfl ?_
      refine j_iconst C (3 : Int32) dX12_load_288 (by decide) ?_
      refine j_iadd C dX12_load_289 ?_
      refine j_chk (fun h5 => ?_)
      refine j_iald (t0 := 0) C (min_ F (by decide)) (me_10 F _ _) (mt0 F) (inb_in h5) dX12_load_290 ?_
      refine j_bind (fun σ7 h6 => ?_)
      refine j_callVv (ci := 12) C [.int (σ.1 10 (ix x1)), .int (σ.1 10 (ix (x1 + (1 : Int32)))), .int (σ.1 10 (ix (x1 + (2 : Int32)))), .int (σ.1 10 (ix (x1 + (3 : Int32))))] (c_X12_addStep F h6) hM_X12_146 hI_X12_addStep hS_X12_addStep hZ_X12 hC_X12_addStep (min_ F (by decide)) (me_0 F _ _) rfl rfl dd_X12_addStep (by decide) ⟨rfl, rfl⟩ (by decide) (Nat.le_of_ble_eq_true rfl) dX12_load_291 rfl ?_
      refine j_iincN (lf := fun x8 => [(5, .int x8), (6, .int x1), (0, .ref (eAd E 0)), (1, .int v1), (3, .int v3), (4, .int v4)]) C dX12_load_294 5 rfl (by rfl) (by decide) (fun _ => rfl) (fun x8 => ?_)
      refine j_goto C 236 dX12_load_297 (by decide) ?_
      refine j_lv [(0, .ref (eAd E 0)), (1, .int v1), (3, .int v3), (4, .int v4), (5, .int x8)] [2, 3, 4, 5, 0] rfl ?_
      exact hrec236 (σ7, v1, v3, v4, x8)
  have hL142 : ∀ (f : Nat) (a : Mem × Int32 × Int32 × Int32 × Int32), J E 7 0 0 r0 (loopF (fun (rec : (Mem × Int32 × Int32 × Int32 × Int32) → Option (Int32 × Mem)) (s : Mem × Int32 × Int32 × Int32 × Int32) => X12_load_l142 rec s.1 s.2.1 s.2.2.1 s.2.2.2.1 s.2.2.2.2) f a) a.1 142 [(0, .ref (eAd E 0)), (1, .int a.2.1), (3, .int a.2.2.1), (4, .int a.2.2.2.1), (5, .int a.2.2.2.2)] [] := by
    refine j_loop (M := fun (a : Mem × Int32 × Int32 × Int32 × Int32) => a.1) (L := fun (a : Mem × Int32 × Int32 × Int32 × Int32) => [(0, .ref (eAd E 0)), (1, .int a.2.1), (3, .int a.2.2.1), (4, .int a.2.2.2.1), (5, .int a.2.2.2.2)]) (S := fun (a : Mem × Int32 × Int32 × Int32 × Int32) => []) (fun rec142 hrec142 a => ?_)
    obtain ⟨σ, v1, v3, v4, v5⟩ := a
    show J E 7 0 0 r0 (X12_load_l142 rec142 σ v1 v3 v4 v5) σ 142 [(0, .ref (eAd E 0)), (1, .int v1), (3, .int v3), (4, .int v4), (5, .int v5)] []
    unfold X12_load_l142
    refine j_iload C dX12_load_142 4 rfl ?_
    refine j_iload C dX12_load_144 3 rfl ?_
    refine j_icmp_ge C 218 dX12_load_146 (by decide) ?_ ?_
    · refine j_aload_n C dX12_load_218 0 rfl ?_
      refine j_get (ci := 12) C hU_X12 rfl (min_ F (by decide)) (me_0 F _ _) 13 (by decide) rfl hF_X12_139 dX12_load_219 ?_
      refine j_iload C dX12_load_222 3 rfl ?_
      refine j_iadd C dX12_load_224 ?_
      refine j_bipush C (30 : Int32) dX12_load_225 (by decide) ?_
      refine j_icmp_le C 233 dX12_load_227 (by decide) ?_ ?_
      · refine j_iconst C (0 : Int32) dX12_load_233 (by decide) ?_
        refine j_istore (lv' := [(5, .int (0 : Int32)), (0, .ref (eAd E 0)), (1, .int v1), (3, .int v3), (4, .int v4)]) C dX12_load_234 (by decide) rfl ?_
        refine j_lv [(0, .ref (eAd E 0)), (1, .int v1), (3, .int v3), (4, .int v4), (5, .int (0 : Int32))] [1, 2, 3, 4, 0] rfl ?_
        exact hL236  FU (σ, v1, v3, v4, (0 : Int32))
      · refine j_bipush C (-4 : Int32) dX12_load_230 (by decide) ?_
        exact j_ireti2 C Q dX12_load_232
    · refine j_bipush C (40 : Int32) dX12_load_149 (by decide) ?_
      refine j_iload_n C dX12_load_151 1 rfl ?_
      refine j_imul C dX12_load_152 ?_
      refine j_iload_n C dX12_load_153 2 rfl ?_
      refine j_iadd C dX12_load_154 ?_
      refine j_iconst C (4 : Int32) dX12_load_155 (by decide) ?_
      refine j_iload C dX12_load_156 4 rfl ?_
      refine j_imul C dX12_load_158 ?_
      refine j_iadd C dX12_load_159 ?_
      refine j_nmi (fun x1 => ?_)
      refine j_istore (lv' := [(6, .int x1), (0, .ref (eAd E 0)), (1, .int v1), (3, .int v3), (4, .int v4), (5, .int v5)]) C dX12_load_160 (by decide) rfl ?_
      refine j_aload_n C dX12_load_162 1 rfl ?_
      refine j_get (ci := 12) C hU_X12 rfl (min_ F (by decide)) (me_0 F _ _) 13 (by decide) rfl hF_X12_139 dX12_load_163 ?_
      refine j_iload C dX12_load_166 5 rfl ?_
      refine j_iadd C dX12_load_168 ?_
      refine j_aload_n C dX12_load_169 1 rfl ?_
      refine j_get (ci := 12) C hU_X12 rfl (min_ F (by decide)) (me_0 F _ _) 21 (by decide) rfl hF_X12_44 dX12_load_170 ?_
      refine j_iload C dX12_load_173 0 rfl ?_
      refine j_chk (fun h2 => ?_)
      refine j_iald (t0 := 0) C (min_ F (by decide)) (me_10 F _ _) (mt0 F) (inb_in h2) dX12_load_175 ?_
      refine j_aload_n C dX12_load_176 1 rfl ?_
      refine j_get (ci := 12) C hU_X12 rfl (min_ F (by decide)) (me_0 F _ _) 21 (by decide) rfl hF_X12_44 dX12_load_177 ?_
      refine j_iload C dX12_load_180 0 rfl ?_
      refine j_iconst C (1 : Int32) dX12_load_182 (by decide) ?_
      refine j_iadd C dX12_load_183 ?_
      refine j_chk (fun h3 => ?_)
      refine j_iald (t0 := 0) C (min_ F (by decide)) (me_10 F _ _) (mt0 F) (inb_in h3) dX12_load_184 ?_
      refine j_aload_n C dX12_load_185 1 rfl ?_
      refine j_get (ci := 12) C hU_X12 rfl (min_ F (by decide)) (me_0 F _ _) 21 (by decide) rfl hF_X12_44 dX12_load_186 ?_
      refine j_iload C dX12_load_189 0 rfl ?_
      refine j_iconst C (2 : Int32) dX12_load_191 (by decide) ?_
      refine j_iadd C dX12_load_192 ?_
      refine j_chk (fun h4 => ?_)
      refine j_iald (t0 := 0) C (min_ F (by decide)) (me_10 F _ _) (mt0 F) (inb_in h4) dX12_load_193 ?_
      refine j_aload_n C dX12_load_194 1 rfl ?_
      refine j_get (ci := 12) C hU_X12 rfl (min_ F (by decide)) (me_0 F _ _) 21 (by decide) rfl hF_X12_44 dX12_load_195 ?_
      refine j_iload C dX12_load_198 0 rfl ?_
      refine j_iconst C (3 : Int32) dX12_load_200 (by decide) ?_
      refine j_iadd C dX12_load_201 ?_
      refine j_chk (fun h5 => ?_)
      refine j_iald (t0 := 0) C (min_ F (by decide)) (me_10 F _ _) (mt0 F) (inb_in h5) dX12_load_202 ?_
      refine j_bind (fun r7 h6 => ?_)
      refine j_callSi C [.int ((σ.1 0 13) + v5), .int (σ.1 10 (ix x1)), .int (σ.1 10 (ix (x1 + (1 : Int32)))), .int (σ.1 10 (ix (x1 + (2 : Int32)))), .int (σ.1 10 (ix (x1 + (3 : Int32))))] (c_X12_mayStand F h6) hM_X12_142 hT_X12_mayStand hZ_X12 hC_X12_mayStand dd_X12_mayStand (by decide) ⟨rfl, rfl⟩ (by decide) (Nat.le_of_ble_eq_true rfl) dX12_load_203 rfl ?_
      refine j_if_ne C 212 dX12_load_206 (by decide) ?_ ?_
      · refine j_iincN (lf := fun x8 => [(5, .int x8), (6, .int x1), (0, .ref (eAd E 0)), (1, .int v1), (3, .int v3), (4, .int v4)]) C dX12_load_212 5 rfl (by rfl) (by decide) (fun _ => rfl) (fun x8 => ?_)
        refine j_goto C 142 dX12_load_215 (by decide) ?_
        refine j_lv [(0, .ref (eAd E 0)), (1, .int v1), (3, .int v3), (4, .int v4), (5, .int x8)] [2, 3, 4, 5, 0] rfl ?_
        exact hrec142 (σ, v1, v3, v4, x8)
      · refine j_bipush C (-2 : Int32) dX12_load_209 (by decide) ?_
        exact j_ireti2 C Q dX12_load_211
  have hB71 : ∀ (σ : Mem) (v1 : Int32) (v3 : Int32) (v4 : Int32), J E 7 0 0 r0 (X12_load_b71 σ v1 v3 v4) σ 71 [(0, .ref (eAd E 0)), (1, .int v1), (3, .int v3), (4, .int v4)] [] := by
    intro σ v1 v3 v4
    unfold X12_load_b71
    refine j_aload_n C dX12_load_71 0 rfl ?_
    refine j_get (ci := 12) C hU_X12 rfl (min_ F (by decide)) (me_0 F _ _) 19 (by decide) rfl hF_X12_38 dX12_load_72 ?_
    refine j_iload_n C dX12_load_75 1 rfl ?_
    refine j_chk (fun h1 => ?_)
    refine j_iald (t0 := 0) C (min_ F (by decide)) (me_8 F _ _) (mt0 F) (inb_in h1) dX12_load_76 ?_
    refine j_bipush C (-9 : Int32) dX12_load_77 (by decide) ?_
    refine j_icmp_ne C 88 dX12_load_79 (by decide) ?_ ?_
    · refine j_iload C dX12_load_88 3 rfl ?_
      refine j_if_ge C 99 dX12_load_90 (by decide) ?_ ?_
      · refine j_iload_n C dX12_load_99 2 rfl ?_
        refine j_if_lt C 133 dX12_load_100 (by decide) ?_ ?_
        · refine j_lv [(0, .ref (eAd E 0))] [0] rfl ?_
          exact hB133 σ
        · refine j_iload_n C dX12_load_103 2 rfl ?_
          refine j_aload_n C dX12_load_104 0 rfl ?_
          refine j_get (ci := 12) C hU_X12 rfl (min_ F (by decide)) (me_0 F _ _) 20 (by decide) rfl hF_X12_41 dX12_load_105 ?_
          refine j_iload_n C dX12_load_108 1 rfl ?_
          refine j_chk (fun h2 => ?_)
          refine j_iald (t0 := 0) C (min_ F (by decide)) (me_9 F _ _) (mt0 F) (inb_in h2) dX12_load_109 ?_
          refine j_icmp_gt C 133 dX12_load_110 (by decide) ?_ ?_
          · refine j_lv [(0, .ref (eAd E 0))] [0] rfl ?_
            exact hB133 σ
          · refine j_ldc2 C hK_X12_158 dX12_load_113 ?_
            refine j_iload C dX12_load_116 3 rfl ?_
            refine j_i2l C dX12_load_118 ?_
            refine j_lmul C dX12_load_119 ?_
            refine j_aload_n C dX12_load_120 0 rfl ?_
            refine j_get (ci := 12) C hU_X12 rfl (min_ F (by decide)) (me_0 F _ _) 20 (by decide) rfl hF_X12_41 dX12_load_121 ?_
            refine j_iload_n C dX12_load_124 1 rfl ?_
            refine j_chk (fun h3 => ?_)
            refine j_iald (t0 := 0) C (min_ F (by decide)) (me_9 F _ _) (mt0 F) (inb_in h3) dX12_load_125 ?_
            refine j_iload_n C dX12_load_126 2 rfl ?_
            refine j_isub C dX12_load_127 ?_
            refine j_i2l C dX12_load_128 ?_
            refine j_lcmp C dX12_load_129 ?_
            refine j_if_le C 139 dX12_load_130 (by decide) ?_ ?_
            · refine j_iconst C (0 : Int32) dX12_load_139 (by decide) ?_
              refine j_istore (lv' := [(5, .int (0 : Int32)), (0, .ref (eAd E 0)), (1, .int v1), (3, .int v3), (4, .int v4)]) C dX12_load_140 (by decide) rfl ?_
              refine j_lv [(0, .ref (eAd E 0)), (1, .int v1), (3, .int v3), (4, .int v4), (5, .int (0 : Int32))] [1, 2, 3, 4, 0] rfl ?_
              exact hL142  FU (σ, v1, v3, v4, (0 : Int32))
            · refine j_lv [(0, .ref (eAd E 0))] [0] rfl ?_
              exact hB133 σ
      · refine j_aload_n C dX12_load_93 0 rfl ?_
        refine j_iconst C (4 : Int32) dX12_load_94 (by decide) ?_
        refine j_bind (fun a5 h4 => ?_)
        refine j_callVi (ci := 12) C [.int (4 : Int32)] (c_X12_fails F h4) hM_X12_154 hI_X12_fails hS_X12_fails hZ_X12 hC_X12_fails (min_ F (by decide)) (me_0 F _ _) rfl rfl dd_X12_fails (by decide) ⟨rfl, rfl⟩ (by decide) (Nat.le_of_ble_eq_true rfl) dX12_load_95 rfl ?_
        exact j_ireti2 C Q dX12_load_98
    · refine j_aload_n C dX12_load_82 0 rfl ?_
      refine j_iconst C (1 : Int32) dX12_load_83 (by decide) ?_
      refine j_bind (fun a7 h6 => ?_)
      refine j_callVi (ci := 12) C [.int (1 : Int32)] (c_X12_fails F h6) hM_X12_154 hI_X12_fails hS_X12_fails hZ_X12 hC_X12_fails (min_ F (by decide)) (me_0 F _ _) rfl rfl dd_X12_fails (by decide) ⟨rfl, rfl⟩ (by decide) (Nat.le_of_ble_eq_true rfl) dX12_load_84 rfl ?_
      exact j_ireti2 C Q dX12_load_87
  unfold X12_load
  refine j_aload_n C dX12_load_0 0 rfl ?_
  refine j_iconst C (0 : Int32) dX12_load_1 (by decide) ?_
  refine j_put (ci := 12) C hU_X12 tyX12_ok nmX12 rfl (min_ F (by decide)) (me_0 F _ _) 0 (by decide) (Nat.le_of_ble_eq_true rfl) (by rw [wI_o, wI_2]; exact (me_0 F _ _)) (fun o' h' => ⟨wI_ne _ _ _ h', rfl⟩) rfl (by first | rfl | decide) (by first | rfl | decide) hF_X12_103 dX12_load_2 (fun σ1 => ?_)
  refine j_iload_n C dX12_load_5 1 rfl ?_
  refine j_i2l C dX12_load_6 ?_
  refine j_lconst C (0 : Int64) dX12_load_7 (by decide) ?_
  refine j_ldc2 C hK_X12_150 dX12_load_8 ?_
  refine j_bind (fun r3 h2 => ?_)
  refine j_callSi C [.long (p1.toInt64), .long (0 : Int64), .long (3 : Int64)] (c_X12_within F h2) hM_X12_110 hT_X12_within hZ_X12 hC_X12_within dd_X12_within (by decide) ⟨rfl, rfl⟩ (by decide) (Nat.le_of_ble_eq_true rfl) dX12_load_11 rfl ?_
  refine j_if_ne C 19 dX12_load_14 (by decide) ?_ ?_
  · refine j_iload_n C dX12_load_19 2 rfl ?_
    refine j_i2l C dX12_load_20 ?_
    refine j_lconst C (0 : Int64) dX12_load_21 (by decide) ?_
    refine j_ldc2 C hK_X12_152 dX12_load_22 ?_
    refine j_bind (fun r5 h4 => ?_)
    refine j_callSi C [.long (p2.toInt64), .long (0 : Int64), .long (2 : Int64)] (c_X12_within F h4) hM_X12_110 hT_X12_within hZ_X12 hC_X12_within dd_X12_within (by decide) ⟨rfl, rfl⟩ (by decide) (Nat.le_of_ble_eq_true rfl) dX12_load_25 rfl ?_
    refine j_if_ne C 34 dX12_load_28 (by decide) ?_ ?_
    · refine j_aload_n C dX12_load_34 0 rfl ?_
      refine j_get (ci := 12) C hU_X12 rfl (min_ F (by decide)) (me_0 F _ _) 4 (by decide) rfl hF_X12_118 dX12_load_35 ?_
      refine j_if_eq C 44 dX12_load_38 (by decide) ?_ ?_
      · refine j_aload_n C dX12_load_44 0 rfl ?_
        refine j_get (ci := 12) C hU_X12 rfl (min_ F (by decide)) (me_0 F _ _) 19 (by decide) rfl hF_X12_38 dX12_load_45 ?_
        refine j_iload_n C dX12_load_48 1 rfl ?_
        refine j_chk (fun h6 => ?_)
        refine j_iald (t0 := 0) C (min_ F (by decide)) (me_8 F _ _) (mt0 F) (inb_in h6) dX12_load_49 ?_
        refine j_bipush C (-9 : Int32) dX12_load_50 (by decide) ?_
        refine j_icmp_eq C 71 dX12_load_52 (by decide) ?_ ?_
        · refine j_lv [(0, .ref (eAd E 0)), (1, .int p1), (3, .int p3), (4, .int p4)] [0, 1, 3, 4] rfl ?_
          exact hB71 σ1 p1 p3 p4
        · refine j_aload_n C dX12_load_55 0 rfl ?_
          refine j_get (ci := 12) C hU_X12 rfl (min_ F (by decide)) (me_0 F _ _) 19 (by decide) rfl hF_X12_38 dX12_load_56 ?_
          refine j_iload_n C dX12_load_59 1 rfl ?_
          refine j_chk (fun h7 => ?_)
          refine j_iald (t0 := 0) C (min_ F (by decide)) (me_8 F _ _) (mt0 F) (inb_in h7) dX12_load_60 ?_
          refine j_iload_n C dX12_load_61 2 rfl ?_
          refine j_icmp_eq C 71 dX12_load_62 (by decide) ?_ ?_
          · refine j_lv [(0, .ref (eAd E 0)), (1, .int p1), (3, .int p3), (4, .int p4)] [0, 1, 3, 4] rfl ?_
            exact hB71 σ1 p1 p3 p4
          · refine j_aload_n C dX12_load_65 0 rfl ?_
            refine j_iconst C (2 : Int32) dX12_load_66 (by decide) ?_
            refine j_bind (fun a9 h8 => ?_)
            refine j_callVi (ci := 12) C [.int (2 : Int32)] (c_X12_fails F h8) hM_X12_154 hI_X12_fails hS_X12_fails hZ_X12 hC_X12_fails (min_ F (by decide)) (me_0 F _ _) rfl rfl dd_X12_fails (by decide) ⟨rfl, rfl⟩ (by decide) (Nat.le_of_ble_eq_true rfl) dX12_load_67 rfl ?_
            exact j_ireti2 C Q dX12_load_70
      · refine j_bipush C (-3 : Int32) dX12_load_41 (by decide) ?_
        exact j_ireti2 C Q dX12_load_43
    · refine j_bipush C (-2 : Int32) dX12_load_31 (by decide) ?_
      exact j_ireti2 C Q dX12_load_33
  · refine j_iconst C (-1 : Int32) dX12_load_17 (by decide) ?_
    exact j_ireti2 C Q dX12_load_18
set_option maxRecDepth 100000 in
set_option maxHeartbeats 4000000 in
theorem c_X12_load {E : EnvT} {cs : Nat → ClassId} (F : MF E cs) {σ : Mem} {p1 : Int32} {p2 : Int32} {p3 : Int32} {p4 : Int32} {r : Int32 × Mem} (h : X12_load σ p1 p2 p3 p4 = some r) : CT E yX12_load cX12_load 7 (some .int) rm_X12_load [.ref (eAd E 0), .int p1, .int p2, .int p3, .int p4] σ (RQi r.1 r.2) :=
  ct_M F (by decide) (Nat.le_of_ble_eq_true rfl) (fun E' ea F' C Q => by rw [← ea]; exact m_X12_load F'  C Q h)
theorem dd_X12_load : yX12_load.cls ≠ "java/lang/invoke/MethodHandle" ∧ yX12_load.cls ≠ "java/lang/invoke/VarHandle" ∧ (parseMethodDescriptor yX12_load.desc).map (fun d => d.parameters.length) = some 4 := by decide +kernel
def X12_clear (σ : Mem) : Option (Int32 × Mem) :=
  if (σ.1 0 4) = (0 : Int32) then
  (lete (σ.1 0 13) (fun x1 =>
  lete (wI σ 0 13 (0 : Int32)) (fun σ2 =>
  some (x1, σ2))))
  else
  (some ((-3 : Int32), σ))
abbrev rm_X12_clear : Room := { frames := 0, cells := 0, slots := 0, locals := 0 }
set_option maxRecDepth 100000 in
set_option maxHeartbeats 4000000 in
theorem m_X12_clear {E : EnvT} {cs : Nat → ClassId} (F : MF E cs) {σ : Mem} (C : CX E cX12_clear RX12 2 rm_X12_clear) {r0 : Int32 × Mem} (Q : QE E 0 0 (some .int) (RQi r0.1 r0.2)) : J E 2 0 0 r0 (X12_clear σ) σ 0 [(0, .ref (eAd E 0))] [] := by

  unfold X12_clear
  refine j_aload_n C dX12_clear_0 0 rfl ?_
  refine j_get (ci := 12) C hU_X12 rfl (min_ F (by decide)) (me_0 F _ _) 4 (by decide) rfl hF_X12_118 dX12_clear_1 ?_
  refine j_if_eq C 10 dX12_clear_4 (by decide) ?_ ?_
  · refine j_aload_n C dX12_clear_10 0 rfl ?_
    refine j_get (ci := 12) C hU_X12 rfl (min_ F (by decide)) (me_0 F _ _) 13 (by decide) rfl hF_X12_139 dX12_clear_11 ?_
    refine j_nmi (fun x1 => ?_)
    refine j_istore_n (lv' := [(1, .int x1), (0, .ref (eAd E 0))]) C dX12_clear_14 (by decide) rfl ?_
    refine j_aload_n C dX12_clear_15 1 rfl ?_
    refine j_iconst C (0 : Int32) dX12_clear_16 (by decide) ?_
    refine j_put (ci := 12) C hU_X12 tyX12_ok nmX12 rfl (min_ F (by decide)) (me_0 F _ _) 13 (by decide) (Nat.le_of_ble_eq_true rfl) (by rw [wI_o, wI_2]; exact (me_0 F _ _)) (fun o' h' => ⟨wI_ne _ _ _ h', rfl⟩) rfl (by first | rfl | decide) (by first | rfl | decide) hF_X12_139 dX12_clear_17 (fun σ2 => ?_)
    refine j_iload_n C dX12_clear_20 0 rfl ?_
    exact j_ireti2 C Q dX12_clear_21
  · refine j_bipush C (-3 : Int32) dX12_clear_7 (by decide) ?_
    exact j_ireti2 C Q dX12_clear_9
set_option maxRecDepth 100000 in
set_option maxHeartbeats 4000000 in
theorem c_X12_clear {E : EnvT} {cs : Nat → ClassId} (F : MF E cs) {σ : Mem} {r : Int32 × Mem} (h : X12_clear σ = some r) : CT E yX12_clear cX12_clear 2 (some .int) rm_X12_clear [.ref (eAd E 0)] σ (RQi r.1 r.2) :=
  ct_M F (by decide) (Nat.le_of_ble_eq_true rfl) (fun E' ea F' C Q => by rw [← ea]; exact m_X12_clear F'  C Q h)
theorem dd_X12_clear : yX12_clear.cls ≠ "java/lang/invoke/MethodHandle" ∧ yX12_clear.cls ≠ "java/lang/invoke/VarHandle" ∧ (parseMethodDescriptor yX12_clear.desc).map (fun d => d.parameters.length) = some 0 := by decide +kernel
def X12_isStep (σ : Mem) (p1 : Int32) : Option (Int32) :=
  if p1 < (0 : Int32) then
  (some (0 : Int32))
  else
  (if (σ.1 0 13) ≤ p1 then
  (some (0 : Int32))
  else
  (some (1 : Int32)))
abbrev rm_X12_isStep : Room := { frames := 0, cells := 0, slots := 0, locals := 0 }
set_option maxRecDepth 100000 in
set_option maxHeartbeats 4000000 in
theorem m_X12_isStep {E : EnvT} {cs : Nat → ClassId} (F : MF E cs) {p1 : Int32} {σ : Mem} (C : CX E cX12_isStep RX12 2 rm_X12_isStep) {r0 : Int32} (Q : QE E 0 0 (some .boolean) (RQi r0 σ)) : J E 2 0 0 r0 (X12_isStep σ p1) σ 0 [(0, .ref (eAd E 0)), (1, .int p1)] [] := by

  unfold X12_isStep
  refine j_iload_n C dX12_isStep_0 1 rfl ?_
  refine j_if_lt C 16 dX12_isStep_1 (by decide) ?_ ?_
  · refine j_iconst C (0 : Int32) dX12_isStep_16 (by decide) ?_
    exact j_iretz C rfl Q dX12_isStep_17
  · refine j_iload_n C dX12_isStep_4 1 rfl ?_
    refine j_aload_n C dX12_isStep_5 0 rfl ?_
    refine j_get (ci := 12) C hU_X12 rfl (min_ F (by decide)) (me_0 F _ _) 13 (by decide) rfl hF_X12_139 dX12_isStep_6 ?_
    refine j_icmp_ge C 16 dX12_isStep_9 (by decide) ?_ ?_
    · refine j_iconst C (0 : Int32) dX12_isStep_16 (by decide) ?_
      exact j_iretz C rfl Q dX12_isStep_17
    · refine j_iconst C (1 : Int32) dX12_isStep_12 (by decide) ?_
      refine j_goto C 17 dX12_isStep_13 (by decide) ?_
      exact j_iretz C rfl Q dX12_isStep_17
set_option maxRecDepth 100000 in
set_option maxHeartbeats 4000000 in
theorem c_X12_isStep {E : EnvT} {cs : Nat → ClassId} (F : MF E cs) {σ : Mem} {p1 : Int32} {r : Int32} (h : X12_isStep σ p1 = some r) : CT E yX12_isStep cX12_isStep 2 (some .boolean) rm_X12_isStep [.ref (eAd E 0), .int p1] σ (RQi r σ) :=
  ct_M F (by decide) (Nat.le_of_ble_eq_true rfl) (fun E' ea F' C Q => by rw [← ea]; exact m_X12_isStep F'  C Q h)
theorem dd_X12_isStep : yX12_isStep.cls ≠ "java/lang/invoke/MethodHandle" ∧ yX12_isStep.cls ≠ "java/lang/invoke/VarHandle" ∧ (parseMethodDescriptor yX12_isStep.desc).map (fun d => d.parameters.length) = some 1 := by decide +kernel
def X12_stepped (σ : Mem) (p1 : Int32) (p2 : Int32) : Option (Int32) :=
  bindo (X12_isStep σ p1) (fun r2 =>
  if ¬ r2 = (0 : Int32) then
  (if p2 = (0 : Int32) then
  (chk (inb p1 30) (
  some (σ.1 3 (ix p1))))
  else
  if p2 = (1 : Int32) then
  (chk (inb p1 30) (
  some (σ.1 4 (ix p1))))
  else
  if p2 = (2 : Int32) then
  (chk (inb p1 30) (
  some (σ.1 5 (ix p1))))
  else
  if p2 = (3 : Int32) then
  (chk (inb p1 30) (
  some (σ.1 6 (ix p1))))
  else
  (some (-2 : Int32)))
  else
  (some (-1 : Int32)))
abbrev rm_X12_stepped : Room := { frames := 1, cells := 0, slots := 0, locals := 21 }
set_option maxRecDepth 100000 in
set_option maxHeartbeats 4000000 in
theorem m_X12_stepped {E : EnvT} {cs : Nat → ClassId} (F : MF E cs) {p1 : Int32} {p2 : Int32} {σ : Mem} (C : CX E cX12_stepped RX12 3 rm_X12_stepped) {r0 : Int32} (Q : QE E 0 0 (some .int) (RQi r0 σ)) : J E 3 0 0 r0 (X12_stepped σ p1 p2) σ 0 [(0, .ref (eAd E 0)), (1, .int p1), (2, .int p2)] [] := by

  unfold X12_stepped
  refine j_aload_n C dX12_stepped_0 0 rfl ?_
  refine j_iload_n C dX12_stepped_1 1 rfl ?_
  refine j_bind (fun r2 h1 => ?_)
  refine j_callVi (ci := 12) C [.int p1] (c_X12_isStep F h1) hM_X12_160 hI_X12_isStep hS_X12_isStep hZ_X12 hC_X12_isStep (min_ F (by decide)) (me_0 F _ _) rfl rfl dd_X12_isStep (by decide) ⟨rfl, rfl⟩ (by decide) (Nat.le_of_ble_eq_true rfl) dX12_stepped_2 rfl ?_
  refine j_if_ne C 10 dX12_stepped_5 (by decide) ?_ ?_
  · refine j_iload_n C dX12_stepped_10 2 rfl ?_
    refine j_ite (fun q0 => ?_) (fun q0 => ?_)
    · refine j_tsIn C (0 : Int32) 40 dX12_stepped_11 q0 (by decide) (by decide) rfl (by decide) ?_
      refine j_aload_n C dX12_stepped_40 0 rfl ?_
      refine j_get (ci := 12) C hU_X12 rfl (min_ F (by decide)) (me_0 F _ _) 14 (by decide) rfl hF_X12_23 dX12_stepped_41 ?_
      refine j_iload_n C dX12_stepped_44 1 rfl ?_
      refine j_chk (fun h3 => ?_)
      refine j_iald (t0 := 0) C (min_ F (by decide)) (me_3 F _ _) (mt0 F) (inb_in h3) dX12_stepped_45 ?_
      exact j_ireti C Q dX12_stepped_46
    refine j_ite (fun q1 => ?_) (fun q1 => ?_)
    · refine j_tsIn C (1 : Int32) 47 dX12_stepped_11 q1 (by decide) (by decide) rfl (by decide) ?_
      refine j_aload_n C dX12_stepped_47 0 rfl ?_
      refine j_get (ci := 12) C hU_X12 rfl (min_ F (by decide)) (me_0 F _ _) 15 (by decide) rfl hF_X12_26 dX12_stepped_48 ?_
      refine j_iload_n C dX12_stepped_51 1 rfl ?_
      refine j_chk (fun h4 => ?_)
      refine j_iald (t0 := 0) C (min_ F (by decide)) (me_4 F _ _) (mt0 F) (inb_in h4) dX12_stepped_52 ?_
      exact j_ireti C Q dX12_stepped_53
    refine j_ite (fun q2 => ?_) (fun q2 => ?_)
    · refine j_tsIn C (2 : Int32) 54 dX12_stepped_11 q2 (by decide) (by decide) rfl (by decide) ?_
      refine j_aload_n C dX12_stepped_54 0 rfl ?_
      refine j_get (ci := 12) C hU_X12 rfl (min_ F (by decide)) (me_0 F _ _) 16 (by decide) rfl hF_X12_29 dX12_stepped_55 ?_
      refine j_iload_n C dX12_stepped_58 1 rfl ?_
      refine j_chk (fun h5 => ?_)
      refine j_iald (t0 := 0) C (min_ F (by decide)) (me_5 F _ _) (mt0 F) (inb_in h5) dX12_stepped_59 ?_
      exact j_ireti C Q dX12_stepped_60
    refine j_ite (fun q3 => ?_) (fun q3 => ?_)
    · refine j_tsIn C (3 : Int32) 61 dX12_stepped_11 q3 (by decide) (by decide) rfl (by decide) ?_
      refine j_aload_n C dX12_stepped_61 0 rfl ?_
      refine j_get (ci := 12) C hU_X12 rfl (min_ F (by decide)) (me_0 F _ _) 17 (by decide) rfl hF_X12_32 dX12_stepped_62 ?_
      refine j_iload_n C dX12_stepped_65 1 rfl ?_
      refine j_chk (fun h6 => ?_)
      refine j_iald (t0 := 0) C (min_ F (by decide)) (me_6 F _ _) (mt0 F) (inb_in h6) dX12_stepped_66 ?_
      exact j_ireti C Q dX12_stepped_67
    refine j_tsOut C 68 dX12_stepped_11 (by have z0 := lv_neT (k := (0 : Int32)) (a := 0) q0 (by decide); have z1 := lv_neT (k := (1 : Int32)) (a := 1) q1 (by decide); have z2 := lv_neT (k := (2 : Int32)) (a := 2) q2 (by decide); have z3 := lv_neT (k := (3 : Int32)) (a := 3) q3 (by decide); omega) (by decide) ?_
    refine j_bipush C (-2 : Int32) dX12_stepped_68 (by decide) ?_
    exact j_ireti C Q dX12_stepped_70
  · refine j_iconst C (-1 : Int32) dX12_stepped_8 (by decide) ?_
    exact j_ireti C Q dX12_stepped_9
set_option maxRecDepth 100000 in
set_option maxHeartbeats 4000000 in
theorem c_X12_stepped {E : EnvT} {cs : Nat → ClassId} (F : MF E cs) {σ : Mem} {p1 : Int32} {p2 : Int32} {r : Int32} (h : X12_stepped σ p1 p2 = some r) : CT E yX12_stepped cX12_stepped 3 (some .int) rm_X12_stepped [.ref (eAd E 0), .int p1, .int p2] σ (RQi r σ) :=
  ct_M F (by decide) (Nat.le_of_ble_eq_true rfl) (fun E' ea F' C Q => by rw [← ea]; exact m_X12_stepped F'  C Q h)
theorem dd_X12_stepped : yX12_stepped.cls ≠ "java/lang/invoke/MethodHandle" ∧ yX12_stepped.cls ≠ "java/lang/invoke/VarHandle" ∧ (parseMethodDescriptor yX12_stepped.desc).map (fun d => d.parameters.length) = some 2 := by decide +kernel
def X12_start_l34 (rec34 : (Mem × Int32) → Option (Int32 × Mem)) (σ : Mem) (v1 : Int32) : Option (Int32 × Mem) :=
  if (30 : Int32) ≤ v1 then
  (some ((1 : Int32), σ))
  else
  (chk (inb v1 30) (
  lete (wI σ 7 (ix v1) (0 : Int32)) (fun σ2 =>
  lete (v1 + (1 : Int32)) (fun x3 =>
  rec34 (σ2, x3)))))
def X12_start (σ : Mem) : Option (Int32 × Mem) :=
  if ¬ (σ.1 0 4) = (0 : Int32) then
  (some ((-3 : Int32), σ))
  else
  (if ¬ (σ.1 0 13) = (0 : Int32) then
  (lete (wI σ 0 4 (1 : Int32)) (fun σ1 =>
  lete (wI σ1 0 6 (0 : Int32)) (fun σ2 =>
  lete (wI σ2 0 7 (0 : Int32)) (fun σ3 =>
  loopF (fun (rec : (Mem × Int32) → Option (Int32 × Mem)) (s : Mem × Int32) => X12_start_l34 rec s.1 s.2)  FU (σ3, (0 : Int32))))))
  else
  (some ((-3 : Int32), σ)))
abbrev rm_X12_start : Room := { frames := 0, cells := 0, slots := 0, locals := 0 }
set_option maxRecDepth 100000 in
set_option maxHeartbeats 4000000 in
theorem m_X12_start {E : EnvT} {cs : Nat → ClassId} (F : MF E cs) {σ : Mem} (C : CX E cX12_start RX12 2 rm_X12_start) {r0 : Int32 × Mem} (Q : QE E 0 0 (some .int) (RQi r0.1 r0.2)) : J E 2 0 0 r0 (X12_start σ) σ 0 [(0, .ref (eAd E 0))] [] := by
  have hL34 : ∀ (f : Nat) (a : Mem × Int32), J E 2 0 0 r0 (loopF (fun (rec : (Mem × Int32) → Option (Int32 × Mem)) (s : Mem × Int32) => X12_start_l34 rec s.1 s.2) f a) a.1 34 [(0, .ref (eAd E 0)), (1, .int a.2)] [] := by
    refine j_loop (M := fun (a : Mem × Int32) => a.1) (L := fun (a : Mem × Int32) => [(0, .ref (eAd E 0)), (1, .int a.2)]) (S := fun (a : Mem × Int32) => []) (fun rec34 hrec34 a => ?_)
    obtain ⟨σ, v1⟩ := a
    show J E 2 0 0 r0 (X12_start_l34 rec34 σ v1) σ 34 [(0, .ref (eAd E 0)), (1, .int v1)] []
    unfold X12_start_l34
    refine j_iload_n C dX12_start_34 1 rfl ?_
    refine j_bipush C (30 : Int32) dX12_start_35 (by decide) ?_
    refine j_icmp_ge C 53 dX12_start_37 (by decide) ?_ ?_
    · refine j_iconst C (1 : Int32) dX12_start_53 (by decide) ?_
      exact j_ireti2 C Q dX12_start_54
    · refine j_aload_n C dX12_start_40 0 rfl ?_
      refine j_get (ci := 12) C hU_X12 rfl (min_ F (by decide)) (me_0 F _ _) 18 (by decide) rfl hF_X12_35 dX12_start_41 ?_
      refine j_iload_n C dX12_start_44 1 rfl ?_
      refine j_iconst C (0 : Int32) dX12_start_45 (by decide) ?_
      refine j_chk (fun h1 => ?_)
      refine j_iast (t0 := 0) C (min_ F (by decide)) (me_7 F _ _) (by rw [wI_o, wI_2]; exact (me_7 F _ _)) (mt0 F) (inb_in h1) dX12_start_46 (fun σ2 => ?_)
      refine j_iincN (lf := fun x3 => [(1, .int x3), (0, .ref (eAd E 0))]) C dX12_start_47 1 rfl (by rfl) (by decide) (fun _ => rfl) (fun x3 => ?_)
      refine j_goto C 34 dX12_start_50 (by decide) ?_
      refine j_lv [(0, .ref (eAd E 0)), (1, .int x3)] [1, 0] rfl ?_
      exact hrec34 (σ2, x3)
  unfold X12_start
  refine j_aload_n C dX12_start_0 0 rfl ?_
  refine j_get (ci := 12) C hU_X12 rfl (min_ F (by decide)) (me_0 F _ _) 4 (by decide) rfl hF_X12_118 dX12_start_1 ?_
  refine j_if_ne C 14 dX12_start_4 (by decide) ?_ ?_
  · refine j_bipush C (-3 : Int32) dX12_start_14 (by decide) ?_
    exact j_ireti2 C Q dX12_start_16
  · refine j_aload_n C dX12_start_7 0 rfl ?_
    refine j_get (ci := 12) C hU_X12 rfl (min_ F (by decide)) (me_0 F _ _) 13 (by decide) rfl hF_X12_139 dX12_start_8 ?_
    refine j_if_ne C 17 dX12_start_11 (by decide) ?_ ?_
    · refine j_aload_n C dX12_start_17 0 rfl ?_
      refine j_iconst C (1 : Int32) dX12_start_18 (by decide) ?_
      refine j_put (ci := 12) C hU_X12 tyX12_ok nmX12 rfl (min_ F (by decide)) (me_0 F _ _) 4 (by decide) (Nat.le_of_ble_eq_true rfl) (by rw [wI_o, wI_2]; exact (me_0 F _ _)) (fun o' h' => ⟨wI_ne _ _ _ h', rfl⟩) rfl (by first | rfl | decide) (by first | rfl | decide) hF_X12_118 dX12_start_19 (fun σ1 => ?_)
      refine j_aload_n C dX12_start_22 0 rfl ?_
      refine j_iconst C (0 : Int32) dX12_start_23 (by decide) ?_
      refine j_put (ci := 12) C hU_X12 tyX12_ok nmX12 rfl (min_ F (by decide)) (me_0 F _ _) 6 (by decide) (Nat.le_of_ble_eq_true rfl) (by rw [wI_o, wI_2]; exact (me_0 F _ _)) (fun o' h' => ⟨wI_ne _ _ _ h', rfl⟩) rfl (by first | rfl | decide) (by first | rfl | decide) hF_X12_164 dX12_start_24 (fun σ2 => ?_)
      refine j_aload_n C dX12_start_27 0 rfl ?_
      refine j_iconst C (0 : Int32) dX12_start_28 (by decide) ?_
      refine j_put (ci := 12) C hU_X12 tyX12_ok nmX12 rfl (min_ F (by decide)) (me_0 F _ _) 7 (by decide) (Nat.le_of_ble_eq_true rfl) (by rw [wI_o, wI_2]; exact (me_0 F _ _)) (fun o' h' => ⟨wI_ne _ _ _ h', rfl⟩) rfl (by first | rfl | decide) (by first | rfl | decide) hF_X12_167 dX12_start_29 (fun σ3 => ?_)
      refine j_iconst C (0 : Int32) dX12_start_32 (by decide) ?_
      refine j_istore_n (lv' := [(1, .int (0 : Int32)), (0, .ref (eAd E 0))]) C dX12_start_33 (by decide) rfl ?_
      refine j_lv [(0, .ref (eAd E 0)), (1, .int (0 : Int32))] [1, 0] rfl ?_
      exact hL34  FU (σ3, (0 : Int32))
    · refine j_bipush C (-3 : Int32) dX12_start_14 (by decide) ?_
      exact j_ireti2 C Q dX12_start_16
set_option maxRecDepth 100000 in
set_option maxHeartbeats 4000000 in
theorem c_X12_start {E : EnvT} {cs : Nat → ClassId} (F : MF E cs) {σ : Mem} {r : Int32 × Mem} (h : X12_start σ = some r) : CT E yX12_start cX12_start 2 (some .int) rm_X12_start [.ref (eAd E 0)] σ (RQi r.1 r.2) :=
  ct_M F (by decide) (Nat.le_of_ble_eq_true rfl) (fun E' ea F' C Q => by rw [← ea]; exact m_X12_start F'  C Q h)
theorem dd_X12_start : yX12_start.cls ≠ "java/lang/invoke/MethodHandle" ∧ yX12_start.cls ≠ "java/lang/invoke/VarHandle" ∧ (parseMethodDescriptor yX12_start.desc).map (fun d => d.parameters.length) = some 0 := by decide +kernel
def X12_stopBy (σ : Mem) (p1 : Int32) : Option (Mem) :=
  lete (wI σ 0 10 p1) (fun σ1 =>
  lete (wI σ1 0 4 (2 : Int32)) (fun σ2 =>
  lete (wI σ2 0 11 (0 : Int32)) (fun σ3 =>
  some σ3)))
abbrev rm_X12_stopBy : Room := { frames := 0, cells := 0, slots := 0, locals := 0 }
set_option maxRecDepth 100000 in
set_option maxHeartbeats 4000000 in
theorem m_X12_stopBy {E : EnvT} {cs : Nat → ClassId} (F : MF E cs) {p1 : Int32} {σ : Mem} (C : CX E cX12_stopBy RX12 2 rm_X12_stopBy) {r0 : Mem} (Q : QE E 0 0 none (RQv r0)) : J E 2 0 0 r0 (X12_stopBy σ p1) σ 0 [(0, .ref (eAd E 0)), (1, .int p1)] [] := by

  unfold X12_stopBy
  refine j_aload_n C dX12_stopBy_0 0 rfl ?_
  refine j_iload_n C dX12_stopBy_1 1 rfl ?_
  refine j_put (ci := 12) C hU_X12 tyX12_ok nmX12 rfl (min_ F (by decide)) (me_0 F _ _) 10 (by decide) (Nat.le_of_ble_eq_true rfl) (by rw [wI_o, wI_2]; exact (me_0 F _ _)) (fun o' h' => ⟨wI_ne _ _ _ h', rfl⟩) rfl (by first | rfl | decide) (by first | rfl | decide) hF_X12_17 dX12_stopBy_2 (fun σ1 => ?_)
  refine j_aload_n C dX12_stopBy_5 0 rfl ?_
  refine j_iconst C (2 : Int32) dX12_stopBy_6 (by decide) ?_
  refine j_put (ci := 12) C hU_X12 tyX12_ok nmX12 rfl (min_ F (by decide)) (me_0 F _ _) 4 (by decide) (Nat.le_of_ble_eq_true rfl) (by rw [wI_o, wI_2]; exact (me_0 F _ _)) (fun o' h' => ⟨wI_ne _ _ _ h', rfl⟩) rfl (by first | rfl | decide) (by first | rfl | decide) hF_X12_118 dX12_stopBy_7 (fun σ2 => ?_)
  refine j_aload_n C dX12_stopBy_10 0 rfl ?_
  refine j_iconst C (0 : Int32) dX12_stopBy_11 (by decide) ?_
  refine j_put (ci := 12) C hU_X12 tyX12_ok nmX12 rfl (min_ F (by decide)) (me_0 F _ _) 11 (by decide) (Nat.le_of_ble_eq_true rfl) (by rw [wI_o, wI_2]; exact (me_0 F _ _)) (fun o' h' => ⟨wI_ne _ _ _ h', rfl⟩) rfl (by first | rfl | decide) (by first | rfl | decide) hF_X12_170 dX12_stopBy_12 (fun σ3 => ?_)
  exact j_vret2 C Q dX12_stopBy_15
set_option maxRecDepth 100000 in
set_option maxHeartbeats 4000000 in
theorem c_X12_stopBy {E : EnvT} {cs : Nat → ClassId} (F : MF E cs) {σ : Mem} {p1 : Int32} {r : Mem} (h : X12_stopBy σ p1 = some r) : CT E yX12_stopBy cX12_stopBy 2 none rm_X12_stopBy [.ref (eAd E 0), .int p1] σ (RQv r) :=
  ct_M F (by decide) (Nat.le_of_ble_eq_true rfl) (fun E' ea F' C Q => by rw [← ea]; exact m_X12_stopBy F'  C Q h)
theorem dd_X12_stopBy : yX12_stopBy.cls ≠ "java/lang/invoke/MethodHandle" ∧ yX12_stopBy.cls ≠ "java/lang/invoke/VarHandle" ∧ (parseMethodDescriptor yX12_stopBy.desc).map (fun d => d.parameters.length) = some 1 := by decide +kernel
def X12_passes (σ : Mem) (p1 : Int32) : Option (Mem) :=
  lete (wI σ 0 7 ((σ.1 0 7) + (1 : Int32))) (fun σ1 =>
  if ¬ (σ1.1 0 7) = p1 then
  (some σ1)
  else
  (lete (wI σ1 0 7 (0 : Int32)) (fun σ2 =>
  lete (wI σ2 0 6 ((σ2.1 0 6) + (1 : Int32))) (fun σ3 =>
  some σ3))))
abbrev rm_X12_passes : Room := { frames := 0, cells := 0, slots := 0, locals := 0 }
set_option maxRecDepth 100000 in
set_option maxHeartbeats 4000000 in
theorem m_X12_passes {E : EnvT} {cs : Nat → ClassId} (F : MF E cs) {p1 : Int32} {σ : Mem} (C : CX E cX12_passes RX12 2 rm_X12_passes) {r0 : Mem} (Q : QE E 0 0 none (RQv r0)) : J E 2 0 0 r0 (X12_passes σ p1) σ 0 [(0, .ref (eAd E 0)), (1, .int p1)] [] := by

  unfold X12_passes
  refine j_aload_n C dX12_passes_0 0 rfl ?_
  refine j_dup C dX12_passes_1 rfl ?_
  refine j_get (ci := 12) C hU_X12 rfl (min_ F (by decide)) (me_0 F _ _) 7 (by decide) rfl hF_X12_167 dX12_passes_2 ?_
  refine j_iconst C (1 : Int32) dX12_passes_5 (by decide) ?_
  refine j_iadd C dX12_passes_6 ?_
  refine j_put (ci := 12) C hU_X12 tyX12_ok nmX12 rfl (min_ F (by decide)) (me_0 F _ _) 7 (by decide) (Nat.le_of_ble_eq_true rfl) (by rw [wI_o, wI_2]; exact (me_0 F _ _)) (fun o' h' => ⟨wI_ne _ _ _ h', rfl⟩) rfl (by first | rfl | decide) (by first | rfl | decide) hF_X12_167 dX12_passes_7 (fun σ1 => ?_)
  refine j_aload_n C dX12_passes_10 0 rfl ?_
  refine j_get (ci := 12) C hU_X12 rfl (min_ F (by decide)) (me_0 F _ _) 7 (by decide) rfl hF_X12_167 dX12_passes_11 ?_
  refine j_iload_n C dX12_passes_14 1 rfl ?_
  refine j_icmp_ne C 33 dX12_passes_15 (by decide) ?_ ?_
  · exact j_vret2 C Q dX12_passes_33
  · refine j_aload_n C dX12_passes_18 0 rfl ?_
    refine j_iconst C (0 : Int32) dX12_passes_19 (by decide) ?_
    refine j_put (ci := 12) C hU_X12 tyX12_ok nmX12 rfl (min_ F (by decide)) (me_0 F _ _) 7 (by decide) (Nat.le_of_ble_eq_true rfl) (by rw [wI_o, wI_2]; exact (me_0 F _ _)) (fun o' h' => ⟨wI_ne _ _ _ h', rfl⟩) rfl (by first | rfl | decide) (by first | rfl | decide) hF_X12_167 dX12_passes_20 (fun σ2 => ?_)
    refine j_aload_n C dX12_passes_23 0 rfl ?_
    refine j_dup C dX12_passes_24 rfl ?_
    refine j_get (ci := 12) C hU_X12 rfl (min_ F (by decide)) (me_0 F _ _) 6 (by decide) rfl hF_X12_164 dX12_passes_25 ?_
    refine j_iconst C (1 : Int32) dX12_passes_28 (by decide) ?_
    refine j_iadd C dX12_passes_29 ?_
    refine j_put (ci := 12) C hU_X12 tyX12_ok nmX12 rfl (min_ F (by decide)) (me_0 F _ _) 6 (by decide) (Nat.le_of_ble_eq_true rfl) (by rw [wI_o, wI_2]; exact (me_0 F _ _)) (fun o' h' => ⟨wI_ne _ _ _ h', rfl⟩) rfl (by first | rfl | decide) (by first | rfl | decide) hF_X12_164 dX12_passes_30 (fun σ3 => ?_)
    exact j_vret2 C Q dX12_passes_33
set_option maxRecDepth 100000 in
set_option maxHeartbeats 4000000 in
theorem c_X12_passes {E : EnvT} {cs : Nat → ClassId} (F : MF E cs) {σ : Mem} {p1 : Int32} {r : Mem} (h : X12_passes σ p1 = some r) : CT E yX12_passes cX12_passes 2 none rm_X12_passes [.ref (eAd E 0), .int p1] σ (RQv r) :=
  ct_M F (by decide) (Nat.le_of_ble_eq_true rfl) (fun E' ea F' C Q => by rw [← ea]; exact m_X12_passes F'  C Q h)
theorem dd_X12_passes : yX12_passes.cls ≠ "java/lang/invoke/MethodHandle" ∧ yX12_passes.cls ≠ "java/lang/invoke/VarHandle" ∧ (parseMethodDescriptor yX12_passes.desc).map (fun d => d.parameters.length) = some 1 := by decide +kernel
def X12_ramp_b23 (σ : Mem) : Option (Mem) :=
  lete ((σ.1 0 7) + (1 : Int32)) (fun x1 =>
  chk (inb (σ.1 0 6) 30) (
  chk (inb (σ.1 0 6) 30) (
  chk (nz (σ.1 4 (ix (σ.1 0 6)))) (
  lete (wI σ 0 24 ((σ.1 0 8) + ((x1 * ((σ.1 5 (ix (σ.1 0 6))) - (σ.1 0 8))) / (σ.1 4 (ix (σ.1 0 6)))))) (fun σ5 =>
  chk (inb (σ5.1 0 6) 30) (
  chk (inb (σ5.1 0 6) 30) (
  chk (nz (σ5.1 4 (ix (σ5.1 0 6)))) (
  lete (wI σ5 0 25 ((σ5.1 0 9) + ((x1 * ((σ5.1 6 (ix (σ5.1 0 6))) - (σ5.1 0 9))) / (σ5.1 4 (ix (σ5.1 0 6)))))) (fun σ9 =>
  chk (inb (σ9.1 0 6) 30) (
  bindo (X12_passes σ9 (σ9.1 4 (ix (σ9.1 0 6)))) (fun σ12 =>
  some σ12)))))))))))
def X12_ramp (σ : Mem) : Option (Mem) :=
  if ¬ (σ.1 0 7) = (0 : Int32) then
  (X12_ramp_b23 σ)
  else
  (lete (wI σ 0 8 (σ.1 0 24)) (fun σ1 =>
  lete (wI σ1 0 9 (σ1.1 0 25)) (fun σ2 =>
  X12_ramp_b23 σ2)))
abbrev rm_X12_ramp : Room := { frames := 1, cells := 0, slots := 0, locals := 21 }
set_option maxRecDepth 100000 in
set_option maxHeartbeats 4000000 in
theorem m_X12_ramp {E : EnvT} {cs : Nat → ClassId} (F : MF E cs) {σ : Mem} (C : CX E cX12_ramp RX12 2 rm_X12_ramp) {r0 : Mem} (Q : QE E 0 0 none (RQv r0)) : J E 2 0 0 r0 (X12_ramp σ) σ 0 [(0, .ref (eAd E 0))] [] := by
  have hB23 : ∀ (σ : Mem), J E 2 0 0 r0 (X12_ramp_b23 σ) σ 23 [(0, .ref (eAd E 0))] [] := by
    intro σ
    unfold X12_ramp_b23
    refine j_aload_n C dX12_ramp_23 0 rfl ?_
    refine j_get (ci := 12) C hU_X12 rfl (min_ F (by decide)) (me_0 F _ _) 7 (by decide) rfl hF_X12_167 dX12_ramp_24 ?_
    refine j_iconst C (1 : Int32) dX12_ramp_27 (by decide) ?_
    refine j_iadd C dX12_ramp_28 ?_
    refine j_nmi (fun x1 => ?_)
    refine j_istore_n (lv' := [(1, .int x1), (0, .ref (eAd E 0))]) C dX12_ramp_29 (by decide) rfl ?_
    refine j_aload_n C dX12_ramp_30 1 rfl ?_
    refine j_aload_n C dX12_ramp_31 1 rfl ?_
    refine j_get (ci := 12) C hU_X12 rfl (min_ F (by decide)) (me_0 F _ _) 8 (by decide) rfl hF_X12_196 dX12_ramp_32 ?_
    refine j_iload_n C dX12_ramp_35 0 rfl ?_
    refine j_aload_n C dX12_ramp_36 1 rfl ?_
    refine j_get (ci := 12) C hU_X12 rfl (min_ F (by decide)) (me_0 F _ _) 16 (by decide) rfl hF_X12_29 dX12_ramp_37 ?_
    refine j_aload_n C dX12_ramp_40 1 rfl ?_
    refine j_get (ci := 12) C hU_X12 rfl (min_ F (by decide)) (me_0 F _ _) 6 (by decide) rfl hF_X12_164 dX12_ramp_41 ?_
    refine j_chk (fun h2 => ?_)
    refine j_iald (t0 := 0) C (min_ F (by decide)) (me_5 F _ _) (mt0 F) (inb_in h2) dX12_ramp_44 ?_
    refine j_aload_n C dX12_ramp_45 1 rfl ?_
    refine j_get (ci := 12) C hU_X12 rfl (min_ F (by decide)) (me_0 F _ _) 8 (by decide) rfl hF_X12_196 dX12_ramp_46 ?_
    refine j_isub C dX12_ramp_49 ?_
    refine j_imul C dX12_ramp_50 ?_
    refine j_aload_n C dX12_ramp_51 1 rfl ?_
    refine j_get (ci := 12) C hU_X12 rfl (min_ F (by decide)) (me_0 F _ _) 15 (by decide) rfl hF_X12_26 dX12_ramp_52 ?_
    refine j_aload_n C dX12_ramp_55 1 rfl ?_
    refine j_get (ci := 12) C hU_X12 rfl (min_ F (by decide)) (me_0 F _ _) 6 (by decide) rfl hF_X12_164 dX12_ramp_56 ?_
    refine j_chk (fun h3 => ?_)
    refine j_iald (t0 := 0) C (min_ F (by decide)) (me_4 F _ _) (mt0 F) (inb_in h3) dX12_ramp_59 ?_
    refine j_chk (fun h4 => ?_)
    refine j_idivK C dX12_ramp_60 (nz_ne h4) ?_
    refine j_iadd C dX12_ramp_61 ?_
    refine j_put (ci := 12) C hU_X12 tyX12_ok nmX12 rfl (min_ F (by decide)) (me_0 F _ _) 24 (by decide) (Nat.le_of_ble_eq_true rfl) (by rw [wI_o, wI_2]; exact (me_0 F _ _)) (fun o' h' => ⟨wI_ne _ _ _ h', rfl⟩) rfl (by first | rfl | decide) (by first | rfl | decide) hF_X12_193 dX12_ramp_62 (fun σ5 => ?_)
    refine j_aload_n C dX12_ramp_65 1 rfl ?_
    refine j_aload_n C dX12_ramp_66 1 rfl ?_
    refine j_get (ci := 12) C hU_X12 rfl (min_ F (by decide)) (me_0 F _ _) 9 (by decide) rfl hF_X12_202 dX12_ramp_67 ?_
    refine j_iload_n C dX12_ramp_70 0 rfl ?_
    refine j_aload_n C dX12_ramp_71 1 rfl ?_
    refine j_get (ci := 12) C hU_X12 rfl (min_ F (by decide)) (me_0 F _ _) 17 (by decide) rfl hF_X12_32 dX12_ramp_72 ?_
    refine j_aload_n C dX12_ramp_75 1 rfl ?_
    refine j_get (ci := 12) C hU_X12 rfl (min_ F (by decide)) (me_0 F _ _) 6 (by decide) rfl hF_X12_164 dX12_ramp_76 ?_
    refine j_chk (fun h6 => ?_)
    refine j_iald (t0 := 0) C (min_ F (by decide)) (me_6 F _ _) (mt0 F) (inb_in h6) dX12_ramp_79 ?_
    refine j_aload_n C dX12_ramp_80 1 rfl ?_
    refine j_get (ci := 12) C hU_X12 rfl (min_ F (by decide)) (me_0 F _ _) 9 (by decide) rfl hF_X12_202 dX12_ramp_81 ?_
    refine j_isub C dX12_ramp_84 ?_
    refine j_imul C dX12_ramp_85 ?_
    refine j_aload_n C dX12_ramp_86 1 rfl ?_
    refine j_get (ci := 12) C hU_X12 rfl (min_ F (by decide)) (me_0 F _ _) 15 (by decide) rfl hF_X12_26 dX12_ramp_87 ?_
    refine j_aload_n C dX12_ramp_90 1 rfl ?_
    refine j_get (ci := 12) C hU_X12 rfl (min_ F (by decide)) (me_0 F _ _) 6 (by decide) rfl hF_X12_164 dX12_ramp_91 ?_
    refine j_chk (fun h7 => ?_)
    refine j_iald (t0 := 0) C (min_ F (by decide)) (me_4 F _ _) (mt0 F) (inb_in h7) dX12_ramp_94 ?_
    refine j_chk (fun h8 => ?_)
    refine j_idivK C dX12_ramp_95 (nz_ne h8) ?_
    refine j_iadd C dX12_ramp_96 ?_
    refine j_put (ci := 12) C hU_X12 tyX12_ok nmX12 rfl (min_ F (by decide)) (me_0 F _ _) 25 (by decide) (Nat.le_of_ble_eq_true rfl) (by rw [wI_o, wI_2]; exact (me_0 F _ _)) (fun o' h' => ⟨wI_ne _ _ _ h', rfl⟩) rfl (by first | rfl | decide) (by first | rfl | decide) hF_X12_199 dX12_ramp_97 (fun σ9 => ?_)
    refine j_aload_n C dX12_ramp_100 1 rfl ?_
    refine j_aload_n C dX12_ramp_101 1 rfl ?_
    refine j_get (ci := 12) C hU_X12 rfl (min_ F (by decide)) (me_0 F _ _) 15 (by decide) rfl hF_X12_26 dX12_ramp_102 ?_
    refine j_aload_n C dX12_ramp_105 1 rfl ?_
    refine j_get (ci := 12) C hU_X12 rfl (min_ F (by decide)) (me_0 F _ _) 6 (by decide) rfl hF_X12_164 dX12_ramp_106 ?_
    refine j_chk (fun h10 => ?_)
    refine j_iald (t0 := 0) C (min_ F (by decide)) (me_4 F _ _) (mt0 F) (inb_in h10) dX12_ramp_109 ?_
    refine j_bind (fun σ12 h11 => ?_)
    refine j_callVv (ci := 12) C [.int (σ9.1 4 (ix (σ9.1 0 6)))] (c_X12_passes F h11) hM_X12_177 hI_X12_passes hS_X12_passes hZ_X12 hC_X12_passes (min_ F (by decide)) (me_0 F _ _) rfl rfl dd_X12_passes (by decide) ⟨rfl, rfl⟩ (by decide) (Nat.le_of_ble_eq_true rfl) dX12_ramp_110 rfl ?_
    exact j_vret2 C Q dX12_ramp_113
  unfold X12_ramp
  refine j_aload_n C dX12_ramp_0 0 rfl ?_
  refine j_get (ci := 12) C hU_X12 rfl (min_ F (by decide)) (me_0 F _ _) 7 (by decide) rfl hF_X12_167 dX12_ramp_1 ?_
  refine j_if_ne C 23 dX12_ramp_4 (by decide) ?_ ?_
  · refine j_lv [(0, .ref (eAd E 0))] [0] rfl ?_
    exact hB23 σ
  · refine j_aload_n C dX12_ramp_7 0 rfl ?_
    refine j_aload_n C dX12_ramp_8 0 rfl ?_
    refine j_get (ci := 12) C hU_X12 rfl (min_ F (by decide)) (me_0 F _ _) 24 (by decide) rfl hF_X12_193 dX12_ramp_9 ?_
    refine j_put (ci := 12) C hU_X12 tyX12_ok nmX12 rfl (min_ F (by decide)) (me_0 F _ _) 8 (by decide) (Nat.le_of_ble_eq_true rfl) (by rw [wI_o, wI_2]; exact (me_0 F _ _)) (fun o' h' => ⟨wI_ne _ _ _ h', rfl⟩) rfl (by first | rfl | decide) (by first | rfl | decide) hF_X12_196 dX12_ramp_12 (fun σ1 => ?_)
    refine j_aload_n C dX12_ramp_15 0 rfl ?_
    refine j_aload_n C dX12_ramp_16 0 rfl ?_
    refine j_get (ci := 12) C hU_X12 rfl (min_ F (by decide)) (me_0 F _ _) 25 (by decide) rfl hF_X12_199 dX12_ramp_17 ?_
    refine j_put (ci := 12) C hU_X12 tyX12_ok nmX12 rfl (min_ F (by decide)) (me_0 F _ _) 9 (by decide) (Nat.le_of_ble_eq_true rfl) (by rw [wI_o, wI_2]; exact (me_0 F _ _)) (fun o' h' => ⟨wI_ne _ _ _ h', rfl⟩) rfl (by first | rfl | decide) (by first | rfl | decide) hF_X12_202 dX12_ramp_20 (fun σ2 => ?_)
    refine j_lv [(0, .ref (eAd E 0))] [0] rfl ?_
    exact hB23 σ2
set_option maxRecDepth 100000 in
set_option maxHeartbeats 4000000 in
theorem c_X12_ramp {E : EnvT} {cs : Nat → ClassId} (F : MF E cs) {σ : Mem} {r : Mem} (h : X12_ramp σ = some r) : CT E yX12_ramp cX12_ramp 2 none rm_X12_ramp [.ref (eAd E 0)] σ (RQv r) :=
  ct_M F (by decide) (Nat.le_of_ble_eq_true rfl) (fun E' ea F' C Q => by rw [← ea]; exact m_X12_ramp F'  C Q h)
theorem dd_X12_ramp : yX12_ramp.cls ≠ "java/lang/invoke/MethodHandle" ∧ yX12_ramp.cls ≠ "java/lang/invoke/VarHandle" ∧ (parseMethodDescriptor yX12_ramp.desc).map (fun d => d.parameters.length) = some 0 := by decide +kernel
