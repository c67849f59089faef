def X7_number (n : Nat) (σ : Mem) (p1 : Int32) : Option (Int64) :=
  bindo (X11_within p1 (0 : Int32) (7 : Int32)) (fun r2 =>
  if r2 = (0 : Int32) then
  (some (0 : Int64))
  else
  (chk (inb p1 8) (
  some (σ.2 23 (ix p1)))))
abbrev rm_X7_number : Room := { frames := 1, cells := 0, slots := 0, locals := 22 }
set_option maxRecDepth 100000 in
set_option maxHeartbeats 4000000 in
theorem m_X7_number {E : EnvT} {n : Nat} {cs : Nat → ClassId} (F : XF E n cs) {p1 : Int32} {σ : Mem} (C : CX E cX7_number RX7 2 rm_X7_number) {r0 : Int64} (Q : QE E 0 0 (some .long) (RQl r0 σ)) : J E 2 0 0 r0 (X7_number n σ p1) σ 0 [(0, .ref (eAd E 22)), (1, .int p1)] [] := by

  unfold X7_number
  refine j_iload_n C dX7_number_0 1 rfl ?_
  refine j_iconst C (0 : Int32) dX7_number_1 (by decide) ?_
  refine j_bipush C (7 : Int32) dX7_number_2 (by decide) ?_
  refine j_bind (fun r2 h1 => ?_)
  refine j_callNi C [.int p1, .int (0 : Int32), .int (7 : Int32)] (c_X11_within F h1) nhN_X7_38 hT_X11_within hZ_X11 hC_X11_within dd_X11_within (by decide) ⟨rfl, rfl⟩ (by decide) (Nat.le_of_ble_eq_true rfl) dX7_number_4 rfl ?_
  refine j_if_eq C 19 dX7_number_7 (by decide) ?_ ?_
  · refine j_lconst C (0 : Int64) dX7_number_19 (by decide) ?_
    exact j_lret C Q dX7_number_20
  · refine j_aload_n C dX7_number_10 0 rfl ?_
    refine j_get (ci := 7) C hU_X7 rfl (xin F (by decide)) (xe_22 F _ _) 3 (by decide) rfl hF_X7_9 dX7_number_11 ?_
    refine j_iload_n C dX7_number_14 1 rfl ?_
    refine j_chk (fun h3 => ?_)
    refine j_lald (t0 := 1) C (xin F (by decide)) (xe_23 F _ _) (xt1 F) (inb_in h3) dX7_number_15 ?_
    refine j_goto C 20 dX7_number_16 (by decide) ?_
    exact j_lret C Q dX7_number_20
set_option maxRecDepth 100000 in
set_option maxHeartbeats 4000000 in
theorem c_X7_number {E : EnvT} {n : Nat} {cs : Nat → ClassId} (F : XF E n cs) {σ : Mem} {p1 : Int32} {r : Int64} (h : X7_number n σ p1 = some r) : CT E yX7_number cX7_number 2 (some .long) rm_X7_number [.ref (eAd E 22), .int p1] σ (RQl r σ) :=
  ct_X F (by decide) (Nat.le_of_ble_eq_true rfl) (fun E' ea F' C Q => by rw [← ea]; exact m_X7_number F'  C Q h)
theorem dd_X7_number : yX7_number.cls ≠ "java/lang/invoke/MethodHandle" ∧ yX7_number.cls ≠ "java/lang/invoke/VarHandle" ∧ (parseMethodDescriptor yX7_number.desc).map (fun d => d.parameters.length) = some 1 := by decide +kernel
def X7_otherAt (n : Nat) (σ : Mem) (p1 : Int32) : Option (Int32) :=
  bindo (X11_within p1 (0 : Int32) (159 : Int32)) (fun r2 =>
  if r2 = (0 : Int32) then
  (some (0 : Int32))
  else
  (chk (inb p1 160) (
  some (σ.1 25 (ix p1)))))
abbrev rm_X7_otherAt : Room := { frames := 1, cells := 0, slots := 0, locals := 22 }
set_option maxRecDepth 100000 in
set_option maxHeartbeats 4000000 in
theorem m_X7_otherAt {E : EnvT} {n : Nat} {cs : Nat → ClassId} (F : XF E n cs) {p1 : Int32} {σ : Mem} (C : CX E cX7_otherAt RX7 2 rm_X7_otherAt) {r0 : Int32} (Q : QE E 0 0 (some .int) (RQi r0 σ)) : J E 2 0 0 r0 (X7_otherAt n σ p1) σ 0 [(0, .ref (eAd E 22)), (1, .int p1)] [] := by

  unfold X7_otherAt
  refine j_iload_n C dX7_otherAt_0 1 rfl ?_
  refine j_iconst C (0 : Int32) dX7_otherAt_1 (by decide) ?_
  refine j_sipush C (159 : Int32) dX7_otherAt_2 (by decide) ?_
  refine j_bind (fun r2 h1 => ?_)
  refine j_callNi C [.int p1, .int (0 : Int32), .int (159 : Int32)] (c_X11_within F h1) nhN_X7_38 hT_X11_within hZ_X11 hC_X11_within dd_X11_within (by decide) ⟨rfl, rfl⟩ (by decide) (Nat.le_of_ble_eq_true rfl) dX7_otherAt_5 rfl ?_
  refine j_if_eq C 20 dX7_otherAt_8 (by decide) ?_ ?_
  · refine j_iconst C (0 : Int32) dX7_otherAt_20 (by decide) ?_
    exact j_ireti C Q dX7_otherAt_21
  · refine j_aload_n C dX7_otherAt_11 0 rfl ?_
    refine j_get (ci := 7) C hU_X7 rfl (xin F (by decide)) (xe_22 F _ _) 5 (by decide) rfl hF_X7_18 dX7_otherAt_12 ?_
    refine j_iload_n C dX7_otherAt_15 1 rfl ?_
    refine j_chk (fun h3 => ?_)
    refine j_iald (t0 := 0) C (xin F (by decide)) (xe_25 F _ _) (xt0 F) (inb_in h3) dX7_otherAt_16 ?_
    refine j_goto C 21 dX7_otherAt_17 (by decide) ?_
    exact j_ireti C Q dX7_otherAt_21
set_option maxRecDepth 100000 in
set_option maxHeartbeats 4000000 in
theorem c_X7_otherAt {E : EnvT} {n : Nat} {cs : Nat → ClassId} (F : XF E n cs) {σ : Mem} {p1 : Int32} {r : Int32} (h : X7_otherAt n σ p1 = some r) : CT E yX7_otherAt cX7_otherAt 2 (some .int) rm_X7_otherAt [.ref (eAd E 22), .int p1] σ (RQi r σ) :=
  ct_X F (by decide) (Nat.le_of_ble_eq_true rfl) (fun E' ea F' C Q => by rw [← ea]; exact m_X7_otherAt F'  C Q h)
theorem dd_X7_otherAt : yX7_otherAt.cls ≠ "java/lang/invoke/MethodHandle" ∧ yX7_otherAt.cls ≠ "java/lang/invoke/VarHandle" ∧ (parseMethodDescriptor yX7_otherAt.desc).map (fun d => d.parameters.length) = some 1 := by decide +kernel
def X7_join (n : Nat) (σ : Mem) (p1 : Int32) (p2 : Int32) (p3 : Int64) : Option (Mem) :=
  if ¬ p2 = p1 then
  (lete (wJ σ 23 (ix (7 : Int32)) ((σ.2 23 (ix (7 : Int32))) + (1 : Int64))) (fun σ1 =>
  some σ1))
  else
  (lete (wJ σ 23 (ix (6 : Int32)) ((σ.2 23 (ix (6 : Int32))) + (p3 * (p1.toInt64)))) (fun σ2 =>
  some σ2))
abbrev rm_X7_join : Room := { frames := 0, cells := 0, slots := 0, locals := 0 }
set_option maxRecDepth 100000 in
set_option maxHeartbeats 4000000 in
theorem m_X7_join {E : EnvT} {n : Nat} {cs : Nat → ClassId} (F : XF E n cs) {p1 : Int32} {p2 : Int32} {p3 : Int64} {σ : Mem} (C : CX E cX7_join RX7 5 rm_X7_join) {r0 : Mem} (Q : QE E 0 0 none (RQv r0)) : J E 5 0 0 r0 (X7_join n σ p1 p2 p3) σ 0 [(0, .ref (eAd E 22)), (1, .int p1), (2, .int p2), (3, .long p3)] [] := by

  unfold X7_join
  refine j_iload_n C dX7_join_0 2 rfl ?_
  refine j_iload_n C dX7_join_1 1 rfl ?_
  refine j_icmp_ne C 22 dX7_join_2 (by decide) ?_ ?_
  · refine j_aload_n C dX7_join_22 0 rfl ?_
    refine j_get (ci := 7) C hU_X7 rfl (xin F (by decide)) (xe_22 F _ _) 3 (by decide) rfl hF_X7_9 dX7_join_23 ?_
    refine j_bipush C (7 : Int32) dX7_join_26 (by decide) ?_
    refine j_dup2 C dX7_join_28 rfl rfl ?_
    refine j_lald (t0 := 1) C (xin F (by decide)) (xe_23 F _ _) (xt1 F) (inb_in (by decide)) dX7_join_29 ?_
    refine j_lconst C (1 : Int64) dX7_join_30 (by decide) ?_
    refine j_ladd C dX7_join_31 ?_
    refine j_last (t0 := 1) C (xin F (by decide)) (xe_23 F _ _) (by rw [wJ_o, wJ_1]; exact (xe_23 F _ _)) (xt1 F) (inb_in (by decide)) dX7_join_32 (fun σ1 => ?_)
    exact j_vret2 C Q dX7_join_33
  · refine j_aload_n C dX7_join_5 0 rfl ?_
    refine j_get (ci := 7) C hU_X7 rfl (xin F (by decide)) (xe_22 F _ _) 3 (by decide) rfl hF_X7_9 dX7_join_6 ?_
    refine j_bipush C (6 : Int32) dX7_join_9 (by decide) ?_
    refine j_dup2 C dX7_join_11 rfl rfl ?_
    refine j_lald (t0 := 1) C (xin F (by decide)) (xe_23 F _ _) (xt1 F) (inb_in (by decide)) dX7_join_12 ?_
    refine j_lload_n C dX7_join_13 3 rfl ?_
    refine j_iload_n C dX7_join_14 1 rfl ?_
    refine j_i2l C dX7_join_15 ?_
    refine j_lmul C dX7_join_16 ?_
    refine j_ladd C dX7_join_17 ?_
    refine j_last (t0 := 1) C (xin F (by decide)) (xe_23 F _ _) (by rw [wJ_o, wJ_1]; exact (xe_23 F _ _)) (xt1 F) (inb_in (by decide)) dX7_join_18 (fun σ2 => ?_)
    refine j_goto C 33 dX7_join_19 (by decide) ?_
    exact j_vret2 C Q dX7_join_33
set_option maxRecDepth 100000 in
set_option maxHeartbeats 4000000 in
theorem c_X7_join {E : EnvT} {n : Nat} {cs : Nat → ClassId} (F : XF E n cs) {σ : Mem} {p1 : Int32} {p2 : Int32} {p3 : Int64} {r : Mem} (h : X7_join n σ p1 p2 p3 = some r) : CT E yX7_join cX7_join 5 none rm_X7_join [.ref (eAd E 22), .int p1, .int p2, .long p3] σ (RQv r) :=
  ct_X F (by decide) (Nat.le_of_ble_eq_true rfl) (fun E' ea F' C Q => by rw [← ea]; exact m_X7_join F'  C Q h)
theorem dd_X7_join : yX7_join.cls ≠ "java/lang/invoke/MethodHandle" ∧ yX7_join.cls ≠ "java/lang/invoke/VarHandle" ∧ (parseMethodDescriptor yX7_join.desc).map (fun d => d.parameters.length) = some 3 := by decide +kernel
def X7_count_b95 (n : Nat) (σ : Mem) (v1 : Int64) (s0 : Int64) (s1 : Int32) : Option (Mem) :=
  chk (inb s1 8) (
  lete (wJ σ 23 (ix s1) s0) (fun σ2 =>
  lete (wJ σ2 23 (ix (5 : Int32)) ((σ2.2 23 (ix (5 : Int32))) + v1)) (fun σ3 =>
  some σ3)))
def X7_count_b70 (n : Nat) (σ : Mem) (v1 : Int64) (v4 : Int32) (s0 : Int64) (s1 : Int32) : Option (Mem) :=
  chk (inb s1 8) (
  lete (wJ σ 23 (ix s1) s0) (fun σ2 =>
  if v4 = (0 : Int32) then
  (lete (mxL (σ2.2 23 (ix (4 : Int32))) v1) (fun x3 =>
  X7_count_b95 n σ2 v1 x3 (4 : Int32)))
  else
  (X7_count_b95 n σ2 v1 v1 (4 : Int32))))
def X7_count_b44 (n : Nat) (σ : Mem) (v1 : Int64) (v4 : Int32) (s0 : Int64) (s1 : Int64) (s2 : Int32) : Option (Mem) :=
  chk (inb s2 8) (
  lete (wJ σ 23 (ix s2) (s1 + s0)) (fun σ2 =>
  if v4 = (0 : Int32) then
  (lete (mnL (σ2.2 23 (ix (3 : Int32))) v1) (fun x3 =>
  X7_count_b70 n σ2 v1 v4 x3 (3 : Int32)))
  else
  (X7_count_b70 n σ2 v1 v4 v1 (3 : Int32))))
def X7_count_b16 (n : Nat) (σ : Mem) (v1 : Int64) (v3 : Int32) (s0 : Int32) : Option (Mem) :=
  lete (wJ σ 23 (ix (0 : Int32)) ((σ.2 23 (ix (0 : Int32))) + (1 : Int64))) (fun σ1 =>
  if v3 = (0 : Int32) then
  (X7_count_b44 n σ1 v1 s0 (0 : Int64) (σ1.2 23 (ix (2 : Int32))) (2 : Int32))
  else
  (X7_count_b44 n σ1 v1 s0 (1 : Int64) (σ1.2 23 (ix (2 : Int32))) (2 : Int32)))
def X7_count (n : Nat) (σ : Mem) (p1 : Int64) (p2 : Int32) : Option (Mem) :=
  if ¬ (lg_cmp (σ.2 23 (ix (0 : Int32))) (0 : Int64)) = (0 : Int32) then
  (X7_count_b16 n σ p1 p2 (0 : Int32))
  else
  (X7_count_b16 n σ p1 p2 (1 : Int32))
abbrev rm_X7_count : Room := { frames := 1, cells := 0, slots := 0, locals := 24 }
set_option maxRecDepth 100000 in
set_option maxHeartbeats 4000000 in
theorem m_X7_count {E : EnvT} {n : Nat} {cs : Nat → ClassId} (F : XF E n cs) {p1 : Int64} {p2 : Int32} {σ : Mem} (C : CX E cX7_count RX7 5 rm_X7_count) {r0 : Mem} (Q : QE E 0 0 none (RQv r0)) : J E 5 0 0 r0 (X7_count n σ p1 p2) σ 0 [(0, .ref (eAd E 22)), (1, .long p1), (3, .int p2)] [] := by
  have hB95 : ∀ (σ : Mem) (v1 : Int64) (s0 : Int64) (s1 : Int32), J E 5 0 0 r0 (X7_count_b95 n σ v1 s0 s1) σ 95 [(0, .ref (eAd E 22)), (1, .long v1)] [.long s0, .int s1, .ref (eAd E 23)] := by
    intro σ v1 s0 s1
    unfold X7_count_b95
    refine j_chk (fun h1 => ?_)
    refine j_last (t0 := 1) C (xin F (by decide)) (xe_23 F _ _) (by rw [wJ_o, wJ_1]; exact (xe_23 F _ _)) (xt1 F) (inb_in h1) dX7_count_95 (fun σ2 => ?_)
    refine j_aload_n C dX7_count_96 0 rfl ?_
    refine j_get (ci := 7) C hU_X7 rfl (xin F (by decide)) (xe_22 F _ _) 3 (by decide) rfl hF_X7_9 dX7_count_97 ?_
    refine j_iconst C (5 : Int32) dX7_count_100 (by decide) ?_
    refine j_dup2 C dX7_count_101 rfl rfl ?_
    refine j_lald (t0 := 1) C (xin F (by decide)) (xe_23 F _ _) (xt1 F) (inb_in (by decide)) dX7_count_102 ?_
    refine j_lload_n C dX7_count_103 1 rfl ?_
    refine j_ladd C dX7_count_104 ?_
    refine j_last (t0 := 1) C (xin F (by decide)) (xe_23 F _ _) (by rw [wJ_o, wJ_1]; exact (xe_23 F _ _)) (xt1 F) (inb_in (by decide)) dX7_count_105 (fun σ3 => ?_)
    exact j_vret2 C Q dX7_count_106
  have hB70 : ∀ (σ : Mem) (v1 : Int64) (v4 : Int32) (s0 : Int64) (s1 : Int32), J E 5 0 0 r0 (X7_count_b70 n σ v1 v4 s0 s1) σ 70 [(0, .ref (eAd E 22)), (1, .long v1), (4, .int v4)] [.long s0, .int s1, .ref (eAd E 23)] := by
    intro σ v1 v4 s0 s1
    unfold X7_count_b70
    refine j_chk (fun h1 => ?_)
    refine j_last (t0 := 1) C (xin F (by decide)) (xe_23 F _ _) (by rw [wJ_o, wJ_1]; exact (xe_23 F _ _)) (xt1 F) (inb_in h1) dX7_count_70 (fun σ2 => ?_)
    refine j_aload_n C dX7_count_71 0 rfl ?_
    refine j_get (ci := 7) C hU_X7 rfl (xin F (by decide)) (xe_22 F _ _) 3 (by decide) rfl hF_X7_9 dX7_count_72 ?_
    refine j_iconst C (4 : Int32) dX7_count_75 (by decide) ?_
    refine j_iload C dX7_count_76 2 rfl ?_
    refine j_if_eq C 85 dX7_count_78 (by decide) ?_ ?_
    · refine j_aload_n C dX7_count_85 0 rfl ?_
      refine j_get (ci := 7) C hU_X7 rfl (xin F (by decide)) (xe_22 F _ _) 3 (by decide) rfl hF_X7_9 dX7_count_86 ?_
      refine j_iconst C (4 : Int32) dX7_count_89 (by decide) ?_
      refine j_lald (t0 := 1) C (xin F (by decide)) (xe_23 F _ _) (xt1 F) (inb_in (by decide)) dX7_count_90 ?_
      refine j_lload_n C dX7_count_91 1 rfl ?_
      refine j_mmaxl C hM_X7_94 hT_J9_max_f86c9 hZ_J9 hC_J9_max_f86c9 (by decide) (Nat.le_of_ble_eq_true rfl) (by decide) dX7_count_92 ?_
      refine j_nml (fun x3 => ?_)
      refine j_lv [(0, .ref (eAd E 22)), (1, .long v1)] [0, 1] rfl ?_
      exact hB95 σ2 v1 x3 (4 : Int32)
    · refine j_lload_n C dX7_count_81 1 rfl ?_
      refine j_goto C 95 dX7_count_82 (by decide) ?_
      refine j_lv [(0, .ref (eAd E 22)), (1, .long v1)] [0, 1] rfl ?_
      exact hB95 σ2 v1 v1 (4 : Int32)
  have hB44 : ∀ (σ : Mem) (v1 : Int64) (v4 : Int32) (s0 : Int64) (s1 : Int64) (s2 : Int32), J E 5 0 0 r0 (X7_count_b44 n σ v1 v4 s0 s1 s2) σ 44 [(0, .ref (eAd E 22)), (1, .long v1), (4, .int v4)] [.long s0, .long s1, .int s2, .ref (eAd E 23)] := by
    intro σ v1 v4 s0 s1 s2
    unfold X7_count_b44
    refine j_ladd C dX7_count_44 ?_
    refine j_chk (fun h1 => ?_)
    refine j_last (t0 := 1) C (xin F (by decide)) (xe_23 F _ _) (by rw [wJ_o, wJ_1]; exact (xe_23 F _ _)) (xt1 F) (inb_in h1) dX7_count_45 (fun σ2 => ?_)
    refine j_aload_n C dX7_count_46 0 rfl ?_
    refine j_get (ci := 7) C hU_X7 rfl (xin F (by decide)) (xe_22 F _ _) 3 (by decide) rfl hF_X7_9 dX7_count_47 ?_
    refine j_iconst C (3 : Int32) dX7_count_50 (by decide) ?_
    refine j_iload C dX7_count_51 2 rfl ?_
    refine j_if_eq C 60 dX7_count_53 (by decide) ?_ ?_
    · refine j_aload_n C dX7_count_60 0 rfl ?_
      refine j_get (ci := 7) C hU_X7 rfl (xin F (by decide)) (xe_22 F _ _) 3 (by decide) rfl hF_X7_9 dX7_count_61 ?_
      refine j_iconst C (3 : Int32) dX7_count_64 (by decide) ?_
      refine j_lald (t0 := 1) C (xin F (by decide)) (xe_23 F _ _) (xt1 F) (inb_in (by decide)) dX7_count_65 ?_
      refine j_lload_n C dX7_count_66 1 rfl ?_
      refine j_mminl C hM_X7_90 hT_J9_min_f86c9 hZ_J9 hC_J9_min_f86c9 (by decide) (Nat.le_of_ble_eq_true rfl) (by decide) dX7_count_67 ?_
      refine j_nml (fun x3 => ?_)
      refine j_lv [(0, .ref (eAd E 22)), (1, .long v1), (4, .int v4)] [0, 1, 2] rfl ?_
      exact hB70 σ2 v1 v4 x3 (3 : Int32)
    · refine j_lload_n C dX7_count_56 1 rfl ?_
      refine j_goto C 70 dX7_count_57 (by decide) ?_
      refine j_lv [(0, .ref (eAd E 22)), (1, .long v1), (4, .int v4)] [0, 1, 2] rfl ?_
      exact hB70 σ2 v1 v4 v1 (3 : Int32)
  have hB16 : ∀ (σ : Mem) (v1 : Int64) (v3 : Int32) (s0 : Int32), J E 5 0 0 r0 (X7_count_b16 n σ v1 v3 s0) σ 16 [(0, .ref (eAd E 22)), (1, .long v1), (3, .int v3)] [.int s0] := by
    intro σ v1 v3 s0
    unfold X7_count_b16
    refine j_istore (lv' := [(4, .int s0), (0, .ref (eAd E 22)), (1, .long v1), (3, .int v3)]) C dX7_count_16 (by decide) rfl ?_
    refine j_aload_n C dX7_count_18 1 rfl ?_
    refine j_get (ci := 7) C hU_X7 rfl (xin F (by decide)) (xe_22 F _ _) 3 (by decide) rfl hF_X7_9 dX7_count_19 ?_
    refine j_iconst C (0 : Int32) dX7_count_22 (by decide) ?_
    refine j_dup2 C dX7_count_23 rfl rfl ?_
    refine j_lald (t0 := 1) C (xin F (by decide)) (xe_23 F _ _) (xt1 F) (inb_in (by decide)) dX7_count_24 ?_
    refine j_lconst C (1 : Int64) dX7_count_25 (by decide) ?_
    refine j_ladd C dX7_count_26 ?_
    refine j_last (t0 := 1) C (xin F (by decide)) (xe_23 F _ _) (by rw [wJ_o, wJ_1]; exact (xe_23 F _ _)) (xt1 F) (inb_in (by decide)) dX7_count_27 (fun σ1 => ?_)
    refine j_aload_n C dX7_count_28 1 rfl ?_
    refine j_get (ci := 7) C hU_X7 rfl (xin F (by decide)) (xe_22 F _ _) 3 (by decide) rfl hF_X7_9 dX7_count_29 ?_
    refine j_iconst C (2 : Int32) dX7_count_32 (by decide) ?_
    refine j_dup2 C dX7_count_33 rfl rfl ?_
    refine j_lald (t0 := 1) C (xin F (by decide)) (xe_23 F _ _) (xt1 F) (inb_in (by decide)) dX7_count_34 ?_
    refine j_iload_n C dX7_count_35 3 rfl ?_
    refine j_if_eq C 43 dX7_count_36 (by decide) ?_ ?_
    · refine j_lconst C (0 : Int64) dX7_count_43 (by decide) ?_
      refine j_lv [(0, .ref (eAd E 22)), (1, .long v1), (4, .int s0)] [1, 2, 0] rfl ?_
      exact hB44 σ1 v1 s0 (0 : Int64) (σ1.2 23 (ix (2 : Int32))) (2 : Int32)
    · refine j_lconst C (1 : Int64) dX7_count_39 (by decide) ?_
      refine j_goto C 44 dX7_count_40 (by decide) ?_
      refine j_lv [(0, .ref (eAd E 22)), (1, .long v1), (4, .int s0)] [1, 2, 0] rfl ?_
      exact hB44 σ1 v1 s0 (1 : Int64) (σ1.2 23 (ix (2 : Int32))) (2 : Int32)
  unfold X7_count
  refine j_aload_n C dX7_count_0 0 rfl ?_
  refine j_get (ci := 7) C hU_X7 rfl (xin F (by decide)) (xe_22 F _ _) 3 (by decide) rfl hF_X7_9 dX7_count_1 ?_
  refine j_iconst C (0 : Int32) dX7_count_4 (by decide) ?_
  refine j_lald (t0 := 1) C (xin F (by decide)) (xe_23 F _ _) (xt1 F) (inb_in (by decide)) dX7_count_5 ?_
  refine j_lconst C (0 : Int64) dX7_count_6 (by decide) ?_
  refine j_lcmp C dX7_count_7 ?_
  refine j_if_ne C 15 dX7_count_8 (by decide) ?_ ?_
  · refine j_iconst C (0 : Int32) dX7_count_15 (by decide) ?_
    refine j_lv [(0, .ref (eAd E 22)), (1, .long p1), (3, .int p2)] [0, 1, 2] rfl ?_
    exact hB16 σ p1 p2 (0 : Int32)
  · refine j_iconst C (1 : Int32) dX7_count_11 (by decide) ?_
    refine j_goto C 16 dX7_count_12 (by decide) ?_
    refine j_lv [(0, .ref (eAd E 22)), (1, .long p1), (3, .int p2)] [0, 1, 2] rfl ?_
    exact hB16 σ p1 p2 (1 : Int32)
set_option maxRecDepth 100000 in
set_option maxHeartbeats 4000000 in
theorem c_X7_count {E : EnvT} {n : Nat} {cs : Nat → ClassId} (F : XF E n cs) {σ : Mem} {p1 : Int64} {p2 : Int32} {r : Mem} (h : X7_count n σ p1 p2 = some r) : CT E yX7_count cX7_count 5 none rm_X7_count [.ref (eAd E 22), .long p1, .int p2] σ (RQv r) :=
  ct_X F (by decide) (Nat.le_of_ble_eq_true rfl) (fun E' ea F' C Q => by rw [← ea]; exact m_X7_count F'  C Q h)
theorem dd_X7_count : yX7_count.cls ≠ "java/lang/invoke/MethodHandle" ∧ yX7_count.cls ≠ "java/lang/invoke/VarHandle" ∧ (parseMethodDescriptor yX7_count.desc).map (fun d => d.parameters.length) = some 2 := by decide +kernel
def X7_reckon_b150 (n : Nat) (p1 : Nat) (rec57 : (Mem × Int32 × Int32 × Int64 × Int32) → Option (Mem)) (σ : Mem) (v3 : Int32) (v4 : Int32) (v5 : Int64) (v7 : Int32) : Option (Mem) :=
  lete (mxI (1 : Int32) (σ.1 p1 2)) (fun x1 =>
  lete (v7 + x1) (fun x2 =>
  rec57 (σ, v3, v4, v5, x2)))
def X7_reckon_b126 (n : Nat) (p1 : Nat) (rec57 : (Mem × Int32 × Int32 × Int64 × Int32) → Option (Mem)) (σ : Mem) (v3 : Int32) (v7 : Int32) (v8 : Int64) : Option (Mem) :=
  bindo (X2_isFull n σ p1 v7) (fun r2 =>
  bindo (X7_count n σ v8 r2) (fun σ4 =>
  X7_reckon_b150 n p1 rec57 σ4 v3 v7 v8 v7))
def X7_reckon_l57 (n : Nat) (p1 : Nat) (rec57 : (Mem × Int32 × Int32 × Int64 × Int32) → Option (Mem)) (σ : Mem) (v3 : Int32) (v4 : Int32) (v5 : Int64) (v7 : Int32) : Option (Mem) :=
  if v3 < v7 then
  (some σ)
  else
  (bindo (X2_value n σ p1 v7) (fun r2 =>
  if ¬ (lg_cmp r2 (-9223372036854775808 : Int64)) = (0 : Int32) then
  (if (lg_cmp (σ.2 23 (ix (0 : Int32))) (0 : Int64)) ≤ (0 : Int32) then
  (X7_reckon_b126 n p1 rec57 σ v3 v7 r2)
  else
  (bindo (X7_join n σ (σ.1 p1 2) (v7 - v4) (v5 + r2)) (fun σ4 =>
  X7_reckon_b126 n p1 rec57 σ4 v3 v7 r2)))
  else
  (lete (wJ σ 23 (ix (1 : Int32)) ((σ.2 23 (ix (1 : Int32))) + (1 : Int64))) (fun σ5 =>
  X7_reckon_b150 n p1 rec57 σ5 v3 v4 v5 v7))))
def X7_reckon_l2 (n : Nat) (p1 : Nat) (rec2 : (Mem × Int32 × Int32) → Option (Mem)) (σ : Mem) (v2 : Int32) (v3 : Int32) : Option (Mem) :=
  if (8 : Int32) ≤ v3 then
  (bindo (X5_last n σ v2 (σ.1 1 3)) (fun r2 =>
  bindo (X5_first n σ v2) (fun r4 =>
  bindo (X1_firstFrom n p1 σ r4) (fun r6 =>
  loopF (fun (rec : (Mem × Int32 × Int32 × Int64 × Int32) → Option (Mem)) (s : Mem × Int32 × Int32 × Int64 × Int32) => X7_reckon_l57 n p1 rec s.1 s.2.1 s.2.2.1 s.2.2.2.1 s.2.2.2.2)  FU (σ, r2, (0 : Int32), (0 : Int64), r6)))))
  else
  (chk (inb v3 8) (
  lete (wJ σ 23 (ix v3) (0 : Int64)) (fun σ8 =>
  lete (v3 + (1 : Int32)) (fun x9 =>
  rec2 (σ8, v2, x9)))))
def X7_reckon (n : Nat) (σ : Mem) (p1 : Nat) (p2 : Int32) : Option (Mem) :=
  loopF (fun (rec : (Mem × Int32 × Int32) → Option (Mem)) (s : Mem × Int32 × Int32) => X7_reckon_l2 n p1 rec s.1 s.2.1 s.2.2)  FU (σ, p2, (0 : Int32))
abbrev rm_X7_reckon : Room := { frames := 3, cells := 0, slots := 0, locals := 72 }
set_option maxRecDepth 100000 in
set_option maxHeartbeats 4000000 in
theorem m_X7_reckon {E : EnvT} {n : Nat} {cs : Nat → ClassId} (F : XF E n cs) {p1 : Nat} {p2 : Int32} {σ : Mem} (hp1 : isCh n p1 = true) (C : CX E cX7_reckon RX7 10 rm_X7_reckon) {r0 : Mem} (Q : QE E 0 0 none (RQv r0)) : J E 10 0 0 r0 (X7_reckon n σ p1 p2) σ 0 [(0, .ref (eAd E 22)), (1, .ref (eAd E p1)), (2, .int p2)] [] := by
  have hB150 : ∀ (rec57 : (Mem × Int32 × Int32 × Int64 × Int32) → Option (Mem)) (hrec57 : ∀ a : Mem × Int32 × Int32 × Int64 × Int32, J E 10 0 0 r0 (rec57 a) a.1 57 [(0, .ref (eAd E 22)), (1, .ref (eAd E p1)), (3, .int a.2.1), (4, .int a.2.2.1), (5, .long a.2.2.2.1), (7, .int a.2.2.2.2)] []) (σ : Mem) (v3 : Int32) (v4 : Int32) (v5 : Int64) (v7 : Int32), J E 10 0 0 r0 (X7_reckon_b150 n p1 rec57 σ v3 v4 v5 v7) σ 150 [(0, .ref (eAd E 22)), (1, .ref (eAd E p1)), (3, .int v3), (4, .int v4), (5, .long v5), (7, .int v7)] [] := by
    intro rec57 hrec57 σ v3 v4 v5 v7
    unfold X7_reckon_b150
    refine j_iload C dX7_reckon_150 5 rfl ?_
    refine j_iconst C (1 : Int32) dX7_reckon_152 (by decide) ?_
    refine j_aload_n C dX7_reckon_153 1 rfl ?_
    refine j_get (ci := 1) C hU_X1 rfl (xin_Ch F hp1) (xe_Ch F hp1 _ _) 2 (by decide) rfl hF_X7_70 dX7_reckon_154 ?_
    refine j_mmax C hM_X7_85 hT_J9_max_7cf53 hZ_J9 hC_J9_max_7cf53 (by decide) (Nat.le_of_ble_eq_true rfl) (by decide) dX7_reckon_157 ?_
    refine j_nmi (fun x1 => ?_)
    refine j_iadd C dX7_reckon_160 ?_
    refine j_nmi (fun x2 => ?_)
    refine j_istore (lv' := [(7, .int x2), (0, .ref (eAd E 22)), (1, .ref (eAd E p1)), (3, .int v3), (4, .int v4), (5, .long v5)]) C dX7_reckon_161 (by decide) rfl ?_
    refine j_goto C 57 dX7_reckon_163 (by decide) ?_
    refine j_lv [(0, .ref (eAd E 22)), (1, .ref (eAd E p1)), (3, .int v3), (4, .int v4), (5, .long v5), (7, .int x2)] [1, 2, 3, 4, 5, 0] rfl ?_
    exact hrec57 (σ, v3, v4, v5, x2)
  have hB126 : ∀ (rec57 : (Mem × Int32 × Int32 × Int64 × Int32) → Option (Mem)) (hrec57 : ∀ a : Mem × Int32 × Int32 × Int64 × Int32, J E 10 0 0 r0 (rec57 a) a.1 57 [(0, .ref (eAd E 22)), (1, .ref (eAd E p1)), (3, .int a.2.1), (4, .int a.2.2.1), (5, .long a.2.2.2.1), (7, .int a.2.2.2.2)] []) (σ : Mem) (v3 : Int32) (v7 : Int32) (v8 : Int64), J E 10 0 0 r0 (X7_reckon_b126 n p1 rec57 σ v3 v7 v8) σ 126 [(0, .ref (eAd E 22)), (1, .ref (eAd E p1)), (3, .int v3), (7, .int v7), (8, .long v8)] [] := by
    intro rec57 hrec57 σ v3 v7 v8
    unfold X7_reckon_b126
    refine j_aload_n C dX7_reckon_126 0 rfl ?_
    refine j_lload C dX7_reckon_127 4 rfl ?_
    refine j_aload_n C dX7_reckon_129 0 rfl ?_
    refine j_get (ci := 7) C hU_X7 rfl (xin F (by decide)) (xe_22 F _ _) 1 (by decide) rfl hF_X7_30 dX7_reckon_130 ?_
    refine j_aload_n C dX7_reckon_133 1 rfl ?_
    refine j_iload C dX7_reckon_134 3 rfl ?_
    refine j_bind (fun r2 h1 => ?_)
    refine j_callVi (ci := 2) C [.ref (eAd E p1), .int v7] (c_X2_isFull F hp1 h1) hM_X7_77 hI_X2_isFull hS_X2_isFull hZ_X2 hC_X2_isFull (xin F (by decide)) (xe_6 F _ _) rfl rfl dd_X2_isFull (by decide) ⟨rfl, rfl⟩ (by decide) (Nat.le_of_ble_eq_true rfl) dX7_reckon_136 rfl ?_
    refine j_bind (fun σ4 h3 => ?_)
    refine j_callVv (ci := 7) C [.long v8, .int r2] (c_X7_count F h3) hM_X7_81 hI_X7_count hS_X7_count hZ_X7 hC_X7_count (xin F (by decide)) (xe_22 F _ _) rfl rfl dd_X7_count (by decide) ⟨rfl, rfl⟩ (by decide) (Nat.le_of_ble_eq_true rfl) dX7_reckon_139 rfl ?_
    refine j_iload C dX7_reckon_142 3 rfl ?_
    refine j_istore (lv' := [(4, .int v7), (0, .ref (eAd E 22)), (1, .ref (eAd E p1)), (3, .int v3), (7, .int v7), (8, .long v8)]) C dX7_reckon_144 (by decide) rfl ?_
    refine j_lload C dX7_reckon_146 5 rfl ?_
    refine j_lstore (lv' := [(5, .long v8), (4, .int v7), (0, .ref (eAd E 22)), (1, .ref (eAd E p1)), (3, .int v3), (7, .int v7), (8, .long v8)]) C dX7_reckon_148 (by decide) rfl ?_
    refine j_lv [(0, .ref (eAd E 22)), (1, .ref (eAd E p1)), (3, .int v3), (4, .int v7), (5, .long v8), (7, .int v7)] [2, 3, 4, 1, 0, 5] rfl ?_
    exact hB150 rec57 hrec57 σ4 v3 v7 v8 v7
  have hL57 : ∀ (f : Nat) (a : Mem × Int32 × Int32 × Int64 × Int32), J E 10 0 0 r0 (loopF (fun (rec : (Mem × Int32 × Int32 × Int64 × Int32) → Option (Mem)) (s : Mem × Int32 × Int32 × Int64 × Int32) => X7_reckon_l57 n p1 rec s.1 s.2.1 s.2.2.1 s.2.2.2.1 s.2.2.2.2) f a) a.1 57 [(0, .ref (eAd E 22)), (1, .ref (eAd E p1)), (3, .int a.2.1), (4, .int a.2.2.1), (5, .long a.2.2.2.1), (7, .int a.2.2.2.2)] [] := by
    refine j_loop (M := fun (a : Mem × Int32 × Int32 × Int64 × Int32) => a.1) (L := fun (a : Mem × Int32 × Int32 × Int64 × Int32) => [(0, .ref (eAd E 22)), (1, .ref (eAd E p1)), (3, .int a.2.1), (4, .int a.2.2.1), (5, .long a.2.2.2.1), (7, .int a.2.2.2.2)]) (S := fun (a : Mem × Int32 × Int32 × Int64 × Int32) => []) (fun rec57 hrec57 a => ?_)
    obtain ⟨σ, v3, v4, v5, v7⟩ := a
    show J E 10 0 0 r0 (X7_reckon_l57 n p1 rec57 σ v3 v4 v5 v7) σ 57 [(0, .ref (eAd E 22)), (1, .ref (eAd E p1)), (3, .int v3), (4, .int v4), (5, .long v5), (7, .int v7)] []
    unfold X7_reckon_l57
    refine j_iload C dX7_reckon_57 5 rfl ?_
    refine j_iload_n C dX7_reckon_59 2 rfl ?_
    refine j_icmp_gt C 166 dX7_reckon_60 (by decide) ?_ ?_
    · exact j_vret2 C Q dX7_reckon_166
    · refine j_aload_n C dX7_reckon_63 0 rfl ?_
      refine j_get (ci := 7) C hU_X7 rfl (xin F (by decide)) (xe_22 F _ _) 1 (by decide) rfl hF_X7_30 dX7_reckon_64 ?_
      refine j_aload_n C dX7_reckon_67 1 rfl ?_
      refine j_iload C dX7_reckon_68 5 rfl ?_
      refine j_bind (fun r2 h1 => ?_)
      refine j_callVl (ci := 2) C [.ref (eAd E p1), .int v7] (c_X2_value F hp1 h1) hM_X7_62 hI_X2_value hS_X2_value hZ_X2 hC_X2_value (xin F (by decide)) (xe_6 F _ _) rfl rfl dd_X2_value (by decide) ⟨rfl, rfl⟩ (by decide) (Nat.le_of_ble_eq_true rfl) dX7_reckon_70 rfl ?_
      refine j_lstore (lv' := [(8, .long r2), (0, .ref (eAd E 22)), (1, .ref (eAd E p1)), (3, .int v3), (4, .int v4), (5, .long v5), (7, .int v7)]) C dX7_reckon_73 (by decide) rfl ?_
      refine j_lload C dX7_reckon_75 0 rfl ?_
      refine j_ldc2 C hK_X7_68 dX7_reckon_77 ?_
      refine j_lcmp C dX7_reckon_80 ?_
      refine j_if_ne C 97 dX7_reckon_81 (by decide) ?_ ?_
      · refine j_aload_n C dX7_reckon_97 1 rfl ?_
        refine j_get (ci := 7) C hU_X7 rfl (xin F (by decide)) (xe_22 F _ _) 3 (by decide) rfl hF_X7_9 dX7_reckon_98 ?_
        refine j_iconst C (0 : Int32) dX7_reckon_101 (by decide) ?_
        refine j_lald (t0 := 1) C (xin F (by decide)) (xe_23 F _ _) (xt1 F) (inb_in (by decide)) dX7_reckon_102 ?_
        refine j_lconst C (0 : Int64) dX7_reckon_103 (by decide) ?_
        refine j_lcmp C dX7_reckon_104 ?_
        refine j_if_le C 126 dX7_reckon_105 (by decide) ?_ ?_
        · refine j_lv [(0, .ref (eAd E 22)), (1, .ref (eAd E p1)), (3, .int v3), (7, .int v7), (8, .long r2)] [1, 2, 3, 6, 0] rfl ?_
          exact hB126 rec57 hrec57 σ v3 v7 r2
        · refine j_aload_n C dX7_reckon_108 1 rfl ?_
          refine j_aload_n C dX7_reckon_109 2 rfl ?_
          refine j_get (ci := 1) C hU_X1 rfl (xin_Ch F hp1) (xe_Ch F hp1 _ _) 2 (by decide) rfl hF_X7_70 dX7_reckon_110 ?_
          refine j_iload C dX7_reckon_113 6 rfl ?_
          refine j_iload C dX7_reckon_115 4 rfl ?_
          refine j_isub C dX7_reckon_117 ?_
          refine j_lload C dX7_reckon_118 5 rfl ?_
          refine j_lload C dX7_reckon_120 0 rfl ?_
          refine j_ladd C dX7_reckon_122 ?_
          refine j_bind (fun σ4 h3 => ?_)
          refine j_callVv (ci := 7) C [.int (σ.1 p1 2), .int (v7 - v4), .long (v5 + r2)] (c_X7_join F h3) hM_X7_73 hI_X7_join hS_X7_join hZ_X7 hC_X7_join (xin F (by decide)) (xe_22 F _ _) rfl rfl dd_X7_join (by decide) ⟨rfl, rfl⟩ (by decide) (Nat.le_of_ble_eq_true rfl) dX7_reckon_123 rfl ?_
          refine j_lv [(0, .ref (eAd E 22)), (1, .ref (eAd E p1)), (3, .int v3), (7, .int v7), (8, .long r2)] [1, 2, 3, 6, 0] rfl ?_
          exact hB126 rec57 hrec57 σ4 v3 v7 r2
      · refine j_aload_n C dX7_reckon_84 1 rfl ?_
        refine j_get (ci := 7) C hU_X7 rfl (xin F (by decide)) (xe_22 F _ _) 3 (by decide) rfl hF_X7_9 dX7_reckon_85 ?_
        refine j_iconst C (1 : Int32) dX7_reckon_88 (by decide) ?_
        refine j_dup2 C dX7_reckon_89 rfl rfl ?_
        refine j_lald (t0 := 1) C (xin F (by decide)) (xe_23 F _ _) (xt1 F) (inb_in (by decide)) dX7_reckon_90 ?_
        refine j_lconst C (1 : Int64) dX7_reckon_91 (by decide) ?_
        refine j_ladd C dX7_reckon_92 ?_
        refine j_last (t0 := 1) C (xin F (by decide)) (xe_23 F _ _) (by rw [wJ_o, wJ_1]; exact (xe_23 F _ _)) (xt1 F) (inb_in (by decide)) dX7_reckon_93 (fun σ5 => ?_)
        refine j_goto C 150 dX7_reckon_94 (by decide) ?_
        refine j_lv [(0, .ref (eAd E 22)), (1, .ref (eAd E p1)), (3, .int v3), (4, .int v4), (5, .long v5), (7, .int v7)] [1, 2, 3, 4, 5, 6] rfl ?_
        exact hB150 rec57 hrec57 σ5 v3 v4 v5 v7
  have hL2 : ∀ (f : Nat) (a : Mem × Int32 × Int32), J E 10 0 0 r0 (loopF (fun (rec : (Mem × Int32 × Int32) → Option (Mem)) (s : Mem × Int32 × Int32) => X7_reckon_l2 n p1 rec s.1 s.2.1 s.2.2) f a) a.1 2 [(0, .ref (eAd E 22)), (1, .ref (eAd E p1)), (2, .int a.2.1), (3, .int a.2.2)] [] := by
    refine j_loop (M := fun (a : Mem × Int32 × Int32) => a.1) (L := fun (a : Mem × Int32 × Int32) => [(0, .ref (eAd E 22)), (1, .ref (eAd E p1)), (2, .int a.2.1), (3, .int a.2.2)]) (S := fun (a : Mem × Int32 × Int32) => []) (fun rec2 hrec2 a => ?_)
    obtain ⟨σ, v2, v3⟩ := a
    show J E 10 0 0 r0 (X7_reckon_l2 n p1 rec2 σ v2 v3) σ 2 [(0, .ref (eAd E 22)), (1, .ref (eAd E p1)), (2, .int v2), (3, .int v3)] []
    unfold X7_reckon_l2
    refine j_iload_n C dX7_reckon_2 3 rfl ?_
    refine j_bipush C (8 : Int32) dX7_reckon_3 (by decide) ?_
    refine j_icmp_ge C 21 dX7_reckon_5 (by decide) ?_ ?_
    · refine j_aload_n C dX7_reckon_21 0 rfl ?_
      refine j_get (ci := 7) C hU_X7 rfl (xin F (by decide)) (xe_22 F _ _) 2 (by decide) rfl hF_X7_34 dX7_reckon_22 ?_
      refine j_iload_n C dX7_reckon_25 2 rfl ?_
      refine j_aload_n C dX7_reckon_26 0 rfl ?_
      refine j_get (ci := 7) C hU_X7 rfl (xin F (by decide)) (xe_22 F _ _) 0 (by decide) rfl hF_X7_26 dX7_reckon_27 ?_
      refine j_get (ci := 3) C hU_X3 rfl (xin F (by decide)) (xe_1 F _ _) 3 (by decide) rfl hF_X7_42 dX7_reckon_30 ?_
      refine j_bind (fun r2 h1 => ?_)
      refine j_callVi (ci := 5) C [.int v2, .int (σ.1 1 3)] (c_X5_last F h1) hM_X7_47 hI_X5_last hS_X5_last hZ_X5 hC_X5_last (xin F (by decide)) (xe_18 F _ _) rfl rfl dd_X5_last (by decide) ⟨rfl, rfl⟩ (by decide) (Nat.le_of_ble_eq_true rfl) dX7_reckon_33 rfl ?_
      refine j_istore_n (lv' := [(3, .int r2), (0, .ref (eAd E 22)), (1, .ref (eAd E p1)), (2, .int v2)]) C dX7_reckon_36 (by decide) rfl ?_
      refine j_iconst C (0 : Int32) dX7_reckon_37 (by decide) ?_
      refine j_istore (lv' := [(4, .int (0 : Int32)), (3, .int r2), (0, .ref (eAd E 22)), (1, .ref (eAd E p1)), (2, .int v2)]) C dX7_reckon_38 (by decide) rfl ?_
      refine j_lconst C (0 : Int64) dX7_reckon_40 (by decide) ?_
      refine j_lstore (lv' := [(5, .long (0 : Int64)), (4, .int (0 : Int32)), (3, .int r2), (0, .ref (eAd E 22)), (1, .ref (eAd E p1)), (2, .int v2)]) C dX7_reckon_41 (by decide) rfl ?_
      refine j_aload_n C dX7_reckon_43 4 rfl ?_
      refine j_aload_n C dX7_reckon_44 3 rfl ?_
      refine j_get (ci := 7) C hU_X7 rfl (xin F (by decide)) (xe_22 F _ _) 2 (by decide) rfl hF_X7_34 dX7_reckon_45 ?_
      refine j_iload_n C dX7_reckon_48 5 rfl ?_
      refine j_bind (fun r4 h3 => ?_)
      refine j_callVi (ci := 5) C [.int v2] (c_X5_first F h3) hM_X7_53 hI_X5_first hS_X5_first hZ_X5 hC_X5_first (xin F (by decide)) (xe_18 F _ _) rfl rfl dd_X5_first (by decide) ⟨rfl, rfl⟩ (by decide) (Nat.le_of_ble_eq_true rfl) dX7_reckon_49 rfl ?_
      refine j_bind (fun r6 h5 => ?_)
      refine j_callVi (ci := 1) C [.int r4] (c_X1_firstFrom F hp1 h5) hM_X7_57 hI_X1_firstFrom hS_X1_firstFrom hZ_X1 hC_X1_firstFrom (xin_Ch F hp1) (xe_Ch F hp1 _ _) rfl rfl dd_X1_firstFrom (by decide) ⟨rfl, rfl⟩ (by decide) (Nat.le_of_ble_eq_true rfl) dX7_reckon_52 rfl ?_
      refine j_istore (lv' := [(7, .int r6), (5, .long (0 : Int64)), (4, .int (0 : Int32)), (3, .int r2), (0, .ref (eAd E 22)), (1, .ref (eAd E p1)), (2, .int v2)]) C dX7_reckon_55 (by decide) rfl ?_
      refine j_lv [(0, .ref (eAd E 22)), (1, .ref (eAd E p1)), (3, .int r2), (4, .int (0 : Int32)), (5, .long (0 : Int64)), (7, .int r6)] [4, 5, 3, 2, 1, 0] rfl ?_
      exact hL57  FU (σ, r2, (0 : Int32), (0 : Int64), r6)
    · refine j_aload_n C dX7_reckon_8 0 rfl ?_
      refine j_get (ci := 7) C hU_X7 rfl (xin F (by decide)) (xe_22 F _ _) 3 (by decide) rfl hF_X7_9 dX7_reckon_9 ?_
      refine j_iload_n C dX7_reckon_12 3 rfl ?_
      refine j_lconst C (0 : Int64) dX7_reckon_13 (by decide) ?_
      refine j_chk (fun h7 => ?_)
      refine j_last (t0 := 1) C (xin F (by decide)) (xe_23 F _ _) (by rw [wJ_o, wJ_1]; exact (xe_23 F _ _)) (xt1 F) (inb_in h7) dX7_reckon_14 (fun σ8 => ?_)
      refine j_iincN (lf := fun x9 => [(3, .int x9), (0, .ref (eAd E 22)), (1, .ref (eAd E p1)), (2, .int v2)]) C dX7_reckon_15 3 rfl (by rfl) (by decide) (fun _ => rfl) (fun x9 => ?_)
      refine j_goto C 2 dX7_reckon_18 (by decide) ?_
      refine j_lv [(0, .ref (eAd E 22)), (1, .ref (eAd E p1)), (2, .int v2), (3, .int x9)] [1, 2, 3, 0] rfl ?_
      exact hrec2 (σ8, v2, x9)
  unfold X7_reckon
  refine j_iconst C (0 : Int32) dX7_reckon_0 (by decide) ?_
  refine j_istore_n (lv' := [(3, .int (0 : Int32)), (0, .ref (eAd E 22)), (1, .ref (eAd E p1)), (2, .int p2)]) C dX7_reckon_1 (by decide) rfl ?_
  refine j_lv [(0, .ref (eAd E 22)), (1, .ref (eAd E p1)), (2, .int p2), (3, .int (0 : Int32))] [1, 2, 3, 0] rfl ?_
  exact hL2  FU (σ, p2, (0 : Int32))
set_option maxRecDepth 100000 in
set_option maxHeartbeats 4000000 in
theorem c_X7_reckon {E : EnvT} {n : Nat} {cs : Nat → ClassId} (F : XF E n cs) {σ : Mem} {p1 : Nat} {p2 : Int32} (hp1 : isCh n p1 = true) {r : Mem} (h : X7_reckon n σ p1 p2 = some r) : CT E yX7_reckon cX7_reckon 10 none rm_X7_reckon [.ref (eAd E 22), .ref (eAd E p1), .int p2] σ (RQv r) :=
  ct_X F (by decide) (Nat.le_of_ble_eq_true rfl) (fun E' ea F' C Q => by rw [← ea]; exact m_X7_reckon F' hp1 C Q h)
theorem dd_X7_reckon : yX7_reckon.cls ≠ "java/lang/invoke/MethodHandle" ∧ yX7_reckon.cls ≠ "java/lang/invoke/VarHandle" ∧ (parseMethodDescriptor yX7_reckon.desc).map (fun d => d.parameters.length) = some 2 := by decide +kernel
def X7_keepAhead_l27 (n : Nat) (p1 : Nat) (rec2 : (Mem × Int32) → Option (Mem)) (rec27 : (Mem × Int32 × Int32) → Option (Mem)) (σ : Mem) (v2 : Int32) (v3 : Int32) : Option (Mem) :=
  if (8 : Int32) ≤ v3 then
  (lete (v2 + (1 : Int32)) (fun x1 =>
  rec2 (σ, x1)))
  else
  (chk (inb v3 8) (
  chk (inb ((v2 * (8 : Int32)) + v3) 160) (
  lete (wJ σ 24 (ix ((v2 * (8 : Int32)) + v3)) (σ.2 23 (ix v3))) (fun σ4 =>
  lete (v3 + (1 : Int32)) (fun x5 =>
  rec27 (σ4, v2, x5))))))
def X7_keepAhead_l2 (n : Nat) (p1 : Nat) (rec2 : (Mem × Int32) → Option (Mem)) (σ : Mem) (v2 : Int32) : Option (Mem) :=
  if (σ.1 18 1) ≤ v2 then
  (some σ)
  else
  (if (20 : Int32) ≤ v2 then
  (some σ)
  else
  (bindo (X7_reckon n σ p1 v2) (fun σ2 =>
  loopF (fun (rec : (Mem × Int32 × Int32) → Option (Mem)) (s : Mem × Int32 × Int32) => X7_keepAhead_l27 n p1 rec2 rec s.1 s.2.1 s.2.2)  FU (σ2, v2, (0 : Int32)))))
def X7_keepAhead (n : Nat) (σ : Mem) (p1 : Nat) : Option (Mem) :=
  loopF (fun (rec : (Mem × Int32) → Option (Mem)) (s : Mem × Int32) => X7_keepAhead_l2 n p1 rec s.1 s.2)  FU (σ, (0 : Int32))
abbrev rm_X7_keepAhead : Room := { frames := 4, cells := 0, slots := 0, locals := 101 }
set_option maxRecDepth 100000 in
set_option maxHeartbeats 4000000 in
theorem m_X7_keepAhead {E : EnvT} {n : Nat} {cs : Nat → ClassId} (F : XF E n cs) {p1 : Nat} {σ : Mem} (hp1 : isCh n p1 = true) (C : CX E cX7_keepAhead RX7 4 rm_X7_keepAhead) {r0 : Mem} (Q : QE E 0 0 none (RQv r0)) : J E 4 0 0 r0 (X7_keepAhead n σ p1) σ 0 [(0, .ref (eAd E 22)), (1, .ref (eAd E p1))] [] := by
  have hL27 : ∀ (rec2 : (Mem × Int32) → Option (Mem)) (hrec2 : ∀ a : Mem × Int32, J E 4 0 0 r0 (rec2 a) a.1 2 [(0, .ref (eAd E 22)), (1, .ref (eAd E p1)), (2, .int a.2)] []) (f : Nat) (a : Mem × Int32 × Int32), J E 4 0 0 r0 (loopF (fun (rec : (Mem × Int32 × Int32) → Option (Mem)) (s : Mem × Int32 × Int32) => X7_keepAhead_l27 n p1 rec2 rec s.1 s.2.1 s.2.2) f a) a.1 27 [(0, .ref (eAd E 22)), (1, .ref (eAd E p1)), (2, .int a.2.1), (3, .int a.2.2)] [] := by
    intro rec2 hrec2
    refine j_loop (M := fun (a : Mem × Int32 × Int32) => a.1) (L := fun (a : Mem × Int32 × Int32) => [(0, .ref (eAd E 22)), (1, .ref (eAd E p1)), (2, .int a.2.1), (3, .int a.2.2)]) (S := fun (a : Mem × Int32 × Int32) => []) (fun rec27 hrec27 a => ?_)
    obtain ⟨σ, v2, v3⟩ := a
    show J E 4 0 0 r0 (X7_keepAhead_l27 n p1 rec2 rec27 σ v2 v3) σ 27 [(0, .ref (eAd E 22)), (1, .ref (eAd E p1)), (2, .int v2), (3, .int v3)] []
    unfold X7_keepAhead_l27
    refine j_iload_n C dX7_keepAhead_27 3 rfl ?_
    refine j_bipush C (8 : Int32) dX7_keepAhead_28 (by decide) ?_
    refine j_icmp_ge C 56 dX7_keepAhead_30 (by decide) ?_ ?_
    · refine j_iincN (lf := fun x1 => [(2, .int x1), (0, .ref (eAd E 22)), (1, .ref (eAd E p1)), (3, .int v3)]) C dX7_keepAhead_56 2 rfl (by rfl) (by decide) (fun _ => rfl) (fun x1 => ?_)
      refine j_goto C 2 dX7_keepAhead_59 (by decide) ?_
      refine j_lv [(0, .ref (eAd E 22)), (1, .ref (eAd E p1)), (2, .int x1)] [1, 2, 0] rfl ?_
      exact hrec2 (σ, x1)
    · refine j_aload_n C dX7_keepAhead_33 0 rfl ?_
      refine j_get (ci := 7) C hU_X7 rfl (xin F (by decide)) (xe_22 F _ _) 4 (by decide) rfl hF_X7_15 dX7_keepAhead_34 ?_
      refine j_iload_n C dX7_keepAhead_37 2 rfl ?_
      refine j_bipush C (8 : Int32) dX7_keepAhead_38 (by decide) ?_
      refine j_imul C dX7_keepAhead_40 ?_
      refine j_iload_n C dX7_keepAhead_41 3 rfl ?_
      refine j_iadd C dX7_keepAhead_42 ?_
      refine j_aload_n C dX7_keepAhead_43 0 rfl ?_
      refine j_get (ci := 7) C hU_X7 rfl (xin F (by decide)) (xe_22 F _ _) 3 (by decide) rfl hF_X7_9 dX7_keepAhead_44 ?_
      refine j_iload_n C dX7_keepAhead_47 3 rfl ?_
      refine j_chk (fun h2 => ?_)
      refine j_lald (t0 := 1) C (xin F (by decide)) (xe_23 F _ _) (xt1 F) (inb_in h2) dX7_keepAhead_48 ?_
      refine j_chk (fun h3 => ?_)
      refine j_last (t0 := 1) C (xin F (by decide)) (xe_24 F _ _) (by rw [wJ_o, wJ_1]; exact (xe_24 F _ _)) (xt1 F) (inb_in h3) dX7_keepAhead_49 (fun σ4 => ?_)
      refine j_iincN (lf := fun x5 => [(3, .int x5), (0, .ref (eAd E 22)), (1, .ref (eAd E p1)), (2, .int v2)]) C dX7_keepAhead_50 3 rfl (by rfl) (by decide) (fun _ => rfl) (fun x5 => ?_)
      refine j_goto C 27 dX7_keepAhead_53 (by decide) ?_
      refine j_lv [(0, .ref (eAd E 22)), (1, .ref (eAd E p1)), (2, .int v2), (3, .int x5)] [1, 2, 3, 0] rfl ?_
      exact hrec27 (σ4, v2, x5)
  have hL2 : ∀ (f : Nat) (a : Mem × Int32), J E 4 0 0 r0 (loopF (fun (rec : (Mem × Int32) → Option (Mem)) (s : Mem × Int32) => X7_keepAhead_l2 n p1 rec s.1 s.2) f a) a.1 2 [(0, .ref (eAd E 22)), (1, .ref (eAd E p1)), (2, .int a.2)] [] := by
    refine j_loop (M := fun (a : Mem × Int32) => a.1) (L := fun (a : Mem × Int32) => [(0, .ref (eAd E 22)), (1, .ref (eAd E p1)), (2, .int a.2)]) (S := fun (a : Mem × Int32) => []) (fun rec2 hrec2 a => ?_)
    obtain ⟨σ, v2⟩ := a
    show J E 4 0 0 r0 (X7_keepAhead_l2 n p1 rec2 σ v2) σ 2 [(0, .ref (eAd E 22)), (1, .ref (eAd E p1)), (2, .int v2)] []
    unfold X7_keepAhead_l2
    refine j_iload_n C dX7_keepAhead_2 2 rfl ?_
    refine j_aload_n C dX7_keepAhead_3 0 rfl ?_
    refine j_get (ci := 7) C hU_X7 rfl (xin F (by decide)) (xe_22 F _ _) 2 (by decide) rfl hF_X7_34 dX7_keepAhead_4 ?_
    refine j_get (ci := 5) C hU_X5 rfl (xin F (by decide)) (xe_18 F _ _) 1 (by decide) rfl hF_X7_96 dX7_keepAhead_7 ?_
    refine j_icmp_ge C 62 dX7_keepAhead_10 (by decide) ?_ ?_
    · exact j_vret2 C Q dX7_keepAhead_62
    · refine j_iload_n C dX7_keepAhead_13 2 rfl ?_
      refine j_bipush C (20 : Int32) dX7_keepAhead_14 (by decide) ?_
      refine j_icmp_ge C 62 dX7_keepAhead_16 (by decide) ?_ ?_
      · exact j_vret2 C Q dX7_keepAhead_62
      · refine j_aload_n C dX7_keepAhead_19 0 rfl ?_
        refine j_aload_n C dX7_keepAhead_20 1 rfl ?_
        refine j_iload_n C dX7_keepAhead_21 2 rfl ?_
        refine j_bind (fun σ2 h1 => ?_)
        refine j_callVv (ci := 7) C [.ref (eAd E p1), .int v2] (c_X7_reckon F hp1 h1) hM_X7_98 hI_X7_reckon hS_X7_reckon hZ_X7 hC_X7_reckon (xin F (by decide)) (xe_22 F _ _) rfl rfl dd_X7_reckon (by decide) ⟨rfl, rfl⟩ (by decide) (Nat.le_of_ble_eq_true rfl) dX7_keepAhead_22 rfl ?_
        refine j_iconst C (0 : Int32) dX7_keepAhead_25 (by decide) ?_
        refine j_istore_n (lv' := [(3, .int (0 : Int32)), (0, .ref (eAd E 22)), (1, .ref (eAd E p1)), (2, .int v2)]) C dX7_keepAhead_26 (by decide) rfl ?_
        refine j_lv [(0, .ref (eAd E 22)), (1, .ref (eAd E p1)), (2, .int v2), (3, .int (0 : Int32))] [1, 2, 3, 0] rfl ?_
        exact hL27 rec2 hrec2 FU (σ2, v2, (0 : Int32))
  unfold X7_keepAhead
  refine j_iconst C (0 : Int32) dX7_keepAhead_0 (by decide) ?_
  refine j_istore_n (lv' := [(2, .int (0 : Int32)), (0, .ref (eAd E 22)), (1, .ref (eAd E p1))]) C dX7_keepAhead_1 (by decide) rfl ?_
  refine j_lv [(0, .ref (eAd E 22)), (1, .ref (eAd E p1)), (2, .int (0 : Int32))] [1, 2, 0] rfl ?_
  exact hL2  FU (σ, (0 : Int32))
set_option maxRecDepth 100000 in
set_option maxHeartbeats 4000000 in
theorem c_X7_keepAhead {E : EnvT} {n : Nat} {cs : Nat → ClassId} (F : XF E n cs) {σ : Mem} {p1 : Nat} (hp1 : isCh n p1 = true) {r : Mem} (h : X7_keepAhead n σ p1 = some r) : CT E yX7_keepAhead cX7_keepAhead 4 none rm_X7_keepAhead [.ref (eAd E 22), .ref (eAd E p1)] σ (RQv r) :=
  ct_X F (by decide) (Nat.le_of_ble_eq_true rfl) (fun E' ea F' C Q => by rw [← ea]; exact m_X7_keepAhead F' hp1 C Q h)
theorem dd_X7_keepAhead : yX7_keepAhead.cls ≠ "java/lang/invoke/MethodHandle" ∧ yX7_keepAhead.cls ≠ "java/lang/invoke/VarHandle" ∧ (parseMethodDescriptor yX7_keepAhead.desc).map (fun d => d.parameters.length) = some 1 := by decide +kernel
def X7_name (n : Nat) (σ : Mem) (p1 : Int32) : Option (Mem) :=
  bindo (X11_within (σ.1 22 6) (0 : Int32) (159 : Int32)) (fun r2 =>
  if r2 = (0 : Int32) then
  (some σ)
  else
  (chk (inb (σ.1 22 6) 160) (
  lete (wI σ 25 (ix (σ.1 22 6)) p1) (fun σ4 =>
  lete (wI σ4 22 6 ((σ4.1 22 6) + (1 : Int32))) (fun σ5 =>
  some σ5)))))
abbrev rm_X7_name : Room := { frames := 1, cells := 0, slots := 0, locals := 22 }
set_option maxRecDepth 100000 in
set_option maxHeartbeats 4000000 in
theorem m_X7_name {E : EnvT} {n : Nat} {cs : Nat → ClassId} (F : XF E n cs) {p1 : Int32} {σ : Mem} (C : CX E cX7_name RX7 2 rm_X7_name) {r0 : Mem} (Q : QE E 0 0 none (RQv r0)) : J E 2 0 0 r0 (X7_name n σ p1) σ 0 [(0, .ref (eAd E 22)), (1, .int p1)] [] := by

  unfold X7_name
  refine j_aload_n C dX7_name_0 0 rfl ?_
  refine j_get (ci := 7) C hU_X7 rfl (xin F (by decide)) (xe_22 F _ _) 6 (by decide) rfl hF_X7_22 dX7_name_1 ?_
  refine j_iconst C (0 : Int32) dX7_name_4 (by decide) ?_
  refine j_sipush C (159 : Int32) dX7_name_5 (by decide) ?_
  refine j_bind (fun r2 h1 => ?_)
  refine j_callNi C [.int (σ.1 22 6), .int (0 : Int32), .int (159 : Int32)] (c_X11_within F h1) nhN_X7_38 hT_X11_within hZ_X11 hC_X11_within dd_X11_within (by decide) ⟨rfl, rfl⟩ (by decide) (Nat.le_of_ble_eq_true rfl) dX7_name_8 rfl ?_
  refine j_if_eq C 34 dX7_name_11 (by decide) ?_ ?_
  · exact j_vret2 C Q dX7_name_34
  · refine j_aload_n C dX7_name_14 0 rfl ?_
    refine j_get (ci := 7) C hU_X7 rfl (xin F (by decide)) (xe_22 F _ _) 5 (by decide) rfl hF_X7_18 dX7_name_15 ?_
    refine j_aload_n C dX7_name_18 0 rfl ?_
    refine j_get (ci := 7) C hU_X7 rfl (xin F (by decide)) (xe_22 F _ _) 6 (by decide) rfl hF_X7_22 dX7_name_19 ?_
    refine j_iload_n C dX7_name_22 1 rfl ?_
    refine j_chk (fun h3 => ?_)
    refine j_iast (t0 := 0) C (xin F (by decide)) (xe_25 F _ _) (by rw [wI_o, wI_2]; exact (xe_25 F _ _)) (xt0 F) (inb_in h3) dX7_name_23 (fun σ4 => ?_)
    refine j_aload_n C dX7_name_24 0 rfl ?_
    refine j_dup C dX7_name_25 rfl ?_
    refine j_get (ci := 7) C hU_X7 rfl (xin F (by decide)) (xe_22 F _ _) 6 (by decide) rfl hF_X7_22 dX7_name_26 ?_
    refine j_iconst C (1 : Int32) dX7_name_29 (by decide) ?_
    refine j_iadd C dX7_name_30 ?_
    refine j_put (ci := 7) C hU_X7 tyX7_ok nmX7 rfl (xin F (by decide)) (xe_22 F _ _) 6 (by decide) (Nat.le_of_ble_eq_true rfl) (by rw [wI_o, wI_2]; exact (xe_22 F _ _)) (fun o' h' => ⟨wI_ne _ _ _ h', rfl⟩) rfl (by first | rfl | decide) (by first | rfl | decide) hF_X7_22 dX7_name_31 (fun σ5 => ?_)
    exact j_vret2 C Q dX7_name_34
set_option maxRecDepth 100000 in
set_option maxHeartbeats 4000000 in
theorem c_X7_name {E : EnvT} {n : Nat} {cs : Nat → ClassId} (F : XF E n cs) {σ : Mem} {p1 : Int32} {r : Mem} (h : X7_name n σ p1 = some r) : CT E yX7_name cX7_name 2 none rm_X7_name [.ref (eAd E 22), .int p1] σ (RQv r) :=
  ct_X F (by decide) (Nat.le_of_ble_eq_true rfl) (fun E' ea F' C Q => by rw [← ea]; exact m_X7_name F'  C Q h)
theorem dd_X7_name : yX7_name.cls ≠ "java/lang/invoke/MethodHandle" ∧ yX7_name.cls ≠ "java/lang/invoke/VarHandle" ∧ (parseMethodDescriptor yX7_name.desc).map (fun d => d.parameters.length) = some 1 := by decide +kernel
def X7_nameOthers_b77 (n : Nat) (p1 : Nat) (rec32 : (Mem × Int32 × Int32) → Option (Mem)) (σ : Mem) (v2 : Int32) (v3 : Int32) : Option (Mem) :=
  lete (v3 + (1 : Int32)) (fun x1 =>
  rec32 (σ, v2, x1))
def X7_nameOthers_l32 (n : Nat) (p1 : Nat) (rec7 : (Mem × Int32) → Option (Mem)) (rec32 : (Mem × Int32 × Int32) → Option (Mem)) (σ : Mem) (v2 : Int32) (v3 : Int32) : Option (Mem) :=
  if (8 : Int32) ≤ v3 then
  (lete (v2 + (1 : Int32)) (fun x1 =>
  rec7 (σ, x1)))
  else
  (chk (inb v3 8) (
  chk (inb ((v2 * (8 : Int32)) + v3) 160) (
  if (lg_cmp (σ.2 23 (ix v3)) (σ.2 24 (ix ((v2 * (8 : Int32)) + v3)))) = (0 : Int32) then
  (X7_nameOthers_b77 n p1 rec32 σ v2 v3)
  else
  (bindo (X7_name n σ ((((80 : Int32) * v2) + ((10 : Int32) * (σ.1 p1 0))) + v3)) (fun σ5 =>
  X7_nameOthers_b77 n p1 rec32 σ5 v2 v3)))))
def X7_nameOthers_l7 (n : Nat) (p1 : Nat) (rec7 : (Mem × Int32) → Option (Mem)) (σ : Mem) (v2 : Int32) : Option (Mem) :=
  if (σ.1 18 1) ≤ v2 then
  (some σ)
  else
  (if (20 : Int32) ≤ v2 then
  (some σ)
  else
  (bindo (X7_reckon n σ p1 v2) (fun σ2 =>
  loopF (fun (rec : (Mem × Int32 × Int32) → Option (Mem)) (s : Mem × Int32 × Int32) => X7_nameOthers_l32 n p1 rec7 rec s.1 s.2.1 s.2.2)  FU (σ2, v2, (0 : Int32)))))
def X7_nameOthers (n : Nat) (σ : Mem) (p1 : Nat) : Option (Mem) :=
  lete (wI σ 22 6 (0 : Int32)) (fun σ1 =>
  loopF (fun (rec : (Mem × Int32) → Option (Mem)) (s : Mem × Int32) => X7_nameOthers_l7 n p1 rec s.1 s.2)  FU (σ1, (0 : Int32)))
abbrev rm_X7_nameOthers : Room := { frames := 4, cells := 0, slots := 0, locals := 101 }
set_option maxRecDepth 100000 in
set_option maxHeartbeats 4000000 in
theorem m_X7_nameOthers {E : EnvT} {n : Nat} {cs : Nat → ClassId} (F : XF E n cs) {p1 : Nat} {σ : Mem} (hp1 : isCh n p1 = true) (C : CX E cX7_nameOthers RX7 4 rm_X7_nameOthers) {r0 : Mem} (Q : QE E 0 0 none (RQv r0)) : J E 4 0 0 r0 (X7_nameOthers n σ p1) σ 0 [(0, .ref (eAd E 22)), (1, .ref (eAd E p1))] [] := by
  have hB77 : ∀ (rec32 : (Mem × Int32 × Int32) → Option (Mem)) (hrec32 : ∀ a : Mem × Int32 × Int32, J E 4 0 0 r0 (rec32 a) a.1 32 [(0, .ref (eAd E 22)), (1, .ref (eAd E p1)), (2, .int a.2.1), (3, .int a.2.2)] []) (σ : Mem) (v2 : Int32) (v3 : Int32), J E 4 0 0 r0 (X7_nameOthers_b77 n p1 rec32 σ v2 v3) σ 77 [(0, .ref (eAd E 22)), (1, .ref (eAd E p1)), (2, .int v2), (3, .int v3)] [] := by
    intro rec32 hrec32 σ v2 v3
    unfold X7_nameOthers_b77
    refine j_iincN (lf := fun x1 => [(3, .int x1), (0, .ref (eAd E 22)), (1, .ref (eAd E p1)), (2, .int v2)]) C dX7_nameOthers_77 3 rfl (by rfl) (by decide) (fun _ => rfl) (fun x1 => ?_)
    refine j_goto C 32 dX7_nameOthers_80 (by decide) ?_
    refine j_lv [(0, .ref (eAd E 22)), (1, .ref (eAd E p1)), (2, .int v2), (3, .int x1)] [1, 2, 3, 0] rfl ?_
    exact hrec32 (σ, v2, x1)
  have hL32 : ∀ (rec7 : (Mem × Int32) → Option (Mem)) (hrec7 : ∀ a : Mem × Int32, J E 4 0 0 r0 (rec7 a) a.1 7 [(0, .ref (eAd E 22)), (1, .ref (eAd E p1)), (2, .int a.2)] []) (f : Nat) (a : Mem × Int32 × Int32), J E 4 0 0 r0 (loopF (fun (rec : (Mem × Int32 × Int32) → Option (Mem)) (s : Mem × Int32 × Int32) => X7_nameOthers_l32 n p1 rec7 rec s.1 s.2.1 s.2.2) f a) a.1 32 [(0, .ref (eAd E 22)), (1, .ref (eAd E p1)), (2, .int a.2.1), (3, .int a.2.2)] [] := by
    intro rec7 hrec7
    refine j_loop (M := fun (a : Mem × Int32 × Int32) => a.1) (L := fun (a : Mem × Int32 × Int32) => [(0, .ref (eAd E 22)), (1, .ref (eAd E p1)), (2, .int a.2.1), (3, .int a.2.2)]) (S := fun (a : Mem × Int32 × Int32) => []) (fun rec32 hrec32 a => ?_)
    obtain ⟨σ, v2, v3⟩ := a
    show J E 4 0 0 r0 (X7_nameOthers_l32 n p1 rec7 rec32 σ v2 v3) σ 32 [(0, .ref (eAd E 22)), (1, .ref (eAd E p1)), (2, .int v2), (3, .int v3)] []
    unfold X7_nameOthers_l32
    refine j_iload_n C dX7_nameOthers_32 3 rfl ?_
    refine j_bipush C (8 : Int32) dX7_nameOthers_33 (by decide) ?_
    refine j_icmp_ge C 83 dX7_nameOthers_35 (by decide) ?_ ?_
    · refine j_iincN (lf := fun x1 => [(2, .int x1), (0, .ref (eAd E 22)), (1, .ref (eAd E p1)), (3, .int v3)]) C dX7_nameOthers_83 2 rfl (by rfl) (by decide) (fun _ => rfl) (fun x1 => ?_)
      refine j_goto C 7 dX7_nameOthers_86 (by decide) ?_
      refine j_lv [(0, .ref (eAd E 22)), (1, .ref (eAd E p1)), (2, .int x1)] [1, 2, 0] rfl ?_
      exact hrec7 (σ, x1)
    · refine j_aload_n C dX7_nameOthers_38 0 rfl ?_
      refine j_get (ci := 7) C hU_X7 rfl (xin F (by decide)) (xe_22 F _ _) 3 (by decide) rfl hF_X7_9 dX7_nameOthers_39 ?_
      refine j_iload_n C dX7_nameOthers_42 3 rfl ?_
      refine j_chk (fun h2 => ?_)
      refine j_lald (t0 := 1) C (xin F (by decide)) (xe_23 F _ _) (xt1 F) (inb_in h2) dX7_nameOthers_43 ?_
      refine j_aload_n C dX7_nameOthers_44 0 rfl ?_
      refine j_get (ci := 7) C hU_X7 rfl (xin F (by decide)) (xe_22 F _ _) 4 (by decide) rfl hF_X7_15 dX7_nameOthers_45 ?_
      refine j_iload_n C dX7_nameOthers_48 2 rfl ?_
      refine j_bipush C (8 : Int32) dX7_nameOthers_49 (by decide) ?_
      refine j_imul C dX7_nameOthers_51 ?_
      refine j_iload_n C dX7_nameOthers_52 3 rfl ?_
      refine j_iadd C dX7_nameOthers_53 ?_
      refine j_chk (fun h3 => ?_)
      refine j_lald (t0 := 1) C (xin F (by decide)) (xe_24 F _ _) (xt1 F) (inb_in h3) dX7_nameOthers_54 ?_
      refine j_lcmp C dX7_nameOthers_55 ?_
      refine j_if_eq C 77 dX7_nameOthers_56 (by decide) ?_ ?_
      · refine j_lv [(0, .ref (eAd E 22)), (1, .ref (eAd E p1)), (2, .int v2), (3, .int v3)] [0, 1, 2, 3] rfl ?_
        exact hB77 rec32 hrec32 σ v2 v3
      · refine j_aload_n C dX7_nameOthers_59 0 rfl ?_
        refine j_bipush C (80 : Int32) dX7_nameOthers_60 (by decide) ?_
        refine j_iload_n C dX7_nameOthers_62 2 rfl ?_
        refine j_imul C dX7_nameOthers_63 ?_
        refine j_bipush C (10 : Int32) dX7_nameOthers_64 (by decide) ?_
        refine j_aload_n C dX7_nameOthers_66 1 rfl ?_
        refine j_get (ci := 1) C hU_X1 rfl (xin_Ch F hp1) (xe_Ch F hp1 _ _) 0 (by decide) rfl hF_X7_102 dX7_nameOthers_67 ?_
        refine j_imul C dX7_nameOthers_70 ?_
        refine j_iadd C dX7_nameOthers_71 ?_
        refine j_iload_n C dX7_nameOthers_72 3 rfl ?_
        refine j_iadd C dX7_nameOthers_73 ?_
        refine j_bind (fun σ5 h4 => ?_)
        refine j_callVv (ci := 7) C [.int ((((80 : Int32) * v2) + ((10 : Int32) * (σ.1 p1 0))) + v3)] (c_X7_name F h4) hM_X7_105 hI_X7_name hS_X7_name hZ_X7 hC_X7_name (xin F (by decide)) (xe_22 F _ _) rfl rfl dd_X7_name (by decide) ⟨rfl, rfl⟩ (by decide) (Nat.le_of_ble_eq_true rfl) dX7_nameOthers_74 rfl ?_
        refine j_lv [(0, .ref (eAd E 22)), (1, .ref (eAd E p1)), (2, .int v2), (3, .int v3)] [0, 1, 2, 3] rfl ?_
        exact hB77 rec32 hrec32 σ5 v2 v3
  have hL7 : ∀ (f : Nat) (a : Mem × Int32), J E 4 0 0 r0 (loopF (fun (rec : (Mem × Int32) → Option (Mem)) (s : Mem × Int32) => X7_nameOthers_l7 n p1 rec s.1 s.2) f a) a.1 7 [(0, .ref (eAd E 22)), (1, .ref (eAd E p1)), (2, .int a.2)] [] := by
    refine j_loop (M := fun (a : Mem × Int32) => a.1) (L := fun (a : Mem × Int32) => [(0, .ref (eAd E 22)), (1, .ref (eAd E p1)), (2, .int a.2)]) (S := fun (a : Mem × Int32) => []) (fun rec7 hrec7 a => ?_)
    obtain ⟨σ, v2⟩ := a
    show J E 4 0 0 r0 (X7_nameOthers_l7 n p1 rec7 σ v2) σ 7 [(0, .ref (eAd E 22)), (1, .ref (eAd E p1)), (2, .int v2)] []
    unfold X7_nameOthers_l7
    refine j_iload_n C dX7_nameOthers_7 2 rfl ?_
    refine j_aload_n C dX7_nameOthers_8 0 rfl ?_
    refine j_get (ci := 7) C hU_X7 rfl (xin F (by decide)) (xe_22 F _ _) 2 (by decide) rfl hF_X7_34 dX7_nameOthers_9 ?_
    refine j_get (ci := 5) C hU_X5 rfl (xin F (by decide)) (xe_18 F _ _) 1 (by decide) rfl hF_X7_96 dX7_nameOthers_12 ?_
    refine j_icmp_ge C 89 dX7_nameOthers_15 (by decide) ?_ ?_
    · exact j_vret2 C Q dX7_nameOthers_89
    · refine j_iload_n C dX7_nameOthers_18 2 rfl ?_
      refine j_bipush C (20 : Int32) dX7_nameOthers_19 (by decide) ?_
      refine j_icmp_ge C 89 dX7_nameOthers_21 (by decide) ?_ ?_
      · exact j_vret2 C Q dX7_nameOthers_89
      · refine j_aload_n C dX7_nameOthers_24 0 rfl ?_
        refine j_aload_n C dX7_nameOthers_25 1 rfl ?_
        refine j_iload_n C dX7_nameOthers_26 2 rfl ?_
        refine j_bind (fun σ2 h1 => ?_)
        refine j_callVv (ci := 7) C [.ref (eAd E p1), .int v2] (c_X7_reckon F hp1 h1) hM_X7_98 hI_X7_reckon hS_X7_reckon hZ_X7 hC_X7_reckon (xin F (by decide)) (xe_22 F _ _) rfl rfl dd_X7_reckon (by decide) ⟨rfl, rfl⟩ (by decide) (Nat.le_of_ble_eq_true rfl) dX7_nameOthers_27 rfl ?_
        refine j_iconst C (0 : Int32) dX7_nameOthers_30 (by decide) ?_
        refine j_istore_n (lv' := [(3, .int (0 : Int32)), (0, .ref (eAd E 22)), (1, .ref (eAd E p1)), (2, .int v2)]) C dX7_nameOthers_31 (by decide) rfl ?_
        refine j_lv [(0, .ref (eAd E 22)), (1, .ref (eAd E p1)), (2, .int v2), (3, .int (0 : Int32))] [1, 2, 3, 0] rfl ?_
        exact hL32 rec7 hrec7 FU (σ2, v2, (0 : Int32))
  unfold X7_nameOthers
  refine j_aload_n C dX7_nameOthers_0 0 rfl ?_
  refine j_iconst C (0 : Int32) dX7_nameOthers_1 (by decide) ?_
  refine j_put (ci := 7) C hU_X7 tyX7_ok nmX7 rfl (xin F (by decide)) (xe_22 F _ _) 6 (by decide) (Nat.le_of_ble_eq_true rfl) (by rw [wI_o, wI_2]; exact (xe_22 F _ _)) (fun o' h' => ⟨wI_ne _ _ _ h', rfl⟩) rfl (by first | rfl | decide) (by first | rfl | decide) hF_X7_22 dX7_nameOthers_2 (fun σ1 => ?_)
  refine j_iconst C (0 : Int32) dX7_nameOthers_5 (by decide) ?_
  refine j_istore_n (lv' := [(2, .int (0 : Int32)), (0, .ref (eAd E 22)), (1, .ref (eAd E p1))]) C dX7_nameOthers_6 (by decide) rfl ?_
  refine j_lv [(0, .ref (eAd E 22)), (1, .ref (eAd E p1)), (2, .int (0 : Int32))] [1, 2, 0] rfl ?_
  exact hL7  FU (σ1, (0 : Int32))
set_option maxRecDepth 100000 in
set_option maxHeartbeats 4000000 in
theorem c_X7_nameOthers {E : EnvT} {n : Nat} {cs : Nat → ClassId} (F : XF E n cs) {σ : Mem} {p1 : Nat} (hp1 : isCh n p1 = true) {r : Mem} (h : X7_nameOthers n σ p1 = some r) : CT E yX7_nameOthers cX7_nameOthers 4 none rm_X7_nameOthers [.ref (eAd E 22), .ref (eAd E p1)] σ (RQv r) :=
  ct_X F (by decide) (Nat.le_of_ble_eq_true rfl) (fun E' ea F' C Q => by rw [← ea]; exact m_X7_nameOthers F' hp1 C Q h)
theorem dd_X7_nameOthers : yX7_nameOthers.cls ≠ "java/lang/invoke/MethodHandle" ∧ yX7_nameOthers.cls ≠ "java/lang/invoke/VarHandle" ∧ (parseMethodDescriptor yX7_nameOthers.desc).map (fun d => d.parameters.length) = some 1 := by decide +kernel
def X8_isOff (n : Nat) (σ : Mem) : Option (Int32) :=
  if ¬ (σ.1 20 5) = (0 : Int32) then
  (some (0 : Int32))
  else
  (some (1 : Int32))
abbrev rm_X8_isOff : Room := { frames := 0, cells := 0, slots := 0, locals := 0 }
set_option maxRecDepth 100000 in
set_option maxHeartbeats 4000000 in
theorem m_X8_isOff {E : EnvT} {n : Nat} {cs : Nat → ClassId} (F : XF E n cs) {σ : Mem} (C : CX E cX8_isOff RX8 1 rm_X8_isOff) {r0 : Int32} (Q : QE E 0 0 (some .boolean) (RQi r0 σ)) : J E 1 0 0 r0 (X8_isOff n σ) σ 0 [(0, .ref (eAd E 20))] [] := by

  unfold X8_isOff
  refine j_aload_n C dX8_isOff_0 0 rfl ?_
  refine j_get (ci := 8) C hU_X8 rfl (xin F (by decide)) (xe_20 F _ _) 5 (by decide) rfl hF_X8_15 dX8_isOff_1 ?_
  refine j_if_ne C 11 dX8_isOff_4 (by decide) ?_ ?_
  · refine j_iconst C (0 : Int32) dX8_isOff_11 (by decide) ?_
    exact j_iretz C rfl Q dX8_isOff_12
  · refine j_iconst C (1 : Int32) dX8_isOff_7 (by decide) ?_
    refine j_goto C 12 dX8_isOff_8 (by decide) ?_
    exact j_iretz C rfl Q dX8_isOff_12
set_option maxRecDepth 100000 in
set_option maxHeartbeats 4000000 in
theorem c_X8_isOff {E : EnvT} {n : Nat} {cs : Nat → ClassId} (F : XF E n cs) {σ : Mem} {r : Int32} (h : X8_isOff n σ = some r) : CT E yX8_isOff cX8_isOff 1 (some .boolean) rm_X8_isOff [.ref (eAd E 20)] σ (RQi r σ) :=
  ct_X F (by decide) (Nat.le_of_ble_eq_true rfl) (fun E' ea F' C Q => by rw [← ea]; exact m_X8_isOff F'  C Q h)
theorem dd_X8_isOff : yX8_isOff.cls ≠ "java/lang/invoke/MethodHandle" ∧ yX8_isOff.cls ≠ "java/lang/invoke/VarHandle" ∧ (parseMethodDescriptor yX8_isOff.desc).map (fun d => d.parameters.length) = some 0 := by decide +kernel
def X8_isGoing (n : Nat) (σ : Mem) : Option (Int32) :=
  if (σ.1 20 5) = (1 : Int32) then
  (some (1 : Int32))
  else
  (if ¬ (σ.1 20 5) = (2 : Int32) then
  (some (0 : Int32))
  else
  (some (1 : Int32)))
abbrev rm_X8_isGoing : Room := { frames := 0, cells := 0, slots := 0, locals := 0 }
set_option maxRecDepth 100000 in
set_option maxHeartbeats 4000000 in
theorem m_X8_isGoing {E : EnvT} {n : Nat} {cs : Nat → ClassId} (F : XF E n cs) {σ : Mem} (C : CX E cX8_isGoing RX8 1 rm_X8_isGoing) {r0 : Int32} (Q : QE E 0 0 (some .boolean) (RQi r0 σ)) : J E 1 0 0 r0 (X8_isGoing n σ) σ 0 [(0, .ref (eAd E 20))] [] := by

  unfold X8_isGoing
  refine j_aload_n C dX8_isGoing_0 0 rfl ?_
  refine j_get (ci := 8) C hU_X8 rfl (xin F (by decide)) (xe_20 F _ _) 5 (by decide) rfl hF_X8_15 dX8_isGoing_1 ?_
  refine j_iconst C (1 : Int32) dX8_isGoing_4 (by decide) ?_
  refine j_icmp_eq C 16 dX8_isGoing_5 (by decide) ?_ ?_
  · refine j_iconst C (1 : Int32) dX8_isGoing_16 (by decide) ?_
    refine j_goto C 21 dX8_isGoing_17 (by decide) ?_
    exact j_iretz C rfl Q dX8_isGoing_21
  · refine j_aload_n C dX8_isGoing_8 0 rfl ?_
    refine j_get (ci := 8) C hU_X8 rfl (xin F (by decide)) (xe_20 F _ _) 5 (by decide) rfl hF_X8_15 dX8_isGoing_9 ?_
    refine j_iconst C (2 : Int32) dX8_isGoing_12 (by decide) ?_
    refine j_icmp_ne C 20 dX8_isGoing_13 (by decide) ?_ ?_
    · refine j_iconst C (0 : Int32) dX8_isGoing_20 (by decide) ?_
      exact j_iretz C rfl Q dX8_isGoing_21
    · refine j_iconst C (1 : Int32) dX8_isGoing_16 (by decide) ?_
      refine j_goto C 21 dX8_isGoing_17 (by decide) ?_
      exact j_iretz C rfl Q dX8_isGoing_21
set_option maxRecDepth 100000 in
set_option maxHeartbeats 4000000 in
theorem c_X8_isGoing {E : EnvT} {n : Nat} {cs : Nat → ClassId} (F : XF E n cs) {σ : Mem} {r : Int32} (h : X8_isGoing n σ = some r) : CT E yX8_isGoing cX8_isGoing 1 (some .boolean) rm_X8_isGoing [.ref (eAd E 20)] σ (RQi r σ) :=
  ct_X F (by decide) (Nat.le_of_ble_eq_true rfl) (fun E' ea F' C Q => by rw [← ea]; exact m_X8_isGoing F'  C Q h)
theorem dd_X8_isGoing : yX8_isGoing.cls ≠ "java/lang/invoke/MethodHandle" ∧ yX8_isGoing.cls ≠ "java/lang/invoke/VarHandle" ∧ (parseMethodDescriptor yX8_isGoing.desc).map (fun d => d.parameters.length) = some 0 := by decide +kernel
def X8_comeTo (n : Nat) (σ : Mem) (p1 : Int32) : Option (Mem) :=
  lete (wI σ 20 6 p1) (fun σ1 =>
  lete (wI σ1 20 9 (0 : Int32)) (fun σ2 =>
  some σ2))
abbrev rm_X8_comeTo : Room := { frames := 0, cells := 0, slots := 0, locals := 0 }
set_option maxRecDepth 100000 in
set_option maxHeartbeats 4000000 in
theorem m_X8_comeTo {E : EnvT} {n : Nat} {cs : Nat → ClassId} (F : XF E n cs) {p1 : Int32} {σ : Mem} (C : CX E cX8_comeTo RX8 2 rm_X8_comeTo) {r0 : Mem} (Q : QE E 0 0 none (RQv r0)) : J E 2 0 0 r0 (X8_comeTo n σ p1) σ 0 [(0, .ref (eAd E 20)), (1, .int p1)] [] := by

  unfold X8_comeTo
  refine j_aload_n C dX8_comeTo_0 0 rfl ?_
  refine j_iload_n C dX8_comeTo_1 1 rfl ?_
  refine j_put (ci := 8) C hU_X8 tyX8_ok nmX8 rfl (xin F (by decide)) (xe_20 F _ _) 6 (by decide) (Nat.le_of_ble_eq_true rfl) (by rw [wI_o, wI_2]; exact (xe_20 F _ _)) (fun o' h' => ⟨wI_ne _ _ _ h', rfl⟩) rfl (by first | rfl | decide) (by first | rfl | decide) hF_X8_19 dX8_comeTo_2 (fun σ1 => ?_)
  refine j_aload_n C dX8_comeTo_5 0 rfl ?_
  refine j_iconst C (0 : Int32) dX8_comeTo_6 (by decide) ?_
  refine j_put (ci := 8) C hU_X8 tyX8_ok nmX8 rfl (xin F (by decide)) (xe_20 F _ _) 9 (by decide) (Nat.le_of_ble_eq_true rfl) (by rw [wI_o, wI_2]; exact (xe_20 F _ _)) (fun o' h' => ⟨wI_ne _ _ _ h', rfl⟩) rfl (by first | rfl | decide) (by first | rfl | decide) hF_X8_28 dX8_comeTo_7 (fun σ2 => ?_)
  exact j_vret2 C Q dX8_comeTo_10
set_option maxRecDepth 100000 in
set_option maxHeartbeats 4000000 in
theorem c_X8_comeTo {E : EnvT} {n : Nat} {cs : Nat → ClassId} (F : XF E n cs) {σ : Mem} {p1 : Int32} {r : Mem} (h : X8_comeTo n σ p1 = some r) : CT E yX8_comeTo cX8_comeTo 2 none rm_X8_comeTo [.ref (eAd E 20), .int p1] σ (RQv r) :=
  ct_X F (by decide) (Nat.le_of_ble_eq_true rfl) (fun E' ea F' C Q => by rw [← ea]; exact m_X8_comeTo F'  C Q h)
theorem dd_X8_comeTo : yX8_comeTo.cls ≠ "java/lang/invoke/MethodHandle" ∧ yX8_comeTo.cls ≠ "java/lang/invoke/VarHandle" ∧ (parseMethodDescriptor yX8_comeTo.desc).map (fun d => d.parameters.length) = some 1 := by decide +kernel
def X8_rest (n : Nat) (σ : Mem) : Option (Mem) :=
  lete (wI σ 20 5 (0 : Int32)) (fun σ1 =>
  lete (wI σ1 20 7 (-9 : Int32)) (fun σ2 =>
  lete (wI σ2 20 8 (0 : Int32)) (fun σ3 =>
  bindo (X8_comeTo n σ3 (0 : Int32)) (fun σ5 =>
  some σ5))))
abbrev rm_X8_rest : Room := { frames := 1, cells := 0, slots := 0, locals := 21 }
set_option maxRecDepth 100000 in
set_option maxHeartbeats 4000000 in
theorem m_X8_rest {E : EnvT} {n : Nat} {cs : Nat → ClassId} (F : XF E n cs) {σ : Mem} (C : CX E cX8_rest RX8 1 rm_X8_rest) {r0 : Mem} (Q : QE E 0 0 none (RQv r0)) : J E 1 0 0 r0 (X8_rest n σ) σ 0 [(0, .ref (eAd E 20))] [] := by

  unfold X8_rest
  refine j_aload_n C dX8_rest_0 0 rfl ?_
  refine j_iconst C (0 : Int32) dX8_rest_1 (by decide) ?_
  refine j_put (ci := 8) C hU_X8 tyX8_ok nmX8 rfl (xin F (by decide)) (xe_20 F _ _) 5 (by decide) (Nat.le_of_ble_eq_true rfl) (by rw [wI_o, wI_2]; exact (xe_20 F _ _)) (fun o' h' => ⟨wI_ne _ _ _ h', rfl⟩) rfl (by first | rfl | decide) (by first | rfl | decide) hF_X8_15 dX8_rest_2 (fun σ1 => ?_)
  refine j_aload_n C dX8_rest_5 0 rfl ?_
  refine j_bipush C (-9 : Int32) dX8_rest_6 (by decide) ?_
  refine j_put (ci := 8) C hU_X8 tyX8_ok nmX8 rfl (xin F (by decide)) (xe_20 F _ _) 7 (by decide) (Nat.le_of_ble_eq_true rfl) (by rw [wI_o, wI_2]; exact (xe_20 F _ _)) (fun o' h' => ⟨wI_ne _ _ _ h', rfl⟩) rfl (by first | rfl | decide) (by first | rfl | decide) hF_X8_22 dX8_rest_8 (fun σ2 => ?_)
  refine j_aload_n C dX8_rest_11 0 rfl ?_
  refine j_iconst C (0 : Int32) dX8_rest_12 (by decide) ?_
  refine j_put (ci := 8) C hU_X8 tyX8_ok nmX8 rfl (xin F (by decide)) (xe_20 F _ _) 8 (by decide) (Nat.le_of_ble_eq_true rfl) (by rw [wI_o, wI_2]; exact (xe_20 F _ _)) (fun o' h' => ⟨wI_ne _ _ _ h', rfl⟩) rfl (by first | rfl | decide) (by first | rfl | decide) hF_X8_25 dX8_rest_13 (fun σ3 => ?_)
  refine j_aload_n C dX8_rest_16 0 rfl ?_
  refine j_iconst C (0 : Int32) dX8_rest_17 (by decide) ?_
  refine j_bind (fun σ5 h4 => ?_)
  refine j_callVv (ci := 8) C [.int (0 : Int32)] (c_X8_comeTo F h4) hM_X8_59 hI_X8_comeTo hS_X8_comeTo hZ_X8 hC_X8_comeTo (xin F (by decide)) (xe_20 F _ _) rfl rfl dd_X8_comeTo (by decide) ⟨rfl, rfl⟩ (by decide) (Nat.le_of_ble_eq_true rfl) dX8_rest_18 rfl ?_
  exact j_vret2 C Q dX8_rest_21
set_option maxRecDepth 100000 in
set_option maxHeartbeats 4000000 in
theorem c_X8_rest {E : EnvT} {n : Nat} {cs : Nat → ClassId} (F : XF E n cs) {σ : Mem} {r : Mem} (h : X8_rest n σ = some r) : CT E yX8_rest cX8_rest 1 none rm_X8_rest [.ref (eAd E 20)] σ (RQv r) :=
  ct_X F (by decide) (Nat.le_of_ble_eq_true rfl) (fun E' ea F' C Q => by rw [← ea]; exact m_X8_rest F'  C Q h)
theorem dd_X8_rest : yX8_rest.cls ≠ "java/lang/invoke/MethodHandle" ∧ yX8_rest.cls ≠ "java/lang/invoke/VarHandle" ∧ (parseMethodDescriptor yX8_rest.desc).map (fun d => d.parameters.length) = some 0 := by decide +kernel
def X8_begin_l12 (n : Nat) (rec12 : (Mem × Int32) → Option (Mem)) (σ : Mem) (v1 : Int32) : Option (Mem) :=
  if (30 : Int32) ≤ v1 then
  (some σ)
  else
  (chk (inb v1 30) (
  lete (wI σ 21 (ix v1) (0 : Int32)) (fun σ2 =>
  lete (v1 + (1 : Int32)) (fun x3 =>
  rec12 (σ2, x3)))))
def X8_begin (n : Nat) (σ : Mem) : Option (Mem) :=
  lete (wI σ 20 5 (1 : Int32)) (fun σ1 =>
  bindo (X8_comeTo n σ1 (0 : Int32)) (fun σ3 =>
  loopF (fun (rec : (Mem × Int32) → Option (Mem)) (s : Mem × Int32) => X8_begin_l12 n rec s.1 s.2)  FU (σ3, (0 : Int32))))
abbrev rm_X8_begin : Room := { frames := 1, cells := 0, slots := 0, locals := 21 }
set_option maxRecDepth 100000 in
set_option maxHeartbeats 4000000 in
theorem m_X8_begin {E : EnvT} {n : Nat} {cs : Nat → ClassId} (F : XF E n cs) {σ : Mem} (C : CX E cX8_begin RX8 2 rm_X8_begin) {r0 : Mem} (Q : QE E 0 0 none (RQv r0)) : J E 2 0 0 r0 (X8_begin n σ) σ 0 [(0, .ref (eAd E 20))] [] := by
  have hL12 : ∀ (f : Nat) (a : Mem × Int32), J E 2 0 0 r0 (loopF (fun (rec : (Mem × Int32) → Option (Mem)) (s : Mem × Int32) => X8_begin_l12 n rec s.1 s.2) f a) a.1 12 [(0, .ref (eAd E 20)), (1, .int a.2)] [] := by
    refine j_loop (M := fun (a : Mem × Int32) => a.1) (L := fun (a : Mem × Int32) => [(0, .ref (eAd E 20)), (1, .int a.2)]) (S := fun (a : Mem × Int32) => []) (fun rec12 hrec12 a => ?_)
    obtain ⟨σ, v1⟩ := a
    show J E 2 0 0 r0 (X8_begin_l12 n rec12 σ v1) σ 12 [(0, .ref (eAd E 20)), (1, .int v1)] []
    unfold X8_begin_l12
    refine j_iload_n C dX8_begin_12 1 rfl ?_
    refine j_bipush C (30 : Int32) dX8_begin_13 (by decide) ?_
    refine j_icmp_ge C 31 dX8_begin_15 (by decide) ?_ ?_
    · exact j_vret2 C Q dX8_begin_31
    · refine j_aload_n C dX8_begin_18 0 rfl ?_
      refine j_get (ci := 8) C hU_X8 rfl (xin F (by decide)) (xe_20 F _ _) 4 (by decide) rfl hF_X8_9 dX8_begin_19 ?_
      refine j_iload_n C dX8_begin_22 1 rfl ?_
      refine j_iconst C (0 : Int32) dX8_begin_23 (by decide) ?_
      refine j_chk (fun h1 => ?_)
      refine j_iast (t0 := 0) C (xin F (by decide)) (xe_21 F _ _) (by rw [wI_o, wI_2]; exact (xe_21 F _ _)) (xt0 F) (inb_in h1) dX8_begin_24 (fun σ2 => ?_)
      refine j_iincN (lf := fun x3 => [(1, .int x3), (0, .ref (eAd E 20))]) C dX8_begin_25 1 rfl (by rfl) (by decide) (fun _ => rfl) (fun x3 => ?_)
      refine j_goto C 12 dX8_begin_28 (by decide) ?_
      refine j_lv [(0, .ref (eAd E 20)), (1, .int x3)] [1, 0] rfl ?_
      exact hrec12 (σ2, x3)
  unfold X8_begin
  refine j_aload_n C dX8_begin_0 0 rfl ?_
  refine j_iconst C (1 : Int32) dX8_begin_1 (by decide) ?_
  refine j_put (ci := 8) C hU_X8 tyX8_ok nmX8 rfl (xin F (by decide)) (xe_20 F _ _) 5 (by decide) (Nat.le_of_ble_eq_true rfl) (by rw [wI_o, wI_2]; exact (xe_20 F _ _)) (fun o' h' => ⟨wI_ne _ _ _ h', rfl⟩) rfl (by first | rfl | decide) (by first | rfl | decide) hF_X8_15 dX8_begin_2 (fun σ1 => ?_)
  refine j_aload_n C dX8_begin_5 0 rfl ?_
  refine j_iconst C (0 : Int32) dX8_begin_6 (by decide) ?_
  refine j_bind (fun σ3 h2 => ?_)
  refine j_callVv (ci := 8) C [.int (0 : Int32)] (c_X8_comeTo F h2) hM_X8_59 hI_X8_comeTo hS_X8_comeTo hZ_X8 hC_X8_comeTo (xin F (by decide)) (xe_20 F _ _) rfl rfl dd_X8_comeTo (by decide) ⟨rfl, rfl⟩ (by decide) (Nat.le_of_ble_eq_true rfl) dX8_begin_7 rfl ?_
  refine j_iconst C (0 : Int32) dX8_begin_10 (by decide) ?_
  refine j_istore_n (lv' := [(1, .int (0 : Int32)), (0, .ref (eAd E 20))]) C dX8_begin_11 (by decide) rfl ?_
  refine j_lv [(0, .ref (eAd E 20)), (1, .int (0 : Int32))] [1, 0] rfl ?_
  exact hL12  FU (σ3, (0 : Int32))
set_option maxRecDepth 100000 in
set_option maxHeartbeats 4000000 in
theorem c_X8_begin {E : EnvT} {n : Nat} {cs : Nat → ClassId} (F : XF E n cs) {σ : Mem} {r : Mem} (h : X8_begin n σ = some r) : CT E yX8_begin cX8_begin 2 none rm_X8_begin [.ref (eAd E 20)] σ (RQv r) :=
  ct_X F (by decide) (Nat.le_of_ble_eq_true rfl) (fun E' ea F' C Q => by rw [← ea]; exact m_X8_begin F'  C Q h)
theorem dd_X8_begin : yX8_begin.cls ≠ "java/lang/invoke/MethodHandle" ∧ yX8_begin.cls ≠ "java/lang/invoke/VarHandle" ∧ (parseMethodDescriptor yX8_begin.desc).map (fun d => d.parameters.length) = some 0 := by decide +kernel
def X8_halt (n : Nat) (σ : Mem) (p1 : Int32) : Option (Mem) :=
  lete (wI σ 20 7 p1) (fun σ1 =>
  lete (wI σ1 20 5 (2 : Int32)) (fun σ2 =>
  some σ2))
abbrev rm_X8_halt : Room := { frames := 0, cells := 0, slots := 0, locals := 0 }
set_option maxRecDepth 100000 in
set_option maxHeartbeats 4000000 in
theorem m_X8_halt {E : EnvT} {n : Nat} {cs : Nat → ClassId} (F : XF E n cs) {p1 : Int32} {σ : Mem} (C : CX E cX8_halt RX8 2 rm_X8_halt) {r0 : Mem} (Q : QE E 0 0 none (RQv r0)) : J E 2 0 0 r0 (X8_halt n σ p1) σ 0 [(0, .ref (eAd E 20)), (1, .int p1)] [] := by

  unfold X8_halt
  refine j_aload_n C dX8_halt_0 0 rfl ?_
  refine j_iload_n C dX8_halt_1 1 rfl ?_
  refine j_put (ci := 8) C hU_X8 tyX8_ok nmX8 rfl (xin F (by decide)) (xe_20 F _ _) 7 (by decide) (Nat.le_of_ble_eq_true rfl) (by rw [wI_o, wI_2]; exact (xe_20 F _ _)) (fun o' h' => ⟨wI_ne _ _ _ h', rfl⟩) rfl (by first | rfl | decide) (by first | rfl | decide) hF_X8_22 dX8_halt_2 (fun σ1 => ?_)
  refine j_aload_n C dX8_halt_5 0 rfl ?_
  refine j_iconst C (2 : Int32) dX8_halt_6 (by decide) ?_
  refine j_put (ci := 8) C hU_X8 tyX8_ok nmX8 rfl (xin F (by decide)) (xe_20 F _ _) 5 (by decide) (Nat.le_of_ble_eq_true rfl) (by rw [wI_o, wI_2]; exact (xe_20 F _ _)) (fun o' h' => ⟨wI_ne _ _ _ h', rfl⟩) rfl (by first | rfl | decide) (by first | rfl | decide) hF_X8_15 dX8_halt_7 (fun σ2 => ?_)
  exact j_vret2 C Q dX8_halt_10
set_option maxRecDepth 100000 in
set_option maxHeartbeats 4000000 in
theorem c_X8_halt {E : EnvT} {n : Nat} {cs : Nat → ClassId} (F : XF E n cs) {σ : Mem} {p1 : Int32} {r : Mem} (h : X8_halt n σ p1 = some r) : CT E yX8_halt cX8_halt 2 none rm_X8_halt [.ref (eAd E 20), .int p1] σ (RQv r) :=
  ct_X F (by decide) (Nat.le_of_ble_eq_true rfl) (fun E' ea F' C Q => by rw [← ea]; exact m_X8_halt F'  C Q h)
theorem dd_X8_halt : yX8_halt.cls ≠ "java/lang/invoke/MethodHandle" ∧ yX8_halt.cls ≠ "java/lang/invoke/VarHandle" ∧ (parseMethodDescriptor yX8_halt.desc).map (fun d => d.parameters.length) = some 1 := by decide +kernel
def X8_spend (n : Nat) (σ : Mem) : Option (Mem) :=
  lete (wI σ 20 9 ((σ.1 20 9) + (1 : Int32))) (fun σ1 =>
  bindo (X6_cell n σ1 (σ1.1 20 6) (1 : Int32)) (fun r3 =>
  if (σ1.1 20 9) < r3 then
  (some σ1)
  else
  (bindo (X8_comeTo n σ1 ((σ1.1 20 6) + (1 : Int32))) (fun σ5 =>
  some σ5))))
abbrev rm_X8_spend : Room := { frames := 2, cells := 0, slots := 0, locals := 44 }
set_option maxRecDepth 100000 in
set_option maxHeartbeats 4000000 in
theorem m_X8_spend {E : EnvT} {n : Nat} {cs : Nat → ClassId} (F : XF E n cs) {σ : Mem} (C : CX E cX8_spend RX8 1 rm_X8_spend) {r0 : Mem} (Q : QE E 0 0 none (RQv r0)) : J E 1 0 0 r0 (X8_spend n σ) σ 0 [(0, .ref (eAd E 20))] [] := by

  unfold X8_spend
  refine j_aload_n C dX8_spend_0 0 rfl ?_
  refine j_dup C dX8_spend_1 rfl ?_
  refine j_get (ci := 8) C hU_X8 rfl (xin F (by decide)) (xe_20 F _ _) 9 (by decide) rfl hF_X8_28 dX8_spend_2 ?_
  refine j_iconst C (1 : Int32) dX8_spend_5 (by decide) ?_
  refine j_iadd C dX8_spend_6 ?_
  refine j_put (ci := 8) C hU_X8 tyX8_ok nmX8 rfl (xin F (by decide)) (xe_20 F _ _) 9 (by decide) (Nat.le_of_ble_eq_true rfl) (by rw [wI_o, wI_2]; exact (xe_20 F _ _)) (fun o' h' => ⟨wI_ne _ _ _ h', rfl⟩) rfl (by first | rfl | decide) (by first | rfl | decide) hF_X8_28 dX8_spend_7 (fun σ1 => ?_)
  refine j_aload_n C dX8_spend_10 0 rfl ?_
  refine j_get (ci := 8) C hU_X8 rfl (xin F (by decide)) (xe_20 F _ _) 9 (by decide) rfl hF_X8_28 dX8_spend_11 ?_
  refine j_aload_n C dX8_spend_14 0 rfl ?_
  refine j_get (ci := 8) C hU_X8 rfl (xin F (by decide)) (xe_20 F _ _) 1 (by decide) rfl hF_X8_47 dX8_spend_15 ?_
  refine j_aload_n C dX8_spend_18 0 rfl ?_
  refine j_get (ci := 8) C hU_X8 rfl (xin F (by decide)) (xe_20 F _ _) 6 (by decide) rfl hF_X8_19 dX8_spend_19 ?_
  refine j_iconst C (1 : Int32) dX8_spend_22 (by decide) ?_
  refine j_bind (fun r3 h2 => ?_)
  refine j_callVi (ci := 6) C [.int (σ1.1 20 6), .int (1 : Int32)] (c_X6_cell F h2) hM_X8_93 hI_X6_cell hS_X6_cell hZ_X6 hC_X6_cell (xin F (by decide)) (xe_4 F _ _) rfl rfl dd_X6_cell (by decide) ⟨rfl, rfl⟩ (by decide) (Nat.le_of_ble_eq_true rfl) dX8_spend_23 rfl ?_
  refine j_icmp_lt C 39 dX8_spend_26 (by decide) ?_ ?_
  · exact j_vret2 C Q dX8_spend_39
  · refine j_aload_n C dX8_spend_29 0 rfl ?_
    refine j_aload_n C dX8_spend_30 0 rfl ?_
    refine j_get (ci := 8) C hU_X8 rfl (xin F (by decide)) (xe_20 F _ _) 6 (by decide) rfl hF_X8_19 dX8_spend_31 ?_
    refine j_iconst C (1 : Int32) dX8_spend_34 (by decide) ?_
    refine j_iadd C dX8_spend_35 ?_
    refine j_bind (fun σ5 h4 => ?_)
    refine j_callVv (ci := 8) C [.int ((σ1.1 20 6) + (1 : Int32))] (c_X8_comeTo F h4) hM_X8_59 hI_X8_comeTo hS_X8_comeTo hZ_X8 hC_X8_comeTo (xin F (by decide)) (xe_20 F _ _) rfl rfl dd_X8_comeTo (by decide) ⟨rfl, rfl⟩ (by decide) (Nat.le_of_ble_eq_true rfl) dX8_spend_36 rfl ?_
    exact j_vret2 C Q dX8_spend_39
set_option maxRecDepth 100000 in
set_option maxHeartbeats 4000000 in
theorem c_X8_spend {E : EnvT} {n : Nat} {cs : Nat → ClassId} (F : XF E n cs) {σ : Mem} {r : Mem} (h : X8_spend n σ = some r) : CT E yX8_spend cX8_spend 1 none rm_X8_spend [.ref (eAd E 20)] σ (RQv r) :=
  ct_X F (by decide) (Nat.le_of_ble_eq_true rfl) (fun E' ea F' C Q => by rw [← ea]; exact m_X8_spend F'  C Q h)
theorem dd_X8_spend : yX8_spend.cls ≠ "java/lang/invoke/MethodHandle" ∧ yX8_spend.cls ≠ "java/lang/invoke/VarHandle" ∧ (parseMethodDescriptor yX8_spend.desc).map (fun d => d.parameters.length) = some 0 := by decide +kernel
def X8_ramp_b23 (n : Nat) (σ : Mem) : Option (Mem) :=
  bindo (X6_cell n σ (σ.1 20 6) (1 : Int32)) (fun r2 =>
  if r2 ≤ (0 : Int32) then
  (some σ)
  else
  (lete ((σ.1 20 9) + (1 : Int32)) (fun x3 =>
  bindo (X6_cell n σ (σ.1 20 6) (2 : Int32)) (fun r5 =>
  chk (nz r2) (
  lete (wI σ 20 10 ((σ.1 20 12) + ((x3 * (r5 - (σ.1 20 12))) / r2))) (fun σ7 =>
  bindo (X6_cell n σ7 (σ7.1 20 6) (3 : Int32)) (fun r9 =>
  chk (nz r2) (
  lete (wI σ7 20 11 ((σ7.1 20 13) + ((x3 * (r9 - (σ7.1 20 13))) / r2))) (fun σ11 =>
  some σ11)))))))))
def X8_ramp (n : Nat) (σ : Mem) : Option (Mem) :=
  if ¬ (σ.1 20 9) = (0 : Int32) then
  (X8_ramp_b23 n σ)
  else
  (lete (wI σ 20 12 (σ.1 20 10)) (fun σ1 =>
  lete (wI σ1 20 13 (σ1.1 20 11)) (fun σ2 =>
  X8_ramp_b23 n σ2)))
abbrev rm_X8_ramp : Room := { frames := 2, cells := 0, slots := 0, locals := 44 }
set_option maxRecDepth 100000 in
set_option maxHeartbeats 4000000 in
theorem m_X8_ramp {E : EnvT} {n : Nat} {cs : Nat → ClassId} (F : XF E n cs) {σ : Mem} (C : CX E cX8_ramp RX8 3 rm_X8_ramp) {r0 : Mem} (Q : QE E 0 0 none (RQv r0)) : J E 3 0 0 r0 (X8_ramp n σ) σ 0 [(0, .ref (eAd E 20))] [] := by
  have hB23 : ∀ (σ : Mem), J E 3 0 0 r0 (X8_ramp_b23 n σ) σ 23 [(0, .ref (eAd E 20))] [] := by
    intro σ
    unfold X8_ramp_b23
    refine j_aload_n C dX8_ramp_23 0 rfl ?_
    refine j_get (ci := 8) C hU_X8 rfl (xin F (by decide)) (xe_20 F _ _) 1 (by decide) rfl hF_X8_47 dX8_ramp_24 ?_
    refine j_aload_n C dX8_ramp_27 0 rfl ?_
    refine j_get (ci := 8) C hU_X8 rfl (xin F (by decide)) (xe_20 F _ _) 6 (by decide) rfl hF_X8_19 dX8_ramp_28 ?_
    refine j_iconst C (1 : Int32) dX8_ramp_31 (by decide) ?_
    refine j_bind (fun r2 h1 => ?_)
    refine j_callVi (ci := 6) C [.int (σ.1 20 6), .int (1 : Int32)] (c_X6_cell F h1) hM_X8_93 hI_X6_cell hS_X6_cell hZ_X6 hC_X6_cell (xin F (by decide)) (xe_4 F _ _) rfl rfl dd_X6_cell (by decide) ⟨rfl, rfl⟩ (by decide) (Nat.le_of_ble_eq_true rfl) dX8_ramp_32 rfl ?_
    refine j_istore_n (lv' := [(1, .int r2), (0, .ref (eAd E 20))]) C dX8_ramp_35 (by decide) rfl ?_
    refine j_iload_n C dX8_ramp_36 0 rfl ?_
    refine j_if_le C 107 dX8_ramp_37 (by decide) ?_ ?_
    · exact j_vret2 C Q dX8_ramp_107
    · refine j_aload_n C dX8_ramp_40 1 rfl ?_
      refine j_get (ci := 8) C hU_X8 rfl (xin F (by decide)) (xe_20 F _ _) 9 (by decide) rfl hF_X8_28 dX8_ramp_41 ?_
      refine j_iconst C (1 : Int32) dX8_ramp_44 (by decide) ?_
      refine j_iadd C dX8_ramp_45 ?_
      refine j_nmi (fun x3 => ?_)
      refine j_istore_n (lv' := [(2, .int x3), (1, .int r2), (0, .ref (eAd E 20))]) C dX8_ramp_46 (by decide) rfl ?_
      refine j_aload_n C dX8_ramp_47 2 rfl ?_
      refine j_aload_n C dX8_ramp_48 2 rfl ?_
      refine j_get (ci := 8) C hU_X8 rfl (xin F (by decide)) (xe_20 F _ _) 12 (by decide) rfl hF_X8_37 dX8_ramp_49 ?_
      refine j_iload_n C dX8_ramp_52 0 rfl ?_
      refine j_aload_n C dX8_ramp_53 2 rfl ?_
      refine j_get (ci := 8) C hU_X8 rfl (xin F (by decide)) (xe_20 F _ _) 1 (by decide) rfl hF_X8_47 dX8_ramp_54 ?_
      refine j_aload_n C dX8_ramp_57 2 rfl ?_
      refine j_get (ci := 8) C hU_X8 rfl (xin F (by decide)) (xe_20 F _ _) 6 (by decide) rfl hF_X8_19 dX8_ramp_58 ?_
      refine j_iconst C (2 : Int32) dX8_ramp_61 (by decide) ?_
      refine j_bind (fun r5 h4 => ?_)
      refine j_callVi (ci := 6) C [.int (σ.1 20 6), .int (2 : Int32)] (c_X6_cell F h4) hM_X8_93 hI_X6_cell hS_X6_cell hZ_X6 hC_X6_cell (xin F (by decide)) (xe_4 F _ _) rfl rfl dd_X6_cell (by decide) ⟨rfl, rfl⟩ (by decide) (Nat.le_of_ble_eq_true rfl) dX8_ramp_62 rfl ?_
      refine j_aload_n C dX8_ramp_65 2 rfl ?_
      refine j_get (ci := 8) C hU_X8 rfl (xin F (by decide)) (xe_20 F _ _) 12 (by decide) rfl hF_X8_37 dX8_ramp_66 ?_
      refine j_isub C dX8_ramp_69 ?_
      refine j_imul C dX8_ramp_70 ?_
      refine j_iload_n C dX8_ramp_71 1 rfl ?_
      refine j_chk (fun h6 => ?_)
      refine j_idivK C dX8_ramp_72 (nz_ne h6) ?_
      refine j_iadd C dX8_ramp_73 ?_
      refine j_put (ci := 8) C hU_X8 tyX8_ok nmX8 rfl (xin F (by decide)) (xe_20 F _ _) 10 (by decide) (Nat.le_of_ble_eq_true rfl) (by rw [wI_o, wI_2]; exact (xe_20 F _ _)) (fun o' h' => ⟨wI_ne _ _ _ h', rfl⟩) rfl (by first | rfl | decide) (by first | rfl | decide) hF_X8_31 dX8_ramp_74 (fun σ7 => ?_)
      refine j_aload_n C dX8_ramp_77 2 rfl ?_
      refine j_aload_n C dX8_ramp_78 2 rfl ?_
      refine j_get (ci := 8) C hU_X8 rfl (xin F (by decide)) (xe_20 F _ _) 13 (by decide) rfl hF_X8_40 dX8_ramp_79 ?_
      refine j_iload_n C dX8_ramp_82 0 rfl ?_
      refine j_aload_n C dX8_ramp_83 2 rfl ?_
      refine j_get (ci := 8) C hU_X8 rfl (xin F (by decide)) (xe_20 F _ _) 1 (by decide) rfl hF_X8_47 dX8_ramp_84 ?_
      refine j_aload_n C dX8_ramp_87 2 rfl ?_
      refine j_get (ci := 8) C hU_X8 rfl (xin F (by decide)) (xe_20 F _ _) 6 (by decide) rfl hF_X8_19 dX8_ramp_88 ?_
      refine j_iconst C (3 : Int32) dX8_ramp_91 (by decide) ?_
      refine j_bind (fun r9 h8 => ?_)
      refine j_callVi (ci := 6) C [.int (σ7.1 20 6), .int (3 : Int32)] (c_X6_cell F h8) hM_X8_93 hI_X6_cell hS_X6_cell hZ_X6 hC_X6_cell (xin F (by decide)) (xe_4 F _ _) rfl rfl dd_X6_cell (by decide) ⟨rfl, rfl⟩ (by decide) (Nat.le_of_ble_eq_true rfl) dX8_ramp_92 rfl ?_
      refine j_aload_n C dX8_ramp_95 2 rfl ?_
      refine j_get (ci := 8) C hU_X8 rfl (xin F (by decide)) (xe_20 F _ _) 13 (by decide) rfl hF_X8_40 dX8_ramp_96 ?_
      refine j_isub C dX8_ramp_99 ?_
      refine j_imul C dX8_ramp_100 ?_
      refine j_iload_n C dX8_ramp_101 1 rfl ?_
      refine j_chk (fun h10 => ?_)
      refine j_idivK C dX8_ramp_102 (nz_ne h10) ?_
      refine j_iadd C dX8_ramp_103 ?_
      refine j_put (ci := 8) C hU_X8 tyX8_ok nmX8 rfl (xin F (by decide)) (xe_20 F _ _) 11 (by decide) (Nat.le_of_ble_eq_true rfl) (by rw [wI_o, wI_2]; exact (xe_20 F _ _)) (fun o' h' => ⟨wI_ne _ _ _ h', rfl⟩) rfl (by first | rfl | decide) (by first | rfl | decide) hF_X8_34 dX8_ramp_104 (fun σ11 => ?_)
      exact j_vret2 C Q dX8_ramp_107
  unfold X8_ramp
  refine j_aload_n C dX8_ramp_0 0 rfl ?_
  refine j_get (ci := 8) C hU_X8 rfl (xin F (by decide)) (xe_20 F _ _) 9 (by decide) rfl hF_X8_28 dX8_ramp_1 ?_
  refine j_if_ne C 23 dX8_ramp_4 (by decide) ?_ ?_
  · refine j_lv [(0, .ref (eAd E 20))] [0] rfl ?_
    exact hB23 σ
  · refine j_aload_n C dX8_ramp_7 0 rfl ?_
    refine j_aload_n C dX8_ramp_8 0 rfl ?_
    refine j_get (ci := 8) C hU_X8 rfl (xin F (by decide)) (xe_20 F _ _) 10 (by decide) rfl hF_X8_31 dX8_ramp_9 ?_
    refine j_put (ci := 8) C hU_X8 tyX8_ok nmX8 rfl (xin F (by decide)) (xe_20 F _ _) 12 (by decide) (Nat.le_of_ble_eq_true rfl) (by rw [wI_o, wI_2]; exact (xe_20 F _ _)) (fun o' h' => ⟨wI_ne _ _ _ h', rfl⟩) rfl (by first | rfl | decide) (by first | rfl | decide) hF_X8_37 dX8_ramp_12 (fun σ1 => ?_)
    refine j_aload_n C dX8_ramp_15 0 rfl ?_
    refine j_aload_n C dX8_ramp_16 0 rfl ?_
    refine j_get (ci := 8) C hU_X8 rfl (xin F (by decide)) (xe_20 F _ _) 11 (by decide) rfl hF_X8_34 dX8_ramp_17 ?_
    refine j_put (ci := 8) C hU_X8 tyX8_ok nmX8 rfl (xin F (by decide)) (xe_20 F _ _) 13 (by decide) (Nat.le_of_ble_eq_true rfl) (by rw [wI_o, wI_2]; exact (xe_20 F _ _)) (fun o' h' => ⟨wI_ne _ _ _ h', rfl⟩) rfl (by first | rfl | decide) (by first | rfl | decide) hF_X8_40 dX8_ramp_20 (fun σ2 => ?_)
    refine j_lv [(0, .ref (eAd E 20))] [0] rfl ?_
    exact hB23 σ2
set_option maxRecDepth 100000 in
set_option maxHeartbeats 4000000 in
theorem c_X8_ramp {E : EnvT} {n : Nat} {cs : Nat → ClassId} (F : XF E n cs) {σ : Mem} {r : Mem} (h : X8_ramp n σ = some r) : CT E yX8_ramp cX8_ramp 3 none rm_X8_ramp [.ref (eAd E 20)] σ (RQv r) :=
  ct_X F (by decide) (Nat.le_of_ble_eq_true rfl) (fun E' ea F' C Q => by rw [← ea]; exact m_X8_ramp F'  C Q h)
theorem dd_X8_ramp : yX8_ramp.cls ≠ "java/lang/invoke/MethodHandle" ∧ yX8_ramp.cls ≠ "java/lang/invoke/VarHandle" ∧ (parseMethodDescriptor yX8_ramp.desc).map (fun d => d.parameters.length) = some 0 := by decide +kernel
def X8_isWaitOver_b89 (n : Nat) (σ : Mem) : Option (Int32 × Mem) :=
  bindo (X6_cell n σ (σ.1 20 6) (3 : Int32)) (fun r2 =>
  if (σ.1 20 9) < r2 then
  (lete (wI σ 20 9 ((σ.1 20 9) + (1 : Int32))) (fun σ3 =>
  some ((0 : Int32), σ3)))
  else
  (bindo (X8_halt n σ (2 : Int32)) (fun σ5 =>
  some ((0 : Int32), σ5))))
def X8_isWaitOver (n : Nat) (σ : Mem) : Option (Int32 × Mem) :=
  bindo (X6_cell n σ (σ.1 20 6) (1 : Int32)) (fun r2 =>
  bindo (X2_find n σ r2) (fun r4 =>
  caseo r4 (bindo (X8_halt n σ (2 : Int32)) (fun σ8 =>
  some ((0 : Int32), σ8)))
  (fun a5 => chk (isCh n a5) (bindo (X1_latestAt n a5 σ (σ.1 1 3)) (fun r10 =>
  bindo (X2_value n σ a5 r10) (fun r12 =>
  if (lg_cmp r12 (-9223372036854775808 : Int64)) = (0 : Int32) then
  (X8_isWaitOver_b89 n σ)
  else
  (bindo (X6_cell n σ (σ.1 20 6) (2 : Int32)) (fun r14 =>
  if (lg_cmp r12 (r14.toInt64)) < (0 : Int32) then
  (X8_isWaitOver_b89 n σ)
  else
  (bindo (X8_comeTo n σ ((σ.1 20 6) + (1 : Int32))) (fun σ16 =>
  some ((1 : Int32), σ16)))))))))))
abbrev rm_X8_isWaitOver : Room := { frames := 3, cells := 0, slots := 0, locals := 72 }
set_option maxRecDepth 100000 in
set_option maxHeartbeats 4000000 in
theorem m_X8_isWaitOver {E : EnvT} {n : Nat} {cs : Nat → ClassId} (F : XF E n cs) {σ : Mem} (C : CX E cX8_isWaitOver RX8 4 rm_X8_isWaitOver) {r0 : Int32 × Mem} (Q : QE E 0 0 (some .boolean) (RQi r0.1 r0.2)) : J E 4 0 0 r0 (X8_isWaitOver n σ) σ 0 [(0, .ref (eAd E 20))] [] := by
  have hB89 : ∀ (σ : Mem), J E 4 0 0 r0 (X8_isWaitOver_b89 n σ) σ 89 [(0, .ref (eAd E 20))] [] := by
    intro σ
    unfold X8_isWaitOver_b89
    refine j_aload_n C dX8_isWaitOver_89 0 rfl ?_
    refine j_get (ci := 8) C hU_X8 rfl (xin F (by decide)) (xe_20 F _ _) 9 (by decide) rfl hF_X8_28 dX8_isWaitOver_90 ?_
    refine j_aload_n C dX8_isWaitOver_93 0 rfl ?_
    refine j_get (ci := 8) C hU_X8 rfl (xin F (by decide)) (xe_20 F _ _) 1 (by decide) rfl hF_X8_47 dX8_isWaitOver_94 ?_
    refine j_aload_n C dX8_isWaitOver_97 0 rfl ?_
    refine j_get (ci := 8) C hU_X8 rfl (xin F (by decide)) (xe_20 F _ _) 6 (by decide) rfl hF_X8_19 dX8_isWaitOver_98 ?_
    refine j_iconst C (3 : Int32) dX8_isWaitOver_101 (by decide) ?_
    refine j_bind (fun r2 h1 => ?_)
    refine j_callVi (ci := 6) C [.int (σ.1 20 6), .int (3 : Int32)] (c_X6_cell F h1) hM_X8_93 hI_X6_cell hS_X6_cell hZ_X6 hC_X6_cell (xin F (by decide)) (xe_4 F _ _) rfl rfl dd_X6_cell (by decide) ⟨rfl, rfl⟩ (by decide) (Nat.le_of_ble_eq_true rfl) dX8_isWaitOver_102 rfl ?_
    refine j_icmp_lt C 116 dX8_isWaitOver_105 (by decide) ?_ ?_
    · refine j_aload_n C dX8_isWaitOver_116 0 rfl ?_
      refine j_dup C dX8_isWaitOver_117 rfl ?_
      refine j_get (ci := 8) C hU_X8 rfl (xin F (by decide)) (xe_20 F _ _) 9 (by decide) rfl hF_X8_28 dX8_isWaitOver_118 ?_
      refine j_iconst C (1 : Int32) dX8_isWaitOver_121 (by decide) ?_
      refine j_iadd C dX8_isWaitOver_122 ?_
      refine j_put (ci := 8) C hU_X8 tyX8_ok nmX8 rfl (xin F (by decide)) (xe_20 F _ _) 9 (by decide) (Nat.le_of_ble_eq_true rfl) (by rw [wI_o, wI_2]; exact (xe_20 F _ _)) (fun o' h' => ⟨wI_ne _ _ _ h', rfl⟩) rfl (by first | rfl | decide) (by first | rfl | decide) hF_X8_28 dX8_isWaitOver_123 (fun σ3 => ?_)
      refine j_iconst C (0 : Int32) dX8_isWaitOver_126 (by decide) ?_
      exact j_iretz2 C rfl Q dX8_isWaitOver_127
    · refine j_aload_n C dX8_isWaitOver_108 0 rfl ?_
      refine j_iconst C (2 : Int32) dX8_isWaitOver_109 (by decide) ?_
      refine j_bind (fun σ5 h4 => ?_)
      refine j_callVv (ci := 8) C [.int (2 : Int32)] (c_X8_halt F h4) hM_X8_85 hI_X8_halt hS_X8_halt hZ_X8 hC_X8_halt (xin F (by decide)) (xe_20 F _ _) rfl rfl dd_X8_halt (by decide) ⟨rfl, rfl⟩ (by decide) (Nat.le_of_ble_eq_true rfl) dX8_isWaitOver_110 rfl ?_
      refine j_goto C 126 dX8_isWaitOver_113 (by decide) ?_
      refine j_iconst C (0 : Int32) dX8_isWaitOver_126 (by decide) ?_
      exact j_iretz2 C rfl Q dX8_isWaitOver_127
  unfold X8_isWaitOver
  refine j_aload_n C dX8_isWaitOver_0 0 rfl ?_
  refine j_get (ci := 8) C hU_X8 rfl (xin F (by decide)) (xe_20 F _ _) 2 (by decide) rfl hF_X8_51 dX8_isWaitOver_1 ?_
  refine j_aload_n C dX8_isWaitOver_4 0 rfl ?_
  refine j_get (ci := 8) C hU_X8 rfl (xin F (by decide)) (xe_20 F _ _) 1 (by decide) rfl hF_X8_47 dX8_isWaitOver_5 ?_
  refine j_aload_n C dX8_isWaitOver_8 0 rfl ?_
  refine j_get (ci := 8) C hU_X8 rfl (xin F (by decide)) (xe_20 F _ _) 6 (by decide) rfl hF_X8_19 dX8_isWaitOver_9 ?_
  refine j_iconst C (1 : Int32) dX8_isWaitOver_12 (by decide) ?_
  refine j_bind (fun r2 h1 => ?_)
  refine j_callVi (ci := 6) C [.int (σ.1 20 6), .int (1 : Int32)] (c_X6_cell F h1) hM_X8_93 hI_X6_cell hS_X6_cell hZ_X6 hC_X6_cell (xin F (by decide)) (xe_4 F _ _) rfl rfl dd_X6_cell (by decide) ⟨rfl, rfl⟩ (by decide) (Nat.le_of_ble_eq_true rfl) dX8_isWaitOver_13 rfl ?_
  refine j_bind (fun r4 h3 => ?_)
  refine j_callVq (ci := 2) C [.int r2] (c_X2_find F h3) hM_X8_115 hI_X2_find hS_X2_find hZ_X2 hC_X2_find (xin F (by decide)) (xe_6 F _ _) rfl rfl dd_X2_find (by decide) ⟨rfl, rfl⟩ (by decide) (Nat.le_of_ble_eq_true rfl) dX8_isWaitOver_16 rfl ?_
  refine j_astoreq_n (lv' := [(1, va_rf (Option.map (eAd E) r4)), (0, .ref (eAd E 20))]) C dX8_isWaitOver_19 (by decide) rfl ?_
  refine j_aloadq_n C dX8_isWaitOver_20 0 rfl ?_
  refine j_ifnonnull C 31 dX8_isWaitOver_21 (by decide) (fun e => ?_) (fun a5 e => ?_)
  · refine j_lv [(0, .ref (eAd E 20))] [1] rfl ?_
    refine j_aload_n C dX8_isWaitOver_24 0 rfl ?_
    refine j_iconst C (2 : Int32) dX8_isWaitOver_25 (by decide) ?_
    refine j_bind (fun σ8 h7 => ?_)
    refine j_callVv (ci := 8) C [.int (2 : Int32)] (c_X8_halt F h7) hM_X8_85 hI_X8_halt hS_X8_halt hZ_X8 hC_X8_halt (xin F (by decide)) (xe_20 F _ _) rfl rfl dd_X8_halt (by decide) ⟨rfl, rfl⟩ (by decide) (Nat.le_of_ble_eq_true rfl) dX8_isWaitOver_26 rfl ?_
    refine j_iconst C (0 : Int32) dX8_isWaitOver_29 (by decide) ?_
    exact j_iretz2 C rfl Q dX8_isWaitOver_30
  · subst e
    refine j_chk (fun h6 => ?_)
    refine j_aload_n C dX8_isWaitOver_31 1 rfl ?_
    refine j_get (ci := 8) C hU_X8 rfl (xin F (by decide)) (xe_20 F _ _) 2 (by decide) rfl hF_X8_51 dX8_isWaitOver_32 ?_
    refine j_aload_n C dX8_isWaitOver_35 0 rfl ?_
    refine j_aload_n C dX8_isWaitOver_36 0 rfl ?_
    refine j_aload_n C dX8_isWaitOver_37 1 rfl ?_
    refine j_get (ci := 8) C hU_X8 rfl (xin F (by decide)) (xe_20 F _ _) 0 (by decide) rfl hF_X8_43 dX8_isWaitOver_38 ?_
    refine j_get (ci := 3) C hU_X3 rfl (xin F (by decide)) (xe_1 F _ _) 3 (by decide) rfl hF_X8_76 dX8_isWaitOver_41 ?_
    refine j_bind (fun r10 h9 => ?_)
    refine j_callVi (ci := 1) C [.int (σ.1 1 3)] (c_X1_latestAt F h6 h9) hM_X8_119 hI_X1_latestAt hS_X1_latestAt hZ_X1 hC_X1_latestAt (xin_Ch F h6) (xe_Ch F h6 _ _) rfl rfl dd_X1_latestAt (by decide) ⟨rfl, rfl⟩ (by decide) (Nat.le_of_ble_eq_true rfl) dX8_isWaitOver_44 rfl ?_
    refine j_bind (fun r12 h11 => ?_)
    refine j_callVl (ci := 2) C [.ref (eAd E a5), .int r10] (c_X2_value F h6 h11) hM_X8_124 hI_X2_value hS_X2_value hZ_X2 hC_X2_value (xin F (by decide)) (xe_6 F _ _) rfl rfl dd_X2_value (by decide) ⟨rfl, rfl⟩ (by decide) (Nat.le_of_ble_eq_true rfl) dX8_isWaitOver_47 rfl ?_
    refine j_lstore_n (lv' := [(2, .long r12), (1, .ref (eAd E a5)), (0, .ref (eAd E 20))]) C dX8_isWaitOver_50 (by decide) rfl ?_
    refine j_lload_n C dX8_isWaitOver_51 0 rfl ?_
    refine j_ldc2 C hK_X8_128 dX8_isWaitOver_52 ?_
    refine j_lcmp C dX8_isWaitOver_55 ?_
    refine j_if_eq C 89 dX8_isWaitOver_56 (by decide) ?_ ?_
    · refine j_lv [(0, .ref (eAd E 20))] [2] rfl ?_
      exact hB89 σ
    · refine j_lload_n C dX8_isWaitOver_59 0 rfl ?_
      refine j_aload_n C dX8_isWaitOver_60 2 rfl ?_
      refine j_get (ci := 8) C hU_X8 rfl (xin F (by decide)) (xe_20 F _ _) 1 (by decide) rfl hF_X8_47 dX8_isWaitOver_61 ?_
      refine j_aload_n C dX8_isWaitOver_64 2 rfl ?_
      refine j_get (ci := 8) C hU_X8 rfl (xin F (by decide)) (xe_20 F _ _) 6 (by decide) rfl hF_X8_19 dX8_isWaitOver_65 ?_
      refine j_iconst C (2 : Int32) dX8_isWaitOver_68 (by decide) ?_
      refine j_bind (fun r14 h13 => ?_)
      refine j_callVi (ci := 6) C [.int (σ.1 20 6), .int (2 : Int32)] (c_X6_cell F h13) hM_X8_93 hI_X6_cell hS_X6_cell hZ_X6 hC_X6_cell (xin F (by decide)) (xe_4 F _ _) rfl rfl dd_X6_cell (by decide) ⟨rfl, rfl⟩ (by decide) (Nat.le_of_ble_eq_true rfl) dX8_isWaitOver_69 rfl ?_
      refine j_i2l C dX8_isWaitOver_72 ?_
      refine j_lcmp C dX8_isWaitOver_73 ?_
      refine j_if_lt C 89 dX8_isWaitOver_74 (by decide) ?_ ?_
      · refine j_lv [(0, .ref (eAd E 20))] [2] rfl ?_
        exact hB89 σ
      · refine j_aload_n C dX8_isWaitOver_77 2 rfl ?_
        refine j_aload_n C dX8_isWaitOver_78 2 rfl ?_
        refine j_get (ci := 8) C hU_X8 rfl (xin F (by decide)) (xe_20 F _ _) 6 (by decide) rfl hF_X8_19 dX8_isWaitOver_79 ?_
        refine j_iconst C (1 : Int32) dX8_isWaitOver_82 (by decide) ?_
        refine j_iadd C dX8_isWaitOver_83 ?_
        refine j_bind (fun σ16 h15 => ?_)
        refine j_callVv (ci := 8) C [.int ((σ.1 20 6) + (1 : Int32))] (c_X8_comeTo F h15) hM_X8_59 hI_X8_comeTo hS_X8_comeTo hZ_X8 hC_X8_comeTo (xin F (by decide)) (xe_20 F _ _) rfl rfl dd_X8_comeTo (by decide) ⟨rfl, rfl⟩ (by decide) (Nat.le_of_ble_eq_true rfl) dX8_isWaitOver_84 rfl ?_
        refine j_iconst C (1 : Int32) dX8_isWaitOver_87 (by decide) ?_
        exact j_iretz2 C rfl Q dX8_isWaitOver_88
set_option maxRecDepth 100000 in
set_option maxHeartbeats 4000000 in
theorem c_X8_isWaitOver {E : EnvT} {n : Nat} {cs : Nat → ClassId} (F : XF E n cs) {σ : Mem} {r : Int32 × Mem} (h : X8_isWaitOver n σ = some r) : CT E yX8_isWaitOver cX8_isWaitOver 4 (some .boolean) rm_X8_isWaitOver [.ref (eAd E 20)] σ (RQi r.1 r.2) :=
  ct_X F (by decide) (Nat.le_of_ble_eq_true rfl) (fun E' ea F' C Q => by rw [← ea]; exact m_X8_isWaitOver F'  C Q h)
theorem dd_X8_isWaitOver : yX8_isWaitOver.cls ≠ "java/lang/invoke/MethodHandle" ∧ yX8_isWaitOver.cls ≠ "java/lang/invoke/VarHandle" ∧ (parseMethodDescriptor yX8_isWaitOver.desc).map (fun d => d.parameters.length) = some 0 := by decide +kernel
def X8_loop (n : Nat) (σ : Mem) : Option (Mem) :=
  bindo (X11_within (σ.1 20 6) (0 : Int32) (29 : Int32)) (fun r2 =>
  if ¬ r2 = (0 : Int32) then
  (chk (inb (σ.1 20 6) 30) (
  bindo (X6_cell n σ (σ.1 20 6) (2 : Int32)) (fun r5 =>
  if r5 ≤ (σ.1 21 (ix (σ.1 20 6))) then
  (chk (inb (σ.1 20 6) 30) (
  lete (wI σ 21 (ix (σ.1 20 6)) (0 : Int32)) (fun σ7 =>
  bindo (X8_comeTo n σ7 ((σ7.1 20 6) + (1 : Int32))) (fun σ9 =>
  some σ9))))
  else
  (chk (inb (σ.1 20 6) 30) (
  chk (inb (σ.1 20 6) 30) (
  lete (wI σ 21 (ix (σ.1 20 6)) ((σ.1 21 (ix (σ.1 20 6))) + (1 : Int32))) (fun σ12 =>
  bindo (X6_cell n σ12 (σ12.1 20 6) (1 : Int32)) (fun r14 =>
  bindo (X8_comeTo n σ12 r14) (fun σ16 =>
  some σ16)))))))))
  else
  (some σ))
abbrev rm_X8_loop : Room := { frames := 2, cells := 0, slots := 0, locals := 44 }
set_option maxRecDepth 100000 in
set_option maxHeartbeats 4000000 in
theorem m_X8_loop {E : EnvT} {n : Nat} {cs : Nat → ClassId} (F : XF E n cs) {σ : Mem} (C : CX E cX8_loop RX8 1 rm_X8_loop) {r0 : Mem} (Q : QE E 0 0 none (RQv r0)) : J E 1 0 0 r0 (X8_loop n σ) σ 0 [(0, .ref (eAd E 20))] [] := by

  unfold X8_loop
  refine j_aload_n C dX8_loop_0 0 rfl ?_
  refine j_get (ci := 8) C hU_X8 rfl (xin F (by decide)) (xe_20 F _ _) 6 (by decide) rfl hF_X8_19 dX8_loop_1 ?_
  refine j_iconst C (0 : Int32) dX8_loop_4 (by decide) ?_
  refine j_bipush C (29 : Int32) dX8_loop_5 (by decide) ?_
  refine j_bind (fun r2 h1 => ?_)
  refine j_callNi C [.int (σ.1 20 6), .int (0 : Int32), .int (29 : Int32)] (c_X11_within F h1) nhN_X8_130 hT_X11_within hZ_X11 hC_X11_within dd_X11_within (by decide) ⟨rfl, rfl⟩ (by decide) (Nat.le_of_ble_eq_true rfl) dX8_loop_7 rfl ?_
  refine j_if_ne C 14 dX8_loop_10 (by decide) ?_ ?_
  · refine j_aload_n C dX8_loop_14 0 rfl ?_
    refine j_get (ci := 8) C hU_X8 rfl (xin F (by decide)) (xe_20 F _ _) 4 (by decide) rfl hF_X8_9 dX8_loop_15 ?_
    refine j_aload_n C dX8_loop_18 0 rfl ?_
    refine j_get (ci := 8) C hU_X8 rfl (xin F (by decide)) (xe_20 F _ _) 6 (by decide) rfl hF_X8_19 dX8_loop_19 ?_
    refine j_chk (fun h3 => ?_)
    refine j_iald (t0 := 0) C (xin F (by decide)) (xe_21 F _ _) (xt0 F) (inb_in h3) dX8_loop_22 ?_
    refine j_aload_n C dX8_loop_23 0 rfl ?_
    refine j_get (ci := 8) C hU_X8 rfl (xin F (by decide)) (xe_20 F _ _) 1 (by decide) rfl hF_X8_47 dX8_loop_24 ?_
    refine j_aload_n C dX8_loop_27 0 rfl ?_
    refine j_get (ci := 8) C hU_X8 rfl (xin F (by decide)) (xe_20 F _ _) 6 (by decide) rfl hF_X8_19 dX8_loop_28 ?_
    refine j_iconst C (2 : Int32) dX8_loop_31 (by decide) ?_
    refine j_bind (fun r5 h4 => ?_)
    refine j_callVi (ci := 6) C [.int (σ.1 20 6), .int (2 : Int32)] (c_X6_cell F h4) hM_X8_93 hI_X6_cell hS_X6_cell hZ_X6 hC_X6_cell (xin F (by decide)) (xe_4 F _ _) rfl rfl dd_X6_cell (by decide) ⟨rfl, rfl⟩ (by decide) (Nat.le_of_ble_eq_true rfl) dX8_loop_32 rfl ?_
    refine j_icmp_ge C 70 dX8_loop_35 (by decide) ?_ ?_
    · refine j_aload_n C dX8_loop_70 0 rfl ?_
      refine j_get (ci := 8) C hU_X8 rfl (xin F (by decide)) (xe_20 F _ _) 4 (by decide) rfl hF_X8_9 dX8_loop_71 ?_
      refine j_aload_n C dX8_loop_74 0 rfl ?_
      refine j_get (ci := 8) C hU_X8 rfl (xin F (by decide)) (xe_20 F _ _) 6 (by decide) rfl hF_X8_19 dX8_loop_75 ?_
      refine j_iconst C (0 : Int32) dX8_loop_78 (by decide) ?_
      refine j_chk (fun h6 => ?_)
      refine j_iast (t0 := 0) C (xin F (by decide)) (xe_21 F _ _) (by rw [wI_o, wI_2]; exact (xe_21 F _ _)) (xt0 F) (inb_in h6) dX8_loop_79 (fun σ7 => ?_)
      refine j_aload_n C dX8_loop_80 0 rfl ?_
      refine j_aload_n C dX8_loop_81 0 rfl ?_
      refine j_get (ci := 8) C hU_X8 rfl (xin F (by decide)) (xe_20 F _ _) 6 (by decide) rfl hF_X8_19 dX8_loop_82 ?_
      refine j_iconst C (1 : Int32) dX8_loop_85 (by decide) ?_
      refine j_iadd C dX8_loop_86 ?_
      refine j_bind (fun σ9 h8 => ?_)
      refine j_callVv (ci := 8) C [.int ((σ7.1 20 6) + (1 : Int32))] (c_X8_comeTo F h8) hM_X8_59 hI_X8_comeTo hS_X8_comeTo hZ_X8 hC_X8_comeTo (xin F (by decide)) (xe_20 F _ _) rfl rfl dd_X8_comeTo (by decide) ⟨rfl, rfl⟩ (by decide) (Nat.le_of_ble_eq_true rfl) dX8_loop_87 rfl ?_
      exact j_vret2 C Q dX8_loop_90
    · refine j_aload_n C dX8_loop_38 0 rfl ?_
      refine j_get (ci := 8) C hU_X8 rfl (xin F (by decide)) (xe_20 F _ _) 4 (by decide) rfl hF_X8_9 dX8_loop_39 ?_
      refine j_aload_n C dX8_loop_42 0 rfl ?_
      refine j_get (ci := 8) C hU_X8 rfl (xin F (by decide)) (xe_20 F _ _) 6 (by decide) rfl hF_X8_19 dX8_loop_43 ?_
      refine j_dup2 C dX8_loop_46 rfl rfl ?_
      refine j_chk (fun h10 => ?_)
      refine j_iald (t0 := 0) C (xin F (by decide)) (xe_21 F _ _) (xt0 F) (inb_in h10) dX8_loop_47 ?_
      refine j_iconst C (1 : Int32) dX8_loop_48 (by decide) ?_
      refine j_iadd C dX8_loop_49 ?_
      refine j_chk (fun h11 => ?_)
      refine j_iast (t0 := 0) C (xin F (by decide)) (xe_21 F _ _) (by rw [wI_o, wI_2]; exact (xe_21 F _ _)) (xt0 F) (inb_in h11) dX8_loop_50 (fun σ12 => ?_)
      refine j_aload_n C dX8_loop_51 0 rfl ?_
      refine j_aload_n C dX8_loop_52 0 rfl ?_
      refine j_get (ci := 8) C hU_X8 rfl (xin F (by decide)) (xe_20 F _ _) 1 (by decide) rfl hF_X8_47 dX8_loop_53 ?_
      refine j_aload_n C dX8_loop_56 0 rfl ?_
      refine j_get (ci := 8) C hU_X8 rfl (xin F (by decide)) (xe_20 F _ _) 6 (by decide) rfl hF_X8_19 dX8_loop_57 ?_
      refine j_iconst C (1 : Int32) dX8_loop_60 (by decide) ?_
      refine j_bind (fun r14 h13 => ?_)
      refine j_callVi (ci := 6) C [.int (σ12.1 20 6), .int (1 : Int32)] (c_X6_cell F h13) hM_X8_93 hI_X6_cell hS_X6_cell hZ_X6 hC_X6_cell (xin F (by decide)) (xe_4 F _ _) rfl rfl dd_X6_cell (by decide) ⟨rfl, rfl⟩ (by decide) (Nat.le_of_ble_eq_true rfl) dX8_loop_61 rfl ?_
      refine j_bind (fun σ16 h15 => ?_)
      refine j_callVv (ci := 8) C [.int r14] (c_X8_comeTo F h15) hM_X8_59 hI_X8_comeTo hS_X8_comeTo hZ_X8 hC_X8_comeTo (xin F (by decide)) (xe_20 F _ _) rfl rfl dd_X8_comeTo (by decide) ⟨rfl, rfl⟩ (by decide) (Nat.le_of_ble_eq_true rfl) dX8_loop_64 rfl ?_
      refine j_goto C 90 dX8_loop_67 (by decide) ?_
      exact j_vret2 C Q dX8_loop_90
  · exact j_vret2 C Q dX8_loop_13
set_option maxRecDepth 100000 in
set_option maxHeartbeats 4000000 in
theorem c_X8_loop {E : EnvT} {n : Nat} {cs : Nat → ClassId} (F : XF E n cs) {σ : Mem} {r : Mem} (h : X8_loop n σ = some r) : CT E yX8_loop cX8_loop 1 none rm_X8_loop [.ref (eAd E 20)] σ (RQv r) :=
  ct_X F (by decide) (Nat.le_of_ble_eq_true rfl) (fun E' ea F' C Q => by rw [← ea]; exact m_X8_loop F'  C Q h)
theorem dd_X8_loop : yX8_loop.cls ≠ "java/lang/invoke/MethodHandle" ∧ yX8_loop.cls ≠ "java/lang/invoke/VarHandle" ∧ (parseMethodDescriptor yX8_loop.desc).map (fun d => d.parameters.length) = some 0 := by decide +kernel
def X8_goOn_b127 (n : Nat) (rec2 : (Mem × Int32) → Option (Mem)) (σ : Mem) (v1 : Int32) : Option (Mem) :=
  lete (v1 + (1 : Int32)) (fun x1 =>
  rec2 (σ, x1))
def X8_goOn_b153 (n : Nat) (σ : Mem) (s0 : Int32) : Option (Mem) :=
  bindo (X8_halt n σ s0) (fun σ2 =>
  some σ2)
def X8_goOn_l2 (n : Nat) (rec2 : (Mem × Int32) → Option (Mem)) (σ : Mem) (v1 : Int32) : Option (Mem) :=
  if (50 : Int32) ≤ v1 then
  (if (σ.1 4 1) ≤ (σ.1 20 6) then
  (X8_goOn_b153 n σ (0 : Int32))
  else
  (X8_goOn_b153 n σ (3 : Int32)))
  else
  (if (σ.1 20 6) < (σ.1 4 1) then
  (bindo (X6_cell n σ (σ.1 20 6) (0 : Int32)) (fun r2 =>
  if r2 = (0 : Int32) then
  (bindo (X8_spend n σ) (fun σ4 =>
  some σ4))
  else
  if r2 = (1 : Int32) then
  (bindo (X8_ramp n σ) (fun σ6 =>
  bindo (X8_spend n σ6) (fun σ8 =>
  some σ8)))
  else
  if r2 = (2 : Int32) then
  (bindo (X8_isWaitOver n σ) (fun a10 =>
  if ¬ a10.1 = (0 : Int32) then
  (X8_goOn_b127 n rec2 (a10.2) v1)
  else
  (some (a10.2))))
  else
  if r2 = (3 : Int32) then
  (bindo (X8_loop n σ) (fun σ12 =>
  X8_goOn_b127 n rec2 σ12 v1))
  else
  (bindo (X5_add n σ ((σ.1 1 3) + (1 : Int32))) (fun σ14 =>
  bindo (X8_comeTo n σ14 ((σ14.1 20 6) + (1 : Int32))) (fun σ16 =>
  X8_goOn_b127 n rec2 σ16 v1)))))
  else
  (bindo (X8_halt n σ (0 : Int32)) (fun σ18 =>
  some σ18)))
def X8_goOn (n : Nat) (σ : Mem) : Option (Mem) :=
  loopF (fun (rec : (Mem × Int32) → Option (Mem)) (s : Mem × Int32) => X8_goOn_l2 n rec s.1 s.2)  FU (σ, (0 : Int32))
abbrev rm_X8_goOn : Room := { frames := 4, cells := 0, slots := 0, locals := 95 }
set_option maxRecDepth 100000 in
set_option maxHeartbeats 4000000 in
theorem m_X8_goOn {E : EnvT} {n : Nat} {cs : Nat → ClassId} (F : XF E n cs) {σ : Mem} (C : CX E cX8_goOn RX8 2 rm_X8_goOn) {r0 : Mem} (Q : QE E 0 0 none (RQv r0)) : J E 2 0 0 r0 (X8_goOn n σ) σ 0 [(0, .ref (eAd E 20))] [] := by
  have hB127 : ∀ (rec2 : (Mem × Int32) → Option (Mem)) (hrec2 : ∀ a : Mem × Int32, J E 2 0 0 r0 (rec2 a) a.1 2 [(0, .ref (eAd E 20)), (1, .int a.2)] []) (σ : Mem) (v1 : Int32), J E 2 0 0 r0 (X8_goOn_b127 n rec2 σ v1) σ 127 [(0, .ref (eAd E 20)), (1, .int v1)] [] := by
    intro rec2 hrec2 σ v1
    unfold X8_goOn_b127
    refine j_iincN (lf := fun x1 => [(1, .int x1), (0, .ref (eAd E 20))]) C dX8_goOn_127 1 rfl (by rfl) (by decide) (fun _ => rfl) (fun x1 => ?_)
    refine j_goto C 2 dX8_goOn_130 (by decide) ?_
    refine j_lv [(0, .ref (eAd E 20)), (1, .int x1)] [1, 0] rfl ?_
    exact hrec2 (σ, x1)
  have hB153 : ∀ (σ : Mem) (s0 : Int32), J E 2 0 0 r0 (X8_goOn_b153 n σ s0) σ 153 [] [.int s0, .ref (eAd E 20)] := by
    intro σ s0
    unfold X8_goOn_b153
    refine j_bind (fun σ2 h1 => ?_)
    refine j_callVv (ci := 8) C [.int s0] (c_X8_halt F h1) hM_X8_85 hI_X8_halt hS_X8_halt hZ_X8 hC_X8_halt (xin F (by decide)) (xe_20 F _ _) rfl rfl dd_X8_halt (by decide) ⟨rfl, rfl⟩ (by decide) (Nat.le_of_ble_eq_true rfl) dX8_goOn_153 rfl ?_
    exact j_vret2 C Q dX8_goOn_156
  have hL2 : ∀ (f : Nat) (a : Mem × Int32), J E 2 0 0 r0 (loopF (fun (rec : (Mem × Int32) → Option (Mem)) (s : Mem × Int32) => X8_goOn_l2 n rec s.1 s.2) f a) a.1 2 [(0, .ref (eAd E 20)), (1, .int a.2)] [] := by
    refine j_loop (M := fun (a : Mem × Int32) => a.1) (L := fun (a : Mem × Int32) => [(0, .ref (eAd E 20)), (1, .int a.2)]) (S := fun (a : Mem × Int32) => []) (fun rec2 hrec2 a => ?_)
    obtain ⟨σ, v1⟩ := a
    show J E 2 0 0 r0 (X8_goOn_l2 n rec2 σ v1) σ 2 [(0, .ref (eAd E 20)), (1, .int v1)] []
    unfold X8_goOn_l2
    refine j_iload_n C dX8_goOn_2 1 rfl ?_
    refine j_bipush C (50 : Int32) dX8_goOn_3 (by decide) ?_
    refine j_icmp_ge C 133 dX8_goOn_5 (by decide) ?_ ?_
    · refine j_aload_n C dX8_goOn_133 0 rfl ?_
      refine j_aload_n C dX8_goOn_134 0 rfl ?_
      refine j_get (ci := 8) C hU_X8 rfl (xin F (by decide)) (xe_20 F _ _) 6 (by decide) rfl hF_X8_19 dX8_goOn_135 ?_
      refine j_aload_n C dX8_goOn_138 0 rfl ?_
      refine j_get (ci := 8) C hU_X8 rfl (xin F (by decide)) (xe_20 F _ _) 1 (by decide) rfl hF_X8_47 dX8_goOn_139 ?_
      refine j_get (ci := 6) C hU_X6 rfl (xin F (by decide)) (xe_4 F _ _) 1 (by decide) rfl hF_X8_88 dX8_goOn_142 ?_
      refine j_icmp_ge C 152 dX8_goOn_145 (by decide) ?_ ?_
      · refine j_iconst C (0 : Int32) dX8_goOn_152 (by decide) ?_
        refine j_lv [] [] rfl ?_
        exact hB153 σ (0 : Int32)
      · refine j_iconst C (3 : Int32) dX8_goOn_148 (by decide) ?_
        refine j_goto C 153 dX8_goOn_149 (by decide) ?_
        refine j_lv [] [] rfl ?_
        exact hB153 σ (3 : Int32)
    · refine j_aload_n C dX8_goOn_8 0 rfl ?_
      refine j_get (ci := 8) C hU_X8 rfl (xin F (by decide)) (xe_20 F _ _) 6 (by decide) rfl hF_X8_19 dX8_goOn_9 ?_
      refine j_aload_n C dX8_goOn_12 0 rfl ?_
      refine j_get (ci := 8) C hU_X8 rfl (xin F (by decide)) (xe_20 F _ _) 1 (by decide) rfl hF_X8_47 dX8_goOn_13 ?_
      refine j_get (ci := 6) C hU_X6 rfl (xin F (by decide)) (xe_4 F _ _) 1 (by decide) rfl hF_X8_88 dX8_goOn_16 ?_
      refine j_icmp_lt C 28 dX8_goOn_19 (by decide) ?_ ?_
      · refine j_aload_n C dX8_goOn_28 0 rfl ?_
        refine j_get (ci := 8) C hU_X8 rfl (xin F (by decide)) (xe_20 F _ _) 1 (by decide) rfl hF_X8_47 dX8_goOn_29 ?_
        refine j_aload_n C dX8_goOn_32 0 rfl ?_
        refine j_get (ci := 8) C hU_X8 rfl (xin F (by decide)) (xe_20 F _ _) 6 (by decide) rfl hF_X8_19 dX8_goOn_33 ?_
        refine j_iconst C (0 : Int32) dX8_goOn_36 (by decide) ?_
        refine j_bind (fun r2 h1 => ?_)
        refine j_callVi (ci := 6) C [.int (σ.1 20 6), .int (0 : Int32)] (c_X6_cell F h1) hM_X8_93 hI_X6_cell hS_X6_cell hZ_X6 hC_X6_cell (xin F (by decide)) (xe_4 F _ _) rfl rfl dd_X6_cell (by decide) ⟨rfl, rfl⟩ (by decide) (Nat.le_of_ble_eq_true rfl) dX8_goOn_37 rfl ?_
        refine j_ite (fun q0 => ?_) (fun q0 => ?_)
        · refine j_tsIn C (0 : Int32) 72 dX8_goOn_40 q0 (by decide) (by decide) rfl (by decide) ?_
          refine j_aload_n C dX8_goOn_72 0 rfl ?_
          refine j_bind (fun σ4 h3 => ?_)
          refine j_callVv (ci := 8) C [] (c_X8_spend F h3) hM_X8_97 hI_X8_spend hS_X8_spend hZ_X8 hC_X8_spend (xin F (by decide)) (xe_20 F _ _) rfl rfl dd_X8_spend (by decide) ⟨rfl, rfl⟩ (by decide) (Nat.le_of_ble_eq_true rfl) dX8_goOn_73 rfl ?_
          exact j_vret2 C Q dX8_goOn_76
        refine j_ite (fun q1 => ?_) (fun q1 => ?_)
        · refine j_tsIn C (1 : Int32) 77 dX8_goOn_40 q1 (by decide) (by decide) rfl (by decide) ?_
          refine j_aload_n C dX8_goOn_77 0 rfl ?_
          refine j_bind (fun σ6 h5 => ?_)
          refine j_callVv (ci := 8) C [] (c_X8_ramp F h5) hM_X8_100 hI_X8_ramp hS_X8_ramp hZ_X8 hC_X8_ramp (xin F (by decide)) (xe_20 F _ _) rfl rfl dd_X8_ramp (by decide) ⟨rfl, rfl⟩ (by decide) (Nat.le_of_ble_eq_true rfl) dX8_goOn_78 rfl ?_
          refine j_aload_n C dX8_goOn_81 0 rfl ?_
          refine j_bind (fun σ8 h7 => ?_)
          refine j_callVv (ci := 8) C [] (c_X8_spend F h7) hM_X8_97 hI_X8_spend hS_X8_spend hZ_X8 hC_X8_spend (xin F (by decide)) (xe_20 F _ _) rfl rfl dd_X8_spend (by decide) ⟨rfl, rfl⟩ (by decide) (Nat.le_of_ble_eq_true rfl) dX8_goOn_82 rfl ?_
          exact j_vret2 C Q dX8_goOn_85
        refine j_ite (fun q2 => ?_) (fun q2 => ?_)
        · refine j_tsIn C (2 : Int32) 86 dX8_goOn_40 q2 (by decide) (by decide) rfl (by decide) ?_
          refine j_aload_n C dX8_goOn_86 0 rfl ?_
          refine j_bind (fun a10 h9 => ?_)
          refine j_callVi (ci := 8) C [] (c_X8_isWaitOver F h9) hM_X8_103 hI_X8_isWaitOver hS_X8_isWaitOver hZ_X8 hC_X8_isWaitOver (xin F (by decide)) (xe_20 F _ _) rfl rfl dd_X8_isWaitOver (by decide) ⟨rfl, rfl⟩ (by decide) (Nat.le_of_ble_eq_true rfl) dX8_goOn_87 rfl ?_
          refine j_if_ne C 127 dX8_goOn_90 (by decide) ?_ ?_
          · refine j_lv [(0, .ref (eAd E 20)), (1, .int v1)] [0, 1] rfl ?_
            exact hB127 rec2 hrec2 (a10.2) v1
          · exact j_vret2 C Q dX8_goOn_93
        refine j_ite (fun q3 => ?_) (fun q3 => ?_)
        · refine j_tsIn C (3 : Int32) 94 dX8_goOn_40 q3 (by decide) (by decide) rfl (by decide) ?_
          refine j_aload_n C dX8_goOn_94 0 rfl ?_
          refine j_bind (fun σ12 h11 => ?_)
          refine j_callVv (ci := 8) C [] (c_X8_loop F h11) hM_X8_107 hI_X8_loop hS_X8_loop hZ_X8 hC_X8_loop (xin F (by decide)) (xe_20 F _ _) rfl rfl dd_X8_loop (by decide) ⟨rfl, rfl⟩ (by decide) (Nat.le_of_ble_eq_true rfl) dX8_goOn_95 rfl ?_
          refine j_goto C 127 dX8_goOn_98 (by decide) ?_
          refine j_lv [(0, .ref (eAd E 20)), (1, .int v1)] [0, 1] rfl ?_
          exact hB127 rec2 hrec2 σ12 v1
        refine j_tsOut C 101 dX8_goOn_40 (by have z0 := lv_neT (k := (0 : Int32)) (a := 0) q0 (by decide); have z1 := lv_neT (k := (1 : Int32)) (a := 1) q1 (by decide); have z2 := lv_neT (k := (2 : Int32)) (a := 2) q2 (by decide); have z3 := lv_neT (k := (3 : Int32)) (a := 3) q3 (by decide); omega) (by decide) ?_
        refine j_aload_n C dX8_goOn_101 0 rfl ?_
        refine j_get (ci := 8) C hU_X8 rfl (xin F (by decide)) (xe_20 F _ _) 3 (by decide) rfl hF_X8_55 dX8_goOn_102 ?_
        refine j_aload_n C dX8_goOn_105 0 rfl ?_
        refine j_get (ci := 8) C hU_X8 rfl (xin F (by decide)) (xe_20 F _ _) 0 (by decide) rfl hF_X8_43 dX8_goOn_106 ?_
        refine j_get (ci := 3) C hU_X3 rfl (xin F (by decide)) (xe_1 F _ _) 3 (by decide) rfl hF_X8_76 dX8_goOn_109 ?_
        refine j_iconst C (1 : Int32) dX8_goOn_112 (by decide) ?_
        refine j_iadd C dX8_goOn_113 ?_
        refine j_bind (fun σ14 h13 => ?_)
        refine j_callVv (ci := 5) C [.int ((σ.1 1 3) + (1 : Int32))] (c_X5_add F h13) hM_X8_110 hI_X5_add hS_X5_add hZ_X5 hC_X5_add (xin F (by decide)) (xe_18 F _ _) rfl rfl dd_X5_add (by decide) ⟨rfl, rfl⟩ (by decide) (Nat.le_of_ble_eq_true rfl) dX8_goOn_114 rfl ?_
        refine j_aload_n C dX8_goOn_117 0 rfl ?_
        refine j_aload_n C dX8_goOn_118 0 rfl ?_
        refine j_get (ci := 8) C hU_X8 rfl (xin F (by decide)) (xe_20 F _ _) 6 (by decide) rfl hF_X8_19 dX8_goOn_119 ?_
        refine j_iconst C (1 : Int32) dX8_goOn_122 (by decide) ?_
        refine j_iadd C dX8_goOn_123 ?_
        refine j_bind (fun σ16 h15 => ?_)
        refine j_callVv (ci := 8) C [.int ((σ14.1 20 6) + (1 : Int32))] (c_X8_comeTo F h15) hM_X8_59 hI_X8_comeTo hS_X8_comeTo hZ_X8 hC_X8_comeTo (xin F (by decide)) (xe_20 F _ _) rfl rfl dd_X8_comeTo (by decide) ⟨rfl, rfl⟩ (by decide) (Nat.le_of_ble_eq_true rfl) dX8_goOn_124 rfl ?_
        refine j_lv [(0, .ref (eAd E 20)), (1, .int v1)] [0, 1] rfl ?_
        exact hB127 rec2 hrec2 σ16 v1
      · refine j_aload_n C dX8_goOn_22 0 rfl ?_
        refine j_iconst C (0 : Int32) dX8_goOn_23 (by decide) ?_
        refine j_bind (fun σ18 h17 => ?_)
        refine j_callVv (ci := 8) C [.int (0 : Int32)] (c_X8_halt F h17) hM_X8_85 hI_X8_halt hS_X8_halt hZ_X8 hC_X8_halt (xin F (by decide)) (xe_20 F _ _) rfl rfl dd_X8_halt (by decide) ⟨rfl, rfl⟩ (by decide) (Nat.le_of_ble_eq_true rfl) dX8_goOn_24 rfl ?_
        exact j_vret2 C Q dX8_goOn_27
  unfold X8_goOn
  refine j_iconst C (0 : Int32) dX8_goOn_0 (by decide) ?_
  refine j_istore_n (lv' := [(1, .int (0 : Int32)), (0, .ref (eAd E 20))]) C dX8_goOn_1 (by decide) rfl ?_
  refine j_lv [(0, .ref (eAd E 20)), (1, .int (0 : Int32))] [1, 0] rfl ?_
  exact hL2  FU (σ, (0 : Int32))
set_option maxRecDepth 100000 in
set_option maxHeartbeats 4000000 in
theorem c_X8_goOn {E : EnvT} {n : Nat} {cs : Nat → ClassId} (F : XF E n cs) {σ : Mem} {r : Mem} (h : X8_goOn n σ = some r) : CT E yX8_goOn cX8_goOn 2 none rm_X8_goOn [.ref (eAd E 20)] σ (RQv r) :=
  ct_X F (by decide) (Nat.le_of_ble_eq_true rfl) (fun E' ea F' C Q => by rw [← ea]; exact m_X8_goOn F'  C Q h)
theorem dd_X8_goOn : yX8_goOn.cls ≠ "java/lang/invoke/MethodHandle" ∧ yX8_goOn.cls ≠ "java/lang/invoke/VarHandle" ∧ (parseMethodDescriptor yX8_goOn.desc).map (fun d => d.parameters.length) = some 0 := by decide +kernel
def X8_oneTick_b37 (n : Nat) (σ : Mem) : Option (Mem) :=
  if ¬ (σ.1 20 5) = (2 : Int32) then
  (bindo (X3_advance n σ (σ.1 20 10) (σ.1 20 11)) (fun σ2 =>
  bindo (X2_isOneAbove n σ2 (σ2.1 1 3)) (fun r4 =>
  if r4 = (0 : Int32) then
  (some σ2)
  else
  (bindo (X8_halt n σ2 (1 : Int32)) (fun σ6 =>
  some σ6)))))
  else
  (bindo (X3_advance n σ (800 : Int32) (0 : Int32)) (fun σ8 =>
  lete (wI σ8 20 8 ((σ8.1 20 8) + (1 : Int32))) (fun σ9 =>
  if (10 : Int32) ≤ (σ9.1 20 8) then
  (lete (wI σ9 20 5 (3 : Int32)) (fun σ10 =>
  some σ10))
  else
  (lete (wI σ9 20 5 (2 : Int32)) (fun σ11 =>
  some σ11)))))
def X8_oneTick (n : Nat) (σ : Mem) : Option (Mem) :=
  bindo (X3_latest n σ (5 : Int32)) (fun r2 =>
  lete (wI σ 20 10 r2) (fun σ3 =>
  bindo (X3_latest n σ3 (6 : Int32)) (fun r5 =>
  lete (wI σ3 20 11 r5) (fun σ6 =>
  if ¬ (σ6.1 20 5) = (1 : Int32) then
  (X8_oneTick_b37 n σ6)
  else
  (bindo (X8_goOn n σ6) (fun σ8 =>
  X8_oneTick_b37 n σ8))))))
abbrev rm_X8_oneTick : Room := { frames := 5, cells := 0, slots := 0, locals := 116 }
set_option maxRecDepth 100000 in
set_option maxHeartbeats 4000000 in
theorem m_X8_oneTick {E : EnvT} {n : Nat} {cs : Nat → ClassId} (F : XF E n cs) {σ : Mem} (C : CX E cX8_oneTick RX8 1 rm_X8_oneTick) {r0 : Mem} (Q : QE E 0 0 none (RQv r0)) : J E 1 0 0 r0 (X8_oneTick n σ) σ 0 [(0, .ref (eAd E 20))] [] := by
  have hB37 : ∀ (σ : Mem), J E 1 0 0 r0 (X8_oneTick_b37 n σ) σ 37 [(0, .ref (eAd E 20))] [] := by
    intro σ
    unfold X8_oneTick_b37
    refine j_aload_n C dX8_oneTick_37 0 rfl ?_
    refine j_get (ci := 8) C hU_X8 rfl (xin F (by decide)) (xe_20 F _ _) 5 (by decide) rfl hF_X8_15 dX8_oneTick_38 ?_
    refine j_iconst C (2 : Int32) dX8_oneTick_41 (by decide) ?_
    refine j_icmp_ne C 87 dX8_oneTick_42 (by decide) ?_ ?_
    · refine j_aload_n C dX8_oneTick_87 0 rfl ?_
      refine j_get (ci := 8) C hU_X8 rfl (xin F (by decide)) (xe_20 F _ _) 0 (by decide) rfl hF_X8_43 dX8_oneTick_88 ?_
      refine j_aload_n C dX8_oneTick_91 0 rfl ?_
      refine j_get (ci := 8) C hU_X8 rfl (xin F (by decide)) (xe_20 F _ _) 10 (by decide) rfl hF_X8_31 dX8_oneTick_92 ?_
      refine j_aload_n C dX8_oneTick_95 0 rfl ?_
      refine j_get (ci := 8) C hU_X8 rfl (xin F (by decide)) (xe_20 F _ _) 11 (by decide) rfl hF_X8_34 dX8_oneTick_96 ?_
      refine j_bind (fun σ2 h1 => ?_)
      refine j_callVv (ci := 3) C [.int (σ.1 20 10), .int (σ.1 20 11)] (c_X3_advance F h1) hM_X8_72 hI_X3_advance hS_X3_advance hZ_X3 hC_X3_advance (xin F (by decide)) (xe_1 F _ _) rfl rfl dd_X3_advance (by decide) ⟨rfl, rfl⟩ (by decide) (Nat.le_of_ble_eq_true rfl) dX8_oneTick_99 rfl ?_
      refine j_aload_n C dX8_oneTick_102 0 rfl ?_
      refine j_get (ci := 8) C hU_X8 rfl (xin F (by decide)) (xe_20 F _ _) 2 (by decide) rfl hF_X8_51 dX8_oneTick_103 ?_
      refine j_aload_n C dX8_oneTick_106 0 rfl ?_
      refine j_get (ci := 8) C hU_X8 rfl (xin F (by decide)) (xe_20 F _ _) 0 (by decide) rfl hF_X8_43 dX8_oneTick_107 ?_
      refine j_get (ci := 3) C hU_X3 rfl (xin F (by decide)) (xe_1 F _ _) 3 (by decide) rfl hF_X8_76 dX8_oneTick_110 ?_
      refine j_bind (fun r4 h3 => ?_)
      refine j_callVi (ci := 2) C [.int (σ2.1 1 3)] (c_X2_isOneAbove F h3) hM_X8_79 hI_X2_isOneAbove hS_X2_isOneAbove hZ_X2 hC_X2_isOneAbove (xin F (by decide)) (xe_6 F _ _) rfl rfl dd_X2_isOneAbove (by decide) ⟨rfl, rfl⟩ (by decide) (Nat.le_of_ble_eq_true rfl) dX8_oneTick_113 rfl ?_
      refine j_if_eq C 124 dX8_oneTick_116 (by decide) ?_ ?_
      · exact j_vret2 C Q dX8_oneTick_124
      · refine j_aload_n C dX8_oneTick_119 0 rfl ?_
        refine j_iconst C (1 : Int32) dX8_oneTick_120 (by decide) ?_
        refine j_bind (fun σ6 h5 => ?_)
        refine j_callVv (ci := 8) C [.int (1 : Int32)] (c_X8_halt F h5) hM_X8_85 hI_X8_halt hS_X8_halt hZ_X8 hC_X8_halt (xin F (by decide)) (xe_20 F _ _) rfl rfl dd_X8_halt (by decide) ⟨rfl, rfl⟩ (by decide) (Nat.le_of_ble_eq_true rfl) dX8_oneTick_121 rfl ?_
        exact j_vret2 C Q dX8_oneTick_124
    · refine j_aload_n C dX8_oneTick_45 0 rfl ?_
      refine j_get (ci := 8) C hU_X8 rfl (xin F (by decide)) (xe_20 F _ _) 0 (by decide) rfl hF_X8_43 dX8_oneTick_46 ?_
      refine j_sipush C (800 : Int32) dX8_oneTick_49 (by decide) ?_
      refine j_iconst C (0 : Int32) dX8_oneTick_52 (by decide) ?_
      refine j_bind (fun σ8 h7 => ?_)
      refine j_callVv (ci := 3) C [.int (800 : Int32), .int (0 : Int32)] (c_X3_advance F h7) hM_X8_72 hI_X3_advance hS_X3_advance hZ_X3 hC_X3_advance (xin F (by decide)) (xe_1 F _ _) rfl rfl dd_X3_advance (by decide) ⟨rfl, rfl⟩ (by decide) (Nat.le_of_ble_eq_true rfl) dX8_oneTick_53 rfl ?_
      refine j_aload_n C dX8_oneTick_56 0 rfl ?_
      refine j_dup C dX8_oneTick_57 rfl ?_
      refine j_get (ci := 8) C hU_X8 rfl (xin F (by decide)) (xe_20 F _ _) 8 (by decide) rfl hF_X8_25 dX8_oneTick_58 ?_
      refine j_iconst C (1 : Int32) dX8_oneTick_61 (by decide) ?_
      refine j_iadd C dX8_oneTick_62 ?_
      refine j_put (ci := 8) C hU_X8 tyX8_ok nmX8 rfl (xin F (by decide)) (xe_20 F _ _) 8 (by decide) (Nat.le_of_ble_eq_true rfl) (by rw [wI_o, wI_2]; exact (xe_20 F _ _)) (fun o' h' => ⟨wI_ne _ _ _ h', rfl⟩) rfl (by first | rfl | decide) (by first | rfl | decide) hF_X8_25 dX8_oneTick_63 (fun σ9 => ?_)
      refine j_aload_n C dX8_oneTick_66 0 rfl ?_
      refine j_aload_n C dX8_oneTick_67 0 rfl ?_
      refine j_get (ci := 8) C hU_X8 rfl (xin F (by decide)) (xe_20 F _ _) 8 (by decide) rfl hF_X8_25 dX8_oneTick_68 ?_
      refine j_bipush C (10 : Int32) dX8_oneTick_71 (by decide) ?_
      refine j_icmp_ge C 80 dX8_oneTick_73 (by decide) ?_ ?_
      · refine j_iconst C (3 : Int32) dX8_oneTick_80 (by decide) ?_
        refine j_put (ci := 8) C hU_X8 tyX8_ok nmX8 rfl (xin F (by decide)) (xe_20 F _ _) 5 (by decide) (Nat.le_of_ble_eq_true rfl) (by rw [wI_o, wI_2]; exact (xe_20 F _ _)) (fun o' h' => ⟨wI_ne _ _ _ h', rfl⟩) rfl (by first | rfl | decide) (by first | rfl | decide) hF_X8_15 dX8_oneTick_81 (fun σ10 => ?_)
        refine j_goto C 124 dX8_oneTick_84 (by decide) ?_
        exact j_vret2 C Q dX8_oneTick_124
      · refine j_iconst C (2 : Int32) dX8_oneTick_76 (by decide) ?_
        refine j_goto C 81 dX8_oneTick_77 (by decide) ?_
        refine j_put (ci := 8) C hU_X8 tyX8_ok nmX8 rfl (xin F (by decide)) (xe_20 F _ _) 5 (by decide) (Nat.le_of_ble_eq_true rfl) (by rw [wI_o, wI_2]; exact (xe_20 F _ _)) (fun o' h' => ⟨wI_ne _ _ _ h', rfl⟩) rfl (by first | rfl | decide) (by first | rfl | decide) hF_X8_15 dX8_oneTick_81 (fun σ11 => ?_)
        refine j_goto C 124 dX8_oneTick_84 (by decide) ?_
        exact j_vret2 C Q dX8_oneTick_124
  unfold X8_oneTick
  refine j_aload_n C dX8_oneTick_0 0 rfl ?_
  refine j_aload_n C dX8_oneTick_1 0 rfl ?_
  refine j_get (ci := 8) C hU_X8 rfl (xin F (by decide)) (xe_20 F _ _) 0 (by decide) rfl hF_X8_43 dX8_oneTick_2 ?_
  refine j_iconst C (5 : Int32) dX8_oneTick_5 (by decide) ?_
  refine j_bind (fun r2 h1 => ?_)
  refine j_callVi (ci := 3) C [.int (5 : Int32)] (c_X3_latest F h1) hM_X8_63 hI_X3_latest hS_X3_latest hZ_X3 hC_X3_latest (xin F (by decide)) (xe_1 F _ _) rfl rfl dd_X3_latest (by decide) ⟨rfl, rfl⟩ (by decide) (Nat.le_of_ble_eq_true rfl) dX8_oneTick_6 rfl ?_
  refine j_put (ci := 8) C hU_X8 tyX8_ok nmX8 rfl (xin F (by decide)) (xe_20 F _ _) 10 (by decide) (Nat.le_of_ble_eq_true rfl) (by rw [wI_o, wI_2]; exact (xe_20 F _ _)) (fun o' h' => ⟨wI_ne _ _ _ h', rfl⟩) rfl (by first | rfl | decide) (by first | rfl | decide) hF_X8_31 dX8_oneTick_9 (fun σ3 => ?_)
  refine j_aload_n C dX8_oneTick_12 0 rfl ?_
  refine j_aload_n C dX8_oneTick_13 0 rfl ?_
  refine j_get (ci := 8) C hU_X8 rfl (xin F (by decide)) (xe_20 F _ _) 0 (by decide) rfl hF_X8_43 dX8_oneTick_14 ?_
  refine j_bipush C (6 : Int32) dX8_oneTick_17 (by decide) ?_
  refine j_bind (fun r5 h4 => ?_)
  refine j_callVi (ci := 3) C [.int (6 : Int32)] (c_X3_latest F h4) hM_X8_63 hI_X3_latest hS_X3_latest hZ_X3 hC_X3_latest (xin F (by decide)) (xe_1 F _ _) rfl rfl dd_X3_latest (by decide) ⟨rfl, rfl⟩ (by decide) (Nat.le_of_ble_eq_true rfl) dX8_oneTick_19 rfl ?_
  refine j_put (ci := 8) C hU_X8 tyX8_ok nmX8 rfl (xin F (by decide)) (xe_20 F _ _) 11 (by decide) (Nat.le_of_ble_eq_true rfl) (by rw [wI_o, wI_2]; exact (xe_20 F _ _)) (fun o' h' => ⟨wI_ne _ _ _ h', rfl⟩) rfl (by first | rfl | decide) (by first | rfl | decide) hF_X8_34 dX8_oneTick_22 (fun σ6 => ?_)
  refine j_aload_n C dX8_oneTick_25 0 rfl ?_
  refine j_get (ci := 8) C hU_X8 rfl (xin F (by decide)) (xe_20 F _ _) 5 (by decide) rfl hF_X8_15 dX8_oneTick_26 ?_
  refine j_iconst C (1 : Int32) dX8_oneTick_29 (by decide) ?_
  refine j_icmp_ne C 37 dX8_oneTick_30 (by decide) ?_ ?_
  · refine j_lv [(0, .ref (eAd E 20))] [0] rfl ?_
    exact hB37 σ6
  · refine j_aload_n C dX8_oneTick_33 0 rfl ?_
    refine j_bind (fun σ8 h7 => ?_)
    refine j_callVv (ci := 8) C [] (c_X8_goOn F h7) hM_X8_69 hI_X8_goOn hS_X8_goOn hZ_X8 hC_X8_goOn (xin F (by decide)) (xe_20 F _ _) rfl rfl dd_X8_goOn (by decide) ⟨rfl, rfl⟩ (by decide) (Nat.le_of_ble_eq_true rfl) dX8_oneTick_34 rfl ?_
    refine j_lv [(0, .ref (eAd E 20))] [0] rfl ?_
    exact hB37 σ8
set_option maxRecDepth 100000 in
set_option maxHeartbeats 4000000 in
theorem c_X8_oneTick {E : EnvT} {n : Nat} {cs : Nat → ClassId} (F : XF E n cs) {σ : Mem} {r : Mem} (h : X8_oneTick n σ = some r) : CT E yX8_oneTick cX8_oneTick 1 none rm_X8_oneTick [.ref (eAd E 20)] σ (RQv r) :=
  ct_X F (by decide) (Nat.le_of_ble_eq_true rfl) (fun E' ea F' C Q => by rw [← ea]; exact m_X8_oneTick F'  C Q h)
theorem dd_X8_oneTick : yX8_oneTick.cls ≠ "java/lang/invoke/MethodHandle" ∧ yX8_oneTick.cls ≠ "java/lang/invoke/VarHandle" ∧ (parseMethodDescriptor yX8_oneTick.desc).map (fun d => d.parameters.length) = some 0 := by decide +kernel
