/-! CONSTRUCTORS of the small classes -/
theorem eao1 {E : EnvT} (h : EAO E) : match E with | (_, _, _, _, s, _, _, _, _, _, _, _, _, _, _, _, _) => va_AO "EngineCell$Channel" s := by
  obtain ⟨p, l, e, R, s, m, args, below, meth, c, Q, A, D, tys, ids, ad, ent⟩ := E
  exact h.1
theorem eao2 {E : EnvT} (h : EAO E) : match E with | (_, _, _, _, s, _, _, _, _, _, _, _, _, _, _, _, _) => va_AO "EngineCell$Sheet" s := by
  obtain ⟨p, l, e, R, s, m, args, below, meth, c, Q, A, D, tys, ids, ad, ent⟩ := E
  exact h.2
theorem df_X0 : ∀ j, j < 1 → defaultValue (tyX0 j) = vp_V [.int 0] j := by decide +kernel
theorem df_X1 : ∀ j, j < 8 → defaultValue (tyX1 j) = vp_V [.int 0, .int 0, .int 0, .int 0, .int 0, .int 0, .int 0, .int 0] j := by decide +kernel
theorem df_X2 : ∀ j, j < 5 → defaultValue (tyX2 j) = vp_V [.null, .null, .null, .null, .int 0] j := by decide +kernel
theorem df_X3 : ∀ j, j < 4 → defaultValue (tyX3 j) = vp_V [.null, .null, .int 0, .int 0] j := by decide +kernel
theorem df_X4 : ∀ j, j < 9 → defaultValue (tyX4 j) = vp_V [.null, .null, .long 0, .long 0, .long 0, .long 0, .long 0, .long 0, .long 0] j := by decide +kernel
theorem df_X5 : ∀ j, j < 2 → defaultValue (tyX5 j) = vp_V [.null, .int 0] j := by decide +kernel
theorem df_X6 : ∀ j, j < 2 → defaultValue (tyX6 j) = vp_V [.null, .int 0] j := by decide +kernel
theorem df_X7 : ∀ j, j < 7 → defaultValue (tyX7 j) = vp_V [.null, .null, .null, .null, .null, .null, .int 0] j := by decide +kernel
theorem df_X8 : ∀ j, j < 14 → defaultValue (tyX8 j) = vp_V [.null, .null, .null, .null, .null, .int 0, .int 0, .int 0, .int 0, .int 0, .int 0, .int 0, .int 0, .int 0] j := by decide +kernel
theorem df_X9 : ∀ j, j < 4 → defaultValue (tyX9 j) = vp_V [.null, .int 0, .int 0, .int 0] j := by decide +kernel
theorem df_X10 : ∀ j, j < 5 → defaultValue (tyX10 j) = vp_V [.null, .null, .null, .null, .int 0] j := by decide +kernel
theorem df_X11 : ∀ j, j < 10 → defaultValue (tyX11 j) = vp_V [.null, .null, .null, .null, .null, .null, .null, .null, .null, .int 0] j := by decide +kernel
theorem df_X12 : ∀ j, j < 52 → defaultValue (tyX12 j) = vp_V [.int 0, .int 0, .null, .int 0, .int 0, .int 0, .int 0, .int 0, .int 0, .int 0, .int 0, .int 0, .null, .int 0, .null, .null, .null, .null, .null, .null, .null, .null, .int 0, .null, .int 0, .int 0, .int 0, .null, .null, .null, .null, .null, .null, .null, .int 0, .null, .null, .null, .int 0, .null, .null, .null, .null, .null, .int 0, .null, .null, .long 0, .long 0, .long 0, .long 0, .long 0] j := by decide +kernel
abbrev rm_X0_init : Room := { frames := 1, cells := 0, slots := 0, locals := 12 }
def Wf_X0_init (cs : Nat → ClassId) (h : Nat) : WfT := fun u => [(h, .inr (0, [.int 0]))]
theorem ddi_X0 : yX0_init.cls ≠ "java/lang/invoke/MethodHandle" ∧ yX0_init.cls ≠ "java/lang/invoke/VarHandle" ∧ (parseMethodDescriptor yX0_init.desc).map (fun d => d.parameters.length) = some 0 := by decide +kernel
set_option maxRecDepth 100000 in
set_option maxHeartbeats 4000000 in
theorem w_X0_init {E : EnvT} {cs : Nat → ClassId} (hT : eTys E = wTys cs) (hI : INI E) (hO : EAO E) (h : Nat) (C : CX E cX0_init RX0 1 rm_X0_init) (hq : QE E 0 0 none (RQc (Wf_X0_init cs h))) : GW E 1 0 0 [(h, .inr (0, [.int 0]))] 0 [(0, .ref h)] [] := by
  refine w_aload_n C dX0_init_0 0 rfl ?_
  refine w_obj C hM_X0_3 (by decide) (by decide) dX0_init_1 ?_
  refine w_aload_n C dX0_init_4 0 rfl ?_
  refine w_iconst C (0 : Int32) dX0_init_5 (by decide) ?_
  refine w_put (ci := 0) C [(h, .inr (0, [.int 0]))] hU_X0 tyX0_ok nmX0 rfl 0 rfl 0 (by decide) (Nat.le_of_ble_eq_true rfl) rfl (by first | rfl | decide) (by first | rfl | decide) hF_X0_9 dX0_init_6 rfl ?_
  exact w_vret C (fun j => ([] : List Nat).getD j 0) rfl hq (Nat.le_refl _) (Nat.le_refl _) dX0_init_9
theorem i_X0 (l : Launch) (D : va_G) (cs : Nat → ClassId) (h : Nat) : CI l D (wTys cs) yX0_init cX0_init 1 rm_X0_init h [] 0 [.int 0] 0 0 (Wf_X0_init cs h) :=
  ci_of (by decide) rfl (Nat.le_of_ble_eq_true rfl) (fun E e1 e2 e3 hI hO C hq => w_X0_init e3 hI hO h C hq)
abbrev rm_X1_init : Room := { frames := 1, cells := 0, slots := 0, locals := 12 }
def Wf_X1_init (cs : Nat → ClassId) (h : Nat) (p1 : Int32) (p2 : Int32) (p3 : Int32) (p4 : Int32) (p5 : Int32) (p6 : Int32) : WfT := fun u => [(h, .inr (1, [.int p1, .int p2, .int p3, .int p4, .int p5, .int p6, .int 0, .int 0]))]
theorem ddi_X1 : yX1_init.cls ≠ "java/lang/invoke/MethodHandle" ∧ yX1_init.cls ≠ "java/lang/invoke/VarHandle" ∧ (parseMethodDescriptor yX1_init.desc).map (fun d => d.parameters.length) = some 6 := by decide +kernel
set_option maxRecDepth 100000 in
set_option maxHeartbeats 4000000 in
theorem w_X1_init {E : EnvT} {cs : Nat → ClassId} (hT : eTys E = wTys cs) (hI : INI E) (hO : EAO E) (h : Nat) (p1 : Int32) (p2 : Int32) (p3 : Int32) (p4 : Int32) (p5 : Int32) (p6 : Int32) (C : CX E cX1_init RX1 7 rm_X1_init) (hq : QE E 0 0 none (RQc (Wf_X1_init cs h p1 p2 p3 p4 p5 p6))) : GW E 7 0 0 [(h, .inr (1, [.int 0, .int 0, .int 0, .int 0, .int 0, .int 0, .int 0, .int 0]))] 0 [(0, .ref h), (1, .int p1), (2, .int p2), (3, .int p3), (4, .int p4), (5, .int p5), (6, .int p6)] [] := by
  refine w_aload_n C dX1_init_0 0 rfl ?_
  refine w_obj C hM_X1_1 (by decide) (by decide) dX1_init_1 ?_
  refine w_aload_n C dX1_init_4 0 rfl ?_
  refine w_iconst C (0 : Int32) dX1_init_5 (by decide) ?_
  refine w_put (ci := 1) C [(h, .inr (1, [.int 0, .int 0, .int 0, .int 0, .int 0, .int 0, .int 0, .int 0]))] hU_X1 tyX1_ok nmX1 rfl 0 rfl 6 (by decide) (Nat.le_of_ble_eq_true rfl) rfl (by first | rfl | decide) (by first | rfl | decide) hF_X1_7 dX1_init_6 rfl ?_
  refine w_aload_n C dX1_init_9 0 rfl ?_
  refine w_iconst C (0 : Int32) dX1_init_10 (by decide) ?_
  refine w_put (ci := 1) C [(h, .inr (1, [.int 0, .int 0, .int 0, .int 0, .int 0, .int 0, .int 0, .int 0]))] hU_X1 tyX1_ok nmX1 rfl 0 rfl 7 (by decide) (Nat.le_of_ble_eq_true rfl) rfl (by first | rfl | decide) (by first | rfl | decide) hF_X1_13 dX1_init_11 rfl ?_
  refine w_aload_n C dX1_init_14 0 rfl ?_
  refine w_iload_n C dX1_init_15 1 rfl ?_
  refine w_putF (ci := 1) C [(h, .inr (1, [.int p1, .int 0, .int 0, .int 0, .int 0, .int 0, .int 0, .int 0]))] hU_X1 tyX1_ok nmX1 rfl 0 rfl 0 (by decide) (Nat.le_of_ble_eq_true rfl) rfl hI rfl (by first | rfl | decide) (by first | rfl | decide) hF_X1_17 dX1_init_16 rfl ?_
  refine w_aload_n C dX1_init_19 0 rfl ?_
  refine w_iload_n C dX1_init_20 2 rfl ?_
  refine w_putF (ci := 1) C [(h, .inr (1, [.int p1, .int p2, .int 0, .int 0, .int 0, .int 0, .int 0, .int 0]))] hU_X1 tyX1_ok nmX1 rfl 0 rfl 1 (by decide) (Nat.le_of_ble_eq_true rfl) rfl hI rfl (by first | rfl | decide) (by first | rfl | decide) hF_X1_20 dX1_init_21 rfl ?_
  refine w_aload_n C dX1_init_24 0 rfl ?_
  refine w_iload_n C dX1_init_25 3 rfl ?_
  refine w_putF (ci := 1) C [(h, .inr (1, [.int p1, .int p2, .int p3, .int 0, .int 0, .int 0, .int 0, .int 0]))] hU_X1 tyX1_ok nmX1 rfl 0 rfl 2 (by decide) (Nat.le_of_ble_eq_true rfl) rfl hI rfl (by first | rfl | decide) (by first | rfl | decide) hF_X1_23 dX1_init_26 rfl ?_
  refine w_aload_n C dX1_init_29 0 rfl ?_
  refine w_iload C dX1_init_30 4 rfl ?_
  refine w_putF (ci := 1) C [(h, .inr (1, [.int p1, .int p2, .int p3, .int p4, .int 0, .int 0, .int 0, .int 0]))] hU_X1 tyX1_ok nmX1 rfl 0 rfl 3 (by decide) (Nat.le_of_ble_eq_true rfl) rfl hI rfl (by first | rfl | decide) (by first | rfl | decide) hF_X1_26 dX1_init_32 rfl ?_
  refine w_aload_n C dX1_init_35 0 rfl ?_
  refine w_iload C dX1_init_36 5 rfl ?_
  refine w_putF (ci := 1) C [(h, .inr (1, [.int p1, .int p2, .int p3, .int p4, .int p5, .int 0, .int 0, .int 0]))] hU_X1 tyX1_ok nmX1 rfl 0 rfl 4 (by decide) (Nat.le_of_ble_eq_true rfl) rfl hI rfl (by first | rfl | decide) (by first | rfl | decide) hF_X1_29 dX1_init_38 rfl ?_
  refine w_aload_n C dX1_init_41 0 rfl ?_
  refine w_iload C dX1_init_42 6 rfl ?_
  refine w_putF (ci := 1) C [(h, .inr (1, [.int p1, .int p2, .int p3, .int p4, .int p5, .int p6, .int 0, .int 0]))] hU_X1 tyX1_ok nmX1 rfl 0 rfl 5 (by decide) (Nat.le_of_ble_eq_true rfl) rfl hI rfl (by first | rfl | decide) (by first | rfl | decide) hF_X1_32 dX1_init_44 rfl ?_
  exact w_vret C (fun j => ([] : List Nat).getD j 0) rfl hq (Nat.le_refl _) (Nat.le_refl _) dX1_init_47
theorem i_X1 (l : Launch) (D : va_G) (cs : Nat → ClassId) (h : Nat) (p1 : Int32) (p2 : Int32) (p3 : Int32) (p4 : Int32) (p5 : Int32) (p6 : Int32) : CI l D (wTys cs) yX1_init cX1_init 7 rm_X1_init h [.int p1, .int p2, .int p3, .int p4, .int p5, .int p6] 1 [.int 0, .int 0, .int 0, .int 0, .int 0, .int 0, .int 0, .int 0] 0 0 (Wf_X1_init cs h p1 p2 p3 p4 p5 p6) :=
  ci_of (by decide) rfl (Nat.le_of_ble_eq_true rfl) (fun E e1 e2 e3 hI hO C hq => w_X1_init e3 hI hO h p1 p2 p3 p4 p5 p6 C hq)
abbrev rm_X3_init : Room := { frames := 1, cells := 2, slots := 21032, locals := 12 }
def Wf_X3_init (cs : Nat → ClassId) (h : Nat) : WfT := fun u => [(h, .inr (3, [.ref (u 0), .ref (u 1), .int 4, .int 0])), ((u 0), .inl (cs 0, 25, .inl (fun _ => 0))), ((u 1), .inl (cs 0, 21007, .inl (upd (fun _ => 0) 3 20)))]
theorem ddi_X3 : yX3_init.cls ≠ "java/lang/invoke/MethodHandle" ∧ yX3_init.cls ≠ "java/lang/invoke/VarHandle" ∧ (parseMethodDescriptor yX3_init.desc).map (fun d => d.parameters.length) = some 0 := by decide +kernel
set_option maxRecDepth 100000 in
set_option maxHeartbeats 4000000 in
theorem w_X3_init {E : EnvT} {cs : Nat → ClassId} (hT : eTys E = wTys cs) (hI : INI E) (hO : EAO E) (h : Nat) (C : CX E cX3_init RX3 1 rm_X3_init) (hq : QE E 2 21032 none (RQc (Wf_X3_init cs h))) : GW E 1 0 0 [(h, .inr (3, [.null, .null, .int 0, .int 0]))] 0 [(0, .ref h)] [] := by
  refine w_aload_n C dX3_init_0 0 rfl ?_
  refine w_obj C hM_X3_3 (by decide) (by decide) dX3_init_1 ?_
  refine w_aload_n C dX3_init_4 0 rfl ?_
  refine w_bipush C (25 : Int32) dX3_init_5 (by decide) ?_
  refine w_newa (t0 := 0) (c0 := cs 0) (atype := .int) (ty := .int) (N := 25) (kc' := 1) (ks' := 25) (ws' := fun q => [(h, .inr (3, [.null, .null, .int 0, .int 0])), (q, .inl (cs 0, 25, .inl (fun _ => 0)))]) C (25, .inl (fun _ => 0)) hA_int rfl (by rw [hT]; rfl) (fun _ => rfl) (by decide) (by decide) (Nat.le_of_ble_eq_true rfl) rfl rfl (Nat.le_of_ble_eq_true rfl) (Nat.le_of_ble_eq_true rfl) dX3_init_7 (fun _ => rfl) (fun q1 => ?_)
  refine w_putF (ci := 3) C [(h, .inr (3, [.ref q1, .null, .int 0, .int 0])), (q1, .inl (cs 0, 25, .inl (fun _ => 0)))] hU_X3 tyX3_ok nmX3 rfl 0 rfl 0 (by decide) (Nat.le_of_ble_eq_true rfl) rfl hI rfl (by first | rfl | decide) (by first | rfl | decide) hF_X3_9 dX3_init_9 rfl ?_
  refine w_aload_n C dX3_init_12 0 rfl ?_
  refine w_sipush C (21007 : Int32) dX3_init_13 (by decide) ?_
  refine w_newa (t0 := 0) (c0 := cs 0) (atype := .int) (ty := .int) (N := 21007) (kc' := 2) (ks' := 21032) (ws' := fun q => [(h, .inr (3, [.ref q1, .null, .int 0, .int 0])), (q1, .inl (cs 0, 25, .inl (fun _ => 0))), (q, .inl (cs 0, 21007, .inl (fun _ => 0)))]) C (21007, .inl (fun _ => 0)) hA_int rfl (by rw [hT]; rfl) (fun _ => rfl) (by decide) (by decide) (Nat.le_of_ble_eq_true rfl) rfl rfl (Nat.le_of_ble_eq_true rfl) (Nat.le_of_ble_eq_true rfl) dX3_init_16 (fun _ => rfl) (fun q2 => ?_)
  refine w_putF (ci := 3) C [(h, .inr (3, [.ref q1, .ref q2, .int 0, .int 0])), (q1, .inl (cs 0, 25, .inl (fun _ => 0))), (q2, .inl (cs 0, 21007, .inl (fun _ => 0)))] hU_X3 tyX3_ok nmX3 rfl 0 rfl 1 (by decide) (Nat.le_of_ble_eq_true rfl) rfl hI rfl (by first | rfl | decide) (by first | rfl | decide) hF_X3_15 dX3_init_18 rfl ?_
  refine w_aload_n C dX3_init_21 0 rfl ?_
  refine w_iconst C (4 : Int32) dX3_init_22 (by decide) ?_
  refine w_put (ci := 3) C [(h, .inr (3, [.ref q1, .ref q2, .int 4, .int 0])), (q1, .inl (cs 0, 25, .inl (fun _ => 0))), (q2, .inl (cs 0, 21007, .inl (fun _ => 0)))] hU_X3 tyX3_ok nmX3 rfl 0 rfl 2 (by decide) (Nat.le_of_ble_eq_true rfl) rfl (by first | rfl | decide) (by first | rfl | decide) hF_X3_18 dX3_init_23 rfl ?_
  refine w_aload_n C dX3_init_26 0 rfl ?_
  refine w_iconst C (0 : Int32) dX3_init_27 (by decide) ?_
  refine w_put (ci := 3) C [(h, .inr (3, [.ref q1, .ref q2, .int 4, .int 0])), (q1, .inl (cs 0, 25, .inl (fun _ => 0))), (q2, .inl (cs 0, 21007, .inl (fun _ => 0)))] hU_X3 tyX3_ok nmX3 rfl 0 rfl 3 (by decide) (Nat.le_of_ble_eq_true rfl) rfl (by first | rfl | decide) (by first | rfl | decide) hF_X3_22 dX3_init_28 rfl ?_
  refine w_aload_n C dX3_init_31 0 rfl ?_
  refine w_get (ci := 3) C hU_X3 rfl 0 rfl 1 (by decide) rfl hF_X3_15 dX3_init_32 ?_
  refine w_iconst C (3 : Int32) dX3_init_35 (by decide) ?_
  refine w_bipush C (20 : Int32) dX3_init_36 (by decide) ?_
  refine w_iast (t0 := 0) C [(h, .inr (3, [.ref q1, .ref q2, .int 4, .int 0])), (q1, .inl (cs 0, 25, .inl (fun _ => 0))), (q2, .inl (cs 0, 21007, .inl (upd (fun _ => 0) 3 20)))] 2 rfl (by rw [hT]; rfl) (inb_in (by decide)) dX3_init_38 rfl ?_
  exact w_vret C (fun j => ([q1, q2] : List Nat).getD j 0) rfl hq (Nat.le_refl _) (Nat.le_refl _) dX3_init_39
theorem i_X3 (l : Launch) (D : va_G) (cs : Nat → ClassId) (h : Nat) : CI l D (wTys cs) yX3_init cX3_init 1 rm_X3_init h [] 3 [.null, .null, .int 0, .int 0] 2 21032 (Wf_X3_init cs h) :=
  ci_of (by decide) rfl (Nat.le_of_ble_eq_true rfl) (fun E e1 e2 e3 hI hO C hq => w_X3_init e3 hI hO h C hq)
abbrev rm_X4_init : Room := { frames := 1, cells := 0, slots := 0, locals := 12 }
def Wf_X4_init (cs : Nat → ClassId) (h : Nat) (p1 : Nat) (p2 : Nat) : WfT := fun u => [(h, .inr (4, [.ref p1, .ref p2, .long 0, .long 0, .long 0, .long 0, .long 0, .long 0, .long 0]))]
theorem ddi_X4 : yX4_init.cls ≠ "java/lang/invoke/MethodHandle" ∧ yX4_init.cls ≠ "java/lang/invoke/VarHandle" ∧ (parseMethodDescriptor yX4_init.desc).map (fun d => d.parameters.length) = some 2 := by decide +kernel
set_option maxRecDepth 100000 in
set_option maxHeartbeats 4000000 in
theorem w_X4_init {E : EnvT} {cs : Nat → ClassId} (hT : eTys E = wTys cs) (hI : INI E) (hO : EAO E) (h : Nat) (p1 : Nat) (p2 : Nat) (C : CX E cX4_init RX4 3 rm_X4_init) (hq : QE E 0 0 none (RQc (Wf_X4_init cs h p1 p2))) : GW E 3 0 0 [(h, .inr (4, [.null, .null, .long 0, .long 0, .long 0, .long 0, .long 0, .long 0, .long 0]))] 0 [(0, .ref h), (1, .ref p1), (2, .ref p2)] [] := by
  refine w_aload_n C dX4_init_0 0 rfl ?_
  refine w_obj C hM_X4_3 (by decide) (by decide) dX4_init_1 ?_
  refine w_aload_n C dX4_init_4 0 rfl ?_
  refine w_lconst C (0 : Int64) dX4_init_5 (by decide) ?_
  refine w_put (ci := 4) C [(h, .inr (4, [.null, .null, .long 0, .long 0, .long 0, .long 0, .long 0, .long 0, .long 0]))] hU_X4 tyX4_ok nmX4 rfl 0 rfl 2 (by decide) (Nat.le_of_ble_eq_true rfl) rfl (by first | rfl | decide) (by first | rfl | decide) hF_X4_9 dX4_init_6 rfl ?_
  refine w_aload_n C dX4_init_9 0 rfl ?_
  refine w_lconst C (0 : Int64) dX4_init_10 (by decide) ?_
  refine w_put (ci := 4) C [(h, .inr (4, [.null, .null, .long 0, .long 0, .long 0, .long 0, .long 0, .long 0, .long 0]))] hU_X4 tyX4_ok nmX4 rfl 0 rfl 3 (by decide) (Nat.le_of_ble_eq_true rfl) rfl (by first | rfl | decide) (by first | rfl | decide) hF_X4_15 dX4_init_11 rfl ?_
  refine w_aload_n C dX4_init_14 0 rfl ?_
  refine w_lconst C (0 : Int64) dX4_init_15 (by decide) ?_
  refine w_put (ci := 4) C [(h, .inr (4, [.null, .null, .long 0, .long 0, .long 0, .long 0, .long 0, .long 0, .long 0]))] hU_X4 tyX4_ok nmX4 rfl 0 rfl 4 (by decide) (Nat.le_of_ble_eq_true rfl) rfl (by first | rfl | decide) (by first | rfl | decide) hF_X4_18 dX4_init_16 rfl ?_
  refine w_aload_n C dX4_init_19 0 rfl ?_
  refine w_lconst C (0 : Int64) dX4_init_20 (by decide) ?_
  refine w_put (ci := 4) C [(h, .inr (4, [.null, .null, .long 0, .long 0, .long 0, .long 0, .long 0, .long 0, .long 0]))] hU_X4 tyX4_ok nmX4 rfl 0 rfl 5 (by decide) (Nat.le_of_ble_eq_true rfl) rfl (by first | rfl | decide) (by first | rfl | decide) hF_X4_21 dX4_init_21 rfl ?_
  refine w_aload_n C dX4_init_24 0 rfl ?_
  refine w_lconst C (0 : Int64) dX4_init_25 (by decide) ?_
  refine w_put (ci := 4) C [(h, .inr (4, [.null, .null, .long 0, .long 0, .long 0, .long 0, .long 0, .long 0, .long 0]))] hU_X4 tyX4_ok nmX4 rfl 0 rfl 6 (by decide) (Nat.le_of_ble_eq_true rfl) rfl (by first | rfl | decide) (by first | rfl | decide) hF_X4_24 dX4_init_26 rfl ?_
  refine w_aload_n C dX4_init_29 0 rfl ?_
  refine w_lconst C (0 : Int64) dX4_init_30 (by decide) ?_
  refine w_put (ci := 4) C [(h, .inr (4, [.null, .null, .long 0, .long 0, .long 0, .long 0, .long 0, .long 0, .long 0]))] hU_X4 tyX4_ok nmX4 rfl 0 rfl 7 (by decide) (Nat.le_of_ble_eq_true rfl) rfl (by first | rfl | decide) (by first | rfl | decide) hF_X4_27 dX4_init_31 rfl ?_
  refine w_aload_n C dX4_init_34 0 rfl ?_
  refine w_lconst C (0 : Int64) dX4_init_35 (by decide) ?_
  refine w_put (ci := 4) C [(h, .inr (4, [.null, .null, .long 0, .long 0, .long 0, .long 0, .long 0, .long 0, .long 0]))] hU_X4 tyX4_ok nmX4 rfl 0 rfl 8 (by decide) (Nat.le_of_ble_eq_true rfl) rfl (by first | rfl | decide) (by first | rfl | decide) hF_X4_30 dX4_init_36 rfl ?_
  refine w_aload_n C dX4_init_39 0 rfl ?_
  refine w_aload_n C dX4_init_40 1 rfl ?_
  refine w_putF (ci := 4) C [(h, .inr (4, [.ref p1, .null, .long 0, .long 0, .long 0, .long 0, .long 0, .long 0, .long 0]))] hU_X4 tyX4_ok nmX4 rfl 0 rfl 0 (by decide) (Nat.le_of_ble_eq_true rfl) rfl hI rfl (by first | rfl | decide) (by first | rfl | decide) hF_X4_33 dX4_init_41 rfl ?_
  refine w_aload_n C dX4_init_44 0 rfl ?_
  refine w_aload_n C dX4_init_45 2 rfl ?_
  refine w_putF (ci := 4) C [(h, .inr (4, [.ref p1, .ref p2, .long 0, .long 0, .long 0, .long 0, .long 0, .long 0, .long 0]))] hU_X4 tyX4_ok nmX4 rfl 0 rfl 1 (by decide) (Nat.le_of_ble_eq_true rfl) rfl hI rfl (by first | rfl | decide) (by first | rfl | decide) hF_X4_37 dX4_init_46 rfl ?_
  exact w_vret C (fun j => ([] : List Nat).getD j 0) rfl hq (Nat.le_refl _) (Nat.le_refl _) dX4_init_49
theorem i_X4 (l : Launch) (D : va_G) (cs : Nat → ClassId) (h : Nat) (p1 : Nat) (p2 : Nat) : CI l D (wTys cs) yX4_init cX4_init 3 rm_X4_init h [.ref p1, .ref p2] 4 [.null, .null, .long 0, .long 0, .long 0, .long 0, .long 0, .long 0, .long 0] 0 0 (Wf_X4_init cs h p1 p2) :=
  ci_of (by decide) rfl (Nat.le_of_ble_eq_true rfl) (fun E e1 e2 e3 hI hO C hq => w_X4_init e3 hI hO h p1 p2 C hq)
abbrev rm_X5_init : Room := { frames := 1, cells := 1, slots := 20, locals := 12 }
def Wf_X5_init (cs : Nat → ClassId) (h : Nat) : WfT := fun u => [(h, .inr (5, [.ref (u 0), .int 0])), ((u 0), .inl (cs 0, 20, .inl (fun _ => 0)))]
theorem ddi_X5 : yX5_init.cls ≠ "java/lang/invoke/MethodHandle" ∧ yX5_init.cls ≠ "java/lang/invoke/VarHandle" ∧ (parseMethodDescriptor yX5_init.desc).map (fun d => d.parameters.length) = some 0 := by decide +kernel
set_option maxRecDepth 100000 in
set_option maxHeartbeats 4000000 in
theorem w_X5_init {E : EnvT} {cs : Nat → ClassId} (hT : eTys E = wTys cs) (hI : INI E) (hO : EAO E) (h : Nat) (C : CX E cX5_init RX5 1 rm_X5_init) (hq : QE E 1 20 none (RQc (Wf_X5_init cs h))) : GW E 1 0 0 [(h, .inr (5, [.null, .int 0]))] 0 [(0, .ref h)] [] := by
  refine w_aload_n C dX5_init_0 0 rfl ?_
  refine w_obj C hM_X5_3 (by decide) (by decide) dX5_init_1 ?_
  refine w_aload_n C dX5_init_4 0 rfl ?_
  refine w_bipush C (20 : Int32) dX5_init_5 (by decide) ?_
  refine w_newa (t0 := 0) (c0 := cs 0) (atype := .int) (ty := .int) (N := 20) (kc' := 1) (ks' := 20) (ws' := fun q => [(h, .inr (5, [.null, .int 0])), (q, .inl (cs 0, 20, .inl (fun _ => 0)))]) C (20, .inl (fun _ => 0)) hA_int rfl (by rw [hT]; rfl) (fun _ => rfl) (by decide) (by decide) (Nat.le_of_ble_eq_true rfl) rfl rfl (Nat.le_of_ble_eq_true rfl) (Nat.le_of_ble_eq_true rfl) dX5_init_7 (fun _ => rfl) (fun q1 => ?_)
  refine w_putF (ci := 5) C [(h, .inr (5, [.ref q1, .int 0])), (q1, .inl (cs 0, 20, .inl (fun _ => 0)))] hU_X5 tyX5_ok nmX5 rfl 0 rfl 0 (by decide) (Nat.le_of_ble_eq_true rfl) rfl hI rfl (by first | rfl | decide) (by first | rfl | decide) hF_X5_9 dX5_init_9 rfl ?_
  refine w_aload_n C dX5_init_12 0 rfl ?_
  refine w_iconst C (0 : Int32) dX5_init_13 (by decide) ?_
  refine w_put (ci := 5) C [(h, .inr (5, [.ref q1, .int 0])), (q1, .inl (cs 0, 20, .inl (fun _ => 0)))] hU_X5 tyX5_ok nmX5 rfl 0 rfl 1 (by decide) (Nat.le_of_ble_eq_true rfl) rfl (by first | rfl | decide) (by first | rfl | decide) hF_X5_15 dX5_init_14 rfl ?_
  exact w_vret C (fun j => ([q1] : List Nat).getD j 0) rfl hq (Nat.le_refl _) (Nat.le_refl _) dX5_init_17
theorem i_X5 (l : Launch) (D : va_G) (cs : Nat → ClassId) (h : Nat) : CI l D (wTys cs) yX5_init cX5_init 1 rm_X5_init h [] 5 [.null, .int 0] 1 20 (Wf_X5_init cs h) :=
  ci_of (by decide) rfl (Nat.le_of_ble_eq_true rfl) (fun E e1 e2 e3 hI hO C hq => w_X5_init e3 hI hO h C hq)
abbrev rm_X6_init : Room := { frames := 1, cells := 1, slots := 120, locals := 12 }
def Wf_X6_init (cs : Nat → ClassId) (h : Nat) : WfT := fun u => [(h, .inr (6, [.ref (u 0), .int 0])), ((u 0), .inl (cs 0, 120, .inl (fun _ => 0)))]
theorem ddi_X6 : yX6_init.cls ≠ "java/lang/invoke/MethodHandle" ∧ yX6_init.cls ≠ "java/lang/invoke/VarHandle" ∧ (parseMethodDescriptor yX6_init.desc).map (fun d => d.parameters.length) = some 0 := by decide +kernel
set_option maxRecDepth 100000 in
set_option maxHeartbeats 4000000 in
theorem w_X6_init {E : EnvT} {cs : Nat → ClassId} (hT : eTys E = wTys cs) (hI : INI E) (hO : EAO E) (h : Nat) (C : CX E cX6_init RX6 1 rm_X6_init) (hq : QE E 1 120 none (RQc (Wf_X6_init cs h))) : GW E 1 0 0 [(h, .inr (6, [.null, .int 0]))] 0 [(0, .ref h)] [] := by
  refine w_aload_n C dX6_init_0 0 rfl ?_
  refine w_obj C hM_X6_3 (by decide) (by decide) dX6_init_1 ?_
  refine w_aload_n C dX6_init_4 0 rfl ?_
  refine w_bipush C (120 : Int32) dX6_init_5 (by decide) ?_
  refine w_newa (t0 := 0) (c0 := cs 0) (atype := .int) (ty := .int) (N := 120) (kc' := 1) (ks' := 120) (ws' := fun q => [(h, .inr (6, [.null, .int 0])), (q, .inl (cs 0, 120, .inl (fun _ => 0)))]) C (120, .inl (fun _ => 0)) hA_int rfl (by rw [hT]; rfl) (fun _ => rfl) (by decide) (by decide) (Nat.le_of_ble_eq_true rfl) rfl rfl (Nat.le_of_ble_eq_true rfl) (Nat.le_of_ble_eq_true rfl) dX6_init_7 (fun _ => rfl) (fun q1 => ?_)
  refine w_putF (ci := 6) C [(h, .inr (6, [.ref q1, .int 0])), (q1, .inl (cs 0, 120, .inl (fun _ => 0)))] hU_X6 tyX6_ok nmX6 rfl 0 rfl 0 (by decide) (Nat.le_of_ble_eq_true rfl) rfl hI rfl (by first | rfl | decide) (by first | rfl | decide) hF_X6_9 dX6_init_9 rfl ?_
  refine w_aload_n C dX6_init_12 0 rfl ?_
  refine w_iconst C (0 : Int32) dX6_init_13 (by decide) ?_
  refine w_put (ci := 6) C [(h, .inr (6, [.ref q1, .int 0])), (q1, .inl (cs 0, 120, .inl (fun _ => 0)))] hU_X6 tyX6_ok nmX6 rfl 0 rfl 1 (by decide) (Nat.le_of_ble_eq_true rfl) rfl (by first | rfl | decide) (by first | rfl | decide) hF_X6_15 dX6_init_14 rfl ?_
  exact w_vret C (fun j => ([q1] : List Nat).getD j 0) rfl hq (Nat.le_refl _) (Nat.le_refl _) dX6_init_17
theorem i_X6 (l : Launch) (D : va_G) (cs : Nat → ClassId) (h : Nat) : CI l D (wTys cs) yX6_init cX6_init 1 rm_X6_init h [] 6 [.null, .int 0] 1 120 (Wf_X6_init cs h) :=
  ci_of (by decide) rfl (Nat.le_of_ble_eq_true rfl) (fun E e1 e2 e3 hI hO C hq => w_X6_init e3 hI hO h C hq)
abbrev rm_X7_init : Room := { frames := 1, cells := 3, slots := 328, locals := 12 }
def Wf_X7_init (cs : Nat → ClassId) (h : Nat) (p1 : Nat) (p2 : Nat) (p3 : Nat) : WfT := fun u => [(h, .inr (7, [.ref p1, .ref p2, .ref p3, .ref (u 0), .ref (u 1), .ref (u 2), .int 0])), ((u 0), .inl (cs 1, 8, .inr (.inl (fun _ => 0)))), ((u 1), .inl (cs 1, 160, .inr (.inl (fun _ => 0)))), ((u 2), .inl (cs 0, 160, .inl (fun _ => 0)))]
theorem ddi_X7 : yX7_init.cls ≠ "java/lang/invoke/MethodHandle" ∧ yX7_init.cls ≠ "java/lang/invoke/VarHandle" ∧ (parseMethodDescriptor yX7_init.desc).map (fun d => d.parameters.length) = some 3 := by decide +kernel
set_option maxRecDepth 100000 in
set_option maxHeartbeats 4000000 in
theorem w_X7_init {E : EnvT} {cs : Nat → ClassId} (hT : eTys E = wTys cs) (hI : INI E) (hO : EAO E) (h : Nat) (p1 : Nat) (p2 : Nat) (p3 : Nat) (C : CX E cX7_init RX7 4 rm_X7_init) (hq : QE E 3 328 none (RQc (Wf_X7_init cs h p1 p2 p3))) : GW E 4 0 0 [(h, .inr (7, [.null, .null, .null, .null, .null, .null, .int 0]))] 0 [(0, .ref h), (1, .ref p1), (2, .ref p2), (3, .ref p3)] [] := by
  refine w_aload_n C dX7_init_0 0 rfl ?_
  refine w_obj C hM_X7_3 (by decide) (by decide) dX7_init_1 ?_
  refine w_aload_n C dX7_init_4 0 rfl ?_
  refine w_bipush C (8 : Int32) dX7_init_5 (by decide) ?_
  refine w_newa (t0 := 1) (c0 := cs 1) (atype := .long) (ty := .long) (N := 8) (kc' := 1) (ks' := 8) (ws' := fun q => [(h, .inr (7, [.null, .null, .null, .null, .null, .null, .int 0])), (q, .inl (cs 1, 8, .inr (.inl (fun _ => 0))))]) C (8, .inr (.inl (fun _ => 0))) hA_long rfl (by rw [hT]; rfl) (fun _ => rfl) (by decide) (by decide) (Nat.le_of_ble_eq_true rfl) rfl rfl (Nat.le_of_ble_eq_true rfl) (Nat.le_of_ble_eq_true rfl) dX7_init_7 (fun _ => rfl) (fun q1 => ?_)
  refine w_putF (ci := 7) C [(h, .inr (7, [.null, .null, .null, .ref q1, .null, .null, .int 0])), (q1, .inl (cs 1, 8, .inr (.inl (fun _ => 0))))] hU_X7 tyX7_ok nmX7 rfl 0 rfl 3 (by decide) (Nat.le_of_ble_eq_true rfl) rfl hI rfl (by first | rfl | decide) (by first | rfl | decide) hF_X7_9 dX7_init_9 rfl ?_
  refine w_aload_n C dX7_init_12 0 rfl ?_
  refine w_sipush C (160 : Int32) dX7_init_13 (by decide) ?_
  refine w_newa (t0 := 1) (c0 := cs 1) (atype := .long) (ty := .long) (N := 160) (kc' := 2) (ks' := 168) (ws' := fun q => [(h, .inr (7, [.null, .null, .null, .ref q1, .null, .null, .int 0])), (q1, .inl (cs 1, 8, .inr (.inl (fun _ => 0)))), (q, .inl (cs 1, 160, .inr (.inl (fun _ => 0))))]) C (160, .inr (.inl (fun _ => 0))) hA_long rfl (by rw [hT]; rfl) (fun _ => rfl) (by decide) (by decide) (Nat.le_of_ble_eq_true rfl) rfl rfl (Nat.le_of_ble_eq_true rfl) (Nat.le_of_ble_eq_true rfl) dX7_init_16 (fun _ => rfl) (fun q2 => ?_)
  refine w_putF (ci := 7) C [(h, .inr (7, [.null, .null, .null, .ref q1, .ref q2, .null, .int 0])), (q1, .inl (cs 1, 8, .inr (.inl (fun _ => 0)))), (q2, .inl (cs 1, 160, .inr (.inl (fun _ => 0))))] hU_X7 tyX7_ok nmX7 rfl 0 rfl 4 (by decide) (Nat.le_of_ble_eq_true rfl) rfl hI rfl (by first | rfl | decide) (by first | rfl | decide) hF_X7_15 dX7_init_18 rfl ?_
  refine w_aload_n C dX7_init_21 0 rfl ?_
  refine w_sipush C (160 : Int32) dX7_init_22 (by decide) ?_
  refine w_newa (t0 := 0) (c0 := cs 0) (atype := .int) (ty := .int) (N := 160) (kc' := 3) (ks' := 328) (ws' := fun q => [(h, .inr (7, [.null, .null, .null, .ref q1, .ref q2, .null, .int 0])), (q1, .inl (cs 1, 8, .inr (.inl (fun _ => 0)))), (q2, .inl (cs 1, 160, .inr (.inl (fun _ => 0)))), (q, .inl (cs 0, 160, .inl (fun _ => 0)))]) C (160, .inl (fun _ => 0)) hA_int rfl (by rw [hT]; rfl) (fun _ => rfl) (by decide) (by decide) (Nat.le_of_ble_eq_true rfl) rfl rfl (Nat.le_of_ble_eq_true rfl) (Nat.le_of_ble_eq_true rfl) dX7_init_25 (fun _ => rfl) (fun q3 => ?_)
  refine w_putF (ci := 7) C [(h, .inr (7, [.null, .null, .null, .ref q1, .ref q2, .ref q3, .int 0])), (q1, .inl (cs 1, 8, .inr (.inl (fun _ => 0)))), (q2, .inl (cs 1, 160, .inr (.inl (fun _ => 0)))), (q3, .inl (cs 0, 160, .inl (fun _ => 0)))] hU_X7 tyX7_ok nmX7 rfl 0 rfl 5 (by decide) (Nat.le_of_ble_eq_true rfl) rfl hI rfl (by first | rfl | decide) (by first | rfl | decide) hF_X7_18 dX7_init_27 rfl ?_
  refine w_aload_n C dX7_init_30 0 rfl ?_
  refine w_iconst C (0 : Int32) dX7_init_31 (by decide) ?_
  refine w_put (ci := 7) C [(h, .inr (7, [.null, .null, .null, .ref q1, .ref q2, .ref q3, .int 0])), (q1, .inl (cs 1, 8, .inr (.inl (fun _ => 0)))), (q2, .inl (cs 1, 160, .inr (.inl (fun _ => 0)))), (q3, .inl (cs 0, 160, .inl (fun _ => 0)))] hU_X7 tyX7_ok nmX7 rfl 0 rfl 6 (by decide) (Nat.le_of_ble_eq_true rfl) rfl (by first | rfl | decide) (by first | rfl | decide) hF_X7_22 dX7_init_32 rfl ?_
  refine w_aload_n C dX7_init_35 0 rfl ?_
  refine w_aload_n C dX7_init_36 1 rfl ?_
  refine w_putF (ci := 7) C [(h, .inr (7, [.ref p1, .null, .null, .ref q1, .ref q2, .ref q3, .int 0])), (q1, .inl (cs 1, 8, .inr (.inl (fun _ => 0)))), (q2, .inl (cs 1, 160, .inr (.inl (fun _ => 0)))), (q3, .inl (cs 0, 160, .inl (fun _ => 0)))] hU_X7 tyX7_ok nmX7 rfl 0 rfl 0 (by decide) (Nat.le_of_ble_eq_true rfl) rfl hI rfl (by first | rfl | decide) (by first | rfl | decide) hF_X7_26 dX7_init_37 rfl ?_
  refine w_aload_n C dX7_init_40 0 rfl ?_
  refine w_aload_n C dX7_init_41 2 rfl ?_
  refine w_putF (ci := 7) C [(h, .inr (7, [.ref p1, .ref p2, .null, .ref q1, .ref q2, .ref q3, .int 0])), (q1, .inl (cs 1, 8, .inr (.inl (fun _ => 0)))), (q2, .inl (cs 1, 160, .inr (.inl (fun _ => 0)))), (q3, .inl (cs 0, 160, .inl (fun _ => 0)))] hU_X7 tyX7_ok nmX7 rfl 0 rfl 1 (by decide) (Nat.le_of_ble_eq_true rfl) rfl hI rfl (by first | rfl | decide) (by first | rfl | decide) hF_X7_30 dX7_init_42 rfl ?_
  refine w_aload_n C dX7_init_45 0 rfl ?_
  refine w_aload_n C dX7_init_46 3 rfl ?_
  refine w_putF (ci := 7) C [(h, .inr (7, [.ref p1, .ref p2, .ref p3, .ref q1, .ref q2, .ref q3, .int 0])), (q1, .inl (cs 1, 8, .inr (.inl (fun _ => 0)))), (q2, .inl (cs 1, 160, .inr (.inl (fun _ => 0)))), (q3, .inl (cs 0, 160, .inl (fun _ => 0)))] hU_X7 tyX7_ok nmX7 rfl 0 rfl 2 (by decide) (Nat.le_of_ble_eq_true rfl) rfl hI rfl (by first | rfl | decide) (by first | rfl | decide) hF_X7_34 dX7_init_47 rfl ?_
  exact w_vret C (fun j => ([q1, q2, q3] : List Nat).getD j 0) rfl hq (Nat.le_refl _) (Nat.le_refl _) dX7_init_50
theorem i_X7 (l : Launch) (D : va_G) (cs : Nat → ClassId) (h : Nat) (p1 : Nat) (p2 : Nat) (p3 : Nat) : CI l D (wTys cs) yX7_init cX7_init 4 rm_X7_init h [.ref p1, .ref p2, .ref p3] 7 [.null, .null, .null, .null, .null, .null, .int 0] 3 328 (Wf_X7_init cs h p1 p2 p3) :=
  ci_of (by decide) rfl (Nat.le_of_ble_eq_true rfl) (fun E e1 e2 e3 hI hO C hq => w_X7_init e3 hI hO h p1 p2 p3 C hq)
abbrev rm_X8_init : Room := { frames := 1, cells := 1, slots := 30, locals := 12 }
def Wf_X8_init (cs : Nat → ClassId) (h : Nat) (p1 : Nat) (p2 : Nat) (p3 : Nat) (p4 : Nat) : WfT := fun u => [(h, .inr (8, [.ref p1, .ref p2, .ref p3, .ref p4, .ref (u 0), .int 0, .int 0, .int (-9), .int 0, .int 0, .int 0, .int 0, .int 0, .int 0])), ((u 0), .inl (cs 0, 30, .inl (fun _ => 0)))]
theorem ddi_X8 : yX8_init.cls ≠ "java/lang/invoke/MethodHandle" ∧ yX8_init.cls ≠ "java/lang/invoke/VarHandle" ∧ (parseMethodDescriptor yX8_init.desc).map (fun d => d.parameters.length) = some 4 := by decide +kernel
set_option maxRecDepth 100000 in
set_option maxHeartbeats 4000000 in
theorem w_X8_init {E : EnvT} {cs : Nat → ClassId} (hT : eTys E = wTys cs) (hI : INI E) (hO : EAO E) (h : Nat) (p1 : Nat) (p2 : Nat) (p3 : Nat) (p4 : Nat) (C : CX E cX8_init RX8 5 rm_X8_init) (hq : QE E 1 30 none (RQc (Wf_X8_init cs h p1 p2 p3 p4))) : GW E 5 0 0 [(h, .inr (8, [.null, .null, .null, .null, .null, .int 0, .int 0, .int 0, .int 0, .int 0, .int 0, .int 0, .int 0, .int 0]))] 0 [(0, .ref h), (1, .ref p1), (2, .ref p2), (3, .ref p3), (4, .ref p4)] [] := by
  refine w_aload_n C dX8_init_0 0 rfl ?_
  refine w_obj C hM_X8_3 (by decide) (by decide) dX8_init_1 ?_
  refine w_aload_n C dX8_init_4 0 rfl ?_
  refine w_bipush C (30 : Int32) dX8_init_5 (by decide) ?_
  refine w_newa (t0 := 0) (c0 := cs 0) (atype := .int) (ty := .int) (N := 30) (kc' := 1) (ks' := 30) (ws' := fun q => [(h, .inr (8, [.null, .null, .null, .null, .null, .int 0, .int 0, .int 0, .int 0, .int 0, .int 0, .int 0, .int 0, .int 0])), (q, .inl (cs 0, 30, .inl (fun _ => 0)))]) C (30, .inl (fun _ => 0)) hA_int rfl (by rw [hT]; rfl) (fun _ => rfl) (by decide) (by decide) (Nat.le_of_ble_eq_true rfl) rfl rfl (Nat.le_of_ble_eq_true rfl) (Nat.le_of_ble_eq_true rfl) dX8_init_7 (fun _ => rfl) (fun q1 => ?_)
  refine w_putF (ci := 8) C [(h, .inr (8, [.null, .null, .null, .null, .ref q1, .int 0, .int 0, .int 0, .int 0, .int 0, .int 0, .int 0, .int 0, .int 0])), (q1, .inl (cs 0, 30, .inl (fun _ => 0)))] hU_X8 tyX8_ok nmX8 rfl 0 rfl 4 (by decide) (Nat.le_of_ble_eq_true rfl) rfl hI rfl (by first | rfl | decide) (by first | rfl | decide) hF_X8_9 dX8_init_9 rfl ?_
  refine w_aload_n C dX8_init_12 0 rfl ?_
  refine w_iconst C (0 : Int32) dX8_init_13 (by decide) ?_
  refine w_put (ci := 8) C [(h, .inr (8, [.null, .null, .null, .null, .ref q1, .int 0, .int 0, .int 0, .int 0, .int 0, .int 0, .int 0, .int 0, .int 0])), (q1, .inl (cs 0, 30, .inl (fun _ => 0)))] hU_X8 tyX8_ok nmX8 rfl 0 rfl 5 (by decide) (Nat.le_of_ble_eq_true rfl) rfl (by first | rfl | decide) (by first | rfl | decide) hF_X8_15 dX8_init_14 rfl ?_
  refine w_aload_n C dX8_init_17 0 rfl ?_
  refine w_iconst C (0 : Int32) dX8_init_18 (by decide) ?_
  refine w_put (ci := 8) C [(h, .inr (8, [.null, .null, .null, .null, .ref q1, .int 0, .int 0, .int 0, .int 0, .int 0, .int 0, .int 0, .int 0, .int 0])), (q1, .inl (cs 0, 30, .inl (fun _ => 0)))] hU_X8 tyX8_ok nmX8 rfl 0 rfl 6 (by decide) (Nat.le_of_ble_eq_true rfl) rfl (by first | rfl | decide) (by first | rfl | decide) hF_X8_19 dX8_init_19 rfl ?_
  refine w_aload_n C dX8_init_22 0 rfl ?_
  refine w_bipush C (-9 : Int32) dX8_init_23 (by decide) ?_
  refine w_put (ci := 8) C [(h, .inr (8, [.null, .null, .null, .null, .ref q1, .int 0, .int 0, .int (-9), .int 0, .int 0, .int 0, .int 0, .int 0, .int 0])), (q1, .inl (cs 0, 30, .inl (fun _ => 0)))] hU_X8 tyX8_ok nmX8 rfl 0 rfl 7 (by decide) (Nat.le_of_ble_eq_true rfl) rfl (by first | rfl | decide) (by first | rfl | decide) hF_X8_22 dX8_init_25 rfl ?_
  refine w_aload_n C dX8_init_28 0 rfl ?_
  refine w_iconst C (0 : Int32) dX8_init_29 (by decide) ?_
  refine w_put (ci := 8) C [(h, .inr (8, [.null, .null, .null, .null, .ref q1, .int 0, .int 0, .int (-9), .int 0, .int 0, .int 0, .int 0, .int 0, .int 0])), (q1, .inl (cs 0, 30, .inl (fun _ => 0)))] hU_X8 tyX8_ok nmX8 rfl 0 rfl 8 (by decide) (Nat.le_of_ble_eq_true rfl) rfl (by first | rfl | decide) (by first | rfl | decide) hF_X8_25 dX8_init_30 rfl ?_
  refine w_aload_n C dX8_init_33 0 rfl ?_
  refine w_iconst C (0 : Int32) dX8_init_34 (by decide) ?_
  refine w_put (ci := 8) C [(h, .inr (8, [.null, .null, .null, .null, .ref q1, .int 0, .int 0, .int (-9), .int 0, .int 0, .int 0, .int 0, .int 0, .int 0])), (q1, .inl (cs 0, 30, .inl (fun _ => 0)))] hU_X8 tyX8_ok nmX8 rfl 0 rfl 9 (by decide) (Nat.le_of_ble_eq_true rfl) rfl (by first | rfl | decide) (by first | rfl | decide) hF_X8_28 dX8_init_35 rfl ?_
  refine w_aload_n C dX8_init_38 0 rfl ?_
  refine w_iconst C (0 : Int32) dX8_init_39 (by decide) ?_
  refine w_put (ci := 8) C [(h, .inr (8, [.null, .null, .null, .null, .ref q1, .int 0, .int 0, .int (-9), .int 0, .int 0, .int 0, .int 0, .int 0, .int 0])), (q1, .inl (cs 0, 30, .inl (fun _ => 0)))] hU_X8 tyX8_ok nmX8 rfl 0 rfl 10 (by decide) (Nat.le_of_ble_eq_true rfl) rfl (by first | rfl | decide) (by first | rfl | decide) hF_X8_31 dX8_init_40 rfl ?_
  refine w_aload_n C dX8_init_43 0 rfl ?_
  refine w_iconst C (0 : Int32) dX8_init_44 (by decide) ?_
  refine w_put (ci := 8) C [(h, .inr (8, [.null, .null, .null, .null, .ref q1, .int 0, .int 0, .int (-9), .int 0, .int 0, .int 0, .int 0, .int 0, .int 0])), (q1, .inl (cs 0, 30, .inl (fun _ => 0)))] hU_X8 tyX8_ok nmX8 rfl 0 rfl 11 (by decide) (Nat.le_of_ble_eq_true rfl) rfl (by first | rfl | decide) (by first | rfl | decide) hF_X8_34 dX8_init_45 rfl ?_
  refine w_aload_n C dX8_init_48 0 rfl ?_
  refine w_iconst C (0 : Int32) dX8_init_49 (by decide) ?_
  refine w_put (ci := 8) C [(h, .inr (8, [.null, .null, .null, .null, .ref q1, .int 0, .int 0, .int (-9), .int 0, .int 0, .int 0, .int 0, .int 0, .int 0])), (q1, .inl (cs 0, 30, .inl (fun _ => 0)))] hU_X8 tyX8_ok nmX8 rfl 0 rfl 12 (by decide) (Nat.le_of_ble_eq_true rfl) rfl (by first | rfl | decide) (by first | rfl | decide) hF_X8_37 dX8_init_50 rfl ?_
  refine w_aload_n C dX8_init_53 0 rfl ?_
  refine w_iconst C (0 : Int32) dX8_init_54 (by decide) ?_
  refine w_put (ci := 8) C [(h, .inr (8, [.null, .null, .null, .null, .ref q1, .int 0, .int 0, .int (-9), .int 0, .int 0, .int 0, .int 0, .int 0, .int 0])), (q1, .inl (cs 0, 30, .inl (fun _ => 0)))] hU_X8 tyX8_ok nmX8 rfl 0 rfl 13 (by decide) (Nat.le_of_ble_eq_true rfl) rfl (by first | rfl | decide) (by first | rfl | decide) hF_X8_40 dX8_init_55 rfl ?_
  refine w_aload_n C dX8_init_58 0 rfl ?_
  refine w_aload_n C dX8_init_59 1 rfl ?_
  refine w_putF (ci := 8) C [(h, .inr (8, [.ref p1, .null, .null, .null, .ref q1, .int 0, .int 0, .int (-9), .int 0, .int 0, .int 0, .int 0, .int 0, .int 0])), (q1, .inl (cs 0, 30, .inl (fun _ => 0)))] hU_X8 tyX8_ok nmX8 rfl 0 rfl 0 (by decide) (Nat.le_of_ble_eq_true rfl) rfl hI rfl (by first | rfl | decide) (by first | rfl | decide) hF_X8_43 dX8_init_60 rfl ?_
  refine w_aload_n C dX8_init_63 0 rfl ?_
  refine w_aload_n C dX8_init_64 2 rfl ?_
  refine w_putF (ci := 8) C [(h, .inr (8, [.ref p1, .ref p2, .null, .null, .ref q1, .int 0, .int 0, .int (-9), .int 0, .int 0, .int 0, .int 0, .int 0, .int 0])), (q1, .inl (cs 0, 30, .inl (fun _ => 0)))] hU_X8 tyX8_ok nmX8 rfl 0 rfl 1 (by decide) (Nat.le_of_ble_eq_true rfl) rfl hI rfl (by first | rfl | decide) (by first | rfl | decide) hF_X8_47 dX8_init_65 rfl ?_
  refine w_aload_n C dX8_init_68 0 rfl ?_
  refine w_aload_n C dX8_init_69 3 rfl ?_
  refine w_putF (ci := 8) C [(h, .inr (8, [.ref p1, .ref p2, .ref p3, .null, .ref q1, .int 0, .int 0, .int (-9), .int 0, .int 0, .int 0, .int 0, .int 0, .int 0])), (q1, .inl (cs 0, 30, .inl (fun _ => 0)))] hU_X8 tyX8_ok nmX8 rfl 0 rfl 2 (by decide) (Nat.le_of_ble_eq_true rfl) rfl hI rfl (by first | rfl | decide) (by first | rfl | decide) hF_X8_51 dX8_init_70 rfl ?_
  refine w_aload_n C dX8_init_73 0 rfl ?_
  refine w_aload C dX8_init_74 4 rfl ?_
  refine w_putF (ci := 8) C [(h, .inr (8, [.ref p1, .ref p2, .ref p3, .ref p4, .ref q1, .int 0, .int 0, .int (-9), .int 0, .int 0, .int 0, .int 0, .int 0, .int 0])), (q1, .inl (cs 0, 30, .inl (fun _ => 0)))] hU_X8 tyX8_ok nmX8 rfl 0 rfl 3 (by decide) (Nat.le_of_ble_eq_true rfl) rfl hI rfl (by first | rfl | decide) (by first | rfl | decide) hF_X8_55 dX8_init_76 rfl ?_
  exact w_vret C (fun j => ([q1] : List Nat).getD j 0) rfl hq (Nat.le_refl _) (Nat.le_refl _) dX8_init_79
theorem i_X8 (l : Launch) (D : va_G) (cs : Nat → ClassId) (h : Nat) (p1 : Nat) (p2 : Nat) (p3 : Nat) (p4 : Nat) : CI l D (wTys cs) yX8_init cX8_init 5 rm_X8_init h [.ref p1, .ref p2, .ref p3, .ref p4] 8 [.null, .null, .null, .null, .null, .int 0, .int 0, .int 0, .int 0, .int 0, .int 0, .int 0, .int 0, .int 0] 1 30 (Wf_X8_init cs h p1 p2 p3 p4) :=
  ci_of (by decide) rfl (Nat.le_of_ble_eq_true rfl) (fun E e1 e2 e3 hI hO C hq => w_X8_init e3 hI hO h p1 p2 p3 p4 C hq)
abbrev rm_X9_init : Room := { frames := 1, cells := 1, slots := 40, locals := 12 }
def Wf_X9_init (cs : Nat → ClassId) (h : Nat) : WfT := fun u => [(h, .inr (9, [.ref (u 0), .int 0, .int 0, .int 0])), ((u 0), .inl (cs 0, 40, .inl (fun _ => 0)))]
theorem ddi_X9 : yX9_init.cls ≠ "java/lang/invoke/MethodHandle" ∧ yX9_init.cls ≠ "java/lang/invoke/VarHandle" ∧ (parseMethodDescriptor yX9_init.desc).map (fun d => d.parameters.length) = some 0 := by decide +kernel
set_option maxRecDepth 100000 in
set_option maxHeartbeats 4000000 in
theorem w_X9_init {E : EnvT} {cs : Nat → ClassId} (hT : eTys E = wTys cs) (hI : INI E) (hO : EAO E) (h : Nat) (C : CX E cX9_init RX9 1 rm_X9_init) (hq : QE E 1 40 none (RQc (Wf_X9_init cs h))) : GW E 1 0 0 [(h, .inr (9, [.null, .int 0, .int 0, .int 0]))] 0 [(0, .ref h)] [] := by
  refine w_aload_n C dX9_init_0 0 rfl ?_
  refine w_obj C hM_X9_3 (by decide) (by decide) dX9_init_1 ?_
  refine w_aload_n C dX9_init_4 0 rfl ?_
  refine w_bipush C (40 : Int32) dX9_init_5 (by decide) ?_
  refine w_newa (t0 := 0) (c0 := cs 0) (atype := .int) (ty := .int) (N := 40) (kc' := 1) (ks' := 40) (ws' := fun q => [(h, .inr (9, [.null, .int 0, .int 0, .int 0])), (q, .inl (cs 0, 40, .inl (fun _ => 0)))]) C (40, .inl (fun _ => 0)) hA_int rfl (by rw [hT]; rfl) (fun _ => rfl) (by decide) (by decide) (Nat.le_of_ble_eq_true rfl) rfl rfl (Nat.le_of_ble_eq_true rfl) (Nat.le_of_ble_eq_true rfl) dX9_init_7 (fun _ => rfl) (fun q1 => ?_)
  refine w_putF (ci := 9) C [(h, .inr (9, [.ref q1, .int 0, .int 0, .int 0])), (q1, .inl (cs 0, 40, .inl (fun _ => 0)))] hU_X9 tyX9_ok nmX9 rfl 0 rfl 0 (by decide) (Nat.le_of_ble_eq_true rfl) rfl hI rfl (by first | rfl | decide) (by first | rfl | decide) hF_X9_9 dX9_init_9 rfl ?_
  refine w_aload_n C dX9_init_12 0 rfl ?_
  refine w_iconst C (0 : Int32) dX9_init_13 (by decide) ?_
  refine w_put (ci := 9) C [(h, .inr (9, [.ref q1, .int 0, .int 0, .int 0])), (q1, .inl (cs 0, 40, .inl (fun _ => 0)))] hU_X9 tyX9_ok nmX9 rfl 0 rfl 1 (by decide) (Nat.le_of_ble_eq_true rfl) rfl (by first | rfl | decide) (by first | rfl | decide) hF_X9_15 dX9_init_14 rfl ?_
  refine w_aload_n C dX9_init_17 0 rfl ?_
  refine w_iconst C (0 : Int32) dX9_init_18 (by decide) ?_
  refine w_put (ci := 9) C [(h, .inr (9, [.ref q1, .int 0, .int 0, .int 0])), (q1, .inl (cs 0, 40, .inl (fun _ => 0)))] hU_X9 tyX9_ok nmX9 rfl 0 rfl 2 (by decide) (Nat.le_of_ble_eq_true rfl) rfl (by first | rfl | decide) (by first | rfl | decide) hF_X9_19 dX9_init_19 rfl ?_
  refine w_aload_n C dX9_init_22 0 rfl ?_
  refine w_iconst C (0 : Int32) dX9_init_23 (by decide) ?_
  refine w_put (ci := 9) C [(h, .inr (9, [.ref q1, .int 0, .int 0, .int 0])), (q1, .inl (cs 0, 40, .inl (fun _ => 0)))] hU_X9 tyX9_ok nmX9 rfl 0 rfl 3 (by decide) (Nat.le_of_ble_eq_true rfl) rfl (by first | rfl | decide) (by first | rfl | decide) hF_X9_22 dX9_init_24 rfl ?_
  exact w_vret C (fun j => ([q1] : List Nat).getD j 0) rfl hq (Nat.le_refl _) (Nat.le_refl _) dX9_init_27
theorem i_X9 (l : Launch) (D : va_G) (cs : Nat → ClassId) (h : Nat) : CI l D (wTys cs) yX9_init cX9_init 1 rm_X9_init h [] 9 [.null, .int 0, .int 0, .int 0] 1 40 (Wf_X9_init cs h) :=
  ci_of (by decide) rfl (Nat.le_of_ble_eq_true rfl) (fun E e1 e2 e3 hI hO C hq => w_X9_init e3 hI hO h C hq)
abbrev rm_X10_init : Room := { frames := 1, cells := 4, slots := 80, locals := 12 }
def Wf_X10_init (cs : Nat → ClassId) (h : Nat) : WfT := fun u => [(h, .inr (10, [.ref (u 0), .ref (u 1), .ref (u 2), .ref (u 3), .int 0])), ((u 0), .inl (cs 0, 20, .inl (fun _ => 0))), ((u 1), .inl (cs 0, 20, .inl (fun _ => 0))), ((u 2), .inl (cs 0, 20, .inl (fun _ => 0))), ((u 3), .inl (cs 0, 20, .inl (fun _ => 0)))]
theorem ddi_X10 : yX10_init.cls ≠ "java/lang/invoke/MethodHandle" ∧ yX10_init.cls ≠ "java/lang/invoke/VarHandle" ∧ (parseMethodDescriptor yX10_init.desc).map (fun d => d.parameters.length) = some 0 := by decide +kernel
set_option maxRecDepth 100000 in
set_option maxHeartbeats 4000000 in
theorem w_X10_init {E : EnvT} {cs : Nat → ClassId} (hT : eTys E = wTys cs) (hI : INI E) (hO : EAO E) (h : Nat) (C : CX E cX10_init RX10 1 rm_X10_init) (hq : QE E 4 80 none (RQc (Wf_X10_init cs h))) : GW E 1 0 0 [(h, .inr (10, [.null, .null, .null, .null, .int 0]))] 0 [(0, .ref h)] [] := by
  refine w_aload_n C dX10_init_0 0 rfl ?_
  refine w_obj C hM_X10_3 (by decide) (by decide) dX10_init_1 ?_
  refine w_aload_n C dX10_init_4 0 rfl ?_
  refine w_bipush C (20 : Int32) dX10_init_5 (by decide) ?_
  refine w_newa (t0 := 0) (c0 := cs 0) (atype := .int) (ty := .int) (N := 20) (kc' := 1) (ks' := 20) (ws' := fun q => [(h, .inr (10, [.null, .null, .null, .null, .int 0])), (q, .inl (cs 0, 20, .inl (fun _ => 0)))]) C (20, .inl (fun _ => 0)) hA_int rfl (by rw [hT]; rfl) (fun _ => rfl) (by decide) (by decide) (Nat.le_of_ble_eq_true rfl) rfl rfl (Nat.le_of_ble_eq_true rfl) (Nat.le_of_ble_eq_true rfl) dX10_init_7 (fun _ => rfl) (fun q1 => ?_)
  refine w_putF (ci := 10) C [(h, .inr (10, [.ref q1, .null, .null, .null, .int 0])), (q1, .inl (cs 0, 20, .inl (fun _ => 0)))] hU_X10 tyX10_ok nmX10 rfl 0 rfl 0 (by decide) (Nat.le_of_ble_eq_true rfl) rfl hI rfl (by first | rfl | decide) (by first | rfl | decide) hF_X10_9 dX10_init_9 rfl ?_
  refine w_aload_n C dX10_init_12 0 rfl ?_
  refine w_bipush C (20 : Int32) dX10_init_13 (by decide) ?_
  refine w_newa (t0 := 0) (c0 := cs 0) (atype := .int) (ty := .int) (N := 20) (kc' := 2) (ks' := 40) (ws' := fun q => [(h, .inr (10, [.ref q1, .null, .null, .null, .int 0])), (q1, .inl (cs 0, 20, .inl (fun _ => 0))), (q, .inl (cs 0, 20, .inl (fun _ => 0)))]) C (20, .inl (fun _ => 0)) hA_int rfl (by rw [hT]; rfl) (fun _ => rfl) (by decide) (by decide) (Nat.le_of_ble_eq_true rfl) rfl rfl (Nat.le_of_ble_eq_true rfl) (Nat.le_of_ble_eq_true rfl) dX10_init_15 (fun _ => rfl) (fun q2 => ?_)
  refine w_putF (ci := 10) C [(h, .inr (10, [.ref q1, .ref q2, .null, .null, .int 0])), (q1, .inl (cs 0, 20, .inl (fun _ => 0))), (q2, .inl (cs 0, 20, .inl (fun _ => 0)))] hU_X10 tyX10_ok nmX10 rfl 0 rfl 1 (by decide) (Nat.le_of_ble_eq_true rfl) rfl hI rfl (by first | rfl | decide) (by first | rfl | decide) hF_X10_15 dX10_init_17 rfl ?_
  refine w_aload_n C dX10_init_20 0 rfl ?_
  refine w_bipush C (20 : Int32) dX10_init_21 (by decide) ?_
  refine w_newa (t0 := 0) (c0 := cs 0) (atype := .int) (ty := .int) (N := 20) (kc' := 3) (ks' := 60) (ws' := fun q => [(h, .inr (10, [.ref q1, .ref q2, .null, .null, .int 0])), (q1, .inl (cs 0, 20, .inl (fun _ => 0))), (q2, .inl (cs 0, 20, .inl (fun _ => 0))), (q, .inl (cs 0, 20, .inl (fun _ => 0)))]) C (20, .inl (fun _ => 0)) hA_int rfl (by rw [hT]; rfl) (fun _ => rfl) (by decide) (by decide) (Nat.le_of_ble_eq_true rfl) rfl rfl (Nat.le_of_ble_eq_true rfl) (Nat.le_of_ble_eq_true rfl) dX10_init_23 (fun _ => rfl) (fun q3 => ?_)
  refine w_putF (ci := 10) C [(h, .inr (10, [.ref q1, .ref q2, .ref q3, .null, .int 0])), (q1, .inl (cs 0, 20, .inl (fun _ => 0))), (q2, .inl (cs 0, 20, .inl (fun _ => 0))), (q3, .inl (cs 0, 20, .inl (fun _ => 0)))] hU_X10 tyX10_ok nmX10 rfl 0 rfl 2 (by decide) (Nat.le_of_ble_eq_true rfl) rfl hI rfl (by first | rfl | decide) (by first | rfl | decide) hF_X10_18 dX10_init_25 rfl ?_
  refine w_aload_n C dX10_init_28 0 rfl ?_
  refine w_bipush C (20 : Int32) dX10_init_29 (by decide) ?_
  refine w_newa (t0 := 0) (c0 := cs 0) (atype := .int) (ty := .int) (N := 20) (kc' := 4) (ks' := 80) (ws' := fun q => [(h, .inr (10, [.ref q1, .ref q2, .ref q3, .null, .int 0])), (q1, .inl (cs 0, 20, .inl (fun _ => 0))), (q2, .inl (cs 0, 20, .inl (fun _ => 0))), (q3, .inl (cs 0, 20, .inl (fun _ => 0))), (q, .inl (cs 0, 20, .inl (fun _ => 0)))]) C (20, .inl (fun _ => 0)) hA_int rfl (by rw [hT]; rfl) (fun _ => rfl) (by decide) (by decide) (Nat.le_of_ble_eq_true rfl) rfl rfl (Nat.le_of_ble_eq_true rfl) (Nat.le_of_ble_eq_true rfl) dX10_init_31 (fun _ => rfl) (fun q4 => ?_)
  refine w_putF (ci := 10) C [(h, .inr (10, [.ref q1, .ref q2, .ref q3, .ref q4, .int 0])), (q1, .inl (cs 0, 20, .inl (fun _ => 0))), (q2, .inl (cs 0, 20, .inl (fun _ => 0))), (q3, .inl (cs 0, 20, .inl (fun _ => 0))), (q4, .inl (cs 0, 20, .inl (fun _ => 0)))] hU_X10 tyX10_ok nmX10 rfl 0 rfl 3 (by decide) (Nat.le_of_ble_eq_true rfl) rfl hI rfl (by first | rfl | decide) (by first | rfl | decide) hF_X10_21 dX10_init_33 rfl ?_
  refine w_aload_n C dX10_init_36 0 rfl ?_
  refine w_iconst C (0 : Int32) dX10_init_37 (by decide) ?_
  refine w_put (ci := 10) C [(h, .inr (10, [.ref q1, .ref q2, .ref q3, .ref q4, .int 0])), (q1, .inl (cs 0, 20, .inl (fun _ => 0))), (q2, .inl (cs 0, 20, .inl (fun _ => 0))), (q3, .inl (cs 0, 20, .inl (fun _ => 0))), (q4, .inl (cs 0, 20, .inl (fun _ => 0)))] hU_X10 tyX10_ok nmX10 rfl 0 rfl 4 (by decide) (Nat.le_of_ble_eq_true rfl) rfl (by first | rfl | decide) (by first | rfl | decide) hF_X10_24 dX10_init_38 rfl ?_
  exact w_vret C (fun j => ([q1, q2, q3, q4] : List Nat).getD j 0) rfl hq (Nat.le_refl _) (Nat.le_refl _) dX10_init_41
theorem i_X10 (l : Launch) (D : va_G) (cs : Nat → ClassId) (h : Nat) : CI l D (wTys cs) yX10_init cX10_init 1 rm_X10_init h [] 10 [.null, .null, .null, .null, .int 0] 4 80 (Wf_X10_init cs h) :=
  ci_of (by decide) rfl (Nat.le_of_ble_eq_true rfl) (fun E e1 e2 e3 hI hO C hq => w_X10_init e3 hI hO h C hq)
abbrev rm_X2_init : Room := { frames := 2, cells := 11, slots := 178, locals := 32 }
def Wf_X2_init (cs : Nat → ClassId) (h : Nat) (p1 : Nat) : WfT := fun u => [(h, .inr (2, [.ref p1, .ref (u 0), .ref (u 1), .ref (u 6), .int 0])), ((u 0), .inl (cs 3, 8, .inr (.inr (.inr (.inr (fun _ => none)))))), ((u 1), .inr (10, [.ref (u 2), .ref (u 3), .ref (u 4), .ref (u 5), .int 0])), ((u 2), .inl (cs 0, 20, .inl (fun _ => 0))), ((u 3), .inl (cs 0, 20, .inl (fun _ => 0))), ((u 4), .inl (cs 0, 20, .inl (fun _ => 0))), ((u 5), .inl (cs 0, 20, .inl (fun _ => 0))), ((u 6), .inr (10, [.ref (u 7), .ref (u 8), .ref (u 9), .ref (u 10), .int 0])), ((u 7), .inl (cs 0, 20, .inl (fun _ => 0))), ((u 8), .inl (cs 0, 20, .inl (fun _ => 0))), ((u 9), .inl (cs 0, 20, .inl (fun _ => 0))), ((u 10), .inl (cs 0, 20, .inl (fun _ => 0)))]
theorem ddi_X2 : yX2_init.cls ≠ "java/lang/invoke/MethodHandle" ∧ yX2_init.cls ≠ "java/lang/invoke/VarHandle" ∧ (parseMethodDescriptor yX2_init.desc).map (fun d => d.parameters.length) = some 1 := by decide +kernel
set_option maxRecDepth 100000 in
set_option maxHeartbeats 4000000 in
theorem w_X2_init {E : EnvT} {cs : Nat → ClassId} (hT : eTys E = wTys cs) (hI : INI E) (hO : EAO E) (h : Nat) (p1 : Nat) (C : CX E cX2_init RX2 2 rm_X2_init) (hq : QE E 11 178 none (RQc (Wf_X2_init cs h p1))) : GW E 2 0 0 [(h, .inr (2, [.null, .null, .null, .null, .int 0]))] 0 [(0, .ref h), (1, .ref p1)] [] := by
  refine w_aload_n C dX2_init_0 0 rfl ?_
  refine w_obj C hM_X2_3 (by decide) (by decide) dX2_init_1 ?_
  refine w_aload_n C dX2_init_4 0 rfl ?_
  refine w_bipush C (8 : Int32) dX2_init_5 (by decide) ?_
  refine w_newq (t0 := 3) (c0 := cs 3) (CN := "EngineCell$Channel") (N := 8) (kc' := 1) (ks' := 8) (ws' := fun q => [(h, .inr (2, [.null, .null, .null, .null, .int 0])), (q, .inl (cs 3, 8, .inr (.inr (.inr (.inr (fun _ => none))))))]) C (eao1 hO) hL_X2_9 (by rw [hT]; rfl) (by decide) (by decide) (Nat.le_of_ble_eq_true rfl) rfl rfl (Nat.le_of_ble_eq_true rfl) (Nat.le_of_ble_eq_true rfl) dX2_init_7 (fun _ => rfl) (fun q1 => ?_)
  refine w_putF (ci := 2) C [(h, .inr (2, [.null, .ref q1, .null, .null, .int 0])), (q1, .inl (cs 3, 8, .inr (.inr (.inr (.inr (fun _ => none))))))] hU_X2 tyX2_ok nmX2 rfl 0 rfl 1 (by decide) (Nat.le_of_ble_eq_true rfl) rfl hI rfl (by first | rfl | decide) (by first | rfl | decide) hF_X2_11 dX2_init_10 rfl ?_
  refine w_aload_n C dX2_init_13 0 rfl ?_
  refine w_new (ci := 10) (fs := [.null, .null, .null, .null, .int 0]) (kc' := 2) (ks' := 13) (ws' := fun q => [(h, .inr (2, [.null, .ref q1, .null, .null, .int 0])), (q1, .inl (cs 3, 8, .inr (.inr (.inr (.inr (fun _ => none)))))), (q, .inr (10, [.null, .null, .null, .null, .int 0]))]) C hU_X10 tyX10_ok hL_X2_17 hB_X10 hZ_X10 rfl df_X10 rfl rfl (Nat.le_of_ble_eq_true rfl) (Nat.le_of_ble_eq_true rfl) dX2_init_14 (fun _ => rfl) (fun q2 => ?_)
  refine w_dup C dX2_init_17 rfl ?_
  refine w_callI (h := q2) (ci := 10) (mc := 4) (ms := 80) (kc' := 6) (ks' := 93) (w0 := [(h, .inr (2, [.null, .ref q1, .null, .null, .int 0])), (q1, .inl (cs 3, 8, .inr (.inr (.inr (.inr (fun _ => none))))))]) (ws' := fun u => [(h, .inr (2, [.null, .ref q1, .null, .null, .int 0])), (q1, .inl (cs 3, 8, .inr (.inr (.inr (.inr (fun _ => none)))))), (q2, .inr (10, [.ref (u 0), .ref (u 1), .ref (u 2), .ref (u 3), .int 0])), ((u 0), .inl (cs 0, 20, .inl (fun _ => 0))), ((u 1), .inl (cs 0, 20, .inl (fun _ => 0))), ((u 2), .inl (cs 0, 20, .inl (fun _ => 0))), ((u 3), .inl (cs 0, 20, .inl (fun _ => 0)))]) (st := [.ref q2, .ref h]) C hO [] (by rw [hT]; exact i_X10 _ _ cs q2) hM_X2_19 hI_X10_init hZ_X10 hC_X10_init rfl ddi_X10 (by decide) ⟨rfl, rfl⟩ rfl rfl (Nat.le_of_ble_eq_true rfl) (Nat.le_of_ble_eq_true rfl) (Nat.le_of_ble_eq_true rfl) dX2_init_18 rfl rfl (fun _ => rfl) (fun u3 => ?_)
  refine w_putF (ci := 2) C [(h, .inr (2, [.null, .ref q1, .ref q2, .null, .int 0])), (q1, .inl (cs 3, 8, .inr (.inr (.inr (.inr (fun _ => none)))))), (q2, .inr (10, [.ref (u3 0), .ref (u3 1), .ref (u3 2), .ref (u3 3), .int 0])), ((u3 0), .inl (cs 0, 20, .inl (fun _ => 0))), ((u3 1), .inl (cs 0, 20, .inl (fun _ => 0))), ((u3 2), .inl (cs 0, 20, .inl (fun _ => 0))), ((u3 3), .inl (cs 0, 20, .inl (fun _ => 0)))] hU_X2 tyX2_ok nmX2 rfl 0 rfl 2 (by decide) (Nat.le_of_ble_eq_true rfl) rfl hI rfl (by first | rfl | decide) (by first | rfl | decide) hF_X2_20 dX2_init_21 rfl ?_
  refine w_aload_n C dX2_init_24 0 rfl ?_
  refine w_new (ci := 10) (fs := [.null, .null, .null, .null, .int 0]) (kc' := 7) (ks' := 98) (ws' := fun q => [(h, .inr (2, [.null, .ref q1, .ref q2, .null, .int 0])), (q1, .inl (cs 3, 8, .inr (.inr (.inr (.inr (fun _ => none)))))), (q2, .inr (10, [.ref (u3 0), .ref (u3 1), .ref (u3 2), .ref (u3 3), .int 0])), ((u3 0), .inl (cs 0, 20, .inl (fun _ => 0))), ((u3 1), .inl (cs 0, 20, .inl (fun _ => 0))), ((u3 2), .inl (cs 0, 20, .inl (fun _ => 0))), ((u3 3), .inl (cs 0, 20, .inl (fun _ => 0))), (q, .inr (10, [.null, .null, .null, .null, .int 0]))]) C hU_X10 tyX10_ok hL_X2_17 hB_X10 hZ_X10 rfl df_X10 rfl rfl (Nat.le_of_ble_eq_true rfl) (Nat.le_of_ble_eq_true rfl) dX2_init_25 (fun _ => rfl) (fun q4 => ?_)
  refine w_dup C dX2_init_28 rfl ?_
  refine w_callI (h := q4) (ci := 10) (mc := 4) (ms := 80) (kc' := 11) (ks' := 178) (w0 := [(h, .inr (2, [.null, .ref q1, .ref q2, .null, .int 0])), (q1, .inl (cs 3, 8, .inr (.inr (.inr (.inr (fun _ => none)))))), (q2, .inr (10, [.ref (u3 0), .ref (u3 1), .ref (u3 2), .ref (u3 3), .int 0])), ((u3 0), .inl (cs 0, 20, .inl (fun _ => 0))), ((u3 1), .inl (cs 0, 20, .inl (fun _ => 0))), ((u3 2), .inl (cs 0, 20, .inl (fun _ => 0))), ((u3 3), .inl (cs 0, 20, .inl (fun _ => 0)))]) (ws' := fun u => [(h, .inr (2, [.null, .ref q1, .ref q2, .null, .int 0])), (q1, .inl (cs 3, 8, .inr (.inr (.inr (.inr (fun _ => none)))))), (q2, .inr (10, [.ref (u3 0), .ref (u3 1), .ref (u3 2), .ref (u3 3), .int 0])), ((u3 0), .inl (cs 0, 20, .inl (fun _ => 0))), ((u3 1), .inl (cs 0, 20, .inl (fun _ => 0))), ((u3 2), .inl (cs 0, 20, .inl (fun _ => 0))), ((u3 3), .inl (cs 0, 20, .inl (fun _ => 0))), (q4, .inr (10, [.ref (u 0), .ref (u 1), .ref (u 2), .ref (u 3), .int 0])), ((u 0), .inl (cs 0, 20, .inl (fun _ => 0))), ((u 1), .inl (cs 0, 20, .inl (fun _ => 0))), ((u 2), .inl (cs 0, 20, .inl (fun _ => 0))), ((u 3), .inl (cs 0, 20, .inl (fun _ => 0)))]) (st := [.ref q4, .ref h]) C hO [] (by rw [hT]; exact i_X10 _ _ cs q4) hM_X2_19 hI_X10_init hZ_X10 hC_X10_init rfl ddi_X10 (by decide) ⟨rfl, rfl⟩ rfl rfl (Nat.le_of_ble_eq_true rfl) (Nat.le_of_ble_eq_true rfl) (Nat.le_of_ble_eq_true rfl) dX2_init_29 rfl rfl (fun _ => rfl) (fun u5 => ?_)
  refine w_putF (ci := 2) C [(h, .inr (2, [.null, .ref q1, .ref q2, .ref q4, .int 0])), (q1, .inl (cs 3, 8, .inr (.inr (.inr (.inr (fun _ => none)))))), (q2, .inr (10, [.ref (u3 0), .ref (u3 1), .ref (u3 2), .ref (u3 3), .int 0])), ((u3 0), .inl (cs 0, 20, .inl (fun _ => 0))), ((u3 1), .inl (cs 0, 20, .inl (fun _ => 0))), ((u3 2), .inl (cs 0, 20, .inl (fun _ => 0))), ((u3 3), .inl (cs 0, 20, .inl (fun _ => 0))), (q4, .inr (10, [.ref (u5 0), .ref (u5 1), .ref (u5 2), .ref (u5 3), .int 0])), ((u5 0), .inl (cs 0, 20, .inl (fun _ => 0))), ((u5 1), .inl (cs 0, 20, .inl (fun _ => 0))), ((u5 2), .inl (cs 0, 20, .inl (fun _ => 0))), ((u5 3), .inl (cs 0, 20, .inl (fun _ => 0)))] hU_X2 tyX2_ok nmX2 rfl 0 rfl 3 (by decide) (Nat.le_of_ble_eq_true rfl) rfl hI rfl (by first | rfl | decide) (by first | rfl | decide) hF_X2_24 dX2_init_32 rfl ?_
  refine w_aload_n C dX2_init_35 0 rfl ?_
  refine w_iconst C (0 : Int32) dX2_init_36 (by decide) ?_
  refine w_put (ci := 2) C [(h, .inr (2, [.null, .ref q1, .ref q2, .ref q4, .int 0])), (q1, .inl (cs 3, 8, .inr (.inr (.inr (.inr (fun _ => none)))))), (q2, .inr (10, [.ref (u3 0), .ref (u3 1), .ref (u3 2), .ref (u3 3), .int 0])), ((u3 0), .inl (cs 0, 20, .inl (fun _ => 0))), ((u3 1), .inl (cs 0, 20, .inl (fun _ => 0))), ((u3 2), .inl (cs 0, 20, .inl (fun _ => 0))), ((u3 3), .inl (cs 0, 20, .inl (fun _ => 0))), (q4, .inr (10, [.ref (u5 0), .ref (u5 1), .ref (u5 2), .ref (u5 3), .int 0])), ((u5 0), .inl (cs 0, 20, .inl (fun _ => 0))), ((u5 1), .inl (cs 0, 20, .inl (fun _ => 0))), ((u5 2), .inl (cs 0, 20, .inl (fun _ => 0))), ((u5 3), .inl (cs 0, 20, .inl (fun _ => 0)))] hU_X2 tyX2_ok nmX2 rfl 0 rfl 4 (by decide) (Nat.le_of_ble_eq_true rfl) rfl (by first | rfl | decide) (by first | rfl | decide) hF_X2_27 dX2_init_37 rfl ?_
  refine w_aload_n C dX2_init_40 0 rfl ?_
  refine w_aload_n C dX2_init_41 1 rfl ?_
  refine w_putF (ci := 2) C [(h, .inr (2, [.ref p1, .ref q1, .ref q2, .ref q4, .int 0])), (q1, .inl (cs 3, 8, .inr (.inr (.inr (.inr (fun _ => none)))))), (q2, .inr (10, [.ref (u3 0), .ref (u3 1), .ref (u3 2), .ref (u3 3), .int 0])), ((u3 0), .inl (cs 0, 20, .inl (fun _ => 0))), ((u3 1), .inl (cs 0, 20, .inl (fun _ => 0))), ((u3 2), .inl (cs 0, 20, .inl (fun _ => 0))), ((u3 3), .inl (cs 0, 20, .inl (fun _ => 0))), (q4, .inr (10, [.ref (u5 0), .ref (u5 1), .ref (u5 2), .ref (u5 3), .int 0])), ((u5 0), .inl (cs 0, 20, .inl (fun _ => 0))), ((u5 1), .inl (cs 0, 20, .inl (fun _ => 0))), ((u5 2), .inl (cs 0, 20, .inl (fun _ => 0))), ((u5 3), .inl (cs 0, 20, .inl (fun _ => 0)))] hU_X2 tyX2_ok nmX2 rfl 0 rfl 0 (by decide) (Nat.le_of_ble_eq_true rfl) rfl hI rfl (by first | rfl | decide) (by first | rfl | decide) hF_X2_31 dX2_init_42 rfl ?_
  exact w_vret C (fun j => ([q1, q2, (u3 0), (u3 1), (u3 2), (u3 3), q4, (u5 0), (u5 1), (u5 2), (u5 3)] : List Nat).getD j 0) rfl hq (Nat.le_refl _) (Nat.le_refl _) dX2_init_45
theorem i_X2 (l : Launch) (D : va_G) (cs : Nat → ClassId) (h : Nat) (p1 : Nat) : CI l D (wTys cs) yX2_init cX2_init 2 rm_X2_init h [.ref p1] 2 [.null, .null, .null, .null, .int 0] 11 178 (Wf_X2_init cs h p1) :=
  ci_of (by decide) rfl (Nat.le_of_ble_eq_true rfl) (fun E e1 e2 e3 hI hO C hq => w_X2_init e3 hI hO h p1 C hq)
