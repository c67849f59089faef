def X12_isLost_b70 (rec19 : (Int32 × Int32 × Int32 × Int32) → Option (Int32)) (σ : Mem) (v1 : Int32) (v2 : Int32) (v4 : Int32) (s0 : Int32) : Option (Int32) :=
  lete (v4 + (1 : Int32)) (fun x1 =>
  rec19 (v1, v2, s0, x1))
def X12_isLost_b69 (rec19 : (Int32 × Int32 × Int32 × Int32) → Option (Int32)) (σ : Mem) (v1 : Int32) (v2 : Int32) (v4 : Int32) : Option (Int32) :=
  X12_isLost_b70 rec19 σ v1 v2 v4 (0 : Int32)
def X12_isLost_l19 (rec19 : (Int32 × Int32 × Int32 × Int32) → Option (Int32)) (σ : Mem) (v1 : Int32) (v2 : Int32) (v3 : Int32) (v4 : Int32) : Option (Int32) :=
  if (σ.1 0 34) ≤ v4 then
  (chk (isZ v3) (
  some v3))
  else
  (if ¬ v3 = (0 : Int32) then
  (chk (isZ v3) (
  some v3))
  else
  (chk (inb v4 20) (
  if ¬ (σ.1 19 (ix v4)) = v1 then
  (X12_isLost_b69 rec19 σ v1 v2 v4)
  else
  (chk (inb v4 20) (
  if v2 < (σ.1 20 (ix v4)) then
  (X12_isLost_b69 rec19 σ v1 v2 v4)
  else
  (chk (inb v4 20) (
  if (σ.1 21 (ix v4)) < v2 then
  (X12_isLost_b69 rec19 σ v1 v2 v4)
  else
  (X12_isLost_b70 rec19 σ v1 v2 v4 (1 : Int32)))))))))
def X12_isLost_b15 (σ : Mem) (v1 : Int32) (v2 : Int32) (s0 : Int32) : Option (Int32) :=
  loopF (fun (rec : (Int32 × Int32 × Int32 × Int32) → Option (Int32)) (s : Int32 × Int32 × Int32 × Int32) => X12_isLost_l19 rec σ s.1 s.2.1 s.2.2.1 s.2.2.2)  FU (v1, v2, s0, (0 : Int32))
def X12_isLost (σ : Mem) (p1 : Int32) (p2 : Int32) : Option (Int32) :=
  chk (inb p1 8) (
  if (σ.1 14 (ix p1)) ≤ p2 then
  (X12_isLost_b15 σ p1 p2 (0 : Int32))
  else
  (X12_isLost_b15 σ p1 p2 (1 : Int32)))
abbrev rm_X12_isLost : Room := { frames := 0, cells := 0, slots := 0, locals := 0 }
set_option maxRecDepth 100000 in
set_option maxHeartbeats 4000000 in
theorem m_X12_isLost {E : EnvT} {cs : Nat → ClassId} (F : MF E cs) {p1 : Int32} {p2 : Int32} {σ : Mem} (C : CX E cX12_isLost RX12 5 rm_X12_isLost) {r0 : Int32} (Q : QE E 0 0 (some .boolean) (RQi r0 σ)) : J E 5 0 0 r0 (X12_isLost σ p1 p2) σ 0 [(0, .ref (eAd E 0)), (1, .int p1), (2, .int p2)] [] := by
  have hB70 : ∀ (rec19 : (Int32 × Int32 × Int32 × Int32) → Option (Int32)) (hrec19 : ∀ a : Int32 × Int32 × Int32 × Int32, J E 5 0 0 r0 (rec19 a) σ 19 [(0, .ref (eAd E 0)), (1, .int a.1), (2, .int a.2.1), (3, .int a.2.2.1), (4, .int a.2.2.2)] []) (v1 : Int32) (v2 : Int32) (v4 : Int32) (s0 : Int32), J E 5 0 0 r0 (X12_isLost_b70 rec19 σ v1 v2 v4 s0) σ 70 [(0, .ref (eAd E 0)), (1, .int v1), (2, .int v2), (4, .int v4)] [.int s0] := by
    intro rec19 hrec19 v1 v2 v4 s0
    unfold X12_isLost_b70
    refine j_istore_n (lv' := [(3, .int s0), (0, .ref (eAd E 0)), (1, .int v1), (2, .int v2), (4, .int v4)]) C dX12_isLost_70 (by decide) rfl ?_
    refine j_iincN (lf := fun x1 => [(4, .int x1), (3, .int s0), (0, .ref (eAd E 0)), (1, .int v1), (2, .int v2)]) C dX12_isLost_71 4 rfl (by rfl) (by decide) (fun _ => rfl) (fun x1 => ?_)
    refine j_goto C 19 dX12_isLost_74 (by decide) ?_
    refine j_lv [(0, .ref (eAd E 0)), (1, .int v1), (2, .int v2), (3, .int s0), (4, .int x1)] [2, 3, 4, 1, 0] rfl ?_
    exact hrec19 (v1, v2, s0, x1)
  have hB69 : ∀ (rec19 : (Int32 × Int32 × Int32 × Int32) → Option (Int32)) (hrec19 : ∀ a : Int32 × Int32 × Int32 × Int32, J E 5 0 0 r0 (rec19 a) σ 19 [(0, .ref (eAd E 0)), (1, .int a.1), (2, .int a.2.1), (3, .int a.2.2.1), (4, .int a.2.2.2)] []) (v1 : Int32) (v2 : Int32) (v4 : Int32), J E 5 0 0 r0 (X12_isLost_b69 rec19 σ v1 v2 v4) σ 69 [(0, .ref (eAd E 0)), (1, .int v1), (2, .int v2), (4, .int v4)] [] := by
    intro rec19 hrec19 v1 v2 v4
    unfold X12_isLost_b69
    refine j_iconst C (0 : Int32) dX12_isLost_69 (by decide) ?_
    refine j_lv [(0, .ref (eAd E 0)), (1, .int v1), (2, .int v2), (4, .int v4)] [0, 1, 2, 3] rfl ?_
    exact hB70 rec19 hrec19 v1 v2 v4 (0 : Int32)
  have hL19 : ∀ (f : Nat) (a : Int32 × Int32 × Int32 × Int32), J E 5 0 0 r0 (loopF (fun (rec : (Int32 × Int32 × Int32 × Int32) → Option (Int32)) (s : Int32 × Int32 × Int32 × Int32) => X12_isLost_l19 rec σ s.1 s.2.1 s.2.2.1 s.2.2.2) f a) σ 19 [(0, .ref (eAd E 0)), (1, .int a.1), (2, .int a.2.1), (3, .int a.2.2.1), (4, .int a.2.2.2)] [] := by
    refine j_loop (M := fun (a : Int32 × Int32 × Int32 × Int32) => σ) (L := fun (a : Int32 × Int32 × Int32 × Int32) => [(0, .ref (eAd E 0)), (1, .int a.1), (2, .int a.2.1), (3, .int a.2.2.1), (4, .int a.2.2.2)]) (S := fun (a : Int32 × Int32 × Int32 × Int32) => []) (fun rec19 hrec19 a => ?_)
    obtain ⟨v1, v2, v3, v4⟩ := a
    show J E 5 0 0 r0 (X12_isLost_l19 rec19 σ v1 v2 v3 v4) σ 19 [(0, .ref (eAd E 0)), (1, .int v1), (2, .int v2), (3, .int v3), (4, .int v4)] []
    unfold X12_isLost_l19
    refine j_iload C dX12_isLost_19 4 rfl ?_
    refine j_aload_n C dX12_isLost_21 0 rfl ?_
    refine j_get (ci := 12) C hU_X12 rfl (min_ F (by decide)) (me_0 F _ _) 34 (by decide) rfl hF_X12_240 dX12_isLost_22 ?_
    refine j_icmp_ge C 77 dX12_isLost_25 (by decide) ?_ ?_
    · refine j_iload_n C dX12_isLost_77 3 rfl ?_
      refine j_chk (fun h1 => ?_)
      exact j_iretz C (isZ_n h1) Q dX12_isLost_78
    · refine j_iload_n C dX12_isLost_28 3 rfl ?_
      refine j_if_ne C 77 dX12_isLost_29 (by decide) ?_ ?_
      · refine j_iload_n C dX12_isLost_77 3 rfl ?_
        refine j_chk (fun h2 => ?_)
        exact j_iretz C (isZ_n h2) Q dX12_isLost_78
      · refine j_aload_n C dX12_isLost_32 0 rfl ?_
        refine j_get (ci := 12) C hU_X12 rfl (min_ F (by decide)) (me_0 F _ _) 35 (by decide) rfl hF_X12_72 dX12_isLost_33 ?_
        refine j_iload C dX12_isLost_36 4 rfl ?_
        refine j_chk (fun h3 => ?_)
        refine j_iald (t0 := 0) C (min_ F (by decide)) (me_19 F _ _) (mt0 F) (inb_in h3) dX12_isLost_38 ?_
        refine j_iload_n C dX12_isLost_39 1 rfl ?_
        refine j_icmp_ne C 69 dX12_isLost_40 (by decide) ?_ ?_
        · refine j_lv [(0, .ref (eAd E 0)), (1, .int v1), (2, .int v2), (4, .int v4)] [0, 1, 2, 4] rfl ?_
          exact hB69 rec19 hrec19 v1 v2 v4
        · refine j_iload_n C dX12_isLost_43 2 rfl ?_
          refine j_aload_n C dX12_isLost_44 0 rfl ?_
          refine j_get (ci := 12) C hU_X12 rfl (min_ F (by decide)) (me_0 F _ _) 36 (by decide) rfl hF_X12_75 dX12_isLost_45 ?_
          refine j_iload C dX12_isLost_48 4 rfl ?_
          refine j_chk (fun h4 => ?_)
          refine j_iald (t0 := 0) C (min_ F (by decide)) (me_20 F _ _) (mt0 F) (inb_in h4) dX12_isLost_50 ?_
          refine j_icmp_lt C 69 dX12_isLost_51 (by decide) ?_ ?_
          · refine j_lv [(0, .ref (eAd E 0)), (1, .int v1), (2, .int v2), (4, .int v4)] [0, 1, 2, 4] rfl ?_
            exact hB69 rec19 hrec19 v1 v2 v4
          · refine j_iload_n C dX12_isLost_54 2 rfl ?_
            refine j_aload_n C dX12_isLost_55 0 rfl ?_
            refine j_get (ci := 12) C hU_X12 rfl (min_ F (by decide)) (me_0 F _ _) 37 (by decide) rfl hF_X12_78 dX12_isLost_56 ?_
            refine j_iload C dX12_isLost_59 4 rfl ?_
            refine j_chk (fun h5 => ?_)
            refine j_iald (t0 := 0) C (min_ F (by decide)) (me_21 F _ _) (mt0 F) (inb_in h5) dX12_isLost_61 ?_
            refine j_icmp_gt C 69 dX12_isLost_62 (by decide) ?_ ?_
            · refine j_lv [(0, .ref (eAd E 0)), (1, .int v1), (2, .int v2), (4, .int v4)] [0, 1, 2, 4] rfl ?_
              exact hB69 rec19 hrec19 v1 v2 v4
            · refine j_iconst C (1 : Int32) dX12_isLost_65 (by decide) ?_
              refine j_goto C 70 dX12_isLost_66 (by decide) ?_
              refine j_lv [(0, .ref (eAd E 0)), (1, .int v1), (2, .int v2), (4, .int v4)] [0, 1, 2, 4] rfl ?_
              exact hB70 rec19 hrec19 v1 v2 v4 (1 : Int32)
  have hB15 : ∀ (v1 : Int32) (v2 : Int32) (s0 : Int32), J E 5 0 0 r0 (X12_isLost_b15 σ v1 v2 s0) σ 15 [(0, .ref (eAd E 0)), (1, .int v1), (2, .int v2)] [.int s0] := by
    intro v1 v2 s0
    unfold X12_isLost_b15
    refine j_istore_n (lv' := [(3, .int s0), (0, .ref (eAd E 0)), (1, .int v1), (2, .int v2)]) C dX12_isLost_15 (by decide) rfl ?_
    refine j_iconst C (0 : Int32) dX12_isLost_16 (by decide) ?_
    refine j_istore (lv' := [(4, .int (0 : Int32)), (3, .int s0), (0, .ref (eAd E 0)), (1, .int v1), (2, .int v2)]) C dX12_isLost_17 (by decide) rfl ?_
    refine j_lv [(0, .ref (eAd E 0)), (1, .int v1), (2, .int v2), (3, .int s0), (4, .int (0 : Int32))] [2, 3, 4, 1, 0] rfl ?_
    exact hL19  FU (v1, v2, s0, (0 : Int32))
  unfold X12_isLost
  refine j_iload_n C dX12_isLost_0 2 rfl ?_
  refine j_aload_n C dX12_isLost_1 0 rfl ?_
  refine j_get (ci := 12) C hU_X12 rfl (min_ F (by decide)) (me_0 F _ _) 29 (by decide) rfl hF_X12_56 dX12_isLost_2 ?_
  refine j_iload_n C dX12_isLost_5 1 rfl ?_
  refine j_chk (fun h1 => ?_)
  refine j_iald (t0 := 0) C (min_ F (by decide)) (me_14 F _ _) (mt0 F) (inb_in h1) dX12_isLost_6 ?_
  refine j_icmp_ge C 14 dX12_isLost_7 (by decide) ?_ ?_
  · refine j_iconst C (0 : Int32) dX12_isLost_14 (by decide) ?_
    refine j_lv [(0, .ref (eAd E 0)), (1, .int p1), (2, .int p2)] [0, 1, 2] rfl ?_
    exact hB15 p1 p2 (0 : Int32)
  · refine j_iconst C (1 : Int32) dX12_isLost_10 (by decide) ?_
    refine j_goto C 15 dX12_isLost_11 (by decide) ?_
    refine j_lv [(0, .ref (eAd E 0)), (1, .int p1), (2, .int p2)] [0, 1, 2] rfl ?_
    exact hB15 p1 p2 (1 : Int32)
set_option maxRecDepth 100000 in
set_option maxHeartbeats 4000000 in
theorem c_X12_isLost {E : EnvT} {cs : Nat → ClassId} (F : MF E cs) {σ : Mem} {p1 : Int32} {p2 : Int32} {r : Int32} (h : X12_isLost σ p1 p2 = some r) : CT E yX12_isLost cX12_isLost 5 (some .boolean) rm_X12_isLost [.ref (eAd E 0), .int p1, .int p2] σ (RQi r σ) :=
  ct_M F (by decide) (Nat.le_of_ble_eq_true rfl) (fun E' ea F' C Q => by rw [← ea]; exact m_X12_isLost F'  C Q h)
theorem dd_X12_isLost : yX12_isLost.cls ≠ "java/lang/invoke/MethodHandle" ∧ yX12_isLost.cls ≠ "java/lang/invoke/VarHandle" ∧ (parseMethodDescriptor yX12_isLost.desc).map (fun d => d.parameters.length) = some 2 := by decide +kernel
def X12_raw (σ : Mem) (p1 : Int32) (p2 : Int32) : Option (Int32) :=
  chk (inb p1 8) (
  chk (inb p1 8) (
  chk (inb (((7 : Int32) * (p2 - (σ.1 14 (ix p1)))) + (σ.1 12 (ix p1))) 21007) (
  some (σ.1 2 (ix (((7 : Int32) * (p2 - (σ.1 14 (ix p1)))) + (σ.1 12 (ix p1))))))))
abbrev rm_X12_raw : Room := { frames := 0, cells := 0, slots := 0, locals := 0 }
set_option maxRecDepth 100000 in
set_option maxHeartbeats 4000000 in
theorem m_X12_raw {E : EnvT} {cs : Nat → ClassId} (F : MF E cs) {p1 : Int32} {p2 : Int32} {σ : Mem} (C : CX E cX12_raw RX12 3 rm_X12_raw) {r0 : Int32} (Q : QE E 0 0 (some .int) (RQi r0 σ)) : J E 3 0 0 r0 (X12_raw σ p1 p2) σ 0 [(0, .ref (eAd E 0)), (1, .int p1), (2, .int p2)] [] := by

  unfold X12_raw
  refine j_aload_n C dX12_raw_0 0 rfl ?_
  refine j_get (ci := 12) C hU_X12 rfl (min_ F (by decide)) (me_0 F _ _) 12 (by decide) rfl hF_X12_20 dX12_raw_1 ?_
  refine j_bipush C (7 : Int32) dX12_raw_4 (by decide) ?_
  refine j_iload_n C dX12_raw_6 2 rfl ?_
  refine j_aload_n C dX12_raw_7 0 rfl ?_
  refine j_get (ci := 12) C hU_X12 rfl (min_ F (by decide)) (me_0 F _ _) 29 (by decide) rfl hF_X12_56 dX12_raw_8 ?_
  refine j_iload_n C dX12_raw_11 1 rfl ?_
  refine j_chk (fun h1 => ?_)
  refine j_iald (t0 := 0) C (min_ F (by decide)) (me_14 F _ _) (mt0 F) (inb_in h1) dX12_raw_12 ?_
  refine j_isub C dX12_raw_13 ?_
  refine j_imul C dX12_raw_14 ?_
  refine j_aload_n C dX12_raw_15 0 rfl ?_
  refine j_get (ci := 12) C hU_X12 rfl (min_ F (by decide)) (me_0 F _ _) 27 (by decide) rfl hF_X12_50 dX12_raw_16 ?_
  refine j_iload_n C dX12_raw_19 1 rfl ?_
  refine j_chk (fun h2 => ?_)
  refine j_iald (t0 := 0) C (min_ F (by decide)) (me_12 F _ _) (mt0 F) (inb_in h2) dX12_raw_20 ?_
  refine j_iadd C dX12_raw_21 ?_
  refine j_chk (fun h3 => ?_)
  refine j_iald (t0 := 0) C (min_ F (by decide)) (me_2 F _ _) (mt0 F) (inb_in h3) dX12_raw_22 ?_
  exact j_ireti C Q dX12_raw_23
set_option maxRecDepth 100000 in
set_option maxHeartbeats 4000000 in
theorem c_X12_raw {E : EnvT} {cs : Nat → ClassId} (F : MF E cs) {σ : Mem} {p1 : Int32} {p2 : Int32} {r : Int32} (h : X12_raw σ p1 p2 = some r) : CT E yX12_raw cX12_raw 3 (some .int) rm_X12_raw [.ref (eAd E 0), .int p1, .int p2] σ (RQi r σ) :=
  ct_M F (by decide) (Nat.le_of_ble_eq_true rfl) (fun E' ea F' C Q => by rw [← ea]; exact m_X12_raw F'  C Q h)
theorem dd_X12_raw : yX12_raw.cls ≠ "java/lang/invoke/MethodHandle" ∧ yX12_raw.cls ≠ "java/lang/invoke/VarHandle" ∧ (parseMethodDescriptor yX12_raw.desc).map (fun d => d.parameters.length) = some 2 := by decide +kernel
def X12_corrected_b113 (rec62 : (Int32 × Int32 × Int64 × Int32) → Option (Int64)) (σ : Mem) (v1 : Int32) (v2 : Int32) (v3 : Int64) (v5 : Int32) : Option (Int64) :=
  lete (v5 + (-1 : Int32)) (fun x1 =>
  rec62 (v1, v2, v3, x1))
def X12_corrected_l62 (rec62 : (Int32 × Int32 × Int64 × Int32) → Option (Int64)) (σ : Mem) (v1 : Int32) (v2 : Int32) (v3 : Int64) (v5 : Int32) : Option (Int64) :=
  if v5 < (0 : Int32) then
  (some v3)
  else
  (chk (inb v5 20) (
  if ¬ (σ.1 22 (ix v5)) = v1 then
  (X12_corrected_b113 rec62 σ v1 v2 v3 v5)
  else
  (chk (inb v5 20) (
  if v2 < (σ.1 23 (ix v5)) then
  (X12_corrected_b113 rec62 σ v1 v2 v3 v5)
  else
  (chk (inb v5 20) (
  chk (inb v5 20) (
  some (((v3 * (((σ.1 24 (ix v5))).toInt64)) / (1000 : Int64)) + (((σ.1 25 (ix v5))).toInt64)))))))))
def X12_corrected_b53 (σ : Mem) (v1 : Int32) (v2 : Int32) (s0 : Int64) : Option (Int64) :=
  lete ((σ.1 0 38) - (1 : Int32)) (fun x1 =>
  loopF (fun (rec : (Int32 × Int32 × Int64 × Int32) → Option (Int64)) (s : Int32 × Int32 × Int64 × Int32) => X12_corrected_l62 rec σ s.1 s.2.1 s.2.2.1 s.2.2.2)  FU (v1, v2, s0, x1))
def X12_corrected (σ : Mem) (p1 : Int32) (p2 : Int32) : Option (Int64) :=
  bindo (X12_raw σ p1 p2) (fun r2 =>
  lete (r2.toInt64) (fun x3 =>
  chk (inb p1 8) (
  if (0 : Int32) ≤ (lg_cmp x3 (((σ.1 15 (ix p1))).toInt64)) then
  (chk (inb p1 8) (
  if (lg_cmp x3 (((σ.1 16 (ix p1))).toInt64)) ≤ (0 : Int32) then
  (X12_corrected_b53 σ p1 p2 x3)
  else
  (chk (inb p1 8) (
  X12_corrected_b53 σ p1 p2 (((σ.1 16 (ix p1))).toInt64)))))
  else
  (chk (inb p1 8) (
  X12_corrected_b53 σ p1 p2 (((σ.1 15 (ix p1))).toInt64))))))
abbrev rm_X12_corrected : Room := { frames := 1, cells := 0, slots := 0, locals := 22 }
set_option maxRecDepth 100000 in
set_option maxHeartbeats 4000000 in
theorem m_X12_corrected {E : EnvT} {cs : Nat → ClassId} (F : MF E cs) {p1 : Int32} {p2 : Int32} {σ : Mem} (C : CX E cX12_corrected RX12 6 rm_X12_corrected) {r0 : Int64} (Q : QE E 0 0 (some .long) (RQl r0 σ)) : J E 6 0 0 r0 (X12_corrected σ p1 p2) σ 0 [(0, .ref (eAd E 0)), (1, .int p1), (2, .int p2)] [] := by
  have hB113 : ∀ (rec62 : (Int32 × Int32 × Int64 × Int32) → Option (Int64)) (hrec62 : ∀ a : Int32 × Int32 × Int64 × Int32, J E 6 0 0 r0 (rec62 a) σ 62 [(0, .ref (eAd E 0)), (1, .int a.1), (2, .int a.2.1), (3, .long a.2.2.1), (5, .int a.2.2.2)] []) (v1 : Int32) (v2 : Int32) (v3 : Int64) (v5 : Int32), J E 6 0 0 r0 (X12_corrected_b113 rec62 σ v1 v2 v3 v5) σ 113 [(0, .ref (eAd E 0)), (1, .int v1), (2, .int v2), (3, .long v3), (5, .int v5)] [] := by
    intro rec62 hrec62 v1 v2 v3 v5
    unfold X12_corrected_b113
    refine j_iincN (lf := fun x1 => [(5, .int x1), (0, .ref (eAd E 0)), (1, .int v1), (2, .int v2), (3, .long v3)]) C dX12_corrected_113 4 rfl (by rfl) (by decide) (fun _ => rfl) (fun x1 => ?_)
    refine j_goto C 62 dX12_corrected_116 (by decide) ?_
    refine j_lv [(0, .ref (eAd E 0)), (1, .int v1), (2, .int v2), (3, .long v3), (5, .int x1)] [1, 2, 3, 4, 0] rfl ?_
    exact hrec62 (v1, v2, v3, x1)
  have hL62 : ∀ (f : Nat) (a : Int32 × Int32 × Int64 × Int32), J E 6 0 0 r0 (loopF (fun (rec : (Int32 × Int32 × Int64 × Int32) → Option (Int64)) (s : Int32 × Int32 × Int64 × Int32) => X12_corrected_l62 rec σ s.1 s.2.1 s.2.2.1 s.2.2.2) f a) σ 62 [(0, .ref (eAd E 0)), (1, .int a.1), (2, .int a.2.1), (3, .long a.2.2.1), (5, .int a.2.2.2)] [] := by
    refine j_loop (M := fun (a : Int32 × Int32 × Int64 × Int32) => σ) (L := fun (a : Int32 × Int32 × Int64 × Int32) => [(0, .ref (eAd E 0)), (1, .int a.1), (2, .int a.2.1), (3, .long a.2.2.1), (5, .int a.2.2.2)]) (S := fun (a : Int32 × Int32 × Int64 × Int32) => []) (fun rec62 hrec62 a => ?_)
    obtain ⟨v1, v2, v3, v5⟩ := a
    show J E 6 0 0 r0 (X12_corrected_l62 rec62 σ v1 v2 v3 v5) σ 62 [(0, .ref (eAd E 0)), (1, .int v1), (2, .int v2), (3, .long v3), (5, .int v5)] []
    unfold X12_corrected_l62
    refine j_iload C dX12_corrected_62 4 rfl ?_
    refine j_if_lt C 119 dX12_corrected_64 (by decide) ?_ ?_
    · refine j_lload_n C dX12_corrected_119 3 rfl ?_
      exact j_lret C Q dX12_corrected_120
    · refine j_aload_n C dX12_corrected_67 0 rfl ?_
      refine j_get (ci := 12) C hU_X12 rfl (min_ F (by decide)) (me_0 F _ _) 39 (by decide) rfl hF_X12_81 dX12_corrected_68 ?_
      refine j_iload C dX12_corrected_71 4 rfl ?_
      refine j_chk (fun h1 => ?_)
      refine j_iald (t0 := 0) C (min_ F (by decide)) (me_22 F _ _) (mt0 F) (inb_in h1) dX12_corrected_73 ?_
      refine j_iload_n C dX12_corrected_74 1 rfl ?_
      refine j_icmp_ne C 113 dX12_corrected_75 (by decide) ?_ ?_
      · refine j_lv [(0, .ref (eAd E 0)), (1, .int v1), (2, .int v2), (3, .long v3), (5, .int v5)] [0, 1, 2, 3, 4] rfl ?_
        exact hB113 rec62 hrec62 v1 v2 v3 v5
      · refine j_aload_n C dX12_corrected_78 0 rfl ?_
        refine j_get (ci := 12) C hU_X12 rfl (min_ F (by decide)) (me_0 F _ _) 40 (by decide) rfl hF_X12_84 dX12_corrected_79 ?_
        refine j_iload C dX12_corrected_82 4 rfl ?_
        refine j_chk (fun h2 => ?_)
        refine j_iald (t0 := 0) C (min_ F (by decide)) (me_23 F _ _) (mt0 F) (inb_in h2) dX12_corrected_84 ?_
        refine j_iload_n C dX12_corrected_85 2 rfl ?_
        refine j_icmp_gt C 113 dX12_corrected_86 (by decide) ?_ ?_
        · refine j_lv [(0, .ref (eAd E 0)), (1, .int v1), (2, .int v2), (3, .long v3), (5, .int v5)] [0, 1, 2, 3, 4] rfl ?_
          exact hB113 rec62 hrec62 v1 v2 v3 v5
        · refine j_lload_n C dX12_corrected_89 3 rfl ?_
          refine j_aload_n C dX12_corrected_90 0 rfl ?_
          refine j_get (ci := 12) C hU_X12 rfl (min_ F (by decide)) (me_0 F _ _) 41 (by decide) rfl hF_X12_87 dX12_corrected_91 ?_
          refine j_iload C dX12_corrected_94 4 rfl ?_
          refine j_chk (fun h3 => ?_)
          refine j_iald (t0 := 0) C (min_ F (by decide)) (me_24 F _ _) (mt0 F) (inb_in h3) dX12_corrected_96 ?_
          refine j_i2l C dX12_corrected_97 ?_
          refine j_lmul C dX12_corrected_98 ?_
          refine j_ldc2 C hK_X12_116 dX12_corrected_99 ?_
          refine j_ldivK C dX12_corrected_102 (by decide) ?_
          refine j_aload_n C dX12_corrected_103 0 rfl ?_
          refine j_get (ci := 12) C hU_X12 rfl (min_ F (by decide)) (me_0 F _ _) 42 (by decide) rfl hF_X12_90 dX12_corrected_104 ?_
          refine j_iload C dX12_corrected_107 4 rfl ?_
          refine j_chk (fun h4 => ?_)
          refine j_iald (t0 := 0) C (min_ F (by decide)) (me_25 F _ _) (mt0 F) (inb_in h4) dX12_corrected_109 ?_
          refine j_i2l C dX12_corrected_110 ?_
          refine j_ladd C dX12_corrected_111 ?_
          exact j_lret C Q dX12_corrected_112
  have hB53 : ∀ (v1 : Int32) (v2 : Int32) (s0 : Int64), J E 6 0 0 r0 (X12_corrected_b53 σ v1 v2 s0) σ 53 [(0, .ref (eAd E 0)), (1, .int v1), (2, .int v2)] [.long s0] := by
    intro v1 v2 s0
    unfold X12_corrected_b53
    refine j_lstore_n (lv' := [(3, .long s0), (0, .ref (eAd E 0)), (1, .int v1), (2, .int v2)]) C dX12_corrected_53 (by decide) rfl ?_
    refine j_aload_n C dX12_corrected_54 1 rfl ?_
    refine j_get (ci := 12) C hU_X12 rfl (min_ F (by decide)) (me_0 F _ _) 38 (by decide) rfl hF_X12_222 dX12_corrected_55 ?_
    refine j_iconst C (1 : Int32) dX12_corrected_58 (by decide) ?_
    refine j_isub C dX12_corrected_59 ?_
    refine j_nmi (fun x1 => ?_)
    refine j_istore (lv' := [(5, .int x1), (3, .long s0), (0, .ref (eAd E 0)), (1, .int v1), (2, .int v2)]) C dX12_corrected_60 (by decide) rfl ?_
    refine j_lv [(0, .ref (eAd E 0)), (1, .int v1), (2, .int v2), (3, .long s0), (5, .int x1)] [2, 3, 4, 1, 0] rfl ?_
    exact hL62  FU (v1, v2, s0, x1)
  unfold X12_corrected
  refine j_aload_n C dX12_corrected_0 0 rfl ?_
  refine j_iload_n C dX12_corrected_1 1 rfl ?_
  refine j_iload_n C dX12_corrected_2 2 rfl ?_
  refine j_bind (fun r2 h1 => ?_)
  refine j_callVi (ci := 12) C [.int p1, .int p2] (c_X12_raw F h1) hM_X12_243 hI_X12_raw hS_X12_raw hZ_X12 hC_X12_raw (min_ F (by decide)) (me_0 F _ _) rfl rfl dd_X12_raw (by decide) ⟨rfl, rfl⟩ (by decide) (Nat.le_of_ble_eq_true rfl) dX12_corrected_3 rfl ?_
  refine j_i2l C dX12_corrected_6 ?_
  refine j_nml (fun x3 => ?_)
  refine j_lstore_n (lv' := [(3, .long x3), (0, .ref (eAd E 0)), (1, .int p1), (2, .int p2)]) C dX12_corrected_7 (by decide) rfl ?_
  refine j_lload_n C dX12_corrected_8 0 rfl ?_
  refine j_aload_n C dX12_corrected_9 1 rfl ?_
  refine j_get (ci := 12) C hU_X12 rfl (min_ F (by decide)) (me_0 F _ _) 30 (by decide) rfl hF_X12_59 dX12_corrected_10 ?_
  refine j_iload_n C dX12_corrected_13 2 rfl ?_
  refine j_chk (fun h4 => ?_)
  refine j_iald (t0 := 0) C (min_ F (by decide)) (me_15 F _ _) (mt0 F) (inb_in h4) dX12_corrected_14 ?_
  refine j_i2l C dX12_corrected_15 ?_
  refine j_lcmp C dX12_corrected_16 ?_
  refine j_if_ge C 30 dX12_corrected_17 (by decide) ?_ ?_
  · refine j_lload_n C dX12_corrected_30 0 rfl ?_
    refine j_aload_n C dX12_corrected_31 1 rfl ?_
    refine j_get (ci := 12) C hU_X12 rfl (min_ F (by decide)) (me_0 F _ _) 31 (by decide) rfl hF_X12_62 dX12_corrected_32 ?_
    refine j_iload_n C dX12_corrected_35 2 rfl ?_
    refine j_chk (fun h5 => ?_)
    refine j_iald (t0 := 0) C (min_ F (by decide)) (me_16 F _ _) (mt0 F) (inb_in h5) dX12_corrected_36 ?_
    refine j_i2l C dX12_corrected_37 ?_
    refine j_lcmp C dX12_corrected_38 ?_
    refine j_if_le C 52 dX12_corrected_39 (by decide) ?_ ?_
    · refine j_lload_n C dX12_corrected_52 0 rfl ?_
      refine j_lv [(0, .ref (eAd E 0)), (1, .int p1), (2, .int p2)] [1, 2, 3] rfl ?_
      exact hB53 p1 p2 x3
    · refine j_aload_n C dX12_corrected_42 1 rfl ?_
      refine j_get (ci := 12) C hU_X12 rfl (min_ F (by decide)) (me_0 F _ _) 31 (by decide) rfl hF_X12_62 dX12_corrected_43 ?_
      refine j_iload_n C dX12_corrected_46 2 rfl ?_
      refine j_chk (fun h6 => ?_)
      refine j_iald (t0 := 0) C (min_ F (by decide)) (me_16 F _ _) (mt0 F) (inb_in h6) dX12_corrected_47 ?_
      refine j_i2l C dX12_corrected_48 ?_
      refine j_goto C 53 dX12_corrected_49 (by decide) ?_
      refine j_lv [(0, .ref (eAd E 0)), (1, .int p1), (2, .int p2)] [1, 2, 3] rfl ?_
      exact hB53 p1 p2 (((σ.1 16 (ix p1))).toInt64)
  · refine j_aload_n C dX12_corrected_20 1 rfl ?_
    refine j_get (ci := 12) C hU_X12 rfl (min_ F (by decide)) (me_0 F _ _) 30 (by decide) rfl hF_X12_59 dX12_corrected_21 ?_
    refine j_iload_n C dX12_corrected_24 2 rfl ?_
    refine j_chk (fun h7 => ?_)
    refine j_iald (t0 := 0) C (min_ F (by decide)) (me_15 F _ _) (mt0 F) (inb_in h7) dX12_corrected_25 ?_
    refine j_i2l C dX12_corrected_26 ?_
    refine j_goto C 53 dX12_corrected_27 (by decide) ?_
    refine j_lv [(0, .ref (eAd E 0)), (1, .int p1), (2, .int p2)] [1, 2, 3] rfl ?_
    exact hB53 p1 p2 (((σ.1 15 (ix p1))).toInt64)
set_option maxRecDepth 100000 in
set_option maxHeartbeats 4000000 in
theorem c_X12_corrected {E : EnvT} {cs : Nat → ClassId} (F : MF E cs) {σ : Mem} {p1 : Int32} {p2 : Int32} {r : Int64} (h : X12_corrected σ p1 p2 = some r) : CT E yX12_corrected cX12_corrected 6 (some .long) rm_X12_corrected [.ref (eAd E 0), .int p1, .int p2] σ (RQl r σ) :=
  ct_M F (by decide) (Nat.le_of_ble_eq_true rfl) (fun E' ea F' C Q => by rw [← ea]; exact m_X12_corrected F'  C Q h)
theorem dd_X12_corrected : yX12_corrected.cls ≠ "java/lang/invoke/MethodHandle" ∧ yX12_corrected.cls ≠ "java/lang/invoke/VarHandle" ∧ (parseMethodDescriptor yX12_corrected.desc).map (fun d => d.parameters.length) = some 2 := by decide +kernel
def X12_waits_b22 (σ : Mem) : Option (Int32 × Mem) :=
  lete (wI σ 0 7 (0 : Int32)) (fun σ1 =>
  bindo (X12_stopBy σ1 (2 : Int32)) (fun σ3 =>
  some ((1 : Int32), σ3)))
def X12_waits_b97 (σ : Mem) : Option (Int32 × Mem) :=
  chk (inb (σ.1 0 6) 30) (
  if ¬ (σ.1 0 7) = (σ.1 6 (ix (σ.1 0 6))) then
  (lete (wI σ 0 7 ((σ.1 0 7) + (1 : Int32))) (fun σ2 =>
  some ((1 : Int32), σ2)))
  else
  (lete (wI σ 0 7 (0 : Int32)) (fun σ3 =>
  bindo (X12_stopBy σ3 (2 : Int32)) (fun σ5 =>
  some ((1 : Int32), σ5)))))
def X12_waits (σ : Mem) : Option (Int32 × Mem) :=
  chk (inb (σ.1 0 6) 30) (
  lete (σ.1 4 (ix (σ.1 0 6))) (fun x2 =>
  if x2 < (0 : Int32) then
  (X12_waits_b22 σ)
  else
  (if x2 < (σ.1 0 26) then
  (chk (inb x2 8) (
  chk (nz (σ.1 13 (ix x2))) (
  lete ((σ.1 0 5) - ((σ.1 0 5) - (σ.1 0 5) / (σ.1 13 (ix x2)) * (σ.1 13 (ix x2)))) (fun x5 =>
  bindo (X12_isLost σ x2 x5) (fun r7 =>
  if ¬ r7 = (0 : Int32) then
  (X12_waits_b97 σ)
  else
  (bindo (X12_corrected σ x2 x5) (fun r9 =>
  chk (inb (σ.1 0 6) 30) (
  if (lg_cmp r9 (((σ.1 5 (ix (σ.1 0 6)))).toInt64)) < (0 : Int32) then
  (X12_waits_b97 σ)
  else
  (lete (wI σ 0 7 (0 : Int32)) (fun σ11 =>
  lete (wI σ11 0 6 ((σ11.1 0 6) + (1 : Int32))) (fun σ12 =>
  some ((0 : Int32), σ12))))))))))))
  else
  (X12_waits_b22 σ))))
abbrev rm_X12_waits : Room := { frames := 2, cells := 0, slots := 0, locals := 47 }
set_option maxRecDepth 100000 in
set_option maxHeartbeats 4000000 in
theorem m_X12_waits {E : EnvT} {cs : Nat → ClassId} (F : MF E cs) {σ : Mem} (C : CX E cX12_waits RX12 3 rm_X12_waits) {r0 : Int32 × Mem} (Q : QE E 0 0 (some .boolean) (RQi r0.1 r0.2)) : J E 3 0 0 r0 (X12_waits σ) σ 0 [(0, .ref (eAd E 0))] [] := by
  have hB22 : ∀ (σ : Mem), J E 3 0 0 r0 (X12_waits_b22 σ) σ 22 [(0, .ref (eAd E 0))] [] := by
    intro σ
    unfold X12_waits_b22
    refine j_aload_n C dX12_waits_22 0 rfl ?_
    refine j_iconst C (0 : Int32) dX12_waits_23 (by decide) ?_
    refine j_put (ci := 12) C hU_X12 tyX12_ok nmX12 rfl (min_ F (by decide)) (me_0 F _ _) 7 (by decide) (Nat.le_of_ble_eq_true rfl) (by rw [wI_o, wI_2]; exact (me_0 F _ _)) (fun o' h' => ⟨wI_ne _ _ _ h', rfl⟩) rfl (by first | rfl | decide) (by first | rfl | decide) hF_X12_167 dX12_waits_24 (fun σ1 => ?_)
    refine j_aload_n C dX12_waits_27 0 rfl ?_
    refine j_iconst C (2 : Int32) dX12_waits_28 (by decide) ?_
    refine j_bind (fun σ3 h2 => ?_)
    refine j_callVv (ci := 12) C [.int (2 : Int32)] (c_X12_stopBy F h2) hM_X12_173 hI_X12_stopBy hS_X12_stopBy hZ_X12 hC_X12_stopBy (min_ F (by decide)) (me_0 F _ _) rfl rfl dd_X12_stopBy (by decide) ⟨rfl, rfl⟩ (by decide) (Nat.le_of_ble_eq_true rfl) dX12_waits_29 rfl ?_
    refine j_iconst C (1 : Int32) dX12_waits_32 (by decide) ?_
    exact j_iretz2 C rfl Q dX12_waits_33
  have hB97 : ∀ (σ : Mem), J E 3 0 0 r0 (X12_waits_b97 σ) σ 97 [(0, .ref (eAd E 0))] [] := by
    intro σ
    unfold X12_waits_b97
    refine j_aload_n C dX12_waits_97 0 rfl ?_
    refine j_get (ci := 12) C hU_X12 rfl (min_ F (by decide)) (me_0 F _ _) 7 (by decide) rfl hF_X12_167 dX12_waits_98 ?_
    refine j_aload_n C dX12_waits_101 0 rfl ?_
    refine j_get (ci := 12) C hU_X12 rfl (min_ F (by decide)) (me_0 F _ _) 17 (by decide) rfl hF_X12_32 dX12_waits_102 ?_
    refine j_aload_n C dX12_waits_105 0 rfl ?_
    refine j_get (ci := 12) C hU_X12 rfl (min_ F (by decide)) (me_0 F _ _) 6 (by decide) rfl hF_X12_164 dX12_waits_106 ?_
    refine j_chk (fun h1 => ?_)
    refine j_iald (t0 := 0) C (min_ F (by decide)) (me_6 F _ _) (mt0 F) (inb_in h1) dX12_waits_109 ?_
    refine j_icmp_ne C 125 dX12_waits_110 (by decide) ?_ ?_
    · refine j_aload_n C dX12_waits_125 0 rfl ?_
      refine j_dup C dX12_waits_126 rfl ?_
      refine j_get (ci := 12) C hU_X12 rfl (min_ F (by decide)) (me_0 F _ _) 7 (by decide) rfl hF_X12_167 dX12_waits_127 ?_
      refine j_iconst C (1 : Int32) dX12_waits_130 (by decide) ?_
      refine j_iadd C dX12_waits_131 ?_
      refine j_put (ci := 12) C hU_X12 tyX12_ok nmX12 rfl (min_ F (by decide)) (me_0 F _ _) 7 (by decide) (Nat.le_of_ble_eq_true rfl) (by rw [wI_o, wI_2]; exact (me_0 F _ _)) (fun o' h' => ⟨wI_ne _ _ _ h', rfl⟩) rfl (by first | rfl | decide) (by first | rfl | decide) hF_X12_167 dX12_waits_132 (fun σ2 => ?_)
      refine j_iconst C (1 : Int32) dX12_waits_135 (by decide) ?_
      exact j_iretz2 C rfl Q dX12_waits_136
    · refine j_aload_n C dX12_waits_113 0 rfl ?_
      refine j_iconst C (0 : Int32) dX12_waits_114 (by decide) ?_
      refine j_put (ci := 12) C hU_X12 tyX12_ok nmX12 rfl (min_ F (by decide)) (me_0 F _ _) 7 (by decide) (Nat.le_of_ble_eq_true rfl) (by rw [wI_o, wI_2]; exact (me_0 F _ _)) (fun o' h' => ⟨wI_ne _ _ _ h', rfl⟩) rfl (by first | rfl | decide) (by first | rfl | decide) hF_X12_167 dX12_waits_115 (fun σ3 => ?_)
      refine j_aload_n C dX12_waits_118 0 rfl ?_
      refine j_iconst C (2 : Int32) dX12_waits_119 (by decide) ?_
      refine j_bind (fun σ5 h4 => ?_)
      refine j_callVv (ci := 12) C [.int (2 : Int32)] (c_X12_stopBy F h4) hM_X12_173 hI_X12_stopBy hS_X12_stopBy hZ_X12 hC_X12_stopBy (min_ F (by decide)) (me_0 F _ _) rfl rfl dd_X12_stopBy (by decide) ⟨rfl, rfl⟩ (by decide) (Nat.le_of_ble_eq_true rfl) dX12_waits_120 rfl ?_
      refine j_iconst C (1 : Int32) dX12_waits_123 (by decide) ?_
      exact j_iretz2 C rfl Q dX12_waits_124
  unfold X12_waits
  refine j_aload_n C dX12_waits_0 0 rfl ?_
  refine j_get (ci := 12) C hU_X12 rfl (min_ F (by decide)) (me_0 F _ _) 15 (by decide) rfl hF_X12_26 dX12_waits_1 ?_
  refine j_aload_n C dX12_waits_4 0 rfl ?_
  refine j_get (ci := 12) C hU_X12 rfl (min_ F (by decide)) (me_0 F _ _) 6 (by decide) rfl hF_X12_164 dX12_waits_5 ?_
  refine j_chk (fun h1 => ?_)
  refine j_iald (t0 := 0) C (min_ F (by decide)) (me_4 F _ _) (mt0 F) (inb_in h1) dX12_waits_8 ?_
  refine j_nmi (fun x2 => ?_)
  refine j_istore_n (lv' := [(1, .int x2), (0, .ref (eAd E 0))]) C dX12_waits_9 (by decide) rfl ?_
  refine j_iload_n C dX12_waits_10 0 rfl ?_
  refine j_if_lt C 22 dX12_waits_11 (by decide) ?_ ?_
  · refine j_lv [(0, .ref (eAd E 0))] [1] rfl ?_
    exact hB22 σ
  · refine j_iload_n C dX12_waits_14 0 rfl ?_
    refine j_aload_n C dX12_waits_15 1 rfl ?_
    refine j_get (ci := 12) C hU_X12 rfl (min_ F (by decide)) (me_0 F _ _) 26 (by decide) rfl hF_X12_205 dX12_waits_16 ?_
    refine j_icmp_lt C 34 dX12_waits_19 (by decide) ?_ ?_
    · refine j_aload_n C dX12_waits_34 1 rfl ?_
      refine j_get (ci := 12) C hU_X12 rfl (min_ F (by decide)) (me_0 F _ _) 5 (by decide) rfl hF_X12_190 dX12_waits_35 ?_
      refine j_aload_n C dX12_waits_38 1 rfl ?_
      refine j_get (ci := 12) C hU_X12 rfl (min_ F (by decide)) (me_0 F _ _) 5 (by decide) rfl hF_X12_190 dX12_waits_39 ?_
      refine j_aload_n C dX12_waits_42 1 rfl ?_
      refine j_get (ci := 12) C hU_X12 rfl (min_ F (by decide)) (me_0 F _ _) 28 (by decide) rfl hF_X12_53 dX12_waits_43 ?_
      refine j_iload_n C dX12_waits_46 0 rfl ?_
      refine j_chk (fun h3 => ?_)
      refine j_iald (t0 := 0) C (min_ F (by decide)) (me_13 F _ _) (mt0 F) (inb_in h3) dX12_waits_47 ?_
      refine j_chk (fun h4 => ?_)
      refine j_iremK C dX12_waits_48 (nz_ne h4) ?_
      refine j_isub C dX12_waits_49 ?_
      refine j_nmi (fun x5 => ?_)
      refine j_istore_n (lv' := [(2, .int x5), (1, .int x2), (0, .ref (eAd E 0))]) C dX12_waits_50 (by decide) rfl ?_
      refine j_aload_n C dX12_waits_51 2 rfl ?_
      refine j_iload_n C dX12_waits_52 1 rfl ?_
      refine j_iload_n C dX12_waits_53 0 rfl ?_
      refine j_bind (fun r7 h6 => ?_)
      refine j_callVi (ci := 12) C [.int x2, .int x5] (c_X12_isLost F h6) hM_X12_208 hI_X12_isLost hS_X12_isLost hZ_X12 hC_X12_isLost (min_ F (by decide)) (me_0 F _ _) rfl rfl dd_X12_isLost (by decide) ⟨rfl, rfl⟩ (by decide) (Nat.le_of_ble_eq_true rfl) dX12_waits_54 rfl ?_
      refine j_if_ne C 97 dX12_waits_57 (by decide) ?_ ?_
      · refine j_lv [(0, .ref (eAd E 0))] [2] rfl ?_
        exact hB97 σ
      · refine j_aload_n C dX12_waits_60 2 rfl ?_
        refine j_iload_n C dX12_waits_61 1 rfl ?_
        refine j_iload_n C dX12_waits_62 0 rfl ?_
        refine j_bind (fun r9 h8 => ?_)
        refine j_callVl (ci := 12) C [.int x2, .int x5] (c_X12_corrected F h8) hM_X12_212 hI_X12_corrected hS_X12_corrected hZ_X12 hC_X12_corrected (min_ F (by decide)) (me_0 F _ _) rfl rfl dd_X12_corrected (by decide) ⟨rfl, rfl⟩ (by decide) (Nat.le_of_ble_eq_true rfl) dX12_waits_63 rfl ?_
        refine j_aload_n C dX12_waits_66 2 rfl ?_
        refine j_get (ci := 12) C hU_X12 rfl (min_ F (by decide)) (me_0 F _ _) 16 (by decide) rfl hF_X12_29 dX12_waits_67 ?_
        refine j_aload_n C dX12_waits_70 2 rfl ?_
        refine j_get (ci := 12) C hU_X12 rfl (min_ F (by decide)) (me_0 F _ _) 6 (by decide) rfl hF_X12_164 dX12_waits_71 ?_
        refine j_chk (fun h10 => ?_)
        refine j_iald (t0 := 0) C (min_ F (by decide)) (me_5 F _ _) (mt0 F) (inb_in h10) dX12_waits_74 ?_
        refine j_i2l C dX12_waits_75 ?_
        refine j_lcmp C dX12_waits_76 ?_
        refine j_if_lt C 97 dX12_waits_77 (by decide) ?_ ?_
        · refine j_lv [(0, .ref (eAd E 0))] [2] rfl ?_
          exact hB97 σ
        · refine j_aload_n C dX12_waits_80 2 rfl ?_
          refine j_iconst C (0 : Int32) dX12_waits_81 (by decide) ?_
          refine j_put (ci := 12) C hU_X12 tyX12_ok nmX12 rfl (min_ F (by decide)) (me_0 F _ _) 7 (by decide) (Nat.le_of_ble_eq_true rfl) (by rw [wI_o, wI_2]; exact (me_0 F _ _)) (fun o' h' => ⟨wI_ne _ _ _ h', rfl⟩) rfl (by first | rfl | decide) (by first | rfl | decide) hF_X12_167 dX12_waits_82 (fun σ11 => ?_)
          refine j_aload_n C dX12_waits_85 2 rfl ?_
          refine j_dup C dX12_waits_86 rfl ?_
          refine j_get (ci := 12) C hU_X12 rfl (min_ F (by decide)) (me_0 F _ _) 6 (by decide) rfl hF_X12_164 dX12_waits_87 ?_
          refine j_iconst C (1 : Int32) dX12_waits_90 (by decide) ?_
          refine j_iadd C dX12_waits_91 ?_
          refine j_put (ci := 12) C hU_X12 tyX12_ok nmX12 rfl (min_ F (by decide)) (me_0 F _ _) 6 (by decide) (Nat.le_of_ble_eq_true rfl) (by rw [wI_o, wI_2]; exact (me_0 F _ _)) (fun o' h' => ⟨wI_ne _ _ _ h', rfl⟩) rfl (by first | rfl | decide) (by first | rfl | decide) hF_X12_164 dX12_waits_92 (fun σ12 => ?_)
          refine j_iconst C (0 : Int32) dX12_waits_95 (by decide) ?_
          exact j_iretz2 C rfl Q dX12_waits_96
    · refine j_lv [(0, .ref (eAd E 0))] [1] rfl ?_
      exact hB22 σ
set_option maxRecDepth 100000 in
set_option maxHeartbeats 4000000 in
theorem c_X12_waits {E : EnvT} {cs : Nat → ClassId} (F : MF E cs) {σ : Mem} {r : Int32 × Mem} (h : X12_waits σ = some r) : CT E yX12_waits cX12_waits 3 (some .boolean) rm_X12_waits [.ref (eAd E 0)] σ (RQi r.1 r.2) :=
  ct_M F (by decide) (Nat.le_of_ble_eq_true rfl) (fun E' ea F' C Q => by rw [← ea]; exact m_X12_waits F'  C Q h)
theorem dd_X12_waits : yX12_waits.cls ≠ "java/lang/invoke/MethodHandle" ∧ yX12_waits.cls ≠ "java/lang/invoke/VarHandle" ∧ (parseMethodDescriptor yX12_waits.desc).map (fun d => d.parameters.length) = some 0 := by decide +kernel
def X12_goOn_b214 (rec2 : (Mem × Int32) → Option (Mem)) (σ : Mem) (v1 : Int32) : Option (Mem) :=
  lete (wI σ 0 6 ((σ.1 0 6) + (1 : Int32))) (fun σ1 =>
  rec2 (σ1, v1))
def X12_goOn_l2 (rec2 : (Mem × Int32) → Option (Mem)) (σ : Mem) (v1 : Int32) : Option (Mem) :=
  if ¬ (σ.1 0 4) = (1 : Int32) then
  (some σ)
  else
  (if ¬ (σ.1 0 6) = (σ.1 0 13) then
  (lete (v1 + (1 : Int32)) (fun x1 =>
  if x1 ≤ (50 : Int32) then
  (chk (inb (σ.1 0 6) 30) (
  lete (σ.1 3 (ix (σ.1 0 6))) (fun x3 =>
  if x3 = (0 : Int32) then
  (chk (inb (σ.1 0 6) 30) (
  bindo (X12_passes σ (σ.1 4 (ix (σ.1 0 6)))) (fun σ6 =>
  some σ6)))
  else
  if x3 = (1 : Int32) then
  (bindo (X12_ramp σ) (fun σ8 =>
  some σ8))
  else
  if x3 = (2 : Int32) then
  (bindo (X12_waits σ) (fun a10 =>
  if a10.1 = (0 : Int32) then
  (rec2 (a10.2, x1))
  else
  (some (a10.2))))
  else
  if x3 = (3 : Int32) then
  (chk (inb (σ.1 0 6) 30) (
  chk (inb (σ.1 0 6) 30) (
  if (σ.1 5 (ix (σ.1 0 6))) ≤ (σ.1 7 (ix (σ.1 0 6))) then
  (chk (inb (σ.1 0 6) 30) (
  lete (wI σ 7 (ix (σ.1 0 6)) (0 : Int32)) (fun σ14 =>
  lete (wI σ14 0 6 ((σ14.1 0 6) + (1 : Int32))) (fun σ15 =>
  rec2 (σ15, x1)))))
  else
  (chk (inb (σ.1 0 6) 30) (
  chk (inb (σ.1 0 6) 30) (
  lete (wI σ 7 (ix (σ.1 0 6)) ((σ.1 7 (ix (σ.1 0 6))) + (1 : Int32))) (fun σ18 =>
  chk (inb (σ18.1 0 6) 30) (
  lete (wI σ18 0 6 (σ18.1 4 (ix (σ18.1 0 6)))) (fun σ20 =>
  rec2 (σ20, x1))))))))))
  else
  (if (20 : Int32) ≤ (σ.1 0 22) then
  (X12_goOn_b214 rec2 σ x1)
  else
  (chk (inb (σ.1 0 22) 20) (
  lete (wI σ 11 (ix (σ.1 0 22)) ((σ.1 0 5) + (1 : Int32))) (fun σ22 =>
  lete (wI σ22 0 22 ((σ22.1 0 22) + (1 : Int32))) (fun σ23 =>
  X12_goOn_b214 rec2 σ23 x1))))))))
  else
  (bindo (X12_stopBy σ (3 : Int32)) (fun σ25 =>
  some σ25))))
  else
  (bindo (X12_stopBy σ (0 : Int32)) (fun σ27 =>
  some σ27)))
def X12_goOn (σ : Mem) : Option (Mem) :=
  loopF (fun (rec : (Mem × Int32) → Option (Mem)) (s : Mem × Int32) => X12_goOn_l2 rec s.1 s.2)  FU (σ, (0 : Int32))
abbrev rm_X12_goOn : Room := { frames := 3, cells := 0, slots := 0, locals := 69 }
set_option maxRecDepth 100000 in
set_option maxHeartbeats 4000000 in
theorem m_X12_goOn {E : EnvT} {cs : Nat → ClassId} (F : MF E cs) {σ : Mem} (C : CX E cX12_goOn RX12 2 rm_X12_goOn) {r0 : Mem} (Q : QE E 0 0 none (RQv r0)) : J E 2 0 0 r0 (X12_goOn σ) σ 0 [(0, .ref (eAd E 0))] [] := by
  have hB214 : ∀ (rec2 : (Mem × Int32) → Option (Mem)) (hrec2 : ∀ a : Mem × Int32, J E 2 0 0 r0 (rec2 a) a.1 2 [(0, .ref (eAd E 0)), (1, .int a.2)] []) (σ : Mem) (v1 : Int32), J E 2 0 0 r0 (X12_goOn_b214 rec2 σ v1) σ 214 [(0, .ref (eAd E 0)), (1, .int v1)] [] := by
    intro rec2 hrec2 σ v1
    unfold X12_goOn_b214
    refine j_aload_n C dX12_goOn_214 0 rfl ?_
    refine j_dup C dX12_goOn_215 rfl ?_
    refine j_get (ci := 12) C hU_X12 rfl (min_ F (by decide)) (me_0 F _ _) 6 (by decide) rfl hF_X12_164 dX12_goOn_216 ?_
    refine j_iconst C (1 : Int32) dX12_goOn_219 (by decide) ?_
    refine j_iadd C dX12_goOn_220 ?_
    refine j_put (ci := 12) C hU_X12 tyX12_ok nmX12 rfl (min_ F (by decide)) (me_0 F _ _) 6 (by decide) (Nat.le_of_ble_eq_true rfl) (by rw [wI_o, wI_2]; exact (me_0 F _ _)) (fun o' h' => ⟨wI_ne _ _ _ h', rfl⟩) rfl (by first | rfl | decide) (by first | rfl | decide) hF_X12_164 dX12_goOn_221 (fun σ1 => ?_)
    refine j_goto C 2 dX12_goOn_224 (by decide) ?_
    refine j_lv [(0, .ref (eAd E 0)), (1, .int v1)] [0, 1] rfl ?_
    exact hrec2 (σ1, v1)
  have hL2 : ∀ (f : Nat) (a : Mem × Int32), J E 2 0 0 r0 (loopF (fun (rec : (Mem × Int32) → Option (Mem)) (s : Mem × Int32) => X12_goOn_l2 rec s.1 s.2) f a) a.1 2 [(0, .ref (eAd E 0)), (1, .int a.2)] [] := by
    refine j_loop (M := fun (a : Mem × Int32) => a.1) (L := fun (a : Mem × Int32) => [(0, .ref (eAd E 0)), (1, .int a.2)]) (S := fun (a : Mem × Int32) => []) (fun rec2 hrec2 a => ?_)
    obtain ⟨σ, v1⟩ := a
    show J E 2 0 0 r0 (X12_goOn_l2 rec2 σ v1) σ 2 [(0, .ref (eAd E 0)), (1, .int v1)] []
    unfold X12_goOn_l2
    refine j_aload_n C dX12_goOn_2 0 rfl ?_
    refine j_get (ci := 12) C hU_X12 rfl (min_ F (by decide)) (me_0 F _ _) 4 (by decide) rfl hF_X12_118 dX12_goOn_3 ?_
    refine j_iconst C (1 : Int32) dX12_goOn_6 (by decide) ?_
    refine j_icmp_ne C 227 dX12_goOn_7 (by decide) ?_ ?_
    · exact j_vret2 C Q dX12_goOn_227
    · refine j_aload_n C dX12_goOn_10 0 rfl ?_
      refine j_get (ci := 12) C hU_X12 rfl (min_ F (by decide)) (me_0 F _ _) 6 (by decide) rfl hF_X12_164 dX12_goOn_11 ?_
      refine j_aload_n C dX12_goOn_14 0 rfl ?_
      refine j_get (ci := 12) C hU_X12 rfl (min_ F (by decide)) (me_0 F _ _) 13 (by decide) rfl hF_X12_139 dX12_goOn_15 ?_
      refine j_icmp_ne C 27 dX12_goOn_18 (by decide) ?_ ?_
      · refine j_iincN (lf := fun x1 => [(1, .int x1), (0, .ref (eAd E 0))]) C dX12_goOn_27 1 rfl (by rfl) (by decide) (fun _ => rfl) (fun x1 => ?_)
        refine j_iload_n C dX12_goOn_30 0 rfl ?_
        refine j_bipush C (50 : Int32) dX12_goOn_31 (by decide) ?_
        refine j_icmp_le C 42 dX12_goOn_33 (by decide) ?_ ?_
        · refine j_aload_n C dX12_goOn_42 1 rfl ?_
          refine j_get (ci := 12) C hU_X12 rfl (min_ F (by decide)) (me_0 F _ _) 14 (by decide) rfl hF_X12_23 dX12_goOn_43 ?_
          refine j_aload_n C dX12_goOn_46 1 rfl ?_
          refine j_get (ci := 12) C hU_X12 rfl (min_ F (by decide)) (me_0 F _ _) 6 (by decide) rfl hF_X12_164 dX12_goOn_47 ?_
          refine j_chk (fun h2 => ?_)
          refine j_iald (t0 := 0) C (min_ F (by decide)) (me_3 F _ _) (mt0 F) (inb_in h2) dX12_goOn_50 ?_
          refine j_nmi (fun x3 => ?_)
          refine j_ite (fun q0 => ?_) (fun q0 => ?_)
          · refine j_tsIn C (0 : Int32) 80 dX12_goOn_51 q0 (by decide) (by decide) rfl (by decide) ?_
            refine j_aload_n C dX12_goOn_80 1 rfl ?_
            refine j_aload_n C dX12_goOn_81 1 rfl ?_
            refine j_get (ci := 12) C hU_X12 rfl (min_ F (by decide)) (me_0 F _ _) 15 (by decide) rfl hF_X12_26 dX12_goOn_82 ?_
            refine j_aload_n C dX12_goOn_85 1 rfl ?_
            refine j_get (ci := 12) C hU_X12 rfl (min_ F (by decide)) (me_0 F _ _) 6 (by decide) rfl hF_X12_164 dX12_goOn_86 ?_
            refine j_chk (fun h4 => ?_)
            refine j_iald (t0 := 0) C (min_ F (by decide)) (me_4 F _ _) (mt0 F) (inb_in h4) dX12_goOn_89 ?_
            refine j_bind (fun σ6 h5 => ?_)
            refine j_callVv (ci := 12) C [.int (σ.1 4 (ix (σ.1 0 6)))] (c_X12_passes F h5) hM_X12_177 hI_X12_passes hS_X12_passes hZ_X12 hC_X12_passes (min_ F (by decide)) (me_0 F _ _) rfl rfl dd_X12_passes (by decide) ⟨rfl, rfl⟩ (by decide) (Nat.le_of_ble_eq_true rfl) dX12_goOn_90 rfl ?_
            exact j_vret2 C Q dX12_goOn_93
          refine j_ite (fun q1 => ?_) (fun q1 => ?_)
          · refine j_tsIn C (1 : Int32) 94 dX12_goOn_51 q1 (by decide) (by decide) rfl (by decide) ?_
            refine j_aload_n C dX12_goOn_94 1 rfl ?_
            refine j_bind (fun σ8 h7 => ?_)
            refine j_callVv (ci := 12) C [] (c_X12_ramp F h7) hM_X12_180 hI_X12_ramp hS_X12_ramp hZ_X12 hC_X12_ramp (min_ F (by decide)) (me_0 F _ _) rfl rfl dd_X12_ramp (by decide) ⟨rfl, rfl⟩ (by decide) (Nat.le_of_ble_eq_true rfl) dX12_goOn_95 rfl ?_
            exact j_vret2 C Q dX12_goOn_98
          refine j_ite (fun q2 => ?_) (fun q2 => ?_)
          · refine j_tsIn C (2 : Int32) 99 dX12_goOn_51 q2 (by decide) (by decide) rfl (by decide) ?_
            refine j_aload_n C dX12_goOn_99 1 rfl ?_
            refine j_bind (fun a10 h9 => ?_)
            refine j_callVi (ci := 12) C [] (c_X12_waits F h9) hM_X12_183 hI_X12_waits hS_X12_waits hZ_X12 hC_X12_waits (min_ F (by decide)) (me_0 F _ _) rfl rfl dd_X12_waits (by decide) ⟨rfl, rfl⟩ (by decide) (Nat.le_of_ble_eq_true rfl) dX12_goOn_100 rfl ?_
            refine j_if_eq C 2 dX12_goOn_103 (by decide) ?_ ?_
            · refine j_lv [(0, .ref (eAd E 0)), (1, .int x1)] [1, 0] rfl ?_
              exact hrec2 (a10.2, x1)
            · exact j_vret2 C Q dX12_goOn_106
          refine j_ite (fun q3 => ?_) (fun q3 => ?_)
          · refine j_tsIn C (3 : Int32) 107 dX12_goOn_51 q3 (by decide) (by decide) rfl (by decide) ?_
            refine j_aload_n C dX12_goOn_107 1 rfl ?_
            refine j_get (ci := 12) C hU_X12 rfl (min_ F (by decide)) (me_0 F _ _) 18 (by decide) rfl hF_X12_35 dX12_goOn_108 ?_
            refine j_aload_n C dX12_goOn_111 1 rfl ?_
            refine j_get (ci := 12) C hU_X12 rfl (min_ F (by decide)) (me_0 F _ _) 6 (by decide) rfl hF_X12_164 dX12_goOn_112 ?_
            refine j_chk (fun h11 => ?_)
            refine j_iald (t0 := 0) C (min_ F (by decide)) (me_7 F _ _) (mt0 F) (inb_in h11) dX12_goOn_115 ?_
            refine j_aload_n C dX12_goOn_116 1 rfl ?_
            refine j_get (ci := 12) C hU_X12 rfl (min_ F (by decide)) (me_0 F _ _) 16 (by decide) rfl hF_X12_29 dX12_goOn_117 ?_
            refine j_aload_n C dX12_goOn_120 1 rfl ?_
            refine j_get (ci := 12) C hU_X12 rfl (min_ F (by decide)) (me_0 F _ _) 6 (by decide) rfl hF_X12_164 dX12_goOn_121 ?_
            refine j_chk (fun h12 => ?_)
            refine j_iald (t0 := 0) C (min_ F (by decide)) (me_5 F _ _) (mt0 F) (inb_in h12) dX12_goOn_124 ?_
            refine j_icmp_ge C 157 dX12_goOn_125 (by decide) ?_ ?_
            · refine j_aload_n C dX12_goOn_157 1 rfl ?_
              refine j_get (ci := 12) C hU_X12 rfl (min_ F (by decide)) (me_0 F _ _) 18 (by decide) rfl hF_X12_35 dX12_goOn_158 ?_
              refine j_aload_n C dX12_goOn_161 1 rfl ?_
              refine j_get (ci := 12) C hU_X12 rfl (min_ F (by decide)) (me_0 F _ _) 6 (by decide) rfl hF_X12_164 dX12_goOn_162 ?_
              refine j_iconst C (0 : Int32) dX12_goOn_165 (by decide) ?_
              refine j_chk (fun h13 => ?_)
              refine j_iast (t0 := 0) C (min_ F (by decide)) (me_7 F _ _) (by rw [wI_o, wI_2]; exact (me_7 F _ _)) (mt0 F) (inb_in h13) dX12_goOn_166 (fun σ14 => ?_)
              refine j_aload_n C dX12_goOn_167 1 rfl ?_
              refine j_dup C dX12_goOn_168 rfl ?_
              refine j_get (ci := 12) C hU_X12 rfl (min_ F (by decide)) (me_0 F _ _) 6 (by decide) rfl hF_X12_164 dX12_goOn_169 ?_
              refine j_iconst C (1 : Int32) dX12_goOn_172 (by decide) ?_
              refine j_iadd C dX12_goOn_173 ?_
              refine j_put (ci := 12) C hU_X12 tyX12_ok nmX12 rfl (min_ F (by decide)) (me_0 F _ _) 6 (by decide) (Nat.le_of_ble_eq_true rfl) (by rw [wI_o, wI_2]; exact (me_0 F _ _)) (fun o' h' => ⟨wI_ne _ _ _ h', rfl⟩) rfl (by first | rfl | decide) (by first | rfl | decide) hF_X12_164 dX12_goOn_174 (fun σ15 => ?_)
              refine j_goto C 2 dX12_goOn_177 (by decide) ?_
              refine j_lv [(0, .ref (eAd E 0)), (1, .int x1)] [1, 0] rfl ?_
              exact hrec2 (σ15, x1)
            · refine j_aload_n C dX12_goOn_128 1 rfl ?_
              refine j_get (ci := 12) C hU_X12 rfl (min_ F (by decide)) (me_0 F _ _) 18 (by decide) rfl hF_X12_35 dX12_goOn_129 ?_
              refine j_aload_n C dX12_goOn_132 1 rfl ?_
              refine j_get (ci := 12) C hU_X12 rfl (min_ F (by decide)) (me_0 F _ _) 6 (by decide) rfl hF_X12_164 dX12_goOn_133 ?_
              refine j_dup2 C dX12_goOn_136 rfl rfl ?_
              refine j_chk (fun h16 => ?_)
              refine j_iald (t0 := 0) C (min_ F (by decide)) (me_7 F _ _) (mt0 F) (inb_in h16) dX12_goOn_137 ?_
              refine j_iconst C (1 : Int32) dX12_goOn_138 (by decide) ?_
              refine j_iadd C dX12_goOn_139 ?_
              refine j_chk (fun h17 => ?_)
              refine j_iast (t0 := 0) C (min_ F (by decide)) (me_7 F _ _) (by rw [wI_o, wI_2]; exact (me_7 F _ _)) (mt0 F) (inb_in h17) dX12_goOn_140 (fun σ18 => ?_)
              refine j_aload_n C dX12_goOn_141 1 rfl ?_
              refine j_aload_n C dX12_goOn_142 1 rfl ?_
              refine j_get (ci := 12) C hU_X12 rfl (min_ F (by decide)) (me_0 F _ _) 15 (by decide) rfl hF_X12_26 dX12_goOn_143 ?_
              refine j_aload_n C dX12_goOn_146 1 rfl ?_
              refine j_get (ci := 12) C hU_X12 rfl (min_ F (by decide)) (me_0 F _ _) 6 (by decide) rfl hF_X12_164 dX12_goOn_147 ?_
              refine j_chk (fun h19 => ?_)
              refine j_iald (t0 := 0) C (min_ F (by decide)) (me_4 F _ _) (mt0 F) (inb_in h19) dX12_goOn_150 ?_
              refine j_put (ci := 12) C hU_X12 tyX12_ok nmX12 rfl (min_ F (by decide)) (me_0 F _ _) 6 (by decide) (Nat.le_of_ble_eq_true rfl) (by rw [wI_o, wI_2]; exact (me_0 F _ _)) (fun o' h' => ⟨wI_ne _ _ _ h', rfl⟩) rfl (by first | rfl | decide) (by first | rfl | decide) hF_X12_164 dX12_goOn_151 (fun σ20 => ?_)
              refine j_goto C 2 dX12_goOn_154 (by decide) ?_
              refine j_lv [(0, .ref (eAd E 0)), (1, .int x1)] [1, 0] rfl ?_
              exact hrec2 (σ20, x1)
          refine j_tsOut C 180 dX12_goOn_51 (by have z0 := lv_neT (k := (0 : Int32)) (a := 0) q0 (by decide); have z1 := lv_neT (k := (1 : Int32)) (a := 1) q1 (by decide); have z2 := lv_neT (k := (2 : Int32)) (a := 2) q2 (by decide); have z3 := lv_neT (k := (3 : Int32)) (a := 3) q3 (by decide); omega) (by decide) ?_
          refine j_aload_n C dX12_goOn_180 1 rfl ?_
          refine j_get (ci := 12) C hU_X12 rfl (min_ F (by decide)) (me_0 F _ _) 22 (by decide) rfl hF_X12_187 dX12_goOn_181 ?_
          refine j_bipush C (20 : Int32) dX12_goOn_184 (by decide) ?_
          refine j_icmp_ge C 214 dX12_goOn_186 (by decide) ?_ ?_
          · refine j_lv [(0, .ref (eAd E 0)), (1, .int x1)] [1, 0] rfl ?_
            exact hB214 rec2 hrec2 σ x1
          · refine j_aload_n C dX12_goOn_189 1 rfl ?_
            refine j_get (ci := 12) C hU_X12 rfl (min_ F (by decide)) (me_0 F _ _) 23 (by decide) rfl hF_X12_47 dX12_goOn_190 ?_
            refine j_aload_n C dX12_goOn_193 1 rfl ?_
            refine j_get (ci := 12) C hU_X12 rfl (min_ F (by decide)) (me_0 F _ _) 22 (by decide) rfl hF_X12_187 dX12_goOn_194 ?_
            refine j_aload_n C dX12_goOn_197 1 rfl ?_
            refine j_get (ci := 12) C hU_X12 rfl (min_ F (by decide)) (me_0 F _ _) 5 (by decide) rfl hF_X12_190 dX12_goOn_198 ?_
            refine j_iconst C (1 : Int32) dX12_goOn_201 (by decide) ?_
            refine j_iadd C dX12_goOn_202 ?_
            refine j_chk (fun h21 => ?_)
            refine j_iast (t0 := 0) C (min_ F (by decide)) (me_11 F _ _) (by rw [wI_o, wI_2]; exact (me_11 F _ _)) (mt0 F) (inb_in h21) dX12_goOn_203 (fun σ22 => ?_)
            refine j_aload_n C dX12_goOn_204 1 rfl ?_
            refine j_dup C dX12_goOn_205 rfl ?_
            refine j_get (ci := 12) C hU_X12 rfl (min_ F (by decide)) (me_0 F _ _) 22 (by decide) rfl hF_X12_187 dX12_goOn_206 ?_
            refine j_iconst C (1 : Int32) dX12_goOn_209 (by decide) ?_
            refine j_iadd C dX12_goOn_210 ?_
            refine j_put (ci := 12) C hU_X12 tyX12_ok nmX12 rfl (min_ F (by decide)) (me_0 F _ _) 22 (by decide) (Nat.le_of_ble_eq_true rfl) (by rw [wI_o, wI_2]; exact (me_0 F _ _)) (fun o' h' => ⟨wI_ne _ _ _ h', rfl⟩) rfl (by first | rfl | decide) (by first | rfl | decide) hF_X12_187 dX12_goOn_211 (fun σ23 => ?_)
            refine j_lv [(0, .ref (eAd E 0)), (1, .int x1)] [1, 0] rfl ?_
            exact hB214 rec2 hrec2 σ23 x1
        · refine j_aload_n C dX12_goOn_36 1 rfl ?_
          refine j_iconst C (3 : Int32) dX12_goOn_37 (by decide) ?_
          refine j_bind (fun σ25 h24 => ?_)
          refine j_callVv (ci := 12) C [.int (3 : Int32)] (c_X12_stopBy F h24) hM_X12_173 hI_X12_stopBy hS_X12_stopBy hZ_X12 hC_X12_stopBy (min_ F (by decide)) (me_0 F _ _) rfl rfl dd_X12_stopBy (by decide) ⟨rfl, rfl⟩ (by decide) (Nat.le_of_ble_eq_true rfl) dX12_goOn_38 rfl ?_
          exact j_vret2 C Q dX12_goOn_41
      · refine j_aload_n C dX12_goOn_21 0 rfl ?_
        refine j_iconst C (0 : Int32) dX12_goOn_22 (by decide) ?_
        refine j_bind (fun σ27 h26 => ?_)
        refine j_callVv (ci := 12) C [.int (0 : Int32)] (c_X12_stopBy F h26) hM_X12_173 hI_X12_stopBy hS_X12_stopBy hZ_X12 hC_X12_stopBy (min_ F (by decide)) (me_0 F _ _) rfl rfl dd_X12_stopBy (by decide) ⟨rfl, rfl⟩ (by decide) (Nat.le_of_ble_eq_true rfl) dX12_goOn_23 rfl ?_
        exact j_vret2 C Q dX12_goOn_26
  unfold X12_goOn
  refine j_iconst C (0 : Int32) dX12_goOn_0 (by decide) ?_
  refine j_istore_n (lv' := [(1, .int (0 : Int32)), (0, .ref (eAd E 0))]) C dX12_goOn_1 (by decide) rfl ?_
  refine j_lv [(0, .ref (eAd E 0)), (1, .int (0 : Int32))] [1, 0] rfl ?_
  exact hL2  FU (σ, (0 : Int32))
set_option maxRecDepth 100000 in
set_option maxHeartbeats 4000000 in
theorem c_X12_goOn {E : EnvT} {cs : Nat → ClassId} (F : MF E cs) {σ : Mem} {r : Mem} (h : X12_goOn σ = some r) : CT E yX12_goOn cX12_goOn 2 none rm_X12_goOn [.ref (eAd E 0)] σ (RQv r) :=
  ct_M F (by decide) (Nat.le_of_ble_eq_true rfl) (fun E' ea F' C Q => by rw [← ea]; exact m_X12_goOn F'  C Q h)
theorem dd_X12_goOn : yX12_goOn.cls ≠ "java/lang/invoke/MethodHandle" ∧ yX12_goOn.cls ≠ "java/lang/invoke/VarHandle" ∧ (parseMethodDescriptor yX12_goOn.desc).map (fun d => d.parameters.length) = some 0 := by decide +kernel
def X12_turn_b419 (rec344 : (Mem × Int32) → Option (Mem)) (σ : Mem) (v10 : Int32) : Option (Mem) :=
  lete (v10 + (1 : Int32)) (fun x1 =>
  rec344 (σ, x1))
def X12_turn_l344 (rec344 : (Mem × Int32) → Option (Mem)) (σ : Mem) (v10 : Int32) : Option (Mem) :=
  if (σ.1 0 26) ≤ v10 then
  (some σ)
  else
  (chk (inb v10 8) (
  if (σ.1 17 (ix v10)) = (0 : Int32) then
  (X12_turn_b419 rec344 σ v10)
  else
  (chk (inb v10 8) (
  chk (nz (σ.1 13 (ix v10))) (
  if ¬ ((σ.1 0 5) - (σ.1 0 5) / (σ.1 13 (ix v10)) * (σ.1 13 (ix v10))) = (0 : Int32) then
  (X12_turn_b419 rec344 σ v10)
  else
  (bindo (X12_isLost σ v10 (σ.1 0 5)) (fun r5 =>
  if ¬ r5 = (0 : Int32) then
  (X12_turn_b419 rec344 σ v10)
  else
  (bindo (X12_corrected σ v10 (σ.1 0 5)) (fun r7 =>
  chk (inb v10 8) (
  if (lg_cmp r7 (((σ.1 18 (ix v10))).toInt64)) ≤ (0 : Int32) then
  (X12_turn_b419 rec344 σ v10)
  else
  (bindo (X12_stopBy σ (1 : Int32)) (fun σ10 =>
  some σ10))))))))))))
def X12_turn_b233 (σ : Mem) (v1 : Int32) (v3 : Int32) (v4 : Int32) (v6 : Int32) (v7 : Int32) (v8 : Int32) (s0 : Int32) : Option (Mem) :=
  chk (inb v3 21007) (
  lete (wI σ 2 (ix v3) v4) (fun σ2 =>
  chk (inb (v3 + (1 : Int32)) 21007) (
  lete (wI σ2 2 (ix (v3 + (1 : Int32))) v6) (fun σ4 =>
  chk (inb (v3 + (2 : Int32)) 21007) (
  lete (wI σ4 2 (ix (v3 + (2 : Int32))) v7) (fun σ6 =>
  chk (inb (v3 + (3 : Int32)) 21007) (
  lete (wI σ6 2 (ix (v3 + (3 : Int32))) v8) (fun σ8 =>
  chk (inb (v3 + (4 : Int32)) 21007) (
  lete (wI σ8 2 (ix (v3 + (4 : Int32))) s0) (fun σ10 =>
  chk (inb (v3 + (5 : Int32)) 21007) (
  lete (wI σ10 2 (ix (v3 + (5 : Int32))) (σ10.1 0 24)) (fun σ12 =>
  chk (inb (v3 + (6 : Int32)) 21007) (
  lete (wI σ12 2 (ix (v3 + (6 : Int32))) (σ12.1 0 25)) (fun σ14 =>
  if v1 = (0 : Int32) then
  (loopF (fun (rec : (Mem × Int32) → Option (Mem)) (s : Mem × Int32) => X12_turn_l344 rec s.1 s.2)  FU (σ14, (0 : Int32)))
  else
  (lete (wI σ14 0 11 ((σ14.1 0 11) + (1 : Int32))) (fun σ15 =>
  if ¬ (σ15.1 0 11) = (10 : Int32) then
  (lete (wI σ15 0 4 (2 : Int32)) (fun σ16 =>
  some σ16))
  else
  (lete (wI σ15 0 4 (3 : Int32)) (fun σ17 =>
  some σ17))))))))))))))))))
def X12_turn_b164 (σ : Mem) (v1 : Int32) (v2 : Int32) (v3 : Int32) (v4 : Int32) (v6 : Int32) (s0 : Int32) : Option (Mem) :=
  chk (inb (v2 + (3 : Int32)) 21007) (
  lete (σ.1 2 (ix (v2 + (3 : Int32)))) (fun x2 =>
  lete (x2 + ((s0 - ((2 : Int32) * (x2 - (20 : Int32)))) / (16 : Int32))) (fun x3 =>
  chk (inb (v2 + (1 : Int32)) 21007) (
  if v6 ≤ (σ.1 2 (ix (v2 + (1 : Int32)))) then
  (chk (inb (v2 + (4 : Int32)) 21007) (
  X12_turn_b233 σ v1 v3 v4 v6 s0 x3 ((σ.1 2 (ix (v2 + (4 : Int32)))) / (2 : Int32))))
  else
  (chk (inb (v2 + (1 : Int32)) 21007) (
  X12_turn_b233 σ v1 v3 v4 v6 s0 x3 ((3 : Int32) * (v6 - (σ.1 2 (ix (v2 + (1 : Int32))))))))))))
def X12_turn_b120 (σ : Mem) (v1 : Int32) (v2 : Int32) (v3 : Int32) (v4 : Int32) (v5 : Int32) : Option (Mem) :=
  lete (v4 + v5) (fun x1 =>
  bindo (X12_torqueAt σ x1 (σ.1 0 25)) (fun r3 =>
  lete ((x1 * (r3 + (50 : Int32))) / (1000 : Int32)) (fun x4 =>
  if (0 : Int32) ≤ x4 then
  (X12_turn_b164 σ v1 v2 v3 x1 r3 x4)
  else
  (X12_turn_b164 σ v1 v2 v3 x1 r3 (0 : Int32)))))
def X12_turn_b118 (σ : Mem) (v1 : Int32) (v2 : Int32) (v3 : Int32) (v4 : Int32) (s0 : Int32) : Option (Mem) :=
  X12_turn_b120 σ v1 v2 v3 v4 s0
def X12_turn_b42 (σ : Mem) (v1 : Int32) : Option (Mem) :=
  lete ((7 : Int32) * (σ.1 0 5)) (fun x1 =>
  lete (wI σ 0 5 ((σ.1 0 5) + (1 : Int32))) (fun σ2 =>
  lete ((7 : Int32) * (σ2.1 0 5)) (fun x3 =>
  chk (inb x1 21007) (
  lete (σ2.1 2 (ix x1)) (fun x5 =>
  chk (nz (σ2.1 0 3)) (
  lete (((σ2.1 0 24) - x5) / (σ2.1 0 3)) (fun x7 =>
  if ¬ x7 = (0 : Int32) then
  (X12_turn_b120 σ2 v1 x1 x3 x5 x7)
  else
  (if (σ2.1 0 24) = x5 then
  (X12_turn_b120 σ2 v1 x1 x3 x5 x7)
  else
  (if (σ2.1 0 24) ≤ x5 then
  (X12_turn_b118 σ2 v1 x1 x3 x5 (-1 : Int32))
  else
  (X12_turn_b118 σ2 v1 x1 x3 x5 (1 : Int32)))))))))))
def X12_turn_b25 (σ : Mem) (s0 : Int32) : Option (Mem) :=
  if s0 = (0 : Int32) then
  (X12_turn_b42 σ s0)
  else
  (lete (wI σ 0 24 (800 : Int32)) (fun σ1 =>
  lete (wI σ1 0 25 (0 : Int32)) (fun σ2 =>
  X12_turn_b42 σ2 s0)))
def X12_turn_b12 (σ : Mem) : Option (Mem) :=
  if ¬ (σ.1 0 4) = (2 : Int32) then
  (X12_turn_b25 σ (0 : Int32))
  else
  (X12_turn_b25 σ (1 : Int32))
def X12_turn (σ : Mem) : Option (Mem) :=
  if ¬ (σ.1 0 4) = (1 : Int32) then
  (X12_turn_b12 σ)
  else
  (bindo (X12_goOn σ) (fun σ2 =>
  X12_turn_b12 σ2))
abbrev rm_X12_turn : Room := { frames := 4, cells := 0, slots := 0, locals := 90 }
set_option maxRecDepth 100000 in
set_option maxHeartbeats 4000000 in
theorem m_X12_turn {E : EnvT} {cs : Nat → ClassId} (F : MF E cs) {σ : Mem} (C : CX E cX12_turn RX12 11 rm_X12_turn) {r0 : Mem} (Q : QE E 0 0 none (RQv r0)) : J E 11 0 0 r0 (X12_turn σ) σ 0 [(0, .ref (eAd E 0))] [] := by
  have hB419 : ∀ (rec344 : (Mem × Int32) → Option (Mem)) (hrec344 : ∀ a : Mem × Int32, J E 11 0 0 r0 (rec344 a) a.1 344 [(0, .ref (eAd E 0)), (10, .int a.2)] []) (σ : Mem) (v10 : Int32), J E 11 0 0 r0 (X12_turn_b419 rec344 σ v10) σ 419 [(0, .ref (eAd E 0)), (10, .int v10)] [] := by
    intro rec344 hrec344 σ v10
    unfold X12_turn_b419
    refine j_iincN (lf := fun x1 => [(10, .int x1), (0, .ref (eAd E 0))]) C dX12_turn_419 1 rfl (by rfl) (by decide) (fun _ => rfl) (fun x1 => ?_)
    refine j_goto C 344 dX12_turn_422 (by decide) ?_
    refine j_lv [(0, .ref (eAd E 0)), (10, .int x1)] [1, 0] rfl ?_
    exact hrec344 (σ, x1)
  have hL344 : ∀ (f : Nat) (a : Mem × Int32), J E 11 0 0 r0 (loopF (fun (rec : (Mem × Int32) → Option (Mem)) (s : Mem × Int32) => X12_turn_l344 rec s.1 s.2) f a) a.1 344 [(0, .ref (eAd E 0)), (10, .int a.2)] [] := by
    refine j_loop (M := fun (a : Mem × Int32) => a.1) (L := fun (a : Mem × Int32) => [(0, .ref (eAd E 0)), (10, .int a.2)]) (S := fun (a : Mem × Int32) => []) (fun rec344 hrec344 a => ?_)
    obtain ⟨σ, v10⟩ := a
    show J E 11 0 0 r0 (X12_turn_l344 rec344 σ v10) σ 344 [(0, .ref (eAd E 0)), (10, .int v10)] []
    unfold X12_turn_l344
    refine j_iload C dX12_turn_344 1 rfl ?_
    refine j_aload_n C dX12_turn_346 0 rfl ?_
    refine j_get (ci := 12) C hU_X12 rfl (min_ F (by decide)) (me_0 F _ _) 26 (by decide) rfl hF_X12_205 dX12_turn_347 ?_
    refine j_icmp_ge C 425 dX12_turn_350 (by decide) ?_ ?_
    · exact j_vret2 C Q dX12_turn_425
    · refine j_aload_n C dX12_turn_353 0 rfl ?_
      refine j_get (ci := 12) C hU_X12 rfl (min_ F (by decide)) (me_0 F _ _) 32 (by decide) rfl hF_X12_65 dX12_turn_354 ?_
      refine j_iload C dX12_turn_357 1 rfl ?_
      refine j_chk (fun h1 => ?_)
      refine j_zald (t0 := 2) C (min_ F (by decide)) (me_17 F _ _) (mt2 F) (inb_in h1) dX12_turn_359 ?_
      refine j_if_eq C 419 dX12_turn_360 (by decide) ?_ ?_
      · refine j_lv [(0, .ref (eAd E 0)), (10, .int v10)] [0, 1] rfl ?_
        exact hB419 rec344 hrec344 σ v10
      · refine j_aload_n C dX12_turn_363 0 rfl ?_
        refine j_get (ci := 12) C hU_X12 rfl (min_ F (by decide)) (me_0 F _ _) 5 (by decide) rfl hF_X12_190 dX12_turn_364 ?_
        refine j_aload_n C dX12_turn_367 0 rfl ?_
        refine j_get (ci := 12) C hU_X12 rfl (min_ F (by decide)) (me_0 F _ _) 28 (by decide) rfl hF_X12_53 dX12_turn_368 ?_
        refine j_iload C dX12_turn_371 1 rfl ?_
        refine j_chk (fun h2 => ?_)
        refine j_iald (t0 := 0) C (min_ F (by decide)) (me_13 F _ _) (mt0 F) (inb_in h2) dX12_turn_373 ?_
        refine j_chk (fun h3 => ?_)
        refine j_iremK C dX12_turn_374 (nz_ne h3) ?_
        refine j_if_ne C 419 dX12_turn_375 (by decide) ?_ ?_
        · refine j_lv [(0, .ref (eAd E 0)), (10, .int v10)] [0, 1] rfl ?_
          exact hB419 rec344 hrec344 σ v10
        · refine j_aload_n C dX12_turn_378 0 rfl ?_
          refine j_iload C dX12_turn_379 1 rfl ?_
          refine j_aload_n C dX12_turn_381 0 rfl ?_
          refine j_get (ci := 12) C hU_X12 rfl (min_ F (by decide)) (me_0 F _ _) 5 (by decide) rfl hF_X12_190 dX12_turn_382 ?_
          refine j_bind (fun r5 h4 => ?_)
          refine j_callVi (ci := 12) C [.int v10, .int (σ.1 0 5)] (c_X12_isLost F h4) hM_X12_208 hI_X12_isLost hS_X12_isLost hZ_X12 hC_X12_isLost (min_ F (by decide)) (me_0 F _ _) rfl rfl dd_X12_isLost (by decide) ⟨rfl, rfl⟩ (by decide) (Nat.le_of_ble_eq_true rfl) dX12_turn_385 rfl ?_
          refine j_if_ne C 419 dX12_turn_388 (by decide) ?_ ?_
          · refine j_lv [(0, .ref (eAd E 0)), (10, .int v10)] [0, 1] rfl ?_
            exact hB419 rec344 hrec344 σ v10
          · refine j_aload_n C dX12_turn_391 0 rfl ?_
            refine j_iload C dX12_turn_392 1 rfl ?_
            refine j_aload_n C dX12_turn_394 0 rfl ?_
            refine j_get (ci := 12) C hU_X12 rfl (min_ F (by decide)) (me_0 F _ _) 5 (by decide) rfl hF_X12_190 dX12_turn_395 ?_
            refine j_bind (fun r7 h6 => ?_)
            refine j_callVl (ci := 12) C [.int v10, .int (σ.1 0 5)] (c_X12_corrected F h6) hM_X12_212 hI_X12_corrected hS_X12_corrected hZ_X12 hC_X12_corrected (min_ F (by decide)) (me_0 F _ _) rfl rfl dd_X12_corrected (by decide) ⟨rfl, rfl⟩ (by decide) (Nat.le_of_ble_eq_true rfl) dX12_turn_398 rfl ?_
            refine j_aload_n C dX12_turn_401 0 rfl ?_
            refine j_get (ci := 12) C hU_X12 rfl (min_ F (by decide)) (me_0 F _ _) 33 (by decide) rfl hF_X12_69 dX12_turn_402 ?_
            refine j_iload C dX12_turn_405 1 rfl ?_
            refine j_chk (fun h8 => ?_)
            refine j_iald (t0 := 0) C (min_ F (by decide)) (me_18 F _ _) (mt0 F) (inb_in h8) dX12_turn_407 ?_
            refine j_i2l C dX12_turn_408 ?_
            refine j_lcmp C dX12_turn_409 ?_
            refine j_if_le C 419 dX12_turn_410 (by decide) ?_ ?_
            · refine j_lv [(0, .ref (eAd E 0)), (10, .int v10)] [0, 1] rfl ?_
              exact hB419 rec344 hrec344 σ v10
            · refine j_aload_n C dX12_turn_413 0 rfl ?_
              refine j_iconst C (1 : Int32) dX12_turn_414 (by decide) ?_
              refine j_bind (fun σ10 h9 => ?_)
              refine j_callVv (ci := 12) C [.int (1 : Int32)] (c_X12_stopBy F h9) hM_X12_173 hI_X12_stopBy hS_X12_stopBy hZ_X12 hC_X12_stopBy (min_ F (by decide)) (me_0 F _ _) rfl rfl dd_X12_stopBy (by decide) ⟨rfl, rfl⟩ (by decide) (Nat.le_of_ble_eq_true rfl) dX12_turn_415 rfl ?_
              exact j_vret2 C Q dX12_turn_418
  have hB233 : ∀ (σ : Mem) (v1 : Int32) (v3 : Int32) (v4 : Int32) (v6 : Int32) (v7 : Int32) (v8 : Int32) (s0 : Int32), J E 11 0 0 r0 (X12_turn_b233 σ v1 v3 v4 v6 v7 v8 s0) σ 233 [(0, .ref (eAd E 0)), (1, .int v1), (3, .int v3), (4, .int v4), (6, .int v6), (7, .int v7), (8, .int v8)] [.int s0] := by
    intro σ v1 v3 v4 v6 v7 v8 s0
    unfold X12_turn_b233
    refine j_istore (lv' := [(9, .int s0), (0, .ref (eAd E 0)), (1, .int v1), (3, .int v3), (4, .int v4), (6, .int v6), (7, .int v7), (8, .int v8)]) C dX12_turn_233 (by decide) rfl ?_
    refine j_aload_n C dX12_turn_235 1 rfl ?_
    refine j_get (ci := 12) C hU_X12 rfl (min_ F (by decide)) (me_0 F _ _) 12 (by decide) rfl hF_X12_20 dX12_turn_236 ?_
    refine j_iload_n C dX12_turn_239 3 rfl ?_
    refine j_iload C dX12_turn_240 4 rfl ?_
    refine j_chk (fun h1 => ?_)
    refine j_iast (t0 := 0) C (min_ F (by decide)) (me_2 F _ _) (by rw [wI_o, wI_2]; exact (me_2 F _ _)) (mt0 F) (inb_in h1) dX12_turn_242 (fun σ2 => ?_)
    refine j_aload_n C dX12_turn_243 1 rfl ?_
    refine j_get (ci := 12) C hU_X12 rfl (min_ F (by decide)) (me_0 F _ _) 12 (by decide) rfl hF_X12_20 dX12_turn_244 ?_
    refine j_iload_n C dX12_turn_247 3 rfl ?_
    refine j_iconst C (1 : Int32) dX12_turn_248 (by decide) ?_
    refine j_iadd C dX12_turn_249 ?_
    refine j_iload C dX12_turn_250 5 rfl ?_
    refine j_chk (fun h3 => ?_)
    refine j_iast (t0 := 0) C (min_ F (by decide)) (me_2 F _ _) (by rw [wI_o, wI_2]; exact (me_2 F _ _)) (mt0 F) (inb_in h3) dX12_turn_252 (fun σ4 => ?_)
    refine j_aload_n C dX12_turn_253 1 rfl ?_
    refine j_get (ci := 12) C hU_X12 rfl (min_ F (by decide)) (me_0 F _ _) 12 (by decide) rfl hF_X12_20 dX12_turn_254 ?_
    refine j_iload_n C dX12_turn_257 3 rfl ?_
    refine j_iconst C (2 : Int32) dX12_turn_258 (by decide) ?_
    refine j_iadd C dX12_turn_259 ?_
    refine j_iload C dX12_turn_260 6 rfl ?_
    refine j_chk (fun h5 => ?_)
    refine j_iast (t0 := 0) C (min_ F (by decide)) (me_2 F _ _) (by rw [wI_o, wI_2]; exact (me_2 F _ _)) (mt0 F) (inb_in h5) dX12_turn_262 (fun σ6 => ?_)
    refine j_aload_n C dX12_turn_263 1 rfl ?_
    refine j_get (ci := 12) C hU_X12 rfl (min_ F (by decide)) (me_0 F _ _) 12 (by decide) rfl hF_X12_20 dX12_turn_264 ?_
    refine j_iload_n C dX12_turn_267 3 rfl ?_
    refine j_iconst C (3 : Int32) dX12_turn_268 (by decide) ?_
    refine j_iadd C dX12_turn_269 ?_
    refine j_iload C dX12_turn_270 7 rfl ?_
    refine j_chk (fun h7 => ?_)
    refine j_iast (t0 := 0) C (min_ F (by decide)) (me_2 F _ _) (by rw [wI_o, wI_2]; exact (me_2 F _ _)) (mt0 F) (inb_in h7) dX12_turn_272 (fun σ8 => ?_)
    refine j_aload_n C dX12_turn_273 1 rfl ?_
    refine j_get (ci := 12) C hU_X12 rfl (min_ F (by decide)) (me_0 F _ _) 12 (by decide) rfl hF_X12_20 dX12_turn_274 ?_
    refine j_iload_n C dX12_turn_277 3 rfl ?_
    refine j_iconst C (4 : Int32) dX12_turn_278 (by decide) ?_
    refine j_iadd C dX12_turn_279 ?_
    refine j_iload C dX12_turn_280 0 rfl ?_
    refine j_chk (fun h9 => ?_)
    refine j_iast (t0 := 0) C (min_ F (by decide)) (me_2 F _ _) (by rw [wI_o, wI_2]; exact (me_2 F _ _)) (mt0 F) (inb_in h9) dX12_turn_282 (fun σ10 => ?_)
    refine j_aload_n C dX12_turn_283 1 rfl ?_
    refine j_get (ci := 12) C hU_X12 rfl (min_ F (by decide)) (me_0 F _ _) 12 (by decide) rfl hF_X12_20 dX12_turn_284 ?_
    refine j_iload_n C dX12_turn_287 3 rfl ?_
    refine j_iconst C (5 : Int32) dX12_turn_288 (by decide) ?_
    refine j_iadd C dX12_turn_289 ?_
    refine j_aload_n C dX12_turn_290 1 rfl ?_
    refine j_get (ci := 12) C hU_X12 rfl (min_ F (by decide)) (me_0 F _ _) 24 (by decide) rfl hF_X12_193 dX12_turn_291 ?_
    refine j_chk (fun h11 => ?_)
    refine j_iast (t0 := 0) C (min_ F (by decide)) (me_2 F _ _) (by rw [wI_o, wI_2]; exact (me_2 F _ _)) (mt0 F) (inb_in h11) dX12_turn_294 (fun σ12 => ?_)
    refine j_aload_n C dX12_turn_295 1 rfl ?_
    refine j_get (ci := 12) C hU_X12 rfl (min_ F (by decide)) (me_0 F _ _) 12 (by decide) rfl hF_X12_20 dX12_turn_296 ?_
    refine j_iload_n C dX12_turn_299 3 rfl ?_
    refine j_bipush C (6 : Int32) dX12_turn_300 (by decide) ?_
    refine j_iadd C dX12_turn_302 ?_
    refine j_aload_n C dX12_turn_303 1 rfl ?_
    refine j_get (ci := 12) C hU_X12 rfl (min_ F (by decide)) (me_0 F _ _) 25 (by decide) rfl hF_X12_199 dX12_turn_304 ?_
    refine j_chk (fun h13 => ?_)
    refine j_iast (t0 := 0) C (min_ F (by decide)) (me_2 F _ _) (by rw [wI_o, wI_2]; exact (me_2 F _ _)) (mt0 F) (inb_in h13) dX12_turn_307 (fun σ14 => ?_)
    refine j_iload_n C dX12_turn_308 2 rfl ?_
    refine j_if_eq C 341 dX12_turn_309 (by decide) ?_ ?_
    · refine j_iconst C (0 : Int32) dX12_turn_341 (by decide) ?_
      refine j_istore (lv' := [(10, .int (0 : Int32)), (9, .int s0), (0, .ref (eAd E 0)), (1, .int v1), (3, .int v3), (4, .int v4), (6, .int v6), (7, .int v7), (8, .int v8)]) C dX12_turn_342 (by decide) rfl ?_
      refine j_lv [(0, .ref (eAd E 0)), (10, .int (0 : Int32))] [2, 0] rfl ?_
      exact hL344  FU (σ14, (0 : Int32))
    · refine j_aload_n C dX12_turn_312 1 rfl ?_
      refine j_dup C dX12_turn_313 rfl ?_
      refine j_get (ci := 12) C hU_X12 rfl (min_ F (by decide)) (me_0 F _ _) 11 (by decide) rfl hF_X12_170 dX12_turn_314 ?_
      refine j_iconst C (1 : Int32) dX12_turn_317 (by decide) ?_
      refine j_iadd C dX12_turn_318 ?_
      refine j_put (ci := 12) C hU_X12 tyX12_ok nmX12 rfl (min_ F (by decide)) (me_0 F _ _) 11 (by decide) (Nat.le_of_ble_eq_true rfl) (by rw [wI_o, wI_2]; exact (me_0 F _ _)) (fun o' h' => ⟨wI_ne _ _ _ h', rfl⟩) rfl (by first | rfl | decide) (by first | rfl | decide) hF_X12_170 dX12_turn_319 (fun σ15 => ?_)
      refine j_aload_n C dX12_turn_322 1 rfl ?_
      refine j_aload_n C dX12_turn_323 1 rfl ?_
      refine j_get (ci := 12) C hU_X12 rfl (min_ F (by decide)) (me_0 F _ _) 11 (by decide) rfl hF_X12_170 dX12_turn_324 ?_
      refine j_bipush C (10 : Int32) dX12_turn_327 (by decide) ?_
      refine j_icmp_ne C 336 dX12_turn_329 (by decide) ?_ ?_
      · refine j_iconst C (2 : Int32) dX12_turn_336 (by decide) ?_
        refine j_put (ci := 12) C hU_X12 tyX12_ok nmX12 rfl (min_ F (by decide)) (me_0 F _ _) 4 (by decide) (Nat.le_of_ble_eq_true rfl) (by rw [wI_o, wI_2]; exact (me_0 F _ _)) (fun o' h' => ⟨wI_ne _ _ _ h', rfl⟩) rfl (by first | rfl | decide) (by first | rfl | decide) hF_X12_118 dX12_turn_337 (fun σ16 => ?_)
        exact j_vret2 C Q dX12_turn_340
      · refine j_iconst C (3 : Int32) dX12_turn_332 (by decide) ?_
        refine j_goto C 337 dX12_turn_333 (by decide) ?_
        refine j_put (ci := 12) C hU_X12 tyX12_ok nmX12 rfl (min_ F (by decide)) (me_0 F _ _) 4 (by decide) (Nat.le_of_ble_eq_true rfl) (by rw [wI_o, wI_2]; exact (me_0 F _ _)) (fun o' h' => ⟨wI_ne _ _ _ h', rfl⟩) rfl (by first | rfl | decide) (by first | rfl | decide) hF_X12_118 dX12_turn_337 (fun σ17 => ?_)
        exact j_vret2 C Q dX12_turn_340
  have hB164 : ∀ (σ : Mem) (v1 : Int32) (v2 : Int32) (v3 : Int32) (v4 : Int32) (v6 : Int32) (s0 : Int32), J E 11 0 0 r0 (X12_turn_b164 σ v1 v2 v3 v4 v6 s0) σ 164 [(0, .ref (eAd E 0)), (1, .int v1), (2, .int v2), (3, .int v3), (4, .int v4), (6, .int v6)] [.int s0] := by
    intro σ v1 v2 v3 v4 v6 s0
    unfold X12_turn_b164
    refine j_istore (lv' := [(7, .int s0), (0, .ref (eAd E 0)), (1, .int v1), (2, .int v2), (3, .int v3), (4, .int v4), (6, .int v6)]) C dX12_turn_164 (by decide) rfl ?_
    refine j_aload_n C dX12_turn_166 1 rfl ?_
    refine j_get (ci := 12) C hU_X12 rfl (min_ F (by decide)) (me_0 F _ _) 12 (by decide) rfl hF_X12_20 dX12_turn_167 ?_
    refine j_iload_n C dX12_turn_170 3 rfl ?_
    refine j_iconst C (3 : Int32) dX12_turn_171 (by decide) ?_
    refine j_iadd C dX12_turn_172 ?_
    refine j_chk (fun h1 => ?_)
    refine j_iald (t0 := 0) C (min_ F (by decide)) (me_2 F _ _) (mt0 F) (inb_in h1) dX12_turn_173 ?_
    refine j_nmi (fun x2 => ?_)
    refine j_istore (lv' := [(8, .int x2), (7, .int s0), (0, .ref (eAd E 0)), (1, .int v1), (2, .int v2), (3, .int v3), (4, .int v4), (6, .int v6)]) C dX12_turn_174 (by decide) rfl ?_
    refine j_iload C dX12_turn_176 0 rfl ?_
    refine j_iload C dX12_turn_178 1 rfl ?_
    refine j_iconst C (2 : Int32) dX12_turn_180 (by decide) ?_
    refine j_iload C dX12_turn_181 0 rfl ?_
    refine j_bipush C (20 : Int32) dX12_turn_183 (by decide) ?_
    refine j_isub C dX12_turn_185 ?_
    refine j_imul C dX12_turn_186 ?_
    refine j_isub C dX12_turn_187 ?_
    refine j_bipush C (16 : Int32) dX12_turn_188 (by decide) ?_
    refine j_idivK C dX12_turn_190 (by decide) ?_
    refine j_iadd C dX12_turn_191 ?_
    refine j_nmi (fun x3 => ?_)
    refine j_istore (lv' := [(8, .int x3), (7, .int s0), (0, .ref (eAd E 0)), (1, .int v1), (2, .int v2), (3, .int v3), (4, .int v4), (6, .int v6)]) C dX12_turn_192 (by decide) rfl ?_
    refine j_iload C dX12_turn_194 7 rfl ?_
    refine j_aload_n C dX12_turn_196 2 rfl ?_
    refine j_get (ci := 12) C hU_X12 rfl (min_ F (by decide)) (me_0 F _ _) 12 (by decide) rfl hF_X12_20 dX12_turn_197 ?_
    refine j_iload_n C dX12_turn_200 4 rfl ?_
    refine j_iconst C (1 : Int32) dX12_turn_201 (by decide) ?_
    refine j_iadd C dX12_turn_202 ?_
    refine j_chk (fun h4 => ?_)
    refine j_iald (t0 := 0) C (min_ F (by decide)) (me_2 F _ _) (mt0 F) (inb_in h4) dX12_turn_203 ?_
    refine j_icmp_le C 223 dX12_turn_204 (by decide) ?_ ?_
    · refine j_aload_n C dX12_turn_223 2 rfl ?_
      refine j_get (ci := 12) C hU_X12 rfl (min_ F (by decide)) (me_0 F _ _) 12 (by decide) rfl hF_X12_20 dX12_turn_224 ?_
      refine j_iload_n C dX12_turn_227 4 rfl ?_
      refine j_iconst C (4 : Int32) dX12_turn_228 (by decide) ?_
      refine j_iadd C dX12_turn_229 ?_
      refine j_chk (fun h5 => ?_)
      refine j_iald (t0 := 0) C (min_ F (by decide)) (me_2 F _ _) (mt0 F) (inb_in h5) dX12_turn_230 ?_
      refine j_iconst C (2 : Int32) dX12_turn_231 (by decide) ?_
      refine j_idivK C dX12_turn_232 (by decide) ?_
      refine j_lv [(0, .ref (eAd E 0)), (1, .int v1), (3, .int v3), (4, .int v4), (6, .int v6), (7, .int s0), (8, .int x3)] [2, 3, 5, 6, 7, 1, 0] rfl ?_
      exact hB233 σ v1 v3 v4 v6 s0 x3 ((σ.1 2 (ix (v2 + (4 : Int32)))) / (2 : Int32))
    · refine j_iconst C (3 : Int32) dX12_turn_207 (by decide) ?_
      refine j_iload C dX12_turn_208 7 rfl ?_
      refine j_aload_n C dX12_turn_210 2 rfl ?_
      refine j_get (ci := 12) C hU_X12 rfl (min_ F (by decide)) (me_0 F _ _) 12 (by decide) rfl hF_X12_20 dX12_turn_211 ?_
      refine j_iload_n C dX12_turn_214 4 rfl ?_
      refine j_iconst C (1 : Int32) dX12_turn_215 (by decide) ?_
      refine j_iadd C dX12_turn_216 ?_
      refine j_chk (fun h6 => ?_)
      refine j_iald (t0 := 0) C (min_ F (by decide)) (me_2 F _ _) (mt0 F) (inb_in h6) dX12_turn_217 ?_
      refine j_isub C dX12_turn_218 ?_
      refine j_imul C dX12_turn_219 ?_
      refine j_goto C 233 dX12_turn_220 (by decide) ?_
      refine j_lv [(0, .ref (eAd E 0)), (1, .int v1), (3, .int v3), (4, .int v4), (6, .int v6), (7, .int s0), (8, .int x3)] [2, 3, 5, 6, 7, 1, 0] rfl ?_
      exact hB233 σ v1 v3 v4 v6 s0 x3 ((3 : Int32) * (v6 - (σ.1 2 (ix (v2 + (1 : Int32))))))
  have hB120 : ∀ (σ : Mem) (v1 : Int32) (v2 : Int32) (v3 : Int32) (v4 : Int32) (v5 : Int32), J E 11 0 0 r0 (X12_turn_b120 σ v1 v2 v3 v4 v5) σ 120 [(0, .ref (eAd E 0)), (1, .int v1), (2, .int v2), (3, .int v3), (4, .int v4), (5, .int v5)] [] := by
    intro σ v1 v2 v3 v4 v5
    unfold X12_turn_b120
    refine j_iload C dX12_turn_120 4 rfl ?_
    refine j_iload C dX12_turn_122 5 rfl ?_
    refine j_iadd C dX12_turn_124 ?_
    refine j_nmi (fun x1 => ?_)
    refine j_istore (lv' := [(4, .int x1), (0, .ref (eAd E 0)), (1, .int v1), (2, .int v2), (3, .int v3), (5, .int v5)]) C dX12_turn_125 (by decide) rfl ?_
    refine j_aload_n C dX12_turn_127 1 rfl ?_
    refine j_iload C dX12_turn_128 0 rfl ?_
    refine j_aload_n C dX12_turn_130 1 rfl ?_
    refine j_get (ci := 12) C hU_X12 rfl (min_ F (by decide)) (me_0 F _ _) 25 (by decide) rfl hF_X12_199 dX12_turn_131 ?_
    refine j_bind (fun r3 h2 => ?_)
    refine j_callVi (ci := 12) C [.int x1, .int (σ.1 0 25)] (c_X12_torqueAt F h2) hM_X12_129 hI_X12_torqueAt hS_X12_torqueAt hZ_X12 hC_X12_torqueAt (min_ F (by decide)) (me_0 F _ _) rfl rfl dd_X12_torqueAt (by decide) ⟨rfl, rfl⟩ (by decide) (Nat.le_of_ble_eq_true rfl) dX12_turn_134 rfl ?_
    refine j_istore (lv' := [(6, .int r3), (4, .int x1), (0, .ref (eAd E 0)), (1, .int v1), (2, .int v2), (3, .int v3), (5, .int v5)]) C dX12_turn_137 (by decide) rfl ?_
    refine j_iload C dX12_turn_139 1 rfl ?_
    refine j_iload C dX12_turn_141 0 rfl ?_
    refine j_bipush C (50 : Int32) dX12_turn_143 (by decide) ?_
    refine j_iadd C dX12_turn_145 ?_
    refine j_imul C dX12_turn_146 ?_
    refine j_sipush C (1000 : Int32) dX12_turn_147 (by decide) ?_
    refine j_idivK C dX12_turn_150 (by decide) ?_
    refine j_nmi (fun x4 => ?_)
    refine j_istore (lv' := [(7, .int x4), (6, .int r3), (4, .int x1), (0, .ref (eAd E 0)), (1, .int v1), (2, .int v2), (3, .int v3), (5, .int v5)]) C dX12_turn_151 (by decide) rfl ?_
    refine j_iload C dX12_turn_153 0 rfl ?_
    refine j_if_ge C 162 dX12_turn_155 (by decide) ?_ ?_
    · refine j_iload C dX12_turn_162 0 rfl ?_
      refine j_lv [(0, .ref (eAd E 0)), (1, .int v1), (2, .int v2), (3, .int v3), (4, .int x1), (6, .int r3)] [3, 4, 5, 6, 2, 1] rfl ?_
      exact hB164 σ v1 v2 v3 x1 r3 x4
    · refine j_iconst C (0 : Int32) dX12_turn_158 (by decide) ?_
      refine j_goto C 164 dX12_turn_159 (by decide) ?_
      refine j_lv [(0, .ref (eAd E 0)), (1, .int v1), (2, .int v2), (3, .int v3), (4, .int x1), (6, .int r3)] [3, 4, 5, 6, 2, 1] rfl ?_
      exact hB164 σ v1 v2 v3 x1 r3 (0 : Int32)
  have hB118 : ∀ (σ : Mem) (v1 : Int32) (v2 : Int32) (v3 : Int32) (v4 : Int32) (s0 : Int32), J E 11 0 0 r0 (X12_turn_b118 σ v1 v2 v3 v4 s0) σ 118 [(0, .ref (eAd E 0)), (1, .int v1), (2, .int v2), (3, .int v3), (4, .int v4)] [.int s0] := by
    intro σ v1 v2 v3 v4 s0
    unfold X12_turn_b118
    refine j_istore (lv' := [(5, .int s0), (0, .ref (eAd E 0)), (1, .int v1), (2, .int v2), (3, .int v3), (4, .int v4)]) C dX12_turn_118 (by decide) rfl ?_
    refine j_lv [(0, .ref (eAd E 0)), (1, .int v1), (2, .int v2), (3, .int v3), (4, .int v4), (5, .int s0)] [1, 2, 3, 4, 5, 0] rfl ?_
    exact hB120 σ v1 v2 v3 v4 s0
  have hB42 : ∀ (σ : Mem) (v1 : Int32), J E 11 0 0 r0 (X12_turn_b42 σ v1) σ 42 [(0, .ref (eAd E 0)), (1, .int v1)] [] := by
    intro σ v1
    unfold X12_turn_b42
    refine j_bipush C (7 : Int32) dX12_turn_42 (by decide) ?_
    refine j_aload_n C dX12_turn_44 0 rfl ?_
    refine j_get (ci := 12) C hU_X12 rfl (min_ F (by decide)) (me_0 F _ _) 5 (by decide) rfl hF_X12_190 dX12_turn_45 ?_
    refine j_imul C dX12_turn_48 ?_
    refine j_nmi (fun x1 => ?_)
    refine j_istore_n (lv' := [(2, .int x1), (0, .ref (eAd E 0)), (1, .int v1)]) C dX12_turn_49 (by decide) rfl ?_
    refine j_aload_n C dX12_turn_50 1 rfl ?_
    refine j_dup C dX12_turn_51 rfl ?_
    refine j_get (ci := 12) C hU_X12 rfl (min_ F (by decide)) (me_0 F _ _) 5 (by decide) rfl hF_X12_190 dX12_turn_52 ?_
    refine j_iconst C (1 : Int32) dX12_turn_55 (by decide) ?_
    refine j_iadd C dX12_turn_56 ?_
    refine j_put (ci := 12) C hU_X12 tyX12_ok nmX12 rfl (min_ F (by decide)) (me_0 F _ _) 5 (by decide) (Nat.le_of_ble_eq_true rfl) (by rw [wI_o, wI_2]; exact (me_0 F _ _)) (fun o' h' => ⟨wI_ne _ _ _ h', rfl⟩) rfl (by first | rfl | decide) (by first | rfl | decide) hF_X12_190 dX12_turn_57 (fun σ2 => ?_)
    refine j_bipush C (7 : Int32) dX12_turn_60 (by decide) ?_
    refine j_aload_n C dX12_turn_62 1 rfl ?_
    refine j_get (ci := 12) C hU_X12 rfl (min_ F (by decide)) (me_0 F _ _) 5 (by decide) rfl hF_X12_190 dX12_turn_63 ?_
    refine j_imul C dX12_turn_66 ?_
    refine j_nmi (fun x3 => ?_)
    refine j_istore_n (lv' := [(3, .int x3), (2, .int x1), (0, .ref (eAd E 0)), (1, .int v1)]) C dX12_turn_67 (by decide) rfl ?_
    refine j_aload_n C dX12_turn_68 2 rfl ?_
    refine j_get (ci := 12) C hU_X12 rfl (min_ F (by decide)) (me_0 F _ _) 12 (by decide) rfl hF_X12_20 dX12_turn_69 ?_
    refine j_iload_n C dX12_turn_72 1 rfl ?_
    refine j_chk (fun h4 => ?_)
    refine j_iald (t0 := 0) C (min_ F (by decide)) (me_2 F _ _) (mt0 F) (inb_in h4) dX12_turn_73 ?_
    refine j_nmi (fun x5 => ?_)
    refine j_istore (lv' := [(4, .int x5), (3, .int x3), (2, .int x1), (0, .ref (eAd E 0)), (1, .int v1)]) C dX12_turn_74 (by decide) rfl ?_
    refine j_aload_n C dX12_turn_76 3 rfl ?_
    refine j_get (ci := 12) C hU_X12 rfl (min_ F (by decide)) (me_0 F _ _) 24 (by decide) rfl hF_X12_193 dX12_turn_77 ?_
    refine j_iload C dX12_turn_80 0 rfl ?_
    refine j_isub C dX12_turn_82 ?_
    refine j_aload_n C dX12_turn_83 3 rfl ?_
    refine j_get (ci := 12) C hU_X12 rfl (min_ F (by decide)) (me_0 F _ _) 3 (by decide) rfl hF_X12_13 dX12_turn_84 ?_
    refine j_chk (fun h6 => ?_)
    refine j_idivK C dX12_turn_87 (nz_ne h6) ?_
    refine j_nmi (fun x7 => ?_)
    refine j_istore (lv' := [(5, .int x7), (4, .int x5), (3, .int x3), (2, .int x1), (0, .ref (eAd E 0)), (1, .int v1)]) C dX12_turn_88 (by decide) rfl ?_
    refine j_iload C dX12_turn_90 0 rfl ?_
    refine j_if_ne C 120 dX12_turn_92 (by decide) ?_ ?_
    · refine j_lv [(0, .ref (eAd E 0)), (1, .int v1), (2, .int x1), (3, .int x3), (4, .int x5), (5, .int x7)] [4, 5, 3, 2, 1, 0] rfl ?_
      exact hB120 σ2 v1 x1 x3 x5 x7
    · refine j_aload_n C dX12_turn_95 4 rfl ?_
      refine j_get (ci := 12) C hU_X12 rfl (min_ F (by decide)) (me_0 F _ _) 24 (by decide) rfl hF_X12_193 dX12_turn_96 ?_
      refine j_iload C dX12_turn_99 1 rfl ?_
      refine j_icmp_eq C 120 dX12_turn_101 (by decide) ?_ ?_
      · refine j_lv [(0, .ref (eAd E 0)), (1, .int v1), (2, .int x1), (3, .int x3), (4, .int x5), (5, .int x7)] [4, 5, 3, 2, 1, 0] rfl ?_
        exact hB120 σ2 v1 x1 x3 x5 x7
      · refine j_aload_n C dX12_turn_104 4 rfl ?_
        refine j_get (ci := 12) C hU_X12 rfl (min_ F (by decide)) (me_0 F _ _) 24 (by decide) rfl hF_X12_193 dX12_turn_105 ?_
        refine j_iload C dX12_turn_108 1 rfl ?_
        refine j_icmp_le C 117 dX12_turn_110 (by decide) ?_ ?_
        · refine j_iconst C (-1 : Int32) dX12_turn_117 (by decide) ?_
          refine j_lv [(0, .ref (eAd E 0)), (1, .int v1), (2, .int x1), (3, .int x3), (4, .int x5)] [4, 5, 3, 2, 1] rfl ?_
          exact hB118 σ2 v1 x1 x3 x5 (-1 : Int32)
        · refine j_iconst C (1 : Int32) dX12_turn_113 (by decide) ?_
          refine j_goto C 118 dX12_turn_114 (by decide) ?_
          refine j_lv [(0, .ref (eAd E 0)), (1, .int v1), (2, .int x1), (3, .int x3), (4, .int x5)] [4, 5, 3, 2, 1] rfl ?_
          exact hB118 σ2 v1 x1 x3 x5 (1 : Int32)
  have hB25 : ∀ (σ : Mem) (s0 : Int32), J E 11 0 0 r0 (X12_turn_b25 σ s0) σ 25 [(0, .ref (eAd E 0))] [.int s0] := by
    intro σ s0
    unfold X12_turn_b25
    refine j_istore_n (lv' := [(1, .int s0), (0, .ref (eAd E 0))]) C dX12_turn_25 (by decide) rfl ?_
    refine j_iload_n C dX12_turn_26 0 rfl ?_
    refine j_if_eq C 42 dX12_turn_27 (by decide) ?_ ?_
    · refine j_lv [(0, .ref (eAd E 0)), (1, .int s0)] [1, 0] rfl ?_
      exact hB42 σ s0
    · refine j_aload_n C dX12_turn_30 1 rfl ?_
      refine j_sipush C (800 : Int32) dX12_turn_31 (by decide) ?_
      refine j_put (ci := 12) C hU_X12 tyX12_ok nmX12 rfl (min_ F (by decide)) (me_0 F _ _) 24 (by decide) (Nat.le_of_ble_eq_true rfl) (by rw [wI_o, wI_2]; exact (me_0 F _ _)) (fun o' h' => ⟨wI_ne _ _ _ h', rfl⟩) rfl (by first | rfl | decide) (by first | rfl | decide) hF_X12_193 dX12_turn_34 (fun σ1 => ?_)
      refine j_aload_n C dX12_turn_37 1 rfl ?_
      refine j_iconst C (0 : Int32) dX12_turn_38 (by decide) ?_
      refine j_put (ci := 12) C hU_X12 tyX12_ok nmX12 rfl (min_ F (by decide)) (me_0 F _ _) 25 (by decide) (Nat.le_of_ble_eq_true rfl) (by rw [wI_o, wI_2]; exact (me_0 F _ _)) (fun o' h' => ⟨wI_ne _ _ _ h', rfl⟩) rfl (by first | rfl | decide) (by first | rfl | decide) hF_X12_199 dX12_turn_39 (fun σ2 => ?_)
      refine j_lv [(0, .ref (eAd E 0)), (1, .int s0)] [1, 0] rfl ?_
      exact hB42 σ2 s0
  have hB12 : ∀ (σ : Mem), J E 11 0 0 r0 (X12_turn_b12 σ) σ 12 [(0, .ref (eAd E 0))] [] := by
    intro σ
    unfold X12_turn_b12
    refine j_aload_n C dX12_turn_12 0 rfl ?_
    refine j_get (ci := 12) C hU_X12 rfl (min_ F (by decide)) (me_0 F _ _) 4 (by decide) rfl hF_X12_118 dX12_turn_13 ?_
    refine j_iconst C (2 : Int32) dX12_turn_16 (by decide) ?_
    refine j_icmp_ne C 24 dX12_turn_17 (by decide) ?_ ?_
    · refine j_iconst C (0 : Int32) dX12_turn_24 (by decide) ?_
      refine j_lv [(0, .ref (eAd E 0))] [0] rfl ?_
      exact hB25 σ (0 : Int32)
    · refine j_iconst C (1 : Int32) dX12_turn_20 (by decide) ?_
      refine j_goto C 25 dX12_turn_21 (by decide) ?_
      refine j_lv [(0, .ref (eAd E 0))] [0] rfl ?_
      exact hB25 σ (1 : Int32)
  unfold X12_turn
  refine j_aload_n C dX12_turn_0 0 rfl ?_
  refine j_get (ci := 12) C hU_X12 rfl (min_ F (by decide)) (me_0 F _ _) 4 (by decide) rfl hF_X12_118 dX12_turn_1 ?_
  refine j_iconst C (1 : Int32) dX12_turn_4 (by decide) ?_
  refine j_icmp_ne C 12 dX12_turn_5 (by decide) ?_ ?_
  · refine j_lv [(0, .ref (eAd E 0))] [0] rfl ?_
    exact hB12 σ
  · refine j_aload_n C dX12_turn_8 0 rfl ?_
    refine j_bind (fun σ2 h1 => ?_)
    refine j_callVv (ci := 12) C [] (c_X12_goOn F h1) hM_X12_216 hI_X12_goOn hS_X12_goOn hZ_X12 hC_X12_goOn (min_ F (by decide)) (me_0 F _ _) rfl rfl dd_X12_goOn (by decide) ⟨rfl, rfl⟩ (by decide) (Nat.le_of_ble_eq_true rfl) dX12_turn_9 rfl ?_
    refine j_lv [(0, .ref (eAd E 0))] [0] rfl ?_
    exact hB12 σ2
set_option maxRecDepth 100000 in
set_option maxHeartbeats 4000000 in
theorem c_X12_turn {E : EnvT} {cs : Nat → ClassId} (F : MF E cs) {σ : Mem} {r : Mem} (h : X12_turn σ = some r) : CT E yX12_turn cX12_turn 11 none rm_X12_turn [.ref (eAd E 0)] σ (RQv r) :=
  ct_M F (by decide) (Nat.le_of_ble_eq_true rfl) (fun E' ea F' C Q => by rw [← ea]; exact m_X12_turn F'  C Q h)
theorem dd_X12_turn : yX12_turn.cls ≠ "java/lang/invoke/MethodHandle" ∧ yX12_turn.cls ≠ "java/lang/invoke/VarHandle" ∧ (parseMethodDescriptor yX12_turn.desc).map (fun d => d.parameters.length) = some 0 := by decide +kernel
def X12_tick_b58 (rec27 : (Mem × Int32 × Int32) → Option (Int32 × Mem)) (σ : Mem) (v1 : Int32) (v2 : Int32) : Option (Int32 × Mem) :=
  bindo (X12_turn σ) (fun σ2 =>
  lete (v2 + (1 : Int32)) (fun x3 =>
  rec27 (σ2, v1, x3)))
def X12_tick_l27 (rec27 : (Mem × Int32 × Int32) → Option (Int32 × Mem)) (σ : Mem) (v1 : Int32) (v2 : Int32) : Option (Int32 × Mem) :=
  if v1 ≤ v2 then
  (some (v2, σ))
  else
  (if (3000 : Int32) ≤ (σ.1 0 5) then
  (some (v2, σ))
  else
  (if (σ.1 0 4) = (1 : Int32) then
  (X12_tick_b58 rec27 σ v1 v2)
  else
  (if ¬ (σ.1 0 4) = (2 : Int32) then
  (some (v2, σ))
  else
  (X12_tick_b58 rec27 σ v1 v2))))
def X12_tick (σ : Mem) (p1 : Int32) : Option (Int32 × Mem) :=
  bindo (X12_within (p1.toInt64) (0 : Int64) (1000 : Int64)) (fun r2 =>
  if ¬ r2 = (0 : Int32) then
  (if ¬ (σ.1 0 4) = (0 : Int32) then
  (loopF (fun (rec : (Mem × Int32 × Int32) → Option (Int32 × Mem)) (s : Mem × Int32 × Int32) => X12_tick_l27 rec s.1 s.2.1 s.2.2)  FU (σ, p1, (0 : Int32)))
  else
  (some ((-3 : Int32), σ)))
  else
  (some ((-2 : Int32), σ)))
abbrev rm_X12_tick : Room := { frames := 5, cells := 0, slots := 0, locals := 120 }
set_option maxRecDepth 100000 in
set_option maxHeartbeats 4000000 in
theorem m_X12_tick {E : EnvT} {cs : Nat → ClassId} (F : MF E cs) {p1 : Int32} {σ : Mem} (C : CX E cX12_tick RX12 3 rm_X12_tick) {r0 : Int32 × Mem} (Q : QE E 0 0 (some .int) (RQi r0.1 r0.2)) : J E 3 0 0 r0 (X12_tick σ p1) σ 0 [(0, .ref (eAd E 0)), (1, .int p1)] [] := by
  have hB58 : ∀ (rec27 : (Mem × Int32 × Int32) → Option (Int32 × Mem)) (hrec27 : ∀ a : Mem × Int32 × Int32, J E 3 0 0 r0 (rec27 a) a.1 27 [(0, .ref (eAd E 0)), (1, .int a.2.1), (2, .int a.2.2)] []) (σ : Mem) (v1 : Int32) (v2 : Int32), J E 3 0 0 r0 (X12_tick_b58 rec27 σ v1 v2) σ 58 [(0, .ref (eAd E 0)), (1, .int v1), (2, .int v2)] [] := by
    intro rec27 hrec27 σ v1 v2
    unfold X12_tick_b58
    refine j_aload_n C dX12_tick_58 0 rfl ?_
    refine j_bind (fun σ2 h1 => ?_)
    refine j_callVv (ci := 12) C [] (c_X12_turn F h1) hM_X12_219 hI_X12_turn hS_X12_turn hZ_X12 hC_X12_turn (min_ F (by decide)) (me_0 F _ _) rfl rfl dd_X12_turn (by decide) ⟨rfl, rfl⟩ (by decide) (Nat.le_of_ble_eq_true rfl) dX12_tick_59 rfl ?_
    refine j_iincN (lf := fun x3 => [(2, .int x3), (0, .ref (eAd E 0)), (1, .int v1)]) C dX12_tick_62 2 rfl (by rfl) (by decide) (fun _ => rfl) (fun x3 => ?_)
    refine j_goto C 27 dX12_tick_65 (by decide) ?_
    refine j_lv [(0, .ref (eAd E 0)), (1, .int v1), (2, .int x3)] [1, 2, 0] rfl ?_
    exact hrec27 (σ2, v1, x3)
  have hL27 : ∀ (f : Nat) (a : Mem × Int32 × Int32), J E 3 0 0 r0 (loopF (fun (rec : (Mem × Int32 × Int32) → Option (Int32 × Mem)) (s : Mem × Int32 × Int32) => X12_tick_l27 rec s.1 s.2.1 s.2.2) f a) a.1 27 [(0, .ref (eAd E 0)), (1, .int a.2.1), (2, .int a.2.2)] [] := by
    refine j_loop (M := fun (a : Mem × Int32 × Int32) => a.1) (L := fun (a : Mem × Int32 × Int32) => [(0, .ref (eAd E 0)), (1, .int a.2.1), (2, .int a.2.2)]) (S := fun (a : Mem × Int32 × Int32) => []) (fun rec27 hrec27 a => ?_)
    obtain ⟨σ, v1, v2⟩ := a
    show J E 3 0 0 r0 (X12_tick_l27 rec27 σ v1 v2) σ 27 [(0, .ref (eAd E 0)), (1, .int v1), (2, .int v2)] []
    unfold X12_tick_l27
    refine j_iload_n C dX12_tick_27 2 rfl ?_
    refine j_iload_n C dX12_tick_28 1 rfl ?_
    refine j_icmp_ge C 68 dX12_tick_29 (by decide) ?_ ?_
    · refine j_iload_n C dX12_tick_68 2 rfl ?_
      exact j_ireti2 C Q dX12_tick_69
    · refine j_aload_n C dX12_tick_32 0 rfl ?_
      refine j_get (ci := 12) C hU_X12 rfl (min_ F (by decide)) (me_0 F _ _) 5 (by decide) rfl hF_X12_190 dX12_tick_33 ?_
      refine j_sipush C (3000 : Int32) dX12_tick_36 (by decide) ?_
      refine j_icmp_ge C 68 dX12_tick_39 (by decide) ?_ ?_
      · refine j_iload_n C dX12_tick_68 2 rfl ?_
        exact j_ireti2 C Q dX12_tick_69
      · refine j_aload_n C dX12_tick_42 0 rfl ?_
        refine j_get (ci := 12) C hU_X12 rfl (min_ F (by decide)) (me_0 F _ _) 4 (by decide) rfl hF_X12_118 dX12_tick_43 ?_
        refine j_iconst C (1 : Int32) dX12_tick_46 (by decide) ?_
        refine j_icmp_eq C 58 dX12_tick_47 (by decide) ?_ ?_
        · refine j_lv [(0, .ref (eAd E 0)), (1, .int v1), (2, .int v2)] [0, 1, 2] rfl ?_
          exact hB58 rec27 hrec27 σ v1 v2
        · refine j_aload_n C dX12_tick_50 0 rfl ?_
          refine j_get (ci := 12) C hU_X12 rfl (min_ F (by decide)) (me_0 F _ _) 4 (by decide) rfl hF_X12_118 dX12_tick_51 ?_
          refine j_iconst C (2 : Int32) dX12_tick_54 (by decide) ?_
          refine j_icmp_ne C 68 dX12_tick_55 (by decide) ?_ ?_
          · refine j_iload_n C dX12_tick_68 2 rfl ?_
            exact j_ireti2 C Q dX12_tick_69
          · refine j_lv [(0, .ref (eAd E 0)), (1, .int v1), (2, .int v2)] [0, 1, 2] rfl ?_
            exact hB58 rec27 hrec27 σ v1 v2
  unfold X12_tick
  refine j_iload_n C dX12_tick_0 1 rfl ?_
  refine j_i2l C dX12_tick_1 ?_
  refine j_lconst C (0 : Int64) dX12_tick_2 (by decide) ?_
  refine j_ldc2 C hK_X12_116 dX12_tick_3 ?_
  refine j_bind (fun r2 h1 => ?_)
  refine j_callSi C [.long (p1.toInt64), .long (0 : Int64), .long (1000 : Int64)] (c_X12_within F h1) hM_X12_110 hT_X12_within hZ_X12 hC_X12_within dd_X12_within (by decide) ⟨rfl, rfl⟩ (by decide) (Nat.le_of_ble_eq_true rfl) dX12_tick_6 rfl ?_
  refine j_if_ne C 15 dX12_tick_9 (by decide) ?_ ?_
  · refine j_aload_n C dX12_tick_15 0 rfl ?_
    refine j_get (ci := 12) C hU_X12 rfl (min_ F (by decide)) (me_0 F _ _) 4 (by decide) rfl hF_X12_118 dX12_tick_16 ?_
    refine j_if_ne C 25 dX12_tick_19 (by decide) ?_ ?_
    · refine j_iconst C (0 : Int32) dX12_tick_25 (by decide) ?_
      refine j_istore_n (lv' := [(2, .int (0 : Int32)), (0, .ref (eAd E 0)), (1, .int p1)]) C dX12_tick_26 (by decide) rfl ?_
      refine j_lv [(0, .ref (eAd E 0)), (1, .int p1), (2, .int (0 : Int32))] [1, 2, 0] rfl ?_
      exact hL27  FU (σ, p1, (0 : Int32))
    · refine j_bipush C (-3 : Int32) dX12_tick_22 (by decide) ?_
      exact j_ireti2 C Q dX12_tick_24
  · refine j_bipush C (-2 : Int32) dX12_tick_12 (by decide) ?_
    exact j_ireti2 C Q dX12_tick_14
set_option maxRecDepth 100000 in
set_option maxHeartbeats 4000000 in
theorem c_X12_tick {E : EnvT} {cs : Nat → ClassId} (F : MF E cs) {σ : Mem} {p1 : Int32} {r : Int32 × Mem} (h : X12_tick σ p1 = some r) : CT E yX12_tick cX12_tick 3 (some .int) rm_X12_tick [.ref (eAd E 0), .int p1] σ (RQi r.1 r.2) :=
  ct_M F (by decide) (Nat.le_of_ble_eq_true rfl) (fun E' ea F' C Q => by rw [← ea]; exact m_X12_tick F'  C Q h)
theorem dd_X12_tick : yX12_tick.cls ≠ "java/lang/invoke/MethodHandle" ∧ yX12_tick.cls ≠ "java/lang/invoke/VarHandle" ∧ (parseMethodDescriptor yX12_tick.desc).map (fun d => d.parameters.length) = some 1 := by decide +kernel
def X12_stop (σ : Mem) : Option (Int32 × Mem) :=
  if (σ.1 0 4) = (1 : Int32) then
  (bindo (X12_stopBy σ (4 : Int32)) (fun σ2 =>
  some ((1 : Int32), σ2)))
  else
  (some ((-3 : Int32), σ))
abbrev rm_X12_stop : Room := { frames := 1, cells := 0, slots := 0, locals := 21 }
set_option maxRecDepth 100000 in
set_option maxHeartbeats 4000000 in
theorem m_X12_stop {E : EnvT} {cs : Nat → ClassId} (F : MF E cs) {σ : Mem} (C : CX E cX12_stop RX12 1 rm_X12_stop) {r0 : Int32 × Mem} (Q : QE E 0 0 (some .int) (RQi r0.1 r0.2)) : J E 1 0 0 r0 (X12_stop σ) σ 0 [(0, .ref (eAd E 0))] [] := by

  unfold X12_stop
  refine j_aload_n C dX12_stop_0 0 rfl ?_
  refine j_get (ci := 12) C hU_X12 rfl (min_ F (by decide)) (me_0 F _ _) 4 (by decide) rfl hF_X12_118 dX12_stop_1 ?_
  refine j_iconst C (1 : Int32) dX12_stop_4 (by decide) ?_
  refine j_icmp_eq C 11 dX12_stop_5 (by decide) ?_ ?_
  · refine j_aload_n C dX12_stop_11 0 rfl ?_
    refine j_iconst C (4 : Int32) dX12_stop_12 (by decide) ?_
    refine j_bind (fun σ2 h1 => ?_)
    refine j_callVv (ci := 12) C [.int (4 : Int32)] (c_X12_stopBy F h1) hM_X12_173 hI_X12_stopBy hS_X12_stopBy hZ_X12 hC_X12_stopBy (min_ F (by decide)) (me_0 F _ _) rfl rfl dd_X12_stopBy (by decide) ⟨rfl, rfl⟩ (by decide) (Nat.le_of_ble_eq_true rfl) dX12_stop_13 rfl ?_
    refine j_iconst C (1 : Int32) dX12_stop_16 (by decide) ?_
    exact j_ireti2 C Q dX12_stop_17
  · refine j_bipush C (-3 : Int32) dX12_stop_8 (by decide) ?_
    exact j_ireti2 C Q dX12_stop_10
set_option maxRecDepth 100000 in
set_option maxHeartbeats 4000000 in
theorem c_X12_stop {E : EnvT} {cs : Nat → ClassId} (F : MF E cs) {σ : Mem} {r : Int32 × Mem} (h : X12_stop σ = some r) : CT E yX12_stop cX12_stop 1 (some .int) rm_X12_stop [.ref (eAd E 0)] σ (RQi r.1 r.2) :=
  ct_M F (by decide) (Nat.le_of_ble_eq_true rfl) (fun E' ea F' C Q => by rw [← ea]; exact m_X12_stop F'  C Q h)
theorem dd_X12_stop : yX12_stop.cls ≠ "java/lang/invoke/MethodHandle" ∧ yX12_stop.cls ≠ "java/lang/invoke/VarHandle" ∧ (parseMethodDescriptor yX12_stop.desc).map (fun d => d.parameters.length) = some 0 := by decide +kernel
def X12_reset (σ : Mem) : Option (Int32 × Mem) :=
  if (σ.1 0 4) = (1 : Int32) then
  (some ((-3 : Int32), σ))
  else
  (if ¬ (σ.1 0 4) = (2 : Int32) then
  (lete (σ.1 0 5) (fun x1 =>
  lete (wI σ 0 4 (0 : Int32)) (fun σ2 =>
  lete (wI σ2 0 5 (0 : Int32)) (fun σ3 =>
  lete (wI σ3 0 6 (0 : Int32)) (fun σ4 =>
  lete (wI σ4 0 7 (0 : Int32)) (fun σ5 =>
  lete (wI σ5 0 10 (-9 : Int32)) (fun σ6 =>
  lete (wI σ6 0 11 (0 : Int32)) (fun σ7 =>
  lete (wI σ7 0 22 (0 : Int32)) (fun σ8 =>
  lete (wI σ8 0 24 (0 : Int32)) (fun σ9 =>
  lete (wI σ9 0 25 (0 : Int32)) (fun σ10 =>
  some (x1, σ10))))))))))))
  else
  (some ((-3 : Int32), σ)))
abbrev rm_X12_reset : Room := { frames := 0, cells := 0, slots := 0, locals := 0 }
set_option maxRecDepth 100000 in
set_option maxHeartbeats 4000000 in
theorem m_X12_reset {E : EnvT} {cs : Nat → ClassId} (F : MF E cs) {σ : Mem} (C : CX E cX12_reset RX12 2 rm_X12_reset) {r0 : Int32 × Mem} (Q : QE E 0 0 (some .int) (RQi r0.1 r0.2)) : J E 2 0 0 r0 (X12_reset σ) σ 0 [(0, .ref (eAd E 0))] [] := by

  unfold X12_reset
  refine j_aload_n C dX12_reset_0 0 rfl ?_
  refine j_get (ci := 12) C hU_X12 rfl (min_ F (by decide)) (me_0 F _ _) 4 (by decide) rfl hF_X12_118 dX12_reset_1 ?_
  refine j_iconst C (1 : Int32) dX12_reset_4 (by decide) ?_
  refine j_icmp_eq C 16 dX12_reset_5 (by decide) ?_ ?_
  · refine j_bipush C (-3 : Int32) dX12_reset_16 (by decide) ?_
    exact j_ireti2 C Q dX12_reset_18
  · refine j_aload_n C dX12_reset_8 0 rfl ?_
    refine j_get (ci := 12) C hU_X12 rfl (min_ F (by decide)) (me_0 F _ _) 4 (by decide) rfl hF_X12_118 dX12_reset_9 ?_
    refine j_iconst C (2 : Int32) dX12_reset_12 (by decide) ?_
    refine j_icmp_ne C 19 dX12_reset_13 (by decide) ?_ ?_
    · refine j_aload_n C dX12_reset_19 0 rfl ?_
      refine j_get (ci := 12) C hU_X12 rfl (min_ F (by decide)) (me_0 F _ _) 5 (by decide) rfl hF_X12_190 dX12_reset_20 ?_
      refine j_nmi (fun x1 => ?_)
      refine j_istore_n (lv' := [(1, .int x1), (0, .ref (eAd E 0))]) C dX12_reset_23 (by decide) rfl ?_
      refine j_aload_n C dX12_reset_24 1 rfl ?_
      refine j_iconst C (0 : Int32) dX12_reset_25 (by decide) ?_
      refine j_put (ci := 12) C hU_X12 tyX12_ok nmX12 rfl (min_ F (by decide)) (me_0 F _ _) 4 (by decide) (Nat.le_of_ble_eq_true rfl) (by rw [wI_o, wI_2]; exact (me_0 F _ _)) (fun o' h' => ⟨wI_ne _ _ _ h', rfl⟩) rfl (by first | rfl | decide) (by first | rfl | decide) hF_X12_118 dX12_reset_26 (fun σ2 => ?_)
      refine j_aload_n C dX12_reset_29 1 rfl ?_
      refine j_iconst C (0 : Int32) dX12_reset_30 (by decide) ?_
      refine j_put (ci := 12) C hU_X12 tyX12_ok nmX12 rfl (min_ F (by decide)) (me_0 F _ _) 5 (by decide) (Nat.le_of_ble_eq_true rfl) (by rw [wI_o, wI_2]; exact (me_0 F _ _)) (fun o' h' => ⟨wI_ne _ _ _ h', rfl⟩) rfl (by first | rfl | decide) (by first | rfl | decide) hF_X12_190 dX12_reset_31 (fun σ3 => ?_)
      refine j_aload_n C dX12_reset_34 1 rfl ?_
      refine j_iconst C (0 : Int32) dX12_reset_35 (by decide) ?_
      refine j_put (ci := 12) C hU_X12 tyX12_ok nmX12 rfl (min_ F (by decide)) (me_0 F _ _) 6 (by decide) (Nat.le_of_ble_eq_true rfl) (by rw [wI_o, wI_2]; exact (me_0 F _ _)) (fun o' h' => ⟨wI_ne _ _ _ h', rfl⟩) rfl (by first | rfl | decide) (by first | rfl | decide) hF_X12_164 dX12_reset_36 (fun σ4 => ?_)
      refine j_aload_n C dX12_reset_39 1 rfl ?_
      refine j_iconst C (0 : Int32) dX12_reset_40 (by decide) ?_
      refine j_put (ci := 12) C hU_X12 tyX12_ok nmX12 rfl (min_ F (by decide)) (me_0 F _ _) 7 (by decide) (Nat.le_of_ble_eq_true rfl) (by rw [wI_o, wI_2]; exact (me_0 F _ _)) (fun o' h' => ⟨wI_ne _ _ _ h', rfl⟩) rfl (by first | rfl | decide) (by first | rfl | decide) hF_X12_167 dX12_reset_41 (fun σ5 => ?_)
      refine j_aload_n C dX12_reset_44 1 rfl ?_
      refine j_bipush C (-9 : Int32) dX12_reset_45 (by decide) ?_
      refine j_put (ci := 12) C hU_X12 tyX12_ok nmX12 rfl (min_ F (by decide)) (me_0 F _ _) 10 (by decide) (Nat.le_of_ble_eq_true rfl) (by rw [wI_o, wI_2]; exact (me_0 F _ _)) (fun o' h' => ⟨wI_ne _ _ _ h', rfl⟩) rfl (by first | rfl | decide) (by first | rfl | decide) hF_X12_17 dX12_reset_47 (fun σ6 => ?_)
      refine j_aload_n C dX12_reset_50 1 rfl ?_
      refine j_iconst C (0 : Int32) dX12_reset_51 (by decide) ?_
      refine j_put (ci := 12) C hU_X12 tyX12_ok nmX12 rfl (min_ F (by decide)) (me_0 F _ _) 11 (by decide) (Nat.le_of_ble_eq_true rfl) (by rw [wI_o, wI_2]; exact (me_0 F _ _)) (fun o' h' => ⟨wI_ne _ _ _ h', rfl⟩) rfl (by first | rfl | decide) (by first | rfl | decide) hF_X12_170 dX12_reset_52 (fun σ7 => ?_)
      refine j_aload_n C dX12_reset_55 1 rfl ?_
      refine j_iconst C (0 : Int32) dX12_reset_56 (by decide) ?_
      refine j_put (ci := 12) C hU_X12 tyX12_ok nmX12 rfl (min_ F (by decide)) (me_0 F _ _) 22 (by decide) (Nat.le_of_ble_eq_true rfl) (by rw [wI_o, wI_2]; exact (me_0 F _ _)) (fun o' h' => ⟨wI_ne _ _ _ h', rfl⟩) rfl (by first | rfl | decide) (by first | rfl | decide) hF_X12_187 dX12_reset_57 (fun σ8 => ?_)
      refine j_aload_n C dX12_reset_60 1 rfl ?_
      refine j_iconst C (0 : Int32) dX12_reset_61 (by decide) ?_
      refine j_put (ci := 12) C hU_X12 tyX12_ok nmX12 rfl (min_ F (by decide)) (me_0 F _ _) 24 (by decide) (Nat.le_of_ble_eq_true rfl) (by rw [wI_o, wI_2]; exact (me_0 F _ _)) (fun o' h' => ⟨wI_ne _ _ _ h', rfl⟩) rfl (by first | rfl | decide) (by first | rfl | decide) hF_X12_193 dX12_reset_62 (fun σ9 => ?_)
      refine j_aload_n C dX12_reset_65 1 rfl ?_
      refine j_iconst C (0 : Int32) dX12_reset_66 (by decide) ?_
      refine j_put (ci := 12) C hU_X12 tyX12_ok nmX12 rfl (min_ F (by decide)) (me_0 F _ _) 25 (by decide) (Nat.le_of_ble_eq_true rfl) (by rw [wI_o, wI_2]; exact (me_0 F _ _)) (fun o' h' => ⟨wI_ne _ _ _ h', rfl⟩) rfl (by first | rfl | decide) (by first | rfl | decide) hF_X12_199 dX12_reset_67 (fun σ10 => ?_)
      refine j_iload_n C dX12_reset_70 0 rfl ?_
      exact j_ireti2 C Q dX12_reset_71
    · refine j_bipush C (-3 : Int32) dX12_reset_16 (by decide) ?_
      exact j_ireti2 C Q dX12_reset_18
set_option maxRecDepth 100000 in
set_option maxHeartbeats 4000000 in
theorem c_X12_reset {E : EnvT} {cs : Nat → ClassId} (F : MF E cs) {σ : Mem} {r : Int32 × Mem} (h : X12_reset σ = some r) : CT E yX12_reset cX12_reset 2 (some .int) rm_X12_reset [.ref (eAd E 0)] σ (RQi r.1 r.2) :=
  ct_M F (by decide) (Nat.le_of_ble_eq_true rfl) (fun E' ea F' C Q => by rw [← ea]; exact m_X12_reset F'  C Q h)
theorem dd_X12_reset : yX12_reset.cls ≠ "java/lang/invoke/MethodHandle" ∧ yX12_reset.cls ≠ "java/lang/invoke/VarHandle" ∧ (parseMethodDescriptor yX12_reset.desc).map (fun d => d.parameters.length) = some 0 := by decide +kernel
def X12_told (σ : Mem) (p1 : Int32) : Option (Int32) :=
  if p1 = (0 : Int32) then
  (some (σ.1 0 4))
  else
  if p1 = (1 : Int32) then
  (some (σ.1 0 5))
  else
  if p1 = (2 : Int32) then
  (some (σ.1 0 6))
  else
  if p1 = (3 : Int32) then
  (some (σ.1 0 10))
  else
  if p1 = (4 : Int32) then
  (some (σ.1 0 11))
  else
  if p1 = (5 : Int32) then
  (some (σ.1 0 22))
  else
  if p1 = (6 : Int32) then
  (some (σ.1 0 13))
  else
  if p1 = (7 : Int32) then
  (some (σ.1 0 26))
  else
  if p1 = (8 : Int32) then
  (some (σ.1 0 38))
  else
  if p1 = (9 : Int32) then
  (some (σ.1 0 3))
  else
  (some (-2 : Int32))
abbrev rm_X12_told : Room := { frames := 0, cells := 0, slots := 0, locals := 0 }
set_option maxRecDepth 100000 in
set_option maxHeartbeats 4000000 in
theorem m_X12_told {E : EnvT} {cs : Nat → ClassId} (F : MF E cs) {p1 : Int32} {σ : Mem} (C : CX E cX12_told RX12 2 rm_X12_told) {r0 : Int32} (Q : QE E 0 0 (some .int) (RQi r0 σ)) : J E 2 0 0 r0 (X12_told σ p1) σ 0 [(0, .ref (eAd E 0)), (1, .int p1)] [] := by

  unfold X12_told
  refine j_iload_n C dX12_told_0 1 rfl ?_
  refine j_ite (fun q0 => ?_) (fun q0 => ?_)
  · refine j_tsIn C (0 : Int32) 56 dX12_told_1 q0 (by decide) (by decide) rfl (by decide) ?_
    refine j_aload_n C dX12_told_56 0 rfl ?_
    refine j_get (ci := 12) C hU_X12 rfl (min_ F (by decide)) (me_0 F _ _) 4 (by decide) rfl hF_X12_118 dX12_told_57 ?_
    exact j_ireti C Q dX12_told_60
  refine j_ite (fun q1 => ?_) (fun q1 => ?_)
  · refine j_tsIn C (1 : Int32) 61 dX12_told_1 q1 (by decide) (by decide) rfl (by decide) ?_
    refine j_aload_n C dX12_told_61 0 rfl ?_
    refine j_get (ci := 12) C hU_X12 rfl (min_ F (by decide)) (me_0 F _ _) 5 (by decide) rfl hF_X12_190 dX12_told_62 ?_
    exact j_ireti C Q dX12_told_65
  refine j_ite (fun q2 => ?_) (fun q2 => ?_)
  · refine j_tsIn C (2 : Int32) 66 dX12_told_1 q2 (by decide) (by decide) rfl (by decide) ?_
    refine j_aload_n C dX12_told_66 0 rfl ?_
    refine j_get (ci := 12) C hU_X12 rfl (min_ F (by decide)) (me_0 F _ _) 6 (by decide) rfl hF_X12_164 dX12_told_67 ?_
    exact j_ireti C Q dX12_told_70
  refine j_ite (fun q3 => ?_) (fun q3 => ?_)
  · refine j_tsIn C (3 : Int32) 71 dX12_told_1 q3 (by decide) (by decide) rfl (by decide) ?_
    refine j_aload_n C dX12_told_71 0 rfl ?_
    refine j_get (ci := 12) C hU_X12 rfl (min_ F (by decide)) (me_0 F _ _) 10 (by decide) rfl hF_X12_17 dX12_told_72 ?_
    exact j_ireti C Q dX12_told_75
  refine j_ite (fun q4 => ?_) (fun q4 => ?_)
  · refine j_tsIn C (4 : Int32) 76 dX12_told_1 q4 (by decide) (by decide) rfl (by decide) ?_
    refine j_aload_n C dX12_told_76 0 rfl ?_
    refine j_get (ci := 12) C hU_X12 rfl (min_ F (by decide)) (me_0 F _ _) 11 (by decide) rfl hF_X12_170 dX12_told_77 ?_
    exact j_ireti C Q dX12_told_80
  refine j_ite (fun q5 => ?_) (fun q5 => ?_)
  · refine j_tsIn C (5 : Int32) 81 dX12_told_1 q5 (by decide) (by decide) rfl (by decide) ?_
    refine j_aload_n C dX12_told_81 0 rfl ?_
    refine j_get (ci := 12) C hU_X12 rfl (min_ F (by decide)) (me_0 F _ _) 22 (by decide) rfl hF_X12_187 dX12_told_82 ?_
    exact j_ireti C Q dX12_told_85
  refine j_ite (fun q6 => ?_) (fun q6 => ?_)
  · refine j_tsIn C (6 : Int32) 86 dX12_told_1 q6 (by decide) (by decide) rfl (by decide) ?_
    refine j_aload_n C dX12_told_86 0 rfl ?_
    refine j_get (ci := 12) C hU_X12 rfl (min_ F (by decide)) (me_0 F _ _) 13 (by decide) rfl hF_X12_139 dX12_told_87 ?_
    exact j_ireti C Q dX12_told_90
  refine j_ite (fun q7 => ?_) (fun q7 => ?_)
  · refine j_tsIn C (7 : Int32) 91 dX12_told_1 q7 (by decide) (by decide) rfl (by decide) ?_
    refine j_aload_n C dX12_told_91 0 rfl ?_
    refine j_get (ci := 12) C hU_X12 rfl (min_ F (by decide)) (me_0 F _ _) 26 (by decide) rfl hF_X12_205 dX12_told_92 ?_
    exact j_ireti C Q dX12_told_95
  refine j_ite (fun q8 => ?_) (fun q8 => ?_)
  · refine j_tsIn C (8 : Int32) 96 dX12_told_1 q8 (by decide) (by decide) rfl (by decide) ?_
    refine j_aload_n C dX12_told_96 0 rfl ?_
    refine j_get (ci := 12) C hU_X12 rfl (min_ F (by decide)) (me_0 F _ _) 38 (by decide) rfl hF_X12_222 dX12_told_97 ?_
    exact j_ireti C Q dX12_told_100
  refine j_ite (fun q9 => ?_) (fun q9 => ?_)
  · refine j_tsIn C (9 : Int32) 101 dX12_told_1 q9 (by decide) (by decide) rfl (by decide) ?_
    refine j_aload_n C dX12_told_101 0 rfl ?_
    refine j_get (ci := 12) C hU_X12 rfl (min_ F (by decide)) (me_0 F _ _) 3 (by decide) rfl hF_X12_13 dX12_told_102 ?_
    exact j_ireti C Q dX12_told_105
  refine j_tsOut C 106 dX12_told_1 (by have z0 := lv_neT (k := (0 : Int32)) (a := 0) q0 (by decide); have z1 := lv_neT (k := (1 : Int32)) (a := 1) q1 (by decide); have z2 := lv_neT (k := (2 : Int32)) (a := 2) q2 (by decide); have z3 := lv_neT (k := (3 : Int32)) (a := 3) q3 (by decide); have z4 := lv_neT (k := (4 : Int32)) (a := 4) q4 (by decide); have z5 := lv_neT (k := (5 : Int32)) (a := 5) q5 (by decide); have z6 := lv_neT (k := (6 : Int32)) (a := 6) q6 (by decide); have z7 := lv_neT (k := (7 : Int32)) (a := 7) q7 (by decide); have z8 := lv_neT (k := (8 : Int32)) (a := 8) q8 (by decide); have z9 := lv_neT (k := (9 : Int32)) (a := 9) q9 (by decide); omega) (by decide) ?_
  refine j_bipush C (-2 : Int32) dX12_told_106 (by decide) ?_
  exact j_ireti C Q dX12_told_108
set_option maxRecDepth 100000 in
set_option maxHeartbeats 4000000 in
theorem c_X12_told {E : EnvT} {cs : Nat → ClassId} (F : MF E cs) {σ : Mem} {p1 : Int32} {r : Int32} (h : X12_told σ p1 = some r) : CT E yX12_told cX12_told 2 (some .int) rm_X12_told [.ref (eAd E 0), .int p1] σ (RQi r σ) :=
  ct_M F (by decide) (Nat.le_of_ble_eq_true rfl) (fun E' ea F' C Q => by rw [← ea]; exact m_X12_told F'  C Q h)
theorem dd_X12_told : yX12_told.cls ≠ "java/lang/invoke/MethodHandle" ∧ yX12_told.cls ≠ "java/lang/invoke/VarHandle" ∧ (parseMethodDescriptor yX12_told.desc).map (fun d => d.parameters.length) = some 1 := by decide +kernel
def X12_was (σ : Mem) (p1 : Int32) (p2 : Int32) : Option (Int32) :=
  bindo (X12_within (p1.toInt64) (0 : Int64) (((σ.1 0 5)).toInt64)) (fun r2 =>
  if ¬ r2 = (0 : Int32) then
  (bindo (X12_within (p2.toInt64) (0 : Int64) (6 : Int64)) (fun r4 =>
  if r4 = (0 : Int32) then
  (some (-2 : Int32))
  else
  (chk (inb (((7 : Int32) * p1) + p2) 21007) (
  some (σ.1 2 (ix (((7 : Int32) * p1) + p2)))))))
  else
  (some (-1 : Int32)))
abbrev rm_X12_was : Room := { frames := 1, cells := 0, slots := 0, locals := 25 }
set_option maxRecDepth 100000 in
set_option maxHeartbeats 4000000 in
theorem m_X12_was {E : EnvT} {cs : Nat → ClassId} (F : MF E cs) {p1 : Int32} {p2 : Int32} {σ : Mem} (C : CX E cX12_was RX12 3 rm_X12_was) {r0 : Int32} (Q : QE E 0 0 (some .int) (RQi r0 σ)) : J E 3 0 0 r0 (X12_was σ p1 p2) σ 0 [(0, .ref (eAd E 0)), (1, .int p1), (2, .int p2)] [] := by

  unfold X12_was
  refine j_iload_n C dX12_was_0 1 rfl ?_
  refine j_i2l C dX12_was_1 ?_
  refine j_lconst C (0 : Int64) dX12_was_2 (by decide) ?_
  refine j_aload_n C dX12_was_3 0 rfl ?_
  refine j_get (ci := 12) C hU_X12 rfl (min_ F (by decide)) (me_0 F _ _) 5 (by decide) rfl hF_X12_190 dX12_was_4 ?_
  refine j_i2l C dX12_was_7 ?_
  refine j_bind (fun r2 h1 => ?_)
  refine j_callSi C [.long (p1.toInt64), .long (0 : Int64), .long (((σ.1 0 5)).toInt64)] (c_X12_within F h1) hM_X12_110 hT_X12_within hZ_X12 hC_X12_within dd_X12_within (by decide) ⟨rfl, rfl⟩ (by decide) (Nat.le_of_ble_eq_true rfl) dX12_was_8 rfl ?_
  refine j_if_ne C 16 dX12_was_11 (by decide) ?_ ?_
  · refine j_iload_n C dX12_was_16 2 rfl ?_
    refine j_i2l C dX12_was_17 ?_
    refine j_lconst C (0 : Int64) dX12_was_18 (by decide) ?_
    refine j_ldc2 C hK_X12_225 dX12_was_19 ?_
    refine j_bind (fun r4 h3 => ?_)
    refine j_callSi C [.long (p2.toInt64), .long (0 : Int64), .long (6 : Int64)] (c_X12_within F h3) hM_X12_110 hT_X12_within hZ_X12 hC_X12_within dd_X12_within (by decide) ⟨rfl, rfl⟩ (by decide) (Nat.le_of_ble_eq_true rfl) dX12_was_22 rfl ?_
    refine j_if_eq C 42 dX12_was_25 (by decide) ?_ ?_
    · refine j_bipush C (-2 : Int32) dX12_was_42 (by decide) ?_
      exact j_ireti C Q dX12_was_44
    · refine j_aload_n C dX12_was_28 0 rfl ?_
      refine j_get (ci := 12) C hU_X12 rfl (min_ F (by decide)) (me_0 F _ _) 12 (by decide) rfl hF_X12_20 dX12_was_29 ?_
      refine j_bipush C (7 : Int32) dX12_was_32 (by decide) ?_
      refine j_iload_n C dX12_was_34 1 rfl ?_
      refine j_imul C dX12_was_35 ?_
      refine j_iload_n C dX12_was_36 2 rfl ?_
      refine j_iadd C dX12_was_37 ?_
      refine j_chk (fun h5 => ?_)
      refine j_iald (t0 := 0) C (min_ F (by decide)) (me_2 F _ _) (mt0 F) (inb_in h5) dX12_was_38 ?_
      refine j_goto C 44 dX12_was_39 (by decide) ?_
      exact j_ireti C Q dX12_was_44
  · refine j_iconst C (-1 : Int32) dX12_was_14 (by decide) ?_
    exact j_ireti C Q dX12_was_15
set_option maxRecDepth 100000 in
set_option maxHeartbeats 4000000 in
theorem c_X12_was {E : EnvT} {cs : Nat → ClassId} (F : MF E cs) {σ : Mem} {p1 : Int32} {p2 : Int32} {r : Int32} (h : X12_was σ p1 p2 = some r) : CT E yX12_was cX12_was 3 (some .int) rm_X12_was [.ref (eAd E 0), .int p1, .int p2] σ (RQi r σ) :=
  ct_M F (by decide) (Nat.le_of_ble_eq_true rfl) (fun E' ea F' C Q => by rw [← ea]; exact m_X12_was F'  C Q h)
theorem dd_X12_was : yX12_was.cls ≠ "java/lang/invoke/MethodHandle" ∧ yX12_was.cls ≠ "java/lang/invoke/VarHandle" ∧ (parseMethodDescriptor yX12_was.desc).map (fun d => d.parameters.length) = some 2 := by decide +kernel
def X12_mark (σ : Mem) (p1 : Int32) : Option (Int32) :=
  if p1 < (0 : Int32) then
  (some (-1 : Int32))
  else
  (if (σ.1 0 22) ≤ p1 then
  (some (-1 : Int32))
  else
  (chk (inb p1 20) (
  some (σ.1 11 (ix p1)))))
abbrev rm_X12_mark : Room := { frames := 0, cells := 0, slots := 0, locals := 0 }
set_option maxRecDepth 100000 in
set_option maxHeartbeats 4000000 in
theorem m_X12_mark {E : EnvT} {cs : Nat → ClassId} (F : MF E cs) {p1 : Int32} {σ : Mem} (C : CX E cX12_mark RX12 2 rm_X12_mark) {r0 : Int32} (Q : QE E 0 0 (some .int) (RQi r0 σ)) : J E 2 0 0 r0 (X12_mark σ p1) σ 0 [(0, .ref (eAd E 0)), (1, .int p1)] [] := by

  unfold X12_mark
  refine j_iload_n C dX12_mark_0 1 rfl ?_
  refine j_if_lt C 21 dX12_mark_1 (by decide) ?_ ?_
  · refine j_iconst C (-1 : Int32) dX12_mark_21 (by decide) ?_
    exact j_ireti C Q dX12_mark_22
  · refine j_iload_n C dX12_mark_4 1 rfl ?_
    refine j_aload_n C dX12_mark_5 0 rfl ?_
    refine j_get (ci := 12) C hU_X12 rfl (min_ F (by decide)) (me_0 F _ _) 22 (by decide) rfl hF_X12_187 dX12_mark_6 ?_
    refine j_icmp_ge C 21 dX12_mark_9 (by decide) ?_ ?_
    · refine j_iconst C (-1 : Int32) dX12_mark_21 (by decide) ?_
      exact j_ireti C Q dX12_mark_22
    · refine j_aload_n C dX12_mark_12 0 rfl ?_
      refine j_get (ci := 12) C hU_X12 rfl (min_ F (by decide)) (me_0 F _ _) 23 (by decide) rfl hF_X12_47 dX12_mark_13 ?_
      refine j_iload_n C dX12_mark_16 1 rfl ?_
      refine j_chk (fun h1 => ?_)
      refine j_iald (t0 := 0) C (min_ F (by decide)) (me_11 F _ _) (mt0 F) (inb_in h1) dX12_mark_17 ?_
      refine j_goto C 22 dX12_mark_18 (by decide) ?_
      exact j_ireti C Q dX12_mark_22
set_option maxRecDepth 100000 in
set_option maxHeartbeats 4000000 in
theorem c_X12_mark {E : EnvT} {cs : Nat → ClassId} (F : MF E cs) {σ : Mem} {p1 : Int32} {r : Int32} (h : X12_mark σ p1 = some r) : CT E yX12_mark cX12_mark 2 (some .int) rm_X12_mark [.ref (eAd E 0), .int p1] σ (RQi r σ) :=
  ct_M F (by decide) (Nat.le_of_ble_eq_true rfl) (fun E' ea F' C Q => by rw [← ea]; exact m_X12_mark F'  C Q h)
theorem dd_X12_mark : yX12_mark.cls ≠ "java/lang/invoke/MethodHandle" ∧ yX12_mark.cls ≠ "java/lang/invoke/VarHandle" ∧ (parseMethodDescriptor yX12_mark.desc).map (fun d => d.parameters.length) = some 1 := by decide +kernel
def X12_isChannel (σ : Mem) (p1 : Int32) : Option (Int32) :=
  if p1 < (0 : Int32) then
  (some (0 : Int32))
  else
  (if (σ.1 0 26) ≤ p1 then
  (some (0 : Int32))
  else
  (some (1 : Int32)))
abbrev rm_X12_isChannel : Room := { frames := 0, cells := 0, slots := 0, locals := 0 }
set_option maxRecDepth 100000 in
set_option maxHeartbeats 4000000 in
theorem m_X12_isChannel {E : EnvT} {cs : Nat → ClassId} (F : MF E cs) {p1 : Int32} {σ : Mem} (C : CX E cX12_isChannel RX12 2 rm_X12_isChannel) {r0 : Int32} (Q : QE E 0 0 (some .boolean) (RQi r0 σ)) : J E 2 0 0 r0 (X12_isChannel σ p1) σ 0 [(0, .ref (eAd E 0)), (1, .int p1)] [] := by

  unfold X12_isChannel
  refine j_iload_n C dX12_isChannel_0 1 rfl ?_
  refine j_if_lt C 16 dX12_isChannel_1 (by decide) ?_ ?_
  · refine j_iconst C (0 : Int32) dX12_isChannel_16 (by decide) ?_
    exact j_iretz C rfl Q dX12_isChannel_17
  · refine j_iload_n C dX12_isChannel_4 1 rfl ?_
    refine j_aload_n C dX12_isChannel_5 0 rfl ?_
    refine j_get (ci := 12) C hU_X12 rfl (min_ F (by decide)) (me_0 F _ _) 26 (by decide) rfl hF_X12_205 dX12_isChannel_6 ?_
    refine j_icmp_ge C 16 dX12_isChannel_9 (by decide) ?_ ?_
    · refine j_iconst C (0 : Int32) dX12_isChannel_16 (by decide) ?_
      exact j_iretz C rfl Q dX12_isChannel_17
    · refine j_iconst C (1 : Int32) dX12_isChannel_12 (by decide) ?_
      refine j_goto C 17 dX12_isChannel_13 (by decide) ?_
      exact j_iretz C rfl Q dX12_isChannel_17
set_option maxRecDepth 100000 in
set_option maxHeartbeats 4000000 in
theorem c_X12_isChannel {E : EnvT} {cs : Nat → ClassId} (F : MF E cs) {σ : Mem} {p1 : Int32} {r : Int32} (h : X12_isChannel σ p1 = some r) : CT E yX12_isChannel cX12_isChannel 2 (some .boolean) rm_X12_isChannel [.ref (eAd E 0), .int p1] σ (RQi r σ) :=
  ct_M F (by decide) (Nat.le_of_ble_eq_true rfl) (fun E' ea F' C Q => by rw [← ea]; exact m_X12_isChannel F'  C Q h)
theorem dd_X12_isChannel : yX12_isChannel.cls ≠ "java/lang/invoke/MethodHandle" ∧ yX12_isChannel.cls ≠ "java/lang/invoke/VarHandle" ∧ (parseMethodDescriptor yX12_isChannel.desc).map (fun d => d.parameters.length) = some 1 := by decide +kernel
def X12_channel (σ : Mem) (p1 : Int32) (p2 : Int32) (p3 : Int32) (p4 : Int32) (p5 : Int32) : Option (Int32 × Mem) :=
  if (σ.1 0 4) = (0 : Int32) then
  (bindo (X12_within (p1.toInt64) (0 : Int64) (4 : Int64)) (fun r2 =>
  if r2 = (0 : Int32) then
  (some ((-2 : Int32), σ))
  else
  (bindo (X12_within (p2.toInt64) (1 : Int64) (20 : Int64)) (fun r4 =>
  if r4 = (0 : Int32) then
  (some ((-2 : Int32), σ))
  else
  (bindo (X12_within (p3.toInt64) (0 : Int64) (20 : Int64)) (fun r6 =>
  if r6 = (0 : Int32) then
  (some ((-2 : Int32), σ))
  else
  (bindo (X12_within (p4.toInt64) (-10000 : Int64) (10000 : Int64)) (fun r8 =>
  if r8 = (0 : Int32) then
  (some ((-2 : Int32), σ))
  else
  (bindo (X12_within (p5.toInt64) (-10000 : Int64) (10000 : Int64)) (fun r10 =>
  if r10 = (0 : Int32) then
  (some ((-2 : Int32), σ))
  else
  (if p4 ≤ p5 then
  (if ¬ (σ.1 0 26) = (8 : Int32) then
  (chk (inb (σ.1 0 26) 8) (
  lete (wI σ 12 (ix (σ.1 0 26)) p1) (fun σ12 =>
  chk (inb (σ12.1 0 26) 8) (
  lete (wI σ12 13 (ix (σ12.1 0 26)) p2) (fun σ14 =>
  chk (inb (σ14.1 0 26) 8) (
  lete (wI σ14 14 (ix (σ14.1 0 26)) p3) (fun σ16 =>
  chk (inb (σ16.1 0 26) 8) (
  lete (wI σ16 15 (ix (σ16.1 0 26)) p4) (fun σ18 =>
  chk (inb (σ18.1 0 26) 8) (
  lete (wI σ18 16 (ix (σ18.1 0 26)) p5) (fun σ20 =>
  chk (inb (σ20.1 0 26) 8) (
  lete (wI σ20 17 (ix (σ20.1 0 26)) (0 : Int32)) (fun σ22 =>
  lete (wI σ22 0 26 ((σ22.1 0 26) + (1 : Int32))) (fun σ23 =>
  some (((σ23.1 0 26) - (1 : Int32)), σ23)))))))))))))))
  else
  (some ((-4 : Int32), σ)))
  else
  (some ((-2 : Int32), σ)))))))))))))
  else
  (some ((-3 : Int32), σ))
abbrev rm_X12_channel : Room := { frames := 1, cells := 0, slots := 0, locals := 25 }
set_option maxRecDepth 100000 in
set_option maxHeartbeats 4000000 in
theorem m_X12_channel {E : EnvT} {cs : Nat → ClassId} (F : MF E cs) {p1 : Int32} {p2 : Int32} {p3 : Int32} {p4 : Int32} {p5 : Int32} {σ : Mem} (C : CX E cX12_channel RX12 6 rm_X12_channel) {r0 : Int32 × Mem} (Q : QE E 0 0 (some .int) (RQi r0.1 r0.2)) : J E 6 0 0 r0 (X12_channel σ p1 p2 p3 p4 p5) σ 0 [(0, .ref (eAd E 0)), (1, .int p1), (2, .int p2), (3, .int p3), (4, .int p4), (5, .int p5)] [] := by

  unfold X12_channel
  refine j_aload_n C dX12_channel_0 0 rfl ?_
  refine j_get (ci := 12) C hU_X12 rfl (min_ F (by decide)) (me_0 F _ _) 4 (by decide) rfl hF_X12_118 dX12_channel_1 ?_
  refine j_if_eq C 10 dX12_channel_4 (by decide) ?_ ?_
  · refine j_iload_n C dX12_channel_10 1 rfl ?_
    refine j_i2l C dX12_channel_11 ?_
    refine j_lconst C (0 : Int64) dX12_channel_12 (by decide) ?_
    refine j_ldc2 C hK_X12_158 dX12_channel_13 ?_
    refine j_bind (fun r2 h1 => ?_)
    refine j_callSi C [.long (p1.toInt64), .long (0 : Int64), .long (4 : Int64)] (c_X12_within F h1) hM_X12_110 hT_X12_within hZ_X12 hC_X12_within dd_X12_within (by decide) ⟨rfl, rfl⟩ (by decide) (Nat.le_of_ble_eq_true rfl) dX12_channel_16 rfl ?_
    refine j_if_eq C 83 dX12_channel_19 (by decide) ?_ ?_
    · refine j_bipush C (-2 : Int32) dX12_channel_83 (by decide) ?_
      exact j_ireti2 C Q dX12_channel_85
    · refine j_iload_n C dX12_channel_22 2 rfl ?_
      refine j_i2l C dX12_channel_23 ?_
      refine j_lconst C (1 : Int64) dX12_channel_24 (by decide) ?_
      refine j_ldc2 C hK_X12_133 dX12_channel_25 ?_
      refine j_bind (fun r4 h3 => ?_)
      refine j_callSi C [.long (p2.toInt64), .long (1 : Int64), .long (20 : Int64)] (c_X12_within F h3) hM_X12_110 hT_X12_within hZ_X12 hC_X12_within dd_X12_within (by decide) ⟨rfl, rfl⟩ (by decide) (Nat.le_of_ble_eq_true rfl) dX12_channel_28 rfl ?_
      refine j_if_eq C 83 dX12_channel_31 (by decide) ?_ ?_
      · refine j_bipush C (-2 : Int32) dX12_channel_83 (by decide) ?_
        exact j_ireti2 C Q dX12_channel_85
      · refine j_iload_n C dX12_channel_34 3 rfl ?_
        refine j_i2l C dX12_channel_35 ?_
        refine j_lconst C (0 : Int64) dX12_channel_36 (by decide) ?_
        refine j_ldc2 C hK_X12_133 dX12_channel_37 ?_
        refine j_bind (fun r6 h5 => ?_)
        refine j_callSi C [.long (p3.toInt64), .long (0 : Int64), .long (20 : Int64)] (c_X12_within F h5) hM_X12_110 hT_X12_within hZ_X12 hC_X12_within dd_X12_within (by decide) ⟨rfl, rfl⟩ (by decide) (Nat.le_of_ble_eq_true rfl) dX12_channel_40 rfl ?_
        refine j_if_eq C 83 dX12_channel_43 (by decide) ?_ ?_
        · refine j_bipush C (-2 : Int32) dX12_channel_83 (by decide) ?_
          exact j_ireti2 C Q dX12_channel_85
        · refine j_iload C dX12_channel_46 4 rfl ?_
          refine j_i2l C dX12_channel_48 ?_
          refine j_ldc2 C hK_X12_227 dX12_channel_49 ?_
          refine j_ldc2 C hK_X12_229 dX12_channel_52 ?_
          refine j_bind (fun r8 h7 => ?_)
          refine j_callSi C [.long (p4.toInt64), .long (-10000 : Int64), .long (10000 : Int64)] (c_X12_within F h7) hM_X12_110 hT_X12_within hZ_X12 hC_X12_within dd_X12_within (by decide) ⟨rfl, rfl⟩ (by decide) (Nat.le_of_ble_eq_true rfl) dX12_channel_55 rfl ?_
          refine j_if_eq C 83 dX12_channel_58 (by decide) ?_ ?_
          · refine j_bipush C (-2 : Int32) dX12_channel_83 (by decide) ?_
            exact j_ireti2 C Q dX12_channel_85
          · refine j_iload C dX12_channel_61 5 rfl ?_
            refine j_i2l C dX12_channel_63 ?_
            refine j_ldc2 C hK_X12_227 dX12_channel_64 ?_
            refine j_ldc2 C hK_X12_229 dX12_channel_67 ?_
            refine j_bind (fun r10 h9 => ?_)
            refine j_callSi C [.long (p5.toInt64), .long (-10000 : Int64), .long (10000 : Int64)] (c_X12_within F h9) hM_X12_110 hT_X12_within hZ_X12 hC_X12_within dd_X12_within (by decide) ⟨rfl, rfl⟩ (by decide) (Nat.le_of_ble_eq_true rfl) dX12_channel_70 rfl ?_
            refine j_if_eq C 83 dX12_channel_73 (by decide) ?_ ?_
            · refine j_bipush C (-2 : Int32) dX12_channel_83 (by decide) ?_
              exact j_ireti2 C Q dX12_channel_85
            · refine j_iload C dX12_channel_76 4 rfl ?_
              refine j_iload C dX12_channel_78 5 rfl ?_
              refine j_icmp_le C 86 dX12_channel_80 (by decide) ?_ ?_
              · refine j_aload_n C dX12_channel_86 0 rfl ?_
                refine j_get (ci := 12) C hU_X12 rfl (min_ F (by decide)) (me_0 F _ _) 26 (by decide) rfl hF_X12_205 dX12_channel_87 ?_
                refine j_bipush C (8 : Int32) dX12_channel_90 (by decide) ?_
                refine j_icmp_ne C 98 dX12_channel_92 (by decide) ?_ ?_
                · refine j_aload_n C dX12_channel_98 0 rfl ?_
                  refine j_get (ci := 12) C hU_X12 rfl (min_ F (by decide)) (me_0 F _ _) 27 (by decide) rfl hF_X12_50 dX12_channel_99 ?_
                  refine j_aload_n C dX12_channel_102 0 rfl ?_
                  refine j_get (ci := 12) C hU_X12 rfl (min_ F (by decide)) (me_0 F _ _) 26 (by decide) rfl hF_X12_205 dX12_channel_103 ?_
                  refine j_iload_n C dX12_channel_106 1 rfl ?_
                  refine j_chk (fun h11 => ?_)
                  refine j_iast (t0 := 0) C (min_ F (by decide)) (me_12 F _ _) (by rw [wI_o, wI_2]; exact (me_12 F _ _)) (mt0 F) (inb_in h11) dX12_channel_107 (fun σ12 => ?_)
                  refine j_aload_n C dX12_channel_108 0 rfl ?_
                  refine j_get (ci := 12) C hU_X12 rfl (min_ F (by decide)) (me_0 F _ _) 28 (by decide) rfl hF_X12_53 dX12_channel_109 ?_
                  refine j_aload_n C dX12_channel_112 0 rfl ?_
                  refine j_get (ci := 12) C hU_X12 rfl (min_ F (by decide)) (me_0 F _ _) 26 (by decide) rfl hF_X12_205 dX12_channel_113 ?_
                  refine j_iload_n C dX12_channel_116 2 rfl ?_
                  refine j_chk (fun h13 => ?_)
                  refine j_iast (t0 := 0) C (min_ F (by decide)) (me_13 F _ _) (by rw [wI_o, wI_2]; exact (me_13 F _ _)) (mt0 F) (inb_in h13) dX12_channel_117 (fun σ14 => ?_)
                  refine j_aload_n C dX12_channel_118 0 rfl ?_
                  refine j_get (ci := 12) C hU_X12 rfl (min_ F (by decide)) (me_0 F _ _) 29 (by decide) rfl hF_X12_56 dX12_channel_119 ?_
                  refine j_aload_n C dX12_channel_122 0 rfl ?_
                  refine j_get (ci := 12) C hU_X12 rfl (min_ F (by decide)) (me_0 F _ _) 26 (by decide) rfl hF_X12_205 dX12_channel_123 ?_
                  refine j_iload_n C dX12_channel_126 3 rfl ?_
                  refine j_chk (fun h15 => ?_)
                  refine j_iast (t0 := 0) C (min_ F (by decide)) (me_14 F _ _) (by rw [wI_o, wI_2]; exact (me_14 F _ _)) (mt0 F) (inb_in h15) dX12_channel_127 (fun σ16 => ?_)
                  refine j_aload_n C dX12_channel_128 0 rfl ?_
                  refine j_get (ci := 12) C hU_X12 rfl (min_ F (by decide)) (me_0 F _ _) 30 (by decide) rfl hF_X12_59 dX12_channel_129 ?_
                  refine j_aload_n C dX12_channel_132 0 rfl ?_
                  refine j_get (ci := 12) C hU_X12 rfl (min_ F (by decide)) (me_0 F _ _) 26 (by decide) rfl hF_X12_205 dX12_channel_133 ?_
                  refine j_iload C dX12_channel_136 4 rfl ?_
                  refine j_chk (fun h17 => ?_)
                  refine j_iast (t0 := 0) C (min_ F (by decide)) (me_15 F _ _) (by rw [wI_o, wI_2]; exact (me_15 F _ _)) (mt0 F) (inb_in h17) dX12_channel_138 (fun σ18 => ?_)
                  refine j_aload_n C dX12_channel_139 0 rfl ?_
                  refine j_get (ci := 12) C hU_X12 rfl (min_ F (by decide)) (me_0 F _ _) 31 (by decide) rfl hF_X12_62 dX12_channel_140 ?_
                  refine j_aload_n C dX12_channel_143 0 rfl ?_
                  refine j_get (ci := 12) C hU_X12 rfl (min_ F (by decide)) (me_0 F _ _) 26 (by decide) rfl hF_X12_205 dX12_channel_144 ?_
                  refine j_iload C dX12_channel_147 5 rfl ?_
                  refine j_chk (fun h19 => ?_)
                  refine j_iast (t0 := 0) C (min_ F (by decide)) (me_16 F _ _) (by rw [wI_o, wI_2]; exact (me_16 F _ _)) (mt0 F) (inb_in h19) dX12_channel_149 (fun σ20 => ?_)
                  refine j_aload_n C dX12_channel_150 0 rfl ?_
                  refine j_get (ci := 12) C hU_X12 rfl (min_ F (by decide)) (me_0 F _ _) 32 (by decide) rfl hF_X12_65 dX12_channel_151 ?_
                  refine j_aload_n C dX12_channel_154 0 rfl ?_
                  refine j_get (ci := 12) C hU_X12 rfl (min_ F (by decide)) (me_0 F _ _) 26 (by decide) rfl hF_X12_205 dX12_channel_155 ?_
                  refine j_iconst C (0 : Int32) dX12_channel_158 (by decide) ?_
                  refine j_chk (fun h21 => ?_)
                  refine j_zast (t0 := 2) C (min_ F (by decide)) (me_17 F _ _) (by rw [wI_o, wI_2]; exact (me_17 F _ _)) (mt2 F) (by decide) (inb_in h21) dX12_channel_159 (fun σ22 => ?_)
                  refine j_aload_n C dX12_channel_160 0 rfl ?_
                  refine j_dup C dX12_channel_161 rfl ?_
                  refine j_get (ci := 12) C hU_X12 rfl (min_ F (by decide)) (me_0 F _ _) 26 (by decide) rfl hF_X12_205 dX12_channel_162 ?_
                  refine j_iconst C (1 : Int32) dX12_channel_165 (by decide) ?_
                  refine j_iadd C dX12_channel_166 ?_
                  refine j_put (ci := 12) C hU_X12 tyX12_ok nmX12 rfl (min_ F (by decide)) (me_0 F _ _) 26 (by decide) (Nat.le_of_ble_eq_true rfl) (by rw [wI_o, wI_2]; exact (me_0 F _ _)) (fun o' h' => ⟨wI_ne _ _ _ h', rfl⟩) rfl (by first | rfl | decide) (by first | rfl | decide) hF_X12_205 dX12_channel_167 (fun σ23 => ?_)
                  refine j_aload_n C dX12_channel_170 0 rfl ?_
                  refine j_get (ci := 12) C hU_X12 rfl (min_ F (by decide)) (me_0 F _ _) 26 (by decide) rfl hF_X12_205 dX12_channel_171 ?_
                  refine j_iconst C (1 : Int32) dX12_channel_174 (by decide) ?_
                  refine j_isub C dX12_channel_175 ?_
                  exact j_ireti2 C Q dX12_channel_176
                · refine j_bipush C (-4 : Int32) dX12_channel_95 (by decide) ?_
                  exact j_ireti2 C Q dX12_channel_97
              · refine j_bipush C (-2 : Int32) dX12_channel_83 (by decide) ?_
                exact j_ireti2 C Q dX12_channel_85
  · refine j_bipush C (-3 : Int32) dX12_channel_7 (by decide) ?_
    exact j_ireti2 C Q dX12_channel_9
set_option maxRecDepth 100000 in
set_option maxHeartbeats 4000000 in
theorem c_X12_channel {E : EnvT} {cs : Nat → ClassId} (F : MF E cs) {σ : Mem} {p1 : Int32} {p2 : Int32} {p3 : Int32} {p4 : Int32} {p5 : Int32} {r : Int32 × Mem} (h : X12_channel σ p1 p2 p3 p4 p5 = some r) : CT E yX12_channel cX12_channel 6 (some .int) rm_X12_channel [.ref (eAd E 0), .int p1, .int p2, .int p3, .int p4, .int p5] σ (RQi r.1 r.2) :=
  ct_M F (by decide) (Nat.le_of_ble_eq_true rfl) (fun E' ea F' C Q => by rw [← ea]; exact m_X12_channel F'  C Q h)
theorem dd_X12_channel : yX12_channel.cls ≠ "java/lang/invoke/MethodHandle" ∧ yX12_channel.cls ≠ "java/lang/invoke/VarHandle" ∧ (parseMethodDescriptor yX12_channel.desc).map (fun d => d.parameters.length) = some 5 := by decide +kernel
def X12_limit (σ : Mem) (p1 : Int32) (p2 : Int32) : Option (Int32 × Mem) :=
  bindo (X12_isChannel σ p1) (fun r2 =>
  if ¬ r2 = (0 : Int32) then
  (bindo (X12_within (p2.toInt64) (-30000 : Int64) (30000 : Int64)) (fun r4 =>
  if ¬ r4 = (0 : Int32) then
  (chk (inb p1 8) (
  lete (wI σ 17 (ix p1) (1 : Int32)) (fun σ6 =>
  chk (inb p1 8) (
  lete (wI σ6 18 (ix p1) p2) (fun σ8 =>
  some ((1 : Int32), σ8))))))
  else
  (some ((-2 : Int32), σ))))
  else
  (some ((-1 : Int32), σ)))
abbrev rm_X12_limit : Room := { frames := 1, cells := 0, slots := 0, locals := 25 }
set_option maxRecDepth 100000 in
set_option maxHeartbeats 4000000 in
theorem m_X12_limit {E : EnvT} {cs : Nat → ClassId} (F : MF E cs) {p1 : Int32} {p2 : Int32} {σ : Mem} (C : CX E cX12_limit RX12 3 rm_X12_limit) {r0 : Int32 × Mem} (Q : QE E 0 0 (some .int) (RQi r0.1 r0.2)) : J E 3 0 0 r0 (X12_limit σ p1 p2) σ 0 [(0, .ref (eAd E 0)), (1, .int p1), (2, .int p2)] [] := by

  unfold X12_limit
  refine j_aload_n C dX12_limit_0 0 rfl ?_
  refine j_iload_n C dX12_limit_1 1 rfl ?_
  refine j_bind (fun r2 h1 => ?_)
  refine j_callVi (ci := 12) C [.int p1] (c_X12_isChannel F h1) hM_X12_231 hI_X12_isChannel hS_X12_isChannel hZ_X12 hC_X12_isChannel (min_ F (by decide)) (me_0 F _ _) rfl rfl dd_X12_isChannel (by decide) ⟨rfl, rfl⟩ (by decide) (Nat.le_of_ble_eq_true rfl) dX12_limit_2 rfl ?_
  refine j_if_ne C 10 dX12_limit_5 (by decide) ?_ ?_
  · refine j_iload_n C dX12_limit_10 2 rfl ?_
    refine j_i2l C dX12_limit_11 ?_
    refine j_ldc2 C hK_X12_234 dX12_limit_12 ?_
    refine j_ldc2 C hK_X12_236 dX12_limit_15 ?_
    refine j_bind (fun r4 h3 => ?_)
    refine j_callSi C [.long (p2.toInt64), .long (-30000 : Int64), .long (30000 : Int64)] (c_X12_within F h3) hM_X12_110 hT_X12_within hZ_X12 hC_X12_within dd_X12_within (by decide) ⟨rfl, rfl⟩ (by decide) (Nat.le_of_ble_eq_true rfl) dX12_limit_18 rfl ?_
    refine j_if_ne C 27 dX12_limit_21 (by decide) ?_ ?_
    · refine j_aload_n C dX12_limit_27 0 rfl ?_
      refine j_get (ci := 12) C hU_X12 rfl (min_ F (by decide)) (me_0 F _ _) 32 (by decide) rfl hF_X12_65 dX12_limit_28 ?_
      refine j_iload_n C dX12_limit_31 1 rfl ?_
      refine j_iconst C (1 : Int32) dX12_limit_32 (by decide) ?_
      refine j_chk (fun h5 => ?_)
      refine j_zast (t0 := 2) C (min_ F (by decide)) (me_17 F _ _) (by rw [wI_o, wI_2]; exact (me_17 F _ _)) (mt2 F) (by decide) (inb_in h5) dX12_limit_33 (fun σ6 => ?_)
      refine j_aload_n C dX12_limit_34 0 rfl ?_
      refine j_get (ci := 12) C hU_X12 rfl (min_ F (by decide)) (me_0 F _ _) 33 (by decide) rfl hF_X12_69 dX12_limit_35 ?_
      refine j_iload_n C dX12_limit_38 1 rfl ?_
      refine j_iload_n C dX12_limit_39 2 rfl ?_
      refine j_chk (fun h7 => ?_)
      refine j_iast (t0 := 0) C (min_ F (by decide)) (me_18 F _ _) (by rw [wI_o, wI_2]; exact (me_18 F _ _)) (mt0 F) (inb_in h7) dX12_limit_40 (fun σ8 => ?_)
      refine j_iconst C (1 : Int32) dX12_limit_41 (by decide) ?_
      exact j_ireti2 C Q dX12_limit_42
    · refine j_bipush C (-2 : Int32) dX12_limit_24 (by decide) ?_
      exact j_ireti2 C Q dX12_limit_26
  · refine j_iconst C (-1 : Int32) dX12_limit_8 (by decide) ?_
    exact j_ireti2 C Q dX12_limit_9
set_option maxRecDepth 100000 in
set_option maxHeartbeats 4000000 in
theorem c_X12_limit {E : EnvT} {cs : Nat → ClassId} (F : MF E cs) {σ : Mem} {p1 : Int32} {p2 : Int32} {r : Int32 × Mem} (h : X12_limit σ p1 p2 = some r) : CT E yX12_limit cX12_limit 3 (some .int) rm_X12_limit [.ref (eAd E 0), .int p1, .int p2] σ (RQi r.1 r.2) :=
  ct_M F (by decide) (Nat.le_of_ble_eq_true rfl) (fun E' ea F' C Q => by rw [← ea]; exact m_X12_limit F'  C Q h)
theorem dd_X12_limit : yX12_limit.cls ≠ "java/lang/invoke/MethodHandle" ∧ yX12_limit.cls ≠ "java/lang/invoke/VarHandle" ∧ (parseMethodDescriptor yX12_limit.desc).map (fun d => d.parameters.length) = some 2 := by decide +kernel
def X12_lose (σ : Mem) (p1 : Int32) (p2 : Int32) (p3 : Int32) : Option (Int32 × Mem) :=
  bindo (X12_isChannel σ p1) (fun r2 =>
  if ¬ r2 = (0 : Int32) then
  (bindo (X12_within (p2.toInt64) (0 : Int64) (3000 : Int64)) (fun r4 =>
  if r4 = (0 : Int32) then
  (some ((-2 : Int32), σ))
  else
  (bindo (X12_within (p3.toInt64) (p2.toInt64) (3000 : Int64)) (fun r6 =>
  if ¬ r6 = (0 : Int32) then
  (if ¬ (σ.1 0 34) = (20 : Int32) then
  (chk (inb (σ.1 0 34) 20) (
  lete (wI σ 19 (ix (σ.1 0 34)) p1) (fun σ8 =>
  chk (inb (σ8.1 0 34) 20) (
  lete (wI σ8 20 (ix (σ8.1 0 34)) p2) (fun σ10 =>
  chk (inb (σ10.1 0 34) 20) (
  lete (wI σ10 21 (ix (σ10.1 0 34)) p3) (fun σ12 =>
  lete (wI σ12 0 34 ((σ12.1 0 34) + (1 : Int32))) (fun σ13 =>
  some ((σ13.1 0 34), σ13)))))))))
  else
  (some ((-4 : Int32), σ)))
  else
  (some ((-2 : Int32), σ))))))
  else
  (some ((-1 : Int32), σ)))
abbrev rm_X12_lose : Room := { frames := 1, cells := 0, slots := 0, locals := 25 }
set_option maxRecDepth 100000 in
set_option maxHeartbeats 4000000 in
theorem m_X12_lose {E : EnvT} {cs : Nat → ClassId} (F : MF E cs) {p1 : Int32} {p2 : Int32} {p3 : Int32} {σ : Mem} (C : CX E cX12_lose RX12 4 rm_X12_lose) {r0 : Int32 × Mem} (Q : QE E 0 0 (some .int) (RQi r0.1 r0.2)) : J E 4 0 0 r0 (X12_lose σ p1 p2 p3) σ 0 [(0, .ref (eAd E 0)), (1, .int p1), (2, .int p2), (3, .int p3)] [] := by

  unfold X12_lose
  refine j_aload_n C dX12_lose_0 0 rfl ?_
  refine j_iload_n C dX12_lose_1 1 rfl ?_
  refine j_bind (fun r2 h1 => ?_)
  refine j_callVi (ci := 12) C [.int p1] (c_X12_isChannel F h1) hM_X12_231 hI_X12_isChannel hS_X12_isChannel hZ_X12 hC_X12_isChannel (min_ F (by decide)) (me_0 F _ _) rfl rfl dd_X12_isChannel (by decide) ⟨rfl, rfl⟩ (by decide) (Nat.le_of_ble_eq_true rfl) dX12_lose_2 rfl ?_
  refine j_if_ne C 10 dX12_lose_5 (by decide) ?_ ?_
  · refine j_iload_n C dX12_lose_10 2 rfl ?_
    refine j_i2l C dX12_lose_11 ?_
    refine j_lconst C (0 : Int64) dX12_lose_12 (by decide) ?_
    refine j_ldc2 C hK_X12_238 dX12_lose_13 ?_
    refine j_bind (fun r4 h3 => ?_)
    refine j_callSi C [.long (p2.toInt64), .long (0 : Int64), .long (3000 : Int64)] (c_X12_within F h3) hM_X12_110 hT_X12_within hZ_X12 hC_X12_within dd_X12_within (by decide) ⟨rfl, rfl⟩ (by decide) (Nat.le_of_ble_eq_true rfl) dX12_lose_16 rfl ?_
    refine j_if_eq C 35 dX12_lose_19 (by decide) ?_ ?_
    · refine j_bipush C (-2 : Int32) dX12_lose_35 (by decide) ?_
      exact j_ireti2 C Q dX12_lose_37
    · refine j_iload_n C dX12_lose_22 3 rfl ?_
      refine j_i2l C dX12_lose_23 ?_
      refine j_iload_n C dX12_lose_24 2 rfl ?_
      refine j_i2l C dX12_lose_25 ?_
      refine j_ldc2 C hK_X12_238 dX12_lose_26 ?_
      refine j_bind (fun r6 h5 => ?_)
      refine j_callSi C [.long (p3.toInt64), .long (p2.toInt64), .long (3000 : Int64)] (c_X12_within F h5) hM_X12_110 hT_X12_within hZ_X12 hC_X12_within dd_X12_within (by decide) ⟨rfl, rfl⟩ (by decide) (Nat.le_of_ble_eq_true rfl) dX12_lose_29 rfl ?_
      refine j_if_ne C 38 dX12_lose_32 (by decide) ?_ ?_
      · refine j_aload_n C dX12_lose_38 0 rfl ?_
        refine j_get (ci := 12) C hU_X12 rfl (min_ F (by decide)) (me_0 F _ _) 34 (by decide) rfl hF_X12_240 dX12_lose_39 ?_
        refine j_bipush C (20 : Int32) dX12_lose_42 (by decide) ?_
        refine j_icmp_ne C 50 dX12_lose_44 (by decide) ?_ ?_
        · refine j_aload_n C dX12_lose_50 0 rfl ?_
          refine j_get (ci := 12) C hU_X12 rfl (min_ F (by decide)) (me_0 F _ _) 35 (by decide) rfl hF_X12_72 dX12_lose_51 ?_
          refine j_aload_n C dX12_lose_54 0 rfl ?_
          refine j_get (ci := 12) C hU_X12 rfl (min_ F (by decide)) (me_0 F _ _) 34 (by decide) rfl hF_X12_240 dX12_lose_55 ?_
          refine j_iload_n C dX12_lose_58 1 rfl ?_
          refine j_chk (fun h7 => ?_)
          refine j_iast (t0 := 0) C (min_ F (by decide)) (me_19 F _ _) (by rw [wI_o, wI_2]; exact (me_19 F _ _)) (mt0 F) (inb_in h7) dX12_lose_59 (fun σ8 => ?_)
          refine j_aload_n C dX12_lose_60 0 rfl ?_
          refine j_get (ci := 12) C hU_X12 rfl (min_ F (by decide)) (me_0 F _ _) 36 (by decide) rfl hF_X12_75 dX12_lose_61 ?_
          refine j_aload_n C dX12_lose_64 0 rfl ?_
          refine j_get (ci := 12) C hU_X12 rfl (min_ F (by decide)) (me_0 F _ _) 34 (by decide) rfl hF_X12_240 dX12_lose_65 ?_
          refine j_iload_n C dX12_lose_68 2 rfl ?_
          refine j_chk (fun h9 => ?_)
          refine j_iast (t0 := 0) C (min_ F (by decide)) (me_20 F _ _) (by rw [wI_o, wI_2]; exact (me_20 F _ _)) (mt0 F) (inb_in h9) dX12_lose_69 (fun σ10 => ?_)
          refine j_aload_n C dX12_lose_70 0 rfl ?_
          refine j_get (ci := 12) C hU_X12 rfl (min_ F (by decide)) (me_0 F _ _) 37 (by decide) rfl hF_X12_78 dX12_lose_71 ?_
          refine j_aload_n C dX12_lose_74 0 rfl ?_
          refine j_get (ci := 12) C hU_X12 rfl (min_ F (by decide)) (me_0 F _ _) 34 (by decide) rfl hF_X12_240 dX12_lose_75 ?_
          refine j_iload_n C dX12_lose_78 3 rfl ?_
          refine j_chk (fun h11 => ?_)
          refine j_iast (t0 := 0) C (min_ F (by decide)) (me_21 F _ _) (by rw [wI_o, wI_2]; exact (me_21 F _ _)) (mt0 F) (inb_in h11) dX12_lose_79 (fun σ12 => ?_)
          refine j_aload_n C dX12_lose_80 0 rfl ?_
          refine j_dup C dX12_lose_81 rfl ?_
          refine j_get (ci := 12) C hU_X12 rfl (min_ F (by decide)) (me_0 F _ _) 34 (by decide) rfl hF_X12_240 dX12_lose_82 ?_
          refine j_iconst C (1 : Int32) dX12_lose_85 (by decide) ?_
          refine j_iadd C dX12_lose_86 ?_
          refine j_put (ci := 12) C hU_X12 tyX12_ok nmX12 rfl (min_ F (by decide)) (me_0 F _ _) 34 (by decide) (Nat.le_of_ble_eq_true rfl) (by rw [wI_o, wI_2]; exact (me_0 F _ _)) (fun o' h' => ⟨wI_ne _ _ _ h', rfl⟩) rfl (by first | rfl | decide) (by first | rfl | decide) hF_X12_240 dX12_lose_87 (fun σ13 => ?_)
          refine j_aload_n C dX12_lose_90 0 rfl ?_
          refine j_get (ci := 12) C hU_X12 rfl (min_ F (by decide)) (me_0 F _ _) 34 (by decide) rfl hF_X12_240 dX12_lose_91 ?_
          exact j_ireti2 C Q dX12_lose_94
        · refine j_bipush C (-4 : Int32) dX12_lose_47 (by decide) ?_
          exact j_ireti2 C Q dX12_lose_49
      · refine j_bipush C (-2 : Int32) dX12_lose_35 (by decide) ?_
        exact j_ireti2 C Q dX12_lose_37
  · refine j_iconst C (-1 : Int32) dX12_lose_8 (by decide) ?_
    exact j_ireti2 C Q dX12_lose_9
set_option maxRecDepth 100000 in
set_option maxHeartbeats 4000000 in
theorem c_X12_lose {E : EnvT} {cs : Nat → ClassId} (F : MF E cs) {σ : Mem} {p1 : Int32} {p2 : Int32} {p3 : Int32} {r : Int32 × Mem} (h : X12_lose σ p1 p2 p3 = some r) : CT E yX12_lose cX12_lose 4 (some .int) rm_X12_lose [.ref (eAd E 0), .int p1, .int p2, .int p3] σ (RQi r.1 r.2) :=
  ct_M F (by decide) (Nat.le_of_ble_eq_true rfl) (fun E' ea F' C Q => by rw [← ea]; exact m_X12_lose F'  C Q h)
theorem dd_X12_lose : yX12_lose.cls ≠ "java/lang/invoke/MethodHandle" ∧ yX12_lose.cls ≠ "java/lang/invoke/VarHandle" ∧ (parseMethodDescriptor yX12_lose.desc).map (fun d => d.parameters.length) = some 3 := by decide +kernel
def X12_isCut (σ : Mem) (p1 : Int32) (p2 : Int32) : Option (Int32) :=
  bindo (X12_raw σ p1 p2) (fun r2 =>
  chk (inb p1 8) (
  if r2 < (σ.1 15 (ix p1)) then
  (some (1 : Int32))
  else
  (chk (inb p1 8) (
  if r2 ≤ (σ.1 16 (ix p1)) then
  (some (0 : Int32))
  else
  (some (1 : Int32))))))
abbrev rm_X12_isCut : Room := { frames := 1, cells := 0, slots := 0, locals := 22 }
set_option maxRecDepth 100000 in
set_option maxHeartbeats 4000000 in
theorem m_X12_isCut {E : EnvT} {cs : Nat → ClassId} (F : MF E cs) {p1 : Int32} {p2 : Int32} {σ : Mem} (C : CX E cX12_isCut RX12 4 rm_X12_isCut) {r0 : Int32} (Q : QE E 0 0 (some .boolean) (RQi r0 σ)) : J E 4 0 0 r0 (X12_isCut σ p1 p2) σ 0 [(0, .ref (eAd E 0)), (1, .int p1), (2, .int p2)] [] := by

  unfold X12_isCut
  refine j_aload_n C dX12_isCut_0 0 rfl ?_
  refine j_iload_n C dX12_isCut_1 1 rfl ?_
  refine j_iload_n C dX12_isCut_2 2 rfl ?_
  refine j_bind (fun r2 h1 => ?_)
  refine j_callVi (ci := 12) C [.int p1, .int p2] (c_X12_raw F h1) hM_X12_243 hI_X12_raw hS_X12_raw hZ_X12 hC_X12_raw (min_ F (by decide)) (me_0 F _ _) rfl rfl dd_X12_raw (by decide) ⟨rfl, rfl⟩ (by decide) (Nat.le_of_ble_eq_true rfl) dX12_isCut_3 rfl ?_
  refine j_istore_n (lv' := [(3, .int r2), (0, .ref (eAd E 0)), (1, .int p1), (2, .int p2)]) C dX12_isCut_6 (by decide) rfl ?_
  refine j_iload_n C dX12_isCut_7 0 rfl ?_
  refine j_aload_n C dX12_isCut_8 1 rfl ?_
  refine j_get (ci := 12) C hU_X12 rfl (min_ F (by decide)) (me_0 F _ _) 30 (by decide) rfl hF_X12_59 dX12_isCut_9 ?_
  refine j_iload_n C dX12_isCut_12 2 rfl ?_
  refine j_chk (fun h3 => ?_)
  refine j_iald (t0 := 0) C (min_ F (by decide)) (me_15 F _ _) (mt0 F) (inb_in h3) dX12_isCut_13 ?_
  refine j_icmp_lt C 27 dX12_isCut_14 (by decide) ?_ ?_
  · refine j_iconst C (1 : Int32) dX12_isCut_27 (by decide) ?_
    refine j_goto C 32 dX12_isCut_28 (by decide) ?_
    exact j_iretz C rfl Q dX12_isCut_32
  · refine j_iload_n C dX12_isCut_17 0 rfl ?_
    refine j_aload_n C dX12_isCut_18 1 rfl ?_
    refine j_get (ci := 12) C hU_X12 rfl (min_ F (by decide)) (me_0 F _ _) 31 (by decide) rfl hF_X12_62 dX12_isCut_19 ?_
    refine j_iload_n C dX12_isCut_22 2 rfl ?_
    refine j_chk (fun h4 => ?_)
    refine j_iald (t0 := 0) C (min_ F (by decide)) (me_16 F _ _) (mt0 F) (inb_in h4) dX12_isCut_23 ?_
    refine j_icmp_le C 31 dX12_isCut_24 (by decide) ?_ ?_
    · refine j_iconst C (0 : Int32) dX12_isCut_31 (by decide) ?_
      exact j_iretz C rfl Q dX12_isCut_32
    · refine j_iconst C (1 : Int32) dX12_isCut_27 (by decide) ?_
      refine j_goto C 32 dX12_isCut_28 (by decide) ?_
      exact j_iretz C rfl Q dX12_isCut_32
set_option maxRecDepth 100000 in
set_option maxHeartbeats 4000000 in
theorem c_X12_isCut {E : EnvT} {cs : Nat → ClassId} (F : MF E cs) {σ : Mem} {p1 : Int32} {p2 : Int32} {r : Int32} (h : X12_isCut σ p1 p2 = some r) : CT E yX12_isCut cX12_isCut 4 (some .boolean) rm_X12_isCut [.ref (eAd E 0), .int p1, .int p2] σ (RQi r σ) :=
  ct_M F (by decide) (Nat.le_of_ble_eq_true rfl) (fun E' ea F' C Q => by rw [← ea]; exact m_X12_isCut F'  C Q h)
theorem dd_X12_isCut : yX12_isCut.cls ≠ "java/lang/invoke/MethodHandle" ∧ yX12_isCut.cls ≠ "java/lang/invoke/VarHandle" ∧ (parseMethodDescriptor yX12_isCut.desc).map (fun d => d.parameters.length) = some 2 := by decide +kernel
def X12_isRead (σ : Mem) (p1 : Int32) (p2 : Int32) : Option (Int32) :=
  bindo (X12_isChannel σ p1) (fun r2 =>
  if r2 = (0 : Int32) then
  (some (0 : Int32))
  else
  (bindo (X12_within (p2.toInt64) (0 : Int64) (((σ.1 0 5)).toInt64)) (fun r4 =>
  if r4 = (0 : Int32) then
  (some (0 : Int32))
  else
  (chk (inb p1 8) (
  chk (nz (σ.1 13 (ix p1))) (
  if ¬ (p2 - p2 / (σ.1 13 (ix p1)) * (σ.1 13 (ix p1))) = (0 : Int32) then
  (some (0 : Int32))
  else
  (some (1 : Int32))))))))
abbrev rm_X12_isRead : Room := { frames := 1, cells := 0, slots := 0, locals := 25 }
set_option maxRecDepth 100000 in
set_option maxHeartbeats 4000000 in
theorem m_X12_isRead {E : EnvT} {cs : Nat → ClassId} (F : MF E cs) {p1 : Int32} {p2 : Int32} {σ : Mem} (C : CX E cX12_isRead RX12 3 rm_X12_isRead) {r0 : Int32} (Q : QE E 0 0 (some .boolean) (RQi r0 σ)) : J E 3 0 0 r0 (X12_isRead σ p1 p2) σ 0 [(0, .ref (eAd E 0)), (1, .int p1), (2, .int p2)] [] := by

  unfold X12_isRead
  refine j_aload_n C dX12_isRead_0 0 rfl ?_
  refine j_iload_n C dX12_isRead_1 1 rfl ?_
  refine j_bind (fun r2 h1 => ?_)
  refine j_callVi (ci := 12) C [.int p1] (c_X12_isChannel F h1) hM_X12_231 hI_X12_isChannel hS_X12_isChannel hZ_X12 hC_X12_isChannel (min_ F (by decide)) (me_0 F _ _) rfl rfl dd_X12_isChannel (by decide) ⟨rfl, rfl⟩ (by decide) (Nat.le_of_ble_eq_true rfl) dX12_isRead_2 rfl ?_
  refine j_if_eq C 37 dX12_isRead_5 (by decide) ?_ ?_
  · refine j_iconst C (0 : Int32) dX12_isRead_37 (by decide) ?_
    exact j_iretz C rfl Q dX12_isRead_38
  · refine j_iload_n C dX12_isRead_8 2 rfl ?_
    refine j_i2l C dX12_isRead_9 ?_
    refine j_lconst C (0 : Int64) dX12_isRead_10 (by decide) ?_
    refine j_aload_n C dX12_isRead_11 0 rfl ?_
    refine j_get (ci := 12) C hU_X12 rfl (min_ F (by decide)) (me_0 F _ _) 5 (by decide) rfl hF_X12_190 dX12_isRead_12 ?_
    refine j_i2l C dX12_isRead_15 ?_
    refine j_bind (fun r4 h3 => ?_)
    refine j_callSi C [.long (p2.toInt64), .long (0 : Int64), .long (((σ.1 0 5)).toInt64)] (c_X12_within F h3) hM_X12_110 hT_X12_within hZ_X12 hC_X12_within dd_X12_within (by decide) ⟨rfl, rfl⟩ (by decide) (Nat.le_of_ble_eq_true rfl) dX12_isRead_16 rfl ?_
    refine j_if_eq C 37 dX12_isRead_19 (by decide) ?_ ?_
    · refine j_iconst C (0 : Int32) dX12_isRead_37 (by decide) ?_
      exact j_iretz C rfl Q dX12_isRead_38
    · refine j_iload_n C dX12_isRead_22 2 rfl ?_
      refine j_aload_n C dX12_isRead_23 0 rfl ?_
      refine j_get (ci := 12) C hU_X12 rfl (min_ F (by decide)) (me_0 F _ _) 28 (by decide) rfl hF_X12_53 dX12_isRead_24 ?_
      refine j_iload_n C dX12_isRead_27 1 rfl ?_
      refine j_chk (fun h5 => ?_)
      refine j_iald (t0 := 0) C (min_ F (by decide)) (me_13 F _ _) (mt0 F) (inb_in h5) dX12_isRead_28 ?_
      refine j_chk (fun h6 => ?_)
      refine j_iremK C dX12_isRead_29 (nz_ne h6) ?_
      refine j_if_ne C 37 dX12_isRead_30 (by decide) ?_ ?_
      · refine j_iconst C (0 : Int32) dX12_isRead_37 (by decide) ?_
        exact j_iretz C rfl Q dX12_isRead_38
      · refine j_iconst C (1 : Int32) dX12_isRead_33 (by decide) ?_
        refine j_goto C 38 dX12_isRead_34 (by decide) ?_
        exact j_iretz C rfl Q dX12_isRead_38
set_option maxRecDepth 100000 in
set_option maxHeartbeats 4000000 in
theorem c_X12_isRead {E : EnvT} {cs : Nat → ClassId} (F : MF E cs) {σ : Mem} {p1 : Int32} {p2 : Int32} {r : Int32} (h : X12_isRead σ p1 p2 = some r) : CT E yX12_isRead cX12_isRead 3 (some .boolean) rm_X12_isRead [.ref (eAd E 0), .int p1, .int p2] σ (RQi r σ) :=
  ct_M F (by decide) (Nat.le_of_ble_eq_true rfl) (fun E' ea F' C Q => by rw [← ea]; exact m_X12_isRead F'  C Q h)
theorem dd_X12_isRead : yX12_isRead.cls ≠ "java/lang/invoke/MethodHandle" ∧ yX12_isRead.cls ≠ "java/lang/invoke/VarHandle" ∧ (parseMethodDescriptor yX12_isRead.desc).map (fun d => d.parameters.length) = some 2 := by decide +kernel
