def X12_reading (σ : Mem) (p1 : Int32) (p2 : Int32) : Option (Int64) :=
  bindo (X12_isRead σ p1 p2) (fun r2 =>
  if r2 = (0 : Int32) then
  (some (-9223372036854775808 : Int64))
  else
  (bindo (X12_isLost σ p1 p2) (fun r4 =>
  if ¬ r4 = (0 : Int32) then
  (some (-9223372036854775808 : Int64))
  else
  (bindo (X12_corrected σ p1 p2) (fun r6 =>
  some r6)))))
abbrev rm_X12_reading : Room := { frames := 2, cells := 0, slots := 0, locals := 47 }
set_option maxRecDepth 100000 in
set_option maxHeartbeats 4000000 in
theorem m_X12_reading {E : EnvT} {cs : Nat → ClassId} (F : MF E cs) {p1 : Int32} {p2 : Int32} {σ : Mem} (C : CX E cX12_reading RX12 3 rm_X12_reading) {r0 : Int64} (Q : QE E 0 0 (some .long) (RQl r0 σ)) : J E 3 0 0 r0 (X12_reading σ p1 p2) σ 0 [(0, .ref (eAd E 0)), (1, .int p1), (2, .int p2)] [] := by

  unfold X12_reading
  refine j_aload_n C dX12_reading_0 0 rfl ?_
  refine j_iload_n C dX12_reading_1 1 rfl ?_
  refine j_iload_n C dX12_reading_2 2 rfl ?_
  refine j_bind (fun r2 h1 => ?_)
  refine j_callVi (ci := 12) C [.int p1, .int p2] (c_X12_isRead F h1) hM_X12_246 hI_X12_isRead hS_X12_isRead hZ_X12 hC_X12_isRead (min_ F (by decide)) (me_0 F _ _) rfl rfl dd_X12_isRead (by decide) ⟨rfl, rfl⟩ (by decide) (Nat.le_of_ble_eq_true rfl) dX12_reading_3 rfl ?_
  refine j_if_eq C 27 dX12_reading_6 (by decide) ?_ ?_
  · refine j_ldc2 C hK_X12_106 dX12_reading_27 ?_
    exact j_lret C Q dX12_reading_30
  · refine j_aload_n C dX12_reading_9 0 rfl ?_
    refine j_iload_n C dX12_reading_10 1 rfl ?_
    refine j_iload_n C dX12_reading_11 2 rfl ?_
    refine j_bind (fun r4 h3 => ?_)
    refine j_callVi (ci := 12) C [.int p1, .int p2] (c_X12_isLost F h3) hM_X12_208 hI_X12_isLost hS_X12_isLost hZ_X12 hC_X12_isLost (min_ F (by decide)) (me_0 F _ _) rfl rfl dd_X12_isLost (by decide) ⟨rfl, rfl⟩ (by decide) (Nat.le_of_ble_eq_true rfl) dX12_reading_12 rfl ?_
    refine j_if_ne C 27 dX12_reading_15 (by decide) ?_ ?_
    · refine j_ldc2 C hK_X12_106 dX12_reading_27 ?_
      exact j_lret C Q dX12_reading_30
    · refine j_aload_n C dX12_reading_18 0 rfl ?_
      refine j_iload_n C dX12_reading_19 1 rfl ?_
      refine j_iload_n C dX12_reading_20 2 rfl ?_
      refine j_bind (fun r6 h5 => ?_)
      refine j_callVl (ci := 12) C [.int p1, .int p2] (c_X12_corrected F h5) hM_X12_212 hI_X12_corrected hS_X12_corrected hZ_X12 hC_X12_corrected (min_ F (by decide)) (me_0 F _ _) rfl rfl dd_X12_corrected (by decide) ⟨rfl, rfl⟩ (by decide) (Nat.le_of_ble_eq_true rfl) dX12_reading_21 rfl ?_
      refine j_goto C 30 dX12_reading_24 (by decide) ?_
      exact j_lret C Q dX12_reading_30
set_option maxRecDepth 100000 in
set_option maxHeartbeats 4000000 in
theorem c_X12_reading {E : EnvT} {cs : Nat → ClassId} (F : MF E cs) {σ : Mem} {p1 : Int32} {p2 : Int32} {r : Int64} (h : X12_reading σ p1 p2 = some r) : CT E yX12_reading cX12_reading 3 (some .long) rm_X12_reading [.ref (eAd E 0), .int p1, .int p2] σ (RQl r σ) :=
  ct_M F (by decide) (Nat.le_of_ble_eq_true rfl) (fun E' ea F' C Q => by rw [← ea]; exact m_X12_reading F'  C Q h)
theorem dd_X12_reading : yX12_reading.cls ≠ "java/lang/invoke/MethodHandle" ∧ yX12_reading.cls ≠ "java/lang/invoke/VarHandle" ∧ (parseMethodDescriptor yX12_reading.desc).map (fun d => d.parameters.length) = some 2 := by decide +kernel
def X12_state (σ : Mem) (p1 : Int32) (p2 : Int32) : Option (Int32) :=
  bindo (X12_isRead σ p1 p2) (fun r2 =>
  if ¬ r2 = (0 : Int32) then
  (bindo (X12_isLost σ p1 p2) (fun r4 =>
  if r4 = (0 : Int32) then
  (bindo (X12_isCut σ p1 p2) (fun r6 =>
  if r6 = (0 : Int32) then
  (some (0 : Int32))
  else
  (some (1 : Int32))))
  else
  (some (2 : Int32))))
  else
  (some (-1 : Int32)))
abbrev rm_X12_state : Room := { frames := 2, cells := 0, slots := 0, locals := 47 }
set_option maxRecDepth 100000 in
set_option maxHeartbeats 4000000 in
theorem m_X12_state {E : EnvT} {cs : Nat → ClassId} (F : MF E cs) {p1 : Int32} {p2 : Int32} {σ : Mem} (C : CX E cX12_state RX12 3 rm_X12_state) {r0 : Int32} (Q : QE E 0 0 (some .int) (RQi r0 σ)) : J E 3 0 0 r0 (X12_state σ p1 p2) σ 0 [(0, .ref (eAd E 0)), (1, .int p1), (2, .int p2)] [] := by

  unfold X12_state
  refine j_aload_n C dX12_state_0 0 rfl ?_
  refine j_iload_n C dX12_state_1 1 rfl ?_
  refine j_iload_n C dX12_state_2 2 rfl ?_
  refine j_bind (fun r2 h1 => ?_)
  refine j_callVi (ci := 12) C [.int p1, .int p2] (c_X12_isRead F h1) hM_X12_246 hI_X12_isRead hS_X12_isRead hZ_X12 hC_X12_isRead (min_ F (by decide)) (me_0 F _ _) rfl rfl dd_X12_isRead (by decide) ⟨rfl, rfl⟩ (by decide) (Nat.le_of_ble_eq_true rfl) dX12_state_3 rfl ?_
  refine j_if_ne C 11 dX12_state_6 (by decide) ?_ ?_
  · refine j_aload_n C dX12_state_11 0 rfl ?_
    refine j_iload_n C dX12_state_12 1 rfl ?_
    refine j_iload_n C dX12_state_13 2 rfl ?_
    refine j_bind (fun r4 h3 => ?_)
    refine j_callVi (ci := 12) C [.int p1, .int p2] (c_X12_isLost F h3) hM_X12_208 hI_X12_isLost hS_X12_isLost hZ_X12 hC_X12_isLost (min_ F (by decide)) (me_0 F _ _) rfl rfl dd_X12_isLost (by decide) ⟨rfl, rfl⟩ (by decide) (Nat.le_of_ble_eq_true rfl) dX12_state_14 rfl ?_
    refine j_if_eq C 24 dX12_state_17 (by decide) ?_ ?_
    · refine j_aload_n C dX12_state_24 0 rfl ?_
      refine j_iload_n C dX12_state_25 1 rfl ?_
      refine j_iload_n C dX12_state_26 2 rfl ?_
      refine j_bind (fun r6 h5 => ?_)
      refine j_callVi (ci := 12) C [.int p1, .int p2] (c_X12_isCut F h5) hM_X12_249 hI_X12_isCut hS_X12_isCut hZ_X12 hC_X12_isCut (min_ F (by decide)) (me_0 F _ _) rfl rfl dd_X12_isCut (by decide) ⟨rfl, rfl⟩ (by decide) (Nat.le_of_ble_eq_true rfl) dX12_state_27 rfl ?_
      refine j_if_eq C 37 dX12_state_30 (by decide) ?_ ?_
      · refine j_iconst C (0 : Int32) dX12_state_37 (by decide) ?_
        exact j_ireti C Q dX12_state_38
      · refine j_iconst C (1 : Int32) dX12_state_33 (by decide) ?_
        refine j_goto C 38 dX12_state_34 (by decide) ?_
        exact j_ireti C Q dX12_state_38
    · refine j_iconst C (2 : Int32) dX12_state_20 (by decide) ?_
      refine j_goto C 38 dX12_state_21 (by decide) ?_
      exact j_ireti C Q dX12_state_38
  · refine j_iconst C (-1 : Int32) dX12_state_9 (by decide) ?_
    exact j_ireti C Q dX12_state_10
set_option maxRecDepth 100000 in
set_option maxHeartbeats 4000000 in
theorem c_X12_state {E : EnvT} {cs : Nat → ClassId} (F : MF E cs) {σ : Mem} {p1 : Int32} {p2 : Int32} {r : Int32} (h : X12_state σ p1 p2 = some r) : CT E yX12_state cX12_state 3 (some .int) rm_X12_state [.ref (eAd E 0), .int p1, .int p2] σ (RQi r σ) :=
  ct_M F (by decide) (Nat.le_of_ble_eq_true rfl) (fun E' ea F' C Q => by rw [← ea]; exact m_X12_state F'  C Q h)
theorem dd_X12_state : yX12_state.cls ≠ "java/lang/invoke/MethodHandle" ∧ yX12_state.cls ≠ "java/lang/invoke/VarHandle" ∧ (parseMethodDescriptor yX12_state.desc).map (fun d => d.parameters.length) = some 2 := by decide +kernel
def X12_makeReport_b317 (rec64 : (Mem × Int32 × Int32 × Int32 × Int32) → Option (Mem)) (σ : Mem) (v2 : Int32) (v4 : Int32) (v5 : Int32) (v6 : Int32) : Option (Mem) :=
  lete (v6 + (1 : Int32)) (fun x1 =>
  rec64 (σ, v2, v4, v5, x1))
def X12_makeReport_b313 (rec64 : (Mem × Int32 × Int32 × Int32 × Int32) → Option (Mem)) (σ : Mem) (v2 : Int32) (v4 : Int32) (v6 : Int32) : Option (Mem) :=
  X12_makeReport_b317 rec64 σ v2 v4 v6 v6
def X12_makeReport_b295 (rec64 : (Mem × Int32 × Int32 × Int32 × Int32) → Option (Mem)) (σ : Mem) (v2 : Int32) (v4 : Int32) (v5 : Int32) (v6 : Int32) : Option (Mem) :=
  if v5 = (-9 : Int32) then
  (X12_makeReport_b313 rec64 σ v2 v4 v6)
  else
  (lete (wJ σ 26 (ix (7 : Int32)) ((σ.2 26 (ix (7 : Int32))) + (1 : Int64))) (fun σ1 =>
  X12_makeReport_b313 rec64 σ1 v2 v4 v6))
def X12_makeReport_b230 (rec64 : (Mem × Int32 × Int32 × Int32 × Int32) → Option (Mem)) (σ : Mem) (v2 : Int32) (v4 : Int32) (v5 : Int32) (v6 : Int32) (v7 : Int64) (s0 : Int64) (s1 : Int64) (s2 : Int32) : Option (Mem) :=
  chk (inb s2 8) (
  lete (wJ σ 26 (ix s2) (s1 + s0)) (fun σ2 =>
  lete (wJ σ2 26 (ix (5 : Int32)) ((σ2.2 26 (ix (5 : Int32))) + v7)) (fun σ3 =>
  if v5 = (-9 : Int32) then
  (X12_makeReport_b295 rec64 σ3 v2 v4 v5 v6)
  else
  (chk (inb v2 8) (
  if ¬ (v6 - v5) = (σ3.1 13 (ix v2)) then
  (X12_makeReport_b295 rec64 σ3 v2 v4 v5 v6)
  else
  (bindo (X12_corrected σ3 v2 v5) (fun r6 =>
  chk (inb v2 8) (
  lete (wJ σ3 26 (ix (6 : Int32)) ((σ3.2 26 (ix (6 : Int32))) + ((v7 + r6) * (((σ3.1 13 (ix v2))).toInt64)))) (fun σ8 =>
  X12_makeReport_b313 rec64 σ8 v2 v4 v6)))))))))
def X12_makeReport_b197 (rec64 : (Mem × Int32 × Int32 × Int32 × Int32) → Option (Mem)) (σ : Mem) (v2 : Int32) (v4 : Int32) (v5 : Int32) (v6 : Int32) (v7 : Int64) (s0 : Int64) (s1 : Int32) : Option (Mem) :=
  chk (inb s1 8) (
  lete (wJ σ 26 (ix s1) s0) (fun σ2 =>
  lete (wJ σ2 26 (ix (0 : Int32)) ((σ2.2 26 (ix (0 : Int32))) + (1 : Int64))) (fun σ3 =>
  bindo (X12_isCut σ3 v2 v6) (fun r5 =>
  if r5 = (0 : Int32) then
  (X12_makeReport_b230 rec64 σ3 v2 v4 v5 v6 v7 (0 : Int64) (σ3.2 26 (ix (2 : Int32))) (2 : Int32))
  else
  (X12_makeReport_b230 rec64 σ3 v2 v4 v5 v6 v7 (1 : Int64) (σ3.2 26 (ix (2 : Int32))) (2 : Int32))))))
def X12_makeReport_b186 (rec64 : (Mem × Int32 × Int32 × Int32 × Int32) → Option (Mem)) (σ : Mem) (v2 : Int32) (v4 : Int32) (v5 : Int32) (v6 : Int32) (v7 : Int64) (s0 : Int32) : Option (Mem) :=
  X12_makeReport_b197 rec64 σ v2 v4 v5 v6 v7 v7 s0
def X12_makeReport_b157 (rec64 : (Mem × Int32 × Int32 × Int32 × Int32) → Option (Mem)) (σ : Mem) (v2 : Int32) (v4 : Int32) (v5 : Int32) (v6 : Int32) (v7 : Int64) (s0 : Int64) (s1 : Int32) : Option (Mem) :=
  chk (inb s1 8) (
  lete (wJ σ 26 (ix s1) s0) (fun σ2 =>
  if (lg_cmp (σ2.2 26 (ix (0 : Int32))) (0 : Int64)) = (0 : Int32) then
  (X12_makeReport_b186 rec64 σ2 v2 v4 v5 v6 v7 (4 : Int32))
  else
  (if (lg_cmp v7 (σ2.2 26 (ix (4 : Int32)))) ≤ (0 : Int32) then
  (X12_makeReport_b197 rec64 σ2 v2 v4 v5 v6 v7 (σ2.2 26 (ix (4 : Int32))) (4 : Int32))
  else
  (X12_makeReport_b186 rec64 σ2 v2 v4 v5 v6 v7 (4 : Int32)))))
def X12_makeReport_b146 (rec64 : (Mem × Int32 × Int32 × Int32 × Int32) → Option (Mem)) (σ : Mem) (v2 : Int32) (v4 : Int32) (v5 : Int32) (v6 : Int32) (v7 : Int64) (s0 : Int32) : Option (Mem) :=
  X12_makeReport_b157 rec64 σ v2 v4 v5 v6 v7 v7 s0
def X12_makeReport_l64 (rec64 : (Mem × Int32 × Int32 × Int32 × Int32) → Option (Mem)) (σ : Mem) (v2 : Int32) (v4 : Int32) (v5 : Int32) (v6 : Int32) : Option (Mem) :=
  if v4 < v6 then
  (some σ)
  else
  (chk (inb v2 8) (
  chk (nz (σ.1 13 (ix v2))) (
  if (v6 - v6 / (σ.1 13 (ix v2)) * (σ.1 13 (ix v2))) = (0 : Int32) then
  (bindo (X12_isLost σ v2 v6) (fun r4 =>
  if r4 = (0 : Int32) then
  (bindo (X12_corrected σ v2 v6) (fun r6 =>
  if (lg_cmp (σ.2 26 (ix (0 : Int32))) (0 : Int64)) = (0 : Int32) then
  (X12_makeReport_b146 rec64 σ v2 v4 v5 v6 r6 (3 : Int32))
  else
  (if (0 : Int32) ≤ (lg_cmp r6 (σ.2 26 (ix (3 : Int32)))) then
  (X12_makeReport_b157 rec64 σ v2 v4 v5 v6 r6 (σ.2 26 (ix (3 : Int32))) (3 : Int32))
  else
  (X12_makeReport_b146 rec64 σ v2 v4 v5 v6 r6 (3 : Int32)))))
  else
  (lete (wJ σ 26 (ix (1 : Int32)) ((σ.2 26 (ix (1 : Int32))) + (1 : Int64))) (fun σ7 =>
  X12_makeReport_b317 rec64 σ7 v2 v4 v5 v6))))
  else
  (X12_makeReport_b317 rec64 σ v2 v4 v5 v6))))
def X12_makeReport_b55 (σ : Mem) (v2 : Int32) (v3 : Int32) (s0 : Int32) : Option (Mem) :=
  loopF (fun (rec : (Mem × Int32 × Int32 × Int32 × Int32) → Option (Mem)) (s : Mem × Int32 × Int32 × Int32 × Int32) => X12_makeReport_l64 rec s.1 s.2.1 s.2.2.1 s.2.2.2.1 s.2.2.2.2)  FU (σ, v2, s0, (-9 : Int32), v3)
def X12_makeReport_l2 (rec2 : (Mem × Int32 × Int32 × Int32) → Option (Mem)) (σ : Mem) (v1 : Int32) (v2 : Int32) (v3 : Int32) : Option (Mem) :=
  if (8 : Int32) ≤ v3 then
  (chk (inb v1 20) (
  lete (σ.1 11 (ix v1)) (fun x2 =>
  if (σ.1 0 22) ≤ (v1 + (1 : Int32)) then
  (X12_makeReport_b55 σ v2 x2 (σ.1 0 5))
  else
  (chk (inb (v1 + (1 : Int32)) 20) (
  X12_makeReport_b55 σ v2 x2 ((σ.1 11 (ix (v1 + (1 : Int32)))) - (1 : Int32)))))))
  else
  (chk (inb v3 8) (
  lete (wJ σ 26 (ix v3) (0 : Int64)) (fun σ5 =>
  lete (v3 + (1 : Int32)) (fun x6 =>
  rec2 (σ5, v1, v2, x6)))))
def X12_makeReport (σ : Mem) (p1 : Int32) (p2 : Int32) : Option (Mem) :=
  loopF (fun (rec : (Mem × Int32 × Int32 × Int32) → Option (Mem)) (s : Mem × Int32 × Int32 × Int32) => X12_makeReport_l2 rec s.1 s.2.1 s.2.2.1 s.2.2.2)  FU (σ, p1, p2, (0 : Int32))
abbrev rm_X12_makeReport : Room := { frames := 2, cells := 0, slots := 0, locals := 47 }
set_option maxRecDepth 100000 in
set_option maxHeartbeats 4000000 in
theorem m_X12_makeReport {E : EnvT} {cs : Nat → ClassId} (F : MF E cs) {p1 : Int32} {p2 : Int32} {σ : Mem} (C : CX E cX12_makeReport RX12 9 rm_X12_makeReport) {r0 : Mem} (Q : QE E 0 0 none (RQv r0)) : J E 9 0 0 r0 (X12_makeReport σ p1 p2) σ 0 [(0, .ref (eAd E 0)), (1, .int p1), (2, .int p2)] [] := by
  have hB317 : ∀ (rec64 : (Mem × Int32 × Int32 × Int32 × Int32) → Option (Mem)) (hrec64 : ∀ a : Mem × Int32 × Int32 × Int32 × Int32, J E 9 0 0 r0 (rec64 a) a.1 64 [(0, .ref (eAd E 0)), (2, .int a.2.1), (4, .int a.2.2.1), (5, .int a.2.2.2.1), (6, .int a.2.2.2.2)] []) (σ : Mem) (v2 : Int32) (v4 : Int32) (v5 : Int32) (v6 : Int32), J E 9 0 0 r0 (X12_makeReport_b317 rec64 σ v2 v4 v5 v6) σ 317 [(0, .ref (eAd E 0)), (2, .int v2), (4, .int v4), (5, .int v5), (6, .int v6)] [] := by
    intro rec64 hrec64 σ v2 v4 v5 v6
    unfold X12_makeReport_b317
    refine j_iincN (lf := fun x1 => [(6, .int x1), (0, .ref (eAd E 0)), (2, .int v2), (4, .int v4), (5, .int v5)]) C dX12_makeReport_317 4 rfl (by rfl) (by decide) (fun _ => rfl) (fun x1 => ?_)
    refine j_goto C 64 dX12_makeReport_320 (by decide) ?_
    refine j_lv [(0, .ref (eAd E 0)), (2, .int v2), (4, .int v4), (5, .int v5), (6, .int x1)] [1, 2, 3, 4, 0] rfl ?_
    exact hrec64 (σ, v2, v4, v5, x1)
  have hB313 : ∀ (rec64 : (Mem × Int32 × Int32 × Int32 × Int32) → Option (Mem)) (hrec64 : ∀ a : Mem × Int32 × Int32 × Int32 × Int32, J E 9 0 0 r0 (rec64 a) a.1 64 [(0, .ref (eAd E 0)), (2, .int a.2.1), (4, .int a.2.2.1), (5, .int a.2.2.2.1), (6, .int a.2.2.2.2)] []) (σ : Mem) (v2 : Int32) (v4 : Int32) (v6 : Int32), J E 9 0 0 r0 (X12_makeReport_b313 rec64 σ v2 v4 v6) σ 313 [(0, .ref (eAd E 0)), (2, .int v2), (4, .int v4), (6, .int v6)] [] := by
    intro rec64 hrec64 σ v2 v4 v6
    unfold X12_makeReport_b313
    refine j_iload C dX12_makeReport_313 3 rfl ?_
    refine j_istore (lv' := [(5, .int v6), (0, .ref (eAd E 0)), (2, .int v2), (4, .int v4), (6, .int v6)]) C dX12_makeReport_315 (by decide) rfl ?_
    refine j_lv [(0, .ref (eAd E 0)), (2, .int v2), (4, .int v4), (5, .int v6), (6, .int v6)] [1, 2, 3, 0, 4] rfl ?_
    exact hB317 rec64 hrec64 σ v2 v4 v6 v6
  have hB295 : ∀ (rec64 : (Mem × Int32 × Int32 × Int32 × Int32) → Option (Mem)) (hrec64 : ∀ a : Mem × Int32 × Int32 × Int32 × Int32, J E 9 0 0 r0 (rec64 a) a.1 64 [(0, .ref (eAd E 0)), (2, .int a.2.1), (4, .int a.2.2.1), (5, .int a.2.2.2.1), (6, .int a.2.2.2.2)] []) (σ : Mem) (v2 : Int32) (v4 : Int32) (v5 : Int32) (v6 : Int32), J E 9 0 0 r0 (X12_makeReport_b295 rec64 σ v2 v4 v5 v6) σ 295 [(0, .ref (eAd E 0)), (2, .int v2), (4, .int v4), (5, .int v5), (6, .int v6)] [] := by
    intro rec64 hrec64 σ v2 v4 v5 v6
    unfold X12_makeReport_b295
    refine j_iload C dX12_makeReport_295 3 rfl ?_
    refine j_bipush C (-9 : Int32) dX12_makeReport_297 (by decide) ?_
    refine j_icmp_eq C 313 dX12_makeReport_299 (by decide) ?_ ?_
    · refine j_lv [(0, .ref (eAd E 0)), (2, .int v2), (4, .int v4), (6, .int v6)] [0, 1, 2, 4] rfl ?_
      exact hB313 rec64 hrec64 σ v2 v4 v6
    · refine j_aload_n C dX12_makeReport_302 0 rfl ?_
      refine j_get (ci := 12) C hU_X12 rfl (min_ F (by decide)) (me_0 F _ _) 43 (by decide) rfl hF_X12_93 dX12_makeReport_303 ?_
      refine j_bipush C (7 : Int32) dX12_makeReport_306 (by decide) ?_
      refine j_dup2 C dX12_makeReport_308 rfl rfl ?_
      refine j_lald (t0 := 1) C (min_ F (by decide)) (me_26 F _ _) (mt1 F) (inb_in (by decide)) dX12_makeReport_309 ?_
      refine j_lconst C (1 : Int64) dX12_makeReport_310 (by decide) ?_
      refine j_ladd C dX12_makeReport_311 ?_
      refine j_last (t0 := 1) C (min_ F (by decide)) (me_26 F _ _) (by rw [wJ_o, wJ_1]; exact (me_26 F _ _)) (mt1 F) (inb_in (by decide)) dX12_makeReport_312 (fun σ1 => ?_)
      refine j_lv [(0, .ref (eAd E 0)), (2, .int v2), (4, .int v4), (6, .int v6)] [0, 1, 2, 4] rfl ?_
      exact hB313 rec64 hrec64 σ1 v2 v4 v6
  have hB230 : ∀ (rec64 : (Mem × Int32 × Int32 × Int32 × Int32) → Option (Mem)) (hrec64 : ∀ a : Mem × Int32 × Int32 × Int32 × Int32, J E 9 0 0 r0 (rec64 a) a.1 64 [(0, .ref (eAd E 0)), (2, .int a.2.1), (4, .int a.2.2.1), (5, .int a.2.2.2.1), (6, .int a.2.2.2.2)] []) (σ : Mem) (v2 : Int32) (v4 : Int32) (v5 : Int32) (v6 : Int32) (v7 : Int64) (s0 : Int64) (s1 : Int64) (s2 : Int32), J E 9 0 0 r0 (X12_makeReport_b230 rec64 σ v2 v4 v5 v6 v7 s0 s1 s2) σ 230 [(0, .ref (eAd E 0)), (2, .int v2), (4, .int v4), (5, .int v5), (6, .int v6), (7, .long v7)] [.long s0, .long s1, .int s2, .ref (eAd E 26)] := by
    intro rec64 hrec64 σ v2 v4 v5 v6 v7 s0 s1 s2
    unfold X12_makeReport_b230
    refine j_ladd C dX12_makeReport_230 ?_
    refine j_chk (fun h1 => ?_)
    refine j_last (t0 := 1) C (min_ F (by decide)) (me_26 F _ _) (by rw [wJ_o, wJ_1]; exact (me_26 F _ _)) (mt1 F) (inb_in h1) dX12_makeReport_231 (fun σ2 => ?_)
    refine j_aload_n C dX12_makeReport_232 0 rfl ?_
    refine j_get (ci := 12) C hU_X12 rfl (min_ F (by decide)) (me_0 F _ _) 43 (by decide) rfl hF_X12_93 dX12_makeReport_233 ?_
    refine j_iconst C (5 : Int32) dX12_makeReport_236 (by decide) ?_
    refine j_dup2 C dX12_makeReport_237 rfl rfl ?_
    refine j_lald (t0 := 1) C (min_ F (by decide)) (me_26 F _ _) (mt1 F) (inb_in (by decide)) dX12_makeReport_238 ?_
    refine j_lload C dX12_makeReport_239 5 rfl ?_
    refine j_ladd C dX12_makeReport_241 ?_
    refine j_last (t0 := 1) C (min_ F (by decide)) (me_26 F _ _) (by rw [wJ_o, wJ_1]; exact (me_26 F _ _)) (mt1 F) (inb_in (by decide)) dX12_makeReport_242 (fun σ3 => ?_)
    refine j_iload C dX12_makeReport_243 3 rfl ?_
    refine j_bipush C (-9 : Int32) dX12_makeReport_245 (by decide) ?_
    refine j_icmp_eq C 295 dX12_makeReport_247 (by decide) ?_ ?_
    · refine j_lv [(0, .ref (eAd E 0)), (2, .int v2), (4, .int v4), (5, .int v5), (6, .int v6)] [0, 1, 2, 3, 4] rfl ?_
      exact hB295 rec64 hrec64 σ3 v2 v4 v5 v6
    · refine j_iload C dX12_makeReport_250 4 rfl ?_
      refine j_iload C dX12_makeReport_252 3 rfl ?_
      refine j_isub C dX12_makeReport_254 ?_
      refine j_aload_n C dX12_makeReport_255 0 rfl ?_
      refine j_get (ci := 12) C hU_X12 rfl (min_ F (by decide)) (me_0 F _ _) 28 (by decide) rfl hF_X12_53 dX12_makeReport_256 ?_
      refine j_iload_n C dX12_makeReport_259 1 rfl ?_
      refine j_chk (fun h4 => ?_)
      refine j_iald (t0 := 0) C (min_ F (by decide)) (me_13 F _ _) (mt0 F) (inb_in h4) dX12_makeReport_260 ?_
      refine j_icmp_ne C 295 dX12_makeReport_261 (by decide) ?_ ?_
      · refine j_lv [(0, .ref (eAd E 0)), (2, .int v2), (4, .int v4), (5, .int v5), (6, .int v6)] [0, 1, 2, 3, 4] rfl ?_
        exact hB295 rec64 hrec64 σ3 v2 v4 v5 v6
      · refine j_aload_n C dX12_makeReport_264 0 rfl ?_
        refine j_get (ci := 12) C hU_X12 rfl (min_ F (by decide)) (me_0 F _ _) 43 (by decide) rfl hF_X12_93 dX12_makeReport_265 ?_
        refine j_bipush C (6 : Int32) dX12_makeReport_268 (by decide) ?_
        refine j_dup2 C dX12_makeReport_270 rfl rfl ?_
        refine j_lald (t0 := 1) C (min_ F (by decide)) (me_26 F _ _) (mt1 F) (inb_in (by decide)) dX12_makeReport_271 ?_
        refine j_lload C dX12_makeReport_272 5 rfl ?_
        refine j_aload_n C dX12_makeReport_274 0 rfl ?_
        refine j_iload_n C dX12_makeReport_275 1 rfl ?_
        refine j_iload C dX12_makeReport_276 3 rfl ?_
        refine j_bind (fun r6 h5 => ?_)
        refine j_callVl (ci := 12) C [.int v2, .int v5] (c_X12_corrected F h5) hM_X12_212 hI_X12_corrected hS_X12_corrected hZ_X12 hC_X12_corrected (min_ F (by decide)) (me_0 F _ _) rfl rfl dd_X12_corrected (by decide) ⟨rfl, rfl⟩ (by decide) (Nat.le_of_ble_eq_true rfl) dX12_makeReport_278 rfl ?_
        refine j_ladd C dX12_makeReport_281 ?_
        refine j_aload_n C dX12_makeReport_282 0 rfl ?_
        refine j_get (ci := 12) C hU_X12 rfl (min_ F (by decide)) (me_0 F _ _) 28 (by decide) rfl hF_X12_53 dX12_makeReport_283 ?_
        refine j_iload_n C dX12_makeReport_286 1 rfl ?_
        refine j_chk (fun h7 => ?_)
        refine j_iald (t0 := 0) C (min_ F (by decide)) (me_13 F _ _) (mt0 F) (inb_in h7) dX12_makeReport_287 ?_
        refine j_i2l C dX12_makeReport_288 ?_
        refine j_lmul C dX12_makeReport_289 ?_
        refine j_ladd C dX12_makeReport_290 ?_
        refine j_last (t0 := 1) C (min_ F (by decide)) (me_26 F _ _) (by rw [wJ_o, wJ_1]; exact (me_26 F _ _)) (mt1 F) (inb_in (by decide)) dX12_makeReport_291 (fun σ8 => ?_)
        refine j_goto C 313 dX12_makeReport_292 (by decide) ?_
        refine j_lv [(0, .ref (eAd E 0)), (2, .int v2), (4, .int v4), (6, .int v6)] [0, 1, 2, 4] rfl ?_
        exact hB313 rec64 hrec64 σ8 v2 v4 v6
  have hB197 : ∀ (rec64 : (Mem × Int32 × Int32 × Int32 × Int32) → Option (Mem)) (hrec64 : ∀ a : Mem × Int32 × Int32 × Int32 × Int32, J E 9 0 0 r0 (rec64 a) a.1 64 [(0, .ref (eAd E 0)), (2, .int a.2.1), (4, .int a.2.2.1), (5, .int a.2.2.2.1), (6, .int a.2.2.2.2)] []) (σ : Mem) (v2 : Int32) (v4 : Int32) (v5 : Int32) (v6 : Int32) (v7 : Int64) (s0 : Int64) (s1 : Int32), J E 9 0 0 r0 (X12_makeReport_b197 rec64 σ v2 v4 v5 v6 v7 s0 s1) σ 197 [(0, .ref (eAd E 0)), (2, .int v2), (4, .int v4), (5, .int v5), (6, .int v6), (7, .long v7)] [.long s0, .int s1, .ref (eAd E 26)] := by
    intro rec64 hrec64 σ v2 v4 v5 v6 v7 s0 s1
    unfold X12_makeReport_b197
    refine j_chk (fun h1 => ?_)
    refine j_last (t0 := 1) C (min_ F (by decide)) (me_26 F _ _) (by rw [wJ_o, wJ_1]; exact (me_26 F _ _)) (mt1 F) (inb_in h1) dX12_makeReport_197 (fun σ2 => ?_)
    refine j_aload_n C dX12_makeReport_198 0 rfl ?_
    refine j_get (ci := 12) C hU_X12 rfl (min_ F (by decide)) (me_0 F _ _) 43 (by decide) rfl hF_X12_93 dX12_makeReport_199 ?_
    refine j_iconst C (0 : Int32) dX12_makeReport_202 (by decide) ?_
    refine j_dup2 C dX12_makeReport_203 rfl rfl ?_
    refine j_lald (t0 := 1) C (min_ F (by decide)) (me_26 F _ _) (mt1 F) (inb_in (by decide)) dX12_makeReport_204 ?_
    refine j_lconst C (1 : Int64) dX12_makeReport_205 (by decide) ?_
    refine j_ladd C dX12_makeReport_206 ?_
    refine j_last (t0 := 1) C (min_ F (by decide)) (me_26 F _ _) (by rw [wJ_o, wJ_1]; exact (me_26 F _ _)) (mt1 F) (inb_in (by decide)) dX12_makeReport_207 (fun σ3 => ?_)
    refine j_aload_n C dX12_makeReport_208 0 rfl ?_
    refine j_get (ci := 12) C hU_X12 rfl (min_ F (by decide)) (me_0 F _ _) 43 (by decide) rfl hF_X12_93 dX12_makeReport_209 ?_
    refine j_iconst C (2 : Int32) dX12_makeReport_212 (by decide) ?_
    refine j_dup2 C dX12_makeReport_213 rfl rfl ?_
    refine j_lald (t0 := 1) C (min_ F (by decide)) (me_26 F _ _) (mt1 F) (inb_in (by decide)) dX12_makeReport_214 ?_
    refine j_aload_n C dX12_makeReport_215 0 rfl ?_
    refine j_iload_n C dX12_makeReport_216 1 rfl ?_
    refine j_iload C dX12_makeReport_217 4 rfl ?_
    refine j_bind (fun r5 h4 => ?_)
    refine j_callVi (ci := 12) C [.int v2, .int v6] (c_X12_isCut F h4) hM_X12_249 hI_X12_isCut hS_X12_isCut hZ_X12 hC_X12_isCut (min_ F (by decide)) (me_0 F _ _) rfl rfl dd_X12_isCut (by decide) ⟨rfl, rfl⟩ (by decide) (Nat.le_of_ble_eq_true rfl) dX12_makeReport_219 rfl ?_
    refine j_if_eq C 229 dX12_makeReport_222 (by decide) ?_ ?_
    · refine j_lconst C (0 : Int64) dX12_makeReport_229 (by decide) ?_
      refine j_lv [(0, .ref (eAd E 0)), (2, .int v2), (4, .int v4), (5, .int v5), (6, .int v6), (7, .long v7)] [0, 1, 2, 3, 4, 5] rfl ?_
      exact hB230 rec64 hrec64 σ3 v2 v4 v5 v6 v7 (0 : Int64) (σ3.2 26 (ix (2 : Int32))) (2 : Int32)
    · refine j_lconst C (1 : Int64) dX12_makeReport_225 (by decide) ?_
      refine j_goto C 230 dX12_makeReport_226 (by decide) ?_
      refine j_lv [(0, .ref (eAd E 0)), (2, .int v2), (4, .int v4), (5, .int v5), (6, .int v6), (7, .long v7)] [0, 1, 2, 3, 4, 5] rfl ?_
      exact hB230 rec64 hrec64 σ3 v2 v4 v5 v6 v7 (1 : Int64) (σ3.2 26 (ix (2 : Int32))) (2 : Int32)
  have hB186 : ∀ (rec64 : (Mem × Int32 × Int32 × Int32 × Int32) → Option (Mem)) (hrec64 : ∀ a : Mem × Int32 × Int32 × Int32 × Int32, J E 9 0 0 r0 (rec64 a) a.1 64 [(0, .ref (eAd E 0)), (2, .int a.2.1), (4, .int a.2.2.1), (5, .int a.2.2.2.1), (6, .int a.2.2.2.2)] []) (σ : Mem) (v2 : Int32) (v4 : Int32) (v5 : Int32) (v6 : Int32) (v7 : Int64) (s0 : Int32), J E 9 0 0 r0 (X12_makeReport_b186 rec64 σ v2 v4 v5 v6 v7 s0) σ 186 [(0, .ref (eAd E 0)), (2, .int v2), (4, .int v4), (5, .int v5), (6, .int v6), (7, .long v7)] [.int s0, .ref (eAd E 26)] := by
    intro rec64 hrec64 σ v2 v4 v5 v6 v7 s0
    unfold X12_makeReport_b186
    refine j_lload C dX12_makeReport_186 5 rfl ?_
    refine j_goto C 197 dX12_makeReport_188 (by decide) ?_
    refine j_lv [(0, .ref (eAd E 0)), (2, .int v2), (4, .int v4), (5, .int v5), (6, .int v6), (7, .long v7)] [0, 1, 2, 3, 4, 5] rfl ?_
    exact hB197 rec64 hrec64 σ v2 v4 v5 v6 v7 v7 s0
  have hB157 : ∀ (rec64 : (Mem × Int32 × Int32 × Int32 × Int32) → Option (Mem)) (hrec64 : ∀ a : Mem × Int32 × Int32 × Int32 × Int32, J E 9 0 0 r0 (rec64 a) a.1 64 [(0, .ref (eAd E 0)), (2, .int a.2.1), (4, .int a.2.2.1), (5, .int a.2.2.2.1), (6, .int a.2.2.2.2)] []) (σ : Mem) (v2 : Int32) (v4 : Int32) (v5 : Int32) (v6 : Int32) (v7 : Int64) (s0 : Int64) (s1 : Int32), J E 9 0 0 r0 (X12_makeReport_b157 rec64 σ v2 v4 v5 v6 v7 s0 s1) σ 157 [(0, .ref (eAd E 0)), (2, .int v2), (4, .int v4), (5, .int v5), (6, .int v6), (7, .long v7)] [.long s0, .int s1, .ref (eAd E 26)] := by
    intro rec64 hrec64 σ v2 v4 v5 v6 v7 s0 s1
    unfold X12_makeReport_b157
    refine j_chk (fun h1 => ?_)
    refine j_last (t0 := 1) C (min_ F (by decide)) (me_26 F _ _) (by rw [wJ_o, wJ_1]; exact (me_26 F _ _)) (mt1 F) (inb_in h1) dX12_makeReport_157 (fun σ2 => ?_)
    refine j_aload_n C dX12_makeReport_158 0 rfl ?_
    refine j_get (ci := 12) C hU_X12 rfl (min_ F (by decide)) (me_0 F _ _) 43 (by decide) rfl hF_X12_93 dX12_makeReport_159 ?_
    refine j_iconst C (4 : Int32) dX12_makeReport_162 (by decide) ?_
    refine j_aload_n C dX12_makeReport_163 0 rfl ?_
    refine j_get (ci := 12) C hU_X12 rfl (min_ F (by decide)) (me_0 F _ _) 43 (by decide) rfl hF_X12_93 dX12_makeReport_164 ?_
    refine j_iconst C (0 : Int32) dX12_makeReport_167 (by decide) ?_
    refine j_lald (t0 := 1) C (min_ F (by decide)) (me_26 F _ _) (mt1 F) (inb_in (by decide)) dX12_makeReport_168 ?_
    refine j_lconst C (0 : Int64) dX12_makeReport_169 (by decide) ?_
    refine j_lcmp C dX12_makeReport_170 ?_
    refine j_if_eq C 186 dX12_makeReport_171 (by decide) ?_ ?_
    · refine j_lv [(0, .ref (eAd E 0)), (2, .int v2), (4, .int v4), (5, .int v5), (6, .int v6), (7, .long v7)] [0, 1, 2, 3, 4, 5] rfl ?_
      exact hB186 rec64 hrec64 σ2 v2 v4 v5 v6 v7 (4 : Int32)
    · refine j_lload C dX12_makeReport_174 5 rfl ?_
      refine j_aload_n C dX12_makeReport_176 0 rfl ?_
      refine j_get (ci := 12) C hU_X12 rfl (min_ F (by decide)) (me_0 F _ _) 43 (by decide) rfl hF_X12_93 dX12_makeReport_177 ?_
      refine j_iconst C (4 : Int32) dX12_makeReport_180 (by decide) ?_
      refine j_lald (t0 := 1) C (min_ F (by decide)) (me_26 F _ _) (mt1 F) (inb_in (by decide)) dX12_makeReport_181 ?_
      refine j_lcmp C dX12_makeReport_182 ?_
      refine j_if_le C 191 dX12_makeReport_183 (by decide) ?_ ?_
      · refine j_aload_n C dX12_makeReport_191 0 rfl ?_
        refine j_get (ci := 12) C hU_X12 rfl (min_ F (by decide)) (me_0 F _ _) 43 (by decide) rfl hF_X12_93 dX12_makeReport_192 ?_
        refine j_iconst C (4 : Int32) dX12_makeReport_195 (by decide) ?_
        refine j_lald (t0 := 1) C (min_ F (by decide)) (me_26 F _ _) (mt1 F) (inb_in (by decide)) dX12_makeReport_196 ?_
        refine j_lv [(0, .ref (eAd E 0)), (2, .int v2), (4, .int v4), (5, .int v5), (6, .int v6), (7, .long v7)] [0, 1, 2, 3, 4, 5] rfl ?_
        exact hB197 rec64 hrec64 σ2 v2 v4 v5 v6 v7 (σ2.2 26 (ix (4 : Int32))) (4 : Int32)
      · refine j_lv [(0, .ref (eAd E 0)), (2, .int v2), (4, .int v4), (5, .int v5), (6, .int v6), (7, .long v7)] [0, 1, 2, 3, 4, 5] rfl ?_
        exact hB186 rec64 hrec64 σ2 v2 v4 v5 v6 v7 (4 : Int32)
  have hB146 : ∀ (rec64 : (Mem × Int32 × Int32 × Int32 × Int32) → Option (Mem)) (hrec64 : ∀ a : Mem × Int32 × Int32 × Int32 × Int32, J E 9 0 0 r0 (rec64 a) a.1 64 [(0, .ref (eAd E 0)), (2, .int a.2.1), (4, .int a.2.2.1), (5, .int a.2.2.2.1), (6, .int a.2.2.2.2)] []) (σ : Mem) (v2 : Int32) (v4 : Int32) (v5 : Int32) (v6 : Int32) (v7 : Int64) (s0 : Int32), J E 9 0 0 r0 (X12_makeReport_b146 rec64 σ v2 v4 v5 v6 v7 s0) σ 146 [(0, .ref (eAd E 0)), (2, .int v2), (4, .int v4), (5, .int v5), (6, .int v6), (7, .long v7)] [.int s0, .ref (eAd E 26)] := by
    intro rec64 hrec64 σ v2 v4 v5 v6 v7 s0
    unfold X12_makeReport_b146
    refine j_lload C dX12_makeReport_146 5 rfl ?_
    refine j_goto C 157 dX12_makeReport_148 (by decide) ?_
    refine j_lv [(0, .ref (eAd E 0)), (2, .int v2), (4, .int v4), (5, .int v5), (6, .int v6), (7, .long v7)] [0, 1, 2, 3, 4, 5] rfl ?_
    exact hB157 rec64 hrec64 σ v2 v4 v5 v6 v7 v7 s0
  have hL64 : ∀ (f : Nat) (a : Mem × Int32 × Int32 × Int32 × Int32), J E 9 0 0 r0 (loopF (fun (rec : (Mem × Int32 × Int32 × Int32 × Int32) → Option (Mem)) (s : Mem × Int32 × Int32 × Int32 × Int32) => X12_makeReport_l64 rec s.1 s.2.1 s.2.2.1 s.2.2.2.1 s.2.2.2.2) f a) a.1 64 [(0, .ref (eAd E 0)), (2, .int a.2.1), (4, .int a.2.2.1), (5, .int a.2.2.2.1), (6, .int a.2.2.2.2)] [] := by
    refine j_loop (M := fun (a : Mem × Int32 × Int32 × Int32 × Int32) => a.1) (L := fun (a : Mem × Int32 × Int32 × Int32 × Int32) => [(0, .ref (eAd E 0)), (2, .int a.2.1), (4, .int a.2.2.1), (5, .int a.2.2.2.1), (6, .int a.2.2.2.2)]) (S := fun (a : Mem × Int32 × Int32 × Int32 × Int32) => []) (fun rec64 hrec64 a => ?_)
    obtain ⟨σ, v2, v4, v5, v6⟩ := a
    show J E 9 0 0 r0 (X12_makeReport_l64 rec64 σ v2 v4 v5 v6) σ 64 [(0, .ref (eAd E 0)), (2, .int v2), (4, .int v4), (5, .int v5), (6, .int v6)] []
    unfold X12_makeReport_l64
    refine j_iload C dX12_makeReport_64 4 rfl ?_
    refine j_iload C dX12_makeReport_66 2 rfl ?_
    refine j_icmp_gt C 323 dX12_makeReport_68 (by decide) ?_ ?_
    · exact j_vret2 C Q dX12_makeReport_323
    · refine j_iload C dX12_makeReport_71 4 rfl ?_
      refine j_aload_n C dX12_makeReport_73 0 rfl ?_
      refine j_get (ci := 12) C hU_X12 rfl (min_ F (by decide)) (me_0 F _ _) 28 (by decide) rfl hF_X12_53 dX12_makeReport_74 ?_
      refine j_iload_n C dX12_makeReport_77 1 rfl ?_
      refine j_chk (fun h1 => ?_)
      refine j_iald (t0 := 0) C (min_ F (by decide)) (me_13 F _ _) (mt0 F) (inb_in h1) dX12_makeReport_78 ?_
      refine j_chk (fun h2 => ?_)
      refine j_iremK C dX12_makeReport_79 (nz_ne h2) ?_
      refine j_if_eq C 86 dX12_makeReport_80 (by decide) ?_ ?_
      · refine j_aload_n C dX12_makeReport_86 0 rfl ?_
        refine j_iload_n C dX12_makeReport_87 1 rfl ?_
        refine j_iload C dX12_makeReport_88 4 rfl ?_
        refine j_bind (fun r4 h3 => ?_)
        refine j_callVi (ci := 12) C [.int v2, .int v6] (c_X12_isLost F h3) hM_X12_208 hI_X12_isLost hS_X12_isLost hZ_X12 hC_X12_isLost (min_ F (by decide)) (me_0 F _ _) rfl rfl dd_X12_isLost (by decide) ⟨rfl, rfl⟩ (by decide) (Nat.le_of_ble_eq_true rfl) dX12_makeReport_90 rfl ?_
        refine j_if_eq C 109 dX12_makeReport_93 (by decide) ?_ ?_
        · refine j_aload_n C dX12_makeReport_109 0 rfl ?_
          refine j_iload_n C dX12_makeReport_110 1 rfl ?_
          refine j_iload C dX12_makeReport_111 4 rfl ?_
          refine j_bind (fun r6 h5 => ?_)
          refine j_callVl (ci := 12) C [.int v2, .int v6] (c_X12_corrected F h5) hM_X12_212 hI_X12_corrected hS_X12_corrected hZ_X12 hC_X12_corrected (min_ F (by decide)) (me_0 F _ _) rfl rfl dd_X12_corrected (by decide) ⟨rfl, rfl⟩ (by decide) (Nat.le_of_ble_eq_true rfl) dX12_makeReport_113 rfl ?_
          refine j_lstore (lv' := [(7, .long r6), (0, .ref (eAd E 0)), (2, .int v2), (4, .int v4), (5, .int v5), (6, .int v6)]) C dX12_makeReport_116 (by decide) rfl ?_
          refine j_aload_n C dX12_makeReport_118 1 rfl ?_
          refine j_get (ci := 12) C hU_X12 rfl (min_ F (by decide)) (me_0 F _ _) 43 (by decide) rfl hF_X12_93 dX12_makeReport_119 ?_
          refine j_iconst C (3 : Int32) dX12_makeReport_122 (by decide) ?_
          refine j_aload_n C dX12_makeReport_123 1 rfl ?_
          refine j_get (ci := 12) C hU_X12 rfl (min_ F (by decide)) (me_0 F _ _) 43 (by decide) rfl hF_X12_93 dX12_makeReport_124 ?_
          refine j_iconst C (0 : Int32) dX12_makeReport_127 (by decide) ?_
          refine j_lald (t0 := 1) C (min_ F (by decide)) (me_26 F _ _) (mt1 F) (inb_in (by decide)) dX12_makeReport_128 ?_
          refine j_lconst C (0 : Int64) dX12_makeReport_129 (by decide) ?_
          refine j_lcmp C dX12_makeReport_130 ?_
          refine j_if_eq C 146 dX12_makeReport_131 (by decide) ?_ ?_
          · refine j_lv [(0, .ref (eAd E 0)), (2, .int v2), (4, .int v4), (5, .int v5), (6, .int v6), (7, .long r6)] [1, 2, 3, 4, 5, 0] rfl ?_
            exact hB146 rec64 hrec64 σ v2 v4 v5 v6 r6 (3 : Int32)
          · refine j_lload C dX12_makeReport_134 0 rfl ?_
            refine j_aload_n C dX12_makeReport_136 1 rfl ?_
            refine j_get (ci := 12) C hU_X12 rfl (min_ F (by decide)) (me_0 F _ _) 43 (by decide) rfl hF_X12_93 dX12_makeReport_137 ?_
            refine j_iconst C (3 : Int32) dX12_makeReport_140 (by decide) ?_
            refine j_lald (t0 := 1) C (min_ F (by decide)) (me_26 F _ _) (mt1 F) (inb_in (by decide)) dX12_makeReport_141 ?_
            refine j_lcmp C dX12_makeReport_142 ?_
            refine j_if_ge C 151 dX12_makeReport_143 (by decide) ?_ ?_
            · refine j_aload_n C dX12_makeReport_151 1 rfl ?_
              refine j_get (ci := 12) C hU_X12 rfl (min_ F (by decide)) (me_0 F _ _) 43 (by decide) rfl hF_X12_93 dX12_makeReport_152 ?_
              refine j_iconst C (3 : Int32) dX12_makeReport_155 (by decide) ?_
              refine j_lald (t0 := 1) C (min_ F (by decide)) (me_26 F _ _) (mt1 F) (inb_in (by decide)) dX12_makeReport_156 ?_
              refine j_lv [(0, .ref (eAd E 0)), (2, .int v2), (4, .int v4), (5, .int v5), (6, .int v6), (7, .long r6)] [1, 2, 3, 4, 5, 0] rfl ?_
              exact hB157 rec64 hrec64 σ v2 v4 v5 v6 r6 (σ.2 26 (ix (3 : Int32))) (3 : Int32)
            · refine j_lv [(0, .ref (eAd E 0)), (2, .int v2), (4, .int v4), (5, .int v5), (6, .int v6), (7, .long r6)] [1, 2, 3, 4, 5, 0] rfl ?_
              exact hB146 rec64 hrec64 σ v2 v4 v5 v6 r6 (3 : Int32)
        · refine j_aload_n C dX12_makeReport_96 0 rfl ?_
          refine j_get (ci := 12) C hU_X12 rfl (min_ F (by decide)) (me_0 F _ _) 43 (by decide) rfl hF_X12_93 dX12_makeReport_97 ?_
          refine j_iconst C (1 : Int32) dX12_makeReport_100 (by decide) ?_
          refine j_dup2 C dX12_makeReport_101 rfl rfl ?_
          refine j_lald (t0 := 1) C (min_ F (by decide)) (me_26 F _ _) (mt1 F) (inb_in (by decide)) dX12_makeReport_102 ?_
          refine j_lconst C (1 : Int64) dX12_makeReport_103 (by decide) ?_
          refine j_ladd C dX12_makeReport_104 ?_
          refine j_last (t0 := 1) C (min_ F (by decide)) (me_26 F _ _) (by rw [wJ_o, wJ_1]; exact (me_26 F _ _)) (mt1 F) (inb_in (by decide)) dX12_makeReport_105 (fun σ7 => ?_)
          refine j_goto C 317 dX12_makeReport_106 (by decide) ?_
          refine j_lv [(0, .ref (eAd E 0)), (2, .int v2), (4, .int v4), (5, .int v5), (6, .int v6)] [0, 1, 2, 3, 4] rfl ?_
          exact hB317 rec64 hrec64 σ7 v2 v4 v5 v6
      · refine j_goto C 317 dX12_makeReport_83 (by decide) ?_
        refine j_lv [(0, .ref (eAd E 0)), (2, .int v2), (4, .int v4), (5, .int v5), (6, .int v6)] [0, 1, 2, 3, 4] rfl ?_
        exact hB317 rec64 hrec64 σ v2 v4 v5 v6
  have hB55 : ∀ (σ : Mem) (v2 : Int32) (v3 : Int32) (s0 : Int32), J E 9 0 0 r0 (X12_makeReport_b55 σ v2 v3 s0) σ 55 [(0, .ref (eAd E 0)), (2, .int v2), (3, .int v3)] [.int s0] := by
    intro σ v2 v3 s0
    unfold X12_makeReport_b55
    refine j_istore (lv' := [(4, .int s0), (0, .ref (eAd E 0)), (2, .int v2), (3, .int v3)]) C dX12_makeReport_55 (by decide) rfl ?_
    refine j_bipush C (-9 : Int32) dX12_makeReport_57 (by decide) ?_
    refine j_istore (lv' := [(5, .int (-9 : Int32)), (4, .int s0), (0, .ref (eAd E 0)), (2, .int v2), (3, .int v3)]) C dX12_makeReport_59 (by decide) rfl ?_
    refine j_iload_n C dX12_makeReport_61 4 rfl ?_
    refine j_istore (lv' := [(6, .int v3), (5, .int (-9 : Int32)), (4, .int s0), (0, .ref (eAd E 0)), (2, .int v2), (3, .int v3)]) C dX12_makeReport_62 (by decide) rfl ?_
    refine j_lv [(0, .ref (eAd E 0)), (2, .int v2), (4, .int s0), (5, .int (-9 : Int32)), (6, .int v3)] [3, 4, 2, 1, 0] rfl ?_
    exact hL64  FU (σ, v2, s0, (-9 : Int32), v3)
  have hL2 : ∀ (f : Nat) (a : Mem × Int32 × Int32 × Int32), J E 9 0 0 r0 (loopF (fun (rec : (Mem × Int32 × Int32 × Int32) → Option (Mem)) (s : Mem × Int32 × Int32 × Int32) => X12_makeReport_l2 rec s.1 s.2.1 s.2.2.1 s.2.2.2) f a) a.1 2 [(0, .ref (eAd E 0)), (1, .int a.2.1), (2, .int a.2.2.1), (3, .int a.2.2.2)] [] := by
    refine j_loop (M := fun (a : Mem × Int32 × Int32 × Int32) => a.1) (L := fun (a : Mem × Int32 × Int32 × Int32) => [(0, .ref (eAd E 0)), (1, .int a.2.1), (2, .int a.2.2.1), (3, .int a.2.2.2)]) (S := fun (a : Mem × Int32 × Int32 × Int32) => []) (fun rec2 hrec2 a => ?_)
    obtain ⟨σ, v1, v2, v3⟩ := a
    show J E 9 0 0 r0 (X12_makeReport_l2 rec2 σ v1 v2 v3) σ 2 [(0, .ref (eAd E 0)), (1, .int v1), (2, .int v2), (3, .int v3)] []
    unfold X12_makeReport_l2
    refine j_iload_n C dX12_makeReport_2 3 rfl ?_
    refine j_bipush C (8 : Int32) dX12_makeReport_3 (by decide) ?_
    refine j_icmp_ge C 21 dX12_makeReport_5 (by decide) ?_ ?_
    · refine j_aload_n C dX12_makeReport_21 0 rfl ?_
      refine j_get (ci := 12) C hU_X12 rfl (min_ F (by decide)) (me_0 F _ _) 23 (by decide) rfl hF_X12_47 dX12_makeReport_22 ?_
      refine j_iload_n C dX12_makeReport_25 1 rfl ?_
      refine j_chk (fun h1 => ?_)
      refine j_iald (t0 := 0) C (min_ F (by decide)) (me_11 F _ _) (mt0 F) (inb_in h1) dX12_makeReport_26 ?_
      refine j_nmi (fun x2 => ?_)
      refine j_istore_n (lv' := [(3, .int x2), (0, .ref (eAd E 0)), (1, .int v1), (2, .int v2)]) C dX12_makeReport_27 (by decide) rfl ?_
      refine j_iload_n C dX12_makeReport_28 2 rfl ?_
      refine j_iconst C (1 : Int32) dX12_makeReport_29 (by decide) ?_
      refine j_iadd C dX12_makeReport_30 ?_
      refine j_aload_n C dX12_makeReport_31 1 rfl ?_
      refine j_get (ci := 12) C hU_X12 rfl (min_ F (by decide)) (me_0 F _ _) 22 (by decide) rfl hF_X12_187 dX12_makeReport_32 ?_
      refine j_icmp_ge C 51 dX12_makeReport_35 (by decide) ?_ ?_
      · refine j_aload_n C dX12_makeReport_51 1 rfl ?_
        refine j_get (ci := 12) C hU_X12 rfl (min_ F (by decide)) (me_0 F _ _) 5 (by decide) rfl hF_X12_190 dX12_makeReport_52 ?_
        refine j_lv [(0, .ref (eAd E 0)), (2, .int v2), (3, .int x2)] [1, 3, 0] rfl ?_
        exact hB55 σ v2 x2 (σ.1 0 5)
      · refine j_aload_n C dX12_makeReport_38 1 rfl ?_
        refine j_get (ci := 12) C hU_X12 rfl (min_ F (by decide)) (me_0 F _ _) 23 (by decide) rfl hF_X12_47 dX12_makeReport_39 ?_
        refine j_iload_n C dX12_makeReport_42 2 rfl ?_
        refine j_iconst C (1 : Int32) dX12_makeReport_43 (by decide) ?_
        refine j_iadd C dX12_makeReport_44 ?_
        refine j_chk (fun h3 => ?_)
        refine j_iald (t0 := 0) C (min_ F (by decide)) (me_11 F _ _) (mt0 F) (inb_in h3) dX12_makeReport_45 ?_
        refine j_iconst C (1 : Int32) dX12_makeReport_46 (by decide) ?_
        refine j_isub C dX12_makeReport_47 ?_
        refine j_goto C 55 dX12_makeReport_48 (by decide) ?_
        refine j_lv [(0, .ref (eAd E 0)), (2, .int v2), (3, .int x2)] [1, 3, 0] rfl ?_
        exact hB55 σ v2 x2 ((σ.1 11 (ix (v1 + (1 : Int32)))) - (1 : Int32))
    · refine j_aload_n C dX12_makeReport_8 0 rfl ?_
      refine j_get (ci := 12) C hU_X12 rfl (min_ F (by decide)) (me_0 F _ _) 43 (by decide) rfl hF_X12_93 dX12_makeReport_9 ?_
      refine j_iload_n C dX12_makeReport_12 3 rfl ?_
      refine j_lconst C (0 : Int64) dX12_makeReport_13 (by decide) ?_
      refine j_chk (fun h4 => ?_)
      refine j_last (t0 := 1) C (min_ F (by decide)) (me_26 F _ _) (by rw [wJ_o, wJ_1]; exact (me_26 F _ _)) (mt1 F) (inb_in h4) dX12_makeReport_14 (fun σ5 => ?_)
      refine j_iincN (lf := fun x6 => [(3, .int x6), (0, .ref (eAd E 0)), (1, .int v1), (2, .int v2)]) C dX12_makeReport_15 3 rfl (by rfl) (by decide) (fun _ => rfl) (fun x6 => ?_)
      refine j_goto C 2 dX12_makeReport_18 (by decide) ?_
      refine j_lv [(0, .ref (eAd E 0)), (1, .int v1), (2, .int v2), (3, .int x6)] [1, 2, 3, 0] rfl ?_
      exact hrec2 (σ5, v1, v2, x6)
  unfold X12_makeReport
  refine j_iconst C (0 : Int32) dX12_makeReport_0 (by decide) ?_
  refine j_istore_n (lv' := [(3, .int (0 : Int32)), (0, .ref (eAd E 0)), (1, .int p1), (2, .int p2)]) C dX12_makeReport_1 (by decide) rfl ?_
  refine j_lv [(0, .ref (eAd E 0)), (1, .int p1), (2, .int p2), (3, .int (0 : Int32))] [1, 2, 3, 0] rfl ?_
  exact hL2  FU (σ, p1, p2, (0 : Int32))
set_option maxRecDepth 100000 in
set_option maxHeartbeats 4000000 in
theorem c_X12_makeReport {E : EnvT} {cs : Nat → ClassId} (F : MF E cs) {σ : Mem} {p1 : Int32} {p2 : Int32} {r : Mem} (h : X12_makeReport σ p1 p2 = some r) : CT E yX12_makeReport cX12_makeReport 9 none rm_X12_makeReport [.ref (eAd E 0), .int p1, .int p2] σ (RQv r) :=
  ct_M F (by decide) (Nat.le_of_ble_eq_true rfl) (fun E' ea F' C Q => by rw [← ea]; exact m_X12_makeReport F'  C Q h)
theorem dd_X12_makeReport : yX12_makeReport.cls ≠ "java/lang/invoke/MethodHandle" ∧ yX12_makeReport.cls ≠ "java/lang/invoke/VarHandle" ∧ (parseMethodDescriptor yX12_makeReport.desc).map (fun d => d.parameters.length) = some 2 := by decide +kernel
def X12_report (σ : Mem) (p1 : Int32) (p2 : Int32) (p3 : Int32) : Option (Int64 × Mem) :=
  if p1 < (0 : Int32) then
  (some ((-9223372036854775808 : Int64), σ))
  else
  (if (σ.1 0 22) ≤ p1 then
  (some ((-9223372036854775808 : Int64), σ))
  else
  (bindo (X12_isChannel σ p2) (fun r2 =>
  if r2 = (0 : Int32) then
  (some ((-9223372036854775808 : Int64), σ))
  else
  (bindo (X12_within (p3.toInt64) (0 : Int64) (7 : Int64)) (fun r4 =>
  if ¬ r4 = (0 : Int32) then
  (bindo (X12_makeReport σ p1 p2) (fun σ6 =>
  chk (inb p3 8) (
  some ((σ6.2 26 (ix p3)), σ6))))
  else
  (some ((-9223372036854775808 : Int64), σ)))))))
abbrev rm_X12_report : Room := { frames := 3, cells := 0, slots := 0, locals := 75 }
set_option maxRecDepth 100000 in
set_option maxHeartbeats 4000000 in
theorem m_X12_report {E : EnvT} {cs : Nat → ClassId} (F : MF E cs) {p1 : Int32} {p2 : Int32} {p3 : Int32} {σ : Mem} (C : CX E cX12_report RX12 4 rm_X12_report) {r0 : Int64 × Mem} (Q : QE E 0 0 (some .long) (RQl r0.1 r0.2)) : J E 4 0 0 r0 (X12_report σ p1 p2 p3) σ 0 [(0, .ref (eAd E 0)), (1, .int p1), (2, .int p2), (3, .int p3)] [] := by

  unfold X12_report
  refine j_iload_n C dX12_report_0 1 rfl ?_
  refine j_if_lt C 32 dX12_report_1 (by decide) ?_ ?_
  · refine j_ldc2 C hK_X12_106 dX12_report_32 ?_
    exact j_lret2 C Q dX12_report_35
  · refine j_iload_n C dX12_report_4 1 rfl ?_
    refine j_aload_n C dX12_report_5 0 rfl ?_
    refine j_get (ci := 12) C hU_X12 rfl (min_ F (by decide)) (me_0 F _ _) 22 (by decide) rfl hF_X12_187 dX12_report_6 ?_
    refine j_icmp_ge C 32 dX12_report_9 (by decide) ?_ ?_
    · refine j_ldc2 C hK_X12_106 dX12_report_32 ?_
      exact j_lret2 C Q dX12_report_35
    · refine j_aload_n C dX12_report_12 0 rfl ?_
      refine j_iload_n C dX12_report_13 2 rfl ?_
      refine j_bind (fun r2 h1 => ?_)
      refine j_callVi (ci := 12) C [.int p2] (c_X12_isChannel F h1) hM_X12_231 hI_X12_isChannel hS_X12_isChannel hZ_X12 hC_X12_isChannel (min_ F (by decide)) (me_0 F _ _) rfl rfl dd_X12_isChannel (by decide) ⟨rfl, rfl⟩ (by decide) (Nat.le_of_ble_eq_true rfl) dX12_report_14 rfl ?_
      refine j_if_eq C 32 dX12_report_17 (by decide) ?_ ?_
      · refine j_ldc2 C hK_X12_106 dX12_report_32 ?_
        exact j_lret2 C Q dX12_report_35
      · refine j_iload_n C dX12_report_20 3 rfl ?_
        refine j_i2l C dX12_report_21 ?_
        refine j_lconst C (0 : Int64) dX12_report_22 (by decide) ?_
        refine j_ldc2 C hK_X12_252 dX12_report_23 ?_
        refine j_bind (fun r4 h3 => ?_)
        refine j_callSi C [.long (p3.toInt64), .long (0 : Int64), .long (7 : Int64)] (c_X12_within F h3) hM_X12_110 hT_X12_within hZ_X12 hC_X12_within dd_X12_within (by decide) ⟨rfl, rfl⟩ (by decide) (Nat.le_of_ble_eq_true rfl) dX12_report_26 rfl ?_
        refine j_if_ne C 36 dX12_report_29 (by decide) ?_ ?_
        · refine j_aload_n C dX12_report_36 0 rfl ?_
          refine j_iload_n C dX12_report_37 1 rfl ?_
          refine j_iload_n C dX12_report_38 2 rfl ?_
          refine j_bind (fun σ6 h5 => ?_)
          refine j_callVv (ci := 12) C [.int p1, .int p2] (c_X12_makeReport F h5) hM_X12_254 hI_X12_makeReport hS_X12_makeReport hZ_X12 hC_X12_makeReport (min_ F (by decide)) (me_0 F _ _) rfl rfl dd_X12_makeReport (by decide) ⟨rfl, rfl⟩ (by decide) (Nat.le_of_ble_eq_true rfl) dX12_report_39 rfl ?_
          refine j_aload_n C dX12_report_42 0 rfl ?_
          refine j_get (ci := 12) C hU_X12 rfl (min_ F (by decide)) (me_0 F _ _) 43 (by decide) rfl hF_X12_93 dX12_report_43 ?_
          refine j_iload_n C dX12_report_46 3 rfl ?_
          refine j_chk (fun h7 => ?_)
          refine j_lald (t0 := 1) C (min_ F (by decide)) (me_26 F _ _) (mt1 F) (inb_in h7) dX12_report_47 ?_
          exact j_lret2 C Q dX12_report_48
        · refine j_ldc2 C hK_X12_106 dX12_report_32 ?_
          exact j_lret2 C Q dX12_report_35
set_option maxRecDepth 100000 in
set_option maxHeartbeats 4000000 in
theorem c_X12_report {E : EnvT} {cs : Nat → ClassId} (F : MF E cs) {σ : Mem} {p1 : Int32} {p2 : Int32} {p3 : Int32} {r : Int64 × Mem} (h : X12_report σ p1 p2 p3 = some r) : CT E yX12_report cX12_report 4 (some .long) rm_X12_report [.ref (eAd E 0), .int p1, .int p2, .int p3] σ (RQl r.1 r.2) :=
  ct_M F (by decide) (Nat.le_of_ble_eq_true rfl) (fun E' ea F' C Q => by rw [← ea]; exact m_X12_report F'  C Q h)
theorem dd_X12_report : yX12_report.cls ≠ "java/lang/invoke/MethodHandle" ∧ yX12_report.cls ≠ "java/lang/invoke/VarHandle" ∧ (parseMethodDescriptor yX12_report.desc).map (fun d => d.parameters.length) = some 3 := by decide +kernel
def X12_correct_l86 (rec67 : (Mem × Int32 × Int32 × Int32 × Int32 × Int32) → Option (Int32 × Mem)) (rec86 : (Mem × Int32 × Int32 × Int32 × Int32 × Int32 × Int32) → Option (Int32 × Mem)) (σ : Mem) (v1 : Int32) (v2 : Int32) (v3 : Int32) (v4 : Int32) (v5 : Int32) (v6 : Int32) : Option (Int32 × Mem) :=
  if (8 : Int32) ≤ v6 then
  (lete (v5 + (1 : Int32)) (fun x1 =>
  rec67 (σ, v1, v2, v3, v4, x1)))
  else
  (chk (inb v6 8) (
  chk (inb (((8 : Int32) * v5) + v6) 160) (
  lete (wJ σ 28 (ix (((8 : Int32) * v5) + v6)) (σ.2 26 (ix v6))) (fun σ4 =>
  lete (v6 + (1 : Int32)) (fun x5 =>
  rec86 (σ4, v1, v2, v3, v4, v5, x5))))))
def X12_correct_b266 (rec203 : (Mem × Int32 × Int32 × Int32) → Option (Int32 × Mem)) (σ : Mem) (v1 : Int32) (v5 : Int32) (v6 : Int32) : Option (Int32 × Mem) :=
  lete (v6 + (1 : Int32)) (fun x1 =>
  rec203 (σ, v1, v5, x1))
def X12_correct_l203 (rec184 : (Mem × Int32 × Int32) → Option (Int32 × Mem)) (rec203 : (Mem × Int32 × Int32 × Int32) → Option (Int32 × Mem)) (σ : Mem) (v1 : Int32) (v5 : Int32) (v6 : Int32) : Option (Int32 × Mem) :=
  if (8 : Int32) ≤ v6 then
  (lete (v5 + (1 : Int32)) (fun x1 =>
  rec184 (σ, v1, x1)))
  else
  (chk (inb (((8 : Int32) * v5) + v6) 160) (
  chk (inb v6 8) (
  if (lg_cmp (σ.2 28 (ix (((8 : Int32) * v5) + v6))) (σ.2 26 (ix v6))) = (0 : Int32) then
  (X12_correct_b266 rec203 σ v1 v5 v6)
  else
  (chk (inb (σ.1 0 44) 160) (
  lete (wI σ 27 (ix (σ.1 0 44)) ((((80 : Int32) * v5) + ((10 : Int32) * v1)) + v6)) (fun σ5 =>
  lete (wI σ5 0 44 ((σ5.1 0 44) + (1 : Int32))) (fun σ6 =>
  X12_correct_b266 rec203 σ6 v1 v5 v6)))))))
def X12_correct_l184 (rec184 : (Mem × Int32 × Int32) → Option (Int32 × Mem)) (σ : Mem) (v1 : Int32) (v5 : Int32) : Option (Int32 × Mem) :=
  if (σ.1 0 22) ≤ v5 then
  (some ((σ.1 0 44), σ))
  else
  (bindo (X12_makeReport σ v5 v1) (fun σ2 =>
  loopF (fun (rec : (Mem × Int32 × Int32 × Int32) → Option (Int32 × Mem)) (s : Mem × Int32 × Int32 × Int32) => X12_correct_l203 rec184 rec s.1 s.2.1 s.2.2.1 s.2.2.2)  FU (σ2, v1, v5, (0 : Int32))))
def X12_correct_l67 (rec67 : (Mem × Int32 × Int32 × Int32 × Int32 × Int32) → Option (Int32 × Mem)) (σ : Mem) (v1 : Int32) (v2 : Int32) (v3 : Int32) (v4 : Int32) (v5 : Int32) : Option (Int32 × Mem) :=
  if (σ.1 0 22) ≤ v5 then
  (chk (inb (σ.1 0 38) 20) (
  lete (wI σ 22 (ix (σ.1 0 38)) v1) (fun σ2 =>
  chk (inb (σ2.1 0 38) 20) (
  lete (wI σ2 23 (ix (σ2.1 0 38)) v2) (fun σ4 =>
  chk (inb (σ4.1 0 38) 20) (
  lete (wI σ4 24 (ix (σ4.1 0 38)) v3) (fun σ6 =>
  chk (inb (σ6.1 0 38) 20) (
  lete (wI σ6 25 (ix (σ6.1 0 38)) v4) (fun σ8 =>
  lete (wI σ8 0 38 ((σ8.1 0 38) + (1 : Int32))) (fun σ9 =>
  lete (wI σ9 0 44 (0 : Int32)) (fun σ10 =>
  loopF (fun (rec : (Mem × Int32 × Int32) → Option (Int32 × Mem)) (s : Mem × Int32 × Int32) => X12_correct_l184 rec s.1 s.2.1 s.2.2)  FU (σ10, v1, (0 : Int32)))))))))))))
  else
  (bindo (X12_makeReport σ v5 v1) (fun σ12 =>
  loopF (fun (rec : (Mem × Int32 × Int32 × Int32 × Int32 × Int32 × Int32) → Option (Int32 × Mem)) (s : Mem × Int32 × Int32 × Int32 × Int32 × Int32 × Int32) => X12_correct_l86 rec67 rec s.1 s.2.1 s.2.2.1 s.2.2.2.1 s.2.2.2.2.1 s.2.2.2.2.2.1 s.2.2.2.2.2.2)  FU (σ12, v1, v2, v3, v4, v5, (0 : Int32))))
def X12_correct (σ : Mem) (p1 : Int32) (p2 : Int32) (p3 : Int32) (p4 : Int32) : Option (Int32 × Mem) :=
  bindo (X12_isChannel σ p1) (fun r2 =>
  if ¬ r2 = (0 : Int32) then
  (bindo (X12_within (p2.toInt64) (0 : Int64) (3000 : Int64)) (fun r4 =>
  if r4 = (0 : Int32) then
  (some ((-2 : Int32), σ))
  else
  (bindo (X12_within (p3.toInt64) (1 : Int64) (2000 : Int64)) (fun r6 =>
  if r6 = (0 : Int32) then
  (some ((-2 : Int32), σ))
  else
  (bindo (X12_within (p4.toInt64) (-1000 : Int64) (1000 : Int64)) (fun r8 =>
  if ¬ r8 = (0 : Int32) then
  (if ¬ (σ.1 0 38) = (20 : Int32) then
  (loopF (fun (rec : (Mem × Int32 × Int32 × Int32 × Int32 × Int32) → Option (Int32 × Mem)) (s : Mem × Int32 × Int32 × Int32 × Int32 × Int32) => X12_correct_l67 rec s.1 s.2.1 s.2.2.1 s.2.2.2.1 s.2.2.2.2.1 s.2.2.2.2.2)  FU (σ, p1, p2, p3, p4, (0 : Int32)))
  else
  (some ((-4 : Int32), σ)))
  else
  (some ((-2 : Int32), σ))))))))
  else
  (some ((-1 : Int32), σ)))
abbrev rm_X12_correct : Room := { frames := 3, cells := 0, slots := 0, locals := 75 }
set_option maxRecDepth 100000 in
set_option maxHeartbeats 4000000 in
theorem m_X12_correct {E : EnvT} {cs : Nat → ClassId} (F : MF E cs) {p1 : Int32} {p2 : Int32} {p3 : Int32} {p4 : Int32} {σ : Mem} (C : CX E cX12_correct RX12 7 rm_X12_correct) {r0 : Int32 × Mem} (Q : QE E 0 0 (some .int) (RQi r0.1 r0.2)) : J E 7 0 0 r0 (X12_correct σ p1 p2 p3 p4) σ 0 [(0, .ref (eAd E 0)), (1, .int p1), (2, .int p2), (3, .int p3), (4, .int p4)] [] := by
  have hL86 : ∀ (rec67 : (Mem × Int32 × Int32 × Int32 × Int32 × Int32) → Option (Int32 × Mem)) (hrec67 : ∀ a : Mem × Int32 × Int32 × Int32 × Int32 × Int32, J E 7 0 0 r0 (rec67 a) a.1 67 [(0, .ref (eAd E 0)), (1, .int a.2.1), (2, .int a.2.2.1), (3, .int a.2.2.2.1), (4, .int a.2.2.2.2.1), (5, .int a.2.2.2.2.2)] []) (f : Nat) (a : Mem × Int32 × Int32 × Int32 × Int32 × Int32 × Int32), J E 7 0 0 r0 (loopF (fun (rec : (Mem × Int32 × Int32 × Int32 × Int32 × Int32 × Int32) → Option (Int32 × Mem)) (s : Mem × Int32 × Int32 × Int32 × Int32 × Int32 × Int32) => X12_correct_l86 rec67 rec s.1 s.2.1 s.2.2.1 s.2.2.2.1 s.2.2.2.2.1 s.2.2.2.2.2.1 s.2.2.2.2.2.2) f a) a.1 86 [(0, .ref (eAd E 0)), (1, .int a.2.1), (2, .int a.2.2.1), (3, .int a.2.2.2.1), (4, .int a.2.2.2.2.1), (5, .int a.2.2.2.2.2.1), (6, .int a.2.2.2.2.2.2)] [] := by
    intro rec67 hrec67
    refine j_loop (M := fun (a : Mem × Int32 × Int32 × Int32 × Int32 × Int32 × Int32) => a.1) (L := fun (a : Mem × Int32 × Int32 × Int32 × Int32 × Int32 × Int32) => [(0, .ref (eAd E 0)), (1, .int a.2.1), (2, .int a.2.2.1), (3, .int a.2.2.2.1), (4, .int a.2.2.2.2.1), (5, .int a.2.2.2.2.2.1), (6, .int a.2.2.2.2.2.2)]) (S := fun (a : Mem × Int32 × Int32 × Int32 × Int32 × Int32 × Int32) => []) (fun rec86 hrec86 a => ?_)
    obtain ⟨σ, v1, v2, v3, v4, v5, v6⟩ := a
    show J E 7 0 0 r0 (X12_correct_l86 rec67 rec86 σ v1 v2 v3 v4 v5 v6) σ 86 [(0, .ref (eAd E 0)), (1, .int v1), (2, .int v2), (3, .int v3), (4, .int v4), (5, .int v5), (6, .int v6)] []
    unfold X12_correct_l86
    refine j_iload C dX12_correct_86 6 rfl ?_
    refine j_bipush C (8 : Int32) dX12_correct_88 (by decide) ?_
    refine j_icmp_ge C 119 dX12_correct_90 (by decide) ?_ ?_
    · refine j_iincN (lf := fun x1 => [(5, .int x1), (0, .ref (eAd E 0)), (1, .int v1), (2, .int v2), (3, .int v3), (4, .int v4), (6, .int v6)]) C dX12_correct_119 5 rfl (by rfl) (by decide) (fun _ => rfl) (fun x1 => ?_)
      refine j_goto C 67 dX12_correct_122 (by decide) ?_
      refine j_lv [(0, .ref (eAd E 0)), (1, .int v1), (2, .int v2), (3, .int v3), (4, .int v4), (5, .int x1)] [1, 2, 3, 4, 5, 0] rfl ?_
      exact hrec67 (σ, v1, v2, v3, v4, x1)
    · refine j_aload_n C dX12_correct_93 0 rfl ?_
      refine j_get (ci := 12) C hU_X12 rfl (min_ F (by decide)) (me_0 F _ _) 46 (by decide) rfl hF_X12_100 dX12_correct_94 ?_
      refine j_bipush C (8 : Int32) dX12_correct_97 (by decide) ?_
      refine j_iload C dX12_correct_99 5 rfl ?_
      refine j_imul C dX12_correct_101 ?_
      refine j_iload C dX12_correct_102 6 rfl ?_
      refine j_iadd C dX12_correct_104 ?_
      refine j_aload_n C dX12_correct_105 0 rfl ?_
      refine j_get (ci := 12) C hU_X12 rfl (min_ F (by decide)) (me_0 F _ _) 43 (by decide) rfl hF_X12_93 dX12_correct_106 ?_
      refine j_iload C dX12_correct_109 6 rfl ?_
      refine j_chk (fun h2 => ?_)
      refine j_lald (t0 := 1) C (min_ F (by decide)) (me_26 F _ _) (mt1 F) (inb_in h2) dX12_correct_111 ?_
      refine j_chk (fun h3 => ?_)
      refine j_last (t0 := 1) C (min_ F (by decide)) (me_28 F _ _) (by rw [wJ_o, wJ_1]; exact (me_28 F _ _)) (mt1 F) (inb_in h3) dX12_correct_112 (fun σ4 => ?_)
      refine j_iincN (lf := fun x5 => [(6, .int x5), (0, .ref (eAd E 0)), (1, .int v1), (2, .int v2), (3, .int v3), (4, .int v4), (5, .int v5)]) C dX12_correct_113 6 rfl (by rfl) (by decide) (fun _ => rfl) (fun x5 => ?_)
      refine j_goto C 86 dX12_correct_116 (by decide) ?_
      refine j_lv [(0, .ref (eAd E 0)), (1, .int v1), (2, .int v2), (3, .int v3), (4, .int v4), (5, .int v5), (6, .int x5)] [1, 2, 3, 4, 5, 6, 0] rfl ?_
      exact hrec86 (σ4, v1, v2, v3, v4, v5, x5)
  have hB266 : ∀ (rec203 : (Mem × Int32 × Int32 × Int32) → Option (Int32 × Mem)) (hrec203 : ∀ a : Mem × Int32 × Int32 × Int32, J E 7 0 0 r0 (rec203 a) a.1 203 [(0, .ref (eAd E 0)), (1, .int a.2.1), (5, .int a.2.2.1), (6, .int a.2.2.2)] []) (σ : Mem) (v1 : Int32) (v5 : Int32) (v6 : Int32), J E 7 0 0 r0 (X12_correct_b266 rec203 σ v1 v5 v6) σ 266 [(0, .ref (eAd E 0)), (1, .int v1), (5, .int v5), (6, .int v6)] [] := by
    intro rec203 hrec203 σ v1 v5 v6
    unfold X12_correct_b266
    refine j_iincN (lf := fun x1 => [(6, .int x1), (0, .ref (eAd E 0)), (1, .int v1), (5, .int v5)]) C dX12_correct_266 3 rfl (by rfl) (by decide) (fun _ => rfl) (fun x1 => ?_)
    refine j_goto C 203 dX12_correct_269 (by decide) ?_
    refine j_lv [(0, .ref (eAd E 0)), (1, .int v1), (5, .int v5), (6, .int x1)] [1, 2, 3, 0] rfl ?_
    exact hrec203 (σ, v1, v5, x1)
  have hL203 : ∀ (rec184 : (Mem × Int32 × Int32) → Option (Int32 × Mem)) (hrec184 : ∀ a : Mem × Int32 × Int32, J E 7 0 0 r0 (rec184 a) a.1 184 [(0, .ref (eAd E 0)), (1, .int a.2.1), (5, .int a.2.2)] []) (f : Nat) (a : Mem × Int32 × Int32 × Int32), J E 7 0 0 r0 (loopF (fun (rec : (Mem × Int32 × Int32 × Int32) → Option (Int32 × Mem)) (s : Mem × Int32 × Int32 × Int32) => X12_correct_l203 rec184 rec s.1 s.2.1 s.2.2.1 s.2.2.2) f a) a.1 203 [(0, .ref (eAd E 0)), (1, .int a.2.1), (5, .int a.2.2.1), (6, .int a.2.2.2)] [] := by
    intro rec184 hrec184
    refine j_loop (M := fun (a : Mem × Int32 × Int32 × Int32) => a.1) (L := fun (a : Mem × Int32 × Int32 × Int32) => [(0, .ref (eAd E 0)), (1, .int a.2.1), (5, .int a.2.2.1), (6, .int a.2.2.2)]) (S := fun (a : Mem × Int32 × Int32 × Int32) => []) (fun rec203 hrec203 a => ?_)
    obtain ⟨σ, v1, v5, v6⟩ := a
    show J E 7 0 0 r0 (X12_correct_l203 rec184 rec203 σ v1 v5 v6) σ 203 [(0, .ref (eAd E 0)), (1, .int v1), (5, .int v5), (6, .int v6)] []
    unfold X12_correct_l203
    refine j_iload C dX12_correct_203 3 rfl ?_
    refine j_bipush C (8 : Int32) dX12_correct_205 (by decide) ?_
    refine j_icmp_ge C 272 dX12_correct_207 (by decide) ?_ ?_
    · refine j_iincN (lf := fun x1 => [(5, .int x1), (0, .ref (eAd E 0)), (1, .int v1), (6, .int v6)]) C dX12_correct_272 2 rfl (by rfl) (by decide) (fun _ => rfl) (fun x1 => ?_)
      refine j_goto C 184 dX12_correct_275 (by decide) ?_
      refine j_lv [(0, .ref (eAd E 0)), (1, .int v1), (5, .int x1)] [1, 2, 0] rfl ?_
      exact hrec184 (σ, v1, x1)
    · refine j_aload_n C dX12_correct_210 0 rfl ?_
      refine j_get (ci := 12) C hU_X12 rfl (min_ F (by decide)) (me_0 F _ _) 46 (by decide) rfl hF_X12_100 dX12_correct_211 ?_
      refine j_bipush C (8 : Int32) dX12_correct_214 (by decide) ?_
      refine j_iload C dX12_correct_216 2 rfl ?_
      refine j_imul C dX12_correct_218 ?_
      refine j_iload C dX12_correct_219 3 rfl ?_
      refine j_iadd C dX12_correct_221 ?_
      refine j_chk (fun h2 => ?_)
      refine j_lald (t0 := 1) C (min_ F (by decide)) (me_28 F _ _) (mt1 F) (inb_in h2) dX12_correct_222 ?_
      refine j_aload_n C dX12_correct_223 0 rfl ?_
      refine j_get (ci := 12) C hU_X12 rfl (min_ F (by decide)) (me_0 F _ _) 43 (by decide) rfl hF_X12_93 dX12_correct_224 ?_
      refine j_iload C dX12_correct_227 3 rfl ?_
      refine j_chk (fun h3 => ?_)
      refine j_lald (t0 := 1) C (min_ F (by decide)) (me_26 F _ _) (mt1 F) (inb_in h3) dX12_correct_229 ?_
      refine j_lcmp C dX12_correct_230 ?_
      refine j_if_eq C 266 dX12_correct_231 (by decide) ?_ ?_
      · refine j_lv [(0, .ref (eAd E 0)), (1, .int v1), (5, .int v5), (6, .int v6)] [0, 1, 2, 3] rfl ?_
        exact hB266 rec203 hrec203 σ v1 v5 v6
      · refine j_aload_n C dX12_correct_234 0 rfl ?_
        refine j_get (ci := 12) C hU_X12 rfl (min_ F (by decide)) (me_0 F _ _) 45 (by decide) rfl hF_X12_97 dX12_correct_235 ?_
        refine j_aload_n C dX12_correct_238 0 rfl ?_
        refine j_get (ci := 12) C hU_X12 rfl (min_ F (by decide)) (me_0 F _ _) 44 (by decide) rfl hF_X12_260 dX12_correct_239 ?_
        refine j_bipush C (80 : Int32) dX12_correct_242 (by decide) ?_
        refine j_iload C dX12_correct_244 2 rfl ?_
        refine j_imul C dX12_correct_246 ?_
        refine j_bipush C (10 : Int32) dX12_correct_247 (by decide) ?_
        refine j_iload_n C dX12_correct_249 1 rfl ?_
        refine j_imul C dX12_correct_250 ?_
        refine j_iadd C dX12_correct_251 ?_
        refine j_iload C dX12_correct_252 3 rfl ?_
        refine j_iadd C dX12_correct_254 ?_
        refine j_chk (fun h4 => ?_)
        refine j_iast (t0 := 0) C (min_ F (by decide)) (me_27 F _ _) (by rw [wI_o, wI_2]; exact (me_27 F _ _)) (mt0 F) (inb_in h4) dX12_correct_255 (fun σ5 => ?_)
        refine j_aload_n C dX12_correct_256 0 rfl ?_
        refine j_dup C dX12_correct_257 rfl ?_
        refine j_get (ci := 12) C hU_X12 rfl (min_ F (by decide)) (me_0 F _ _) 44 (by decide) rfl hF_X12_260 dX12_correct_258 ?_
        refine j_iconst C (1 : Int32) dX12_correct_261 (by decide) ?_
        refine j_iadd C dX12_correct_262 ?_
        refine j_put (ci := 12) C hU_X12 tyX12_ok nmX12 rfl (min_ F (by decide)) (me_0 F _ _) 44 (by decide) (Nat.le_of_ble_eq_true rfl) (by rw [wI_o, wI_2]; exact (me_0 F _ _)) (fun o' h' => ⟨wI_ne _ _ _ h', rfl⟩) rfl (by first | rfl | decide) (by first | rfl | decide) hF_X12_260 dX12_correct_263 (fun σ6 => ?_)
        refine j_lv [(0, .ref (eAd E 0)), (1, .int v1), (5, .int v5), (6, .int v6)] [0, 1, 2, 3] rfl ?_
        exact hB266 rec203 hrec203 σ6 v1 v5 v6
  have hL184 : ∀ (f : Nat) (a : Mem × Int32 × Int32), J E 7 0 0 r0 (loopF (fun (rec : (Mem × Int32 × Int32) → Option (Int32 × Mem)) (s : Mem × Int32 × Int32) => X12_correct_l184 rec s.1 s.2.1 s.2.2) f a) a.1 184 [(0, .ref (eAd E 0)), (1, .int a.2.1), (5, .int a.2.2)] [] := by
    refine j_loop (M := fun (a : Mem × Int32 × Int32) => a.1) (L := fun (a : Mem × Int32 × Int32) => [(0, .ref (eAd E 0)), (1, .int a.2.1), (5, .int a.2.2)]) (S := fun (a : Mem × Int32 × Int32) => []) (fun rec184 hrec184 a => ?_)
    obtain ⟨σ, v1, v5⟩ := a
    show J E 7 0 0 r0 (X12_correct_l184 rec184 σ v1 v5) σ 184 [(0, .ref (eAd E 0)), (1, .int v1), (5, .int v5)] []
    unfold X12_correct_l184
    refine j_iload C dX12_correct_184 2 rfl ?_
    refine j_aload_n C dX12_correct_186 0 rfl ?_
    refine j_get (ci := 12) C hU_X12 rfl (min_ F (by decide)) (me_0 F _ _) 22 (by decide) rfl hF_X12_187 dX12_correct_187 ?_
    refine j_icmp_ge C 278 dX12_correct_190 (by decide) ?_ ?_
    · refine j_aload_n C dX12_correct_278 0 rfl ?_
      refine j_get (ci := 12) C hU_X12 rfl (min_ F (by decide)) (me_0 F _ _) 44 (by decide) rfl hF_X12_260 dX12_correct_279 ?_
      exact j_ireti2 C Q dX12_correct_282
    · refine j_aload_n C dX12_correct_193 0 rfl ?_
      refine j_iload C dX12_correct_194 2 rfl ?_
      refine j_iload_n C dX12_correct_196 1 rfl ?_
      refine j_bind (fun σ2 h1 => ?_)
      refine j_callVv (ci := 12) C [.int v5, .int v1] (c_X12_makeReport F h1) hM_X12_254 hI_X12_makeReport hS_X12_makeReport hZ_X12 hC_X12_makeReport (min_ F (by decide)) (me_0 F _ _) rfl rfl dd_X12_makeReport (by decide) ⟨rfl, rfl⟩ (by decide) (Nat.le_of_ble_eq_true rfl) dX12_correct_197 rfl ?_
      refine j_iconst C (0 : Int32) dX12_correct_200 (by decide) ?_
      refine j_istore (lv' := [(6, .int (0 : Int32)), (0, .ref (eAd E 0)), (1, .int v1), (5, .int v5)]) C dX12_correct_201 (by decide) rfl ?_
      refine j_lv [(0, .ref (eAd E 0)), (1, .int v1), (5, .int v5), (6, .int (0 : Int32))] [1, 2, 3, 0] rfl ?_
      exact hL203 rec184 hrec184 FU (σ2, v1, v5, (0 : Int32))
  have hL67 : ∀ (f : Nat) (a : Mem × Int32 × Int32 × Int32 × Int32 × Int32), J E 7 0 0 r0 (loopF (fun (rec : (Mem × Int32 × Int32 × Int32 × Int32 × Int32) → Option (Int32 × Mem)) (s : Mem × Int32 × Int32 × Int32 × Int32 × Int32) => X12_correct_l67 rec s.1 s.2.1 s.2.2.1 s.2.2.2.1 s.2.2.2.2.1 s.2.2.2.2.2) f a) a.1 67 [(0, .ref (eAd E 0)), (1, .int a.2.1), (2, .int a.2.2.1), (3, .int a.2.2.2.1), (4, .int a.2.2.2.2.1), (5, .int a.2.2.2.2.2)] [] := by
    refine j_loop (M := fun (a : Mem × Int32 × Int32 × Int32 × Int32 × Int32) => a.1) (L := fun (a : Mem × Int32 × Int32 × Int32 × Int32 × Int32) => [(0, .ref (eAd E 0)), (1, .int a.2.1), (2, .int a.2.2.1), (3, .int a.2.2.2.1), (4, .int a.2.2.2.2.1), (5, .int a.2.2.2.2.2)]) (S := fun (a : Mem × Int32 × Int32 × Int32 × Int32 × Int32) => []) (fun rec67 hrec67 a => ?_)
    obtain ⟨σ, v1, v2, v3, v4, v5⟩ := a
    show J E 7 0 0 r0 (X12_correct_l67 rec67 σ v1 v2 v3 v4 v5) σ 67 [(0, .ref (eAd E 0)), (1, .int v1), (2, .int v2), (3, .int v3), (4, .int v4), (5, .int v5)] []
    unfold X12_correct_l67
    refine j_iload C dX12_correct_67 5 rfl ?_
    refine j_aload_n C dX12_correct_69 0 rfl ?_
    refine j_get (ci := 12) C hU_X12 rfl (min_ F (by decide)) (me_0 F _ _) 22 (by decide) rfl hF_X12_187 dX12_correct_70 ?_
    refine j_icmp_ge C 125 dX12_correct_73 (by decide) ?_ ?_
    · refine j_aload_n C dX12_correct_125 0 rfl ?_
      refine j_get (ci := 12) C hU_X12 rfl (min_ F (by decide)) (me_0 F _ _) 39 (by decide) rfl hF_X12_81 dX12_correct_126 ?_
      refine j_aload_n C dX12_correct_129 0 rfl ?_
      refine j_get (ci := 12) C hU_X12 rfl (min_ F (by decide)) (me_0 F _ _) 38 (by decide) rfl hF_X12_222 dX12_correct_130 ?_
      refine j_iload_n C dX12_correct_133 1 rfl ?_
      refine j_chk (fun h1 => ?_)
      refine j_iast (t0 := 0) C (min_ F (by decide)) (me_22 F _ _) (by rw [wI_o, wI_2]; exact (me_22 F _ _)) (mt0 F) (inb_in h1) dX12_correct_134 (fun σ2 => ?_)
      refine j_aload_n C dX12_correct_135 0 rfl ?_
      refine j_get (ci := 12) C hU_X12 rfl (min_ F (by decide)) (me_0 F _ _) 40 (by decide) rfl hF_X12_84 dX12_correct_136 ?_
      refine j_aload_n C dX12_correct_139 0 rfl ?_
      refine j_get (ci := 12) C hU_X12 rfl (min_ F (by decide)) (me_0 F _ _) 38 (by decide) rfl hF_X12_222 dX12_correct_140 ?_
      refine j_iload_n C dX12_correct_143 2 rfl ?_
      refine j_chk (fun h3 => ?_)
      refine j_iast (t0 := 0) C (min_ F (by decide)) (me_23 F _ _) (by rw [wI_o, wI_2]; exact (me_23 F _ _)) (mt0 F) (inb_in h3) dX12_correct_144 (fun σ4 => ?_)
      refine j_aload_n C dX12_correct_145 0 rfl ?_
      refine j_get (ci := 12) C hU_X12 rfl (min_ F (by decide)) (me_0 F _ _) 41 (by decide) rfl hF_X12_87 dX12_correct_146 ?_
      refine j_aload_n C dX12_correct_149 0 rfl ?_
      refine j_get (ci := 12) C hU_X12 rfl (min_ F (by decide)) (me_0 F _ _) 38 (by decide) rfl hF_X12_222 dX12_correct_150 ?_
      refine j_iload_n C dX12_correct_153 3 rfl ?_
      refine j_chk (fun h5 => ?_)
      refine j_iast (t0 := 0) C (min_ F (by decide)) (me_24 F _ _) (by rw [wI_o, wI_2]; exact (me_24 F _ _)) (mt0 F) (inb_in h5) dX12_correct_154 (fun σ6 => ?_)
      refine j_aload_n C dX12_correct_155 0 rfl ?_
      refine j_get (ci := 12) C hU_X12 rfl (min_ F (by decide)) (me_0 F _ _) 42 (by decide) rfl hF_X12_90 dX12_correct_156 ?_
      refine j_aload_n C dX12_correct_159 0 rfl ?_
      refine j_get (ci := 12) C hU_X12 rfl (min_ F (by decide)) (me_0 F _ _) 38 (by decide) rfl hF_X12_222 dX12_correct_160 ?_
      refine j_iload C dX12_correct_163 4 rfl ?_
      refine j_chk (fun h7 => ?_)
      refine j_iast (t0 := 0) C (min_ F (by decide)) (me_25 F _ _) (by rw [wI_o, wI_2]; exact (me_25 F _ _)) (mt0 F) (inb_in h7) dX12_correct_165 (fun σ8 => ?_)
      refine j_aload_n C dX12_correct_166 0 rfl ?_
      refine j_dup C dX12_correct_167 rfl ?_
      refine j_get (ci := 12) C hU_X12 rfl (min_ F (by decide)) (me_0 F _ _) 38 (by decide) rfl hF_X12_222 dX12_correct_168 ?_
      refine j_iconst C (1 : Int32) dX12_correct_171 (by decide) ?_
      refine j_iadd C dX12_correct_172 ?_
      refine j_put (ci := 12) C hU_X12 tyX12_ok nmX12 rfl (min_ F (by decide)) (me_0 F _ _) 38 (by decide) (Nat.le_of_ble_eq_true rfl) (by rw [wI_o, wI_2]; exact (me_0 F _ _)) (fun o' h' => ⟨wI_ne _ _ _ h', rfl⟩) rfl (by first | rfl | decide) (by first | rfl | decide) hF_X12_222 dX12_correct_173 (fun σ9 => ?_)
      refine j_aload_n C dX12_correct_176 0 rfl ?_
      refine j_iconst C (0 : Int32) dX12_correct_177 (by decide) ?_
      refine j_put (ci := 12) C hU_X12 tyX12_ok nmX12 rfl (min_ F (by decide)) (me_0 F _ _) 44 (by decide) (Nat.le_of_ble_eq_true rfl) (by rw [wI_o, wI_2]; exact (me_0 F _ _)) (fun o' h' => ⟨wI_ne _ _ _ h', rfl⟩) rfl (by first | rfl | decide) (by first | rfl | decide) hF_X12_260 dX12_correct_178 (fun σ10 => ?_)
      refine j_iconst C (0 : Int32) dX12_correct_181 (by decide) ?_
      refine j_istore (lv' := [(5, .int (0 : Int32)), (0, .ref (eAd E 0)), (1, .int v1), (2, .int v2), (3, .int v3), (4, .int v4)]) C dX12_correct_182 (by decide) rfl ?_
      refine j_lv [(0, .ref (eAd E 0)), (1, .int v1), (5, .int (0 : Int32))] [1, 2, 0] rfl ?_
      exact hL184  FU (σ10, v1, (0 : Int32))
    · refine j_aload_n C dX12_correct_76 0 rfl ?_
      refine j_iload C dX12_correct_77 5 rfl ?_
      refine j_iload_n C dX12_correct_79 1 rfl ?_
      refine j_bind (fun σ12 h11 => ?_)
      refine j_callVv (ci := 12) C [.int v5, .int v1] (c_X12_makeReport F h11) hM_X12_254 hI_X12_makeReport hS_X12_makeReport hZ_X12 hC_X12_makeReport (min_ F (by decide)) (me_0 F _ _) rfl rfl dd_X12_makeReport (by decide) ⟨rfl, rfl⟩ (by decide) (Nat.le_of_ble_eq_true rfl) dX12_correct_80 rfl ?_
      refine j_iconst C (0 : Int32) dX12_correct_83 (by decide) ?_
      refine j_istore (lv' := [(6, .int (0 : Int32)), (0, .ref (eAd E 0)), (1, .int v1), (2, .int v2), (3, .int v3), (4, .int v4), (5, .int v5)]) C dX12_correct_84 (by decide) rfl ?_
      refine j_lv [(0, .ref (eAd E 0)), (1, .int v1), (2, .int v2), (3, .int v3), (4, .int v4), (5, .int v5), (6, .int (0 : Int32))] [1, 2, 3, 4, 5, 6, 0] rfl ?_
      exact hL86 rec67 hrec67 FU (σ12, v1, v2, v3, v4, v5, (0 : Int32))
  unfold X12_correct
  refine j_aload_n C dX12_correct_0 0 rfl ?_
  refine j_iload_n C dX12_correct_1 1 rfl ?_
  refine j_bind (fun r2 h1 => ?_)
  refine j_callVi (ci := 12) C [.int p1] (c_X12_isChannel F h1) hM_X12_231 hI_X12_isChannel hS_X12_isChannel hZ_X12 hC_X12_isChannel (min_ F (by decide)) (me_0 F _ _) rfl rfl dd_X12_isChannel (by decide) ⟨rfl, rfl⟩ (by decide) (Nat.le_of_ble_eq_true rfl) dX12_correct_2 rfl ?_
  refine j_if_ne C 10 dX12_correct_5 (by decide) ?_ ?_
  · refine j_iload_n C dX12_correct_10 2 rfl ?_
    refine j_i2l C dX12_correct_11 ?_
    refine j_lconst C (0 : Int64) dX12_correct_12 (by decide) ?_
    refine j_ldc2 C hK_X12_238 dX12_correct_13 ?_
    refine j_bind (fun r4 h3 => ?_)
    refine j_callSi C [.long (p2.toInt64), .long (0 : Int64), .long (3000 : Int64)] (c_X12_within F h3) hM_X12_110 hT_X12_within hZ_X12 hC_X12_within dd_X12_within (by decide) ⟨rfl, rfl⟩ (by decide) (Nat.le_of_ble_eq_true rfl) dX12_correct_16 rfl ?_
    refine j_if_eq C 49 dX12_correct_19 (by decide) ?_ ?_
    · refine j_bipush C (-2 : Int32) dX12_correct_49 (by decide) ?_
      exact j_ireti2 C Q dX12_correct_51
    · refine j_iload_n C dX12_correct_22 3 rfl ?_
      refine j_i2l C dX12_correct_23 ?_
      refine j_lconst C (1 : Int64) dX12_correct_24 (by decide) ?_
      refine j_ldc2 C hK_X12_121 dX12_correct_25 ?_
      refine j_bind (fun r6 h5 => ?_)
      refine j_callSi C [.long (p3.toInt64), .long (1 : Int64), .long (2000 : Int64)] (c_X12_within F h5) hM_X12_110 hT_X12_within hZ_X12 hC_X12_within dd_X12_within (by decide) ⟨rfl, rfl⟩ (by decide) (Nat.le_of_ble_eq_true rfl) dX12_correct_28 rfl ?_
      refine j_if_eq C 49 dX12_correct_31 (by decide) ?_ ?_
      · refine j_bipush C (-2 : Int32) dX12_correct_49 (by decide) ?_
        exact j_ireti2 C Q dX12_correct_51
      · refine j_iload C dX12_correct_34 4 rfl ?_
        refine j_i2l C dX12_correct_36 ?_
        refine j_ldc2 C hK_X12_258 dX12_correct_37 ?_
        refine j_ldc2 C hK_X12_116 dX12_correct_40 ?_
        refine j_bind (fun r8 h7 => ?_)
        refine j_callSi C [.long (p4.toInt64), .long (-1000 : Int64), .long (1000 : Int64)] (c_X12_within F h7) hM_X12_110 hT_X12_within hZ_X12 hC_X12_within dd_X12_within (by decide) ⟨rfl, rfl⟩ (by decide) (Nat.le_of_ble_eq_true rfl) dX12_correct_43 rfl ?_
        refine j_if_ne C 52 dX12_correct_46 (by decide) ?_ ?_
        · refine j_aload_n C dX12_correct_52 0 rfl ?_
          refine j_get (ci := 12) C hU_X12 rfl (min_ F (by decide)) (me_0 F _ _) 38 (by decide) rfl hF_X12_222 dX12_correct_53 ?_
          refine j_bipush C (20 : Int32) dX12_correct_56 (by decide) ?_
          refine j_icmp_ne C 64 dX12_correct_58 (by decide) ?_ ?_
          · refine j_iconst C (0 : Int32) dX12_correct_64 (by decide) ?_
            refine j_istore (lv' := [(5, .int (0 : Int32)), (0, .ref (eAd E 0)), (1, .int p1), (2, .int p2), (3, .int p3), (4, .int p4)]) C dX12_correct_65 (by decide) rfl ?_
            refine j_lv [(0, .ref (eAd E 0)), (1, .int p1), (2, .int p2), (3, .int p3), (4, .int p4), (5, .int (0 : Int32))] [1, 2, 3, 4, 5, 0] rfl ?_
            exact hL67  FU (σ, p1, p2, p3, p4, (0 : Int32))
          · refine j_bipush C (-4 : Int32) dX12_correct_61 (by decide) ?_
            exact j_ireti2 C Q dX12_correct_63
        · refine j_bipush C (-2 : Int32) dX12_correct_49 (by decide) ?_
          exact j_ireti2 C Q dX12_correct_51
  · refine j_iconst C (-1 : Int32) dX12_correct_8 (by decide) ?_
    exact j_ireti2 C Q dX12_correct_9
set_option maxRecDepth 100000 in
set_option maxHeartbeats 4000000 in
theorem c_X12_correct {E : EnvT} {cs : Nat → ClassId} (F : MF E cs) {σ : Mem} {p1 : Int32} {p2 : Int32} {p3 : Int32} {p4 : Int32} {r : Int32 × Mem} (h : X12_correct σ p1 p2 p3 p4 = some r) : CT E yX12_correct cX12_correct 7 (some .int) rm_X12_correct [.ref (eAd E 0), .int p1, .int p2, .int p3, .int p4] σ (RQi r.1 r.2) :=
  ct_M F (by decide) (Nat.le_of_ble_eq_true rfl) (fun E' ea F' C Q => by rw [← ea]; exact m_X12_correct F'  C Q h)
theorem dd_X12_correct : yX12_correct.cls ≠ "java/lang/invoke/MethodHandle" ∧ yX12_correct.cls ≠ "java/lang/invoke/VarHandle" ∧ (parseMethodDescriptor yX12_correct.desc).map (fun d => d.parameters.length) = some 4 := by decide +kernel
def X12_other (σ : Mem) (p1 : Int32) : Option (Int32) :=
  if p1 < (0 : Int32) then
  (some (-1 : Int32))
  else
  (if (σ.1 0 44) ≤ p1 then
  (some (-1 : Int32))
  else
  (chk (inb p1 160) (
  some (σ.1 27 (ix p1)))))
abbrev rm_X12_other : Room := { frames := 0, cells := 0, slots := 0, locals := 0 }
set_option maxRecDepth 100000 in
set_option maxHeartbeats 4000000 in
theorem m_X12_other {E : EnvT} {cs : Nat → ClassId} (F : MF E cs) {p1 : Int32} {σ : Mem} (C : CX E cX12_other RX12 2 rm_X12_other) {r0 : Int32} (Q : QE E 0 0 (some .int) (RQi r0 σ)) : J E 2 0 0 r0 (X12_other σ p1) σ 0 [(0, .ref (eAd E 0)), (1, .int p1)] [] := by

  unfold X12_other
  refine j_iload_n C dX12_other_0 1 rfl ?_
  refine j_if_lt C 21 dX12_other_1 (by decide) ?_ ?_
  · refine j_iconst C (-1 : Int32) dX12_other_21 (by decide) ?_
    exact j_ireti C Q dX12_other_22
  · refine j_iload_n C dX12_other_4 1 rfl ?_
    refine j_aload_n C dX12_other_5 0 rfl ?_
    refine j_get (ci := 12) C hU_X12 rfl (min_ F (by decide)) (me_0 F _ _) 44 (by decide) rfl hF_X12_260 dX12_other_6 ?_
    refine j_icmp_ge C 21 dX12_other_9 (by decide) ?_ ?_
    · refine j_iconst C (-1 : Int32) dX12_other_21 (by decide) ?_
      exact j_ireti C Q dX12_other_22
    · refine j_aload_n C dX12_other_12 0 rfl ?_
      refine j_get (ci := 12) C hU_X12 rfl (min_ F (by decide)) (me_0 F _ _) 45 (by decide) rfl hF_X12_97 dX12_other_13 ?_
      refine j_iload_n C dX12_other_16 1 rfl ?_
      refine j_chk (fun h1 => ?_)
      refine j_iald (t0 := 0) C (min_ F (by decide)) (me_27 F _ _) (mt0 F) (inb_in h1) dX12_other_17 ?_
      refine j_goto C 22 dX12_other_18 (by decide) ?_
      exact j_ireti C Q dX12_other_22
set_option maxRecDepth 100000 in
set_option maxHeartbeats 4000000 in
theorem c_X12_other {E : EnvT} {cs : Nat → ClassId} (F : MF E cs) {σ : Mem} {p1 : Int32} {r : Int32} (h : X12_other σ p1 = some r) : CT E yX12_other cX12_other 2 (some .int) rm_X12_other [.ref (eAd E 0), .int p1] σ (RQi r σ) :=
  ct_M F (by decide) (Nat.le_of_ble_eq_true rfl) (fun E' ea F' C Q => by rw [← ea]; exact m_X12_other F'  C Q h)
theorem dd_X12_other : yX12_other.cls ≠ "java/lang/invoke/MethodHandle" ∧ yX12_other.cls ≠ "java/lang/invoke/VarHandle" ∧ (parseMethodDescriptor yX12_other.desc).map (fun d => d.parameters.length) = some 1 := by decide +kernel
def X12_makeLaw_b184 (rec29 : (Mem × Int32 × Int64 × Int64 × Int64 × Int64 × Int32) → Option (Mem)) (σ : Mem) (v1 : Int32) (v2 : Int64) (v4 : Int64) (v6 : Int64) (v8 : Int64) (v10 : Int32) : Option (Mem) :=
  chk (inb v1 8) (
  lete (v10 + (σ.1 13 (ix v1))) (fun x2 =>
  rec29 (σ, v1, v2, v4, v6, v8, x2)))
def X12_makeLaw_b181 (rec29 : (Mem × Int32 × Int64 × Int64 × Int64 × Int64 × Int32) → Option (Mem)) (σ : Mem) (v1 : Int32) (v2 : Int64) (v4 : Int64) (v6 : Int64) (v8 : Int64) (v10 : Int32) (s0 : Int64) : Option (Mem) :=
  lete (wJ σ 0 51 s0) (fun σ1 =>
  X12_makeLaw_b184 rec29 σ1 v1 v2 v4 v6 v8 v10)
def X12_makeLaw_b159 (rec29 : (Mem × Int32 × Int64 × Int64 × Int64 × Int64 × Int32) → Option (Mem)) (σ : Mem) (v1 : Int32) (v2 : Int64) (v4 : Int64) (v6 : Int64) (v8 : Int64) (v10 : Int32) (s0 : Int64) : Option (Mem) :=
  if (lg_cmp s0 (σ.2 0 51)) ≤ (0 : Int32) then
  (X12_makeLaw_b181 rec29 σ v1 v2 v4 v6 v8 v10 (σ.2 0 51))
  else
  (X12_makeLaw_b181 rec29 σ v1 v2 v4 v6 v8 v10 s0)
def X12_makeLaw_l29 (rec29 : (Mem × Int32 × Int64 × Int64 × Int64 × Int64 × Int32) → Option (Mem)) (σ : Mem) (v1 : Int32) (v2 : Int64) (v4 : Int64) (v6 : Int64) (v8 : Int64) (v10 : Int32) : Option (Mem) :=
  if (σ.1 0 5) < v10 then
  (lete (wJ σ 0 48 (((σ.2 0 47) * v6) - (v2 * v4))) (fun σ1 =>
  lete (wJ σ1 0 49 (((σ1.2 0 47) * v8) - (v2 * v2))) (fun σ2 =>
  some σ2)))
  else
  (bindo (X12_isLost σ v1 v10) (fun r4 =>
  if r4 = (0 : Int32) then
  (chk (inb v1 8) (
  chk (inb (((7 : Int32) * (v10 - (σ.1 14 (ix v1)))) + (5 : Int32)) 21007) (
  lete (((σ.1 2 (ix (((7 : Int32) * (v10 - (σ.1 14 (ix v1)))) + (5 : Int32))))).toInt64) (fun x7 =>
  bindo (X12_corrected σ v1 v10) (fun r9 =>
  lete (wJ σ 0 47 ((σ.2 0 47) + (1 : Int64))) (fun σ10 =>
  lete (v2 + x7) (fun x11 =>
  lete (v4 + r9) (fun x12 =>
  lete (v6 + (x7 * r9)) (fun x13 =>
  lete (v8 + (x7 * x7)) (fun x14 =>
  lete (wJ σ10 0 50 ((σ10.2 0 50) + (r9 - x7))) (fun σ15 =>
  if (0 : Int32) ≤ (lg_cmp r9 x7) then
  (X12_makeLaw_b159 rec29 σ15 v1 x11 x12 x13 x14 v10 (r9 - x7))
  else
  (X12_makeLaw_b159 rec29 σ15 v1 x11 x12 x13 x14 v10 (x7 - r9)))))))))))))
  else
  (X12_makeLaw_b184 rec29 σ v1 v2 v4 v6 v8 v10)))
def X12_makeLaw (σ : Mem) (p1 : Int32) : Option (Mem) :=
  lete (wJ σ 0 47 (0 : Int64)) (fun σ1 =>
  lete (wJ σ1 0 50 (0 : Int64)) (fun σ2 =>
  lete (wJ σ2 0 51 (0 : Int64)) (fun σ3 =>
  loopF (fun (rec : (Mem × Int32 × Int64 × Int64 × Int64 × Int64 × Int32) → Option (Mem)) (s : Mem × Int32 × Int64 × Int64 × Int64 × Int64 × Int32) => X12_makeLaw_l29 rec s.1 s.2.1 s.2.2.1 s.2.2.2.1 s.2.2.2.2.1 s.2.2.2.2.2.1 s.2.2.2.2.2.2)  FU (σ3, p1, (0 : Int64), (0 : Int64), (0 : Int64), (0 : Int64), (0 : Int32)))))
abbrev rm_X12_makeLaw : Room := { frames := 2, cells := 0, slots := 0, locals := 47 }
set_option maxRecDepth 100000 in
set_option maxHeartbeats 4000000 in
theorem m_X12_makeLaw {E : EnvT} {cs : Nat → ClassId} (F : MF E cs) {p1 : Int32} {σ : Mem} (C : CX E cX12_makeLaw RX12 17 rm_X12_makeLaw) {r0 : Mem} (Q : QE E 0 0 none (RQv r0)) : J E 17 0 0 r0 (X12_makeLaw σ p1) σ 0 [(0, .ref (eAd E 0)), (1, .int p1)] [] := by
  have hB184 : ∀ (rec29 : (Mem × Int32 × Int64 × Int64 × Int64 × Int64 × Int32) → Option (Mem)) (hrec29 : ∀ a : Mem × Int32 × Int64 × Int64 × Int64 × Int64 × Int32, J E 17 0 0 r0 (rec29 a) a.1 29 [(0, .ref (eAd E 0)), (1, .int a.2.1), (2, .long a.2.2.1), (4, .long a.2.2.2.1), (6, .long a.2.2.2.2.1), (8, .long a.2.2.2.2.2.1), (10, .int a.2.2.2.2.2.2)] []) (σ : Mem) (v1 : Int32) (v2 : Int64) (v4 : Int64) (v6 : Int64) (v8 : Int64) (v10 : Int32), J E 17 0 0 r0 (X12_makeLaw_b184 rec29 σ v1 v2 v4 v6 v8 v10) σ 184 [(0, .ref (eAd E 0)), (1, .int v1), (2, .long v2), (4, .long v4), (6, .long v6), (8, .long v8), (10, .int v10)] [] := by
    intro rec29 hrec29 σ v1 v2 v4 v6 v8 v10
    unfold X12_makeLaw_b184
    refine j_iload C dX12_makeLaw_184 6 rfl ?_
    refine j_aload_n C dX12_makeLaw_186 0 rfl ?_
    refine j_get (ci := 12) C hU_X12 rfl (min_ F (by decide)) (me_0 F _ _) 28 (by decide) rfl hF_X12_53 dX12_makeLaw_187 ?_
    refine j_iload_n C dX12_makeLaw_190 1 rfl ?_
    refine j_chk (fun h1 => ?_)
    refine j_iald (t0 := 0) C (min_ F (by decide)) (me_13 F _ _) (mt0 F) (inb_in h1) dX12_makeLaw_191 ?_
    refine j_iadd C dX12_makeLaw_192 ?_
    refine j_nmi (fun x2 => ?_)
    refine j_istore (lv' := [(10, .int x2), (0, .ref (eAd E 0)), (1, .int v1), (2, .long v2), (4, .long v4), (6, .long v6), (8, .long v8)]) C dX12_makeLaw_193 (by decide) rfl ?_
    refine j_goto C 29 dX12_makeLaw_195 (by decide) ?_
    refine j_lv [(0, .ref (eAd E 0)), (1, .int v1), (2, .long v2), (4, .long v4), (6, .long v6), (8, .long v8), (10, .int x2)] [1, 2, 3, 4, 5, 6, 0] rfl ?_
    exact hrec29 (σ, v1, v2, v4, v6, v8, x2)
  have hB181 : ∀ (rec29 : (Mem × Int32 × Int64 × Int64 × Int64 × Int64 × Int32) → Option (Mem)) (hrec29 : ∀ a : Mem × Int32 × Int64 × Int64 × Int64 × Int64 × Int32, J E 17 0 0 r0 (rec29 a) a.1 29 [(0, .ref (eAd E 0)), (1, .int a.2.1), (2, .long a.2.2.1), (4, .long a.2.2.2.1), (6, .long a.2.2.2.2.1), (8, .long a.2.2.2.2.2.1), (10, .int a.2.2.2.2.2.2)] []) (σ : Mem) (v1 : Int32) (v2 : Int64) (v4 : Int64) (v6 : Int64) (v8 : Int64) (v10 : Int32) (s0 : Int64), J E 17 0 0 r0 (X12_makeLaw_b181 rec29 σ v1 v2 v4 v6 v8 v10 s0) σ 181 [(0, .ref (eAd E 0)), (1, .int v1), (2, .long v2), (4, .long v4), (6, .long v6), (8, .long v8), (10, .int v10)] [.long s0, .ref (eAd E 0)] := by
    intro rec29 hrec29 σ v1 v2 v4 v6 v8 v10 s0
    unfold X12_makeLaw_b181
    refine j_put (ci := 12) C hU_X12 tyX12_ok nmX12 rfl (min_ F (by decide)) (me_0 F _ _) 51 (by decide) (Nat.le_of_ble_eq_true rfl) (by rw [wJ_o, wJ_1]; exact (me_0 F _ _)) (fun o' h' => ⟨rfl, wJ_ne _ _ _ h'⟩) rfl (by first | rfl | decide) (by first | rfl | decide) hF_X12_270 dX12_makeLaw_181 (fun σ1 => ?_)
    refine j_lv [(0, .ref (eAd E 0)), (1, .int v1), (2, .long v2), (4, .long v4), (6, .long v6), (8, .long v8), (10, .int v10)] [0, 1, 2, 3, 4, 5, 6] rfl ?_
    exact hB184 rec29 hrec29 σ1 v1 v2 v4 v6 v8 v10
  have hB159 : ∀ (rec29 : (Mem × Int32 × Int64 × Int64 × Int64 × Int64 × Int32) → Option (Mem)) (hrec29 : ∀ a : Mem × Int32 × Int64 × Int64 × Int64 × Int64 × Int32, J E 17 0 0 r0 (rec29 a) a.1 29 [(0, .ref (eAd E 0)), (1, .int a.2.1), (2, .long a.2.2.1), (4, .long a.2.2.2.1), (6, .long a.2.2.2.2.1), (8, .long a.2.2.2.2.2.1), (10, .int a.2.2.2.2.2.2)] []) (σ : Mem) (v1 : Int32) (v2 : Int64) (v4 : Int64) (v6 : Int64) (v8 : Int64) (v10 : Int32) (s0 : Int64), J E 17 0 0 r0 (X12_makeLaw_b159 rec29 σ v1 v2 v4 v6 v8 v10 s0) σ 159 [(0, .ref (eAd E 0)), (1, .int v1), (2, .long v2), (4, .long v4), (6, .long v6), (8, .long v8), (10, .int v10)] [.long s0] := by
    intro rec29 hrec29 σ v1 v2 v4 v6 v8 v10 s0
    unfold X12_makeLaw_b159
    refine j_lstore (lv' := [(15, .long s0), (0, .ref (eAd E 0)), (1, .int v1), (2, .long v2), (4, .long v4), (6, .long v6), (8, .long v8), (10, .int v10)]) C dX12_makeLaw_159 (by decide) rfl ?_
    refine j_aload_n C dX12_makeLaw_161 1 rfl ?_
    refine j_lload C dX12_makeLaw_162 0 rfl ?_
    refine j_aload_n C dX12_makeLaw_164 1 rfl ?_
    refine j_get (ci := 12) C hU_X12 rfl (min_ F (by decide)) (me_0 F _ _) 51 (by decide) rfl hF_X12_270 dX12_makeLaw_165 ?_
    refine j_lcmp C dX12_makeLaw_168 ?_
    refine j_if_le C 177 dX12_makeLaw_169 (by decide) ?_ ?_
    · refine j_aload_n C dX12_makeLaw_177 1 rfl ?_
      refine j_get (ci := 12) C hU_X12 rfl (min_ F (by decide)) (me_0 F _ _) 51 (by decide) rfl hF_X12_270 dX12_makeLaw_178 ?_
      refine j_lv [(0, .ref (eAd E 0)), (1, .int v1), (2, .long v2), (4, .long v4), (6, .long v6), (8, .long v8), (10, .int v10)] [1, 2, 3, 4, 5, 6, 7] rfl ?_
      exact hB181 rec29 hrec29 σ v1 v2 v4 v6 v8 v10 (σ.2 0 51)
    · refine j_lload C dX12_makeLaw_172 0 rfl ?_
      refine j_goto C 181 dX12_makeLaw_174 (by decide) ?_
      refine j_lv [(0, .ref (eAd E 0)), (1, .int v1), (2, .long v2), (4, .long v4), (6, .long v6), (8, .long v8), (10, .int v10)] [1, 2, 3, 4, 5, 6, 7] rfl ?_
      exact hB181 rec29 hrec29 σ v1 v2 v4 v6 v8 v10 s0
  have hL29 : ∀ (f : Nat) (a : Mem × Int32 × Int64 × Int64 × Int64 × Int64 × Int32), J E 17 0 0 r0 (loopF (fun (rec : (Mem × Int32 × Int64 × Int64 × Int64 × Int64 × Int32) → Option (Mem)) (s : Mem × Int32 × Int64 × Int64 × Int64 × Int64 × Int32) => X12_makeLaw_l29 rec s.1 s.2.1 s.2.2.1 s.2.2.2.1 s.2.2.2.2.1 s.2.2.2.2.2.1 s.2.2.2.2.2.2) f a) a.1 29 [(0, .ref (eAd E 0)), (1, .int a.2.1), (2, .long a.2.2.1), (4, .long a.2.2.2.1), (6, .long a.2.2.2.2.1), (8, .long a.2.2.2.2.2.1), (10, .int a.2.2.2.2.2.2)] [] := by
    refine j_loop (M := fun (a : Mem × Int32 × Int64 × Int64 × Int64 × Int64 × Int32) => a.1) (L := fun (a : Mem × Int32 × Int64 × Int64 × Int64 × Int64 × Int32) => [(0, .ref (eAd E 0)), (1, .int a.2.1), (2, .long a.2.2.1), (4, .long a.2.2.2.1), (6, .long a.2.2.2.2.1), (8, .long a.2.2.2.2.2.1), (10, .int a.2.2.2.2.2.2)]) (S := fun (a : Mem × Int32 × Int64 × Int64 × Int64 × Int64 × Int32) => []) (fun rec29 hrec29 a => ?_)
    obtain ⟨σ, v1, v2, v4, v6, v8, v10⟩ := a
    show J E 17 0 0 r0 (X12_makeLaw_l29 rec29 σ v1 v2 v4 v6 v8 v10) σ 29 [(0, .ref (eAd E 0)), (1, .int v1), (2, .long v2), (4, .long v4), (6, .long v6), (8, .long v8), (10, .int v10)] []
    unfold X12_makeLaw_l29
    refine j_iload C dX12_makeLaw_29 6 rfl ?_
    refine j_aload_n C dX12_makeLaw_31 0 rfl ?_
    refine j_get (ci := 12) C hU_X12 rfl (min_ F (by decide)) (me_0 F _ _) 5 (by decide) rfl hF_X12_190 dX12_makeLaw_32 ?_
    refine j_icmp_gt C 198 dX12_makeLaw_35 (by decide) ?_ ?_
    · refine j_aload_n C dX12_makeLaw_198 0 rfl ?_
      refine j_aload_n C dX12_makeLaw_199 0 rfl ?_
      refine j_get (ci := 12) C hU_X12 rfl (min_ F (by decide)) (me_0 F _ _) 47 (by decide) rfl hF_X12_263 dX12_makeLaw_200 ?_
      refine j_lload C dX12_makeLaw_203 4 rfl ?_
      refine j_lmul C dX12_makeLaw_205 ?_
      refine j_lload_n C dX12_makeLaw_206 2 rfl ?_
      refine j_lload C dX12_makeLaw_207 3 rfl ?_
      refine j_lmul C dX12_makeLaw_209 ?_
      refine j_lsub C dX12_makeLaw_210 ?_
      refine j_put (ci := 12) C hU_X12 tyX12_ok nmX12 rfl (min_ F (by decide)) (me_0 F _ _) 48 (by decide) (Nat.le_of_ble_eq_true rfl) (by rw [wJ_o, wJ_1]; exact (me_0 F _ _)) (fun o' h' => ⟨rfl, wJ_ne _ _ _ h'⟩) rfl (by first | rfl | decide) (by first | rfl | decide) hF_X12_273 dX12_makeLaw_211 (fun σ1 => ?_)
      refine j_aload_n C dX12_makeLaw_214 0 rfl ?_
      refine j_aload_n C dX12_makeLaw_215 0 rfl ?_
      refine j_get (ci := 12) C hU_X12 rfl (min_ F (by decide)) (me_0 F _ _) 47 (by decide) rfl hF_X12_263 dX12_makeLaw_216 ?_
      refine j_lload C dX12_makeLaw_219 5 rfl ?_
      refine j_lmul C dX12_makeLaw_221 ?_
      refine j_lload_n C dX12_makeLaw_222 2 rfl ?_
      refine j_lload_n C dX12_makeLaw_223 2 rfl ?_
      refine j_lmul C dX12_makeLaw_224 ?_
      refine j_lsub C dX12_makeLaw_225 ?_
      refine j_put (ci := 12) C hU_X12 tyX12_ok nmX12 rfl (min_ F (by decide)) (me_0 F _ _) 49 (by decide) (Nat.le_of_ble_eq_true rfl) (by rw [wJ_o, wJ_1]; exact (me_0 F _ _)) (fun o' h' => ⟨rfl, wJ_ne _ _ _ h'⟩) rfl (by first | rfl | decide) (by first | rfl | decide) hF_X12_276 dX12_makeLaw_226 (fun σ2 => ?_)
      exact j_vret2 C Q dX12_makeLaw_229
    · refine j_aload_n C dX12_makeLaw_38 0 rfl ?_
      refine j_iload_n C dX12_makeLaw_39 1 rfl ?_
      refine j_iload C dX12_makeLaw_40 6 rfl ?_
      refine j_bind (fun r4 h3 => ?_)
      refine j_callVi (ci := 12) C [.int v1, .int v10] (c_X12_isLost F h3) hM_X12_208 hI_X12_isLost hS_X12_isLost hZ_X12 hC_X12_isLost (min_ F (by decide)) (me_0 F _ _) rfl rfl dd_X12_isLost (by decide) ⟨rfl, rfl⟩ (by decide) (Nat.le_of_ble_eq_true rfl) dX12_makeLaw_42 rfl ?_
      refine j_if_eq C 51 dX12_makeLaw_45 (by decide) ?_ ?_
      · refine j_aload_n C dX12_makeLaw_51 0 rfl ?_
        refine j_get (ci := 12) C hU_X12 rfl (min_ F (by decide)) (me_0 F _ _) 12 (by decide) rfl hF_X12_20 dX12_makeLaw_52 ?_
        refine j_bipush C (7 : Int32) dX12_makeLaw_55 (by decide) ?_
        refine j_iload C dX12_makeLaw_57 6 rfl ?_
        refine j_aload_n C dX12_makeLaw_59 0 rfl ?_
        refine j_get (ci := 12) C hU_X12 rfl (min_ F (by decide)) (me_0 F _ _) 29 (by decide) rfl hF_X12_56 dX12_makeLaw_60 ?_
        refine j_iload_n C dX12_makeLaw_63 1 rfl ?_
        refine j_chk (fun h5 => ?_)
        refine j_iald (t0 := 0) C (min_ F (by decide)) (me_14 F _ _) (mt0 F) (inb_in h5) dX12_makeLaw_64 ?_
        refine j_isub C dX12_makeLaw_65 ?_
        refine j_imul C dX12_makeLaw_66 ?_
        refine j_iconst C (5 : Int32) dX12_makeLaw_67 (by decide) ?_
        refine j_iadd C dX12_makeLaw_68 ?_
        refine j_chk (fun h6 => ?_)
        refine j_iald (t0 := 0) C (min_ F (by decide)) (me_2 F _ _) (mt0 F) (inb_in h6) dX12_makeLaw_69 ?_
        refine j_i2l C dX12_makeLaw_70 ?_
        refine j_nml (fun x7 => ?_)
        refine j_lstore (lv' := [(11, .long x7), (0, .ref (eAd E 0)), (1, .int v1), (2, .long v2), (4, .long v4), (6, .long v6), (8, .long v8), (10, .int v10)]) C dX12_makeLaw_71 (by decide) rfl ?_
        refine j_aload_n C dX12_makeLaw_73 1 rfl ?_
        refine j_iload_n C dX12_makeLaw_74 2 rfl ?_
        refine j_iload C dX12_makeLaw_75 7 rfl ?_
        refine j_bind (fun r9 h8 => ?_)
        refine j_callVl (ci := 12) C [.int v1, .int v10] (c_X12_corrected F h8) hM_X12_212 hI_X12_corrected hS_X12_corrected hZ_X12 hC_X12_corrected (min_ F (by decide)) (me_0 F _ _) rfl rfl dd_X12_corrected (by decide) ⟨rfl, rfl⟩ (by decide) (Nat.le_of_ble_eq_true rfl) dX12_makeLaw_77 rfl ?_
        refine j_lstore (lv' := [(13, .long r9), (11, .long x7), (0, .ref (eAd E 0)), (1, .int v1), (2, .long v2), (4, .long v4), (6, .long v6), (8, .long v8), (10, .int v10)]) C dX12_makeLaw_80 (by decide) rfl ?_
        refine j_aload_n C dX12_makeLaw_82 2 rfl ?_
        refine j_dup C dX12_makeLaw_83 rfl ?_
        refine j_get (ci := 12) C hU_X12 rfl (min_ F (by decide)) (me_0 F _ _) 47 (by decide) rfl hF_X12_263 dX12_makeLaw_84 ?_
        refine j_lconst C (1 : Int64) dX12_makeLaw_87 (by decide) ?_
        refine j_ladd C dX12_makeLaw_88 ?_
        refine j_put (ci := 12) C hU_X12 tyX12_ok nmX12 rfl (min_ F (by decide)) (me_0 F _ _) 47 (by decide) (Nat.le_of_ble_eq_true rfl) (by rw [wJ_o, wJ_1]; exact (me_0 F _ _)) (fun o' h' => ⟨rfl, wJ_ne _ _ _ h'⟩) rfl (by first | rfl | decide) (by first | rfl | decide) hF_X12_263 dX12_makeLaw_89 (fun σ10 => ?_)
        refine j_lload_n C dX12_makeLaw_92 4 rfl ?_
        refine j_lload C dX12_makeLaw_93 1 rfl ?_
        refine j_ladd C dX12_makeLaw_95 ?_
        refine j_nml (fun x11 => ?_)
        refine j_lstore_n (lv' := [(2, .long x11), (13, .long r9), (11, .long x7), (0, .ref (eAd E 0)), (1, .int v1), (4, .long v4), (6, .long v6), (8, .long v8), (10, .int v10)]) C dX12_makeLaw_96 (by decide) rfl ?_
        refine j_lload C dX12_makeLaw_97 5 rfl ?_
        refine j_lload C dX12_makeLaw_99 1 rfl ?_
        refine j_ladd C dX12_makeLaw_101 ?_
        refine j_nml (fun x12 => ?_)
        refine j_lstore (lv' := [(4, .long x12), (2, .long x11), (13, .long r9), (11, .long x7), (0, .ref (eAd E 0)), (1, .int v1), (6, .long v6), (8, .long v8), (10, .int v10)]) C dX12_makeLaw_102 (by decide) rfl ?_
        refine j_lload C dX12_makeLaw_104 6 rfl ?_
        refine j_lload C dX12_makeLaw_106 3 rfl ?_
        refine j_lload C dX12_makeLaw_108 2 rfl ?_
        refine j_lmul C dX12_makeLaw_110 ?_
        refine j_ladd C dX12_makeLaw_111 ?_
        refine j_nml (fun x13 => ?_)
        refine j_lstore (lv' := [(6, .long x13), (4, .long x12), (2, .long x11), (13, .long r9), (11, .long x7), (0, .ref (eAd E 0)), (1, .int v1), (8, .long v8), (10, .int v10)]) C dX12_makeLaw_112 (by decide) rfl ?_
        refine j_lload C dX12_makeLaw_114 7 rfl ?_
        refine j_lload C dX12_makeLaw_116 4 rfl ?_
        refine j_lload C dX12_makeLaw_118 4 rfl ?_
        refine j_lmul C dX12_makeLaw_120 ?_
        refine j_ladd C dX12_makeLaw_121 ?_
        refine j_nml (fun x14 => ?_)
        refine j_lstore (lv' := [(8, .long x14), (6, .long x13), (4, .long x12), (2, .long x11), (13, .long r9), (11, .long x7), (0, .ref (eAd E 0)), (1, .int v1), (10, .int v10)]) C dX12_makeLaw_122 (by decide) rfl ?_
        refine j_aload_n C dX12_makeLaw_124 6 rfl ?_
        refine j_dup C dX12_makeLaw_125 rfl ?_
        refine j_get (ci := 12) C hU_X12 rfl (min_ F (by decide)) (me_0 F _ _) 50 (by decide) rfl hF_X12_267 dX12_makeLaw_126 ?_
        refine j_lload C dX12_makeLaw_129 4 rfl ?_
        refine j_lload C dX12_makeLaw_131 5 rfl ?_
        refine j_lsub C dX12_makeLaw_133 ?_
        refine j_ladd C dX12_makeLaw_134 ?_
        refine j_put (ci := 12) C hU_X12 tyX12_ok nmX12 rfl (min_ F (by decide)) (me_0 F _ _) 50 (by decide) (Nat.le_of_ble_eq_true rfl) (by rw [wJ_o, wJ_1]; exact (me_0 F _ _)) (fun o' h' => ⟨rfl, wJ_ne _ _ _ h'⟩) rfl (by first | rfl | decide) (by first | rfl | decide) hF_X12_267 dX12_makeLaw_135 (fun σ15 => ?_)
        refine j_lload C dX12_makeLaw_138 4 rfl ?_
        refine j_lload C dX12_makeLaw_140 5 rfl ?_
        refine j_lcmp C dX12_makeLaw_142 ?_
        refine j_if_ge C 154 dX12_makeLaw_143 (by decide) ?_ ?_
        · refine j_lload C dX12_makeLaw_154 4 rfl ?_
          refine j_lload C dX12_makeLaw_156 5 rfl ?_
          refine j_lsub C dX12_makeLaw_158 ?_
          refine j_lv [(0, .ref (eAd E 0)), (1, .int v1), (2, .long x11), (4, .long x12), (6, .long x13), (8, .long x14), (10, .int v10)] [6, 7, 3, 2, 1, 0, 8] rfl ?_
          exact hB159 rec29 hrec29 σ15 v1 x11 x12 x13 x14 v10 (r9 - x7)
        · refine j_lload C dX12_makeLaw_146 5 rfl ?_
          refine j_lload C dX12_makeLaw_148 4 rfl ?_
          refine j_lsub C dX12_makeLaw_150 ?_
          refine j_goto C 159 dX12_makeLaw_151 (by decide) ?_
          refine j_lv [(0, .ref (eAd E 0)), (1, .int v1), (2, .long x11), (4, .long x12), (6, .long x13), (8, .long x14), (10, .int v10)] [6, 7, 3, 2, 1, 0, 8] rfl ?_
          exact hB159 rec29 hrec29 σ15 v1 x11 x12 x13 x14 v10 (x7 - r9)
      · refine j_goto C 184 dX12_makeLaw_48 (by decide) ?_
        refine j_lv [(0, .ref (eAd E 0)), (1, .int v1), (2, .long v2), (4, .long v4), (6, .long v6), (8, .long v8), (10, .int v10)] [0, 1, 2, 3, 4, 5, 6] rfl ?_
        exact hB184 rec29 hrec29 σ v1 v2 v4 v6 v8 v10
  unfold X12_makeLaw
  refine j_aload_n C dX12_makeLaw_0 0 rfl ?_
  refine j_lconst C (0 : Int64) dX12_makeLaw_1 (by decide) ?_
  refine j_put (ci := 12) C hU_X12 tyX12_ok nmX12 rfl (min_ F (by decide)) (me_0 F _ _) 47 (by decide) (Nat.le_of_ble_eq_true rfl) (by rw [wJ_o, wJ_1]; exact (me_0 F _ _)) (fun o' h' => ⟨rfl, wJ_ne _ _ _ h'⟩) rfl (by first | rfl | decide) (by first | rfl | decide) hF_X12_263 dX12_makeLaw_2 (fun σ1 => ?_)
  refine j_aload_n C dX12_makeLaw_5 0 rfl ?_
  refine j_lconst C (0 : Int64) dX12_makeLaw_6 (by decide) ?_
  refine j_put (ci := 12) C hU_X12 tyX12_ok nmX12 rfl (min_ F (by decide)) (me_0 F _ _) 50 (by decide) (Nat.le_of_ble_eq_true rfl) (by rw [wJ_o, wJ_1]; exact (me_0 F _ _)) (fun o' h' => ⟨rfl, wJ_ne _ _ _ h'⟩) rfl (by first | rfl | decide) (by first | rfl | decide) hF_X12_267 dX12_makeLaw_7 (fun σ2 => ?_)
  refine j_aload_n C dX12_makeLaw_10 0 rfl ?_
  refine j_lconst C (0 : Int64) dX12_makeLaw_11 (by decide) ?_
  refine j_put (ci := 12) C hU_X12 tyX12_ok nmX12 rfl (min_ F (by decide)) (me_0 F _ _) 51 (by decide) (Nat.le_of_ble_eq_true rfl) (by rw [wJ_o, wJ_1]; exact (me_0 F _ _)) (fun o' h' => ⟨rfl, wJ_ne _ _ _ h'⟩) rfl (by first | rfl | decide) (by first | rfl | decide) hF_X12_270 dX12_makeLaw_12 (fun σ3 => ?_)
  refine j_lconst C (0 : Int64) dX12_makeLaw_15 (by decide) ?_
  refine j_lstore_n (lv' := [(2, .long (0 : Int64)), (0, .ref (eAd E 0)), (1, .int p1)]) C dX12_makeLaw_16 (by decide) rfl ?_
  refine j_lconst C (0 : Int64) dX12_makeLaw_17 (by decide) ?_
  refine j_lstore (lv' := [(4, .long (0 : Int64)), (2, .long (0 : Int64)), (0, .ref (eAd E 0)), (1, .int p1)]) C dX12_makeLaw_18 (by decide) rfl ?_
  refine j_lconst C (0 : Int64) dX12_makeLaw_20 (by decide) ?_
  refine j_lstore (lv' := [(6, .long (0 : Int64)), (4, .long (0 : Int64)), (2, .long (0 : Int64)), (0, .ref (eAd E 0)), (1, .int p1)]) C dX12_makeLaw_21 (by decide) rfl ?_
  refine j_lconst C (0 : Int64) dX12_makeLaw_23 (by decide) ?_
  refine j_lstore (lv' := [(8, .long (0 : Int64)), (6, .long (0 : Int64)), (4, .long (0 : Int64)), (2, .long (0 : Int64)), (0, .ref (eAd E 0)), (1, .int p1)]) C dX12_makeLaw_24 (by decide) rfl ?_
  refine j_iconst C (0 : Int32) dX12_makeLaw_26 (by decide) ?_
  refine j_istore (lv' := [(10, .int (0 : Int32)), (8, .long (0 : Int64)), (6, .long (0 : Int64)), (4, .long (0 : Int64)), (2, .long (0 : Int64)), (0, .ref (eAd E 0)), (1, .int p1)]) C dX12_makeLaw_27 (by decide) rfl ?_
  refine j_lv [(0, .ref (eAd E 0)), (1, .int p1), (2, .long (0 : Int64)), (4, .long (0 : Int64)), (6, .long (0 : Int64)), (8, .long (0 : Int64)), (10, .int (0 : Int32))] [5, 6, 4, 3, 2, 1, 0] rfl ?_
  exact hL29  FU (σ3, p1, (0 : Int64), (0 : Int64), (0 : Int64), (0 : Int64), (0 : Int32))
set_option maxRecDepth 100000 in
set_option maxHeartbeats 4000000 in
theorem c_X12_makeLaw {E : EnvT} {cs : Nat → ClassId} (F : MF E cs) {σ : Mem} {p1 : Int32} {r : Mem} (h : X12_makeLaw σ p1 = some r) : CT E yX12_makeLaw cX12_makeLaw 17 none rm_X12_makeLaw [.ref (eAd E 0), .int p1] σ (RQv r) :=
  ct_M F (by decide) (Nat.le_of_ble_eq_true rfl) (fun E' ea F' C Q => by rw [← ea]; exact m_X12_makeLaw F'  C Q h)
theorem dd_X12_makeLaw : yX12_makeLaw.cls ≠ "java/lang/invoke/MethodHandle" ∧ yX12_makeLaw.cls ≠ "java/lang/invoke/VarHandle" ∧ (parseMethodDescriptor yX12_makeLaw.desc).map (fun d => d.parameters.length) = some 1 := by decide +kernel
def X12_valid (σ : Mem) (p1 : Int32) : Option (Int32 × Mem) :=
  bindo (X12_isChannel σ p1) (fun r2 =>
  if ¬ r2 = (0 : Int32) then
  (bindo (X12_makeLaw σ p1) (fun σ4 =>
  if (lg_cmp (σ4.2 0 49) (0 : Int64)) ≤ (0 : Int32) then
  (some ((1 : Int32), σ4))
  else
  (if (lg_cmp (σ4.2 0 48) (0 : Int64)) < (0 : Int32) then
  (some ((1 : Int32), σ4))
  else
  (if (0 : Int32) < (lg_cmp (σ4.2 0 48) ((2 : Int64) * (σ4.2 0 49))) then
  (some ((1 : Int32), σ4))
  else
  (if (lg_cmp ((1000 : Int64) * (σ4.2 0 48)) ((950 : Int64) * (σ4.2 0 49))) < (0 : Int32) then
  (some ((1 : Int32), σ4))
  else
  (if (lg_cmp ((1000 : Int64) * (σ4.2 0 48)) ((1050 : Int64) * (σ4.2 0 49))) ≤ (0 : Int32) then
  (if (0 : Int32) < (lg_cmp (σ4.2 0 50) ((50 : Int64) * (σ4.2 0 47))) then
  (some ((2 : Int32), σ4))
  else
  (if (0 : Int32) ≤ (lg_cmp (σ4.2 0 50) ((-50 : Int64) * (σ4.2 0 47))) then
  (if (lg_cmp (σ4.2 0 51) (400 : Int64)) ≤ (0 : Int32) then
  (some ((0 : Int32), σ4))
  else
  (some ((3 : Int32), σ4)))
  else
  (some ((2 : Int32), σ4))))
  else
  (some ((1 : Int32), σ4))))))))
  else
  (some ((-1 : Int32), σ)))
abbrev rm_X12_valid : Room := { frames := 3, cells := 0, slots := 0, locals := 83 }
set_option maxRecDepth 100000 in
set_option maxHeartbeats 4000000 in
theorem m_X12_valid {E : EnvT} {cs : Nat → ClassId} (F : MF E cs) {p1 : Int32} {σ : Mem} (C : CX E cX12_valid RX12 2 rm_X12_valid) {r0 : Int32 × Mem} (Q : QE E 0 0 (some .int) (RQi r0.1 r0.2)) : J E 2 0 0 r0 (X12_valid σ p1) σ 0 [(0, .ref (eAd E 0)), (1, .int p1)] [] := by

  unfold X12_valid
  refine j_aload_n C dX12_valid_0 0 rfl ?_
  refine j_iload_n C dX12_valid_1 1 rfl ?_
  refine j_bind (fun r2 h1 => ?_)
  refine j_callVi (ci := 12) C [.int p1] (c_X12_isChannel F h1) hM_X12_231 hI_X12_isChannel hS_X12_isChannel hZ_X12 hC_X12_isChannel (min_ F (by decide)) (me_0 F _ _) rfl rfl dd_X12_isChannel (by decide) ⟨rfl, rfl⟩ (by decide) (Nat.le_of_ble_eq_true rfl) dX12_valid_2 rfl ?_
  refine j_if_ne C 10 dX12_valid_5 (by decide) ?_ ?_
  · refine j_aload_n C dX12_valid_10 0 rfl ?_
    refine j_iload_n C dX12_valid_11 1 rfl ?_
    refine j_bind (fun σ4 h3 => ?_)
    refine j_callVv (ci := 12) C [.int p1] (c_X12_makeLaw F h3) hM_X12_279 hI_X12_makeLaw hS_X12_makeLaw hZ_X12 hC_X12_makeLaw (min_ F (by decide)) (me_0 F _ _) rfl rfl dd_X12_makeLaw (by decide) ⟨rfl, rfl⟩ (by decide) (Nat.le_of_ble_eq_true rfl) dX12_valid_12 rfl ?_
    refine j_aload_n C dX12_valid_15 0 rfl ?_
    refine j_get (ci := 12) C hU_X12 rfl (min_ F (by decide)) (me_0 F _ _) 49 (by decide) rfl hF_X12_276 dX12_valid_16 ?_
    refine j_lconst C (0 : Int64) dX12_valid_19 (by decide) ?_
    refine j_lcmp C dX12_valid_20 ?_
    refine j_if_le C 89 dX12_valid_21 (by decide) ?_ ?_
    · refine j_iconst C (1 : Int32) dX12_valid_89 (by decide) ?_
      exact j_ireti2 C Q dX12_valid_90
    · refine j_aload_n C dX12_valid_24 0 rfl ?_
      refine j_get (ci := 12) C hU_X12 rfl (min_ F (by decide)) (me_0 F _ _) 48 (by decide) rfl hF_X12_273 dX12_valid_25 ?_
      refine j_lconst C (0 : Int64) dX12_valid_28 (by decide) ?_
      refine j_lcmp C dX12_valid_29 ?_
      refine j_if_lt C 89 dX12_valid_30 (by decide) ?_ ?_
      · refine j_iconst C (1 : Int32) dX12_valid_89 (by decide) ?_
        exact j_ireti2 C Q dX12_valid_90
      · refine j_aload_n C dX12_valid_33 0 rfl ?_
        refine j_get (ci := 12) C hU_X12 rfl (min_ F (by decide)) (me_0 F _ _) 48 (by decide) rfl hF_X12_273 dX12_valid_34 ?_
        refine j_ldc2 C hK_X12_152 dX12_valid_37 ?_
        refine j_aload_n C dX12_valid_40 0 rfl ?_
        refine j_get (ci := 12) C hU_X12 rfl (min_ F (by decide)) (me_0 F _ _) 49 (by decide) rfl hF_X12_276 dX12_valid_41 ?_
        refine j_lmul C dX12_valid_44 ?_
        refine j_lcmp C dX12_valid_45 ?_
        refine j_if_gt C 89 dX12_valid_46 (by decide) ?_ ?_
        · refine j_iconst C (1 : Int32) dX12_valid_89 (by decide) ?_
          exact j_ireti2 C Q dX12_valid_90
        · refine j_ldc2 C hK_X12_116 dX12_valid_49 ?_
          refine j_aload_n C dX12_valid_52 0 rfl ?_
          refine j_get (ci := 12) C hU_X12 rfl (min_ F (by decide)) (me_0 F _ _) 48 (by decide) rfl hF_X12_273 dX12_valid_53 ?_
          refine j_lmul C dX12_valid_56 ?_
          refine j_ldc2 C hK_X12_282 dX12_valid_57 ?_
          refine j_aload_n C dX12_valid_60 0 rfl ?_
          refine j_get (ci := 12) C hU_X12 rfl (min_ F (by decide)) (me_0 F _ _) 49 (by decide) rfl hF_X12_276 dX12_valid_61 ?_
          refine j_lmul C dX12_valid_64 ?_
          refine j_lcmp C dX12_valid_65 ?_
          refine j_if_lt C 89 dX12_valid_66 (by decide) ?_ ?_
          · refine j_iconst C (1 : Int32) dX12_valid_89 (by decide) ?_
            exact j_ireti2 C Q dX12_valid_90
          · refine j_ldc2 C hK_X12_116 dX12_valid_69 ?_
            refine j_aload_n C dX12_valid_72 0 rfl ?_
            refine j_get (ci := 12) C hU_X12 rfl (min_ F (by decide)) (me_0 F _ _) 48 (by decide) rfl hF_X12_273 dX12_valid_73 ?_
            refine j_lmul C dX12_valid_76 ?_
            refine j_ldc2 C hK_X12_284 dX12_valid_77 ?_
            refine j_aload_n C dX12_valid_80 0 rfl ?_
            refine j_get (ci := 12) C hU_X12 rfl (min_ F (by decide)) (me_0 F _ _) 49 (by decide) rfl hF_X12_276 dX12_valid_81 ?_
            refine j_lmul C dX12_valid_84 ?_
            refine j_lcmp C dX12_valid_85 ?_
            refine j_if_le C 91 dX12_valid_86 (by decide) ?_ ?_
            · refine j_aload_n C dX12_valid_91 0 rfl ?_
              refine j_get (ci := 12) C hU_X12 rfl (min_ F (by decide)) (me_0 F _ _) 50 (by decide) rfl hF_X12_267 dX12_valid_92 ?_
              refine j_ldc2 C hK_X12_286 dX12_valid_95 ?_
              refine j_aload_n C dX12_valid_98 0 rfl ?_
              refine j_get (ci := 12) C hU_X12 rfl (min_ F (by decide)) (me_0 F _ _) 47 (by decide) rfl hF_X12_263 dX12_valid_99 ?_
              refine j_lmul C dX12_valid_102 ?_
              refine j_lcmp C dX12_valid_103 ?_
              refine j_if_gt C 123 dX12_valid_104 (by decide) ?_ ?_
              · refine j_iconst C (2 : Int32) dX12_valid_123 (by decide) ?_
                exact j_ireti2 C Q dX12_valid_124
              · refine j_aload_n C dX12_valid_107 0 rfl ?_
                refine j_get (ci := 12) C hU_X12 rfl (min_ F (by decide)) (me_0 F _ _) 50 (by decide) rfl hF_X12_267 dX12_valid_108 ?_
                refine j_ldc2 C hK_X12_288 dX12_valid_111 ?_
                refine j_aload_n C dX12_valid_114 0 rfl ?_
                refine j_get (ci := 12) C hU_X12 rfl (min_ F (by decide)) (me_0 F _ _) 47 (by decide) rfl hF_X12_263 dX12_valid_115 ?_
                refine j_lmul C dX12_valid_118 ?_
                refine j_lcmp C dX12_valid_119 ?_
                refine j_if_ge C 125 dX12_valid_120 (by decide) ?_ ?_
                · refine j_aload_n C dX12_valid_125 0 rfl ?_
                  refine j_get (ci := 12) C hU_X12 rfl (min_ F (by decide)) (me_0 F _ _) 51 (by decide) rfl hF_X12_270 dX12_valid_126 ?_
                  refine j_ldc2 C hK_X12_290 dX12_valid_129 ?_
                  refine j_lcmp C dX12_valid_132 ?_
                  refine j_if_le C 140 dX12_valid_133 (by decide) ?_ ?_
                  · refine j_iconst C (0 : Int32) dX12_valid_140 (by decide) ?_
                    exact j_ireti2 C Q dX12_valid_141
                  · refine j_iconst C (3 : Int32) dX12_valid_136 (by decide) ?_
                    refine j_goto C 141 dX12_valid_137 (by decide) ?_
                    exact j_ireti2 C Q dX12_valid_141
                · refine j_iconst C (2 : Int32) dX12_valid_123 (by decide) ?_
                  exact j_ireti2 C Q dX12_valid_124
            · refine j_iconst C (1 : Int32) dX12_valid_89 (by decide) ?_
              exact j_ireti2 C Q dX12_valid_90
  · refine j_iconst C (-1 : Int32) dX12_valid_8 (by decide) ?_
    exact j_ireti2 C Q dX12_valid_9
set_option maxRecDepth 100000 in
set_option maxHeartbeats 4000000 in
theorem c_X12_valid {E : EnvT} {cs : Nat → ClassId} (F : MF E cs) {σ : Mem} {p1 : Int32} {r : Int32 × Mem} (h : X12_valid σ p1 = some r) : CT E yX12_valid cX12_valid 2 (some .int) rm_X12_valid [.ref (eAd E 0), .int p1] σ (RQi r.1 r.2) :=
  ct_M F (by decide) (Nat.le_of_ble_eq_true rfl) (fun E' ea F' C Q => by rw [← ea]; exact m_X12_valid F'  C Q h)
theorem dd_X12_valid : yX12_valid.cls ≠ "java/lang/invoke/MethodHandle" ∧ yX12_valid.cls ≠ "java/lang/invoke/VarHandle" ∧ (parseMethodDescriptor yX12_valid.desc).map (fun d => d.parameters.length) = some 1 := by decide +kernel
def X12_law (σ : Mem) (p1 : Int32) (p2 : Int32) : Option (Int64 × Mem) :=
  bindo (X12_isChannel σ p1) (fun r2 =>
  if r2 = (0 : Int32) then
  (some ((-9223372036854775808 : Int64), σ))
  else
  (bindo (X12_within (p2.toInt64) (0 : Int64) (4 : Int64)) (fun r4 =>
  if ¬ r4 = (0 : Int32) then
  (bindo (X12_makeLaw σ p1) (fun σ6 =>
  if ¬ p2 = (0 : Int32) then
  (if ¬ p2 = (1 : Int32) then
  (if ¬ p2 = (2 : Int32) then
  (if ¬ p2 = (3 : Int32) then
  (some ((σ6.2 0 51), σ6))
  else
  (some ((σ6.2 0 50), σ6)))
  else
  (some ((σ6.2 0 49), σ6)))
  else
  (some ((σ6.2 0 48), σ6)))
  else
  (some ((σ6.2 0 47), σ6))))
  else
  (some ((-9223372036854775808 : Int64), σ)))))
abbrev rm_X12_law : Room := { frames := 3, cells := 0, slots := 0, locals := 83 }
set_option maxRecDepth 100000 in
set_option maxHeartbeats 4000000 in
theorem m_X12_law {E : EnvT} {cs : Nat → ClassId} (F : MF E cs) {p1 : Int32} {p2 : Int32} {σ : Mem} (C : CX E cX12_law RX12 3 rm_X12_law) {r0 : Int64 × Mem} (Q : QE E 0 0 (some .long) (RQl r0.1 r0.2)) : J E 3 0 0 r0 (X12_law σ p1 p2) σ 0 [(0, .ref (eAd E 0)), (1, .int p1), (2, .int p2)] [] := by

  unfold X12_law
  refine j_aload_n C dX12_law_0 0 rfl ?_
  refine j_iload_n C dX12_law_1 1 rfl ?_
  refine j_bind (fun r2 h1 => ?_)
  refine j_callVi (ci := 12) C [.int p1] (c_X12_isChannel F h1) hM_X12_231 hI_X12_isChannel hS_X12_isChannel hZ_X12 hC_X12_isChannel (min_ F (by decide)) (me_0 F _ _) rfl rfl dd_X12_isChannel (by decide) ⟨rfl, rfl⟩ (by decide) (Nat.le_of_ble_eq_true rfl) dX12_law_2 rfl ?_
  refine j_if_eq C 20 dX12_law_5 (by decide) ?_ ?_
  · refine j_ldc2 C hK_X12_106 dX12_law_20 ?_
    exact j_lret2 C Q dX12_law_23
  · refine j_iload_n C dX12_law_8 2 rfl ?_
    refine j_i2l C dX12_law_9 ?_
    refine j_lconst C (0 : Int64) dX12_law_10 (by decide) ?_
    refine j_ldc2 C hK_X12_158 dX12_law_11 ?_
    refine j_bind (fun r4 h3 => ?_)
    refine j_callSi C [.long (p2.toInt64), .long (0 : Int64), .long (4 : Int64)] (c_X12_within F h3) hM_X12_110 hT_X12_within hZ_X12 hC_X12_within dd_X12_within (by decide) ⟨rfl, rfl⟩ (by decide) (Nat.le_of_ble_eq_true rfl) dX12_law_14 rfl ?_
    refine j_if_ne C 24 dX12_law_17 (by decide) ?_ ?_
    · refine j_aload_n C dX12_law_24 0 rfl ?_
      refine j_iload_n C dX12_law_25 1 rfl ?_
      refine j_bind (fun σ6 h5 => ?_)
      refine j_callVv (ci := 12) C [.int p1] (c_X12_makeLaw F h5) hM_X12_279 hI_X12_makeLaw hS_X12_makeLaw hZ_X12 hC_X12_makeLaw (min_ F (by decide)) (me_0 F _ _) rfl rfl dd_X12_makeLaw (by decide) ⟨rfl, rfl⟩ (by decide) (Nat.le_of_ble_eq_true rfl) dX12_law_26 rfl ?_
      refine j_iload_n C dX12_law_29 2 rfl ?_
      refine j_if_ne C 40 dX12_law_30 (by decide) ?_ ?_
      · refine j_iload_n C dX12_law_40 2 rfl ?_
        refine j_iconst C (1 : Int32) dX12_law_41 (by decide) ?_
        refine j_icmp_ne C 52 dX12_law_42 (by decide) ?_ ?_
        · refine j_iload_n C dX12_law_52 2 rfl ?_
          refine j_iconst C (2 : Int32) dX12_law_53 (by decide) ?_
          refine j_icmp_ne C 64 dX12_law_54 (by decide) ?_ ?_
          · refine j_iload_n C dX12_law_64 2 rfl ?_
            refine j_iconst C (3 : Int32) dX12_law_65 (by decide) ?_
            refine j_icmp_ne C 76 dX12_law_66 (by decide) ?_ ?_
            · refine j_aload_n C dX12_law_76 0 rfl ?_
              refine j_get (ci := 12) C hU_X12 rfl (min_ F (by decide)) (me_0 F _ _) 51 (by decide) rfl hF_X12_270 dX12_law_77 ?_
              exact j_lret2 C Q dX12_law_80
            · refine j_aload_n C dX12_law_69 0 rfl ?_
              refine j_get (ci := 12) C hU_X12 rfl (min_ F (by decide)) (me_0 F _ _) 50 (by decide) rfl hF_X12_267 dX12_law_70 ?_
              refine j_goto C 80 dX12_law_73 (by decide) ?_
              exact j_lret2 C Q dX12_law_80
          · refine j_aload_n C dX12_law_57 0 rfl ?_
            refine j_get (ci := 12) C hU_X12 rfl (min_ F (by decide)) (me_0 F _ _) 49 (by decide) rfl hF_X12_276 dX12_law_58 ?_
            refine j_goto C 80 dX12_law_61 (by decide) ?_
            exact j_lret2 C Q dX12_law_80
        · refine j_aload_n C dX12_law_45 0 rfl ?_
          refine j_get (ci := 12) C hU_X12 rfl (min_ F (by decide)) (me_0 F _ _) 48 (by decide) rfl hF_X12_273 dX12_law_46 ?_
          refine j_goto C 80 dX12_law_49 (by decide) ?_
          exact j_lret2 C Q dX12_law_80
      · refine j_aload_n C dX12_law_33 0 rfl ?_
        refine j_get (ci := 12) C hU_X12 rfl (min_ F (by decide)) (me_0 F _ _) 47 (by decide) rfl hF_X12_263 dX12_law_34 ?_
        refine j_goto C 80 dX12_law_37 (by decide) ?_
        exact j_lret2 C Q dX12_law_80
    · refine j_ldc2 C hK_X12_106 dX12_law_20 ?_
      exact j_lret2 C Q dX12_law_23
set_option maxRecDepth 100000 in
set_option maxHeartbeats 4000000 in
theorem c_X12_law {E : EnvT} {cs : Nat → ClassId} (F : MF E cs) {σ : Mem} {p1 : Int32} {p2 : Int32} {r : Int64 × Mem} (h : X12_law σ p1 p2 = some r) : CT E yX12_law cX12_law 3 (some .long) rm_X12_law [.ref (eAd E 0), .int p1, .int p2] σ (RQl r.1 r.2) :=
  ct_M F (by decide) (Nat.le_of_ble_eq_true rfl) (fun E' ea F' C Q => by rw [← ea]; exact m_X12_law F'  C Q h)
theorem dd_X12_law : yX12_law.cls ≠ "java/lang/invoke/MethodHandle" ∧ yX12_law.cls ≠ "java/lang/invoke/VarHandle" ∧ (parseMethodDescriptor yX12_law.desc).map (fun d => d.parameters.length) = some 2 := by decide +kernel
def X12_sheet_l67 (rec67 : (Mem × Int32 × Int32) → Option (Int32 × Mem)) (σ : Mem) (v1 : Int32) (v4 : Int32) : Option (Int32 × Mem) :=
  if (40 : Int32) ≤ v4 then
  (some ((1 : Int32), σ))
  else
  (chk (inb (((40 : Int32) * v1) + v4) 160) (
  lete (wI σ 10 (ix (((40 : Int32) * v1) + v4)) (0 : Int32)) (fun σ2 =>
  lete (v4 + (1 : Int32)) (fun x3 =>
  rec67 (σ2, v1, x3)))))
def X12_sheet (σ : Mem) (p1 : Int32) (p2 : Int32) (p3 : Int32) : Option (Int32 × Mem) :=
  lete (wI σ 0 0 (0 : Int32)) (fun σ1 =>
  bindo (X12_within (p1.toInt64) (0 : Int64) (3 : Int64)) (fun r3 =>
  if ¬ r3 = (0 : Int32) then
  (bindo (X12_within (p2.toInt64) (0 : Int64) (2 : Int64)) (fun r5 =>
  if r5 = (0 : Int32) then
  (some ((-2 : Int32), σ1))
  else
  (if p3 ≤ (40 : Int32) then
  (if (0 : Int32) ≤ p3 then
  (chk (inb p1 4) (
  lete (wI σ1 8 (ix p1) p2) (fun σ7 =>
  chk (inb p1 4) (
  lete (wI σ7 9 (ix p1) p3) (fun σ9 =>
  loopF (fun (rec : (Mem × Int32 × Int32) → Option (Int32 × Mem)) (s : Mem × Int32 × Int32) => X12_sheet_l67 rec s.1 s.2.1 s.2.2)  FU (σ9, p1, (0 : Int32)))))))
  else
  (bindo (X12_fails σ1 (4 : Int32)) (fun a11 =>
  some (a11.1, a11.2))))
  else
  (some ((-2 : Int32), σ1)))))
  else
  (some ((-1 : Int32), σ1))))
abbrev rm_X12_sheet : Room := { frames := 1, cells := 0, slots := 0, locals := 25 }
set_option maxRecDepth 100000 in
set_option maxHeartbeats 4000000 in
theorem m_X12_sheet {E : EnvT} {cs : Nat → ClassId} (F : MF E cs) {p1 : Int32} {p2 : Int32} {p3 : Int32} {σ : Mem} (C : CX E cX12_sheet RX12 5 rm_X12_sheet) {r0 : Int32 × Mem} (Q : QE E 0 0 (some .int) (RQi r0.1 r0.2)) : J E 5 0 0 r0 (X12_sheet σ p1 p2 p3) σ 0 [(0, .ref (eAd E 0)), (1, .int p1), (2, .int p2), (3, .int p3)] [] := by
  have hL67 : ∀ (f : Nat) (a : Mem × Int32 × Int32), J E 5 0 0 r0 (loopF (fun (rec : (Mem × Int32 × Int32) → Option (Int32 × Mem)) (s : Mem × Int32 × Int32) => X12_sheet_l67 rec s.1 s.2.1 s.2.2) f a) a.1 67 [(0, .ref (eAd E 0)), (1, .int a.2.1), (4, .int a.2.2)] [] := by
    refine j_loop (M := fun (a : Mem × Int32 × Int32) => a.1) (L := fun (a : Mem × Int32 × Int32) => [(0, .ref (eAd E 0)), (1, .int a.2.1), (4, .int a.2.2)]) (S := fun (a : Mem × Int32 × Int32) => []) (fun rec67 hrec67 a => ?_)
    obtain ⟨σ, v1, v4⟩ := a
    show J E 5 0 0 r0 (X12_sheet_l67 rec67 σ v1 v4) σ 67 [(0, .ref (eAd E 0)), (1, .int v1), (4, .int v4)] []
    unfold X12_sheet_l67
    refine j_iload C dX12_sheet_67 2 rfl ?_
    refine j_bipush C (40 : Int32) dX12_sheet_69 (by decide) ?_
    refine j_icmp_ge C 93 dX12_sheet_71 (by decide) ?_ ?_
    · refine j_iconst C (1 : Int32) dX12_sheet_93 (by decide) ?_
      exact j_ireti2 C Q dX12_sheet_94
    · refine j_aload_n C dX12_sheet_74 0 rfl ?_
      refine j_get (ci := 12) C hU_X12 rfl (min_ F (by decide)) (me_0 F _ _) 21 (by decide) rfl hF_X12_44 dX12_sheet_75 ?_
      refine j_bipush C (40 : Int32) dX12_sheet_78 (by decide) ?_
      refine j_iload_n C dX12_sheet_80 1 rfl ?_
      refine j_imul C dX12_sheet_81 ?_
      refine j_iload C dX12_sheet_82 2 rfl ?_
      refine j_iadd C dX12_sheet_84 ?_
      refine j_iconst C (0 : Int32) dX12_sheet_85 (by decide) ?_
      refine j_chk (fun h1 => ?_)
      refine j_iast (t0 := 0) C (min_ F (by decide)) (me_10 F _ _) (by rw [wI_o, wI_2]; exact (me_10 F _ _)) (mt0 F) (inb_in h1) dX12_sheet_86 (fun σ2 => ?_)
      refine j_iincN (lf := fun x3 => [(4, .int x3), (0, .ref (eAd E 0)), (1, .int v1)]) C dX12_sheet_87 2 rfl (by rfl) (by decide) (fun _ => rfl) (fun x3 => ?_)
      refine j_goto C 67 dX12_sheet_90 (by decide) ?_
      refine j_lv [(0, .ref (eAd E 0)), (1, .int v1), (4, .int x3)] [1, 2, 0] rfl ?_
      exact hrec67 (σ2, v1, x3)
  unfold X12_sheet
  refine j_aload_n C dX12_sheet_0 0 rfl ?_
  refine j_iconst C (0 : Int32) dX12_sheet_1 (by decide) ?_
  refine j_put (ci := 12) C hU_X12 tyX12_ok nmX12 rfl (min_ F (by decide)) (me_0 F _ _) 0 (by decide) (Nat.le_of_ble_eq_true rfl) (by rw [wI_o, wI_2]; exact (me_0 F _ _)) (fun o' h' => ⟨wI_ne _ _ _ h', rfl⟩) rfl (by first | rfl | decide) (by first | rfl | decide) hF_X12_103 dX12_sheet_2 (fun σ1 => ?_)
  refine j_iload_n C dX12_sheet_5 1 rfl ?_
  refine j_i2l C dX12_sheet_6 ?_
  refine j_lconst C (0 : Int64) dX12_sheet_7 (by decide) ?_
  refine j_ldc2 C hK_X12_150 dX12_sheet_8 ?_
  refine j_bind (fun r3 h2 => ?_)
  refine j_callSi C [.long (p1.toInt64), .long (0 : Int64), .long (3 : Int64)] (c_X12_within F h2) hM_X12_110 hT_X12_within hZ_X12 hC_X12_within dd_X12_within (by decide) ⟨rfl, rfl⟩ (by decide) (Nat.le_of_ble_eq_true rfl) dX12_sheet_11 rfl ?_
  refine j_if_ne C 19 dX12_sheet_14 (by decide) ?_ ?_
  · refine j_iload_n C dX12_sheet_19 2 rfl ?_
    refine j_i2l C dX12_sheet_20 ?_
    refine j_lconst C (0 : Int64) dX12_sheet_21 (by decide) ?_
    refine j_ldc2 C hK_X12_152 dX12_sheet_22 ?_
    refine j_bind (fun r5 h4 => ?_)
    refine j_callSi C [.long (p2.toInt64), .long (0 : Int64), .long (2 : Int64)] (c_X12_within F h4) hM_X12_110 hT_X12_within hZ_X12 hC_X12_within dd_X12_within (by decide) ⟨rfl, rfl⟩ (by decide) (Nat.le_of_ble_eq_true rfl) dX12_sheet_25 rfl ?_
    refine j_if_eq C 37 dX12_sheet_28 (by decide) ?_ ?_
    · refine j_bipush C (-2 : Int32) dX12_sheet_37 (by decide) ?_
      exact j_ireti2 C Q dX12_sheet_39
    · refine j_iload_n C dX12_sheet_31 3 rfl ?_
      refine j_bipush C (40 : Int32) dX12_sheet_32 (by decide) ?_
      refine j_icmp_le C 40 dX12_sheet_34 (by decide) ?_ ?_
      · refine j_iload_n C dX12_sheet_40 3 rfl ?_
        refine j_if_ge C 50 dX12_sheet_41 (by decide) ?_ ?_
        · refine j_aload_n C dX12_sheet_50 0 rfl ?_
          refine j_get (ci := 12) C hU_X12 rfl (min_ F (by decide)) (me_0 F _ _) 19 (by decide) rfl hF_X12_38 dX12_sheet_51 ?_
          refine j_iload_n C dX12_sheet_54 1 rfl ?_
          refine j_iload_n C dX12_sheet_55 2 rfl ?_
          refine j_chk (fun h6 => ?_)
          refine j_iast (t0 := 0) C (min_ F (by decide)) (me_8 F _ _) (by rw [wI_o, wI_2]; exact (me_8 F _ _)) (mt0 F) (inb_in h6) dX12_sheet_56 (fun σ7 => ?_)
          refine j_aload_n C dX12_sheet_57 0 rfl ?_
          refine j_get (ci := 12) C hU_X12 rfl (min_ F (by decide)) (me_0 F _ _) 20 (by decide) rfl hF_X12_41 dX12_sheet_58 ?_
          refine j_iload_n C dX12_sheet_61 1 rfl ?_
          refine j_iload_n C dX12_sheet_62 3 rfl ?_
          refine j_chk (fun h8 => ?_)
          refine j_iast (t0 := 0) C (min_ F (by decide)) (me_9 F _ _) (by rw [wI_o, wI_2]; exact (me_9 F _ _)) (mt0 F) (inb_in h8) dX12_sheet_63 (fun σ9 => ?_)
          refine j_iconst C (0 : Int32) dX12_sheet_64 (by decide) ?_
          refine j_istore (lv' := [(4, .int (0 : Int32)), (0, .ref (eAd E 0)), (1, .int p1), (2, .int p2), (3, .int p3)]) C dX12_sheet_65 (by decide) rfl ?_
          refine j_lv [(0, .ref (eAd E 0)), (1, .int p1), (4, .int (0 : Int32))] [1, 2, 0] rfl ?_
          exact hL67  FU (σ9, p1, (0 : Int32))
        · refine j_aload_n C dX12_sheet_44 0 rfl ?_
          refine j_iconst C (4 : Int32) dX12_sheet_45 (by decide) ?_
          refine j_bind (fun a11 h10 => ?_)
          refine j_callVi (ci := 12) C [.int (4 : Int32)] (c_X12_fails F h10) hM_X12_154 hI_X12_fails hS_X12_fails hZ_X12 hC_X12_fails (min_ F (by decide)) (me_0 F _ _) rfl rfl dd_X12_fails (by decide) ⟨rfl, rfl⟩ (by decide) (Nat.le_of_ble_eq_true rfl) dX12_sheet_46 rfl ?_
          exact j_ireti2 C Q dX12_sheet_49
      · refine j_bipush C (-2 : Int32) dX12_sheet_37 (by decide) ?_
        exact j_ireti2 C Q dX12_sheet_39
  · refine j_iconst C (-1 : Int32) dX12_sheet_17 (by decide) ?_
    exact j_ireti2 C Q dX12_sheet_18
set_option maxRecDepth 100000 in
set_option maxHeartbeats 4000000 in
theorem c_X12_sheet {E : EnvT} {cs : Nat → ClassId} (F : MF E cs) {σ : Mem} {p1 : Int32} {p2 : Int32} {p3 : Int32} {r : Int32 × Mem} (h : X12_sheet σ p1 p2 p3 = some r) : CT E yX12_sheet cX12_sheet 5 (some .int) rm_X12_sheet [.ref (eAd E 0), .int p1, .int p2, .int p3] σ (RQi r.1 r.2) :=
  ct_M F (by decide) (Nat.le_of_ble_eq_true rfl) (fun E' ea F' C Q => by rw [← ea]; exact m_X12_sheet F'  C Q h)
theorem dd_X12_sheet : yX12_sheet.cls ≠ "java/lang/invoke/MethodHandle" ∧ yX12_sheet.cls ≠ "java/lang/invoke/VarHandle" ∧ (parseMethodDescriptor yX12_sheet.desc).map (fun d => d.parameters.length) = some 3 := by decide +kernel
def X12_drop_b30 (σ : Mem) (v1 : Int32) (s0 : Int32) : Option (Int32 × Mem) :=
  chk (inb v1 4) (
  lete (wI σ 8 (ix v1) (-9 : Int32)) (fun σ2 =>
  some (s0, σ2)))
def X12_drop (σ : Mem) (p1 : Int32) : Option (Int32 × Mem) :=
  bindo (X12_within (p1.toInt64) (0 : Int64) (3 : Int64)) (fun r2 =>
  if ¬ r2 = (0 : Int32) then
  (chk (inb p1 4) (
  if ¬ (σ.1 8 (ix p1)) = (-9 : Int32) then
  (X12_drop_b30 σ p1 (1 : Int32))
  else
  (X12_drop_b30 σ p1 (0 : Int32))))
  else
  (some ((-1 : Int32), σ)))
abbrev rm_X12_drop : Room := { frames := 1, cells := 0, slots := 0, locals := 25 }
set_option maxRecDepth 100000 in
set_option maxHeartbeats 4000000 in
theorem m_X12_drop {E : EnvT} {cs : Nat → ClassId} (F : MF E cs) {p1 : Int32} {σ : Mem} (C : CX E cX12_drop RX12 3 rm_X12_drop) {r0 : Int32 × Mem} (Q : QE E 0 0 (some .int) (RQi r0.1 r0.2)) : J E 3 0 0 r0 (X12_drop σ p1) σ 0 [(0, .ref (eAd E 0)), (1, .int p1)] [] := by
  have hB30 : ∀ (σ : Mem) (v1 : Int32) (s0 : Int32), J E 3 0 0 r0 (X12_drop_b30 σ v1 s0) σ 30 [(0, .ref (eAd E 0)), (1, .int v1)] [.int s0] := by
    intro σ v1 s0
    unfold X12_drop_b30
    refine j_istore_n (lv' := [(2, .int s0), (0, .ref (eAd E 0)), (1, .int v1)]) C dX12_drop_30 (by decide) rfl ?_
    refine j_aload_n C dX12_drop_31 1 rfl ?_
    refine j_get (ci := 12) C hU_X12 rfl (min_ F (by decide)) (me_0 F _ _) 19 (by decide) rfl hF_X12_38 dX12_drop_32 ?_
    refine j_iload_n C dX12_drop_35 2 rfl ?_
    refine j_bipush C (-9 : Int32) dX12_drop_36 (by decide) ?_
    refine j_chk (fun h1 => ?_)
    refine j_iast (t0 := 0) C (min_ F (by decide)) (me_8 F _ _) (by rw [wI_o, wI_2]; exact (me_8 F _ _)) (mt0 F) (inb_in h1) dX12_drop_38 (fun σ2 => ?_)
    refine j_iload_n C dX12_drop_39 0 rfl ?_
    exact j_ireti2 C Q dX12_drop_40
  unfold X12_drop
  refine j_iload_n C dX12_drop_0 1 rfl ?_
  refine j_i2l C dX12_drop_1 ?_
  refine j_lconst C (0 : Int64) dX12_drop_2 (by decide) ?_
  refine j_ldc2 C hK_X12_150 dX12_drop_3 ?_
  refine j_bind (fun r2 h1 => ?_)
  refine j_callSi C [.long (p1.toInt64), .long (0 : Int64), .long (3 : Int64)] (c_X12_within F h1) hM_X12_110 hT_X12_within hZ_X12 hC_X12_within dd_X12_within (by decide) ⟨rfl, rfl⟩ (by decide) (Nat.le_of_ble_eq_true rfl) dX12_drop_6 rfl ?_
  refine j_if_ne C 14 dX12_drop_9 (by decide) ?_ ?_
  · refine j_aload_n C dX12_drop_14 0 rfl ?_
    refine j_get (ci := 12) C hU_X12 rfl (min_ F (by decide)) (me_0 F _ _) 19 (by decide) rfl hF_X12_38 dX12_drop_15 ?_
    refine j_iload_n C dX12_drop_18 1 rfl ?_
    refine j_chk (fun h3 => ?_)
    refine j_iald (t0 := 0) C (min_ F (by decide)) (me_8 F _ _) (mt0 F) (inb_in h3) dX12_drop_19 ?_
    refine j_bipush C (-9 : Int32) dX12_drop_20 (by decide) ?_
    refine j_icmp_ne C 29 dX12_drop_22 (by decide) ?_ ?_
    · refine j_iconst C (1 : Int32) dX12_drop_29 (by decide) ?_
      refine j_lv [(0, .ref (eAd E 0)), (1, .int p1)] [0, 1] rfl ?_
      exact hB30 σ p1 (1 : Int32)
    · refine j_iconst C (0 : Int32) dX12_drop_25 (by decide) ?_
      refine j_goto C 30 dX12_drop_26 (by decide) ?_
      refine j_lv [(0, .ref (eAd E 0)), (1, .int p1)] [0, 1] rfl ?_
      exact hB30 σ p1 (0 : Int32)
  · refine j_iconst C (-1 : Int32) dX12_drop_12 (by decide) ?_
    exact j_ireti2 C Q dX12_drop_13
set_option maxRecDepth 100000 in
set_option maxHeartbeats 4000000 in
theorem c_X12_drop {E : EnvT} {cs : Nat → ClassId} (F : MF E cs) {σ : Mem} {p1 : Int32} {r : Int32 × Mem} (h : X12_drop σ p1 = some r) : CT E yX12_drop cX12_drop 3 (some .int) rm_X12_drop [.ref (eAd E 0), .int p1] σ (RQi r.1 r.2) :=
  ct_M F (by decide) (Nat.le_of_ble_eq_true rfl) (fun E' ea F' C Q => by rw [← ea]; exact m_X12_drop F'  C Q h)
theorem dd_X12_drop : yX12_drop.cls ≠ "java/lang/invoke/MethodHandle" ∧ yX12_drop.cls ≠ "java/lang/invoke/VarHandle" ∧ (parseMethodDescriptor yX12_drop.desc).map (fun d => d.parameters.length) = some 1 := by decide +kernel
def X12_put (σ : Mem) (p1 : Int32) (p2 : Int32) (p3 : Int32) : Option (Int32 × Mem) :=
  lete (wI σ 0 0 (0 : Int32)) (fun σ1 =>
  bindo (X12_within (p1.toInt64) (0 : Int64) (3 : Int64)) (fun r3 =>
  if ¬ r3 = (0 : Int32) then
  (chk (inb p1 4) (
  if ¬ (σ1.1 8 (ix p1)) = (-9 : Int32) then
  (chk (inb p1 4) (
  bindo (X12_within (p2.toInt64) (0 : Int64) ((((σ1.1 9 (ix p1))).toInt64) - (1 : Int64))) (fun r7 =>
  if ¬ r7 = (0 : Int32) then
  (chk (inb p1 4) (
  if ¬ (σ1.1 8 (ix p1)) = (0 : Int32) then
  (chk (inb p1 4) (
  if ¬ (σ1.1 8 (ix p1)) = (1 : Int32) then
  (chk (inb (((40 : Int32) * p1) + p2) 160) (
  lete (wI σ1 10 (ix (((40 : Int32) * p1) + p2)) p3) (fun σ11 =>
  some ((1 : Int32), σ11))))
  else
  (chk (inb (((40 : Int32) * p1) + p2) 160) (
  lete (wI σ1 10 (ix (((40 : Int32) * p1) + p2)) (p3.toInt16.toInt32)) (fun σ13 =>
  some ((1 : Int32), σ13))))))
  else
  (chk (inb (((40 : Int32) * p1) + p2) 160) (
  lete (wI σ1 10 (ix (((40 : Int32) * p1) + p2)) (p3.toInt8.toInt32)) (fun σ15 =>
  some ((1 : Int32), σ15))))))
  else
  (bindo (X12_fails σ1 (3 : Int32)) (fun a17 =>
  some (a17.1, a17.2))))))
  else
  (bindo (X12_fails σ1 (1 : Int32)) (fun a19 =>
  some (a19.1, a19.2)))))
  else
  (some ((-1 : Int32), σ1))))
abbrev rm_X12_put : Room := { frames := 1, cells := 0, slots := 0, locals := 25 }
set_option maxRecDepth 100000 in
set_option maxHeartbeats 4000000 in
theorem m_X12_put {E : EnvT} {cs : Nat → ClassId} (F : MF E cs) {p1 : Int32} {p2 : Int32} {p3 : Int32} {σ : Mem} (C : CX E cX12_put RX12 4 rm_X12_put) {r0 : Int32 × Mem} (Q : QE E 0 0 (some .int) (RQi r0.1 r0.2)) : J E 4 0 0 r0 (X12_put σ p1 p2 p3) σ 0 [(0, .ref (eAd E 0)), (1, .int p1), (2, .int p2), (3, .int p3)] [] := by

  unfold X12_put
  refine j_aload_n C dX12_put_0 0 rfl ?_
  refine j_iconst C (0 : Int32) dX12_put_1 (by decide) ?_
  refine j_put (ci := 12) C hU_X12 tyX12_ok nmX12 rfl (min_ F (by decide)) (me_0 F _ _) 0 (by decide) (Nat.le_of_ble_eq_true rfl) (by rw [wI_o, wI_2]; exact (me_0 F _ _)) (fun o' h' => ⟨wI_ne _ _ _ h', rfl⟩) rfl (by first | rfl | decide) (by first | rfl | decide) hF_X12_103 dX12_put_2 (fun σ1 => ?_)
  refine j_iload_n C dX12_put_5 1 rfl ?_
  refine j_i2l C dX12_put_6 ?_
  refine j_lconst C (0 : Int64) dX12_put_7 (by decide) ?_
  refine j_ldc2 C hK_X12_150 dX12_put_8 ?_
  refine j_bind (fun r3 h2 => ?_)
  refine j_callSi C [.long (p1.toInt64), .long (0 : Int64), .long (3 : Int64)] (c_X12_within F h2) hM_X12_110 hT_X12_within hZ_X12 hC_X12_within dd_X12_within (by decide) ⟨rfl, rfl⟩ (by decide) (Nat.le_of_ble_eq_true rfl) dX12_put_11 rfl ?_
  refine j_if_ne C 19 dX12_put_14 (by decide) ?_ ?_
  · refine j_aload_n C dX12_put_19 0 rfl ?_
    refine j_get (ci := 12) C hU_X12 rfl (min_ F (by decide)) (me_0 F _ _) 19 (by decide) rfl hF_X12_38 dX12_put_20 ?_
    refine j_iload_n C dX12_put_23 1 rfl ?_
    refine j_chk (fun h4 => ?_)
    refine j_iald (t0 := 0) C (min_ F (by decide)) (me_8 F _ _) (mt0 F) (inb_in h4) dX12_put_24 ?_
    refine j_bipush C (-9 : Int32) dX12_put_25 (by decide) ?_
    refine j_icmp_ne C 36 dX12_put_27 (by decide) ?_ ?_
    · refine j_iload_n C dX12_put_36 2 rfl ?_
      refine j_i2l C dX12_put_37 ?_
      refine j_lconst C (0 : Int64) dX12_put_38 (by decide) ?_
      refine j_aload_n C dX12_put_39 0 rfl ?_
      refine j_get (ci := 12) C hU_X12 rfl (min_ F (by decide)) (me_0 F _ _) 20 (by decide) rfl hF_X12_41 dX12_put_40 ?_
      refine j_iload_n C dX12_put_43 1 rfl ?_
      refine j_chk (fun h5 => ?_)
      refine j_iald (t0 := 0) C (min_ F (by decide)) (me_9 F _ _) (mt0 F) (inb_in h5) dX12_put_44 ?_
      refine j_i2l C dX12_put_45 ?_
      refine j_lconst C (1 : Int64) dX12_put_46 (by decide) ?_
      refine j_lsub C dX12_put_47 ?_
      refine j_bind (fun r7 h6 => ?_)
      refine j_callSi C [.long (p2.toInt64), .long (0 : Int64), .long ((((σ1.1 9 (ix p1))).toInt64) - (1 : Int64))] (c_X12_within F h6) hM_X12_110 hT_X12_within hZ_X12 hC_X12_within dd_X12_within (by decide) ⟨rfl, rfl⟩ (by decide) (Nat.le_of_ble_eq_true rfl) dX12_put_48 rfl ?_
      refine j_if_ne C 60 dX12_put_51 (by decide) ?_ ?_
      · refine j_aload_n C dX12_put_60 0 rfl ?_
        refine j_get (ci := 12) C hU_X12 rfl (min_ F (by decide)) (me_0 F _ _) 21 (by decide) rfl hF_X12_44 dX12_put_61 ?_
        refine j_bipush C (40 : Int32) dX12_put_64 (by decide) ?_
        refine j_iload_n C dX12_put_66 1 rfl ?_
        refine j_imul C dX12_put_67 ?_
        refine j_iload_n C dX12_put_68 2 rfl ?_
        refine j_iadd C dX12_put_69 ?_
        refine j_aload_n C dX12_put_70 0 rfl ?_
        refine j_get (ci := 12) C hU_X12 rfl (min_ F (by decide)) (me_0 F _ _) 19 (by decide) rfl hF_X12_38 dX12_put_71 ?_
        refine j_iload_n C dX12_put_74 1 rfl ?_
        refine j_chk (fun h8 => ?_)
        refine j_iald (t0 := 0) C (min_ F (by decide)) (me_8 F _ _) (mt0 F) (inb_in h8) dX12_put_75 ?_
        refine j_if_ne C 84 dX12_put_76 (by decide) ?_ ?_
        · refine j_aload_n C dX12_put_84 0 rfl ?_
          refine j_get (ci := 12) C hU_X12 rfl (min_ F (by decide)) (me_0 F _ _) 19 (by decide) rfl hF_X12_38 dX12_put_85 ?_
          refine j_iload_n C dX12_put_88 1 rfl ?_
          refine j_chk (fun h9 => ?_)
          refine j_iald (t0 := 0) C (min_ F (by decide)) (me_8 F _ _) (mt0 F) (inb_in h9) dX12_put_89 ?_
          refine j_iconst C (1 : Int32) dX12_put_90 (by decide) ?_
          refine j_icmp_ne C 99 dX12_put_91 (by decide) ?_ ?_
          · refine j_iload_n C dX12_put_99 3 rfl ?_
            refine j_chk (fun h10 => ?_)
            refine j_iast (t0 := 0) C (min_ F (by decide)) (me_10 F _ _) (by rw [wI_o, wI_2]; exact (me_10 F _ _)) (mt0 F) (inb_in h10) dX12_put_100 (fun σ11 => ?_)
            refine j_iconst C (1 : Int32) dX12_put_101 (by decide) ?_
            exact j_ireti2 C Q dX12_put_102
          · refine j_iload_n C dX12_put_94 3 rfl ?_
            refine j_i2s C dX12_put_95 ?_
            refine j_goto C 100 dX12_put_96 (by decide) ?_
            refine j_chk (fun h12 => ?_)
            refine j_iast (t0 := 0) C (min_ F (by decide)) (me_10 F _ _) (by rw [wI_o, wI_2]; exact (me_10 F _ _)) (mt0 F) (inb_in h12) dX12_put_100 (fun σ13 => ?_)
            refine j_iconst C (1 : Int32) dX12_put_101 (by decide) ?_
            exact j_ireti2 C Q dX12_put_102
        · refine j_iload_n C dX12_put_79 3 rfl ?_
          refine j_i2b C dX12_put_80 ?_
          refine j_goto C 100 dX12_put_81 (by decide) ?_
          refine j_chk (fun h14 => ?_)
          refine j_iast (t0 := 0) C (min_ F (by decide)) (me_10 F _ _) (by rw [wI_o, wI_2]; exact (me_10 F _ _)) (mt0 F) (inb_in h14) dX12_put_100 (fun σ15 => ?_)
          refine j_iconst C (1 : Int32) dX12_put_101 (by decide) ?_
          exact j_ireti2 C Q dX12_put_102
      · refine j_aload_n C dX12_put_54 0 rfl ?_
        refine j_iconst C (3 : Int32) dX12_put_55 (by decide) ?_
        refine j_bind (fun a17 h16 => ?_)
        refine j_callVi (ci := 12) C [.int (3 : Int32)] (c_X12_fails F h16) hM_X12_154 hI_X12_fails hS_X12_fails hZ_X12 hC_X12_fails (min_ F (by decide)) (me_0 F _ _) rfl rfl dd_X12_fails (by decide) ⟨rfl, rfl⟩ (by decide) (Nat.le_of_ble_eq_true rfl) dX12_put_56 rfl ?_
        exact j_ireti2 C Q dX12_put_59
    · refine j_aload_n C dX12_put_30 0 rfl ?_
      refine j_iconst C (1 : Int32) dX12_put_31 (by decide) ?_
      refine j_bind (fun a19 h18 => ?_)
      refine j_callVi (ci := 12) C [.int (1 : Int32)] (c_X12_fails F h18) hM_X12_154 hI_X12_fails hS_X12_fails hZ_X12 hC_X12_fails (min_ F (by decide)) (me_0 F _ _) rfl rfl dd_X12_fails (by decide) ⟨rfl, rfl⟩ (by decide) (Nat.le_of_ble_eq_true rfl) dX12_put_32 rfl ?_
      exact j_ireti2 C Q dX12_put_35
  · refine j_iconst C (-1 : Int32) dX12_put_17 (by decide) ?_
    exact j_ireti2 C Q dX12_put_18
set_option maxRecDepth 100000 in
set_option maxHeartbeats 4000000 in
theorem c_X12_put {E : EnvT} {cs : Nat → ClassId} (F : MF E cs) {σ : Mem} {p1 : Int32} {p2 : Int32} {p3 : Int32} {r : Int32 × Mem} (h : X12_put σ p1 p2 p3 = some r) : CT E yX12_put cX12_put 4 (some .int) rm_X12_put [.ref (eAd E 0), .int p1, .int p2, .int p3] σ (RQi r.1 r.2) :=
  ct_M F (by decide) (Nat.le_of_ble_eq_true rfl) (fun E' ea F' C Q => by rw [← ea]; exact m_X12_put F'  C Q h)
theorem dd_X12_put : yX12_put.cls ≠ "java/lang/invoke/MethodHandle" ∧ yX12_put.cls ≠ "java/lang/invoke/VarHandle" ∧ (parseMethodDescriptor yX12_put.desc).map (fun d => d.parameters.length) = some 3 := by decide +kernel
def X12_at_b60 (σ : Mem) (v1 : Int32) (v2 : Int32) : Option (Int64 × Mem) :=
  chk (inb v1 4) (
  if ¬ (σ.1 8 (ix v1)) = (-9 : Int32) then
  (chk (inb v1 4) (
  bindo (X12_within (v2.toInt64) (0 : Int64) ((((σ.1 9 (ix v1))).toInt64) - (1 : Int64))) (fun r4 =>
  if ¬ r4 = (0 : Int32) then
  (chk (inb (((40 : Int32) * v1) + v2) 160) (
  some ((((σ.1 10 (ix (((40 : Int32) * v1) + v2)))).toInt64), σ)))
  else
  (bindo (X12_lost σ (3 : Int32)) (fun a7 =>
  some (a7.1, a7.2))))))
  else
  (bindo (X12_lost σ (1 : Int32)) (fun a9 =>
  some (a9.1, a9.2))))
def X12_at (σ : Mem) (p1 : Int32) (p2 : Int32) (p3 : Int32) : Option (Int64 × Mem) :=
  lete (wI σ 0 0 (0 : Int32)) (fun σ1 =>
  bindo (X12_within (p1.toInt64) (0 : Int64) (3 : Int64)) (fun r3 =>
  if r3 = (0 : Int32) then
  (some ((-9223372036854775808 : Int64), σ1))
  else
  (bindo (X12_within (p3.toInt64) (0 : Int64) (2 : Int64)) (fun r5 =>
  if ¬ r5 = (0 : Int32) then
  (chk (inb p1 4) (
  if (σ1.1 8 (ix p1)) = (-9 : Int32) then
  (X12_at_b60 σ1 p1 p2)
  else
  (chk (inb p1 4) (
  if (σ1.1 8 (ix p1)) = p3 then
  (X12_at_b60 σ1 p1 p2)
  else
  (bindo (X12_lost σ1 (2 : Int32)) (fun a9 =>
  some (a9.1, a9.2)))))))
  else
  (some ((-9223372036854775808 : Int64), σ1))))))
abbrev rm_X12_at : Room := { frames := 1, cells := 0, slots := 0, locals := 25 }
set_option maxRecDepth 100000 in
set_option maxHeartbeats 4000000 in
theorem m_X12_at {E : EnvT} {cs : Nat → ClassId} (F : MF E cs) {p1 : Int32} {p2 : Int32} {p3 : Int32} {σ : Mem} (C : CX E cX12_at RX12 4 rm_X12_at) {r0 : Int64 × Mem} (Q : QE E 0 0 (some .long) (RQl r0.1 r0.2)) : J E 4 0 0 r0 (X12_at σ p1 p2 p3) σ 0 [(0, .ref (eAd E 0)), (1, .int p1), (2, .int p2), (3, .int p3)] [] := by
  have hB60 : ∀ (σ : Mem) (v1 : Int32) (v2 : Int32), J E 4 0 0 r0 (X12_at_b60 σ v1 v2) σ 60 [(0, .ref (eAd E 0)), (1, .int v1), (2, .int v2)] [] := by
    intro σ v1 v2
    unfold X12_at_b60
    refine j_aload_n C dX12_at_60 0 rfl ?_
    refine j_get (ci := 12) C hU_X12 rfl (min_ F (by decide)) (me_0 F _ _) 19 (by decide) rfl hF_X12_38 dX12_at_61 ?_
    refine j_iload_n C dX12_at_64 1 rfl ?_
    refine j_chk (fun h1 => ?_)
    refine j_iald (t0 := 0) C (min_ F (by decide)) (me_8 F _ _) (mt0 F) (inb_in h1) dX12_at_65 ?_
    refine j_bipush C (-9 : Int32) dX12_at_66 (by decide) ?_
    refine j_icmp_ne C 77 dX12_at_68 (by decide) ?_ ?_
    · refine j_iload_n C dX12_at_77 2 rfl ?_
      refine j_i2l C dX12_at_78 ?_
      refine j_lconst C (0 : Int64) dX12_at_79 (by decide) ?_
      refine j_aload_n C dX12_at_80 0 rfl ?_
      refine j_get (ci := 12) C hU_X12 rfl (min_ F (by decide)) (me_0 F _ _) 20 (by decide) rfl hF_X12_41 dX12_at_81 ?_
      refine j_iload_n C dX12_at_84 1 rfl ?_
      refine j_chk (fun h2 => ?_)
      refine j_iald (t0 := 0) C (min_ F (by decide)) (me_9 F _ _) (mt0 F) (inb_in h2) dX12_at_85 ?_
      refine j_i2l C dX12_at_86 ?_
      refine j_lconst C (1 : Int64) dX12_at_87 (by decide) ?_
      refine j_lsub C dX12_at_88 ?_
      refine j_bind (fun r4 h3 => ?_)
      refine j_callSi C [.long (v2.toInt64), .long (0 : Int64), .long ((((σ.1 9 (ix v1))).toInt64) - (1 : Int64))] (c_X12_within F h3) hM_X12_110 hT_X12_within hZ_X12 hC_X12_within dd_X12_within (by decide) ⟨rfl, rfl⟩ (by decide) (Nat.le_of_ble_eq_true rfl) dX12_at_89 rfl ?_
      refine j_if_ne C 101 dX12_at_92 (by decide) ?_ ?_
      · refine j_aload_n C dX12_at_101 0 rfl ?_
        refine j_get (ci := 12) C hU_X12 rfl (min_ F (by decide)) (me_0 F _ _) 21 (by decide) rfl hF_X12_44 dX12_at_102 ?_
        refine j_bipush C (40 : Int32) dX12_at_105 (by decide) ?_
        refine j_iload_n C dX12_at_107 1 rfl ?_
        refine j_imul C dX12_at_108 ?_
        refine j_iload_n C dX12_at_109 2 rfl ?_
        refine j_iadd C dX12_at_110 ?_
        refine j_chk (fun h5 => ?_)
        refine j_iald (t0 := 0) C (min_ F (by decide)) (me_10 F _ _) (mt0 F) (inb_in h5) dX12_at_111 ?_
        refine j_i2l C dX12_at_112 ?_
        exact j_lret2 C Q dX12_at_113
      · refine j_aload_n C dX12_at_95 0 rfl ?_
        refine j_iconst C (3 : Int32) dX12_at_96 (by decide) ?_
        refine j_bind (fun a7 h6 => ?_)
        refine j_callVl (ci := 12) C [.int (3 : Int32)] (c_X12_lost F h6) hM_X12_292 hI_X12_lost hS_X12_lost hZ_X12 hC_X12_lost (min_ F (by decide)) (me_0 F _ _) rfl rfl dd_X12_lost (by decide) ⟨rfl, rfl⟩ (by decide) (Nat.le_of_ble_eq_true rfl) dX12_at_97 rfl ?_
        exact j_lret2 C Q dX12_at_100
    · refine j_aload_n C dX12_at_71 0 rfl ?_
      refine j_iconst C (1 : Int32) dX12_at_72 (by decide) ?_
      refine j_bind (fun a9 h8 => ?_)
      refine j_callVl (ci := 12) C [.int (1 : Int32)] (c_X12_lost F h8) hM_X12_292 hI_X12_lost hS_X12_lost hZ_X12 hC_X12_lost (min_ F (by decide)) (me_0 F _ _) rfl rfl dd_X12_lost (by decide) ⟨rfl, rfl⟩ (by decide) (Nat.le_of_ble_eq_true rfl) dX12_at_73 rfl ?_
      exact j_lret2 C Q dX12_at_76
  unfold X12_at
  refine j_aload_n C dX12_at_0 0 rfl ?_
  refine j_iconst C (0 : Int32) dX12_at_1 (by decide) ?_
  refine j_put (ci := 12) C hU_X12 tyX12_ok nmX12 rfl (min_ F (by decide)) (me_0 F _ _) 0 (by decide) (Nat.le_of_ble_eq_true rfl) (by rw [wI_o, wI_2]; exact (me_0 F _ _)) (fun o' h' => ⟨wI_ne _ _ _ h', rfl⟩) rfl (by first | rfl | decide) (by first | rfl | decide) hF_X12_103 dX12_at_2 (fun σ1 => ?_)
  refine j_iload_n C dX12_at_5 1 rfl ?_
  refine j_i2l C dX12_at_6 ?_
  refine j_lconst C (0 : Int64) dX12_at_7 (by decide) ?_
  refine j_ldc2 C hK_X12_150 dX12_at_8 ?_
  refine j_bind (fun r3 h2 => ?_)
  refine j_callSi C [.long (p1.toInt64), .long (0 : Int64), .long (3 : Int64)] (c_X12_within F h2) hM_X12_110 hT_X12_within hZ_X12 hC_X12_within dd_X12_within (by decide) ⟨rfl, rfl⟩ (by decide) (Nat.le_of_ble_eq_true rfl) dX12_at_11 rfl ?_
  refine j_if_eq C 29 dX12_at_14 (by decide) ?_ ?_
  · refine j_ldc2 C hK_X12_106 dX12_at_29 ?_
    exact j_lret2 C Q dX12_at_32
  · refine j_iload_n C dX12_at_17 3 rfl ?_
    refine j_i2l C dX12_at_18 ?_
    refine j_lconst C (0 : Int64) dX12_at_19 (by decide) ?_
    refine j_ldc2 C hK_X12_152 dX12_at_20 ?_
    refine j_bind (fun r5 h4 => ?_)
    refine j_callSi C [.long (p3.toInt64), .long (0 : Int64), .long (2 : Int64)] (c_X12_within F h4) hM_X12_110 hT_X12_within hZ_X12 hC_X12_within dd_X12_within (by decide) ⟨rfl, rfl⟩ (by decide) (Nat.le_of_ble_eq_true rfl) dX12_at_23 rfl ?_
    refine j_if_ne C 33 dX12_at_26 (by decide) ?_ ?_
    · refine j_aload_n C dX12_at_33 0 rfl ?_
      refine j_get (ci := 12) C hU_X12 rfl (min_ F (by decide)) (me_0 F _ _) 19 (by decide) rfl hF_X12_38 dX12_at_34 ?_
      refine j_iload_n C dX12_at_37 1 rfl ?_
      refine j_chk (fun h6 => ?_)
      refine j_iald (t0 := 0) C (min_ F (by decide)) (me_8 F _ _) (mt0 F) (inb_in h6) dX12_at_38 ?_
      refine j_bipush C (-9 : Int32) dX12_at_39 (by decide) ?_
      refine j_icmp_eq C 60 dX12_at_41 (by decide) ?_ ?_
      · refine j_lv [(0, .ref (eAd E 0)), (1, .int p1), (2, .int p2)] [0, 1, 2] rfl ?_
        exact hB60 σ1 p1 p2
      · refine j_aload_n C dX12_at_44 0 rfl ?_
        refine j_get (ci := 12) C hU_X12 rfl (min_ F (by decide)) (me_0 F _ _) 19 (by decide) rfl hF_X12_38 dX12_at_45 ?_
        refine j_iload_n C dX12_at_48 1 rfl ?_
        refine j_chk (fun h7 => ?_)
        refine j_iald (t0 := 0) C (min_ F (by decide)) (me_8 F _ _) (mt0 F) (inb_in h7) dX12_at_49 ?_
        refine j_iload_n C dX12_at_50 3 rfl ?_
        refine j_icmp_eq C 60 dX12_at_51 (by decide) ?_ ?_
        · refine j_lv [(0, .ref (eAd E 0)), (1, .int p1), (2, .int p2)] [0, 1, 2] rfl ?_
          exact hB60 σ1 p1 p2
        · refine j_aload_n C dX12_at_54 0 rfl ?_
          refine j_iconst C (2 : Int32) dX12_at_55 (by decide) ?_
          refine j_bind (fun a9 h8 => ?_)
          refine j_callVl (ci := 12) C [.int (2 : Int32)] (c_X12_lost F h8) hM_X12_292 hI_X12_lost hS_X12_lost hZ_X12 hC_X12_lost (min_ F (by decide)) (me_0 F _ _) rfl rfl dd_X12_lost (by decide) ⟨rfl, rfl⟩ (by decide) (Nat.le_of_ble_eq_true rfl) dX12_at_56 rfl ?_
          exact j_lret2 C Q dX12_at_59
    · refine j_ldc2 C hK_X12_106 dX12_at_29 ?_
      exact j_lret2 C Q dX12_at_32
set_option maxRecDepth 100000 in
set_option maxHeartbeats 4000000 in
theorem c_X12_at {E : EnvT} {cs : Nat → ClassId} (F : MF E cs) {σ : Mem} {p1 : Int32} {p2 : Int32} {p3 : Int32} {r : Int64 × Mem} (h : X12_at σ p1 p2 p3 = some r) : CT E yX12_at cX12_at 4 (some .long) rm_X12_at [.ref (eAd E 0), .int p1, .int p2, .int p3] σ (RQl r.1 r.2) :=
  ct_M F (by decide) (Nat.le_of_ble_eq_true rfl) (fun E' ea F' C Q => by rw [← ea]; exact m_X12_at F'  C Q h)
theorem dd_X12_at : yX12_at.cls ≠ "java/lang/invoke/MethodHandle" ∧ yX12_at.cls ≠ "java/lang/invoke/VarHandle" ∧ (parseMethodDescriptor yX12_at.desc).map (fun d => d.parameters.length) = some 3 := by decide +kernel
def X12_begins (σ : Mem) (p1 : Int32) : Option (Mem) :=
  lete (wI σ 0 1 (((31 : Int32) * (σ.1 0 1)) + p1)) (fun σ1 =>
  some σ1)
abbrev rm_X12_begins : Room := { frames := 0, cells := 0, slots := 0, locals := 0 }
set_option maxRecDepth 100000 in
set_option maxHeartbeats 4000000 in
theorem m_X12_begins {E : EnvT} {cs : Nat → ClassId} (F : MF E cs) {p1 : Int32} {σ : Mem} (C : CX E cX12_begins RX12 2 rm_X12_begins) {r0 : Mem} (Q : QE E 0 0 none (RQv r0)) : J E 2 0 0 r0 (X12_begins σ p1) σ 0 [(0, .ref (eAd E 0)), (1, .int p1)] [] := by

  unfold X12_begins
  refine j_aload_n C dX12_begins_0 0 rfl ?_
  refine j_bipush C (31 : Int32) dX12_begins_1 (by decide) ?_
  refine j_aload_n C dX12_begins_3 0 rfl ?_
  refine j_get (ci := 12) C hU_X12 rfl (min_ F (by decide)) (me_0 F _ _) 1 (by decide) rfl hF_X12_296 dX12_begins_4 ?_
  refine j_imul C dX12_begins_7 ?_
  refine j_iload_n C dX12_begins_8 1 rfl ?_
  refine j_iadd C dX12_begins_9 ?_
  refine j_put (ci := 12) C hU_X12 tyX12_ok nmX12 rfl (min_ F (by decide)) (me_0 F _ _) 1 (by decide) (Nat.le_of_ble_eq_true rfl) (by rw [wI_o, wI_2]; exact (me_0 F _ _)) (fun o' h' => ⟨wI_ne _ _ _ h', rfl⟩) rfl (by first | rfl | decide) (by first | rfl | decide) hF_X12_296 dX12_begins_10 (fun σ1 => ?_)
  exact j_vret2 C Q dX12_begins_13
set_option maxRecDepth 100000 in
set_option maxHeartbeats 4000000 in
theorem c_X12_begins {E : EnvT} {cs : Nat → ClassId} (F : MF E cs) {σ : Mem} {p1 : Int32} {r : Mem} (h : X12_begins σ p1 = some r) : CT E yX12_begins cX12_begins 2 none rm_X12_begins [.ref (eAd E 0), .int p1] σ (RQv r) :=
  ct_M F (by decide) (Nat.le_of_ble_eq_true rfl) (fun E' ea F' C Q => by rw [← ea]; exact m_X12_begins F'  C Q h)
theorem dd_X12_begins : yX12_begins.cls ≠ "java/lang/invoke/MethodHandle" ∧ yX12_begins.cls ≠ "java/lang/invoke/VarHandle" ∧ (parseMethodDescriptor yX12_begins.desc).map (fun d => d.parameters.length) = some 1 := by decide +kernel
def X12_tell (σ : Mem) (p1 : Int32) : Option (Int32 × Mem) :=
  bindo (X12_isStep σ p1) (fun r2 =>
  if ¬ r2 = (0 : Int32) then
  (chk (inb p1 30) (
  lete (σ.1 3 (ix p1)) (fun x4 =>
  if x4 = (0 : Int32) then
  (bindo (X12_begins σ (1 : Int32)) (fun σ6 =>
  chk (inb p1 30) (
  some ((σ6.1 4 (ix p1)), σ6))))
  else
  if x4 = (1 : Int32) then
  (bindo (X12_begins σ (2 : Int32)) (fun σ9 =>
  bindo (X12_begins σ9 (1 : Int32)) (fun σ11 =>
  chk (inb p1 30) (
  some (((10 : Int32) * (σ11.1 4 (ix p1))), σ11)))))
  else
  if x4 = (2 : Int32) then
  (bindo (X12_begins σ (3 : Int32)) (fun σ14 =>
  bindo (X12_begins σ14 (1 : Int32)) (fun σ16 =>
  chk (inb p1 30) (
  chk (inb p1 30) (
  some (((σ16.1 4 (ix p1)) + (σ16.1 6 (ix p1))), σ16))))))
  else
  (bindo (X12_begins σ (4 : Int32)) (fun σ20 =>
  some ((7 : Int32), σ20))))))
  else
  (some ((-1 : Int32), σ)))
abbrev rm_X12_tell : Room := { frames := 1, cells := 0, slots := 0, locals := 21 }
set_option maxRecDepth 100000 in
set_option maxHeartbeats 4000000 in
theorem m_X12_tell {E : EnvT} {cs : Nat → ClassId} (F : MF E cs) {p1 : Int32} {σ : Mem} (C : CX E cX12_tell RX12 2 rm_X12_tell) {r0 : Int32 × Mem} (Q : QE E 0 0 (some .int) (RQi r0.1 r0.2)) : J E 2 0 0 r0 (X12_tell σ p1) σ 0 [(0, .ref (eAd E 0)), (1, .int p1)] [] := by

  unfold X12_tell
  refine j_aload_n C dX12_tell_0 0 rfl ?_
  refine j_iload_n C dX12_tell_1 1 rfl ?_
  refine j_bind (fun r2 h1 => ?_)
  refine j_callVi (ci := 12) C [.int p1] (c_X12_isStep F h1) hM_X12_160 hI_X12_isStep hS_X12_isStep hZ_X12 hC_X12_isStep (min_ F (by decide)) (me_0 F _ _) rfl rfl dd_X12_isStep (by decide) ⟨rfl, rfl⟩ (by decide) (Nat.le_of_ble_eq_true rfl) dX12_tell_2 rfl ?_
  refine j_if_ne C 10 dX12_tell_5 (by decide) ?_ ?_
  · refine j_aload_n C dX12_tell_10 0 rfl ?_
    refine j_get (ci := 12) C hU_X12 rfl (min_ F (by decide)) (me_0 F _ _) 14 (by decide) rfl hF_X12_23 dX12_tell_11 ?_
    refine j_iload_n C dX12_tell_14 1 rfl ?_
    refine j_chk (fun h3 => ?_)
    refine j_iald (t0 := 0) C (min_ F (by decide)) (me_3 F _ _) (mt0 F) (inb_in h3) dX12_tell_15 ?_
    refine j_nmi (fun x4 => ?_)
    refine j_ite (fun q0 => ?_) (fun q0 => ?_)
    · refine j_tsIn C (0 : Int32) 44 dX12_tell_16 q0 (by decide) (by decide) rfl (by decide) ?_
      refine j_aload_n C dX12_tell_44 0 rfl ?_
      refine j_iconst C (1 : Int32) dX12_tell_45 (by decide) ?_
      refine j_bind (fun σ6 h5 => ?_)
      refine j_callVv (ci := 12) C [.int (1 : Int32)] (c_X12_begins F h5) hM_X12_299 hI_X12_begins hS_X12_begins hZ_X12 hC_X12_begins (min_ F (by decide)) (me_0 F _ _) rfl rfl dd_X12_begins (by decide) ⟨rfl, rfl⟩ (by decide) (Nat.le_of_ble_eq_true rfl) dX12_tell_46 rfl ?_
      refine j_aload_n C dX12_tell_49 0 rfl ?_
      refine j_get (ci := 12) C hU_X12 rfl (min_ F (by decide)) (me_0 F _ _) 15 (by decide) rfl hF_X12_26 dX12_tell_50 ?_
      refine j_iload_n C dX12_tell_53 1 rfl ?_
      refine j_chk (fun h7 => ?_)
      refine j_iald (t0 := 0) C (min_ F (by decide)) (me_4 F _ _) (mt0 F) (inb_in h7) dX12_tell_54 ?_
      exact j_ireti2 C Q dX12_tell_55
    refine j_ite (fun q1 => ?_) (fun q1 => ?_)
    · refine j_tsIn C (1 : Int32) 56 dX12_tell_16 q1 (by decide) (by decide) rfl (by decide) ?_
      refine j_aload_n C dX12_tell_56 0 rfl ?_
      refine j_iconst C (2 : Int32) dX12_tell_57 (by decide) ?_
      refine j_bind (fun σ9 h8 => ?_)
      refine j_callVv (ci := 12) C [.int (2 : Int32)] (c_X12_begins F h8) hM_X12_299 hI_X12_begins hS_X12_begins hZ_X12 hC_X12_begins (min_ F (by decide)) (me_0 F _ _) rfl rfl dd_X12_begins (by decide) ⟨rfl, rfl⟩ (by decide) (Nat.le_of_ble_eq_true rfl) dX12_tell_58 rfl ?_
      refine j_aload_n C dX12_tell_61 0 rfl ?_
      refine j_iconst C (1 : Int32) dX12_tell_62 (by decide) ?_
      refine j_bind (fun σ11 h10 => ?_)
      refine j_callVv (ci := 12) C [.int (1 : Int32)] (c_X12_begins F h10) hM_X12_299 hI_X12_begins hS_X12_begins hZ_X12 hC_X12_begins (min_ F (by decide)) (me_0 F _ _) rfl rfl dd_X12_begins (by decide) ⟨rfl, rfl⟩ (by decide) (Nat.le_of_ble_eq_true rfl) dX12_tell_63 rfl ?_
      refine j_bipush C (10 : Int32) dX12_tell_66 (by decide) ?_
      refine j_aload_n C dX12_tell_68 0 rfl ?_
      refine j_get (ci := 12) C hU_X12 rfl (min_ F (by decide)) (me_0 F _ _) 15 (by decide) rfl hF_X12_26 dX12_tell_69 ?_
      refine j_iload_n C dX12_tell_72 1 rfl ?_
      refine j_chk (fun h12 => ?_)
      refine j_iald (t0 := 0) C (min_ F (by decide)) (me_4 F _ _) (mt0 F) (inb_in h12) dX12_tell_73 ?_
      refine j_imul C dX12_tell_74 ?_
      exact j_ireti2 C Q dX12_tell_75
    refine j_ite (fun q2 => ?_) (fun q2 => ?_)
    · refine j_tsIn C (2 : Int32) 76 dX12_tell_16 q2 (by decide) (by decide) rfl (by decide) ?_
      refine j_aload_n C dX12_tell_76 0 rfl ?_
      refine j_iconst C (3 : Int32) dX12_tell_77 (by decide) ?_
      refine j_bind (fun σ14 h13 => ?_)
      refine j_callVv (ci := 12) C [.int (3 : Int32)] (c_X12_begins F h13) hM_X12_299 hI_X12_begins hS_X12_begins hZ_X12 hC_X12_begins (min_ F (by decide)) (me_0 F _ _) rfl rfl dd_X12_begins (by decide) ⟨rfl, rfl⟩ (by decide) (Nat.le_of_ble_eq_true rfl) dX12_tell_78 rfl ?_
      refine j_aload_n C dX12_tell_81 0 rfl ?_
      refine j_iconst C (1 : Int32) dX12_tell_82 (by decide) ?_
      refine j_bind (fun σ16 h15 => ?_)
      refine j_callVv (ci := 12) C [.int (1 : Int32)] (c_X12_begins F h15) hM_X12_299 hI_X12_begins hS_X12_begins hZ_X12 hC_X12_begins (min_ F (by decide)) (me_0 F _ _) rfl rfl dd_X12_begins (by decide) ⟨rfl, rfl⟩ (by decide) (Nat.le_of_ble_eq_true rfl) dX12_tell_83 rfl ?_
      refine j_aload_n C dX12_tell_86 0 rfl ?_
      refine j_get (ci := 12) C hU_X12 rfl (min_ F (by decide)) (me_0 F _ _) 15 (by decide) rfl hF_X12_26 dX12_tell_87 ?_
      refine j_iload_n C dX12_tell_90 1 rfl ?_
      refine j_chk (fun h17 => ?_)
      refine j_iald (t0 := 0) C (min_ F (by decide)) (me_4 F _ _) (mt0 F) (inb_in h17) dX12_tell_91 ?_
      refine j_aload_n C dX12_tell_92 0 rfl ?_
      refine j_get (ci := 12) C hU_X12 rfl (min_ F (by decide)) (me_0 F _ _) 17 (by decide) rfl hF_X12_32 dX12_tell_93 ?_
      refine j_iload_n C dX12_tell_96 1 rfl ?_
      refine j_chk (fun h18 => ?_)
      refine j_iald (t0 := 0) C (min_ F (by decide)) (me_6 F _ _) (mt0 F) (inb_in h18) dX12_tell_97 ?_
      refine j_iadd C dX12_tell_98 ?_
      exact j_ireti2 C Q dX12_tell_99
    refine j_tsOut C 100 dX12_tell_16 (by have z0 := lv_neT (k := (0 : Int32)) (a := 0) q0 (by decide); have z1 := lv_neT (k := (1 : Int32)) (a := 1) q1 (by decide); have z2 := lv_neT (k := (2 : Int32)) (a := 2) q2 (by decide); omega) (by decide) ?_
    refine j_aload_n C dX12_tell_100 0 rfl ?_
    refine j_iconst C (4 : Int32) dX12_tell_101 (by decide) ?_
    refine j_bind (fun σ20 h19 => ?_)
    refine j_callVv (ci := 12) C [.int (4 : Int32)] (c_X12_begins F h19) hM_X12_299 hI_X12_begins hS_X12_begins hZ_X12 hC_X12_begins (min_ F (by decide)) (me_0 F _ _) rfl rfl dd_X12_begins (by decide) ⟨rfl, rfl⟩ (by decide) (Nat.le_of_ble_eq_true rfl) dX12_tell_102 rfl ?_
    refine j_bipush C (7 : Int32) dX12_tell_105 (by decide) ?_
    exact j_ireti2 C Q dX12_tell_107
  · refine j_iconst C (-1 : Int32) dX12_tell_8 (by decide) ?_
    exact j_ireti2 C Q dX12_tell_9
set_option maxRecDepth 100000 in
set_option maxHeartbeats 4000000 in
theorem c_X12_tell {E : EnvT} {cs : Nat → ClassId} (F : MF E cs) {σ : Mem} {p1 : Int32} {r : Int32 × Mem} (h : X12_tell σ p1 = some r) : CT E yX12_tell cX12_tell 2 (some .int) rm_X12_tell [.ref (eAd E 0), .int p1] σ (RQi r.1 r.2) :=
  ct_M F (by decide) (Nat.le_of_ble_eq_true rfl) (fun E' ea F' C Q => by rw [← ea]; exact m_X12_tell F'  C Q h)
theorem dd_X12_tell : yX12_tell.cls ≠ "java/lang/invoke/MethodHandle" ∧ yX12_tell.cls ≠ "java/lang/invoke/VarHandle" ∧ (parseMethodDescriptor yX12_tell.desc).map (fun d => d.parameters.length) = some 1 := by decide +kernel
def X12_draw_b37 (σ : Mem) (v1 : Int32) (v2 : Int32) (s0 : Int32) : Option (Int32 × Mem) :=
  bindo (X12_begins σ s0) (fun σ2 =>
  if v2 = (0 : Int32) then
  (chk (inb v1 30) (
  some (((100 : Int32) + (σ2.1 3 (ix v1))), σ2)))
  else
  (some ((3 : Int32), σ2)))
def X12_draw_b25 (σ : Mem) (v1 : Int32) (s0 : Int32) : Option (Int32 × Mem) :=
  if s0 = (0 : Int32) then
  (X12_draw_b37 σ v1 s0 (5 : Int32))
  else
  (X12_draw_b37 σ v1 s0 (6 : Int32))
def X12_draw (σ : Mem) (p1 : Int32) : Option (Int32 × Mem) :=
  bindo (X12_isStep σ p1) (fun r2 =>
  if ¬ r2 = (0 : Int32) then
  (chk (inb p1 30) (
  if ¬ (σ.1 3 (ix p1)) = (1 : Int32) then
  (X12_draw_b25 σ p1 (0 : Int32))
  else
  (X12_draw_b25 σ p1 (1 : Int32))))
  else
  (some ((-1 : Int32), σ)))
abbrev rm_X12_draw : Room := { frames := 1, cells := 0, slots := 0, locals := 21 }
set_option maxRecDepth 100000 in
set_option maxHeartbeats 4000000 in
theorem m_X12_draw {E : EnvT} {cs : Nat → ClassId} (F : MF E cs) {p1 : Int32} {σ : Mem} (C : CX E cX12_draw RX12 3 rm_X12_draw) {r0 : Int32 × Mem} (Q : QE E 0 0 (some .int) (RQi r0.1 r0.2)) : J E 3 0 0 r0 (X12_draw σ p1) σ 0 [(0, .ref (eAd E 0)), (1, .int p1)] [] := by
  have hB37 : ∀ (σ : Mem) (v1 : Int32) (v2 : Int32) (s0 : Int32), J E 3 0 0 r0 (X12_draw_b37 σ v1 v2 s0) σ 37 [(0, .ref (eAd E 0)), (1, .int v1), (2, .int v2)] [.int s0, .ref (eAd E 0)] := by
    intro σ v1 v2 s0
    unfold X12_draw_b37
    refine j_bind (fun σ2 h1 => ?_)
    refine j_callVv (ci := 12) C [.int s0] (c_X12_begins F h1) hM_X12_299 hI_X12_begins hS_X12_begins hZ_X12 hC_X12_begins (min_ F (by decide)) (me_0 F _ _) rfl rfl dd_X12_begins (by decide) ⟨rfl, rfl⟩ (by decide) (Nat.le_of_ble_eq_true rfl) dX12_draw_37 rfl ?_
    refine j_iload_n C dX12_draw_40 2 rfl ?_
    refine j_if_eq C 48 dX12_draw_41 (by decide) ?_ ?_
    · refine j_bipush C (100 : Int32) dX12_draw_48 (by decide) ?_
      refine j_aload_n C dX12_draw_50 0 rfl ?_
      refine j_get (ci := 12) C hU_X12 rfl (min_ F (by decide)) (me_0 F _ _) 14 (by decide) rfl hF_X12_23 dX12_draw_51 ?_
      refine j_iload_n C dX12_draw_54 1 rfl ?_
      refine j_chk (fun h3 => ?_)
      refine j_iald (t0 := 0) C (min_ F (by decide)) (me_3 F _ _) (mt0 F) (inb_in h3) dX12_draw_55 ?_
      refine j_iadd C dX12_draw_56 ?_
      exact j_ireti2 C Q dX12_draw_57
    · refine j_iconst C (3 : Int32) dX12_draw_44 (by decide) ?_
      refine j_goto C 57 dX12_draw_45 (by decide) ?_
      exact j_ireti2 C Q dX12_draw_57
  have hB25 : ∀ (σ : Mem) (v1 : Int32) (s0 : Int32), J E 3 0 0 r0 (X12_draw_b25 σ v1 s0) σ 25 [(0, .ref (eAd E 0)), (1, .int v1)] [.int s0] := by
    intro σ v1 s0
    unfold X12_draw_b25
    refine j_istore_n (lv' := [(2, .int s0), (0, .ref (eAd E 0)), (1, .int v1)]) C dX12_draw_25 (by decide) rfl ?_
    refine j_aload_n C dX12_draw_26 1 rfl ?_
    refine j_iload_n C dX12_draw_27 0 rfl ?_
    refine j_if_eq C 36 dX12_draw_28 (by decide) ?_ ?_
    · refine j_iconst C (5 : Int32) dX12_draw_36 (by decide) ?_
      refine j_lv [(0, .ref (eAd E 0)), (1, .int v1), (2, .int s0)] [1, 2, 0] rfl ?_
      exact hB37 σ v1 s0 (5 : Int32)
    · refine j_bipush C (6 : Int32) dX12_draw_31 (by decide) ?_
      refine j_goto C 37 dX12_draw_33 (by decide) ?_
      refine j_lv [(0, .ref (eAd E 0)), (1, .int v1), (2, .int s0)] [1, 2, 0] rfl ?_
      exact hB37 σ v1 s0 (6 : Int32)
  unfold X12_draw
  refine j_aload_n C dX12_draw_0 0 rfl ?_
  refine j_iload_n C dX12_draw_1 1 rfl ?_
  refine j_bind (fun r2 h1 => ?_)
  refine j_callVi (ci := 12) C [.int p1] (c_X12_isStep F h1) hM_X12_160 hI_X12_isStep hS_X12_isStep hZ_X12 hC_X12_isStep (min_ F (by decide)) (me_0 F _ _) rfl rfl dd_X12_isStep (by decide) ⟨rfl, rfl⟩ (by decide) (Nat.le_of_ble_eq_true rfl) dX12_draw_2 rfl ?_
  refine j_if_ne C 10 dX12_draw_5 (by decide) ?_ ?_
  · refine j_aload_n C dX12_draw_10 0 rfl ?_
    refine j_get (ci := 12) C hU_X12 rfl (min_ F (by decide)) (me_0 F _ _) 14 (by decide) rfl hF_X12_23 dX12_draw_11 ?_
    refine j_iload_n C dX12_draw_14 1 rfl ?_
    refine j_chk (fun h3 => ?_)
    refine j_iald (t0 := 0) C (min_ F (by decide)) (me_3 F _ _) (mt0 F) (inb_in h3) dX12_draw_15 ?_
    refine j_iconst C (1 : Int32) dX12_draw_16 (by decide) ?_
    refine j_icmp_ne C 24 dX12_draw_17 (by decide) ?_ ?_
    · refine j_iconst C (0 : Int32) dX12_draw_24 (by decide) ?_
      refine j_lv [(0, .ref (eAd E 0)), (1, .int p1)] [0, 1] rfl ?_
      exact hB25 σ p1 (0 : Int32)
    · refine j_iconst C (1 : Int32) dX12_draw_20 (by decide) ?_
      refine j_goto C 25 dX12_draw_21 (by decide) ?_
      refine j_lv [(0, .ref (eAd E 0)), (1, .int p1)] [0, 1] rfl ?_
      exact hB25 σ p1 (1 : Int32)
  · refine j_iconst C (-1 : Int32) dX12_draw_8 (by decide) ?_
    exact j_ireti2 C Q dX12_draw_9
set_option maxRecDepth 100000 in
set_option maxHeartbeats 4000000 in
theorem c_X12_draw {E : EnvT} {cs : Nat → ClassId} (F : MF E cs) {σ : Mem} {p1 : Int32} {r : Int32 × Mem} (h : X12_draw σ p1 = some r) : CT E yX12_draw cX12_draw 3 (some .int) rm_X12_draw [.ref (eAd E 0), .int p1] σ (RQi r.1 r.2) :=
  ct_M F (by decide) (Nat.le_of_ble_eq_true rfl) (fun E' ea F' C Q => by rw [← ea]; exact m_X12_draw F'  C Q h)
theorem dd_X12_draw : yX12_draw.cls ≠ "java/lang/invoke/MethodHandle" ∧ yX12_draw.cls ≠ "java/lang/invoke/VarHandle" ∧ (parseMethodDescriptor yX12_draw.desc).map (fun d => d.parameters.length) = some 1 := by decide +kernel
def X12_as_b71 (σ : Mem) (s0 : Int32) : Option (Int32 × Mem) :=
  if s0 = (0 : Int32) then
  (bindo (X12_fails σ (2 : Int32)) (fun a2 =>
  some (a2.1, a2.2)))
  else
  (some ((1 : Int32), σ))
def X12_as_b66 (σ : Mem) : Option (Int32 × Mem) :=
  X12_as_b71 σ (1 : Int32)
def X12_as_b70 (σ : Mem) : Option (Int32 × Mem) :=
  X12_as_b71 σ (0 : Int32)
def X12_as_b56 (σ : Mem) (v2 : Int32) (v3 : Int32) : Option (Int32 × Mem) :=
  if ¬ v2 = (3 : Int32) then
  (X12_as_b70 σ)
  else
  (if ¬ v3 = (4 : Int32) then
  (X12_as_b70 σ)
  else
  (X12_as_b66 σ))
def X12_as (σ : Mem) (p1 : Int32) (p2 : Int32) : Option (Int32 × Mem) :=
  lete (wI σ 0 0 (0 : Int32)) (fun σ1 =>
  bindo (X12_isStep σ1 p1) (fun r3 =>
  if ¬ r3 = (0 : Int32) then
  (bindo (X12_within (p2.toInt64) (0 : Int64) (4 : Int64)) (fun r5 =>
  if ¬ r5 = (0 : Int32) then
  (chk (inb p1 30) (
  lete (σ1.1 3 (ix p1)) (fun x7 =>
  if p2 = x7 then
  (X12_as_b66 σ1)
  else
  (if ¬ p2 = (0 : Int32) then
  (X12_as_b56 σ1 p2 x7)
  else
  (if x7 = (1 : Int32) then
  (X12_as_b66 σ1)
  else
  (if x7 = (2 : Int32) then
  (X12_as_b66 σ1)
  else
  (X12_as_b56 σ1 p2 x7)))))))
  else
  (some ((-2 : Int32), σ1))))
  else
  (some ((-1 : Int32), σ1))))
abbrev rm_X12_as : Room := { frames := 1, cells := 0, slots := 0, locals := 25 }
set_option maxRecDepth 100000 in
set_option maxHeartbeats 4000000 in
theorem m_X12_as {E : EnvT} {cs : Nat → ClassId} (F : MF E cs) {p1 : Int32} {p2 : Int32} {σ : Mem} (C : CX E cX12_as RX12 5 rm_X12_as) {r0 : Int32 × Mem} (Q : QE E 0 0 (some .int) (RQi r0.1 r0.2)) : J E 5 0 0 r0 (X12_as σ p1 p2) σ 0 [(0, .ref (eAd E 0)), (1, .int p1), (2, .int p2)] [] := by
  have hB71 : ∀ (σ : Mem) (s0 : Int32), J E 5 0 0 r0 (X12_as_b71 σ s0) σ 71 [(0, .ref (eAd E 0))] [.int s0] := by
    intro σ s0
    unfold X12_as_b71
    refine j_istore (lv' := [(4, .int s0), (0, .ref (eAd E 0))]) C dX12_as_71 (by decide) rfl ?_
    refine j_iload C dX12_as_73 0 rfl ?_
    refine j_if_eq C 82 dX12_as_75 (by decide) ?_ ?_
    · refine j_aload_n C dX12_as_82 1 rfl ?_
      refine j_iconst C (2 : Int32) dX12_as_83 (by decide) ?_
      refine j_bind (fun a2 h1 => ?_)
      refine j_callVi (ci := 12) C [.int (2 : Int32)] (c_X12_fails F h1) hM_X12_154 hI_X12_fails hS_X12_fails hZ_X12 hC_X12_fails (min_ F (by decide)) (me_0 F _ _) rfl rfl dd_X12_fails (by decide) ⟨rfl, rfl⟩ (by decide) (Nat.le_of_ble_eq_true rfl) dX12_as_84 rfl ?_
      exact j_ireti2 C Q dX12_as_87
    · refine j_iconst C (1 : Int32) dX12_as_78 (by decide) ?_
      refine j_goto C 87 dX12_as_79 (by decide) ?_
      exact j_ireti2 C Q dX12_as_87
  have hB66 : ∀ (σ : Mem), J E 5 0 0 r0 (X12_as_b66 σ) σ 66 [(0, .ref (eAd E 0))] [] := by
    intro σ
    unfold X12_as_b66
    refine j_iconst C (1 : Int32) dX12_as_66 (by decide) ?_
    refine j_goto C 71 dX12_as_67 (by decide) ?_
    refine j_lv [(0, .ref (eAd E 0))] [0] rfl ?_
    exact hB71 σ (1 : Int32)
  have hB70 : ∀ (σ : Mem), J E 5 0 0 r0 (X12_as_b70 σ) σ 70 [(0, .ref (eAd E 0))] [] := by
    intro σ
    unfold X12_as_b70
    refine j_iconst C (0 : Int32) dX12_as_70 (by decide) ?_
    refine j_lv [(0, .ref (eAd E 0))] [0] rfl ?_
    exact hB71 σ (0 : Int32)
  have hB56 : ∀ (σ : Mem) (v2 : Int32) (v3 : Int32), J E 5 0 0 r0 (X12_as_b56 σ v2 v3) σ 56 [(0, .ref (eAd E 0)), (2, .int v2), (3, .int v3)] [] := by
    intro σ v2 v3
    unfold X12_as_b56
    refine j_iload_n C dX12_as_56 1 rfl ?_
    refine j_iconst C (3 : Int32) dX12_as_57 (by decide) ?_
    refine j_icmp_ne C 70 dX12_as_58 (by decide) ?_ ?_
    · refine j_lv [(0, .ref (eAd E 0))] [0] rfl ?_
      exact hB70 σ
    · refine j_iload_n C dX12_as_61 2 rfl ?_
      refine j_iconst C (4 : Int32) dX12_as_62 (by decide) ?_
      refine j_icmp_ne C 70 dX12_as_63 (by decide) ?_ ?_
      · refine j_lv [(0, .ref (eAd E 0))] [0] rfl ?_
        exact hB70 σ
      · refine j_lv [(0, .ref (eAd E 0))] [0] rfl ?_
        exact hB66 σ
  unfold X12_as
  refine j_aload_n C dX12_as_0 0 rfl ?_
  refine j_iconst C (0 : Int32) dX12_as_1 (by decide) ?_
  refine j_put (ci := 12) C hU_X12 tyX12_ok nmX12 rfl (min_ F (by decide)) (me_0 F _ _) 0 (by decide) (Nat.le_of_ble_eq_true rfl) (by rw [wI_o, wI_2]; exact (me_0 F _ _)) (fun o' h' => ⟨wI_ne _ _ _ h', rfl⟩) rfl (by first | rfl | decide) (by first | rfl | decide) hF_X12_103 dX12_as_2 (fun σ1 => ?_)
  refine j_aload_n C dX12_as_5 0 rfl ?_
  refine j_iload_n C dX12_as_6 1 rfl ?_
  refine j_bind (fun r3 h2 => ?_)
  refine j_callVi (ci := 12) C [.int p1] (c_X12_isStep F h2) hM_X12_160 hI_X12_isStep hS_X12_isStep hZ_X12 hC_X12_isStep (min_ F (by decide)) (me_0 F _ _) rfl rfl dd_X12_isStep (by decide) ⟨rfl, rfl⟩ (by decide) (Nat.le_of_ble_eq_true rfl) dX12_as_7 rfl ?_
  refine j_if_ne C 15 dX12_as_10 (by decide) ?_ ?_
  · refine j_iload_n C dX12_as_15 2 rfl ?_
    refine j_i2l C dX12_as_16 ?_
    refine j_lconst C (0 : Int64) dX12_as_17 (by decide) ?_
    refine j_ldc2 C hK_X12_158 dX12_as_18 ?_
    refine j_bind (fun r5 h4 => ?_)
    refine j_callSi C [.long (p2.toInt64), .long (0 : Int64), .long (4 : Int64)] (c_X12_within F h4) hM_X12_110 hT_X12_within hZ_X12 hC_X12_within dd_X12_within (by decide) ⟨rfl, rfl⟩ (by decide) (Nat.le_of_ble_eq_true rfl) dX12_as_21 rfl ?_
    refine j_if_ne C 30 dX12_as_24 (by decide) ?_ ?_
    · refine j_aload_n C dX12_as_30 0 rfl ?_
      refine j_get (ci := 12) C hU_X12 rfl (min_ F (by decide)) (me_0 F _ _) 14 (by decide) rfl hF_X12_23 dX12_as_31 ?_
      refine j_iload_n C dX12_as_34 1 rfl ?_
      refine j_chk (fun h6 => ?_)
      refine j_iald (t0 := 0) C (min_ F (by decide)) (me_3 F _ _) (mt0 F) (inb_in h6) dX12_as_35 ?_
      refine j_nmi (fun x7 => ?_)
      refine j_istore_n (lv' := [(3, .int x7), (0, .ref (eAd E 0)), (1, .int p1), (2, .int p2)]) C dX12_as_36 (by decide) rfl ?_
      refine j_iload_n C dX12_as_37 3 rfl ?_
      refine j_iload_n C dX12_as_38 0 rfl ?_
      refine j_icmp_eq C 66 dX12_as_39 (by decide) ?_ ?_
      · refine j_lv [(0, .ref (eAd E 0))] [1] rfl ?_
        exact hB66 σ1
      · refine j_iload_n C dX12_as_42 3 rfl ?_
        refine j_if_ne C 56 dX12_as_43 (by decide) ?_ ?_
        · refine j_lv [(0, .ref (eAd E 0)), (2, .int p2), (3, .int x7)] [1, 3, 0] rfl ?_
          exact hB56 σ1 p2 x7
        · refine j_iload_n C dX12_as_46 0 rfl ?_
          refine j_iconst C (1 : Int32) dX12_as_47 (by decide) ?_
          refine j_icmp_eq C 66 dX12_as_48 (by decide) ?_ ?_
          · refine j_lv [(0, .ref (eAd E 0))] [1] rfl ?_
            exact hB66 σ1
          · refine j_iload_n C dX12_as_51 0 rfl ?_
            refine j_iconst C (2 : Int32) dX12_as_52 (by decide) ?_
            refine j_icmp_eq C 66 dX12_as_53 (by decide) ?_ ?_
            · refine j_lv [(0, .ref (eAd E 0))] [1] rfl ?_
              exact hB66 σ1
            · refine j_lv [(0, .ref (eAd E 0)), (2, .int p2), (3, .int x7)] [1, 3, 0] rfl ?_
              exact hB56 σ1 p2 x7
    · refine j_bipush C (-2 : Int32) dX12_as_27 (by decide) ?_
      exact j_ireti2 C Q dX12_as_29
  · refine j_iconst C (-1 : Int32) dX12_as_13 (by decide) ?_
    exact j_ireti2 C Q dX12_as_14
set_option maxRecDepth 100000 in
set_option maxHeartbeats 4000000 in
theorem c_X12_as {E : EnvT} {cs : Nat → ClassId} (F : MF E cs) {σ : Mem} {p1 : Int32} {p2 : Int32} {r : Int32 × Mem} (h : X12_as σ p1 p2 = some r) : CT E yX12_as cX12_as 5 (some .int) rm_X12_as [.ref (eAd E 0), .int p1, .int p2] σ (RQi r.1 r.2) :=
  ct_M F (by decide) (Nat.le_of_ble_eq_true rfl) (fun E' ea F' C Q => by rw [← ea]; exact m_X12_as F'  C Q h)
theorem dd_X12_as : yX12_as.cls ≠ "java/lang/invoke/MethodHandle" ∧ yX12_as.cls ≠ "java/lang/invoke/VarHandle" ∧ (parseMethodDescriptor yX12_as.desc).map (fun d => d.parameters.length) = some 2 := by decide +kernel
def X12_trace (σ : Mem) : Option (Int32) :=
  some (σ.1 0 1)
abbrev rm_X12_trace : Room := { frames := 0, cells := 0, slots := 0, locals := 0 }
set_option maxRecDepth 100000 in
set_option maxHeartbeats 4000000 in
theorem m_X12_trace {E : EnvT} {cs : Nat → ClassId} (F : MF E cs) {σ : Mem} (C : CX E cX12_trace RX12 1 rm_X12_trace) {r0 : Int32} (Q : QE E 0 0 (some .int) (RQi r0 σ)) : J E 1 0 0 r0 (X12_trace σ) σ 0 [(0, .ref (eAd E 0))] [] := by

  unfold X12_trace
  refine j_aload_n C dX12_trace_0 0 rfl ?_
  refine j_get (ci := 12) C hU_X12 rfl (min_ F (by decide)) (me_0 F _ _) 1 (by decide) rfl hF_X12_296 dX12_trace_1 ?_
  exact j_ireti C Q dX12_trace_4
set_option maxRecDepth 100000 in
set_option maxHeartbeats 4000000 in
theorem c_X12_trace {E : EnvT} {cs : Nat → ClassId} (F : MF E cs) {σ : Mem} {r : Int32} (h : X12_trace σ = some r) : CT E yX12_trace cX12_trace 1 (some .int) rm_X12_trace [.ref (eAd E 0)] σ (RQi r σ) :=
  ct_M F (by decide) (Nat.le_of_ble_eq_true rfl) (fun E' ea F' C Q => by rw [← ea]; exact m_X12_trace F'  C Q h)
theorem dd_X12_trace : yX12_trace.cls ≠ "java/lang/invoke/MethodHandle" ∧ yX12_trace.cls ≠ "java/lang/invoke/VarHandle" ∧ (parseMethodDescriptor yX12_trace.desc).map (fun d => d.parameters.length) = some 0 := by decide +kernel
def X12_fault (σ : Mem) : Option (Int32) :=
  some (σ.1 0 0)
abbrev rm_X12_fault : Room := { frames := 0, cells := 0, slots := 0, locals := 0 }
set_option maxRecDepth 100000 in
set_option maxHeartbeats 4000000 in
theorem m_X12_fault {E : EnvT} {cs : Nat → ClassId} (F : MF E cs) {σ : Mem} (C : CX E cX12_fault RX12 1 rm_X12_fault) {r0 : Int32} (Q : QE E 0 0 (some .int) (RQi r0 σ)) : J E 1 0 0 r0 (X12_fault σ) σ 0 [(0, .ref (eAd E 0))] [] := by

  unfold X12_fault
  refine j_aload_n C dX12_fault_0 0 rfl ?_
  refine j_get (ci := 12) C hU_X12 rfl (min_ F (by decide)) (me_0 F _ _) 0 (by decide) rfl hF_X12_103 dX12_fault_1 ?_
  exact j_ireti C Q dX12_fault_4
set_option maxRecDepth 100000 in
set_option maxHeartbeats 4000000 in
theorem c_X12_fault {E : EnvT} {cs : Nat → ClassId} (F : MF E cs) {σ : Mem} {r : Int32} (h : X12_fault σ = some r) : CT E yX12_fault cX12_fault 1 (some .int) rm_X12_fault [.ref (eAd E 0)] σ (RQi r σ) :=
  ct_M F (by decide) (Nat.le_of_ble_eq_true rfl) (fun E' ea F' C Q => by rw [← ea]; exact m_X12_fault F'  C Q h)
theorem dd_X12_fault : yX12_fault.cls ≠ "java/lang/invoke/MethodHandle" ∧ yX12_fault.cls ≠ "java/lang/invoke/VarHandle" ∧ (parseMethodDescriptor yX12_fault.desc).map (fun d => d.parameters.length) = some 0 := by decide +kernel
