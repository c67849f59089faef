/-! THE LOOP of the law -/
set_option maxRecDepth 100000 in
set_option maxHeartbeats 4000000 in
theorem law_turn {E : EnvT} {cs : Nat → ClassId} {b L i n kc ks : Nat} {xs : Nat → Int32} {adx adm : Nat → Nat} {σ τ : Mem} (C : CX E cL_law RL 4 room_1) (hO : EAO E) (hT : eTys E = wTys cs) (hX : SC E b L xs) (hL : L ≤ 3072) (hi : i + 6 ≤ L) (hR : RelE n σ τ) (hk : kc + 1 ≤ room_1.cells ∧ ks + 8 ≤ room_1.slots) (k : ∀ (n' : Nat) (u : Nat → Nat) (σ' τ' : Mem), u 0 = adx 0 → RelE n' σ' τ' → GW E 4 (kc + 1) (ks + 8) (LW n' u adm cs σ' τ') 1204 (LVL b i adx adm) []) : GW E 4 kc ks (LW n adx adm cs σ τ) 27 (LVL b i adx adm) [] := by
  have hk0 : kc ≤ room_1.cells ∧ ks ≤ room_1.slots := ⟨Nat.le_of_succ_le hk.1, Nat.le_trans (Nat.le_add_right _ _) hk.2⟩
  have k0 : ∀ σ' τ' : Mem, RelE n σ' τ' → GW E 4 kc ks (LW n adx adm cs σ' τ') 1204 (LVL b i adx adm) [] := fun σ' τ' h => w_widen (Nat.le_add_right _ _) (Nat.le_add_right _ _) (k n adx σ' τ' rfl h)
  refine w_aload_n C dL_law_27 3 rfl ?_
  refine w_iload_n C dL_law_28 0 rfl ?_
  refine w_sld C hX hL (by omega) dL_law_29 ?_
  refine w_bipush C (63 : Int32) dL_law_30 (by decide) ?_
  obtain ⟨j, hj, e⟩ := pk_andE (xs i) (m := 63) 6 (by decide)
  refine w_iand (v := nI j) C dL_law_32 e ?_
  clear e
  rcases (show j = 0 ∨ j = 1 ∨ j = 2 ∨ j = 3 ∨ j = 4 ∨ j = 5 ∨ j = 6 ∨ j = 7 ∨ j = 8 ∨ j = 9 ∨ j = 10 ∨ j = 11 ∨ j = 12 ∨ j = 13 ∨ j = 14 ∨ j = 15 ∨ j = 16 ∨ j = 17 ∨ j = 18 ∨ j = 19 ∨ j = 20 ∨ j = 21 ∨ j = 22 ∨ j = 23 ∨ j = 24 ∨ j = 25 ∨ j = 26 ∨ j = 27 ∨ j = 28 ∨ j = 29 ∨ j = 30 ∨ j = 31 ∨ j = 32 ∨ 33 ≤ j by omega) with rfl | rfl | rfl | rfl | rfl | rfl | rfl | rfl | rfl | rfl | rfl | rfl | rfl | rfl | rfl | rfl | rfl | rfl | rfl | rfl | rfl | rfl | rfl | rfl | rfl | rfl | rfl | rfl | rfl | rfl | rfl | rfl | rfl |  hj2
  · refine w_tsIn C (0 : Int32) 180 dL_law_33 rfl (by decide) (by decide) rfl (by decide) ?_
    exact lc_map C hT hX hL hi hR hk0 k0
  · refine w_tsIn C (1 : Int32) 213 dL_law_33 rfl (by decide) (by decide) rfl (by decide) ?_
    exact lc_torque C hT hX hL hi hR hk0 k0
  · refine w_tsIn C (2 : Int32) 247 dL_law_33 rfl (by decide) (by decide) rfl (by decide) ?_
    exact lc_lag C hT hX hL hi hR hk0 k0
  · refine w_tsIn C (3 : Int32) 270 dL_law_33 rfl (by decide) (by decide) rfl (by decide) ?_
    exact lc_step C hT hX hL hi hR hk0 k0
  · refine w_tsIn C (4 : Int32) 323 dL_law_33 rfl (by decide) (by decide) rfl (by decide) ?_
    exact lc_load C hT hX hL hi hR hk0 k0
  · refine w_tsIn C (5 : Int32) 376 dL_law_33 rfl (by decide) (by decide) rfl (by decide) ?_
    exact lc_clear C hT hX hL hi hR hk0 k0
  · refine w_tsIn C (6 : Int32) 389 dL_law_33 rfl (by decide) (by decide) rfl (by decide) ?_
    exact lc_stepped C hT hX hL hi hR hk0 k0
  · refine w_tsIn C (7 : Int32) 422 dL_law_33 rfl (by decide) (by decide) rfl (by decide) ?_
    exact lc_start C hT hX hL hi hR hk0 k0
  · refine w_tsIn C (8 : Int32) 435 dL_law_33 rfl (by decide) (by decide) rfl (by decide) ?_
    exact lc_tick C hT hX hL hi hR hk0 k0
  · refine w_tsIn C (9 : Int32) 458 dL_law_33 rfl (by decide) (by decide) rfl (by decide) ?_
    exact lc_stop C hT hX hL hi hR hk0 k0
  · refine w_tsIn C (10 : Int32) 471 dL_law_33 rfl (by decide) (by decide) rfl (by decide) ?_
    exact lc_reset C hT hX hL hi hR hk0 k0
  · refine w_tsIn C (11 : Int32) 484 dL_law_33 rfl (by decide) (by decide) rfl (by decide) ?_
    exact lc_told C hT hX hL hi hR hk0 k0
  · refine w_tsIn C (12 : Int32) 507 dL_law_33 rfl (by decide) (by decide) rfl (by decide) ?_
    exact lc_was C hT hX hL hi hR hk0 k0
  · refine w_tsIn C (13 : Int32) 540 dL_law_33 rfl (by decide) (by decide) rfl (by decide) ?_
    exact lc_mark C hT hX hL hi hR hk0 k0
  · refine w_tsIn C (14 : Int32) 563 dL_law_33 rfl (by decide) (by decide) rfl (by decide) ?_
    exact lc_channel C hO hT hX hL hi hR hk k
  · refine w_tsIn C (15 : Int32) 626 dL_law_33 rfl (by decide) (by decide) rfl (by decide) ?_
    exact lc_limit C hT hX hL hi hR hk0 k0
  · refine w_tsIn C (16 : Int32) 659 dL_law_33 rfl (by decide) (by decide) rfl (by decide) ?_
    exact lc_lose C hT hX hL hi hR hk0 k0
  · refine w_tsIn C (17 : Int32) 702 dL_law_33 rfl (by decide) (by decide) rfl (by decide) ?_
    exact lc_correct C hT hX hL hi hR hk0 k0
  · refine w_tsIn C (18 : Int32) 755 dL_law_33 rfl (by decide) (by decide) rfl (by decide) ?_
    exact lc_other C hT hX hL hi hR hk0 k0
  · refine w_tsIn C (19 : Int32) 778 dL_law_33 rfl (by decide) (by decide) rfl (by decide) ?_
    exact lc_reading C hT hX hL hi hR hk0 k0
  · refine w_tsIn C (20 : Int32) 812 dL_law_33 rfl (by decide) (by decide) rfl (by decide) ?_
    exact lc_state C hT hX hL hi hR hk0 k0
  · refine w_tsIn C (21 : Int32) 845 dL_law_33 rfl (by decide) (by decide) rfl (by decide) ?_
    exact lc_report C hT hX hL hi hR hk0 k0
  · refine w_tsIn C (22 : Int32) 889 dL_law_33 rfl (by decide) (by decide) rfl (by decide) ?_
    exact lc_valid C hT hX hL hi hR hk0 k0
  · refine w_tsIn C (23 : Int32) 912 dL_law_33 rfl (by decide) (by decide) rfl (by decide) ?_
    exact lc_law C hT hX hL hi hR hk0 k0
  · refine w_tsIn C (24 : Int32) 946 dL_law_33 rfl (by decide) (by decide) rfl (by decide) ?_
    exact lc_sheet C hT hX hL hi hR hk0 k0
  · refine w_tsIn C (25 : Int32) 989 dL_law_33 rfl (by decide) (by decide) rfl (by decide) ?_
    exact lc_drop C hT hX hL hi hR hk0 k0
  · refine w_tsIn C (26 : Int32) 1012 dL_law_33 rfl (by decide) (by decide) rfl (by decide) ?_
    exact lc_put C hT hX hL hi hR hk0 k0
  · refine w_tsIn C (27 : Int32) 1055 dL_law_33 rfl (by decide) (by decide) rfl (by decide) ?_
    exact lc_at C hT hX hL hi hR hk0 k0
  · refine w_tsIn C (28 : Int32) 1099 dL_law_33 rfl (by decide) (by decide) rfl (by decide) ?_
    exact lc_tell C hT hX hL hi hR hk0 k0
  · refine w_tsIn C (29 : Int32) 1122 dL_law_33 rfl (by decide) (by decide) rfl (by decide) ?_
    exact lc_draw C hT hX hL hi hR hk0 k0
  · refine w_tsIn C (30 : Int32) 1145 dL_law_33 rfl (by decide) (by decide) rfl (by decide) ?_
    exact lc_as C hT hX hL hi hR hk0 k0
  · refine w_tsIn C (31 : Int32) 1178 dL_law_33 rfl (by decide) (by decide) rfl (by decide) ?_
    exact lc_trace C hT hX hL hi hR hk0 k0
  · refine w_tsIn C (32 : Int32) 1191 dL_law_33 rfl (by decide) (by decide) rfl (by decide) ?_
    exact lc_fault C hT hX hL hi hR hk0 k0
  · refine w_tsOut C 1204 dL_law_33 (Or.inr (by rw [nI_toInt (by omega)]; omega)) (by decide) ?_
    exact k0 σ τ hR
set_option maxRecDepth 100000 in
set_option maxHeartbeats 4000000 in
theorem law_all {E : EnvT} {cs : Nat → ClassId} {b L : Nat} {xs : Nat → Int32} {adm : Nat → Nat} {x0 : Nat} (C : CX E cL_law RL 4 room_1) (hO : EAO E) (hT : eTys E = wTys cs) (hX : SC E b L xs) (hL : L ≤ 3072) (hend : ∀ (kc ks : Nat) (ws : va_W) (lv : List (Nat × Value)), kc ≤ 600000 → ks ≤ 7302250 → GW E 4 kc ks ws 1211 lv [.int 1]) : ∀ (f i n kc ks : Nat) (adx : Nat → Nat) (σ τ : Mem), adx 0 = x0 → L < i + 6 + 6 * f → i ≤ 3072 → kc + f ≤ 600000 → ks + 8 * f ≤ 7302250 → RelE n σ τ → GW E 4 kc ks (LW n adx adm cs σ τ) 18 [(3, .int (nI i)), (2, .ref (adm 0)), (1, .ref x0), (0, .ref b)] [] := by
  intro f
  induction f with
  | zero =>
    intro i n kc ks adx σ τ hx hf hi hk1 hk2 hR
    refine w_iload_n C dL_law_18 0 rfl ?_
    refine w_aload_n C dL_law_19 3 rfl ?_
    refine w_slen C hX dL_law_20 ?_
    refine w_bipush C (6 : Int32) dL_law_21 (by decide) ?_
    refine w_isub (v := nI L - nI 6) C dL_law_23 rfl ?_
    have hs := pk_sub_toInt (a := L) (b := 6) (by omega) (by omega)
    refine w_icmp_gt C 1210 dL_law_24 (by decide) (fun _ => ?_) (fun z => ?_)
    · refine w_iconst C (1 : Int32) dL_law_1210 (by decide) ?_
      exact hend _ _ _ _ (by omega) (by omega)
    · rw [Int32.lt_iff_toInt_lt, hs, nI_toInt (by omega)] at z
      omega
  | succ f ih =>
    intro i n kc ks adx σ τ hx hf hi hk1 hk2 hR
    refine w_iload_n C dL_law_18 0 rfl ?_
    refine w_aload_n C dL_law_19 3 rfl ?_
    refine w_slen C hX dL_law_20 ?_
    refine w_bipush C (6 : Int32) dL_law_21 (by decide) ?_
    refine w_isub (v := nI L - nI 6) C dL_law_23 rfl ?_
    have hs := pk_sub_toInt (a := L) (b := 6) (by omega) (by omega)
    refine w_icmp_gt C 1210 dL_law_24 (by decide) (fun _ => ?_) (fun z => ?_)
    · refine w_iconst C (1 : Int32) dL_law_1210 (by decide) ?_
      exact hend _ _ _ _ (by omega) (by omega)
    · rw [Int32.lt_iff_toInt_lt, hs, nI_toInt (by omega)] at z
      subst hx
      refine law_turn C hO hT hX hL (by omega) hR ⟨show kc + 1 ≤ 600000 by omega, show ks + 8 ≤ 7302250 by omega⟩ (fun n' u σ' τ' hu hR' => ?_)
      refine w_iinc (v := nI (i + 6)) (lv' := [(3, .int (nI (i + 6))), (2, .ref (adm 0)), (1, .ref (adx 0)), (0, .ref b)]) C dL_law_1204 0 rfl (nI_add i 6) (by decide) rfl ?_
      refine w_goto C 18 dL_law_1207 (by decide) ?_
      exact ih (i + 6) n' (kc + 1) (ks + 8) u σ' τ' hu (by omega) (by omega) (by omega) (by omega) hR'
