/-! THE BEGINNING of the law: both objects are made; what the tables say of the classes -/
set_option maxRecDepth 100000 in
set_option maxHeartbeats 4000000 in
theorem law_start {E : EnvT} {cs : Nat → ClassId} {b L : Nat} {xs : Nat → Int32} (C : CX E cL_law RL 4 room_1) (hO : EAO E) (hT : eTys E = wTys cs) (hX : SC E b L xs) (hL : L ≤ 3072) (hend : ∀ (kc ks : Nat) (ws : va_W) (lv : List (Nat × Value)), kc ≤ 600000 → ks ≤ 7302250 → GW E 4 kc ks ws 1211 lv [.int 1]) : GW E 4 0 0 [] 0 [(0, .ref b)] [] := by
  refine w_new (ci := 11) (fs := [.null, .null, .null, .null, .null, .null, .null, .null, .null, .int 0]) (kc' := 1) (ks' := 10) (ws' := fun q => [(q, .inr (11, [.null, .null, .null, .null, .null, .null, .null, .null, .null, .int 0]))]) C hU_X11 tyX11_ok hL_L_7 hB_X11 hZ_X11 rfl df_X11 rfl rfl (Nat.le_of_ble_eq_true rfl) (Nat.le_of_ble_eq_true rfl) dL_law_0 (fun _ => rfl) (fun q => ?_)
  refine w_dup C dL_law_3 rfl ?_
  refine w_callI (h := q) (ci := 11) (mc := 36) (ms := 21932) (kc' := 37) (ks' := 21942) (w0 := []) (ws' := fun u => Wf_X11_init cs q u) (st := [.ref q]) C hO [] (by rw [hT]; exact i_X11 _ _ cs q) hM_L_9 hI_X11_init hZ_X11 hC_X11_init rfl ddi_X11 (by decide) ⟨rfl, rfl⟩ rfl rfl (Nat.le_of_ble_eq_true rfl) (Nat.le_of_ble_eq_true rfl) (Nat.le_of_ble_eq_true rfl) dL_law_4 rfl rfl (fun _ => rfl) (fun u => ?_)
  refine w_astore_n (lv' := [(1, .ref q), (0, .ref b)]) C dL_law_7 (by decide) rfl ?_
  refine w_new (ci := 12) (fs := [.int 0, .int 0, .null, .int 0, .int 0, .int 0, .int 0, .int 0, .int 0, .int 0, .int 0, .int 0, .null, .int 0, .null, .null, .null, .null, .null, .null, .null, .null, .int 0, .null, .int 0, .int 0, .int 0, .null, .null, .null, .null, .null, .null, .null, .int 0, .null, .null, .null, .int 0, .null, .null, .null, .null, .null, .int 0, .null, .null, .long 0, .long 0, .long 0, .long 0, .long 0]) (kc' := 38) (ks' := 21994) (ws' := fun q2 => Wf_X11_init cs q u ++ [(q2, .inr (12, [.int 0, .int 0, .null, .int 0, .int 0, .int 0, .int 0, .int 0, .int 0, .int 0, .int 0, .int 0, .null, .int 0, .null, .null, .null, .null, .null, .null, .null, .null, .int 0, .null, .int 0, .int 0, .int 0, .null, .null, .null, .null, .null, .null, .null, .int 0, .null, .null, .null, .int 0, .null, .null, .null, .null, .null, .int 0, .null, .null, .long 0, .long 0, .long 0, .long 0, .long 0]))]) C hU_X12 tyX12_ok hL_L_10 hB_X12 hZ_X12 rfl df_X12 rfl rfl (Nat.le_of_ble_eq_true rfl) (Nat.le_of_ble_eq_true rfl) dL_law_8 (fun _ => rfl) (fun q2 => ?_)
  refine w_dup C dL_law_11 rfl ?_
  refine w_callI (h := q2) (ci := 12) (mc := 28) (ms := 21894) (kc' := 66) (ks' := 43888) (w0 := Wf_X11_init cs q u) (ws' := fun u2 => Wf_X11_init cs q u ++ Wf_X12_init cs q2 u2) (st := [.ref q2]) C hO [] (by rw [hT]; exact i_X12 _ _ cs q2) hM_L_12 hI_X12_init hZ_X12 hC_X12_init rfl ddi_X12 (by decide) ⟨rfl, rfl⟩ rfl rfl (Nat.le_of_ble_eq_true rfl) (Nat.le_of_ble_eq_true rfl) (Nat.le_of_ble_eq_true rfl) dL_law_12 rfl rfl (fun _ => rfl) (fun u2 => ?_)
  refine w_astore_n (lv' := [(2, .ref q2), (1, .ref q), (0, .ref b)]) C dL_law_15 (by decide) rfl ?_
  refine w_iconst C (0 : Int32) dL_law_16 (by decide) ?_
  refine w_istore_n (lv' := [(3, .int 0), (2, .ref q2), (1, .ref q), (0, .ref b)]) C dL_law_17 (by decide) rfl ?_
  exact law_all (adm := madr q2 u2) (x0 := q) C hO hT hX hL hend 512 0 0 66 43888 (xadr q u) xM0 mM0 rfl (by omega) (by omega) (by omega) (by omega) ⟨_, _, _, _, _, _, _, rel0⟩
/-- the classes of the objects, by the tables -/
theorem law_cls {args : Array Value} {s : State} (ht : ∀ w ∈ lw_g, w.before args s = true) : ∃ D : va_G, ∀ (c : Nat) (q : vw_C), vwCl[c]? = some q → u_Kn s q.1 q.2.1 q.2.2 (D.1 c) (D.2 c) := by
  have h : ∀ c : Nat, ∃ y : ClassId × (Nat → Nat), ∀ q : vw_C, vwCl[c]? = some q → u_Kn s q.1 q.2.1 q.2.2 y.1 y.2 := by
    intro c
    match c with
    | 0 =>
      obtain ⟨cC, iS, h⟩ := u_known ht hU_X0 (ht _ hB_X0)
      exact ⟨(cC, iS), fun q hq => by cases hq; exact h⟩
    | 1 =>
      obtain ⟨cC, iS, h⟩ := u_known ht hU_X1 (ht _ hB_X1)
      exact ⟨(cC, iS), fun q hq => by cases hq; exact h⟩
    | 2 =>
      obtain ⟨cC, iS, h⟩ := u_known ht hU_X2 (ht _ hB_X2)
      exact ⟨(cC, iS), fun q hq => by cases hq; exact h⟩
    | 3 =>
      obtain ⟨cC, iS, h⟩ := u_known ht hU_X3 (ht _ hB_X3)
      exact ⟨(cC, iS), fun q hq => by cases hq; exact h⟩
    | 4 =>
      obtain ⟨cC, iS, h⟩ := u_known ht hU_X4 (ht _ hB_X4)
      exact ⟨(cC, iS), fun q hq => by cases hq; exact h⟩
    | 5 =>
      obtain ⟨cC, iS, h⟩ := u_known ht hU_X5 (ht _ hB_X5)
      exact ⟨(cC, iS), fun q hq => by cases hq; exact h⟩
    | 6 =>
      obtain ⟨cC, iS, h⟩ := u_known ht hU_X6 (ht _ hB_X6)
      exact ⟨(cC, iS), fun q hq => by cases hq; exact h⟩
    | 7 =>
      obtain ⟨cC, iS, h⟩ := u_known ht hU_X7 (ht _ hB_X7)
      exact ⟨(cC, iS), fun q hq => by cases hq; exact h⟩
    | 8 =>
      obtain ⟨cC, iS, h⟩ := u_known ht hU_X8 (ht _ hB_X8)
      exact ⟨(cC, iS), fun q hq => by cases hq; exact h⟩
    | 9 =>
      obtain ⟨cC, iS, h⟩ := u_known ht hU_X9 (ht _ hB_X9)
      exact ⟨(cC, iS), fun q hq => by cases hq; exact h⟩
    | 10 =>
      obtain ⟨cC, iS, h⟩ := u_known ht hU_X10 (ht _ hB_X10)
      exact ⟨(cC, iS), fun q hq => by cases hq; exact h⟩
    | 11 =>
      obtain ⟨cC, iS, h⟩ := u_known ht hU_X11 (ht _ hB_X11)
      exact ⟨(cC, iS), fun q hq => by cases hq; exact h⟩
    | 12 =>
      obtain ⟨cC, iS, h⟩ := u_known ht hU_X12 (ht _ hB_X12)
      exact ⟨(cC, iS), fun q hq => by cases hq; exact h⟩
    | c + 13 => exact ⟨(default, fun _ => 0), fun q hq => by cases hq⟩
  exact ⟨(fun c => (Classical.choose (h c)).1, fun c => (Classical.choose (h c)).2), fun c q hq => Classical.choose_spec (h c) q hq⟩
theorem law_arrP {args : Array Value} {s : State} {ty : FieldType} (hp : ∀ C, ty ≠ .object C) (h : (Cond.arrayClass ty).before args s = true) : ∃ cA : ClassId, ArrOfT s cA ty ∧ va_RA s cA ty := by
  obtain ⟨c, k, comp, h1, h2, h3⟩ := Cond.arrayClass_spec h
  refine ⟨c, fun n z => ⟨fun k h => (by cases h), k, h2, comp, h3⟩, ?_⟩
  cases ty with
  | object C => exact absurd rfl (hp C)
  | _ => exact h1
theorem law_arrQ {args : Array Value} {s : State} {C : String} (h : (Cond.arrayOver (.object C)).before args s = true) : ∃ cA : ClassId, ArrOfT s cA (.object C) ∧ va_RA s cA (.object C) := by
  obtain ⟨comp, c, k, h1, h2, h3, h4, h5⟩ := Cond.arrayOver_spec h
  exact ⟨c, fun n z => ⟨fun k h => (by cases h), k, h3, comp, h4⟩, k, comp, h3, h4, h1, h5⟩
theorem law_known {args : Array Value} {s : State} (hts : ∀ w ∈ lw_tbl, w.before args s = true) : ∃ (D : va_G) (cs : Nat → ClassId), va_K D vwCl (wTys cs) s := by
  have ht : ∀ w ∈ lw_g, w.before args s = true := fun w hw => hts w (lw_g_tbl w hw)
  obtain ⟨D, hD⟩ := law_cls ht
  obtain ⟨c0, a0⟩ := law_arrP (ty := .int) (fun C z => by cases z) (ht _ hA_int)
  obtain ⟨c1, a1⟩ := law_arrP (ty := .long) (fun C z => by cases z) (ht _ hA_long)
  obtain ⟨c2, a2⟩ := law_arrP (ty := .boolean) (fun C z => by cases z) (ht _ hA_boolean)
  obtain ⟨c3, a3⟩ := law_arrQ (hts _ hO_X1)
  obtain ⟨c4, a4⟩ := law_arrQ (hts _ hO_X9)
  refine ⟨D, fun k => ([c0, c1, c2, c3, c4] : List ClassId).getD k default, hD, fun k q hk => ?_⟩
  match k, hk with
  | 0, hk => cases hk; exact a0
  | 1, hk => cases hk; exact a1
  | 2, hk => cases hk; exact a2
  | 3, hk => cases hk; exact a3
  | 4, hk => cases hk; exact a4
  | k + 5, hk => cases hk
theorem law_nest {args : Array Value} {s : State} (hts : ∀ w ∈ lw_tbl, w.before args s = true) : NW s := fun w hw => va_tabs (lw_nest_tab w hw) rfl (hts w (lw_nest_ok w hw))
theorem law_ao {args : Array Value} {s : State} (hts : ∀ w ∈ lw_tbl, w.before args s = true) : AOs s := ⟨va_AO.of (hts _ hO_X1), va_AO.of (hts _ hO_X9)⟩
