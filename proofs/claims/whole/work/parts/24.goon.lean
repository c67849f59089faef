/-! the step of a program: hold, ramp, wait, loop, mark -/
def RelT (n t a st lo co mk ot : Nat) (σ τ : Mem) : Prop := (σ.1 0 9 = τ.1 0 0) ∧ (σ.1 27 0 = τ.1 0 1) ∧ (σ.1 2 = τ.1 1) ∧ (σ.1 1 2 = τ.1 0 3) ∧ (σ.1 20 5 = τ.1 0 4) ∧ (σ.1 1 3 = τ.1 0 5) ∧ (σ.1 20 6 = τ.1 0 6) ∧ (σ.1 20 7 = τ.1 0 10) ∧ (σ.1 20 8 = τ.1 0 11) ∧ (σ.1 3 = τ.1 2) ∧ (σ.1 4 1 = τ.1 0 13) ∧ (σ.1 21 = τ.1 7) ∧ (σ.1 18 1 = τ.1 0 22) ∧ (σ.1 19 = τ.1 11) ∧ (σ.1 6 4 = τ.1 0 26) ∧ (σ.1 8 4 = τ.1 0 34) ∧ (σ.1 9 = τ.1 19) ∧ (σ.1 10 = τ.1 20) ∧ (σ.1 11 = τ.1 21) ∧ (σ.1 13 4 = τ.1 0 38) ∧ (σ.1 14 = τ.1 22) ∧ (σ.1 15 = τ.1 23) ∧ (σ.1 16 = τ.1 24) ∧ (σ.1 17 = τ.1 25) ∧ (σ.1 22 6 = τ.1 0 44) ∧ (σ.1 25 = τ.1 27) ∧ (σ.1 20 12 = τ.1 0 8) ∧ (σ.1 20 13 = τ.1 0 9) ∧ (EqP (σ.1 5) (τ.1 3) (τ.1 4) (τ.1 5) (τ.1 6)) ∧ (EqSh (σ.1 29) (σ.1 30) (τ.1 8 0) (τ.1 9 0) (τ.1 10) 0) ∧ (EqSh (σ.1 31) (σ.1 32) (τ.1 8 1) (τ.1 9 1) (τ.1 10) 40) ∧ (EqSh (σ.1 33) (σ.1 34) (τ.1 8 2) (τ.1 9 2) (τ.1 10) 80) ∧ (EqSh (σ.1 35) (σ.1 36) (τ.1 8 3) (τ.1 9 3) (τ.1 10) 120) ∧ (∀ k, k < n → EqCh (σ.1 (100 + k)) k (τ.1 12 k) (τ.1 13 k) (τ.1 14 k) (τ.1 15 k) (τ.1 16 k) (τ.1 17 k) (τ.1 18 k)) ∧ (τ.1 0 26 = nI n) ∧ (n ≤ 8) ∧ (τ.1 0 5 = nI t) ∧ (t ≤ 3000) ∧ (τ.1 0 6 = nI a) ∧ (a ≤ st) ∧ (τ.1 0 13 = nI st) ∧ (st ≤ 30) ∧ (τ.1 0 34 = nI lo) ∧ (lo ≤ 20) ∧ (τ.1 0 38 = nI co) ∧ (co ≤ 20) ∧ (τ.1 0 22 = nI mk) ∧ (mk ≤ 20) ∧ (τ.1 0 44 = nI ot) ∧ (ot ≤ 160) ∧ (OkProg st (τ.1 3) (τ.1 4) (τ.1 5) (τ.1 6)) ∧ (τ.1 0 4 = 0 → a = 0) ∧ (OkRoom (τ.1 0 4)) ∧ (1 ≤ (τ.1 0 3).toInt ∧ (τ.1 0 3).toInt ≤ 20) ∧ (OkActs (τ.1 0 4) (τ.1 0 11)) ∧ (τ.1 0 4 = 1 → σ.1 20 9 = τ.1 0 7 ∧ OkIn st a (τ.1 0 7) (τ.1 3) (τ.1 4) (τ.1 6)) ∧ (OkMap (τ.1 1)) ∧ (∀ i, i ≤ t → OkRow (τ.1 2) i) ∧ (τ.1 2 5 = 0) ∧ (τ.1 2 6 = 0) ∧ (0 ≤ (τ.1 0 24).toInt ∧ (τ.1 0 24).toInt ≤ 8000) ∧ (0 ≤ (τ.1 0 25).toInt ∧ (τ.1 0 25).toInt ≤ 1000) ∧ (OkCorr co (τ.1 24) (τ.1 25)) ∧ (OkMarks mk (t + 1) (τ.1 11)) ∧ (0 ≤ (τ.1 0 8).toInt ∧ (τ.1 0 8).toInt ≤ 8000 ∧ 0 ≤ (τ.1 0 9).toInt ∧ (τ.1 0 9).toInt ≤ 1000)
theorem relT_of {n t a st lo co mk ot : Nat} {σ τ : Mem} (h : RelC n t a st lo co mk ot σ τ) : RelT n t a st lo co mk ot σ τ ∧ σ.1 3 (7 * t + 5) = τ.1 0 24 ∧ σ.1 3 (7 * t + 6) = τ.1 0 25 := by
  obtain ⟨e_fa, e_tr, e_mp, e_lg, e_ro, e_ti, e_at_, e_ki, e_ac, e_pa, e_sc, e_ld, e_mc, e_mt, e_cc, e_lc, e_l1, e_l2, e_l3, e_kc, e_k1, e_k2, e_k3, e_k4, e_oc, e_oa, e_b1, e_b2, e_pr, e_sh0, e_sh1, e_sh2, e_sh3, e_ch, e_c0, e_d0, e_c1, e_d1, e_c2, e_d2, e_c3, e_d3, e_c4, e_d4, e_c5, e_d5, e_c6, e_d6, e_c7, e_d7, e_ps, e_oz, e_rm, e_lb, e_ab, e_ru, e_mb, e_wb, e_w0, e_w1, e_ws, e_wp, e_kb, e_tb, e_bb⟩ := h
  have hw := e_wb t (Nat.le_refl _)
  unfold OkRow at hw
  exact ⟨⟨e_fa, e_tr, e_mp, e_lg, e_ro, e_ti, e_at_, e_ki, e_ac, e_pa, e_sc, e_ld, e_mc, e_mt, e_cc, e_lc, e_l1, e_l2, e_l3, e_kc, e_k1, e_k2, e_k3, e_k4, e_oc, e_oa, e_b1, e_b2, e_pr, e_sh0, e_sh1, e_sh2, e_sh3, by first | exact e_ch | (intro k hk; simp (disch := omega) only [wI_hi, wJ_1]; exact e_ch k hk), e_c0, e_d0, e_c1, e_d1, e_c2, e_d2, e_c3, e_d3, e_c4, e_d4, e_c5, e_d5, e_c6, e_d6, e_c7, e_d7, e_ps, e_oz, e_rm, e_lb, e_ab, e_ru, e_mb, e_wb, e_w0, e_w1, by rw [e_ws]; exact ⟨hw.2.2.2.2.1, hw.2.2.2.2.2.1⟩, by rw [e_wp]; exact hw.2.2.2.2.2.2, e_kb, fun m hm => by obtain ⟨j, j1, j2, j3⟩ := e_tb m hm; exact ⟨j, j1, by omega, j3⟩, e_bb⟩, by rw [e_pa, e_ws], by rw [e_pa, e_wp]⟩
theorem tdiv_c {J L c : Int} (hJ : 0 ≤ J) (hJL : J ≤ L) (hL : 0 < L) (hc : 0 ≤ c) : 0 ≤ (J * c).tdiv L ∧ (J * c).tdiv L ≤ c := by
  have h0 : 0 ≤ J * c := Int.mul_nonneg hJ hc
  have h1 : J * c ≤ c * L := by rw [Int.mul_comm c L]; exact Int.mul_le_mul_of_nonneg_right hJL hc
  rw [Int.tdiv_eq_ediv_of_nonneg h0]
  exact ⟨Int.ediv_nonneg h0 (by omega), Int.ediv_le_of_le_mul hL h1⟩
theorem tdiv_between {J L u b : Int} (hJ : 0 ≤ J) (hJL : J ≤ L) (hL : 0 < L) : (u ≤ b → u ≤ u + (J * (b - u)).tdiv L ∧ u + (J * (b - u)).tdiv L ≤ b) ∧ (b ≤ u → b ≤ u + (J * (b - u)).tdiv L ∧ u + (J * (b - u)).tdiv L ≤ u) := by
  constructor
  · intro h
    have := tdiv_c hJ hJL hL (c := b - u) (by omega)
    omega
  · intro h
    have := tdiv_c hJ hJL hL (c := u - b) (by omega)
    rw [show b - u = -(u - b) by omega, Int.mul_neg, Int.neg_tdiv]
    omega
/-- a value on the way from u to b keeps the bounds of both -/
theorem way_ok {N J L : Nat} {u b : Int32} (hN : N ≤ 8000) (hJ : J ≤ L) (hL : 1 ≤ L) (hL2 : L ≤ 500) (hu : 0 ≤ u.toInt ∧ u.toInt ≤ N) (hb : 0 ≤ b.toInt ∧ b.toInt ≤ N) : 0 ≤ (u + (nI J * (b - u)) / nI L).toInt ∧ (u + (nI J * (b - u)) / nI L).toInt ≤ N ∧ ((nI J * (b - u)) / nI L).toInt = ((J : Int) * (b.toInt - u.toInt)).tdiv L := by
  have e1 : (b - u).toInt = b.toInt - u.toInt := i32_sub (by omega) (by omega)
  obtain ⟨m1, m2⟩ := mul_bd (a := (J : Int)) (b := b.toInt - u.toInt) (A := 500) (B := 8000) (by omega) (by omega) (by omega) (by omega)
  have e2 : (nI J * (b - u)).toInt = (J : Int) * (b.toInt - u.toInt) := by
    rw [i32_mul (by rw [e1, nI_toInt (by omega)]; omega) (by rw [e1, nI_toInt (by omega)]; omega), e1, nI_toInt (by omega)]
  obtain ⟨g1, g2⟩ := tdiv_between (J := (J : Int)) (L := (L : Int)) (u := u.toInt) (b := b.toInt) (by omega) (by omega) (by omega)
  have hrg : -8000 ≤ ((J : Int) * (b.toInt - u.toInt)).tdiv L ∧ ((J : Int) * (b.toInt - u.toInt)).tdiv L ≤ 8000 := by
    rcases Int.le_total u.toInt b.toInt with h | h
    · have := g1 h
      omega
    · have := g2 h
      omega
  have e3 : ((nI J * (b - u)) / nI L).toInt = ((J : Int) * (b.toInt - u.toInt)).tdiv L := by
    rw [Int32.toInt_div, e2, nI_toInt (by omega)]
    exact Int.bmod_eq_of_le (by omega) (by omega)
  have e4 : (u + (nI J * (b - u)) / nI L).toInt = u.toInt + ((J : Int) * (b.toInt - u.toInt)).tdiv L := by
    rw [i32_add (by rw [e3]; omega) (by rw [e3]; omega), e3]
  rw [e4]
  rcases Int.le_total u.toInt b.toInt with h | h
  · have := g1 h
    exact ⟨by omega, by omega, e3⟩
  · have := g2 h
    exact ⟨by omega, by omega, e3⟩
theorem ev_c {n s : Nat} {σ : Mem} {k ka kb kc : Nat → Int32} (hp : EqP (σ.1 5) k ka kb kc) (hs : s < 30) : X6_cell n σ (nI s) 0 = some (k s) ∧ X6_cell n σ (nI s) 1 = some (ka s) ∧ X6_cell n σ (nI s) 2 = some (kb s) ∧ X6_cell n σ (nI s) 3 = some (kc s) := by
  obtain ⟨p0, p1, p2, p3⟩ := hp s hs
  exact ⟨(ev_cell (x := nI s) (y := 0) (j := 0) rfl rfl hs (by decide)).trans (congrArg some p0), (ev_cell (x := nI s) (y := 1) (j := 1) rfl rfl hs (by decide)).trans (congrArg some p1), (ev_cell (x := nI s) (y := 2) (j := 2) rfl rfl hs (by decide)).trans (congrArg some p2), (ev_cell (x := nI s) (y := 3) (j := 3) rfl rfl hs (by decide)).trans (congrArg some p3)⟩
def Wk (σ τ : Mem) : Prop := σ.1 20 10 = τ.1 0 24 ∧ σ.1 20 11 = τ.1 0 25
theorem n2_1 : ¬ (2 : Int32) = 1 := by decide
theorem n1_0 : ¬ (1 : Int32) = 0 := by decide
theorem spend_ok {n t a st lo co mk ot : Nat} {σ τ : Mem} (h : RelT n t a st lo co mk ot σ τ) (hst : τ.1 0 4 = 1) (ha : a < st) (hk : τ.1 3 a = 0 ∨ τ.1 3 a = 1) (hw : Wk σ τ) : ∃ (σ' τ' : Mem) (a' : Nat), X8_spend n σ = some σ' ∧ X12_passes τ (τ.1 4 a) = some τ' ∧ RelT n t a' st lo co mk ot σ' τ' ∧ Wk σ' τ' ∧ τ'.1 0 4 = 1 := by
  obtain ⟨e_fa, e_tr, e_mp, e_lg, e_ro, e_ti, e_at_, e_ki, e_ac, e_pa, e_sc, e_ld, e_mc, e_mt, e_cc, e_lc, e_l1, e_l2, e_l3, e_kc, e_k1, e_k2, e_k3, e_k4, e_oc, e_oa, e_b1, e_b2, e_pr, e_sh0, e_sh1, e_sh2, e_sh3, e_ch, e_c0, e_d0, e_c1, e_d1, e_c2, e_d2, e_c3, e_d3, e_c4, e_d4, e_c5, e_d5, e_c6, e_d6, e_c7, e_d7, e_ps, e_oz, e_rm, e_lb, e_ab, e_ru, e_mb, e_wb, e_w0, e_w1, e_ws, e_wp, e_kb, e_tb, e_bb⟩ := h
  obtain ⟨e9, hin⟩ := e_ru hst
  obtain ⟨j, ej, g1, g2, g3⟩ := hin ha
  have hj := g1 hk
  have hL : (τ.1 4 a).toInt ≤ 500 := by
    rcases e_ps a ha with ⟨z, z1, z2⟩ | ⟨z, z1, z2, -⟩ | ⟨z, -⟩ | ⟨z, -⟩ | z
    · exact z2
    · exact z2
    · rcases hk with hk | hk <;> rw [hk] at z <;> exact absurd z (by decide)
    · rcases hk with hk | hk <;> rw [hk] at z <;> exact absurd z (by decide)
    · rcases hk with hk | hk <;> rw [hk] at z <;> exact absurd z (by decide)
  obtain ⟨L, hL2, eL⟩ := nat_of 500 (show 0 ≤ (τ.1 4 a).toInt by omega) hL (by decide)
  rw [eL, nI_toInt (by omega)] at hj
  have c1 := (ev_c (n := n) (σ := wI σ 20 9 (nI (j + 1))) (s := a) e_pr (by omega)).2.1
  have e1 : (wI σ 20 9 (nI (j + 1))).1 20 6 = nI a := e_at_.trans e_c2
  have e2 : (wI σ 20 9 (nI (j + 1))).1 20 9 = nI (j + 1) := rfl
  have e3 : (wI τ 0 7 (nI (j + 1))).1 0 7 = nI (j + 1) := rfl
  have e4 : (wI (wI τ 0 7 (nI (j + 1))) 0 7 0).1 0 6 = nI a := e_c2
  unfold X8_spend X12_passes X8_comeTo
  simp only [lete_eq, bindo_some, e9, ej, nI_1, e1, c1, eL, e2, e3, e4]
  by_cases c : j + 1 < L
  · rw [if_pos (nI_lt c (by omega)), if_pos (fun z => by have := (nI_eq (by omega) (by omega)).mp z; omega)]
    exact ⟨_, _, a, rfl, rfl, ⟨e_fa, e_tr, e_mp, e_lg, e_ro, e_ti, e_at_, e_ki, e_ac, e_pa, e_sc, e_ld, e_mc, e_mt, e_cc, e_lc, e_l1, e_l2, e_l3, e_kc, e_k1, e_k2, e_k3, e_k4, e_oc, e_oa, e_b1, e_b2, e_pr, e_sh0, e_sh1, e_sh2, e_sh3, by first | exact e_ch | (intro k hk; simp (disch := omega) only [wI_hi, wJ_1]; exact e_ch k hk), e_c0, e_d0, e_c1, e_d1, e_c2, e_d2, e_c3, e_d3, e_c4, e_d4, e_c5, e_d5, e_c6, e_d6, e_c7, e_d7, e_ps, e_oz, e_rm, e_lb, e_ab, fun _ => ⟨rfl, fun _ => ⟨j + 1, rfl, fun _ => by show ((j + 1 : Nat) : Int) < (τ.1 4 a).toInt; rw [eL, nI_toInt (by omega)]; omega, fun z => by rcases hk with hk | hk <;> (have z : τ.1 3 a = 2 := z; rw [hk] at z; exact absurd z (by decide)), fun z => by rcases hk with hk | hk <;> (have z : τ.1 3 a = 3 ∨ τ.1 3 a = 4 := z; rw [hk] at z; exact absurd z (by decide))⟩⟩, e_mb, e_wb, e_w0, e_w1, e_ws, e_wp, e_kb, e_tb, e_bb⟩, hw, hst⟩
  · have hjl : j + 1 = L := by omega
    rw [if_neg (nI_nlt (by omega) (by omega)), if_neg (fun z => z (by rw [hjl]))]
    exact ⟨_, _, a + 1, rfl, rfl, ⟨e_fa, e_tr, e_mp, e_lg, e_ro, e_ti, rfl, e_ki, e_ac, e_pa, e_sc, e_ld, e_mc, e_mt, e_cc, e_lc, e_l1, e_l2, e_l3, e_kc, e_k1, e_k2, e_k3, e_k4, e_oc, e_oa, e_b1, e_b2, e_pr, e_sh0, e_sh1, e_sh2, e_sh3, by first | exact e_ch | (intro k hk; simp (disch := omega) only [wI_hi, wJ_1]; exact e_ch k hk), e_c0, e_d0, e_c1, e_d1, rfl, ha, e_c3, e_d3, e_c4, e_d4, e_c5, e_d5, e_c6, e_d6, e_c7, e_d7, e_ps, fun z => absurd (hst.symm.trans z) (by decide), e_rm, e_lb, e_ab, fun _ => ⟨rfl, okIn_0 e_ps⟩, e_mb, e_wb, e_w0, e_w1, e_ws, e_wp, e_kb, e_tb, e_bb⟩, hw, hst⟩
theorem ramp23_ok {n t a st lo co mk ot : Nat} {σ τ : Mem} (h : RelT n t a st lo co mk ot σ τ) (hst : τ.1 0 4 = 1) (ha : a < st) (hk : τ.1 3 a = 1) (hw : Wk σ τ) : ∃ (σ' τ' : Mem), X8_ramp_b23 n σ = some σ' ∧ X12_ramp_b23 τ = bindo (X12_passes τ' (τ'.1 4 a)) (fun s => some s) ∧ RelT n t a st lo co mk ot σ' τ' ∧ Wk σ' τ' ∧ τ'.1 0 4 = 1 ∧ τ'.1 3 a = 1 := by
  obtain ⟨e_fa, e_tr, e_mp, e_lg, e_ro, e_ti, e_at_, e_ki, e_ac, e_pa, e_sc, e_ld, e_mc, e_mt, e_cc, e_lc, e_l1, e_l2, e_l3, e_kc, e_k1, e_k2, e_k3, e_k4, e_oc, e_oa, e_b1, e_b2, e_pr, e_sh0, e_sh1, e_sh2, e_sh3, e_ch, e_c0, e_d0, e_c1, e_d1, e_c2, e_d2, e_c3, e_d3, e_c4, e_d4, e_c5, e_d5, e_c6, e_d6, e_c7, e_d7, e_ps, e_oz, e_rm, e_lb, e_ab, e_ru, e_mb, e_wb, e_w0, e_w1, e_ws, e_wp, e_kb, e_tb, e_bb⟩ := h
  obtain ⟨e9, hin⟩ := e_ru hst
  obtain ⟨j, ej, g1, g2, g3⟩ := hin ha
  have hj := g1 (Or.inr hk)
  have hB : (τ.1 4 a).toInt ≤ 500 ∧ 0 ≤ (τ.1 5 a).toInt ∧ (τ.1 5 a).toInt ≤ 8000 ∧ 0 ≤ (τ.1 6 a).toInt ∧ (τ.1 6 a).toInt ≤ 1000 := by
    rcases e_ps a ha with ⟨z, -⟩ | ⟨z, z1, z2, z3⟩ | ⟨z, -⟩ | ⟨z, -⟩ | z
    · rw [hk] at z; exact absurd z (by decide)
    · exact ⟨z2, z3⟩
    · rw [hk] at z; exact absurd z (by decide)
    · rw [hk] at z; exact absurd z (by decide)
    · rw [hk] at z; exact absurd z (by decide)
  obtain ⟨L, hL2, eL⟩ := nat_of 500 (show 0 ≤ (τ.1 4 a).toInt by omega) hB.1 (by decide)
  rw [eL, nI_toInt (by omega)] at hj
  obtain ⟨w1, w2, -⟩ := way_ok (N := 8000) (J := j + 1) (L := L) (u := τ.1 0 8) (b := τ.1 5 a) (by omega) (by omega) (by omega) hL2 ⟨e_bb.1, e_bb.2.1⟩ ⟨hB.2.1, hB.2.2.1⟩
  obtain ⟨w3, w4, -⟩ := way_ok (N := 1000) (J := j + 1) (L := L) (u := τ.1 0 9) (b := τ.1 6 a) (by omega) (by omega) (by omega) hL2 ⟨e_bb.2.2.1, e_bb.2.2.2⟩ ⟨hB.2.2.2.1, hB.2.2.2.2⟩
  have ha30 : a < 30 := by omega
  obtain ⟨c0, c1, c2, c3⟩ := ev_c (n := n) (σ := σ) (s := a) e_pr ha30
  have nzL : nz (nI L) = true := by simp [nz]; exact nI_ne0 (by omega) (by omega)
  have c3' : ∀ x, X6_cell n (wI σ 20 10 x) (nI a) 3 = some (τ.1 6 a) := fun x => (ev_c (n := n) (σ := wI σ 20 10 x) (s := a) e_pr ha30).2.2.2
  have f1 : ∀ x, (wI σ 20 10 x).1 20 6 = nI a := fun x => e_at_.trans e_c2
  have f2 : ∀ x, (wI σ 20 10 x).1 20 13 = τ.1 0 9 := fun x => e_b2
  have f3 : ∀ x, (wI τ 0 24 x).1 0 6 = nI a := fun x => e_c2
  have f4 : ∀ x, (wI τ 0 24 x).1 0 9 = τ.1 0 9 := fun x => rfl
  have f5 : ∀ x, (wI τ 0 24 x).1 4 a = nI L := fun x => eL
  have f6 : ∀ x, (wI τ 0 24 x).1 6 a = τ.1 6 a := fun x => rfl
  have f7 : ∀ x y, (wI (wI τ 0 24 x) 0 25 y).1 0 6 = nI a := fun x y => e_c2
  unfold X8_ramp_b23 X12_ramp_b23
  simp only [e_at_, e_c2, c1, c2, bindo_some, lete_eq, eL, if_neg (nI_nle (show 0 < L by omega) (show L < 2 ^ 31 by omega)), e9, ej, nI_1, nzL, chk_t, f1, f2, f3, f4, f5, f6, f7, c3', inb_nI ha30 (by decide), ix_nI (show a < 2 ^ 31 by omega), e_b1]
  exact ⟨_, _, rfl, rfl, ⟨e_fa, e_tr, e_mp, e_lg, e_ro, e_ti, e_at_, e_ki, e_ac, e_pa, e_sc, e_ld, e_mc, e_mt, e_cc, e_lc, e_l1, e_l2, e_l3, e_kc, e_k1, e_k2, e_k3, e_k4, e_oc, e_oa, e_b1, e_b2, e_pr, e_sh0, e_sh1, e_sh2, e_sh3, by first | exact e_ch | (intro k hk; simp (disch := omega) only [wI_hi, wJ_1]; exact e_ch k hk), e_c0, e_d0, e_c1, e_d1, e_c2, e_d2, e_c3, e_d3, e_c4, e_d4, e_c5, e_d5, e_c6, e_d6, e_c7, e_d7, e_ps, e_oz, e_rm, e_lb, e_ab, e_ru, e_mb, e_wb, e_w0, e_w1, ⟨w1, w2⟩, ⟨w3, w4⟩, e_kb, e_tb, e_bb⟩, ⟨rfl, rfl⟩, hst, hk⟩
theorem ramp_ok {n t a st lo co mk ot : Nat} {σ τ : Mem} (h : RelT n t a st lo co mk ot σ τ) (hst : τ.1 0 4 = 1) (ha : a < st) (hk : τ.1 3 a = 1) (hw : Wk σ τ) : ∃ (σ' τ' : Mem), X8_ramp n σ = some σ' ∧ X12_ramp τ = bindo (X12_passes τ' (τ'.1 4 a)) (fun s => some s) ∧ RelT n t a st lo co mk ot σ' τ' ∧ Wk σ' τ' ∧ τ'.1 0 4 = 1 ∧ τ'.1 3 a = 1 := by
  have h0 := h
  obtain ⟨e_fa, e_tr, e_mp, e_lg, e_ro, e_ti, e_at_, e_ki, e_ac, e_pa, e_sc, e_ld, e_mc, e_mt, e_cc, e_lc, e_l1, e_l2, e_l3, e_kc, e_k1, e_k2, e_k3, e_k4, e_oc, e_oa, e_b1, e_b2, e_pr, e_sh0, e_sh1, e_sh2, e_sh3, e_ch, e_c0, e_d0, e_c1, e_d1, e_c2, e_d2, e_c3, e_d3, e_c4, e_d4, e_c5, e_d5, e_c6, e_d6, e_c7, e_d7, e_ps, e_oz, e_rm, e_lb, e_ab, e_ru, e_mb, e_wb, e_w0, e_w1, e_ws, e_wp, e_kb, e_tb, e_bb⟩ := h
  obtain ⟨e9, -⟩ := e_ru hst
  unfold X8_ramp X12_ramp
  rw [e9]
  by_cases c : τ.1 0 7 = 0
  · rw [if_neg (fun z => z c), if_neg (fun z => z c)]
    simp only [lete_eq]
    exact ramp23_ok (show RelT n t a st lo co mk ot (wI (wI σ 20 12 (σ.1 20 10)) 20 13 ((wI σ 20 12 (σ.1 20 10)).1 20 11)) (wI (wI τ 0 8 (τ.1 0 24)) 0 9 ((wI τ 0 8 (τ.1 0 24)).1 0 25)) from ⟨e_fa, e_tr, e_mp, e_lg, e_ro, e_ti, e_at_, e_ki, e_ac, e_pa, e_sc, e_ld, e_mc, e_mt, e_cc, e_lc, e_l1, e_l2, e_l3, e_kc, e_k1, e_k2, e_k3, e_k4, e_oc, e_oa, hw.1, hw.2, e_pr, e_sh0, e_sh1, e_sh2, e_sh3, by first | exact e_ch | (intro k hk; simp (disch := omega) only [wI_hi, wJ_1]; exact e_ch k hk), e_c0, e_d0, e_c1, e_d1, e_c2, e_d2, e_c3, e_d3, e_c4, e_d4, e_c5, e_d5, e_c6, e_d6, e_c7, e_d7, e_ps, e_oz, e_rm, e_lb, e_ab, e_ru, e_mb, e_wb, e_w0, e_w1, e_ws, e_wp, e_kb, e_tb, ⟨e_ws.1, e_ws.2, e_wp.1, e_wp.2⟩⟩) hst ha hk hw
  · rw [if_pos c, if_pos c]
    exact ramp23_ok h0 hst ha hk hw
