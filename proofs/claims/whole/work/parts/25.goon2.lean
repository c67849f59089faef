/-! wait, loop, mark; the steps till the tick is spent -/
theorem relR_T {n t a st lo co mk ot : Nat} {σ τ : Mem} (h : RelT n t a st lo co mk ot σ τ) : RelR n lo co σ τ := by
  obtain ⟨e_fa, e_tr, e_mp, e_lg, e_ro, e_ti, e_at_, e_ki, e_ac, e_pa, e_sc, e_ld, e_mc, e_mt, e_cc, e_lc, e_l1, e_l2, e_l3, e_kc, e_k1, e_k2, e_k3, e_k4, e_oc, e_oa, e_b1, e_b2, e_pr, e_sh0, e_sh1, e_sh2, e_sh3, e_ch, e_c0, e_d0, e_c1, e_d1, e_c2, e_d2, e_c3, e_d3, e_c4, e_d4, e_c5, e_d5, e_c6, e_d6, e_c7, e_d7, e_ps, e_oz, e_rm, e_lb, e_ab, e_ru, e_mb, e_wb, e_w0, e_w1, e_ws, e_wp, e_kb, e_tb, e_bb⟩ := h
  exact ⟨e_pa, e_lc.trans e_c4, e_l1, e_l2, e_l3, e_kc.trans e_c5, e_k1, e_k2, e_k3, e_k4, e_ch, e_d0, e_c4, e_d4, e_c5, e_d5, e_kb⟩
theorem halt_ok {n t a st lo co mk ot : Nat} {σ τ : Mem} (h : RelT n t a st lo co mk ot σ τ) (c : Int32) (hst : τ.1 0 4 = 1) : RelT n t a st lo co mk ot (wI (wI σ 20 7 c) 20 5 2) (wI (wI (wI τ 0 10 c) 0 4 2) 0 11 0) := by
  obtain ⟨e_fa, e_tr, e_mp, e_lg, e_ro, e_ti, e_at_, e_ki, e_ac, e_pa, e_sc, e_ld, e_mc, e_mt, e_cc, e_lc, e_l1, e_l2, e_l3, e_kc, e_k1, e_k2, e_k3, e_k4, e_oc, e_oa, e_b1, e_b2, e_pr, e_sh0, e_sh1, e_sh2, e_sh3, e_ch, e_c0, e_d0, e_c1, e_d1, e_c2, e_d2, e_c3, e_d3, e_c4, e_d4, e_c5, e_d5, e_c6, e_d6, e_c7, e_d7, e_ps, e_oz, e_rm, e_lb, e_ab, e_ru, e_mb, e_wb, e_w0, e_w1, e_ws, e_wp, e_kb, e_tb, e_bb⟩ := h
  have hac : τ.1 0 11 = 0 := e_ab.1 (Or.inr hst)
  exact ⟨e_fa, e_tr, e_mp, e_lg, rfl, e_ti, e_at_, rfl, e_ac.trans hac, e_pa, e_sc, e_ld, e_mc, e_mt, e_cc, e_lc, e_l1, e_l2, e_l3, e_kc, e_k1, e_k2, e_k3, e_k4, e_oc, e_oa, e_b1, e_b2, e_pr, e_sh0, e_sh1, e_sh2, e_sh3, by first | exact e_ch | (intro k hk; simp (disch := omega) only [wI_hi, wJ_1]; exact e_ch k hk), e_c0, e_d0, e_c1, e_d1, e_c2, e_d2, e_c3, e_d3, e_c4, e_d4, e_c5, e_d5, e_c6, e_d6, e_c7, e_d7, e_ps, (fun z => absurd (show (2 : Int32) = 0 from z) (by decide)), Or.inr (Or.inr (Or.inl rfl)), e_lb, ⟨fun z => z.elim (fun z => absurd (show (2 : Int32) = 0 from z) (by decide)) (fun z => absurd (show (2 : Int32) = 1 from z) (by decide)), fun _ => ⟨0, by decide, rfl⟩⟩, (fun z => absurd (show (2 : Int32) = 1 from z) (by decide)), e_mb, e_wb, e_w0, e_w1, e_ws, e_wp, e_kb, e_tb, e_bb⟩
theorem halt_ok2 {n t a st lo co mk ot : Nat} {σ τ : Mem} (h : RelT n t a st lo co mk ot σ τ) (c : Int32) (hst : τ.1 0 4 = 1) : RelT n t a st lo co mk ot (wI (wI σ 20 7 c) 20 5 2) (wI (wI (wI (wI τ 0 7 0) 0 10 c) 0 4 2) 0 11 0) := by
  obtain ⟨e_fa, e_tr, e_mp, e_lg, e_ro, e_ti, e_at_, e_ki, e_ac, e_pa, e_sc, e_ld, e_mc, e_mt, e_cc, e_lc, e_l1, e_l2, e_l3, e_kc, e_k1, e_k2, e_k3, e_k4, e_oc, e_oa, e_b1, e_b2, e_pr, e_sh0, e_sh1, e_sh2, e_sh3, e_ch, e_c0, e_d0, e_c1, e_d1, e_c2, e_d2, e_c3, e_d3, e_c4, e_d4, e_c5, e_d5, e_c6, e_d6, e_c7, e_d7, e_ps, e_oz, e_rm, e_lb, e_ab, e_ru, e_mb, e_wb, e_w0, e_w1, e_ws, e_wp, e_kb, e_tb, e_bb⟩ := h
  have hac : τ.1 0 11 = 0 := e_ab.1 (Or.inr hst)
  exact ⟨e_fa, e_tr, e_mp, e_lg, rfl, e_ti, e_at_, rfl, e_ac.trans hac, e_pa, e_sc, e_ld, e_mc, e_mt, e_cc, e_lc, e_l1, e_l2, e_l3, e_kc, e_k1, e_k2, e_k3, e_k4, e_oc, e_oa, e_b1, e_b2, e_pr, e_sh0, e_sh1, e_sh2, e_sh3, by first | exact e_ch | (intro k hk; simp (disch := omega) only [wI_hi, wJ_1]; exact e_ch k hk), e_c0, e_d0, e_c1, e_d1, e_c2, e_d2, e_c3, e_d3, e_c4, e_d4, e_c5, e_d5, e_c6, e_d6, e_c7, e_d7, e_ps, (fun z => absurd (show (2 : Int32) = 0 from z) (by decide)), Or.inr (Or.inr (Or.inl rfl)), e_lb, ⟨fun z => z.elim (fun z => absurd (show (2 : Int32) = 0 from z) (by decide)) (fun z => absurd (show (2 : Int32) = 1 from z) (by decide)), fun _ => ⟨0, by decide, rfl⟩⟩, (fun z => absurd (show (2 : Int32) = 1 from z) (by decide)), e_mb, e_wb, e_w0, e_w1, e_ws, e_wp, e_kb, e_tb, e_bb⟩
theorem wait_not {n t a st lo co mk ot : Nat} {σ τ : Mem} (h : RelT n t a st lo co mk ot σ τ) (hst : τ.1 0 4 = 1) (ha : a < st) (hk : τ.1 3 a = 2) (hw : Wk σ τ) : ∃ σ' τ' : Mem, X8_isWaitOver_b89 n σ = some (0, σ') ∧ X12_waits_b97 τ = some (1, τ') ∧ RelT n t a st lo co mk ot σ' τ' ∧ Wk σ' τ' ∧ (τ'.1 0 4 = 1 ∨ τ'.1 0 4 = 2) := by
  have h0 := h
  obtain ⟨e_fa, e_tr, e_mp, e_lg, e_ro, e_ti, e_at_, e_ki, e_ac, e_pa, e_sc, e_ld, e_mc, e_mt, e_cc, e_lc, e_l1, e_l2, e_l3, e_kc, e_k1, e_k2, e_k3, e_k4, e_oc, e_oa, e_b1, e_b2, e_pr, e_sh0, e_sh1, e_sh2, e_sh3, e_ch, e_c0, e_d0, e_c1, e_d1, e_c2, e_d2, e_c3, e_d3, e_c4, e_d4, e_c5, e_d5, e_c6, e_d6, e_c7, e_d7, e_ps, e_oz, e_rm, e_lb, e_ab, e_ru, e_mb, e_wb, e_w0, e_w1, e_ws, e_wp, e_kb, e_tb, e_bb⟩ := h
  obtain ⟨e9, hin⟩ := e_ru hst
  obtain ⟨j, ej, g1, g2, g3⟩ := hin ha
  have hj := g2 hk
  have hL : (τ.1 6 a).toInt ≤ 500 := by
    rcases e_ps a ha with ⟨z, -⟩ | ⟨z, -⟩ | ⟨z, z1, z2⟩ | ⟨z, -⟩ | z
    · rw [hk] at z; exact absurd z (by decide)
    · rw [hk] at z; exact absurd z (by decide)
    · exact z2
    · rw [hk] at z; exact absurd z (by decide)
    · rw [hk] at z; exact absurd z (by decide)
  obtain ⟨L, hL2, eL⟩ := nat_of 500 (show 0 ≤ (τ.1 6 a).toInt by omega) hL (by decide)
  rw [eL, nI_toInt (by omega)] at hj
  have ha30 : a < 30 := by omega
  have c3 := (ev_c (n := n) (σ := σ) (s := a) e_pr ha30).2.2.2
  unfold X8_isWaitOver_b89 X12_waits_b97 X8_halt X12_stopBy
  simp only [lete_eq, bindo_some, e_at_, e_c2, c3, eL, e9, ej, nI_1, inb_nI ha30 (by decide), ix_nI (show a < 2 ^ 31 by omega), chk_t]
  by_cases c : j < L
  · rw [if_pos (nI_lt c (by omega)), if_pos (fun z => by have := (nI_eq (by omega) (by omega)).mp z; omega)]
    exact ⟨_, _, rfl, rfl, ⟨e_fa, e_tr, e_mp, e_lg, e_ro, e_ti, e_at_, e_ki, e_ac, e_pa, e_sc, e_ld, e_mc, e_mt, e_cc, e_lc, e_l1, e_l2, e_l3, e_kc, e_k1, e_k2, e_k3, e_k4, e_oc, e_oa, e_b1, e_b2, e_pr, e_sh0, e_sh1, e_sh2, e_sh3, by first | exact e_ch | (intro k hk; simp (disch := omega) only [wI_hi, wJ_1]; exact e_ch k hk), e_c0, e_d0, e_c1, e_d1, e_c2, e_d2, e_c3, e_d3, e_c4, e_d4, e_c5, e_d5, e_c6, e_d6, e_c7, e_d7, e_ps, e_oz, e_rm, e_lb, e_ab, fun _ => ⟨rfl, fun _ => ⟨j + 1, rfl, fun z => by (have z : τ.1 3 a = 0 ∨ τ.1 3 a = 1 := z; rw [hk] at z; exact absurd z (by decide)), fun _ => by show ((j + 1 : Nat) : Int) ≤ (τ.1 6 a).toInt; rw [eL, nI_toInt (by omega)]; omega, fun z => by (have z : τ.1 3 a = 3 ∨ τ.1 3 a = 4 := z; rw [hk] at z; exact absurd z (by decide))⟩⟩, e_mb, e_wb, e_w0, e_w1, e_ws, e_wp, e_kb, e_tb, e_bb⟩, hw, Or.inl hst⟩
  · rw [if_neg (nI_nlt (by omega) (by omega)), if_neg (fun z => z (by rw [show j = L by omega]))]
    exact ⟨_, _, rfl, rfl, halt_ok2 h0 2 hst, hw, Or.inr rfl⟩
theorem wait_ok {n t a st lo co mk ot : Nat} {σ τ : Mem} (h : RelT n t a st lo co mk ot σ τ) (hst : τ.1 0 4 = 1) (ha : a < st) (hk : τ.1 3 a = 2) (hw : Wk σ τ) : (∃ σ' τ' : Mem, X8_isWaitOver n σ = some (1, σ') ∧ X12_waits τ = some (0, τ') ∧ RelT n t (a + 1) st lo co mk ot σ' τ' ∧ Wk σ' τ' ∧ τ'.1 0 4 = 1) ∨ (∃ σ' τ' : Mem, X8_isWaitOver n σ = some (0, σ') ∧ X12_waits τ = some (1, τ') ∧ RelT n t a st lo co mk ot σ' τ' ∧ Wk σ' τ' ∧ (τ'.1 0 4 = 1 ∨ τ'.1 0 4 = 2)) := by
  have h0 := h
  have hR := relR_T h
  have hn := wait_not h0 hst ha hk hw
  obtain ⟨e_fa, e_tr, e_mp, e_lg, e_ro, e_ti, e_at_, e_ki, e_ac, e_pa, e_sc, e_ld, e_mc, e_mt, e_cc, e_lc, e_l1, e_l2, e_l3, e_kc, e_k1, e_k2, e_k3, e_k4, e_oc, e_oa, e_b1, e_b2, e_pr, e_sh0, e_sh1, e_sh2, e_sh3, e_ch, e_c0, e_d0, e_c1, e_d1, e_c2, e_d2, e_c3, e_d3, e_c4, e_d4, e_c5, e_d5, e_c6, e_d6, e_c7, e_d7, e_ps, e_oz, e_rm, e_lb, e_ab, e_ru, e_mb, e_wb, e_w0, e_w1, e_ws, e_wp, e_kb, e_tb, e_bb⟩ := h
  have ha30 : a < 30 := by omega
  obtain ⟨c0, c1, c2, c3⟩ := ev_c (n := n) (σ := σ) (s := a) e_pr ha30
  unfold X8_isWaitOver X12_waits
  simp only [lete_eq, bindo_some, e_at_, e_c2, c1, c2, inb_nI ha30 (by decide), ix_nI (show a < 2 ^ 31 by omega), chk_t]
  rw [ev_find (e_cc.trans e_c0) e_d0, e_c0]
  simp only [bindo_some]
  by_cases h1 : 0 ≤ (τ.1 4 a).toInt ∧ (τ.1 4 a).toInt < n
  · rw [if_pos h1]
    obtain ⟨k, hk8, ek⟩ := nat_of 8 h1.1 (by omega) (by decide)
    rw [ek] at h1 ⊢
    rw [nI_toInt (by omega)] at h1 ⊢
    have hk : k < n := by omega
    simp only [Int.toNat_natCast, caseo]
    obtain ⟨q0, q1, q2, q3, q4, q5, q6, q7, q8, ⟨ra, r1, r2, q9⟩, q10⟩ := e_ch k hk
    have hra : nz (nI ra) = true := by simp [nz]; exact nI_ne0 (by omega) (by omega)
    have hdm := Nat.div_add_mod t ra
    have hml := Nat.mod_lt t (show 0 < ra by omega)
    rw [Nat.mul_comm] at hdm
    have hla : X1_latestAt n (100 + k) σ (nI t) = some (nI (t / ra * ra)) := by
      unfold X1_latestAt
      rw [q2, q9, if_neg (nI_nle (by omega) (by omega)), hra, chk_t, pk_div (by omega) (by omega) (by omega), pk_mul]
    rw [isCh_of hk, chk_t, e_ti, e_c1, hla, if_neg (show ¬ nI k < 0 by rw [Int32.lt_iff_toInt_lt, nI_toInt (by omega), t32_0]; omega), if_pos (nI_lt hk (by omega)), inb_nI (show k < 8 by omega) (by decide), ix_nI (show k < 2 ^ 31 by omega), q9, hra, pk_rem (by omega) (by omega) (by omega), pk_sub (Nat.mod_le _ _), show t - t % ra = t / ra * ra by omega]
    simp only [bindo_some, chk_t]
    obtain ⟨r, hr, g1, g2, g3⟩ := lost_ok hR hk (T := t / ra * ra) (by omega)
    rw [g2]
    simp only [bindo_some]
    rcases hr with rfl | rfl
    · obtain ⟨v, y1, y2, -, -⟩ := value_ok hR hk (T := t / ra * ra) (by omega) (g3 rfl)
      rw [y1 g1, y2]
      simp only [bindo_some]
      rw [if_neg (fun z => v_ne_lost ((lg_cmp_eq _ _).mp z)), if_neg (show ¬ ¬ True from fun z => z trivial)]
      by_cases c : lg_cmp v.toInt64 (τ.1 5 a).toInt64 < 0
      · rw [if_pos c, if_pos c]
        exact Or.inr hn
      · rw [if_neg c, if_neg c]
        unfold X8_comeTo
        simp only [lete_eq, bindo_some, nI_1]
        have e4 : (wI τ 0 7 0).1 0 6 = nI a := e_c2
        rw [e4, nI_1]
        exact Or.inl ⟨_, _, rfl, rfl, ⟨e_fa, e_tr, e_mp, e_lg, e_ro, e_ti, rfl, e_ki, e_ac, e_pa, e_sc, e_ld, e_mc, e_mt, e_cc, e_lc, e_l1, e_l2, e_l3, e_kc, e_k1, e_k2, e_k3, e_k4, e_oc, e_oa, e_b1, e_b2, e_pr, e_sh0, e_sh1, e_sh2, e_sh3, by first | exact e_ch | (intro k hk; simp (disch := omega) only [wI_hi, wJ_1]; exact e_ch k hk), e_c0, e_d0, e_c1, e_d1, rfl, ha, e_c3, e_d3, e_c4, e_d4, e_c5, e_d5, e_c6, e_d6, e_c7, e_d7, e_ps, fun z => absurd (hst.symm.trans z) (by decide), e_rm, e_lb, e_ab, fun _ => ⟨rfl, okIn_0 e_ps⟩, e_mb, e_wb, e_w0, e_w1, e_ws, e_wp, e_kb, e_tb, e_bb⟩, hw, hst⟩
    · unfold X2_value
      rw [g1]
      simp only [bindo_some]
      rw [if_neg (by decide)]
      simp only [bindo_some]
      rw [if_pos ((lg_cmp_eq _ _).mpr rfl), if_pos (by decide)]
      exact Or.inr hn
  · rw [if_neg h1]
    simp only [caseo]
    unfold X8_halt X12_waits_b22 X12_stopBy
    simp only [lete_eq, bindo_some]
    by_cases c : τ.1 4 a < 0
    · rw [if_pos c]
      exact Or.inr ⟨_, _, rfl, rfl, halt_ok2 h0 2 hst, hw, Or.inr rfl⟩
    · rw [if_neg c, if_neg (fun z => h1 ⟨by rw [Int32.lt_iff_toInt_lt, t32_0] at c; omega, by rw [Int32.lt_iff_toInt_lt, nI_toInt (by omega)] at z; omega⟩)]
      exact Or.inr ⟨_, _, rfl, rfl, halt_ok2 h0 2 hst, hw, Or.inr rfl⟩
theorem goOn_step {n t a st lo co mk ot : Nat} {σ τ : Mem} (h : RelT n t a st lo co mk ot σ τ) (hst : τ.1 0 4 = 1) (hw : Wk σ τ) {v : Nat} (hv : v ≤ 50) :
    (∃ (σ' τ' : Mem) (a' : Nat), (∀ rec, X8_goOn_l2 n rec σ (nI v) = some σ') ∧ (∀ rec, X12_goOn_l2 rec τ (nI v) = some τ') ∧ RelT n t a' st lo co mk ot σ' τ' ∧ Wk σ' τ' ∧ (τ'.1 0 4 = 1 ∨ τ'.1 0 4 = 2)) ∨
    (v < 50 ∧ ∃ (σ' τ' : Mem) (a' mk' : Nat), (∀ rec, X8_goOn_l2 n rec σ (nI v) = rec (σ', nI (v + 1))) ∧ (∀ rec, X12_goOn_l2 rec τ (nI v) = rec (τ', nI (v + 1))) ∧ RelT n t a' st lo co mk' ot σ' τ' ∧ Wk σ' τ' ∧ τ'.1 0 4 = 1) := by
  have h0 := h
  obtain ⟨e_fa, e_tr, e_mp, e_lg, e_ro, e_ti, e_at_, e_ki, e_ac, e_pa, e_sc, e_ld, e_mc, e_mt, e_cc, e_lc, e_l1, e_l2, e_l3, e_kc, e_k1, e_k2, e_k3, e_k4, e_oc, e_oa, e_b1, e_b2, e_pr, e_sh0, e_sh1, e_sh2, e_sh3, e_ch, e_c0, e_d0, e_c1, e_d1, e_c2, e_d2, e_c3, e_d3, e_c4, e_d4, e_c5, e_d5, e_c6, e_d6, e_c7, e_d7, e_ps, e_oz, e_rm, e_lb, e_ab, e_ru, e_mb, e_wb, e_w0, e_w1, e_ws, e_wp, e_kb, e_tb, e_bb⟩ := h
  obtain ⟨e9, hin⟩ := e_ru hst
  by_cases ha : a < st
  · by_cases hv50 : v < 50
    · have ha30 : a < 30 := by omega
      obtain ⟨c0, c1, c2, c3⟩ := ev_c (n := n) (σ := σ) (s := a) e_pr ha30
      have hX : ∀ rec, X8_goOn_l2 n rec σ (nI v) = if τ.1 3 a = 0 then (bindo (X8_spend n σ) (fun s => some s)) else if τ.1 3 a = 1 then (bindo (X8_ramp n σ) (fun s => bindo (X8_spend n s) (fun s => some s))) else if τ.1 3 a = 2 then (bindo (X8_isWaitOver n σ) (fun a10 => if ¬ a10.1 = (0 : Int32) then (X8_goOn_b127 n rec (a10.2) (nI v)) else some (a10.2))) else if τ.1 3 a = 3 then (bindo (X8_loop n σ) (fun s => X8_goOn_b127 n rec s (nI v))) else (bindo (X5_add n σ (nI (t + 1))) (fun s => bindo (X8_comeTo n s ((s.1 20 6) + (1 : Int32))) (fun s => X8_goOn_b127 n rec s (nI v)))) := by
        intro rec
        rw [X8_goOn_l2, if_neg (show ¬ (50 : Int32) ≤ nI v by rw [show (50 : Int32) = nI 50 from rfl]; exact nI_nl2 (by omega) (by omega)), e_at_, e_c2, e_sc, e_c3, if_pos (nI_lt ha (by omega)), c0, e_ti, e_c1, nI_1]
        simp only [bindo_some]
      have hM : ∀ rec, X12_goOn_l2 rec τ (nI v) = if τ.1 3 a = 0 then (bindo (X12_passes τ (τ.1 4 a)) (fun s => some s)) else if τ.1 3 a = 1 then (bindo (X12_ramp τ) (fun s => some s)) else if τ.1 3 a = 2 then (bindo (X12_waits τ) (fun a10 => if a10.1 = (0 : Int32) then (rec (a10.2, nI (v + 1))) else some (a10.2))) else if τ.1 3 a = 3 then (if τ.1 5 a ≤ τ.1 7 a then rec (wI (wI τ 7 a 0) 0 6 (nI (a + 1)), nI (v + 1)) else rec (wI (wI τ 7 a (τ.1 7 a + 1)) 0 6 (τ.1 4 a), nI (v + 1))) else (if (20 : Int32) ≤ nI mk then X12_goOn_b214 rec τ (nI (v + 1)) else chk (inb (nI mk) 20) (X12_goOn_b214 rec (wI (wI τ 11 (ix (nI mk)) (nI (t + 1))) 0 22 (nI (mk + 1))) (nI (v + 1)))) := by
        intro rec
        have f1 : ∀ x, (wI τ 7 a x).1 0 6 = nI a := fun x => e_c2
        have f2 : ∀ x, (wI τ 7 a x).1 4 = τ.1 4 := fun x => rfl
        have f3 : ∀ j x, (wI τ 11 j x).1 0 22 = nI mk := fun j x => e_c6
        rw [X12_goOn_l2, if_neg (fun z => z hst), e_c2, e_c3, if_pos (fun z => by have := (nI_eq (by omega) (by omega)).mp z; omega)]
        simp only [lete_eq, nI_1, inb_nI ha30 (by decide), ix_nI (show a < 2 ^ 31 by omega), chk_t, f1, f2, f3, e_c6, e_c1]
        rw [if_pos (show nI (v + 1) ≤ 50 by rw [show (50 : Int32) = nI 50 from rfl]; exact nI_le (by omega) (by omega))]
      have hb : ∀ (rec : (Mem × Int32) → Option (Mem)) (s : Mem), X8_goOn_b127 n rec s (nI v) = rec (s, nI (v + 1)) := fun rec s => by
        unfold X8_goOn_b127
        simp only [lete_eq, nI_1]
      rcases e_ps a ha with ⟨z, -⟩ | ⟨z, -⟩ | ⟨z, -⟩ | ⟨z, z1, z2, z3⟩ | z
      · obtain ⟨σ', τ', a', y1, y2, y3, y4, y5⟩ := spend_ok h0 hst ha (Or.inl z) hw
        refine Or.inl ⟨σ', τ', a', fun rec => ?_, fun rec => ?_, y3, y4, Or.inl y5⟩
        · rw [hX, if_pos z, y1, bindo_some]
        · rw [hM, if_pos z, y2, bindo_some]
      · obtain ⟨σ1, τ1, x1, x2, x3, x4, x5, x6⟩ := ramp_ok h0 hst ha z hw
        obtain ⟨σ', τ', a', y1, y2, y3, y4, y5⟩ := spend_ok x3 x5 ha (Or.inr x6) x4
        refine Or.inl ⟨σ', τ', a', fun rec => ?_, fun rec => ?_, y3, y4, Or.inl y5⟩
        · rw [hX, if_neg (by rw [z]; decide), if_pos z, x1, bindo_some, y1, bindo_some]
        · rw [hM, if_neg (by rw [z]; decide), if_pos z, x2, y2, bindo_some, bindo_some]
      · rcases wait_ok h0 hst ha z hw with ⟨σ', τ', y1, y2, y3, y4, y5⟩ | ⟨σ', τ', y1, y2, y3, y4, y5⟩
        · refine Or.inr ⟨hv50, σ', τ', a + 1, mk, fun rec => ?_, fun rec => ?_, y3, y4, y5⟩
          · rw [hX, if_neg (by rw [z]; decide), if_neg (by rw [z]; decide), if_pos z, y1, bindo_some, if_pos (show ¬ ((1 : Int32), σ').1 = 0 from n1_0), hb]
          · rw [hM, if_neg (by rw [z]; decide), if_neg (by rw [z]; decide), if_pos z, y2, bindo_some, if_pos rfl]
        · refine Or.inl ⟨σ', τ', a, fun rec => ?_, fun rec => ?_, y3, y4, y5⟩
          · rw [hX, if_neg (by rw [z]; decide), if_neg (by rw [z]; decide), if_pos z, y1, bindo_some, if_neg (show ¬ ¬ ((0 : Int32), σ').1 = 0 from fun z => z rfl)]
          · rw [hM, if_neg (by rw [z]; decide), if_neg (by rw [z]; decide), if_pos z, y2, bindo_some, if_neg (show ¬ ((1 : Int32), τ').1 = 0 from n1_0)]
      · obtain ⟨p, hp, ep⟩ := nat_of 30 z1 (by omega) (by decide)
        have hpa : p ≤ a := by rw [ep, nI_toInt (by omega)] at z2; omega
        have hj0 : τ.1 0 7 = 0 := by
          obtain ⟨j, ej, -, -, g3⟩ := hin ha
          rw [ej, g3 (Or.inl z)]
          rfl
        have k1 : ∀ x, X6_cell n (wI σ 21 a x) (nI a) 1 = some (nI p) := fun x => by rw [← ep]; exact (ev_c (n := n) (σ := wI σ 21 a x) (s := a) e_pr ha30).2.1
        have k2 : ∀ x, (wI σ 21 a x).1 20 6 = nI a := fun x => e_at_.trans e_c2
        have hl : X8_loop n σ = if τ.1 5 a ≤ τ.1 7 a then some (wI (wI (wI σ 21 a 0) 20 6 (nI (a + 1))) 20 9 0) else some (wI (wI (wI σ 21 a (τ.1 7 a + 1)) 20 6 (nI p)) 20 9 0) := by
          unfold X8_loop X8_comeTo
          simp only [xw, e_at_, e_c2, c2, k1, k2, e_ld, bindo_some, lete_eq, bz_eq0, Decidable.not_not, inb_nI ha30 (by decide), ix_nI (show a < 2 ^ 31 by omega), chk_t, t32_0, t32_29, nI_1]
          rw [if_pos (by rw [nI_toInt (by omega)]; omega)]
        by_cases c : τ.1 5 a ≤ τ.1 7 a
        · refine Or.inr ⟨hv50, wI (wI (wI σ 21 a 0) 20 6 (nI (a + 1))) 20 9 0, wI (wI τ 7 a 0) 0 6 (nI (a + 1)), a + 1, mk, fun rec => ?_, fun rec => ?_, ⟨e_fa, e_tr, e_mp, e_lg, e_ro, e_ti, rfl, e_ki, e_ac, e_pa, e_sc, by show upd (σ.1 21) a 0 = upd (τ.1 7) a 0; rw [e_ld], e_mc, e_mt, e_cc, e_lc, e_l1, e_l2, e_l3, e_kc, e_k1, e_k2, e_k3, e_k4, e_oc, e_oa, e_b1, e_b2, e_pr, e_sh0, e_sh1, e_sh2, e_sh3, by first | exact e_ch | (intro k hk; simp (disch := omega) only [wI_hi, wJ_1]; exact e_ch k hk), e_c0, e_d0, e_c1, e_d1, rfl, ha, e_c3, e_d3, e_c4, e_d4, e_c5, e_d5, e_c6, e_d6, e_c7, e_d7, e_ps, fun z => absurd (hst.symm.trans z) (by decide), e_rm, e_lb, e_ab, fun _ => ⟨hj0.symm, by show OkIn st (a + 1) (τ.1 0 7) _ _ _; rw [hj0]; exact okIn_0 e_ps⟩, e_mb, e_wb, e_w0, e_w1, e_ws, e_wp, e_kb, e_tb, e_bb⟩, hw, hst⟩
          · rw [hX, if_neg (by rw [z]; decide), if_neg (by rw [z]; decide), if_neg (by rw [z]; decide), if_pos z, hl, if_pos c, bindo_some, hb]
          · rw [hM, if_neg (by rw [z]; decide), if_neg (by rw [z]; decide), if_neg (by rw [z]; decide), if_pos z, if_pos c]
        · refine Or.inr ⟨hv50, wI (wI (wI σ 21 a (τ.1 7 a + 1)) 20 6 (nI p)) 20 9 0, wI (wI τ 7 a (τ.1 7 a + 1)) 0 6 (τ.1 4 a), p, mk, fun rec => ?_, fun rec => ?_, ⟨e_fa, e_tr, e_mp, e_lg, e_ro, e_ti, ep.symm, e_ki, e_ac, e_pa, e_sc, by show upd (σ.1 21) a _ = upd (τ.1 7) a _; rw [e_ld], e_mc, e_mt, e_cc, e_lc, e_l1, e_l2, e_l3, e_kc, e_k1, e_k2, e_k3, e_k4, e_oc, e_oa, e_b1, e_b2, e_pr, e_sh0, e_sh1, e_sh2, e_sh3, by first | exact e_ch | (intro k hk; simp (disch := omega) only [wI_hi, wJ_1]; exact e_ch k hk), e_c0, e_d0, e_c1, e_d1, ep, by omega, e_c3, e_d3, e_c4, e_d4, e_c5, e_d5, e_c6, e_d6, e_c7, e_d7, e_ps, fun z => absurd (hst.symm.trans z) (by decide), e_rm, e_lb, e_ab, fun _ => ⟨hj0.symm, by show OkIn st p (τ.1 0 7) _ _ _; rw [hj0]; exact okIn_0 e_ps⟩, e_mb, e_wb, e_w0, e_w1, e_ws, e_wp, e_kb, e_tb, e_bb⟩, hw, hst⟩
          · rw [hX, if_neg (by rw [z]; decide), if_neg (by rw [z]; decide), if_neg (by rw [z]; decide), if_pos z, hl, if_neg c, bindo_some, hb]
          · rw [hM, if_neg (by rw [z]; decide), if_neg (by rw [z]; decide), if_neg (by rw [z]; decide), if_pos z, if_neg c]
      · have hj0 : τ.1 0 7 = 0 := by
          obtain ⟨j, ej, -, -, g3⟩ := hin ha
          rw [ej, g3 (Or.inr z)]
          rfl
        by_cases c : mk < 20
        · have hadd : X5_add n σ (nI (t + 1)) = some (wI (wI σ 19 mk (nI (t + 1))) 18 1 (nI (mk + 1))) := by
            have f1 : ∀ x y, (wI σ 19 x y).1 18 1 = nI mk := fun x y => e_mc.trans e_c6
            unfold X5_add
            rw [e_mc, e_c6]
            simp only [xw, bindo_some, bz_eq0, lete_eq, t32_0, t32_19, inb_nI c (by decide), ix_nI (show mk < 2 ^ 31 by omega), chk_t, f1, nI_1]
            rw [if_neg (fun z => z (by rw [nI_toInt (by omega)]; omega))]
          have f2 : (wI (wI σ 19 mk (nI (t + 1))) 18 1 (nI (mk + 1))).1 20 6 = nI a := e_at_.trans e_c2
          have f3 : (wI (wI τ 11 mk (nI (t + 1))) 0 22 (nI (mk + 1))).1 0 6 = nI a := e_c2
          refine Or.inr ⟨hv50, wI (wI (wI (wI σ 19 mk (nI (t + 1))) 18 1 (nI (mk + 1))) 20 6 (nI (a + 1))) 20 9 0, wI (wI (wI τ 11 mk (nI (t + 1))) 0 22 (nI (mk + 1))) 0 6 (nI (a + 1)), a + 1, mk + 1, fun rec => ?_, fun rec => ?_, ⟨e_fa, e_tr, e_mp, e_lg, e_ro, e_ti, rfl, e_ki, e_ac, e_pa, e_sc, e_ld, rfl, by show upd (σ.1 19) mk _ = upd (τ.1 11) mk _; rw [e_mt], e_cc, e_lc, e_l1, e_l2, e_l3, e_kc, e_k1, e_k2, e_k3, e_k4, e_oc, e_oa, e_b1, e_b2, e_pr, e_sh0, e_sh1, e_sh2, e_sh3, by first | exact e_ch | (intro k hk; simp (disch := omega) only [wI_hi, wJ_1]; exact e_ch k hk), e_c0, e_d0, e_c1, e_d1, rfl, ha, e_c3, e_d3, e_c4, e_d4, e_c5, e_d5, rfl, c, e_c7, e_d7, e_ps, fun z => absurd (hst.symm.trans z) (by decide), e_rm, e_lb, e_ab, fun _ => ⟨hj0.symm, by show OkIn st (a + 1) (τ.1 0 7) _ _ _; rw [hj0]; exact okIn_0 e_ps⟩, e_mb, e_wb, e_w0, e_w1, e_ws, e_wp, e_kb, by
            intro m hm
            show ∃ j : Nat, 1 ≤ j ∧ j ≤ t + 1 ∧ upd (τ.1 11) mk (nI (t + 1)) m = nI j
            by_cases e : m = mk
            · rw [e, pk_us]
              exact ⟨t + 1, by omega, by omega, rfl⟩
            · rw [pk_un e]
              exact e_tb m (by omega), e_bb⟩, hw, hst⟩
          · rw [hX, if_neg (by rw [z]; decide), if_neg (by rw [z]; decide), if_neg (by rw [z]; decide), if_neg (by rw [z]; decide), hadd]
            unfold X8_comeTo
            simp only [bindo_some, lete_eq, f2, nI_1, hb]
          · rw [hM, if_neg (by rw [z]; decide), if_neg (by rw [z]; decide), if_neg (by rw [z]; decide), if_neg (by rw [z]; decide), if_neg (show ¬ (20 : Int32) ≤ nI mk by rw [show (20 : Int32) = nI 20 from rfl]; exact nI_nl2 (by omega) (by omega)), inb_nI c (by decide), ix_nI (by omega), chk_t]
            unfold X12_goOn_b214
            simp only [lete_eq, f3, nI_1]
        · have hadd : X5_add n σ (nI (t + 1)) = some σ := by
            unfold X5_add
            rw [e_mc, e_c6]
            simp only [xw, bindo_some, bz_eq0, lete_eq, t32_0, t32_19]
            rw [if_pos (fun z => by rw [nI_toInt (by omega)] at z; omega)]
          refine Or.inr ⟨hv50, wI (wI σ 20 6 (nI (a + 1))) 20 9 0, wI τ 0 6 (nI (a + 1)), a + 1, mk, fun rec => ?_, fun rec => ?_, ⟨e_fa, e_tr, e_mp, e_lg, e_ro, e_ti, rfl, e_ki, e_ac, e_pa, e_sc, e_ld, e_mc, e_mt, e_cc, e_lc, e_l1, e_l2, e_l3, e_kc, e_k1, e_k2, e_k3, e_k4, e_oc, e_oa, e_b1, e_b2, e_pr, e_sh0, e_sh1, e_sh2, e_sh3, by first | exact e_ch | (intro k hk; simp (disch := omega) only [wI_hi, wJ_1]; exact e_ch k hk), e_c0, e_d0, e_c1, e_d1, rfl, ha, e_c3, e_d3, e_c4, e_d4, e_c5, e_d5, e_c6, e_d6, e_c7, e_d7, e_ps, fun z => absurd (hst.symm.trans z) (by decide), e_rm, e_lb, e_ab, fun _ => ⟨hj0.symm, by show OkIn st (a + 1) (τ.1 0 7) _ _ _; rw [hj0]; exact okIn_0 e_ps⟩, e_mb, e_wb, e_w0, e_w1, e_ws, e_wp, e_kb, e_tb, e_bb⟩, hw, hst⟩
          · rw [hX, if_neg (by rw [z]; decide), if_neg (by rw [z]; decide), if_neg (by rw [z]; decide), if_neg (by rw [z]; decide), hadd]
            unfold X8_comeTo
            simp only [bindo_some, lete_eq, e_at_, e_c2, nI_1, hb]
          · rw [hM, if_neg (by rw [z]; decide), if_neg (by rw [z]; decide), if_neg (by rw [z]; decide), if_neg (by rw [z]; decide), if_pos (show (20 : Int32) ≤ nI mk by rw [show (20 : Int32) = nI 20 from rfl]; exact nI_le (by omega) (by omega))]
            unfold X12_goOn_b214
            simp only [lete_eq, e_c2, nI_1]
    · refine Or.inl ⟨_, _, a, fun rec => ?_, fun rec => ?_, halt_ok h0 3 hst, hw, Or.inr rfl⟩
      · rw [X8_goOn_l2, if_pos (show (50 : Int32) ≤ nI v by rw [show (50 : Int32) = nI 50 from rfl]; exact nI_le (by omega) (by omega)), e_sc, e_c3, e_at_, e_c2, if_neg (nI_nl2 ha (by omega))]
        unfold X8_goOn_b153 X8_halt
        simp only [lete_eq, bindo_some]
      · rw [X12_goOn_l2, if_neg (fun z => z hst), e_c2, e_c3, if_pos (fun z => by have := (nI_eq (by omega) (by omega)).mp z; omega)]
        simp only [lete_eq, nI_1]
        rw [if_neg (show ¬ nI (v + 1) ≤ 50 by rw [show (50 : Int32) = nI 50 from rfl]; exact nI_nl2 (by omega) (by omega))]
        unfold X12_stopBy
        simp only [lete_eq, bindo_some]
  · have has : a = st := by omega
    refine Or.inl ⟨_, _, a, fun rec => ?_, fun rec => ?_, halt_ok h0 0 hst, hw, Or.inr rfl⟩
    · rw [X8_goOn_l2, e_sc, e_c3, e_at_, e_c2, if_pos (nI_le (show st ≤ a by omega) (by omega)), if_neg (nI_nlt (show st ≤ a by omega) (by omega))]
      unfold X8_goOn_b153 X8_halt
      simp only [lete_eq, bindo_some]
      split <;> rfl
    · rw [X12_goOn_l2, if_neg (fun z => z hst), e_c2, e_c3, if_neg (fun z => z (by rw [has]))]
      unfold X12_stopBy
      simp only [lete_eq, bindo_some]
theorem goOn_loop {n t st lo co ot : Nat} : ∀ (q v f1 f2 a mk : Nat) (σ τ : Mem), v + q = 51 → q < f1 + 1 → q < f2 + 1 → v ≤ 50 → RelT n t a st lo co mk ot σ τ → τ.1 0 4 = 1 → Wk σ τ → ∃ (σ' τ' : Mem) (a' mk' : Nat), loopF (fun (rec : (Mem × Int32) → Option (Mem)) (s : Mem × Int32) => X8_goOn_l2 n rec s.1 s.2) f1 (σ, nI v) = some σ' ∧ loopF (fun (rec : (Mem × Int32) → Option (Mem)) (s : Mem × Int32) => X12_goOn_l2 rec s.1 s.2) f2 (τ, nI v) = some τ' ∧ RelT n t a' st lo co mk' ot σ' τ' ∧ Wk σ' τ' ∧ (τ'.1 0 4 = 1 ∨ τ'.1 0 4 = 2) := by
  intro q
  induction q with
  | zero => intro v f1 f2 a mk σ τ hq _ _ hv; omega
  | succ q ih =>
    intro v f1 f2 a mk σ τ hq hf1 hf2 hv h hst hw
    obtain ⟨f1, rfl⟩ : ∃ g, f1 = g + 1 := ⟨f1 - 1, by omega⟩
    obtain ⟨f2, rfl⟩ : ∃ g, f2 = g + 1 := ⟨f2 - 1, by omega⟩
    rcases goOn_step h hst hw hv with ⟨σ', τ', a', y1, y2, y3, y4, y5⟩ | ⟨hlt, σ1, τ1, a1, mk1, y1, y2, y3, y4, y5⟩
    · exact ⟨σ', τ', a', mk, y1 _, y2 _, y3, y4, y5⟩
    · obtain ⟨σ', τ', a', mk', z1, z2, z3⟩ := ih (v + 1) f1 f2 a1 mk1 σ1 τ1 (by omega) (by omega) (by omega) (by omega) y3 y5 y4
      exact ⟨σ', τ', a', mk', (y1 _).trans z1, (y2 _).trans z2, z3⟩
theorem goOn_ok {n t a st lo co mk ot : Nat} {σ τ : Mem} (h : RelT n t a st lo co mk ot σ τ) (hst : τ.1 0 4 = 1) (hw : Wk σ τ) : ∃ (σ' τ' : Mem) (a' mk' : Nat), X8_goOn n σ = some σ' ∧ X12_goOn τ = some τ' ∧ RelT n t a' st lo co mk' ot σ' τ' ∧ Wk σ' τ' ∧ (τ'.1 0 4 = 1 ∨ τ'.1 0 4 = 2) :=
  goOn_loop 51 0 FU FU a mk σ τ (by omega) (by decide) (by decide) (by omega) h hst hw
