/-! limits, and the loop of ticks -/
def stop1 (τ : Mem) : Mem := wI (wI (wI τ 0 10 1) 0 4 2) 0 11 0
theorem above_loop {n t a st lo co mk ot : Nat} {σ τ : Mem} (h : RelC n t a st lo co mk ot σ τ) (u : Nat) : ∀ (q k f1 f2 : Nat), k + q = n → q < f1 → q < f2 → ∃ r : Int32, (r = 0 ∨ r = 1) ∧ loopF (fun (rec : (Int32 × Int32) → Option (Int32)) (s : Int32 × Int32) => X2_isOneAbove_l2 n rec σ s.1 s.2) f1 (nI t, nI k) = some r ∧ loopF (fun (rec : (Mem × Int32) → Option (Mem)) (s : Mem × Int32) => X12_turn_l344 rec s.1 s.2) f2 (τ, nI k) = some (if r = 0 then τ else stop1 τ) := by
  have hR := relR_of h
  obtain ⟨e_fa, e_tr, e_mp, e_lg, e_ro, e_ti, e_at_, e_ki, e_ac, e_pa, e_sc, e_ld, e_mc, e_mt, e_cc, e_lc, e_l1, e_l2, e_l3, e_kc, e_k1, e_k2, e_k3, e_k4, e_oc, e_oa, e_b1, e_b2, e_pr, e_sh0, e_sh1, e_sh2, e_sh3, e_ch, e_c0, e_d0, e_c1, e_d1, e_c2, e_d2, e_c3, e_d3, e_c4, e_d4, e_c5, e_d5, e_c6, e_d6, e_c7, e_d7, e_ps, e_oz, e_rm, e_lb, e_ab, e_ru, e_mb, e_wb, e_w0, e_w1, e_ws, e_wp, e_kb, e_tb, e_bb⟩ := h
  intro q
  induction q with
  | zero =>
    intro k f1 f2 hk hf1 hf2
    obtain ⟨f1, rfl⟩ : ∃ g, f1 = g + 1 := ⟨f1 - 1, by omega⟩
    obtain ⟨f2, rfl⟩ : ∃ g, f2 = g + 1 := ⟨f2 - 1, by omega⟩
    obtain rfl : k = n := by omega
    refine ⟨0, Or.inl rfl, ?_, ?_⟩
    · show X2_isOneAbove_l2 k _ σ (nI t) (nI k) = _
      rw [X2_isOneAbove_l2, e_cc, e_c0, if_pos (nI_le (Nat.le_refl _) (by omega))]
    · show X12_turn_l344 _ τ (nI k) = _
      rw [X12_turn_l344, e_c0, if_pos (nI_le (Nat.le_refl _) (by omega)), if_pos rfl]
  | succ q ih =>
    intro k f1 f2 hk hf1 hf2
    obtain ⟨f1, rfl⟩ : ∃ g, f1 = g + 1 := ⟨f1 - 1, by omega⟩
    obtain ⟨f2, rfl⟩ : ∃ g, f2 = g + 1 := ⟨f2 - 1, by omega⟩
    have hkn : k < n := by omega
    obtain ⟨r0, hr0, y1, y2⟩ := ih (k + 1) f1 f2 (by omega) (by omega) (by omega)
    obtain ⟨q0, q1, q2, q3, q4, q5, q6, q7, q8, ⟨ra, r1, r2, q9⟩, q10⟩ := e_ch k hkn
    have hX : loopF (fun (rec : (Int32 × Int32) → Option (Int32)) (s : Int32 × Int32) => X2_isOneAbove_l2 n rec σ s.1 s.2) (f1 + 1) (nI t, nI k) = if τ.1 17 k = 0 then some r0 else (bindo (X1_readsAt n (100 + k) σ (nI t)) (fun r6 => if r6 = (0 : Int32) then some r0 else (bindo (X2_value n σ (100 + k) (nI t)) (fun r8 => if (lg_cmp r8 (-9223372036854775808 : Int64)) = (0 : Int32) then some r0 else (if (lg_cmp r8 (((σ.1 (100 + k) 7)).toInt64)) ≤ (0 : Int32) then some r0 else some 1))))) := by
      show X2_isOneAbove_l2 n _ σ (nI t) (nI k) = _
      have hb : X2_isOneAbove_b72 n (fun s => loopF (fun (rec : (Int32 × Int32) → Option (Int32)) (s : Int32 × Int32) => X2_isOneAbove_l2 n rec σ s.1 s.2) f1 s) σ (nI t) (nI k) = some r0 := by
        unfold X2_isOneAbove_b72
        simp only [lete_eq, nI_1]
        exact y1
      rw [X2_isOneAbove_l2, e_cc, e_c0, if_neg (nI_nl2 hkn (by omega)), if_neg (show ¬ (8 : Int32) ≤ nI k by rw [show (8 : Int32) = nI 8 from rfl]; exact nI_nl2 (by omega) (by omega)), inb_nI (show k < 8 by omega) (by decide), ix_nI (by omega), chk_t]
      simp only [lete_eq, xRows, if_pos hkn, caseo, isCh_of hkn, chk_t, q6]
      rw [hb]
    have hM : loopF (fun (rec : (Mem × Int32) → Option (Mem)) (s : Mem × Int32) => X12_turn_l344 rec s.1 s.2) (f2 + 1) (τ, nI k) = if τ.1 17 k = 0 then some (if r0 = 0 then τ else stop1 τ) else (if ¬ nI (t % ra) = (0 : Int32) then some (if r0 = 0 then τ else stop1 τ) else (bindo (X12_isLost τ (nI k) (nI t)) (fun r5 => if ¬ r5 = (0 : Int32) then some (if r0 = 0 then τ else stop1 τ) else (bindo (X12_corrected τ (nI k) (nI t)) (fun r7 => if (lg_cmp r7 (((τ.1 18 k)).toInt64)) ≤ (0 : Int32) then some (if r0 = 0 then τ else stop1 τ) else some (stop1 τ)))))) := by
      show X12_turn_l344 _ τ (nI k) = _
      have hb : X12_turn_b419 (fun s => loopF (fun (rec : (Mem × Int32) → Option (Mem)) (s : Mem × Int32) => X12_turn_l344 rec s.1 s.2) f2 s) τ (nI k) = some (if r0 = 0 then τ else stop1 τ) := by
        unfold X12_turn_b419
        simp only [lete_eq, nI_1]
        exact y2
      rw [X12_turn_l344, e_c0, if_neg (nI_nl2 hkn (by omega)), inb_nI (show k < 8 by omega) (by decide), ix_nI (by omega), q9, e_c1, show nz (nI ra) = true by simp [nz]; exact nI_ne0 (by omega) (by omega), pk_rem (by omega) (by omega) (by omega)]
      simp only [chk_t]
      rw [hb]
      unfold X12_stopBy stop1
      simp only [lete_eq, bindo_some]
    rw [hX, hM]
    by_cases c1 : τ.1 17 k = 0
    · rw [if_pos c1, if_pos c1]
      exact ⟨r0, hr0, rfl, rfl⟩
    · rw [if_neg c1, if_neg c1, ev_readsAt (q2.trans q9) r1 r2 (by omega)]
      simp only [bindo_some, bz_eq0]
      by_cases c2 : t % ra = 0
      · rw [if_neg (show ¬ ¬ t % ra = 0 from fun z => z c2), if_neg (show ¬ ¬ nI (t % ra) = 0 from fun z => z (by rw [c2]; rfl))]
        obtain ⟨l, hl, g1, g2, g3⟩ := lost_ok hR hkn (T := t) (by omega)
        rw [g2]
        simp only [bindo_some]
        rcases hl with rfl | rfl
        · obtain ⟨v, z1, z2, -, -⟩ := value_ok hR hkn (T := t) (by omega) (g3 rfl)
          rw [z1 g1, z2]
          simp only [bindo_some]
          rw [if_neg (fun z => v_ne_lost ((lg_cmp_eq _ _).mp z)), if_neg (show ¬ ¬ True from fun z => z trivial)]
          have hlim : σ.1 (100 + k) 7 = τ.1 18 k := by
            rcases q7 with z | ⟨-, z⟩
            · exact absurd z c1
            · exact z
          rw [hlim]
          by_cases c3 : lg_cmp v.toInt64 (τ.1 18 k).toInt64 ≤ 0
          · rw [if_pos c3, if_pos c3]
            exact ⟨r0, hr0, rfl, rfl⟩
          · rw [if_neg c3, if_neg c3]
            exact ⟨1, Or.inr rfl, rfl, by rw [if_neg n1_0]⟩
        · unfold X2_value
          rw [g1]
          simp only [bindo_some]
          rw [if_neg n1_0]
          simp only [bindo_some]
          rw [if_pos ((lg_cmp_eq _ _).mpr rfl), if_pos n1_0]
          exact ⟨r0, hr0, rfl, rfl⟩
      · rw [if_pos c2, if_pos (show ¬ nI (t % ra) = 0 from nI_ne0 (by omega) (by have := Nat.mod_lt t (show 0 < ra by omega); omega))]
        exact ⟨r0, hr0, rfl, rfl⟩
theorem haltC {n t a st lo co mk ot : Nat} {σ τ : Mem} (h : RelC n t a st lo co mk ot σ τ) (hst : τ.1 0 4 = 1) : RelC n t a st lo co mk ot (wI (wI σ 20 7 1) 20 5 2) (stop1 τ) := by
  obtain ⟨e_fa, e_tr, e_mp, e_lg, e_ro, e_ti, e_at_, e_ki, e_ac, e_pa, e_sc, e_ld, e_mc, e_mt, e_cc, e_lc, e_l1, e_l2, e_l3, e_kc, e_k1, e_k2, e_k3, e_k4, e_oc, e_oa, e_b1, e_b2, e_pr, e_sh0, e_sh1, e_sh2, e_sh3, e_ch, e_c0, e_d0, e_c1, e_d1, e_c2, e_d2, e_c3, e_d3, e_c4, e_d4, e_c5, e_d5, e_c6, e_d6, e_c7, e_d7, e_ps, e_oz, e_rm, e_lb, e_ab, e_ru, e_mb, e_wb, e_w0, e_w1, e_ws, e_wp, e_kb, e_tb, e_bb⟩ := h
  have hac : τ.1 0 11 = 0 := e_ab.1 (Or.inr hst)
  exact ⟨e_fa, e_tr, e_mp, e_lg, rfl, e_ti, e_at_, rfl, e_ac.trans hac, e_pa, e_sc, e_ld, e_mc, e_mt, e_cc, e_lc, e_l1, e_l2, e_l3, e_kc, e_k1, e_k2, e_k3, e_k4, e_oc, e_oa, e_b1, e_b2, e_pr, e_sh0, e_sh1, e_sh2, e_sh3, by first | exact e_ch | (intro k hk; simp (disch := omega) only [wI_hi, wJ_1]; exact e_ch k hk), e_c0, e_d0, e_c1, e_d1, e_c2, e_d2, e_c3, e_d3, e_c4, e_d4, e_c5, e_d5, e_c6, e_d6, e_c7, e_d7, e_ps, (fun z => absurd (show (2 : Int32) = 0 from z) (by decide)), Or.inr (Or.inr (Or.inl rfl)), e_lb, ⟨fun z => z.elim (fun z => absurd (show (2 : Int32) = 0 from z) (by decide)) (fun z => absurd (show (2 : Int32) = 1 from z) (by decide)), fun _ => ⟨0, by decide, rfl⟩⟩, (fun z => absurd (show (2 : Int32) = 1 from z) (by decide)), e_mb, e_wb, e_w0, e_w1, e_ws, e_wp, e_kb, e_tb, e_bb⟩
theorem actsC {n t a st lo co mk ot : Nat} {σ τ : Mem} (h : RelC n t a st lo co mk ot σ τ) (j : Nat) (hj : j < 10) (hst : τ.1 0 4 = 2) (ea : τ.1 0 11 = nI j) (r : Int32) (hr : (j + 1 < 10 ∧ r = 2) ∨ (j + 1 = 10 ∧ r = 3)) : RelC n t a st lo co mk ot (wI (wI σ 20 8 (nI (j + 1))) 20 5 r) (wI (wI τ 0 11 (nI (j + 1))) 0 4 r) := by
  obtain ⟨e_fa, e_tr, e_mp, e_lg, e_ro, e_ti, e_at_, e_ki, e_ac, e_pa, e_sc, e_ld, e_mc, e_mt, e_cc, e_lc, e_l1, e_l2, e_l3, e_kc, e_k1, e_k2, e_k3, e_k4, e_oc, e_oa, e_b1, e_b2, e_pr, e_sh0, e_sh1, e_sh2, e_sh3, e_ch, e_c0, e_d0, e_c1, e_d1, e_c2, e_d2, e_c3, e_d3, e_c4, e_d4, e_c5, e_d5, e_c6, e_d6, e_c7, e_d7, e_ps, e_oz, e_rm, e_lb, e_ab, e_ru, e_mb, e_wb, e_w0, e_w1, e_ws, e_wp, e_kb, e_tb, e_bb⟩ := h
  rcases hr with ⟨hj2, rfl⟩ | ⟨hj2, rfl⟩
  · exact ⟨e_fa, e_tr, e_mp, e_lg, rfl, e_ti, e_at_, e_ki, rfl, e_pa, e_sc, e_ld, e_mc, e_mt, e_cc, e_lc, e_l1, e_l2, e_l3, e_kc, e_k1, e_k2, e_k3, e_k4, e_oc, e_oa, e_b1, e_b2, e_pr, e_sh0, e_sh1, e_sh2, e_sh3, by first | exact e_ch | (intro k hk; simp (disch := omega) only [wI_hi, wJ_1]; exact e_ch k hk), e_c0, e_d0, e_c1, e_d1, e_c2, e_d2, e_c3, e_d3, e_c4, e_d4, e_c5, e_d5, e_c6, e_d6, e_c7, e_d7, e_ps, (fun z => absurd (show (2 : Int32) = 0 from z) (by decide)), Or.inr (Or.inr (Or.inl rfl)), e_lb, ⟨fun z => z.elim (fun z => absurd (show (2 : Int32) = 0 from z) (by decide)) (fun z => absurd (show (2 : Int32) = 1 from z) (by decide)), fun _ => ⟨j + 1, hj2, rfl⟩⟩, (fun z => absurd (show (2 : Int32) = 1 from z) (by decide)), e_mb, e_wb, e_w0, e_w1, e_ws, e_wp, e_kb, e_tb, e_bb⟩
  · exact ⟨e_fa, e_tr, e_mp, e_lg, rfl, e_ti, e_at_, e_ki, rfl, e_pa, e_sc, e_ld, e_mc, e_mt, e_cc, e_lc, e_l1, e_l2, e_l3, e_kc, e_k1, e_k2, e_k3, e_k4, e_oc, e_oa, e_b1, e_b2, e_pr, e_sh0, e_sh1, e_sh2, e_sh3, by first | exact e_ch | (intro k hk; simp (disch := omega) only [wI_hi, wJ_1]; exact e_ch k hk), e_c0, e_d0, e_c1, e_d1, e_c2, e_d2, e_c3, e_d3, e_c4, e_d4, e_c5, e_d5, e_c6, e_d6, e_c7, e_d7, e_ps, (fun z => absurd (show (3 : Int32) = 0 from z) (by decide)), Or.inr (Or.inr (Or.inr rfl)), e_lb, ⟨fun z => z.elim (fun z => absurd (show (3 : Int32) = 0 from z) (by decide)) (fun z => absurd (show (3 : Int32) = 1 from z) (by decide)), (fun z => absurd (show (3 : Int32) = 2 from z) (by decide))⟩, (fun z => absurd (show (3 : Int32) = 1 from z) (by decide)), e_mb, e_wb, e_w0, e_w1, e_ws, e_wp, e_kb, e_tb, e_bb⟩
theorem turn37 {n t a st lo co mk ot : Nat} {σ τ : Mem} (h : RelT n t a st lo co mk ot σ τ) (ht : t < 3000) (hw : Wk σ τ) (hs : τ.1 0 4 = 1 ∨ τ.1 0 4 = 2) : ∃ σ' τ' : Mem, X8_oneTick_b37 n σ = some σ' ∧ X12_turn_b12 τ = some τ' ∧ RelC n (t + 1) a st lo co mk ot σ' τ' := by
  have h0 := h
  obtain ⟨e_fa, e_tr, e_mp, e_lg, e_ro, e_ti, e_at_, e_ki, e_ac, e_pa, e_sc, e_ld, e_mc, e_mt, e_cc, e_lc, e_l1, e_l2, e_l3, e_kc, e_k1, e_k2, e_k3, e_k4, e_oc, e_oa, e_b1, e_b2, e_pr, e_sh0, e_sh1, e_sh2, e_sh3, e_ch, e_c0, e_d0, e_c1, e_d1, e_c2, e_d2, e_c3, e_d3, e_c4, e_d4, e_c5, e_d5, e_c6, e_d6, e_c7, e_d7, e_ps, e_oz, e_rm, e_lb, e_ab, e_ru, e_mb, e_wb, e_w0, e_w1, e_ws, e_wp, e_kb, e_tb, e_bb⟩ := h
  unfold X8_oneTick_b37 X12_turn_b12 X12_turn_b25
  rcases hs with hs | hs
  · obtain ⟨σ1, τ1, x1, x2, x3, x4, x5⟩ := adv_ok h0 ht
    rw [if_pos (show ¬ σ.1 20 5 = 2 from fun z => absurd (hs.symm.trans (e_ro.symm.trans z)) (by decide)), if_pos (show ¬ τ.1 0 4 = 2 from fun z => absurd (hs.symm.trans z) (by decide)), hw.1, hw.2, x1]
    simp only [bindo_some]
    rw [if_pos trivial, x2]
    obtain ⟨r, hr, y1, y2⟩ := above_loop x3 0 n 0 FU FU (by omega) (show n < FU by unfold FU; omega) (show n < FU by unfold FU; omega)
    have y1 : X2_isOneAbove n σ1 (nI (t + 1)) = some r := y1
    have y2 : turnTail 0 τ1 = some (if r = 0 then τ1 else stop1 τ1) := by
      unfold turnTail
      rw [if_pos rfl]
      exact y2
    have e13 : σ1.1 1 3 = nI (t + 1) := by
      have xq := x3
      obtain ⟨e_fa, e_tr, e_mp, e_lg, e_ro, e_ti, e_at_, e_ki, e_ac, e_pa, e_sc, e_ld, e_mc, e_mt, e_cc, e_lc, e_l1, e_l2, e_l3, e_kc, e_k1, e_k2, e_k3, e_k4, e_oc, e_oa, e_b1, e_b2, e_pr, e_sh0, e_sh1, e_sh2, e_sh3, e_ch, e_c0, e_d0, e_c1, e_d1, e_c2, e_d2, e_c3, e_d3, e_c4, e_d4, e_c5, e_d5, e_c6, e_d6, e_c7, e_d7, e_ps, e_oz, e_rm, e_lb, e_ab, e_ru, e_mb, e_wb, e_w0, e_w1, e_ws, e_wp, e_kb, e_tb, e_bb⟩ := xq
      exact e_ti.trans e_c1
    rw [e13, y1, y2]
    simp only [bindo_some]
    rcases hr with rfl | rfl
    · rw [if_pos rfl, if_pos rfl]
      exact ⟨_, _, rfl, rfl, x3⟩
    · rw [if_neg n1_0, if_neg n1_0]
      unfold X8_halt
      simp only [lete_eq, bindo_some]
      exact ⟨_, _, rfl, rfl, haltC x3 (x4.trans hs)⟩
  · obtain ⟨j, hj, ej⟩ := e_ab.2 hs
    have hT : RelT n t a st lo co mk ot σ (wI (wI τ 0 24 800) 0 25 0) := ⟨e_fa, e_tr, e_mp, e_lg, e_ro, e_ti, e_at_, e_ki, e_ac, e_pa, e_sc, e_ld, e_mc, e_mt, e_cc, e_lc, e_l1, e_l2, e_l3, e_kc, e_k1, e_k2, e_k3, e_k4, e_oc, e_oa, e_b1, e_b2, e_pr, e_sh0, e_sh1, e_sh2, e_sh3, by first | exact e_ch | (intro k hk; simp (disch := omega) only [wI_hi, wJ_1]; exact e_ch k hk), e_c0, e_d0, e_c1, e_d1, e_c2, e_d2, e_c3, e_d3, e_c4, e_d4, e_c5, e_d5, e_c6, e_d6, e_c7, e_d7, e_ps, e_oz, e_rm, e_lb, e_ab, e_ru, e_mb, e_wb, e_w0, e_w1, (by decide : 0 ≤ (800 : Int32).toInt ∧ (800 : Int32).toInt ≤ 8000), (by decide : 0 ≤ (0 : Int32).toInt ∧ (0 : Int32).toInt ≤ 1000), e_kb, e_tb, e_bb⟩
    obtain ⟨σ1, τ1, x1, x2, x3, x4, x5⟩ := adv_ok hT ht
    have x1 : X3_advance n σ 800 0 = some σ1 := x1
    have x4 : τ1.1 0 4 = τ.1 0 4 := x4
    have x5 : τ1.1 0 11 = nI j := x5.trans ej
    rw [if_neg (show ¬ ¬ σ.1 20 5 = 2 from fun z => z (e_ro.trans hs)), if_neg (show ¬ ¬ τ.1 0 4 = 2 from fun z => z hs), x1]
    simp only [bindo_some, lete_eq]
    rw [if_neg n1_0, x2]
    unfold turnTail
    have e8 : σ1.1 20 8 = nI j := by
      have xq := x3
      obtain ⟨e_fa, e_tr, e_mp, e_lg, e_ro, e_ti, e_at_, e_ki, e_ac, e_pa, e_sc, e_ld, e_mc, e_mt, e_cc, e_lc, e_l1, e_l2, e_l3, e_kc, e_k1, e_k2, e_k3, e_k4, e_oc, e_oa, e_b1, e_b2, e_pr, e_sh0, e_sh1, e_sh2, e_sh3, e_ch, e_c0, e_d0, e_c1, e_d1, e_c2, e_d2, e_c3, e_d3, e_c4, e_d4, e_c5, e_d5, e_c6, e_d6, e_c7, e_d7, e_ps, e_oz, e_rm, e_lb, e_ab, e_ru, e_mb, e_wb, e_w0, e_w1, e_ws, e_wp, e_kb, e_tb, e_bb⟩ := xq
      exact e_ac.trans x5
    have f1 : (wI σ1 20 8 (nI (j + 1))).1 20 8 = nI (j + 1) := rfl
    have f2 : (wI τ1 0 11 (nI (j + 1))).1 0 11 = nI (j + 1) := rfl
    rw [e8, x5, if_neg n1_0]
    simp only [lete_eq, nI_1, f1, f2]
    by_cases c : j + 1 = 10
    · rw [if_pos (show (10 : Int32) ≤ nI (j + 1) by rw [show (10 : Int32) = nI 10 from rfl]; exact nI_le (by omega) (by omega)), if_neg (show ¬ ¬ nI (j + 1) = 10 from fun z => z (by rw [c]; rfl))]
      exact ⟨_, _, rfl, rfl, actsC x3 j hj (x4.trans hs) x5 3 (Or.inr ⟨c, rfl⟩)⟩
    · rw [if_neg (show ¬ (10 : Int32) ≤ nI (j + 1) by rw [show (10 : Int32) = nI 10 from rfl]; exact nI_nl2 (by omega) (by omega)), if_pos (show ¬ nI (j + 1) = 10 from fun z => by
        rw [show (10 : Int32) = nI 10 from rfl] at z
        exact c ((nI_eq (by omega) (by omega)).mp z))]
      exact ⟨_, _, rfl, rfl, actsC x3 j hj (x4.trans hs) x5 2 (Or.inl ⟨by omega, rfl⟩)⟩
theorem oneTick_ok {n t a st lo co mk ot : Nat} {σ τ : Mem} (h : RelC n t a st lo co mk ot σ τ) (ht : t < 3000) (hs : τ.1 0 4 = 1 ∨ τ.1 0 4 = 2) : ∃ (σ' τ' : Mem) (a' mk' : Nat), X8_oneTick n σ = some σ' ∧ X12_turn τ = some τ' ∧ RelC n (t + 1) a' st lo co mk' ot σ' τ' := by
  obtain ⟨hT, hw5, hw6⟩ := relT_of h
  have l5 : X3_latest n σ 5 = some (τ.1 0 24) := by
    obtain ⟨e_fa, e_tr, e_mp, e_lg, e_ro, e_ti, e_at_, e_ki, e_ac, e_pa, e_sc, e_ld, e_mc, e_mt, e_cc, e_lc, e_l1, e_l2, e_l3, e_kc, e_k1, e_k2, e_k3, e_k4, e_oc, e_oa, e_b1, e_b2, e_pr, e_sh0, e_sh1, e_sh2, e_sh3, e_ch, e_c0, e_d0, e_c1, e_d1, e_c2, e_d2, e_c3, e_d3, e_c4, e_d4, e_c5, e_d5, e_c6, e_d6, e_c7, e_d7, e_ps, e_oz, e_rm, e_lb, e_ab, e_ru, e_mb, e_wb, e_w0, e_w1, e_ws, e_wp, e_kb, e_tb, e_bb⟩ := h
    unfold X3_latest
    rw [ev_part σ (show t ≤ 3000 by omega) (show 5 ≤ 6 by decide) (e_ti.trans e_c1) (show (5 : Int32) = nI 5 from rfl), hw5]
    simp only [bindo_some]
  have l6 : X3_latest n (wI σ 20 10 (τ.1 0 24)) 6 = some (τ.1 0 25) := by
    obtain ⟨e_fa, e_tr, e_mp, e_lg, e_ro, e_ti, e_at_, e_ki, e_ac, e_pa, e_sc, e_ld, e_mc, e_mt, e_cc, e_lc, e_l1, e_l2, e_l3, e_kc, e_k1, e_k2, e_k3, e_k4, e_oc, e_oa, e_b1, e_b2, e_pr, e_sh0, e_sh1, e_sh2, e_sh3, e_ch, e_c0, e_d0, e_c1, e_d1, e_c2, e_d2, e_c3, e_d3, e_c4, e_d4, e_c5, e_d5, e_c6, e_d6, e_c7, e_d7, e_ps, e_oz, e_rm, e_lb, e_ab, e_ru, e_mb, e_wb, e_w0, e_w1, e_ws, e_wp, e_kb, e_tb, e_bb⟩ := h
    unfold X3_latest
    rw [ev_part (wI σ 20 10 (τ.1 0 24)) (show t ≤ 3000 by omega) (show 6 ≤ 6 by decide) (show (wI σ 20 10 (τ.1 0 24)).1 1 3 = nI t from e_ti.trans e_c1) (show (6 : Int32) = nI 6 from rfl)]
    simp only [bindo_some]
    exact congrArg some hw6
  have hT2 : RelT n t a st lo co mk ot (wI (wI σ 20 10 (τ.1 0 24)) 20 11 (τ.1 0 25)) τ := by
    obtain ⟨e_fa, e_tr, e_mp, e_lg, e_ro, e_ti, e_at_, e_ki, e_ac, e_pa, e_sc, e_ld, e_mc, e_mt, e_cc, e_lc, e_l1, e_l2, e_l3, e_kc, e_k1, e_k2, e_k3, e_k4, e_oc, e_oa, e_b1, e_b2, e_pr, e_sh0, e_sh1, e_sh2, e_sh3, e_ch, e_c0, e_d0, e_c1, e_d1, e_c2, e_d2, e_c3, e_d3, e_c4, e_d4, e_c5, e_d5, e_c6, e_d6, e_c7, e_d7, e_ps, e_oz, e_rm, e_lb, e_ab, e_ru, e_mb, e_wb, e_w0, e_w1, e_ws, e_wp, e_kb, e_tb, e_bb⟩ := hT
    exact ⟨e_fa, e_tr, e_mp, e_lg, e_ro, e_ti, e_at_, e_ki, e_ac, e_pa, e_sc, e_ld, e_mc, e_mt, e_cc, e_lc, e_l1, e_l2, e_l3, e_kc, e_k1, e_k2, e_k3, e_k4, e_oc, e_oa, e_b1, e_b2, e_pr, e_sh0, e_sh1, e_sh2, e_sh3, by first | exact e_ch | (intro k hk; simp (disch := omega) only [wI_hi, wJ_1]; exact e_ch k hk), e_c0, e_d0, e_c1, e_d1, e_c2, e_d2, e_c3, e_d3, e_c4, e_d4, e_c5, e_d5, e_c6, e_d6, e_c7, e_d7, e_ps, e_oz, e_rm, e_lb, e_ab, e_ru, e_mb, e_wb, e_w0, e_w1, e_ws, e_wp, e_kb, e_tb, e_bb⟩
  have hw : Wk (wI (wI σ 20 10 (τ.1 0 24)) 20 11 (τ.1 0 25)) τ := ⟨rfl, rfl⟩
  have e5 : (wI (wI σ 20 10 (τ.1 0 24)) 20 11 (τ.1 0 25)).1 20 5 = τ.1 0 4 := by
    obtain ⟨e_fa, e_tr, e_mp, e_lg, e_ro, e_ti, e_at_, e_ki, e_ac, e_pa, e_sc, e_ld, e_mc, e_mt, e_cc, e_lc, e_l1, e_l2, e_l3, e_kc, e_k1, e_k2, e_k3, e_k4, e_oc, e_oa, e_b1, e_b2, e_pr, e_sh0, e_sh1, e_sh2, e_sh3, e_ch, e_c0, e_d0, e_c1, e_d1, e_c2, e_d2, e_c3, e_d3, e_c4, e_d4, e_c5, e_d5, e_c6, e_d6, e_c7, e_d7, e_ps, e_oz, e_rm, e_lb, e_ab, e_ru, e_mb, e_wb, e_w0, e_w1, e_ws, e_wp, e_kb, e_tb, e_bb⟩ := h
    exact e_ro
  unfold X8_oneTick X12_turn
  rw [l5]
  simp only [bindo_some, lete_eq]
  rw [l6]
  simp only [bindo_some]
  rw [e5]
  rcases hs with hs | hs
  · rw [if_neg (show ¬ ¬ τ.1 0 4 = 1 from fun z => z hs), if_neg (show ¬ ¬ τ.1 0 4 = 1 from fun z => z hs)]
    obtain ⟨σ1, τ1, a1, mk1, x1, x2, x3, x4, x5⟩ := goOn_ok hT2 hs hw
    obtain ⟨σ2, τ2, y1, y2, y3⟩ := turn37 x3 ht x4 x5
    rw [x1, x2]
    simp only [bindo_some]
    exact ⟨σ2, τ2, a1, mk1, y1, y2, y3⟩
  · rw [if_pos (show ¬ τ.1 0 4 = 1 by rw [hs]; decide), if_pos (show ¬ τ.1 0 4 = 1 by rw [hs]; decide)]
    obtain ⟨σ2, τ2, y1, y2, y3⟩ := turn37 hT2 ht hw (Or.inr hs)
    exact ⟨σ2, τ2, a, mk, y1, y2, y3⟩
theorem tick_loop {n st lo co ot N : Nat} (hN : N ≤ 1000) : ∀ (q v f1 f2 t a mk : Nat) (σ τ : Mem), v + q = N → q < f1 → q < f2 → RelC n t a st lo co mk ot σ τ → ∃ (r : Int32) (σ' τ' : Mem), loopF (fun (rec : (Mem × Int32 × Int32) → Option (Int32 × Mem)) (s : Mem × Int32 × Int32) => X11_tick_l29 n rec s.1 s.2.1 s.2.2) f1 (σ, nI N, nI v) = some (r, σ') ∧ loopF (fun (rec : (Mem × Int32 × Int32) → Option (Int32 × Mem)) (s : Mem × Int32 × Int32) => X12_tick_l27 rec s.1 s.2.1 s.2.2) f2 (τ, nI N, nI v) = some (r, τ') ∧ RelE n σ' τ' := by
  intro q
  induction q with
  | zero =>
    intro v f1 f2 t a mk σ τ hq hf1 hf2 h0
    obtain ⟨f1, rfl⟩ : ∃ g, f1 = g + 1 := ⟨f1 - 1, by omega⟩
    obtain ⟨f2, rfl⟩ : ∃ g, f2 = g + 1 := ⟨f2 - 1, by omega⟩
    refine ⟨nI v, σ, τ, ?_, ?_, ⟨t, a, st, lo, co, mk, ot, h0⟩⟩
    · show X11_tick_l29 n _ σ (nI N) (nI v) = _
      rw [X11_tick_l29, if_pos (nI_le (by omega) (by omega))]
    · show X12_tick_l27 _ τ (nI N) (nI v) = _
      rw [X12_tick_l27, if_pos (nI_le (by omega) (by omega))]
  | succ q ih =>
    intro v f1 f2 t a mk σ τ hq hf1 hf2 h0
    obtain ⟨f1, rfl⟩ : ∃ g, f1 = g + 1 := ⟨f1 - 1, by omega⟩
    obtain ⟨f2, rfl⟩ : ∃ g, f2 = g + 1 := ⟨f2 - 1, by omega⟩
    have hX : loopF (fun (rec : (Mem × Int32 × Int32) → Option (Int32 × Mem)) (s : Mem × Int32 × Int32) => X11_tick_l29 n rec s.1 s.2.1 s.2.2) (f1 + 1) (σ, nI N, nI v) = if ¬ (τ.1 0 4 = 1 ∨ τ.1 0 4 = 2) then some (nI v, σ) else (if (3000 : Int32) ≤ nI t then some (nI v, σ) else bindo (X8_oneTick n σ) (fun σ4 => loopF (fun (rec : (Mem × Int32 × Int32) → Option (Int32 × Mem)) (s : Mem × Int32 × Int32) => X11_tick_l29 n rec s.1 s.2.1 s.2.2) f1 (σ4, nI N, nI (v + 1)))) := by
      show X11_tick_l29 n _ σ (nI N) (nI v) = _
      have h1 := h0
      obtain ⟨e_fa, e_tr, e_mp, e_lg, e_ro, e_ti, e_at_, e_ki, e_ac, e_pa, e_sc, e_ld, e_mc, e_mt, e_cc, e_lc, e_l1, e_l2, e_l3, e_kc, e_k1, e_k2, e_k3, e_k4, e_oc, e_oa, e_b1, e_b2, e_pr, e_sh0, e_sh1, e_sh2, e_sh3, e_ch, e_c0, e_d0, e_c1, e_d1, e_c2, e_d2, e_c3, e_d3, e_c4, e_d4, e_c5, e_d5, e_c6, e_d6, e_c7, e_d7, e_ps, e_oz, e_rm, e_lb, e_ab, e_ru, e_mb, e_wb, e_w0, e_w1, e_ws, e_wp, e_kb, e_tb, e_bb⟩ := h1
      rw [X11_tick_l29, if_neg (nI_nl2 (by omega) (by omega)), ev_isGoing, e_ro, e_ti, e_c1]
      simp only [bindo_some, bz_eq0, lete_eq, nI_1]
    have hM : loopF (fun (rec : (Mem × Int32 × Int32) → Option (Int32 × Mem)) (s : Mem × Int32 × Int32) => X12_tick_l27 rec s.1 s.2.1 s.2.2) (f2 + 1) (τ, nI N, nI v) = if (3000 : Int32) ≤ nI t then some (nI v, τ) else (if τ.1 0 4 = 1 then bindo (X12_turn τ) (fun σ2 => loopF (fun (rec : (Mem × Int32 × Int32) → Option (Int32 × Mem)) (s : Mem × Int32 × Int32) => X12_tick_l27 rec s.1 s.2.1 s.2.2) f2 (σ2, nI N, nI (v + 1))) else (if ¬ τ.1 0 4 = 2 then some (nI v, τ) else bindo (X12_turn τ) (fun σ2 => loopF (fun (rec : (Mem × Int32 × Int32) → Option (Int32 × Mem)) (s : Mem × Int32 × Int32) => X12_tick_l27 rec s.1 s.2.1 s.2.2) f2 (σ2, nI N, nI (v + 1))))) := by
      show X12_tick_l27 _ τ (nI N) (nI v) = _
      have h1 := h0
      obtain ⟨e_fa, e_tr, e_mp, e_lg, e_ro, e_ti, e_at_, e_ki, e_ac, e_pa, e_sc, e_ld, e_mc, e_mt, e_cc, e_lc, e_l1, e_l2, e_l3, e_kc, e_k1, e_k2, e_k3, e_k4, e_oc, e_oa, e_b1, e_b2, e_pr, e_sh0, e_sh1, e_sh2, e_sh3, e_ch, e_c0, e_d0, e_c1, e_d1, e_c2, e_d2, e_c3, e_d3, e_c4, e_d4, e_c5, e_d5, e_c6, e_d6, e_c7, e_d7, e_ps, e_oz, e_rm, e_lb, e_ab, e_ru, e_mb, e_wb, e_w0, e_w1, e_ws, e_wp, e_kb, e_tb, e_bb⟩ := h1
      rw [X12_tick_l27, if_neg (nI_nl2 (by omega) (by omega)), e_c1]
      unfold X12_tick_b58
      simp only [lete_eq, nI_1]
    rw [hX, hM]
    by_cases c1 : (3000 : Int32) ≤ nI t
    · rw [if_pos c1, if_pos c1]
      refine ⟨nI v, σ, τ, ?_, rfl, ⟨t, a, st, lo, co, mk, ot, h0⟩⟩
      split <;> rfl
    · rw [if_neg c1, if_neg c1]
      have ht : t < 3000 := by
        apply Classical.byContradiction
        intro z
        have h1 := h0
        obtain ⟨e_fa, e_tr, e_mp, e_lg, e_ro, e_ti, e_at_, e_ki, e_ac, e_pa, e_sc, e_ld, e_mc, e_mt, e_cc, e_lc, e_l1, e_l2, e_l3, e_kc, e_k1, e_k2, e_k3, e_k4, e_oc, e_oa, e_b1, e_b2, e_pr, e_sh0, e_sh1, e_sh2, e_sh3, e_ch, e_c0, e_d0, e_c1, e_d1, e_c2, e_d2, e_c3, e_d3, e_c4, e_d4, e_c5, e_d5, e_c6, e_d6, e_c7, e_d7, e_ps, e_oz, e_rm, e_lb, e_ab, e_ru, e_mb, e_wb, e_w0, e_w1, e_ws, e_wp, e_kb, e_tb, e_bb⟩ := h1
        exact c1 (by rw [show (3000 : Int32) = nI 3000 from rfl]; exact nI_le (by omega) (by omega))
      by_cases c2 : τ.1 0 4 = 1 ∨ τ.1 0 4 = 2
      · rw [if_neg (fun z => z c2)]
        obtain ⟨σ1, τ1, a1, mk1, x1, x2, x3⟩ := oneTick_ok h0 ht c2
        obtain ⟨r, σ2, τ2, y1, y2, y3⟩ := ih (v + 1) f1 f2 (t + 1) a1 mk1 σ1 τ1 (by omega) (by omega) (by omega) x3
        rw [x1, x2]
        simp only [bindo_some]
        refine ⟨r, σ2, τ2, y1, ?_, y3⟩
        rcases c2 with c2 | c2
        · rw [if_pos c2]
          exact y2
        · rw [if_neg (show ¬ τ.1 0 4 = 1 by rw [c2]; decide), if_neg (show ¬ ¬ τ.1 0 4 = 2 from fun z => z c2)]
          exact y2
      · rw [if_pos c2, if_neg (show ¬ τ.1 0 4 = 1 from fun z => c2 (Or.inl z)), if_pos (show ¬ τ.1 0 4 = 2 from fun z => c2 (Or.inr z))]
        exact ⟨nI v, σ, τ, rfl, rfl, ⟨t, a, st, lo, co, mk, ot, h0⟩⟩
theorem f_tick {n t a st lo co mk ot : Nat} {σ τ : Mem} (h : RelC n t a st lo co mk ot σ τ) (p : Int32) : Sim (RelE n) (X11_tick n σ p) (X12_tick τ p) := by
  have h0 := h
  obtain ⟨e_fa, e_tr, e_mp, e_lg, e_ro, e_ti, e_at_, e_ki, e_ac, e_pa, e_sc, e_ld, e_mc, e_mt, e_cc, e_lc, e_l1, e_l2, e_l3, e_kc, e_k1, e_k2, e_k3, e_k4, e_oc, e_oa, e_b1, e_b2, e_pr, e_sh0, e_sh1, e_sh2, e_sh3, e_ch, e_c0, e_d0, e_c1, e_d1, e_c2, e_d2, e_c3, e_d3, e_c4, e_d4, e_c5, e_d5, e_c6, e_d6, e_c7, e_d7, e_ps, e_oz, e_rm, e_lb, e_ab, e_ru, e_mb, e_wb, e_w0, e_w1, e_ws, e_wp, e_kb, e_tb, e_bb⟩ := h
  unfold X11_tick X12_tick
  rw [ev_isOff, e_ro]
  simp only [xw, mw, bindo_some, bz_eq0, Decidable.not_not, t32_0, t32_1000, t64_0, t64_1000, Int32.toInt_toInt64]
  refine sim_ite Iff.rfl (fun h1 => ?_) (fun _ => sim_ret ⟨_, _, _, _, _, _, _, h0⟩)
  refine sim_ite Iff.rfl (fun h2 => ?_) (fun _ => sim_ret ⟨_, _, _, _, _, _, _, h0⟩)
  obtain ⟨N, hN, rfl⟩ := nat_of 1000 h1.1 h1.2 (by decide)
  obtain ⟨r, σ', τ', y1, y2, y3⟩ := tick_loop hN N 0 FU FU t a mk σ τ (by omega) (show N < FU by unfold FU; omega) (show N < FU by unfold FU; omega) h0
  exact ⟨r, σ', τ', y1, y2, y3⟩
