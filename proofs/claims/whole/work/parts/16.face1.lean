/-! THE CALLS, the plain ones: both answer alike, and stand in the relation again -/
theorem f_map {n t a st lo co mk ot : Nat} {σ τ : Mem} (h : RelC n t a st lo co mk ot σ τ) (k v : Int32) : Sim (RelE n) (X11_map n σ k v) (X12_map τ k v) := by
  have h0 := h
  obtain ⟨e_fa, e_tr, e_mp, e_lg, e_ro, e_ti, e_at_, e_ki, e_ac, e_pa, e_sc, e_ld, e_mc, e_mt, e_cc, e_lc, e_l1, e_l2, e_l3, e_kc, e_k1, e_k2, e_k3, e_k4, e_oc, e_oa, e_b1, e_b2, e_pr, e_sh0, e_sh1, e_sh2, e_sh3, e_ch, e_c0, e_d0, e_c1, e_d1, e_c2, e_d2, e_c3, e_d3, e_c4, e_d4, e_c5, e_d5, e_c6, e_d6, e_c7, e_d7, e_ps, e_oz, e_rm, e_lb, e_ab, e_ru, e_mb, e_wb, e_w0, e_w1, e_ws, e_wp, e_kb, e_tb, e_bb⟩ := h
  unfold X11_map X12_map
  simp only [xw, mw, ev_isOff, bindo_some, bz_eq0, Decidable.not_not, Int32.toInt_toInt64, t32_0, t32_1, t32_2, t32_3, t32_4, t32_5, t32_6, t32_7, t32_8, t32_9, t32_10, t32_11, t32_19, t32_20, t32_23, t32_24, t32_29, t32_30, t32_39, t32_40, t32_49, t32_50, t32_79, t32_99, t32_100, t32_119, t32_120, t32_159, t32_160, t32_249, t32_250, t32_400, t32_500, t32_800, t32_950, t32_1000, t32_1050, t32_2000, t32_2999, t32_3000, t32_8000, t32_10000, t32_30000, t32_500000, t32_m1, t32_m2, t32_m3, t32_m4, t32_m9, t32_m10, t32_m500, t32_m1000, t32_m10000, t32_m30000, t64_0, t64_1, t64_2, t64_3, t64_4, t64_5, t64_6, t64_7, t64_8, t64_9, t64_10, t64_11, t64_19, t64_20, t64_23, t64_24, t64_29, t64_30, t64_39, t64_40, t64_49, t64_50, t64_79, t64_99, t64_100, t64_119, t64_120, t64_159, t64_160, t64_249, t64_250, t64_400, t64_500, t64_800, t64_950, t64_1000, t64_1050, t64_2000, t64_2999, t64_3000, t64_8000, t64_10000, t64_30000, t64_500000, t64_m1, t64_m2, t64_m3, t64_m4, t64_m9, t64_m10, t64_m500, t64_m1000, t64_m10000, t64_m30000, e_ro]
  refine sim_ite Iff.rfl (fun h1 => ?_) (fun _ => sim_ret ⟨_, _, _, _, _, _, _, h0⟩)
  refine sim_ite Iff.rfl (fun h2 => ?_) (fun _ => sim_ret ⟨_, _, _, _, _, _, _, h0⟩)
  refine sim_ite Iff.rfl (fun h3 => ?_) (fun _ => sim_ret ⟨_, _, _, _, _, _, _, h0⟩)
  obtain ⟨j, hj, rfl⟩ := nat_of 24 h1.1 h1.2 (by decide)
  have hb := inb_nI (j := j) (N := 25) (by omega) (by decide)
  unfold X3_mapped X3_remap
  simp only [xw, bindo_some, bz_eq0, Decidable.not_not, t32_0, t32_1, t32_2, t32_3, t32_4, t32_5, t32_6, t32_7, t32_8, t32_9, t32_10, t32_11, t32_19, t32_20, t32_23, t32_24, t32_29, t32_30, t32_39, t32_40, t32_49, t32_50, t32_79, t32_99, t32_100, t32_119, t32_120, t32_159, t32_160, t32_249, t32_250, t32_400, t32_500, t32_800, t32_950, t32_1000, t32_1050, t32_2000, t32_2999, t32_3000, t32_8000, t32_10000, t32_30000, t32_500000, t32_m1, t32_m2, t32_m3, t32_m4, t32_m9, t32_m10, t32_m500, t32_m1000, t32_m10000, t32_m30000, t64_0, t64_1, t64_2, t64_3, t64_4, t64_5, t64_6, t64_7, t64_8, t64_9, t64_10, t64_11, t64_19, t64_20, t64_23, t64_24, t64_29, t64_30, t64_39, t64_40, t64_49, t64_50, t64_79, t64_99, t64_100, t64_119, t64_120, t64_159, t64_160, t64_249, t64_250, t64_400, t64_500, t64_800, t64_950, t64_1000, t64_1050, t64_2000, t64_2999, t64_3000, t64_8000, t64_10000, t64_30000, t64_500000, t64_m1, t64_m2, t64_m3, t64_m4, t64_m9, t64_m10, t64_m500, t64_m1000, t64_m10000, t64_m30000, hb, chk_t, lete_eq, ix_nI (show j < 2 ^ 31 by omega)]
  rw [if_neg (by simpa using h1), if_neg (by simpa using h1)]
  simp only [bindo_some]
  refine sim_ret' (by rw [e_mp]) ⟨t, a, st, lo, co, mk, ot, ⟨e_fa, e_tr, by show upd (σ.1 2) j v = upd (τ.1 1) j v; rw [e_mp], e_lg, e_ro, e_ti, e_at_, e_ki, e_ac, e_pa, e_sc, e_ld, e_mc, e_mt, e_cc, e_lc, e_l1, e_l2, e_l3, e_kc, e_k1, e_k2, e_k3, e_k4, e_oc, e_oa, e_b1, e_b2, e_pr, e_sh0, e_sh1, e_sh2, e_sh3, by first | exact e_ch | (intro k hk; simp (disch := omega) only [wI_hi, wJ_1]; exact e_ch k hk), e_c0, e_d0, e_c1, e_d1, e_c2, e_d2, e_c3, e_d3, e_c4, e_d4, e_c5, e_d5, e_c6, e_d6, e_c7, e_d7, e_ps, e_oz, e_rm, e_lb, e_ab, e_ru, fun q hq => by show -500 ≤ (upd (τ.1 1) j v q).toInt ∧ (upd (τ.1 1) j v q).toInt ≤ 1000; unfold upd; split; exact h2; exact e_mb q hq, e_wb, e_w0, e_w1, e_ws, e_wp, e_kb, e_tb, e_bb⟩⟩
theorem f_lag {n t a st lo co mk ot : Nat} {σ τ : Mem} (h : RelC n t a st lo co mk ot σ τ) (k : Int32) : Sim (RelE n) (X11_lag n σ k) (X12_lag τ k) := by
  have h0 := h
  obtain ⟨e_fa, e_tr, e_mp, e_lg, e_ro, e_ti, e_at_, e_ki, e_ac, e_pa, e_sc, e_ld, e_mc, e_mt, e_cc, e_lc, e_l1, e_l2, e_l3, e_kc, e_k1, e_k2, e_k3, e_k4, e_oc, e_oa, e_b1, e_b2, e_pr, e_sh0, e_sh1, e_sh2, e_sh3, e_ch, e_c0, e_d0, e_c1, e_d1, e_c2, e_d2, e_c3, e_d3, e_c4, e_d4, e_c5, e_d5, e_c6, e_d6, e_c7, e_d7, e_ps, e_oz, e_rm, e_lb, e_ab, e_ru, e_mb, e_wb, e_w0, e_w1, e_ws, e_wp, e_kb, e_tb, e_bb⟩ := h
  unfold X11_lag X12_lag
  simp only [xw, mw, ev_isOff, bindo_some, bz_eq0, Decidable.not_not, Int32.toInt_toInt64, t32_0, t32_1, t32_2, t32_3, t32_4, t32_5, t32_6, t32_7, t32_8, t32_9, t32_10, t32_11, t32_19, t32_20, t32_23, t32_24, t32_29, t32_30, t32_39, t32_40, t32_49, t32_50, t32_79, t32_99, t32_100, t32_119, t32_120, t32_159, t32_160, t32_249, t32_250, t32_400, t32_500, t32_800, t32_950, t32_1000, t32_1050, t32_2000, t32_2999, t32_3000, t32_8000, t32_10000, t32_30000, t32_500000, t32_m1, t32_m2, t32_m3, t32_m4, t32_m9, t32_m10, t32_m500, t32_m1000, t32_m10000, t32_m30000, t64_0, t64_1, t64_2, t64_3, t64_4, t64_5, t64_6, t64_7, t64_8, t64_9, t64_10, t64_11, t64_19, t64_20, t64_23, t64_24, t64_29, t64_30, t64_39, t64_40, t64_49, t64_50, t64_79, t64_99, t64_100, t64_119, t64_120, t64_159, t64_160, t64_249, t64_250, t64_400, t64_500, t64_800, t64_950, t64_1000, t64_1050, t64_2000, t64_2999, t64_3000, t64_8000, t64_10000, t64_30000, t64_500000, t64_m1, t64_m2, t64_m3, t64_m4, t64_m9, t64_m10, t64_m500, t64_m1000, t64_m10000, t64_m30000, e_ro, lete_eq]
  refine sim_ite Iff.rfl (fun h1 => ?_) (fun _ => sim_ret ⟨_, _, _, _, _, _, _, h0⟩)
  refine sim_ite Iff.rfl (fun h2 => ?_) (fun _ => sim_ret ⟨_, _, _, _, _, _, _, h0⟩)
  exact sim_ret' e_lg ⟨t, a, st, lo, co, mk, ot, ⟨e_fa, e_tr, e_mp, rfl, e_ro, e_ti, e_at_, e_ki, e_ac, e_pa, e_sc, e_ld, e_mc, e_mt, e_cc, e_lc, e_l1, e_l2, e_l3, e_kc, e_k1, e_k2, e_k3, e_k4, e_oc, e_oa, e_b1, e_b2, e_pr, e_sh0, e_sh1, e_sh2, e_sh3, by first | exact e_ch | (intro k hk; simp (disch := omega) only [wI_hi, wJ_1]; exact e_ch k hk), e_c0, e_d0, e_c1, e_d1, e_c2, e_d2, e_c3, e_d3, e_c4, e_d4, e_c5, e_d5, e_c6, e_d6, e_c7, e_d7, e_ps, e_oz, e_rm, h1, e_ab, e_ru, e_mb, e_wb, e_w0, e_w1, e_ws, e_wp, e_kb, e_tb, e_bb⟩⟩
theorem f_step {n t a st lo co mk ot : Nat} {σ τ : Mem} (h : RelC n t a st lo co mk ot σ τ) (k v b c : Int32) : Sim (RelE n) (X11_step n σ k v b c) (X12_step τ k v b c) := by
  have h0 := h
  obtain ⟨e_fa, e_tr, e_mp, e_lg, e_ro, e_ti, e_at_, e_ki, e_ac, e_pa, e_sc, e_ld, e_mc, e_mt, e_cc, e_lc, e_l1, e_l2, e_l3, e_kc, e_k1, e_k2, e_k3, e_k4, e_oc, e_oa, e_b1, e_b2, e_pr, e_sh0, e_sh1, e_sh2, e_sh3, e_ch, e_c0, e_d0, e_c1, e_d1, e_c2, e_d2, e_c3, e_d3, e_c4, e_d4, e_c5, e_d5, e_c6, e_d6, e_c7, e_d7, e_ps, e_oz, e_rm, e_lb, e_ab, e_ru, e_mb, e_wb, e_w0, e_w1, e_ws, e_wp, e_kb, e_tb, e_bb⟩ := h
  unfold X11_step X12_step
  simp only [ev_isOff, bindo_some, bz_eq0, Decidable.not_not, e_ro, e_sc, fits_eq]
  refine sim_ite Iff.rfl (fun h1 => ?_) (fun _ => sim_ret ⟨_, _, _, _, _, _, _, h0⟩)
  obtain ⟨r, hr, hok⟩ := fits_ok (s := st) (by omega) k v b c
  rw [e_c3, hr]
  simp only [bindo_some]
  refine sim_ite Iff.rfl (fun h2 => ?_) (fun _ => sim_ret ⟨_, _, _, _, _, _, _, h0⟩)
  refine sim_ite (by rw [show (30 : Int32) = nI 30 from rfl, nI_ltI (by omega) (by decide), nI_eq (by omega) (by decide)]; omega) (fun h3 => ?_) (fun _ => sim_ret ⟨_, _, _, _, _, _, _, h0⟩)
  have hs : st < 30 := by rw [show (30 : Int32) = nI 30 from rfl, nI_ltI (by omega) (by decide)] at h3; exact h3
  rw [ev_add (e_sc.trans e_c3) hs, ev_addStep e_c3 hs]
  exact sim_ret' rfl ⟨t, a, st + 1, lo, co, mk, ot, ⟨e_fa, e_tr, e_mp, e_lg, e_ro, e_ti, e_at_, e_ki, e_ac, e_pa, rfl, e_ld, e_mc, e_mt, e_cc, e_lc, e_l1, e_l2, e_l3, e_kc, e_k1, e_k2, e_k3, e_k4, e_oc, e_oa, e_b1, e_b2, eqP_add e_pr hs _ _ _ _, e_sh0, e_sh1, e_sh2, e_sh3, by first | exact e_ch | (intro k hk; simp (disch := omega) only [wI_hi, wJ_1]; exact e_ch k hk), e_c0, e_d0, e_c1, e_d1, e_c2, Nat.le_succ_of_le e_d2, rfl, hs, e_c4, e_d4, e_c5, e_d5, e_c6, e_d6, e_c7, e_d7, okProg_add e_ps (hok h2), e_oz, e_rm, e_lb, e_ab, fun z => absurd (h1.symm.trans z) (by decide), e_mb, e_wb, e_w0, e_w1, e_ws, e_wp, e_kb, e_tb, e_bb⟩⟩
theorem f_clear {n t a st lo co mk ot : Nat} {σ τ : Mem} (h : RelC n t a st lo co mk ot σ τ) : Sim (RelE n) (X11_clear n σ) (X12_clear τ) := by
  have h0 := h
  obtain ⟨e_fa, e_tr, e_mp, e_lg, e_ro, e_ti, e_at_, e_ki, e_ac, e_pa, e_sc, e_ld, e_mc, e_mt, e_cc, e_lc, e_l1, e_l2, e_l3, e_kc, e_k1, e_k2, e_k3, e_k4, e_oc, e_oa, e_b1, e_b2, e_pr, e_sh0, e_sh1, e_sh2, e_sh3, e_ch, e_c0, e_d0, e_c1, e_d1, e_c2, e_d2, e_c3, e_d3, e_c4, e_d4, e_c5, e_d5, e_c6, e_d6, e_c7, e_d7, e_ps, e_oz, e_rm, e_lb, e_ab, e_ru, e_mb, e_wb, e_w0, e_w1, e_ws, e_wp, e_kb, e_tb, e_bb⟩ := h
  unfold X11_clear X12_clear
  simp only [ev_isOff, bindo_some, bz_eq0, Decidable.not_not, e_ro, lete_eq]
  refine sim_ite Iff.rfl (fun h1 => ?_) (fun _ => sim_ret ⟨_, _, _, _, _, _, _, h0⟩)
  have ha := e_oz h1
  subst ha
  exact sim_ret' e_sc ⟨t, 0, 0, lo, co, mk, ot, ⟨e_fa, e_tr, e_mp, e_lg, e_ro, e_ti, e_at_, e_ki, e_ac, e_pa, rfl, e_ld, e_mc, e_mt, e_cc, e_lc, e_l1, e_l2, e_l3, e_kc, e_k1, e_k2, e_k3, e_k4, e_oc, e_oa, e_b1, e_b2, e_pr, e_sh0, e_sh1, e_sh2, e_sh3, by first | exact e_ch | (intro k hk; simp (disch := omega) only [wI_hi, wJ_1]; exact e_ch k hk), e_c0, e_d0, e_c1, e_d1, e_c2, Nat.le_refl 0, rfl, by omega, e_c4, e_d4, e_c5, e_d5, e_c6, e_d6, e_c7, e_d7, fun s hs => absurd hs (Nat.not_lt_zero _), e_oz, e_rm, e_lb, e_ab, fun z => absurd (h1.symm.trans z) (by decide), e_mb, e_wb, e_w0, e_w1, e_ws, e_wp, e_kb, e_tb, e_bb⟩⟩
theorem f_stepped {n t a st lo co mk ot : Nat} {σ τ : Mem} (h : RelC n t a st lo co mk ot σ τ) (s w : Int32) : SimP (X11_stepped n σ s w) (X12_stepped τ s w) := by
  obtain ⟨e_fa, e_tr, e_mp, e_lg, e_ro, e_ti, e_at_, e_ki, e_ac, e_pa, e_sc, e_ld, e_mc, e_mt, e_cc, e_lc, e_l1, e_l2, e_l3, e_kc, e_k1, e_k2, e_k3, e_k4, e_oc, e_oa, e_b1, e_b2, e_pr, e_sh0, e_sh1, e_sh2, e_sh3, e_ch, e_c0, e_d0, e_c1, e_d1, e_c2, e_d2, e_c3, e_d3, e_c4, e_d4, e_c5, e_d5, e_c6, e_d6, e_c7, e_d7, e_ps, e_oz, e_rm, e_lb, e_ab, e_ru, e_mb, e_wb, e_w0, e_w1, e_ws, e_wp, e_kb, e_tb, e_bb⟩ := h
  unfold X11_stepped X12_stepped
  simp only [ev_has (e_sc.trans e_c3) e_d3, ev_isStep e_c3 e_d3, xw, bindo_some, bz_eq0, Decidable.not_not, t32_0, t32_1, t32_2, t32_3, t32_4, t32_5, t32_6, t32_7, t32_8, t32_9, t32_10, t32_11, t32_19, t32_20, t32_23, t32_24, t32_29, t32_30, t32_39, t32_40, t32_49, t32_50, t32_79, t32_99, t32_100, t32_119, t32_120, t32_159, t32_160, t32_249, t32_250, t32_400, t32_500, t32_800, t32_950, t32_1000, t32_1050, t32_2000, t32_2999, t32_3000, t32_8000, t32_10000, t32_30000, t32_500000, t32_m1, t32_m2, t32_m3, t32_m4, t32_m9, t32_m10, t32_m500, t32_m1000, t32_m10000, t32_m30000, t64_0, t64_1, t64_2, t64_3, t64_4, t64_5, t64_6, t64_7, t64_8, t64_9, t64_10, t64_11, t64_19, t64_20, t64_23, t64_24, t64_29, t64_30, t64_39, t64_40, t64_49, t64_50, t64_79, t64_99, t64_100, t64_119, t64_120, t64_159, t64_160, t64_249, t64_250, t64_400, t64_500, t64_800, t64_950, t64_1000, t64_1050, t64_2000, t64_2999, t64_3000, t64_8000, t64_10000, t64_30000, t64_500000, t64_m1, t64_m2, t64_m3, t64_m4, t64_m9, t64_m10, t64_m500, t64_m1000, t64_m10000, t64_m30000]
  refine simp_ite Iff.rfl (fun h1 => ?_) (fun _ => simp_ret)
  obtain ⟨j, hj, rfl⟩ := nat_of 29 h1.1 (by omega) (by decide)
  rw [nI_toInt (by omega)] at h1
  rw [inb_nI (show j < 30 by omega) (by decide), ix_nI (by omega)]
  simp only [chk_t]
  obtain ⟨g0, g1, g2, g3⟩ := e_pr j (by omega)
  refine simp_l (fun h2 => ?_) (fun h2 => ?_)
  · obtain ⟨i, hi, rfl⟩ := nat_of 3 h2.1 h2.2 (by decide)
    rw [ev_cell rfl rfl (by omega) (by omega)]
    rcases (show i = 0 ∨ i = 1 ∨ i = 2 ∨ i = 3 by omega) with rfl | rfl | rfl | rfl
    · rw [if_pos (by decide)]; exact simp_ret' g0
    · rw [if_neg (by decide), if_pos (by decide)]; exact simp_ret' g1
    · rw [if_neg (by decide), if_neg (by decide), if_pos (by decide)]; exact simp_ret' g2
    · rw [if_neg (by decide), if_neg (by decide), if_neg (by decide), if_pos (by decide)]; exact simp_ret' g3
  · rw [if_neg (fun e => h2 (by rw [e]; decide)), if_neg (fun e => h2 (by rw [e]; decide)), if_neg (fun e => h2 (by rw [e]; decide)), if_neg (fun e => h2 (by rw [e]; decide))]
    exact simp_ret
theorem f_stop {n t a st lo co mk ot : Nat} {σ τ : Mem} (h : RelC n t a st lo co mk ot σ τ) : Sim (RelE n) (X11_stop n σ) (X12_stop τ) := by
  have h0 := h
  obtain ⟨e_fa, e_tr, e_mp, e_lg, e_ro, e_ti, e_at_, e_ki, e_ac, e_pa, e_sc, e_ld, e_mc, e_mt, e_cc, e_lc, e_l1, e_l2, e_l3, e_kc, e_k1, e_k2, e_k3, e_k4, e_oc, e_oa, e_b1, e_b2, e_pr, e_sh0, e_sh1, e_sh2, e_sh3, e_ch, e_c0, e_d0, e_c1, e_d1, e_c2, e_d2, e_c3, e_d3, e_c4, e_d4, e_c5, e_d5, e_c6, e_d6, e_c7, e_d7, e_ps, e_oz, e_rm, e_lb, e_ab, e_ru, e_mb, e_wb, e_w0, e_w1, e_ws, e_wp, e_kb, e_tb, e_bb⟩ := h
  unfold X11_stop X12_stop
  simp only [e_ro]
  refine sim_ite Iff.rfl (fun h1 => ?_) (fun _ => sim_ret ⟨_, _, _, _, _, _, _, h0⟩)
  have hac : τ.1 0 11 = 0 := e_ab.1 (Or.inr h1)
  exact sim_ret' rfl ⟨t, a, st, lo, co, mk, ot, ⟨e_fa, e_tr, e_mp, e_lg, rfl, e_ti, e_at_, rfl, e_ac.trans hac, e_pa, e_sc, e_ld, e_mc, e_mt, e_cc, e_lc, e_l1, e_l2, e_l3, e_kc, e_k1, e_k2, e_k3, e_k4, e_oc, e_oa, e_b1, e_b2, e_pr, e_sh0, e_sh1, e_sh2, e_sh3, by first | exact e_ch | (intro k hk; simp (disch := omega) only [wI_hi, wJ_1]; exact e_ch k hk), e_c0, e_d0, e_c1, e_d1, e_c2, e_d2, e_c3, e_d3, e_c4, e_d4, e_c5, e_d5, e_c6, e_d6, e_c7, e_d7, e_ps, (fun z => absurd (show (2 : Int32) = 0 from z) (by decide)), Or.inr (Or.inr (Or.inl rfl)), e_lb, ⟨fun z => z.elim (fun z => absurd (show (2 : Int32) = 0 from z) (by decide)) (fun z => absurd (show (2 : Int32) = 1 from z) (by decide)), fun _ => ⟨0, by decide, rfl⟩⟩, (fun z => absurd (show (2 : Int32) = 1 from z) (by decide)), e_mb, e_wb, e_w0, e_w1, e_ws, e_wp, e_kb, e_tb, e_bb⟩⟩
theorem ev_isGoing (n : Nat) (σ : Mem) : X8_isGoing n σ = some (bz (σ.1 20 5 = 1 ∨ σ.1 20 5 = 2)) := by
  unfold X8_isGoing bz
  split
  · rw [if_pos (Or.inl (by assumption))]
  · split
    · rw [if_neg (by simp_all)]
    · rw [if_pos (Or.inr (by simp_all))]
theorem f_reset {n t a st lo co mk ot : Nat} {σ τ : Mem} (h : RelC n t a st lo co mk ot σ τ) : Sim (RelE n) (X11_reset n σ) (X12_reset τ) := by
  have h0 := h
  obtain ⟨e_fa, e_tr, e_mp, e_lg, e_ro, e_ti, e_at_, e_ki, e_ac, e_pa, e_sc, e_ld, e_mc, e_mt, e_cc, e_lc, e_l1, e_l2, e_l3, e_kc, e_k1, e_k2, e_k3, e_k4, e_oc, e_oa, e_b1, e_b2, e_pr, e_sh0, e_sh1, e_sh2, e_sh3, e_ch, e_c0, e_d0, e_c1, e_d1, e_c2, e_d2, e_c3, e_d3, e_c4, e_d4, e_c5, e_d5, e_c6, e_d6, e_c7, e_d7, e_ps, e_oz, e_rm, e_lb, e_ab, e_ru, e_mb, e_wb, e_w0, e_w1, e_ws, e_wp, e_kb, e_tb, e_bb⟩ := h
  unfold X11_reset X12_reset
  simp only [ev_isGoing, bindo_some, bz_eq0, Decidable.not_not, e_ro]
  refine sim_r (fun h1 => ?_) (fun h1 => ?_)
  · rw [if_neg (fun z => z (Or.inl h1))]
    exact sim_ret ⟨_, _, _, _, _, _, _, h0⟩
  · refine sim_r (fun h2 => ?_) (fun h2 => ?_)
    · rw [if_pos (fun z => z.elim h1 h2)]
      exact sim_ret' e_ti ⟨0, 0, st, lo, co, 0, ot, ⟨e_fa, e_tr, e_mp, e_lg, rfl, rfl, rfl, rfl, rfl, e_pa, e_sc, e_ld, rfl, e_mt, e_cc, e_lc, e_l1, e_l2, e_l3, e_kc, e_k1, e_k2, e_k3, e_k4, e_oc, e_oa, e_b1, e_b2, e_pr, e_sh0, e_sh1, e_sh2, e_sh3, by first | exact e_ch | (intro k hk; simp (disch := omega) only [wI_hi, wJ_1]; exact e_ch k hk), e_c0, e_d0, rfl, Nat.zero_le _, rfl, Nat.zero_le _, e_c3, e_d3, e_c4, e_d4, e_c5, e_d5, rfl, Nat.zero_le _, e_c7, e_d7, e_ps, fun _ => rfl, Or.inl rfl, e_lb, ⟨fun _ => rfl, (fun z => absurd (show (0 : Int32) = 2 from z) (by decide))⟩, fun z => absurd (show (0 : Int32) = 1 from z) (by decide), e_mb, fun i hi => e_wb i (Nat.le_trans hi (Nat.zero_le _)), e_w0, e_w1, e_w0.symm, e_w1.symm, e_kb, fun m hm => absurd hm (Nat.not_lt_zero _), e_bb⟩⟩
    · rw [if_neg (fun z => z (Or.inr (Decidable.not_not.mp h2)))]
      exact sim_ret ⟨_, _, _, _, _, _, _, h0⟩
theorem f_told {n t a st lo co mk ot : Nat} {σ τ : Mem} (h : RelC n t a st lo co mk ot σ τ) (w : Int32) : SimP (X11_told n σ w) (X12_told τ w) := by
  obtain ⟨e_fa, e_tr, e_mp, e_lg, e_ro, e_ti, e_at_, e_ki, e_ac, e_pa, e_sc, e_ld, e_mc, e_mt, e_cc, e_lc, e_l1, e_l2, e_l3, e_kc, e_k1, e_k2, e_k3, e_k4, e_oc, e_oa, e_b1, e_b2, e_pr, e_sh0, e_sh1, e_sh2, e_sh3, e_ch, e_c0, e_d0, e_c1, e_d1, e_c2, e_d2, e_c3, e_d3, e_c4, e_d4, e_c5, e_d5, e_c6, e_d6, e_c7, e_d7, e_ps, e_oz, e_rm, e_lb, e_ab, e_ru, e_mb, e_wb, e_w0, e_w1, e_ws, e_wp, e_kb, e_tb, e_bb⟩ := h
  unfold X11_told X12_told
  simp only [e_ro, e_ti, e_at_, e_ki, e_ac, e_mc, e_sc, e_cc, e_kc, e_lg]
  refine simp_ite Iff.rfl (fun _ => simp_ret) (fun _ => ?_)
  refine simp_ite Iff.rfl (fun _ => simp_ret) (fun _ => ?_)
  refine simp_ite Iff.rfl (fun _ => simp_ret) (fun _ => ?_)
  refine simp_ite Iff.rfl (fun _ => simp_ret) (fun _ => ?_)
  refine simp_ite Iff.rfl (fun _ => simp_ret) (fun _ => ?_)
  refine simp_ite Iff.rfl (fun _ => simp_ret) (fun _ => ?_)
  refine simp_ite Iff.rfl (fun _ => simp_ret) (fun _ => ?_)
  refine simp_ite Iff.rfl (fun _ => simp_ret) (fun _ => ?_)
  refine simp_ite Iff.rfl (fun _ => simp_ret) (fun _ => ?_)
  exact simp_ite Iff.rfl (fun _ => simp_ret) (fun _ => simp_ret)
theorem ev_part {n i j : Nat} (σ : Mem) (hi : i ≤ 3000) (hj : j ≤ 6) {x y : Int32} (ex : x = nI i) (ey : y = nI j) : X3_part n σ x y = some (σ.1 3 (7 * i + j)) := by
  subst ex ey
  unfold X3_part
  simp only [xw, bindo_some, bz_eq0, Decidable.not_not, t32_0, t32_1, t32_2, t32_3, t32_4, t32_5, t32_6, t32_7, t32_8, t32_9, t32_10, t32_11, t32_19, t32_20, t32_23, t32_24, t32_29, t32_30, t32_39, t32_40, t32_49, t32_50, t32_79, t32_99, t32_100, t32_119, t32_120, t32_159, t32_160, t32_249, t32_250, t32_400, t32_500, t32_800, t32_950, t32_1000, t32_1050, t32_2000, t32_2999, t32_3000, t32_8000, t32_10000, t32_30000, t32_500000, t32_m1, t32_m2, t32_m3, t32_m4, t32_m9, t32_m10, t32_m500, t32_m1000, t32_m10000, t32_m30000, t64_0, t64_1, t64_2, t64_3, t64_4, t64_5, t64_6, t64_7, t64_8, t64_9, t64_10, t64_11, t64_19, t64_20, t64_23, t64_24, t64_29, t64_30, t64_39, t64_40, t64_49, t64_50, t64_79, t64_99, t64_100, t64_119, t64_120, t64_159, t64_160, t64_249, t64_250, t64_400, t64_500, t64_800, t64_950, t64_1000, t64_1050, t64_2000, t64_2999, t64_3000, t64_8000, t64_10000, t64_30000, t64_500000, t64_m1, t64_m2, t64_m3, t64_m4, t64_m9, t64_m10, t64_m500, t64_m1000, t64_m10000, t64_m30000]
  rw [nI_toInt (by omega), nI_toInt (by omega), if_neg (by omega), if_pos (by omega)]
  rw [show nI i * (7 : Int32) + nI j = nI (7 * i + j) by rw [show (7 : Int32) = nI 7 from rfl, pk_mul, nI_add, Nat.mul_comm]]
  rw [inb_nI (by omega) (by decide), chk_t, ix_nI (by omega)]
theorem f_was {n t a st lo co mk ot : Nat} {σ τ : Mem} (h : RelC n t a st lo co mk ot σ τ) (p w : Int32) : SimP (X11_was n σ p w) (X12_was τ p w) := by
  obtain ⟨e_fa, e_tr, e_mp, e_lg, e_ro, e_ti, e_at_, e_ki, e_ac, e_pa, e_sc, e_ld, e_mc, e_mt, e_cc, e_lc, e_l1, e_l2, e_l3, e_kc, e_k1, e_k2, e_k3, e_k4, e_oc, e_oa, e_b1, e_b2, e_pr, e_sh0, e_sh1, e_sh2, e_sh3, e_ch, e_c0, e_d0, e_c1, e_d1, e_c2, e_d2, e_c3, e_d3, e_c4, e_d4, e_c5, e_d5, e_c6, e_d6, e_c7, e_d7, e_ps, e_oz, e_rm, e_lb, e_ab, e_ru, e_mb, e_wb, e_w0, e_w1, e_ws, e_wp, e_kb, e_tb, e_bb⟩ := h
  unfold X11_was X12_was
  simp only [xw, mw, bindo_some, bz_eq0, Decidable.not_not, Int32.toInt_toInt64, t32_0, t32_1, t32_2, t32_3, t32_4, t32_5, t32_6, t32_7, t32_8, t32_9, t32_10, t32_11, t32_19, t32_20, t32_23, t32_24, t32_29, t32_30, t32_39, t32_40, t32_49, t32_50, t32_79, t32_99, t32_100, t32_119, t32_120, t32_159, t32_160, t32_249, t32_250, t32_400, t32_500, t32_800, t32_950, t32_1000, t32_1050, t32_2000, t32_2999, t32_3000, t32_8000, t32_10000, t32_30000, t32_500000, t32_m1, t32_m2, t32_m3, t32_m4, t32_m9, t32_m10, t32_m500, t32_m1000, t32_m10000, t32_m30000, t64_0, t64_1, t64_2, t64_3, t64_4, t64_5, t64_6, t64_7, t64_8, t64_9, t64_10, t64_11, t64_19, t64_20, t64_23, t64_24, t64_29, t64_30, t64_39, t64_40, t64_49, t64_50, t64_79, t64_99, t64_100, t64_119, t64_120, t64_159, t64_160, t64_249, t64_250, t64_400, t64_500, t64_800, t64_950, t64_1000, t64_1050, t64_2000, t64_2999, t64_3000, t64_8000, t64_10000, t64_30000, t64_500000, t64_m1, t64_m2, t64_m3, t64_m4, t64_m9, t64_m10, t64_m500, t64_m1000, t64_m10000, t64_m30000, e_ti, e_c1, nI_toInt (show t < 2 ^ 31 by omega)]
  refine simp_ite Iff.rfl (fun h1 => ?_) (fun _ => simp_ret)
  refine simp_l (fun h2 => ?_) (fun h2 => ?_)
  · rw [if_neg (fun z => z h2)]
    obtain ⟨i, hi, rfl⟩ := nat_of 3000 h1.1 (by omega) (by decide)
    obtain ⟨j, hj, rfl⟩ := nat_of 6 h2.1 h2.2 (by decide)
    rw [ev_part σ hi hj rfl rfl]
    rw [show (7 : Int32) * nI i + nI j = nI (7 * i + j) by rw [show (7 : Int32) = nI 7 from rfl, pk_mul, nI_add]]
    rw [inb_nI (by omega) (by decide), chk_t, ix_nI (by omega), e_pa]
    exact simp_ret
  · rw [if_pos h2]
    exact simp_ret
theorem ev_mhas {n mk : Nat} {σ : Mem} (e : σ.1 18 1 = nI mk) (h : mk ≤ 20) (p : Int32) : X5_has n σ p = some (bz (0 ≤ p.toInt ∧ p.toInt < mk)) := by
  unfold X5_has
  simp only [xw, bindo_some, bz_isZ, chk_t, e, t32_0]
  rw [nI_m1 (by omega)]
  exact congrArg some (bz_congr (by omega))
theorem ev_mfirst {n j : Nat} {σ : Mem} {x : Int32} (ex : x = nI j) (h : j < 20) : X5_first n σ x = some (σ.1 19 j) := by
  subst ex
  unfold X5_first
  simp only [xw, bindo_some, bz_eq0, Decidable.not_not, t32_0, t32_1, t32_2, t32_3, t32_4, t32_5, t32_6, t32_7, t32_8, t32_9, t32_10, t32_11, t32_19, t32_20, t32_23, t32_24, t32_29, t32_30, t32_39, t32_40, t32_49, t32_50, t32_79, t32_99, t32_100, t32_119, t32_120, t32_159, t32_160, t32_249, t32_250, t32_400, t32_500, t32_800, t32_950, t32_1000, t32_1050, t32_2000, t32_2999, t32_3000, t32_8000, t32_10000, t32_30000, t32_500000, t32_m1, t32_m2, t32_m3, t32_m4, t32_m9, t32_m10, t32_m500, t32_m1000, t32_m10000, t32_m30000, t64_0, t64_1, t64_2, t64_3, t64_4, t64_5, t64_6, t64_7, t64_8, t64_9, t64_10, t64_11, t64_19, t64_20, t64_23, t64_24, t64_29, t64_30, t64_39, t64_40, t64_49, t64_50, t64_79, t64_99, t64_100, t64_119, t64_120, t64_159, t64_160, t64_249, t64_250, t64_400, t64_500, t64_800, t64_950, t64_1000, t64_1050, t64_2000, t64_2999, t64_3000, t64_8000, t64_10000, t64_30000, t64_500000, t64_m1, t64_m2, t64_m3, t64_m4, t64_m9, t64_m10, t64_m500, t64_m1000, t64_m10000, t64_m30000]
  rw [nI_toInt (by omega), if_neg (by omega), inb_nI (by omega) (by decide), chk_t, ix_nI (by omega)]
theorem f_mark {n t a st lo co mk ot : Nat} {σ τ : Mem} (h : RelC n t a st lo co mk ot σ τ) (m : Int32) : SimP (X11_mark n σ m) (X12_mark τ m) := by
  obtain ⟨e_fa, e_tr, e_mp, e_lg, e_ro, e_ti, e_at_, e_ki, e_ac, e_pa, e_sc, e_ld, e_mc, e_mt, e_cc, e_lc, e_l1, e_l2, e_l3, e_kc, e_k1, e_k2, e_k3, e_k4, e_oc, e_oa, e_b1, e_b2, e_pr, e_sh0, e_sh1, e_sh2, e_sh3, e_ch, e_c0, e_d0, e_c1, e_d1, e_c2, e_d2, e_c3, e_d3, e_c4, e_d4, e_c5, e_d5, e_c6, e_d6, e_c7, e_d7, e_ps, e_oz, e_rm, e_lb, e_ab, e_ru, e_mb, e_wb, e_w0, e_w1, e_ws, e_wp, e_kb, e_tb, e_bb⟩ := h
  unfold X11_mark X12_mark
  simp only [ev_mhas (e_mc.trans e_c6) e_d6, bindo_some, bz_eq0, Int32.lt_iff_toInt_lt, Int32.le_iff_toInt_le, e_c6, nI_toInt (show mk < 2 ^ 31 by omega), t32_0]
  refine simp_l (fun h1 => ?_) (fun h1 => ?_)
  · refine simp_r (fun _ => simp_ret) (fun h2 => ?_)
    rw [if_pos (by omega)]
    exact simp_ret
  · rw [if_neg (by omega), if_neg (by omega)]
    have h1 := Decidable.not_not.mp h1
    obtain ⟨j, hj, rfl⟩ := nat_of 19 h1.1 (by omega) (by decide)
    rw [ev_mfirst rfl (by omega), inb_nI (by omega) (by decide), chk_t, ix_nI (by omega), e_mt]
    exact simp_ret
theorem f_other {n t a st lo co mk ot : Nat} {σ τ : Mem} (h : RelC n t a st lo co mk ot σ τ) (m : Int32) : SimP (X11_other n σ m) (X12_other τ m) := by
  obtain ⟨e_fa, e_tr, e_mp, e_lg, e_ro, e_ti, e_at_, e_ki, e_ac, e_pa, e_sc, e_ld, e_mc, e_mt, e_cc, e_lc, e_l1, e_l2, e_l3, e_kc, e_k1, e_k2, e_k3, e_k4, e_oc, e_oa, e_b1, e_b2, e_pr, e_sh0, e_sh1, e_sh2, e_sh3, e_ch, e_c0, e_d0, e_c1, e_d1, e_c2, e_d2, e_c3, e_d3, e_c4, e_d4, e_c5, e_d5, e_c6, e_d6, e_c7, e_d7, e_ps, e_oz, e_rm, e_lb, e_ab, e_ru, e_mb, e_wb, e_w0, e_w1, e_ws, e_wp, e_kb, e_tb, e_bb⟩ := h
  unfold X11_other X12_other X7_otherAt
  simp only [xw, bindo_some, bz_eq0, Int32.lt_iff_toInt_lt, Int32.le_iff_toInt_le, e_oc, e_c7, nI_toInt (show ot < 2 ^ 31 by omega), t32_0, t32_1, t32_2, t32_3, t32_4, t32_5, t32_6, t32_7, t32_8, t32_9, t32_10, t32_11, t32_19, t32_20, t32_23, t32_24, t32_29, t32_30, t32_39, t32_40, t32_49, t32_50, t32_79, t32_99, t32_100, t32_119, t32_120, t32_159, t32_160, t32_249, t32_250, t32_400, t32_500, t32_800, t32_950, t32_1000, t32_1050, t32_2000, t32_2999, t32_3000, t32_8000, t32_10000, t32_30000, t32_500000, t32_m1, t32_m2, t32_m3, t32_m4, t32_m9, t32_m10, t32_m500, t32_m1000, t32_m10000, t32_m30000, t64_0, t64_1, t64_2, t64_3, t64_4, t64_5, t64_6, t64_7, t64_8, t64_9, t64_10, t64_11, t64_19, t64_20, t64_23, t64_24, t64_29, t64_30, t64_39, t64_40, t64_49, t64_50, t64_79, t64_99, t64_100, t64_119, t64_120, t64_159, t64_160, t64_249, t64_250, t64_400, t64_500, t64_800, t64_950, t64_1000, t64_1050, t64_2000, t64_2999, t64_3000, t64_8000, t64_10000, t64_30000, t64_500000, t64_m1, t64_m2, t64_m3, t64_m4, t64_m9, t64_m10, t64_m500, t64_m1000, t64_m10000, t64_m30000]
  rw [nI_m1 (by omega)]
  refine simp_l (fun h1 => ?_) (fun h1 => ?_)
  · refine simp_r (fun _ => simp_ret) (fun h2 => ?_)
    rw [if_pos (by omega)]
    exact simp_ret
  · rw [if_neg (show ¬ m.toInt < 0 by omega), if_neg (show ¬ (ot : Int) ≤ m.toInt by omega)]
    have h1 := Decidable.not_not.mp h1
    obtain ⟨j, hj, rfl⟩ := nat_of 159 h1.1 (by omega) (by decide)
    rw [nI_toInt (by omega)] at h1 ⊢
    rw [if_neg (by omega), inb_nI (by omega) (by decide), chk_t, ix_nI (by omega), e_oa]
    exact simp_ret
theorem f_trace {n t a st lo co mk ot : Nat} {σ τ : Mem} (h : RelC n t a st lo co mk ot σ τ) : SimP (X11_trace n σ) (X12_trace τ) := by
  obtain ⟨e_fa, e_tr, e_mp, e_lg, e_ro, e_ti, e_at_, e_ki, e_ac, e_pa, e_sc, e_ld, e_mc, e_mt, e_cc, e_lc, e_l1, e_l2, e_l3, e_kc, e_k1, e_k2, e_k3, e_k4, e_oc, e_oa, e_b1, e_b2, e_pr, e_sh0, e_sh1, e_sh2, e_sh3, e_ch, e_c0, e_d0, e_c1, e_d1, e_c2, e_d2, e_c3, e_d3, e_c4, e_d4, e_c5, e_d5, e_c6, e_d6, e_c7, e_d7, e_ps, e_oz, e_rm, e_lb, e_ab, e_ru, e_mb, e_wb, e_w0, e_w1, e_ws, e_wp, e_kb, e_tb, e_bb⟩ := h
  exact simp_ret' e_tr
theorem f_fault {n t a st lo co mk ot : Nat} {σ τ : Mem} (h : RelC n t a st lo co mk ot σ τ) : SimP (X11_fault n σ) (X12_fault τ) := by
  obtain ⟨e_fa, e_tr, e_mp, e_lg, e_ro, e_ti, e_at_, e_ki, e_ac, e_pa, e_sc, e_ld, e_mc, e_mt, e_cc, e_lc, e_l1, e_l2, e_l3, e_kc, e_k1, e_k2, e_k3, e_k4, e_oc, e_oa, e_b1, e_b2, e_pr, e_sh0, e_sh1, e_sh2, e_sh3, e_ch, e_c0, e_d0, e_c1, e_d1, e_c2, e_d2, e_c3, e_d3, e_c4, e_d4, e_c5, e_d5, e_c6, e_d6, e_c7, e_d7, e_ps, e_oz, e_rm, e_lb, e_ab, e_ru, e_mb, e_wb, e_w0, e_w1, e_ws, e_wp, e_kb, e_tb, e_bb⟩ := h
  exact simp_ret' e_fa
theorem f_tell {n t a st lo co mk ot : Nat} {σ τ : Mem} (h : RelC n t a st lo co mk ot σ τ) (s : Int32) : Sim (RelE n) (X11_tell n σ s) (X12_tell τ s) := by
  have h0 := h
  obtain ⟨e_fa, e_tr, e_mp, e_lg, e_ro, e_ti, e_at_, e_ki, e_ac, e_pa, e_sc, e_ld, e_mc, e_mt, e_cc, e_lc, e_l1, e_l2, e_l3, e_kc, e_k1, e_k2, e_k3, e_k4, e_oc, e_oa, e_b1, e_b2, e_pr, e_sh0, e_sh1, e_sh2, e_sh3, e_ch, e_c0, e_d0, e_c1, e_d1, e_c2, e_d2, e_c3, e_d3, e_c4, e_d4, e_c5, e_d5, e_c6, e_d6, e_c7, e_d7, e_ps, e_oz, e_rm, e_lb, e_ab, e_ru, e_mb, e_wb, e_w0, e_w1, e_ws, e_wp, e_kb, e_tb, e_bb⟩ := h
  unfold X11_tell X12_tell
  simp only [ev_has (e_sc.trans e_c3) e_d3, ev_isStep e_c3 e_d3, bindo_some, bz_eq0, Decidable.not_not, lete_eq]
  refine sim_ite Iff.rfl (fun h1 => ?_) (fun _ => sim_ret ⟨_, _, _, _, _, _, _, h0⟩)
  obtain ⟨j, hj, rfl⟩ := nat_of 29 h1.1 (by omega) (by decide)
  rw [nI_toInt (by omega)] at h1
  rw [inb_nI (show j < 30 by omega) (by decide), ix_nI (by omega)]
  simp only [chk_t]
  obtain ⟨g0, g1, g2, g3⟩ := e_pr j (by omega)
  rw [ev_cell (y := (0 : Int32)) (j := 0) rfl rfl (by omega) (by omega), ev_cell (y := (1 : Int32)) (j := 1) rfl rfl (by omega) (by omega), ev_cell (y := (3 : Int32)) (j := 3) rfl rfl (by omega) (by omega)]
  simp only [bindo_some]
  rw [show σ.1 5 (4 * j + 0) = τ.1 3 j from g0, g1, g3]
  unfold X0_telling
  refine sim_ite_b Iff.rfl (fun h2 => ?_) (fun h2 => ?_)
  · exact sim_ret' rfl ⟨t, a, st, lo, co, mk, ot, ⟨e_fa, by show (31 : Int32) * σ.1 27 0 + 1 = (31 : Int32) * τ.1 0 1 + 1; rw [e_tr], e_mp, e_lg, e_ro, e_ti, e_at_, e_ki, e_ac, e_pa, e_sc, e_ld, e_mc, e_mt, e_cc, e_lc, e_l1, e_l2, e_l3, e_kc, e_k1, e_k2, e_k3, e_k4, e_oc, e_oa, e_b1, e_b2, e_pr, e_sh0, e_sh1, e_sh2, e_sh3, by first | exact e_ch | (intro k hk; simp (disch := omega) only [wI_hi, wJ_1]; exact e_ch k hk), e_c0, e_d0, e_c1, e_d1, e_c2, e_d2, e_c3, e_d3, e_c4, e_d4, e_c5, e_d5, e_c6, e_d6, e_c7, e_d7, e_ps, e_oz, e_rm, e_lb, e_ab, e_ru, e_mb, e_wb, e_w0, e_w1, e_ws, e_wp, e_kb, e_tb, e_bb⟩⟩
  · refine sim_ite_b Iff.rfl (fun h2 => ?_) (fun h2 => ?_)
    · exact sim_ret' rfl ⟨t, a, st, lo, co, mk, ot, ⟨e_fa, by show (31 : Int32) * ((31 : Int32) * σ.1 27 0 + 2) + 1 = (31 : Int32) * ((31 : Int32) * τ.1 0 1 + 2) + 1; rw [e_tr], e_mp, e_lg, e_ro, e_ti, e_at_, e_ki, e_ac, e_pa, e_sc, e_ld, e_mc, e_mt, e_cc, e_lc, e_l1, e_l2, e_l3, e_kc, e_k1, e_k2, e_k3, e_k4, e_oc, e_oa, e_b1, e_b2, e_pr, e_sh0, e_sh1, e_sh2, e_sh3, by first | exact e_ch | (intro k hk; simp (disch := omega) only [wI_hi, wJ_1]; exact e_ch k hk), e_c0, e_d0, e_c1, e_d1, e_c2, e_d2, e_c3, e_d3, e_c4, e_d4, e_c5, e_d5, e_c6, e_d6, e_c7, e_d7, e_ps, e_oz, e_rm, e_lb, e_ab, e_ru, e_mb, e_wb, e_w0, e_w1, e_ws, e_wp, e_kb, e_tb, e_bb⟩⟩
    · refine sim_ite_b Iff.rfl (fun h2 => ?_) (fun h2 => ?_)
      · exact sim_ret' rfl ⟨t, a, st, lo, co, mk, ot, ⟨e_fa, by show (31 : Int32) * ((31 : Int32) * σ.1 27 0 + 3) + 1 = (31 : Int32) * ((31 : Int32) * τ.1 0 1 + 3) + 1; rw [e_tr], e_mp, e_lg, e_ro, e_ti, e_at_, e_ki, e_ac, e_pa, e_sc, e_ld, e_mc, e_mt, e_cc, e_lc, e_l1, e_l2, e_l3, e_kc, e_k1, e_k2, e_k3, e_k4, e_oc, e_oa, e_b1, e_b2, e_pr, e_sh0, e_sh1, e_sh2, e_sh3, by first | exact e_ch | (intro k hk; simp (disch := omega) only [wI_hi, wJ_1]; exact e_ch k hk), e_c0, e_d0, e_c1, e_d1, e_c2, e_d2, e_c3, e_d3, e_c4, e_d4, e_c5, e_d5, e_c6, e_d6, e_c7, e_d7, e_ps, e_oz, e_rm, e_lb, e_ab, e_ru, e_mb, e_wb, e_w0, e_w1, e_ws, e_wp, e_kb, e_tb, e_bb⟩⟩
      · exact sim_ret' rfl ⟨t, a, st, lo, co, mk, ot, ⟨e_fa, by show (31 : Int32) * σ.1 27 0 + 4 = (31 : Int32) * τ.1 0 1 + 4; rw [e_tr], e_mp, e_lg, e_ro, e_ti, e_at_, e_ki, e_ac, e_pa, e_sc, e_ld, e_mc, e_mt, e_cc, e_lc, e_l1, e_l2, e_l3, e_kc, e_k1, e_k2, e_k3, e_k4, e_oc, e_oa, e_b1, e_b2, e_pr, e_sh0, e_sh1, e_sh2, e_sh3, by first | exact e_ch | (intro k hk; simp (disch := omega) only [wI_hi, wJ_1]; exact e_ch k hk), e_c0, e_d0, e_c1, e_d1, e_c2, e_d2, e_c3, e_d3, e_c4, e_d4, e_c5, e_d5, e_c6, e_d6, e_c7, e_d7, e_ps, e_oz, e_rm, e_lb, e_ab, e_ru, e_mb, e_wb, e_w0, e_w1, e_ws, e_wp, e_kb, e_tb, e_bb⟩⟩
theorem f_draw {n t a st lo co mk ot : Nat} {σ τ : Mem} (h : RelC n t a st lo co mk ot σ τ) (s : Int32) : Sim (RelE n) (X11_draw n σ s) (X12_draw τ s) := by
  have h0 := h
  obtain ⟨e_fa, e_tr, e_mp, e_lg, e_ro, e_ti, e_at_, e_ki, e_ac, e_pa, e_sc, e_ld, e_mc, e_mt, e_cc, e_lc, e_l1, e_l2, e_l3, e_kc, e_k1, e_k2, e_k3, e_k4, e_oc, e_oa, e_b1, e_b2, e_pr, e_sh0, e_sh1, e_sh2, e_sh3, e_ch, e_c0, e_d0, e_c1, e_d1, e_c2, e_d2, e_c3, e_d3, e_c4, e_d4, e_c5, e_d5, e_c6, e_d6, e_c7, e_d7, e_ps, e_oz, e_rm, e_lb, e_ab, e_ru, e_mb, e_wb, e_w0, e_w1, e_ws, e_wp, e_kb, e_tb, e_bb⟩ := h
  unfold X11_draw X12_draw
  simp only [ev_has (e_sc.trans e_c3) e_d3, ev_isStep e_c3 e_d3, bindo_some, bz_eq0, Decidable.not_not, lete_eq]
  refine sim_ite Iff.rfl (fun h1 => ?_) (fun _ => sim_ret ⟨_, _, _, _, _, _, _, h0⟩)
  obtain ⟨j, hj, rfl⟩ := nat_of 29 h1.1 (by omega) (by decide)
  rw [nI_toInt (by omega)] at h1
  rw [inb_nI (show j < 30 by omega) (by decide), ix_nI (by omega)]
  simp only [chk_t]
  obtain ⟨g0, -, -, -⟩ := e_pr j (by omega)
  rw [ev_cell (y := (0 : Int32)) (j := 0) rfl rfl (by omega) (by omega)]
  simp only [bindo_some]
  rw [show σ.1 5 (4 * j + 0) = τ.1 3 j from g0]
  unfold X0_drawing
  refine sim_ite_b Iff.rfl (fun h2 => ?_) (fun h2 => ?_)
  · unfold X12_draw_b25 X12_draw_b37 X12_begins
    rw [if_pos rfl]
    simp only [bindo_some, lete_eq]
    rw [if_pos trivial, inb_nI (show j < 30 by omega) (by decide), ix_nI (by omega)]
    exact sim_ret' rfl ⟨t, a, st, lo, co, mk, ot, ⟨e_fa, by show (31 : Int32) * σ.1 27 0 + 5 = (31 : Int32) * τ.1 0 1 + 5; rw [e_tr], e_mp, e_lg, e_ro, e_ti, e_at_, e_ki, e_ac, e_pa, e_sc, e_ld, e_mc, e_mt, e_cc, e_lc, e_l1, e_l2, e_l3, e_kc, e_k1, e_k2, e_k3, e_k4, e_oc, e_oa, e_b1, e_b2, e_pr, e_sh0, e_sh1, e_sh2, e_sh3, by first | exact e_ch | (intro k hk; simp (disch := omega) only [wI_hi, wJ_1]; exact e_ch k hk), e_c0, e_d0, e_c1, e_d1, e_c2, e_d2, e_c3, e_d3, e_c4, e_d4, e_c5, e_d5, e_c6, e_d6, e_c7, e_d7, e_ps, e_oz, e_rm, e_lb, e_ab, e_ru, e_mb, e_wb, e_w0, e_w1, e_ws, e_wp, e_kb, e_tb, e_bb⟩⟩
  · exact sim_ret' rfl ⟨t, a, st, lo, co, mk, ot, ⟨e_fa, by show (31 : Int32) * σ.1 27 0 + 6 = (31 : Int32) * τ.1 0 1 + 6; rw [e_tr], e_mp, e_lg, e_ro, e_ti, e_at_, e_ki, e_ac, e_pa, e_sc, e_ld, e_mc, e_mt, e_cc, e_lc, e_l1, e_l2, e_l3, e_kc, e_k1, e_k2, e_k3, e_k4, e_oc, e_oa, e_b1, e_b2, e_pr, e_sh0, e_sh1, e_sh2, e_sh3, by first | exact e_ch | (intro k hk; simp (disch := omega) only [wI_hi, wJ_1]; exact e_ch k hk), e_c0, e_d0, e_c1, e_d1, e_c2, e_d2, e_c3, e_d3, e_c4, e_d4, e_c5, e_d5, e_c6, e_d6, e_c7, e_d7, e_ps, e_oz, e_rm, e_lb, e_ab, e_ru, e_mb, e_wb, e_w0, e_w1, e_ws, e_wp, e_kb, e_tb, e_bb⟩⟩
theorem ev_isA (k w : Int32) : X0_isA k w = some (bz (k = w ∨ (w = 0 ∧ (k = 1 ∨ k = 2)) ∨ (w = 3 ∧ k = 4))) := by
  have n03 : ¬ (0 : Int32) = 3 := by decide
  unfold X0_isA bz
  by_cases c0 : w = 0
  · subst c0
    by_cases k0 : k = 0
    · simp [k0]
    · by_cases k1 : k = 1
      · simp [k1]
      · by_cases k2 : k = 2
        · simp [k2]
        · simp [k0, k1, k2, n03]
  · by_cases kw : k = w
    · simp [c0, kw]
    · by_cases k4 : k = 4
      · by_cases w3 : w = 3
        · subst k4; subst w3; simp
        · have w4 : ¬ 4 = w := fun z => kw (k4.trans z)
          simp [c0, k4, w3, w4]
      · simp [c0, kw, k4]
theorem ev_isAM {α : Type} (k w : Int32) (A B : α) : (if w = k then A else if ¬ w = 0 then (if ¬ w = 3 then B else if ¬ k = 4 then B else A) else if k = 1 then A else if k = 2 then A else if ¬ w = 3 then B else if ¬ k = 4 then B else A) = if k = w ∨ (w = 0 ∧ (k = 1 ∨ k = 2)) ∨ (w = 3 ∧ k = 4) then A else B := by
  have n03 : ¬ (0 : Int32) = 3 := by decide
  by_cases kw : k = w
  · simp [kw]
  · have wk : ¬ w = k := fun z => kw z.symm
    by_cases c0 : w = 0
    · subst c0
      by_cases k1 : k = 1
      · simp [k1]
      · by_cases k2 : k = 2
        · simp [k2]
        · simp [kw, wk, k1, k2, n03]
    · by_cases k4 : k = 4
      · by_cases w3 : w = 3
        · have w4 : ¬ 4 = w := fun z => kw (k4.trans z)
          have w4' : ¬ w = 4 := fun z => kw (k4.trans z.symm)
          simp [w4, w4', c0, k4, w3]
        · have w4 : ¬ 4 = w := fun z => kw (k4.trans z)
          have w4' : ¬ w = 4 := fun z => kw (k4.trans z.symm)
          simp [w4, w4', c0, k4, w3]
      · simp [kw, wk, c0, k4]
theorem f_as {n t a st lo co mk ot : Nat} {σ τ : Mem} (h : RelC n t a st lo co mk ot σ τ) (s w : Int32) : Sim (RelE n) (X11_as n σ s w) (X12_as τ s w) := by
  have h0 := h
  obtain ⟨e_fa, e_tr, e_mp, e_lg, e_ro, e_ti, e_at_, e_ki, e_ac, e_pa, e_sc, e_ld, e_mc, e_mt, e_cc, e_lc, e_l1, e_l2, e_l3, e_kc, e_k1, e_k2, e_k3, e_k4, e_oc, e_oa, e_b1, e_b2, e_pr, e_sh0, e_sh1, e_sh2, e_sh3, e_ch, e_c0, e_d0, e_c1, e_d1, e_c2, e_d2, e_c3, e_d3, e_c4, e_d4, e_c5, e_d5, e_c6, e_d6, e_c7, e_d7, e_ps, e_oz, e_rm, e_lb, e_ab, e_ru, e_mb, e_wb, e_w0, e_w1, e_ws, e_wp, e_kb, e_tb, e_bb⟩ := h
  unfold X11_as X12_as
  simp only [lete_eq]
  have e1 : (wI σ 0 9 0).1 4 1 = nI st := e_sc.trans e_c3
  have e2 : (wI τ 0 0 0).1 0 13 = nI st := e_c3
  have hk : RelE n (wI σ 0 9 0) (wI τ 0 0 0) := ⟨t, a, st, lo, co, mk, ot, ⟨rfl, e_tr, e_mp, e_lg, e_ro, e_ti, e_at_, e_ki, e_ac, e_pa, e_sc, e_ld, e_mc, e_mt, e_cc, e_lc, e_l1, e_l2, e_l3, e_kc, e_k1, e_k2, e_k3, e_k4, e_oc, e_oa, e_b1, e_b2, e_pr, e_sh0, e_sh1, e_sh2, e_sh3, by first | exact e_ch | (intro k hk; simp (disch := omega) only [wI_hi, wJ_1]; exact e_ch k hk), e_c0, e_d0, e_c1, e_d1, e_c2, e_d2, e_c3, e_d3, e_c4, e_d4, e_c5, e_d5, e_c6, e_d6, e_c7, e_d7, e_ps, e_oz, e_rm, e_lb, e_ab, e_ru, e_mb, e_wb, e_w0, e_w1, e_ws, e_wp, e_kb, e_tb, e_bb⟩⟩
  have hk2 : RelE n (wI (wI σ 0 9 0) 0 9 2) (wI (wI τ 0 0 0) 0 0 2) := ⟨t, a, st, lo, co, mk, ot, ⟨rfl, e_tr, e_mp, e_lg, e_ro, e_ti, e_at_, e_ki, e_ac, e_pa, e_sc, e_ld, e_mc, e_mt, e_cc, e_lc, e_l1, e_l2, e_l3, e_kc, e_k1, e_k2, e_k3, e_k4, e_oc, e_oa, e_b1, e_b2, e_pr, e_sh0, e_sh1, e_sh2, e_sh3, by first | exact e_ch | (intro k hk; simp (disch := omega) only [wI_hi, wJ_1]; exact e_ch k hk), e_c0, e_d0, e_c1, e_d1, e_c2, e_d2, e_c3, e_d3, e_c4, e_d4, e_c5, e_d5, e_c6, e_d6, e_c7, e_d7, e_ps, e_oz, e_rm, e_lb, e_ab, e_ru, e_mb, e_wb, e_w0, e_w1, e_ws, e_wp, e_kb, e_tb, e_bb⟩⟩
  simp only [ev_has e1 e_d3, ev_isStep e2 e_d3, bindo_some, bz_eq0, Decidable.not_not, xw, mw, Int32.toInt_toInt64, t32_0, t32_1, t32_2, t32_3, t32_4, t32_5, t32_6, t32_7, t32_8, t32_9, t32_10, t32_11, t32_19, t32_20, t32_23, t32_24, t32_29, t32_30, t32_39, t32_40, t32_49, t32_50, t32_79, t32_99, t32_100, t32_119, t32_120, t32_159, t32_160, t32_249, t32_250, t32_400, t32_500, t32_800, t32_950, t32_1000, t32_1050, t32_2000, t32_2999, t32_3000, t32_8000, t32_10000, t32_30000, t32_500000, t32_m1, t32_m2, t32_m3, t32_m4, t32_m9, t32_m10, t32_m500, t32_m1000, t32_m10000, t32_m30000, t64_0, t64_1, t64_2, t64_3, t64_4, t64_5, t64_6, t64_7, t64_8, t64_9, t64_10, t64_11, t64_19, t64_20, t64_23, t64_24, t64_29, t64_30, t64_39, t64_40, t64_49, t64_50, t64_79, t64_99, t64_100, t64_119, t64_120, t64_159, t64_160, t64_249, t64_250, t64_400, t64_500, t64_800, t64_950, t64_1000, t64_1050, t64_2000, t64_2999, t64_3000, t64_8000, t64_10000, t64_30000, t64_500000, t64_m1, t64_m2, t64_m3, t64_m4, t64_m9, t64_m10, t64_m500, t64_m1000, t64_m10000, t64_m30000]
  refine sim_ite Iff.rfl (fun h1 => ?_) (fun _ => sim_ret hk)
  refine sim_ite Iff.rfl (fun h2 => ?_) (fun _ => sim_ret hk)
  obtain ⟨j, hj, rfl⟩ := nat_of 29 h1.1 (by omega) (by decide)
  rw [nI_toInt (by omega)] at h1
  rw [inb_nI (show j < 30 by omega) (by decide), ix_nI (by omega)]
  simp only [chk_t]
  obtain ⟨g0, -, -, -⟩ := e_pr j (by omega)
  rw [ev_cell (y := (0 : Int32)) (j := 0) rfl rfl (by omega) (by omega)]
  simp only [bindo_some]
  rw [show (wI σ 0 9 0).1 5 (4 * j + 0) = τ.1 3 j from g0, show (wI τ 0 0 0).1 3 j = τ.1 3 j from rfl]
  generalize τ.1 3 j = k
  have y1 : Sim (RelE n) (some ((1 : Int32), wI σ 0 9 0)) (X12_as_b66 (wI τ 0 0 0)) := sim_ret hk
  have y0 : Sim (RelE n) (bindo (X11_faulted n (wI σ 0 9 0) 2) fun a11 => some (a11.1, a11.2)) (X12_as_b70 (wI τ 0 0 0)) := sim_ret hk2
  unfold X12_as_b56
  rw [ev_isA, ev_isAM]
  simp only [bindo_some, bz_eq0]
  by_cases hp : k = w ∨ (w = 0 ∧ (k = 1 ∨ k = 2)) ∨ (w = 3 ∧ k = 4)
  · rw [if_neg (fun z => z hp), if_pos hp]
    exact y1
  · rw [if_pos hp, if_neg hp]
    exact y0
/-- another memory of the class that is the same but for the channels -/
theorem relX {n t a st lo co mk ot : Nat} {σ σ' τ : Mem} (h : RelC n t a st lo co mk ot σ τ) (hf : ∀ o, o < 100 → σ'.1 o = σ.1 o) (hc : ∀ k, k < n → EqCh (σ'.1 (100 + k)) k (τ.1 12 k) (τ.1 13 k) (τ.1 14 k) (τ.1 15 k) (τ.1 16 k) (τ.1 17 k) (τ.1 18 k)) : RelC n t a st lo co mk ot σ' τ := by
  obtain ⟨e_fa, e_tr, e_mp, e_lg, e_ro, e_ti, e_at_, e_ki, e_ac, e_pa, e_sc, e_ld, e_mc, e_mt, e_cc, e_lc, e_l1, e_l2, e_l3, e_kc, e_k1, e_k2, e_k3, e_k4, e_oc, e_oa, e_b1, e_b2, e_pr, e_sh0, e_sh1, e_sh2, e_sh3, e_ch, e_c0, e_d0, e_c1, e_d1, e_c2, e_d2, e_c3, e_d3, e_c4, e_d4, e_c5, e_d5, e_c6, e_d6, e_c7, e_d7, e_ps, e_oz, e_rm, e_lb, e_ab, e_ru, e_mb, e_wb, e_w0, e_w1, e_ws, e_wp, e_kb, e_tb, e_bb⟩ := h
  unfold RelC
  simp only [hf 0 (by decide), hf 1 (by decide), hf 2 (by decide), hf 3 (by decide), hf 4 (by decide), hf 5 (by decide), hf 6 (by decide), hf 7 (by decide), hf 8 (by decide), hf 9 (by decide), hf 10 (by decide), hf 11 (by decide), hf 12 (by decide), hf 13 (by decide), hf 14 (by decide), hf 15 (by decide), hf 16 (by decide), hf 17 (by decide), hf 18 (by decide), hf 19 (by decide), hf 20 (by decide), hf 21 (by decide), hf 22 (by decide), hf 23 (by decide), hf 24 (by decide), hf 25 (by decide), hf 26 (by decide), hf 27 (by decide), hf 28 (by decide), hf 29 (by decide), hf 30 (by decide), hf 31 (by decide), hf 32 (by decide), hf 33 (by decide), hf 34 (by decide), hf 35 (by decide), hf 36 (by decide)]
  exact ⟨e_fa, e_tr, e_mp, e_lg, e_ro, e_ti, e_at_, e_ki, e_ac, e_pa, e_sc, e_ld, e_mc, e_mt, e_cc, e_lc, e_l1, e_l2, e_l3, e_kc, e_k1, e_k2, e_k3, e_k4, e_oc, e_oa, e_b1, e_b2, e_pr, e_sh0, e_sh1, e_sh2, e_sh3, hc, e_c0, e_d0, e_c1, e_d1, e_c2, e_d2, e_c3, e_d3, e_c4, e_d4, e_c5, e_d5, e_c6, e_d6, e_c7, e_d7, e_ps, e_oz, e_rm, e_lb, e_ab, e_ru, e_mb, e_wb, e_w0, e_w1, e_ws, e_wp, e_kb, e_tb, e_bb⟩
theorem f_limit {n t a st lo co mk ot : Nat} {σ τ : Mem} (h : RelC n t a st lo co mk ot σ τ) (p v : Int32) : Sim (RelE n) (X11_limit n σ p v) (X12_limit τ p v) := by
  have h0 := h
  obtain ⟨e_fa, e_tr, e_mp, e_lg, e_ro, e_ti, e_at_, e_ki, e_ac, e_pa, e_sc, e_ld, e_mc, e_mt, e_cc, e_lc, e_l1, e_l2, e_l3, e_kc, e_k1, e_k2, e_k3, e_k4, e_oc, e_oa, e_b1, e_b2, e_pr, e_sh0, e_sh1, e_sh2, e_sh3, e_ch, e_c0, e_d0, e_c1, e_d1, e_c2, e_d2, e_c3, e_d3, e_c4, e_d4, e_c5, e_d5, e_c6, e_d6, e_c7, e_d7, e_ps, e_oz, e_rm, e_lb, e_ab, e_ru, e_mb, e_wb, e_w0, e_w1, e_ws, e_wp, e_kb, e_tb, e_bb⟩ := h
  unfold X11_limit X12_limit
  simp only [ev_find (e_cc.trans e_c0) e_d0, ev_isChannel e_c0 e_d0, bindo_some, bz_eq0, Decidable.not_not, xw, mw, Int32.toInt_toInt64, t32_0, t32_1, t32_2, t32_3, t32_4, t32_5, t32_6, t32_7, t32_8, t32_9, t32_10, t32_11, t32_19, t32_20, t32_23, t32_24, t32_29, t32_30, t32_39, t32_40, t32_49, t32_50, t32_79, t32_99, t32_100, t32_119, t32_120, t32_159, t32_160, t32_249, t32_250, t32_400, t32_500, t32_800, t32_950, t32_1000, t32_1050, t32_2000, t32_2999, t32_3000, t32_8000, t32_10000, t32_30000, t32_500000, t32_m1, t32_m2, t32_m3, t32_m4, t32_m9, t32_m10, t32_m500, t32_m1000, t32_m10000, t32_m30000, t64_0, t64_1, t64_2, t64_3, t64_4, t64_5, t64_6, t64_7, t64_8, t64_9, t64_10, t64_11, t64_19, t64_20, t64_23, t64_24, t64_29, t64_30, t64_39, t64_40, t64_49, t64_50, t64_79, t64_99, t64_100, t64_119, t64_120, t64_159, t64_160, t64_249, t64_250, t64_400, t64_500, t64_800, t64_950, t64_1000, t64_1050, t64_2000, t64_2999, t64_3000, t64_8000, t64_10000, t64_30000, t64_500000, t64_m1, t64_m2, t64_m3, t64_m4, t64_m9, t64_m10, t64_m500, t64_m1000, t64_m10000, t64_m30000, lete_eq]
  by_cases h1 : 0 ≤ p.toInt ∧ p.toInt < n
  · rw [if_pos h1, if_pos h1]
    obtain ⟨j, hj, rfl⟩ := nat_of 8 h1.1 (by omega) (by decide)
    rw [nI_toInt (by omega)] at h1 ⊢
    simp only [Int.toNat_natCast, caseo]
    rw [isCh_of (show j < n by omega), chk_t, inb_nI (show j < 8 by omega) (by decide), ix_nI (by omega)]
    simp only [chk_t]
    refine sim_ite Iff.rfl (fun h2 => ?_) (fun _ => sim_ret ⟨_, _, _, _, _, _, _, h0⟩)
    have h3 : RelC n t a st lo co mk ot σ (wI (wI τ 17 j 1) 18 j v) → True := fun _ => trivial
    refine sim_ret' rfl ⟨t, a, st, lo, co, mk, ot, ?_⟩
    unfold RelC
    have hf : ∀ o, o < 100 → (wI (wI σ (100 + j) 6 1) (100 + j) 7 v).1 o = σ.1 o := fun o ho => by rw [wI_ne _ _ _ (by omega), wI_ne _ _ _ (by omega)]
    simp only [hf 0 (by decide), hf 1 (by decide), hf 2 (by decide), hf 3 (by decide), hf 4 (by decide), hf 5 (by decide), hf 6 (by decide), hf 7 (by decide), hf 8 (by decide), hf 9 (by decide), hf 10 (by decide), hf 11 (by decide), hf 12 (by decide), hf 13 (by decide), hf 14 (by decide), hf 15 (by decide), hf 16 (by decide), hf 17 (by decide), hf 18 (by decide), hf 19 (by decide), hf 20 (by decide), hf 21 (by decide), hf 22 (by decide), hf 23 (by decide), hf 24 (by decide), hf 25 (by decide), hf 26 (by decide), hf 27 (by decide), hf 28 (by decide), hf 29 (by decide), hf 30 (by decide), hf 31 (by decide), hf 32 (by decide), hf 33 (by decide), hf 34 (by decide), hf 35 (by decide), hf 36 (by decide)]
    refine ⟨e_fa, e_tr, e_mp, e_lg, e_ro, e_ti, e_at_, e_ki, e_ac, e_pa, e_sc, e_ld, e_mc, e_mt, e_cc, e_lc, e_l1, e_l2, e_l3, e_kc, e_k1, e_k2, e_k3, e_k4, e_oc, e_oa, e_b1, e_b2, e_pr, e_sh0, e_sh1, e_sh2, e_sh3, fun k hk => ?_, e_c0, e_d0, e_c1, e_d1, e_c2, e_d2, e_c3, e_d3, e_c4, e_d4, e_c5, e_d5, e_c6, e_d6, e_c7, e_d7, e_ps, e_oz, e_rm, e_lb, e_ab, e_ru, e_mb, e_wb, e_w0, e_w1, e_ws, e_wp, e_kb, e_tb, e_bb⟩
    obtain ⟨q0, q1, q2, q3, q4, q5, q6, q7, q8⟩ := e_ch k hk
    by_cases e : k = j
    · subst e
      rw [wI_o, wI_o]
      exact ⟨q0, q1, q2, q3, q4, q5, by show (1 : Int32) = upd (τ.1 17) k 1 k; simp [upd], Or.inr ⟨by show upd (τ.1 17) k 1 k = 1; simp [upd], by show v = upd (τ.1 18) k v k; simp [upd]⟩, q8⟩
    · rw [wI_ne _ _ _ (by omega), wI_ne _ _ _ (by omega)]
      have u1 : (wI (wI τ 17 j 1) 18 j v).1 17 k = τ.1 17 k := by show upd (τ.1 17) j 1 k = _; simp [upd, e]
      have u2 : (wI (wI τ 17 j 1) 18 j v).1 18 k = τ.1 18 k := by show upd (τ.1 18) j v k = _; simp [upd, e]
      rw [u1, u2]
      exact ⟨q0, q1, q2, q3, q4, q5, q6, q7, q8⟩
  · rw [if_neg h1, if_neg h1]
    exact sim_ret ⟨_, _, _, _, _, _, _, h0⟩
theorem ev_addT8 {n q : Nat} {σ : Mem} (e : σ.1 8 4 = nI q) (h : q < 20) (x y z w : Int32) : X10_add n 8 σ x y z w = some (wI (wI (wI (wI (wI σ 9 q x) 10 q y) 11 q z) 12 q w) 8 4 (nI (q + 1))) := by
  unfold X10_add
  have e1 : (wI σ 9 q x).1 8 4 = nI q := e
  have e2 : (wI (wI σ 9 q x) 10 q y).1 8 4 = nI q := e
  have e3 : (wI (wI (wI σ 9 q x) 10 q y) 11 q z).1 8 4 = nI q := e
  have e4 : (wI (wI (wI (wI σ 9 q x) 10 q y) 11 q z) 12 q w).1 8 4 = nI q := e
  simp only [xw, bindo_some, bz_eq0, Decidable.not_not, lete_eq, t32_0, t32_1, t32_2, t32_3, t32_4, t32_5, t32_6, t32_7, t32_8, t32_9, t32_10, t32_11, t32_19, t32_20, t32_23, t32_24, t32_29, t32_30, t32_39, t32_40, t32_49, t32_50, t32_79, t32_99, t32_100, t32_119, t32_120, t32_159, t32_160, t32_249, t32_250, t32_400, t32_500, t32_800, t32_950, t32_1000, t32_1050, t32_2000, t32_2999, t32_3000, t32_8000, t32_10000, t32_30000, t32_500000, t32_m1, t32_m2, t32_m3, t32_m4, t32_m9, t32_m10, t32_m500, t32_m1000, t32_m10000, t32_m30000, t64_0, t64_1, t64_2, t64_3, t64_4, t64_5, t64_6, t64_7, t64_8, t64_9, t64_10, t64_11, t64_19, t64_20, t64_23, t64_24, t64_29, t64_30, t64_39, t64_40, t64_49, t64_50, t64_79, t64_99, t64_100, t64_119, t64_120, t64_159, t64_160, t64_249, t64_250, t64_400, t64_500, t64_800, t64_950, t64_1000, t64_1050, t64_2000, t64_2999, t64_3000, t64_8000, t64_10000, t64_30000, t64_500000, t64_m1, t64_m2, t64_m3, t64_m4, t64_m9, t64_m10, t64_m500, t64_m1000, t64_m10000, t64_m30000, e, nI_toInt (show q < 2 ^ 31 by omega), ix_nI (show q < 2 ^ 31 by omega), inb_nI (show q < 20 by omega) (by decide), chk_t, Nat.reduceAdd, e1, e2, e3, e4, nI_1]
  rw [if_neg (by omega)]
theorem ev_addT13 {n q : Nat} {σ : Mem} (e : σ.1 13 4 = nI q) (h : q < 20) (x y z w : Int32) : X10_add n 13 σ x y z w = some (wI (wI (wI (wI (wI σ 14 q x) 15 q y) 16 q z) 17 q w) 13 4 (nI (q + 1))) := by
  unfold X10_add
  have e1 : (wI σ 14 q x).1 13 4 = nI q := e
  have e2 : (wI (wI σ 14 q x) 15 q y).1 13 4 = nI q := e
  have e3 : (wI (wI (wI σ 14 q x) 15 q y) 16 q z).1 13 4 = nI q := e
  have e4 : (wI (wI (wI (wI σ 14 q x) 15 q y) 16 q z) 17 q w).1 13 4 = nI q := e
  simp only [xw, bindo_some, bz_eq0, Decidable.not_not, lete_eq, t32_0, t32_1, t32_2, t32_3, t32_4, t32_5, t32_6, t32_7, t32_8, t32_9, t32_10, t32_11, t32_19, t32_20, t32_23, t32_24, t32_29, t32_30, t32_39, t32_40, t32_49, t32_50, t32_79, t32_99, t32_100, t32_119, t32_120, t32_159, t32_160, t32_249, t32_250, t32_400, t32_500, t32_800, t32_950, t32_1000, t32_1050, t32_2000, t32_2999, t32_3000, t32_8000, t32_10000, t32_30000, t32_500000, t32_m1, t32_m2, t32_m3, t32_m4, t32_m9, t32_m10, t32_m500, t32_m1000, t32_m10000, t32_m30000, t64_0, t64_1, t64_2, t64_3, t64_4, t64_5, t64_6, t64_7, t64_8, t64_9, t64_10, t64_11, t64_19, t64_20, t64_23, t64_24, t64_29, t64_30, t64_39, t64_40, t64_49, t64_50, t64_79, t64_99, t64_100, t64_119, t64_120, t64_159, t64_160, t64_249, t64_250, t64_400, t64_500, t64_800, t64_950, t64_1000, t64_1050, t64_2000, t64_2999, t64_3000, t64_8000, t64_10000, t64_30000, t64_500000, t64_m1, t64_m2, t64_m3, t64_m4, t64_m9, t64_m10, t64_m500, t64_m1000, t64_m10000, t64_m30000, e, nI_toInt (show q < 2 ^ 31 by omega), ix_nI (show q < 2 ^ 31 by omega), inb_nI (show q < 20 by omega) (by decide), chk_t, Nat.reduceAdd, e1, e2, e3, e4, nI_1]
  rw [if_neg (by omega)]
theorem f_lose {n t a st lo co mk ot : Nat} {σ τ : Mem} (h : RelC n t a st lo co mk ot σ τ) (p u v : Int32) : Sim (RelE n) (X11_lose n σ p u v) (X12_lose τ p u v) := by
  have h0 := h
  obtain ⟨e_fa, e_tr, e_mp, e_lg, e_ro, e_ti, e_at_, e_ki, e_ac, e_pa, e_sc, e_ld, e_mc, e_mt, e_cc, e_lc, e_l1, e_l2, e_l3, e_kc, e_k1, e_k2, e_k3, e_k4, e_oc, e_oa, e_b1, e_b2, e_pr, e_sh0, e_sh1, e_sh2, e_sh3, e_ch, e_c0, e_d0, e_c1, e_d1, e_c2, e_d2, e_c3, e_d3, e_c4, e_d4, e_c5, e_d5, e_c6, e_d6, e_c7, e_d7, e_ps, e_oz, e_rm, e_lb, e_ab, e_ru, e_mb, e_wb, e_w0, e_w1, e_ws, e_wp, e_kb, e_tb, e_bb⟩ := h
  unfold X11_lose X12_lose
  simp only [ev_find (e_cc.trans e_c0) e_d0, ev_isChannel e_c0 e_d0, bindo_some, bz_eq0, Decidable.not_not, xw, mw, Int32.toInt_toInt64, t32_0, t32_1, t32_2, t32_3, t32_4, t32_5, t32_6, t32_7, t32_8, t32_9, t32_10, t32_11, t32_19, t32_20, t32_23, t32_24, t32_29, t32_30, t32_39, t32_40, t32_49, t32_50, t32_79, t32_99, t32_100, t32_119, t32_120, t32_159, t32_160, t32_249, t32_250, t32_400, t32_500, t32_800, t32_950, t32_1000, t32_1050, t32_2000, t32_2999, t32_3000, t32_8000, t32_10000, t32_30000, t32_500000, t32_m1, t32_m2, t32_m3, t32_m4, t32_m9, t32_m10, t32_m500, t32_m1000, t32_m10000, t32_m30000, t64_0, t64_1, t64_2, t64_3, t64_4, t64_5, t64_6, t64_7, t64_8, t64_9, t64_10, t64_11, t64_19, t64_20, t64_23, t64_24, t64_29, t64_30, t64_39, t64_40, t64_49, t64_50, t64_79, t64_99, t64_100, t64_119, t64_120, t64_159, t64_160, t64_249, t64_250, t64_400, t64_500, t64_800, t64_950, t64_1000, t64_1050, t64_2000, t64_2999, t64_3000, t64_8000, t64_10000, t64_30000, t64_500000, t64_m1, t64_m2, t64_m3, t64_m4, t64_m9, t64_m10, t64_m500, t64_m1000, t64_m10000, t64_m30000, lete_eq]
  by_cases h1 : 0 ≤ p.toInt ∧ p.toInt < n
  · rw [if_pos h1, if_pos h1]
    obtain ⟨j, hj, rfl⟩ := nat_of 8 h1.1 (by omega) (by decide)
    rw [nI_toInt (by omega)] at h1 ⊢
    simp only [Int.toNat_natCast, caseo]
    rw [isCh_of (show j < n by omega), chk_t]
    refine sim_ite Iff.rfl (fun _ => sim_ret ⟨_, _, _, _, _, _, _, h0⟩) (fun h2 => ?_)
    refine sim_ite Iff.rfl (fun h3 => ?_) (fun _ => sim_ret ⟨_, _, _, _, _, _, _, h0⟩)
    rw [e_lc, e_c4]
    refine sim_ite (by rw [show (20 : Int32) = nI 20 from rfl, nI_ltI (by omega) (by decide), nI_eq (by omega) (by decide)]; omega) (fun h4 => ?_) (fun _ => sim_ret ⟨_, _, _, _, _, _, _, h0⟩)
    have hs : lo < 20 := by rw [show (20 : Int32) = nI 20 from rfl, nI_ltI (by omega) (by decide)] at h4; exact h4
    rw [ev_addT8 (e_lc.trans e_c4) hs]
    have e1 : (wI τ 19 lo (nI j)).1 0 34 = nI lo := e_c4
    have e2 : (wI (wI τ 19 lo (nI j)) 20 lo u).1 0 34 = nI lo := e_c4
    have e3 : (wI (wI (wI τ 19 lo (nI j)) 20 lo u) 21 lo v).1 0 34 = nI lo := e_c4
    simp only [bindo_some, ix_nI (show lo < 2 ^ 31 by omega), inb_nI hs (by decide), chk_t, e1, e2, e3, nI_1]
    exact sim_ret' rfl ⟨t, a, st, lo + 1, co, mk, ot, ⟨e_fa, e_tr, e_mp, e_lg, e_ro, e_ti, e_at_, e_ki, e_ac, e_pa, e_sc, e_ld, e_mc, e_mt, e_cc, rfl, by show upd (σ.1 9) lo _ = upd (τ.1 19) lo _; rw [e_l1], by show upd (σ.1 10) lo _ = upd (τ.1 20) lo _; rw [e_l2], by show upd (σ.1 11) lo _ = upd (τ.1 21) lo _; rw [e_l3], e_kc, e_k1, e_k2, e_k3, e_k4, e_oc, e_oa, e_b1, e_b2, e_pr, e_sh0, e_sh1, e_sh2, e_sh3, by first | exact e_ch | (intro k hk; simp (disch := omega) only [wI_hi, wJ_1]; exact e_ch k hk), e_c0, e_d0, e_c1, e_d1, e_c2, e_d2, e_c3, e_d3, rfl, hs, e_c5, e_d5, e_c6, e_d6, e_c7, e_d7, e_ps, e_oz, e_rm, e_lb, e_ab, e_ru, e_mb, e_wb, e_w0, e_w1, e_ws, e_wp, e_kb, e_tb, e_bb⟩⟩
  · rw [if_neg h1, if_neg h1]
    exact sim_ret ⟨_, _, _, _, _, _, _, h0⟩
