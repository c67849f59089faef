/-! THE CALLS of the sheets: drop, put, at -/
theorem i64_add {a b : Int64} (h : -2 ^ 63 ≤ a.toInt + b.toInt) (h2 : a.toInt + b.toInt < 2 ^ 63) : (a + b).toInt = a.toInt + b.toInt := by
  rw [Int64.toInt_add]
  exact Int.bmod_eq_of_le (by omega) (by omega)
theorem i64_sub {a b : Int64} (h : -2 ^ 63 ≤ a.toInt - b.toInt) (h2 : a.toInt - b.toInt < 2 ^ 63) : (a - b).toInt = a.toInt - b.toInt := by
  rw [Int64.toInt_sub]
  exact Int.bmod_eq_of_le (by omega) (by omega)
theorem i64_mul {a b : Int64} (h : -2 ^ 63 ≤ a.toInt * b.toInt) (h2 : a.toInt * b.toInt < 2 ^ 63) : (a * b).toInt = a.toInt * b.toInt := by
  rw [Int64.toInt_mul]
  exact Int.bmod_eq_of_le (by omega) (by omega)
theorem i32_add {a b : Int32} (h : -2 ^ 31 ≤ a.toInt + b.toInt) (h2 : a.toInt + b.toInt < 2 ^ 31) : (a + b).toInt = a.toInt + b.toInt := by
  rw [Int32.toInt_add]
  exact Int.bmod_eq_of_le (by omega) (by omega)
theorem i32_sub {a b : Int32} (h : -2 ^ 31 ≤ a.toInt - b.toInt) (h2 : a.toInt - b.toInt < 2 ^ 31) : (a - b).toInt = a.toInt - b.toInt := by
  rw [Int32.toInt_sub]
  exact Int.bmod_eq_of_le (by omega) (by omega)
theorem i32_mul {a b : Int32} (h : -2 ^ 31 ≤ a.toInt * b.toInt) (h2 : a.toInt * b.toInt < 2 ^ 31) : (a * b).toInt = a.toInt * b.toInt := by
  rw [Int32.toInt_mul]
  exact Int.bmod_eq_of_le (by omega) (by omega)
theorem i32_rng (x : Int32) : -2 ^ 31 ≤ x.toInt ∧ x.toInt < 2 ^ 31 := ⟨Int32.le_toInt x, Int32.toInt_lt x⟩
theorem isSh_j {j : Nat} (h : j ≤ 3) : isSh (29 + 2 * j) = true := by
  rcases (show j = 0 ∨ j = 1 ∨ j = 2 ∨ j = 3 by omega) with rfl | rfl | rfl | rfl <;> rfl
theorem f_drop {n t a st lo co mk ot : Nat} {σ τ : Mem} (h : RelC n t a st lo co mk ot σ τ) (p : Int32) : Sim (RelE n) (X11_drop n σ p) (X12_drop τ p) := by
  have h0 := h
  obtain ⟨e_fa, e_tr, e_mp, e_lg, e_ro, e_ti, e_at_, e_ki, e_ac, e_pa, e_sc, e_ld, e_mc, e_mt, e_cc, e_lc, e_l1, e_l2, e_l3, e_kc, e_k1, e_k2, e_k3, e_k4, e_oc, e_oa, e_b1, e_b2, e_pr, e_sh0, e_sh1, e_sh2, e_sh3, e_ch, e_c0, e_d0, e_c1, e_d1, e_c2, e_d2, e_c3, e_d3, e_c4, e_d4, e_c5, e_d5, e_c6, e_d6, e_c7, e_d7, e_ps, e_oz, e_rm, e_lb, e_ab, e_ru, e_mb, e_wb, e_w0, e_w1, e_ws, e_wp, e_kb, e_tb, e_bb⟩ := h
  unfold X11_drop X12_drop
  simp only [ev_findSheet, mw, bindo_some, bz_eq0, Decidable.not_not, Int32.toInt_toInt64, t32_0, t32_1, t32_2, t32_3, t32_4, t32_5, t32_6, t32_7, t32_8, t32_9, t32_10, t32_11, t32_19, t32_20, t32_23, t32_24, t32_29, t32_30, t32_39, t32_40, t32_49, t32_50, t32_79, t32_99, t32_100, t32_119, t32_120, t32_159, t32_160, t32_249, t32_250, t32_400, t32_500, t32_800, t32_950, t32_1000, t32_1050, t32_2000, t32_2999, t32_3000, t32_8000, t32_10000, t32_30000, t32_500000, t32_m1, t32_m2, t32_m3, t32_m4, t32_m9, t32_m10, t32_m500, t32_m1000, t32_m10000, t32_m30000, t64_0, t64_1, t64_2, t64_3, t64_4, t64_5, t64_6, t64_7, t64_8, t64_9, t64_10, t64_11, t64_19, t64_20, t64_23, t64_24, t64_29, t64_30, t64_39, t64_40, t64_49, t64_50, t64_79, t64_99, t64_100, t64_119, t64_120, t64_159, t64_160, t64_249, t64_250, t64_400, t64_500, t64_800, t64_950, t64_1000, t64_1050, t64_2000, t64_2999, t64_3000, t64_8000, t64_10000, t64_30000, t64_500000, t64_m1, t64_m2, t64_m3, t64_m4, t64_m9, t64_m10, t64_m500, t64_m1000, t64_m10000, t64_m30000]
  by_cases h1 : 0 ≤ p.toInt ∧ p.toInt ≤ 3
  · rw [if_pos h1, if_pos h1]
    obtain ⟨j, hj, rfl⟩ := nat_of 3 h1.1 h1.2 (by decide)
    unfold X12_drop_b30 X11_drop_b24
    rw [nI_toInt (by omega), inb_nI (show j < 4 by omega) (by decide), ix_nI (by omega)]
    simp only [Int.toNat_natCast, caseo, chk_t, lete_eq]
    rw [isSh_j hj, chk_t]
    rcases (show j = 0 ∨ j = 1 ∨ j = 2 ∨ j = 3 by omega) with rfl | rfl | rfl | rfl
    · simp only [Nat.reduceMul, Nat.reduceAdd]
      obtain ⟨q1, q2, q3, q4⟩ := id e_sh0
      rcases q3 with ⟨u, v⟩ | ⟨u, v, w⟩
      · rw [if_pos u, if_neg (fun z => z v)]
        exact sim_ret' rfl ⟨t, a, st, lo, co, mk, ot, ⟨e_fa, e_tr, e_mp, e_lg, e_ro, e_ti, e_at_, e_ki, e_ac, e_pa, e_sc, e_ld, e_mc, e_mt, e_cc, e_lc, e_l1, e_l2, e_l3, e_kc, e_k1, e_k2, e_k3, e_k4, e_oc, e_oa, e_b1, e_b2, e_pr, ⟨q1, q2, Or.inl ⟨rfl, rfl⟩, q4⟩, e_sh1, e_sh2, e_sh3, by first | exact e_ch | (intro k hk; simp (disch := omega) only [wI_hi, wJ_1]; exact e_ch k hk), e_c0, e_d0, e_c1, e_d1, e_c2, e_d2, e_c3, e_d3, e_c4, e_d4, e_c5, e_d5, e_c6, e_d6, e_c7, e_d7, e_ps, e_oz, e_rm, e_lb, e_ab, e_ru, e_mb, e_wb, e_w0, e_w1, e_ws, e_wp, e_kb, e_tb, e_bb⟩⟩
      · rw [if_neg (show ¬ σ.1 29 3 = 0 by rw [u]; decide), if_pos (show ¬ τ.1 8 0 = -9 by rcases w with w | w | w <;> rw [w] <;> decide)]
        exact sim_ret' rfl ⟨t, a, st, lo, co, mk, ot, ⟨e_fa, e_tr, e_mp, e_lg, e_ro, e_ti, e_at_, e_ki, e_ac, e_pa, e_sc, e_ld, e_mc, e_mt, e_cc, e_lc, e_l1, e_l2, e_l3, e_kc, e_k1, e_k2, e_k3, e_k4, e_oc, e_oa, e_b1, e_b2, e_pr, ⟨q1, q2, Or.inl ⟨rfl, rfl⟩, q4⟩, e_sh1, e_sh2, e_sh3, by first | exact e_ch | (intro k hk; simp (disch := omega) only [wI_hi, wJ_1]; exact e_ch k hk), e_c0, e_d0, e_c1, e_d1, e_c2, e_d2, e_c3, e_d3, e_c4, e_d4, e_c5, e_d5, e_c6, e_d6, e_c7, e_d7, e_ps, e_oz, e_rm, e_lb, e_ab, e_ru, e_mb, e_wb, e_w0, e_w1, e_ws, e_wp, e_kb, e_tb, e_bb⟩⟩
    · simp only [Nat.reduceMul, Nat.reduceAdd]
      obtain ⟨q1, q2, q3, q4⟩ := id e_sh1
      rcases q3 with ⟨u, v⟩ | ⟨u, v, w⟩
      · rw [if_pos u, if_neg (fun z => z v)]
        exact sim_ret' rfl ⟨t, a, st, lo, co, mk, ot, ⟨e_fa, e_tr, e_mp, e_lg, e_ro, e_ti, e_at_, e_ki, e_ac, e_pa, e_sc, e_ld, e_mc, e_mt, e_cc, e_lc, e_l1, e_l2, e_l3, e_kc, e_k1, e_k2, e_k3, e_k4, e_oc, e_oa, e_b1, e_b2, e_pr, e_sh0, ⟨q1, q2, Or.inl ⟨rfl, rfl⟩, q4⟩, e_sh2, e_sh3, by first | exact e_ch | (intro k hk; simp (disch := omega) only [wI_hi, wJ_1]; exact e_ch k hk), e_c0, e_d0, e_c1, e_d1, e_c2, e_d2, e_c3, e_d3, e_c4, e_d4, e_c5, e_d5, e_c6, e_d6, e_c7, e_d7, e_ps, e_oz, e_rm, e_lb, e_ab, e_ru, e_mb, e_wb, e_w0, e_w1, e_ws, e_wp, e_kb, e_tb, e_bb⟩⟩
      · rw [if_neg (show ¬ σ.1 31 3 = 0 by rw [u]; decide), if_pos (show ¬ τ.1 8 1 = -9 by rcases w with w | w | w <;> rw [w] <;> decide)]
        exact sim_ret' rfl ⟨t, a, st, lo, co, mk, ot, ⟨e_fa, e_tr, e_mp, e_lg, e_ro, e_ti, e_at_, e_ki, e_ac, e_pa, e_sc, e_ld, e_mc, e_mt, e_cc, e_lc, e_l1, e_l2, e_l3, e_kc, e_k1, e_k2, e_k3, e_k4, e_oc, e_oa, e_b1, e_b2, e_pr, e_sh0, ⟨q1, q2, Or.inl ⟨rfl, rfl⟩, q4⟩, e_sh2, e_sh3, by first | exact e_ch | (intro k hk; simp (disch := omega) only [wI_hi, wJ_1]; exact e_ch k hk), e_c0, e_d0, e_c1, e_d1, e_c2, e_d2, e_c3, e_d3, e_c4, e_d4, e_c5, e_d5, e_c6, e_d6, e_c7, e_d7, e_ps, e_oz, e_rm, e_lb, e_ab, e_ru, e_mb, e_wb, e_w0, e_w1, e_ws, e_wp, e_kb, e_tb, e_bb⟩⟩
    · simp only [Nat.reduceMul, Nat.reduceAdd]
      obtain ⟨q1, q2, q3, q4⟩ := id e_sh2
      rcases q3 with ⟨u, v⟩ | ⟨u, v, w⟩
      · rw [if_pos u, if_neg (fun z => z v)]
        exact sim_ret' rfl ⟨t, a, st, lo, co, mk, ot, ⟨e_fa, e_tr, e_mp, e_lg, e_ro, e_ti, e_at_, e_ki, e_ac, e_pa, e_sc, e_ld, e_mc, e_mt, e_cc, e_lc, e_l1, e_l2, e_l3, e_kc, e_k1, e_k2, e_k3, e_k4, e_oc, e_oa, e_b1, e_b2, e_pr, e_sh0, e_sh1, ⟨q1, q2, Or.inl ⟨rfl, rfl⟩, q4⟩, e_sh3, by first | exact e_ch | (intro k hk; simp (disch := omega) only [wI_hi, wJ_1]; exact e_ch k hk), e_c0, e_d0, e_c1, e_d1, e_c2, e_d2, e_c3, e_d3, e_c4, e_d4, e_c5, e_d5, e_c6, e_d6, e_c7, e_d7, e_ps, e_oz, e_rm, e_lb, e_ab, e_ru, e_mb, e_wb, e_w0, e_w1, e_ws, e_wp, e_kb, e_tb, e_bb⟩⟩
      · rw [if_neg (show ¬ σ.1 33 3 = 0 by rw [u]; decide), if_pos (show ¬ τ.1 8 2 = -9 by rcases w with w | w | w <;> rw [w] <;> decide)]
        exact sim_ret' rfl ⟨t, a, st, lo, co, mk, ot, ⟨e_fa, e_tr, e_mp, e_lg, e_ro, e_ti, e_at_, e_ki, e_ac, e_pa, e_sc, e_ld, e_mc, e_mt, e_cc, e_lc, e_l1, e_l2, e_l3, e_kc, e_k1, e_k2, e_k3, e_k4, e_oc, e_oa, e_b1, e_b2, e_pr, e_sh0, e_sh1, ⟨q1, q2, Or.inl ⟨rfl, rfl⟩, q4⟩, e_sh3, by first | exact e_ch | (intro k hk; simp (disch := omega) only [wI_hi, wJ_1]; exact e_ch k hk), e_c0, e_d0, e_c1, e_d1, e_c2, e_d2, e_c3, e_d3, e_c4, e_d4, e_c5, e_d5, e_c6, e_d6, e_c7, e_d7, e_ps, e_oz, e_rm, e_lb, e_ab, e_ru, e_mb, e_wb, e_w0, e_w1, e_ws, e_wp, e_kb, e_tb, e_bb⟩⟩
    · simp only [Nat.reduceMul, Nat.reduceAdd]
      obtain ⟨q1, q2, q3, q4⟩ := id e_sh3
      rcases q3 with ⟨u, v⟩ | ⟨u, v, w⟩
      · rw [if_pos u, if_neg (fun z => z v)]
        exact sim_ret' rfl ⟨t, a, st, lo, co, mk, ot, ⟨e_fa, e_tr, e_mp, e_lg, e_ro, e_ti, e_at_, e_ki, e_ac, e_pa, e_sc, e_ld, e_mc, e_mt, e_cc, e_lc, e_l1, e_l2, e_l3, e_kc, e_k1, e_k2, e_k3, e_k4, e_oc, e_oa, e_b1, e_b2, e_pr, e_sh0, e_sh1, e_sh2, ⟨q1, q2, Or.inl ⟨rfl, rfl⟩, q4⟩, by first | exact e_ch | (intro k hk; simp (disch := omega) only [wI_hi, wJ_1]; exact e_ch k hk), e_c0, e_d0, e_c1, e_d1, e_c2, e_d2, e_c3, e_d3, e_c4, e_d4, e_c5, e_d5, e_c6, e_d6, e_c7, e_d7, e_ps, e_oz, e_rm, e_lb, e_ab, e_ru, e_mb, e_wb, e_w0, e_w1, e_ws, e_wp, e_kb, e_tb, e_bb⟩⟩
      · rw [if_neg (show ¬ σ.1 35 3 = 0 by rw [u]; decide), if_pos (show ¬ τ.1 8 3 = -9 by rcases w with w | w | w <;> rw [w] <;> decide)]
        exact sim_ret' rfl ⟨t, a, st, lo, co, mk, ot, ⟨e_fa, e_tr, e_mp, e_lg, e_ro, e_ti, e_at_, e_ki, e_ac, e_pa, e_sc, e_ld, e_mc, e_mt, e_cc, e_lc, e_l1, e_l2, e_l3, e_kc, e_k1, e_k2, e_k3, e_k4, e_oc, e_oa, e_b1, e_b2, e_pr, e_sh0, e_sh1, e_sh2, ⟨q1, q2, Or.inl ⟨rfl, rfl⟩, q4⟩, by first | exact e_ch | (intro k hk; simp (disch := omega) only [wI_hi, wJ_1]; exact e_ch k hk), e_c0, e_d0, e_c1, e_d1, e_c2, e_d2, e_c3, e_d3, e_c4, e_d4, e_c5, e_d5, e_c6, e_d6, e_c7, e_d7, e_ps, e_oz, e_rm, e_lb, e_ab, e_ru, e_mb, e_wb, e_w0, e_w1, e_ws, e_wp, e_kb, e_tb, e_bb⟩⟩
  · rw [if_neg h1, if_neg h1]
    exact sim_ret ⟨_, _, _, _, _, _, _, h0⟩
theorem ev_faultFrom {n o L : Nat} {σ : Mem} (e : σ.1 o 1 = nI L) (hL : L ≤ 40) (i : Int32) (m : Int64) (hm : 0 ≤ m.toInt) (hm2 : m.toInt < 2 ^ 40) : X9_faultFrom n o σ i m = some (if 0 ≤ i.toInt ∧ i.toInt + m.toInt ≤ L then 0 else 3) := by
  unfold X9_faultFrom
  have hr := i32_rng i
  simp only [lg_cmp_lt, lg_cmp_gt]
  simp only [Int32.lt_iff_toInt_lt, Int64.lt_iff_toInt_lt, t32_0, t32_1, t32_2, t32_3, t32_4, t32_5, t32_6, t32_7, t32_8, t32_9, t32_10, t32_11, t32_19, t32_20, t32_23, t32_24, t32_29, t32_30, t32_39, t32_40, t32_49, t32_50, t32_79, t32_99, t32_100, t32_119, t32_120, t32_159, t32_160, t32_249, t32_250, t32_400, t32_500, t32_800, t32_950, t32_1000, t32_1050, t32_2000, t32_2999, t32_3000, t32_8000, t32_10000, t32_30000, t32_500000, t32_m1, t32_m2, t32_m3, t32_m4, t32_m9, t32_m10, t32_m500, t32_m1000, t32_m10000, t32_m30000, t64_0, t64_1, t64_2, t64_3, t64_4, t64_5, t64_6, t64_7, t64_8, t64_9, t64_10, t64_11, t64_19, t64_20, t64_23, t64_24, t64_29, t64_30, t64_39, t64_40, t64_49, t64_50, t64_79, t64_99, t64_100, t64_119, t64_120, t64_159, t64_160, t64_249, t64_250, t64_400, t64_500, t64_800, t64_950, t64_1000, t64_1050, t64_2000, t64_2999, t64_3000, t64_8000, t64_10000, t64_30000, t64_500000, t64_m1, t64_m2, t64_m3, t64_m4, t64_m9, t64_m10, t64_m500, t64_m1000, t64_m10000, t64_m30000, e]
  rw [i64_add (by rw [Int32.toInt_toInt64]; omega) (by rw [Int32.toInt_toInt64]; omega), Int32.toInt_toInt64, Int32.toInt_toInt64, nI_toInt (by omega)]
  by_cases c1 : i.toInt < 0
  · rw [if_pos c1, if_neg (by omega)]
  · rw [if_neg c1, if_neg (by omega)]
    by_cases c2 : (L : Int) < i.toInt + m.toInt
    · rw [if_pos c2, if_neg (by omega)]
    · rw [if_neg c2, if_pos (by omega)]
theorem lt_shape {x : Int32} {L : Nat} (h : 0 ≤ x.toInt ∧ x.toInt + 1 ≤ L) (hL : L ≤ 40) : ∃ q, q < L ∧ x = nI q := by
  obtain ⟨q, hq, rfl⟩ := nat_of 40 h.1 (by omega) (by decide)
  rw [nI_toInt (by omega)] at h
  exact ⟨q, by omega, rfl⟩
theorem nI40 (k q : Nat) : (40 : Int32) * nI k + nI q = nI (40 * k + q) := by rw [show (40 : Int32) = nI 40 from rfl, pk_mul, nI_add]
theorem eqSh_put {f g : Nat → Int32} {lane len : Int32} {cells : Nat → Int32} {k q : Nat} (h : EqSh f g lane len cells k) (hq : q < 40) (x : Int32) : EqSh f (upd g q x) lane len (upd cells (k + q) x) k := by
  refine ⟨h.1, fun i hi => ?_, h.2.2⟩
  simp only [upd]
  by_cases e : i = q
  · rw [if_pos e, if_pos (by omega)]
  · rw [if_neg e, if_neg (by omega)]
    exact h.2.1 i hi
theorem f_put {n t a st lo co mk ot : Nat} {σ τ : Mem} (h : RelC n t a st lo co mk ot σ τ) (p i v : Int32) : Sim (RelE n) (X11_put n σ p i v) (X12_put τ p i v) := by
  obtain ⟨e_fa, e_tr, e_mp, e_lg, e_ro, e_ti, e_at_, e_ki, e_ac, e_pa, e_sc, e_ld, e_mc, e_mt, e_cc, e_lc, e_l1, e_l2, e_l3, e_kc, e_k1, e_k2, e_k3, e_k4, e_oc, e_oa, e_b1, e_b2, e_pr, e_sh0, e_sh1, e_sh2, e_sh3, e_ch, e_c0, e_d0, e_c1, e_d1, e_c2, e_d2, e_c3, e_d3, e_c4, e_d4, e_c5, e_d5, e_c6, e_d6, e_c7, e_d7, e_ps, e_oz, e_rm, e_lb, e_ab, e_ru, e_mb, e_wb, e_w0, e_w1, e_ws, e_wp, e_kb, e_tb, e_bb⟩ := h
  have hk : RelE n (wI σ 0 9 0) (wI τ 0 0 0) := ⟨t, a, st, lo, co, mk, ot, ⟨rfl, e_tr, e_mp, e_lg, e_ro, e_ti, e_at_, e_ki, e_ac, e_pa, e_sc, e_ld, e_mc, e_mt, e_cc, e_lc, e_l1, e_l2, e_l3, e_kc, e_k1, e_k2, e_k3, e_k4, e_oc, e_oa, e_b1, e_b2, e_pr, e_sh0, e_sh1, e_sh2, e_sh3, by first | exact e_ch | (intro k hk; simp (disch := omega) only [wI_hi, wJ_1]; exact e_ch k hk), e_c0, e_d0, e_c1, e_d1, e_c2, e_d2, e_c3, e_d3, e_c4, e_d4, e_c5, e_d5, e_c6, e_d6, e_c7, e_d7, e_ps, e_oz, e_rm, e_lb, e_ab, e_ru, e_mb, e_wb, e_w0, e_w1, e_ws, e_wp, e_kb, e_tb, e_bb⟩⟩
  have hk1 : RelE n (wI (wI σ 0 9 0) 0 9 1) (wI (wI τ 0 0 0) 0 0 1) := ⟨t, a, st, lo, co, mk, ot, ⟨rfl, e_tr, e_mp, e_lg, e_ro, e_ti, e_at_, e_ki, e_ac, e_pa, e_sc, e_ld, e_mc, e_mt, e_cc, e_lc, e_l1, e_l2, e_l3, e_kc, e_k1, e_k2, e_k3, e_k4, e_oc, e_oa, e_b1, e_b2, e_pr, e_sh0, e_sh1, e_sh2, e_sh3, by first | exact e_ch | (intro k hk; simp (disch := omega) only [wI_hi, wJ_1]; exact e_ch k hk), e_c0, e_d0, e_c1, e_d1, e_c2, e_d2, e_c3, e_d3, e_c4, e_d4, e_c5, e_d5, e_c6, e_d6, e_c7, e_d7, e_ps, e_oz, e_rm, e_lb, e_ab, e_ru, e_mb, e_wb, e_w0, e_w1, e_ws, e_wp, e_kb, e_tb, e_bb⟩⟩
  have hk3 : RelE n (wI (wI σ 0 9 0) 0 9 3) (wI (wI τ 0 0 0) 0 0 3) := ⟨t, a, st, lo, co, mk, ot, ⟨rfl, e_tr, e_mp, e_lg, e_ro, e_ti, e_at_, e_ki, e_ac, e_pa, e_sc, e_ld, e_mc, e_mt, e_cc, e_lc, e_l1, e_l2, e_l3, e_kc, e_k1, e_k2, e_k3, e_k4, e_oc, e_oa, e_b1, e_b2, e_pr, e_sh0, e_sh1, e_sh2, e_sh3, by first | exact e_ch | (intro k hk; simp (disch := omega) only [wI_hi, wJ_1]; exact e_ch k hk), e_c0, e_d0, e_c1, e_d1, e_c2, e_d2, e_c3, e_d3, e_c4, e_d4, e_c5, e_d5, e_c6, e_d6, e_c7, e_d7, e_ps, e_oz, e_rm, e_lb, e_ab, e_ru, e_mb, e_wb, e_w0, e_w1, e_ws, e_wp, e_kb, e_tb, e_bb⟩⟩
  unfold X11_put X12_put
  simp only [lete_eq, ev_findSheet, mw, bindo_some, bz_eq0, Decidable.not_not, Int32.toInt_toInt64, t32_0, t32_1, t32_2, t32_3, t32_4, t32_5, t32_6, t32_7, t32_8, t32_9, t32_10, t32_11, t32_19, t32_20, t32_23, t32_24, t32_29, t32_30, t32_39, t32_40, t32_49, t32_50, t32_79, t32_99, t32_100, t32_119, t32_120, t32_159, t32_160, t32_249, t32_250, t32_400, t32_500, t32_800, t32_950, t32_1000, t32_1050, t32_2000, t32_2999, t32_3000, t32_8000, t32_10000, t32_30000, t32_500000, t32_m1, t32_m2, t32_m3, t32_m4, t32_m9, t32_m10, t32_m500, t32_m1000, t32_m10000, t32_m30000, t64_0, t64_1, t64_2, t64_3, t64_4, t64_5, t64_6, t64_7, t64_8, t64_9, t64_10, t64_11, t64_19, t64_20, t64_23, t64_24, t64_29, t64_30, t64_39, t64_40, t64_49, t64_50, t64_79, t64_99, t64_100, t64_119, t64_120, t64_159, t64_160, t64_249, t64_250, t64_400, t64_500, t64_800, t64_950, t64_1000, t64_1050, t64_2000, t64_2999, t64_3000, t64_8000, t64_10000, t64_30000, t64_500000, t64_m1, t64_m2, t64_m3, t64_m4, t64_m9, t64_m10, t64_m500, t64_m1000, t64_m10000, t64_m30000]
  by_cases h1 : 0 ≤ p.toInt ∧ p.toInt ≤ 3
  · rw [if_pos h1, if_pos h1]
    obtain ⟨j, hj, rfl⟩ := nat_of 3 h1.1 h1.2 (by decide)
    rw [nI_toInt (by omega), inb_nI (show j < 4 by omega) (by decide), ix_nI (by omega)]
    simp only [Int.toNat_natCast, caseo, chk_t]
    rw [isSh_j hj, chk_t]
    rcases (show j = 0 ∨ j = 1 ∨ j = 2 ∨ j = 3 by omega) with rfl | rfl | rfl | rfl
    · simp only [Nat.reduceMul, Nat.reduceAdd]
      obtain ⟨q1, q2, q3, L, hL, q4⟩ := id e_sh0
      have eL : (wI σ 0 9 0).1 29 1 = nI L := q1.trans q4
      have eM : (wI τ 0 0 0).1 9 0 = nI L := q4
      rcases q3 with ⟨u, w⟩ | ⟨u, w0, w⟩
      · rw [if_pos (show (wI σ 0 9 0).1 29 3 = 0 from u), if_neg (fun z => z (show (wI τ 0 0 0).1 8 0 = -9 from w))]
        exact sim_ret' rfl hk1
      · rw [if_neg (show ¬ (wI σ 0 9 0).1 29 3 = 0 from fun z => absurd (u.symm.trans z) (by decide)), if_pos (show ¬ (wI τ 0 0 0).1 8 0 = -9 by show ¬ τ.1 8 0 = -9; rcases w with w | w | w <;> rw [w] <;> decide)]
        rw [ev_faultFrom eL hL i 1 (by decide) (by decide), eM]
        rw [i64_sub (by rw [Int32.toInt_toInt64, nI_toInt (by omega), t64_1]; omega) (by rw [Int32.toInt_toInt64, nI_toInt (by omega), t64_1]; omega), Int32.toInt_toInt64, nI_toInt (by omega), t64_1]
        simp only [bindo_some]
        unfold X11_put_b38
        by_cases c : 0 ≤ i.toInt ∧ i.toInt + 1 ≤ L
        · rw [if_pos c, if_pos rfl, if_pos (show 0 ≤ i.toInt ∧ i.toInt ≤ (L : Int) - 1 by omega)]
          obtain ⟨q, hq, rfl⟩ := lt_shape c hL
          rw [show (wI τ 0 0 0).1 8 0 = τ.1 8 0 from rfl, nI40, inb_nI (show 40 * 0 + q < 160 by omega) (by decide), ix_nI (by omega)]
          simp only [chk_t]
          unfold X9_write
          simp only [xw, bindo_some, bz_eq0, Decidable.not_not, t32_0, t32_1, t32_2, t32_3, t32_4, t32_5, t32_6, t32_7, t32_8, t32_9, t32_10, t32_11, t32_19, t32_20, t32_23, t32_24, t32_29, t32_30, t32_39, t32_40, t32_49, t32_50, t32_79, t32_99, t32_100, t32_119, t32_120, t32_159, t32_160, t32_249, t32_250, t32_400, t32_500, t32_800, t32_950, t32_1000, t32_1050, t32_2000, t32_2999, t32_3000, t32_8000, t32_10000, t32_30000, t32_500000, t32_m1, t32_m2, t32_m3, t32_m4, t32_m9, t32_m10, t32_m500, t32_m1000, t32_m10000, t32_m30000, t64_0, t64_1, t64_2, t64_3, t64_4, t64_5, t64_6, t64_7, t64_8, t64_9, t64_10, t64_11, t64_19, t64_20, t64_23, t64_24, t64_29, t64_30, t64_39, t64_40, t64_49, t64_50, t64_79, t64_99, t64_100, t64_119, t64_120, t64_159, t64_160, t64_249, t64_250, t64_400, t64_500, t64_800, t64_950, t64_1000, t64_1050, t64_2000, t64_2999, t64_3000, t64_8000, t64_10000, t64_30000, t64_500000, t64_m1, t64_m2, t64_m3, t64_m4, t64_m9, t64_m10, t64_m500, t64_m1000, t64_m10000, t64_m30000, nI_toInt (show q < 2 ^ 31 by omega)]
          rw [if_neg (by omega), inb_nI (show q < 40 by omega) (by decide), ix_nI (by omega)]
          simp only [chk_t, lete_eq]
          rw [show (wI σ 0 9 0).1 29 2 = τ.1 8 0 from w0]
          rcases w with w | w | w
          · rw [w, if_neg (by decide), if_neg (by decide)]
            exact sim_ret' rfl ⟨t, a, st, lo, co, mk, ot, ⟨rfl, e_tr, e_mp, e_lg, e_ro, e_ti, e_at_, e_ki, e_ac, e_pa, e_sc, e_ld, e_mc, e_mt, e_cc, e_lc, e_l1, e_l2, e_l3, e_kc, e_k1, e_k2, e_k3, e_k4, e_oc, e_oa, e_b1, e_b2, e_pr, eqSh_put e_sh0 (by omega) _, eqSh_cells e_sh1 (fun i hi => upd_out (by omega)), eqSh_cells e_sh2 (fun i hi => upd_out (by omega)), eqSh_cells e_sh3 (fun i hi => upd_out (by omega)), by first | exact e_ch | (intro k hk; simp (disch := omega) only [wI_hi, wJ_1]; exact e_ch k hk), e_c0, e_d0, e_c1, e_d1, e_c2, e_d2, e_c3, e_d3, e_c4, e_d4, e_c5, e_d5, e_c6, e_d6, e_c7, e_d7, e_ps, e_oz, e_rm, e_lb, e_ab, e_ru, e_mb, e_wb, e_w0, e_w1, e_ws, e_wp, e_kb, e_tb, e_bb⟩⟩
          · rw [w, if_pos (by decide), if_neg (by decide), if_pos (by decide), if_neg (by decide)]
            exact sim_ret' rfl ⟨t, a, st, lo, co, mk, ot, ⟨rfl, e_tr, e_mp, e_lg, e_ro, e_ti, e_at_, e_ki, e_ac, e_pa, e_sc, e_ld, e_mc, e_mt, e_cc, e_lc, e_l1, e_l2, e_l3, e_kc, e_k1, e_k2, e_k3, e_k4, e_oc, e_oa, e_b1, e_b2, e_pr, eqSh_put e_sh0 (by omega) _, eqSh_cells e_sh1 (fun i hi => upd_out (by omega)), eqSh_cells e_sh2 (fun i hi => upd_out (by omega)), eqSh_cells e_sh3 (fun i hi => upd_out (by omega)), by first | exact e_ch | (intro k hk; simp (disch := omega) only [wI_hi, wJ_1]; exact e_ch k hk), e_c0, e_d0, e_c1, e_d1, e_c2, e_d2, e_c3, e_d3, e_c4, e_d4, e_c5, e_d5, e_c6, e_d6, e_c7, e_d7, e_ps, e_oz, e_rm, e_lb, e_ab, e_ru, e_mb, e_wb, e_w0, e_w1, e_ws, e_wp, e_kb, e_tb, e_bb⟩⟩
          · rw [w, if_pos (by decide), if_pos (by decide), if_pos (by decide), if_pos (by decide)]
            exact sim_ret' rfl ⟨t, a, st, lo, co, mk, ot, ⟨rfl, e_tr, e_mp, e_lg, e_ro, e_ti, e_at_, e_ki, e_ac, e_pa, e_sc, e_ld, e_mc, e_mt, e_cc, e_lc, e_l1, e_l2, e_l3, e_kc, e_k1, e_k2, e_k3, e_k4, e_oc, e_oa, e_b1, e_b2, e_pr, eqSh_put e_sh0 (by omega) _, eqSh_cells e_sh1 (fun i hi => upd_out (by omega)), eqSh_cells e_sh2 (fun i hi => upd_out (by omega)), eqSh_cells e_sh3 (fun i hi => upd_out (by omega)), by first | exact e_ch | (intro k hk; simp (disch := omega) only [wI_hi, wJ_1]; exact e_ch k hk), e_c0, e_d0, e_c1, e_d1, e_c2, e_d2, e_c3, e_d3, e_c4, e_d4, e_c5, e_d5, e_c6, e_d6, e_c7, e_d7, e_ps, e_oz, e_rm, e_lb, e_ab, e_ru, e_mb, e_wb, e_w0, e_w1, e_ws, e_wp, e_kb, e_tb, e_bb⟩⟩
        · rw [if_neg c, if_neg (by decide), if_neg (show ¬ (0 ≤ i.toInt ∧ i.toInt ≤ (L : Int) - 1) by omega)]
          exact sim_ret' rfl hk3
    · simp only [Nat.reduceMul, Nat.reduceAdd]
      obtain ⟨q1, q2, q3, L, hL, q4⟩ := id e_sh1
      have eL : (wI σ 0 9 0).1 31 1 = nI L := q1.trans q4
      have eM : (wI τ 0 0 0).1 9 1 = nI L := q4
      rcases q3 with ⟨u, w⟩ | ⟨u, w0, w⟩
      · rw [if_pos (show (wI σ 0 9 0).1 31 3 = 0 from u), if_neg (fun z => z (show (wI τ 0 0 0).1 8 1 = -9 from w))]
        exact sim_ret' rfl hk1
      · rw [if_neg (show ¬ (wI σ 0 9 0).1 31 3 = 0 from fun z => absurd (u.symm.trans z) (by decide)), if_pos (show ¬ (wI τ 0 0 0).1 8 1 = -9 by show ¬ τ.1 8 1 = -9; rcases w with w | w | w <;> rw [w] <;> decide)]
        rw [ev_faultFrom eL hL i 1 (by decide) (by decide), eM]
        rw [i64_sub (by rw [Int32.toInt_toInt64, nI_toInt (by omega), t64_1]; omega) (by rw [Int32.toInt_toInt64, nI_toInt (by omega), t64_1]; omega), Int32.toInt_toInt64, nI_toInt (by omega), t64_1]
        simp only [bindo_some]
        unfold X11_put_b38
        by_cases c : 0 ≤ i.toInt ∧ i.toInt + 1 ≤ L
        · rw [if_pos c, if_pos rfl, if_pos (show 0 ≤ i.toInt ∧ i.toInt ≤ (L : Int) - 1 by omega)]
          obtain ⟨q, hq, rfl⟩ := lt_shape c hL
          rw [show (wI τ 0 0 0).1 8 1 = τ.1 8 1 from rfl, nI40, inb_nI (show 40 * 1 + q < 160 by omega) (by decide), ix_nI (by omega)]
          simp only [chk_t]
          unfold X9_write
          simp only [xw, bindo_some, bz_eq0, Decidable.not_not, t32_0, t32_1, t32_2, t32_3, t32_4, t32_5, t32_6, t32_7, t32_8, t32_9, t32_10, t32_11, t32_19, t32_20, t32_23, t32_24, t32_29, t32_30, t32_39, t32_40, t32_49, t32_50, t32_79, t32_99, t32_100, t32_119, t32_120, t32_159, t32_160, t32_249, t32_250, t32_400, t32_500, t32_800, t32_950, t32_1000, t32_1050, t32_2000, t32_2999, t32_3000, t32_8000, t32_10000, t32_30000, t32_500000, t32_m1, t32_m2, t32_m3, t32_m4, t32_m9, t32_m10, t32_m500, t32_m1000, t32_m10000, t32_m30000, t64_0, t64_1, t64_2, t64_3, t64_4, t64_5, t64_6, t64_7, t64_8, t64_9, t64_10, t64_11, t64_19, t64_20, t64_23, t64_24, t64_29, t64_30, t64_39, t64_40, t64_49, t64_50, t64_79, t64_99, t64_100, t64_119, t64_120, t64_159, t64_160, t64_249, t64_250, t64_400, t64_500, t64_800, t64_950, t64_1000, t64_1050, t64_2000, t64_2999, t64_3000, t64_8000, t64_10000, t64_30000, t64_500000, t64_m1, t64_m2, t64_m3, t64_m4, t64_m9, t64_m10, t64_m500, t64_m1000, t64_m10000, t64_m30000, nI_toInt (show q < 2 ^ 31 by omega)]
          rw [if_neg (by omega), inb_nI (show q < 40 by omega) (by decide), ix_nI (by omega)]
          simp only [chk_t, lete_eq]
          rw [show (wI σ 0 9 0).1 31 2 = τ.1 8 1 from w0]
          rcases w with w | w | w
          · rw [w, if_neg (by decide), if_neg (by decide)]
            exact sim_ret' rfl ⟨t, a, st, lo, co, mk, ot, ⟨rfl, e_tr, e_mp, e_lg, e_ro, e_ti, e_at_, e_ki, e_ac, e_pa, e_sc, e_ld, e_mc, e_mt, e_cc, e_lc, e_l1, e_l2, e_l3, e_kc, e_k1, e_k2, e_k3, e_k4, e_oc, e_oa, e_b1, e_b2, e_pr, eqSh_cells e_sh0 (fun i hi => upd_out (by omega)), eqSh_put e_sh1 (by omega) _, eqSh_cells e_sh2 (fun i hi => upd_out (by omega)), eqSh_cells e_sh3 (fun i hi => upd_out (by omega)), by first | exact e_ch | (intro k hk; simp (disch := omega) only [wI_hi, wJ_1]; exact e_ch k hk), e_c0, e_d0, e_c1, e_d1, e_c2, e_d2, e_c3, e_d3, e_c4, e_d4, e_c5, e_d5, e_c6, e_d6, e_c7, e_d7, e_ps, e_oz, e_rm, e_lb, e_ab, e_ru, e_mb, e_wb, e_w0, e_w1, e_ws, e_wp, e_kb, e_tb, e_bb⟩⟩
          · rw [w, if_pos (by decide), if_neg (by decide), if_pos (by decide), if_neg (by decide)]
            exact sim_ret' rfl ⟨t, a, st, lo, co, mk, ot, ⟨rfl, e_tr, e_mp, e_lg, e_ro, e_ti, e_at_, e_ki, e_ac, e_pa, e_sc, e_ld, e_mc, e_mt, e_cc, e_lc, e_l1, e_l2, e_l3, e_kc, e_k1, e_k2, e_k3, e_k4, e_oc, e_oa, e_b1, e_b2, e_pr, eqSh_cells e_sh0 (fun i hi => upd_out (by omega)), eqSh_put e_sh1 (by omega) _, eqSh_cells e_sh2 (fun i hi => upd_out (by omega)), eqSh_cells e_sh3 (fun i hi => upd_out (by omega)), by first | exact e_ch | (intro k hk; simp (disch := omega) only [wI_hi, wJ_1]; exact e_ch k hk), e_c0, e_d0, e_c1, e_d1, e_c2, e_d2, e_c3, e_d3, e_c4, e_d4, e_c5, e_d5, e_c6, e_d6, e_c7, e_d7, e_ps, e_oz, e_rm, e_lb, e_ab, e_ru, e_mb, e_wb, e_w0, e_w1, e_ws, e_wp, e_kb, e_tb, e_bb⟩⟩
          · rw [w, if_pos (by decide), if_pos (by decide), if_pos (by decide), if_pos (by decide)]
            exact sim_ret' rfl ⟨t, a, st, lo, co, mk, ot, ⟨rfl, e_tr, e_mp, e_lg, e_ro, e_ti, e_at_, e_ki, e_ac, e_pa, e_sc, e_ld, e_mc, e_mt, e_cc, e_lc, e_l1, e_l2, e_l3, e_kc, e_k1, e_k2, e_k3, e_k4, e_oc, e_oa, e_b1, e_b2, e_pr, eqSh_cells e_sh0 (fun i hi => upd_out (by omega)), eqSh_put e_sh1 (by omega) _, eqSh_cells e_sh2 (fun i hi => upd_out (by omega)), eqSh_cells e_sh3 (fun i hi => upd_out (by omega)), by first | exact e_ch | (intro k hk; simp (disch := omega) only [wI_hi, wJ_1]; exact e_ch k hk), e_c0, e_d0, e_c1, e_d1, e_c2, e_d2, e_c3, e_d3, e_c4, e_d4, e_c5, e_d5, e_c6, e_d6, e_c7, e_d7, e_ps, e_oz, e_rm, e_lb, e_ab, e_ru, e_mb, e_wb, e_w0, e_w1, e_ws, e_wp, e_kb, e_tb, e_bb⟩⟩
        · rw [if_neg c, if_neg (by decide), if_neg (show ¬ (0 ≤ i.toInt ∧ i.toInt ≤ (L : Int) - 1) by omega)]
          exact sim_ret' rfl hk3
    · simp only [Nat.reduceMul, Nat.reduceAdd]
      obtain ⟨q1, q2, q3, L, hL, q4⟩ := id e_sh2
      have eL : (wI σ 0 9 0).1 33 1 = nI L := q1.trans q4
      have eM : (wI τ 0 0 0).1 9 2 = nI L := q4
      rcases q3 with ⟨u, w⟩ | ⟨u, w0, w⟩
      · rw [if_pos (show (wI σ 0 9 0).1 33 3 = 0 from u), if_neg (fun z => z (show (wI τ 0 0 0).1 8 2 = -9 from w))]
        exact sim_ret' rfl hk1
      · rw [if_neg (show ¬ (wI σ 0 9 0).1 33 3 = 0 from fun z => absurd (u.symm.trans z) (by decide)), if_pos (show ¬ (wI τ 0 0 0).1 8 2 = -9 by show ¬ τ.1 8 2 = -9; rcases w with w | w | w <;> rw [w] <;> decide)]
        rw [ev_faultFrom eL hL i 1 (by decide) (by decide), eM]
        rw [i64_sub (by rw [Int32.toInt_toInt64, nI_toInt (by omega), t64_1]; omega) (by rw [Int32.toInt_toInt64, nI_toInt (by omega), t64_1]; omega), Int32.toInt_toInt64, nI_toInt (by omega), t64_1]
        simp only [bindo_some]
        unfold X11_put_b38
        by_cases c : 0 ≤ i.toInt ∧ i.toInt + 1 ≤ L
        · rw [if_pos c, if_pos rfl, if_pos (show 0 ≤ i.toInt ∧ i.toInt ≤ (L : Int) - 1 by omega)]
          obtain ⟨q, hq, rfl⟩ := lt_shape c hL
          rw [show (wI τ 0 0 0).1 8 2 = τ.1 8 2 from rfl, nI40, inb_nI (show 40 * 2 + q < 160 by omega) (by decide), ix_nI (by omega)]
          simp only [chk_t]
          unfold X9_write
          simp only [xw, bindo_some, bz_eq0, Decidable.not_not, t32_0, t32_1, t32_2, t32_3, t32_4, t32_5, t32_6, t32_7, t32_8, t32_9, t32_10, t32_11, t32_19, t32_20, t32_23, t32_24, t32_29, t32_30, t32_39, t32_40, t32_49, t32_50, t32_79, t32_99, t32_100, t32_119, t32_120, t32_159, t32_160, t32_249, t32_250, t32_400, t32_500, t32_800, t32_950, t32_1000, t32_1050, t32_2000, t32_2999, t32_3000, t32_8000, t32_10000, t32_30000, t32_500000, t32_m1, t32_m2, t32_m3, t32_m4, t32_m9, t32_m10, t32_m500, t32_m1000, t32_m10000, t32_m30000, t64_0, t64_1, t64_2, t64_3, t64_4, t64_5, t64_6, t64_7, t64_8, t64_9, t64_10, t64_11, t64_19, t64_20, t64_23, t64_24, t64_29, t64_30, t64_39, t64_40, t64_49, t64_50, t64_79, t64_99, t64_100, t64_119, t64_120, t64_159, t64_160, t64_249, t64_250, t64_400, t64_500, t64_800, t64_950, t64_1000, t64_1050, t64_2000, t64_2999, t64_3000, t64_8000, t64_10000, t64_30000, t64_500000, t64_m1, t64_m2, t64_m3, t64_m4, t64_m9, t64_m10, t64_m500, t64_m1000, t64_m10000, t64_m30000, nI_toInt (show q < 2 ^ 31 by omega)]
          rw [if_neg (by omega), inb_nI (show q < 40 by omega) (by decide), ix_nI (by omega)]
          simp only [chk_t, lete_eq]
          rw [show (wI σ 0 9 0).1 33 2 = τ.1 8 2 from w0]
          rcases w with w | w | w
          · rw [w, if_neg (by decide), if_neg (by decide)]
            exact sim_ret' rfl ⟨t, a, st, lo, co, mk, ot, ⟨rfl, e_tr, e_mp, e_lg, e_ro, e_ti, e_at_, e_ki, e_ac, e_pa, e_sc, e_ld, e_mc, e_mt, e_cc, e_lc, e_l1, e_l2, e_l3, e_kc, e_k1, e_k2, e_k3, e_k4, e_oc, e_oa, e_b1, e_b2, e_pr, eqSh_cells e_sh0 (fun i hi => upd_out (by omega)), eqSh_cells e_sh1 (fun i hi => upd_out (by omega)), eqSh_put e_sh2 (by omega) _, eqSh_cells e_sh3 (fun i hi => upd_out (by omega)), by first | exact e_ch | (intro k hk; simp (disch := omega) only [wI_hi, wJ_1]; exact e_ch k hk), e_c0, e_d0, e_c1, e_d1, e_c2, e_d2, e_c3, e_d3, e_c4, e_d4, e_c5, e_d5, e_c6, e_d6, e_c7, e_d7, e_ps, e_oz, e_rm, e_lb, e_ab, e_ru, e_mb, e_wb, e_w0, e_w1, e_ws, e_wp, e_kb, e_tb, e_bb⟩⟩
          · rw [w, if_pos (by decide), if_neg (by decide), if_pos (by decide), if_neg (by decide)]
            exact sim_ret' rfl ⟨t, a, st, lo, co, mk, ot, ⟨rfl, e_tr, e_mp, e_lg, e_ro, e_ti, e_at_, e_ki, e_ac, e_pa, e_sc, e_ld, e_mc, e_mt, e_cc, e_lc, e_l1, e_l2, e_l3, e_kc, e_k1, e_k2, e_k3, e_k4, e_oc, e_oa, e_b1, e_b2, e_pr, eqSh_cells e_sh0 (fun i hi => upd_out (by omega)), eqSh_cells e_sh1 (fun i hi => upd_out (by omega)), eqSh_put e_sh2 (by omega) _, eqSh_cells e_sh3 (fun i hi => upd_out (by omega)), by first | exact e_ch | (intro k hk; simp (disch := omega) only [wI_hi, wJ_1]; exact e_ch k hk), e_c0, e_d0, e_c1, e_d1, e_c2, e_d2, e_c3, e_d3, e_c4, e_d4, e_c5, e_d5, e_c6, e_d6, e_c7, e_d7, e_ps, e_oz, e_rm, e_lb, e_ab, e_ru, e_mb, e_wb, e_w0, e_w1, e_ws, e_wp, e_kb, e_tb, e_bb⟩⟩
          · rw [w, if_pos (by decide), if_pos (by decide), if_pos (by decide), if_pos (by decide)]
            exact sim_ret' rfl ⟨t, a, st, lo, co, mk, ot, ⟨rfl, e_tr, e_mp, e_lg, e_ro, e_ti, e_at_, e_ki, e_ac, e_pa, e_sc, e_ld, e_mc, e_mt, e_cc, e_lc, e_l1, e_l2, e_l3, e_kc, e_k1, e_k2, e_k3, e_k4, e_oc, e_oa, e_b1, e_b2, e_pr, eqSh_cells e_sh0 (fun i hi => upd_out (by omega)), eqSh_cells e_sh1 (fun i hi => upd_out (by omega)), eqSh_put e_sh2 (by omega) _, eqSh_cells e_sh3 (fun i hi => upd_out (by omega)), by first | exact e_ch | (intro k hk; simp (disch := omega) only [wI_hi, wJ_1]; exact e_ch k hk), e_c0, e_d0, e_c1, e_d1, e_c2, e_d2, e_c3, e_d3, e_c4, e_d4, e_c5, e_d5, e_c6, e_d6, e_c7, e_d7, e_ps, e_oz, e_rm, e_lb, e_ab, e_ru, e_mb, e_wb, e_w0, e_w1, e_ws, e_wp, e_kb, e_tb, e_bb⟩⟩
        · rw [if_neg c, if_neg (by decide), if_neg (show ¬ (0 ≤ i.toInt ∧ i.toInt ≤ (L : Int) - 1) by omega)]
          exact sim_ret' rfl hk3
    · simp only [Nat.reduceMul, Nat.reduceAdd]
      obtain ⟨q1, q2, q3, L, hL, q4⟩ := id e_sh3
      have eL : (wI σ 0 9 0).1 35 1 = nI L := q1.trans q4
      have eM : (wI τ 0 0 0).1 9 3 = nI L := q4
      rcases q3 with ⟨u, w⟩ | ⟨u, w0, w⟩
      · rw [if_pos (show (wI σ 0 9 0).1 35 3 = 0 from u), if_neg (fun z => z (show (wI τ 0 0 0).1 8 3 = -9 from w))]
        exact sim_ret' rfl hk1
      · rw [if_neg (show ¬ (wI σ 0 9 0).1 35 3 = 0 from fun z => absurd (u.symm.trans z) (by decide)), if_pos (show ¬ (wI τ 0 0 0).1 8 3 = -9 by show ¬ τ.1 8 3 = -9; rcases w with w | w | w <;> rw [w] <;> decide)]
        rw [ev_faultFrom eL hL i 1 (by decide) (by decide), eM]
        rw [i64_sub (by rw [Int32.toInt_toInt64, nI_toInt (by omega), t64_1]; omega) (by rw [Int32.toInt_toInt64, nI_toInt (by omega), t64_1]; omega), Int32.toInt_toInt64, nI_toInt (by omega), t64_1]
        simp only [bindo_some]
        unfold X11_put_b38
        by_cases c : 0 ≤ i.toInt ∧ i.toInt + 1 ≤ L
        · rw [if_pos c, if_pos rfl, if_pos (show 0 ≤ i.toInt ∧ i.toInt ≤ (L : Int) - 1 by omega)]
          obtain ⟨q, hq, rfl⟩ := lt_shape c hL
          rw [show (wI τ 0 0 0).1 8 3 = τ.1 8 3 from rfl, nI40, inb_nI (show 40 * 3 + q < 160 by omega) (by decide), ix_nI (by omega)]
          simp only [chk_t]
          unfold X9_write
          simp only [xw, bindo_some, bz_eq0, Decidable.not_not, t32_0, t32_1, t32_2, t32_3, t32_4, t32_5, t32_6, t32_7, t32_8, t32_9, t32_10, t32_11, t32_19, t32_20, t32_23, t32_24, t32_29, t32_30, t32_39, t32_40, t32_49, t32_50, t32_79, t32_99, t32_100, t32_119, t32_120, t32_159, t32_160, t32_249, t32_250, t32_400, t32_500, t32_800, t32_950, t32_1000, t32_1050, t32_2000, t32_2999, t32_3000, t32_8000, t32_10000, t32_30000, t32_500000, t32_m1, t32_m2, t32_m3, t32_m4, t32_m9, t32_m10, t32_m500, t32_m1000, t32_m10000, t32_m30000, t64_0, t64_1, t64_2, t64_3, t64_4, t64_5, t64_6, t64_7, t64_8, t64_9, t64_10, t64_11, t64_19, t64_20, t64_23, t64_24, t64_29, t64_30, t64_39, t64_40, t64_49, t64_50, t64_79, t64_99, t64_100, t64_119, t64_120, t64_159, t64_160, t64_249, t64_250, t64_400, t64_500, t64_800, t64_950, t64_1000, t64_1050, t64_2000, t64_2999, t64_3000, t64_8000, t64_10000, t64_30000, t64_500000, t64_m1, t64_m2, t64_m3, t64_m4, t64_m9, t64_m10, t64_m500, t64_m1000, t64_m10000, t64_m30000, nI_toInt (show q < 2 ^ 31 by omega)]
          rw [if_neg (by omega), inb_nI (show q < 40 by omega) (by decide), ix_nI (by omega)]
          simp only [chk_t, lete_eq]
          rw [show (wI σ 0 9 0).1 35 2 = τ.1 8 3 from w0]
          rcases w with w | w | w
          · rw [w, if_neg (by decide), if_neg (by decide)]
            exact sim_ret' rfl ⟨t, a, st, lo, co, mk, ot, ⟨rfl, e_tr, e_mp, e_lg, e_ro, e_ti, e_at_, e_ki, e_ac, e_pa, e_sc, e_ld, e_mc, e_mt, e_cc, e_lc, e_l1, e_l2, e_l3, e_kc, e_k1, e_k2, e_k3, e_k4, e_oc, e_oa, e_b1, e_b2, e_pr, eqSh_cells e_sh0 (fun i hi => upd_out (by omega)), eqSh_cells e_sh1 (fun i hi => upd_out (by omega)), eqSh_cells e_sh2 (fun i hi => upd_out (by omega)), eqSh_put e_sh3 (by omega) _, by first | exact e_ch | (intro k hk; simp (disch := omega) only [wI_hi, wJ_1]; exact e_ch k hk), e_c0, e_d0, e_c1, e_d1, e_c2, e_d2, e_c3, e_d3, e_c4, e_d4, e_c5, e_d5, e_c6, e_d6, e_c7, e_d7, e_ps, e_oz, e_rm, e_lb, e_ab, e_ru, e_mb, e_wb, e_w0, e_w1, e_ws, e_wp, e_kb, e_tb, e_bb⟩⟩
          · rw [w, if_pos (by decide), if_neg (by decide), if_pos (by decide), if_neg (by decide)]
            exact sim_ret' rfl ⟨t, a, st, lo, co, mk, ot, ⟨rfl, e_tr, e_mp, e_lg, e_ro, e_ti, e_at_, e_ki, e_ac, e_pa, e_sc, e_ld, e_mc, e_mt, e_cc, e_lc, e_l1, e_l2, e_l3, e_kc, e_k1, e_k2, e_k3, e_k4, e_oc, e_oa, e_b1, e_b2, e_pr, eqSh_cells e_sh0 (fun i hi => upd_out (by omega)), eqSh_cells e_sh1 (fun i hi => upd_out (by omega)), eqSh_cells e_sh2 (fun i hi => upd_out (by omega)), eqSh_put e_sh3 (by omega) _, by first | exact e_ch | (intro k hk; simp (disch := omega) only [wI_hi, wJ_1]; exact e_ch k hk), e_c0, e_d0, e_c1, e_d1, e_c2, e_d2, e_c3, e_d3, e_c4, e_d4, e_c5, e_d5, e_c6, e_d6, e_c7, e_d7, e_ps, e_oz, e_rm, e_lb, e_ab, e_ru, e_mb, e_wb, e_w0, e_w1, e_ws, e_wp, e_kb, e_tb, e_bb⟩⟩
          · rw [w, if_pos (by decide), if_pos (by decide), if_pos (by decide), if_pos (by decide)]
            exact sim_ret' rfl ⟨t, a, st, lo, co, mk, ot, ⟨rfl, e_tr, e_mp, e_lg, e_ro, e_ti, e_at_, e_ki, e_ac, e_pa, e_sc, e_ld, e_mc, e_mt, e_cc, e_lc, e_l1, e_l2, e_l3, e_kc, e_k1, e_k2, e_k3, e_k4, e_oc, e_oa, e_b1, e_b2, e_pr, eqSh_cells e_sh0 (fun i hi => upd_out (by omega)), eqSh_cells e_sh1 (fun i hi => upd_out (by omega)), eqSh_cells e_sh2 (fun i hi => upd_out (by omega)), eqSh_put e_sh3 (by omega) _, by first | exact e_ch | (intro k hk; simp (disch := omega) only [wI_hi, wJ_1]; exact e_ch k hk), e_c0, e_d0, e_c1, e_d1, e_c2, e_d2, e_c3, e_d3, e_c4, e_d4, e_c5, e_d5, e_c6, e_d6, e_c7, e_d7, e_ps, e_oz, e_rm, e_lb, e_ab, e_ru, e_mb, e_wb, e_w0, e_w1, e_ws, e_wp, e_kb, e_tb, e_bb⟩⟩
        · rw [if_neg c, if_neg (by decide), if_neg (show ¬ (0 ≤ i.toInt ∧ i.toInt ≤ (L : Int) - 1) by omega)]
          exact sim_ret' rfl hk3
  · rw [if_neg h1, if_neg h1]
    exact sim_ret hk
theorem ev_scell {n o q : Nat} {σ : Mem} {x : Int32} (ex : x = nI q) (hq : q < 40) : X9_cell n o σ x = some (σ.1 (o + 1) q) := by
  subst ex
  unfold X9_cell
  simp only [xw, bindo_some, bz_eq0, Decidable.not_not, t32_0, t32_1, t32_2, t32_3, t32_4, t32_5, t32_6, t32_7, t32_8, t32_9, t32_10, t32_11, t32_19, t32_20, t32_23, t32_24, t32_29, t32_30, t32_39, t32_40, t32_49, t32_50, t32_79, t32_99, t32_100, t32_119, t32_120, t32_159, t32_160, t32_249, t32_250, t32_400, t32_500, t32_800, t32_950, t32_1000, t32_1050, t32_2000, t32_2999, t32_3000, t32_8000, t32_10000, t32_30000, t32_500000, t32_m1, t32_m2, t32_m3, t32_m4, t32_m9, t32_m10, t32_m500, t32_m1000, t32_m10000, t32_m30000, t64_0, t64_1, t64_2, t64_3, t64_4, t64_5, t64_6, t64_7, t64_8, t64_9, t64_10, t64_11, t64_19, t64_20, t64_23, t64_24, t64_29, t64_30, t64_39, t64_40, t64_49, t64_50, t64_79, t64_99, t64_100, t64_119, t64_120, t64_159, t64_160, t64_249, t64_250, t64_400, t64_500, t64_800, t64_950, t64_1000, t64_1050, t64_2000, t64_2999, t64_3000, t64_8000, t64_10000, t64_30000, t64_500000, t64_m1, t64_m2, t64_m3, t64_m4, t64_m9, t64_m10, t64_m500, t64_m1000, t64_m10000, t64_m30000]
  rw [nI_toInt (by omega), if_neg (by omega), inb_nI (by omega) (by decide), chk_t, ix_nI (by omega)]
theorem f_at {n t a st lo co mk ot : Nat} {σ τ : Mem} (h : RelC n t a st lo co mk ot σ τ) (p i l : Int32) : Sim (RelE n) (X11_at n σ p i l) (X12_at τ p i l) := by
  obtain ⟨e_fa, e_tr, e_mp, e_lg, e_ro, e_ti, e_at_, e_ki, e_ac, e_pa, e_sc, e_ld, e_mc, e_mt, e_cc, e_lc, e_l1, e_l2, e_l3, e_kc, e_k1, e_k2, e_k3, e_k4, e_oc, e_oa, e_b1, e_b2, e_pr, e_sh0, e_sh1, e_sh2, e_sh3, e_ch, e_c0, e_d0, e_c1, e_d1, e_c2, e_d2, e_c3, e_d3, e_c4, e_d4, e_c5, e_d5, e_c6, e_d6, e_c7, e_d7, e_ps, e_oz, e_rm, e_lb, e_ab, e_ru, e_mb, e_wb, e_w0, e_w1, e_ws, e_wp, e_kb, e_tb, e_bb⟩ := h
  have hk : RelE n (wI σ 0 9 0) (wI τ 0 0 0) := ⟨t, a, st, lo, co, mk, ot, ⟨rfl, e_tr, e_mp, e_lg, e_ro, e_ti, e_at_, e_ki, e_ac, e_pa, e_sc, e_ld, e_mc, e_mt, e_cc, e_lc, e_l1, e_l2, e_l3, e_kc, e_k1, e_k2, e_k3, e_k4, e_oc, e_oa, e_b1, e_b2, e_pr, e_sh0, e_sh1, e_sh2, e_sh3, by first | exact e_ch | (intro k hk; simp (disch := omega) only [wI_hi, wJ_1]; exact e_ch k hk), e_c0, e_d0, e_c1, e_d1, e_c2, e_d2, e_c3, e_d3, e_c4, e_d4, e_c5, e_d5, e_c6, e_d6, e_c7, e_d7, e_ps, e_oz, e_rm, e_lb, e_ab, e_ru, e_mb, e_wb, e_w0, e_w1, e_ws, e_wp, e_kb, e_tb, e_bb⟩⟩
  have hk1 : RelE n (wI (wI σ 0 9 0) 0 9 1) (wI (wI τ 0 0 0) 0 0 1) := ⟨t, a, st, lo, co, mk, ot, ⟨rfl, e_tr, e_mp, e_lg, e_ro, e_ti, e_at_, e_ki, e_ac, e_pa, e_sc, e_ld, e_mc, e_mt, e_cc, e_lc, e_l1, e_l2, e_l3, e_kc, e_k1, e_k2, e_k3, e_k4, e_oc, e_oa, e_b1, e_b2, e_pr, e_sh0, e_sh1, e_sh2, e_sh3, by first | exact e_ch | (intro k hk; simp (disch := omega) only [wI_hi, wJ_1]; exact e_ch k hk), e_c0, e_d0, e_c1, e_d1, e_c2, e_d2, e_c3, e_d3, e_c4, e_d4, e_c5, e_d5, e_c6, e_d6, e_c7, e_d7, e_ps, e_oz, e_rm, e_lb, e_ab, e_ru, e_mb, e_wb, e_w0, e_w1, e_ws, e_wp, e_kb, e_tb, e_bb⟩⟩
  have hk2 : RelE n (wI (wI σ 0 9 0) 0 9 2) (wI (wI τ 0 0 0) 0 0 2) := ⟨t, a, st, lo, co, mk, ot, ⟨rfl, e_tr, e_mp, e_lg, e_ro, e_ti, e_at_, e_ki, e_ac, e_pa, e_sc, e_ld, e_mc, e_mt, e_cc, e_lc, e_l1, e_l2, e_l3, e_kc, e_k1, e_k2, e_k3, e_k4, e_oc, e_oa, e_b1, e_b2, e_pr, e_sh0, e_sh1, e_sh2, e_sh3, by first | exact e_ch | (intro k hk; simp (disch := omega) only [wI_hi, wJ_1]; exact e_ch k hk), e_c0, e_d0, e_c1, e_d1, e_c2, e_d2, e_c3, e_d3, e_c4, e_d4, e_c5, e_d5, e_c6, e_d6, e_c7, e_d7, e_ps, e_oz, e_rm, e_lb, e_ab, e_ru, e_mb, e_wb, e_w0, e_w1, e_ws, e_wp, e_kb, e_tb, e_bb⟩⟩
  have hk3 : RelE n (wI (wI σ 0 9 0) 0 9 3) (wI (wI τ 0 0 0) 0 0 3) := ⟨t, a, st, lo, co, mk, ot, ⟨rfl, e_tr, e_mp, e_lg, e_ro, e_ti, e_at_, e_ki, e_ac, e_pa, e_sc, e_ld, e_mc, e_mt, e_cc, e_lc, e_l1, e_l2, e_l3, e_kc, e_k1, e_k2, e_k3, e_k4, e_oc, e_oa, e_b1, e_b2, e_pr, e_sh0, e_sh1, e_sh2, e_sh3, by first | exact e_ch | (intro k hk; simp (disch := omega) only [wI_hi, wJ_1]; exact e_ch k hk), e_c0, e_d0, e_c1, e_d1, e_c2, e_d2, e_c3, e_d3, e_c4, e_d4, e_c5, e_d5, e_c6, e_d6, e_c7, e_d7, e_ps, e_oz, e_rm, e_lb, e_ab, e_ru, e_mb, e_wb, e_w0, e_w1, e_ws, e_wp, e_kb, e_tb, e_bb⟩⟩
  unfold X11_at X12_at
  simp only [lete_eq, ev_findSheet, xw, mw, bindo_some, bz_eq0, Decidable.not_not, Int32.toInt_toInt64, t32_0, t32_1, t32_2, t32_3, t32_4, t32_5, t32_6, t32_7, t32_8, t32_9, t32_10, t32_11, t32_19, t32_20, t32_23, t32_24, t32_29, t32_30, t32_39, t32_40, t32_49, t32_50, t32_79, t32_99, t32_100, t32_119, t32_120, t32_159, t32_160, t32_249, t32_250, t32_400, t32_500, t32_800, t32_950, t32_1000, t32_1050, t32_2000, t32_2999, t32_3000, t32_8000, t32_10000, t32_30000, t32_500000, t32_m1, t32_m2, t32_m3, t32_m4, t32_m9, t32_m10, t32_m500, t32_m1000, t32_m10000, t32_m30000, t64_0, t64_1, t64_2, t64_3, t64_4, t64_5, t64_6, t64_7, t64_8, t64_9, t64_10, t64_11, t64_19, t64_20, t64_23, t64_24, t64_29, t64_30, t64_39, t64_40, t64_49, t64_50, t64_79, t64_99, t64_100, t64_119, t64_120, t64_159, t64_160, t64_249, t64_250, t64_400, t64_500, t64_800, t64_950, t64_1000, t64_1050, t64_2000, t64_2999, t64_3000, t64_8000, t64_10000, t64_30000, t64_500000, t64_m1, t64_m2, t64_m3, t64_m4, t64_m9, t64_m10, t64_m500, t64_m1000, t64_m10000, t64_m30000]
  by_cases h1 : 0 ≤ p.toInt ∧ p.toInt ≤ 3
  · rw [if_pos h1, if_neg (fun z => z h1)]
    obtain ⟨j, hj, rfl⟩ := nat_of 3 h1.1 h1.2 (by decide)
    unfold X12_at_b60
    simp only [mw, bindo_some, bz_eq0, Decidable.not_not, Int32.toInt_toInt64, t64_0]
    rw [nI_toInt (by omega), inb_nI (show j < 4 by omega) (by decide), ix_nI (by omega)]
    simp only [Int.toNat_natCast, caseo, chk_t]
    rw [isSh_j hj, chk_t]
    refine sim_ite Iff.rfl (fun h2 => ?_) (fun _ => sim_ret hk)
    have hl : ¬ l = -9 := fun e => by rw [e] at h2; revert h2; decide
    unfold X9_faultAs X11_at_b52
    rcases (show j = 0 ∨ j = 1 ∨ j = 2 ∨ j = 3 by omega) with rfl | rfl | rfl | rfl
    · simp only [Nat.reduceMul, Nat.reduceAdd]
      obtain ⟨q1, q2, q3, L, hL, q4⟩ := id e_sh0
      have eL : (wI σ 0 9 0).1 29 1 = nI L := q1.trans q4
      have eM : (wI τ 0 0 0).1 9 0 = nI L := q4
      rcases q3 with ⟨u, w⟩ | ⟨u, w0, w⟩
      · rw [if_neg (fun z => z (show (wI σ 0 9 0).1 29 3 = 0 from u)), if_pos (show (wI τ 0 0 0).1 8 0 = -9 from w), if_neg (fun z => z (show (wI τ 0 0 0).1 8 0 = -9 from w))]
        exact sim_ret' rfl hk1
      · have hn : ¬ (wI τ 0 0 0).1 8 0 = -9 := by show ¬ τ.1 8 0 = -9; rcases w with w | w | w <;> rw [w] <;> decide
        rw [if_pos (show ¬ (wI σ 0 9 0).1 29 3 = 0 from fun z => absurd (u.symm.trans z) (by decide)), if_neg hn]
        rw [show (wI σ 0 9 0).1 29 2 = τ.1 8 0 from w0, show (wI τ 0 0 0).1 8 0 = τ.1 8 0 from rfl]
        by_cases hll : τ.1 8 0 = l
        · rw [if_neg (fun z => z hll), if_pos hll, if_pos (show ¬ τ.1 8 0 = -9 from hn)]
          simp only [bindo_some]
          rw [if_neg (fun z => z trivial), ev_faultFrom eL hL i 1 (by decide) (by decide), eM]
          rw [i64_sub (by rw [Int32.toInt_toInt64, nI_toInt (by omega), t64_1]; omega) (by rw [Int32.toInt_toInt64, nI_toInt (by omega), t64_1]; omega), Int32.toInt_toInt64, nI_toInt (by omega), t64_1]
          simp only [bindo_some]
          by_cases c : 0 ≤ i.toInt ∧ i.toInt + 1 ≤ L
          · rw [if_pos c, if_pos rfl, if_pos (show 0 ≤ i.toInt ∧ i.toInt ≤ (L : Int) - 1 by omega)]
            obtain ⟨q, hq, rfl⟩ := lt_shape c hL
            rw [nI40, inb_nI (show 40 * 0 + q < 160 by omega) (by decide), ix_nI (by omega), ev_scell rfl (by omega)]
            simp only [chk_t, bindo_some]
            exact sim_ret' (congrArg Int32.toInt64 (q2 q (by omega))) hk
          · rw [if_neg c, if_neg (by decide), if_neg (show ¬ (0 ≤ i.toInt ∧ i.toInt ≤ (L : Int) - 1) by omega)]
            exact sim_ret' rfl hk3
        · rw [if_pos hll, if_neg hll]
          exact sim_ret' rfl hk2
    · simp only [Nat.reduceMul, Nat.reduceAdd]
      obtain ⟨q1, q2, q3, L, hL, q4⟩ := id e_sh1
      have eL : (wI σ 0 9 0).1 31 1 = nI L := q1.trans q4
      have eM : (wI τ 0 0 0).1 9 1 = nI L := q4
      rcases q3 with ⟨u, w⟩ | ⟨u, w0, w⟩
      · rw [if_neg (fun z => z (show (wI σ 0 9 0).1 31 3 = 0 from u)), if_pos (show (wI τ 0 0 0).1 8 1 = -9 from w), if_neg (fun z => z (show (wI τ 0 0 0).1 8 1 = -9 from w))]
        exact sim_ret' rfl hk1
      · have hn : ¬ (wI τ 0 0 0).1 8 1 = -9 := by show ¬ τ.1 8 1 = -9; rcases w with w | w | w <;> rw [w] <;> decide
        rw [if_pos (show ¬ (wI σ 0 9 0).1 31 3 = 0 from fun z => absurd (u.symm.trans z) (by decide)), if_neg hn]
        rw [show (wI σ 0 9 0).1 31 2 = τ.1 8 1 from w0, show (wI τ 0 0 0).1 8 1 = τ.1 8 1 from rfl]
        by_cases hll : τ.1 8 1 = l
        · rw [if_neg (fun z => z hll), if_pos hll, if_pos (show ¬ τ.1 8 1 = -9 from hn)]
          simp only [bindo_some]
          rw [if_neg (fun z => z trivial), ev_faultFrom eL hL i 1 (by decide) (by decide), eM]
          rw [i64_sub (by rw [Int32.toInt_toInt64, nI_toInt (by omega), t64_1]; omega) (by rw [Int32.toInt_toInt64, nI_toInt (by omega), t64_1]; omega), Int32.toInt_toInt64, nI_toInt (by omega), t64_1]
          simp only [bindo_some]
          by_cases c : 0 ≤ i.toInt ∧ i.toInt + 1 ≤ L
          · rw [if_pos c, if_pos rfl, if_pos (show 0 ≤ i.toInt ∧ i.toInt ≤ (L : Int) - 1 by omega)]
            obtain ⟨q, hq, rfl⟩ := lt_shape c hL
            rw [nI40, inb_nI (show 40 * 1 + q < 160 by omega) (by decide), ix_nI (by omega), ev_scell rfl (by omega)]
            simp only [chk_t, bindo_some]
            exact sim_ret' (congrArg Int32.toInt64 (q2 q (by omega))) hk
          · rw [if_neg c, if_neg (by decide), if_neg (show ¬ (0 ≤ i.toInt ∧ i.toInt ≤ (L : Int) - 1) by omega)]
            exact sim_ret' rfl hk3
        · rw [if_pos hll, if_neg hll]
          exact sim_ret' rfl hk2
    · simp only [Nat.reduceMul, Nat.reduceAdd]
      obtain ⟨q1, q2, q3, L, hL, q4⟩ := id e_sh2
      have eL : (wI σ 0 9 0).1 33 1 = nI L := q1.trans q4
      have eM : (wI τ 0 0 0).1 9 2 = nI L := q4
      rcases q3 with ⟨u, w⟩ | ⟨u, w0, w⟩
      · rw [if_neg (fun z => z (show (wI σ 0 9 0).1 33 3 = 0 from u)), if_pos (show (wI τ 0 0 0).1 8 2 = -9 from w), if_neg (fun z => z (show (wI τ 0 0 0).1 8 2 = -9 from w))]
        exact sim_ret' rfl hk1
      · have hn : ¬ (wI τ 0 0 0).1 8 2 = -9 := by show ¬ τ.1 8 2 = -9; rcases w with w | w | w <;> rw [w] <;> decide
        rw [if_pos (show ¬ (wI σ 0 9 0).1 33 3 = 0 from fun z => absurd (u.symm.trans z) (by decide)), if_neg hn]
        rw [show (wI σ 0 9 0).1 33 2 = τ.1 8 2 from w0, show (wI τ 0 0 0).1 8 2 = τ.1 8 2 from rfl]
        by_cases hll : τ.1 8 2 = l
        · rw [if_neg (fun z => z hll), if_pos hll, if_pos (show ¬ τ.1 8 2 = -9 from hn)]
          simp only [bindo_some]
          rw [if_neg (fun z => z trivial), ev_faultFrom eL hL i 1 (by decide) (by decide), eM]
          rw [i64_sub (by rw [Int32.toInt_toInt64, nI_toInt (by omega), t64_1]; omega) (by rw [Int32.toInt_toInt64, nI_toInt (by omega), t64_1]; omega), Int32.toInt_toInt64, nI_toInt (by omega), t64_1]
          simp only [bindo_some]
          by_cases c : 0 ≤ i.toInt ∧ i.toInt + 1 ≤ L
          · rw [if_pos c, if_pos rfl, if_pos (show 0 ≤ i.toInt ∧ i.toInt ≤ (L : Int) - 1 by omega)]
            obtain ⟨q, hq, rfl⟩ := lt_shape c hL
            rw [nI40, inb_nI (show 40 * 2 + q < 160 by omega) (by decide), ix_nI (by omega), ev_scell rfl (by omega)]
            simp only [chk_t, bindo_some]
            exact sim_ret' (congrArg Int32.toInt64 (q2 q (by omega))) hk
          · rw [if_neg c, if_neg (by decide), if_neg (show ¬ (0 ≤ i.toInt ∧ i.toInt ≤ (L : Int) - 1) by omega)]
            exact sim_ret' rfl hk3
        · rw [if_pos hll, if_neg hll]
          exact sim_ret' rfl hk2
    · simp only [Nat.reduceMul, Nat.reduceAdd]
      obtain ⟨q1, q2, q3, L, hL, q4⟩ := id e_sh3
      have eL : (wI σ 0 9 0).1 35 1 = nI L := q1.trans q4
      have eM : (wI τ 0 0 0).1 9 3 = nI L := q4
      rcases q3 with ⟨u, w⟩ | ⟨u, w0, w⟩
      · rw [if_neg (fun z => z (show (wI σ 0 9 0).1 35 3 = 0 from u)), if_pos (show (wI τ 0 0 0).1 8 3 = -9 from w), if_neg (fun z => z (show (wI τ 0 0 0).1 8 3 = -9 from w))]
        exact sim_ret' rfl hk1
      · have hn : ¬ (wI τ 0 0 0).1 8 3 = -9 := by show ¬ τ.1 8 3 = -9; rcases w with w | w | w <;> rw [w] <;> decide
        rw [if_pos (show ¬ (wI σ 0 9 0).1 35 3 = 0 from fun z => absurd (u.symm.trans z) (by decide)), if_neg hn]
        rw [show (wI σ 0 9 0).1 35 2 = τ.1 8 3 from w0, show (wI τ 0 0 0).1 8 3 = τ.1 8 3 from rfl]
        by_cases hll : τ.1 8 3 = l
        · rw [if_neg (fun z => z hll), if_pos hll, if_pos (show ¬ τ.1 8 3 = -9 from hn)]
          simp only [bindo_some]
          rw [if_neg (fun z => z trivial), ev_faultFrom eL hL i 1 (by decide) (by decide), eM]
          rw [i64_sub (by rw [Int32.toInt_toInt64, nI_toInt (by omega), t64_1]; omega) (by rw [Int32.toInt_toInt64, nI_toInt (by omega), t64_1]; omega), Int32.toInt_toInt64, nI_toInt (by omega), t64_1]
          simp only [bindo_some]
          by_cases c : 0 ≤ i.toInt ∧ i.toInt + 1 ≤ L
          · rw [if_pos c, if_pos rfl, if_pos (show 0 ≤ i.toInt ∧ i.toInt ≤ (L : Int) - 1 by omega)]
            obtain ⟨q, hq, rfl⟩ := lt_shape c hL
            rw [nI40, inb_nI (show 40 * 3 + q < 160 by omega) (by decide), ix_nI (by omega), ev_scell rfl (by omega)]
            simp only [chk_t, bindo_some]
            exact sim_ret' (congrArg Int32.toInt64 (q2 q (by omega))) hk
          · rw [if_neg c, if_neg (by decide), if_neg (show ¬ (0 ≤ i.toInt ∧ i.toInt ≤ (L : Int) - 1) by omega)]
            exact sim_ret' rfl hk3
        · rw [if_pos hll, if_neg hll]
          exact sim_ret' rfl hk2
  · rw [if_neg h1, if_pos h1]
    exact sim_ret hk
