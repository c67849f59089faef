/-! torque: alike on both sides -/
theorem f_torque {n t a st lo co mk ot : Nat} {σ τ : Mem} (h : RelC n t a st lo co mk ot σ τ) (s d : Int32) : SimP (X11_torque n σ s d) (X12_torque τ s d) := by
  obtain ⟨e_fa, e_tr, e_mp, e_lg, e_ro, e_ti, e_at_, e_ki, e_ac, e_pa, e_sc, e_ld, e_mc, e_mt, e_cc, e_lc, e_l1, e_l2, e_l3, e_kc, e_k1, e_k2, e_k3, e_k4, e_oc, e_oa, e_b1, e_b2, e_pr, e_sh0, e_sh1, e_sh2, e_sh3, e_ch, e_c0, e_d0, e_c1, e_d1, e_c2, e_d2, e_c3, e_d3, e_c4, e_d4, e_c5, e_d5, e_c6, e_d6, e_c7, e_d7, e_ps, e_oz, e_rm, e_lb, e_ab, e_ru, e_mb, e_wb, e_w0, e_w1, e_ws, e_wp, e_kb, e_tb, e_bb⟩ := h
  unfold X11_torque X12_torque
  simp only [xw, mw, bindo_some, bz_eq0, Decidable.not_not, Int32.toInt_toInt64, t32_0, t32_1, t32_2, t32_3, t32_4, t32_5, t32_6, t32_7, t32_8, t32_9, t32_10, t32_11, t32_19, t32_20, t32_23, t32_24, t32_29, t32_30, t32_39, t32_40, t32_49, t32_50, t32_79, t32_99, t32_100, t32_119, t32_120, t32_159, t32_160, t32_249, t32_250, t32_400, t32_500, t32_800, t32_950, t32_1000, t32_1050, t32_2000, t32_2999, t32_3000, t32_8000, t32_10000, t32_30000, t32_500000, t32_m1, t32_m2, t32_m3, t32_m4, t32_m9, t32_m10, t32_m500, t32_m1000, t32_m10000, t32_m30000, t64_0, t64_1, t64_2, t64_3, t64_4, t64_5, t64_6, t64_7, t64_8, t64_9, t64_10, t64_11, t64_19, t64_20, t64_23, t64_24, t64_29, t64_30, t64_39, t64_40, t64_49, t64_50, t64_79, t64_99, t64_100, t64_119, t64_120, t64_159, t64_160, t64_249, t64_250, t64_400, t64_500, t64_800, t64_950, t64_1000, t64_1050, t64_2000, t64_2999, t64_3000, t64_8000, t64_10000, t64_30000, t64_500000, t64_m1, t64_m2, t64_m3, t64_m4, t64_m9, t64_m10, t64_m500, t64_m1000, t64_m10000, t64_m30000]
  by_cases h1 : 0 ≤ s.toInt ∧ s.toInt ≤ 8000
  · have h1' : ¬ ¬ (0 ≤ s.toInt ∧ s.toInt ≤ 8000) := fun z => z h1
    rw [if_neg h1', if_neg h1']
    by_cases h2 : 0 ≤ d.toInt ∧ d.toInt ≤ 1000
    · have h2' : ¬ ¬ (0 ≤ d.toInt ∧ d.toInt ≤ 1000) := fun z => z h2
      rw [if_pos h2, if_neg h2']
      obtain ⟨j, hj, rfl⟩ := nat_of 8000 h1.1 h1.2 (by decide)
      obtain ⟨i, hi, rfl⟩ := nat_of 1000 h2.1 h2.2 (by decide)
      obtain ⟨r, x1, x2, -, -⟩ := torque_ok (n := n) (σ := σ) (τ := τ) e_mp e_mb hj hi
      rw [x1, x2]
      exact ⟨_, rfl, rfl⟩
    · rw [if_neg h2, if_pos h2]
      exact ⟨_, rfl, rfl⟩
  · rw [if_pos h1, if_pos h1]
    exact ⟨_, rfl, rfl⟩
