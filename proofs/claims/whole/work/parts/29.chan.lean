/-! channel: what the new row is (the machine's side is walked elsewhere) -/
def newCh (σ : Mem) (n : Nat) (p1 p2 p3 p4 p5 : Int32) : Mem := wI (wI (wI (wI (wI (wI (wA σ (100 + n) (fun _ => 0)) (100 + n) 0 (nI n)) (100 + n) 1 p1) (100 + n) 2 p2) (100 + n) 3 p3) (100 + n) 4 p4) (100 + n) 5 p5
theorem newCh_ne {σ : Mem} {n o : Nat} {p1 p2 p3 p4 p5 : Int32} (h : o ≠ 100 + n) : (newCh σ n p1 p2 p3 p4 p5).1 o = σ.1 o := by
  unfold newCh
  rw [wI_ne _ _ _ h, wI_ne _ _ _ h, wI_ne _ _ _ h, wI_ne _ _ _ h, wI_ne _ _ _ h, wI_ne _ _ _ h]
  simp only [wA, if_neg h]
theorem newCh_o {σ : Mem} {n : Nat} {p1 p2 p3 p4 p5 : Int32} : (newCh σ n p1 p2 p3 p4 p5).1 (100 + n) = upd (upd (upd (upd (upd (upd (fun _ => 0) 0 (nI n)) 1 p1) 2 p2) 3 p3) 4 p4) 5 p5 := by
  unfold newCh
  rw [wI_o, wI_o, wI_o, wI_o, wI_o, wI_o, wA_o]
theorem chan_ok {n t a st lo co mk ot : Nat} {σ τ : Mem} (h : RelC n t a st lo co mk ot σ τ) (p1 p2 p3 p4 p5 : Int32) (hn : n < 8) (hz : τ.1 0 4 = 0) (h1 : 0 ≤ p1.toInt ∧ p1.toInt ≤ 4) (h2 : 1 ≤ p2.toInt ∧ p2.toInt ≤ 20) (h3 : 0 ≤ p3.toInt ∧ p3.toInt ≤ 20) (h4 : -10000 ≤ p4.toInt ∧ p4.toInt ≤ p5.toInt ∧ p5.toInt ≤ 10000) : ∃ τ' : Mem, X12_channel τ p1 p2 p3 p4 p5 = some (nI n, τ') ∧ RelC (n + 1) t a st lo co mk ot (wI (newCh σ n p1 p2 p3 p4 p5) 6 4 (nI (n + 1))) τ' := by
  have hx := relX h (σ' := newCh σ n p1 p2 p3 p4 p5) (fun o ho => newCh_ne (by omega)) (fun k hk => by
    obtain ⟨e_fa, e_tr, e_mp, e_lg, e_ro, e_ti, e_at_, e_ki, e_ac, e_pa, e_sc, e_ld, e_mc, e_mt, e_cc, e_lc, e_l1, e_l2, e_l3, e_kc, e_k1, e_k2, e_k3, e_k4, e_oc, e_oa, e_b1, e_b2, e_pr, e_sh0, e_sh1, e_sh2, e_sh3, e_ch, e_c0, e_d0, e_c1, e_d1, e_c2, e_d2, e_c3, e_d3, e_c4, e_d4, e_c5, e_d5, e_c6, e_d6, e_c7, e_d7, e_ps, e_oz, e_rm, e_lb, e_ab, e_ru, e_mb, e_wb, e_w0, e_w1, e_ws, e_wp, e_kb, e_tb, e_bb⟩ := h
    rw [newCh_ne (by omega)]
    exact e_ch k hk)
  have hnew := newCh_o (σ := σ) (n := n) (p1 := p1) (p2 := p2) (p3 := p3) (p4 := p4) (p5 := p5)
  generalize newCh σ n p1 p2 p3 p4 p5 = σ0 at hx hnew ⊢
  obtain ⟨e_fa, e_tr, e_mp, e_lg, e_ro, e_ti, e_at_, e_ki, e_ac, e_pa, e_sc, e_ld, e_mc, e_mt, e_cc, e_lc, e_l1, e_l2, e_l3, e_kc, e_k1, e_k2, e_k3, e_k4, e_oc, e_oa, e_b1, e_b2, e_pr, e_sh0, e_sh1, e_sh2, e_sh3, e_ch, e_c0, e_d0, e_c1, e_d1, e_c2, e_d2, e_c3, e_d3, e_c4, e_d4, e_c5, e_d5, e_c6, e_d6, e_c7, e_d7, e_ps, e_oz, e_rm, e_lb, e_ab, e_ru, e_mb, e_wb, e_w0, e_w1, e_ws, e_wp, e_kb, e_tb, e_bb⟩ := hx
  have g1 : ∀ x, (wI τ 12 n x).1 0 26 = nI n := fun x => e_c0
  have g2 : ∀ x y, (wI (wI τ 12 n x) 13 n y).1 0 26 = nI n := fun x y => e_c0
  have g3 : ∀ x y z, (wI (wI (wI τ 12 n x) 13 n y) 14 n z).1 0 26 = nI n := fun x y z => e_c0
  have g4 : ∀ x y z u, (wI (wI (wI (wI τ 12 n x) 13 n y) 14 n z) 15 n u).1 0 26 = nI n := fun x y z u => e_c0
  have g5 : ∀ x y z u v, (wI (wI (wI (wI (wI τ 12 n x) 13 n y) 14 n z) 15 n u) 16 n v).1 0 26 = nI n := fun x y z u v => e_c0
  have g6 : ∀ x y z u v w, (wI (wI (wI (wI (wI (wI τ 12 n x) 13 n y) 14 n z) 15 n u) 16 n v) 17 n w).1 0 26 = nI n := fun x y z u v w => e_c0
  have g7 : ∀ x y z u v w q, (wI (wI (wI (wI (wI (wI (wI τ 12 n x) 13 n y) 14 n z) 15 n u) 16 n v) 17 n w) 0 26 q).1 0 26 = q := fun x y z u v w q => rfl
  obtain ⟨j1, a1, b1⟩ := nat_of 4 h1.1 h1.2 (by decide)
  obtain ⟨j2, a2, b2⟩ := nat_of 20 (show 0 ≤ p2.toInt by omega) h2.2 (by decide)
  obtain ⟨j3, a3, b3⟩ := nat_of 20 h3.1 h3.2 (by decide)
  have a2' : 1 ≤ j2 := by rw [b2, nI_toInt (by omega)] at h2; omega
  have hM : X12_channel τ p1 p2 p3 p4 p5 = some (nI n, wI (wI (wI (wI (wI (wI (wI τ 12 n p1) 13 n p2) 14 n p3) 15 n p4) 16 n p5) 17 n 0) 0 26 (nI (n + 1))) := by
    unfold X12_channel
    simp only [hz, mw, bindo_some, bz_eq0, Int32.toInt_toInt64, t32_0, t32_1, t32_2, t32_3, t32_4, t32_5, t32_6, t32_7, t32_8, t32_9, t32_10, t32_11, t32_19, t32_20, t32_23, t32_24, t32_29, t32_30, t32_39, t32_40, t32_49, t32_50, t32_79, t32_99, t32_100, t32_119, t32_120, t32_159, t32_160, t32_249, t32_250, t32_400, t32_500, t32_800, t32_950, t32_1000, t32_1050, t32_2000, t32_2999, t32_3000, t32_8000, t32_10000, t32_30000, t32_500000, t32_m1, t32_m2, t32_m3, t32_m4, t32_m9, t32_m10, t32_m500, t32_m1000, t32_m10000, t32_m30000, t64_0, t64_1, t64_2, t64_3, t64_4, t64_5, t64_6, t64_7, t64_8, t64_9, t64_10, t64_11, t64_19, t64_20, t64_23, t64_24, t64_29, t64_30, t64_39, t64_40, t64_49, t64_50, t64_79, t64_99, t64_100, t64_119, t64_120, t64_159, t64_160, t64_249, t64_250, t64_400, t64_500, t64_800, t64_950, t64_1000, t64_1050, t64_2000, t64_2999, t64_3000, t64_8000, t64_10000, t64_30000, t64_500000, t64_m1, t64_m2, t64_m3, t64_m4, t64_m9, t64_m10, t64_m500, t64_m1000, t64_m10000, t64_m30000, e_c0, lete_eq, inb_nI hn (by decide), ix_nI (show n < 2 ^ 31 by omega), chk_t, g1, g2, g3, g4, g5, g6, g7, nI_1]
    rw [if_pos trivial, if_neg (fun z => z h1), if_neg (fun z => z h2), if_neg (fun z => z h3), if_neg (fun z => z ⟨h4.1, by omega⟩), if_neg (fun z => z ⟨by omega, h4.2.2⟩), if_pos (by rw [Int32.le_iff_toInt_le]; exact h4.2.1), if_pos (fun z => by
      rw [show (8 : Int32) = nI 8 from rfl] at z
      have := (nI_eq (by omega) (by decide)).mp z
      omega), show (1 : Int32) = nI 1 from rfl, pk_sub (by omega)]
    rfl
  refine ⟨_, hM, ?_⟩
  have hch : ∀ k, k < n + 1 → EqCh ((wI σ0 6 4 (nI (n + 1))).1 (100 + k)) k (upd (τ.1 12) n p1 k) (upd (τ.1 13) n p2 k) (upd (τ.1 14) n p3 k) (upd (τ.1 15) n p4 k) (upd (τ.1 16) n p5 k) (upd (τ.1 17) n 0 k) (τ.1 18 k) := by
    intro k hk
    rw [wI_hi (by omega)]
    by_cases c : k = n
    · subst c
      rw [hnew, pk_us, pk_us, pk_us, pk_us, pk_us, pk_us]
      exact ⟨rfl, rfl, rfl, rfl, rfl, rfl, rfl, Or.inl rfl, ⟨j1, a1, b1⟩, ⟨j2, a2', a2, b2⟩, ⟨j3, a3, b3⟩, h4.1, h4.2.1, h4.2.2⟩
    · rw [pk_un c, pk_un c, pk_un c, pk_un c, pk_un c, pk_un c]
      exact e_ch k (by omega)
  exact ⟨e_fa, e_tr, e_mp, e_lg, e_ro, e_ti, e_at_, e_ki, e_ac, e_pa, e_sc, e_ld, e_mc, e_mt, rfl, e_lc, e_l1, e_l2, e_l3, e_kc, e_k1, e_k2, e_k3, e_k4, e_oc, e_oa, e_b1, e_b2, e_pr, e_sh0, e_sh1, e_sh2, e_sh3, hch, rfl, hn, e_c1, e_d1, e_c2, e_d2, e_c3, e_d3, e_c4, e_d4, e_c5, e_d5, e_c6, e_d6, e_c7, e_d7, e_ps, e_oz, e_rm, e_lb, e_ab, e_ru, e_mb, e_wb, e_w0, e_w1, e_ws, e_wp, e_kb, e_tb, e_bb⟩
/-- what the class's channel answers, what it leaves, how many channels there are then -/
def chanX (n : Nat) (σ : Mem) (p1 p2 p3 p4 p5 : Int32) : Int32 × Mem × Nat :=
  if ¬ σ.1 20 5 = 0 then (-3, σ, n)
  else if ¬ ((0 ≤ p1.toInt ∧ p1.toInt ≤ 4) ∧ (1 ≤ p2.toInt ∧ p2.toInt ≤ 20) ∧ (0 ≤ p3.toInt ∧ p3.toInt ≤ 20)) then (-2, σ, n)
  else if ¬ ((-10000 ≤ p4.toInt ∧ p4.toInt ≤ 10000) ∧ (p4.toInt ≤ p5.toInt ∧ p5.toInt ≤ 10000)) then (-2, σ, n)
  else if 8 ≤ n then (-4, σ, n)
  else (nI n, wI (newCh σ n p1 p2 p3 p4 p5) 6 4 (nI (n + 1)), n + 1)
theorem f_channel {n t a st lo co mk ot : Nat} {σ τ : Mem} (h : RelC n t a st lo co mk ot σ τ) (p1 p2 p3 p4 p5 : Int32) : ∃ τ' : Mem, X12_channel τ p1 p2 p3 p4 p5 = some ((chanX n σ p1 p2 p3 p4 p5).1, τ') ∧ RelE (chanX n σ p1 p2 p3 p4 p5).2.2 (chanX n σ p1 p2 p3 p4 p5).2.1 τ' := by
  have h0 := h
  obtain ⟨e_fa, e_tr, e_mp, e_lg, e_ro, e_ti, e_at_, e_ki, e_ac, e_pa, e_sc, e_ld, e_mc, e_mt, e_cc, e_lc, e_l1, e_l2, e_l3, e_kc, e_k1, e_k2, e_k3, e_k4, e_oc, e_oa, e_b1, e_b2, e_pr, e_sh0, e_sh1, e_sh2, e_sh3, e_ch, e_c0, e_d0, e_c1, e_d1, e_c2, e_d2, e_c3, e_d3, e_c4, e_d4, e_c5, e_d5, e_c6, e_d6, e_c7, e_d7, e_ps, e_oz, e_rm, e_lb, e_ab, e_ru, e_mb, e_wb, e_w0, e_w1, e_ws, e_wp, e_kb, e_tb, e_bb⟩ := h
  unfold chanX
  rw [e_ro]
  by_cases hz : τ.1 0 4 = 0
  · rw [if_neg (show ¬ ¬ τ.1 0 4 = 0 from fun z => z hz)]
    by_cases h1 : (0 ≤ p1.toInt ∧ p1.toInt ≤ 4) ∧ (1 ≤ p2.toInt ∧ p2.toInt ≤ 20) ∧ (0 ≤ p3.toInt ∧ p3.toInt ≤ 20)
    · rw [if_neg (fun z => z h1)]
      by_cases h2 : (-10000 ≤ p4.toInt ∧ p4.toInt ≤ 10000) ∧ (p4.toInt ≤ p5.toInt ∧ p5.toInt ≤ 10000)
      · rw [if_neg (fun z => z h2)]
        by_cases h3 : 8 ≤ n
        · rw [if_pos h3]
          refine ⟨τ, ?_, ⟨t, a, st, lo, co, mk, ot, h0⟩⟩
          unfold X12_channel
          simp only [hz, mw, bindo_some, bz_eq0, Int32.toInt_toInt64, t32_0, t32_1, t32_2, t32_3, t32_4, t32_5, t32_6, t32_7, t32_8, t32_9, t32_10, t32_11, t32_19, t32_20, t32_23, t32_24, t32_29, t32_30, t32_39, t32_40, t32_49, t32_50, t32_79, t32_99, t32_100, t32_119, t32_120, t32_159, t32_160, t32_249, t32_250, t32_400, t32_500, t32_800, t32_950, t32_1000, t32_1050, t32_2000, t32_2999, t32_3000, t32_8000, t32_10000, t32_30000, t32_500000, t32_m1, t32_m2, t32_m3, t32_m4, t32_m9, t32_m10, t32_m500, t32_m1000, t32_m10000, t32_m30000, t64_0, t64_1, t64_2, t64_3, t64_4, t64_5, t64_6, t64_7, t64_8, t64_9, t64_10, t64_11, t64_19, t64_20, t64_23, t64_24, t64_29, t64_30, t64_39, t64_40, t64_49, t64_50, t64_79, t64_99, t64_100, t64_119, t64_120, t64_159, t64_160, t64_249, t64_250, t64_400, t64_500, t64_800, t64_950, t64_1000, t64_1050, t64_2000, t64_2999, t64_3000, t64_8000, t64_10000, t64_30000, t64_500000, t64_m1, t64_m2, t64_m3, t64_m4, t64_m9, t64_m10, t64_m500, t64_m1000, t64_m10000, t64_m30000, e_c0]
          rw [if_pos trivial, if_neg (fun z => z h1.1), if_neg (fun z => z h1.2.1), if_neg (fun z => z h1.2.2), if_neg (fun z => z h2.1), if_neg (fun z => z ⟨by omega, h2.2.2⟩), if_pos (by rw [Int32.le_iff_toInt_le]; exact h2.2.1), if_neg (fun z => z (by rw [show n = 8 by omega]; rfl))]
        · rw [if_neg h3]
          obtain ⟨τ', y1, y2⟩ := chan_ok h0 p1 p2 p3 p4 p5 (by omega) hz h1.1 h1.2.1 h1.2.2 ⟨h2.1.1, h2.2.1, h2.2.2⟩
          exact ⟨τ', y1, ⟨_, _, _, _, _, _, _, y2⟩⟩
      · rw [if_pos h2]
        refine ⟨τ, ?_, ⟨t, a, st, lo, co, mk, ot, h0⟩⟩
        unfold X12_channel
        simp only [hz, mw, bindo_some, bz_eq0, Int32.toInt_toInt64, t32_0, t32_1, t32_2, t32_3, t32_4, t32_5, t32_6, t32_7, t32_8, t32_9, t32_10, t32_11, t32_19, t32_20, t32_23, t32_24, t32_29, t32_30, t32_39, t32_40, t32_49, t32_50, t32_79, t32_99, t32_100, t32_119, t32_120, t32_159, t32_160, t32_249, t32_250, t32_400, t32_500, t32_800, t32_950, t32_1000, t32_1050, t32_2000, t32_2999, t32_3000, t32_8000, t32_10000, t32_30000, t32_500000, t32_m1, t32_m2, t32_m3, t32_m4, t32_m9, t32_m10, t32_m500, t32_m1000, t32_m10000, t32_m30000, t64_0, t64_1, t64_2, t64_3, t64_4, t64_5, t64_6, t64_7, t64_8, t64_9, t64_10, t64_11, t64_19, t64_20, t64_23, t64_24, t64_29, t64_30, t64_39, t64_40, t64_49, t64_50, t64_79, t64_99, t64_100, t64_119, t64_120, t64_159, t64_160, t64_249, t64_250, t64_400, t64_500, t64_800, t64_950, t64_1000, t64_1050, t64_2000, t64_2999, t64_3000, t64_8000, t64_10000, t64_30000, t64_500000, t64_m1, t64_m2, t64_m3, t64_m4, t64_m9, t64_m10, t64_m500, t64_m1000, t64_m10000, t64_m30000]
        rw [if_pos trivial, if_neg (fun z => z h1.1), if_neg (fun z => z h1.2.1), if_neg (fun z => z h1.2.2)]
        by_cases g1 : -10000 ≤ p4.toInt ∧ p4.toInt ≤ 10000
        · rw [if_neg (fun z => z g1)]
          by_cases g2 : -10000 ≤ p5.toInt ∧ p5.toInt ≤ 10000
          · rw [if_neg (fun z => z g2), if_neg (fun z => h2 ⟨g1, by rw [Int32.le_iff_toInt_le] at z; exact z, g2.2⟩)]
          · rw [if_pos g2]
        · rw [if_pos g1]
    · rw [if_pos h1]
      refine ⟨τ, ?_, ⟨t, a, st, lo, co, mk, ot, h0⟩⟩
      unfold X12_channel
      simp only [hz, mw, bindo_some, bz_eq0, Int32.toInt_toInt64, t32_0, t32_1, t32_2, t32_3, t32_4, t32_5, t32_6, t32_7, t32_8, t32_9, t32_10, t32_11, t32_19, t32_20, t32_23, t32_24, t32_29, t32_30, t32_39, t32_40, t32_49, t32_50, t32_79, t32_99, t32_100, t32_119, t32_120, t32_159, t32_160, t32_249, t32_250, t32_400, t32_500, t32_800, t32_950, t32_1000, t32_1050, t32_2000, t32_2999, t32_3000, t32_8000, t32_10000, t32_30000, t32_500000, t32_m1, t32_m2, t32_m3, t32_m4, t32_m9, t32_m10, t32_m500, t32_m1000, t32_m10000, t32_m30000, t64_0, t64_1, t64_2, t64_3, t64_4, t64_5, t64_6, t64_7, t64_8, t64_9, t64_10, t64_11, t64_19, t64_20, t64_23, t64_24, t64_29, t64_30, t64_39, t64_40, t64_49, t64_50, t64_79, t64_99, t64_100, t64_119, t64_120, t64_159, t64_160, t64_249, t64_250, t64_400, t64_500, t64_800, t64_950, t64_1000, t64_1050, t64_2000, t64_2999, t64_3000, t64_8000, t64_10000, t64_30000, t64_500000, t64_m1, t64_m2, t64_m3, t64_m4, t64_m9, t64_m10, t64_m500, t64_m1000, t64_m10000, t64_m30000]
      rw [if_pos trivial]
      by_cases g1 : 0 ≤ p1.toInt ∧ p1.toInt ≤ 4
      · rw [if_neg (fun z => z g1)]
        by_cases g2 : 1 ≤ p2.toInt ∧ p2.toInt ≤ 20
        · rw [if_neg (fun z => z g2), if_pos (fun z => h1 ⟨g1, g2, z⟩)]
        · rw [if_pos g2]
      · rw [if_pos g1]
  · rw [if_pos hz]
    refine ⟨τ, ?_, ⟨t, a, st, lo, co, mk, ot, h0⟩⟩
    unfold X12_channel
    rw [if_neg hz]
