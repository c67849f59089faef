/-! correct -/
theorem nI_86 (a b : Nat) : (8 : Int32) * nI a + nI b = nI (8 * a + b) := by rw [show (8 : Int32) = nI 8 from rfl, pk_mul, nI_add]
theorem nI_68 (a b : Nat) : nI a * (8 : Int32) + nI b = nI (8 * a + b) := by rw [show (8 : Int32) = nI 8 from rfl, pk_mul, nI_add, Nat.mul_comm]
theorem aheadX {n p1 m : Nat} (hm : m < 20) (rec2 : (Mem × Int32) → Option (Mem)) : ∀ (q j f : Nat) (σ : Mem), j + q = 8 → q < f → (∀ i, i < j → σ.2 24 (8 * m + i) = σ.2 23 i) → ∃ σ' : Mem, loopF (fun (rec : (Mem × Int32 × Int32) → Option (Mem)) (s : Mem × Int32 × Int32) => X7_keepAhead_l27 n p1 rec2 rec s.1 s.2.1 s.2.2) f (σ, nI m, nI j) = rec2 (σ', nI (m + 1)) ∧ σ'.1 = σ.1 ∧ (∀ i, i < 8 * m → σ'.2 24 i = σ.2 24 i) ∧ ∀ i, i < 8 → σ'.2 24 (8 * m + i) = σ.2 23 i := by
  intro q
  induction q with
  | zero =>
    intro j f σ hi hf hz
    obtain ⟨f, rfl⟩ : ∃ g, f = g + 1 := ⟨f - 1, by omega⟩
    obtain rfl : j = 8 := by omega
    refine ⟨σ, ?_, rfl, fun _ _ => rfl, hz⟩
    show X7_keepAhead_l27 n p1 rec2 _ σ (nI m) (nI 8) = _
    rw [X7_keepAhead_l27, if_pos (by decide)]
    simp only [lete_eq, nI_1]
  | succ q ih =>
    intro j f σ hi hf hz
    obtain ⟨f, rfl⟩ : ∃ g, f = g + 1 := ⟨f - 1, by omega⟩
    obtain ⟨σ', y1, y2, y3, y4⟩ := ih (j + 1) f (wJ σ 24 (8 * m + j) (σ.2 23 j)) (by omega) (by omega) (fun i hi => by
      rw [wJ_o, wJ_ne _ _ _ (by decide)]
      by_cases e : i = j
      · rw [e, vLs]
      · rw [vLn (by omega)]
        exact hz i (by omega))
    refine ⟨σ', Eq.trans ?_ y1, y2, fun i hi => ?_, fun i hi => ?_⟩
    · show X7_keepAhead_l27 n p1 rec2 _ σ (nI m) (nI j) = _
      rw [X7_keepAhead_l27, if_neg (show ¬ (8 : Int32) ≤ nI j by rw [show (8 : Int32) = nI 8 from rfl]; exact nI_nl2 (by omega) (by omega)), nI_68, inb_nI (show j < 8 by omega) (by decide), inb_nI (show 8 * m + j < 160 by omega) (by decide), ix_nI (by omega), ix_nI (by omega)]
      simp only [chk_t, lete_eq, nI_1]
    · rw [y3 i hi, wJ_o, vLn (by omega)]
    · rw [y4 i hi, wJ_ne _ _ _ (by decide)]
theorem aheadM {m : Nat} {v1 v2 v3 v4 : Int32} (hm : m < 20) (rec2 : (Mem × Int32 × Int32 × Int32 × Int32 × Int32) → Option (Int32 × Mem)) : ∀ (q j f : Nat) (σ : Mem), j + q = 8 → q < f → (∀ i, i < j → σ.2 28 (8 * m + i) = σ.2 26 i) → ∃ σ' : Mem, loopF (fun (rec : (Mem × Int32 × Int32 × Int32 × Int32 × Int32 × Int32) → Option (Int32 × Mem)) (s : Mem × Int32 × Int32 × Int32 × Int32 × Int32 × Int32) => X12_correct_l86 rec2 rec s.1 s.2.1 s.2.2.1 s.2.2.2.1 s.2.2.2.2.1 s.2.2.2.2.2.1 s.2.2.2.2.2.2) f (σ, v1, v2, v3, v4, nI m, nI j) = rec2 (σ', v1, v2, v3, v4, nI (m + 1)) ∧ σ'.1 = σ.1 ∧ (∀ i, i < 8 * m → σ'.2 28 i = σ.2 28 i) ∧ ∀ i, i < 8 → σ'.2 28 (8 * m + i) = σ.2 26 i := by
  intro q
  induction q with
  | zero =>
    intro j f σ hi hf hz
    obtain ⟨f, rfl⟩ : ∃ g, f = g + 1 := ⟨f - 1, by omega⟩
    obtain rfl : j = 8 := by omega
    refine ⟨σ, ?_, rfl, fun _ _ => rfl, hz⟩
    show X12_correct_l86 rec2 _ σ v1 v2 v3 v4 (nI m) (nI 8) = _
    rw [X12_correct_l86, if_pos (by decide)]
    simp only [lete_eq, nI_1]
  | succ q ih =>
    intro j f σ hi hf hz
    obtain ⟨f, rfl⟩ : ∃ g, f = g + 1 := ⟨f - 1, by omega⟩
    obtain ⟨σ', y1, y2, y3, y4⟩ := ih (j + 1) f (wJ σ 28 (8 * m + j) (σ.2 26 j)) (by omega) (by omega) (fun i hi => by
      rw [wJ_o, wJ_ne _ _ _ (by decide)]
      by_cases e : i = j
      · rw [e, vLs]
      · rw [vLn (by omega)]
        exact hz i (by omega))
    refine ⟨σ', Eq.trans ?_ y1, y2, fun i hi => ?_, fun i hi => ?_⟩
    · show X12_correct_l86 rec2 _ σ v1 v2 v3 v4 (nI m) (nI j) = _
      rw [X12_correct_l86, if_neg (show ¬ (8 : Int32) ≤ nI j by rw [show (8 : Int32) = nI 8 from rfl]; exact nI_nl2 (by omega) (by omega)), nI_86, inb_nI (show j < 8 by omega) (by decide), inb_nI (show 8 * m + j < 160 by omega) (by decide), ix_nI (by omega), ix_nI (by omega)]
      simp only [chk_t, lete_eq, nI_1]
    · rw [y3 i hi, wJ_o, vLn (by omega)]
    · rw [y4 i hi, wJ_ne _ _ _ (by decide)]
theorem keep_loop {k : Nat} {v2 v3 v4 : Int32} (rec0 : (Mem × Int32 × Int32 × Int32 × Int32 × Int32) → Option (Int32 × Mem)) {n t a st lo co mk ot : Nat} (hk : k < n) : ∀ (q m f1 f2 : Nat) (σ τ : Mem), m + q = mk → q < f1 → q < f2 → RelC n t a st lo co mk ot σ τ → (∀ i, i < 8 * m → σ.2 24 i = τ.2 28 i) →
    ∃ σ' τ' : Mem, loopF (fun (rec : (Mem × Int32) → Option (Mem)) (s : Mem × Int32) => X7_keepAhead_l2 n (100 + k) rec s.1 s.2) f1 (σ, nI m) = some σ' ∧ loopF (fun (rec : (Mem × Int32 × Int32 × Int32 × Int32 × Int32) → Option (Int32 × Mem)) (s : Mem × Int32 × Int32 × Int32 × Int32 × Int32) => X12_correct_l67 rec s.1 s.2.1 s.2.2.1 s.2.2.2.1 s.2.2.2.2.1 s.2.2.2.2.2) f2 (τ, nI k, v2, v3, v4, nI m) = X12_correct_l67 rec0 τ' (nI k) v2 v3 v4 (nI mk) ∧ σ'.1 = σ.1 ∧ τ'.1 = τ.1 ∧ ∀ i, i < 8 * mk → σ'.2 24 i = τ'.2 28 i := by
  intro q
  induction q with
  | zero =>
    intro m f1 f2 σ τ hi hf1 hf2 h hz
    obtain ⟨f1, rfl⟩ : ∃ g, f1 = g + 1 := ⟨f1 - 1, by omega⟩
    obtain ⟨f2, rfl⟩ : ∃ g, f2 = g + 1 := ⟨f2 - 1, by omega⟩
    obtain rfl : m = mk := by omega
    obtain ⟨e_fa, e_tr, e_mp, e_lg, e_ro, e_ti, e_at_, e_ki, e_ac, e_pa, e_sc, e_ld, e_mc, e_mt, e_cc, e_lc, e_l1, e_l2, e_l3, e_kc, e_k1, e_k2, e_k3, e_k4, e_oc, e_oa, e_b1, e_b2, e_pr, e_sh0, e_sh1, e_sh2, e_sh3, e_ch, e_c0, e_d0, e_c1, e_d1, e_c2, e_d2, e_c3, e_d3, e_c4, e_d4, e_c5, e_d5, e_c6, e_d6, e_c7, e_d7, e_ps, e_oz, e_rm, e_lb, e_ab, e_ru, e_mb, e_wb, e_w0, e_w1, e_ws, e_wp, e_kb, e_tb, e_bb⟩ := h
    refine ⟨σ, τ, ?_, ?_, rfl, rfl, hz⟩
    · show X7_keepAhead_l2 n (100 + k) _ σ (nI m) = _
      rw [X7_keepAhead_l2, e_mc, e_c6, if_pos (nI_le (Nat.le_refl _) (by omega))]
    · show X12_correct_l67 _ τ (nI k) v2 v3 v4 (nI m) = _
      rw [X12_correct_l67, X12_correct_l67, e_c6, if_pos (nI_le (Nat.le_refl _) (by omega)), if_pos (nI_le (Nat.le_refl _) (by omega))]
  | succ q ih =>
    intro m f1 f2 σ τ hi hf1 hf2 h hz
    obtain ⟨f1, rfl⟩ : ∃ g, f1 = g + 1 := ⟨f1 - 1, by omega⟩
    obtain ⟨f2, rfl⟩ : ∃ g, f2 = g + 1 := ⟨f2 - 1, by omega⟩
    obtain ⟨σ1, τ1, x1, x2, x3, x4, x5, x6, x7⟩ := rep_ok h k m hk (by omega)
    have h1 := relC_1 h x3 x4
    obtain ⟨e_fa, e_tr, e_mp, e_lg, e_ro, e_ti, e_at_, e_ki, e_ac, e_pa, e_sc, e_ld, e_mc, e_mt, e_cc, e_lc, e_l1, e_l2, e_l3, e_kc, e_k1, e_k2, e_k3, e_k4, e_oc, e_oa, e_b1, e_b2, e_pr, e_sh0, e_sh1, e_sh2, e_sh3, e_ch, e_c0, e_d0, e_c1, e_d1, e_c2, e_d2, e_c3, e_d3, e_c4, e_d4, e_c5, e_d5, e_c6, e_d6, e_c7, e_d7, e_ps, e_oz, e_rm, e_lb, e_ab, e_ru, e_mb, e_wb, e_w0, e_w1, e_ws, e_wp, e_kb, e_tb, e_bb⟩ := h
    obtain ⟨σ2, y1, y2, y3, y4⟩ := aheadX (n := n) (p1 := 100 + k) (m := m) (by omega) (fun s => loopF (fun (rec : (Mem × Int32) → Option (Mem)) (s : Mem × Int32) => X7_keepAhead_l2 n (100 + k) rec s.1 s.2) f1 s) 8 0 FU σ1 (by omega) (by decide) (fun i hi => by omega)
    obtain ⟨τ2, z1, z2, z3, z4⟩ := aheadM (v1 := nI k) (v2 := v2) (v3 := v3) (v4 := v4) (m := m) (by omega) (fun s => loopF (fun (rec : (Mem × Int32 × Int32 × Int32 × Int32 × Int32) → Option (Int32 × Mem)) (s : Mem × Int32 × Int32 × Int32 × Int32 × Int32) => X12_correct_l67 rec s.1 s.2.1 s.2.2.1 s.2.2.2.1 s.2.2.2.2.1 s.2.2.2.2.2) f2 s) 8 0 FU τ1 (by omega) (by decide) (fun i hi => by omega)
    obtain ⟨σ3, τ3, w1, w2, w3, w4, w5⟩ := ih (m + 1) f1 f2 σ2 τ2 (by omega) (by omega) (by omega) (relC_1 h1 y2 z2) (fun i hi => by
      by_cases c : i < 8 * m
      · rw [y3 i c, z3 i c, x5, x6]
        exact hz i c
      · obtain ⟨j, hj, rfl⟩ : ∃ j, j < 8 ∧ i = 8 * m + j := ⟨i - 8 * m, by omega, by omega⟩
        rw [y4 j hj, z4 j hj]
        exact x7 j hj)
    refine ⟨σ3, τ3, Eq.trans ?_ w1, Eq.trans ?_ w2, w3.trans (y2.trans x3), w4.trans (z2.trans x4), w5⟩
    · show X7_keepAhead_l2 n (100 + k) _ σ (nI m) = _
      rw [X7_keepAhead_l2, e_mc, e_c6, if_neg (nI_nl2 (show m < mk by omega) (by omega)), if_neg (show ¬ (20 : Int32) ≤ nI m by rw [show (20 : Int32) = nI 20 from rfl]; exact nI_nl2 (by omega) (by omega)), x1]
      simp only [bindo_some]
      exact y1
    · show X12_correct_l67 _ τ (nI k) v2 v3 v4 (nI m) = _
      rw [X12_correct_l67, e_c6, if_neg (nI_nl2 (show m < mk by omega) (by omega)), x2]
      simp only [bindo_some]
      exact z1
theorem name_in {k m : Nat} (rec1 : (Mem × Int32) → Option (Mem)) (rec2 : (Mem × Int32 × Int32) → Option (Int32 × Mem)) {n t a st lo co mk : Nat} (hk : k < n) (hm : m < mk) : ∀ (q j f1 f2 ot : Nat) (σ τ : Mem), j + q = 8 → q < f1 → q < f2 → RelC n t a st lo co mk ot σ τ → ot ≤ 8 * m + j → (∀ i, i < 8 * mk → σ.2 24 i = τ.2 28 i) → (∀ i, i < 8 → σ.2 23 i = τ.2 26 i) →
    ∃ (σ' τ' : Mem) (ot' : Nat), loopF (fun (rec : (Mem × Int32 × Int32) → Option (Mem)) (s : Mem × Int32 × Int32) => X7_nameOthers_l32 n (100 + k) rec1 rec s.1 s.2.1 s.2.2) f1 (σ, nI m, nI j) = rec1 (σ', nI (m + 1)) ∧ loopF (fun (rec : (Mem × Int32 × Int32 × Int32) → Option (Int32 × Mem)) (s : Mem × Int32 × Int32 × Int32) => X12_correct_l203 rec2 rec s.1 s.2.1 s.2.2.1 s.2.2.2) f2 (τ, nI k, nI m, nI j) = rec2 (τ', nI k, nI (m + 1)) ∧ RelC n t a st lo co mk ot' σ' τ' ∧ ot' ≤ 8 * (m + 1) ∧ σ'.2 = σ.2 ∧ τ'.2 = τ.2 := by
  intro q
  induction q with
  | zero =>
    intro j f1 f2 ot σ τ hi hf1 hf2 h ho ha hr
    obtain ⟨f1, rfl⟩ : ∃ g, f1 = g + 1 := ⟨f1 - 1, by omega⟩
    obtain ⟨f2, rfl⟩ : ∃ g, f2 = g + 1 := ⟨f2 - 1, by omega⟩
    obtain rfl : j = 8 := by omega
    refine ⟨σ, τ, ot, ?_, ?_, h, by omega, rfl, rfl⟩
    · show X7_nameOthers_l32 n (100 + k) rec1 _ σ (nI m) (nI 8) = _
      rw [X7_nameOthers_l32, if_pos (by decide)]
      simp only [lete_eq, nI_1]
    · show X12_correct_l203 rec2 _ τ (nI k) (nI m) (nI 8) = _
      rw [X12_correct_l203, if_pos (by decide)]
      simp only [lete_eq, nI_1]
  | succ q ih =>
    intro j f1 f2 ot σ τ hi hf1 hf2 h ho ha hr
    obtain ⟨f1, rfl⟩ : ∃ g, f1 = g + 1 := ⟨f1 - 1, by omega⟩
    obtain ⟨f2, rfl⟩ : ∃ g, f2 = g + 1 := ⟨f2 - 1, by omega⟩
    have h0 := h
    obtain ⟨e_fa, e_tr, e_mp, e_lg, e_ro, e_ti, e_at_, e_ki, e_ac, e_pa, e_sc, e_ld, e_mc, e_mt, e_cc, e_lc, e_l1, e_l2, e_l3, e_kc, e_k1, e_k2, e_k3, e_k4, e_oc, e_oa, e_b1, e_b2, e_pr, e_sh0, e_sh1, e_sh2, e_sh3, e_ch, e_c0, e_d0, e_c1, e_d1, e_c2, e_d2, e_c3, e_d3, e_c4, e_d4, e_c5, e_d5, e_c6, e_d6, e_c7, e_d7, e_ps, e_oz, e_rm, e_lb, e_ab, e_ru, e_mb, e_wb, e_w0, e_w1, e_ws, e_wp, e_kb, e_tb, e_bb⟩ := h
    have hX : loopF (fun (rec : (Mem × Int32 × Int32) → Option (Mem)) (s : Mem × Int32 × Int32) => X7_nameOthers_l32 n (100 + k) rec1 rec s.1 s.2.1 s.2.2) (f1 + 1) (σ, nI m, nI j) = X7_nameOthers_l32 n (100 + k) rec1 (fun s => loopF (fun (rec : (Mem × Int32 × Int32) → Option (Mem)) (s : Mem × Int32 × Int32) => X7_nameOthers_l32 n (100 + k) rec1 rec s.1 s.2.1 s.2.2) f1 s) σ (nI m) (nI j) := rfl
    have hM : loopF (fun (rec : (Mem × Int32 × Int32 × Int32) → Option (Int32 × Mem)) (s : Mem × Int32 × Int32 × Int32) => X12_correct_l203 rec2 rec s.1 s.2.1 s.2.2.1 s.2.2.2) (f2 + 1) (τ, nI k, nI m, nI j) = X12_correct_l203 rec2 (fun s => loopF (fun (rec : (Mem × Int32 × Int32 × Int32) → Option (Int32 × Mem)) (s : Mem × Int32 × Int32 × Int32) => X12_correct_l203 rec2 rec s.1 s.2.1 s.2.2.1 s.2.2.2) f2 s) τ (nI k) (nI m) (nI j) := rfl
    rw [hX, hM, X7_nameOthers_l32, X12_correct_l203, if_neg (show ¬ (8 : Int32) ≤ nI j by rw [show (8 : Int32) = nI 8 from rfl]; exact nI_nl2 (by omega) (by omega)), if_neg (show ¬ (8 : Int32) ≤ nI j by rw [show (8 : Int32) = nI 8 from rfl]; exact nI_nl2 (by omega) (by omega)), nI_68, nI_86, inb_nI (show j < 8 by omega) (by decide), inb_nI (show 8 * m + j < 160 by omega) (by decide), ix_nI (show j < 2 ^ 31 by omega), ix_nI (show 8 * m + j < 2 ^ 31 by omega)]
    simp only [chk_t]
    rw [ha (8 * m + j) (by omega), hr j (by omega)]
    by_cases c : τ.2 28 (8 * m + j) = τ.2 26 j
    · rw [if_pos ((lg_cmp_eq _ _).mpr c.symm), if_pos ((lg_cmp_eq _ _).mpr c)]
      unfold X7_nameOthers_b77 X12_correct_b266
      simp only [lete_eq, nI_1]
      exact ih (j + 1) f1 f2 ot σ τ (by omega) (by omega) (by omega) h0 (by omega) ha hr
    · rw [if_neg (fun z => c ((lg_cmp_eq _ _).mp z).symm), if_neg (fun z => c ((lg_cmp_eq _ _).mp z))]
      obtain ⟨q0, -⟩ := e_ch k hk
      have hot : ot < 160 := by omega
      unfold X7_name
      have e5 : ∀ x y, (wI τ 27 x y).1 0 44 = nI ot := fun x y => e_c7
      have e6 : ∀ x y, (wI σ 25 x y).1 22 6 = nI ot := fun x y => e_oc.trans e_c7
      rw [e_oc, e_c7, xw, nI_toInt (by omega), inb_nI hot (by decide), ix_nI (by omega), q0]
      simp only [bindo_some, bz_eq0, t32_0, t32_159, chk_t, lete_eq, e5, e6, nI_1]
      rw [if_neg (by omega)]
      simp only [bindo_some]
      unfold X7_nameOthers_b77 X12_correct_b266
      simp only [lete_eq, nI_1]
      exact ih (j + 1) f1 f2 (ot + 1) _ _ (by omega) (by omega) (by omega) (⟨e_fa, e_tr, e_mp, e_lg, e_ro, e_ti, e_at_, e_ki, e_ac, e_pa, e_sc, e_ld, e_mc, e_mt, e_cc, e_lc, e_l1, e_l2, e_l3, e_kc, e_k1, e_k2, e_k3, e_k4, rfl, by show upd (σ.1 25) ot _ = upd (τ.1 27) ot _; rw [e_oa], e_b1, e_b2, e_pr, e_sh0, e_sh1, e_sh2, e_sh3, by first | exact e_ch | (intro k hk; simp (disch := omega) only [wI_hi, wJ_1]; exact e_ch k hk), e_c0, e_d0, e_c1, e_d1, e_c2, e_d2, e_c3, e_d3, e_c4, e_d4, e_c5, e_d5, e_c6, e_d6, rfl, hot, e_ps, e_oz, e_rm, e_lb, e_ab, e_ru, e_mb, e_wb, e_w0, e_w1, e_ws, e_wp, e_kb, e_tb, e_bb⟩) (by omega) ha hr
theorem name_loop {k : Nat} {n t a st lo co mk : Nat} (hk : k < n) : ∀ (q m f1 f2 ot : Nat) (σ τ : Mem), m + q = mk → q < f1 → q < f2 → RelC n t a st lo co mk ot σ τ → ot ≤ 8 * m → (∀ i, i < 8 * mk → σ.2 24 i = τ.2 28 i) →
    ∃ (σ' τ' : Mem) (ot' : Nat), loopF (fun (rec : (Mem × Int32) → Option (Mem)) (s : Mem × Int32) => X7_nameOthers_l7 n (100 + k) rec s.1 s.2) f1 (σ, nI m) = some σ' ∧ loopF (fun (rec : (Mem × Int32 × Int32) → Option (Int32 × Mem)) (s : Mem × Int32 × Int32) => X12_correct_l184 rec s.1 s.2.1 s.2.2) f2 (τ, nI k, nI m) = some (τ'.1 0 44, τ') ∧ RelC n t a st lo co mk ot' σ' τ' := by
  intro q
  induction q with
  | zero =>
    intro m f1 f2 ot σ τ hi hf1 hf2 h ho ha
    obtain ⟨f1, rfl⟩ : ∃ g, f1 = g + 1 := ⟨f1 - 1, by omega⟩
    obtain ⟨f2, rfl⟩ : ∃ g, f2 = g + 1 := ⟨f2 - 1, by omega⟩
    obtain rfl : m = mk := by omega
    refine ⟨σ, τ, ot, ?_, ?_, h⟩
    · obtain ⟨e_fa, e_tr, e_mp, e_lg, e_ro, e_ti, e_at_, e_ki, e_ac, e_pa, e_sc, e_ld, e_mc, e_mt, e_cc, e_lc, e_l1, e_l2, e_l3, e_kc, e_k1, e_k2, e_k3, e_k4, e_oc, e_oa, e_b1, e_b2, e_pr, e_sh0, e_sh1, e_sh2, e_sh3, e_ch, e_c0, e_d0, e_c1, e_d1, e_c2, e_d2, e_c3, e_d3, e_c4, e_d4, e_c5, e_d5, e_c6, e_d6, e_c7, e_d7, e_ps, e_oz, e_rm, e_lb, e_ab, e_ru, e_mb, e_wb, e_w0, e_w1, e_ws, e_wp, e_kb, e_tb, e_bb⟩ := h
      show X7_nameOthers_l7 n (100 + k) _ σ (nI m) = _
      rw [X7_nameOthers_l7, e_mc, e_c6, if_pos (nI_le (Nat.le_refl _) (by omega))]
    · obtain ⟨e_fa, e_tr, e_mp, e_lg, e_ro, e_ti, e_at_, e_ki, e_ac, e_pa, e_sc, e_ld, e_mc, e_mt, e_cc, e_lc, e_l1, e_l2, e_l3, e_kc, e_k1, e_k2, e_k3, e_k4, e_oc, e_oa, e_b1, e_b2, e_pr, e_sh0, e_sh1, e_sh2, e_sh3, e_ch, e_c0, e_d0, e_c1, e_d1, e_c2, e_d2, e_c3, e_d3, e_c4, e_d4, e_c5, e_d5, e_c6, e_d6, e_c7, e_d7, e_ps, e_oz, e_rm, e_lb, e_ab, e_ru, e_mb, e_wb, e_w0, e_w1, e_ws, e_wp, e_kb, e_tb, e_bb⟩ := h
      show X12_correct_l184 _ τ (nI k) (nI m) = _
      rw [X12_correct_l184, e_c6, if_pos (nI_le (Nat.le_refl _) (by omega))]
  | succ q ih =>
    intro m f1 f2 ot σ τ hi hf1 hf2 h ho ha
    obtain ⟨f1, rfl⟩ : ∃ g, f1 = g + 1 := ⟨f1 - 1, by omega⟩
    obtain ⟨f2, rfl⟩ : ∃ g, f2 = g + 1 := ⟨f2 - 1, by omega⟩
    obtain ⟨σ1, τ1, x1, x2, x3, x4, x5, x6, x7⟩ := rep_ok h k m hk (by omega)
    have h1 := relC_1 h x3 x4
    obtain ⟨e_fa, e_tr, e_mp, e_lg, e_ro, e_ti, e_at_, e_ki, e_ac, e_pa, e_sc, e_ld, e_mc, e_mt, e_cc, e_lc, e_l1, e_l2, e_l3, e_kc, e_k1, e_k2, e_k3, e_k4, e_oc, e_oa, e_b1, e_b2, e_pr, e_sh0, e_sh1, e_sh2, e_sh3, e_ch, e_c0, e_d0, e_c1, e_d1, e_c2, e_d2, e_c3, e_d3, e_c4, e_d4, e_c5, e_d5, e_c6, e_d6, e_c7, e_d7, e_ps, e_oz, e_rm, e_lb, e_ab, e_ru, e_mb, e_wb, e_w0, e_w1, e_ws, e_wp, e_kb, e_tb, e_bb⟩ := h
    obtain ⟨σ2, τ2, ot2, y1, y2, y3, y4, y5, y6⟩ := name_in (k := k) (m := m) (fun s => loopF (fun (rec : (Mem × Int32) → Option (Mem)) (s : Mem × Int32) => X7_nameOthers_l7 n (100 + k) rec s.1 s.2) f1 s) (fun s => loopF (fun (rec : (Mem × Int32 × Int32) → Option (Int32 × Mem)) (s : Mem × Int32 × Int32) => X12_correct_l184 rec s.1 s.2.1 s.2.2) f2 s) hk (by omega) 8 0 FU FU ot σ1 τ1 (by omega) (by decide) (by decide) h1 (by omega) (fun i hi => by rw [x5, x6]; exact ha i hi) x7
    obtain ⟨σ3, τ3, ot3, z1, z2, z3⟩ := ih (m + 1) f1 f2 ot2 σ2 τ2 (by omega) (by omega) (by omega) y3 y4 (fun i hi => by rw [y5, y6, x5, x6]; exact ha i hi)
    refine ⟨σ3, τ3, ot3, Eq.trans ?_ z1, Eq.trans ?_ z2, z3⟩
    · show X7_nameOthers_l7 n (100 + k) _ σ (nI m) = _
      rw [X7_nameOthers_l7, e_mc, e_c6, if_neg (nI_nl2 (show m < mk by omega) (by omega)), if_neg (show ¬ (20 : Int32) ≤ nI m by rw [show (20 : Int32) = nI 20 from rfl]; exact nI_nl2 (by omega) (by omega)), x1]
      simp only [bindo_some]
      exact y1
    · show X12_correct_l184 _ τ (nI k) (nI m) = _
      rw [X12_correct_l184, e_c6, if_neg (nI_nl2 (show m < mk by omega) (by omega)), x2]
      simp only [bindo_some]
      exact y2
theorem corr_tail {n t a st lo co mk ot : Nat} {σ τ : Mem} (h : RelC n t a st lo co mk ot σ τ) (u v w : Int32) {k : Nat} (hk : k < n) (hs : co < 20) (hv : 1 ≤ v.toInt ∧ v.toInt ≤ 2000) (hw : -1000 ≤ w.toInt ∧ w.toInt ≤ 1000) (ha : ∀ i, i < 8 * mk → σ.2 24 i = τ.2 28 i) : Sim (RelE n) (bindo (X10_add n 13 σ (nI k) u v w) (fun σ14 => bindo (X7_nameOthers n σ14 (100 + k)) (fun σ16 => some ((σ16.1 22 6), σ16)))) (X12_correct_l67 (fun _ => none) τ (nI k) u v w (nI mk)) := by
  obtain ⟨e_fa, e_tr, e_mp, e_lg, e_ro, e_ti, e_at_, e_ki, e_ac, e_pa, e_sc, e_ld, e_mc, e_mt, e_cc, e_lc, e_l1, e_l2, e_l3, e_kc, e_k1, e_k2, e_k3, e_k4, e_oc, e_oa, e_b1, e_b2, e_pr, e_sh0, e_sh1, e_sh2, e_sh3, e_ch, e_c0, e_d0, e_c1, e_d1, e_c2, e_d2, e_c3, e_d3, e_c4, e_d4, e_c5, e_d5, e_c6, e_d6, e_c7, e_d7, e_ps, e_oz, e_rm, e_lb, e_ab, e_ru, e_mb, e_wb, e_w0, e_w1, e_ws, e_wp, e_kb, e_tb, e_bb⟩ := h
  have hc : ∀ σ' : Mem, σ'.1 0 38 = nI co → inb (σ'.1 0 38) 20 = true ∧ ix (σ'.1 0 38) = co := fun σ' e => by
    rw [e]
    exact ⟨inb_nI hs (by decide), ix_nI (by omega)⟩
  have e1 : (wI τ 22 co (nI k)).1 0 38 = nI co := e_c5
  have e2 : (wI (wI τ 22 co (nI k)) 23 co u).1 0 38 = nI co := e_c5
  have e3 : (wI (wI (wI τ 22 co (nI k)) 23 co u) 24 co v).1 0 38 = nI co := e_c5
  have e4 : (wI (wI (wI (wI τ 22 co (nI k)) 23 co u) 24 co v) 25 co w).1 0 38 = nI co := e_c5
  rw [ev_addT13 (e_kc.trans e_c5) hs, X12_correct_l67, e_c6, if_pos (nI_le (Nat.le_refl _) (by omega)), e_c5]
  simp only [ix_nI (show co < 2 ^ 31 by omega), inb_nI hs (by decide), chk_t, lete_eq, bindo_some, e1, e2, e3, e4, nI_1]
  unfold X7_nameOthers
  simp only [lete_eq]
  obtain ⟨σ2, τ2, ot2, y1, y2, y3⟩ := name_loop (t := t) (a := a) (st := st) (lo := lo) (co := co + 1) hk mk 0 FU FU 0 (wI (wI (wI (wI (wI (wI σ 14 co (nI k)) 15 co u) 16 co v) 17 co w) 13 4 (nI (co + 1))) 22 6 0) (wI (wI (wI (wI (wI (wI τ 22 co (nI k)) 23 co u) 24 co v) 25 co w) 0 38 (nI (co + 1))) 0 44 0) (by omega) (show mk < FU by unfold FU; omega) (show mk < FU by unfold FU; omega) (⟨e_fa, e_tr, e_mp, e_lg, e_ro, e_ti, e_at_, e_ki, e_ac, e_pa, e_sc, e_ld, e_mc, e_mt, e_cc, e_lc, e_l1, e_l2, e_l3, rfl, by show upd (σ.1 14) co _ = upd (τ.1 22) co _; rw [e_k1], by show upd (σ.1 15) co _ = upd (τ.1 23) co _; rw [e_k2], by show upd (σ.1 16) co _ = upd (τ.1 24) co _; rw [e_k3], by show upd (σ.1 17) co _ = upd (τ.1 25) co _; rw [e_k4], rfl, e_oa, e_b1, e_b2, e_pr, e_sh0, e_sh1, e_sh2, e_sh3, by first | exact e_ch | (intro k hk; simp (disch := omega) only [wI_hi, wJ_1]; exact e_ch k hk), e_c0, e_d0, e_c1, e_d1, e_c2, e_d2, e_c3, e_d3, e_c4, e_d4, rfl, hs, e_c6, e_d6, rfl, Nat.zero_le _, e_ps, e_oz, e_rm, e_lb, e_ab, e_ru, e_mb, e_wb, e_w0, e_w1, e_ws, e_wp, by
      intro i hi
      show (1 ≤ (upd (τ.1 24) co v i).toInt ∧ (upd (τ.1 24) co v i).toInt ≤ 2000 ∧ -1000 ≤ (upd (τ.1 25) co w i).toInt ∧ (upd (τ.1 25) co w i).toInt ≤ 1000)
      by_cases c : i = co
      · rw [c, pk_us, pk_us]
        exact ⟨hv.1, hv.2, hw.1, hw.2⟩
      · rw [pk_un c, pk_un c]
        exact e_kb i (by omega), e_tb, e_bb⟩) (by omega) ha
  have y1 : loopF (fun (rec : (Mem × Int32) → Option (Mem)) (s : Mem × Int32) => X7_nameOthers_l7 n (100 + k) rec s.1 s.2) FU (wI (wI (wI (wI (wI (wI σ 14 co (nI k)) 15 co u) 16 co v) 17 co w) 13 4 (nI (co + 1))) 22 6 0, 0) = some σ2 := y1
  have y2 : loopF (fun (rec : (Mem × Int32 × Int32) → Option (Int32 × Mem)) (s : Mem × Int32 × Int32) => X12_correct_l184 rec s.1 s.2.1 s.2.2) FU (wI (wI (wI (wI (wI (wI τ 22 co (nI k)) 23 co u) 24 co v) 25 co w) 0 38 (nI (co + 1))) 0 44 0, nI k, 0) = some (τ2.1 0 44, τ2) := y2
  rw [y1, y2]
  simp only [bindo_some]
  refine sim_ret' ?_ ⟨_, _, _, _, _, _, _, y3⟩
  obtain ⟨e_fa, e_tr, e_mp, e_lg, e_ro, e_ti, e_at_, e_ki, e_ac, e_pa, e_sc, e_ld, e_mc, e_mt, e_cc, e_lc, e_l1, e_l2, e_l3, e_kc, e_k1, e_k2, e_k3, e_k4, e_oc, e_oa, e_b1, e_b2, e_pr, e_sh0, e_sh1, e_sh2, e_sh3, e_ch, e_c0, e_d0, e_c1, e_d1, e_c2, e_d2, e_c3, e_d3, e_c4, e_d4, e_c5, e_d5, e_c6, e_d6, e_c7, e_d7, e_ps, e_oz, e_rm, e_lb, e_ab, e_ru, e_mb, e_wb, e_w0, e_w1, e_ws, e_wp, e_kb, e_tb, e_bb⟩ := y3
  exact e_oc
theorem f_correct {n t a st lo co mk ot : Nat} {σ τ : Mem} (h : RelC n t a st lo co mk ot σ τ) (p u v w : Int32) : Sim (RelE n) (X11_correct n σ p u v w) (X12_correct τ p u v w) := by
  have h0 := h
  obtain ⟨e_fa, e_tr, e_mp, e_lg, e_ro, e_ti, e_at_, e_ki, e_ac, e_pa, e_sc, e_ld, e_mc, e_mt, e_cc, e_lc, e_l1, e_l2, e_l3, e_kc, e_k1, e_k2, e_k3, e_k4, e_oc, e_oa, e_b1, e_b2, e_pr, e_sh0, e_sh1, e_sh2, e_sh3, e_ch, e_c0, e_d0, e_c1, e_d1, e_c2, e_d2, e_c3, e_d3, e_c4, e_d4, e_c5, e_d5, e_c6, e_d6, e_c7, e_d7, e_ps, e_oz, e_rm, e_lb, e_ab, e_ru, e_mb, e_wb, e_w0, e_w1, e_ws, e_wp, e_kb, e_tb, e_bb⟩ := h
  unfold X11_correct X12_correct
  simp only [ev_find (e_cc.trans e_c0) e_d0, ev_isChannel e_c0 e_d0, bindo_some, bz_eq0, Decidable.not_not, xw, mw, Int32.toInt_toInt64, t32_0, t32_1, t32_2, t32_3, t32_4, t32_5, t32_6, t32_7, t32_8, t32_9, t32_10, t32_11, t32_19, t32_20, t32_23, t32_24, t32_29, t32_30, t32_39, t32_40, t32_49, t32_50, t32_79, t32_99, t32_100, t32_119, t32_120, t32_159, t32_160, t32_249, t32_250, t32_400, t32_500, t32_800, t32_950, t32_1000, t32_1050, t32_2000, t32_2999, t32_3000, t32_8000, t32_10000, t32_30000, t32_500000, t32_m1, t32_m2, t32_m3, t32_m4, t32_m9, t32_m10, t32_m500, t32_m1000, t32_m10000, t32_m30000, t64_0, t64_1, t64_2, t64_3, t64_4, t64_5, t64_6, t64_7, t64_8, t64_9, t64_10, t64_11, t64_19, t64_20, t64_23, t64_24, t64_29, t64_30, t64_39, t64_40, t64_49, t64_50, t64_79, t64_99, t64_100, t64_119, t64_120, t64_159, t64_160, t64_249, t64_250, t64_400, t64_500, t64_800, t64_950, t64_1000, t64_1050, t64_2000, t64_2999, t64_3000, t64_8000, t64_10000, t64_30000, t64_500000, t64_m1, t64_m2, t64_m3, t64_m4, t64_m9, t64_m10, t64_m500, t64_m1000, t64_m10000, t64_m30000, lete_eq]
  by_cases h1 : 0 ≤ p.toInt ∧ p.toInt < n
  · rw [if_pos h1, if_pos h1]
    obtain ⟨k, hj, rfl⟩ := nat_of 8 h1.1 (by omega) (by decide)
    rw [nI_toInt (by omega)] at h1 ⊢
    have hk : k < n := by omega
    simp only [Int.toNat_natCast, caseo]
    rw [isCh_of hk, chk_t]
    refine sim_ite Iff.rfl (fun _ => sim_ret ⟨_, _, _, _, _, _, _, h0⟩) (fun h2 => ?_)
    refine sim_ite Iff.rfl (fun _ => sim_ret ⟨_, _, _, _, _, _, _, h0⟩) (fun h3 => ?_)
    refine sim_ite Iff.rfl (fun h4 => ?_) (fun _ => sim_ret ⟨_, _, _, _, _, _, _, h0⟩)
    refine sim_ite (by rw [e_kc, e_c5, show (20 : Int32) = nI 20 from rfl, nI_ltI (by omega) (by decide), nI_eq (by omega) (by decide)]; omega) (fun h5 => ?_) (fun _ => sim_ret ⟨_, _, _, _, _, _, _, h0⟩)
    have hs : co < 20 := by rw [e_kc, e_c5, show (20 : Int32) = nI 20 from rfl, nI_ltI (by omega) (by decide)] at h5; exact h5
    obtain ⟨σ1, τ1, x1, x2, x3, x4, x5⟩ := keep_loop (v2 := u) (v3 := v) (v4 := w) (fun _ => none) hk mk 0 FU FU σ τ (by omega) (show mk < FU by unfold FU; omega) (show mk < FU by unfold FU; omega) h0 (fun i hi => by omega)
    have x1 : X7_keepAhead n σ (100 + k) = some σ1 := x1
    have h1r := relC_1 h0 x3 x4
    have x2 : loopF (fun (rec : (Mem × Int32 × Int32 × Int32 × Int32 × Int32) → Option (Int32 × Mem)) (s : Mem × Int32 × Int32 × Int32 × Int32 × Int32) => X12_correct_l67 rec s.1 s.2.1 s.2.2.1 s.2.2.2.1 s.2.2.2.2.1 s.2.2.2.2.2) FU (τ, nI k, u, v, w, 0) = _ := x2
    rw [x1, x2]
    simp only [bindo_some]
    exact corr_tail h1r u v w hk hs (by omega) (by omega) x5
  · rw [if_neg h1, if_neg h1]
    exact sim_ret ⟨_, _, _, _, _, _, _, h0⟩
