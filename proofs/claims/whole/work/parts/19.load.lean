/-! load: steps out of a sheet -/
theorem nI_q4 (q i : Nat) : nI q + (4 : Int32) * nI i = nI (q + 4 * i) := by rw [show (4 : Int32) = nI 4 from rfl, pk_mul, nI_add]
theorem nI_p0 (q : Nat) : nI q + (0 : Int32) = nI q := nI_add q 0
theorem nI_p2 (q : Nat) : nI q + (2 : Int32) = nI (q + 2) := nI_add q 2
theorem nI_p3 (q : Nat) : nI q + (3 : Int32) = nI (q + 3) := nI_add q 3
theorem ev_fitAll {n o st q w j : Nat} {σ τ : Mem} {TAIL : Option (Int32 × Mem)} (e : σ.1 4 1 = nI st) (em : τ.1 0 13 = nI st) (hst : st ≤ 30) (hq : q + 4 * w ≤ 40) (hj : j < 4) (hc : ∀ x, x < 40 → σ.1 (o + 1) x = τ.1 10 (40 * j + x)) (hT : (if ((τ.1 0 13) + nI w) ≤ (30 : Int32) then (loopF (fun (rec : (Mem × Int32 × Int32 × Int32 × Int32) → Option (Int32 × Mem)) (s : Mem × Int32 × Int32 × Int32 × Int32) => X12_load_l236 rec s.1 s.2.1 s.2.2.1 s.2.2.2.1 s.2.2.2.2) FU (τ, nI j, nI q, nI w, (0 : Int32))) else (some ((-4 : Int32), τ))) = TAIL) :
    ∀ (k i f : Nat), i + k = w → k < f → ∃ r, loopF (fun (rec : (Int32 × Int32 × Int32) → Option (Int32)) (s : Int32 × Int32 × Int32) => X6_fitAll_l3 n o rec σ s.1 s.2.1 s.2.2) f (nI q, nI w, nI i) = some r ∧ loopF (fun (rec : (Mem × Int32 × Int32 × Int32 × Int32) → Option (Int32 × Mem)) (s : Mem × Int32 × Int32 × Int32 × Int32) => X12_load_l142 rec s.1 s.2.1 s.2.2.1 s.2.2.2.1 s.2.2.2.2) f (τ, nI j, nI q, nI w, nI i) = (if r = 0 then some ((-2 : Int32), τ) else TAIL) ∧ (¬ r = 0 → ∀ s, i ≤ s → s < w → OkStep (st + s) (τ.1 10 (40 * j + (q + 4 * s))) (τ.1 10 (40 * j + (q + 4 * s + 1))) (τ.1 10 (40 * j + (q + 4 * s + 2))) (τ.1 10 (40 * j + (q + 4 * s + 3)))) := by
  intro k
  induction k with
  | zero =>
    intro i f hi hf
    obtain ⟨f, rfl⟩ : ∃ g, f = g + 1 := ⟨f - 1, by omega⟩
    have hi : i = w := by omega
    subst hi
    refine ⟨1, ?_, ?_, fun _ s h1 h2 => absurd h2 (by omega)⟩
    · show X6_fitAll_l3 n o _ σ (nI q) (nI i) (nI i) = _
      rw [X6_fitAll_l3, if_pos (nI_le (Nat.le_refl i) (by omega))]
    · show X12_load_l142 _ τ (nI j) (nI q) (nI i) (nI i) = _
      rw [X12_load_l142, if_pos (nI_le (Nat.le_refl i) (by omega)), hT, if_neg (by decide)]
  | succ k ih =>
    intro i f hi hf
    obtain ⟨f, rfl⟩ : ∃ g, f = g + 1 := ⟨f - 1, by omega⟩
    obtain ⟨r2, g1, g2, g3⟩ := ih (i + 1) f (by omega) (by omega)
    obtain ⟨r, hr, hok⟩ := fits_ok (s := st + i) (by omega) (τ.1 10 (40 * j + (q + 4 * i))) (τ.1 10 (40 * j + (q + 4 * i + 1))) (τ.1 10 (40 * j + (q + 4 * i + 2))) (τ.1 10 (40 * j + (q + 4 * i + 3)))
    have hX : loopF (fun (rec : (Int32 × Int32 × Int32) → Option (Int32)) (s : Int32 × Int32 × Int32) => X6_fitAll_l3 n o rec σ s.1 s.2.1 s.2.2) (f + 1) (nI q, nI w, nI i) = if ¬ r = 0 then some r2 else some 0 := by
      show X6_fitAll_l3 n o _ σ (nI q) (nI w) (nI i) = _
      rw [X6_fitAll_l3, if_neg (nI_ge (by omega) (by omega))]
      simp only [lete_eq, nI_q4, nI_p0, nI_1, nI_p2, nI_p3]
      rw [ev_scell (q := q + 4 * i) rfl (by omega), ev_scell (q := q + 4 * i + 1) rfl (by omega), ev_scell (q := q + 4 * i + 2) rfl (by omega), ev_scell (q := q + 4 * i + 3) rfl (by omega)]
      simp only [bindo_some]
      rw [hc _ (by omega), hc _ (by omega), hc _ (by omega), hc _ (by omega), e, nI_add, hr]
      simp only [bindo_some]
      rw [g1]
    have hM : loopF (fun (rec : (Mem × Int32 × Int32 × Int32 × Int32) → Option (Int32 × Mem)) (s : Mem × Int32 × Int32 × Int32 × Int32) => X12_load_l142 rec s.1 s.2.1 s.2.2.1 s.2.2.2.1 s.2.2.2.2) (f + 1) (τ, nI j, nI q, nI w, nI i) = if ¬ r = 0 then (if r2 = 0 then some ((-2 : Int32), τ) else TAIL) else some ((-2 : Int32), τ) := by
      show X12_load_l142 _ τ (nI j) (nI q) (nI w) (nI i) = _
      rw [X12_load_l142, if_neg (nI_ge (by omega) (by omega))]
      rw [show (((40 : Int32) * nI j) + nI q) + (4 : Int32) * nI i = nI (40 * j + (q + 4 * i)) by rw [nI40, nI_q4, Nat.add_assoc]]
      simp only [lete_eq, nI_1, nI_p2, nI_p3]
      rw [inb_nI (show 40 * j + (q + 4 * i) < 160 by omega) (by decide), inb_nI (show 40 * j + (q + 4 * i) + 1 < 160 by omega) (by decide), inb_nI (show 40 * j + (q + 4 * i) + 2 < 160 by omega) (by decide), inb_nI (show 40 * j + (q + 4 * i) + 3 < 160 by omega) (by decide)]
      simp only [chk_t]
      rw [ix_nI (by omega), ix_nI (by omega), ix_nI (by omega), ix_nI (by omega), em, nI_add, fits_eq]
      rw [show 40 * j + (q + 4 * i) + 1 = 40 * j + (q + 4 * i + 1) by omega, show 40 * j + (q + 4 * i) + 2 = 40 * j + (q + 4 * i + 2) by omega, show 40 * j + (q + 4 * i) + 3 = 40 * j + (q + 4 * i + 3) by omega, hr]
      simp only [bindo_some]
      rw [g2]
    by_cases hr0 : r = 0
    · refine ⟨0, ?_, ?_, fun z => absurd rfl z⟩
      · rw [hX, if_neg (fun z => z hr0)]
      · rw [hM, if_neg (fun z => z hr0), if_pos rfl]
    · refine ⟨r2, ?_, ?_, fun z s h1 h2 => ?_⟩
      · rw [hX, if_pos hr0]
      · rw [hM, if_pos hr0]
      · by_cases hs : s = i
        · subst hs
          exact hok hr0
        · exact g3 z s (by omega) h2
theorem ev_addAll {n t a st lo co mk ot o q w j : Nat} {C : Nat → Int32} (ho : 29 ≤ o) (ho2 : o < 99) (hq : q + 4 * w ≤ 40) (hj : j < 4) (hw : st + w ≤ 30) (hok : ∀ s, s < w → OkStep (st + s) (C (40 * j + (q + 4 * s))) (C (40 * j + (q + 4 * s + 1))) (C (40 * j + (q + 4 * s + 2))) (C (40 * j + (q + 4 * s + 3)))) :
    ∀ (k i f1 f2 : Nat) (σ τ : Mem), i + k = w → k < f1 → k < f2 → RelC n t a (st + i) lo co mk ot σ τ → τ.1 0 4 = 0 → τ.1 10 = C → (∀ x, x < 40 → σ.1 (o + 1) x = C (40 * j + x)) → ∃ σ' τ', loopF (fun (rec : (Mem × Int32 × Int32 × Int32) → Option (Mem)) (s : Mem × Int32 × Int32 × Int32) => X6_addAll_l3 n o rec s.1 s.2.1 s.2.2.1 s.2.2.2) f1 (σ, nI q, nI w, nI i) = some σ' ∧ loopF (fun (rec : (Mem × Int32 × Int32 × Int32 × Int32) → Option (Int32 × Mem)) (s : Mem × Int32 × Int32 × Int32 × Int32) => X12_load_l236 rec s.1 s.2.1 s.2.2.1 s.2.2.2.1 s.2.2.2.2) f2 (τ, nI j, nI q, nI w, nI i) = some (nI (st + w), τ') ∧ RelC n t a (st + w) lo co mk ot σ' τ' ∧ σ'.1 4 1 = nI (st + w) := by
  intro k
  induction k with
  | zero =>
    intro i f1 f2 σ τ hi hf1 hf2 h hr hC hc
    obtain ⟨f1, rfl⟩ : ∃ g, f1 = g + 1 := ⟨f1 - 1, by omega⟩
    obtain ⟨f2, rfl⟩ : ∃ g, f2 = g + 1 := ⟨f2 - 1, by omega⟩
    have hi : i = w := by omega
    subst hi
    have h0 := h
    obtain ⟨e_fa, e_tr, e_mp, e_lg, e_ro, e_ti, e_at_, e_ki, e_ac, e_pa, e_sc, e_ld, e_mc, e_mt, e_cc, e_lc, e_l1, e_l2, e_l3, e_kc, e_k1, e_k2, e_k3, e_k4, e_oc, e_oa, e_b1, e_b2, e_pr, e_sh0, e_sh1, e_sh2, e_sh3, e_ch, e_c0, e_d0, e_c1, e_d1, e_c2, e_d2, e_c3, e_d3, e_c4, e_d4, e_c5, e_d5, e_c6, e_d6, e_c7, e_d7, e_ps, e_oz, e_rm, e_lb, e_ab, e_ru, e_mb, e_wb, e_w0, e_w1, e_ws, e_wp, e_kb, e_tb, e_bb⟩ := h
    refine ⟨σ, τ, ?_, ?_, h0, e_sc.trans e_c3⟩
    · show X6_addAll_l3 n o _ σ (nI q) (nI i) (nI i) = _
      rw [X6_addAll_l3, if_pos (nI_le (Nat.le_refl i) (by omega))]
    · show X12_load_l236 _ τ (nI j) (nI q) (nI i) (nI i) = _
      rw [X12_load_l236, if_pos (nI_le (Nat.le_refl i) (by omega)), e_c3]
  | succ k ih =>
    intro i f1 f2 σ τ hi hf1 hf2 h hr hC hc
    obtain ⟨f1, rfl⟩ : ∃ g, f1 = g + 1 := ⟨f1 - 1, by omega⟩
    obtain ⟨f2, rfl⟩ : ∃ g, f2 = g + 1 := ⟨f2 - 1, by omega⟩
    obtain ⟨e_fa, e_tr, e_mp, e_lg, e_ro, e_ti, e_at_, e_ki, e_ac, e_pa, e_sc, e_ld, e_mc, e_mt, e_cc, e_lc, e_l1, e_l2, e_l3, e_kc, e_k1, e_k2, e_k3, e_k4, e_oc, e_oa, e_b1, e_b2, e_pr, e_sh0, e_sh1, e_sh2, e_sh3, e_ch, e_c0, e_d0, e_c1, e_d1, e_c2, e_d2, e_c3, e_d3, e_c4, e_d4, e_c5, e_d5, e_c6, e_d6, e_c7, e_d7, e_ps, e_oz, e_rm, e_lb, e_ab, e_ru, e_mb, e_wb, e_w0, e_w1, e_ws, e_wp, e_kb, e_tb, e_bb⟩ := h
    have hs : st + i < 30 := by omega
    have hr2 : RelC n t a (st + (i + 1)) lo co mk ot (wI (wI (wI (wI (wI σ 5 (4 * (st + i)) (C (40 * j + (q + 4 * i)))) 5 (4 * (st + i) + 1) (C (40 * j + (q + 4 * i + 1)))) 5 (4 * (st + i) + 2) (C (40 * j + (q + 4 * i + 2)))) 5 (4 * (st + i) + 3) (C (40 * j + (q + 4 * i + 3)))) 4 1 (nI (st + i + 1))) (wI (wI (wI (wI (wI τ 3 (st + i) (C (40 * j + (q + 4 * i)))) 4 (st + i) (C (40 * j + (q + 4 * i + 1)))) 5 (st + i) (C (40 * j + (q + 4 * i + 2)))) 6 (st + i) (C (40 * j + (q + 4 * i + 3)))) 0 13 (nI (st + i + 1))) := ⟨e_fa, e_tr, e_mp, e_lg, e_ro, e_ti, e_at_, e_ki, e_ac, e_pa, rfl, e_ld, e_mc, e_mt, e_cc, e_lc, e_l1, e_l2, e_l3, e_kc, e_k1, e_k2, e_k3, e_k4, e_oc, e_oa, e_b1, e_b2, eqP_add e_pr hs _ _ _ _, e_sh0, e_sh1, e_sh2, e_sh3, by first | exact e_ch | (intro k hk; simp (disch := omega) only [wI_hi, wJ_1]; exact e_ch k hk), e_c0, e_d0, e_c1, e_d1, e_c2, Nat.le_succ_of_le e_d2, rfl, hs, e_c4, e_d4, e_c5, e_d5, e_c6, e_d6, e_c7, e_d7, okProg_add e_ps (hok i (by omega)), e_oz, e_rm, e_lb, e_ab, fun z => absurd (hr.symm.trans z) (by decide), e_mb, e_wb, e_w0, e_w1, e_ws, e_wp, e_kb, e_tb, e_bb⟩
    obtain ⟨σ', τ', g1, g2, g3⟩ := ih (i + 1) f1 f2 _ _ (by omega) (by omega) (by omega) hr2 hr hC (fun x hx => by rw [wI_ne _ _ _ (by omega), wI_ne _ _ _ (by omega), wI_ne _ _ _ (by omega), wI_ne _ _ _ (by omega), wI_ne _ _ _ (by omega)]; exact hc x hx)
    refine ⟨σ', τ', ?_, ?_, g3⟩
    · show X6_addAll_l3 n o _ σ (nI q) (nI w) (nI i) = _
      rw [X6_addAll_l3, if_neg (nI_ge (by omega) (by omega))]
      simp only [lete_eq, nI_q4, nI_p0, nI_1, nI_p2, nI_p3]
      rw [ev_scell (q := q + 4 * i) rfl (by omega), ev_scell (q := q + 4 * i + 1) rfl (by omega), ev_scell (q := q + 4 * i + 2) rfl (by omega), ev_scell (q := q + 4 * i + 3) rfl (by omega)]
      simp only [bindo_some]
      rw [hc _ (by omega), hc _ (by omega), hc _ (by omega), hc _ (by omega), ev_add (e_sc.trans e_c3) hs]
      simp only [bindo_some]
      exact g1
    · show X12_load_l236 _ τ (nI j) (nI q) (nI w) (nI i) = _
      rw [X12_load_l236, if_neg (nI_ge (by omega) (by omega))]
      rw [show (((40 : Int32) * nI j) + nI q) + (4 : Int32) * nI i = nI (40 * j + (q + 4 * i)) by rw [nI40, nI_q4, Nat.add_assoc]]
      simp only [lete_eq, nI_1, nI_p2, nI_p3]
      rw [inb_nI (show 40 * j + (q + 4 * i) < 160 by omega) (by decide), inb_nI (show 40 * j + (q + 4 * i) + 1 < 160 by omega) (by decide), inb_nI (show 40 * j + (q + 4 * i) + 2 < 160 by omega) (by decide), inb_nI (show 40 * j + (q + 4 * i) + 3 < 160 by omega) (by decide)]
      simp only [chk_t]
      rw [ix_nI (by omega), ix_nI (by omega), ix_nI (by omega), ix_nI (by omega), hC]
      rw [show 40 * j + (q + 4 * i) + 1 = 40 * j + (q + 4 * i + 1) by omega, show 40 * j + (q + 4 * i) + 2 = 40 * j + (q + 4 * i + 2) by omega, show 40 * j + (q + 4 * i) + 3 = 40 * j + (q + 4 * i + 3) by omega, ev_addStep e_c3 hs]
      simp only [bindo_some]
      exact g2
theorem f_load {n t a st lo co mk ot : Nat} {σ τ : Mem} (h : RelC n t a st lo co mk ot σ τ) (p l i m : Int32) : Sim (RelE n) (X11_load n σ p l i m) (X12_load τ p l i m) := by
  obtain ⟨e_fa, e_tr, e_mp, e_lg, e_ro, e_ti, e_at_, e_ki, e_ac, e_pa, e_sc, e_ld, e_mc, e_mt, e_cc, e_lc, e_l1, e_l2, e_l3, e_kc, e_k1, e_k2, e_k3, e_k4, e_oc, e_oa, e_b1, e_b2, e_pr, e_sh0, e_sh1, e_sh2, e_sh3, e_ch, e_c0, e_d0, e_c1, e_d1, e_c2, e_d2, e_c3, e_d3, e_c4, e_d4, e_c5, e_d5, e_c6, e_d6, e_c7, e_d7, e_ps, e_oz, e_rm, e_lb, e_ab, e_ru, e_mb, e_wb, e_w0, e_w1, e_ws, e_wp, e_kb, e_tb, e_bb⟩ := h
  have hR : RelC n t a st lo co mk ot (wI σ 0 9 0) (wI τ 0 0 0) := ⟨rfl, e_tr, e_mp, e_lg, e_ro, e_ti, e_at_, e_ki, e_ac, e_pa, e_sc, e_ld, e_mc, e_mt, e_cc, e_lc, e_l1, e_l2, e_l3, e_kc, e_k1, e_k2, e_k3, e_k4, e_oc, e_oa, e_b1, e_b2, e_pr, e_sh0, e_sh1, e_sh2, e_sh3, by first | exact e_ch | (intro k hk; simp (disch := omega) only [wI_hi, wJ_1]; exact e_ch k hk), e_c0, e_d0, e_c1, e_d1, e_c2, e_d2, e_c3, e_d3, e_c4, e_d4, e_c5, e_d5, e_c6, e_d6, e_c7, e_d7, e_ps, e_oz, e_rm, e_lb, e_ab, e_ru, e_mb, e_wb, e_w0, e_w1, e_ws, e_wp, e_kb, e_tb, e_bb⟩
  have hk : RelE n (wI σ 0 9 0) (wI τ 0 0 0) := ⟨t, a, st, lo, co, mk, ot, hR⟩
  have hk1 : RelE n (wI (wI σ 0 9 0) 0 9 1) (wI (wI τ 0 0 0) 0 0 1) := ⟨t, a, st, lo, co, mk, ot, ⟨rfl, e_tr, e_mp, e_lg, e_ro, e_ti, e_at_, e_ki, e_ac, e_pa, e_sc, e_ld, e_mc, e_mt, e_cc, e_lc, e_l1, e_l2, e_l3, e_kc, e_k1, e_k2, e_k3, e_k4, e_oc, e_oa, e_b1, e_b2, e_pr, e_sh0, e_sh1, e_sh2, e_sh3, by first | exact e_ch | (intro k hk; simp (disch := omega) only [wI_hi, wJ_1]; exact e_ch k hk), e_c0, e_d0, e_c1, e_d1, e_c2, e_d2, e_c3, e_d3, e_c4, e_d4, e_c5, e_d5, e_c6, e_d6, e_c7, e_d7, e_ps, e_oz, e_rm, e_lb, e_ab, e_ru, e_mb, e_wb, e_w0, e_w1, e_ws, e_wp, e_kb, e_tb, e_bb⟩⟩
  have hk2 : RelE n (wI (wI σ 0 9 0) 0 9 2) (wI (wI τ 0 0 0) 0 0 2) := ⟨t, a, st, lo, co, mk, ot, ⟨rfl, e_tr, e_mp, e_lg, e_ro, e_ti, e_at_, e_ki, e_ac, e_pa, e_sc, e_ld, e_mc, e_mt, e_cc, e_lc, e_l1, e_l2, e_l3, e_kc, e_k1, e_k2, e_k3, e_k4, e_oc, e_oa, e_b1, e_b2, e_pr, e_sh0, e_sh1, e_sh2, e_sh3, by first | exact e_ch | (intro k hk; simp (disch := omega) only [wI_hi, wJ_1]; exact e_ch k hk), e_c0, e_d0, e_c1, e_d1, e_c2, e_d2, e_c3, e_d3, e_c4, e_d4, e_c5, e_d5, e_c6, e_d6, e_c7, e_d7, e_ps, e_oz, e_rm, e_lb, e_ab, e_ru, e_mb, e_wb, e_w0, e_w1, e_ws, e_wp, e_kb, e_tb, e_bb⟩⟩
  have hk3 : RelE n (wI (wI σ 0 9 0) 0 9 3) (wI (wI τ 0 0 0) 0 0 3) := ⟨t, a, st, lo, co, mk, ot, ⟨rfl, e_tr, e_mp, e_lg, e_ro, e_ti, e_at_, e_ki, e_ac, e_pa, e_sc, e_ld, e_mc, e_mt, e_cc, e_lc, e_l1, e_l2, e_l3, e_kc, e_k1, e_k2, e_k3, e_k4, e_oc, e_oa, e_b1, e_b2, e_pr, e_sh0, e_sh1, e_sh2, e_sh3, by first | exact e_ch | (intro k hk; simp (disch := omega) only [wI_hi, wJ_1]; exact e_ch k hk), e_c0, e_d0, e_c1, e_d1, e_c2, e_d2, e_c3, e_d3, e_c4, e_d4, e_c5, e_d5, e_c6, e_d6, e_c7, e_d7, e_ps, e_oz, e_rm, e_lb, e_ab, e_ru, e_mb, e_wb, e_w0, e_w1, e_ws, e_wp, e_kb, e_tb, e_bb⟩⟩
  have hk4 : RelE n (wI (wI σ 0 9 0) 0 9 4) (wI (wI τ 0 0 0) 0 0 4) := ⟨t, a, st, lo, co, mk, ot, ⟨rfl, e_tr, e_mp, e_lg, e_ro, e_ti, e_at_, e_ki, e_ac, e_pa, e_sc, e_ld, e_mc, e_mt, e_cc, e_lc, e_l1, e_l2, e_l3, e_kc, e_k1, e_k2, e_k3, e_k4, e_oc, e_oa, e_b1, e_b2, e_pr, e_sh0, e_sh1, e_sh2, e_sh3, by first | exact e_ch | (intro k hk; simp (disch := omega) only [wI_hi, wJ_1]; exact e_ch k hk), e_c0, e_d0, e_c1, e_d1, e_c2, e_d2, e_c3, e_d3, e_c4, e_d4, e_c5, e_d5, e_c6, e_d6, e_c7, e_d7, e_ps, e_oz, e_rm, e_lb, e_ab, e_ru, e_mb, e_wb, e_w0, e_w1, e_ws, e_wp, e_kb, e_tb, e_bb⟩⟩
  unfold X11_load X12_load
  simp only [lete_eq, ev_findSheet, xw, mw, bindo_some, bz_eq0, Decidable.not_not, Int32.toInt_toInt64, ev_isOff, t32_0, t32_1, t32_2, t32_3, t32_4, t32_5, t32_6, t32_7, t32_8, t32_9, t32_10, t32_11, t32_19, t32_20, t32_23, t32_24, t32_29, t32_30, t32_39, t32_40, t32_49, t32_50, t32_79, t32_99, t32_100, t32_119, t32_120, t32_159, t32_160, t32_249, t32_250, t32_400, t32_500, t32_800, t32_950, t32_1000, t32_1050, t32_2000, t32_2999, t32_3000, t32_8000, t32_10000, t32_30000, t32_500000, t32_m1, t32_m2, t32_m3, t32_m4, t32_m9, t32_m10, t32_m500, t32_m1000, t32_m10000, t32_m30000, t64_0, t64_1, t64_2, t64_3, t64_4, t64_5, t64_6, t64_7, t64_8, t64_9, t64_10, t64_11, t64_19, t64_20, t64_23, t64_24, t64_29, t64_30, t64_39, t64_40, t64_49, t64_50, t64_79, t64_99, t64_100, t64_119, t64_120, t64_159, t64_160, t64_249, t64_250, t64_400, t64_500, t64_800, t64_950, t64_1000, t64_1050, t64_2000, t64_2999, t64_3000, t64_8000, t64_10000, t64_30000, t64_500000, t64_m1, t64_m2, t64_m3, t64_m4, t64_m9, t64_m10, t64_m500, t64_m1000, t64_m10000, t64_m30000]
  by_cases h1 : 0 ≤ p.toInt ∧ p.toInt ≤ 3
  · rw [if_pos h1, if_pos h1]
    obtain ⟨j, hj, rfl⟩ := nat_of 3 h1.1 h1.2 (by decide)
    unfold X12_load_b71
    rw [nI_toInt (by omega), inb_nI (show j < 4 by omega) (by decide), ix_nI (by omega)]
    simp only [Int.toNat_natCast, caseo, chk_t]
    rw [isSh_j hj, chk_t]
    refine sim_ite Iff.rfl (fun h2 => ?_) (fun _ => sim_ret hk)
    have hl : ¬ l = -9 := fun e => by rw [e] at h2; revert h2; decide
    have hro : (wI σ 0 9 0).1 20 5 = (wI τ 0 0 0).1 0 4 := e_ro
    rw [hro]
    refine sim_ite Iff.rfl (fun hoff => ?_) (fun _ => sim_ret hk)
    unfold X9_faultAs
    -- the middle, for a sheet that is there
    have mid : ∀ (o : Nat), 29 ≤ o → o < 99 → (wI σ 0 9 0).1 o 1 = (wI τ 0 0 0).1 9 j → (∃ L, L ≤ 40 ∧ (wI τ 0 0 0).1 9 j = nI L) → (∀ x, x < 40 → (wI σ 0 9 0).1 (o + 1) x = (wI τ 0 0 0).1 10 (40 * j + x)) → Sim (RelE n) (if (0 : Int32) ≤ m then (bindo (X9_faultFrom n o (wI σ 0 9 0) i ((4 : Int64) * (m.toInt64))) (fun r13 => X11_load_b79 n (wI σ 0 9 0) i m o r13)) else (X11_load_b79 n (wI σ 0 9 0) i m o (4 : Int32))) (if (0 : Int32) ≤ m then (if i < (0 : Int32) then (X12_load_b133 (wI τ 0 0 0)) else (if ((wI τ 0 0 0).1 9 j) < i then (X12_load_b133 (wI τ 0 0 0)) else (if (lg_cmp ((4 : Int64) * (m.toInt64)) (((((wI τ 0 0 0).1 9 j) - i)).toInt64)) ≤ (0 : Int32) then (loopF (fun (rec : (Mem × Int32 × Int32 × Int32 × Int32) → Option (Int32 × Mem)) (s : Mem × Int32 × Int32 × Int32 × Int32) => X12_load_l142 rec s.1 s.2.1 s.2.2.1 s.2.2.2.1 s.2.2.2.2) FU ((wI τ 0 0 0), nI j, i, m, (0 : Int32))) else (X12_load_b133 (wI τ 0 0 0))))) else (bindo (X12_fails (wI τ 0 0 0) (4 : Int32)) (fun a5 => some (a5.1, a5.2)))) := by
      intro o ho ho2 eo ⟨L, hL, eL⟩ hc
      refine sim_ite Iff.rfl (fun hm => ?_) (fun _ => sim_ret' rfl hk4)
      rw [Int32.le_iff_toInt_le, t32_0] at hm
      have hrm := i32_rng m
      have hri := i32_rng i
      have e4 : ((4 : Int64) * m.toInt64).toInt = 4 * m.toInt := by
        rw [i64_mul (by rw [Int32.toInt_toInt64, t64_4]; omega) (by rw [Int32.toInt_toInt64, t64_4]; omega), Int32.toInt_toInt64, t64_4]
      rw [ev_faultFrom (eo.trans eL) hL i _ (by rw [e4]; omega) (by rw [e4]; omega), e4, eL]
      simp only [bindo_some, lg_cmp_le]
      have hb3 : Sim (RelE n) (X11_load_b79 n (wI σ 0 9 0) i m o 3) (X12_load_b133 (wI τ 0 0 0)) := sim_ret' rfl hk3
      by_cases c1 : i.toInt < 0
      · rw [if_neg (show ¬ (0 ≤ i.toInt ∧ i.toInt + 4 * m.toInt ≤ L) by omega), if_pos (show i < (0 : Int32) by rw [Int32.lt_iff_toInt_lt, t32_0]; exact c1)]
        exact hb3
      · rw [if_neg (show ¬ i < (0 : Int32) by rw [Int32.lt_iff_toInt_lt, t32_0]; exact c1)]
        by_cases c2 : (L : Int) < i.toInt
        · rw [if_neg (show ¬ (0 ≤ i.toInt ∧ i.toInt + 4 * m.toInt ≤ L) by omega), if_pos (show nI L < i by rw [Int32.lt_iff_toInt_lt, nI_toInt (by omega)]; exact c2)]
          exact hb3
        · rw [if_neg (show ¬ nI L < i by rw [Int32.lt_iff_toInt_lt, nI_toInt (by omega)]; exact c2)]
          have e5 : ((nI L - i).toInt64).toInt = L - i.toInt := by
            rw [Int32.toInt_toInt64, i32_sub (by rw [nI_toInt (by omega)]; omega) (by rw [nI_toInt (by omega)]; omega), nI_toInt (by omega)]
          by_cases c3 : 4 * m.toInt ≤ L - i.toInt
          · rw [if_pos (show 0 ≤ i.toInt ∧ i.toInt + 4 * m.toInt ≤ L by omega), if_pos (show (4 : Int64) * m.toInt64 ≤ (nI L - i).toInt64 by rw [Int64.le_iff_toInt_le, e4, e5]; exact c3)]
            obtain ⟨q, hq, rfl⟩ := nat_of 40 (show 0 ≤ i.toInt by omega) (by omega) (by decide)
            obtain ⟨w, hw, rfl⟩ := nat_of 10 hm (by omega) (by decide)
            rw [nI_toInt (by omega)] at c3
            rw [nI_toInt (by omega)] at c3
            unfold X11_load_b79 X11_load_b81
            rw [if_pos rfl]
            obtain ⟨r, g1, g2, g3⟩ := ev_fitAll (n := n) (o := o) (st := st) (q := q) (w := w) (j := j) (σ := wI σ 0 9 0) (τ := wI τ 0 0 0) (e_sc.trans e_c3) e_c3 e_d3 (by omega) (by omega) hc rfl w 0 FU (by omega) (show w < FU by unfold FU; omega)
            have g1 : X6_fitAll n (wI σ 0 9 0) o (nI q) (nI w) = some r := g1
            have g2 : loopF (fun (rec : (Mem × Int32 × Int32 × Int32 × Int32) → Option (Int32 × Mem)) (s : Mem × Int32 × Int32 × Int32 × Int32) => X12_load_l142 rec s.1 s.2.1 s.2.2.1 s.2.2.2.1 s.2.2.2.2) FU (wI τ 0 0 0, nI j, nI q, nI w, (0 : Int32)) = _ := g2
            rw [g1, g2]
            simp only [bindo_some]
            by_cases hr : r = 0
            · rw [if_neg (fun z => z hr), if_pos hr]
              exact sim_ret hk
            · rw [if_pos hr, if_neg hr]
              have es : (wI σ 0 9 0).1 4 1 = nI st := e_sc.trans e_c3
              have em : (wI τ 0 0 0).1 0 13 = nI st := e_c3
              rw [es, em, nI_add]
              have e30 : (30 : Int32) - nI st = nI (30 - st) := by rw [show (30 : Int32) = nI 30 from rfl, pk_sub e_d3]
              rw [e30]
              refine sim_ite (by rw [nI_leI (by omega) (by omega), show (30 : Int32) = nI 30 from rfl, nI_leI (by omega) (by decide)]; omega) (fun h6 => ?_) (fun _ => sim_ret hk)
              rw [nI_leI (by omega) (by omega)] at h6
              obtain ⟨σ', τ', y1, y2, y3, y4⟩ := ev_addAll (n := n) (t := t) (a := a) (st := st) (lo := lo) (co := co) (mk := mk) (ot := ot) (o := o) (q := q) (w := w) (j := j) (C := (wI τ 0 0 0).1 10) ho ho2 (by omega) (by omega) (by omega) (fun s hs => g3 hr s (Nat.zero_le _) hs) w 0 FU FU (wI σ 0 9 0) (wI τ 0 0 0) (by omega) (show w < FU by unfold FU; omega) (show w < FU by unfold FU; omega) hR hoff rfl hc
              have y1 : X6_addAll n (wI σ 0 9 0) o (nI q) (nI w) = some σ' := y1
              have y2 : loopF (fun (rec : (Mem × Int32 × Int32 × Int32 × Int32) → Option (Int32 × Mem)) (s : Mem × Int32 × Int32 × Int32 × Int32) => X12_load_l236 rec s.1 s.2.1 s.2.2.1 s.2.2.2.1 s.2.2.2.2) FU (wI τ 0 0 0, nI j, nI q, nI w, (0 : Int32)) = _ := y2
              rw [y1, y2]
              simp only [bindo_some]
              exact sim_ret' y4 ⟨t, a, st + w, lo, co, mk, ot, y3⟩
          · rw [if_neg (show ¬ (0 ≤ i.toInt ∧ i.toInt + 4 * m.toInt ≤ L) by omega), if_neg (show ¬ (4 : Int64) * m.toInt64 ≤ (nI L - i).toInt64 by rw [Int64.le_iff_toInt_le, e4, e5]; exact c3)]
            exact hb3
    rcases (show j = 0 ∨ j = 1 ∨ j = 2 ∨ j = 3 by omega) with rfl | rfl | rfl | rfl
    · simp only [Nat.reduceMul, Nat.reduceAdd]
      obtain ⟨q1, q2, q3, q4⟩ := id e_sh0
      rcases q3 with ⟨u, w⟩ | ⟨u, w0, w⟩
      · rw [if_neg (fun z => z (show (wI σ 0 9 0).1 29 3 = 0 from u)), if_pos (show (wI τ 0 0 0).1 8 0 = -9 from w), if_neg (show ¬ ¬ (wI τ 0 0 0).1 8 0 = -9 from fun z => z w)]
        simp only [bindo_some]
        rw [if_pos (show ¬ (1 : Int32) = 0 by decide)]
        exact sim_ret' rfl hk1
      · have hn : ¬ (wI τ 0 0 0).1 8 0 = -9 := by show ¬ τ.1 8 0 = -9; rcases w with w | w | w <;> rw [w] <;> decide
        rw [if_pos (show ¬ (wI σ 0 9 0).1 29 3 = 0 from fun z => absurd (u.symm.trans z) (by decide)), if_neg hn]
        rw [show (wI σ 0 9 0).1 29 2 = τ.1 8 0 from w0, show (wI τ 0 0 0).1 8 0 = τ.1 8 0 from rfl]
        by_cases hll : τ.1 8 0 = l
        · rw [if_neg (fun z => z hll), if_pos hll, if_pos (show ¬ τ.1 8 0 = -9 from hn)]
          simp only [bindo_some]
          rw [if_neg (fun z => z trivial)]
          exact mid 29 (by decide) (by decide) q1 q4 q2
        · rw [if_pos hll, if_neg hll]
          exact sim_ret' rfl hk2
    · simp only [Nat.reduceMul, Nat.reduceAdd]
      obtain ⟨q1, q2, q3, q4⟩ := id e_sh1
      rcases q3 with ⟨u, w⟩ | ⟨u, w0, w⟩
      · rw [if_neg (fun z => z (show (wI σ 0 9 0).1 31 3 = 0 from u)), if_pos (show (wI τ 0 0 0).1 8 1 = -9 from w), if_neg (show ¬ ¬ (wI τ 0 0 0).1 8 1 = -9 from fun z => z w)]
        simp only [bindo_some]
        rw [if_pos (show ¬ (1 : Int32) = 0 by decide)]
        exact sim_ret' rfl hk1
      · have hn : ¬ (wI τ 0 0 0).1 8 1 = -9 := by show ¬ τ.1 8 1 = -9; rcases w with w | w | w <;> rw [w] <;> decide
        rw [if_pos (show ¬ (wI σ 0 9 0).1 31 3 = 0 from fun z => absurd (u.symm.trans z) (by decide)), if_neg hn]
        rw [show (wI σ 0 9 0).1 31 2 = τ.1 8 1 from w0, show (wI τ 0 0 0).1 8 1 = τ.1 8 1 from rfl]
        by_cases hll : τ.1 8 1 = l
        · rw [if_neg (fun z => z hll), if_pos hll, if_pos (show ¬ τ.1 8 1 = -9 from hn)]
          simp only [bindo_some]
          rw [if_neg (fun z => z trivial)]
          exact mid 31 (by decide) (by decide) q1 q4 q2
        · rw [if_pos hll, if_neg hll]
          exact sim_ret' rfl hk2
    · simp only [Nat.reduceMul, Nat.reduceAdd]
      obtain ⟨q1, q2, q3, q4⟩ := id e_sh2
      rcases q3 with ⟨u, w⟩ | ⟨u, w0, w⟩
      · rw [if_neg (fun z => z (show (wI σ 0 9 0).1 33 3 = 0 from u)), if_pos (show (wI τ 0 0 0).1 8 2 = -9 from w), if_neg (show ¬ ¬ (wI τ 0 0 0).1 8 2 = -9 from fun z => z w)]
        simp only [bindo_some]
        rw [if_pos (show ¬ (1 : Int32) = 0 by decide)]
        exact sim_ret' rfl hk1
      · have hn : ¬ (wI τ 0 0 0).1 8 2 = -9 := by show ¬ τ.1 8 2 = -9; rcases w with w | w | w <;> rw [w] <;> decide
        rw [if_pos (show ¬ (wI σ 0 9 0).1 33 3 = 0 from fun z => absurd (u.symm.trans z) (by decide)), if_neg hn]
        rw [show (wI σ 0 9 0).1 33 2 = τ.1 8 2 from w0, show (wI τ 0 0 0).1 8 2 = τ.1 8 2 from rfl]
        by_cases hll : τ.1 8 2 = l
        · rw [if_neg (fun z => z hll), if_pos hll, if_pos (show ¬ τ.1 8 2 = -9 from hn)]
          simp only [bindo_some]
          rw [if_neg (fun z => z trivial)]
          exact mid 33 (by decide) (by decide) q1 q4 q2
        · rw [if_pos hll, if_neg hll]
          exact sim_ret' rfl hk2
    · simp only [Nat.reduceMul, Nat.reduceAdd]
      obtain ⟨q1, q2, q3, q4⟩ := id e_sh3
      rcases q3 with ⟨u, w⟩ | ⟨u, w0, w⟩
      · rw [if_neg (fun z => z (show (wI σ 0 9 0).1 35 3 = 0 from u)), if_pos (show (wI τ 0 0 0).1 8 3 = -9 from w), if_neg (show ¬ ¬ (wI τ 0 0 0).1 8 3 = -9 from fun z => z w)]
        simp only [bindo_some]
        rw [if_pos (show ¬ (1 : Int32) = 0 by decide)]
        exact sim_ret' rfl hk1
      · have hn : ¬ (wI τ 0 0 0).1 8 3 = -9 := by show ¬ τ.1 8 3 = -9; rcases w with w | w | w <;> rw [w] <;> decide
        rw [if_pos (show ¬ (wI σ 0 9 0).1 35 3 = 0 from fun z => absurd (u.symm.trans z) (by decide)), if_neg hn]
        rw [show (wI σ 0 9 0).1 35 2 = τ.1 8 3 from w0, show (wI τ 0 0 0).1 8 3 = τ.1 8 3 from rfl]
        by_cases hll : τ.1 8 3 = l
        · rw [if_neg (fun z => z hll), if_pos hll, if_pos (show ¬ τ.1 8 3 = -9 from hn)]
          simp only [bindo_some]
          rw [if_neg (fun z => z trivial)]
          exact mid 35 (by decide) (by decide) q1 q4 q2
        · rw [if_pos hll, if_neg hll]
          exact sim_ret' rfl hk2
  · rw [if_neg h1, if_neg h1]
    exact sim_ret hk
