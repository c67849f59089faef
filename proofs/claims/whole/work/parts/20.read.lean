/-! READINGS: lost, corrected, cut -/
def RelR (n lo co : Nat) (σ τ : Mem) : Prop := (σ.1 3 = τ.1 2) ∧ (σ.1 8 4 = nI lo) ∧ (σ.1 9 = τ.1 19) ∧ (σ.1 10 = τ.1 20) ∧ (σ.1 11 = τ.1 21) ∧ (σ.1 13 4 = nI co) ∧ (σ.1 14 = τ.1 22) ∧ (σ.1 15 = τ.1 23) ∧ (σ.1 16 = τ.1 24) ∧ (σ.1 17 = τ.1 25) ∧ (∀ k, k < n → EqCh (σ.1 (100 + k)) k (τ.1 12 k) (τ.1 13 k) (τ.1 14 k) (τ.1 15 k) (τ.1 16 k) (τ.1 17 k) (τ.1 18 k)) ∧ n ≤ 8 ∧ τ.1 0 34 = nI lo ∧ lo ≤ 20 ∧ τ.1 0 38 = nI co ∧ co ≤ 20 ∧ OkCorr co (τ.1 24) (τ.1 25)
theorem relR_of {n t a st lo co mk ot : Nat} {σ τ : Mem} (h : RelC n t a st lo co mk ot σ τ) : RelR n lo co σ τ := by
  obtain ⟨e_fa, e_tr, e_mp, e_lg, e_ro, e_ti, e_at_, e_ki, e_ac, e_pa, e_sc, e_ld, e_mc, e_mt, e_cc, e_lc, e_l1, e_l2, e_l3, e_kc, e_k1, e_k2, e_k3, e_k4, e_oc, e_oa, e_b1, e_b2, e_pr, e_sh0, e_sh1, e_sh2, e_sh3, e_ch, e_c0, e_d0, e_c1, e_d1, e_c2, e_d2, e_c3, e_d3, e_c4, e_d4, e_c5, e_d5, e_c6, e_d6, e_c7, e_d7, e_ps, e_oz, e_rm, e_lb, e_ab, e_ru, e_mb, e_wb, e_w0, e_w1, e_ws, e_wp, e_kb, e_tb, e_bb⟩ := h
  exact ⟨e_pa, e_lc.trans e_c4, e_l1, e_l2, e_l3, e_kc.trans e_c5, e_k1, e_k2, e_k3, e_k4, e_ch, e_d0, e_c4, e_d4, e_c5, e_d5, e_kb⟩
theorem isZ_0 : isZ 0 = true := rfl
theorem isZ_1 : isZ 1 = true := rfl
section READ
variable {n lo co k T : Nat} {σ τ : Mem}
theorem lost_loop (h : RelR n lo co σ τ) : ∀ (q i f1 f2 : Nat), i + q = lo → q < f1 → q < f2 → ∃ r, (r = 0 ∨ r = 1) ∧ loopF (fun (rec : (Int32 × Int32 × Int32) → Option (Int32)) (s : Int32 × Int32 × Int32) => X10_covers_l2 n 8 rec σ s.1 s.2.1 s.2.2) f1 (nI k, nI T, nI i) = some r ∧ loopF (fun (rec : (Int32 × Int32 × Int32 × Int32) → Option (Int32)) (s : Int32 × Int32 × Int32 × Int32) => X12_isLost_l19 rec τ s.1 s.2.1 s.2.2.1 s.2.2.2) f2 (nI k, nI T, (0 : Int32), nI i) = some r := by
  obtain ⟨hpa, hlc, h1, h2, h3, -, -, -, -, -, -, -, hc4, hd4, -, -, -⟩ := h
  intro q
  induction q with
  | zero =>
    intro i f1 f2 hi hf1 hf2
    obtain ⟨f1, rfl⟩ : ∃ g, f1 = g + 1 := ⟨f1 - 1, by omega⟩
    obtain ⟨f2, rfl⟩ : ∃ g, f2 = g + 1 := ⟨f2 - 1, by omega⟩
    have hi : i = lo := by omega
    subst hi
    refine ⟨0, Or.inl rfl, ?_, ?_⟩
    · show X10_covers_l2 n 8 _ σ (nI k) (nI T) (nI i) = _
      rw [X10_covers_l2, hlc, if_pos (nI_le (Nat.le_refl i) (by omega))]
    · show X12_isLost_l19 _ τ (nI k) (nI T) 0 (nI i) = _
      rw [X12_isLost_l19, hc4, if_pos (nI_le (Nat.le_refl i) (by omega)), isZ_0, chk_t]
  | succ q ih =>
    intro i f1 f2 hi hf1 hf2
    obtain ⟨f1, rfl⟩ : ∃ g, f1 = g + 1 := ⟨f1 - 1, by omega⟩
    obtain ⟨f2, rfl⟩ : ∃ g, f2 = g + 1 := ⟨f2 - 1, by omega⟩
    obtain ⟨r, hr, g1, g2⟩ := ih (i + 1) f1 f2 (by omega) (by omega) (by omega)
    have hX : X10_covers_l2 n 8 (loopF (fun (rec : (Int32 × Int32 × Int32) → Option (Int32)) (s : Int32 × Int32 × Int32) => X10_covers_l2 n 8 rec σ s.1 s.2.1 s.2.2) f1) σ (nI k) (nI T) (nI i) = if ¬ τ.1 19 i = nI k then some r else if nI T < τ.1 20 i then some r else if τ.1 21 i < nI T then some r else some 1 := by
      rw [X10_covers_l2, hlc, if_neg (nI_ge (by omega) (by omega)), if_neg (show ¬ (20 : Int32) ≤ nI i from nle_lit (N := 20) (by omega) (by decide))]
      unfold X10_covers_b48
      rw [inb_nI (show i < 20 by omega) (by decide), ix_nI (by omega)]
      simp only [chk_t, lete_eq, nI_1, Nat.reduceAdd]
      rw [g1, h1, h2, h3]
    have hM : X12_isLost_l19 (loopF (fun (rec : (Int32 × Int32 × Int32 × Int32) → Option (Int32)) (s : Int32 × Int32 × Int32 × Int32) => X12_isLost_l19 rec τ s.1 s.2.1 s.2.2.1 s.2.2.2) f2) τ (nI k) (nI T) 0 (nI i) = if ¬ τ.1 19 i = nI k then some r else if nI T < τ.1 20 i then some r else if τ.1 21 i < nI T then some r else some 1 := by
      have g3 : loopF (fun (rec : (Int32 × Int32 × Int32 × Int32) → Option (Int32)) (s : Int32 × Int32 × Int32 × Int32) => X12_isLost_l19 rec τ s.1 s.2.1 s.2.2.1 s.2.2.2) f2 (nI k, nI T, (1 : Int32), nI (i + 1)) = some 1 := by
        obtain ⟨f3, rfl⟩ : ∃ g, f2 = g + 1 := ⟨f2 - 1, by omega⟩
        show X12_isLost_l19 _ τ (nI k) (nI T) 1 (nI (i + 1)) = _
        rw [X12_isLost_l19, isZ_1]
        simp only [chk_t]
        split
        · rfl
        · rw [if_pos (by decide)]
      rw [X12_isLost_l19, hc4, if_neg (nI_ge (by omega) (by omega)), if_neg (by decide)]
      unfold X12_isLost_b69 X12_isLost_b70
      rw [inb_nI (show i < 20 by omega) (by decide), ix_nI (by omega)]
      simp only [chk_t, lete_eq, nI_1]
      rw [g2, g3]
    by_cases c1 : τ.1 19 i = nI k
    · by_cases c2 : nI T < τ.1 20 i
      · exact ⟨r, hr, hX.trans (by rw [if_neg (fun z => z c1), if_pos c2]), hM.trans (by rw [if_neg (fun z => z c1), if_pos c2])⟩
      · by_cases c3 : τ.1 21 i < nI T
        · exact ⟨r, hr, hX.trans (by rw [if_neg (fun z => z c1), if_neg c2, if_pos c3]), hM.trans (by rw [if_neg (fun z => z c1), if_neg c2, if_pos c3])⟩
        · exact ⟨1, Or.inr rfl, hX.trans (by rw [if_neg (fun z => z c1), if_neg c2, if_neg c3]), hM.trans (by rw [if_neg (fun z => z c1), if_neg c2, if_neg c3])⟩
    · exact ⟨r, hr, hX.trans (by rw [if_pos c1]), hM.trans (by rw [if_pos c1])⟩
theorem lost_ok (h : RelR n lo co σ τ) (hk : k < n) (hT : T ≤ 3000) : ∃ r, (r = 0 ∨ r = 1) ∧ X2_isLost n σ (100 + k) (nI T) = some r ∧ X12_isLost τ (nI k) (nI T) = some r ∧ (r = 0 → ∃ d, d ≤ T ∧ τ.1 14 k = nI d) := by
  obtain ⟨r, hr, g1, g2⟩ := lost_loop (k := k) (T := T) h lo 0 FU FU (by omega) (show lo < FU by have := h.2.2.2.2.2.2.2.2.2.2.2.2.2.1; unfold FU; omega) (show lo < FU by have := h.2.2.2.2.2.2.2.2.2.2.2.2.2.1; unfold FU; omega)
  obtain ⟨hpa, hlc, h1, h2, h3, -, -, -, -, -, hch, hn, hc4, hd4, -, -, -⟩ := h
  obtain ⟨q0, q1, q2, q3, q4, q5, q6, q7, q8, q9, ⟨d, hd, q10⟩, q11⟩ := hch k hk
  have g1 : X10_covers n 8 σ (nI k) (nI T) = some r := g1
  have g2 : X12_isLost_b15 τ (nI k) (nI T) 0 = some r := g2
  have g3 : X12_isLost_b15 τ (nI k) (nI T) 1 = some 1 := by
    have : ∀ f, 0 < f → loopF (fun (rec : (Int32 × Int32 × Int32 × Int32) → Option (Int32)) (s : Int32 × Int32 × Int32 × Int32) => X12_isLost_l19 rec τ s.1 s.2.1 s.2.2.1 s.2.2.2) f (nI k, nI T, (1 : Int32), (0 : Int32)) = some 1 := by
      intro f hf
      obtain ⟨f, rfl⟩ : ∃ g, f = g + 1 := ⟨f - 1, by omega⟩
      show X12_isLost_l19 _ τ (nI k) (nI T) 1 0 = _
      rw [X12_isLost_l19, isZ_1]
      simp only [chk_t]
      split
      · rfl
      · rw [if_pos (by decide)]
    exact this FU (by decide)
  unfold X2_isLost X12_isLost
  rw [inb_nI (show k < 8 by omega) (by decide), ix_nI (by omega), chk_t, q3, q10, q0, g1, g2, g3]
  simp only [bindo_some]
  by_cases c : T < d
  · refine ⟨1, Or.inr rfl, ?_, ?_, fun z => absurd z (by decide)⟩
    · rw [if_pos (nI_lt c (by omega))]
    · rw [if_neg (nI_ge c (by omega))]
  · refine ⟨r, hr, ?_, ?_, fun _ => ⟨d, by omega, rfl⟩⟩
    · rw [if_neg (nI_nlt (by omega) (by omega))]
      rcases hr with rfl | rfl
      · rw [if_pos rfl]
      · rw [if_neg (by decide)]
    · rw [if_pos (nI_le (by omega) (by omega))]
theorem i32_pred (x : Int32) : x + (-1) = x - 1 := by
  rw [Int32.sub_eq_add_neg]
theorem tdiv_bd {a : Int} (h1 : -20000000 ≤ a) (h2 : a ≤ 20000000) : -20000 ≤ a.tdiv 1000 ∧ a.tdiv 1000 ≤ 20000 := by
  rcases Int.le_total 0 a with h | h
  · rw [Int.tdiv_eq_ediv_of_nonneg h]
    omega
  · rw [show a = -(-a) by omega, Int.neg_tdiv, Int.tdiv_eq_ediv_of_nonneg (by omega)]
    omega
/-- a reading within bounds, corrected: the long and the int reckon alike -/
theorem corr_arith {x g y : Int32} (hx : -10000 ≤ x.toInt) (hx2 : x.toInt ≤ 10000) (hg : 1 ≤ g.toInt) (hg2 : g.toInt ≤ 2000) (hy : -1000 ≤ y.toInt) (hy2 : y.toInt ≤ 1000) : (x.toInt64 * g.toInt64) / (1000 : Int64) + y.toInt64 = ((x * g) / (1000 : Int32) + y).toInt64 ∧ -21000 ≤ ((x * g) / (1000 : Int32) + y).toInt ∧ ((x * g) / (1000 : Int32) + y).toInt ≤ 21000 := by
  have b1 : -20000000 ≤ x.toInt * g.toInt := by
    have : x.toInt * g.toInt ≥ (-10000) * g.toInt := Int.mul_le_mul_of_nonneg_right hx (by omega)
    omega
  have b2 : x.toInt * g.toInt ≤ 20000000 := by
    have : x.toInt * g.toInt ≤ 10000 * g.toInt := Int.mul_le_mul_of_nonneg_right hx2 (by omega)
    omega
  have e1 : (x * g).toInt = x.toInt * g.toInt := i32_mul (by omega) (by omega)
  have e2 : (x.toInt64 * g.toInt64).toInt = x.toInt * g.toInt := by
    rw [i64_mul (by rw [Int32.toInt_toInt64, Int32.toInt_toInt64]; omega) (by rw [Int32.toInt_toInt64, Int32.toInt_toInt64]; omega), Int32.toInt_toInt64, Int32.toInt_toInt64]
  have t1 := tdiv_bd b1 b2
  have e3 : ((x * g) / (1000 : Int32)).toInt = (x.toInt * g.toInt).tdiv 1000 := by
    rw [Int32.toInt_div, e1, t32_1000]
    exact Int.bmod_eq_of_le (by omega) (by omega)
  have e4 : ((x.toInt64 * g.toInt64) / (1000 : Int64)).toInt = (x.toInt * g.toInt).tdiv 1000 := by
    rw [Int64.toInt_div, e2, t64_1000]
    exact Int.bmod_eq_of_le (by omega) (by omega)
  have e5 : ((x * g) / (1000 : Int32) + y).toInt = (x.toInt * g.toInt).tdiv 1000 + y.toInt := by
    rw [i32_add (by rw [e3]; omega) (by rw [e3]; omega), e3]
  refine ⟨?_, by omega, by omega⟩
  apply Int64.toInt_inj.mp
  rw [Int32.toInt_toInt64, e5, i64_add (by rw [e4, Int32.toInt_toInt64]; omega) (by rw [e4, Int32.toInt_toInt64]; omega), e4, Int32.toInt_toInt64]
theorem apply_loop (h : RelR n lo co σ τ) {x : Int32} (hx : -10000 ≤ x.toInt) (hx2 : x.toInt ≤ 10000) : ∀ (i f1 f2 : Nat), i ≤ co → i < f1 → i < f2 → ∃ v : Int32, loopF (fun (rec : (Int32 × Int32 × Int32 × Int32) → Option (Int32)) (s : Int32 × Int32 × Int32 × Int32) => X10_apply_l13 n 13 rec σ s.1 s.2.1 s.2.2.1 s.2.2.2) f1 (nI k, nI T, x, nI i - 1) = some v ∧ loopF (fun (rec : (Int32 × Int32 × Int64 × Int32) → Option (Int64)) (s : Int32 × Int32 × Int64 × Int32) => X12_corrected_l62 rec τ s.1 s.2.1 s.2.2.1 s.2.2.2) f2 (nI k, nI T, x.toInt64, nI i - 1) = some v.toInt64 ∧ -21000 ≤ v.toInt ∧ v.toInt ≤ 21000 := by
  obtain ⟨-, -, -, -, -, hkc, h1, h2, h3, h4, -, -, -, -, hc5, hd5, hkb⟩ := h
  intro i
  induction i with
  | zero =>
    intro f1 f2 hi hf1 hf2
    obtain ⟨f1, rfl⟩ : ∃ g, f1 = g + 1 := ⟨f1 - 1, by omega⟩
    obtain ⟨f2, rfl⟩ : ∃ g, f2 = g + 1 := ⟨f2 - 1, by omega⟩
    refine ⟨x, ?_, ?_, by omega, by omega⟩
    · show X10_apply_l13 n 13 _ σ (nI k) (nI T) x (nI 0 - 1) = _
      rw [X10_apply_l13, if_pos (by decide)]
    · show X12_corrected_l62 _ τ (nI k) (nI T) x.toInt64 (nI 0 - 1) = _
      rw [X12_corrected_l62, if_pos (by decide)]
  | succ i ih =>
    intro f1 f2 hi hf1 hf2
    obtain ⟨f1, rfl⟩ : ∃ g, f1 = g + 1 := ⟨f1 - 1, by omega⟩
    obtain ⟨f2, rfl⟩ : ∃ g, f2 = g + 1 := ⟨f2 - 1, by omega⟩
    obtain ⟨v, g1, g2, g3, g4⟩ := ih f1 f2 (by omega) (by omega) (by omega)
    obtain ⟨b1, b2, b3, b4⟩ := hkb i (by omega)
    obtain ⟨a1, a2, a3⟩ := corr_arith hx hx2 b1 b2 b3 b4
    have hX : loopF (fun (rec : (Int32 × Int32 × Int32 × Int32) → Option (Int32)) (s : Int32 × Int32 × Int32 × Int32) => X10_apply_l13 n 13 rec σ s.1 s.2.1 s.2.2.1 s.2.2.2) (f1 + 1) (nI k, nI T, x, nI (i + 1) - 1) = if ¬ τ.1 22 i = nI k then some v else if nI T < τ.1 23 i then some v else some ((x * τ.1 24 i) / (1000 : Int32) + τ.1 25 i) := by
      show X10_apply_l13 n 13 _ σ (nI k) (nI T) x (nI (i + 1) - 1) = _
      rw [X10_apply_l13, nI_pred, if_neg (nI_pos (by omega))]
      unfold X10_apply_b62
      rw [inb_nI (show i < 20 by omega) (by decide), ix_nI (by omega)]
      simp only [chk_t, lete_eq, i32_pred, Nat.reduceAdd]
      rw [g1, h1, h2, h3, h4]
    have hM : loopF (fun (rec : (Int32 × Int32 × Int64 × Int32) → Option (Int64)) (s : Int32 × Int32 × Int64 × Int32) => X12_corrected_l62 rec τ s.1 s.2.1 s.2.2.1 s.2.2.2) (f2 + 1) (nI k, nI T, x.toInt64, nI (i + 1) - 1) = if ¬ τ.1 22 i = nI k then some v.toInt64 else if nI T < τ.1 23 i then some v.toInt64 else some (((x * τ.1 24 i) / (1000 : Int32) + τ.1 25 i).toInt64) := by
      show X12_corrected_l62 _ τ (nI k) (nI T) x.toInt64 (nI (i + 1) - 1) = _
      rw [X12_corrected_l62, nI_pred, if_neg (nI_pos (by omega))]
      unfold X12_corrected_b113
      rw [inb_nI (show i < 20 by omega) (by decide), ix_nI (by omega)]
      simp only [chk_t, lete_eq, i32_pred]
      rw [g2, a1]
    by_cases c1 : τ.1 22 i = nI k
    · by_cases c2 : nI T < τ.1 23 i
      · exact ⟨v, hX.trans (by rw [if_neg (fun z => z c1), if_pos c2]), hM.trans (by rw [if_neg (fun z => z c1), if_pos c2]), g3, g4⟩
      · exact ⟨_, hX.trans (by rw [if_neg (fun z => z c1), if_neg c2]), hM.trans (by rw [if_neg (fun z => z c1), if_neg c2]), a2, a3⟩
    · exact ⟨v, hX.trans (by rw [if_pos c1]), hM.trans (by rw [if_pos c1]), g3, g4⟩
/-- a number of a row that was, cut to the range -/
def cutI (x low hi : Int32) : Int32 := mxI low (mnI hi x)
theorem cut_rng {x low hi : Int32} (h1 : -10000 ≤ low.toInt) (h2 : low.toInt ≤ hi.toInt) (h3 : hi.toInt ≤ 10000) : -10000 ≤ (cutI x low hi).toInt ∧ (cutI x low hi).toInt ≤ 10000 := by
  unfold cutI mxI mnI
  simp only [Int32.lt_iff_toInt_lt]
  split <;> split <;> omega
theorem value_ok (h : RelR n lo co σ τ) (hk : k < n) (hT : T ≤ 3000) (hd : ∃ d, d ≤ T ∧ τ.1 14 k = nI d) : ∃ v : Int32, (X2_isLost n σ (100 + k) (nI T) = some 0 → X2_value n σ (100 + k) (nI T) = some v.toInt64) ∧ X12_corrected τ (nI k) (nI T) = some v.toInt64 ∧ -21000 ≤ v.toInt ∧ v.toInt ≤ 21000 := by
  have h0 := h
  obtain ⟨hpa, hlc, h1, h2, h3, hkc, -, -, -, -, hch, hn, hc4, hd4, hc5, hd5, -⟩ := h
  obtain ⟨q0, q1, q2, q3, q4, q5, q6, q7, ⟨s, hs, q8⟩, q9, q10, q11, q12, q13⟩ := hch k hk
  obtain ⟨d, hdT, ed⟩ := hd
  obtain ⟨cr1, cr2⟩ := cut_rng (x := τ.1 2 (7 * (T - d) + s)) q11 q12 q13
  obtain ⟨v, g1, g2, g3, g4⟩ := apply_loop (k := k) (T := T) h0 cr1 cr2 co FU FU (Nat.le_refl _) (show co < FU by unfold FU; omega) (show co < FU by unfold FU; omega)
  refine ⟨v, fun hl => ?_, ?_, g3, g4⟩
  · unfold X2_value
    rw [hl]
    simp only [bindo_some]
    rw [if_pos trivial, q3, ed, pk_sub hdT, q1, q8, ev_part σ (by omega) (show s ≤ 6 by omega) rfl rfl, q4, q5, hpa, q0]
    simp only [bindo_some, lete_eq]
    unfold X10_apply
    simp only [lete_eq]
    have hm : mnI (nI co) 20 = nI co := by
      unfold mnI
      split
      · rename_i hlt
        rw [show (20 : Int32) = nI 20 from rfl, nI_ltI (by decide) (by omega)] at hlt
        omega
      · rfl
    rw [hkc, hm]
    have g1 : loopF (fun (rec : (Int32 × Int32 × Int32 × Int32) → Option (Int32)) (s : Int32 × Int32 × Int32 × Int32) => X10_apply_l13 n 13 rec σ s.1 s.2.1 s.2.2.1 s.2.2.2) FU (nI k, nI T, mxI (τ.1 15 k) (mnI (τ.1 16 k) (τ.1 2 (7 * (T - d) + s))), nI co - 1) = some v := g1
    rw [g1]
    rfl
  · have hraw : X12_raw τ (nI k) (nI T) = some (τ.1 2 (7 * (T - d) + s)) := by
      unfold X12_raw
      rw [inb_nI (show k < 8 by omega) (by decide), ix_nI (by omega), ed, pk_sub hdT, q8, show (7 : Int32) * nI (T - d) + nI s = nI (7 * (T - d) + s) by rw [show (7 : Int32) = nI 7 from rfl, pk_mul, nI_add], inb_nI (by omega) (by decide), ix_nI (by omega)]
      simp only [chk_t]
    have hb : X12_corrected_b53 τ (nI k) (nI T) (cutI (τ.1 2 (7 * (T - d) + s)) (τ.1 15 k) (τ.1 16 k)).toInt64 = some v.toInt64 := by
      unfold X12_corrected_b53
      simp only [lete_eq]
      rw [hc5]
      exact g2
    unfold X12_corrected
    rw [hraw, inb_nI (show k < 8 by omega) (by decide), ix_nI (by omega)]
    simp only [bindo_some, lete_eq, chk_t, lg_cmp_ge, lg_cmp_le, Int64.le_iff_toInt_le, Int32.toInt_toInt64]
    unfold cutI mxI mnI at hb
    simp only [Int32.lt_iff_toInt_lt] at hb
    by_cases c1 : (τ.1 15 k).toInt ≤ (τ.1 2 (7 * (T - d) + s)).toInt
    · rw [if_pos c1]
      by_cases c2 : (τ.1 2 (7 * (T - d) + s)).toInt ≤ (τ.1 16 k).toInt
      · rw [if_pos c2]
        rw [show (if (τ.1 15 k).toInt < (if (τ.1 2 (7 * (T - d) + s)).toInt < (τ.1 16 k).toInt then τ.1 2 (7 * (T - d) + s) else τ.1 16 k).toInt then (if (τ.1 2 (7 * (T - d) + s)).toInt < (τ.1 16 k).toInt then τ.1 2 (7 * (T - d) + s) else τ.1 16 k) else τ.1 15 k) = τ.1 2 (7 * (T - d) + s) from ?_] at hb
        · exact hb
        · have hz : (if (τ.1 2 (7 * (T - d) + s)).toInt < (τ.1 16 k).toInt then τ.1 2 (7 * (T - d) + s) else τ.1 16 k) = τ.1 2 (7 * (T - d) + s) := by
            split
            · rfl
            · apply Int32.toInt_inj.mp
              omega
          rw [hz]
          split
          · rfl
          · apply Int32.toInt_inj.mp
            omega
      · rw [if_neg c2]
        rw [show (if (τ.1 15 k).toInt < (if (τ.1 2 (7 * (T - d) + s)).toInt < (τ.1 16 k).toInt then τ.1 2 (7 * (T - d) + s) else τ.1 16 k).toInt then (if (τ.1 2 (7 * (T - d) + s)).toInt < (τ.1 16 k).toInt then τ.1 2 (7 * (T - d) + s) else τ.1 16 k) else τ.1 15 k) = τ.1 16 k from ?_] at hb
        · exact hb
        · apply Int32.toInt_inj.mp
          rw [if_neg (show ¬ (τ.1 2 (7 * (T - d) + s)).toInt < (τ.1 16 k).toInt by omega)]
          split <;> omega
    · rw [if_neg c1]
      rw [show (if (τ.1 15 k).toInt < (if (τ.1 2 (7 * (T - d) + s)).toInt < (τ.1 16 k).toInt then τ.1 2 (7 * (T - d) + s) else τ.1 16 k).toInt then (if (τ.1 2 (7 * (T - d) + s)).toInt < (τ.1 16 k).toInt then τ.1 2 (7 * (T - d) + s) else τ.1 16 k) else τ.1 15 k) = τ.1 15 k from ?_] at hb
      · exact hb
      · apply Int32.toInt_inj.mp
        rw [if_pos (show (τ.1 2 (7 * (T - d) + s)).toInt < (τ.1 16 k).toInt by omega)]
        split <;> omega
theorem full_ok (h : RelR n lo co σ τ) (hk : k < n) (hT : T ≤ 3000) (hd : ∃ d, d ≤ T ∧ τ.1 14 k = nI d) : ∃ r, (r = 0 ∨ r = 1) ∧ X2_isFull n σ (100 + k) (nI T) = some r ∧ X12_isCut τ (nI k) (nI T) = some r := by
  obtain ⟨hpa, hlc, h1, h2, h3, hkc, -, -, -, -, hch, hn, hc4, hd4, hc5, hd5, -⟩ := h
  obtain ⟨q0, q1, q2, q3, q4, q5, q6, q7, ⟨s, hs, q8⟩, q9, q10, q11, q12, q13⟩ := hch k hk
  obtain ⟨d, hdT, ed⟩ := hd
  have hraw : X12_raw τ (nI k) (nI T) = some (τ.1 2 (7 * (T - d) + s)) := by
    unfold X12_raw
    rw [inb_nI (show k < 8 by omega) (by decide), ix_nI (by omega), ed, pk_sub hdT, q8, show (7 : Int32) * nI (T - d) + nI s = nI (7 * (T - d) + s) by rw [show (7 : Int32) = nI 7 from rfl, pk_mul, nI_add], inb_nI (by omega) (by decide), ix_nI (by omega)]
    simp only [chk_t]
  unfold X2_isFull X12_isCut
  rw [hraw, q3, ed, pk_sub hdT, q1, q8, ev_part σ (by omega) (show s ≤ 6 by omega) rfl rfl, q4, q5, hpa, inb_nI (show k < 8 by omega) (by decide), ix_nI (by omega)]
  simp only [bindo_some, chk_t, xw, bz_eq0, Decidable.not_not, Int32.lt_iff_toInt_lt, Int32.le_iff_toInt_le]
  by_cases c1 : (τ.1 2 (7 * (T - d) + s)).toInt < (τ.1 15 k).toInt
  · exact ⟨1, Or.inr rfl, by rw [if_neg (by omega)], by rw [if_pos c1]⟩
  · by_cases c2 : (τ.1 2 (7 * (T - d) + s)).toInt ≤ (τ.1 16 k).toInt
    · exact ⟨0, Or.inl rfl, by rw [if_pos (by omega)], by rw [if_neg c1, if_pos c2]⟩
    · exact ⟨1, Or.inr rfl, by rw [if_neg (by omega)], by rw [if_neg c1, if_neg c2]⟩
end READ
