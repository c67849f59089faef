/-! report -/
theorem ixl0 : ix 0 = 0 := by decide
theorem ixl1 : ix 1 = 1 := by decide
theorem ixl2 : ix 2 = 2 := by decide
theorem ixl3 : ix 3 = 3 := by decide
theorem ixl4 : ix 4 = 4 := by decide
theorem ixl5 : ix 5 = 5 := by decide
theorem ixl6 : ix 6 = 6 := by decide
theorem ixl7 : ix 7 = 7 := by decide
theorem inl0 : inb 0 8 = true := by decide
theorem inl2 : inb 2 8 = true := by decide
theorem inl3 : inb 3 8 = true := by decide
theorem inl4 : inb 4 8 = true := by decide
theorem corr_1 {τ τ' : Mem} (e : τ'.1 = τ.1) (a b : Int32) : X12_corrected τ' a b = X12_corrected τ a b := by
  have e2 : X12_corrected_l62 = X12_corrected_l62 := rfl
  unfold X12_corrected X12_raw X12_corrected_b53
  have e3 : ∀ (rec : (Int32 × Int32 × Int64 × Int32) → Option (Int64)) (v1 v2 : Int32) (v3 : Int64) (v5 : Int32), X12_corrected_l62 rec τ' v1 v2 v3 v5 = X12_corrected_l62 rec τ v1 v2 v3 v5 := by
    intro rec v1 v2 v3 v5
    unfold X12_corrected_l62 X12_corrected_b113
    rw [e]
  simp only [e3, e]
def RepI (c : Nat) (σ τ : Mem) : Prop := (∀ j, j < 8 → σ.2 23 j = τ.2 26 j) ∧ (σ.2 23 0).toInt = c
def RepP (c k : Nat) (τ : Mem) (tk bf : Int32) (va : Int64) (tm : Nat) : Prop := (c = 0 ∧ bf = -9) ∨ (0 < c ∧ ∃ (P : Nat) (v : Int32), P < tm ∧ bf = nI P ∧ tk = nI P ∧ va = v.toInt64 ∧ X12_corrected τ (nI k) (nI P) = some v.toInt64)
theorem i64_comm (a b : Int64) : a + b = b + a := Int64.add_comm a b
theorem mnL_M (a v : Int64) : mnL a v = if a ≤ v then a else v := by
  unfold mnL
  simp only [Int64.lt_iff_toInt_lt, Int64.le_iff_toInt_le]
  by_cases h : a.toInt ≤ v.toInt
  · rw [if_pos h, if_neg (by omega)]
  · rw [if_neg h, if_pos (by omega)]
theorem mxL_M (a v : Int64) : mxL a v = if v ≤ a then a else v := by
  unfold mxL
  simp only [Int64.lt_iff_toInt_lt, Int64.le_iff_toInt_le]
  by_cases h : v.toInt ≤ a.toInt
  · rw [if_pos h]
    by_cases h2 : v.toInt < a.toInt
    · rw [if_pos h2]
    · rw [if_neg h2]
      apply Int64.toInt_inj.mp
      omega
  · rw [if_neg h, if_neg (by omega)]
def fl (r : Int32) : Int64 := if r = 0 then 0 else 1
/-- what one reading more does to the class's row, the first one or a later one -/
def cntX (σ : Mem) (v : Int64) (r : Int32) (least most : Int64) : Mem := wJ (wJ (wJ (wJ (wJ σ 23 0 (σ.2 23 0 + 1)) 23 2 (σ.2 23 2 + fl r)) 23 3 least) 23 4 most) 23 5 (σ.2 23 5 + v)
theorem ev_count0 {n : Nat} {σ : Mem} (h : (σ.2 23 0).toInt = 0) (v : Int64) (r : Int32) : X7_count n σ v r = some (cntX σ v r v v) := by
  have h0 : σ.2 23 0 = 0 := Int64.toInt_inj.mp (by rw [h]; rfl)
  have n10 : ¬ (1 : Int32) = 0 := by decide
  unfold X7_count X7_count_b16 X7_count_b44 X7_count_b70 X7_count_b95 cntX fl
  simp only [ixl0, ixl2, ixl3, ixl4, ixl5, inl2, inl3, inl4, chk_t, lete_eq]
  rw [if_neg (fun z => z ((lg_cmp_eq _ _).mpr h0))]
  by_cases hr : r = 0
  · simp only [hr, if_true, if_neg n10]
    rfl
  · simp only [if_neg hr, if_neg n10]
    rfl
theorem ev_countS {n : Nat} {σ : Mem} (h : ¬ (σ.2 23 0).toInt = 0) (v : Int64) (r : Int32) : X7_count n σ v r = some (cntX σ v r (mnL (σ.2 23 3) v) (mxL (σ.2 23 4) v)) := by
  have h0 : ¬ σ.2 23 0 = 0 := fun e => h (by rw [e]; rfl)
  unfold X7_count X7_count_b16 X7_count_b44 X7_count_b70 X7_count_b95 cntX fl
  simp only [ixl0, ixl2, ixl3, ixl4, ixl5, inl2, inl3, inl4, chk_t, lete_eq]
  rw [if_pos (fun z => h0 ((lg_cmp_eq _ _).mp z))]
  by_cases hr : r = 0
  · simp only [hr, if_true]
    rfl
  · simp only [if_neg hr, if_true]
    rfl
theorem mult_free {ra tx tm : Nat} (h : tx % ra = 0) (h1 : tm < tx) (h2 : tx < tm + ra) : ¬ tm % ra = 0 := by
  intro e
  have h3 : (tx - tm) % ra = 0 := Nat.sub_mod_eq_zero_of_mod_eq (by rw [h, e])
  rw [Nat.mod_eq_of_lt (by omega)] at h3
  omega
def cntM (τ : Mem) (v : Int64) (r : Int32) (least most : Int64) : Mem := wJ (wJ (wJ (wJ (wJ τ 26 3 least) 26 4 most) 26 0 (τ.2 26 0 + 1)) 26 2 (τ.2 26 2 + fl r)) 26 5 (τ.2 26 5 + v)
theorem ev_mrep {k T TO ra : Nat} {τ : Mem} {bf r : Int32} {v : Int32} (hk : k < 8) (hT : T ≤ TO) (hTO : TO ≤ 3000) (hra : τ.1 13 k = nI ra) (h1 : 1 ≤ ra) (h2 : ra ≤ 20) (hm : T % ra = 0) (hl : X12_isLost τ (nI k) (nI T) = some 0) (hv : X12_corrected τ (nI k) (nI T) = some v.toInt64) (hf : ∀ τ', τ'.1 = τ.1 → X12_isCut τ' (nI k) (nI T) = some r) (rec : (Mem × Int32 × Int32 × Int32 × Int32) → Option (Mem)) :
    X12_makeReport_l64 rec τ (nI k) (nI TO) bf (nI T) = X12_makeReport_b230 rec (wJ (wJ (wJ τ 26 3 (if τ.2 26 0 = 0 then v.toInt64 else if τ.2 26 3 ≤ v.toInt64 then τ.2 26 3 else v.toInt64)) 26 4 (if τ.2 26 0 = 0 then v.toInt64 else if v.toInt64 ≤ τ.2 26 4 then τ.2 26 4 else v.toInt64)) 26 0 (τ.2 26 0 + 1)) (nI k) (nI TO) bf (nI T) v.toInt64 (fl r) (τ.2 26 2) 2 := by
  have hb197 : ∀ (τ1 : Mem) (s0 : Int64), τ1.1 = τ.1 → X12_makeReport_b197 rec τ1 (nI k) (nI TO) bf (nI T) v.toInt64 s0 4 = X12_makeReport_b230 rec (wJ (wJ τ1 26 4 s0) 26 0 (τ1.2 26 0 + 1)) (nI k) (nI TO) bf (nI T) v.toInt64 (fl r) (τ1.2 26 2) 2 := by
    intro τ1 s0 e1
    unfold X12_makeReport_b197
    simp only [ixl0, ixl2, ixl4, inl4, chk_t, lete_eq]
    rw [show (wJ τ1 26 4 s0).2 26 0 = τ1.2 26 0 from rfl, hf _ (show (wJ (wJ τ1 26 4 s0) 26 0 (τ1.2 26 0 + 1)).1 = τ.1 from e1)]
    simp only [bindo_some]
    rw [show (wJ (wJ τ1 26 4 s0) 26 0 (τ1.2 26 0 + 1)).2 26 2 = τ1.2 26 2 from rfl]
    unfold fl
    by_cases hr : r = 0
    · rw [if_pos hr, if_pos hr]
    · rw [if_neg hr, if_neg hr]
  have hb157 : ∀ (s0 : Int64), X12_makeReport_b157 rec τ (nI k) (nI TO) bf (nI T) v.toInt64 s0 3 = X12_makeReport_b230 rec (wJ (wJ (wJ τ 26 3 s0) 26 4 (if τ.2 26 0 = 0 then v.toInt64 else if v.toInt64 ≤ τ.2 26 4 then τ.2 26 4 else v.toInt64)) 26 0 (τ.2 26 0 + 1)) (nI k) (nI TO) bf (nI T) v.toInt64 (fl r) (τ.2 26 2) 2 := by
    intro s0
    unfold X12_makeReport_b157 X12_makeReport_b186
    simp only [ixl0, ixl3, ixl4, inl3, chk_t, lete_eq]
    rw [hb197 (wJ τ 26 3 s0) _ rfl, hb197 (wJ τ 26 3 s0) _ rfl]
    rw [show (wJ τ 26 3 s0).2 26 0 = τ.2 26 0 from rfl, show (wJ τ 26 3 s0).2 26 4 = τ.2 26 4 from rfl, show (wJ τ 26 3 s0).2 26 2 = τ.2 26 2 from rfl]
    by_cases c0 : τ.2 26 0 = 0
    · rw [if_pos ((lg_cmp_eq _ _).mpr c0), if_pos c0]
    · rw [if_neg (fun z => c0 ((lg_cmp_eq _ _).mp z)), if_neg c0]
      by_cases c1 : v.toInt64 ≤ τ.2 26 4
      · rw [if_pos ((lg_cmp_le _ _).mpr c1), if_pos c1]
      · rw [if_neg (fun z => c1 ((lg_cmp_le _ _).mp z)), if_neg c1]
  rw [X12_makeReport_l64, if_neg (nI_nlt hT (by omega)), inb_nI hk (by decide), ix_nI (by omega), hra]
  rw [show nz (nI ra) = true by simp [nz]; exact nI_ne0 (by omega) (by omega), pk_rem (by omega) (by omega) (by omega), hm, hl]
  simp only [chk_t]
  rw [if_pos (by decide)]
  simp only [bindo_some]
  rw [if_pos trivial, hv]
  simp only [bindo_some, ixl0, ixl3]
  unfold X12_makeReport_b146
  rw [hb157, hb157]
  by_cases c0 : τ.2 26 0 = 0
  · rw [if_pos ((lg_cmp_eq _ _).mpr c0)]
    simp only [if_pos c0]
  · rw [if_neg (fun z => c0 ((lg_cmp_eq _ _).mp z))]
    simp only [if_neg c0]
    by_cases c1 : τ.2 26 3 ≤ v.toInt64
    · rw [if_pos ((lg_cmp_ge _ _).mpr c1), if_pos c1]
    · rw [if_neg (fun z => c1 ((lg_cmp_ge _ _).mp z)), if_neg c1]
theorem rep_step {n lo co k T TO ra c : Nat} {σ τ : Mem} {tk bf : Int32} {va : Int64} (hR : RelR n lo co σ τ) (hk : k < n) (hT : T ≤ TO) (hTO : TO ≤ 3000) (hra : τ.1 13 k = nI ra) (h1 : 1 ≤ ra) (h2 : ra ≤ 20) (hm : T % ra = 0) (hI : RepI c σ τ) (hP : RepP c k τ tk bf va T) (hc : c ≤ 3001) (hl1 : X2_isLost n σ (100 + k) (nI T) = some 0) (hl2 : X12_isLost τ (nI k) (nI T) = some 0) (hd : ∃ d, d ≤ T ∧ τ.1 14 k = nI d) :
    ∃ (σ' τ' : Mem) (va' : Int64), (∀ rec, X7_reckon_l57 n (100 + k) rec σ (nI TO) tk va (nI T) = rec (σ', nI TO, nI T, va', nI (T + ra))) ∧ (∀ rec, X12_makeReport_l64 rec τ (nI k) (nI TO) bf (nI T) = rec (τ', nI k, nI TO, nI T, nI (T + 1))) ∧ σ'.1 = σ.1 ∧ τ'.1 = τ.1 ∧ σ'.2 24 = σ.2 24 ∧ τ'.2 28 = τ.2 28 ∧ RepI (c + 1) σ' τ' ∧ RepP (c + 1) k τ' (nI T) (nI T) va' (T + 1) := by
  obtain ⟨v, y1, y2, -, -⟩ := value_ok hR hk (by omega : T ≤ 3000) hd
  have y1 := y1 hl1
  obtain ⟨r, hr, f1, f2⟩ := full_ok hR hk (by omega : T ≤ 3000) hd
  have f1' : ∀ σ', σ'.1 = σ.1 → X2_isFull n σ' (100 + k) (nI T) = some r := fun σ' e => by
    obtain ⟨r', -, g1, g2⟩ := full_ok (relR_1 hR e rfl) hk (by omega : T ≤ 3000) hd
    rw [g1, ← g2, f2]
  have f2' : ∀ τ', τ'.1 = τ.1 → X12_isCut τ' (nI k) (nI T) = some r := fun τ' e => by
    obtain ⟨r', -, g1, g2⟩ := full_ok (relR_1 hR rfl e) hk (by omega : T ≤ 3000) (by rw [e]; exact hd)
    rw [g2, ← g1, f1]
  have hk8 : k < 8 := by have := hR.2.2.2.2.2.2.2.2.2.2.2.1; omega
  have hch := hR.2.2.2.2.2.2.2.2.2.2.1
  obtain ⟨q0, q1, q2, q3, q4, q5, q6, q7, q8, q9, q10⟩ := hch k hk
  have hr2 : σ.1 (100 + k) 2 = nI ra := q2.trans hra
  obtain ⟨hrow, hcc⟩ := hI
  have r0 := hrow 0 (by decide)
  have r1 := hrow 1 (by decide)
  have r2 := hrow 2 (by decide)
  have r3 := hrow 3 (by decide)
  have r4 := hrow 4 (by decide)
  have r5 := hrow 5 (by decide)
  have r6 := hrow 6 (by decide)
  have r7 := hrow 7 (by decide)
  have hM := ev_mrep (bf := bf) hk8 hT hTO hra h1 h2 hm hl2 y2 f2'
  have hX : ∀ rec, X7_reckon_l57 n (100 + k) rec σ (nI TO) tk va (nI T) = if (lg_cmp (σ.2 23 0) 0) ≤ 0 then X7_reckon_b126 n (100 + k) rec σ (nI TO) (nI T) v.toInt64 else bindo (X7_join n σ (nI ra) (nI T - tk) (va + v.toInt64)) (fun σ4 => X7_reckon_b126 n (100 + k) rec σ4 (nI TO) (nI T) v.toInt64) := by
    intro rec
    rw [X7_reckon_l57, if_neg (nI_nlt hT (by omega)), y1]
    simp only [bindo_some, ixl0, hr2]
    rw [if_pos (fun z => v_ne_lost ((lg_cmp_eq _ _).mp z))]
  have hX126 : ∀ rec (σ1 σ2 : Mem), σ1.1 = σ.1 → σ2.1 = σ.1 → X7_count n σ1 v.toInt64 r = some σ2 → X7_reckon_b126 n (100 + k) rec σ1 (nI TO) (nI T) v.toInt64 = rec (σ2, nI TO, nI T, v.toInt64, nI (T + ra)) := by
    intro rec σ1 σ2 e1 e2 e3
    unfold X7_reckon_b126 X7_reckon_b150
    rw [f1' σ1 e1]
    simp only [bindo_some, lete_eq]
    rw [e3]
    simp only [bindo_some]
    rw [e2, hr2, mx1 h1 h2, nI_add]
  have hi : ∀ (P : Nat → Prop), P 0 → P 1 → P 2 → P 3 → P 4 → P 5 → P 6 → P 7 → ∀ j, j < 8 → P j := by
    intro P p0 p1 p2 p3 p4 p5 p6 p7 j hj
    rcases (show j = 0 ∨ j = 1 ∨ j = 2 ∨ j = 3 ∨ j = 4 ∨ j = 5 ∨ j = 6 ∨ j = 7 by omega) with rfl | rfl | rfl | rfl | rfl | rfl | rfl | rfl
    · exact p0
    · exact p1
    · exact p2
    · exact p3
    · exact p4
    · exact p5
    · exact p6
    · exact p7
  have hc1 : (σ.2 23 0 + 1).toInt = ((c + 1 : Nat) : Int) := by
    rw [i64_add (by rw [hcc, t64_1]; omega) (by rw [hcc, t64_1]; omega), hcc, t64_1]
    omega
  rcases hP with ⟨hc0, hbf⟩ | ⟨hc0, P, w, hPT, hbf, htk, hva, hcw⟩
  · subst hc0
    have z0 : σ.2 23 0 = 0 := Int64.toInt_inj.mp (by rw [hcc]; rfl)
    have z1 : τ.2 26 0 = 0 := r0.symm.trans z0
    refine ⟨cntX σ v.toInt64 r v.toInt64 v.toInt64, cntM τ v.toInt64 r v.toInt64 v.toInt64, v.toInt64, fun rec => ?_, fun rec => ?_, rfl, rfl, rfl, rfl, ⟨hi _ ?_ ?_ ?_ ?_ ?_ ?_ ?_ ?_, ?_⟩, Or.inr ⟨by omega, T, v, by omega, rfl, rfl, rfl, (corr_1 (τ := τ) rfl _ _).trans y2⟩⟩
    · rw [hX, if_pos ((lg_cmp_le _ _).mpr (by rw [z0]; decide)), hX126 rec σ (cntX σ v.toInt64 r v.toInt64 v.toInt64) rfl rfl (ev_count0 (by rw [hcc]; rfl) _ _)]
    · rw [hM, if_pos z1, if_pos z1]
      unfold X12_makeReport_b230 X12_makeReport_b295 X12_makeReport_b313 X12_makeReport_b317
      simp only [ixl2, ixl5, inl2, chk_t, lete_eq]
      rw [if_pos hbf, if_pos hbf, nI_1]
      rfl
    · show σ.2 23 0 + 1 = τ.2 26 0 + 1
      rw [r0]
    · exact r1
    · show σ.2 23 2 + fl r = τ.2 26 2 + fl r
      rw [r2]
    · rfl
    · rfl
    · show σ.2 23 5 + v.toInt64 = τ.2 26 5 + v.toInt64
      rw [r5]
    · exact r6
    · exact r7
    · exact hc1
  · have z0 : ¬ σ.2 23 0 = 0 := fun e => by rw [e] at hcc; rw [t64_0] at hcc; omega
    have z1 : ¬ τ.2 26 0 = 0 := fun e => z0 (r0.trans e)
    have hz : ¬ (σ.2 23 0).toInt = 0 := by rw [hcc]; omega
    have hle : ¬ lg_cmp (σ.2 23 0) 0 ≤ 0 := fun z => by
      have := (lg_cmp_le _ _).mp z
      rw [Int64.le_iff_toInt_le, hcc, t64_0] at this
      omega
    have hbn : ¬ bf = -9 := by
      rw [hbf]
      intro e
      have := congrArg Int32.toInt e
      rw [nI_toInt (by omega), show (-9 : Int32).toInt = -9 by decide] at this
      omega
    have hjoin : X7_join n σ (nI ra) (nI T - tk) (va + v.toInt64) = some (if T - P = ra then wJ σ 23 6 (σ.2 23 6 + (va + v.toInt64) * (nI ra).toInt64) else wJ σ 23 7 (σ.2 23 7 + 1)) := by
      unfold X7_join
      rw [htk, pk_sub (by omega)]
      simp only [ixl6, ixl7, lete_eq]
      by_cases e : T - P = ra
      · rw [if_neg (by rw [e]; exact fun z => z rfl), if_pos e]
      · rw [if_pos (fun z => e ((nI_eq (by omega) (by omega)).mp z)), if_neg e]
    have hM2 : ∀ rec, X12_makeReport_l64 rec τ (nI k) (nI TO) bf (nI T) = rec ((if T - P = ra then wJ (cntM τ v.toInt64 r (mnL (σ.2 23 3) v.toInt64) (mxL (σ.2 23 4) v.toInt64)) 26 6 (τ.2 26 6 + (v.toInt64 + w.toInt64) * (nI ra).toInt64) else wJ (cntM τ v.toInt64 r (mnL (σ.2 23 3) v.toInt64) (mxL (σ.2 23 4) v.toInt64)) 26 7 (τ.2 26 7 + 1)), nI k, nI TO, nI T, nI (T + 1)) := by
      intro rec
      rw [hM, if_neg z1, if_neg z1, mnL_M, mxL_M, r3, r4]
      unfold X12_makeReport_b230 X12_makeReport_b295 X12_makeReport_b313 X12_makeReport_b317
      simp only [ixl2, ixl5, ixl6, ixl7, inl2, chk_t, lete_eq]
      rw [if_neg hbn, if_neg hbn, inb_nI hk8 (by decide), ix_nI (by omega), hbf, pk_sub (by omega), nI_1]
      simp only [chk_t]
      generalize (if τ.2 26 3 ≤ v.toInt64 then τ.2 26 3 else v.toInt64) = L3
      generalize (if v.toInt64 ≤ τ.2 26 4 then τ.2 26 4 else v.toInt64) = L4
      have hcm : wJ (wJ (wJ (wJ (wJ τ 26 3 L3) 26 4 L4) 26 0 (τ.2 26 0 + 1)) 26 2 (τ.2 26 2 + fl r)) 26 5 ((wJ (wJ (wJ (wJ τ 26 3 L3) 26 4 L4) 26 0 (τ.2 26 0 + 1)) 26 2 (τ.2 26 2 + fl r)).2 26 5 + v.toInt64) = cntM τ v.toInt64 r L3 L4 := rfl
      rw [hcm]
      rw [show (cntM τ v.toInt64 r L3 L4).1 = τ.1 from rfl, hra, corr_1 (τ := τ) (τ' := cntM τ v.toInt64 r L3 L4) rfl, hcw]
      simp only [bindo_some]
      rw [show (cntM τ v.toInt64 r L3 L4).2 26 6 = τ.2 26 6 from rfl, show (cntM τ v.toInt64 r L3 L4).2 26 7 = τ.2 26 7 from rfl]
      by_cases e : T - P = ra
      · rw [if_neg (by rw [e]; exact fun z => z rfl), if_pos e]
      · rw [if_pos (fun z => e ((nI_eq (by omega) (by omega)).mp z)), if_neg e]
    have hva2 : va + v.toInt64 = v.toInt64 + w.toInt64 := by rw [hva, i64_comm]
    by_cases e : T - P = ra
    · refine ⟨cntX (wJ σ 23 6 (σ.2 23 6 + (va + v.toInt64) * (nI ra).toInt64)) v.toInt64 r (mnL (σ.2 23 3) v.toInt64) (mxL (σ.2 23 4) v.toInt64), wJ (cntM τ v.toInt64 r (mnL (σ.2 23 3) v.toInt64) (mxL (σ.2 23 4) v.toInt64)) 26 6 (τ.2 26 6 + (v.toInt64 + w.toInt64) * (nI ra).toInt64), v.toInt64, fun rec => ?_, fun rec => ?_, rfl, rfl, rfl, rfl, ⟨hi _ ?_ ?_ ?_ ?_ ?_ ?_ ?_ ?_, ?_⟩, Or.inr ⟨by omega, T, v, by omega, rfl, rfl, rfl, (corr_1 (τ := τ) rfl _ _).trans y2⟩⟩
      · rw [hX, if_neg hle, hjoin, if_pos e]
        simp only [bindo_some]
        rw [hX126 rec (wJ σ 23 6 (σ.2 23 6 + (va + v.toInt64) * (nI ra).toInt64)) (cntX (wJ σ 23 6 (σ.2 23 6 + (va + v.toInt64) * (nI ra).toInt64)) v.toInt64 r (mnL (σ.2 23 3) v.toInt64) (mxL (σ.2 23 4) v.toInt64)) rfl rfl (ev_countS (σ := wJ σ 23 6 (σ.2 23 6 + (va + v.toInt64) * (nI ra).toInt64)) hz _ _)]
      · rw [hM2, if_pos e]
      · show σ.2 23 0 + 1 = τ.2 26 0 + 1
        rw [r0]
      · exact r1
      · show σ.2 23 2 + fl r = τ.2 26 2 + fl r
        rw [r2]
      · rfl
      · rfl
      · show σ.2 23 5 + v.toInt64 = τ.2 26 5 + v.toInt64
        rw [r5]
      · show σ.2 23 6 + (va + v.toInt64) * (nI ra).toInt64 = τ.2 26 6 + (v.toInt64 + w.toInt64) * (nI ra).toInt64
        rw [r6, hva2]
      · exact r7
      · exact hc1
    · refine ⟨cntX (wJ σ 23 7 (σ.2 23 7 + 1)) v.toInt64 r (mnL (σ.2 23 3) v.toInt64) (mxL (σ.2 23 4) v.toInt64), wJ (cntM τ v.toInt64 r (mnL (σ.2 23 3) v.toInt64) (mxL (σ.2 23 4) v.toInt64)) 26 7 (τ.2 26 7 + 1), v.toInt64, fun rec => ?_, fun rec => ?_, rfl, rfl, rfl, rfl, ⟨hi _ ?_ ?_ ?_ ?_ ?_ ?_ ?_ ?_, ?_⟩, Or.inr ⟨by omega, T, v, by omega, rfl, rfl, rfl, (corr_1 (τ := τ) rfl _ _).trans y2⟩⟩
      · rw [hX, if_neg hle, hjoin, if_neg e]
        simp only [bindo_some]
        rw [hX126 rec (wJ σ 23 7 (σ.2 23 7 + 1)) (cntX (wJ σ 23 7 (σ.2 23 7 + 1)) v.toInt64 r (mnL (σ.2 23 3) v.toInt64) (mxL (σ.2 23 4) v.toInt64)) rfl rfl (ev_countS (σ := wJ σ 23 7 (σ.2 23 7 + 1)) hz _ _)]
      · rw [hM2, if_neg e]
      · show σ.2 23 0 + 1 = τ.2 26 0 + 1
        rw [r0]
      · exact r1
      · show σ.2 23 2 + fl r = τ.2 26 2 + fl r
        rw [r2]
      · rfl
      · rfl
      · show σ.2 23 5 + v.toInt64 = τ.2 26 5 + v.toInt64
        rw [r5]
      · exact r6
      · show σ.2 23 7 + 1 = τ.2 26 7 + 1
        rw [r7]
      · exact hc1
theorem vLn {f : Nat → Int64} {k j : Nat} {x : Int64} (h : j ≠ k) : vp_updL f k x j = f j := if_neg h
theorem vLs {f : Nat → Int64} {k : Nat} {x : Int64} : vp_updL f k x k = x := if_pos rfl
theorem nI_nl2 {a b : Nat} (h : b < a) (ha : a < 2 ^ 31) : ¬ nI a ≤ nI b := fun z => by
  have := (nI_leI ha (by omega)).mp z
  omega
theorem rep_lost {n lo co k T TO ra c : Nat} {σ τ : Mem} {tk bf : Int32} {va : Int64} (hR : RelR n lo co σ τ) (hk : k < n) (hT : T ≤ TO) (hTO : TO ≤ 3000) (hra : τ.1 13 k = nI ra) (h1 : 1 ≤ ra) (h2 : ra ≤ 20) (hm : T % ra = 0) (hI : RepI c σ τ) (hP : RepP c k τ tk bf va T) (hl1 : X2_isLost n σ (100 + k) (nI T) = some 1) (hl2 : X12_isLost τ (nI k) (nI T) = some 1) :
    ∃ (σ' τ' : Mem), (∀ rec, X7_reckon_l57 n (100 + k) rec σ (nI TO) tk va (nI T) = rec (σ', nI TO, tk, va, nI (T + ra))) ∧ (∀ rec, X12_makeReport_l64 rec τ (nI k) (nI TO) bf (nI T) = rec (τ', nI k, nI TO, bf, nI (T + 1))) ∧ σ'.1 = σ.1 ∧ τ'.1 = τ.1 ∧ σ'.2 24 = σ.2 24 ∧ τ'.2 28 = τ.2 28 ∧ RepI c σ' τ' ∧ RepP c k τ' tk bf va (T + 1) := by
  have hk8 : k < 8 := by have := hR.2.2.2.2.2.2.2.2.2.2.2.1; omega
  obtain ⟨q0, q1, q2, q3, q4, q5, q6, q7, q8, q9, q10⟩ := hR.2.2.2.2.2.2.2.2.2.2.1 k hk
  have hr2 : σ.1 (100 + k) 2 = nI ra := q2.trans hra
  obtain ⟨hrow, hcc⟩ := hI
  refine ⟨wJ σ 23 1 (σ.2 23 1 + 1), wJ τ 26 1 (τ.2 26 1 + 1), fun rec => ?_, fun rec => ?_, rfl, rfl, wJ_ne _ _ _ (by decide), wJ_ne _ _ _ (by decide), ⟨fun j hj => ?_, ?_⟩, ?_⟩
  · rw [X7_reckon_l57, if_neg (nI_nlt hT (by omega))]
    unfold X2_value
    rw [hl1]
    simp only [bindo_some]
    rw [if_neg (by decide)]
    simp only [bindo_some, lete_eq, ixl1]
    rw [if_neg (fun z => z ((lg_cmp_eq _ _).mpr rfl))]
    unfold X7_reckon_b150
    simp only [lete_eq]
    rw [wJ_1, hr2, mx1 h1 h2, nI_add]
  · rw [X12_makeReport_l64, if_neg (nI_nlt hT (by omega)), inb_nI hk8 (by decide), ix_nI (by omega), hra]
    rw [show nz (nI ra) = true by simp [nz]; exact nI_ne0 (by omega) (by omega), pk_rem (by omega) (by omega) (by omega), hm, hl2]
    simp only [chk_t]
    rw [if_pos (by decide)]
    simp only [bindo_some]
    rw [if_neg (by decide)]
    unfold X12_makeReport_b317
    simp only [lete_eq, ixl1, nI_1]
  · rw [wJ_o, wJ_o]
    by_cases e : j = 1
    · subst e
      rw [vLs, vLs, hrow 1 (by decide)]
    · rw [vLn e, vLn e]
      exact hrow j hj
  · rw [wJ_o, vLn (by decide)]
    exact hcc
  · rcases hP with h | ⟨a1, P, v, b1, b2, b3, b4, b5⟩
    · exact Or.inl h
    · exact Or.inr ⟨a1, P, v, by omega, b2, b3, b4, (corr_1 (τ := τ) rfl _ _).trans b5⟩
theorem rep_skip {k T TO ra : Nat} {τ : Mem} {bf : Int32} (hk : k < 8) (hT : T ≤ TO) (hTO : TO ≤ 3000) (hra : τ.1 13 k = nI ra) (h1 : 1 ≤ ra) (h2 : ra ≤ 20) (hm : ¬ T % ra = 0) (rec : (Mem × Int32 × Int32 × Int32 × Int32) → Option (Mem)) : X12_makeReport_l64 rec τ (nI k) (nI TO) bf (nI T) = rec (τ, nI k, nI TO, bf, nI (T + 1)) := by
  rw [X12_makeReport_l64, if_neg (nI_nlt hT (by omega)), inb_nI hk (by decide), ix_nI (by omega), hra]
  rw [show nz (nI ra) = true by simp [nz]; exact nI_ne0 (by omega) (by omega), pk_rem (by omega) (by omega) (by omega)]
  simp only [chk_t]
  rw [if_neg (nI_ne0 (by omega) (by have := Nat.mod_lt T (show 0 < ra by omega); omega))]
  unfold X12_makeReport_b317
  simp only [lete_eq, nI_1]
theorem rep_loop {n lo co k TO ra : Nat} (hk : k < n) (hTO : TO ≤ 3000) (h1 : 1 ≤ ra) (h2 : ra ≤ 20) : ∀ (q f1 f2 tm tx c : Nat) (σ τ : Mem) (tk bf : Int32) (va : Int64), TO + 1 ≤ tm + q → tm ≤ 3001 → q < f1 → q < f2 → tm ≤ tx → tx < tm + ra → tx % ra = 0 → c ≤ tm → RelR n lo co σ τ → τ.1 13 k = nI ra → RepI c σ τ → RepP c k τ tk bf va tm →
    ∃ σ' τ' : Mem, loopF (fun (rec : (Mem × Int32 × Int32 × Int64 × Int32) → Option (Mem)) (s : Mem × Int32 × Int32 × Int64 × Int32) => X7_reckon_l57 n (100 + k) rec s.1 s.2.1 s.2.2.1 s.2.2.2.1 s.2.2.2.2) f1 (σ, nI TO, tk, va, nI tx) = some σ' ∧ loopF (fun (rec : (Mem × Int32 × Int32 × Int32 × Int32) → Option (Mem)) (s : Mem × Int32 × Int32 × Int32 × Int32) => X12_makeReport_l64 rec s.1 s.2.1 s.2.2.1 s.2.2.2.1 s.2.2.2.2) f2 (τ, nI k, nI TO, bf, nI tm) = some τ' ∧ σ'.1 = σ.1 ∧ τ'.1 = τ.1 ∧ σ'.2 24 = σ.2 24 ∧ τ'.2 28 = τ.2 28 ∧ ∀ j, j < 8 → σ'.2 23 j = τ'.2 26 j := by
  intro q
  induction q with
  | zero =>
    intro f1 f2 tm tx c σ τ tk bf va hq htm hf1 hf2 ha hb hc hd hR hra hI hP
    obtain ⟨f1, rfl⟩ : ∃ g, f1 = g + 1 := ⟨f1 - 1, by omega⟩
    obtain ⟨f2, rfl⟩ : ∃ g, f2 = g + 1 := ⟨f2 - 1, by omega⟩
    refine ⟨σ, τ, ?_, ?_, rfl, rfl, rfl, rfl, hI.1⟩
    · show X7_reckon_l57 n (100 + k) _ σ (nI TO) tk va (nI tx) = _
      rw [X7_reckon_l57, if_pos (nI_lt (by omega) (by omega))]
    · show X12_makeReport_l64 _ τ (nI k) (nI TO) bf (nI tm) = _
      rw [X12_makeReport_l64, if_pos (nI_lt (by omega) (by omega))]
  | succ q ih =>
    intro f1 f2 tm tx c σ τ tk bf va hq htm hf1 hf2 ha hb hc hd hR hra hI hP
    obtain ⟨f1, rfl⟩ : ∃ g, f1 = g + 1 := ⟨f1 - 1, by omega⟩
    obtain ⟨f2, rfl⟩ : ∃ g, f2 = g + 1 := ⟨f2 - 1, by omega⟩
    have hk8 : k < 8 := by have := hR.2.2.2.2.2.2.2.2.2.2.2.1; omega
    by_cases hle : TO < tm
    · refine ⟨σ, τ, ?_, ?_, rfl, rfl, rfl, rfl, hI.1⟩
      · show X7_reckon_l57 n (100 + k) _ σ (nI TO) tk va (nI tx) = _
        rw [X7_reckon_l57, if_pos (nI_lt (by omega) (by omega))]
      · show X12_makeReport_l64 _ τ (nI k) (nI TO) bf (nI tm) = _
        rw [X12_makeReport_l64, if_pos (nI_lt (by omega) (by omega))]
    · by_cases he : tm = tx
      · subst he
        obtain ⟨r, hr, g1, g2, g3⟩ := lost_ok hR hk (by omega : tm ≤ 3000)
        have hmod : (tm + ra) % ra = 0 := by rw [Nat.add_mod_right]; exact hc
        rcases hr with rfl | rfl
        · obtain ⟨σ1, τ1, va1, x1, x2, x3, x4, x5, x6, x7, x8⟩ := rep_step hR hk (by omega : tm ≤ TO) hTO hra h1 h2 hc hI hP (by omega) g1 g2 (g3 rfl)
          obtain ⟨σ2, τ2, y1, y2, y3, y4, y5, y6, y7⟩ := ih f1 f2 (tm + 1) (tm + ra) (c + 1) σ1 τ1 _ _ _ (by omega) (by omega) (by omega) (by omega) (by omega) (by omega) hmod (by omega) (relR_1 hR x3 x4) (by rw [x4]; exact hra) x7 x8
          exact ⟨σ2, τ2, (x1 _).trans y1, (x2 _).trans y2, y3.trans x3, y4.trans x4, y5.trans x5, y6.trans x6, y7⟩
        · obtain ⟨σ1, τ1, x1, x2, x3, x4, x5, x6, x7, x8⟩ := rep_lost hR hk (by omega : tm ≤ TO) hTO hra h1 h2 hc hI hP g1 g2
          obtain ⟨σ2, τ2, y1, y2, y3, y4, y5, y6, y7⟩ := ih f1 f2 (tm + 1) (tm + ra) c σ1 τ1 _ _ _ (by omega) (by omega) (by omega) (by omega) (by omega) (by omega) hmod (by omega) (relR_1 hR x3 x4) (by rw [x4]; exact hra) x7 x8
          exact ⟨σ2, τ2, (x1 _).trans y1, (x2 _).trans y2, y3.trans x3, y4.trans x4, y5.trans x5, y6.trans x6, y7⟩
      · have x2 := rep_skip (bf := bf) hk8 (by omega : tm ≤ TO) hTO hra h1 h2 (mult_free hc (by omega) hb)
        have hP2 : RepP c k τ tk bf va (tm + 1) := by
          rcases hP with h | ⟨a1, P, v, b1, b2, b3, b4, b5⟩
          · exact Or.inl h
          · exact Or.inr ⟨a1, P, v, by omega, b2, b3, b4, b5⟩
        obtain ⟨σ2, τ2, y1, y2, y3, y4, y5, y6, y7⟩ := ih (f1 + 1) f2 (tm + 1) tx c σ τ _ _ _ (by omega) (by omega) (by omega) (by omega) (by omega) (by omega) hc (by omega) hR hra hI hP2
        exact ⟨σ2, τ2, y1, (x2 _).trans y2, y3, y4, y5, y6, y7⟩
theorem rowX {n p1 : Nat} {v2 : Int32} (rec0 : (Mem × Int32 × Int32) → Option (Mem)) : ∀ (q i f : Nat) (σ : Mem), i + q = 8 → q < f → (∀ j, j < i → σ.2 23 j = 0) → ∃ σ' : Mem, loopF (fun (rec : (Mem × Int32 × Int32) → Option (Mem)) (s : Mem × Int32 × Int32) => X7_reckon_l2 n p1 rec s.1 s.2.1 s.2.2) f (σ, v2, nI i) = X7_reckon_l2 n p1 rec0 σ' v2 8 ∧ σ'.1 = σ.1 ∧ σ'.2 24 = σ.2 24 ∧ ∀ j, j < 8 → σ'.2 23 j = 0 := by
  intro q
  induction q with
  | zero =>
    intro i f σ hi hf hz
    obtain ⟨f, rfl⟩ : ∃ g, f = g + 1 := ⟨f - 1, by omega⟩
    obtain rfl : i = 8 := by omega
    refine ⟨σ, ?_, rfl, rfl, hz⟩
    show X7_reckon_l2 n p1 _ σ v2 (nI 8) = _
    rw [X7_reckon_l2, X7_reckon_l2, if_pos (by decide), if_pos (by decide)]
  | succ q ih =>
    intro i f σ hi hf hz
    obtain ⟨f, rfl⟩ : ∃ g, f = g + 1 := ⟨f - 1, by omega⟩
    obtain ⟨σ', y1, y2, y3, y4⟩ := ih (i + 1) f (wJ σ 23 i 0) (by omega) (by omega) (fun j hj => by
      rw [wJ_o]
      by_cases e : j = i
      · rw [e, vLs]
      · rw [vLn e]
        exact hz j (by omega))
    refine ⟨σ', Eq.trans ?_ y1, y2, y3.trans (wJ_ne _ _ _ (by decide)), y4⟩
    show X7_reckon_l2 n p1 _ σ v2 (nI i) = _
    rw [X7_reckon_l2, if_neg (show ¬ (8 : Int32) ≤ nI i by rw [show (8 : Int32) = nI 8 from rfl]; exact nI_nl2 (by omega) (by omega)), inb_nI (by omega) (by decide), ix_nI (by omega)]
    simp only [chk_t, lete_eq, nI_1]
theorem rowM {v1 v2 : Int32} (rec0 : (Mem × Int32 × Int32 × Int32) → Option (Mem)) : ∀ (q i f : Nat) (σ : Mem), i + q = 8 → q < f → (∀ j, j < i → σ.2 26 j = 0) → ∃ σ' : Mem, loopF (fun (rec : (Mem × Int32 × Int32 × Int32) → Option (Mem)) (s : Mem × Int32 × Int32 × Int32) => X12_makeReport_l2 rec s.1 s.2.1 s.2.2.1 s.2.2.2) f (σ, v1, v2, nI i) = X12_makeReport_l2 rec0 σ' v1 v2 8 ∧ σ'.1 = σ.1 ∧ σ'.2 28 = σ.2 28 ∧ ∀ j, j < 8 → σ'.2 26 j = 0 := by
  intro q
  induction q with
  | zero =>
    intro i f σ hi hf hz
    obtain ⟨f, rfl⟩ : ∃ g, f = g + 1 := ⟨f - 1, by omega⟩
    obtain rfl : i = 8 := by omega
    refine ⟨σ, ?_, rfl, rfl, hz⟩
    show X12_makeReport_l2 _ σ v1 v2 (nI 8) = _
    rw [X12_makeReport_l2, X12_makeReport_l2, if_pos (by decide), if_pos (by decide)]
  | succ q ih =>
    intro i f σ hi hf hz
    obtain ⟨f, rfl⟩ : ∃ g, f = g + 1 := ⟨f - 1, by omega⟩
    obtain ⟨σ', y1, y2, y3, y4⟩ := ih (i + 1) f (wJ σ 26 i 0) (by omega) (by omega) (fun j hj => by
      rw [wJ_o]
      by_cases e : j = i
      · rw [e, vLs]
      · rw [vLn e]
        exact hz j (by omega))
    refine ⟨σ', Eq.trans ?_ y1, y2, y3.trans (wJ_ne _ _ _ (by decide)), y4⟩
    show X12_makeReport_l2 _ σ v1 v2 (nI i) = _
    rw [X12_makeReport_l2, if_neg (show ¬ (8 : Int32) ≤ nI i by rw [show (8 : Int32) = nI 8 from rfl]; exact nI_nl2 (by omega) (by omega)), inb_nI (by omega) (by decide), ix_nI (by omega)]
    simp only [chk_t, lete_eq, nI_1]
theorem rep_ok {n t a st lo co mk ot : Nat} {σ τ : Mem} (h : RelC n t a st lo co mk ot σ τ) (k m : Nat) (hk : k < n) (hm : m < mk) : ∃ σ' τ' : Mem, X7_reckon n σ (100 + k) (nI m) = some σ' ∧ X12_makeReport τ (nI m) (nI k) = some τ' ∧ σ'.1 = σ.1 ∧ τ'.1 = τ.1 ∧ σ'.2 24 = σ.2 24 ∧ τ'.2 28 = τ.2 28 ∧ ∀ j, j < 8 → σ'.2 23 j = τ'.2 26 j := by
  have hR := relR_of h
  obtain ⟨e_fa, e_tr, e_mp, e_lg, e_ro, e_ti, e_at_, e_ki, e_ac, e_pa, e_sc, e_ld, e_mc, e_mt, e_cc, e_lc, e_l1, e_l2, e_l3, e_kc, e_k1, e_k2, e_k3, e_k4, e_oc, e_oa, e_b1, e_b2, e_pr, e_sh0, e_sh1, e_sh2, e_sh3, e_ch, e_c0, e_d0, e_c1, e_d1, e_c2, e_d2, e_c3, e_d3, e_c4, e_d4, e_c5, e_d5, e_c6, e_d6, e_c7, e_d7, e_ps, e_oz, e_rm, e_lb, e_ab, e_ru, e_mb, e_wb, e_w0, e_w1, e_ws, e_wp, e_kb, e_tb, e_bb⟩ := h
  obtain ⟨q0, q1, q2, q3, q4, q5, q6, q7, q8, ⟨ra, r1, r2, q9⟩, q10⟩ := e_ch k hk
  obtain ⟨σ1, a1, a2, a3, a4⟩ := rowX (n := n) (p1 := 100 + k) (v2 := nI m) (fun _ => none) 8 0 FU σ (by omega) (by decide) (fun j hj => by omega)
  obtain ⟨τ1, b1, b2, b3, b4⟩ := rowM (v1 := nI m) (v2 := nI k) (fun _ => none) 8 0 FU τ (by omega) (by decide) (fun j hj => by omega)
  have a1 : X7_reckon n σ (100 + k) (nI m) = X7_reckon_l2 n (100 + k) (fun _ => none) σ1 (nI m) 8 := a1
  have b1 : X12_makeReport τ (nI m) (nI k) = X12_makeReport_l2 (fun _ => none) τ1 (nI m) (nI k) 8 := b1
  obtain ⟨F, hF1, hF2, hF⟩ := e_tb m hm
  have hX5 : ∀ x : Int32, (hx : 0 ≤ x.toInt ∧ x.toInt ≤ 19) → X5_first n σ1 x = some (σ1.1 19 (ix x)) := by
    intro x hx
    obtain ⟨j, hj, rfl⟩ := nat_of 19 hx.1 (by omega) (by decide)
    unfold X5_first
    simp only [xw, bindo_some, bz_eq0, t32_0, t32_19]
    rw [if_neg (fun z => z hx), inb_nI (by omega) (by decide), chk_t]
  have hfirst : X5_first n σ1 (nI m) = some (nI F) := by
    rw [hX5 (nI m) (by rw [nI_toInt (by omega)]; omega), ix_nI (by omega), a2, e_mt, hF]
  have hhas : X5_has n σ1 (nI (m + 1)) = some (bz (m + 1 < mk)) := by
    unfold X5_has
    simp only [xw, bindo_some, t32_0, a2, e_mc, e_c6]
    rw [bz_isZ, chk_t, nI_m1 (by omega), nI_toInt (by omega), bz_congr (q := m + 1 < mk) (by omega)]
  have hff : X1_firstFrom n (100 + k) σ1 (nI F) = some (nI ((F + ra - 1) / ra * ra)) := by
    unfold X1_firstFrom X1_latestAt
    rw [a2, q2, q9, nI_add, show (1 : Int32) = nI 1 from rfl, pk_sub (by omega), if_neg (nI_nle (by omega) (by omega)), show nz (nI ra) = true by simp [nz]; exact nI_ne0 (by omega) (by omega), chk_t, pk_div (by omega) (by omega) (by omega), pk_mul]
    simp only [bindo_some]
  have hdm := Nat.div_add_mod (F + ra - 1) ra
  have hml := Nat.mod_lt (F + ra - 1) (show 0 < ra by omega)
  rw [Nat.mul_comm] at hdm
  have hmain : ∀ TO : Nat, TO ≤ 3000 → ∃ σ' τ' : Mem, loopF (fun (rec : (Mem × Int32 × Int32 × Int64 × Int32) → Option (Mem)) (s : Mem × Int32 × Int32 × Int64 × Int32) => X7_reckon_l57 n (100 + k) rec s.1 s.2.1 s.2.2.1 s.2.2.2.1 s.2.2.2.2) FU (σ1, nI TO, (0 : Int32), (0 : Int64), nI ((F + ra - 1) / ra * ra)) = some σ' ∧ X12_makeReport_b55 τ1 (nI k) (nI F) (nI TO) = some τ' ∧ σ'.1 = σ.1 ∧ τ'.1 = τ.1 ∧ σ'.2 24 = σ.2 24 ∧ τ'.2 28 = τ.2 28 ∧ ∀ j, j < 8 → σ'.2 23 j = τ'.2 26 j := by
    intro TO hTO
    obtain ⟨σ2, τ2, y1, y2, y3, y4, y5, y6, y7⟩ := rep_loop (k := k) (TO := TO) hk hTO r1 r2 3001 FU FU F ((F + ra - 1) / ra * ra) 0 σ1 τ1 0 (-9) 0 (by omega) (by omega) (by decide) (by decide) (by omega) (by omega) (Nat.mul_mod_left _ _) (by omega) (relR_1 hR a2 b2) (by rw [b2]; exact q9) ⟨fun j hj => by rw [a4 j hj, b4 j hj], by rw [a4 0 (by decide)]; rfl⟩ (Or.inl ⟨rfl, rfl⟩)
    exact ⟨σ2, τ2, y1, y2, y3.trans a2, y4.trans b2, y5.trans a3, y6.trans b3, y7⟩
  rw [a1, b1, X7_reckon_l2, X12_makeReport_l2, if_pos (by decide), if_pos (by decide)]
  unfold X5_last
  rw [nI_1, hhas, hfirst, inb_nI (show m < 20 by omega) (by decide), ix_nI (by omega), b2, hF, e_c6]
  simp only [bindo_some, chk_t, lete_eq, bz_eq0]
  by_cases c : m + 1 < mk
  · rw [if_neg (fun z => z c), if_neg (nI_nl2 c (by omega)), hX5 (nI (m + 1)) (by rw [nI_toInt (by omega)]; omega)]
    obtain ⟨F2, hG1, hG2, hG⟩ := e_tb (m + 1) c
    rw [inb_nI (show m + 1 < 20 by omega) (by decide), ix_nI (by omega), a2, e_mt, hG]
    simp only [bindo_some, chk_t]
    rw [hff, show (1 : Int32) = nI 1 from rfl, pk_sub (by omega)]
    simp only [bindo_some]
    exact hmain (F2 - 1) (by omega)
  · rw [if_pos c, if_pos (nI_le (by omega) (by omega)), a2, e_ti, e_c1]
    simp only [bindo_some]
    rw [hff]
    simp only [bindo_some]
    exact hmain t (by omega)
theorem f_report {n t a st lo co mk ot : Nat} {σ τ : Mem} (h : RelC n t a st lo co mk ot σ τ) (p q i : Int32) : Sim (RelE n) (X11_report n σ p q i) (X12_report τ p q i) := by
  have h0 := h
  obtain ⟨e_fa, e_tr, e_mp, e_lg, e_ro, e_ti, e_at_, e_ki, e_ac, e_pa, e_sc, e_ld, e_mc, e_mt, e_cc, e_lc, e_l1, e_l2, e_l3, e_kc, e_k1, e_k2, e_k3, e_k4, e_oc, e_oa, e_b1, e_b2, e_pr, e_sh0, e_sh1, e_sh2, e_sh3, e_ch, e_c0, e_d0, e_c1, e_d1, e_c2, e_d2, e_c3, e_d3, e_c4, e_d4, e_c5, e_d5, e_c6, e_d6, e_c7, e_d7, e_ps, e_oz, e_rm, e_lb, e_ab, e_ru, e_mb, e_wb, e_w0, e_w1, e_ws, e_wp, e_kb, e_tb, e_bb⟩ := h
  unfold X11_report X12_report
  rw [ev_find (e_cc.trans e_c0) e_d0]
  simp only [bindo_some]
  have hhas : X5_has n σ p = some (bz (0 ≤ p.toInt ∧ p.toInt < mk)) := by
    unfold X5_has
    simp only [xw, bindo_some, t32_0, e_mc, e_c6]
    rw [bz_isZ, chk_t, nI_m1 (by omega), bz_congr (q := 0 ≤ p.toInt ∧ p.toInt < mk) (by omega)]
  rw [hhas]
  simp only [bindo_some, bz_eq0]
  by_cases c1 : 0 ≤ p.toInt ∧ p.toInt < mk
  · obtain ⟨m, hm, rfl⟩ := nat_of 20 c1.1 (by omega) (by decide)
    rw [nI_toInt (by omega)] at c1
    rw [if_neg (show ¬ ¬ (0 ≤ (nI m).toInt ∧ (nI m).toInt < (mk : Int)) from fun z => z (by rw [nI_toInt (by omega)]; exact c1)), if_neg (show ¬ nI m < 0 by rw [Int32.lt_iff_toInt_lt, nI_toInt (by omega), t32_0]; omega), e_c6, if_neg (nI_nl2 (show m < mk by omega) (by omega)), ev_isChannel e_c0 e_d0]
    simp only [bindo_some, bz_eq0]
    by_cases c2 : 0 ≤ q.toInt ∧ q.toInt < n
    · obtain ⟨k, hk, rfl⟩ := nat_of 8 c2.1 (by omega) (by decide)
      rw [nI_toInt (by omega)] at c2
      have hk : k < n := by omega
      rw [nI_toInt (by omega), if_pos c2, if_neg (fun z => z c2)]
      simp only [Int.toNat_natCast, caseo]
      rw [isCh_of hk, chk_t]
      simp only [xw, mw, bindo_some, bz_eq0, t32_0, t32_7, t64_0, t64_7, Int32.toInt_toInt64, Decidable.not_not]
      by_cases c3 : 0 ≤ i.toInt ∧ i.toInt ≤ 7
      · rw [if_pos c3, if_pos c3]
        obtain ⟨j, hj, rfl⟩ := nat_of 7 c3.1 (by omega) (by decide)
        obtain ⟨σ', τ', y1, y2, y3, y4, y5, y6, y7⟩ := rep_ok h0 k m hk (by omega)
        rw [y1, y2]
        simp only [bindo_some]
        unfold X7_number
        simp only [xw, bindo_some, bz_eq0, t32_0, t32_7]
        rw [if_neg (fun z => z c3), inb_nI (by omega) (by decide), ix_nI (by omega)]
        simp only [chk_t, bindo_some]
        exact sim_ret' (y7 j (by omega)) ⟨_, _, _, _, _, _, _, relC_1 h0 y3 y4⟩
      · rw [if_neg c3, if_neg c3]
        exact sim_ret ⟨_, _, _, _, _, _, _, h0⟩
    · rw [if_neg c2, if_pos c2]
      simp only [caseo]
      exact sim_ret ⟨_, _, _, _, _, _, _, h0⟩
  · rw [if_pos c1]
    refine sim_r (fun _ => sim_ret ⟨_, _, _, _, _, _, _, h0⟩) (fun z1 => sim_r (fun _ => sim_ret ⟨_, _, _, _, _, _, _, h0⟩) (fun z2 => ?_))
    refine absurd ⟨?_, ?_⟩ c1
    · rw [Int32.lt_iff_toInt_lt, t32_0] at z1
      omega
    · rw [e_c6, Int32.le_iff_toInt_le, nI_toInt (by omega)] at z2
      omega
