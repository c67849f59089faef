/-! report -/
theorem ixl0 : ix 0 = 0 := by decide
theorem ixl1 : ix 1 = 1 := by decide
theorem ixl2 : ix 2 = 2 := by decide
theorem ixl3 : ix 3 = 3 := by decide
theorem ixl4 : ix 4 = 4 := by decide
theorem ixl5 : ix 5 = 5 := by decide
theorem ixl6 : ix 6 = 6 := by decide
theorem ixl7 : ix 7 = 7 := by decide
theorem inl0 : inb 0 8 = true := by decide
theorem inl2 : inb 2 8 = true := by decide
theorem inl3 : inb 3 8 = true := by decide
theorem inl4 : inb 4 8 = true := by decide
theorem corr_1 {τ τ' : Mem} (e : τ'.1 = τ.1) (a b : Int32) : X12_corrected τ' a b = X12_corrected τ a b := by
  have e2 : X12_corrected_l62 = X12_corrected_l62 := rfl
  unfold X12_corrected X12_raw X12_corrected_b53
  have e3 : ∀ (rec : (Int32 × Int32 × Int64 × Int32) → Option (Int64)) (v1 v2 : Int32) (v3 : Int64) (v5 : Int32), X12_corrected_l62 rec τ' v1 v2 v3 v5 = X12_corrected_l62 rec τ v1 v2 v3 v5 := by
    intro rec v1 v2 v3 v5
    unfold X12_corrected_l62 X12_corrected_b113
    rw [e]
  simp only [e3, e]
def RepI (c : Nat) (σ τ : Mem) : Prop := (∀ j, j < 8 → σ.2 23 j = τ.2 26 j) ∧ (σ.2 23 0).toInt = c
def RepP (c k : Nat) (τ : Mem) (tk bf : Int32) (va : Int64) (tm : Nat) : Prop := (c = 0 ∧ bf = -9) ∨ (0 < c ∧ ∃ (P : Nat) (v : Int32), P < tm ∧ bf = nI P ∧ tk = nI P ∧ va = v.toInt64 ∧ X12_corrected τ (nI k) (nI P) = some v.toInt64)
theorem i64_comm (a b : Int64) : a + b = b + a := Int64.add_comm a b
theorem mnL_M (a v : Int64) : mnL a v = if a ≤ v then a else v := by
  unfold mnL
  simp only [Int64.lt_iff_toInt_lt, Int64.le_iff_toInt_le]
  by_cases h : a.toInt ≤ v.toInt
  · rw [if_pos h, if_neg (by omega)]
  · rw [if_neg h, if_pos (by omega)]
theorem mxL_M (a v : Int64) : mxL a v = if v ≤ a then a else v := by
  unfold mxL
  simp only [Int64.lt_iff_toInt_lt, Int64.le_iff_toInt_le]
  by_cases h : v.toInt ≤ a.toInt
  · rw [if_pos h]
    by_cases h2 : v.toInt < a.toInt
    · rw [if_pos h2]
    · rw [if_neg h2]
      apply Int64.toInt_inj.mp
      omega
  · rw [if_neg h, if_neg (by omega)]
def fl (r : Int32) : Int64 := if r = 0 then 0 else 1
/-- what one reading more does to the class's row, the first one or a later one -/
def cntX (σ : Mem) (v : Int64) (r : Int32) (least most : Int64) : Mem := wJ (wJ (wJ (wJ (wJ σ 23 0 (σ.2 23 0 + 1)) 23 2 (σ.2 23 2 + fl r)) 23 3 least) 23 4 most) 23 5 (σ.2 23 5 + v)
theorem ev_count0 {n : Nat} {σ : Mem} (h : (σ.2 23 0).toInt = 0) (v : Int64) (r : Int32) : X7_count n σ v r = some (cntX σ v r v v) := by
  have h0 : σ.2 23 0 = 0 := Int64.toInt_inj.mp (by rw [h]; rfl)
  have n10 : ¬ (1 : Int32) = 0 := by decide
  unfold X7_count X7_count_b16 X7_count_b44 X7_count_b70 X7_count_b95 cntX fl
  simp only [ixl0, ixl2, ixl3, ixl4, ixl5, inl2, inl3, inl4, chk_t, lete_eq]
  rw [if_neg (fun z => z ((lg_cmp_eq _ _).mpr h0))]
  by_cases hr : r = 0
  · simp only [hr, if_true, if_neg n10]
    rfl
  · simp only [if_neg hr, if_neg n10]
    rfl
theorem ev_countS {n : Nat} {σ : Mem} (h : ¬ (σ.2 23 0).toInt = 0) (v : Int64) (r : Int32) : X7_count n σ v r = some (cntX σ v r (mnL (σ.2 23 3) v) (mxL (σ.2 23 4) v)) := by
  have h0 : ¬ σ.2 23 0 = 0 := fun e => h (by rw [e]; rfl)
  unfold X7_count X7_count_b16 X7_count_b44 X7_count_b70 X7_count_b95 cntX fl
  simp only [ixl0, ixl2, ixl3, ixl4, ixl5, inl2, inl3, inl4, chk_t, lete_eq]
  rw [if_pos (fun z => h0 ((lg_cmp_eq _ _).mp z))]
  by_cases hr : r = 0
  · simp only [hr, if_true]
    rfl
  · simp only [if_neg hr, if_true]
    rfl
theorem mult_free {ra tx tm : Nat} (h : tx % ra = 0) (h1 : tm < tx) (h2 : tx < tm + ra) : ¬ tm % ra = 0 := by
  intro e
  have h3 : (tx - tm) % ra = 0 := Nat.sub_mod_eq_zero_of_mod_eq (by rw [h, e])
  rw [Nat.mod_eq_of_lt (by omega)] at h3
  omega
def cntM (τ : Mem) (v : Int64) (r : Int32) (least most : Int64) : Mem := wJ (wJ (wJ (wJ (wJ τ 26 3 least) 26 4 most) 26 0 (τ.2 26 0 + 1)) 26 2 (τ.2 26 2 + fl r)) 26 5 (τ.2 26 5 + v)
theorem ev_mrep {k T TO ra : Nat} {τ : Mem} {bf r : Int32} {v : Int32} (hk : k < 8) (hT : T ≤ TO) (hTO : TO ≤ 3000) (hra : τ.1 13 k = nI ra) (h1 : 1 ≤ ra) (h2 : ra ≤ 20) (hm : T % ra = 0) (hl : X12_isLost τ (nI k) (nI T) = some 0) (hv : X12_corrected τ (nI k) (nI T) = some v.toInt64) (hf : ∀ τ', τ'.1 = τ.1 → X12_isCut τ' (nI k) (nI T) = some r) (rec : (Mem × Int32 × Int32 × Int32 × Int32) → Option (Mem)) :
    X12_makeReport_l64 rec τ (nI k) (nI TO) bf (nI T) = X12_makeReport_b230 rec (wJ (wJ (wJ τ 26 3 (if τ.2 26 0 = 0 then v.toInt64 else if τ.2 26 3 ≤ v.toInt64 then τ.2 26 3 else v.toInt64)) 26 4 (if τ.2 26 0 = 0 then v.toInt64 else if v.toInt64 ≤ τ.2 26 4 then τ.2 26 4 else v.toInt64)) 26 0 (τ.2 26 0 + 1)) (nI k) (nI TO) bf (nI T) v.toInt64 (fl r) (τ.2 26 2) 2 := by
  have hb197 : ∀ (τ1 : Mem) (s0 : Int64), τ1.1 = τ.1 → X12_makeReport_b197 rec τ1 (nI k) (nI TO) bf (nI T) v.toInt64 s0 4 = X12_makeReport_b230 rec (wJ (wJ τ1 26 4 s0) 26 0 (τ1.2 26 0 + 1)) (nI k) (nI TO) bf (nI T) v.toInt64 (fl r) (τ1.2 26 2) 2 := by
    intro τ1 s0 e1
    unfold X12_makeReport_b197
    simp only [ixl0, ixl2, ixl4, inl4, chk_t, lete_eq]
    rw [show (wJ τ1 26 4 s0).2 26 0 = τ1.2 26 0 from rfl, hf _ (show (wJ (wJ τ1 26 4 s0) 26 0 (τ1.2 26 0 + 1)).1 = τ.1 from e1)]
    simp only [bindo_some]
    rw [show (wJ (wJ τ1 26 4 s0) 26 0 (τ1.2 26 0 + 1)).2 26 2 = τ1.2 26 2 from rfl]
    unfold fl
    by_cases hr : r = 0
    · rw [if_pos hr, if_pos hr]
    · rw [if_neg hr, if_neg hr]
  have hb157 : ∀ (s0 : Int64), X12_makeReport_b157 rec τ (nI k) (nI TO) bf (nI T) v.toInt64 s0 3 = X12_makeReport_b230 rec (wJ (wJ (wJ τ 26 3 s0) 26 4 (if τ.2 26 0 = 0 then v.toInt64 else if v.toInt64 ≤ τ.2 26 4 then τ.2 26 4 else v.toInt64)) 26 0 (τ.2 26 0 + 1)) (nI k) (nI TO) bf (nI T) v.toInt64 (fl r) (τ.2 26 2) 2 := by
    intro s0
    unfold X12_makeReport_b157 X12_makeReport_b186
    simp only [ixl0, ixl3, ixl4, inl3, chk_t, lete_eq]
    rw [hb197 (wJ τ 26 3 s0) _ rfl, hb197 (wJ τ 26 3 s0) _ rfl]
    rw [show (wJ τ 26 3 s0).2 26 0 = τ.2 26 0 from rfl, show (wJ τ 26 3 s0).2 26 4 = τ.2 26 4 from rfl, show (wJ τ 26 3 s0).2 26 2 = τ.2 26 2 from rfl]
    by_cases c0 : τ.2 26 0 = 0
    · rw [if_pos ((lg_cmp_eq _ _).mpr c0), if_pos c0]
    · rw [if_neg (fun z => c0 ((lg_cmp_eq _ _).mp z)), if_neg c0]
      by_cases c1 : v.toInt64 ≤ τ.2 26 4
      · rw [if_pos ((lg_cmp_le _ _).mpr c1), if_pos c1]
      · rw [if_neg (fun z => c1 ((lg_cmp_le _ _).mp z)), if_neg c1]
  rw [X12_makeReport_l64, if_neg (nI_nlt hT (by omega)), inb_nI hk (by decide), ix_nI (by omega), hra]
  rw [show nz (nI ra) = true by simp [nz]; exact nI_ne0 (by omega) (by omega), pk_rem (by omega) (by omega) (by omega), hm, hl]
  simp only [chk_t]
  rw [if_pos (by decide)]
  simp only [bindo_some]
  rw [if_pos trivial, hv]
  simp only [bindo_some, ixl0, ixl3]
  unfold X12_makeReport_b146
  rw [hb157, hb157]
  by_cases c0 : τ.2 26 0 = 0
  · rw [if_pos ((lg_cmp_eq _ _).mpr c0)]
    simp only [if_pos c0]
  · rw [if_neg (fun z => c0 ((lg_cmp_eq _ _).mp z))]
    simp only [if_neg c0]
    by_cases c1 : τ.2 26 3 ≤ v.toInt64
    · rw [if_pos ((lg_cmp_ge _ _).mpr c1), if_pos c1]
    · rw [if_neg (fun z => c1 ((lg_cmp_ge _ _).mp z)), if_neg c1]
theorem rep_step {n lo co k T TO ra c : Nat} {σ τ : Mem} {tk bf : Int32} {va : Int64} {tm : Nat} (hR : RelR n lo co σ τ) (hk : k < n) (hT : T ≤ TO) (hTO : TO ≤ 3000) (hra : τ.1 13 k = nI ra) (h1 : 1 ≤ ra) (h2 : ra ≤ 20) (hm : T % ra = 0) (hI : RepI c σ τ) (hP : RepP c k τ tk bf va T) (hc : c ≤ 3001) (hl1 : X2_isLost n σ (100 + k) (nI T) = some 0) (hl2 : X12_isLost τ (nI k) (nI T) = some 0) (hd : ∃ d, d ≤ T ∧ τ.1 14 k = nI d) :
    ∃ (σ' τ' : Mem) (va' : Int64), (∀ rec, X7_reckon_l57 n (100 + k) rec σ (nI TO) tk va (nI T) = rec (σ', nI TO, nI T, va', nI (T + ra))) ∧ (∀ rec, X12_makeReport_l64 rec τ (nI k) (nI TO) bf (nI T) = rec (τ', nI k, nI TO, nI T, nI (T + 1))) ∧ σ'.1 = σ.1 ∧ τ'.1 = τ.1 ∧ σ'.2 24 = σ.2 24 ∧ τ'.2 28 = τ.2 28 ∧ RepI (c + 1) σ' τ' ∧ RepP (c + 1) k τ' (nI T) (nI T) va' (T + 1) := by
  obtain ⟨v, y1, y2, -, -⟩ := value_ok hR hk (by omega : T ≤ 3000) hd
  have y1 := y1 hl1
  obtain ⟨r, hr, f1, f2⟩ := full_ok hR hk (by omega : T ≤ 3000) hd
  have f1' : ∀ σ', σ'.1 = σ.1 → X2_isFull n σ' (100 + k) (nI T) = some r := fun σ' e => by
    obtain ⟨r', -, g1, g2⟩ := full_ok (relR_1 hR e rfl) hk (by omega : T ≤ 3000) hd
    rw [g1, ← g2, f2]
  have f2' : ∀ τ', τ'.1 = τ.1 → X12_isCut τ' (nI k) (nI T) = some r := fun τ' e => by
    obtain ⟨r', -, g1, g2⟩ := full_ok (relR_1 hR rfl e) hk (by omega : T ≤ 3000) (by rw [e]; exact hd)
    rw [g2, ← g1, f1]
  have hk8 : k < 8 := by have := hR.2.2.2.2.2.2.2.2.2.2.2.1; omega
  have hch := hR.2.2.2.2.2.2.2.2.2.2.1
  obtain ⟨q0, q1, q2, q3, q4, q5, q6, q7, q8, q9, q10⟩ := hch k hk
  have hr2 : σ.1 (100 + k) 2 = nI ra := q2.trans hra
  obtain ⟨hrow, hcc⟩ := hI
  have r0 := hrow 0 (by decide)
  have r1 := hrow 1 (by decide)
  have r2 := hrow 2 (by decide)
  have r3 := hrow 3 (by decide)
  have r4 := hrow 4 (by decide)
  have r5 := hrow 5 (by decide)
  have r6 := hrow 6 (by decide)
  have r7 := hrow 7 (by decide)
  have hM := ev_mrep (bf := bf) hk8 hT hTO hra h1 h2 hm hl2 y2 f2'
  have hX : ∀ rec, X7_reckon_l57 n (100 + k) rec σ (nI TO) tk va (nI T) = if (lg_cmp (σ.2 23 0) 0) ≤ 0 then X7_reckon_b126 n (100 + k) rec σ (nI TO) (nI T) v.toInt64 else bindo (X7_join n σ (nI ra) (nI T - tk) (va + v.toInt64)) (fun σ4 => X7_reckon_b126 n (100 + k) rec σ4 (nI TO) (nI T) v.toInt64) := by
    intro rec
    rw [X7_reckon_l57, if_neg (nI_nlt hT (by omega)), y1]
    simp only [bindo_some, ixl0, hr2]
    rw [if_pos (fun z => v_ne_lost ((lg_cmp_eq _ _).mp z))]
  have hX126 : ∀ rec (σ1 σ2 : Mem), σ1.1 = σ.1 → σ2.1 = σ.1 → X7_count n σ1 v.toInt64 r = some σ2 → X7_reckon_b126 n (100 + k) rec σ1 (nI TO) (nI T) v.toInt64 = rec (σ2, nI TO, nI T, v.toInt64, nI (T + ra)) := by
    intro rec σ1 σ2 e1 e2 e3
    unfold X7_reckon_b126 X7_reckon_b150
    rw [f1' σ1 e1]
    simp only [bindo_some, lete_eq]
    rw [e3]
    simp only [bindo_some]
    rw [e2, hr2, mx1 h1 h2, nI_add]
  have hi : ∀ (P : Nat → Prop), P 0 → P 1 → P 2 → P 3 → P 4 → P 5 → P 6 → P 7 → ∀ j, j < 8 → P j := by
    intro P p0 p1 p2 p3 p4 p5 p6 p7 j hj
    rcases (show j = 0 ∨ j = 1 ∨ j = 2 ∨ j = 3 ∨ j = 4 ∨ j = 5 ∨ j = 6 ∨ j = 7 by omega) with rfl | rfl | rfl | rfl | rfl | rfl | rfl | rfl
    · exact p0
    · exact p1
    · exact p2
    · exact p3
    · exact p4
    · exact p5
    · exact p6
    · exact p7
  have hc1 : (σ.2 23 0 + 1).toInt = ((c + 1 : Nat) : Int) := by
    rw [i64_add (by rw [hcc, t64_1]; omega) (by rw [hcc, t64_1]; omega), hcc, t64_1]
    omega
  rcases hP with ⟨hc0, hbf⟩ | ⟨hc0, P, w, hPT, hbf, htk, hva, hcw⟩
  · subst hc0
    have z0 : σ.2 23 0 = 0 := Int64.toInt_inj.mp (by rw [hcc]; rfl)
    have z1 : τ.2 26 0 = 0 := r0.symm.trans z0
    refine ⟨cntX σ v.toInt64 r v.toInt64 v.toInt64, cntM τ v.toInt64 r v.toInt64 v.toInt64, v.toInt64, fun rec => ?_, fun rec => ?_, rfl, rfl, rfl, rfl, ⟨hi _ ?_ ?_ ?_ ?_ ?_ ?_ ?_ ?_, ?_⟩, Or.inr ⟨by omega, T, v, by omega, rfl, rfl, rfl, (corr_1 (τ := τ) rfl _ _).trans y2⟩⟩
    · rw [hX, if_pos ((lg_cmp_le _ _).mpr (by rw [z0]; decide)), hX126 rec σ (cntX σ v.toInt64 r v.toInt64 v.toInt64) rfl rfl (ev_count0 (by rw [hcc]; rfl) _ _)]
    · rw [hM, if_pos z1, if_pos z1]
      unfold X12_makeReport_b230 X12_makeReport_b295 X12_makeReport_b313 X12_makeReport_b317
      simp only [ixl2, ixl5, inl2, chk_t, lete_eq]
      rw [if_pos hbf, if_pos hbf, nI_1]
      rfl
    · show σ.2 23 0 + 1 = τ.2 26 0 + 1
      rw [r0]
    · exact r1
    · show σ.2 23 2 + fl r = τ.2 26 2 + fl r
      rw [r2]
    · rfl
    · rfl
    · show σ.2 23 5 + v.toInt64 = τ.2 26 5 + v.toInt64
      rw [r5]
    · exact r6
    · exact r7
    · exact hc1
  · have z0 : ¬ σ.2 23 0 = 0 := fun e => by rw [e] at hcc; rw [t64_0] at hcc; omega
    have z1 : ¬ τ.2 26 0 = 0 := fun e => z0 (r0.trans e)
    have hz : ¬ (σ.2 23 0).toInt = 0 := by rw [hcc]; omega
    have hle : ¬ lg_cmp (σ.2 23 0) 0 ≤ 0 := fun z => by
      have := (lg_cmp_le _ _).mp z
      rw [Int64.le_iff_toInt_le, hcc, t64_0] at this
      omega
    have hbn : ¬ bf = -9 := by
      rw [hbf]
      intro e
      have := congrArg Int32.toInt e
      rw [nI_toInt (by omega), show (-9 : Int32).toInt = -9 by decide] at this
      omega
    have hjoin : X7_join n σ (nI ra) (nI T - tk) (va + v.toInt64) = some (if T - P = ra then wJ σ 23 6 (σ.2 23 6 + (va + v.toInt64) * (nI ra).toInt64) else wJ σ 23 7 (σ.2 23 7 + 1)) := by
      unfold X7_join
      rw [htk, pk_sub (by omega)]
      simp only [ixl6, ixl7, lete_eq]
      by_cases e : T - P = ra
      · rw [if_neg (by rw [e]; exact fun z => z rfl), if_pos e]
      · rw [if_pos (fun z => e ((nI_eq (by omega) (by omega)).mp z)), if_neg e]
    have hM2 : ∀ rec, X12_makeReport_l64 rec τ (nI k) (nI TO) bf (nI T) = rec ((if T - P = ra then wJ (cntM τ v.toInt64 r (mnL (σ.2 23 3) v.toInt64) (mxL (σ.2 23 4) v.toInt64)) 26 6 (τ.2 26 6 + (v.toInt64 + w.toInt64) * (nI ra).toInt64) else wJ (cntM τ v.toInt64 r (mnL (σ.2 23 3) v.toInt64) (mxL (σ.2 23 4) v.toInt64)) 26 7 (τ.2 26 7 + 1)), nI k, nI TO, nI T, nI (T + 1)) := by
      intro rec
      rw [hM, if_neg z1, if_neg z1, mnL_M, mxL_M, r3, r4]
      unfold X12_makeReport_b230 X12_makeReport_b295 X12_makeReport_b313 X12_makeReport_b317
      simp only [ixl2, ixl5, ixl6, ixl7, inl2, chk_t, lete_eq]
      rw [if_neg hbn, if_neg hbn, inb_nI hk8 (by decide), ix_nI (by omega), hbf, pk_sub (by omega), nI_1]
      simp only [chk_t]
      generalize (if τ.2 26 3 ≤ v.toInt64 then τ.2 26 3 else v.toInt64) = L3
      generalize (if v.toInt64 ≤ τ.2 26 4 then τ.2 26 4 else v.toInt64) = L4
      have hcm : wJ (wJ (wJ (wJ (wJ τ 26 3 L3) 26 4 L4) 26 0 (τ.2 26 0 + 1)) 26 2 (τ.2 26 2 + fl r)) 26 5 ((wJ (wJ (wJ (wJ τ 26 3 L3) 26 4 L4) 26 0 (τ.2 26 0 + 1)) 26 2 (τ.2 26 2 + fl r)).2 26 5 + v.toInt64) = cntM τ v.toInt64 r L3 L4 := rfl
      rw [hcm]
      rw [show (cntM τ v.toInt64 r L3 L4).1 = τ.1 from rfl, hra, corr_1 (τ := τ) (τ' := cntM τ v.toInt64 r L3 L4) rfl, hcw]
      simp only [bindo_some]
      rw [show (cntM τ v.toInt64 r L3 L4).2 26 6 = τ.2 26 6 from rfl, show (cntM τ v.toInt64 r L3 L4).2 26 7 = τ.2 26 7 from rfl]
      by_cases e : T - P = ra
      · rw [if_neg (by rw [e]; exact fun z => z rfl), if_pos e]
      · rw [if_pos (fun z => e ((nI_eq (by omega) (by omega)).mp z)), if_neg e]
    have hva2 : va + v.toInt64 = v.toInt64 + w.toInt64 := by rw [hva, i64_comm]
    by_cases e : T - P = ra
    · refine ⟨cntX (wJ σ 23 6 (σ.2 23 6 + (va + v.toInt64) * (nI ra).toInt64)) v.toInt64 r (mnL (σ.2 23 3) v.toInt64) (mxL (σ.2 23 4) v.toInt64), wJ (cntM τ v.toInt64 r (mnL (σ.2 23 3) v.toInt64) (mxL (σ.2 23 4) v.toInt64)) 26 6 (τ.2 26 6 + (v.toInt64 + w.toInt64) * (nI ra).toInt64), v.toInt64, fun rec => ?_, fun rec => ?_, rfl, rfl, rfl, rfl, ⟨hi _ ?_ ?_ ?_ ?_ ?_ ?_ ?_ ?_, ?_⟩, Or.inr ⟨by omega, T, v, by omega, rfl, rfl, rfl, (corr_1 (τ := τ) rfl _ _).trans y2⟩⟩
      · rw [hX, if_neg hle, hjoin, if_pos e]
        simp only [bindo_some]
        rw [hX126 rec (wJ σ 23 6 (σ.2 23 6 + (va + v.toInt64) * (nI ra).toInt64)) (cntX (wJ σ 23 6 (σ.2 23 6 + (va + v.toInt64) * (nI ra).toInt64)) v.toInt64 r (mnL (σ.2 23 3) v.toInt64) (mxL (σ.2 23 4) v.toInt64)) rfl rfl (ev_countS (σ := wJ σ 23 6 (σ.2 23 6 + (va + v.toInt64) * (nI ra).toInt64)) hz _ _)]
      · rw [hM2, if_pos e]
      · show σ.2 23 0 + 1 = τ.2 26 0 + 1
        rw [r0]
      · exact r1
      · show σ.2 23 2 + fl r = τ.2 26 2 + fl r
        rw [r2]
      · rfl
      · rfl
      · show σ.2 23 5 + v.toInt64 = τ.2 26 5 + v.toInt64
        rw [r5]
      · show σ.2 23 6 + (va + v.toInt64) * (nI ra).toInt64 = τ.2 26 6 + (v.toInt64 + w.toInt64) * (nI ra).toInt64
        rw [r6, hva2]
      · exact r7
      · exact hc1
    · refine ⟨cntX (wJ σ 23 7 (σ.2 23 7 + 1)) v.toInt64 r (mnL (σ.2 23 3) v.toInt64) (mxL (σ.2 23 4) v.toInt64), wJ (cntM τ v.toInt64 r (mnL (σ.2 23 3) v.toInt64) (mxL (σ.2 23 4) v.toInt64)) 26 7 (τ.2 26 7 + 1), v.toInt64, fun rec => ?_, fun rec => ?_, rfl, rfl, rfl, rfl, ⟨hi _ ?_ ?_ ?_ ?_ ?_ ?_ ?_ ?_, ?_⟩, Or.inr ⟨by omega, T, v, by omega, rfl, rfl, rfl, (corr_1 (τ := τ) rfl _ _).trans y2⟩⟩
      · rw [hX, if_neg hle, hjoin, if_neg e]
        simp only [bindo_some]
        rw [hX126 rec (wJ σ 23 7 (σ.2 23 7 + 1)) (cntX (wJ σ 23 7 (σ.2 23 7 + 1)) v.toInt64 r (mnL (σ.2 23 3) v.toInt64) (mxL (σ.2 23 4) v.toInt64)) rfl rfl (ev_countS (σ := wJ σ 23 7 (σ.2 23 7 + 1)) hz _ _)]
      · rw [hM2, if_neg e]
      · show σ.2 23 0 + 1 = τ.2 26 0 + 1
        rw [r0]
      · exact r1
      · show σ.2 23 2 + fl r = τ.2 26 2 + fl r
        rw [r2]
      · rfl
      · rfl
      · show σ.2 23 5 + v.toInt64 = τ.2 26 5 + v.toInt64
        rw [r5]
      · exact r6
      · show σ.2 23 7 + 1 = τ.2 26 7 + 1
        rw [r7]
      · exact hc1
