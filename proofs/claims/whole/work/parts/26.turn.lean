/-! torque, the row of a tick, the limits -/
theorem term_bd {c : Int32} {u w : Int64} (hc : -1000 ≤ c.toInt ∧ c.toInt ≤ 1000) (hu : 0 ≤ u.toInt ∧ u.toInt ≤ 2000) (hw : 0 ≤ w.toInt ∧ w.toInt ≤ 250) : -500000000 ≤ ((c.toInt64 * u) * w).toInt ∧ ((c.toInt64 * u) * w).toInt ≤ 500000000 := by
  obtain ⟨m1, m2⟩ := mul_bd (a := c.toInt) (b := u.toInt) (A := 1000) (B := 2000) (by omega) (by omega) (by omega) (by omega)
  have e1 : (c.toInt64 * u).toInt = c.toInt * u.toInt := by
    rw [i64_mul (by rw [Int32.toInt_toInt64]; omega) (by rw [Int32.toInt_toInt64]; omega), Int32.toInt_toInt64]
  obtain ⟨m3, m4⟩ := mul_bd (a := (c.toInt64 * u).toInt) (b := w.toInt) (A := 2000000) (B := 250) (by omega) (by omega) (by omega) (by omega)
  rw [i64_mul (by omega) (by omega)]
  omega
theorem tdiv_500k {a : Int} (h1 : -2000000000 ≤ a) (h2 : a ≤ 2000000000) : -4000 ≤ a.tdiv 500000 ∧ a.tdiv 500000 ≤ 4000 := by
  rcases Int.le_total 0 a with h | h
  · rw [Int.tdiv_eq_ediv_of_nonneg h]
    omega
  · rw [show a = -(-a) by omega, Int.neg_tdiv, Int.tdiv_eq_ediv_of_nonneg (by omega)]
    omega
theorem blend_bd {c0 c1 c2 c3 : Int32} {x y : Int64} (h0 : -1000 ≤ c0.toInt ∧ c0.toInt ≤ 1000) (h1 : -1000 ≤ c1.toInt ∧ c1.toInt ≤ 1000) (h2 : -1000 ≤ c2.toInt ∧ c2.toInt ≤ 1000) (h3 : -1000 ≤ c3.toInt ∧ c3.toInt ≤ 1000) (hx : 0 ≤ x.toInt ∧ x.toInt ≤ 2000) (hy : 0 ≤ y.toInt ∧ y.toInt ≤ 250) : -100000 ≤ ((((((c0.toInt64 * ((2000 : Int64) - x)) * ((250 : Int64) - y)) + ((c1.toInt64 * x) * ((250 : Int64) - y))) + ((c2.toInt64 * ((2000 : Int64) - x)) * y)) + ((c3.toInt64 * x) * y)) / (500000 : Int64)).toInt32.toInt ∧ ((((((c0.toInt64 * ((2000 : Int64) - x)) * ((250 : Int64) - y)) + ((c1.toInt64 * x) * ((250 : Int64) - y))) + ((c2.toInt64 * ((2000 : Int64) - x)) * y)) + ((c3.toInt64 * x) * y)) / (500000 : Int64)).toInt32.toInt ≤ 100000 := by
  have k2000 : (2000 : Int64).toInt = 2000 := by decide
  have k250 : (250 : Int64).toInt = 250 := by decide
  have k500 : (500000 : Int64).toInt = 500000 := by decide
  have u1 : ((2000 : Int64) - x).toInt = 2000 - x.toInt := by rw [i64_sub (by rw [k2000]; omega) (by rw [k2000]; omega), k2000]
  have u2 : ((250 : Int64) - y).toInt = 250 - y.toInt := by rw [i64_sub (by rw [k250]; omega) (by rw [k250]; omega), k250]
  have b0 := term_bd (u := (2000 : Int64) - x) (w := (250 : Int64) - y) h0 (by omega) (by omega)
  have b1 := term_bd (u := x) (w := (250 : Int64) - y) h1 (by omega) (by omega)
  have b2 := term_bd (u := (2000 : Int64) - x) (w := y) h2 (by omega) (by omega)
  have b3 := term_bd (u := x) (w := y) h3 (by omega) (by omega)
  generalize (c0.toInt64 * ((2000 : Int64) - x)) * ((250 : Int64) - y) = A at *
  generalize (c1.toInt64 * x) * ((250 : Int64) - y) = B at *
  generalize (c2.toInt64 * ((2000 : Int64) - x)) * y = C at *
  generalize (c3.toInt64 * x) * y = D at *
  have s1 : (A + B).toInt = A.toInt + B.toInt := i64_add (by omega) (by omega)
  have s2 : (A + B + C).toInt = A.toInt + B.toInt + C.toInt := by rw [i64_add (by omega) (by omega), s1]
  have s3 : (A + B + C + D).toInt = A.toInt + B.toInt + C.toInt + D.toInt := by rw [i64_add (by omega) (by omega), s2]
  have t1 := tdiv_500k (a := (A + B + C + D).toInt) (by omega) (by omega)
  have e4 : ((A + B + C + D) / (500000 : Int64)).toInt = ((A + B + C + D).toInt).tdiv 500000 := by
    rw [Int64.toInt_div, k500]
    exact Int.bmod_eq_of_le (by omega) (by omega)
  have e5 : ((A + B + C + D) / (500000 : Int64)).toInt32.toInt = ((A + B + C + D) / (500000 : Int64)).toInt := by
    rw [Int64.toInt_toInt32]
    exact Int.bmod_eq_of_le (by omega) (by omega)
  rw [e5, e4]
  omega
theorem l_rest {s q i : Nat} (h : q * i ≤ s) (hs : s ≤ 8000) (hq : q ≤ 2000) (hi : i ≤ 4) (c : Int64) (hc : c = lN q) : (nI s).toInt64 - c * (nI i).toInt64 = (nI (s - q * i)).toInt64 := by
  have hqi : q * i ≤ 8000 := by omega
  rw [hc, nI_l (by omega), nI_l (by omega), nI_l (by omega)]
  have e1 : (lN q * lN i).toInt = ((q * i : Nat) : Int) := by
    rw [i64_mul (by rw [pk_lT (by omega), pk_lT (by omega), ← Int.natCast_mul]; omega) (by rw [pk_lT (by omega), pk_lT (by omega), ← Int.natCast_mul]; omega), pk_lT (by omega), pk_lT (by omega), Int.natCast_mul]
  apply Int64.toInt_inj.mp
  rw [i64_sub (by rw [e1, pk_lT (by omega)]; omega) (by rw [e1, pk_lT (by omega)]; omega), e1, pk_lT (by omega), pk_lT (by omega)]
  omega
theorem mnI_nat {a b : Nat} (ha : a < 2 ^ 31) (hb : b < 2 ^ 31) : mnI (nI a) (nI b) = nI (min a b) := by
  unfold mnI
  by_cases c : b < a
  · rw [if_pos (nI_lt c ha), Nat.min_eq_right (by omega)]
  · rw [if_neg (nI_nlt (by omega) (by omega)), Nat.min_eq_left (by omega)]
theorem torque_ok {n s d : Nat} {σ τ : Mem} (hm : σ.1 2 = τ.1 1) (hb : OkMap (τ.1 1)) (hs : s ≤ 8000) (hd : d ≤ 1000) : ∃ r : Int32, X3_torqueAt n σ (nI s) (nI d) = some r ∧ X12_torqueAt τ (nI s) (nI d) = some r ∧ -100000 ≤ r.toInt ∧ r.toInt ≤ 100000 := by
  obtain ⟨i, hi3, hi1, hi2⟩ : ∃ i, i ≤ 3 ∧ min (s / 2000) 3 = i ∧ 2000 * i ≤ s ∧ s - 2000 * i ≤ 2000 := ⟨min (s / 2000) 3, by omega, rfl, by omega⟩
  obtain ⟨j, hj3, hj1, hj2⟩ : ∃ j, j ≤ 3 ∧ min (d / 250) 3 = j ∧ 250 * j ≤ d ∧ d - 250 * j ≤ 250 := ⟨min (d / 250) 3, by omega, rfl, by omega⟩
  have hmp : ∀ k, k < 25 → X3_mapped n σ (nI k) = some (τ.1 1 k) := by
    intro k hk
    unfold X3_mapped
    simp only [xw, bindo_some, bz_eq0, t32_0, t32_24]
    rw [if_neg (fun z => z (by rw [nI_toInt (by omega)]; omega)), inb_nI hk (by decide), ix_nI (by omega), chk_t, hm]
  have hbd : ∀ k, k < 25 → -1000 ≤ (τ.1 1 k).toInt ∧ (τ.1 1 k).toInt ≤ 1000 := fun k hk => by
    have := hb k hk
    omega
  have x4 : (nI s - (2000 : Int32) * nI i).toInt64 = (nI (s - 2000 * i)).toInt64 := by
    rw [show (2000 : Int32) = nI 2000 from rfl, pk_mul, pk_sub (by omega)]
  have y4 : (nI d - (250 : Int32) * nI j).toInt64 = (nI (d - 250 * j)).toInt64 := by
    rw [show (250 : Int32) = nI 250 from rfl, pk_mul, pk_sub (by omega)]
  have x5 := l_rest (s := s) (q := 2000) (i := i) (by omega) hs (by omega) (by omega) (2000 : Int64) rfl
  have y5 := l_rest (s := d) (q := 250) (i := j) (by omega) (by omega) (by omega) (by omega) (250 : Int64) rfl
  have hM : X12_torqueAt τ (nI s) (nI d) = X12_torqueAt_b36 τ (nI s) (nI d) (nI i) (nI j) := by
    unfold X12_torqueAt X12_torqueAt_b23
    rw [show (2000 : Int32) = nI 2000 from rfl, show (250 : Int32) = nI 250 from rfl, pk_div (by omega) (by omega) (by omega), pk_div (by omega) (by omega) (by omega), show (3 : Int32) = nI 3 from rfl]
    simp only [lete_eq]
    by_cases c1 : s / 2000 ≤ 3
    · rw [if_pos (nI_le c1 (by decide))]
      by_cases c2 : d / 250 ≤ 3
      · rw [if_pos (nI_le c2 (by decide)), show s / 2000 = i by omega, show d / 250 = j by omega]
      · rw [if_neg (nI_nl2 (by omega) (by omega)), show s / 2000 = i by omega, show 3 = j by omega]
    · rw [if_neg (nI_nl2 (by omega) (by omega))]
      by_cases c2 : d / 250 ≤ 3
      · rw [if_pos (nI_le c2 (by decide)), show d / 250 = j by omega, show 3 = i by omega]
      · rw [if_neg (nI_nl2 (by omega) (by omega)), show nI i = nI 3 by rw [show i = 3 by omega], show nI j = nI 3 by rw [show j = 3 by omega]]
  refine ⟨_, ?_, hM.trans ?_, blend_bd (hbd (5 * i + j) (by omega)) (hbd (5 * i + j + 5) (by omega)) (hbd (5 * i + j + 1) (by omega)) (hbd (5 * i + j + 6) (by omega)) (x := (nI (s - 2000 * i)).toInt64) (y := (nI (d - 250 * j)).toInt64) (by rw [Int32.toInt_toInt64, nI_toInt (by omega)]; omega) (by rw [Int32.toInt_toInt64, nI_toInt (by omega)]; omega)⟩
  · unfold X3_torqueAt
    rw [show nI s / (2000 : Int32) = nI (s / 2000) from pk_div (a := s) (d := 2000) (by omega) (by decide) (by decide), show nI d / (250 : Int32) = nI (d / 250) from pk_div (a := d) (d := 250) (by omega) (by decide) (by decide), show (3 : Int32) = nI 3 from rfl, mnI_nat (by omega) (by omega), mnI_nat (by omega) (by omega), hi1, hj1]
    simp only [lete_eq]
    rw [x4, y4, show (5 : Int32) * nI i + nI j = nI (5 * i + j) by rw [show (5 : Int32) = nI 5 from rfl, pk_mul, nI_add], show nI (5 * i + j) + (5 : Int32) = nI (5 * i + j + 5) from nI_add _ 5, show nI (5 * i + j) + (1 : Int32) = nI (5 * i + j + 1) from nI_add _ 1, show nI (5 * i + j) + (6 : Int32) = nI (5 * i + j + 6) from nI_add _ 6, hmp _ (by omega), hmp _ (by omega), hmp _ (by omega), hmp _ (by omega)]
    simp only [bindo_some]
  · unfold X12_torqueAt_b36
    simp only [lete_eq]
    rw [x5, y5]
    rw [show (5 : Int32) * nI i + nI j = nI (5 * i + j) by rw [show (5 : Int32) = nI 5 from rfl, pk_mul, nI_add], show (5 : Int32) * nI i + (5 : Int32) + nI j = nI (5 * i + j + 5) by rw [show (5 : Int32) = nI 5 from rfl, pk_mul, nI_add, nI_add, show 5 * i + 5 + j = 5 * i + j + 5 by omega], show nI (5 * i + j) + (1 : Int32) = nI (5 * i + j + 1) from nI_add _ 1, show (5 : Int32) * nI i + (6 : Int32) + nI j = nI (5 * i + j + 6) by rw [show (5 : Int32) = nI 5 from rfl, show (6 : Int32) = nI 6 from rfl, pk_mul, nI_add, nI_add, show 5 * i + 6 + j = 5 * i + j + 6 by omega]]
    rw [inb_nI (show 5 * i + j < 25 by omega) (by decide), inb_nI (show 5 * i + j + 5 < 25 by omega) (by decide), inb_nI (show 5 * i + j + 1 < 25 by omega) (by decide), inb_nI (show 5 * i + j + 6 < 25 by omega) (by decide), ix_nI (by omega), ix_nI (by omega), ix_nI (by omega), ix_nI (by omega)]
    simp only [chk_t]
/-- the speed's change in a tick -/
def chg (s p : Int32) (L : Int32) : Int32 := if (p - s) / L = 0 then (if p = s then 0 else if p ≤ s then -1 else 1) else (p - s) / L
theorem chg_ok {s L : Nat} {p : Int32} (hs : s ≤ 8000) (hL : 1 ≤ L) (hL2 : L ≤ 20) (hp : 0 ≤ p.toInt ∧ p.toInt ≤ 8000) : ∃ s2 : Nat, s2 ≤ 8000 ∧ nI s + chg (nI s) p (nI L) = nI s2 := by
  obtain ⟨w1, w2, w3⟩ := way_ok (N := 8000) (J := 1) (L := L) (u := nI s) (b := p) (by omega) hL hL (by omega) (by rw [nI_toInt (by omega)]; omega) hp
  rw [show nI 1 * (p - nI s) = p - nI s from Int32.one_mul _] at w1 w2
  have hr : 0 ≤ (nI s + chg (nI s) p (nI L)).toInt ∧ (nI s + chg (nI s) p (nI L)).toInt ≤ 8000 := by
    unfold chg
    by_cases c : (p - nI s) / nI L = 0
    · rw [if_pos c]
      by_cases c2 : p = nI s
      · rw [if_pos c2, i32_add (by rw [t32_0, nI_toInt (by omega)]; omega) (by rw [t32_0, nI_toInt (by omega)]; omega), t32_0, nI_toInt (by omega)]
        omega
      · have hne : ¬ p.toInt = s := fun e => c2 (Int32.toInt_inj.mp (by rw [nI_toInt (by omega)]; exact e))
        rw [if_neg c2]
        by_cases c3 : p ≤ nI s
        · rw [if_pos c3, i32_add (by rw [t32_m1, nI_toInt (by omega)]; omega) (by rw [t32_m1, nI_toInt (by omega)]; omega), t32_m1, nI_toInt (by omega)]
          rw [Int32.le_iff_toInt_le, nI_toInt (by omega)] at c3
          omega
        · rw [if_neg c3, i32_add (by rw [t32_1, nI_toInt (by omega)]; omega) (by rw [t32_1, nI_toInt (by omega)]; omega), t32_1, nI_toInt (by omega)]
          rw [Int32.le_iff_toInt_le, nI_toInt (by omega)] at c3
          omega
    · rw [if_neg c]
      exact ⟨w1, w2⟩
  obtain ⟨s2, h1, h2⟩ := nat_of 8000 hr.1 (by omega) (by decide)
  exact ⟨s2, h1, h2⟩
theorem ev_change {n : Nat} {σ : Mem} {s p : Int32} {L : Nat} (e : σ.1 1 2 = nI L) (hL : 1 ≤ L) (hL2 : L ≤ 20) : X3_change n σ s p = some (chg s p (nI L)) := by
  unfold X3_change X3_change_b19 J6_compare_7cf53 chg
  rw [e, if_neg (nI_nle (by omega) (by omega)), show nz (nI L) = true by simp [nz]; exact nI_ne0 (by omega) (by omega), chk_t]
  by_cases c : (p - s) / nI L = 0
  · rw [if_pos c, if_pos c]
    by_cases c2 : p = s
    · rw [if_pos (by rw [c2]; exact Int32.le_refl _), if_neg (fun z => z c2), if_pos c2]
      simp only [bindo_some]
    · rw [if_neg c2]
      by_cases c3 : p ≤ s
      · rw [if_pos c3]
        rw [if_neg (fun z => c2 (by
          rw [Int32.le_iff_toInt_le] at c3 z
          exact Int32.toInt_inj.mp (by omega)))]
        simp only [bindo_some]
      · rw [if_neg c3, if_pos (by rw [Int32.le_iff_toInt_le] at c3 ⊢; omega), if_pos c2]
        simp only [bindo_some]
  · rw [if_neg c, if_neg c]
