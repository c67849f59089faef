/-! THE CALLS reading, state, valid, law -/
theorem t64_m50 : (-50 : Int64).toInt = -50 := by decide
theorem relC_1 {n t a st lo co mk ot : Nat} {σ σ' τ τ' : Mem} (h : RelC n t a st lo co mk ot σ τ) (e1 : σ'.1 = σ.1) (e2 : τ'.1 = τ.1) : RelC n t a st lo co mk ot σ' τ' := by
  unfold RelC at h ⊢
  rw [e1, e2]
  exact h
theorem relR_1 {n lo co : Nat} {σ σ' τ τ' : Mem} (h : RelR n lo co σ τ) (e1 : σ'.1 = σ.1) (e2 : τ'.1 = τ.1) : RelR n lo co σ' τ' := by
  unfold RelR at h ⊢
  rw [e1, e2]
  exact h
theorem ev_readsAt {n k ra T : Nat} {σ : Mem} (e : σ.1 (100 + k) 2 = nI ra) (h1 : 1 ≤ ra) (h2 : ra ≤ 20) (hT : T < 2 ^ 30) : X1_readsAt n (100 + k) σ (nI T) = some (bz (T % ra = 0)) := by
  unfold X1_readsAt bz
  rw [e, if_neg (nI_nle (by omega) (by omega)), show nz (nI ra) = true by simp [nz]; exact nI_ne0 (by omega) (by omega), chk_t, pk_rem (by omega) (by omega) (by omega)]
  by_cases c : T % ra = 0
  · rw [if_neg (by rw [c]; decide), if_pos c]
  · rw [if_pos (nI_ne0 (by omega) (by have := Nat.mod_lt T (show 0 < ra by omega); omega)), if_neg c]
theorem ev_isRead {n k ra t T : Nat} {τ : Mem} (e0 : τ.1 0 26 = nI n) (hn : n ≤ 8) (hk : k < n) (e : τ.1 13 k = nI ra) (h1 : 1 ≤ ra) (h2 : ra ≤ 20) (ht : τ.1 0 5 = nI t) (hT : T ≤ t) (ht2 : t ≤ 3000) : X12_isRead τ (nI k) (nI T) = some (bz (T % ra = 0)) := by
  unfold X12_isRead bz
  rw [ev_isChannel e0 hn]
  simp only [mw, bindo_some, bz_eq0, Int32.toInt_toInt64, t64_0, ht]
  rw [nI_toInt (by omega), nI_toInt (by omega), nI_toInt (by omega), if_neg (by omega), if_neg (by omega), inb_nI (show k < 8 by omega) (by decide), ix_nI (by omega), e]
  rw [show nz (nI ra) = true by simp [nz]; exact nI_ne0 (by omega) (by omega), pk_rem (by omega) (by omega) (by omega)]
  simp only [chk_t]
  by_cases c : T % ra = 0
  · rw [if_neg (by rw [c]; decide), if_pos c]
  · rw [if_pos (nI_ne0 (by omega) (by have := Nat.mod_lt T (show 0 < ra by omega); omega)), if_neg c]
theorem ev_isRead0 {n t : Nat} {τ : Mem} {p q : Int32} (e0 : τ.1 0 26 = nI n) (hn : n ≤ 8) (ht : τ.1 0 5 = nI t) (ht2 : t ≤ 3000) (h : ¬ ((0 ≤ p.toInt ∧ p.toInt < n) ∧ 0 ≤ q.toInt ∧ q.toInt ≤ t)) : X12_isRead τ p q = some 0 := by
  unfold X12_isRead
  rw [ev_isChannel e0 hn]
  simp only [mw, bindo_some, bz_eq0, Int32.toInt_toInt64, t64_0, ht]
  rw [nI_toInt (by omega)]
  by_cases c : 0 ≤ p.toInt ∧ p.toInt < n
  · rw [if_neg (fun z => z c), if_pos (fun z => h ⟨c, z⟩)]
  · rw [if_pos c]
theorem lostL : ¬ (0 : Int32) = 1 := by decide
theorem f_reading {n t a st lo co mk ot : Nat} {σ τ : Mem} (h : RelC n t a st lo co mk ot σ τ) (p q : Int32) : SimP (X11_reading n σ p q) (X12_reading τ p q) := by
  have hR := relR_of h
  obtain ⟨e_fa, e_tr, e_mp, e_lg, e_ro, e_ti, e_at_, e_ki, e_ac, e_pa, e_sc, e_ld, e_mc, e_mt, e_cc, e_lc, e_l1, e_l2, e_l3, e_kc, e_k1, e_k2, e_k3, e_k4, e_oc, e_oa, e_b1, e_b2, e_pr, e_sh0, e_sh1, e_sh2, e_sh3, e_ch, e_c0, e_d0, e_c1, e_d1, e_c2, e_d2, e_c3, e_d3, e_c4, e_d4, e_c5, e_d5, e_c6, e_d6, e_c7, e_d7, e_ps, e_oz, e_rm, e_lb, e_ab, e_ru, e_mb, e_wb, e_w0, e_w1, e_ws, e_wp, e_kb, e_tb, e_bb⟩ := h
  unfold X11_reading X12_reading
  rw [ev_find (e_cc.trans e_c0) e_d0]
  simp only [bindo_some]
  by_cases h1 : 0 ≤ p.toInt ∧ p.toInt < n
  · rw [if_pos h1]
    obtain ⟨k, hk, rfl⟩ := nat_of 8 h1.1 (by omega) (by decide)
    rw [nI_toInt (by omega)] at h1
    have hk : k < n := by omega
    obtain ⟨q0, q1, q2, q3, q4, q5, q6, q7, q8, ⟨ra, r1, r2, q9⟩, q10⟩ := e_ch k hk
    rw [nI_toInt (by omega)]
    simp only [Int.toNat_natCast, caseo]
    rw [isCh_of hk, chk_t]
    simp only [xw, bindo_some, bz_eq0, e_ti, e_c1, t32_0]
    rw [nI_toInt (by omega)]
    by_cases h2 : 0 ≤ q.toInt ∧ q.toInt ≤ t
    · rw [if_neg (fun z => z h2)]
      obtain ⟨T, hT, rfl⟩ := nat_of 3000 h2.1 (by omega) (by decide)
      rw [nI_toInt (by omega)] at h2
      rw [ev_readsAt (q2.trans q9) r1 r2 (by omega), ev_isRead e_c0 e_d0 hk q9 r1 r2 e_c1 (by omega) e_d1]
      simp only [bindo_some, bz_eq0, Decidable.not_not]
      by_cases h3 : T % ra = 0
      · rw [if_pos h3, if_neg (fun z => z h3)]
        obtain ⟨r, hr, g1, g2, g3⟩ := lost_ok hR hk (by omega : T ≤ 3000)
        rw [g2]
        simp only [bindo_some]
        rcases hr with rfl | rfl
        · obtain ⟨v, y1, y2, -, -⟩ := value_ok hR hk (by omega : T ≤ 3000) (g3 rfl)
          rw [if_neg (fun z => z rfl), y1 g1, y2]
          exact simp_ret
        · rw [if_pos (by decide)]
          unfold X2_value
          rw [g1]
          simp only [bindo_some]
          rw [if_neg (by decide)]
          exact simp_ret
      · rw [if_neg h3, if_pos h3]
        exact simp_ret
    · rw [if_pos h2, ev_isRead0 e_c0 e_d0 e_c1 e_d1 (fun z => h2 z.2)]
      simp only [bindo_some]
      rw [if_pos trivial]
      exact simp_ret
  · rw [if_neg h1, ev_isRead0 e_c0 e_d0 e_c1 e_d1 (fun z => h1 z.1)]
    simp only [bindo_some]
    rw [if_pos trivial]
    exact simp_ret
theorem f_state {n t a st lo co mk ot : Nat} {σ τ : Mem} (h : RelC n t a st lo co mk ot σ τ) (p q : Int32) : SimP (X11_state n σ p q) (X12_state τ p q) := by
  have hR := relR_of h
  obtain ⟨e_fa, e_tr, e_mp, e_lg, e_ro, e_ti, e_at_, e_ki, e_ac, e_pa, e_sc, e_ld, e_mc, e_mt, e_cc, e_lc, e_l1, e_l2, e_l3, e_kc, e_k1, e_k2, e_k3, e_k4, e_oc, e_oa, e_b1, e_b2, e_pr, e_sh0, e_sh1, e_sh2, e_sh3, e_ch, e_c0, e_d0, e_c1, e_d1, e_c2, e_d2, e_c3, e_d3, e_c4, e_d4, e_c5, e_d5, e_c6, e_d6, e_c7, e_d7, e_ps, e_oz, e_rm, e_lb, e_ab, e_ru, e_mb, e_wb, e_w0, e_w1, e_ws, e_wp, e_kb, e_tb, e_bb⟩ := h
  unfold X11_state X12_state
  rw [ev_find (e_cc.trans e_c0) e_d0]
  simp only [bindo_some]
  by_cases h1 : 0 ≤ p.toInt ∧ p.toInt < n
  · rw [if_pos h1]
    obtain ⟨k, hk, rfl⟩ := nat_of 8 h1.1 (by omega) (by decide)
    rw [nI_toInt (by omega)] at h1
    have hk : k < n := by omega
    obtain ⟨q0, q1, q2, q3, q4, q5, q6, q7, q8, ⟨ra, r1, r2, q9⟩, q10⟩ := e_ch k hk
    rw [nI_toInt (by omega)]
    simp only [Int.toNat_natCast, caseo]
    rw [isCh_of hk, chk_t]
    simp only [xw, bindo_some, bz_eq0, e_ti, e_c1, t32_0]
    rw [nI_toInt (by omega)]
    by_cases h2 : 0 ≤ q.toInt ∧ q.toInt ≤ t
    · rw [if_neg (fun z => z h2)]
      obtain ⟨T, hT, rfl⟩ := nat_of 3000 h2.1 (by omega) (by decide)
      rw [nI_toInt (by omega)] at h2
      rw [ev_readsAt (q2.trans q9) r1 r2 (by omega), ev_isRead e_c0 e_d0 hk q9 r1 r2 e_c1 (by omega) e_d1]
      simp only [bindo_some, bz_eq0, Decidable.not_not]
      by_cases h3 : T % ra = 0
      · rw [if_pos h3, if_pos h3]
        obtain ⟨r, hr, g1, g2, g3⟩ := lost_ok hR hk (by omega : T ≤ 3000)
        rw [g1, g2]
        simp only [bindo_some]
        rcases hr with rfl | rfl
        · obtain ⟨v, -, y1, y2⟩ := full_ok hR hk (by omega : T ≤ 3000) (g3 rfl)
          rw [if_pos rfl, if_pos rfl, y1, y2]
          exact simp_ite Iff.rfl (fun _ => simp_ret) (fun _ => simp_ret)
        · rw [if_neg (by decide), if_neg (by decide)]
          exact simp_ret
      · rw [if_neg h3, if_neg h3]
        exact simp_ret
    · rw [if_pos h2, ev_isRead0 e_c0 e_d0 e_c1 e_d1 (fun z => h2 z.2)]
      simp only [bindo_some]
      rw [if_neg (fun z => z trivial)]
      exact simp_ret
  · rw [if_neg h1, ev_isRead0 e_c0 e_d0 e_c1 e_d1 (fun z => h1 z.1)]
    simp only [bindo_some]
    rw [if_neg (fun z => z trivial)]
    exact simp_ret
-- the law's sums
def LawI (c : Nat) (σ τ : Mem) (x1 y1 xy xx : Int64) : Prop := σ.2 26 2 = τ.2 0 47 ∧ σ.2 26 3 = τ.2 0 50 ∧ σ.2 26 4 = τ.2 0 51 ∧ σ.2 26 5 = x1 ∧ σ.2 26 6 = y1 ∧ σ.2 26 7 = xx ∧ σ.2 26 8 = xy ∧ (σ.2 26 2).toInt = c ∧ (-(29000 * (c : Int)) ≤ (σ.2 26 3).toInt ∧ (σ.2 26 3).toInt ≤ 29000 * c) ∧ (0 ≤ (σ.2 26 4).toInt ∧ (σ.2 26 4).toInt ≤ 29000) ∧ (0 ≤ x1.toInt ∧ x1.toInt ≤ 8000 * c) ∧ (-(21000 * (c : Int)) ≤ y1.toInt ∧ y1.toInt ≤ 21000 * c) ∧ (-(168000000 * (c : Int)) ≤ xy.toInt ∧ xy.toInt ≤ 168000000 * c) ∧ (0 ≤ xx.toInt ∧ xx.toInt ≤ 64000000 * c)
theorem mul_bd {a b A B : Int} (h1 : -A ≤ a) (h2 : a ≤ A) (h3 : -B ≤ b) (h4 : b ≤ B) : -(A * B) ≤ a * b ∧ a * b ≤ A * B := by
  have g1 : 0 ≤ (A - a) * (B + b) := Int.mul_nonneg (by omega) (by omega)
  have g2 : 0 ≤ (A + a) * (B - b) := Int.mul_nonneg (by omega) (by omega)
  have g3 : 0 ≤ (A - a) * (B - b) := Int.mul_nonneg (by omega) (by omega)
  have g4 : 0 ≤ (A + a) * (B + b) := Int.mul_nonneg (by omega) (by omega)
  simp only [Int.sub_mul, Int.mul_sub, Int.add_mul, Int.mul_add] at g1 g2 g3 g4
  omega
theorem i64_neg_sub (a b : Int64) : -(a - b) = b - a := Int64.neg_sub
theorem law_add {c : Nat} {σ τ : Mem} {x1 y1 xy xx : Int64} (h : LawI c σ τ x1 y1 xy xx) (hc : c ≤ 3001) {x y : Int32} (hx : 0 ≤ x.toInt) (hx2 : x.toInt ≤ 8000) (hy : -21000 ≤ y.toInt) (hy2 : y.toInt ≤ 21000) : ∃ σ', (∀ n, X4_count n σ x.toInt64 y.toInt64 = some σ') ∧ σ'.1 = σ.1 ∧ ∀ far, (far = if (if x.toInt64 ≤ y.toInt64 then y.toInt64 - x.toInt64 else x.toInt64 - y.toInt64) ≤ τ.2 0 51 then τ.2 0 51 else (if x.toInt64 ≤ y.toInt64 then y.toInt64 - x.toInt64 else x.toInt64 - y.toInt64)) → LawI (c + 1) σ' (wJ (wJ (wJ τ 0 47 ((τ.2 0 47) + 1)) 0 50 ((τ.2 0 50) + (y.toInt64 - x.toInt64))) 0 51 far) (x1 + x.toInt64) (y1 + y.toInt64) (xy + x.toInt64 * y.toInt64) (xx + x.toInt64 * x.toInt64) := by
  obtain ⟨e1, e2, e3, e4, e5, e6, e7, b1, b2, b3, b4, b5, b6, b7⟩ := h
  refine ⟨_, fun n => rfl, rfl, fun far hfar => ?_⟩
  have tx : x.toInt64.toInt = x.toInt := Int32.toInt_toInt64 x
  have ty : y.toInt64.toInt = y.toInt := Int32.toInt_toInt64 y
  have m1 := mul_bd (a := x.toInt) (b := y.toInt) (A := 8000) (B := 21000) (by omega) hx2 (by omega) hy2
  have m2 := mul_bd (a := x.toInt) (b := x.toInt) (A := 8000) (B := 8000) (by omega) hx2 (by omega) hx2
  have m3 : 0 ≤ x.toInt * x.toInt := Int.mul_nonneg hx hx
  have s1 : (y.toInt64 - x.toInt64).toInt = y.toInt - x.toInt := by rw [i64_sub (by rw [tx, ty]; omega) (by rw [tx, ty]; omega), tx, ty]
  have s2 : (x.toInt64 - y.toInt64).toInt = x.toInt - y.toInt := by rw [i64_sub (by rw [tx, ty]; omega) (by rw [tx, ty]; omega), tx, ty]
  have p1 : (x.toInt64 * y.toInt64).toInt = x.toInt * y.toInt := by rw [i64_mul (by rw [tx, ty]; omega) (by rw [tx, ty]; omega), tx, ty]
  have p2 : (x.toInt64 * x.toInt64).toInt = x.toInt * x.toInt := by rw [i64_mul (by rw [tx]; omega) (by rw [tx]; omega), tx]
  have hab : abL (y.toInt64 - x.toInt64) = if x.toInt64 ≤ y.toInt64 then y.toInt64 - x.toInt64 else x.toInt64 - y.toInt64 := by
    unfold abL
    simp only [Int64.lt_iff_toInt_lt, Int64.le_iff_toInt_le, s1, tx, ty, t64_0]
    by_cases c1 : x.toInt ≤ y.toInt
    · rw [if_pos c1]
      by_cases c2 : 0 < y.toInt - x.toInt
      · rw [if_pos c2]
      · rw [if_neg c2, i64_neg_sub]
        apply Int64.toInt_inj.mp
        rw [s1, s2]
        omega
    · rw [if_neg c1, if_neg (by omega), i64_neg_sub]
  have hfr : mxL (σ.2 26 4) (abL (y.toInt64 - x.toInt64)) = far := by
    rw [hfar, hab, e3]
    unfold mxL
    simp only [Int64.lt_iff_toInt_lt, Int64.le_iff_toInt_le]
    generalize (if x.toInt64.toInt ≤ y.toInt64.toInt then y.toInt64 - x.toInt64 else x.toInt64 - y.toInt64) = s
    by_cases c1 : s.toInt ≤ (τ.2 0 51).toInt
    · rw [if_pos c1]
      by_cases c2 : s.toInt < (τ.2 0 51).toInt
      · rw [if_pos c2]
      · rw [if_neg c2]
        apply Int64.toInt_inj.mp
        omega
    · rw [if_neg c1, if_neg (by omega)]
  have hfb : 0 ≤ far.toInt ∧ far.toInt ≤ 29000 := by
    rw [hfar]
    rw [e3] at b3
    have hs : 0 ≤ (if x.toInt64 ≤ y.toInt64 then y.toInt64 - x.toInt64 else x.toInt64 - y.toInt64).toInt ∧ (if x.toInt64 ≤ y.toInt64 then y.toInt64 - x.toInt64 else x.toInt64 - y.toInt64).toInt ≤ 29000 := by
      simp only [Int64.le_iff_toInt_le, tx, ty]
      split
      · rw [s1]; omega
      · rw [s2]; omega
    revert hs
    generalize (if x.toInt64 ≤ y.toInt64 then y.toInt64 - x.toInt64 else x.toInt64 - y.toInt64) = S
    intro hs
    split
    · exact b3
    · exact hs
  refine ⟨?_, ?_, ?_, ?_, ?_, ?_, ?_, ?_, ?_, ?_, ?_, ?_, ?_, ?_⟩
  · show σ.2 26 2 + 1 = τ.2 0 47 + 1
    rw [e1]
  · show σ.2 26 3 + (y.toInt64 - x.toInt64) = τ.2 0 50 + (y.toInt64 - x.toInt64)
    rw [e2]
  · exact hfr
  · show σ.2 26 5 + x.toInt64 = _
    rw [e4]
  · show σ.2 26 6 + y.toInt64 = _
    rw [e5]
  · show σ.2 26 7 + x.toInt64 * x.toInt64 = _
    rw [e6]
  · show σ.2 26 8 + x.toInt64 * y.toInt64 = _
    rw [e7]
  · show (σ.2 26 2 + 1).toInt = _
    rw [i64_add (by rw [b1, t64_1]; omega) (by rw [b1, t64_1]; omega), b1, t64_1]
    omega
  · show -(29000 * ((c + 1 : Nat) : Int)) ≤ (σ.2 26 3 + (y.toInt64 - x.toInt64)).toInt ∧ (σ.2 26 3 + (y.toInt64 - x.toInt64)).toInt ≤ 29000 * ((c + 1 : Nat) : Int)
    rw [i64_add (by rw [s1]; omega) (by rw [s1]; omega), s1]
    omega
  · show 0 ≤ (mxL (σ.2 26 4) (abL (y.toInt64 - x.toInt64))).toInt ∧ (mxL (σ.2 26 4) (abL (y.toInt64 - x.toInt64))).toInt ≤ 29000
    rw [hfr]
    exact hfb
  · rw [i64_add (by rw [tx]; omega) (by rw [tx]; omega), tx]
    omega
  · rw [i64_add (by rw [ty]; omega) (by rw [ty]; omega), ty]
    omega
  · rw [i64_add (by rw [p1]; omega) (by rw [p1]; omega), p1]
    omega
  · rw [i64_add (by rw [p2]; omega) (by rw [p2]; omega), p2]
    omega
theorem mx1 {ra : Nat} (h1 : 1 ≤ ra) (h2 : ra ≤ 20) : mxI 1 (nI ra) = nI ra := by
  unfold mxI
  split
  · rfl
  · rename_i h
    rw [show (1 : Int32) = nI 1 from rfl, nI_ltI (by decide) (by omega)] at h
    rw [show ra = 1 by omega]
    rfl
theorem lcmp_eq (x y : Int64) : (lg_cmp x y = 0) = (x = y) := propext (lg_cmp_eq x y)
theorem v_ne_lost {v : Int32} : ¬ v.toInt64 = -9223372036854775808 := by
  intro e
  have h1 := Int32.toInt_toInt64 v
  rw [e] at h1
  have h2 := i32_rng v
  rw [show (-9223372036854775808 : Int64).toInt = -9223372036854775808 by decide] at h1
  omega
theorem law_loop {n lo co k t ra : Nat} (hk : k < n) (hn : n ≤ 8) (ht : t ≤ 3000) (h1 : 1 ≤ ra) (h2 : ra ≤ 20) : ∀ (q T c f1 f2 : Nat) (σ τ : Mem) (x1 y1 xy xx : Int64), t + 1 - T ≤ q → T ≤ 3100 → q < f1 → q < f2 → c + q ≤ t + 1 → RelR n lo co σ τ → τ.1 13 k = nI ra → τ.1 0 5 = nI t → σ.1 1 3 = nI t → (∀ i, i ≤ t → OkRow (τ.1 2) i) → LawI c σ τ x1 y1 xy xx →
    ∃ σ' τ' c' x1' y1' xy' xx', c' ≤ t + 1 ∧ loopF (fun (rec : (Mem × Int32) → Option (Mem)) (s : Mem × Int32) => X4_reckon_l37 n (100 + k) rec s.1 s.2) f1 (σ, nI T) = some σ' ∧ loopF (fun (rec : (Mem × Int32 × Int64 × Int64 × Int64 × Int64 × Int32) → Option (Mem)) (s : Mem × Int32 × Int64 × Int64 × Int64 × Int64 × Int32) => X12_makeLaw_l29 rec s.1 s.2.1 s.2.2.1 s.2.2.2.1 s.2.2.2.2.1 s.2.2.2.2.2.1 s.2.2.2.2.2.2) f2 (τ, nI k, x1, y1, xy, xx, nI T) = some (wJ (wJ τ' 0 48 (((τ'.2 0 47) * xy') - (x1' * y1'))) 0 49 (((τ'.2 0 47) * xx') - (x1' * x1'))) ∧ σ'.1 = σ.1 ∧ τ'.1 = τ.1 ∧ LawI c' σ' τ' x1' y1' xy' xx' := by
  intro q
  induction q with
  | zero =>
    intro T c f1 f2 σ τ x1 y1 xy xx hq hT2 hf1 hf2 hc hR hra htt hts hrow hL
    obtain ⟨f1, rfl⟩ : ∃ g, f1 = g + 1 := ⟨f1 - 1, by omega⟩
    obtain ⟨f2, rfl⟩ : ∃ g, f2 = g + 1 := ⟨f2 - 1, by omega⟩
    have hT : t < T := by omega
    refine ⟨σ, τ, c, x1, y1, xy, xx, by omega, ?_, ?_, rfl, rfl, hL⟩
    · show X4_reckon_l37 n (100 + k) _ σ (nI T) = _
      rw [X4_reckon_l37, hts, if_pos (nI_lt hT (by omega))]
    · show X12_makeLaw_l29 _ τ (nI k) x1 y1 xy xx (nI T) = _
      rw [X12_makeLaw_l29, htt, if_pos (nI_lt hT (by omega))]
      rfl
  | succ q ih =>
    intro T c f1 f2 σ τ x1 y1 xy xx hq hT2 hf1 hf2 hc hR hra htt hts hrow hL
    obtain ⟨f1, rfl⟩ : ∃ g, f1 = g + 1 := ⟨f1 - 1, by omega⟩
    obtain ⟨f2, rfl⟩ : ∃ g, f2 = g + 1 := ⟨f2 - 1, by omega⟩
    by_cases hT : t < T
    · refine ⟨σ, τ, c, x1, y1, xy, xx, by omega, ?_, ?_, rfl, rfl, hL⟩
      · show X4_reckon_l37 n (100 + k) _ σ (nI T) = _
        rw [X4_reckon_l37, hts, if_pos (nI_lt hT (by omega))]
      · show X12_makeLaw_l29 _ τ (nI k) x1 y1 xy xx (nI T) = _
        rw [X12_makeLaw_l29, htt, if_pos (nI_lt hT (by omega))]
        rfl
    · obtain ⟨r, hr, g1, g2, g3⟩ := lost_ok hR hk (by omega : T ≤ 3000)
      have hch := hR.2.2.2.2.2.2.2.2.2.2.1
      obtain ⟨q0, q1, q2, q3, q4, q5, q6, q7, q8, q9, q10⟩ := hch k hk
      have hr2 : σ.1 (100 + k) 2 = nI ra := q2.trans hra
      rcases hr with rfl | rfl
      · obtain ⟨d, hd, ed⟩ := g3 rfl
        obtain ⟨v, y1v, y2v, v1, v2⟩ := value_ok hR hk (by omega : T ≤ 3000) ⟨d, hd, ed⟩
        have hw := hrow (T - d) (by omega)
        obtain ⟨-, -, -, -, w1, w2, -, -⟩ := hw
        obtain ⟨σ', c1, c2, c3⟩ := law_add hL (by omega) w1 w2 v1 v2
        have c3 := c3 _ rfl
        obtain ⟨σ'', τ'', c', X1, Y1, XY, XX, z0, z1, z2, z3, z4, z5⟩ := ih (T + ra) (c + 1) f1 f2 σ' (wJ (wJ (wJ τ 0 47 ((τ.2 0 47) + 1)) 0 50 ((τ.2 0 50) + (v.toInt64 - (τ.1 2 (7 * (T - d) + 5)).toInt64))) 0 51 (if (if (τ.1 2 (7 * (T - d) + 5)).toInt64 ≤ v.toInt64 then v.toInt64 - (τ.1 2 (7 * (T - d) + 5)).toInt64 else (τ.1 2 (7 * (T - d) + 5)).toInt64 - v.toInt64) ≤ τ.2 0 51 then τ.2 0 51 else (if (τ.1 2 (7 * (T - d) + 5)).toInt64 ≤ v.toInt64 then v.toInt64 - (τ.1 2 (7 * (T - d) + 5)).toInt64 else (τ.1 2 (7 * (T - d) + 5)).toInt64 - v.toInt64))) _ _ _ _ (by omega) (by omega) (by omega) (by omega) (by omega) (relR_1 hR c2 rfl) hra htt (by rw [c2]; exact hts) hrow c3
        refine ⟨σ'', τ'', c', X1, Y1, XY, XX, z0, ?_, ?_, z3.trans c2, z4, z5⟩
        · show X4_reckon_l37 n (100 + k) _ σ (nI T) = _
          rw [X4_reckon_l37, hts, if_neg (nI_nlt (by omega) (by omega)), y1v g1]
          simp only [bindo_some]
          rw [if_neg (fun z => v_ne_lost ((lg_cmp_eq _ _).mp z)), q3, ed, pk_sub hd, ev_part σ (by omega) (show 5 ≤ 6 by omega) rfl (show (5 : Int32) = nI 5 from rfl), hR.1]
          simp only [bindo_some]
          rw [c1]
          simp only [bindo_some]
          unfold X4_reckon_b86
          simp only [lete_eq]
          rw [c2, hr2, mx1 h1 h2, nI_add]
          exact z1
        · show X12_makeLaw_l29 _ τ (nI k) x1 y1 xy xx (nI T) = _
          rw [X12_makeLaw_l29, htt, if_neg (nI_nlt (by omega) (by omega)), g2]
          simp only [bindo_some]
          rw [if_pos trivial, inb_nI (show k < 8 by omega) (by decide), ix_nI (by omega), ed, pk_sub hd, show (7 : Int32) * nI (T - d) + (5 : Int32) = nI (7 * (T - d) + 5) by rw [show (7 : Int32) = nI 7 from rfl, pk_mul]; exact nI_add _ 5, inb_nI (by omega) (by decide), ix_nI (by omega), y2v]
          simp only [bindo_some, chk_t, lete_eq, lg_cmp_ge]
          have hb : ∀ (rec : (Mem × Int32 × Int64 × Int64 × Int64 × Int64 × Int32) → Option (Mem)) (τ0 : Mem) (a1 a2 a3 a4 s : Int64), τ0.1 13 k = nI ra → X12_makeLaw_b159 rec τ0 (nI k) a1 a2 a3 a4 (nI T) s = rec (wJ τ0 0 51 (if s ≤ τ0.2 0 51 then τ0.2 0 51 else s), nI k, a1, a2, a3, a4, nI (T + ra)) := by
            intro rec τ0 a1 a2 a3 a4 s e0
            unfold X12_makeLaw_b159 X12_makeLaw_b181 X12_makeLaw_b184
            simp only [lete_eq, lg_cmp_le]
            rw [inb_nI (show k < 8 by omega) (by decide), ix_nI (by omega)]
            simp only [chk_t]
            by_cases cs : s ≤ τ0.2 0 51
            · rw [if_pos cs, if_pos cs]
              rw [show (wJ τ0 0 51 (τ0.2 0 51)).1 13 k = nI ra from e0, nI_add]
            · rw [if_neg cs, if_neg cs]
              rw [show (wJ τ0 0 51 s).1 13 k = nI ra from e0, nI_add]
          rw [hb _ (wJ (wJ τ 0 47 _) 0 50 _) _ _ _ _ _ hra, hb _ (wJ (wJ τ 0 47 _) 0 50 _) _ _ _ _ _ hra]
          by_cases cs : (τ.1 2 (7 * (T - d) + 5)).toInt64 ≤ v.toInt64
          · rw [if_pos cs]
            rw [if_pos cs] at z2
            exact z2
          · rw [if_neg cs]
            rw [if_neg cs] at z2
            exact z2
      · obtain ⟨σ'', τ'', c', X1, Y1, XY, XX, z0, z1, z2, z3, z4, z5⟩ := ih (T + ra) c f1 f2 σ τ _ _ _ _ (by omega) (by omega) (by omega) (by omega) (by omega) hR hra htt hts hrow hL
        refine ⟨σ'', τ'', c', X1, Y1, XY, XX, z0, ?_, ?_, z3, z4, z5⟩
        · show X4_reckon_l37 n (100 + k) _ σ (nI T) = _
          have hv : X2_value n σ (100 + k) (nI T) = some (-9223372036854775808) := by
            unfold X2_value
            rw [g1]
            simp only [bindo_some]
            rw [if_neg (by decide)]
          rw [X4_reckon_l37, hts, if_neg (nI_nlt (by omega) (by omega)), hv]
          simp only [bindo_some]
          rw [if_pos ((lg_cmp_eq _ _).mpr rfl)]
          unfold X4_reckon_b86
          simp only [lete_eq]
          rw [hr2, mx1 h1 h2, nI_add]
          exact z1
        · show X12_makeLaw_l29 _ τ (nI k) x1 y1 xy xx (nI T) = _
          rw [X12_makeLaw_l29, htt, if_neg (nI_nlt (by omega) (by omega)), g2]
          simp only [bindo_some]
          rw [if_neg (by decide)]
          unfold X12_makeLaw_b184
          simp only [lete_eq]
          rw [inb_nI (show k < 8 by omega) (by decide), ix_nI (by omega), hra, nI_add, chk_t]
          exact z2
/-- both have reckoned the law: what they hold -/
theorem law_ok {n t a st lo co mk ot : Nat} {k : Nat} {σ τ : Mem} (h : RelC n t a st lo co mk ot σ τ) (hk : k < n) : ∃ σ' τ', X4_reckon n σ (100 + k) = some σ' ∧ X12_makeLaw τ (nI k) = some τ' ∧ σ'.1 = σ.1 ∧ τ'.1 = τ.1 ∧ σ'.2 26 2 = τ'.2 0 47 ∧ σ'.2 26 3 = τ'.2 0 50 ∧ σ'.2 26 4 = τ'.2 0 51 ∧ ((σ'.2 26 2) * (σ'.2 26 8)) - ((σ'.2 26 5) * (σ'.2 26 6)) = τ'.2 0 48 ∧ ((σ'.2 26 2) * (σ'.2 26 7)) - ((σ'.2 26 5) * (σ'.2 26 5)) = τ'.2 0 49 ∧ (0 ≤ (τ'.2 0 47).toInt ∧ (τ'.2 0 47).toInt ≤ 3001) ∧ (-90000000 ≤ (τ'.2 0 50).toInt ∧ (τ'.2 0 50).toInt ≤ 90000000) ∧ (-3100000000000000 ≤ (τ'.2 0 48).toInt ∧ (τ'.2 0 48).toInt ≤ 3100000000000000) ∧ (-3100000000000000 ≤ (τ'.2 0 49).toInt ∧ (τ'.2 0 49).toInt ≤ 3100000000000000) := by
  have hR := relR_of h
  obtain ⟨e_fa, e_tr, e_mp, e_lg, e_ro, e_ti, e_at_, e_ki, e_ac, e_pa, e_sc, e_ld, e_mc, e_mt, e_cc, e_lc, e_l1, e_l2, e_l3, e_kc, e_k1, e_k2, e_k3, e_k4, e_oc, e_oa, e_b1, e_b2, e_pr, e_sh0, e_sh1, e_sh2, e_sh3, e_ch, e_c0, e_d0, e_c1, e_d1, e_c2, e_d2, e_c3, e_d3, e_c4, e_d4, e_c5, e_d5, e_c6, e_d6, e_c7, e_d7, e_ps, e_oz, e_rm, e_lb, e_ab, e_ru, e_mb, e_wb, e_w0, e_w1, e_ws, e_wp, e_kb, e_tb, e_bb⟩ := h
  obtain ⟨q0, q1, q2, q3, q4, q5, q6, q7, q8, ⟨ra, r1, r2, q9⟩, q10⟩ := e_ch k hk
  have z64 : (0 : Int64).toInt = 0 := t64_0
  obtain ⟨σ', τ', c', X1, Y1, XY, XX, z0, z1, z2, z3, z4, z5⟩ := law_loop (lo := lo) (co := co) hk e_d0 e_d1 r1 r2 (t + 1) 0 0 FU FU (wJ (wJ (wJ (wJ (wJ (wJ (wJ σ 26 2 0) 26 3 0) 26 4 0) 26 5 0) 26 6 0) 26 7 0) 26 8 0) (wJ (wJ (wJ τ 0 47 0) 0 50 0) 0 51 0) 0 0 0 0 (by omega) (by omega) (show t + 1 < FU by unfold FU; omega) (show t + 1 < FU by unfold FU; omega) (by omega) (relR_1 hR rfl rfl) q9 e_c1 (e_ti.trans e_c1) e_wb ⟨rfl, rfl, rfl, rfl, rfl, rfl, rfl, z64, ⟨by rw [show (wJ (wJ (wJ (wJ (wJ (wJ (wJ σ 26 2 0) 26 3 0) 26 4 0) 26 5 0) 26 6 0) 26 7 0) 26 8 0).2 26 3 = 0 from rfl, z64]; omega, by rw [show (wJ (wJ (wJ (wJ (wJ (wJ (wJ σ 26 2 0) 26 3 0) 26 4 0) 26 5 0) 26 6 0) 26 7 0) 26 8 0).2 26 3 = 0 from rfl, z64]; omega⟩, ⟨by rw [show (wJ (wJ (wJ (wJ (wJ (wJ (wJ σ 26 2 0) 26 3 0) 26 4 0) 26 5 0) 26 6 0) 26 7 0) 26 8 0).2 26 4 = 0 from rfl, z64]; omega, by rw [show (wJ (wJ (wJ (wJ (wJ (wJ (wJ σ 26 2 0) 26 3 0) 26 4 0) 26 5 0) 26 6 0) 26 7 0) 26 8 0).2 26 4 = 0 from rfl, z64]; omega⟩, by rw [z64]; omega, by rw [z64]; omega, by rw [z64]; omega, by rw [z64]; omega⟩
  obtain ⟨e1, e2, e3, e4, e5, e6, e7, b1, b2, b3, b4, b5, b6, b7⟩ := z5
  refine ⟨σ', wJ (wJ τ' 0 48 (((τ'.2 0 47) * XY) - (X1 * Y1))) 0 49 (((τ'.2 0 47) * XX) - (X1 * X1)), ?_, ?_, z3, z4, e1, e2, e3, ?_, ?_, ?_, ?_, ?_, ?_⟩
  · unfold X4_reckon
    simp only [lete_eq]
    exact z1
  · unfold X12_makeLaw
    simp only [lete_eq]
    exact z2
  · show _ = ((τ'.2 0 47) * XY) - (X1 * Y1)
    rw [e1, e4, e5, e7]
  · show _ = ((τ'.2 0 47) * XX) - (X1 * X1)
    rw [e1, e4, e6]
  · show 0 ≤ (τ'.2 0 47).toInt ∧ (τ'.2 0 47).toInt ≤ 3001
    rw [← e1, b1]
    omega
  · show -90000000 ≤ (τ'.2 0 50).toInt ∧ (τ'.2 0 50).toInt ≤ 90000000
    rw [← e2]
    omega
  · show -3100000000000000 ≤ (((τ'.2 0 47) * XY) - (X1 * Y1)).toInt ∧ (((τ'.2 0 47) * XY) - (X1 * Y1)).toInt ≤ 3100000000000000
    rw [e1] at b1
    have m1 := mul_bd (a := (τ'.2 0 47).toInt) (b := XY.toInt) (A := 3001) (B := 504168000000) (by omega) (by omega) (by omega) (by omega)
    have m2 := mul_bd (a := X1.toInt) (b := Y1.toInt) (A := 24008000) (B := 63021000) (by omega) (by omega) (by omega) (by omega)
    have p1 := i64_mul (a := τ'.2 0 47) (b := XY) (by omega) (by omega)
    have p2 := i64_mul (a := X1) (b := Y1) (by omega) (by omega)
    rw [i64_sub (by rw [p1, p2]; omega) (by rw [p1, p2]; omega), p1, p2]
    omega
  · show -3100000000000000 ≤ (((τ'.2 0 47) * XX) - (X1 * X1)).toInt ∧ (((τ'.2 0 47) * XX) - (X1 * X1)).toInt ≤ 3100000000000000
    rw [e1] at b1
    have m1 := mul_bd (a := (τ'.2 0 47).toInt) (b := XX.toInt) (A := 3001) (B := 192064000000) (by omega) (by omega) (by omega) (by omega)
    have m2 := mul_bd (a := X1.toInt) (b := X1.toInt) (A := 24008000) (B := 24008000) (by omega) (by omega) (by omega) (by omega)
    have p1 := i64_mul (a := τ'.2 0 47) (b := XX) (by omega) (by omega)
    have p2 := i64_mul (a := X1) (b := X1) (by omega) (by omega)
    rw [i64_sub (by rw [p1, p2]; omega) (by rw [p1, p2]; omega), p1, p2]
    omega
theorem f_law {n t a st lo co mk ot : Nat} {σ τ : Mem} (h : RelC n t a st lo co mk ot σ τ) (p w : Int32) : Sim (RelE n) (X11_law n σ p w) (X12_law τ p w) := by
  have h0 := h
  obtain ⟨e_fa, e_tr, e_mp, e_lg, e_ro, e_ti, e_at_, e_ki, e_ac, e_pa, e_sc, e_ld, e_mc, e_mt, e_cc, e_lc, e_l1, e_l2, e_l3, e_kc, e_k1, e_k2, e_k3, e_k4, e_oc, e_oa, e_b1, e_b2, e_pr, e_sh0, e_sh1, e_sh2, e_sh3, e_ch, e_c0, e_d0, e_c1, e_d1, e_c2, e_d2, e_c3, e_d3, e_c4, e_d4, e_c5, e_d5, e_c6, e_d6, e_c7, e_d7, e_ps, e_oz, e_rm, e_lb, e_ab, e_ru, e_mb, e_wb, e_w0, e_w1, e_ws, e_wp, e_kb, e_tb, e_bb⟩ := h
  unfold X11_law X12_law
  rw [ev_find (e_cc.trans e_c0) e_d0, ev_isChannel e_c0 e_d0]
  simp only [bindo_some, bz_eq0, Decidable.not_not]
  by_cases h1 : 0 ≤ p.toInt ∧ p.toInt < n
  · rw [if_pos h1, if_neg (fun z => z h1)]
    obtain ⟨k, hk, rfl⟩ := nat_of 8 h1.1 (by omega) (by decide)
    rw [nI_toInt (by omega)] at h1 ⊢
    have hk : k < n := by omega
    simp only [Int.toNat_natCast, caseo]
    rw [isCh_of hk, chk_t]
    obtain ⟨σ', τ', g1, g2, g3, g4, g5, g6, g7, g8, g9, -, -, -, -⟩ := law_ok h0 hk
    rw [g1, g2]
    simp only [mw, bindo_some, bz_eq0, Decidable.not_not, Int32.toInt_toInt64, t32_0, t32_1, t32_2, t32_3, t32_4, t32_5, t32_6, t32_7, t32_8, t32_9, t32_10, t32_11, t32_19, t32_20, t32_23, t32_24, t32_29, t32_30, t32_39, t32_40, t32_49, t32_50, t32_79, t32_99, t32_100, t32_119, t32_120, t32_159, t32_160, t32_249, t32_250, t32_400, t32_500, t32_800, t32_950, t32_1000, t32_1050, t32_2000, t32_2999, t32_3000, t32_8000, t32_10000, t32_30000, t32_500000, t32_m1, t32_m2, t32_m3, t32_m4, t32_m9, t32_m10, t32_m500, t32_m1000, t32_m10000, t32_m30000, t64_0, t64_1, t64_2, t64_3, t64_4, t64_5, t64_6, t64_7, t64_8, t64_9, t64_10, t64_11, t64_19, t64_20, t64_23, t64_24, t64_29, t64_30, t64_39, t64_40, t64_49, t64_50, t64_79, t64_99, t64_100, t64_119, t64_120, t64_159, t64_160, t64_249, t64_250, t64_400, t64_500, t64_800, t64_950, t64_1000, t64_1050, t64_2000, t64_2999, t64_3000, t64_8000, t64_10000, t64_30000, t64_500000, t64_m1, t64_m2, t64_m3, t64_m4, t64_m9, t64_m10, t64_m500, t64_m1000, t64_m10000, t64_m30000]
    have hr : RelE n σ' τ' := ⟨t, a, st, lo, co, mk, ot, relC_1 h0 g3 g4⟩
    have hr0 : RelE n σ' τ := ⟨t, a, st, lo, co, mk, ot, relC_1 h0 g3 rfl⟩
    unfold X4_a X4_b
    simp only [bindo_some]
    by_cases c : 0 ≤ w.toInt ∧ w.toInt ≤ 4
    · rw [if_pos c]
      obtain ⟨i, hi, rfl⟩ := nat_of 4 c.1 c.2 (by decide)
      rcases (show i = 0 ∨ i = 1 ∨ i = 2 ∨ i = 3 ∨ i = 4 by omega) with rfl | rfl | rfl | rfl | rfl
      · rw [if_pos (by decide), if_neg (by decide)]
        exact sim_ret' g5 hr
      · rw [if_neg (by decide), if_pos (by decide), if_pos (by decide), if_neg (by decide)]
        exact sim_ret' g8 hr
      · rw [if_neg (by decide), if_neg (by decide), if_pos (by decide), if_pos (by decide), if_pos (by decide), if_neg (by decide)]
        exact sim_ret' g9 hr
      · rw [if_neg (by decide), if_neg (by decide), if_neg (by decide), if_pos (by decide), if_pos (by decide), if_pos (by decide), if_pos (by decide), if_neg (by decide)]
        exact sim_ret' g6 hr
      · rw [if_neg (by decide), if_neg (by decide), if_neg (by decide), if_neg (by decide), if_pos (by decide), if_pos (by decide), if_pos (by decide), if_pos (by decide), if_pos (by decide)]
        exact sim_ret' g7 hr
    · rw [if_neg c, if_neg (fun e => c (by rw [e]; decide)), if_neg (fun e => c (by rw [e]; decide)), if_neg (fun e => c (by rw [e]; decide)), if_neg (fun e => c (by rw [e]; decide)), if_neg (fun e => c (by rw [e]; decide))]
      exact sim_ret hr0
  · rw [if_neg h1, if_pos h1]
    exact sim_ret ⟨_, _, _, _, _, _, _, h0⟩
theorem f_valid {n t a st lo co mk ot : Nat} {σ τ : Mem} (h : RelC n t a st lo co mk ot σ τ) (p : Int32) : Sim (RelE n) (X11_valid n σ p) (X12_valid τ p) := by
  have h0 := h
  obtain ⟨e_fa, e_tr, e_mp, e_lg, e_ro, e_ti, e_at_, e_ki, e_ac, e_pa, e_sc, e_ld, e_mc, e_mt, e_cc, e_lc, e_l1, e_l2, e_l3, e_kc, e_k1, e_k2, e_k3, e_k4, e_oc, e_oa, e_b1, e_b2, e_pr, e_sh0, e_sh1, e_sh2, e_sh3, e_ch, e_c0, e_d0, e_c1, e_d1, e_c2, e_d2, e_c3, e_d3, e_c4, e_d4, e_c5, e_d5, e_c6, e_d6, e_c7, e_d7, e_ps, e_oz, e_rm, e_lb, e_ab, e_ru, e_mb, e_wb, e_w0, e_w1, e_ws, e_wp, e_kb, e_tb, e_bb⟩ := h
  unfold X11_valid X12_valid
  rw [ev_find (e_cc.trans e_c0) e_d0, ev_isChannel e_c0 e_d0]
  simp only [bindo_some, bz_eq0, Decidable.not_not]
  by_cases h1 : 0 ≤ p.toInt ∧ p.toInt < n
  · rw [if_pos h1, if_pos h1]
    obtain ⟨k, hk, rfl⟩ := nat_of 8 h1.1 (by omega) (by decide)
    rw [nI_toInt (by omega)] at h1 ⊢
    have hk : k < n := by omega
    simp only [Int.toNat_natCast, caseo]
    rw [isCh_of hk, chk_t]
    obtain ⟨σ', τ', g1, g2, g3, g4, g5, g6, g7, g8, g9, n1, n2, n3, n4⟩ := law_ok h0 hk
    rw [g1, g2]
    simp only [bindo_some]
    have hr : RelE n σ' τ' := ⟨t, a, st, lo, co, mk, ot, relC_1 h0 g3 g4⟩
    unfold X4_verdict X4_a X4_b
    simp only [bindo_some, lete_eq, g8, g9]
    simp only [g5, g6, g7, lg_cmp_le, lg_cmp_gt, lg_cmp_lt, lg_cmp_ge]
    generalize τ'.2 0 48 = A at *
    generalize τ'.2 0 49 = B at *
    generalize τ'.2 0 47 = N at *
    generalize τ'.2 0 50 = O at *
    generalize τ'.2 0 51 = F at *
    have p1 : ((950 : Int64) * B).toInt = 950 * B.toInt := by rw [i64_mul (by rw [t64_950]; omega) (by rw [t64_950]; omega), t64_950]
    have p2 : ((1000 : Int64) * A).toInt = 1000 * A.toInt := by rw [i64_mul (by rw [t64_1000]; omega) (by rw [t64_1000]; omega), t64_1000]
    have p3 : ((1050 : Int64) * B).toInt = 1050 * B.toInt := by rw [i64_mul (by rw [t64_1050]; omega) (by rw [t64_1050]; omega), t64_1050]
    have p4 : ((2 : Int64) * B).toInt = 2 * B.toInt := by rw [i64_mul (by rw [t64_2]; omega) (by rw [t64_2]; omega), t64_2]
    have p5 : ((50 : Int64) * N).toInt = 50 * N.toInt := by rw [i64_mul (by rw [t64_50]; omega) (by rw [t64_50]; omega), t64_50]
    have p6 : ((-50 : Int64) * N).toInt = -50 * N.toInt := by rw [i64_mul (by rw [t64_m50]; omega) (by rw [t64_m50]; omega), t64_m50]
    have p7 : (abL O).toInt = if 0 < O.toInt then O.toInt else -O.toInt := by
      unfold abL
      simp only [Int64.lt_iff_toInt_lt, t64_0]
      split
      · rfl
      · rw [Int64.toInt_neg]
        exact Int.bmod_eq_of_le (by omega) (by omega)
    simp only [Int64.le_iff_toInt_le, Int64.lt_iff_toInt_lt, p1, p2, p3, p4, p5, p6, p7, t64_m50, t32_0, t32_1, t32_2, t32_3, t32_4, t32_5, t32_6, t32_7, t32_8, t32_9, t32_10, t32_11, t32_19, t32_20, t32_23, t32_24, t32_29, t32_30, t32_39, t32_40, t32_49, t32_50, t32_79, t32_99, t32_100, t32_119, t32_120, t32_159, t32_160, t32_249, t32_250, t32_400, t32_500, t32_800, t32_950, t32_1000, t32_1050, t32_2000, t32_2999, t32_3000, t32_8000, t32_10000, t32_30000, t32_500000, t32_m1, t32_m2, t32_m3, t32_m4, t32_m9, t32_m10, t32_m500, t32_m1000, t32_m10000, t32_m30000, t64_0, t64_1, t64_2, t64_3, t64_4, t64_5, t64_6, t64_7, t64_8, t64_9, t64_10, t64_11, t64_19, t64_20, t64_23, t64_24, t64_29, t64_30, t64_39, t64_40, t64_49, t64_50, t64_79, t64_99, t64_100, t64_119, t64_120, t64_159, t64_160, t64_249, t64_250, t64_400, t64_500, t64_800, t64_950, t64_1000, t64_1050, t64_2000, t64_2999, t64_3000, t64_8000, t64_10000, t64_30000, t64_500000, t64_m1, t64_m2, t64_m3, t64_m4, t64_m9, t64_m10, t64_m500, t64_m1000, t64_m10000, t64_m30000]
    by_cases c0 : B.toInt ≤ 0
    · rw [if_pos c0, if_pos c0]
      exact sim_ret hr
    · rw [if_neg c0, if_neg c0]
      by_cases c1 : 1000 * A.toInt < 950 * B.toInt
      · rw [if_pos c1]
        simp only [bindo_some]
        by_cases d1 : A.toInt < 0
        · rw [if_pos d1]
          exact sim_ret hr
        · rw [if_neg d1, if_neg (show ¬ 2 * B.toInt < A.toInt by omega), if_pos c1]
          exact sim_ret hr
      · rw [if_neg c1, if_neg (show ¬ A.toInt < 0 by omega)]
        by_cases c2 : 1000 * A.toInt ≤ 1050 * B.toInt
        · rw [if_pos c2, if_neg (show ¬ 2 * B.toInt < A.toInt by omega), if_neg c1, if_pos c2]
          by_cases c3 : 50 * N.toInt < O.toInt
          · rw [if_neg (show ¬ (if 0 < O.toInt then O.toInt else -O.toInt) ≤ 50 * N.toInt by split <;> omega), if_pos c3]
            exact sim_ret hr
          · rw [if_neg c3]
            by_cases c4 : -50 * N.toInt ≤ O.toInt
            · rw [if_pos (show (if 0 < O.toInt then O.toInt else -O.toInt) ≤ 50 * N.toInt by split <;> omega), if_pos c4]
              by_cases c5 : F.toInt ≤ 400
              · rw [if_pos c5, if_pos c5]
                exact sim_ret hr
              · rw [if_neg c5, if_neg c5]
                exact sim_ret hr
            · rw [if_neg (show ¬ (if 0 < O.toInt then O.toInt else -O.toInt) ≤ 50 * N.toInt by split <;> omega), if_neg c4]
              exact sim_ret hr
        · rw [if_neg c2]
          simp only [bindo_some]
          by_cases d2 : 2 * B.toInt < A.toInt
          · rw [if_pos d2]
            exact sim_ret hr
          · rw [if_neg d2, if_neg c1, if_neg c2]
            exact sim_ret hr
  · rw [if_neg h1, if_neg h1]
    exact sim_ret ⟨_, _, _, _, _, _, _, h0⟩
