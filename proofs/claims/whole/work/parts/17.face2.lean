/-! THE CALLS with short loops: start; the sheets -/
def wA (σ : Mem) (o : Nat) (f : Nat → Int32) : Mem := (fun o' => if o' = o then f else σ.1 o', σ.2)
def zf (f : Nat → Int32) (a b : Nat) : Nat → Int32 := fun j => if a ≤ j ∧ j < b then 0 else f j
theorem wA_o (σ : Mem) (o : Nat) (f : Nat → Int32) : (wA σ o f).1 o = f := by simp [wA]
theorem wA_wI (σ : Mem) (o k : Nat) (x : Int32) (f : Nat → Int32) : wA (wI σ o k x) o f = wA σ o f := by
  refine Prod.ext (funext fun o' => ?_) rfl
  simp only [wA, wI]
  split <;> rfl
theorem wA_self (σ : Mem) (o : Nat) : wA σ o (σ.1 o) = σ := by
  refine Prod.ext (funext fun o' => ?_) rfl
  simp only [wA]
  split
  · rename_i h; rw [h]
  · rfl
theorem wA_hi {σ : Mem} {o k : Nat} {f : Nat → Int32} (h : o < 100) : (wA σ o f).1 (100 + k) = σ.1 (100 + k) := by
  show (if 100 + k = o then f else σ.1 (100 + k)) = _
  rw [if_neg (by omega)]
theorem zf_nil (f : Nat → Int32) (a : Nat) : zf f a a = f := by
  funext j
  simp only [zf]
  rw [if_neg (by omega)]
theorem zf_step (f : Nat → Int32) {a b : Nat} (h : a < b) : zf (upd f a 0) (a + 1) b = zf f a b := by
  funext j
  simp only [zf, upd]
  by_cases e : j = a
  · subst e
    rw [if_neg (by omega), if_pos rfl, if_pos (by omega)]
  · by_cases h2 : a + 1 ≤ j ∧ j < b
    · rw [if_pos h2, if_pos (by omega)]
    · rw [if_neg h2, if_neg e, if_neg (by omega)]
theorem nle_lit {i N : Nat} (h : i < N) (hN : N < 2 ^ 31) : ¬ nI N ≤ nI i := nI_ge h hN
theorem loop_begin {n : Nat} : ∀ (k i f : Nat) (σ : Mem), i + k = 30 → k < f → loopF (fun (rec : (Mem × Int32) → Option (Mem)) (s : Mem × Int32) => X8_begin_l12 n rec s.1 s.2) f (σ, nI i) = some (wA σ 21 (zf (σ.1 21) i 30)) := by
  intro k
  induction k with
  | zero =>
    intro i f σ hi hf
    obtain ⟨f, rfl⟩ : ∃ g, f = g + 1 := ⟨f - 1, by omega⟩
    have hi : i = 30 := by omega
    subst hi
    show X8_begin_l12 n _ σ (nI 30) = _
    rw [X8_begin_l12]
    rw [if_pos (by decide), zf_nil, wA_self]
  | succ k ih =>
    intro i f σ hi hf
    obtain ⟨f, rfl⟩ : ∃ g, f = g + 1 := ⟨f - 1, by omega⟩
    show X8_begin_l12 n _ σ (nI i) = _
    rw [X8_begin_l12]
    rw [if_neg (show ¬ (30 : Int32) ≤ nI i from nle_lit (N := 30) (by omega) (by decide)), inb_nI (by omega) (by decide), ix_nI (by omega)]
    simp only [chk_t, lete_eq, nI_1]
    rw [ih (i + 1) f _ (by omega) (by omega), wA_wI, wI_o, zf_step _ (by omega)]
theorem loop_start : ∀ (k i f : Nat) (σ : Mem), i + k = 30 → k < f → loopF (fun (rec : (Mem × Int32) → Option (Int32 × Mem)) (s : Mem × Int32) => X12_start_l34 rec s.1 s.2) f (σ, nI i) = some (1, wA σ 7 (zf (σ.1 7) i 30)) := by
  intro k
  induction k with
  | zero =>
    intro i f σ hi hf
    obtain ⟨f, rfl⟩ : ∃ g, f = g + 1 := ⟨f - 1, by omega⟩
    have hi : i = 30 := by omega
    subst hi
    show X12_start_l34 _ σ (nI 30) = _
    rw [X12_start_l34]
    rw [if_pos (by decide), zf_nil, wA_self]
  | succ k ih =>
    intro i f σ hi hf
    obtain ⟨f, rfl⟩ : ∃ g, f = g + 1 := ⟨f - 1, by omega⟩
    show X12_start_l34 _ σ (nI i) = _
    rw [X12_start_l34]
    rw [if_neg (show ¬ (30 : Int32) ≤ nI i from nle_lit (N := 30) (by omega) (by decide)), inb_nI (by omega) (by decide), ix_nI (by omega)]
    simp only [chk_t, lete_eq, nI_1]
    rw [ih (i + 1) f _ (by omega) (by omega), wA_wI, wI_o, zf_step _ (by omega)]
theorem okIn_0 {st x : Nat} {k a b c : Nat → Int32} (h : OkProg st k a b c) : OkIn st x (nI 0) k a c := by
  intro hx
  have n01 : ¬ (0 : Int32) = 2 := by decide
  have n12 : ¬ (1 : Int32) = 2 := by decide
  have n20 : ¬ (2 : Int32) = 0 := by decide
  have n21 : ¬ (2 : Int32) = 1 := by decide
  have n30 : ¬ (3 : Int32) = 0 := by decide
  have n31 : ¬ (3 : Int32) = 1 := by decide
  have n32 : ¬ (3 : Int32) = 2 := by decide
  have n40 : ¬ (4 : Int32) = 0 := by decide
  have n41 : ¬ (4 : Int32) = 1 := by decide
  have n42 : ¬ (4 : Int32) = 2 := by decide
  refine ⟨0, rfl, fun hk => ?_, fun hk => ?_, fun _ => rfl⟩
  · rcases h x hx with q | q | q | q | q
    · omega
    · omega
    · rw [q.1] at hk; exact absurd hk (by simp [n20, n21])
    · rw [q.1] at hk; exact absurd hk (by simp [n30, n31])
    · rw [q] at hk; exact absurd hk (by simp [n40, n41])
  · rcases h x hx with q | q | q | q | q
    · rw [q.1] at hk; exact absurd hk n01
    · rw [q.1] at hk; exact absurd hk n12
    · omega
    · rw [q.1] at hk; exact absurd hk n32
    · rw [q] at hk; exact absurd hk n42
theorem ev_begin (n : Nat) (σ : Mem) : X8_begin n σ = some (wA (wI (wI (wI σ 20 5 1) 20 6 0) 20 9 0) 21 (zf (σ.1 21) 0 30)) := by
  have h9 := loop_begin (n := n) 30 0 FU (wI (wI (wI σ 20 5 1) 20 6 0) 20 9 0) rfl (by decide)
  rw [show (wI (wI (wI σ 20 5 1) 20 6 0) 20 9 0).1 21 = σ.1 21 from rfl] at h9
  unfold X8_begin X8_comeTo
  simp only [lete_eq, bindo_some]
  exact h9
theorem ev_startL (σ : Mem) : loopF (fun (rec : (Mem × Int32) → Option (Int32 × Mem)) (s : Mem × Int32) => X12_start_l34 rec s.1 s.2) FU (σ, (0 : Int32)) = some (1, wA σ 7 (zf (σ.1 7) 0 30)) := by
  have h9 := loop_start 30 0 FU σ rfl (by decide)
  exact h9
theorem f_start {n t a st lo co mk ot : Nat} {σ τ : Mem} (h : RelC n t a st lo co mk ot σ τ) : Sim (RelE n) (X11_start n σ) (X12_start τ) := by
  have h0 := h
  obtain ⟨e_fa, e_tr, e_mp, e_lg, e_ro, e_ti, e_at_, e_ki, e_ac, e_pa, e_sc, e_ld, e_mc, e_mt, e_cc, e_lc, e_l1, e_l2, e_l3, e_kc, e_k1, e_k2, e_k3, e_k4, e_oc, e_oa, e_b1, e_b2, e_pr, e_sh0, e_sh1, e_sh2, e_sh3, e_ch, e_c0, e_d0, e_c1, e_d1, e_c2, e_d2, e_c3, e_d3, e_c4, e_d4, e_c5, e_d5, e_c6, e_d6, e_c7, e_d7, e_ps, e_oz, e_rm, e_lb, e_ab, e_ru, e_mb, e_wb, e_w0, e_w1, e_ws, e_wp, e_kb, e_tb, e_bb⟩ := h
  unfold X11_start X12_start
  simp only [ev_isOff, bindo_some, bz_eq0, e_ro, e_sc, lete_eq]
  refine sim_ite Iff.rfl (fun _ => sim_ret ⟨_, _, _, _, _, _, _, h0⟩) (fun h1 => ?_)
  refine sim_ite Iff.rfl (fun h2 => ?_) (fun _ => sim_ret ⟨_, _, _, _, _, _, _, h0⟩)
  have h1 := Decidable.not_not.mp h1
  rw [ev_begin, ev_startL]
  exact sim_ret' rfl ⟨t, 0, st, lo, co, mk, ot, ⟨e_fa, e_tr, e_mp, e_lg, rfl, e_ti, rfl, e_ki, e_ac, e_pa, e_sc, by show zf (σ.1 21) 0 30 = zf (τ.1 7) 0 30; rw [e_ld], e_mc, e_mt, e_cc, e_lc, e_l1, e_l2, e_l3, e_kc, e_k1, e_k2, e_k3, e_k4, e_oc, e_oa, e_b1, e_b2, e_pr, e_sh0, e_sh1, e_sh2, e_sh3, by intro k hk; simp (disch := omega) only [wA_hi, wI_hi]; exact e_ch k hk, e_c0, e_d0, e_c1, e_d1, rfl, Nat.zero_le _, e_c3, e_d3, e_c4, e_d4, e_c5, e_d5, e_c6, e_d6, e_c7, e_d7, e_ps, (fun z => absurd (show (1 : Int32) = 0 from z) (by decide)), Or.inr (Or.inl rfl), e_lb, ⟨fun _ => e_ab.1 (Or.inl h1), (fun z => absurd (show (1 : Int32) = 2 from z) (by decide))⟩, fun _ => ⟨rfl, okIn_0 e_ps⟩, e_mb, e_wb, e_w0, e_w1, e_ws, e_wp, e_kb, e_tb, e_bb⟩⟩
theorem ev_renew_loop {n o : Nat} {l m : Int32} : ∀ (k i f : Nat) (σ : Mem), i + k = 40 → k < f → loopF (fun (rec : (Mem × Int32 × Int32 × Int32) → Option (Mem)) (s : Mem × Int32 × Int32 × Int32) => X9_renew_l2 n o rec s.1 s.2.1 s.2.2.1 s.2.2.2) f (σ, l, m, nI i) = some (wI (wI (wI (wA σ (o + 1) (zf (σ.1 (o + 1)) i 40)) o 3 1) o 2 l) o 1 m) := by
  intro k
  induction k with
  | zero =>
    intro i f σ hi hf
    obtain ⟨f, rfl⟩ : ∃ g, f = g + 1 := ⟨f - 1, by omega⟩
    have hi : i = 40 := by omega
    subst hi
    show X9_renew_l2 n o _ σ l m (nI 40) = _
    rw [X9_renew_l2]
    rw [if_pos (by decide), zf_nil, wA_self]
    rfl
  | succ k ih =>
    intro i f σ hi hf
    obtain ⟨f, rfl⟩ : ∃ g, f = g + 1 := ⟨f - 1, by omega⟩
    show X9_renew_l2 n o _ σ l m (nI i) = _
    rw [X9_renew_l2]
    rw [if_neg (show ¬ (40 : Int32) ≤ nI i from nle_lit (N := 40) (by omega) (by decide)), inb_nI (by omega) (by decide), ix_nI (by omega)]
    simp only [chk_t, lete_eq, nI_1]
    rw [ih (i + 1) f _ (by omega) (by omega), wA_wI, wI_o, zf_step _ (by omega)]
theorem ev_renew {n o : Nat} (l m : Int32) (σ : Mem) : X9_renew n o σ l m = some (wI (wI (wI (wA σ (o + 1) (zf (σ.1 (o + 1)) 0 40)) o 3 1) o 2 l) o 1 m) := by
  have h := ev_renew_loop (n := n) (o := o) (l := l) (m := m) 40 0 FU σ rfl (by decide)
  exact h
theorem ev_msheet {p : Nat} (hp : p < 4) : ∀ (k i f : Nat) (σ : Mem), i + k = 40 → k < f → loopF (fun (rec : (Mem × Int32 × Int32) → Option (Int32 × Mem)) (s : Mem × Int32 × Int32) => X12_sheet_l67 rec s.1 s.2.1 s.2.2) f (σ, nI p, nI i) = some (1, wA σ 10 (zf (σ.1 10) (40 * p + i) (40 * p + 40))) := by
  intro k
  induction k with
  | zero =>
    intro i f σ hi hf
    obtain ⟨f, rfl⟩ : ∃ g, f = g + 1 := ⟨f - 1, by omega⟩
    have hi : i = 40 := by omega
    subst hi
    show X12_sheet_l67 _ σ (nI p) (nI 40) = _
    rw [X12_sheet_l67]
    rw [if_pos (by decide), zf_nil, wA_self]
  | succ k ih =>
    intro i f σ hi hf
    obtain ⟨f, rfl⟩ : ∃ g, f = g + 1 := ⟨f - 1, by omega⟩
    show X12_sheet_l67 _ σ (nI p) (nI i) = _
    rw [X12_sheet_l67]
    rw [show (40 : Int32) * nI p + nI i = nI (40 * p + i) by rw [show (40 : Int32) = nI 40 from rfl, pk_mul, nI_add]]
    rw [if_neg (show ¬ (40 : Int32) ≤ nI i from nle_lit (N := 40) (by omega) (by decide)), inb_nI (by omega) (by decide), ix_nI (by omega)]
    simp only [chk_t, lete_eq, nI_1]
    rw [ih (i + 1) f _ (by omega) (by omega), wA_wI, wI_o]
    rw [show 40 * p + (i + 1) = (40 * p + i) + 1 by omega, zf_step _ (by omega)]
theorem eqSh_cells {f g : Nat → Int32} {lane len : Int32} {cells cells' : Nat → Int32} {k : Nat} (h : EqSh f g lane len cells k) (hc : ∀ i, i < 40 → cells' (k + i) = cells (k + i)) : EqSh f g lane len cells' k := ⟨h.1, fun i hi => by rw [hc i hi]; exact h.2.1 i hi, h.2.2⟩
theorem zf_out {f : Nat → Int32} {a b j : Nat} (h : j < a ∨ b ≤ j) : zf f a b j = f j := by
  simp only [zf]
  rw [if_neg (by omega)]
theorem zf_in {f : Nat → Int32} {a b j : Nat} (h1 : a ≤ j) (h2 : j < b) : zf f a b j = 0 := by
  simp only [zf]
  rw [if_pos ⟨h1, h2⟩]
theorem upd_out {f : Nat → Int32} {k j : Nat} {x : Int32} (h : j ≠ k) : upd f k x j = f j := by
  simp only [upd]
  rw [if_neg h]
theorem upd_in {f : Nat → Int32} {k : Nat} {x : Int32} : upd f k x k = x := by simp [upd]
theorem f_sheet {n t a st lo co mk ot : Nat} {σ τ : Mem} (h : RelC n t a st lo co mk ot σ τ) (p l m : Int32) : Sim (RelE n) (X11_sheet n σ p l m) (X12_sheet τ p l m) := by
  obtain ⟨e_fa, e_tr, e_mp, e_lg, e_ro, e_ti, e_at_, e_ki, e_ac, e_pa, e_sc, e_ld, e_mc, e_mt, e_cc, e_lc, e_l1, e_l2, e_l3, e_kc, e_k1, e_k2, e_k3, e_k4, e_oc, e_oa, e_b1, e_b2, e_pr, e_sh0, e_sh1, e_sh2, e_sh3, e_ch, e_c0, e_d0, e_c1, e_d1, e_c2, e_d2, e_c3, e_d3, e_c4, e_d4, e_c5, e_d5, e_c6, e_d6, e_c7, e_d7, e_ps, e_oz, e_rm, e_lb, e_ab, e_ru, e_mb, e_wb, e_w0, e_w1, e_ws, e_wp, e_kb, e_tb, e_bb⟩ := h
  have hk : RelE n (wI σ 0 9 0) (wI τ 0 0 0) := ⟨t, a, st, lo, co, mk, ot, ⟨rfl, e_tr, e_mp, e_lg, e_ro, e_ti, e_at_, e_ki, e_ac, e_pa, e_sc, e_ld, e_mc, e_mt, e_cc, e_lc, e_l1, e_l2, e_l3, e_kc, e_k1, e_k2, e_k3, e_k4, e_oc, e_oa, e_b1, e_b2, e_pr, e_sh0, e_sh1, e_sh2, e_sh3, by first | exact e_ch | (intro k hk; simp (disch := omega) only [wI_hi, wJ_1]; exact e_ch k hk), e_c0, e_d0, e_c1, e_d1, e_c2, e_d2, e_c3, e_d3, e_c4, e_d4, e_c5, e_d5, e_c6, e_d6, e_c7, e_d7, e_ps, e_oz, e_rm, e_lb, e_ab, e_ru, e_mb, e_wb, e_w0, e_w1, e_ws, e_wp, e_kb, e_tb, e_bb⟩⟩
  have hk4 : RelE n (wI (wI σ 0 9 0) 0 9 4) (wI (wI τ 0 0 0) 0 0 4) := ⟨t, a, st, lo, co, mk, ot, ⟨rfl, e_tr, e_mp, e_lg, e_ro, e_ti, e_at_, e_ki, e_ac, e_pa, e_sc, e_ld, e_mc, e_mt, e_cc, e_lc, e_l1, e_l2, e_l3, e_kc, e_k1, e_k2, e_k3, e_k4, e_oc, e_oa, e_b1, e_b2, e_pr, e_sh0, e_sh1, e_sh2, e_sh3, by first | exact e_ch | (intro k hk; simp (disch := omega) only [wI_hi, wJ_1]; exact e_ch k hk), e_c0, e_d0, e_c1, e_d1, e_c2, e_d2, e_c3, e_d3, e_c4, e_d4, e_c5, e_d5, e_c6, e_d6, e_c7, e_d7, e_ps, e_oz, e_rm, e_lb, e_ab, e_ru, e_mb, e_wb, e_w0, e_w1, e_ws, e_wp, e_kb, e_tb, e_bb⟩⟩
  unfold X11_sheet X12_sheet
  simp only [lete_eq, ev_findSheet, xw, mw, bindo_some, bz_eq0, Decidable.not_not, Int32.toInt_toInt64, Int32.le_iff_toInt_le, t32_0, t32_1, t32_2, t32_3, t32_4, t32_5, t32_6, t32_7, t32_8, t32_9, t32_10, t32_11, t32_19, t32_20, t32_23, t32_24, t32_29, t32_30, t32_39, t32_40, t32_49, t32_50, t32_79, t32_99, t32_100, t32_119, t32_120, t32_159, t32_160, t32_249, t32_250, t32_400, t32_500, t32_800, t32_950, t32_1000, t32_1050, t32_2000, t32_2999, t32_3000, t32_8000, t32_10000, t32_30000, t32_500000, t32_m1, t32_m2, t32_m3, t32_m4, t32_m9, t32_m10, t32_m500, t32_m1000, t32_m10000, t32_m30000, t64_0, t64_1, t64_2, t64_3, t64_4, t64_5, t64_6, t64_7, t64_8, t64_9, t64_10, t64_11, t64_19, t64_20, t64_23, t64_24, t64_29, t64_30, t64_39, t64_40, t64_49, t64_50, t64_79, t64_99, t64_100, t64_119, t64_120, t64_159, t64_160, t64_249, t64_250, t64_400, t64_500, t64_800, t64_950, t64_1000, t64_1050, t64_2000, t64_2999, t64_3000, t64_8000, t64_10000, t64_30000, t64_500000, t64_m1, t64_m2, t64_m3, t64_m4, t64_m9, t64_m10, t64_m500, t64_m1000, t64_m10000, t64_m30000]
  by_cases h1 : 0 ≤ p.toInt ∧ p.toInt ≤ 3
  · rw [if_pos h1, if_pos h1]
    obtain ⟨j, hj, rfl⟩ := nat_of 3 h1.1 h1.2 (by decide)
    rw [nI_toInt (by omega), inb_nI (show j < 4 by omega) (by decide), ix_nI (by omega)]
    simp only [Int.toNat_natCast, caseo, chk_t]
    rw [show isSh (29 + 2 * j) = true by rcases (show j = 0 ∨ j = 1 ∨ j = 2 ∨ j = 3 by omega) with rfl | rfl | rfl | rfl <;> rfl, chk_t]
    refine sim_ite Iff.rfl (fun _ => sim_ret hk) (fun h2 => ?_)
    refine sim_ite Iff.rfl (fun h3 => ?_) (fun _ => sim_ret hk)
    refine sim_ite Iff.rfl (fun h4 => ?_) (fun _ => sim_ret' rfl hk4)
    have hl : l = 0 ∨ l = 1 ∨ l = 2 := by
      obtain ⟨i, hi, rfl⟩ := nat_of 2 (Decidable.not_not.mp h2).1 (Decidable.not_not.mp h2).2 (by decide)
      rcases (show i = 0 ∨ i = 1 ∨ i = 2 by omega) with rfl | rfl | rfl
      · exact Or.inl rfl
      · exact Or.inr (Or.inl rfl)
      · exact Or.inr (Or.inr rfl)
    have hm := nat_of 40 h4 h3 (by decide)
    rw [ev_renew]
    have hs := ev_msheet (p := j) (by omega) 40 0 FU (wI (wI (wI τ 0 0 0) 8 j l) 9 j m) rfl (by decide)
    have hs : loopF (fun (rec : (Mem × Int32 × Int32) → Option (Int32 × Mem)) (s : Mem × Int32 × Int32) => X12_sheet_l67 rec s.1 s.2.1 s.2.2) FU (wI (wI (wI τ 0 0 0) 8 j l) 9 j m, nI j, (0 : Int32)) = _ := hs
    rw [hs]
    rcases (show j = 0 ∨ j = 1 ∨ j = 2 ∨ j = 3 by omega) with rfl | rfl | rfl | rfl
    · refine sim_ret' rfl ⟨t, a, st, lo, co, mk, ot, ⟨rfl, e_tr, e_mp, e_lg, e_ro, e_ti, e_at_, e_ki, e_ac, e_pa, e_sc, e_ld, e_mc, e_mt, e_cc, e_lc, e_l1, e_l2, e_l3, e_kc, e_k1, e_k2, e_k3, e_k4, e_oc, e_oa, e_b1, e_b2, e_pr, ⟨rfl, fun i hi => by show zf (σ.1 30) 0 40 i = zf (τ.1 10) 0 40 (0 + i); rw [zf_in (by omega) hi, zf_in (by omega) (by omega)], Or.inr ⟨rfl, rfl, hl⟩, hm⟩, eqSh_cells e_sh1 (fun i hi => zf_out (by omega)), eqSh_cells e_sh2 (fun i hi => zf_out (by omega)), eqSh_cells e_sh3 (fun i hi => zf_out (by omega)), by intro k hk; simp (disch := omega) only [wA_hi, wI_hi]; exact e_ch k hk, e_c0, e_d0, e_c1, e_d1, e_c2, e_d2, e_c3, e_d3, e_c4, e_d4, e_c5, e_d5, e_c6, e_d6, e_c7, e_d7, e_ps, e_oz, e_rm, e_lb, e_ab, e_ru, e_mb, e_wb, e_w0, e_w1, e_ws, e_wp, e_kb, e_tb, e_bb⟩⟩
    · refine sim_ret' rfl ⟨t, a, st, lo, co, mk, ot, ⟨rfl, e_tr, e_mp, e_lg, e_ro, e_ti, e_at_, e_ki, e_ac, e_pa, e_sc, e_ld, e_mc, e_mt, e_cc, e_lc, e_l1, e_l2, e_l3, e_kc, e_k1, e_k2, e_k3, e_k4, e_oc, e_oa, e_b1, e_b2, e_pr, eqSh_cells e_sh0 (fun i hi => zf_out (by omega)), ⟨rfl, fun i hi => by show zf (σ.1 32) 0 40 i = zf (τ.1 10) 40 80 (40 + i); rw [zf_in (by omega) hi, zf_in (by omega) (by omega)], Or.inr ⟨rfl, rfl, hl⟩, hm⟩, eqSh_cells e_sh2 (fun i hi => zf_out (by omega)), eqSh_cells e_sh3 (fun i hi => zf_out (by omega)), by intro k hk; simp (disch := omega) only [wA_hi, wI_hi]; exact e_ch k hk, e_c0, e_d0, e_c1, e_d1, e_c2, e_d2, e_c3, e_d3, e_c4, e_d4, e_c5, e_d5, e_c6, e_d6, e_c7, e_d7, e_ps, e_oz, e_rm, e_lb, e_ab, e_ru, e_mb, e_wb, e_w0, e_w1, e_ws, e_wp, e_kb, e_tb, e_bb⟩⟩
    · refine sim_ret' rfl ⟨t, a, st, lo, co, mk, ot, ⟨rfl, e_tr, e_mp, e_lg, e_ro, e_ti, e_at_, e_ki, e_ac, e_pa, e_sc, e_ld, e_mc, e_mt, e_cc, e_lc, e_l1, e_l2, e_l3, e_kc, e_k1, e_k2, e_k3, e_k4, e_oc, e_oa, e_b1, e_b2, e_pr, eqSh_cells e_sh0 (fun i hi => zf_out (by omega)), eqSh_cells e_sh1 (fun i hi => zf_out (by omega)), ⟨rfl, fun i hi => by show zf (σ.1 34) 0 40 i = zf (τ.1 10) 80 120 (80 + i); rw [zf_in (by omega) hi, zf_in (by omega) (by omega)], Or.inr ⟨rfl, rfl, hl⟩, hm⟩, eqSh_cells e_sh3 (fun i hi => zf_out (by omega)), by intro k hk; simp (disch := omega) only [wA_hi, wI_hi]; exact e_ch k hk, e_c0, e_d0, e_c1, e_d1, e_c2, e_d2, e_c3, e_d3, e_c4, e_d4, e_c5, e_d5, e_c6, e_d6, e_c7, e_d7, e_ps, e_oz, e_rm, e_lb, e_ab, e_ru, e_mb, e_wb, e_w0, e_w1, e_ws, e_wp, e_kb, e_tb, e_bb⟩⟩
    · refine sim_ret' rfl ⟨t, a, st, lo, co, mk, ot, ⟨rfl, e_tr, e_mp, e_lg, e_ro, e_ti, e_at_, e_ki, e_ac, e_pa, e_sc, e_ld, e_mc, e_mt, e_cc, e_lc, e_l1, e_l2, e_l3, e_kc, e_k1, e_k2, e_k3, e_k4, e_oc, e_oa, e_b1, e_b2, e_pr, eqSh_cells e_sh0 (fun i hi => zf_out (by omega)), eqSh_cells e_sh1 (fun i hi => zf_out (by omega)), eqSh_cells e_sh2 (fun i hi => zf_out (by omega)), ⟨rfl, fun i hi => by show zf (σ.1 36) 0 40 i = zf (τ.1 10) 120 160 (120 + i); rw [zf_in (by omega) hi, zf_in (by omega) (by omega)], Or.inr ⟨rfl, rfl, hl⟩, hm⟩, by intro k hk; simp (disch := omega) only [wA_hi, wI_hi]; exact e_ch k hk, e_c0, e_d0, e_c1, e_d1, e_c2, e_d2, e_c3, e_d3, e_c4, e_d4, e_c5, e_d5, e_c6, e_d6, e_c7, e_d7, e_ps, e_oz, e_rm, e_lb, e_ab, e_ru, e_mb, e_wb, e_w0, e_w1, e_ws, e_wp, e_kb, e_tb, e_bb⟩⟩
  · rw [if_neg h1, if_neg h1]
    exact sim_ret hk
