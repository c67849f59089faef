/-! THE PURE PART: the relation of the two memories -/
theorem t32_0 : (0 : Int32).toInt = 0 := by decide
theorem t64_0 : (0 : Int64).toInt = 0 := by decide
theorem t32_1 : (1 : Int32).toInt = 1 := by decide
theorem t64_1 : (1 : Int64).toInt = 1 := by decide
theorem t32_2 : (2 : Int32).toInt = 2 := by decide
theorem t64_2 : (2 : Int64).toInt = 2 := by decide
theorem t32_3 : (3 : Int32).toInt = 3 := by decide
theorem t64_3 : (3 : Int64).toInt = 3 := by decide
theorem t32_4 : (4 : Int32).toInt = 4 := by decide
theorem t64_4 : (4 : Int64).toInt = 4 := by decide
theorem t32_5 : (5 : Int32).toInt = 5 := by decide
theorem t64_5 : (5 : Int64).toInt = 5 := by decide
theorem t32_6 : (6 : Int32).toInt = 6 := by decide
theorem t64_6 : (6 : Int64).toInt = 6 := by decide
theorem t32_7 : (7 : Int32).toInt = 7 := by decide
theorem t64_7 : (7 : Int64).toInt = 7 := by decide
theorem t32_8 : (8 : Int32).toInt = 8 := by decide
theorem t64_8 : (8 : Int64).toInt = 8 := by decide
theorem t32_9 : (9 : Int32).toInt = 9 := by decide
theorem t64_9 : (9 : Int64).toInt = 9 := by decide
theorem t32_10 : (10 : Int32).toInt = 10 := by decide
theorem t64_10 : (10 : Int64).toInt = 10 := by decide
theorem t32_11 : (11 : Int32).toInt = 11 := by decide
theorem t64_11 : (11 : Int64).toInt = 11 := by decide
theorem t32_19 : (19 : Int32).toInt = 19 := by decide
theorem t64_19 : (19 : Int64).toInt = 19 := by decide
theorem t32_20 : (20 : Int32).toInt = 20 := by decide
theorem t64_20 : (20 : Int64).toInt = 20 := by decide
theorem t32_23 : (23 : Int32).toInt = 23 := by decide
theorem t64_23 : (23 : Int64).toInt = 23 := by decide
theorem t32_24 : (24 : Int32).toInt = 24 := by decide
theorem t64_24 : (24 : Int64).toInt = 24 := by decide
theorem t32_29 : (29 : Int32).toInt = 29 := by decide
theorem t64_29 : (29 : Int64).toInt = 29 := by decide
theorem t32_30 : (30 : Int32).toInt = 30 := by decide
theorem t64_30 : (30 : Int64).toInt = 30 := by decide
theorem t32_39 : (39 : Int32).toInt = 39 := by decide
theorem t64_39 : (39 : Int64).toInt = 39 := by decide
theorem t32_40 : (40 : Int32).toInt = 40 := by decide
theorem t64_40 : (40 : Int64).toInt = 40 := by decide
theorem t32_49 : (49 : Int32).toInt = 49 := by decide
theorem t64_49 : (49 : Int64).toInt = 49 := by decide
theorem t32_50 : (50 : Int32).toInt = 50 := by decide
theorem t64_50 : (50 : Int64).toInt = 50 := by decide
theorem t32_79 : (79 : Int32).toInt = 79 := by decide
theorem t64_79 : (79 : Int64).toInt = 79 := by decide
theorem t32_99 : (99 : Int32).toInt = 99 := by decide
theorem t64_99 : (99 : Int64).toInt = 99 := by decide
theorem t32_100 : (100 : Int32).toInt = 100 := by decide
theorem t64_100 : (100 : Int64).toInt = 100 := by decide
theorem t32_119 : (119 : Int32).toInt = 119 := by decide
theorem t64_119 : (119 : Int64).toInt = 119 := by decide
theorem t32_120 : (120 : Int32).toInt = 120 := by decide
theorem t64_120 : (120 : Int64).toInt = 120 := by decide
theorem t32_159 : (159 : Int32).toInt = 159 := by decide
theorem t64_159 : (159 : Int64).toInt = 159 := by decide
theorem t32_160 : (160 : Int32).toInt = 160 := by decide
theorem t64_160 : (160 : Int64).toInt = 160 := by decide
theorem t32_249 : (249 : Int32).toInt = 249 := by decide
theorem t64_249 : (249 : Int64).toInt = 249 := by decide
theorem t32_250 : (250 : Int32).toInt = 250 := by decide
theorem t64_250 : (250 : Int64).toInt = 250 := by decide
theorem t32_400 : (400 : Int32).toInt = 400 := by decide
theorem t64_400 : (400 : Int64).toInt = 400 := by decide
theorem t32_500 : (500 : Int32).toInt = 500 := by decide
theorem t64_500 : (500 : Int64).toInt = 500 := by decide
theorem t32_800 : (800 : Int32).toInt = 800 := by decide
theorem t64_800 : (800 : Int64).toInt = 800 := by decide
theorem t32_950 : (950 : Int32).toInt = 950 := by decide
theorem t64_950 : (950 : Int64).toInt = 950 := by decide
theorem t32_1000 : (1000 : Int32).toInt = 1000 := by decide
theorem t64_1000 : (1000 : Int64).toInt = 1000 := by decide
theorem t32_1050 : (1050 : Int32).toInt = 1050 := by decide
theorem t64_1050 : (1050 : Int64).toInt = 1050 := by decide
theorem t32_2000 : (2000 : Int32).toInt = 2000 := by decide
theorem t64_2000 : (2000 : Int64).toInt = 2000 := by decide
theorem t32_2999 : (2999 : Int32).toInt = 2999 := by decide
theorem t64_2999 : (2999 : Int64).toInt = 2999 := by decide
theorem t32_3000 : (3000 : Int32).toInt = 3000 := by decide
theorem t64_3000 : (3000 : Int64).toInt = 3000 := by decide
theorem t32_8000 : (8000 : Int32).toInt = 8000 := by decide
theorem t64_8000 : (8000 : Int64).toInt = 8000 := by decide
theorem t32_10000 : (10000 : Int32).toInt = 10000 := by decide
theorem t64_10000 : (10000 : Int64).toInt = 10000 := by decide
theorem t32_30000 : (30000 : Int32).toInt = 30000 := by decide
theorem t64_30000 : (30000 : Int64).toInt = 30000 := by decide
theorem t32_500000 : (500000 : Int32).toInt = 500000 := by decide
theorem t64_500000 : (500000 : Int64).toInt = 500000 := by decide
theorem t32_m1 : (-1 : Int32).toInt = -1 := by decide
theorem t64_m1 : (-1 : Int64).toInt = -1 := by decide
theorem t32_m2 : (-2 : Int32).toInt = -2 := by decide
theorem t64_m2 : (-2 : Int64).toInt = -2 := by decide
theorem t32_m3 : (-3 : Int32).toInt = -3 := by decide
theorem t64_m3 : (-3 : Int64).toInt = -3 := by decide
theorem t32_m4 : (-4 : Int32).toInt = -4 := by decide
theorem t64_m4 : (-4 : Int64).toInt = -4 := by decide
theorem t32_m9 : (-9 : Int32).toInt = -9 := by decide
theorem t64_m9 : (-9 : Int64).toInt = -9 := by decide
theorem t32_m10 : (-10 : Int32).toInt = -10 := by decide
theorem t64_m10 : (-10 : Int64).toInt = -10 := by decide
theorem t32_m500 : (-500 : Int32).toInt = -500 := by decide
theorem t64_m500 : (-500 : Int64).toInt = -500 := by decide
theorem t32_m1000 : (-1000 : Int32).toInt = -1000 := by decide
theorem t64_m1000 : (-1000 : Int64).toInt = -1000 := by decide
theorem t32_m10000 : (-10000 : Int32).toInt = -10000 := by decide
theorem t64_m10000 : (-10000 : Int64).toInt = -10000 := by decide
theorem t32_m30000 : (-30000 : Int32).toInt = -30000 := by decide
theorem t64_m30000 : (-30000 : Int64).toInt = -30000 := by decide
def bz (p : Prop) [Decidable p] : Int32 := if p then 1 else 0
theorem bz_eq0 (p : Prop) [Decidable p] : (bz p = 0) = ¬ p := by
  unfold bz
  split <;> simp [*]
theorem bz_isZ (p : Prop) [Decidable p] : isZ (bz p) = true := by
  unfold bz
  split <;> rfl
theorem bindo_some {α ρ : Type} (a : α) (k : α → Option ρ) : bindo (some a) k = k a := by simp [bindo]
theorem lete_eq {α ρ : Type} (a : α) (k : α → Option ρ) : lete a k = k a := by simp [lete]
theorem chk_t {ρ : Type} (k : Option ρ) : chk true k = k := by simp [chk]
theorem xw (v lo hi : Int32) : X11_within v lo hi = some (bz (lo.toInt ≤ v.toInt ∧ v.toInt ≤ hi.toInt)) := by
  unfold X11_within bz
  simp only [Int32.lt_iff_toInt_lt]
  split
  · rw [if_neg (by omega)]
  · split
    · rw [if_neg (by omega)]
    · rw [if_pos (by omega)]
theorem mw (v lo hi : Int64) : X12_within v lo hi = some (bz (lo.toInt ≤ v.toInt ∧ v.toInt ≤ hi.toInt)) := by
  unfold X12_within bz
  simp only [lg_cmp_lt, lg_cmp_gt, Int64.lt_iff_toInt_lt]
  split
  · rw [if_neg (by omega)]
  · split
    · rw [if_neg (by omega)]
    · rw [if_pos (by omega)]
theorem inb_nI {j N : Nat} (h : j < N) (hN : N < 2 ^ 31) : inb (nI j) N = true := by
  simp only [inb, Bool.and_eq_true, decide_eq_true_eq]
  rw [nI_toInt (by omega)]
  omega
theorem ix_nI {j : Nat} (h : j < 2 ^ 31) : ix (nI j) = j := nI_clamp h
theorem wI_hi {σ : Mem} {o j k : Nat} {x : Int32} (h : o < 100) : (wI σ o j x).1 (100 + k) = σ.1 (100 + k) := wI_ne σ j x (by omega)
/-- a number within bounds is a natural one -/
theorem nat_of (N : Nat) {x : Int32} (h0 : 0 ≤ x.toInt) (h1 : x.toInt ≤ N) (hN : N < 2 ^ 31) : ∃ j : Nat, j ≤ N ∧ x = nI j := by
  refine ⟨x.toInt.toNat, by omega, ?_⟩
  apply Int32.toInt_inj.mp
  rw [nI_toInt (by omega)]
  omega
-- the parts of the relation
def EqP (f k a b c : Nat → Int32) : Prop := ∀ s, s < 30 → f (4 * s) = k s ∧ f (4 * s + 1) = a s ∧ f (4 * s + 2) = b s ∧ f (4 * s + 3) = c s
def EqSh (f g : Nat → Int32) (lane len : Int32) (cells : Nat → Int32) (k : Nat) : Prop := f 1 = len ∧ (∀ i, i < 40 → g i = cells (k + i)) ∧ ((f 3 = 0 ∧ lane = -9) ∨ (f 3 = 1 ∧ f 2 = lane ∧ (lane = 0 ∨ lane = 1 ∨ lane = 2))) ∧ ∃ j, j ≤ 40 ∧ len = nI j
def EqCh (f : Nat → Int32) (k : Nat) (so ra de low hi li lv : Int32) : Prop := f 0 = nI k ∧ f 1 = so ∧ f 2 = ra ∧ f 3 = de ∧ f 4 = low ∧ f 5 = hi ∧ f 6 = li ∧ (li = 0 ∨ (li = 1 ∧ f 7 = lv)) ∧ (∃ j, j ≤ 4 ∧ so = nI j) ∧ (∃ j, 1 ≤ j ∧ j ≤ 20 ∧ ra = nI j) ∧ (∃ j, j ≤ 20 ∧ de = nI j) ∧ -10000 ≤ low.toInt ∧ low.toInt ≤ hi.toInt ∧ hi.toInt ≤ 10000
def OkStep (s : Nat) (k a b c : Int32) : Prop := (k = 0 ∧ 1 ≤ a.toInt ∧ a.toInt ≤ 500) ∨ (k = 1 ∧ 1 ≤ a.toInt ∧ a.toInt ≤ 500 ∧ 0 ≤ b.toInt ∧ b.toInt ≤ 8000 ∧ 0 ≤ c.toInt ∧ c.toInt ≤ 1000) ∨ (k = 2 ∧ 1 ≤ c.toInt ∧ c.toInt ≤ 500) ∨ (k = 3 ∧ 0 ≤ a.toInt ∧ a.toInt ≤ s ∧ 1 ≤ b.toInt ∧ b.toInt ≤ 100) ∨ k = 4
def OkProg (st : Nat) (k a b c : Nat → Int32) : Prop := ∀ s, s < st → OkStep s (k s) (a s) (b s) (c s)
def OkRoom (r : Int32) : Prop := r = 0 ∨ r = 1 ∨ r = 2 ∨ r = 3
def OkActs (r c : Int32) : Prop := ((r = 0 ∨ r = 1) → c = 0) ∧ (r = 2 → ∃ j, j < 10 ∧ c = nI j)
def OkIn (st a : Nat) (i : Int32) (k ka kc : Nat → Int32) : Prop := a < st → ∃ j : Nat, i = nI j ∧ ((k a = 0 ∨ k a = 1) → (j : Int) < (ka a).toInt) ∧ (k a = 2 → (j : Int) ≤ (kc a).toInt) ∧ ((k a = 3 ∨ k a = 4) → j = 0)
def OkMap (f : Nat → Int32) : Prop := ∀ k, k < 25 → -500 ≤ (f k).toInt ∧ (f k).toInt ≤ 1000
def OkRow (f : Nat → Int32) (i : Nat) : Prop := 0 ≤ (f (7 * i)).toInt ∧ (f (7 * i)).toInt ≤ 8000 ∧ -100000 ≤ (f (7 * i + 1)).toInt ∧ (f (7 * i + 1)).toInt ≤ 100000 ∧ 0 ≤ (f (7 * i + 5)).toInt ∧ (f (7 * i + 5)).toInt ≤ 8000 ∧ 0 ≤ (f (7 * i + 6)).toInt ∧ (f (7 * i + 6)).toInt ≤ 1000
def OkCorr (co : Nat) (g h : Nat → Int32) : Prop := ∀ i, i < co → 1 ≤ (g i).toInt ∧ (g i).toInt ≤ 2000 ∧ -1000 ≤ (h i).toInt ∧ (h i).toInt ≤ 1000
def OkMarks (mk t : Nat) (f : Nat → Int32) : Prop := ∀ m, m < mk → ∃ j : Nat, 1 ≤ j ∧ j ≤ t ∧ f m = nI j
def RelC (n t a st lo co mk ot : Nat) (σ τ : Mem) : Prop := (σ.1 0 9 = τ.1 0 0) ∧ (σ.1 27 0 = τ.1 0 1) ∧ (σ.1 2 = τ.1 1) ∧ (σ.1 1 2 = τ.1 0 3) ∧ (σ.1 20 5 = τ.1 0 4) ∧ (σ.1 1 3 = τ.1 0 5) ∧ (σ.1 20 6 = τ.1 0 6) ∧ (σ.1 20 7 = τ.1 0 10) ∧ (σ.1 20 8 = τ.1 0 11) ∧ (σ.1 3 = τ.1 2) ∧ (σ.1 4 1 = τ.1 0 13) ∧ (σ.1 21 = τ.1 7) ∧ (σ.1 18 1 = τ.1 0 22) ∧ (σ.1 19 = τ.1 11) ∧ (σ.1 6 4 = τ.1 0 26) ∧ (σ.1 8 4 = τ.1 0 34) ∧ (σ.1 9 = τ.1 19) ∧ (σ.1 10 = τ.1 20) ∧ (σ.1 11 = τ.1 21) ∧ (σ.1 13 4 = τ.1 0 38) ∧ (σ.1 14 = τ.1 22) ∧ (σ.1 15 = τ.1 23) ∧ (σ.1 16 = τ.1 24) ∧ (σ.1 17 = τ.1 25) ∧ (σ.1 22 6 = τ.1 0 44) ∧ (σ.1 25 = τ.1 27) ∧ (σ.1 20 12 = τ.1 0 8) ∧ (σ.1 20 13 = τ.1 0 9) ∧ (EqP (σ.1 5) (τ.1 3) (τ.1 4) (τ.1 5) (τ.1 6)) ∧ (EqSh (σ.1 29) (σ.1 30) (τ.1 8 0) (τ.1 9 0) (τ.1 10) 0) ∧ (EqSh (σ.1 31) (σ.1 32) (τ.1 8 1) (τ.1 9 1) (τ.1 10) 40) ∧ (EqSh (σ.1 33) (σ.1 34) (τ.1 8 2) (τ.1 9 2) (τ.1 10) 80) ∧ (EqSh (σ.1 35) (σ.1 36) (τ.1 8 3) (τ.1 9 3) (τ.1 10) 120) ∧ (∀ k, k < n → EqCh (σ.1 (100 + k)) k (τ.1 12 k) (τ.1 13 k) (τ.1 14 k) (τ.1 15 k) (τ.1 16 k) (τ.1 17 k) (τ.1 18 k)) ∧ (τ.1 0 26 = nI n) ∧ (n ≤ 8) ∧ (τ.1 0 5 = nI t) ∧ (t ≤ 3000) ∧ (τ.1 0 6 = nI a) ∧ (a ≤ st) ∧ (τ.1 0 13 = nI st) ∧ (st ≤ 30) ∧ (τ.1 0 34 = nI lo) ∧ (lo ≤ 20) ∧ (τ.1 0 38 = nI co) ∧ (co ≤ 20) ∧ (τ.1 0 22 = nI mk) ∧ (mk ≤ 20) ∧ (τ.1 0 44 = nI ot) ∧ (ot ≤ 160) ∧ (OkProg st (τ.1 3) (τ.1 4) (τ.1 5) (τ.1 6)) ∧ (τ.1 0 4 = 0 → a = 0) ∧ (OkRoom (τ.1 0 4)) ∧ (1 ≤ (τ.1 0 3).toInt ∧ (τ.1 0 3).toInt ≤ 20) ∧ (OkActs (τ.1 0 4) (τ.1 0 11)) ∧ (τ.1 0 4 = 1 → σ.1 20 9 = τ.1 0 7 ∧ OkIn st a (τ.1 0 7) (τ.1 3) (τ.1 4) (τ.1 6)) ∧ (OkMap (τ.1 1)) ∧ (∀ i, i ≤ t → OkRow (τ.1 2) i) ∧ (τ.1 2 5 = 0) ∧ (τ.1 2 6 = 0) ∧ (τ.1 0 24 = τ.1 2 (7 * t + 5)) ∧ (τ.1 0 25 = τ.1 2 (7 * t + 6)) ∧ (OkCorr co (τ.1 24) (τ.1 25)) ∧ (OkMarks mk t (τ.1 11)) ∧ (0 ≤ (τ.1 0 8).toInt ∧ (τ.1 0 8).toInt ≤ 8000 ∧ 0 ≤ (τ.1 0 9).toInt ∧ (τ.1 0 9).toInt ≤ 1000)
def RelE (n : Nat) (σ τ : Mem) : Prop := ∃ t a st lo co mk ot : Nat, RelC n t a st lo co mk ot σ τ
-- a call of both, one answer
def Sim {ρ : Type} (R : Mem → Mem → Prop) (x y : Option (ρ × Mem)) : Prop := ∃ (r : ρ) (σ' τ' : Mem), x = some (r, σ') ∧ y = some (r, τ') ∧ R σ' τ'
def SimP {ρ : Type} (x y : Option ρ) : Prop := ∃ r : ρ, x = some r ∧ y = some r
section SIM
variable {ρ : Type} {R : Mem → Mem → Prop} {x x' y y' : Option (ρ × Mem)} {u u' w w' : Option ρ}
theorem sim_ret {r : ρ} {σ τ : Mem} (h : R σ τ) : Sim R (some (r, σ)) (some (r, τ)) := ⟨r, σ, τ, rfl, rfl, h⟩
theorem sim_ret' {r r' : ρ} {σ τ : Mem} (e : r = r') (h : R σ τ) : Sim R (some (r, σ)) (some (r', τ)) := ⟨r, σ, τ, rfl, by rw [e], h⟩
theorem sim_ite {p q : Prop} {hp : Decidable p} {hq : Decidable q} (e : p ↔ q) (h1 : p → Sim R x y) (h2 : ¬ p → Sim R x' y') : Sim R (if p then x else x') (if q then y else y') := by
  by_cases h : p
  · rw [if_pos h, if_pos (e.mp h)]; exact h1 h
  · rw [if_neg h, if_neg (fun z => h (e.mpr z))]; exact h2 h
theorem sim_l {p : Prop} {hp : Decidable p} (h1 : p → Sim R x y) (h2 : ¬ p → Sim R x' y) : Sim R (if p then x else x') y := by
  by_cases h : p
  · rw [if_pos h]; exact h1 h
  · rw [if_neg h]; exact h2 h
theorem sim_r {p : Prop} {hp : Decidable p} (h1 : p → Sim R x y) (h2 : ¬ p → Sim R x y') : Sim R x (if p then y else y') := by
  by_cases h : p
  · rw [if_pos h]; exact h1 h
  · rw [if_neg h]; exact h2 h
theorem sim_cl {b : Bool} (hb : b = true) (h : Sim R x y) : Sim R (chk b x) y := by rw [hb]; exact h
theorem sim_cr {b : Bool} (hb : b = true) (h : Sim R x y) : Sim R x (chk b y) := by rw [hb]; exact h
theorem sim_ite_b {ρ' : Type} {x x' : Option (ρ' × Mem)} {k : ρ' × Mem → Option (ρ × Mem)} {p q : Prop} {hp : Decidable p} {hq : Decidable q} (e : p ↔ q) (h1 : p → Sim R (bindo x k) y) (h2 : ¬ p → Sim R (bindo x' k) y') : Sim R (bindo (if p then x else x') k) (if q then y else y') := by
  by_cases h : p
  · rw [if_pos h, if_pos (e.mp h)]; exact h1 h
  · rw [if_neg h, if_neg (fun z => h (e.mpr z))]; exact h2 h
theorem simp_ret {r : ρ} : SimP (some r) (some r) := ⟨r, rfl, rfl⟩
theorem simp_ret' {r r' : ρ} (e : r = r') : SimP (some r) (some r') := ⟨r, rfl, by rw [e]⟩
theorem simp_ite {p q : Prop} {hp : Decidable p} {hq : Decidable q} (e : p ↔ q) (h1 : p → SimP u w) (h2 : ¬ p → SimP u' w') : SimP (if p then u else u') (if q then w else w') := by
  by_cases h : p
  · rw [if_pos h, if_pos (e.mp h)]; exact h1 h
  · rw [if_neg h, if_neg (fun z => h (e.mpr z))]; exact h2 h
theorem simp_l {p : Prop} {hp : Decidable p} (h1 : p → SimP u w) (h2 : ¬ p → SimP u' w) : SimP (if p then u else u') w := by
  by_cases h : p
  · rw [if_pos h]; exact h1 h
  · rw [if_neg h]; exact h2 h
theorem simp_r {p : Prop} {hp : Decidable p} (h1 : p → SimP u w) (h2 : ¬ p → SimP u w') : SimP u (if p then w else w') := by
  by_cases h : p
  · rw [if_pos h]; exact h1 h
  · rw [if_neg h]; exact h2 h
theorem simp_cl {b : Bool} (hb : b = true) (h : SimP u w) : SimP (chk b u) w := by rw [hb]; exact h
theorem simp_cr {b : Bool} (hb : b = true) (h : SimP u w) : SimP u (chk b w) := by rw [hb]; exact h
end SIM
-- small programs, evaluated
theorem ev_isOff (n : Nat) (σ : Mem) : X8_isOff n σ = some (bz (σ.1 20 5 = 0)) := by
  unfold X8_isOff bz
  split <;> simp_all
theorem bz_congr {p q : Prop} {hp : Decidable p} {hq : Decidable q} (e : p ↔ q) : bz p = bz q := by
  unfold bz
  by_cases h : p
  · rw [if_pos h, if_pos (e.mp h)]
  · rw [if_neg h, if_neg (fun z => h (e.mpr z))]
theorem nI_m1 {k : Nat} (h : k < 2 ^ 30) : (nI k - 1).toInt = (k : Int) - 1 := by
  have := pk_sub_toInt (a := k) (b := 1) h (by decide)
  exact this
theorem ev_has {n st : Nat} {σ : Mem} (e : σ.1 4 1 = nI st) (h : st ≤ 30) (p : Int32) : X6_has n σ p = some (bz (0 ≤ p.toInt ∧ p.toInt < st)) := by
  unfold X6_has
  simp only [xw, bindo_some, bz_isZ, chk_t, e, t32_0]
  rw [nI_m1 (by omega)]
  exact congrArg some (bz_congr (by omega))
theorem ev_isStep {st : Nat} {τ : Mem} (e : τ.1 0 13 = nI st) (h : st ≤ 30) (p : Int32) : X12_isStep τ p = some (bz (0 ≤ p.toInt ∧ p.toInt < st)) := by
  unfold X12_isStep bz
  simp only [Int32.lt_iff_toInt_lt, Int32.le_iff_toInt_le, e, t32_0]
  rw [nI_toInt (by omega)]
  split
  · rw [if_neg (by omega)]
  · split
    · rw [if_neg (by omega)]
    · rw [if_pos (by omega)]
theorem ev_cell {n s j : Nat} {σ : Mem} {x y : Int32} (ex : x = nI s) (ey : y = nI j) (hs : s < 30) (hj : j < 4) : X6_cell n σ x y = some (σ.1 5 (4 * s + j)) := by
  subst ex ey
  unfold X6_cell
  simp only [xw, bindo_some, bz_eq0, Decidable.not_not, t32_0, t32_1, t32_2, t32_3, t32_4, t32_5, t32_6, t32_7, t32_8, t32_9, t32_10, t32_11, t32_19, t32_20, t32_23, t32_24, t32_29, t32_30, t32_39, t32_40, t32_49, t32_50, t32_79, t32_99, t32_100, t32_119, t32_120, t32_159, t32_160, t32_249, t32_250, t32_400, t32_500, t32_800, t32_950, t32_1000, t32_1050, t32_2000, t32_2999, t32_3000, t32_8000, t32_10000, t32_30000, t32_500000, t32_m1, t32_m2, t32_m3, t32_m4, t32_m9, t32_m10, t32_m500, t32_m1000, t32_m10000, t32_m30000, t64_0, t64_1, t64_2, t64_3, t64_4, t64_5, t64_6, t64_7, t64_8, t64_9, t64_10, t64_11, t64_19, t64_20, t64_23, t64_24, t64_29, t64_30, t64_39, t64_40, t64_49, t64_50, t64_79, t64_99, t64_100, t64_119, t64_120, t64_159, t64_160, t64_249, t64_250, t64_400, t64_500, t64_800, t64_950, t64_1000, t64_1050, t64_2000, t64_2999, t64_3000, t64_8000, t64_10000, t64_30000, t64_500000, t64_m1, t64_m2, t64_m3, t64_m4, t64_m9, t64_m10, t64_m500, t64_m1000, t64_m10000, t64_m30000]
  rw [nI_toInt (by omega), nI_toInt (by omega), if_neg (by omega), if_pos (by omega)]
  rw [show nI s * (4 : Int32) + nI j = nI (4 * s + j) by rw [show (4 : Int32) = nI 4 from rfl, pk_mul, nI_add, Nat.mul_comm]]
  rw [inb_nI (by omega) (by decide), chk_t, ix_nI (by omega)]
theorem ev_find {n : Nat} {σ : Mem} (e : σ.1 6 4 = nI n) (h : n ≤ 8) (p : Int32) : X2_find n σ p = some (if 0 ≤ p.toInt ∧ p.toInt < n then some (100 + p.toInt.toNat) else none) := by
  unfold X2_find
  have hm : mnI (nI n) 8 = nI n := by
    unfold mnI
    split
    · rename_i hlt
      rw [Int32.lt_iff_toInt_lt, nI_toInt (by omega), t32_8] at hlt
      omega
    · rfl
  simp only [xw, bindo_some, bz_eq0, Decidable.not_not, lete_eq, e, hm, t32_0]
  rw [nI_m1 (by omega)]
  by_cases hp : 0 ≤ p.toInt ∧ p.toInt < n
  · rw [if_neg (by omega), if_pos hp]
    obtain ⟨j, hj, rfl⟩ := nat_of 8 hp.1 (by omega) (by decide)
    rw [nI_toInt (by omega)] at hp ⊢
    rw [inb_nI (by omega) (by decide), chk_t, ix_nI (by omega)]
    simp only [xRows]
    rw [if_pos (by omega)]
    simp
  · rw [if_pos (by omega), if_neg hp]
theorem ev_isChannel {n : Nat} {τ : Mem} (e : τ.1 0 26 = nI n) (h : n ≤ 8) (p : Int32) : X12_isChannel τ p = some (bz (0 ≤ p.toInt ∧ p.toInt < n)) := by
  unfold X12_isChannel bz
  simp only [Int32.lt_iff_toInt_lt, Int32.le_iff_toInt_le, e, t32_0]
  rw [nI_toInt (by omega)]
  split
  · rw [if_neg (by omega)]
  · split
    · rw [if_neg (by omega)]
    · rw [if_pos (by omega)]
theorem ev_findSheet {n : Nat} {σ : Mem} (p : Int32) : X11_findSheet n σ p = some (if 0 ≤ p.toInt ∧ p.toInt ≤ 3 then some (29 + 2 * p.toInt.toNat) else none) := by
  unfold X11_findSheet
  simp only [xw, bindo_some, bz_eq0, Decidable.not_not, lete_eq, t32_0, t32_1, t32_2, t32_3, t32_4, t32_5, t32_6, t32_7, t32_8, t32_9, t32_10, t32_11, t32_19, t32_20, t32_23, t32_24, t32_29, t32_30, t32_39, t32_40, t32_49, t32_50, t32_79, t32_99, t32_100, t32_119, t32_120, t32_159, t32_160, t32_249, t32_250, t32_400, t32_500, t32_800, t32_950, t32_1000, t32_1050, t32_2000, t32_2999, t32_3000, t32_8000, t32_10000, t32_30000, t32_500000, t32_m1, t32_m2, t32_m3, t32_m4, t32_m9, t32_m10, t32_m500, t32_m1000, t32_m10000, t32_m30000, t64_0, t64_1, t64_2, t64_3, t64_4, t64_5, t64_6, t64_7, t64_8, t64_9, t64_10, t64_11, t64_19, t64_20, t64_23, t64_24, t64_29, t64_30, t64_39, t64_40, t64_49, t64_50, t64_79, t64_99, t64_100, t64_119, t64_120, t64_159, t64_160, t64_249, t64_250, t64_400, t64_500, t64_800, t64_950, t64_1000, t64_1050, t64_2000, t64_2999, t64_3000, t64_8000, t64_10000, t64_30000, t64_500000, t64_m1, t64_m2, t64_m3, t64_m4, t64_m9, t64_m10, t64_m500, t64_m1000, t64_m10000, t64_m30000]
  by_cases hp : 0 ≤ p.toInt ∧ p.toInt ≤ 3
  · rw [if_neg (by simpa using hp), if_pos hp]
    obtain ⟨j, hj, rfl⟩ := nat_of 3 hp.1 hp.2 (by decide)
    rw [nI_toInt (by omega)] at hp ⊢
    rw [inb_nI (by omega) (by decide), chk_t, ix_nI (by omega)]
    simp only [xSheets]
    rw [if_pos (by omega)]
    simp
  · rw [if_pos hp, if_neg hp]
theorem isCh_of {n j : Nat} (h : j < n) : isCh n (100 + j) = true := by
  simp [isCh]
  omega
theorem fits_eq (p1 p2 p3 p4 p5 : Int32) : X12_mayStand p1 p2 p3 p4 p5 = X6_fits p1 p2 p3 p4 p5 := by
  unfold X12_mayStand X6_fits
  simp only [xw, mw, Int32.toInt_toInt64, t32_0, t32_1, t32_2, t32_3, t32_4, t32_5, t32_6, t32_7, t32_8, t32_9, t32_10, t32_11, t32_19, t32_20, t32_23, t32_24, t32_29, t32_30, t32_39, t32_40, t32_49, t32_50, t32_79, t32_99, t32_100, t32_119, t32_120, t32_159, t32_160, t32_249, t32_250, t32_400, t32_500, t32_800, t32_950, t32_1000, t32_1050, t32_2000, t32_2999, t32_3000, t32_8000, t32_10000, t32_30000, t32_500000, t32_m1, t32_m2, t32_m3, t32_m4, t32_m9, t32_m10, t32_m500, t32_m1000, t32_m10000, t32_m30000, t64_0, t64_1, t64_2, t64_3, t64_4, t64_5, t64_6, t64_7, t64_8, t64_9, t64_10, t64_11, t64_19, t64_20, t64_23, t64_24, t64_29, t64_30, t64_39, t64_40, t64_49, t64_50, t64_79, t64_99, t64_100, t64_119, t64_120, t64_159, t64_160, t64_249, t64_250, t64_400, t64_500, t64_800, t64_950, t64_1000, t64_1050, t64_2000, t64_2999, t64_3000, t64_8000, t64_10000, t64_30000, t64_500000, t64_m1, t64_m2, t64_m3, t64_m4, t64_m9, t64_m10, t64_m500, t64_m1000, t64_m10000, t64_m30000]
theorem fits_ok {s : Nat} (hs : s < 2 ^ 30) (k a b c : Int32) : ∃ r, X6_fits (nI s) k a b c = some r ∧ (¬ r = 0 → OkStep s k a b c) := by
  unfold X6_fits
  simp only [xw, bindo_some, bz_isZ, chk_t, bz_eq0, Decidable.not_not, t32_0, t32_1, t32_2, t32_3, t32_4, t32_5, t32_6, t32_7, t32_8, t32_9, t32_10, t32_11, t32_19, t32_20, t32_23, t32_24, t32_29, t32_30, t32_39, t32_40, t32_49, t32_50, t32_79, t32_99, t32_100, t32_119, t32_120, t32_159, t32_160, t32_249, t32_250, t32_400, t32_500, t32_800, t32_950, t32_1000, t32_1050, t32_2000, t32_2999, t32_3000, t32_8000, t32_10000, t32_30000, t32_500000, t32_m1, t32_m2, t32_m3, t32_m4, t32_m9, t32_m10, t32_m500, t32_m1000, t32_m10000, t32_m30000, t64_0, t64_1, t64_2, t64_3, t64_4, t64_5, t64_6, t64_7, t64_8, t64_9, t64_10, t64_11, t64_19, t64_20, t64_23, t64_24, t64_29, t64_30, t64_39, t64_40, t64_49, t64_50, t64_79, t64_99, t64_100, t64_119, t64_120, t64_159, t64_160, t64_249, t64_250, t64_400, t64_500, t64_800, t64_950, t64_1000, t64_1050, t64_2000, t64_2999, t64_3000, t64_8000, t64_10000, t64_30000, t64_500000, t64_m1, t64_m2, t64_m3, t64_m4, t64_m9, t64_m10, t64_m500, t64_m1000, t64_m10000, t64_m30000, nI_toInt (show s < 2 ^ 31 by omega)]
  unfold OkStep
  split
  · exact ⟨_, rfl, fun h => by rw [bz_eq0] at h; exact Or.inl ⟨by assumption, by simpa using h⟩⟩
  · split
    · split
      · exact ⟨_, rfl, fun h => absurd rfl h⟩
      · split
        · exact ⟨_, rfl, fun h => absurd rfl h⟩
        · split
          · exact ⟨_, rfl, fun h => absurd rfl h⟩
          · exact ⟨_, rfl, fun h => Or.inr (Or.inl ⟨by assumption, by omega⟩)⟩
    · split
      · exact ⟨_, rfl, fun h => by rw [bz_eq0] at h; exact Or.inr (Or.inr (Or.inl ⟨by assumption, by simpa using h⟩))⟩
      · split
        · split
          · exact ⟨_, rfl, fun h => absurd rfl h⟩
          · split
            · exact ⟨_, rfl, fun h => absurd rfl h⟩
            · exact ⟨_, rfl, fun h => Or.inr (Or.inr (Or.inr (Or.inl ⟨by assumption, by omega⟩)))⟩
        · split
          · exact ⟨_, rfl, fun h => absurd rfl h⟩
          · exact ⟨_, rfl, fun h => Or.inr (Or.inr (Or.inr (Or.inr (by simp_all))))⟩
theorem nI4 (s : Nat) : nI s * (4 : Int32) = nI (4 * s) := by rw [show (4 : Int32) = nI 4 from rfl, pk_mul, Nat.mul_comm]
theorem ev_add {n s : Nat} {σ : Mem} (e : σ.1 4 1 = nI s) (h : s < 30) (k a b c : Int32) : X6_add n σ k a b c = some (wI (wI (wI (wI (wI σ 5 (4 * s) k) 5 (4 * s + 1) a) 5 (4 * s + 2) b) 5 (4 * s + 3) c) 4 1 (nI (s + 1))) := by
  unfold X6_add
  simp only [xw, bindo_some, bz_eq0, Decidable.not_not, lete_eq, t32_0, t32_1, t32_2, t32_3, t32_4, t32_5, t32_6, t32_7, t32_8, t32_9, t32_10, t32_11, t32_19, t32_20, t32_23, t32_24, t32_29, t32_30, t32_39, t32_40, t32_49, t32_50, t32_79, t32_99, t32_100, t32_119, t32_120, t32_159, t32_160, t32_249, t32_250, t32_400, t32_500, t32_800, t32_950, t32_1000, t32_1050, t32_2000, t32_2999, t32_3000, t32_8000, t32_10000, t32_30000, t32_500000, t32_m1, t32_m2, t32_m3, t32_m4, t32_m9, t32_m10, t32_m500, t32_m1000, t32_m10000, t32_m30000, t64_0, t64_1, t64_2, t64_3, t64_4, t64_5, t64_6, t64_7, t64_8, t64_9, t64_10, t64_11, t64_19, t64_20, t64_23, t64_24, t64_29, t64_30, t64_39, t64_40, t64_49, t64_50, t64_79, t64_99, t64_100, t64_119, t64_120, t64_159, t64_160, t64_249, t64_250, t64_400, t64_500, t64_800, t64_950, t64_1000, t64_1050, t64_2000, t64_2999, t64_3000, t64_8000, t64_10000, t64_30000, t64_500000, t64_m1, t64_m2, t64_m3, t64_m4, t64_m9, t64_m10, t64_m500, t64_m1000, t64_m10000, t64_m30000, e, nI4]
  rw [nI_toInt (by omega), if_pos (by omega)]
  rw [show nI (4 * s) + (0 : Int32) = nI (4 * s) from nI_add _ 0, show nI (4 * s) + (1 : Int32) = nI (4 * s + 1) from nI_add _ 1, show nI (4 * s) + (2 : Int32) = nI (4 * s + 2) from nI_add _ 2, show nI (4 * s) + (3 : Int32) = nI (4 * s + 3) from nI_add _ 3]
  simp only [inb_nI (show 4 * s < 120 by omega) (by decide), inb_nI (show 4 * s + 1 < 120 by omega) (by decide), inb_nI (show 4 * s + 2 < 120 by omega) (by decide), inb_nI (show 4 * s + 3 < 120 by omega) (by decide), chk_t, ix_nI (show 4 * s < 2 ^ 31 by omega), ix_nI (show 4 * s + 1 < 2 ^ 31 by omega), ix_nI (show 4 * s + 2 < 2 ^ 31 by omega), ix_nI (show 4 * s + 3 < 2 ^ 31 by omega)]
  have e2 : (wI (wI (wI (wI σ 5 (4 * s) k) 5 (4 * s + 1) a) 5 (4 * s + 2) b) 5 (4 * s + 3) c).1 4 1 = nI s := e
  rw [e2, nI_1]
theorem ev_addStep {s : Nat} {τ : Mem} (e : τ.1 0 13 = nI s) (h : s < 30) (k a b c : Int32) : X12_addStep τ k a b c = some (wI (wI (wI (wI (wI τ 3 s k) 4 s a) 5 s b) 6 s c) 0 13 (nI (s + 1))) := by
  unfold X12_addStep
  simp only [lete_eq]
  have e1 : (wI τ 3 s k).1 0 13 = nI s := e
  have e2 : (wI (wI τ 3 s k) 4 s a).1 0 13 = nI s := e
  have e3 : (wI (wI (wI τ 3 s k) 4 s a) 5 s b).1 0 13 = nI s := e
  have e4 : (wI (wI (wI (wI τ 3 s k) 4 s a) 5 s b) 6 s c).1 0 13 = nI s := e
  simp only [e, ix_nI (show s < 2 ^ 31 by omega), inb_nI (show s < 30 by omega) (by decide), chk_t, e1, e2, e3, e4, nI_1]
theorem eqP_add {f k a b c : Nat → Int32} {s : Nat} (h : EqP f k a b c) (hs : s < 30) (vk va vb vc : Int32) : EqP (upd (upd (upd (upd f (4 * s) vk) (4 * s + 1) va) (4 * s + 2) vb) (4 * s + 3) vc) (upd k s vk) (upd a s va) (upd b s vb) (upd c s vc) := by
  intro i hi
  obtain ⟨h1, h2, h3, h4⟩ := h i hi
  by_cases e : i = s
  · subst e
    refine ⟨?_, ?_, ?_, ?_⟩ <;> simp [upd]
  · refine ⟨?_, ?_, ?_, ?_⟩
    · simp only [upd]; rw [if_neg (by omega), if_neg (by omega), if_neg (by omega), if_neg (by omega), if_neg e]; exact h1
    · simp only [upd]; rw [if_neg (by omega), if_neg (by omega), if_neg (by omega), if_neg (by omega), if_neg e]; exact h2
    · simp only [upd]; rw [if_neg (by omega), if_neg (by omega), if_neg (by omega), if_neg (by omega), if_neg e]; exact h3
    · simp only [upd]; rw [if_neg (by omega), if_neg (by omega), if_neg (by omega), if_neg (by omega), if_neg e]; exact h4
theorem okProg_add {k a b c : Nat → Int32} {s : Nat} (h : OkProg s k a b c) {vk va vb vc : Int32} (hv : OkStep s vk va vb vc) : OkProg (s + 1) (upd k s vk) (upd a s va) (upd b s vb) (upd c s vc) := by
  intro i hi
  by_cases e : i = s
  · subst e
    simpa [upd] using hv
  · simp only [upd, if_neg e]
    exact h i (by omega)
