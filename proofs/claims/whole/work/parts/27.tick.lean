/-! tick -/
def row7 (f : Nat → Int32) (b : Nat) (x r m w z p q : Int32) : Nat → Int32 := upd (upd (upd (upd (upd (upd (upd f b x) (b + 1) r) (b + 2) m) (b + 3) w) (b + 4) z) (b + 5) p) (b + 6) q
theorem row7_lt {f : Nat → Int32} {b j : Nat} {x r m w z p q : Int32} (h : j < b) : row7 f b x r m w z p q j = f j := by
  unfold row7
  rw [pk_un (by omega), pk_un (by omega), pk_un (by omega), pk_un (by omega), pk_un (by omega), pk_un (by omega), pk_un (by omega)]
theorem row7_0 {f : Nat → Int32} {b : Nat} {x r m w z p q : Int32} : row7 f b x r m w z p q b = x := by
  unfold row7
  rw [pk_un (by omega), pk_un (by omega), pk_un (by omega), pk_un (by omega), pk_un (by omega), pk_un (by omega), pk_us]
theorem row7_1 {f : Nat → Int32} {b : Nat} {x r m w z p q : Int32} : row7 f b x r m w z p q (b + 1) = r := by
  unfold row7
  rw [pk_un (by omega), pk_un (by omega), pk_un (by omega), pk_un (by omega), pk_un (by omega), pk_us]
theorem row7_5 {f : Nat → Int32} {b : Nat} {x r m w z p q : Int32} : row7 f b x r m w z p q (b + 5) = p := by
  unfold row7
  rw [pk_un (by omega), pk_us]
theorem row7_6 {f : Nat → Int32} {b : Nat} {x r m w z p q : Int32} : row7 f b x r m w z p q (b + 6) = q := by
  unfold row7
  rw [pk_us]
def wr7 (σ : Mem) (o b : Nat) (x r m w z p q : Int32) : Mem := wI (wI (wI (wI (wI (wI (wI σ o b x) o (b + 1) r) o (b + 2) m) o (b + 3) w) o (b + 4) z) o (b + 5) p) o (b + 6) q
theorem ev_b110 {n t : Nat} {σ : Mem} (e : σ.1 1 3 = nI t) (ht : t < 3000) (p q x r m w z : Int32) : X3_advance_b110 n σ p q x r m w z = some (wr7 (wI σ 1 3 (nI (t + 1))) 3 (7 * (t + 1)) x r m w z p q) := by
  have e1 : (wI σ 1 3 (nI (t + 1))).1 1 3 = nI (t + 1) := rfl
  have e2 : nI (t + 1) * (7 : Int32) = nI (7 * (t + 1)) := by rw [show (7 : Int32) = nI 7 from rfl, pk_mul, Nat.mul_comm]
  have a : ∀ j : Nat, nI (7 * (t + 1)) + nI j = nI (7 * (t + 1) + j) := fun j => nI_add _ _
  have i : ∀ j : Nat, j < 7 → inb (nI (7 * (t + 1) + j)) 21007 = true := fun j hj => inb_nI (by omega) (by decide)
  have k : ∀ j : Nat, j < 7 → ix (nI (7 * (t + 1) + j)) = 7 * (t + 1) + j := fun j hj => ix_nI (by omega)
  unfold X3_advance_b110 wr7
  simp only [lete_eq, e, nI_1, e1, e2]
  rw [show nI (7 * (t + 1)) + (0 : Int32) = nI (7 * (t + 1) + 0) from a 0, show nI (7 * (t + 1)) + (2 : Int32) = nI (7 * (t + 1) + 2) from a 2, show nI (7 * (t + 1)) + (3 : Int32) = nI (7 * (t + 1) + 3) from a 3, show nI (7 * (t + 1)) + (4 : Int32) = nI (7 * (t + 1) + 4) from a 4, show nI (7 * (t + 1)) + (5 : Int32) = nI (7 * (t + 1) + 5) from a 5, show nI (7 * (t + 1)) + (6 : Int32) = nI (7 * (t + 1) + 6) from a 6]
  rw [i 0 (by decide), i 1 (by decide), i 2 (by decide), i 3 (by decide), i 4 (by decide), i 5 (by decide), i 6 (by decide), k 0 (by decide), k 1 (by decide), k 2 (by decide), k 3 (by decide), k 4 (by decide), k 5 (by decide), k 6 (by decide)]
  simp only [chk_t, Nat.add_zero]
def turnTail (v1 : Int32) (τ : Mem) : Option (Mem) :=
  if v1 = (0 : Int32) then
  (loopF (fun (rec : (Mem × Int32) → Option (Mem)) (s : Mem × Int32) => X12_turn_l344 rec s.1 s.2)  FU (τ, (0 : Int32)))
  else
  (lete (wI τ 0 11 ((τ.1 0 11) + (1 : Int32))) (fun σ15 =>
  if ¬ (σ15.1 0 11) = (10 : Int32) then
  (lete (wI σ15 0 4 (2 : Int32)) (fun σ16 =>
  some σ16))
  else
  (lete (wI σ15 0 4 (3 : Int32)) (fun σ17 =>
  some σ17))))
theorem ev_b233 {T : Nat} {τ : Mem} (hT : T ≤ 3000) (v1 x r m w z : Int32) : X12_turn_b233 τ v1 (nI (7 * T)) x r m w z = turnTail v1 (wr7 τ 2 (7 * T) x r m w z (τ.1 0 24) (τ.1 0 25)) := by
  have a : ∀ j : Nat, nI (7 * T) + nI j = nI (7 * T + j) := fun j => nI_add _ _
  have i : ∀ j : Nat, j < 7 → inb (nI (7 * T + j)) 21007 = true := fun j hj => inb_nI (by omega) (by decide)
  have k : ∀ j : Nat, j < 7 → ix (nI (7 * T + j)) = 7 * T + j := fun j hj => ix_nI (by omega)
  have i0 : inb (nI (7 * T)) 21007 = true := i 0 (by decide)
  have k0 : ix (nI (7 * T)) = 7 * T := k 0 (by decide)
  unfold X12_turn_b233
  rw [show nI (7 * T) + (1 : Int32) = nI (7 * T + 1) from a 1, show nI (7 * T) + (2 : Int32) = nI (7 * T + 2) from a 2, show nI (7 * T) + (3 : Int32) = nI (7 * T + 3) from a 3, show nI (7 * T) + (4 : Int32) = nI (7 * T + 4) from a 4, show nI (7 * T) + (5 : Int32) = nI (7 * T + 5) from a 5, show nI (7 * T) + (6 : Int32) = nI (7 * T + 6) from a 6]
  rw [i0, k0, i 1 (by decide), i 2 (by decide), i 3 (by decide), i 4 (by decide), i 5 (by decide), i 6 (by decide), k 1 (by decide), k 2 (by decide), k 3 (by decide), k 4 (by decide), k 5 (by decide), k 6 (by decide)]
  simp only [chk_t, lete_eq]
  rfl
theorem adv_ok {n t a st lo co mk ot : Nat} {σ τ : Mem} (h : RelT n t a st lo co mk ot σ τ) (ht : t < 3000) : ∃ σ' τ' : Mem, X3_advance n σ (τ.1 0 24) (τ.1 0 25) = some σ' ∧ (∀ v1, X12_turn_b42 τ v1 = turnTail v1 τ') ∧ RelC n (t + 1) a st lo co mk ot σ' τ' ∧ τ'.1 0 4 = τ.1 0 4 ∧ τ'.1 0 11 = τ.1 0 11 := by
  obtain ⟨e_fa, e_tr, e_mp, e_lg, e_ro, e_ti, e_at_, e_ki, e_ac, e_pa, e_sc, e_ld, e_mc, e_mt, e_cc, e_lc, e_l1, e_l2, e_l3, e_kc, e_k1, e_k2, e_k3, e_k4, e_oc, e_oa, e_b1, e_b2, e_pr, e_sh0, e_sh1, e_sh2, e_sh3, e_ch, e_c0, e_d0, e_c1, e_d1, e_c2, e_d2, e_c3, e_d3, e_c4, e_d4, e_c5, e_d5, e_c6, e_d6, e_c7, e_d7, e_ps, e_oz, e_rm, e_lb, e_ab, e_ru, e_mb, e_wb, e_w0, e_w1, e_ws, e_wp, e_kb, e_tb, e_bb⟩ := h
  obtain ⟨L, hL, eL⟩ := nat_of 20 (show 0 ≤ (τ.1 0 3).toInt by omega) e_lb.2 (by decide)
  have hL1 : 1 ≤ L := by have := e_lb.1; rw [eL, nI_toInt (by omega)] at this; omega
  have hrow := e_wb t (Nat.le_refl _)
  unfold OkRow at hrow
  obtain ⟨o1, o2, o3, o4, o5, o6, o7, o8⟩ := hrow
  obtain ⟨s, hs, es⟩ := nat_of 8000 o1 o2 (by decide)
  obtain ⟨d, hd, ed⟩ := nat_of 1000 e_wp.1 e_wp.2 (by decide)
  obtain ⟨s2, hs2, es2⟩ := chg_ok (p := τ.1 0 24) hs hL1 hL e_ws
  obtain ⟨r, x1, x2, x3, x4⟩ := torque_ok (n := n) (σ := σ) (τ := wI τ 0 5 (nI (t + 1))) e_mp e_mb hs2 hd
  have hlat : ∀ j, j ≤ 6 → X3_latest n σ (nI j) = some (τ.1 2 (7 * t + j)) := by
    intro j hj
    unfold X3_latest
    rw [ev_part σ (show t ≤ 3000 by omega) hj (e_ti.trans e_c1) rfl, e_pa]
    simp only [bindo_some]
  have hX : X3_advance n σ (τ.1 0 24) (τ.1 0 25) = some (wr7 (wI σ 1 3 (nI (t + 1))) 3 (7 * (t + 1)) (nI s2) r (mxI 0 ((nI s2 * (r + 50)) / 1000)) (τ.1 2 (7 * t + 3) + ((mxI 0 ((nI s2 * (r + 50)) / 1000) - 2 * (τ.1 2 (7 * t + 3) - 20)) / 16)) (if r - τ.1 2 (7 * t + 1) ≤ 0 then τ.1 2 (7 * t + 4) / 2 else 3 * (r - τ.1 2 (7 * t + 1))) (τ.1 0 24) (τ.1 0 25)) := by
    have l0 : X3_latest n σ 0 = some (nI s) := (hlat 0 (by decide)).trans (congrArg some es)
    have l1 : X3_latest n σ 1 = some (τ.1 2 (7 * t + 1)) := hlat 1 (by decide)
    have l3 : X3_latest n σ 3 = some (τ.1 2 (7 * t + 3)) := hlat 3 (by decide)
    have l4 : X3_latest n σ 4 = some (τ.1 2 (7 * t + 4)) := hlat 4 (by decide)
    unfold X3_advance
    simp only [xw, bindo_some, bz_eq0, Decidable.not_not, lete_eq, e_ti, e_c1, l0, l1, l3, l4, ev_change (n := n) (σ := σ) (e_lg.trans eL) hL1 hL, es2, t32_0, t32_2999]
    rw [if_pos (by rw [nI_toInt (by omega)]; omega), ed, x1]
    simp only [bindo_some]
    by_cases c : r - τ.1 2 (7 * t + 1) ≤ 0
    · rw [if_pos c, if_pos c]
      exact ev_b110 (e_ti.trans e_c1) ht _ _ _ _ _ _ _
    · rw [if_neg c, if_neg c]
      exact ev_b110 (e_ti.trans e_c1) ht _ _ _ _ _ _ _
  have hsub : (r - τ.1 2 (7 * t + 1)).toInt = r.toInt - (τ.1 2 (7 * t + 1)).toInt := i32_sub (by omega) (by omega)
  have hle : r ≤ τ.1 2 (7 * t + 1) ↔ r - τ.1 2 (7 * t + 1) ≤ 0 := by
    rw [Int32.le_iff_toInt_le, Int32.le_iff_toInt_le, hsub, t32_0]
    omega
  have hM : ∀ v1, X12_turn_b42 τ v1 = turnTail v1 (wr7 (wI τ 0 5 (nI (t + 1))) 2 (7 * (t + 1)) (nI s2) r (mxI 0 ((nI s2 * (r + 50)) / 1000)) (τ.1 2 (7 * t + 3) + ((mxI 0 ((nI s2 * (r + 50)) / 1000) - 2 * (τ.1 2 (7 * t + 3) - 20)) / 16)) (if r - τ.1 2 (7 * t + 1) ≤ 0 then τ.1 2 (7 * t + 4) / 2 else 3 * (r - τ.1 2 (7 * t + 1))) (τ.1 0 24) (τ.1 0 25)) := by
    intro v1
    have h164 : ∀ m, X12_turn_b164 (wI τ 0 5 (nI (t + 1))) v1 (nI (7 * t)) (nI (7 * (t + 1))) (nI s2) r m = turnTail v1 (wr7 (wI τ 0 5 (nI (t + 1))) 2 (7 * (t + 1)) (nI s2) r m (τ.1 2 (7 * t + 3) + ((m - 2 * (τ.1 2 (7 * t + 3) - 20)) / 16)) (if r - τ.1 2 (7 * t + 1) ≤ 0 then τ.1 2 (7 * t + 4) / 2 else 3 * (r - τ.1 2 (7 * t + 1))) (τ.1 0 24) (τ.1 0 25)) := by
      intro m
      have f : ∀ j, (wI τ 0 5 (nI (t + 1))).1 2 j = τ.1 2 j := fun j => rfl
      unfold X12_turn_b164
      rw [show nI (7 * t) + (3 : Int32) = nI (7 * t + 3) from nI_add _ 3, show nI (7 * t) + (1 : Int32) = nI (7 * t + 1) from nI_add _ 1, show nI (7 * t) + (4 : Int32) = nI (7 * t + 4) from nI_add _ 4]
      rw [inb_nI (show 7 * t + 3 < 21007 by omega) (by decide), inb_nI (show 7 * t + 1 < 21007 by omega) (by decide), inb_nI (show 7 * t + 4 < 21007 by omega) (by decide), ix_nI (show 7 * t + 3 < 2 ^ 31 by omega), ix_nI (show 7 * t + 1 < 2 ^ 31 by omega), ix_nI (show 7 * t + 4 < 2 ^ 31 by omega)]
      simp only [chk_t, lete_eq, f]
      by_cases c : r ≤ τ.1 2 (7 * t + 1)
      · rw [if_pos c, if_pos (hle.mp c)]
        exact ev_b233 (by omega) _ _ _ _ _ _
      · rw [if_neg c, if_neg (fun z => c (hle.mpr z))]
        exact ev_b233 (by omega) _ _ _ _ _ _
    have h120 : X12_turn_b120 (wI τ 0 5 (nI (t + 1))) v1 (nI (7 * t)) (nI (7 * (t + 1))) (nI s) (chg (nI s) (τ.1 0 24) (nI L)) = turnTail v1 (wr7 (wI τ 0 5 (nI (t + 1))) 2 (7 * (t + 1)) (nI s2) r (mxI 0 ((nI s2 * (r + 50)) / 1000)) (τ.1 2 (7 * t + 3) + ((mxI 0 ((nI s2 * (r + 50)) / 1000) - 2 * (τ.1 2 (7 * t + 3) - 20)) / 16)) (if r - τ.1 2 (7 * t + 1) ≤ 0 then τ.1 2 (7 * t + 4) / 2 else 3 * (r - τ.1 2 (7 * t + 1))) (τ.1 0 24) (τ.1 0 25)) := by
      have f25 : (wI τ 0 5 (nI (t + 1))).1 0 25 = nI d := ed
      unfold X12_turn_b120
      rw [es2, f25]
      simp only [lete_eq]
      rw [x2]
      simp only [bindo_some]
      unfold mxI
      by_cases c : 0 ≤ (nI s2 * (r + 50)) / 1000
      · rw [if_pos c, h164]
        by_cases c2 : 0 < (nI s2 * (r + 50)) / 1000
        · rw [if_pos c2]
        · have c3 : (nI s2 * (r + 50)) / 1000 = 0 := by
            rw [Int32.le_iff_toInt_le] at c
            rw [Int32.lt_iff_toInt_lt] at c2
            exact Int32.toInt_inj.mp (by rw [t32_0] at *; omega)
          rw [if_neg c2, c3]
      · rw [if_neg c, h164, if_neg (show ¬ 0 < (nI s2 * (r + 50)) / 1000 from fun z => c (by rw [Int32.le_iff_toInt_le]; rw [Int32.lt_iff_toInt_lt] at z; omega))]
    have f5 : (wI τ 0 5 (nI (t + 1))).1 0 5 = nI (t + 1) := rfl
    have f2 : (wI τ 0 5 (nI (t + 1))).1 2 (7 * t) = nI s := es
    have f3 : (wI τ 0 5 (nI (t + 1))).1 0 3 = nI L := eL
    have f24 : (wI τ 0 5 (nI (t + 1))).1 0 24 = τ.1 0 24 := rfl
    have m7 : ∀ q : Nat, (7 : Int32) * nI q = nI (7 * q) := fun q => by rw [show (7 : Int32) = nI 7 from rfl, pk_mul]
    unfold X12_turn_b42 X12_turn_b118
    rw [e_c1]
    simp only [lete_eq, nI_1, f5, m7, inb_nI (show 7 * t < 21007 by omega) (by decide), ix_nI (show 7 * t < 2 ^ 31 by omega), chk_t, f2, f3, f24, show nz (nI L) = true by simp [nz]; exact nI_ne0 (by omega) (by omega)]
    rw [← h120]
    unfold chg
    by_cases c : (τ.1 0 24 - nI s) / nI L = 0
    · rw [if_neg (fun z => z c), if_pos c]
      by_cases c2 : τ.1 0 24 = nI s
      · rw [if_pos c2, if_pos c2, c]
      · rw [if_neg c2, if_neg c2]
        by_cases c3 : τ.1 0 24 ≤ nI s
        · rw [if_pos c3, if_pos c3]
        · rw [if_neg c3, if_neg c3]
    · rw [if_pos c, if_neg c]
  refine ⟨_, _, hX, hM, ?_⟩
  generalize (mxI 0 ((nI s2 * (r + 50)) / 1000)) = m
  generalize (τ.1 2 (7 * t + 3) + ((m - 2 * (τ.1 2 (7 * t + 3) - 20)) / 16)) = w
  generalize (if r - τ.1 2 (7 * t + 1) ≤ 0 then τ.1 2 (7 * t + 4) / 2 else 3 * (r - τ.1 2 (7 * t + 1))) = z
  have hw2 : ∀ x r m w z p q, (wr7 (wI τ 0 5 (nI (t + 1))) 2 (7 * (t + 1)) x r m w z p q).1 2 = row7 (τ.1 2) (7 * (t + 1)) x r m w z p q := fun x r m w z p q => rfl
  have hw3 : ∀ x r m w z p q, (wr7 (wI σ 1 3 (nI (t + 1))) 3 (7 * (t + 1)) x r m w z p q).1 3 = row7 (σ.1 3) (7 * (t + 1)) x r m w z p q := fun x r m w z p q => rfl
  have hwb : ∀ i, i ≤ t + 1 → OkRow (row7 (τ.1 2) (7 * (t + 1)) (nI s2) r m w z (τ.1 0 24) (τ.1 0 25)) i := by
    intro i hi
    unfold OkRow
    by_cases c : i = t + 1
    · subst c
      rw [row7_0, row7_1, row7_5, row7_6, nI_toInt (by omega)]
      exact ⟨by omega, by omega, x3, x4, e_ws.1, e_ws.2, e_wp.1, e_wp.2⟩
    · rw [row7_lt (by omega), row7_lt (by omega), row7_lt (by omega), row7_lt (by omega)]
      exact e_wb i (by omega)
  have hch : ∀ k, k < n → EqCh ((wr7 (wI σ 1 3 (nI (t + 1))) 3 (7 * (t + 1)) (nI s2) r m w z (τ.1 0 24) (τ.1 0 25)).1 (100 + k)) k (τ.1 12 k) (τ.1 13 k) (τ.1 14 k) (τ.1 15 k) (τ.1 16 k) (τ.1 17 k) (τ.1 18 k) := by
    intro k hk
    unfold wr7
    simp (disch := omega) only [wI_hi]
    exact e_ch k hk
  exact ⟨⟨e_fa, e_tr, e_mp, e_lg, e_ro, rfl, e_at_, e_ki, e_ac, (hw3 _ _ _ _ _ _ _).trans ((by rw [e_pa] : row7 (σ.1 3) (7 * (t + 1)) _ _ _ _ _ _ _ = row7 (τ.1 2) (7 * (t + 1)) _ _ _ _ _ _ _).trans (hw2 _ _ _ _ _ _ _).symm), e_sc, e_ld, e_mc, e_mt, e_cc, e_lc, e_l1, e_l2, e_l3, e_kc, e_k1, e_k2, e_k3, e_k4, e_oc, e_oa, e_b1, e_b2, e_pr, e_sh0, e_sh1, e_sh2, e_sh3, hch, e_c0, e_d0, rfl, by omega, e_c2, e_d2, e_c3, e_d3, e_c4, e_d4, e_c5, e_d5, e_c6, e_d6, e_c7, e_d7, e_ps, e_oz, e_rm, e_lb, e_ab, e_ru, e_mb, fun i hi => by rw [hw2]; exact hwb i hi, (congrFun (hw2 _ _ _ _ _ _ _) 5).trans ((row7_lt (by omega)).trans e_w0), (congrFun (hw2 _ _ _ _ _ _ _) 6).trans ((row7_lt (by omega)).trans e_w1), (Eq.trans row7_5.symm (congrFun (hw2 _ _ _ _ _ _ _) _).symm : τ.1 0 24 = _), (Eq.trans row7_6.symm (congrFun (hw2 _ _ _ _ _ _ _) _).symm : τ.1 0 25 = _), e_kb, e_tb, e_bb⟩, rfl, rfl⟩
