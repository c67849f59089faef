/-! channel on the machine: a new object comes -/
abbrev JU (E : EnvT) (nL kc ks : Nat) (σ : Mem) (pc : Nat) (lv : List (Nat × Value)) (st : List Value) : Prop := J (ρ := Unit) E nL kc ks () (some ()) σ pc lv st
section CHAN
variable {E : EnvT} {cc : ByteArray} {own : String} {nL : Nat} {rm : Room} {kc ks : Nat} {σ : Mem} {pc : Nat} {lv : List (Nat × Value)} {st : List Value}
theorem ju_g (h : G E nL kc ks σ pc lv st) : JU E nL kc ks σ pc lv st := fun _ => h
theorem ju_w (h : GW E nL kc ks (wl (eIds E) (eAd E) (eEnt E) σ) pc lv st) : JU E nL kc ks σ pc lv st := fun _ => by rw [← gw_G]; exact h
theorem u_if_eq (C : CX E cc own nL rm) {x : Int32} {off : Int} (tgt : Nat) (hd : decode cc pc = .ok (.ifCond .eq off, 3)) (ht : (pc : Int) + off = (tgt : Int)) (kt : x = 0 → JU E nL kc ks σ tgt lv st) (kf : ¬ x = 0 → JU E nL kc ks σ (pc + 3) lv st) : JU E nL kc ks σ pc lv (.int x :: st) := by
  obtain ⟨p, l, e, R, s, m, args, below, meth, c, Q, A, D, tys, ids, ad, ent⟩ := E
  obtain ⟨hx, hb, hml, hown, hts, hK, hN, hR, hA, hlk, hAX⟩ := C
  exact fun h H locs ls hP hD hS hl => lv_if_eq hx hb hd ht (fun q => kt q h H locs ls hP hD hS hl) (fun q => kf q h H locs ls hP hD hS hl)
theorem u_if_ne (C : CX E cc own nL rm) {x : Int32} {off : Int} (tgt : Nat) (hd : decode cc pc = .ok (.ifCond .ne off, 3)) (ht : (pc : Int) + off = (tgt : Int)) (kt : ¬ x = 0 → JU E nL kc ks σ tgt lv st) (kf : x = 0 → JU E nL kc ks σ (pc + 3) lv st) : JU E nL kc ks σ pc lv (.int x :: st) := by
  obtain ⟨p, l, e, R, s, m, args, below, meth, c, Q, A, D, tys, ids, ad, ent⟩ := E
  obtain ⟨hx, hb, hml, hown, hts, hK, hN, hR, hA, hlk, hAX⟩ := C
  exact fun h H locs ls hP hD hS hl => lv_if_ne hx hb hd ht (fun q => kt q h H locs ls hP hD hS hl) (fun q => kf (by first | exact q | exact Decidable.not_not.mp q) h H locs ls hP hD hS hl)
theorem u_icmp_lt (C : CX E cc own nL rm) {x y : Int32} {off : Int} (tgt : Nat) (hd : decode cc pc = .ok (.if_icmp .lt off, 3)) (ht : (pc : Int) + off = (tgt : Int)) (kt : x < y → JU E nL kc ks σ tgt lv st) (kf : ¬ x < y → JU E nL kc ks σ (pc + 3) lv st) : JU E nL kc ks σ pc lv (.int y :: .int x :: st) := by
  obtain ⟨p, l, e, R, s, m, args, below, meth, c, Q, A, D, tys, ids, ad, ent⟩ := E
  obtain ⟨hx, hb, hml, hown, hts, hK, hN, hR, hA, hlk, hAX⟩ := C
  exact fun h H locs ls hP hD hS hl => lv_icmp_lt hx hb hd ht (fun q => kt q h H locs ls hP hD hS hl) (fun q => kf q h H locs ls hP hD hS hl)
end CHAN
/-- within, in any surroundings -/
theorem c_within_any {E : EnvT} {σ : Mem} {p1 p2 p3 r : Int32} (h : X11_within p1 p2 p3 = some r) : CT E yX11_within cX11_within 3 (some .boolean) rm_X11_within [.int p1, .int p2, .int p3] σ (RQi r σ) := by
  obtain ⟨p, l, e, R, s, m, args, below, meth, c, Q, A, D, tys, ids, ad, ent⟩ := E
  intro sz
  exact ct_of (by decide) (Nat.le_of_ble_eq_true rfl) (fun E' e1 e2 e3 e4 e5 C Q => m_X11_within C Q h) sz
-- the world with one channel more, that no row names yet
def XG (E : EnvT) (n : Nat) (cs : Nat → ClassId) : Prop := eIds E = xIds (n + 1) ∧ eEnt E = xEnt (eAd E) cs n ∧ eTys E = wTys cs
def eW (E : EnvT) (ent : EntT) : EnvT := match E with
  | (p, l, e, R, s, m, args, below, meth, c, Q, A, D, tys, ids, ad, _) => (p, l, e, R, s, m, args, below, meth, c, Q, A, D, tys, ids, ad, ent)
theorem eW_CX {E : EnvT} {ent : EntT} {cc : ByteArray} {own : String} {nL : Nat} {rm : Room} (C : CX E cc own nL rm) : CX (eW E ent) cc own nL rm := by
  obtain ⟨p, l, e, R, s, m, args, below, meth, c, Q, A, D, tys, ids, ad, ent0⟩ := E
  obtain ⟨h1, h2, h3, h4, h5, h6, h7, h8, h9, h10, h11⟩ := C
  exact ⟨h1, h2, h3, h4, h5, h6, h7, h8, h9, h10, h11⟩
theorem eW_GW {E : EnvT} {ent : EntT} {nL kc ks : Nat} {ws : va_W} {pc : Nat} {lv : List (Nat × Value)} {st : List Value} : GW (eW E ent) nL kc ks ws pc lv st = GW E nL kc ks ws pc lv st := by
  obtain ⟨p, l, e, R, s, m, args, below, meth, c, Q, A, D, tys, ids, ad, ent0⟩ := E
  simp only [GW, eW]
theorem eW_ids {E : EnvT} {ent : EntT} : eIds (eW E ent) = eIds E := by
  obtain ⟨p, l, e, R, s, m, args, below, meth, c, Q, A, D, tys, ids, ad, ent0⟩ := E
  simp only [eIds, eW]
theorem eW_ad {E : EnvT} {ent : EntT} : eAd (eW E ent) = eAd E := by
  obtain ⟨p, l, e, R, s, m, args, below, meth, c, Q, A, D, tys, ids, ad, ent0⟩ := E
  simp only [eAd, eW]
theorem eW_ent {E : EnvT} {ent : EntT} : eEnt (eW E ent) = ent := by
  obtain ⟨p, l, e, R, s, m, args, below, meth, c, Q, A, D, tys, ids, ad, ent0⟩ := E
  simp only [eEnt, eW]
theorem eW_tys {E : EnvT} {ent : EntT} : eTys (eW E ent) = eTys E := by
  obtain ⟨p, l, e, R, s, m, args, below, meth, c, Q, A, D, tys, ids, ad, ent0⟩ := E
  simp only [eTys, eW]
theorem eW_XF {E : EnvT} {n : Nat} {cs : Nat → ClassId} (F : XG E n cs) : XF (eW E (xEnt (eAd E) cs (n + 1))) (n + 1) cs := ⟨eW_ids.trans F.1, by rw [eW_ent, eW_ad], eW_tys.trans F.2.2⟩
theorem xIds_succ (n : Nat) : xIds (n + 1) = xIds n ++ [100 + n] := by
  unfold xIds
  rw [show List.range (n + 1) = List.range n ++ [n] from List.range_succ, List.map_append, List.append_assoc]
  rfl
theorem xIds_lt {n o : Nat} (h : o ∈ xIds n) : o < 100 + n ∧ o ≠ 100 + n := by
  rcases List.mem_append.mp h with h | h
  · have := List.mem_range.mp h
    omega
  · obtain ⟨k, hk, rfl⟩ := List.mem_map.mp h
    have := List.mem_range.mp hk
    omega
theorem xTab_n (ad : Nat → Nat) (cs : Nat → ClassId) (n : Nat) (f : Nat → Int32) (g : Nat → Int64) : xTab ad cs n f g = (xTab ad cs 0 f g).set 7 (.inl (cs 3, 8, .inr (.inr (.inr (.inr fun j => (xRows n j).map ad))))) := rfl
theorem xEnt_n {ad : Nat → Nat} {cs : Nat → ClassId} {n o : Nat} {f : Nat → Int32} {g : Nat → Int64} (h : o ≠ 7) : xEnt ad cs n o f g = xEnt ad cs 0 o f g := by
  show (xTab ad cs n f g).getD o _ = (xTab ad cs 0 f g).getD o _
  rw [xTab_n, List.getD_eq_getElem?_getD, List.getD_eq_getElem?_getD, List.getElem?_set_ne (Ne.symm h)]
theorem xTab_r (ad : Nat → Nat) (cs : Nat → ClassId) (n : Nat) (f : Nat → Int32) (g : Nat → Int64) : xTab ad cs n f g = ((xTab (fun k => if k < 100 then ad k else 0) cs 0 f g).set 7 (.inl (cs 3, 8, .inr (.inr (.inr (.inr fun j => (xRows n j).map ad)))))).set 28 (.inl (cs 4, 4, .inr (.inr (.inr (.inr fun j => (xSheets j).map ad))))) := rfl
theorem xEnt_ad {ad ad' : Nat → Nat} {cs : Nat → ClassId} {n o : Nat} {f : Nat → Int32} {g : Nat → Int64} (h : ∀ k, k < 100 + n → ad' k = ad k) : xEnt ad' cs n o f g = xEnt ad cs n o f g := by
  have hr : (fun j => (xRows n j).map ad') = (fun j => (xRows n j).map ad) := by
    funext j
    unfold xRows
    split
    · exact congrArg some (h _ (by omega))
    · rfl
  have hs : (fun j => (xSheets j).map ad') = (fun j => (xSheets j).map ad) := by
    funext j
    unfold xSheets
    split
    · exact congrArg some (h _ (by omega))
    · rfl
  have hq : (fun k => if k < 100 then ad' k else 0) = (fun k => if k < 100 then ad k else 0) := by
    funext k
    split
    · exact h _ (by omega)
    · rfl
  have ht : xTab ad' cs n f g = xTab ad cs n f g := by
    rw [xTab_r, hr, hs, hq]
    exact (xTab_r ad cs n f g).symm
  show (xTab ad' cs n f g).getD o _ = (xTab ad cs n f g).getD o _
  rw [ht]
theorem xrows_up {ad : Nat → Nat} {n : Nat} : va_up (fun j => (xRows n j).map ad) n (some (ad (100 + n))) = (fun j => (xRows (n + 1) j).map ad) := by
  funext j
  show (if j = n then some (ad (100 + n)) else (xRows n j).map ad) = (xRows (n + 1) j).map ad
  unfold xRows
  by_cases h : j = n
  · subst h
    rw [if_pos rfl, if_pos (Nat.lt_succ_self j)]
    rfl
  · rw [if_neg h]
    by_cases h2 : j < n
    · rw [if_pos h2, if_pos (by omega)]
    · rw [if_neg h2, if_neg (by omega)]
/-- one place of the world is set, and what the others hold is told anew -/
theorem wl_set_ent {ids : List Nat} {ad : Nat → Nat} {ent ent' : EntT} {σ : Mem} {A : Nat → Prop} (hD : va_D A (wl ids ad ent σ)) {o k : Nat} {e : va_E} (ho : o ∈ ids) (hk : (wl ids ad ent σ)[k]? = some (ad o, ent o (σ.1 o) (σ.2 o))) (he : ent' o (σ.1 o) (σ.2 o) = e) (hn : ∀ o', o' ≠ o → ent' o' (σ.1 o') (σ.2 o') = ent o' (σ.1 o') (σ.2 o')) : (wl ids ad ent σ).set k (ad o, e) = wl ids ad ent' σ := by
  obtain ⟨k0, h0⟩ := List.getElem?_of_mem ho
  have hk0 : (wl ids ad ent σ)[k0]? = some (ad o, ent o (σ.1 o) (σ.2 o)) := by simp [wl, List.getElem?_map, h0]
  have hkk : k = k0 := hD.1 k k0 _ _ hk hk0 rfl
  subst hkk
  apply List.ext_getElem?
  intro j
  by_cases hj : j = k
  · subst hj
    have hlt : j < (wl ids ad ent σ).length := (List.getElem?_eq_some_iff.mp hk).1
    rw [List.getElem?_set_self hlt]
    simp [wl, List.getElem?_map, h0, he]
  · rw [List.getElem?_set_ne (Ne.symm hj)]
    simp only [wl, List.getElem?_map]
    cases hoj : ids[j]? with
    | none => rfl
    | some o' =>
      have hne : o' ≠ o := by
        intro e'
        subst e'
        have hj0 : (wl ids ad ent σ)[j]? = some (ad o', ent o' (σ.1 o') (σ.2 o')) := by simp [wl, List.getElem?_map, hoj]
        exact hj (hD.1 j k _ _ hj0 hk rfl)
      simp only [Option.map_some, hn o' hne]
section XGS
variable {E : EnvT} {n : Nat} {cs : Nat → ClassId} {o : Nat}
theorem gin (F : XG E n cs) (h : o < 37) : o ∈ eIds E := by rw [F.1]; exact List.mem_append_left _ (List.mem_range.mpr h)
theorem gin_Ch (F : XG E n cs) : 100 + n ∈ eIds E := by rw [F.1, xIds_succ]; exact List.mem_append_right _ List.mem_cons_self
theorem ge_6 (F : XG E n cs) (f : Nat → Int32) (g : Nat → Int64) : eEnt E 6 f g = .inr (2, [.ref (eAd E 1), .ref (eAd E 7), .ref (eAd E 8), .ref (eAd E 13), .int (f 4)]) := by rw [F.2.1]; rfl
theorem ge_7 (F : XG E n cs) (f : Nat → Int32) (g : Nat → Int64) : eEnt E 7 f g = .inl (cs 3, 8, .inr (.inr (.inr (.inr fun j => (xRows n j).map (eAd E))))) := by rw [F.2.1]; rfl
theorem ge_Ch (F : XG E n cs) (f : Nat → Int32) (g : Nat → Int64) : eEnt E (100 + n) f g = .inr (1, [.int (f 0), .int (f 1), .int (f 2), .int (f 3), .int (f 4), .int (f 5), .int (f 6), .int (f 7)]) := by
  rw [F.2.1]
  show (xTab (eAd E) cs n f g).getD (100 + n) _ = _
  rw [List.getD_eq_getElem?_getD, List.getElem?_eq_none (Nat.le_trans (show (xTab (eAd E) cs n f g).length ≤ 100 from Nat.le_of_ble_eq_true rfl) (Nat.le_add_right 100 n))]
  rfl
end XGS
