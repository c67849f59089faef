/-! EngineCell.channel -/
def RQch (cs : Nat → ClassId) (n' : Nat) (r : Int32) (σ' : Mem) : RQT := fun D tys ids ad _ sz => va_Qi (fun (r' : Int32) (u : Nat → Nat) => r' = r ∧ ∀ o, o ∈ ids → u o = ad o) (fun u t => va_P D vwCl (wl (xIds n') u (xEnt u cs n') σ') t.heap ∧ va_K D vwCl tys t ∧ va_D (AX ids ad sz) (wl (xIds n') u (xEnt u cs n') σ')) (AX ids ad sz)
theorem ch_ret {E : EnvT} {cc : ByteArray} {own : String} {nL : Nat} {rm : Room} {kc ks : Nat} {ws : va_W} {pc : Nat} {lv : List (Nat × Value)} {cs : Nat → ClassId} {n' : Nat} {v r : Int32} {σ' : Mem} (C : CX E cc own nL rm) (u : Nat → Nat) (hq : QE E 1 8 (some .int) (RQch cs n' r σ')) (hu : ∀ o, o ∈ eIds E → u o = eAd E o) (hv : v = r) (hws : ws = wl (xIds n') u (xEnt u cs n') σ') (h1 : kc ≤ 1) (h2 : ks ≤ 8) (hd : decode cc pc = .ok (.ireturn, 1)) : GW E nL kc ks ws pc lv [.int v] := by
  obtain ⟨p, l, e, R, s, m, args, below, meth, c, Q, A, D, tys, ids, ad, ent⟩ := E
  obtain ⟨hx, hb, hml, hown, hts, hK, hN, hR, hA, hlk, hAX⟩ := C
  intro H locs ls hP hD hS hl
  obtain ⟨hr, hQ⟩ := hq
  subst hAX
  subst hws
  subst hv
  have hQ : Q = _ := hQ
  rw [hQ]
  exact W.widen h1 h2 (W.iret hx hb hr (fun t ht hW => ⟨⟨v, u, rfl, ⟨rfl, hu⟩, by rw [ht]; exact hP, va_K.moved hW.alike hK, hD⟩, hS.F ht⟩) hS.2.2 hd hlk)
theorem xEnt_Ch {ad : Nat → Nat} {cs : Nat → ClassId} {n k : Nat} {f : Nat → Int32} {g : Nat → Int64} : xEnt ad cs n (100 + k) f g = .inr (1, [.int (f 0), .int (f 1), .int (f 2), .int (f 3), .int (f 4), .int (f 5), .int (f 6), .int (f 7)]) := by
  show (xTab ad cs n f g).getD (100 + k) _ = _
  rw [List.getD_eq_getElem?_getD, List.getElem?_eq_none (Nat.le_trans (show (xTab ad cs n f g).length ≤ 100 from Nat.le_of_ble_eq_true rfl) (Nat.le_add_right 100 k))]
  rfl
theorem ch_world {ad : Nat → Nat} {cs : Nat → ClassId} {n q : Nat} {σ : Mem} {p1 p2 p3 p4 p5 : Int32} (hc : σ.1 6 4 = nI n) : wl (xIds (n + 1)) (fun k => if k = 100 + n then q else ad k) (xEnt (fun k => if k = 100 + n then q else ad k) cs n) (newCh σ n p1 p2 p3 p4 p5) = wl (xIds n) ad (xEnt ad cs n) σ ++ [(q, .inr (1, [.int (σ.1 6 4), .int p1, .int p2, .int p3, .int p4, .int p5, .int 0, .int 0]))] := by
  unfold wl
  rw [xIds_succ, List.map_append]
  congr 1
  · apply List.map_congr_left
    intro o ho
    have h := xIds_lt ho
    show ((if o = 100 + n then q else ad o), xEnt _ cs n o ((newCh σ n p1 p2 p3 p4 p5).1 o) (σ.2 o)) = _
    rw [newCh_ne h.2, xEnt_ad (ad := ad) (fun k hk => if_neg (by omega)), if_neg h.2]
  · show [((if 100 + n = 100 + n then q else ad (100 + n)), xEnt _ cs n (100 + n) ((newCh σ n p1 p2 p3 p4 p5).1 (100 + n)) (σ.2 (100 + n)))] = _
    rw [if_pos rfl, newCh_o, xEnt_Ch, hc]
    rfl
theorem gw_def {p : Program} {l : Launch} {e : Env} {R : Room} {s : State} {m : MethodId} {args : Array Value} {below : List Frame} {meth : Method} {c : Code} {Q : State → Prop} {A : Nat → Prop} {D : va_G} {tys : List (ClassId × FieldType)} {ids : List Nat} {ad : Nat → Nat} {ent : EntT} {nL kc ks : Nat} {ws : va_W} {pc : Nat} {lv : List (Nat × Value)} {st : List Value} : GW (p, l, e, R, s, m, args, below, meth, c, Q, A, D, tys, ids, ad, ent) nL kc ks ws pc lv st = (∀ (H : Heap) (locs : List Loc) (ls : Array Slot), va_P D vwCl ws H → va_D A ws → va_S A s.heap H locs → lv_has ls nL lv → W p l e R s m args below meth c H locs kc ks Q (F0 m pc ls st)) := rfl
theorem ch_shift {E : EnvT} {cc : ByteArray} {own : String} {nL : Nat} {rm : Room} {kc ks pc : Nat} {lv : List (Nat × Value)} {st : List Value} {n q : Nat} {cs : Nat → ClassId} {σ : Mem} {p1 p2 p3 p4 p5 : Int32} (F : XF E n cs) (C : CX E cc own nL rm) (hc : σ.1 6 4 = nI n)
    (k : ∀ E3 : EnvT, XG E3 n cs → (∀ o, o < 100 + n → eAd E3 o = eAd E o) → CX E3 cc own nL rm → (∀ (kc ks : Nat) (ws : va_W) (pc : Nat) (lv : List (Nat × Value)) (st : List Value), GW E nL kc ks ws pc lv st → GW E3 nL kc ks ws pc lv st) → eAd E3 (100 + n) = q → GW E3 nL kc ks (wl (eIds E3) (eAd E3) (eEnt E3) (newCh σ n p1 p2 p3 p4 p5)) pc lv st) : GW E nL kc ks (wl (eIds E) (eAd E) (eEnt E) σ ++ [(q, .inr (1, [.int (σ.1 6 4), .int p1, .int p2, .int p3, .int p4, .int p5, .int 0, .int 0]))]) pc lv st := by
  have F1 := F.1
  have F2 := F.2.1
  have F3 := F.2.2
  obtain ⟨p, l, e, R, s, m, args, below, meth, c, Q, A, D, tys, ids, ad, ent⟩ := E
  have G1 : ids = xIds n := F1
  have G2 : ent = xEnt ad cs n := F2
  have G3 : tys = wTys cs := F3
  clear F F1 F2 F3
  subst G1
  subst G2
  subst G3
  obtain ⟨hx, hb, hml, hown, hts, hK, hN, hR, hA, hlk, hAX⟩ := C
  intro H locs ls hP hD hS hl
  have hP : va_P D vwCl (wl (xIds n) ad (xEnt ad cs n) σ ++ [(q, .inr (1, [.int (σ.1 6 4), .int p1, .int p2, .int p3, .int p4, .int p5, .int 0, .int 0]))]) H := hP
  have hD : va_D A (wl (xIds n) ad (xEnt ad cs n) σ ++ [(q, .inr (1, [.int (σ.1 6 4), .int p1, .int p2, .int p3, .int p4, .int p5, .int 0, .int 0]))]) := hD
  have hlast : (wl (xIds n) ad (xEnt ad cs n) σ ++ [(q, .inr (1, [.int (σ.1 6 4), .int p1, .int p2, .int p3, .int p4, .int p5, .int 0, .int 0]))] : va_W)[(wl (xIds n) ad (xEnt ad cs n) σ).length]? = some (q, .inr (1, [.int (σ.1 6 4), .int p1, .int p2, .int p3, .int p4, .int p5, .int 0, .int 0])) := by simp
  have hold : ∀ o, o ∈ xIds n → ad o ≠ q := fun o ho z => by
    obtain ⟨k0, hk0⟩ := wl_at (ad := ad) (ent := xEnt ad cs n) σ ho
    have hlt := (List.getElem?_eq_some_iff.mp hk0).1
    have := hD.1 k0 _ (ad o, xEnt ad cs n o (σ.1 o) (σ.2 o)) _ (by rw [List.getElem?_append_left hlt]; exact hk0) hlast z
    omega
  have hq : s.heap.size ≤ q := by
    have h := hD.2 _ _ hlast
    rw [hAX] at h
    rcases h with ⟨o, ho, hz⟩ | h
    · exact absurd hz (hold o ho)
    · exact h
  have hA' : A = AX (xIds (n + 1)) (fun k => if k = 100 + n then q else ad k) s.heap.size := by
    rw [hAX]
    funext x
    apply propext
    constructor
    · intro h
      rcases h with ⟨o, ho, hz⟩ | h
      · refine Or.inl ⟨o, by rw [xIds_succ]; exact List.mem_append_left _ ho, ?_⟩
        show (if o = 100 + n then q else ad o) = x
        rw [if_neg (xIds_lt ho).2]
        exact hz
      · exact Or.inr h
    · intro h
      rcases h with ⟨o, ho, hz⟩ | h
      · have hz : (if o = 100 + n then q else ad o) = x := hz
        rw [xIds_succ] at ho
        rcases List.mem_append.mp ho with ho | ho
        · rw [if_neg (xIds_lt ho).2] at hz
          exact Or.inl ⟨o, ho, hz⟩
        · rw [if_pos (List.mem_singleton.mp ho)] at hz
          exact Or.inr (by rw [← hz]; exact hq)
      · exact Or.inr h
  have C3 : CX (p, l, e, R, s, m, args, below, meth, c, Q, A, D, wTys cs, xIds (n + 1), (fun k => if k = 100 + n then q else ad k), xEnt (fun k => if k = 100 + n then q else ad k) cs n) cc own nL rm := ⟨hx, hb, hml, hown, hts, hK, hN, hR, hA, hlk, hA'⟩
  have K := k (p, l, e, R, s, m, args, below, meth, c, Q, A, D, wTys cs, xIds (n + 1), (fun k => if k = 100 + n then q else ad k), xEnt (fun k => if k = 100 + n then q else ad k) cs n) ⟨rfl, rfl, rfl⟩ (fun o ho => if_neg (by omega)) C3 (fun kc ks ws pc lv st h => Eq.mpr gw_def (Eq.mp gw_def h)) (if_pos rfl)
  have K1 : ∀ (H : Heap) (locs : List Loc) (ls : Array Slot), va_P D vwCl (wl (xIds (n + 1)) (fun k => if k = 100 + n then q else ad k) (xEnt (fun k => if k = 100 + n then q else ad k) cs n) (newCh σ n p1 p2 p3 p4 p5)) H → va_D A (wl (xIds (n + 1)) (fun k => if k = 100 + n then q else ad k) (xEnt (fun k => if k = 100 + n then q else ad k) cs n) (newCh σ n p1 p2 p3 p4 p5)) → va_S A s.heap H locs → lv_has ls nL lv → W p l e R s m args below meth c H locs kc ks Q (F0 m pc ls st) := Eq.mp gw_def K
  rw [ch_world hc] at K1
  exact K1 H locs ls hP hD hS hl
abbrev rm_X11_channel : Room := { frames := 2, cells := 1, slots := 8, locals := 43 }
set_option maxRecDepth 100000 in
set_option maxHeartbeats 4000000 in
/-- the call of Channels.add: the row holds the new channel then -/
theorem ch_add {E : EnvT} {kc ks : Nat} {lv : List (Nat × Value)} {n : Nat} {cs : Nat → ClassId} {σ : Mem} (F : XG E n cs) (hn : n < 8) (hc : σ.1 6 4 = nI n) (C : CX E cX11_channel RX11 6 rm_X11_channel) (hkk : kc ≤ 1 ∧ ks ≤ 8) (k : GW E 6 kc ks (wl (eIds E) (eAd E) (xEnt (eAd E) cs (n + 1)) (wI σ 6 4 (nI (n + 1)))) 118 lv []) : GW E 6 kc ks (wl (eIds E) (eAd E) (eEnt E) σ) 115 lv [.ref (eAd E (100 + n)), .ref (eAd E 6)] := by
  have hct := c_X2_add F hn hc
  have ho := gin F (o := 6) (by decide)
  have he := ge_6 F (σ.1 6) (σ.2 6)
  obtain ⟨p, l, e, R, s, m, args, below, meth, c, Q, A, D, tys, ids, ad, ent⟩ := E
  obtain ⟨hx, hb, hml, hown, hts, hK, hN, hR, hA, hlk, hAX⟩ := C
  intro H locs ls hP hD hS hl
  subst hR
  have hct : ∀ sz : Nat, Met l yX2_add (.code yX2_add cX2_add 2 none :: lw_g) rm_X2_add (va_Pc [.ref (ad 6), .ref (ad (100 + n))] (PX D tys ids ad ent σ sz)) (RQv (wI σ 6 4 (nI (n + 1))) D tys ids ad (xEnt ad cs (n + 1)) sz) 0 0 (AX ids ad sz) := hct
  have hP : va_P D vwCl (wl ids ad ent σ) H := hP
  have hD : va_D A (wl ids ad ent σ) := hD
  have hF : ∀ q, AX ids ad H.size q → A q := wl_free hD (fun q hq => hA q (Nat.le_trans hS.1 hq))
  refine va_callv (va_runV (C := yX2_add.cls) (As := [.ref (ad (100 + n))]) (rest := []) ⟨hx, hb, hml, hown, hts⟩ (hct H.size) (cwV 1 hts (good_V hM_X11_205 hI_X2_add hS_X2_add hZ_X2 hC_X2_add) rfl rfl rfl ⟨rfl, dd_X2_add⟩ (by decide)) ⟨PX_blind, (by obtain ⟨q0, hq⟩ := wl_at (ad := ad) (ent := ent) σ ho; rw [show ent 6 (σ.1 6) (σ.2 6) = _ from he] at hq; exact va_recv (q := (RX2, TX2, 5)) hK hP rfl hq), fun U hU hW => ⟨rfl, by rw [hU], by rw [hU]; exact hP, va_K.moved hW.alike hK, NW.warm hW hN, wl_D hD (fun _ _ => trivial)⟩⟩ rfl rfl hl.1 rfl (lv_room (Nat.le_of_ble_eq_true rfl)) dX11_channel_115 hkk) hS (fun q _ hq => hF q hq) hF (fun u t H1 locs1 ht hvm hw hB hz1 hk1 hS1 => ?_)
  obtain ⟨hP1, hK1, hD1⟩ := hB
  rw [ht] at hP1
  have hw : u = wI σ 6 4 (nI (n + 1)) := hw
  subst hw
  exact k H1 locs1 ls hP1 (wl_D hD1 (fun o ho => by obtain ⟨k0, hk0⟩ := wl_at (ad := ad) (ent := ent) σ ho; exact hD.2 k0 _ hk0)) hS1 hl
set_option maxRecDepth 100000 in
set_option maxHeartbeats 4000000 in
/-- from pc 90: the object is made, put into its row, counted -/
theorem m_X11_channel90 {E : EnvT} {n : Nat} {cs : Nat → ClassId} (F : XF E n cs) (hO : EAO E) {σ : Mem} (hn : n < 8) (hc : σ.1 6 4 = nI n) {p1 p2 p3 p4 p5 : Int32} (C : CX E cX11_channel RX11 6 rm_X11_channel) (Q : QE E 1 8 (some .int) (RQch cs (n + 1) (nI n) (wI (newCh σ n p1 p2 p3 p4 p5) 6 4 (nI (n + 1))))) : JU E 6 0 0 σ 90 [(0, .ref (eAd E 0)), (1, .int p1), (2, .int p2), (3, .int p3), (4, .int p4), (5, .int p5)] [] := by
  refine j_aload_n C dX11_channel_90 0 rfl ?_
  refine j_get (ci := 11) C hU_X11 rfl (xin F (by decide)) (xe_0 F _ _) 2 (by decide) rfl hF_X11_34 dX11_channel_91 ?_
  refine ju_w ?_
  obtain ⟨k0, hk0⟩ := wl_at (ad := eAd E) (ent := eEnt E) σ (xin F (o := 0) (by decide))
  obtain ⟨k6, hk6⟩ := wl_at (ad := eAd E) (ent := eEnt E) σ (xin F (o := 6) (by decide))
  rw [xe_0 F] at hk0
  rw [xe_6 F] at hk6
  have a0 : ∀ w : va_W, (wl (eIds E) (eAd E) (eEnt E) σ ++ w)[k0]? = _ := fun w => (List.getElem?_append_left (List.getElem?_eq_some_iff.mp hk0).1).trans hk0
  have a6 : ∀ w : va_W, (wl (eIds E) (eAd E) (eEnt E) σ ++ w)[k6]? = _ := fun w => (List.getElem?_append_left (List.getElem?_eq_some_iff.mp hk6).1).trans hk6
  refine w_new (ci := 1) (fs := [.int 0, .int 0, .int 0, .int 0, .int 0, .int 0, .int 0, .int 0]) (kc' := 1) (ks' := 8) (ws' := fun q => wl (eIds E) (eAd E) (eEnt E) σ ++ [(q, .inr (1, [.int 0, .int 0, .int 0, .int 0, .int 0, .int 0, .int 0, .int 0]))]) C hU_X1 tyX1_ok hL_X11_200 hB_X1 hZ_X1 rfl df_X1 rfl rfl (Nat.le_of_ble_eq_true rfl) (Nat.le_of_ble_eq_true rfl) dX11_channel_94 (fun _ => rfl) (fun q => ?_)
  refine w_dup C dX11_channel_97 rfl ?_
  refine w_aload_n C dX11_channel_98 0 rfl ?_
  refine w_get (ci := 11) C hU_X11 rfl k0 (a0 _) 2 (by decide) rfl hF_X11_34 dX11_channel_99 ?_
  refine w_get (ci := 2) C hU_X2 rfl k6 (a6 _) 4 (by decide) rfl hF_X11_185 dX11_channel_102 ?_
  refine w_iload_n C dX11_channel_105 1 rfl ?_
  refine w_iload_n C dX11_channel_106 2 rfl ?_
  refine w_iload_n C dX11_channel_107 3 rfl ?_
  refine w_iload C dX11_channel_108 4 rfl ?_
  refine w_iload C dX11_channel_110 5 rfl ?_
  refine w_callI (h := q) (ci := 1) (mc := 0) (ms := 0) (kc' := 1) (ks' := 8) (w0 := wl (eIds E) (eAd E) (eEnt E) σ) (ws' := fun _ => wl (eIds E) (eAd E) (eEnt E) σ ++ [(q, .inr (1, [.int (σ.1 6 4), .int p1, .int p2, .int p3, .int p4, .int p5, .int 0, .int 0]))]) (st := [.ref q, .ref (eAd E 6)]) C hO [.int (σ.1 6 4), .int p1, .int p2, .int p3, .int p4, .int p5] (by rw [F.2.2]; exact i_X1 _ _ cs q _ _ _ _ _ _) hM_X11_202 hI_X1_init hZ_X1 hC_X1_init rfl ddi_X1 (by decide) ⟨rfl, rfl⟩ rfl rfl (Nat.le_of_ble_eq_true rfl) (Nat.le_of_ble_eq_true rfl) (Nat.le_of_ble_eq_true rfl) dX11_channel_112 rfl rfl (fun _ => rfl) (fun _ => ?_)
  refine ch_shift F C hc (fun E3 F3 hold C3 back hnew => ?_)
  have e6 : eAd E 6 = eAd E3 6 := (hold 6 (by omega)).symm
  have e0 : eAd E 0 = eAd E3 0 := (hold 0 (by omega)).symm
  rw [← hnew, e6, e0]
  have hc3 : (newCh σ n p1 p2 p3 p4 p5).1 6 4 = nI n := by rw [newCh_ne (by omega)]; exact hc
  refine ch_add F3 hn hc3 C3 (by decide) ?_
  generalize hσ4 : wI (newCh σ n p1 p2 p3 p4 p5) 6 4 (nI (n + 1)) = σ4 at Q ⊢
  have hc4 : σ4.1 6 4 = nI (n + 1) := by rw [← hσ4, wI_o]; rfl
  obtain ⟨j0, hj0⟩ := wl_at (ad := eAd E3) (ent := xEnt (eAd E3) cs (n + 1)) σ4 (gin F3 (o := 0) (by decide))
  obtain ⟨j6, hj6⟩ := wl_at (ad := eAd E3) (ent := xEnt (eAd E3) cs (n + 1)) σ4 (gin F3 (o := 6) (by decide))
  rw [show xEnt (eAd E3) cs (n + 1) 0 (σ4.1 0) (σ4.2 0) = .inr (11, [.ref (eAd E3 1), .ref (eAd E3 4), .ref (eAd E3 6), .ref (eAd E3 18), .ref (eAd E3 20), .ref (eAd E3 22), .ref (eAd E3 26), .ref (eAd E3 27), .ref (eAd E3 28), .int (σ4.1 0 9)]) from rfl] at hj0
  rw [show xEnt (eAd E3) cs (n + 1) 6 (σ4.1 6) (σ4.2 6) = .inr (2, [.ref (eAd E3 1), .ref (eAd E3 7), .ref (eAd E3 8), .ref (eAd E3 13), .int (σ4.1 6 4)]) from rfl] at hj6
  refine w_aload_n C3 dX11_channel_118 0 rfl ?_
  refine w_get (ci := 11) C3 hU_X11 rfl j0 hj0 2 (by decide) rfl hF_X11_34 dX11_channel_119 ?_
  refine w_get (ci := 2) C3 hU_X2 rfl j6 hj6 4 (by decide) rfl hF_X11_185 dX11_channel_122 ?_
  refine w_iconst C3 (1 : Int32) dX11_channel_125 (by decide) ?_
  refine w_isub (v := nI n) C3 dX11_channel_126 (by rw [hc4]; exact nI_pred n) ?_
  exact back _ _ _ _ _ _ (ch_ret C (eAd E3) Q (fun o ho => hold o (xIds_lt (by rw [F.1] at ho; exact ho)).1) rfl (by rw [F3.1]) (Nat.le_refl _) (Nat.le_refl _) dX11_channel_127)
set_option maxRecDepth 100000 in
set_option maxHeartbeats 4000000 in
theorem m_X11_channel {E : EnvT} {n : Nat} {cs : Nat → ClassId} (F : XF E n cs) (hO : EAO E) {σ : Mem} (hn : n ≤ 8) (hc : σ.1 6 4 = nI n) {p1 p2 p3 p4 p5 : Int32} (C : CX E cX11_channel RX11 6 rm_X11_channel) {r : Int32} {σ' : Mem} {n' : Nat} (hX : chanX n σ p1 p2 p3 p4 p5 = (r, σ', n')) (Q : QE E 1 8 (some .int) (RQch cs n' r σ')) : G E 6 0 0 σ 0 [(0, .ref (eAd E 0)), (1, .int p1), (2, .int p2), (3, .int p3), (4, .int p4), (5, .int p5)] [] := by
  have w1 : X11_within p1 0 4 = some (bz (0 ≤ p1.toInt ∧ p1.toInt ≤ 4)) := by rw [xw]; rfl
  have w2 : X11_within p2 1 20 = some (bz (1 ≤ p2.toInt ∧ p2.toInt ≤ 20)) := by rw [xw]; rfl
  have w3 : X11_within p3 0 20 = some (bz (0 ≤ p3.toInt ∧ p3.toInt ≤ 20)) := by rw [xw]; rfl
  have w4 : X11_within p4 (-10000) 10000 = some (bz (-10000 ≤ p4.toInt ∧ p4.toInt ≤ 10000)) := by rw [xw]; rfl
  have w5 : X11_within p5 p4 10000 = some (bz (p4.toInt ≤ p5.toInt ∧ p5.toInt ≤ 10000)) := by rw [xw]; rfl
  unfold chanX at hX
  have K : JU E 6 0 0 σ 0 [(0, .ref (eAd E 0)), (1, .int p1), (2, .int p2), (3, .int p3), (4, .int p4), (5, .int p5)] [] := by
    refine j_aload_n C dX11_channel_0 0 rfl ?_
    refine j_get (ci := 11) C hU_X11 rfl (xin F (by decide)) (xe_0 F _ _) 4 (by decide) rfl hF_X11_50 dX11_channel_1 ?_
    refine j_callVi (ci := 8) C [] (c_X8_isOff F (ev_isOff n σ)) hM_X11_90 hI_X8_isOff hS_X8_isOff hZ_X8 hC_X8_isOff (xin F (by decide)) (xe_20 F _ _) rfl rfl dd_X8_isOff (by decide) ⟨rfl, rfl⟩ (by decide) (Nat.le_of_ble_eq_true rfl) dX11_channel_4 rfl ?_
    refine u_if_ne C 13 dX11_channel_7 (by decide) (fun h0 => ?_) (fun h0 => ?_)
    · rw [bz_eq0] at h0
      rw [if_neg h0] at hX
      have h42 : ¬ ((0 ≤ p1.toInt ∧ p1.toInt ≤ 4) ∧ (1 ≤ p2.toInt ∧ p2.toInt ≤ 20) ∧ (0 ≤ p3.toInt ∧ p3.toInt ≤ 20)) → JU E 6 0 0 σ 42 [(0, .ref (eAd E 0)), (1, .int p1), (2, .int p2), (3, .int p3), (4, .int p4), (5, .int p5)] [] := fun h => by
        rw [if_pos h] at hX
        cases hX
        refine j_bipush C (-2 : Int32) dX11_channel_42 (by decide) ?_
        exact ju_w (ch_ret C (eAd E) Q (fun _ _ => rfl) rfl (by rw [F.1, F.2.1]) (by decide) (by decide) dX11_channel_44)
      refine j_iload_n C dX11_channel_13 1 rfl ?_
      refine j_iconst C (0 : Int32) dX11_channel_14 (by decide) ?_
      refine j_iconst C (4 : Int32) dX11_channel_15 (by decide) ?_
      refine j_callSi C [.int p1, .int (0 : Int32), .int (4 : Int32)] (c_X11_within F w1) hM_X11_86 hT_X11_within hZ_X11 hC_X11_within dd_X11_within (by decide) ⟨rfl, rfl⟩ (by decide) (Nat.le_of_ble_eq_true rfl) dX11_channel_16 rfl ?_
      refine u_if_eq C 42 dX11_channel_19 (by decide) (fun h1 => ?_) (fun h1 => ?_)
      · rw [bz_eq0] at h1
        exact h42 (fun z => h1 z.1)
      rw [bz_eq0, Decidable.not_not] at h1
      refine j_iload_n C dX11_channel_22 2 rfl ?_
      refine j_iconst C (1 : Int32) dX11_channel_23 (by decide) ?_
      refine j_bipush C (20 : Int32) dX11_channel_24 (by decide) ?_
      refine j_callSi C [.int p2, .int (1 : Int32), .int (20 : Int32)] (c_X11_within F w2) hM_X11_86 hT_X11_within hZ_X11 hC_X11_within dd_X11_within (by decide) ⟨rfl, rfl⟩ (by decide) (Nat.le_of_ble_eq_true rfl) dX11_channel_26 rfl ?_
      refine u_if_eq C 42 dX11_channel_29 (by decide) (fun h2 => ?_) (fun h2 => ?_)
      · rw [bz_eq0] at h2
        exact h42 (fun z => h2 z.2.1)
      rw [bz_eq0, Decidable.not_not] at h2
      refine j_iload_n C dX11_channel_32 3 rfl ?_
      refine j_iconst C (0 : Int32) dX11_channel_33 (by decide) ?_
      refine j_bipush C (20 : Int32) dX11_channel_34 (by decide) ?_
      refine j_callSi C [.int p3, .int (0 : Int32), .int (20 : Int32)] (c_X11_within F w3) hM_X11_86 hT_X11_within hZ_X11 hC_X11_within dd_X11_within (by decide) ⟨rfl, rfl⟩ (by decide) (Nat.le_of_ble_eq_true rfl) dX11_channel_36 rfl ?_
      refine u_if_ne C 45 dX11_channel_39 (by decide) (fun h3 => ?_) (fun h3 => ?_)
      rotate_left
      · rw [bz_eq0] at h3
        exact h42 (fun z => h3 z.2.2)
      rw [bz_eq0, Decidable.not_not] at h3
      rw [if_neg (fun z => z ⟨h1, h2, h3⟩)] at hX
      have h72 : ¬ ((-10000 ≤ p4.toInt ∧ p4.toInt ≤ 10000) ∧ (p4.toInt ≤ p5.toInt ∧ p5.toInt ≤ 10000)) → JU E 6 0 0 σ 72 [(0, .ref (eAd E 0)), (1, .int p1), (2, .int p2), (3, .int p3), (4, .int p4), (5, .int p5)] [] := fun h => by
        rw [if_pos h] at hX
        cases hX
        refine j_bipush C (-2 : Int32) dX11_channel_72 (by decide) ?_
        exact ju_w (ch_ret C (eAd E) Q (fun _ _ => rfl) rfl (by rw [F.1, F.2.1]) (by decide) (by decide) dX11_channel_74)
      refine j_iload C dX11_channel_45 4 rfl ?_
      refine j_sipush C (-10000 : Int32) dX11_channel_47 (by decide) ?_
      refine j_sipush C (10000 : Int32) dX11_channel_50 (by decide) ?_
      refine j_callSi C [.int p4, .int (-10000 : Int32), .int (10000 : Int32)] (c_X11_within F w4) hM_X11_86 hT_X11_within hZ_X11 hC_X11_within dd_X11_within (by decide) ⟨rfl, rfl⟩ (by decide) (Nat.le_of_ble_eq_true rfl) dX11_channel_53 rfl ?_
      refine u_if_eq C 72 dX11_channel_56 (by decide) (fun h4 => ?_) (fun h4 => ?_)
      · rw [bz_eq0] at h4
        exact h72 (fun z => h4 z.1)
      rw [bz_eq0, Decidable.not_not] at h4
      refine j_iload C dX11_channel_59 5 rfl ?_
      refine j_iload C dX11_channel_61 4 rfl ?_
      refine j_sipush C (10000 : Int32) dX11_channel_63 (by decide) ?_
      refine j_callSi C [.int p5, .int p4, .int (10000 : Int32)] (c_X11_within F w5) hM_X11_86 hT_X11_within hZ_X11 hC_X11_within dd_X11_within (by decide) ⟨rfl, rfl⟩ (by decide) (Nat.le_of_ble_eq_true rfl) dX11_channel_66 rfl ?_
      refine u_if_ne C 75 dX11_channel_69 (by decide) (fun h5 => ?_) (fun h5 => ?_)
      rotate_left
      · rw [bz_eq0] at h5
        exact h72 (fun z => h5 z.2)
      rw [bz_eq0, Decidable.not_not] at h5
      rw [if_neg (fun z => z ⟨h4, h5⟩)] at hX
      refine j_aload_n C dX11_channel_75 0 rfl ?_
      refine j_get (ci := 11) C hU_X11 rfl (xin F (by decide)) (xe_0 F _ _) 2 (by decide) rfl hF_X11_34 dX11_channel_76 ?_
      refine j_get (ci := 2) C hU_X2 rfl (xin F (by decide)) (xe_6 F _ _) 4 (by decide) rfl hF_X11_185 dX11_channel_79 ?_
      refine j_bipush C (8 : Int32) dX11_channel_82 (by decide) ?_
      refine u_icmp_lt C 90 dX11_channel_84 (by decide) (fun h6 => ?_) (fun h6 => ?_)
      · rw [hc, show (8 : Int32) = nI 8 from rfl, nI_ltI (by omega) (by omega)] at h6
        rw [if_neg (by omega)] at hX
        cases hX
        exact m_X11_channel90 F hO h6 hc C Q
      · rw [hc, show (8 : Int32) = nI 8 from rfl, nI_ltI (by omega) (by omega)] at h6
        rw [if_pos (by omega)] at hX
        cases hX
        refine j_bipush C (-4 : Int32) dX11_channel_87 (by decide) ?_
        exact ju_w (ch_ret C (eAd E) Q (fun _ _ => rfl) rfl (by rw [F.1, F.2.1]) (by decide) (by decide) dX11_channel_89)
    · rw [bz_eq0] at h0
      rw [if_pos h0] at hX
      cases hX
      refine j_bipush C (-3 : Int32) dX11_channel_10 (by decide) ?_
      exact ju_w (ch_ret C (eAd E) Q (fun _ _ => rfl) rfl (by rw [F.1, F.2.1]) (by decide) (by decide) dX11_channel_12)
  exact K rfl
theorem dd_X11_channel : yX11_channel.cls ≠ "java/lang/invoke/MethodHandle" ∧ yX11_channel.cls ≠ "java/lang/invoke/VarHandle" ∧ (parseMethodDescriptor yX11_channel.desc).map (fun d => d.parameters.length) = some 5 := by decide +kernel
set_option maxHeartbeats 4000000 in
/-- channel's contract -/
theorem c_X11_channel {l : Launch} {D : va_G} {ad : Nat → Nat} {cs : Nat → ClassId} {n : Nat} {σ : Mem} (hn : n ≤ 8) (hc : σ.1 6 4 = nI n) (p1 p2 p3 p4 p5 : Int32) (sz : Nat) : Met l yX11_channel (.code yX11_channel cX11_channel 6 (some .int) :: lw_g) rm_X11_channel (va_Pc [.ref (ad 0), .int p1, .int p2, .int p3, .int p4, .int p5] (fun U => PX D (wTys cs) (xIds n) ad (xEnt ad cs n) σ sz U ∧ AOs U)) (RQch cs (chanX n σ p1 p2 p3 p4 p5).2.2 (chanX n σ p1 p2 p3 p4 p5).1 (chanX n σ p1 p2 p3 p4 p5).2.1 D (wTys cs) (xIds n) ad (xEnt ad cs n) sz) 1 8 (AX (xIds n) ad sz) := by
  refine Met.ofW (cc := cX11_channel) (maxL := 6) (ret := some .int) (by decide) rfl ?_
  intro p e s m args below meth c s₁ B hml hv
  obtain ⟨rfl, ⟨hsz, hP, hK, hN, hD0⟩, hAO⟩ := hv
  have hts := atoms_spec (ws := .code yX11_channel cX11_channel 6 (some .int) :: lw_g) B.pre
  subst hsz
  have hD : va_D (AX (xIds n) ad s.heap.size) (wl (xIds n) ad (xEnt ad cs n) σ) := wl_D hD0 (fun o ho => Or.inl ⟨o, ho, rfl⟩)
  have hl := lv_entry [.ref (ad 0), .int p1, .int p2, .int p3, .int p4, .int p5] (n := 6) (Nat.le_of_ble_eq_true rfl)
  rw [lg_entry_eq]
  have K := m_X11_channel (E := (p, l, e, rm_X11_channel, s, m, [.ref (ad 0), .int p1, .int p2, .int p3, .int p4, .int p5].toArray, below, meth, c, MQ below (RQch cs (chanX n σ p1 p2 p3 p4 p5).2.2 (chanX n σ p1 p2 p3 p4 p5).1 (chanX n σ p1 p2 p3 p4 p5).2.1 D (wTys cs) (xIds n) ad (xEnt ad cs n) s.heap.size) [.ref (ad 0), .int p1, .int p2, .int p3, .int p4, .int p5].toArray s 1 8 (AX (xIds n) ad s.heap.size), AX (xIds n) ad s.heap.size, D, wTys cs, xIds n, ad, xEnt ad cs n)) (n := n) (cs := cs) ⟨rfl, rfl, rfl⟩ hAO (σ := σ) hn hc (p1 := p1) (p2 := p2) (p3 := p3) (p4 := p4) (p5 := p5)
    ⟨B.exec, B.bytes, hml, findClass_of_methodNamed B.named, fun w h => hts w (List.mem_cons_of_mem _ h), hK, hN, rfl, fun q h => Or.inr h, B.notSynchronized, rfl⟩ (r := (chanX n σ p1 p2 p3 p4 p5).1) (σ' := (chanX n σ p1 p2 p3 p4 p5).2.1) (n' := (chanX n σ p1 p2 p3 p4 p5).2.2) rfl ⟨B.returns, rfl⟩
  exact K s.heap [] _ hP hD va_S.rf hl
