/-! THE TWO WORLDS: the ids of their cells, what each holds -/
def xRows (n : Nat) (j : Nat) : Option Nat := if j < n then some (100 + j) else none
def xSheets (j : Nat) : Option Nat := if j < 4 then some (29 + 2 * j) else none
def isCh (n o : Nat) : Bool := decide (100 ≤ o) && decide (o < 100 + n)
def isSh (o : Nat) : Bool := decide (o = 29) || (decide (o = 31) || (decide (o = 33) || decide (o = 35)))
def isTl (o : Nat) : Bool := decide (o = 8) || decide (o = 13)
def FU : Nat := 4000
def mxI (x y : Int32) : Int32 := if x < y then y else x
def mnI (x y : Int32) : Int32 := if y < x then y else x
def mxL (x y : Int64) : Int64 := if y < x then x else y
def mnL (x y : Int64) : Int64 := if y < x then y else x
def abL (x : Int64) : Int64 := if 0 < x then x else -x
def wTys (cs : Nat → ClassId) : List (ClassId × FieldType) := [(cs 0, .int), (cs 1, .long), (cs 2, .boolean), (cs 3, .object "EngineCell$Channel"), (cs 4, .object "EngineCell$Sheet")]
def xTab (ad : Nat → Nat) (cs : Nat → ClassId) (n : Nat) (f : Nat → Int32) (g : Nat → Int64) : List va_E := [.inr (11, [.ref (ad 1), .ref (ad 4), .ref (ad 6), .ref (ad 18), .ref (ad 20), .ref (ad 22), .ref (ad 26), .ref (ad 27), .ref (ad 28), .int (f 9)]), .inr (3, [.ref (ad 2), .ref (ad 3), .int (f 2), .int (f 3)]), .inl (cs 0, 25, .inl f), .inl (cs 0, 21007, .inl f), .inr (6, [.ref (ad 5), .int (f 1)]), .inl (cs 0, 120, .inl f), .inr (2, [.ref (ad 1), .ref (ad 7), .ref (ad 8), .ref (ad 13), .int (f 4)]), .inl (cs 3, 8, .inr (.inr (.inr (.inr fun j => (xRows n j).map ad)))), .inr (10, [.ref (ad 9), .ref (ad 10), .ref (ad 11), .ref (ad 12), .int (f 4)]), .inl (cs 0, 20, .inl f), .inl (cs 0, 20, .inl f), .inl (cs 0, 20, .inl f), .inl (cs 0, 20, .inl f), .inr (10, [.ref (ad 14), .ref (ad 15), .ref (ad 16), .ref (ad 17), .int (f 4)]), .inl (cs 0, 20, .inl f), .inl (cs 0, 20, .inl f), .inl (cs 0, 20, .inl f), .inl (cs 0, 20, .inl f), .inr (5, [.ref (ad 19), .int (f 1)]), .inl (cs 0, 20, .inl f), .inr (8, [.ref (ad 1), .ref (ad 4), .ref (ad 6), .ref (ad 18), .ref (ad 21), .int (f 5), .int (f 6), .int (f 7), .int (f 8), .int (f 9), .int (f 10), .int (f 11), .int (f 12), .int (f 13)]), .inl (cs 0, 30, .inl f), .inr (7, [.ref (ad 1), .ref (ad 6), .ref (ad 18), .ref (ad 23), .ref (ad 24), .ref (ad 25), .int (f 6)]), .inl (cs 1, 8, .inr (.inl g)), .inl (cs 1, 160, .inr (.inl g)), .inl (cs 0, 160, .inl f), .inr (4, [.ref (ad 1), .ref (ad 6), .long (g 2), .long (g 3), .long (g 4), .long (g 5), .long (g 6), .long (g 7), .long (g 8)]), .inr (0, [.int (f 0)]), .inl (cs 4, 4, .inr (.inr (.inr (.inr fun j => (xSheets j).map ad)))), .inr (9, [.ref (ad 30), .int (f 1), .int (f 2), .int (f 3)]), .inl (cs 0, 40, .inl f), .inr (9, [.ref (ad 32), .int (f 1), .int (f 2), .int (f 3)]), .inl (cs 0, 40, .inl f), .inr (9, [.ref (ad 34), .int (f 1), .int (f 2), .int (f 3)]), .inl (cs 0, 40, .inl f), .inr (9, [.ref (ad 36), .int (f 1), .int (f 2), .int (f 3)]), .inl (cs 0, 40, .inl f)]
def xEnt (ad : Nat → Nat) (cs : Nat → ClassId) (n : Nat) : EntT := fun o f g => (xTab ad cs n f g).getD o (.inr (1, [.int (f 0), .int (f 1), .int (f 2), .int (f 3), .int (f 4), .int (f 5), .int (f 6), .int (f 7)]))
def xIds (n : Nat) : List Nat := List.range 37 ++ (List.range n).map (fun k => 100 + k)
def mTab (ad : Nat → Nat) (cs : Nat → ClassId) (f : Nat → Int32) (g : Nat → Int64) : List va_E := [.inr (12, [.int (f 0), .int (f 1), .ref (ad 1), .int (f 3), .int (f 4), .int (f 5), .int (f 6), .int (f 7), .int (f 8), .int (f 9), .int (f 10), .int (f 11), .ref (ad 2), .int (f 13), .ref (ad 3), .ref (ad 4), .ref (ad 5), .ref (ad 6), .ref (ad 7), .ref (ad 8), .ref (ad 9), .ref (ad 10), .int (f 22), .ref (ad 11), .int (f 24), .int (f 25), .int (f 26), .ref (ad 12), .ref (ad 13), .ref (ad 14), .ref (ad 15), .ref (ad 16), .ref (ad 17), .ref (ad 18), .int (f 34), .ref (ad 19), .ref (ad 20), .ref (ad 21), .int (f 38), .ref (ad 22), .ref (ad 23), .ref (ad 24), .ref (ad 25), .ref (ad 26), .int (f 44), .ref (ad 27), .ref (ad 28), .long (g 47), .long (g 48), .long (g 49), .long (g 50), .long (g 51)]), .inl (cs 0, 25, .inl f), .inl (cs 0, 21007, .inl f), .inl (cs 0, 30, .inl f), .inl (cs 0, 30, .inl f), .inl (cs 0, 30, .inl f), .inl (cs 0, 30, .inl f), .inl (cs 0, 30, .inl f), .inl (cs 0, 4, .inl f), .inl (cs 0, 4, .inl f), .inl (cs 0, 160, .inl f), .inl (cs 0, 20, .inl f), .inl (cs 0, 8, .inl f), .inl (cs 0, 8, .inl f), .inl (cs 0, 8, .inl f), .inl (cs 0, 8, .inl f), .inl (cs 0, 8, .inl f), .inl (cs 2, 8, .inl f), .inl (cs 0, 8, .inl f), .inl (cs 0, 20, .inl f), .inl (cs 0, 20, .inl f), .inl (cs 0, 20, .inl f), .inl (cs 0, 20, .inl f), .inl (cs 0, 20, .inl f), .inl (cs 0, 20, .inl f), .inl (cs 0, 20, .inl f), .inl (cs 1, 8, .inr (.inl g)), .inl (cs 0, 160, .inl f), .inl (cs 1, 160, .inr (.inl g))]
def mEnt (ad : Nat → Nat) (cs : Nat → ClassId) : EntT := fun o f g => (mTab ad cs f g).getD o (.inr (0, []))
def mIds : List Nat := List.range 29
def XF (E : EnvT) (n : Nat) (cs : Nat → ClassId) : Prop := eIds E = xIds n ∧ eEnt E = xEnt (eAd E) cs n ∧ eTys E = wTys cs
def MF (E : EnvT) (cs : Nat → ClassId) : Prop := eIds E = mIds ∧ eEnt E = mEnt (eAd E) cs ∧ eTys E = wTys cs
section FAM
variable {E : EnvT} {n : Nat} {cs : Nat → ClassId} {o : Nat}
theorem xin (F : XF E n cs) (h : o < 37) : o ∈ eIds E := by rw [F.1]; exact List.mem_append_left _ (List.mem_range.mpr h)
theorem min_ (F : MF E cs) (h : o < 29) : o ∈ eIds E := by rw [F.1]; exact List.mem_range.mpr h
theorem isSh_cases (h : isSh o = true) : o = 29 ∨ o = 31 ∨ o = 33 ∨ o = 35 := by simpa [isSh] using h
theorem isTl_cases (h : isTl o = true) : o = 8 ∨ o = 13 := by simpa [isTl] using h
theorem isCh_cases (h : isCh n o = true) : 100 ≤ o ∧ o < 100 + n := by simpa [isCh] using h
theorem xin_Sh (F : XF E n cs) (h : isSh o = true) : o ∈ eIds E := xin F (by rcases isSh_cases h with rfl | rfl | rfl | rfl <;> decide)
theorem xin_Sh1 (F : XF E n cs) (h : isSh o = true) : o + 1 ∈ eIds E := xin F (by rcases isSh_cases h with rfl | rfl | rfl | rfl <;> decide)
theorem xin_Tl (F : XF E n cs) (h : isTl o = true) : o ∈ eIds E := xin F (by rcases isTl_cases h with rfl | rfl <;> decide)
theorem xin_Tl1 (F : XF E n cs) (h : isTl o = true) : o + 1 ∈ eIds E := xin F (by rcases isTl_cases h with rfl | rfl <;> decide)
theorem xin_Tl2 (F : XF E n cs) (h : isTl o = true) : o + 2 ∈ eIds E := xin F (by rcases isTl_cases h with rfl | rfl <;> decide)
theorem xin_Tl3 (F : XF E n cs) (h : isTl o = true) : o + 3 ∈ eIds E := xin F (by rcases isTl_cases h with rfl | rfl <;> decide)
theorem xin_Tl4 (F : XF E n cs) (h : isTl o = true) : o + 4 ∈ eIds E := xin F (by rcases isTl_cases h with rfl | rfl <;> decide)
theorem xin_Ch (F : XF E n cs) (h : isCh n o = true) : o ∈ eIds E := by
  obtain ⟨h1, h2⟩ := isCh_cases h
  rw [F.1]
  exact List.mem_append_right _ (List.mem_map.mpr ⟨o - 100, List.mem_range.mpr (by omega), by omega⟩)
theorem xe_0 (F : XF E n cs) (f : Nat → Int32) (g : Nat → Int64) : eEnt E 0 f g = .inr (11, [.ref (eAd E 1), .ref (eAd E 4), .ref (eAd E 6), .ref (eAd E 18), .ref (eAd E 20), .ref (eAd E 22), .ref (eAd E 26), .ref (eAd E 27), .ref (eAd E 28), .int (f 9)]) := by rw [F.2.1]; rfl
theorem xe_1 (F : XF E n cs) (f : Nat → Int32) (g : Nat → Int64) : eEnt E 1 f g = .inr (3, [.ref (eAd E 2), .ref (eAd E 3), .int (f 2), .int (f 3)]) := by rw [F.2.1]; rfl
theorem xe_2 (F : XF E n cs) (f : Nat → Int32) (g : Nat → Int64) : eEnt E 2 f g = .inl (cs 0, 25, .inl f) := by rw [F.2.1]; rfl
theorem xe_3 (F : XF E n cs) (f : Nat → Int32) (g : Nat → Int64) : eEnt E 3 f g = .inl (cs 0, 21007, .inl f) := by rw [F.2.1]; rfl
theorem xe_4 (F : XF E n cs) (f : Nat → Int32) (g : Nat → Int64) : eEnt E 4 f g = .inr (6, [.ref (eAd E 5), .int (f 1)]) := by rw [F.2.1]; rfl
theorem xe_5 (F : XF E n cs) (f : Nat → Int32) (g : Nat → Int64) : eEnt E 5 f g = .inl (cs 0, 120, .inl f) := by rw [F.2.1]; rfl
theorem xe_6 (F : XF E n cs) (f : Nat → Int32) (g : Nat → Int64) : eEnt E 6 f g = .inr (2, [.ref (eAd E 1), .ref (eAd E 7), .ref (eAd E 8), .ref (eAd E 13), .int (f 4)]) := by rw [F.2.1]; rfl
theorem xe_7 (F : XF E n cs) (f : Nat → Int32) (g : Nat → Int64) : eEnt E 7 f g = .inl (cs 3, 8, .inr (.inr (.inr (.inr fun j => (xRows n j).map (eAd E))))) := by rw [F.2.1]; rfl
theorem xe_8 (F : XF E n cs) (f : Nat → Int32) (g : Nat → Int64) : eEnt E 8 f g = .inr (10, [.ref (eAd E 9), .ref (eAd E 10), .ref (eAd E 11), .ref (eAd E 12), .int (f 4)]) := by rw [F.2.1]; rfl
theorem xe_9 (F : XF E n cs) (f : Nat → Int32) (g : Nat → Int64) : eEnt E 9 f g = .inl (cs 0, 20, .inl f) := by rw [F.2.1]; rfl
theorem xe_10 (F : XF E n cs) (f : Nat → Int32) (g : Nat → Int64) : eEnt E 10 f g = .inl (cs 0, 20, .inl f) := by rw [F.2.1]; rfl
theorem xe_11 (F : XF E n cs) (f : Nat → Int32) (g : Nat → Int64) : eEnt E 11 f g = .inl (cs 0, 20, .inl f) := by rw [F.2.1]; rfl
theorem xe_12 (F : XF E n cs) (f : Nat → Int32) (g : Nat → Int64) : eEnt E 12 f g = .inl (cs 0, 20, .inl f) := by rw [F.2.1]; rfl
theorem xe_13 (F : XF E n cs) (f : Nat → Int32) (g : Nat → Int64) : eEnt E 13 f g = .inr (10, [.ref (eAd E 14), .ref (eAd E 15), .ref (eAd E 16), .ref (eAd E 17), .int (f 4)]) := by rw [F.2.1]; rfl
theorem xe_14 (F : XF E n cs) (f : Nat → Int32) (g : Nat → Int64) : eEnt E 14 f g = .inl (cs 0, 20, .inl f) := by rw [F.2.1]; rfl
theorem xe_15 (F : XF E n cs) (f : Nat → Int32) (g : Nat → Int64) : eEnt E 15 f g = .inl (cs 0, 20, .inl f) := by rw [F.2.1]; rfl
theorem xe_16 (F : XF E n cs) (f : Nat → Int32) (g : Nat → Int64) : eEnt E 16 f g = .inl (cs 0, 20, .inl f) := by rw [F.2.1]; rfl
theorem xe_17 (F : XF E n cs) (f : Nat → Int32) (g : Nat → Int64) : eEnt E 17 f g = .inl (cs 0, 20, .inl f) := by rw [F.2.1]; rfl
theorem xe_18 (F : XF E n cs) (f : Nat → Int32) (g : Nat → Int64) : eEnt E 18 f g = .inr (5, [.ref (eAd E 19), .int (f 1)]) := by rw [F.2.1]; rfl
theorem xe_19 (F : XF E n cs) (f : Nat → Int32) (g : Nat → Int64) : eEnt E 19 f g = .inl (cs 0, 20, .inl f) := by rw [F.2.1]; rfl
theorem xe_20 (F : XF E n cs) (f : Nat → Int32) (g : Nat → Int64) : eEnt E 20 f g = .inr (8, [.ref (eAd E 1), .ref (eAd E 4), .ref (eAd E 6), .ref (eAd E 18), .ref (eAd E 21), .int (f 5), .int (f 6), .int (f 7), .int (f 8), .int (f 9), .int (f 10), .int (f 11), .int (f 12), .int (f 13)]) := by rw [F.2.1]; rfl
theorem xe_21 (F : XF E n cs) (f : Nat → Int32) (g : Nat → Int64) : eEnt E 21 f g = .inl (cs 0, 30, .inl f) := by rw [F.2.1]; rfl
theorem xe_22 (F : XF E n cs) (f : Nat → Int32) (g : Nat → Int64) : eEnt E 22 f g = .inr (7, [.ref (eAd E 1), .ref (eAd E 6), .ref (eAd E 18), .ref (eAd E 23), .ref (eAd E 24), .ref (eAd E 25), .int (f 6)]) := by rw [F.2.1]; rfl
theorem xe_23 (F : XF E n cs) (f : Nat → Int32) (g : Nat → Int64) : eEnt E 23 f g = .inl (cs 1, 8, .inr (.inl g)) := by rw [F.2.1]; rfl
theorem xe_24 (F : XF E n cs) (f : Nat → Int32) (g : Nat → Int64) : eEnt E 24 f g = .inl (cs 1, 160, .inr (.inl g)) := by rw [F.2.1]; rfl
theorem xe_25 (F : XF E n cs) (f : Nat → Int32) (g : Nat → Int64) : eEnt E 25 f g = .inl (cs 0, 160, .inl f) := by rw [F.2.1]; rfl
theorem xe_26 (F : XF E n cs) (f : Nat → Int32) (g : Nat → Int64) : eEnt E 26 f g = .inr (4, [.ref (eAd E 1), .ref (eAd E 6), .long (g 2), .long (g 3), .long (g 4), .long (g 5), .long (g 6), .long (g 7), .long (g 8)]) := by rw [F.2.1]; rfl
theorem xe_27 (F : XF E n cs) (f : Nat → Int32) (g : Nat → Int64) : eEnt E 27 f g = .inr (0, [.int (f 0)]) := by rw [F.2.1]; rfl
theorem xe_28 (F : XF E n cs) (f : Nat → Int32) (g : Nat → Int64) : eEnt E 28 f g = .inl (cs 4, 4, .inr (.inr (.inr (.inr fun j => (xSheets j).map (eAd E))))) := by rw [F.2.1]; rfl
theorem xe_29 (F : XF E n cs) (f : Nat → Int32) (g : Nat → Int64) : eEnt E 29 f g = .inr (9, [.ref (eAd E 30), .int (f 1), .int (f 2), .int (f 3)]) := by rw [F.2.1]; rfl
theorem xe_30 (F : XF E n cs) (f : Nat → Int32) (g : Nat → Int64) : eEnt E 30 f g = .inl (cs 0, 40, .inl f) := by rw [F.2.1]; rfl
theorem xe_31 (F : XF E n cs) (f : Nat → Int32) (g : Nat → Int64) : eEnt E 31 f g = .inr (9, [.ref (eAd E 32), .int (f 1), .int (f 2), .int (f 3)]) := by rw [F.2.1]; rfl
theorem xe_32 (F : XF E n cs) (f : Nat → Int32) (g : Nat → Int64) : eEnt E 32 f g = .inl (cs 0, 40, .inl f) := by rw [F.2.1]; rfl
theorem xe_33 (F : XF E n cs) (f : Nat → Int32) (g : Nat → Int64) : eEnt E 33 f g = .inr (9, [.ref (eAd E 34), .int (f 1), .int (f 2), .int (f 3)]) := by rw [F.2.1]; rfl
theorem xe_34 (F : XF E n cs) (f : Nat → Int32) (g : Nat → Int64) : eEnt E 34 f g = .inl (cs 0, 40, .inl f) := by rw [F.2.1]; rfl
theorem xe_35 (F : XF E n cs) (f : Nat → Int32) (g : Nat → Int64) : eEnt E 35 f g = .inr (9, [.ref (eAd E 36), .int (f 1), .int (f 2), .int (f 3)]) := by rw [F.2.1]; rfl
theorem xe_36 (F : XF E n cs) (f : Nat → Int32) (g : Nat → Int64) : eEnt E 36 f g = .inl (cs 0, 40, .inl f) := by rw [F.2.1]; rfl
theorem me_0 (F : MF E cs) (f : Nat → Int32) (g : Nat → Int64) : eEnt E 0 f g = .inr (12, [.int (f 0), .int (f 1), .ref (eAd E 1), .int (f 3), .int (f 4), .int (f 5), .int (f 6), .int (f 7), .int (f 8), .int (f 9), .int (f 10), .int (f 11), .ref (eAd E 2), .int (f 13), .ref (eAd E 3), .ref (eAd E 4), .ref (eAd E 5), .ref (eAd E 6), .ref (eAd E 7), .ref (eAd E 8), .ref (eAd E 9), .ref (eAd E 10), .int (f 22), .ref (eAd E 11), .int (f 24), .int (f 25), .int (f 26), .ref (eAd E 12), .ref (eAd E 13), .ref (eAd E 14), .ref (eAd E 15), .ref (eAd E 16), .ref (eAd E 17), .ref (eAd E 18), .int (f 34), .ref (eAd E 19), .ref (eAd E 20), .ref (eAd E 21), .int (f 38), .ref (eAd E 22), .ref (eAd E 23), .ref (eAd E 24), .ref (eAd E 25), .ref (eAd E 26), .int (f 44), .ref (eAd E 27), .ref (eAd E 28), .long (g 47), .long (g 48), .long (g 49), .long (g 50), .long (g 51)]) := by rw [F.2.1]; rfl
theorem me_1 (F : MF E cs) (f : Nat → Int32) (g : Nat → Int64) : eEnt E 1 f g = .inl (cs 0, 25, .inl f) := by rw [F.2.1]; rfl
theorem me_2 (F : MF E cs) (f : Nat → Int32) (g : Nat → Int64) : eEnt E 2 f g = .inl (cs 0, 21007, .inl f) := by rw [F.2.1]; rfl
theorem me_3 (F : MF E cs) (f : Nat → Int32) (g : Nat → Int64) : eEnt E 3 f g = .inl (cs 0, 30, .inl f) := by rw [F.2.1]; rfl
theorem me_4 (F : MF E cs) (f : Nat → Int32) (g : Nat → Int64) : eEnt E 4 f g = .inl (cs 0, 30, .inl f) := by rw [F.2.1]; rfl
theorem me_5 (F : MF E cs) (f : Nat → Int32) (g : Nat → Int64) : eEnt E 5 f g = .inl (cs 0, 30, .inl f) := by rw [F.2.1]; rfl
theorem me_6 (F : MF E cs) (f : Nat → Int32) (g : Nat → Int64) : eEnt E 6 f g = .inl (cs 0, 30, .inl f) := by rw [F.2.1]; rfl
theorem me_7 (F : MF E cs) (f : Nat → Int32) (g : Nat → Int64) : eEnt E 7 f g = .inl (cs 0, 30, .inl f) := by rw [F.2.1]; rfl
theorem me_8 (F : MF E cs) (f : Nat → Int32) (g : Nat → Int64) : eEnt E 8 f g = .inl (cs 0, 4, .inl f) := by rw [F.2.1]; rfl
theorem me_9 (F : MF E cs) (f : Nat → Int32) (g : Nat → Int64) : eEnt E 9 f g = .inl (cs 0, 4, .inl f) := by rw [F.2.1]; rfl
theorem me_10 (F : MF E cs) (f : Nat → Int32) (g : Nat → Int64) : eEnt E 10 f g = .inl (cs 0, 160, .inl f) := by rw [F.2.1]; rfl
theorem me_11 (F : MF E cs) (f : Nat → Int32) (g : Nat → Int64) : eEnt E 11 f g = .inl (cs 0, 20, .inl f) := by rw [F.2.1]; rfl
theorem me_12 (F : MF E cs) (f : Nat → Int32) (g : Nat → Int64) : eEnt E 12 f g = .inl (cs 0, 8, .inl f) := by rw [F.2.1]; rfl
theorem me_13 (F : MF E cs) (f : Nat → Int32) (g : Nat → Int64) : eEnt E 13 f g = .inl (cs 0, 8, .inl f) := by rw [F.2.1]; rfl
theorem me_14 (F : MF E cs) (f : Nat → Int32) (g : Nat → Int64) : eEnt E 14 f g = .inl (cs 0, 8, .inl f) := by rw [F.2.1]; rfl
theorem me_15 (F : MF E cs) (f : Nat → Int32) (g : Nat → Int64) : eEnt E 15 f g = .inl (cs 0, 8, .inl f) := by rw [F.2.1]; rfl
theorem me_16 (F : MF E cs) (f : Nat → Int32) (g : Nat → Int64) : eEnt E 16 f g = .inl (cs 0, 8, .inl f) := by rw [F.2.1]; rfl
theorem me_17 (F : MF E cs) (f : Nat → Int32) (g : Nat → Int64) : eEnt E 17 f g = .inl (cs 2, 8, .inl f) := by rw [F.2.1]; rfl
theorem me_18 (F : MF E cs) (f : Nat → Int32) (g : Nat → Int64) : eEnt E 18 f g = .inl (cs 0, 8, .inl f) := by rw [F.2.1]; rfl
theorem me_19 (F : MF E cs) (f : Nat → Int32) (g : Nat → Int64) : eEnt E 19 f g = .inl (cs 0, 20, .inl f) := by rw [F.2.1]; rfl
theorem me_20 (F : MF E cs) (f : Nat → Int32) (g : Nat → Int64) : eEnt E 20 f g = .inl (cs 0, 20, .inl f) := by rw [F.2.1]; rfl
theorem me_21 (F : MF E cs) (f : Nat → Int32) (g : Nat → Int64) : eEnt E 21 f g = .inl (cs 0, 20, .inl f) := by rw [F.2.1]; rfl
theorem me_22 (F : MF E cs) (f : Nat → Int32) (g : Nat → Int64) : eEnt E 22 f g = .inl (cs 0, 20, .inl f) := by rw [F.2.1]; rfl
theorem me_23 (F : MF E cs) (f : Nat → Int32) (g : Nat → Int64) : eEnt E 23 f g = .inl (cs 0, 20, .inl f) := by rw [F.2.1]; rfl
theorem me_24 (F : MF E cs) (f : Nat → Int32) (g : Nat → Int64) : eEnt E 24 f g = .inl (cs 0, 20, .inl f) := by rw [F.2.1]; rfl
theorem me_25 (F : MF E cs) (f : Nat → Int32) (g : Nat → Int64) : eEnt E 25 f g = .inl (cs 0, 20, .inl f) := by rw [F.2.1]; rfl
theorem me_26 (F : MF E cs) (f : Nat → Int32) (g : Nat → Int64) : eEnt E 26 f g = .inl (cs 1, 8, .inr (.inl g)) := by rw [F.2.1]; rfl
theorem me_27 (F : MF E cs) (f : Nat → Int32) (g : Nat → Int64) : eEnt E 27 f g = .inl (cs 0, 160, .inl f) := by rw [F.2.1]; rfl
theorem me_28 (F : MF E cs) (f : Nat → Int32) (g : Nat → Int64) : eEnt E 28 f g = .inl (cs 1, 160, .inr (.inl g)) := by rw [F.2.1]; rfl
theorem xe_Sh (F : XF E n cs) (h : isSh o = true) (f : Nat → Int32) (g : Nat → Int64) : eEnt E o f g = .inr (9, [.ref (eAd E (o + 1)), .int (f 1), .int (f 2), .int (f 3)]) := by rw [F.2.1]; rcases isSh_cases h with rfl | rfl | rfl | rfl <;> rfl
theorem xe_Sh1 (F : XF E n cs) (h : isSh o = true) (f : Nat → Int32) (g : Nat → Int64) : eEnt E (o + 1) f g = .inl (cs 0, 40, .inl f) := by rw [F.2.1]; rcases isSh_cases h with rfl | rfl | rfl | rfl <;> rfl
theorem xe_Tl (F : XF E n cs) (h : isTl o = true) (f : Nat → Int32) (g : Nat → Int64) : eEnt E o f g = .inr (10, [.ref (eAd E (o + 1)), .ref (eAd E (o + 2)), .ref (eAd E (o + 3)), .ref (eAd E (o + 4)), .int (f 4)]) := by rw [F.2.1]; rcases isTl_cases h with rfl | rfl <;> rfl
theorem xe_Tl1 (F : XF E n cs) (h : isTl o = true) (f : Nat → Int32) (g : Nat → Int64) : eEnt E (o + 1) f g = .inl (cs 0, 20, .inl f) := by rw [F.2.1]; rcases isTl_cases h with rfl | rfl <;> rfl
theorem xe_Tl2 (F : XF E n cs) (h : isTl o = true) (f : Nat → Int32) (g : Nat → Int64) : eEnt E (o + 2) f g = .inl (cs 0, 20, .inl f) := by rw [F.2.1]; rcases isTl_cases h with rfl | rfl <;> rfl
theorem xe_Tl3 (F : XF E n cs) (h : isTl o = true) (f : Nat → Int32) (g : Nat → Int64) : eEnt E (o + 3) f g = .inl (cs 0, 20, .inl f) := by rw [F.2.1]; rcases isTl_cases h with rfl | rfl <;> rfl
theorem xe_Tl4 (F : XF E n cs) (h : isTl o = true) (f : Nat → Int32) (g : Nat → Int64) : eEnt E (o + 4) f g = .inl (cs 0, 20, .inl f) := by rw [F.2.1]; rcases isTl_cases h with rfl | rfl <;> rfl
theorem xe_Ch (F : XF E n cs) (h : isCh n o = true) (f : Nat → Int32) (g : Nat → Int64) : eEnt E o f g = .inr (1, [.int (f 0), .int (f 1), .int (f 2), .int (f 3), .int (f 4), .int (f 5), .int (f 6), .int (f 7)]) := by
  rw [F.2.1]
  show (xTab (eAd E) cs n f g).getD o _ = _
  rw [List.getD_eq_getElem?_getD, List.getElem?_eq_none (Nat.le_trans (show (xTab (eAd E) cs n f g).length ≤ 100 from Nat.le_of_ble_eq_true rfl) (isCh_cases h).1)]
  rfl
/-- a walk gives the contract, in the surroundings of a caller -/
theorem ct_X (F : XF E n cs) {y : MethodName} {b : ByteArray} {nL : Nat} {rt : Option FieldType} {rm : Room} {As : List Value} {σ : Mem} {rq : RQT} (hy : plainName y.cls = true) (hn : (lg_sl As).length ≤ nL) (hm : ∀ E' : EnvT, eAd E' = eAd E → XF E' n cs → CX E' b y.cls nL rm → QE E' 0 0 rt rq → G E' nL 0 0 σ 0 (lv_args 0 As) []) : CT E y b nL rt rm As σ rq := by
  obtain ⟨p, l, e, R, s, m, args, below, meth, c, Q, A, D, tys, ids, ad, ent⟩ := E
  intro sz
  exact ct_of hy hn (fun E' e1 e2 e3 e4 e5 C Q => hm E' e4 ⟨e3.trans F.1, e5.trans (F.2.1.trans (by rw [e4])), e2.trans F.2.2⟩ C Q) sz
theorem ct_M (F : MF E cs) {y : MethodName} {b : ByteArray} {nL : Nat} {rt : Option FieldType} {rm : Room} {As : List Value} {σ : Mem} {rq : RQT} (hy : plainName y.cls = true) (hn : (lg_sl As).length ≤ nL) (hm : ∀ E' : EnvT, eAd E' = eAd E → MF E' cs → CX E' b y.cls nL rm → QE E' 0 0 rt rq → G E' nL 0 0 σ 0 (lv_args 0 As) []) : CT E y b nL rt rm As σ rq := by
  obtain ⟨p, l, e, R, s, m, args, below, meth, c, Q, A, D, tys, ids, ad, ent⟩ := E
  intro sz
  exact ct_of hy hn (fun E' e1 e2 e3 e4 e5 C Q => hm E' e4 ⟨e3.trans F.1, e5.trans (F.2.1.trans (by rw [e4])), e2.trans F.2.2⟩ C Q) sz
end FAM
