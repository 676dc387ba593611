/-! THE SMALL MACHINE: ints are Int, cells are numbered from the first cell that the law makes; values (tag, number): tag 0 an int, 1 a cell (below 0: null), 2 a text constant, 3 its bytes, 4 the formatter, 5 the script, 9 nothing -/
abbrev az_V : Type := Nat × Int
abbrev az_M : Type := Int → Int → Int
/-- the cells' kinds (class, or 100 int[], 101 boolean[], 102 Heap[]; length), and what is frozen: places of references that no longer change -/
abbrev az_K : Type := List (Nat × Nat) × (Int → Int → Option Int)
abbrev az_E : Type := Nat × va_G × (ClassId × ClassId × ClassId) × (Nat → Nat) × (Nat → Nat) × Option Nat × Nat
def az_in (z : Int) : Prop := -2147483648 ≤ z ∧ z ≤ 2147483647
def az_ok (v : az_V) : Prop := v.1 = 0 → az_in v.2
def az_cv (E : az_E) (v : az_V) : Value :=
  if v.1 = 0 then .int (Int32.ofInt v.2)
  else if v.1 = 1 then (if v.2 < 0 then .null else .ref (E.1 + v.2.toNat))
  else if v.1 = 2 then .ref (E.2.2.2.1 v.2.toNat)
  else if v.1 = 3 then .ref (E.2.2.2.2.1 v.2.toNat)
  else if v.1 = 4 then va_rf E.2.2.2.2.2.1
  else .ref E.2.2.2.2.2.2
theorem az_cv0 (E : az_E) (z : Int) : az_cv E (0, z) = .int (Int32.ofInt z) := rfl
theorem az_cv1 (E : az_E) {a : Int} (h : 0 ≤ a) : az_cv E (1, a) = .ref (E.1 + a.toNat) := by
  have : ¬ a < 0 := by omega
  simp [az_cv, this]
theorem az_cv1N (E : az_E) {a : Int} (h : a < 0) : az_cv E (1, a) = .null := by simp [az_cv, h]
theorem az_cv2 (E : az_E) (i : Int) : az_cv E (2, i) = .ref (E.2.2.2.1 i.toNat) := rfl
theorem az_cv3 (E : az_E) (i : Int) : az_cv E (3, i) = .ref (E.2.2.2.2.1 i.toNat) := rfl
theorem az_cv5 (E : az_E) (i : Int) : az_cv E (5, i) = .ref E.2.2.2.2.2.2 := rfl
theorem az_rf_nr (r : Option Nat) : va_rf r = .null ∨ ∃ a, va_rf r = .ref a := by cases r <;> simp [va_rf]
theorem az_cv_nr (E : az_E) {v : az_V} (h : v.1 ≠ 0) : az_cv E v = .null ∨ ∃ a, az_cv E v = .ref a := by
  obtain ⟨t, z⟩ := v
  unfold az_cv
  have h0 : ¬ t = 0 := h
  simp only [h0, if_false]
  split
  · split
    · exact Or.inl rfl
    · exact Or.inr ⟨_, rfl⟩
  · split
    · exact Or.inr ⟨_, rfl⟩
    · split
      · exact Or.inr ⟨_, rfl⟩
      · split
        · exact az_rf_nr _
        · exact Or.inr ⟨_, rfl⟩
theorem az_cat (E : az_E) (v : az_V) : (az_cv E v).category = 1 := by
  by_cases h : v.1 = 0
  · obtain ⟨t, z⟩ := v
    have h : t = 0 := h
    subst h
    rfl
  · rcases az_cv_nr E h with h | ⟨a, h⟩ <;> rw [h] <;> rfl
-- numbers
theorem az_i2 {z : Int} (h : az_in z) : (Int32.ofInt z).toInt = z := Int32.toInt_ofInt_of_le (by have := h.1; omega) (by have := h.2; omega)
theorem az_lt {x y : Int} (hx : az_in x) (hy : az_in y) : Int32.ofInt x < Int32.ofInt y ↔ x < y := by rw [Int32.lt_iff_toInt_lt, az_i2 hx, az_i2 hy]
theorem az_le {x y : Int} (hx : az_in x) (hy : az_in y) : Int32.ofInt x ≤ Int32.ofInt y ↔ x ≤ y := by rw [Int32.le_iff_toInt_le, az_i2 hx, az_i2 hy]
theorem az_eq {x y : Int} (hx : az_in x) (hy : az_in y) : Int32.ofInt x = Int32.ofInt y ↔ x = y := by rw [← Int32.toInt_inj, az_i2 hx, az_i2 hy]
theorem az_in0 : az_in 0 := by unfold az_in; omega
theorem az_i0 : (0 : Int32) = Int32.ofInt 0 := by decide
def az_wr (z : Int) : Int := (Int32.ofInt z).toInt
theorem az_wr_of (z : Int) : Int32.ofInt (az_wr z) = Int32.ofInt z := Int32.ofInt_toInt _
theorem az_wr_in (z : Int) : az_in (az_wr z) := ⟨by have := Int32.le_toInt (Int32.ofInt z); unfold az_wr; omega, by have := Int32.toInt_lt (Int32.ofInt z); unfold az_wr; omega⟩
theorem az_wr_id {z : Int} (h1 : -2147483648 ≤ z) (h2 : z ≤ 2147483647) : az_wr z = z := az_i2 ⟨h1, h2⟩
theorem az_to_in (x : Int32) : az_in x.toInt := ⟨by have := Int32.le_toInt x; omega, by have := Int32.toInt_lt x; omega⟩
theorem az_cl {z : Int} (h : az_in z) : (Int32.ofInt z).toNatClampNeg = z.toNat := by rw [← Int32.toNat_toInt, az_i2 h]
theorem az_vin {z : Int} {n : Nat} (h : az_in z) (h1 : 0 ≤ z) (h2 : z < n) : vp_in (Int32.ofInt z) n := vp_in_iff.mpr ⟨by rw [az_i2 h]; exact h1, by rw [az_i2 h]; exact h2⟩
-- bits
def az_and (x y : Int) : Int := (Int32.ofInt x &&& Int32.ofInt y).toInt
def az_shl (x y : Int) : Int := (Int32.ofInt x <<< (Int32.ofInt y &&& 31)).toInt
def az_shr (x y : Int) : Int := (Int32.ofInt x >>> (Int32.ofInt y &&& 31)).toInt
def az_ushr (x y : Int) : Int := ((Int32.ofInt x).toUInt32 >>> ((Int32.ofInt y).toUInt32 &&& Int32.toUInt32 31)).toInt32.toInt
-- memory
def az_up (M : az_M) (a i v : Int) : az_M := fun b j => if b = a ∧ j = i then v else M b j
theorem az_up_s (M : az_M) (a i v : Int) : az_up M a i v a i = v := by simp [az_up]
theorem az_up_a (M : az_M) {a b : Int} (i j v : Int) (h : b ≠ a) : az_up M a i v b j = M b j := by simp [az_up, h]
theorem az_up_i (M : az_M) (a b : Int) {i j : Int} (v : Int) (h : j ≠ i) : az_up M a i v b j = M b j := by simp [az_up, h]
theorem az_up_in {M : az_M} {a i v : Int} (h : ∀ a i, az_in (M a i)) (hv : az_in v) : ∀ b j, az_in (az_up M a i v b j) := by
  intro b j
  unfold az_up
  split
  · exact hv
  · exact h b j
def az_at (K : az_K) (a : Int) (q : Nat × Nat) : Prop := 0 ≤ a ∧ K.1[a.toNat]? = some q
theorem az_at.push {K : az_K} {q0 : Nat × Nat} {a : Int} {q : Nat × Nat} (h : az_at K a q) : az_at (K.1 ++ [q0], K.2) a q := by
  refine ⟨h.1, ?_⟩
  have := h.2
  show (K.1 ++ [q0])[a.toNat]? = some q
  rw [List.getElem?_append_left (List.getElem?_eq_some_iff.mp this).1]
  exact this
theorem az_at.inj {K : az_K} {a : Int} {q q' : Nat × Nat} (h : az_at K a q) (h' : az_at K a q') : q = q' := Option.some.inj (h.2.symm.trans h'.2)
-- what a cell holds
def az_el (E : az_E) (q : Nat × Nat) (g : Int → Int) : va_E :=
  if q.1 = 100 then .inl (E.2.2.1.1, q.2, .inl (fun j => Int32.ofInt (g j)))
  else if q.1 = 101 then .inl (E.2.2.1.2.1, q.2, .inl (fun j => Int32.ofInt (g j)))
  else if q.1 = 102 then .inl (E.2.2.1.2.2, q.2, .inr (.inr (.inr (.inr (fun j => if g j < 0 then none else some (E.1 + (g j).toNat))))))
  else .inr (q.1, (List.range (az_nf q.1)).map (fun k => az_cv E (az_rf q.1 k, g k)))
def az_W (E : az_E) (K : az_K) (M : az_M) : va_W := K.1.mapIdx (fun k q => (E.1 + k, az_el E q (M k)))
theorem az_W_get {E : az_E} {K : az_K} {M : az_M} {a : Int} {q : Nat × Nat} (h : az_at K a q) : (az_W E K M)[a.toNat]? = some (E.1 + a.toNat, az_el E q (M a)) := by
  unfold az_W
  rw [List.getElem?_mapIdx, h.2]
  have : ((a.toNat : Nat) : Int) = a := Int.toNat_of_nonneg h.1
  simp [this]
theorem az_W_set {E : az_E} {K : az_K} {M : az_M} {a : Int} {q : Nat × Nat} {e : va_E} {g : Int → Int} (h : az_at K a q) (he : e = az_el E q g) : (az_W E K M).set a.toNat (E.1 + a.toNat, e) = az_W E K (fun b => if b = a then g else M b) := by
  have ha : ((a.toNat : Nat) : Int) = a := Int.toNat_of_nonneg h.1
  apply List.ext_getElem?
  intro i
  unfold az_W
  rw [List.getElem?_mapIdx, List.getElem?_set, List.length_mapIdx, List.getElem?_mapIdx]
  by_cases hi : a.toNat = i
  · subst hi
    have hl : a.toNat < K.1.length := (List.getElem?_eq_some_iff.mp h.2).1
    rw [if_pos rfl, if_pos hl, h.2, he]
    simp [ha]
  · rw [if_neg hi]
    have hn : ¬ ((i : Nat) : Int) = a := by omega
    cases K.1[i]? with
    | none => rfl
    | some x => simp [hn]
theorem az_up_fn (M : az_M) (a i v : Int) : az_up M a i v = fun b => if b = a then (fun j => if j = i then v else M a j) else M b := by
  funext b j
  unfold az_up
  by_cases hb : b = a
  · subst hb; simp
  · simp [hb]
/-- what is frozen stands in the memory, at places of references -/
def az_Fz (K : az_K) (M : az_M) : Prop := ∀ a i c, K.2 a i = some c → M a i = c ∧ ∃ q : Nat × Nat, az_at K a q ∧ q.1 ≠ 100 ∧ q.1 ≠ 101 ∧ (q.1 < 8 → az_rf q.1 i.toNat = 1 ∧ 0 ≤ i)
theorem az_Fz.arr {K : az_K} {M : az_M} {a i v : Int} {q : Nat × Nat} (h : az_Fz K M) (hK : az_at K a q) (hq : q.1 = 100 ∨ q.1 = 101) : az_Fz K (az_up M a i v) := by
  intro b j c hc
  obtain ⟨h1, q2, h2, h3, h4, h5⟩ := h b j c hc
  refine ⟨?_, q2, h2, h3, h4, h5⟩
  rw [az_up_a _ _ _ _ (fun e => ?_)]
  · exact h1
  · subst e
    have := h2.inj hK
    subst this
    rcases hq with hq | hq
    · exact h3 hq
    · exact h4 hq
theorem az_Fz.int {K : az_K} {M : az_M} {a v : Int} {ci k n : Nat} (h : az_Fz K M) (hK : az_at K a (ci, n)) (h8 : ci < 8) (hr : az_rf ci k = 0) : az_Fz K (az_up M a k v) := by
  intro b j c hc
  obtain ⟨h1, q2, h2, h3, h4, h5⟩ := h b j c hc
  refine ⟨?_, q2, h2, h3, h4, h5⟩
  unfold az_up
  rw [if_neg]
  · exact h1
  · rintro ⟨e1, e2⟩
    subst e1; subst e2
    have := h2.inj hK
    subst this
    have h6 := (h5 h8).1
    rw [Int.toNat_natCast, hr] at h6
    omega
theorem az_Fz.ref {K : az_K} {M : az_M} {a i v : Int} (h : az_Fz K M) (hz : K.2 a i = none) : az_Fz K (az_up M a i v) := by
  intro b j c hc
  obtain ⟨h1, q2, h2, h3, h4, h5⟩ := h b j c hc
  refine ⟨?_, q2, h2, h3, h4, h5⟩
  unfold az_up
  rw [if_neg]
  · exact h1
  · rintro ⟨e1, e2⟩
    subst e1; subst e2
    rw [hz] at hc
    cases hc
