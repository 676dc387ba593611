/-! the heap as a value: g (numbers, by the reference's places), rg (the rows' nodes in order), gl (the grey ones that wait) -/
def gu (g : Int → Int) (i v : Int) : Int → Int := fun j => if j = i then v else g j
theorem gu_s (g : Int → Int) (i v : Int) : gu g i v i = v := if_pos rfl
theorem gu_n (g : Int → Int) {i j : Int} (v : Int) (h : j ≠ i) : gu g i v j = g j := if_neg h
/-- the size of an address' page -/
def pz (g : Int → Int) (a : Int) : Int := g (707 + a / 16)
/-- a slot begins there; an object is there; its row's base -/
def sl (g : Int → Int) (a : Int) : Prop := 0 ≤ a ∧ a < 128 ∧ pz g a ≠ 0 ∧ a % pz g a = 0
def ob (g : Int → Int) (a : Int) : Prop := sl g a ∧ g a ≠ 0
def kz (g : Int → Int) (a : Int) : Int := pz g a / 4 * 4
def w_pg (g : Int → Int) : Prop := 1 ≤ g 725 ∧ g 725 ≤ 8 ∧ ∀ p, 0 ≤ p → p < 8 → (g (707 + p) = 0 ∨ g (707 + p) = 2 ∨ g (707 + p) = 4 ∨ g (707 + p) = 8) ∧ (g 725 ≤ p → g (707 + p) = 0)
def w_col (g : Int → Int) : Prop := ∀ a, 0 ≤ a → a < 128 → 0 ≤ g a ∧ g a ≤ 3 ∧ (¬ sl g a → g a = 0)
def w_row (g : Int → Int) (rg : Int → List Int) : Prop := ∀ k, 0 ≤ k → k < 12 → (rg k).Nodup ∧ ∀ n, n ∈ rg k ↔ 0 ≤ n ∧ n < 64 ∧ sl g (2 * n) ∧ kz g (2 * n) + g (2 * n) = k
def w_fld (g : Int → Int) : Prop := ∀ a, sl g a → (g a = 0 → g (128 + a) = 0) ∧ (g a ≠ 0 → 0 ≤ g (128 + a) ∧ g (128 + a) < pz g a)
def nok (g : Int → Int) (v : Int) : Prop := v = -1 ∨ ob g v
def w_nam (g : Int → Int) : Prop := (∀ x, 715 ≤ x → x < 725 → nok g (g x)) ∧ ∀ a f, ob g a → 0 ≤ f → f < g (128 + a) → nok g (g (256 + a + 1 + f))
def w_run (g : Int → Int) (gl : List Int) : Prop := (g 726 = 0 ∨ g 726 = 1) ∧ (g 726 = 0 → gl = [] ∧ g 727 = -1 ∧ g 728 = 0 ∧ ∀ a, 0 ≤ a → a < 128 → g a ≠ 1 ∧ g a ≠ 2) ∧ gl.Nodup ∧ (∀ a, a ∈ gl ↔ ob g a ∧ g a = 2 ∧ a ≠ g 727) ∧
  (g 727 = -1 ∧ g 728 = 0 ∨ ob g (g 727) ∧ g (g 727) = 2 ∧ 0 ≤ g 728 ∧ g 728 ≤ g (128 + g 727))
def w_set (g : Int → Int) : Prop := (0 ≤ g 735 ∧ g 735 ≤ 3) ∧ (0 ≤ g 736 ∧ g 736 ≤ 3) ∧ (0 ≤ g 737 ∧ g 737 ≤ 16) ∧ (0 ≤ g 738 ∧ g 738 ≤ 16)
/-- what holds of a heap, but that a cycle that runs has a grey one -/
def WF0 (g : Int → Int) (rg : Int → List Int) (gl : List Int) : Prop := w_pg g ∧ w_col g ∧ w_row g rg ∧ w_fld g ∧ w_nam g ∧ w_run g gl ∧ w_set g
def w_live (g : Int → Int) (gl : List Int) : Prop := g 726 = 1 → gl ≠ [] ∨ g 727 ≠ -1
theorem pz_in {g : Int → Int} (h : w_pg g) {a : Int} (h0 : 0 ≤ a) (h1 : a < 128) : pz g a = 0 ∨ pz g a = 2 ∨ pz g a = 4 ∨ pz g a = 8 := (h.2.2 (a / 16) (by omega) (by omega)).1
theorem sl_even {g : Int → Int} (h : w_pg g) {a : Int} (hs : sl g a) : a % 2 = 0 ∧ 2 ≤ pz g a ∧ pz g a ≤ 8 ∧ 0 ≤ kz g a ∧ kz g a ≤ 8 := by
  obtain ⟨h0, h1, h2, h3⟩ := hs
  unfold kz
  rcases pz_in h h0 h1 with e | e | e | e
  · exact absurd e h2
  · rw [e] at h3 ⊢; omega
  · rw [e] at h3 ⊢; omega
  · rw [e] at h3 ⊢; omega
/-- the row of a node -/
theorem sl_dec (g : Int → Int) (a : Int) : sl g a ∨ ¬ sl g a := Classical.em _
/-- a grey one more -/
def greyS (S : (Int → Int) × (Int → List Int) × List Int) (a : Int) : (Int → Int) × (Int → List Int) × List Int :=
  if 0 ≤ a ∧ S.1 a = 1 then (gu S.1 a 2, rmv S.2.1 (a / 2) (kz S.1 a + 1) (kz S.1 a + 2) true, S.2.2 ++ [a]) else S
theorem gu_pz {g : Int → Int} {a v : Int} (ha : a < 707) (b : Int) (hb : 0 ≤ b) : pz (gu g a v) b = pz g b := by
  unfold pz
  exact gu_n _ _ (by omega)
theorem gu_sl {g : Int → Int} {a v : Int} (ha : a < 707) (b : Int) : sl (gu g a v) b ↔ sl g b := by
  unfold sl
  constructor
  · rintro ⟨h0, h1, h2⟩
    rw [gu_pz ha b h0] at h2
    exact ⟨h0, h1, h2⟩
  · rintro ⟨h0, h1, h2⟩
    rw [gu_pz ha b h0]
    exact ⟨h0, h1, h2⟩
/-- a change of an object's colour to another that is not free: slots and objects stay -/
theorem gu_ob {g : Int → Int} {a v : Int} (ha : ob g a) (hv : v ≠ 0) (b : Int) : ob (gu g a v) b ↔ ob g b := by
  unfold ob
  have ha7 : a < 707 := by have := ha.1.2.1; omega
  rw [gu_sl ha7]
  by_cases e : b = a
  · subst e
    rw [gu_s]
    exact ⟨fun h => ⟨h.1, ha.2⟩, fun h => ⟨h.1, hv⟩⟩
  · rw [gu_n _ _ e]
theorem gu_nok {g : Int → Int} {a v : Int} (ha : ob g a) (hv : v ≠ 0) (x : Int) : nok (gu g a v) x ↔ nok g x := by
  unfold nok
  rw [gu_ob ha hv]
/-- the rows behind a change of colour -/
theorem row_gu {g : Int → Int} {rg : Int → List Int} {a c : Int} {front : Bool} (hp : w_pg g) (hr : w_row g rg) (hs : sl g a) (h0 : 0 ≤ c) (h3 : c ≤ 3) (hc0 : 0 ≤ g a) (hc3 : g a ≤ 3) (hne : g a ≠ c) : w_row (gu g a c) (rmv rg (a / 2) (kz g a + g a) (kz g a + c) front) := by
  obtain ⟨e1, e2, e3, e4, e5⟩ := sl_even hp hs
  have ha7 : a < 707 := by have := hs.2.1; omega
  have h128 := hs.2.1
  have ha0 := hs.1
  have hk4 : kz g a % 4 = 0 := by unfold kz; omega
  have hkz : ∀ b, 0 ≤ b → kz (gu g a c) b = kz g b := fun b hb => by unfold kz; rw [gu_pz ha7 b hb]
  have hmemn : a / 2 ∈ rg (kz g a + g a) := ((hr _ (by omega) (by omega)).2 (a / 2)).mpr ⟨by omega, by omega, by rw [show 2 * (a / 2) = a by omega]; exact ⟨hs, rfl⟩⟩
  intro k k0 k1
  obtain ⟨n1, n2⟩ := hr k k0 k1
  have hnot : k ≠ kz g a + g a → a / 2 ∉ rg k := by
    intro hk hm
    have := ((n2 _).mp hm).2.2.2
    rw [show 2 * (a / 2) = a by omega] at this
    exact hk this.symm
  have hl : ∀ n, n ∈ (if k = kz g a + g a then (rg k).erase (a / 2) else rg k) ↔ n ∈ rg k ∧ n ≠ a / 2 := by
    intro n
    split
    · rw [n1.mem_erase_iff]; exact ⟨fun h => ⟨h.2, h.1⟩, fun h => ⟨h.2, h.1⟩⟩
    · rename_i hk
      exact ⟨fun h => ⟨h, fun e => hnot hk (by rw [← e]; exact h)⟩, fun h => h.1⟩
  have hlN : (if k = kz g a + g a then (rg k).erase (a / 2) else rg k).Nodup := by
    split
    · exact n1.erase _
    · exact n1
  generalize hL : (if k = kz g a + g a then (rg k).erase (a / 2) else rg k) = l at hl hlN
  have hrm : rmv rg (a / 2) (kz g a + g a) (kz g a + c) front k = if k = kz g a + c then (if front then a / 2 :: l else l ++ [a / 2]) else l := by
    unfold rmv
    rw [hL]
  have hnl : a / 2 ∉ l := fun h => ((hl _).mp h).2 rfl
  have hgc : ∀ n, n ≠ a / 2 → 0 ≤ n → gu g a c (2 * n) = g (2 * n) := fun n hn _ => gu_n _ _ (by omega)
  rw [hrm]
  by_cases hk : k = kz g a + c
  · rw [if_pos hk]
    have key : ∀ n, (n = a / 2 ∨ n ∈ l) ↔ 0 ≤ n ∧ n < 64 ∧ sl (gu g a c) (2 * n) ∧ kz (gu g a c) (2 * n) + gu g a c (2 * n) = k := by
      intro n
      rw [gu_sl ha7]
      constructor
      · rintro (rfl | h)
        · rw [show 2 * (a / 2) = a by omega, hkz a ha0, gu_s]
          exact ⟨by omega, by omega, hs, hk.symm⟩
        · obtain ⟨q1, q2⟩ := (hl n).mp h
          obtain ⟨r1, r2, r3, r4⟩ := (n2 n).mp q1
          exact ⟨r1, r2, r3, by rw [hkz _ (by omega), hgc n q2 r1]; exact r4⟩
      · rintro ⟨r1, r2, r3, r4⟩
        by_cases e : n = a / 2
        · exact Or.inl e
        · rw [hkz _ (by omega), hgc n e r1] at r4
          exact Or.inr ((hl n).mpr ⟨(n2 n).mpr ⟨r1, r2, r3, r4⟩, e⟩)
    cases front
    · simp only [Bool.false_eq_true, if_false]
      refine ⟨List.nodup_append.mpr ⟨hlN, by simp, fun x hx b hb => ?_⟩, fun n => ?_⟩
      · rw [List.mem_singleton.mp hb]
        exact fun e => hnl (by rw [← e]; exact hx)
      · rw [List.mem_append, List.mem_singleton, Or.comm]
        exact key n
    · simp only [if_true]
      exact ⟨List.nodup_cons.mpr ⟨hnl, hlN⟩, fun n => by rw [List.mem_cons]; exact key n⟩
  · rw [if_neg hk]
    refine ⟨hlN, fun n => ?_⟩
    rw [hl, gu_sl ha7]
    constructor
    · rintro ⟨q1, q2⟩
      obtain ⟨r1, r2, r3, r4⟩ := (n2 n).mp q1
      exact ⟨r1, r2, r3, by rw [hkz _ (by omega), hgc n q2 r1]; exact r4⟩
    · rintro ⟨r1, r2, r3, r4⟩
      by_cases e : n = a / 2
      · subst e
        rw [show 2 * (a / 2) = a by omega, hkz a ha0, gu_s] at r4
        exact absurd r4.symm hk
      · rw [hkz _ (by omega), hgc n e r1] at r4
        exact ⟨(n2 n).mpr ⟨r1, r2, r3, r4⟩, e⟩
