/-! Heap.finish -/
theorem az_wr_add (x y : Int) : az_wr (az_wr x + y) = az_wr (x + y) := by
  unfold az_wr
  rw [Int32.ofInt_add, Int32.ofInt_toInt, ← Int32.ofInt_add]
theorem HC_sca {M M' : az_M} {h : Int} {g g' : Int → Int} {rg : Int → List Int} {gl : List Int} (hc : HC M h g rg gl) (hp : w_pg g) (hfl : w_fld g) (ho : ∀ b, b ≠ h → M' b = M b) (h11 : M' h 11 = M h 11) (hg : ∀ i, i < 725 ∨ 729 ≤ i ∧ i ≠ 740 → g' i = g i) (hs : c_sca M' h g') : HC M' h g' rg gl := by
  obtain ⟨q1, q2, q3, q4, q5, q6, q7, q8, q9, q10, q11⟩ := hc
  have hpz : ∀ b, 0 ≤ b → b < 128 → pz g' b = pz g b := fun b b0 b1 => hg _ (by omega)
  have hsl : ∀ b, sl g' b ↔ sl g b := by
    intro b
    unfold sl
    constructor
    · rintro ⟨w0, w1, w2⟩
      rw [hpz b w0 w1] at w2
      exact ⟨w0, w1, w2⟩
    · rintro ⟨w0, w1, w2⟩
      rw [hpz b w0 w1]
      exact ⟨w0, w1, w2⟩
  refine ⟨?_, ?_, ?_, ?_, ?_, ?_, ?_, ?_, ?_, ?_, hs⟩
  · rw [ho _ (by omega), ho _ (by omega), ho _ (by omega), ho _ (by omega)]
    exact q1
  · intro n n0 n1
    unfold kz
    rw [hsl, ho _ (by omega), hpz _ (by omega) (by omega), hg (2 * n) (by omega)]
    exact q2 n n0 n1
  · intro a ha
    rw [hsl] at ha
    have a0 := ha.1
    have a1 := ha.2.1
    rw [ho _ (by omega), hg a (by omega), hg (128 + a) (by omega)]
    have := q3 a ha
    refine ⟨this.1, fun q => ⟨(this.2 q).1, fun f f0 f1 => ?_⟩⟩
    have hb := base_of hp (f := f + 1) ha (by omega) (by have := (hfl a ha).2 q; omega)
    rw [hg _ (by omega)]
    exact (this.2 q).2 f f0 f1
  · intro p p0 p1
    rw [ho _ (by omega), hg _ (by omega)]
    exact q4 p p0 p1
  · intro p p0 p1
    rw [ho _ (by omega)]
    exact q5 p p0 p1
  · refine ⟨fun r r0 r1 => ?_, fun w w0 w1 => ?_⟩
    · rw [ho _ (by omega), hg _ (by omega)]
      exact q6.1 r r0 r1
    · rw [ho _ (by omega), hg _ (by omega)]
      exact q6.2 w w0 w1
  · unfold c_gry
    rw [h11, ho _ (by omega)]
    exact q7
  · intro i i0 i1
    rw [ho _ (by omega), hg _ (by omega)]
    exact q8 i i0 i1
  · intro i i0 i1
    rw [ho _ (by omega), hg _ (by omega)]
    exact q9 i i0 i1
  · unfold c_log
    rw [ho _ (by omega), hg 729 (by omega), hg 741 (by omega)]
    refine ⟨q10.1, q10.2.1, fun i w i0 i1 w0 w1 => ?_⟩
    rw [hg _ (by omega)]
    exact q10.2.2 i w i0 i1 w0 w1

theorem WR_congr {g g' : Int → Int} {rg : Int → List Int} (h : WR g rg) (hg : ∀ i, i < 726 → g' i = g i) : WR g' rg := by
  have hpz : ∀ b, 0 ≤ b → b < 128 → pz g' b = pz g b := fun b b0 b1 => hg _ (by omega)
  have hsl : ∀ b, sl g' b ↔ sl g b := by
    intro b
    unfold sl
    constructor
    · rintro ⟨w0, w1, w2⟩
      rw [hpz b w0 w1] at w2
      exact ⟨w0, w1, w2⟩
    · rintro ⟨w0, w1, w2⟩
      rw [hpz b w0 w1]
      exact ⟨w0, w1, w2⟩
  refine ⟨⟨by rw [hg 725 (by omega)]; exact h.1.1, by rw [hg 725 (by omega)]; exact h.1.2.1, fun p p0 p1 => ?_⟩, fun a a0 a1 => ?_, fun k k0 k1 => ⟨(h.2.2 k k0 k1).1, fun n => ?_⟩⟩
  · rw [hg 725 (by omega), hg (707 + p) (by omega)]
    exact h.1.2.2 p p0 p1
  · rw [hsl, hg a (by omega)]
    exact h.2.1 a a0 a1
  · rw [(h.2.2 k k0 k1).2 n, hsl]
    unfold kz
    constructor
    · rintro ⟨w1, w2, w3, w4⟩
      exact ⟨w1, w2, w3, by rw [hpz _ (by omega) (by omega), hg _ (by omega)]; exact w4⟩
    · rintro ⟨w1, w2, w3, w4⟩
      exact ⟨w1, w2, w3, by rw [hpz _ (by omega) (by omega), hg _ (by omega)] at w4; exact w4⟩
theorem w_fld_congr {g g' : Int → Int} (h : w_fld g) (hg : ∀ i, i < 726 → g' i = g i) : w_fld g' := by
  intro a ha
  have hpz : pz g' a = pz g a := hg _ (by have := ha.2.1; omega)
  have ha' : sl g a := by
    obtain ⟨w0, w1, w2⟩ := ha
    rw [hpz] at w2
    exact ⟨w0, w1, w2⟩
  have a1 := ha.2.1
  rw [hpz, hg a (by omega), hg (128 + a) (by omega)]
  exact h a ha'
theorem base_even {g : Int → Int} (hp : w_pg g) {j : Int} (j0 : 0 ≤ j) (j1 : j < 128) (hz : pz g j ≠ 0) : (j - j % pz g j) % 2 = 0 ∧ 0 ≤ j - j % pz g j ∧ (j - j % pz g j) / 16 = j / 16 ∧ (j - j % pz g j) % pz g j = 0 := by
  rcases pz_in hp j0 j1 with q | q | q | q
  · exact absurd q hz
  · rw [q]; omega
  · rw [q]; omega
  · rw [q]; omega
/-- the first cells of slots are no fields -/
theorem lc_head {g : Int → Int} {a : Int} (ha : sl g a) : ¬ lc g a := by
  rintro ⟨-, -, q3, -⟩
  have := ha.2.2.2
  omega
/-- the cells behind the fields of the first m nodes lost their names -/
def cr (gA : Int → Int) (c1 : Int → Int) (m : Int) : Int → Int := fun j => if 0 ≤ j ∧ j < 128 ∧ lc gA j ∧ (j - j % pz gA j) / 2 < m ∧ dd c1 (c1 j) = 1 then -1 else c1 j
theorem cr_head {gA c1 : Int → Int} {m a : Int} (ha : sl gA a) : cr gA c1 m a = c1 a := by
  unfold cr
  rw [if_neg]
  rintro ⟨-, -, q, -⟩
  exact lc_head ha q
theorem dd_cr {gA c1 : Int → Int} {m v : Int} (hv : v = -1 ∨ sl gA v) : dd (cr gA c1 m) v = dd c1 v := by
  unfold dd
  rcases hv with e | e
  · rw [if_neg (by omega), if_neg (by omega)]
  · rw [cr_head e]
