/-! the cells behind changes of numbers that no row speaks of -/
theorem HC_any {M M' : az_M} {h : Int} {g g' : Int → Int} {rg : Int → List Int} {gl gl' : List Int} (hc : HC M h g rg gl) (hp : w_pg g) (hfl : w_fld g) (hg : ∀ i, i < 384 ∨ 707 ≤ i ∧ i < 715 → g' i = g i) (ho : ∀ b, h + 2 ≤ b → b ≤ h + 8 → M' b = M b)
    (c6 : c_nam M' h g') (c7 : c_gry M' h gl') (c8 : c_set M' h g') (c9 : c_tal M' h g') (c10 : c_log M' h g') (c11 : c_sca M' h g') : HC M' h g' rg gl' := by
  obtain ⟨q1, q2, q3, q4, q5, q6, q7, q8, q9, q10, q11⟩ := hc
  have hpz : ∀ b, 0 ≤ b → b < 128 → pz g' b = pz g b := fun b b0 b1 => hg _ (by omega)
  have hsl : ∀ b, sl g' b ↔ sl g b := by
    intro b
    unfold sl
    constructor
    · rintro ⟨w0, w1, w2⟩
      rw [hpz b w0 w1] at w2
      exact ⟨w0, w1, w2⟩
    · rintro ⟨w0, w1, w2⟩
      rw [hpz b w0 w1]
      exact ⟨w0, w1, w2⟩
  refine ⟨?_, ?_, ?_, ?_, ?_, c6, c7, c8, c9, c10, c11⟩
  · rw [ho (h + 2) (by omega) (by omega), ho (h + 3) (by omega) (by omega), ho (h + 4) (by omega) (by omega), ho (h + 5) (by omega) (by omega)]
    exact q1
  · intro n n0 n1
    unfold kz
    rw [hsl, ho _ (by omega) (by omega), hpz _ (by omega) (by omega), hg (2 * n) (by omega)]
    exact q2 n n0 n1
  · intro a ha
    rw [hsl] at ha
    have a0 := ha.1
    have a1 := ha.2.1
    rw [ho _ (by omega) (by omega), hg a (by omega), hg (128 + a) (by omega)]
    have := q3 a ha
    refine ⟨this.1, fun q => ⟨(this.2 q).1, fun f f0 f1 => ?_⟩⟩
    have hb := base_of hp (f := f + 1) ha (by omega) (by have := (hfl a ha).2 q; omega)
    rw [hg _ (by omega)]
    exact (this.2 q).2 f f0 f1
  · intro p p0 p1
    rw [ho _ (by omega) (by omega), hg _ (by omega)]
    exact q4 p p0 p1
  · intro p p0 p1
    rw [ho _ (by omega) (by omega)]
    exact q5 p p0 p1
theorem c_nam_c {M M' : az_M} {h : Int} {g g' : Int → Int} (q : c_nam M h g) (h1 : M' (h + 9) = M (h + 9)) (h2 : M' (h + 10) = M (h + 10)) (hg : ∀ i, 715 ≤ i → i < 725 → g' i = g i) : c_nam M' h g' := by
  refine ⟨fun r r0 r1 => ?_, fun w w0 w1 => ?_⟩
  · rw [h1, hg _ (by omega) (by omega)]; exact q.1 r r0 r1
  · rw [h2, hg _ (by omega) (by omega)]; exact q.2 w w0 w1
theorem c_gry_c {M M' : az_M} {h : Int} {gl : List Int} (q : c_gry M h gl) (h1 : M' (h + 11) = M (h + 11)) (h2 : M' h 11 = M h 11) : c_gry M' h gl := by
  unfold c_gry
  rw [h1, h2]; exact q
theorem c_set_c {M M' : az_M} {h : Int} {g g' : Int → Int} (q : c_set M h g) (h1 : M' (h + 12) = M (h + 12)) (hg : ∀ i, 735 ≤ i → i < 739 → g' i = g i) : c_set M' h g' := by
  intro i i0 i1
  rw [h1, hg _ (by omega) (by omega)]; exact q i i0 i1
theorem c_tal_c {M M' : az_M} {h : Int} {g g' : Int → Int} (q : c_tal M h g) (h1 : M' (h + 13) = M (h + 13)) (hg : ∀ i, 729 ≤ i → i < 735 → g' i = g i) : c_tal M' h g' := by
  intro i i0 i1
  rw [h1, hg _ (by omega) (by omega)]; exact q i i0 i1
theorem c_log_c {M M' : az_M} {h : Int} {g g' : Int → Int} (q : c_log M h g) (h1 : M' (h + 14) = M (h + 14)) (hg : ∀ i, i = 729 ∨ 741 ≤ i → g' i = g i) : c_log M' h g' := by
  unfold c_log
  rw [h1, hg 729 (by omega), hg 741 (by omega)]
  refine ⟨q.1, q.2.1, fun i w i0 i1 w0 w1 => ?_⟩
  rw [hg _ (by omega)]
  exact q.2.2 i w i0 i1 w0 w1
theorem c_sca_c {M M' : az_M} {h : Int} {g g' : Int → Int} (q : c_sca M h g) (h1 : ∀ j, j = 10 ∨ 12 ≤ j → M' h j = M h j) (hg : ∀ i, 725 ≤ i ∧ i < 729 ∨ i = 740 → g' i = g i) : c_sca M' h g' := by
  unfold c_sca
  rw [h1 10 (by omega), h1 12 (by omega), h1 13 (by omega), h1 14 (by omega), h1 15 (by omega), hg 725 (by omega), hg 726 (by omega), hg 727 (by omega), hg 728 (by omega), hg 740 (by omega)]
  exact q
/-- a tally's entry, but the first -/
theorem HC_tly {M : az_M} {h i v : Int} {g : Int → Int} {rg : Int → List Int} {gl : List Int} (hc : HC M h g rg gl) (hp : w_pg g) (hfl : w_fld g) (i0 : 1 ≤ i) (i1 : i < 6) : HC (az_up M (h + 13) i v) h (gu g (729 + i) v) rg gl := by
  have ho : ∀ b, b ≠ h + 13 → az_up M (h + 13) i v b = M b := fun b hb => up_oth _ _ _ hb
  have hg : ∀ j, j ≠ 729 + i → gu g (729 + i) v j = g j := fun j hj => gu_n _ _ hj
  refine HC_any hc hp hfl (fun j hj => hg j (by omega)) (fun b b0 b1 => ho b (by omega)) ?_ ?_ ?_ ?_ ?_ ?_
  · exact c_nam_c hc.2.2.2.2.2.1 (ho _ (by omega)) (ho _ (by omega)) (fun j _ _ => hg j (by omega))
  · exact c_gry_c hc.2.2.2.2.2.2.1 (ho _ (by omega)) (by rw [ho _ (by omega)])
  · exact c_set_c hc.2.2.2.2.2.2.2.1 (ho _ (by omega)) (fun j _ _ => hg j (by omega))
  · intro j j0 j1
    rw [up_row]
    show (if j = i then v else M (h + 13) j) = _
    by_cases e : j = i
    · rw [if_pos e, e, gu_s]
    · rw [if_neg e, hg _ (by omega)]
      exact hc.2.2.2.2.2.2.2.2.1 j j0 j1
  · exact c_log_c hc.2.2.2.2.2.2.2.2.2.1 (ho _ (by omega)) (fun j _ => hg j (by omega))
  · exact c_sca_c hc.2.2.2.2.2.2.2.2.2.2 (fun j _ => by rw [ho _ (by omega)]) (fun j _ => hg j (by omega))
