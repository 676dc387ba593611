/-! Reader: words, signs, numbers; Script.add -/
set_option maxRecDepth 20000
section WI
variable {X : pTx} {p : Int}
theorem w_step (hp : p ≤ X.2) : isT X p 0 ↔ tok X p = 2 ∧ wd X p = 643248 := by
  have hl : wLn 0 = 4 := by decide
  have c0 : wCh 0 0 = 115 := by decide
  have c1 : wCh 0 1 = 116 := by decide
  have c2 : wCh 0 2 = 101 := by decide
  have c3 : wCh 0 3 = 112 := by decide
  have e := tkE_in hp
  constructor
  · rintro ⟨h1, h2⟩
    have b0 : X.1 (p + ((0 : Nat) : Int)) = 115 := (h2 0 (by omega)).trans c0
    have b1 : X.1 (p + ((1 : Nat) : Int)) = 116 := (h2 1 (by omega)).trans c1
    have b2 : X.1 (p + ((2 : Nat) : Int)) = 101 := (h2 2 (by omega)).trans c2
    have b3 : X.1 (p + ((3 : Nat) : Int)) = 112 := (h2 3 (by omega)).trans c3
    have b0' : X.1 p = 115 := by rw [show p + ((0 : Nat) : Int) = p by omega] at b0; exact b0
    refine ⟨tok2.mpr ⟨by omega, by omega, by omega⟩, ?_⟩
    unfold wd wx
    rw [show (tkE X p - p).toNat = 4 by omega, if_pos (by omega), wvS X p 3, wvS X p 2, wvS X p 1, wv1, b0', b1, b2, b3]
    rfl
  · rintro ⟨ht, hw⟩
    have ha := wd_all hp ht
    have hlt := (tok2.mp ht).1
    have e3 := e.2.2 hlt
    unfold wd wx at hw
    generalize hn : (tkE X p - p).toNat = n at hw
    have hn1 : tkE X p - p = n := by omega
    by_cases n5 : n ≤ 5
    · rw [if_pos n5] at hw
      have h5 : n = 1 ∨ n = 2 ∨ n = 3 ∨ n = 4 ∨ n = 5 := by omega
      rcases h5 with rfl | rfl | rfl | rfl | rfl
      · have a0 := ha 0 (by omega)
        rw [show p + ((0 : Nat) : Int) = p by omega] at a0
        rw [wv1] at hw
        exfalso
        omega
      · have a0 := ha 0 (by omega)
        rw [show p + ((0 : Nat) : Int) = p by omega] at a0
        have a1 := ha 1 (by omega)
        rw [wvS X p 1, wv1] at hw
        exfalso
        omega
      · have a0 := ha 0 (by omega)
        rw [show p + ((0 : Nat) : Int) = p by omega] at a0
        have a1 := ha 1 (by omega)
        have a2 := ha 2 (by omega)
        rw [wvS X p 2, wvS X p 1, wv1] at hw
        exfalso
        omega
      · have a0 := ha 0 (by omega)
        rw [show p + ((0 : Nat) : Int) = p by omega] at a0
        have a1 := ha 1 (by omega)
        have a2 := ha 2 (by omega)
        have a3 := ha 3 (by omega)
        rw [wvS X p 3, wvS X p 2, wvS X p 1, wv1] at hw
        refine ⟨by omega, fun j hj => ?_⟩
        have hj' : j = 0 ∨ j = 1 ∨ j = 2 ∨ j = 3 := by omega
        rcases hj' with rfl | rfl | rfl | rfl
        · rw [show p + ((0 : Nat) : Int) = p by omega]; exact (show X.1 p = 115 by omega).trans c0.symm
        · exact (show X.1 (p + ((1 : Nat) : Int)) = 116 by omega).trans c1.symm
        · exact (show X.1 (p + ((2 : Nat) : Int)) = 101 by omega).trans c2.symm
        · exact (show X.1 (p + ((3 : Nat) : Int)) = 112 by omega).trans c3.symm
      · have a0 := ha 0 (by omega)
        rw [show p + ((0 : Nat) : Int) = p by omega] at a0
        have a1 := ha 1 (by omega)
        have a2 := ha 2 (by omega)
        have a3 := ha 3 (by omega)
        have a4 := ha 4 (by omega)
        rw [wvS X p 4, wvS X p 3, wvS X p 2, wvS X p 1, wv1] at hw
        exfalso
        omega
    · rw [if_neg n5] at hw
      omega
theorem w_times (hp : p ≤ X.2) : isT X p 1 ↔ tok X p = 2 ∧ wd X p = 21279923 := by
  have hl : wLn 1 = 5 := by decide
  have c0 : wCh 1 0 = 116 := by decide
  have c1 : wCh 1 1 = 105 := by decide
  have c2 : wCh 1 2 = 109 := by decide
  have c3 : wCh 1 3 = 101 := by decide
  have c4 : wCh 1 4 = 115 := by decide
  have e := tkE_in hp
  constructor
  · rintro ⟨h1, h2⟩
    have b0 : X.1 (p + ((0 : Nat) : Int)) = 116 := (h2 0 (by omega)).trans c0
    have b1 : X.1 (p + ((1 : Nat) : Int)) = 105 := (h2 1 (by omega)).trans c1
    have b2 : X.1 (p + ((2 : Nat) : Int)) = 109 := (h2 2 (by omega)).trans c2
    have b3 : X.1 (p + ((3 : Nat) : Int)) = 101 := (h2 3 (by omega)).trans c3
    have b4 : X.1 (p + ((4 : Nat) : Int)) = 115 := (h2 4 (by omega)).trans c4
    have b0' : X.1 p = 116 := by rw [show p + ((0 : Nat) : Int) = p by omega] at b0; exact b0
    refine ⟨tok2.mpr ⟨by omega, by omega, by omega⟩, ?_⟩
    unfold wd wx
    rw [show (tkE X p - p).toNat = 5 by omega, if_pos (by omega), wvS X p 4, wvS X p 3, wvS X p 2, wvS X p 1, wv1, b0', b1, b2, b3, b4]
    rfl
  · rintro ⟨ht, hw⟩
    have ha := wd_all hp ht
    have hlt := (tok2.mp ht).1
    have e3 := e.2.2 hlt
    unfold wd wx at hw
    generalize hn : (tkE X p - p).toNat = n at hw
    have hn1 : tkE X p - p = n := by omega
    by_cases n5 : n ≤ 5
    · rw [if_pos n5] at hw
      have h5 : n = 1 ∨ n = 2 ∨ n = 3 ∨ n = 4 ∨ n = 5 := by omega
      rcases h5 with rfl | rfl | rfl | rfl | rfl
      · have a0 := ha 0 (by omega)
        rw [show p + ((0 : Nat) : Int) = p by omega] at a0
        rw [wv1] at hw
        exfalso
        omega
      · have a0 := ha 0 (by omega)
        rw [show p + ((0 : Nat) : Int) = p by omega] at a0
        have a1 := ha 1 (by omega)
        rw [wvS X p 1, wv1] at hw
        exfalso
        omega
      · have a0 := ha 0 (by omega)
        rw [show p + ((0 : Nat) : Int) = p by omega] at a0
        have a1 := ha 1 (by omega)
        have a2 := ha 2 (by omega)
        rw [wvS X p 2, wvS X p 1, wv1] at hw
        exfalso
        omega
      · have a0 := ha 0 (by omega)
        rw [show p + ((0 : Nat) : Int) = p by omega] at a0
        have a1 := ha 1 (by omega)
        have a2 := ha 2 (by omega)
        have a3 := ha 3 (by omega)
        rw [wvS X p 3, wvS X p 2, wvS X p 1, wv1] at hw
        exfalso
        omega
      · have a0 := ha 0 (by omega)
        rw [show p + ((0 : Nat) : Int) = p by omega] at a0
        have a1 := ha 1 (by omega)
        have a2 := ha 2 (by omega)
        have a3 := ha 3 (by omega)
        have a4 := ha 4 (by omega)
        rw [wvS X p 4, wvS X p 3, wvS X p 2, wvS X p 1, wv1] at hw
        refine ⟨by omega, fun j hj => ?_⟩
        have hj' : j = 0 ∨ j = 1 ∨ j = 2 ∨ j = 3 ∨ j = 4 := by omega
        rcases hj' with rfl | rfl | rfl | rfl | rfl
        · rw [show p + ((0 : Nat) : Int) = p by omega]; exact (show X.1 p = 116 by omega).trans c0.symm
        · exact (show X.1 (p + ((1 : Nat) : Int)) = 105 by omega).trans c1.symm
        · exact (show X.1 (p + ((2 : Nat) : Int)) = 109 by omega).trans c2.symm
        · exact (show X.1 (p + ((3 : Nat) : Int)) = 101 by omega).trans c3.symm
        · exact (show X.1 (p + ((4 : Nat) : Int)) = 115 by omega).trans c4.symm
    · rw [if_neg n5] at hw
      omega
theorem w_if (hp : p ≤ X.2) : isT X p 2 ↔ tok X p = 2 ∧ wd X p = 294 := by
  have hl : wLn 2 = 2 := by decide
  have c0 : wCh 2 0 = 105 := by decide
  have c1 : wCh 2 1 = 102 := by decide
  have e := tkE_in hp
  constructor
  · rintro ⟨h1, h2⟩
    have b0 : X.1 (p + ((0 : Nat) : Int)) = 105 := (h2 0 (by omega)).trans c0
    have b1 : X.1 (p + ((1 : Nat) : Int)) = 102 := (h2 1 (by omega)).trans c1
    have b0' : X.1 p = 105 := by rw [show p + ((0 : Nat) : Int) = p by omega] at b0; exact b0
    refine ⟨tok2.mpr ⟨by omega, by omega, by omega⟩, ?_⟩
    unfold wd wx
    rw [show (tkE X p - p).toNat = 2 by omega, if_pos (by omega), wvS X p 1, wv1, b0', b1]
    rfl
  · rintro ⟨ht, hw⟩
    have ha := wd_all hp ht
    have hlt := (tok2.mp ht).1
    have e3 := e.2.2 hlt
    unfold wd wx at hw
    generalize hn : (tkE X p - p).toNat = n at hw
    have hn1 : tkE X p - p = n := by omega
    by_cases n5 : n ≤ 5
    · rw [if_pos n5] at hw
      have h5 : n = 1 ∨ n = 2 ∨ n = 3 ∨ n = 4 ∨ n = 5 := by omega
      rcases h5 with rfl | rfl | rfl | rfl | rfl
      · have a0 := ha 0 (by omega)
        rw [show p + ((0 : Nat) : Int) = p by omega] at a0
        rw [wv1] at hw
        exfalso
        omega
      · have a0 := ha 0 (by omega)
        rw [show p + ((0 : Nat) : Int) = p by omega] at a0
        have a1 := ha 1 (by omega)
        rw [wvS X p 1, wv1] at hw
        refine ⟨by omega, fun j hj => ?_⟩
        have hj' : j = 0 ∨ j = 1 := by omega
        rcases hj' with rfl | rfl
        · rw [show p + ((0 : Nat) : Int) = p by omega]; exact (show X.1 p = 105 by omega).trans c0.symm
        · exact (show X.1 (p + ((1 : Nat) : Int)) = 102 by omega).trans c1.symm
      · have a0 := ha 0 (by omega)
        rw [show p + ((0 : Nat) : Int) = p by omega] at a0
        have a1 := ha 1 (by omega)
        have a2 := ha 2 (by omega)
        rw [wvS X p 2, wvS X p 1, wv1] at hw
        exfalso
        omega
      · have a0 := ha 0 (by omega)
        rw [show p + ((0 : Nat) : Int) = p by omega] at a0
        have a1 := ha 1 (by omega)
        have a2 := ha 2 (by omega)
        have a3 := ha 3 (by omega)
        rw [wvS X p 3, wvS X p 2, wvS X p 1, wv1] at hw
        exfalso
        omega
      · have a0 := ha 0 (by omega)
        rw [show p + ((0 : Nat) : Int) = p by omega] at a0
        have a1 := ha 1 (by omega)
        have a2 := ha 2 (by omega)
        have a3 := ha 3 (by omega)
        have a4 := ha 4 (by omega)
        rw [wvS X p 4, wvS X p 3, wvS X p 2, wvS X p 1, wv1] at hw
        exfalso
        omega
    · rw [if_neg n5] at hw
      omega
theorem w_none (hp : p ≤ X.2) : isT X p 3 ↔ tok X p = 2 ∧ wd X p = 474565 := by
  have hl : wLn 3 = 4 := by decide
  have c0 : wCh 3 0 = 110 := by decide
  have c1 : wCh 3 1 = 111 := by decide
  have c2 : wCh 3 2 = 110 := by decide
  have c3 : wCh 3 3 = 101 := by decide
  have e := tkE_in hp
  constructor
  · rintro ⟨h1, h2⟩
    have b0 : X.1 (p + ((0 : Nat) : Int)) = 110 := (h2 0 (by omega)).trans c0
    have b1 : X.1 (p + ((1 : Nat) : Int)) = 111 := (h2 1 (by omega)).trans c1
    have b2 : X.1 (p + ((2 : Nat) : Int)) = 110 := (h2 2 (by omega)).trans c2
    have b3 : X.1 (p + ((3 : Nat) : Int)) = 101 := (h2 3 (by omega)).trans c3
    have b0' : X.1 p = 110 := by rw [show p + ((0 : Nat) : Int) = p by omega] at b0; exact b0
    refine ⟨tok2.mpr ⟨by omega, by omega, by omega⟩, ?_⟩
    unfold wd wx
    rw [show (tkE X p - p).toNat = 4 by omega, if_pos (by omega), wvS X p 3, wvS X p 2, wvS X p 1, wv1, b0', b1, b2, b3]
    rfl
  · rintro ⟨ht, hw⟩
    have ha := wd_all hp ht
    have hlt := (tok2.mp ht).1
    have e3 := e.2.2 hlt
    unfold wd wx at hw
    generalize hn : (tkE X p - p).toNat = n at hw
    have hn1 : tkE X p - p = n := by omega
    by_cases n5 : n ≤ 5
    · rw [if_pos n5] at hw
      have h5 : n = 1 ∨ n = 2 ∨ n = 3 ∨ n = 4 ∨ n = 5 := by omega
      rcases h5 with rfl | rfl | rfl | rfl | rfl
      · have a0 := ha 0 (by omega)
        rw [show p + ((0 : Nat) : Int) = p by omega] at a0
        rw [wv1] at hw
        exfalso
        omega
      · have a0 := ha 0 (by omega)
        rw [show p + ((0 : Nat) : Int) = p by omega] at a0
        have a1 := ha 1 (by omega)
        rw [wvS X p 1, wv1] at hw
        exfalso
        omega
      · have a0 := ha 0 (by omega)
        rw [show p + ((0 : Nat) : Int) = p by omega] at a0
        have a1 := ha 1 (by omega)
        have a2 := ha 2 (by omega)
        rw [wvS X p 2, wvS X p 1, wv1] at hw
        exfalso
        omega
      · have a0 := ha 0 (by omega)
        rw [show p + ((0 : Nat) : Int) = p by omega] at a0
        have a1 := ha 1 (by omega)
        have a2 := ha 2 (by omega)
        have a3 := ha 3 (by omega)
        rw [wvS X p 3, wvS X p 2, wvS X p 1, wv1] at hw
        refine ⟨by omega, fun j hj => ?_⟩
        have hj' : j = 0 ∨ j = 1 ∨ j = 2 ∨ j = 3 := by omega
        rcases hj' with rfl | rfl | rfl | rfl
        · rw [show p + ((0 : Nat) : Int) = p by omega]; exact (show X.1 p = 110 by omega).trans c0.symm
        · exact (show X.1 (p + ((1 : Nat) : Int)) = 111 by omega).trans c1.symm
        · exact (show X.1 (p + ((2 : Nat) : Int)) = 110 by omega).trans c2.symm
        · exact (show X.1 (p + ((3 : Nat) : Int)) = 101 by omega).trans c3.symm
      · have a0 := ha 0 (by omega)
        rw [show p + ((0 : Nat) : Int) = p by omega] at a0
        have a1 := ha 1 (by omega)
        have a2 := ha 2 (by omega)
        have a3 := ha 3 (by omega)
        have a4 := ha 4 (by omega)
        rw [wvS X p 4, wvS X p 3, wvS X p 2, wvS X p 1, wv1] at hw
        exfalso
        omega
    · rw [if_neg n5] at hw
      omega
theorem w_new (hp : p ≤ X.2) : isT X p 4 ↔ tok X p = 2 ∧ wd X p = 14519 := by
  have hl : wLn 4 = 3 := by decide
  have c0 : wCh 4 0 = 110 := by decide
  have c1 : wCh 4 1 = 101 := by decide
  have c2 : wCh 4 2 = 119 := by decide
  have e := tkE_in hp
  constructor
  · rintro ⟨h1, h2⟩
    have b0 : X.1 (p + ((0 : Nat) : Int)) = 110 := (h2 0 (by omega)).trans c0
    have b1 : X.1 (p + ((1 : Nat) : Int)) = 101 := (h2 1 (by omega)).trans c1
    have b2 : X.1 (p + ((2 : Nat) : Int)) = 119 := (h2 2 (by omega)).trans c2
    have b0' : X.1 p = 110 := by rw [show p + ((0 : Nat) : Int) = p by omega] at b0; exact b0
    refine ⟨tok2.mpr ⟨by omega, by omega, by omega⟩, ?_⟩
    unfold wd wx
    rw [show (tkE X p - p).toNat = 3 by omega, if_pos (by omega), wvS X p 2, wvS X p 1, wv1, b0', b1, b2]
    rfl
  · rintro ⟨ht, hw⟩
    have ha := wd_all hp ht
    have hlt := (tok2.mp ht).1
    have e3 := e.2.2 hlt
    unfold wd wx at hw
    generalize hn : (tkE X p - p).toNat = n at hw
    have hn1 : tkE X p - p = n := by omega
    by_cases n5 : n ≤ 5
    · rw [if_pos n5] at hw
      have h5 : n = 1 ∨ n = 2 ∨ n = 3 ∨ n = 4 ∨ n = 5 := by omega
      rcases h5 with rfl | rfl | rfl | rfl | rfl
      · have a0 := ha 0 (by omega)
        rw [show p + ((0 : Nat) : Int) = p by omega] at a0
        rw [wv1] at hw
        exfalso
        omega
      · have a0 := ha 0 (by omega)
        rw [show p + ((0 : Nat) : Int) = p by omega] at a0
        have a1 := ha 1 (by omega)
        rw [wvS X p 1, wv1] at hw
        exfalso
        omega
      · have a0 := ha 0 (by omega)
        rw [show p + ((0 : Nat) : Int) = p by omega] at a0
        have a1 := ha 1 (by omega)
        have a2 := ha 2 (by omega)
        rw [wvS X p 2, wvS X p 1, wv1] at hw
        refine ⟨by omega, fun j hj => ?_⟩
        have hj' : j = 0 ∨ j = 1 ∨ j = 2 := by omega
        rcases hj' with rfl | rfl | rfl
        · rw [show p + ((0 : Nat) : Int) = p by omega]; exact (show X.1 p = 110 by omega).trans c0.symm
        · exact (show X.1 (p + ((1 : Nat) : Int)) = 101 by omega).trans c1.symm
        · exact (show X.1 (p + ((2 : Nat) : Int)) = 119 by omega).trans c2.symm
      · have a0 := ha 0 (by omega)
        rw [show p + ((0 : Nat) : Int) = p by omega] at a0
        have a1 := ha 1 (by omega)
        have a2 := ha 2 (by omega)
        have a3 := ha 3 (by omega)
        rw [wvS X p 3, wvS X p 2, wvS X p 1, wv1] at hw
        exfalso
        omega
      · have a0 := ha 0 (by omega)
        rw [show p + ((0 : Nat) : Int) = p by omega] at a0
        have a1 := ha 1 (by omega)
        have a2 := ha 2 (by omega)
        have a3 := ha 3 (by omega)
        have a4 := ha 4 (by omega)
        rw [wvS X p 4, wvS X p 3, wvS X p 2, wvS X p 1, wv1] at hw
        exfalso
        omega
    · rw [if_neg n5] at hw
      omega
theorem w_root (hp : p ≤ X.2) : ((tkE X p - p = 1 ∧ 97 ≤ X.1 p ∧ X.1 p < 103) ↔ tok X p = 2 ∧ 1 ≤ wd X p ∧ wd X p ≤ 6) ∧ (tkE X p - p = 1 ∧ 97 ≤ X.1 p ∧ X.1 p < 103 → wd X p - 1 = X.1 p - 97) := by
  have e := tkE_in hp
  have hv : tkE X p - p = 1 → wd X p = X.1 p - 96 := by
    intro h
    unfold wd wx
    rw [show (tkE X p - p).toNat = 1 by omega, if_pos (by omega), wv1]
  refine ⟨⟨fun h => ?_, fun h => ?_⟩, fun h => by rw [hv h.1]; omega⟩
  · have := hv h.1
    exact ⟨tok2.mpr ⟨by omega, by omega, by omega⟩, by omega, by omega⟩
  · obtain ⟨ht, hw1, hw6⟩ := h
    have ha := wd_all hp ht
    have hlt := (tok2.mp ht).1
    have e3 := e.2.2 hlt
    unfold wd wx at hw1 hw6
    generalize hn : (tkE X p - p).toNat = n at hw1 hw6
    have hn1 : tkE X p - p = n := by omega
    by_cases n5 : n ≤ 5
    · rw [if_pos n5] at hw1 hw6
      have h5 : n = 1 ∨ n = 2 ∨ n = 3 ∨ n = 4 ∨ n = 5 := by omega
      rcases h5 with rfl | rfl | rfl | rfl | rfl
      · have a0 := ha 0 (by omega)
        rw [show p + ((0 : Nat) : Int) = p by omega] at a0
        rw [wv1] at hw1 hw6
        exact ⟨by omega, by omega, by omega⟩
      · have a0 := ha 0 (by omega)
        rw [show p + ((0 : Nat) : Int) = p by omega] at a0
        have a1 := ha 1 (by omega)
        rw [wvS X p 1, wv1] at hw1 hw6
        exfalso
        omega
      · have a0 := ha 0 (by omega)
        rw [show p + ((0 : Nat) : Int) = p by omega] at a0
        have a1 := ha 1 (by omega)
        have a2 := ha 2 (by omega)
        rw [wvS X p 2, wvS X p 1, wv1] at hw1 hw6
        exfalso
        omega
      · have a0 := ha 0 (by omega)
        rw [show p + ((0 : Nat) : Int) = p by omega] at a0
        have a1 := ha 1 (by omega)
        have a2 := ha 2 (by omega)
        have a3 := ha 3 (by omega)
        rw [wvS X p 3, wvS X p 2, wvS X p 1, wv1] at hw1 hw6
        exfalso
        omega
      · have a0 := ha 0 (by omega)
        rw [show p + ((0 : Nat) : Int) = p by omega] at a0
        have a1 := ha 1 (by omega)
        have a2 := ha 2 (by omega)
        have a3 := ha 3 (by omega)
        have a4 := ha 4 (by omega)
        rw [wvS X p 4, wvS X p 3, wvS X p 2, wvS X p 1, wv1] at hw1 hw6
        exfalso
        omega
    · rw [if_neg n5] at hw1 hw6
      omega
end WI
section LF
variable {K : az_K} {rd tp : Int} {X : pTx} {p : Int} {fe : pE}
theorem sp_rootHere (hK : RtK K rd tp) (M : az_M) (h : GS M rd tp X p fe) : AM yX2_rootHere cX2_rootHere 1 (some .int) 0 0 0 [(1, rd)] K M (qp K M (if tok X p = 2 ∧ 1 ≤ wd X p ∧ wd X p ≤ 6 then wd X p - 1 else -1)) := by
  obtain ⟨kr, k8, kt, y5, hs⟩ := hK
  refine am_of (by decide) (Nat.le_of_ble_eq_true rfl) (L := [(1, rd)]) rfl ?_
  obtain ⟨h1, h2, h3, h4, h5, h6⟩ := h
  obtain ⟨r1, r2⟩ := w_root (X := X) h2.2
  have he := tkE_in (X := X) h2.2
  have c3 := h1.2.2.2.1
  generalize hV : (if tok X p = 2 ∧ 1 ≤ wd X p ∧ wd X p ≤ 6 then wd X p - 1 else -1) = V
  have no : ¬ (tkE X p - p = 1 ∧ 97 ≤ X.1 p ∧ X.1 p < 103) → AW az_P0 (az_Z (qp K M V) 0 0) (az_rm 0 0 0) yX2_rootHere cX2_rootHere 1 (some .int) 0 0 41 [(1, rd)] [] K M := by
    intro hn
    rw [if_neg (fun q => hn (r1.mpr q))] at hV
    refine aw_iconst dX2_rootHere_41 rfl ⟨by decide, by decide⟩ ?_
    exact aw_iret dX2_rootHere_42 (by decide) (by decide) (qp_i hV)
  refine aw_aload_n dX2_rootHere_0 rfl rfl ⟨by decide, by decide⟩ ?_
  refine aw_gi 3 dX2_rootHere_1 fl_RX2_22 (by assumption) rfl rfl h4 ?_
  refine aw_aload_n dX2_rootHere_4 rfl rfl ⟨by decide, by decide⟩ ?_
  refine aw_gi 2 dX2_rootHere_5 fl_RX2_19 (by assumption) rfl rfl h3 ?_
  refine aw_isub dX2_rootHere_8 (az_wr_id (by omega) (by omega)) ?_
  refine aw_iconst dX2_rootHere_9 rfl ⟨by decide, by decide⟩ ?_
  refine aw_icmp_ne (tgt := 41) dX2_rootHere_10 rfl (fun h10 => ?_) (fun h10 => ?_)
  · exact no (fun q => h10 q.1)
  · have v := (h1.2.2.2.2 p h2.1 (by omega)).1
    refine aw_aload_n dX2_rootHere_13 rfl rfl ⟨by decide, by decide⟩ ?_
    refine aw_gr 0 dX2_rootHere_14 fl_RX2_9 (by assumption) rfl rfl h1.1 ?_
    refine aw_aload_n dX2_rootHere_17 rfl rfl ⟨by decide, by decide⟩ ?_
    refine aw_gi 2 dX2_rootHere_18 fl_RX2_19 (by assumption) rfl rfl h3 ?_
    refine aw_iv dX2_rootHere_21 (by assumption) (by omega) (by omega) v ?_
    refine aw_bipush dX2_rootHere_22 (by decide) ⟨by decide, by decide⟩ ?_
    refine aw_icmp_lt (tgt := 41) dX2_rootHere_24 rfl (fun h24 => ?_) (fun h24 => ?_)
    · exact no (fun q => by omega)
    · refine aw_aload_n dX2_rootHere_27 rfl rfl ⟨by decide, by decide⟩ ?_
      refine aw_gr 0 dX2_rootHere_28 fl_RX2_9 (by assumption) rfl rfl h1.1 ?_
      refine aw_aload_n dX2_rootHere_31 rfl rfl ⟨by decide, by decide⟩ ?_
      refine aw_gi 2 dX2_rootHere_32 fl_RX2_19 (by assumption) rfl rfl h3 ?_
      refine aw_iv dX2_rootHere_35 (by assumption) (by omega) (by omega) v ?_
      refine aw_bipush dX2_rootHere_36 (by decide) ⟨by decide, by decide⟩ ?_
      refine aw_icmp_lt (tgt := 43) dX2_rootHere_38 rfl (fun h38 => ?_) (fun h38 => ?_)
      · have hy : tkE X p - p = 1 ∧ 97 ≤ X.1 p ∧ X.1 p < 103 := ⟨h10, by omega, by omega⟩
        rw [if_pos (r1.mp hy), r2 hy] at hV
        refine aw_aload_n dX2_rootHere_43 rfl rfl ⟨by decide, by decide⟩ ?_
        refine aw_gr 0 dX2_rootHere_44 fl_RX2_9 (by assumption) rfl rfl h1.1 ?_
        refine aw_aload_n dX2_rootHere_47 rfl rfl ⟨by decide, by decide⟩ ?_
        refine aw_gi 2 dX2_rootHere_48 fl_RX2_19 (by assumption) rfl rfl h3 ?_
        refine aw_iv dX2_rootHere_51 (by assumption) (by omega) (by omega) v ?_
        refine aw_bipush dX2_rootHere_52 (by decide) ⟨by decide, by decide⟩ ?_
        refine aw_isub dX2_rootHere_54 (az_wr_id (by omega) (by omega)) ?_
        exact aw_iret dX2_rootHere_55 (by decide) (by decide) (qp_i hV)
      · exact no (fun q => by omega)
theorem nt_d {e : pE} (h : e.1 ≠ 0) (k p : Int) : nt e k p = e := if_neg h
theorem nt_l (k p : Int) : nt (0, -1) k p = (k, p) := if_pos rfl
theorem sp_creadSign (hK : RtK K rd tp) (M : az_M) (h : GS M rd tp X p fe) (c : Int) : AM yX2_readSign cX2_readSign 2 none 2 0 0 [(1, rd), (0, c)] K M (qv K (fun M' => (p < X.2 ∧ X.1 p = c → GS M' rd tp X (tkA X (tkE X p)) fe) ∧ (¬ (p < X.2 ∧ X.1 p = c) → GS M' rd tp X p (nt fe 1 p)) ∧ frL M M' rd)) := by
  have hK0 := hK
  obtain ⟨kr, k8, kt, y5, hs⟩ := hK
  refine am_of (by decide) (Nat.le_of_ble_eq_true rfl) (L := [(1, rd), (0, c)]) rfl ?_
  refine aw_aload_n dX2_readSign_0 rfl rfl ⟨by decide, by decide⟩ ?_
  refine aw_iload_n dX2_readSign_1 rfl rfl ?_
  refine aw_cV1p dX2_readSign_2 ml_RX2_50 (by assumption) (by decide) rfl rfl ⟨by decide, by decide, by decide, by decide⟩ (Nat.le_of_ble_eq_true rfl) (sp_cisSign hK0 M h c) ?_
  refine aw_if_eq (tgt := 15) dX2_readSign_5 rfl (fun h5 => ?_) (fun h5 => ?_)
  · have hn := if0 h5
    refine aw_aload_n dX2_readSign_15 rfl rfl ⟨by decide, by decide⟩ ?_
    refine aw_iconst dX2_readSign_16 rfl ⟨by decide, by decide⟩ ?_
    refine aw_cV1v dX2_readSign_17 ml_RX2_60 (by assumption) (by decide) rfl rfl ⟨by decide, by decide, by decide, by decide⟩ (Nat.le_of_ble_eq_true rfl) (sp_note hK0 M h 1) (fun M1 hM1 => ?_)
    exact aw_vret dX2_readSign_20 (by decide) (by decide) ⟨rfl, rfl, fun q => absurd q hn, fun _ => hM1.1, hM1.2⟩
  · have hy := if1 h5
    refine aw_aload_n dX2_readSign_8 rfl rfl ⟨by decide, by decide⟩ ?_
    refine aw_cV0v dX2_readSign_9 ml_RX2_47 (by assumption) (by decide) rfl rfl ⟨by decide, by decide, by decide, by decide⟩ (Nat.le_of_ble_eq_true rfl) (sp_advG hK0 M h) (fun M1 hM1 => ?_)
    have ha := h.adv hK0 hM1
    refine aw_goto (tgt := 20) dX2_readSign_12 rfl ?_
    exact aw_vret dX2_readSign_20 (by decide) (by decide) ⟨rfl, rfl, fun _ => ha.1, fun q => absurd hy q, ha.2⟩
abbrev rtP (X : pTx) (p : Int) : Prop := tok X p = 2 ∧ 1 ≤ wd X p ∧ wd X p ≤ 6
theorem sp_creadRoot (hK : RtK K rd tp) (M : az_M) (h : GS M rd tp X p fe) (b : Int) (hb : b = 0 ∨ b = 1) : AM yX2_readRoot cX2_readRoot 3 (some .int) 5 0 0 [(1, rd), (0, b)] K M (qi K (fun z M' => z = (if rtP X p then wd X p - 1 else -1) ∧ (rtP X p ∨ b = 1 ∧ tok X p = 2 ∧ wd X p = 474565 → GS M' rd tp X (tkA X (tkE X p)) fe) ∧ (¬ (rtP X p ∨ b = 1 ∧ tok X p = 2 ∧ wd X p = 474565) → GS M' rd tp X p (nt fe 1 p)) ∧ frL M M' rd)) := by
  have hK0 := hK
  obtain ⟨kr, k8, kt, y5, hs⟩ := hK
  refine am_of (by decide) (Nat.le_of_ble_eq_true rfl) (L := [(1, rd), (0, b), (9, 0)]) rfl ?_
  have hw := w_none (X := X) h.2.1.2
  generalize hV : (if rtP X p then wd X p - 1 else -1) = V
  have hr := qp_c (sp_rootHere hK0 M h) hV
  generalize hQ : (fun (z : Int) (M' : az_M) => z = V ∧ (rtP X p ∨ b = 1 ∧ tok X p = 2 ∧ wd X p = 474565 → GS M' rd tp X (tkA X (tkE X p)) fe) ∧ (¬ (rtP X p ∨ b = 1 ∧ tok X p = 2 ∧ wd X p = 474565) → GS M' rd tp X p (nt fe 1 p)) ∧ frL M M' rd) = Q
  have yes : (rtP X p ∨ b = 1 ∧ tok X p = 2 ∧ wd X p = 474565) → AW az_P0 (az_Z (qi K Q) 0 0) (az_rm 5 0 0) yX2_readRoot cX2_readRoot 3 (some .int) 0 0 31 [(1, rd), (0, b), (0, V)] [] K M := by
    intro hy
    refine aw_aload_n dX2_readRoot_31 rfl rfl ⟨by decide, by decide⟩ ?_
    refine aw_cV0v dX2_readRoot_32 ml_RX2_47 (by assumption) (by decide) rfl rfl ⟨by decide, by decide, by decide, by decide⟩ (Nat.le_of_ble_eq_true rfl) (sp_advG hK0 M h) (fun M1 hM1 => ?_)
    have ha := h.adv hK0 hM1
    refine aw_iload_n dX2_readRoot_35 rfl rfl ?_
    refine aw_iret dX2_readRoot_36 (by decide) (by decide) ⟨_, rfl, rfl, ?_⟩
    rw [← hQ]
    exact ⟨rfl, fun _ => ha.1, fun q => absurd hy q, ha.2⟩
  have no : ¬ (rtP X p ∨ b = 1 ∧ tok X p = 2 ∧ wd X p = 474565) → AW az_P0 (az_Z (qi K Q) 0 0) (az_rm 5 0 0) yX2_readRoot cX2_readRoot 3 (some .int) 0 0 23 [(1, rd), (0, b), (0, V)] [] K M := by
    intro hn
    refine aw_aload_n dX2_readRoot_23 rfl rfl ⟨by decide, by decide⟩ ?_
    refine aw_iconst dX2_readRoot_24 rfl ⟨by decide, by decide⟩ ?_
    refine aw_cV1v dX2_readRoot_25 ml_RX2_60 (by assumption) (by decide) rfl rfl ⟨by decide, by decide, by decide, by decide⟩ (Nat.le_of_ble_eq_true rfl) (sp_note hK0 M h 1) (fun M1 hM1 => ?_)
    refine aw_goto (tgt := 35) dX2_readRoot_28 rfl ?_
    refine aw_iload_n dX2_readRoot_35 rfl rfl ?_
    refine aw_iret dX2_readRoot_36 (by decide) (by decide) ⟨_, rfl, rfl, ?_⟩
    rw [← hQ]
    exact ⟨rfl, fun q => absurd q hn, fun _ => hM1.1, hM1.2⟩
  refine aw_aload_n dX2_readRoot_0 rfl rfl ⟨by decide, by decide⟩ ?_
  refine aw_cV0p dX2_readRoot_1 ml_RX2_86 (by assumption) (by decide) rfl rfl ⟨by decide, by decide, by decide, by decide⟩ (Nat.le_of_ble_eq_true rfl) (hr) ?_
  refine aw_istore_n dX2_readRoot_4 rfl (by decide) ?_
  refine aw_iload_n dX2_readRoot_5 rfl rfl ?_
  refine aw_iconst dX2_readRoot_6 rfl ⟨by decide, by decide⟩ ?_
  refine aw_icmp_ne (tgt := 31) dX2_readRoot_7 rfl (fun h7 => ?_) (fun h7 => ?_)
  · refine yes (Or.inl (Classical.byContradiction (fun q => ?_)))
    rw [if_neg q] at hV
    exact h7 hV.symm
  · have hnr : ¬ rtP X p := fun q => by
      rw [if_pos q] at hV
      have := q.2
      omega
    refine aw_iload_n dX2_readRoot_10 rfl rfl ?_
    refine aw_if_eq (tgt := 23) dX2_readRoot_11 rfl (fun h11 => ?_) (fun h11 => ?_)
    · exact no (fun q => q.elim hnr (fun w => by omega))
    · refine aw_aload_n dX2_readRoot_14 rfl rfl ⟨by decide, by decide⟩ ?_
      refine aw_ldcS (i := 3) dX2_readRoot_15 (by decide) rfl rfl ?_
      refine aw_cV1i dX2_readRoot_17 ml_RX2_91 (by assumption) (by decide) rfl rfl ⟨by decide, by decide, by decide, by decide⟩ (Nat.le_of_ble_eq_true rfl) (sp_cisWord hK0 M h 3 (by omega) (by omega)) (fun z1 M1 hz1 => ?_)
      obtain ⟨tz, eM⟩ := hz1
      subst eM
      have t01 := tv01 tz
      refine aw_if_ne (tgt := 31) dX2_readRoot_20 rfl (fun h20 => ?_) (fun h20 => ?_)
      · exact yes (Or.inr ⟨by omega, hw.mp (tv1 tz h20)⟩)
      · exact no (fun q => q.elim hnr (fun w => tv0 tz h20 (hw.mpr w.2)))
set_option maxHeartbeats 1000000 in
theorem sp_creadNumber (hK : RtK K rd tp) (M : az_M) (h : GS M rd tp X p fe) (lo hi : Int) (hh : hi < 1000) : AM yX2_readNumber cX2_readNumber 5 (some .int) 2 0 0 [(1, rd), (0, lo), (0, hi)] K M (qi K (fun z M' => (tok X p ≠ 3 → z = -1 ∧ GS M' rd tp X p (nt fe 1 p)) ∧ (tok X p = 3 → ¬ (lo ≤ nm X p ∧ nm X p ≤ hi) → z = -1 ∧ GS M' rd tp X p (nt fe 2 p)) ∧ (tok X p = 3 → lo ≤ nm X p ∧ nm X p ≤ hi → z = nm X p ∧ GS M' rd tp X (tkA X (tkE X p)) fe) ∧ frL M M' rd)) := by
  have hK0 := hK
  obtain ⟨kr, k8, kt, y5, hs⟩ := hK
  refine am_of (by decide) (Nat.le_of_ble_eq_true rfl) (L := [(1, rd), (0, lo), (0, hi), (9, 0), (9, 0)]) rfl ?_
  obtain ⟨h1, h2, h3, h4, h5, h6⟩ := id h
  have he := tkE_in (X := X) h2.2
  have c2 := h1.2.2.1
  have c3 := h1.2.2.2.1
  generalize hQ : (fun (z : Int) (M' : az_M) => (tok X p ≠ 3 → z = -1 ∧ GS M' rd tp X p (nt fe 1 p)) ∧ (tok X p = 3 → ¬ (lo ≤ nm X p ∧ nm X p ≤ hi) → z = -1 ∧ GS M' rd tp X p (nt fe 2 p)) ∧ (tok X p = 3 → lo ≤ nm X p ∧ nm X p ≤ hi → z = nm X p ∧ GS M' rd tp X (tkA X (tkE X p)) fe) ∧ frL M M' rd) = Q
  refine aw_aload_n dX2_readNumber_0 rfl rfl ⟨by decide, by decide⟩ ?_
  refine aw_aload_n dX2_readNumber_1 rfl rfl ⟨by decide, by decide⟩ ?_
  refine aw_gi 2 dX2_readNumber_2 fl_RX2_19 (by assumption) rfl rfl h3 ?_
  refine aw_cV1p dX2_readNumber_5 ml_RX2_74 (by assumption) (by decide) rfl rfl ⟨by decide, by decide, by decide, by decide⟩ (Nat.le_of_ble_eq_true rfl) (sp_cisDigit hK0 M h1 p h2.1) ?_
  refine aw_if_ne (tgt := 18) dX2_readNumber_8 rfl (fun h8 => ?_) (fun h8 => ?_)
  · have hd := if1 h8
    have ht : tok X p = 3 := tok3.mpr hd
    have hE : tkE X p = rn X 48 57 (X.2 - p).toNat p := by
      unfold tkE
      rw [if_neg (by omega), if_neg (by omega), if_pos hd.2]
    have hall : ∀ j, p ≤ j → j < tkE X p → 48 ≤ X.1 j ∧ X.1 j ≤ 57 := fun j j0 j1 => rn_all 48 57 (X.2 - p).toNat p j j0 (by rw [← hE]; exact j1)
    have he3 := he.2.2 hd.1
    obtain ⟨N, hN⟩ : ∃ N : Nat, (N : Int) = tkE X p - p := ⟨(tkE X p - p).toNat, by omega⟩
    have hnm : nm X p = nx_ X p N := by unfold nm; rw [show (tkE X p - p).toNat = N by omega]
    have rest : ∀ (k : Nat) (v4 : az_V), (N ≤ 3 → k = N) → 0 ≤ nv X p k → nv X p k ≤ 999 → AW az_P0 (az_Z (qi K Q) 0 0) (az_rm 2 0 0) yX2_readNumber cX2_readNumber 5 (some .int) 0 0 68 [(1, rd), (0, lo), (0, hi), (0, nv X p k), v4] [] K M := by
      intro k v4 hk k0 k9
      have bad : ¬ (lo ≤ nm X p ∧ nm X p ≤ hi) → AW az_P0 (az_Z (qi K Q) 0 0) (az_rm 2 0 0) yX2_readNumber cX2_readNumber 5 (some .int) 0 0 91 [(1, rd), (0, lo), (0, hi), (0, nv X p k), v4] [] K M := by
        intro hn
        refine aw_aload_n dX2_readNumber_91 rfl rfl ⟨by decide, by decide⟩ ?_
        refine aw_iconst dX2_readNumber_92 rfl ⟨by decide, by decide⟩ ?_
        refine aw_cV1v dX2_readNumber_93 ml_RX2_60 (by assumption) (by decide) rfl rfl ⟨by decide, by decide, by decide, by decide⟩ (Nat.le_of_ble_eq_true rfl) (sp_note hK0 M h 2) (fun M1 hM1 => ?_)
        refine aw_iconst dX2_readNumber_96 rfl ⟨by decide, by decide⟩ ?_
        refine aw_iret dX2_readNumber_97 (by decide) (by decide) ⟨_, rfl, rfl, ?_⟩
        rw [← hQ]
        exact ⟨fun q => absurd ht q, fun _ _ => ⟨rfl, hM1.1⟩, fun _ q => absurd q hn, hM1.2⟩
      refine aw_aload_n dX2_readNumber_68 rfl rfl ⟨by decide, by decide⟩ ?_
      refine aw_gi 3 dX2_readNumber_69 fl_RX2_22 (by assumption) rfl rfl h4 ?_
      refine aw_aload_n dX2_readNumber_72 rfl rfl ⟨by decide, by decide⟩ ?_
      refine aw_gi 2 dX2_readNumber_73 fl_RX2_19 (by assumption) rfl rfl h3 ?_
      refine aw_isub dX2_readNumber_76 (az_wr_id (by omega) (by omega)) ?_
      refine aw_iconst dX2_readNumber_77 rfl ⟨by decide, by decide⟩ ?_
      refine aw_icmp_gt (tgt := 91) dX2_readNumber_78 rfl (fun h78 => ?_) (fun h78 => ?_)
      · refine bad ?_
        rw [hnm]
        unfold nx_
        rw [if_neg (by omega)]
        omega
      · have hkN : k = N := hk (by omega)
        have hnk : nm X p = nv X p k := by rw [hnm, hkN]; unfold nx_; rw [if_pos (by omega)]
        refine aw_iload_n dX2_readNumber_81 rfl rfl ?_
        refine aw_iload_n dX2_readNumber_82 rfl rfl ?_
        refine aw_icmp_lt (tgt := 91) dX2_readNumber_83 rfl (fun h83 => ?_) (fun h83 => ?_)
        · exact bad (by omega)
        · refine aw_iload_n dX2_readNumber_86 rfl rfl ?_
          refine aw_iload_n dX2_readNumber_87 rfl rfl ?_
          refine aw_icmp_le (tgt := 98) dX2_readNumber_88 rfl (fun h88 => ?_) (fun h88 => ?_)
          · refine aw_aload_n dX2_readNumber_98 rfl rfl ⟨by decide, by decide⟩ ?_
            refine aw_cV0v dX2_readNumber_99 ml_RX2_47 (by assumption) (by decide) rfl rfl ⟨by decide, by decide, by decide, by decide⟩ (Nat.le_of_ble_eq_true rfl) (sp_advG hK0 M h) (fun M1 hM1 => ?_)
            have ha := h.adv hK0 hM1
            refine aw_iload_n dX2_readNumber_102 rfl rfl ?_
            refine aw_iret dX2_readNumber_103 (by decide) (by decide) ⟨_, rfl, rfl, ?_⟩
            rw [← hQ]
            exact ⟨fun q => absurd ht q, fun _ q => absurd ⟨by omega, by omega⟩ q, fun _ _ => ⟨hnk.symm, ha.1⟩, ha.2⟩
          · exact bad (by omega)
    have hnvb : ∀ k : Nat, k ≤ N → k ≤ 3 → 0 ≤ nv X p k ∧ nv X p k ≤ 999 := fun k hk k3 => by
      have := nv_in (X := X) (p := p) k (fun i hi => hall (p + i) (by omega) (by omega))
      have := nB_in k3
      omega
    refine aw_iconst dX2_readNumber_18 rfl ⟨by decide, by decide⟩ ?_
    refine aw_istore_n dX2_readNumber_19 rfl (by decide) ?_
    refine aw_aload_n dX2_readNumber_20 rfl rfl ⟨by decide, by decide⟩ ?_
    refine aw_gi 2 dX2_readNumber_21 fl_RX2_19 (by assumption) rfl rfl h3 ?_
    refine aw_istore dX2_readNumber_24 (by decide) ?_
    have loop : ∀ (d k : Nat), k + d = 3 → k ≤ N → AW az_P0 (az_Z (qi K Q) 0 0) (az_rm 2 0 0) yX2_readNumber cX2_readNumber 5 (some .int) 0 0 26 [(1, rd), (0, lo), (0, hi), (0, nv X p k), (0, p + (k : Int))] [] K M := by
      intro d
      induction d with
      | zero =>
        intro k hk hkN
        obtain ⟨n0, n9⟩ := hnvb k hkN (by omega)
        refine aw_iload dX2_readNumber_26 rfl ?_
        refine aw_aload_n dX2_readNumber_28 rfl rfl ⟨by decide, by decide⟩ ?_
        refine aw_gi 3 dX2_readNumber_29 fl_RX2_22 (by assumption) rfl rfl h4 ?_
        refine aw_icmp_ge (tgt := 68) dX2_readNumber_32 rfl (fun h32 => ?_) (fun h32 => ?_)
        · exact rest k _ (fun _ => by omega) n0 n9
        · refine aw_iload dX2_readNumber_35 rfl ?_
          refine aw_aload_n dX2_readNumber_37 rfl rfl ⟨by decide, by decide⟩ ?_
          refine aw_gi 2 dX2_readNumber_38 fl_RX2_19 (by assumption) rfl rfl h3 ?_
          refine aw_iconst dX2_readNumber_41 rfl ⟨by decide, by decide⟩ ?_
          refine aw_iadd dX2_readNumber_42 (az_wr_id (by omega) (by omega)) ?_
          refine aw_icmp_ge (tgt := 68) dX2_readNumber_43 rfl (fun h43 => ?_) (fun h43 => absurd h43 (by omega))
          exact rest k _ (fun _ => by omega) n0 n9
      | succ d ih =>
        intro k hk hkN
        obtain ⟨n0, n9⟩ := hnvb k hkN (by omega)
        refine aw_iload dX2_readNumber_26 rfl ?_
        refine aw_aload_n dX2_readNumber_28 rfl rfl ⟨by decide, by decide⟩ ?_
        refine aw_gi 3 dX2_readNumber_29 fl_RX2_22 (by assumption) rfl rfl h4 ?_
        refine aw_icmp_ge (tgt := 68) dX2_readNumber_32 rfl (fun h32 => ?_) (fun h32 => ?_)
        · exact rest k _ (fun _ => by omega) n0 n9
        · obtain ⟨m0, m9⟩ := hnvb (k + 1) (by omega) (by omega)
          have hst : nv X p (k + 1) = 10 * nv X p k + X.1 (p + k) - 48 := rfl
          have hby := hall (p + k) (by omega) (by omega)
          have v56 := (h1.2.2.2.2 (p + k) (by omega) (by omega)).1
          refine aw_iload dX2_readNumber_35 rfl ?_
          refine aw_aload_n dX2_readNumber_37 rfl rfl ⟨by decide, by decide⟩ ?_
          refine aw_gi 2 dX2_readNumber_38 fl_RX2_19 (by assumption) rfl rfl h3 ?_
          refine aw_iconst dX2_readNumber_41 rfl ⟨by decide, by decide⟩ ?_
          refine aw_iadd dX2_readNumber_42 (az_wr_id (by omega) (by omega)) ?_
          refine aw_icmp_ge (tgt := 68) dX2_readNumber_43 rfl (fun h43 => absurd h43 (by omega)) (fun h43 => ?_)
          refine aw_bipush dX2_readNumber_46 (by decide) ⟨by decide, by decide⟩ ?_
          refine aw_iload_n dX2_readNumber_48 rfl rfl ?_
          refine aw_imul dX2_readNumber_49 (az_wr_id (by omega) (by omega)) ?_
          refine aw_aload_n dX2_readNumber_50 rfl rfl ⟨by decide, by decide⟩ ?_
          refine aw_gr 0 dX2_readNumber_51 fl_RX2_9 (by assumption) rfl rfl h1.1 ?_
          refine aw_iload dX2_readNumber_54 rfl ?_
          refine aw_iv dX2_readNumber_56 (by assumption) (by omega) (by omega) v56 ?_
          refine aw_iadd dX2_readNumber_57 (az_wr_id (by omega) (by omega)) ?_
          refine aw_bipush dX2_readNumber_58 (by decide) ⟨by decide, by decide⟩ ?_
          refine aw_isub dX2_readNumber_60 (az_wr_id (by omega) (by omega)) ?_
          refine aw_istore_n dX2_readNumber_61 rfl (by decide) ?_
          refine aw_iinc dX2_readNumber_62 rfl (az_wr_id (by omega) (by omega)) (by decide) ?_
          refine aw_goto (tgt := 26) dX2_readNumber_65 rfl ?_
          have := ih (k + 1) (by omega) (by omega)
          rw [hst, show p + ((k + 1 : Nat) : Int) = p + (k : Int) + 1 by omega] at this
          exact this
    have := loop 3 0 (by omega) (by omega)
    rw [show p + ((0 : Nat) : Int) = p by omega] at this
    exact this
  · have hn := if0 h8
    have ht : tok X p ≠ 3 := fun q => hn (tok3.mp q)
    refine aw_aload_n dX2_readNumber_11 rfl rfl ⟨by decide, by decide⟩ ?_
    refine aw_iconst dX2_readNumber_12 rfl ⟨by decide, by decide⟩ ?_
    refine aw_cV1v dX2_readNumber_13 ml_RX2_60 (by assumption) (by decide) rfl rfl ⟨by decide, by decide, by decide, by decide⟩ (Nat.le_of_ble_eq_true rfl) (sp_note hK0 M h 1) (fun M1 hM1 => ?_)
    refine aw_iconst dX2_readNumber_16 rfl ⟨by decide, by decide⟩ ?_
    refine aw_iret dX2_readNumber_17 (by decide) (by decide) ⟨_, rfl, rfl, ?_⟩
    rw [← hQ]
    exact ⟨fun _ => ⟨rfl, hM1.1⟩, fun q => absurd q ht, fun q => absurd q ht, hM1.2⟩
end LF
def addP (M M' : az_M) (s n k r o u : Int) : Prop := M' (s + 1) = rwU (M (s + 1)) n k ∧ M' (s + 2) = rwU (M (s + 2)) n r ∧ M' (s + 3) = rwU (M (s + 3)) n o ∧ M' (s + 4) = rwU (M (s + 4)) n u ∧ M' (s + 5) = rwU (M (s + 5)) n (n + 1) ∧ (∀ x, x < s ∨ s + 5 < x → M' x = M x) ∧ M' s = rwU (M s) 5 (n + 1)
set_option maxHeartbeats 1000000 in
theorem sp_add {K : az_K} {sc : Int} (hK : ScK K sc) (M : az_M) (n : Int) (hn : M sc 5 = n) (n0 : 0 ≤ n) (n1 : n ≤ 40) (k r o u : Int) : AM yX5_add cX5_add 5 none 0 0 0 [(1, sc), (0, k), (0, r), (0, o), (0, u)] K M (qv K (fun M' => (n < 40 → addP M M' sc n k r o u) ∧ (¬ n < 40 → M' = M))) := by
  obtain ⟨s0, s1, s2, s3, s4, s5, x0, x1, x2, x3, x4⟩ := hK
  refine am_of (by decide) (Nat.le_of_ble_eq_true rfl) (L := [(1, sc), (0, k), (0, r), (0, o), (0, u)]) rfl ?_
  refine aw_aload_n dX5_add_0 rfl rfl ⟨by decide, by decide⟩ ?_
  refine aw_gi 5 dX5_add_1 fl_RX5_27 (by assumption) rfl rfl hn ?_
  refine aw_bipush dX5_add_4 (by decide) ⟨by decide, by decide⟩ ?_
  refine aw_icmp_ge (tgt := 75) dX5_add_6 rfl (fun h6 => ?_) (fun h6 => ?_)
  · exact aw_vret dX5_add_75 (by decide) (by decide) ⟨rfl, rfl, fun q => by omega, fun _ => rfl⟩
  · have v24 : az_up M (sc + 1) n k sc 5 = n := by rw [up_oth _ _ _ (by omega)]; exact hn
    have v34 : az_up (az_up M (sc + 1) n k) (sc + 2) n r sc 5 = n := by rw [up_oth _ _ _ (by omega)]; exact v24
    have v44 : az_up (az_up (az_up M (sc + 1) n k) (sc + 2) n r) (sc + 3) n o sc 5 = n := by rw [up_oth _ _ _ (by omega)]; exact v34
    have v52 : az_up (az_up (az_up (az_up M (sc + 1) n k) (sc + 2) n r) (sc + 3) n o) (sc + 4) n u sc 5 = n := by rw [up_oth _ _ _ (by omega)]; exact v44
    have v65 : az_up (az_up (az_up (az_up (az_up M (sc + 1) n k) (sc + 2) n r) (sc + 3) n o) (sc + 4) n u) sc 5 (n + 1) sc 5 = n + 1 := az_up_s _ _ _ _
    refine aw_aload_n dX5_add_9 rfl rfl ⟨by decide, by decide⟩ ?_
    refine aw_gzF 0 dX5_add_10 fl_RX5_9 (by assumption) rfl rfl (by assumption) ?_
    refine aw_aload_n dX5_add_13 rfl rfl ⟨by decide, by decide⟩ ?_
    refine aw_gi 5 dX5_add_14 fl_RX5_27 (by assumption) rfl rfl hn ?_
    refine aw_iload_n dX5_add_17 rfl rfl ?_
    refine aw_iast dX5_add_18 (by assumption) (by omega) (by omega) ?_
    refine aw_aload_n dX5_add_19 rfl rfl ⟨by decide, by decide⟩ ?_
    refine aw_gzF 1 dX5_add_20 fl_RX5_15 (by assumption) rfl rfl (by assumption) ?_
    refine aw_aload_n dX5_add_23 rfl rfl ⟨by decide, by decide⟩ ?_
    refine aw_gi 5 dX5_add_24 fl_RX5_27 (by assumption) rfl rfl v24 ?_
    refine aw_iload_n dX5_add_27 rfl rfl ?_
    refine aw_iast dX5_add_28 (by assumption) (by omega) (by omega) ?_
    refine aw_aload_n dX5_add_29 rfl rfl ⟨by decide, by decide⟩ ?_
    refine aw_gzF 2 dX5_add_30 fl_RX5_18 (by assumption) rfl rfl (by assumption) ?_
    refine aw_aload_n dX5_add_33 rfl rfl ⟨by decide, by decide⟩ ?_
    refine aw_gi 5 dX5_add_34 fl_RX5_27 (by assumption) rfl rfl v34 ?_
    refine aw_iload_n dX5_add_37 rfl rfl ?_
    refine aw_iast dX5_add_38 (by assumption) (by omega) (by omega) ?_
    refine aw_aload_n dX5_add_39 rfl rfl ⟨by decide, by decide⟩ ?_
    refine aw_gzF 3 dX5_add_40 fl_RX5_21 (by assumption) rfl rfl (by assumption) ?_
    refine aw_aload_n dX5_add_43 rfl rfl ⟨by decide, by decide⟩ ?_
    refine aw_gi 5 dX5_add_44 fl_RX5_27 (by assumption) rfl rfl v44 ?_
    refine aw_iload dX5_add_47 rfl ?_
    refine aw_iast dX5_add_49 (by assumption) (by omega) (by omega) ?_
    refine aw_aload_n dX5_add_50 rfl rfl ⟨by decide, by decide⟩ ?_
    refine aw_dup dX5_add_51 ?_
    refine aw_gi 5 dX5_add_52 fl_RX5_27 (by assumption) rfl rfl v52 ?_
    refine aw_iconst dX5_add_55 rfl ⟨by decide, by decide⟩ ?_
    refine aw_iadd dX5_add_56 (az_wr_id (by omega) (by omega)) ?_
    refine aw_pi 5 dX5_add_57 fl_RX5_27 (by assumption) rfl rfl ?_
    refine aw_aload_n dX5_add_60 rfl rfl ⟨by decide, by decide⟩ ?_
    refine aw_gzF 4 dX5_add_61 fl_RX5_24 (by assumption) rfl rfl (by assumption) ?_
    refine aw_aload_n dX5_add_64 rfl rfl ⟨by decide, by decide⟩ ?_
    refine aw_gi 5 dX5_add_65 fl_RX5_27 (by assumption) rfl rfl v65 ?_
    refine aw_iconst dX5_add_68 rfl ⟨by decide, by decide⟩ ?_
    refine aw_isub dX5_add_69 (show az_wr (n + 1 - 1) = n by rw [az_wr_id (by omega) (by omega)]; omega) ?_
    refine aw_aload_n dX5_add_70 rfl rfl ⟨by decide, by decide⟩ ?_
    refine aw_gi 5 dX5_add_71 fl_RX5_27 (by assumption) rfl rfl v65 ?_
    refine aw_iast dX5_add_74 (by assumption) (by omega) (by omega) ?_
    refine aw_vret dX5_add_75 (by decide) (by decide) ⟨rfl, rfl, fun _ => ⟨?_, ?_, ?_, ?_, ?_, fun x hx => ?_, ?_⟩, fun q => by omega⟩
    · rw [up_oth _ _ _ (by omega), up_oth _ _ _ (by omega), up_oth _ _ _ (by omega), up_oth _ _ _ (by omega), up_oth _ _ _ (by omega), up_row]; rfl
    · rw [up_oth _ _ _ (by omega), up_oth _ _ _ (by omega), up_oth _ _ _ (by omega), up_oth _ _ _ (by omega), up_row, up_oth _ _ _ (by omega)]; rfl
    · rw [up_oth _ _ _ (by omega), up_oth _ _ _ (by omega), up_oth _ _ _ (by omega), up_row, up_oth _ _ _ (by omega), up_oth _ _ _ (by omega)]; rfl
    · rw [up_oth _ _ _ (by omega), up_oth _ _ _ (by omega), up_row, up_oth _ _ _ (by omega), up_oth _ _ _ (by omega), up_oth _ _ _ (by omega)]; rfl
    · rw [up_row, up_oth _ _ _ (by omega), up_oth _ _ _ (by omega), up_oth _ _ _ (by omega), up_oth _ _ _ (by omega), up_oth _ _ _ (by omega)]; rfl
    · rw [up_oth _ _ _ (by omega), up_oth _ _ _ (by omega), up_oth _ _ _ (by omega), up_oth _ _ _ (by omega), up_oth _ _ _ (by omega), up_oth _ _ _ (by omega)]
    · rw [up_oth _ _ _ (by omega), up_row, up_oth _ _ _ (by omega), up_oth _ _ _ (by omega), up_oth _ _ _ (by omega), up_oth _ _ _ (by omega)]; rfl
