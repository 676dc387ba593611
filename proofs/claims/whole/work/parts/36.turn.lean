/-! a row that goes to the end of another one; the cells behind a change of colour -/
def Tg (g : Int → Int) (c : Int) (l : List Int) : Int → Int := fun i => if i % 2 = 0 ∧ i / 2 ∈ l then c else g i
def Tr (rg : Int → List Int) (k k' : Int) (l1 l2 : List Int) : Int → List Int := fun x => if x = k then l2 else if x = k' then rg k' ++ l1 else rg x
theorem Tg_step (g : Int → Int) (c : Int) (l : List Int) (n : Int) : gu (Tg g c l) (2 * n) c = Tg g c (l ++ [n]) := by
  funext i
  unfold gu Tg
  by_cases e : i = 2 * n
  · rw [if_pos e, if_pos ⟨by omega, by rw [show i / 2 = n by omega]; simp⟩]
  · rw [if_neg e]
    by_cases h : i % 2 = 0 ∧ i / 2 ∈ l
    · rw [if_pos h, if_pos ⟨h.1, List.mem_append_left _ h.2⟩]
    · rw [if_neg h, if_neg]
      rintro ⟨h1, h2⟩
      rcases List.mem_append.mp h2 with h2 | h2
      · exact h ⟨h1, h2⟩
      · rw [List.mem_singleton] at h2
        omega
theorem Tr_step (rg : Int → List Int) {k k' : Int} (hk : k ≠ k') (l1 l2 : List Int) (n : Int) : rmv (Tr rg k k' l1 (n :: l2)) n k k' false = Tr rg k k' (l1 ++ [n]) l2 := by
  funext x
  unfold rmv Tr
  by_cases e1 : x = k
  · subst e1
    simp [hk]
  · by_cases e2 : x = k'
    · subst e2
      simp [e1]
    · simp [e1, e2]
theorem Tg_nil (g : Int → Int) (c : Int) : Tg g c [] = g := by
  funext i
  unfold Tg
  simp
theorem Tr_nil (rg : Int → List Int) {k k' : Int} (hk : k ≠ k') : Tr rg k k' [] (rg k) = rg := by
  funext x
  unfold Tr
  by_cases e1 : x = k
  · subst e1; simp
  · by_cases e2 : x = k'
    · subst e2; simp [e1]
    · simp [e1, e2]
/-- the cells behind a change of colour among those that are not free -/
theorem HC_mv {M M' : az_M} {h a c : Int} {front : Bool} {g : Int → Int} {rg : Int → List Int} {gl : List Int} (hc : HC M h g rg gl) (hp : w_pg g) (hcl : w_col g) (hrw : w_row g rg) (ha : ob g a) (c1 : 1 ≤ c) (c3 : c ≤ 3)
    (hR : RR (M' (h + 2)) (M' (h + 3)) (M' (h + 4)) (M' (h + 5)) (rmv rg (a / 2) (kz g a + g a) (kz g a + c) front)) (h4 : M' (h + 4) = fun x => if x = a / 2 then kz g a + c else M (h + 4) x)
    (ho : ∀ b, b < h + 2 ∨ h + 5 < b → M' b = M b) : HC M' h (gu g a c) (rmv rg (a / 2) (kz g a + g a) (kz g a + c) front) gl := by
  obtain ⟨q1, q2, q3, q4, q5, q6, q7, q8, q9, q10, q11⟩ := hc
  have ha1 := ha.1.2.1
  have ha0 := ha.1.1
  have hac := hcl a ha0 ha1
  have hne := ha.2
  obtain ⟨e1, e2, e3, e4, e5⟩ := sl_even hp ha.1
  have hbig : ∀ x, 128 ≤ x → gu g a c x = g x := fun x hx => gu_n _ _ (by omega)
  have hkz : ∀ b, 0 ≤ b → kz (gu g a c) b = kz g b := fun b hb => by unfold kz; rw [gu_pz (by omega) b hb]
  refine ⟨hR, ?_, ?_, ?_, ?_, ?_, ?_, ?_, ?_, ?_, ?_⟩
  · intro n n0 n1
    rw [gu_sl (by omega), h4, hkz _ (by omega)]
    show (_ → (if n = a / 2 then _ else _) = _) ∧ (_ → (if n = a / 2 then _ else _) = _)
    by_cases e : n = a / 2
    · rw [if_pos e, show 2 * n = a by omega, gu_s]
      exact ⟨fun _ => rfl, fun q => absurd ha.1 q⟩
    · rw [if_neg e, gu_n _ _ (show 2 * n ≠ a by omega)]
      exact q2 n n0 n1
  · intro b hb
    rw [gu_sl (by omega)] at hb
    have hb0 := hb.1
    have hb1 := hb.2.1
    have := q3 b hb
    rw [ho (h + 6) (by omega), hbig (128 + b) (by omega)]
    by_cases e : b = a
    · subst e
      rw [gu_s]
      refine ⟨fun q => by omega, fun _ => ?_⟩
      obtain ⟨r1, r2⟩ := this.2 ha.2
      exact ⟨r1, fun f f0 f1 => by rw [hbig _ (by omega)]; exact r2 f f0 f1⟩
    · rw [gu_n _ _ e]
      exact ⟨this.1, fun q => ⟨(this.2 q).1, fun f f0 f1 => by rw [hbig _ (by omega)]; exact (this.2 q).2 f f0 f1⟩⟩
  · intro p p0 p1
    rw [ho (h + 7) (by omega), hbig _ (by omega)]
    exact q4 p p0 p1
  · intro p p0 p1
    rw [ho (h + 8) (by omega), q5 p p0 p1]
    have hm : a / 2 ∈ rg (kz g a + g a) := ((hrw _ (by omega) (by omega)).2 (a / 2)).mpr ⟨by omega, by omega, by rw [show 2 * (a / 2) = a by omega]; exact ⟨ha.1, rfl⟩⟩
    rw [us_rmv front hm p]
    have hk : kz g a = 0 ∨ kz g a = 4 ∨ kz g a = 8 := by unfold kz at e4 e5 ⊢; omega
    have hga : g a = 1 ∨ g a = 2 ∨ g a = 3 := by omega
    have hcc : c = 1 ∨ c = 2 ∨ c = 3 := by omega
    rcases hk with e | e | e <;> rcases hga with e' | e' | e' <;> rcases hcc with e'' | e'' | e'' <;> rw [e, e', e''] <;> simp
  · refine ⟨fun r r0 r1 => ?_, fun w w0 w1 => ?_⟩
    · rw [ho (h + 9) (by omega), hbig _ (by omega)]
      exact q6.1 r r0 r1
    · rw [ho (h + 10) (by omega), hbig _ (by omega)]
      exact q6.2 w w0 w1
  · unfold c_gry
    rw [ho h (by omega), ho (h + 11) (by omega)]
    exact q7
  · intro i i0 i1
    rw [ho (h + 12) (by omega), hbig _ (by omega)]
    exact q8 i i0 i1
  · intro i i0 i1
    rw [ho (h + 13) (by omega), hbig _ (by omega)]
    exact q9 i i0 i1
  · unfold c_log
    rw [ho (h + 14) (by omega), hbig 729 (by omega), hbig 741 (by omega)]
    refine ⟨q10.1, q10.2.1, fun i w i0 i1 w0 w1 => ?_⟩
    rw [hbig _ (by omega)]
    exact q10.2.2 i w i0 i1 w0 w1
  · unfold c_sca
    rw [ho h (by omega), hbig 725 (by omega), hbig 727 (by omega), hbig 728 (by omega), hbig 740 (by omega), hbig 726 (by omega)]
    exact q11
/-- the parts of what holds of a heap that walks over rows need -/
def WR (g : Int → Int) (rg : Int → List Int) : Prop := w_pg g ∧ w_col g ∧ w_row g rg
theorem WR_mv {g : Int → Int} {rg : Int → List Int} (h : WR g rg) {a c : Int} (front : Bool) (ha : sl g a) (h0 : 0 ≤ c) (h3 : c ≤ 3) (hne : g a ≠ c) : WR (gu g a c) (rmv rg (a / 2) (kz g a + g a) (kz g a + c) front) := by
  have hac := h.2.1 a ha.1 ha.2.1
  have := ha.2.1
  exact ⟨gu_w_pg (by omega) h.1, gu_w_col ha h0 h3 h.2.1, row_gu h.1 h.2.2 ha h0 h3 hac.1 hac.2.1 hne⟩
/-- of a node in a row -/
theorem WR_mem {g : Int → Int} {rg : Int → List Int} (h : WR g rg) {k n : Int} (k0 : 0 ≤ k) (k1 : k < 12) (hm : n ∈ rg k) : 0 ≤ n ∧ n < 64 ∧ sl g (2 * n) ∧ kz g (2 * n) = k / 4 * 4 ∧ g (2 * n) = k % 4 := by
  obtain ⟨q1, q2, q3, q4⟩ := ((h.2.2 k k0 k1).2 n).mp hm
  have hc := h.2.1 (2 * n) (by omega) (by omega)
  have hk : kz g (2 * n) % 4 = 0 := by unfold kz; omega
  refine ⟨q1, q2, q3, ?_, ?_⟩ <;> omega
/-- the first node of a row -/
theorem RR_first {nx pv ro ct : Int → Int} {rg : Int → List Int} (h : RR nx pv ro ct rg) {k n : Int} {l : List Int} (k0 : 0 ≤ k) (k1 : k < 12) (hl : rg k = n :: l) : nx (64 + k) = n := by
  have := (h.2.1 k k0 k1).1
  rw [hl] at this
  exact this.1
/-- what a walk over rows leaves as it was -/
def frR (M M' : az_M) (h : Int) : Prop := ∀ b, b < h + 2 ∨ h + 5 < b → M' b = M b
