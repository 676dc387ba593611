/-! the end of a cycle keeps what holds of a heap -/
theorem rgE_at (rg : Int → List Int) {k : Int} (k0 : 0 ≤ k) (k1 : k < 12) : rgE rg k = if k % 4 = 0 then rg k ++ rg (k + 1) else if k % 4 = 1 then [] else rg k := by
  have hk : k = 0 ∨ k = 1 ∨ k = 2 ∨ k = 3 ∨ k = 4 ∨ k = 5 ∨ k = 6 ∨ k = 7 ∨ k = 8 ∨ k = 9 ∨ k = 10 ∨ k = 11 := by omega
  rcases hk with rfl | rfl | rfl | rfl | rfl | rfl | rfl | rfl | rfl | rfl | rfl | rfl <;> simp [rgE, Tr]
section EA
variable {g : Int → Int} {rg : Int → List Int}
theorem rowE {gl : List Int} (h : WR g rg) : w_row (endG g rg) (rgE rg) := by
  have hkz : ∀ n, 0 ≤ n → n < 64 → kz (endG g rg) (2 * n) = kz g (2 * n) := fun n n0 n1 => by unfold kz; rw [endG_pz _ (by omega) (by omega)]
  intro k k0 k1
  rw [rgE_at rg k0 k1]
  have key : ∀ n, 0 ≤ n → n < 64 → sl g (2 * n) → (kz (endG g rg) (2 * n) + endG g rg (2 * n) = k ↔ kz g (2 * n) + (if g (2 * n) = 1 then 0 else g (2 * n)) = k) := by
    intro n n0 n1 hs
    rw [hkz n n0 n1, endG_col h (by omega) (by omega)]
  have hk4 : ∀ n, kz g (2 * n) % 4 = 0 := fun n => by unfold kz; omega
  by_cases e0 : k % 4 = 0
  · rw [if_pos e0]
    obtain ⟨r1, r2⟩ := h.2.2 k k0 k1
    obtain ⟨s1, s2⟩ := h.2.2 (k + 1) (by omega) (by omega)
    refine ⟨List.nodup_append.mpr ⟨r1, s1, fun x hx y hy e => ?_⟩, fun n => ?_⟩
    · subst e
      have q1 := ((r2 x).mp hx).2.2.2
      have q2 := ((s2 x).mp hy).2.2.2
      omega
    · rw [List.mem_append, r2, s2, endG_sl]
      constructor
      · rintro (⟨q1, q2, q3, q4⟩ | ⟨q1, q2, q3, q4⟩)
        · refine ⟨q1, q2, q3, (key n q1 q2 q3).mpr ?_⟩
          have := hk4 n
          have hc := h.2.1 (2 * n) (by omega) (by omega)
          rw [if_neg (by omega)]
          exact q4
        · refine ⟨q1, q2, q3, (key n q1 q2 q3).mpr ?_⟩
          have := hk4 n
          have hc := h.2.1 (2 * n) (by omega) (by omega)
          rw [if_pos (by omega)]
          omega
      · rintro ⟨q1, q2, q3, q4⟩
        have q5 := (key n q1 q2 q3).mp q4
        by_cases e : g (2 * n) = 1
        · rw [if_pos e] at q5
          exact Or.inr ⟨q1, q2, q3, by omega⟩
        · rw [if_neg e] at q5
          exact Or.inl ⟨q1, q2, q3, q5⟩
  · rw [if_neg e0]
    by_cases e1 : k % 4 = 1
    · rw [if_pos e1]
      refine ⟨List.nodup_nil, fun n => ⟨fun q => absurd q List.not_mem_nil, ?_⟩⟩
      rintro ⟨q1, q2, q3, q4⟩
      rw [endG_sl] at q3
      have q5 := (key n q1 q2 q3).mp q4
      have := hk4 n
      have hc := h.2.1 (2 * n) (by omega) (by omega)
      by_cases e : g (2 * n) = 1
      · rw [if_pos e] at q5; omega
      · rw [if_neg e] at q5; omega
    · rw [if_neg e1]
      obtain ⟨r1, r2⟩ := h.2.2 k k0 k1
      refine ⟨r1, fun n => ?_⟩
      rw [r2, endG_sl]
      constructor
      · rintro ⟨q1, q2, q3, q4⟩
        refine ⟨q1, q2, q3, (key n q1 q2 q3).mpr ?_⟩
        have := hk4 n
        have hc := h.2.1 (2 * n) (by omega) (by omega)
        rw [if_neg (by omega)]
        exact q4
      · rintro ⟨q1, q2, q3, q4⟩
        have q5 := (key n q1 q2 q3).mp q4
        have := hk4 n
        have hc := h.2.1 (2 * n) (by omega) (by omega)
        refine ⟨q1, q2, q3, ?_⟩
        by_cases e : g (2 * n) = 1
        · rw [if_pos e] at q5; omega
        · rw [if_neg e] at q5; exact q5
theorem eI_nok {v : Int} (h : WR g rg) (hv : nok g v) : nok (endG g rg) (if eI g v = 1 then -1 else v) := by
  rcases hv with e | e
  · subst e
    have : eI g (-1) = 0 := by unfold eI; rw [if_neg (by omega)]
    rw [this]
    exact Or.inl rfl
  · by_cases q : g v = 1
    · have : eI g v = 1 := by unfold eI; rw [if_pos ⟨e.1.1, q⟩]
      rw [if_pos this]
      exact Or.inl rfl
    · have : eI g v = 0 := by unfold eI; rw [if_neg (fun w => q w.2)]
      rw [this]
      exact Or.inr ((endG_ob h v).mpr ⟨e, q⟩)
theorem WR_of {gl : List Int} (h : WF0 g rg gl) : WR g rg := ⟨h.1, h.2.1, h.2.2.1⟩
theorem endS_wf {gl : List Int} (h : WF0 g rg gl) (hgl : gl = []) (hsc : g 727 = -1) : WF0 (endG g rg) (rgE rg) gl := by
  have hw := WR_of h
  obtain ⟨h1, h2, h3, h4, h5, h6, h7⟩ := h
  have hk : ∀ i, 384 ≤ i → i < 741 → (i < 715 ∨ 725 ≤ i) → (i ≠ 726 ∧ i ≠ 729 ∧ i ≠ 732 ∧ i ≠ 734) → endG g rg i = g i := fun i a b c d => endG_keep g rg a b c d
  refine ⟨?_, ?_, rowE (gl := gl) hw, ?_, ?_, ?_, ?_⟩
  · refine ⟨by rw [hk 725 (by omega) (by omega) (by omega) (by omega)]; exact h1.1, by rw [hk 725 (by omega) (by omega) (by omega) (by omega)]; exact h1.2.1, fun p p0 p1 => ?_⟩
    rw [hk 725 (by omega) (by omega) (by omega) (by omega), hk (707 + p) (by omega) (by omega) (by omega) (by omega)]
    exact h1.2.2 p p0 p1
  · intro a a0 a1
    rw [endG_sl, endG_col hw a0 a1]
    have := h2 a a0 a1
    split
    · exact ⟨by omega, by omega, fun _ => rfl⟩
    · exact this
  · intro a ha
    rw [endG_sl] at ha
    rw [endG_col hw ha.1 ha.2.1, endG_lo g rg (show 128 + a < 256 by have := ha.2.1; omega), gAf_fl hw ha.1 ha.2.1, endG_pz _ ha.1 ha.2.1]
    have := h4 a ha
    by_cases e : g a = 1
    · rw [if_pos e, if_pos e]
      exact ⟨fun _ => rfl, fun q => absurd rfl q⟩
    · rw [if_neg e, if_neg e]
      exact this
  · refine ⟨fun x x0 x1 => ?_, fun a f ha f0 f1 => ?_⟩
    · rw [endG_nam g rg x0 x1]
      exact eI_nok hw (h5.1 x x0 x1)
    · obtain ⟨q1, q2⟩ := (endG_ob hw a).mp ha
      have a0 := q1.1.1
      have a1 := q1.1.2.1
      have hfa : endG g rg (128 + a) = g (128 + a) := by rw [endG_lo g rg (by omega), gAf_fl hw a0 a1, if_neg q2]
      rw [hfa] at f1
      have hfl := (h4 a q1.1).2 q1.2
      have hb := base_of h1 (f := f + 1) q1.1 (by omega) (by omega)
      have hlc : lc (gAf g rg) (a + (f + 1)) := by
        obtain ⟨z1, z2, z3⟩ := lc_obj h1 (f := f + 1) q1.1 (by omega) (by omega)
        have z4 : pz (gAf g rg) (a + (f + 1)) = pz g (a + (f + 1)) := gAf_pz hw (by omega)
        unfold lc
        rw [z4, z2, z3, gAf_at hw a0 a1, gAf_fl hw a0 a1, if_neg q2, if_neg q2, z1]
        exact ⟨q1.1.2.2.1, q1.2, by omega, by omega⟩
      rw [endG_cel g rg (by omega) (by omega), show 256 + a + 1 + f - 256 = a + (f + 1) by omega]
      have hn := eI_nok hw (h5.2 a f q1 f0 f1)
      by_cases e : eI g (g (256 + a + 1 + f)) = 1
      · rw [if_pos ⟨hlc, e⟩]
        exact Or.inl rfl
      · rw [if_neg (fun q => e q.2)]
        rw [if_neg e] at hn
        exact hn
  · obtain ⟨r1, r2, r3, r4, r5⟩ := h6
    have e6 : endG g rg 726 = 0 := by unfold endG; rw [if_neg (by omega), if_neg (by omega), if_neg (by omega), if_pos rfl]
    have e7 := hk 727 (by omega) (by omega) (by omega) (by omega)
    have e8 := hk 728 (by omega) (by omega) (by omega) (by omega)
    have h28 : g 728 = 0 := by
      rcases r5 with q | q
      · exact q.2
      · have := q.1.1.1; omega
    have hng : ∀ a, 0 ≤ a → a < 128 → endG g rg a ≠ 1 ∧ endG g rg a ≠ 2 := by
      intro a a0 a1
      rw [endG_col hw a0 a1]
      by_cases e : g a = 1
      · rw [if_pos e]; omega
      · rw [if_neg e]
        refine ⟨e, fun e2 => ?_⟩
        have hob : ob g a := by
          refine ⟨?_, by omega⟩
          rcases sl_dec g a with q | q
          · exact q
          · have := (h2 a a0 a1).2.2 q; omega
        have := (r4 a).mpr ⟨hob, e2, by omega⟩
        rw [hgl] at this
        cases this
    refine ⟨Or.inl e6, fun _ => ⟨hgl, by rw [e7]; exact hsc, by rw [e8]; exact h28, hng⟩, r3, fun a => ?_, Or.inl ⟨by rw [e7]; exact hsc, by rw [e8]; exact h28⟩⟩
    constructor
    · intro q
      rw [hgl] at q
      cases q
    · rintro ⟨q1, q2, -⟩
      exact absurd q2 (hng a q1.1.1 q1.1.2.1).2
  · unfold w_set
    rw [hk 735 (by omega) (by omega) (by omega) (by omega), hk 736 (by omega) (by omega) (by omega) (by omega), hk 737 (by omega) (by omega) (by omega) (by omega), hk 738 (by omega) (by omega) (by omega) (by omega)]
    exact h7
end EA
