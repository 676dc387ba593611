/-! the end of a cycle, as a value -/
def gAf (g : Int → Int) (rg : Int → List Int) : Int → Int := Fg (Fg (Fg g (rg 1)) (rg 5)) (rg 9)
def rgE (rg : Int → List Int) : Int → List Int := Tr (Tr (Tr rg 1 0 (rg 1) []) 5 4 (rg 5) []) 9 8 (rg 9) []
def eI (g : Int → Int) (v : Int) : Int := if 0 ≤ v ∧ g v = 1 then 1 else 0
abbrev lc (g : Int → Int) (j : Int) : Prop := pz g j ≠ 0 ∧ g (j - j % pz g j) ≠ 0 ∧ 1 ≤ j % pz g j ∧ j % pz g j ≤ g (128 + (j - j % pz g j))
def lostO (g : Int → Int) (rg : Int → List Int) (a : Int) : Int := if gAf g rg a ≠ 0 then sumN (g (128 + a)).toNat (fun f => eI g (g (256 + a + 1 + f))) else 0
def lostN (g : Int → Int) (rg : Int → List Int) : Int := sumN 64 (fun n => lostO g rg (2 * n)) + sumN 6 (fun r => eI g (g (715 + r)))
def clrN (g : Int → Int) : Int := sumN 4 (fun w => eI g (g (721 + w)))
def endG (g : Int → Int) (rg : Int → List Int) : Int → Int := fun i =>
  if i < 256 then gAf g rg i
  else if i < 384 then (if lc (gAf g rg) (i - 256) ∧ eI g (g i) = 1 then -1 else g i)
  else if 715 ≤ i ∧ i < 725 then (if eI g (g i) = 1 then -1 else g i)
  else if i = 726 then 0
  else if i = 729 then g 729 + 1
  else if i = 732 then az_wr (g 732 + lostN g rg)
  else if i = 734 then az_wr (g 734 + clrN g)
  else if i = 741 then (if g 741 < 16 then g 741 + 1 else g 741)
  else if i = 742 then az_wr (g 730 - g 740)
  else if i = 743 then ((rg 1).length : Int) + ((rg 5).length : Int) + ((rg 9).length : Int)
  else if i = 744 then obN (rgE rg)
  else if 745 ≤ i ∧ i < 790 then g (i - 3)
  else g i
def endS (S : hSt) : hSt := (endG S.1 S.2.1, rgE S.2.1, S.2.2)
theorem endG_lo (g : Int → Int) (rg : Int → List Int) {i : Int} (h : i < 256) : endG g rg i = gAf g rg i := by unfold endG; rw [if_pos h]
theorem endG_cel (g : Int → Int) (rg : Int → List Int) {i : Int} (h : 256 ≤ i) (h2 : i < 384) : endG g rg i = if lc (gAf g rg) (i - 256) ∧ eI g (g i) = 1 then -1 else g i := by unfold endG; rw [if_neg (by omega), if_pos h2]
theorem endG_nam (g : Int → Int) (rg : Int → List Int) {i : Int} (h : 715 ≤ i) (h2 : i < 725) : endG g rg i = if eI g (g i) = 1 then -1 else g i := by unfold endG; rw [if_neg (by omega), if_neg (by omega), if_pos ⟨h, h2⟩]
theorem endG_keep (g : Int → Int) (rg : Int → List Int) {i : Int} (h : 384 ≤ i) (h2 : i < 741) (h3 : i < 715 ∨ 725 ≤ i) (h4 : i ≠ 726 ∧ i ≠ 729 ∧ i ≠ 732 ∧ i ≠ 734) : endG g rg i = g i := by
  unfold endG
  rw [if_neg (by omega), if_neg (by omega), if_neg (by omega), if_neg h4.1, if_neg h4.2.1, if_neg h4.2.2.1, if_neg h4.2.2.2, if_neg (by omega), if_neg (by omega), if_neg (by omega), if_neg (by omega), if_neg (by omega)]
theorem Fg_at (g : Int → Int) {l : List Int} (hl : ∀ n ∈ l, 0 ≤ n ∧ n < 64) {a : Int} (h0 : 0 ≤ a) (h1 : a < 128) : Fg g l a = if a % 2 = 0 ∧ a / 2 ∈ l then 0 else g a := by
  unfold Fg
  by_cases h : a % 2 = 0 ∧ a / 2 ∈ l
  · rw [if_pos h, if_pos ⟨h.1, Or.inl h.2⟩]
  · rw [if_neg h, if_neg]
    rintro ⟨q1, q2 | q2⟩
    · exact h ⟨q1, q2⟩
    · have := hl _ q2
      omega
theorem Fg_fl (g : Int → Int) {l : List Int} (hl : ∀ n ∈ l, 0 ≤ n ∧ n < 64) {a : Int} (h0 : 0 ≤ a) (h1 : a < 128) : Fg g l (128 + a) = if a % 2 = 0 ∧ a / 2 ∈ l then 0 else g (128 + a) := by
  unfold Fg
  rw [show 128 + a - 128 = a by omega]
  by_cases h : a % 2 = 0 ∧ a / 2 ∈ l
  · rw [if_pos h, if_pos ⟨by omega, Or.inr h.2⟩]
  · rw [if_neg h, if_neg]
    rintro ⟨q1, q2 | q2⟩
    · have := hl _ q2
      omega
    · exact h ⟨by omega, q2⟩
theorem Fg_big (g : Int → Int) {l : List Int} (hl : ∀ n ∈ l, 0 ≤ n ∧ n < 64) {x : Int} (h : 256 ≤ x) : Fg g l x = g x := by
  unfold Fg
  rw [if_neg]
  rintro ⟨q1, q2 | q2⟩ <;> (have := hl _ q2; omega)
section EA
variable {g : Int → Int} {rg : Int → List Int}
theorem rows_in (h : WR g rg) {k : Int} (k0 : 0 ≤ k) (k1 : k < 12) : ∀ n ∈ rg k, 0 ≤ n ∧ n < 64 := fun n hn => by have := WR_mem h k0 k1 hn; omega
/-- which are free then -/
theorem gAf_at (h : WR g rg) {a : Int} (h0 : 0 ≤ a) (h1 : a < 128) : gAf g rg a = if g a = 1 then 0 else g a := by
  have l1 := rows_in h (k := 1) (by omega) (by omega)
  have l5 := rows_in h (k := 5) (by omega) (by omega)
  have l9 := rows_in h (k := 9) (by omega) (by omega)
  unfold gAf
  rw [Fg_at _ l9 h0 h1, Fg_at _ l5 h0 h1, Fg_at _ l1 h0 h1]
  have hm : ∀ k, (k = 1 ∨ k = 5 ∨ k = 9) → (a % 2 = 0 ∧ a / 2 ∈ rg k → g a = 1) := by
    intro k hk hq
    have := WR_mem h (k := k) (by omega) (by omega) hq.2
    rw [show 2 * (a / 2) = a by omega] at this
    omega
  by_cases e : g a = 1
  · rw [if_pos e]
    have hs : sl g a := by
      rcases sl_dec g a with q | q
      · exact q
      · have := (h.2.1 a h0 h1).2.2 q; omega
    obtain ⟨e1, e2, e3, e4, e5⟩ := sl_even h.1 hs
    have hk : kz g a = 0 ∨ kz g a = 4 ∨ kz g a = 8 := by unfold kz at e4 e5 ⊢; omega
    have hin : ∀ k, kz g a + 1 = k → a / 2 ∈ rg k := by
      intro k hk
      refine ((h.2.2 k (by omega) (by omega)).2 (a / 2)).mpr ⟨by omega, by omega, ?_⟩
      rw [show 2 * (a / 2) = a by omega]
      exact ⟨hs, by omega⟩
    rcases hk with q | q | q
    · by_cases z9 : a % 2 = 0 ∧ a / 2 ∈ rg 9
      · rw [if_pos z9]
      · rw [if_neg z9]
        by_cases z5 : a % 2 = 0 ∧ a / 2 ∈ rg 5
        · rw [if_pos z5]
        · rw [if_neg z5, if_pos ⟨e1, hin 1 (by omega)⟩]
    · by_cases z9 : a % 2 = 0 ∧ a / 2 ∈ rg 9
      · rw [if_pos z9]
      · rw [if_neg z9, if_pos ⟨e1, hin 5 (by omega)⟩]
    · rw [if_pos ⟨e1, hin 9 (by omega)⟩]
  · rw [if_neg e, if_neg (fun q => e (hm 9 (by omega) q)), if_neg (fun q => e (hm 5 (by omega) q)), if_neg (fun q => e (hm 1 (by omega) q))]
theorem gAf_fl (h : WR g rg) {a : Int} (h0 : 0 ≤ a) (h1 : a < 128) : gAf g rg (128 + a) = if g a = 1 then 0 else g (128 + a) := by
  have l1 := rows_in h (k := 1) (by omega) (by omega)
  have l5 := rows_in h (k := 5) (by omega) (by omega)
  have l9 := rows_in h (k := 9) (by omega) (by omega)
  have ha := gAf_at h h0 h1
  unfold gAf at ha ⊢
  rw [Fg_at _ l9 h0 h1, Fg_at _ l5 h0 h1, Fg_at _ l1 h0 h1] at ha
  rw [Fg_fl _ l9 h0 h1, Fg_fl _ l5 h0 h1, Fg_fl _ l1 h0 h1]
  have hm : ∀ k, (k = 1 ∨ k = 5 ∨ k = 9) → (a % 2 = 0 ∧ a / 2 ∈ rg k → g a = 1) := by
    intro k hk hq
    have := WR_mem h (k := k) (by omega) (by omega) hq.2
    rw [show 2 * (a / 2) = a by omega] at this
    omega
  by_cases z9 : a % 2 = 0 ∧ a / 2 ∈ rg 9
  · rw [if_pos z9, if_pos (hm 9 (by omega) z9)]
  · rw [if_neg z9] at ha ⊢
    by_cases z5 : a % 2 = 0 ∧ a / 2 ∈ rg 5
    · rw [if_pos z5, if_pos (hm 5 (by omega) z5)]
    · rw [if_neg z5] at ha ⊢
      by_cases z1 : a % 2 = 0 ∧ a / 2 ∈ rg 1
      · rw [if_pos z1, if_pos (hm 1 (by omega) z1)]
      · rw [if_neg z1] at ha ⊢
        by_cases e : g a = 1
        · rw [if_pos e] at ha; omega
        · rw [if_neg e]
theorem gAf_big (h : WR g rg) {x : Int} (hx : 256 ≤ x) : gAf g rg x = g x := by
  unfold gAf
  rw [Fg_big _ (rows_in h (k := 9) (by omega) (by omega)) hx, Fg_big _ (rows_in h (k := 5) (by omega) (by omega)) hx, Fg_big _ (rows_in h (k := 1) (by omega) (by omega)) hx]
theorem gAf_pz (h : WR g rg) {b : Int} (hb : 0 ≤ b) : pz (gAf g rg) b = pz g b := gAf_big h (by omega)
theorem gAf_sl (h : WR g rg) (b : Int) : sl (gAf g rg) b ↔ sl g b := by
  unfold sl
  constructor
  · rintro ⟨q0, q1, q2⟩
    rw [gAf_pz h q0] at q2
    exact ⟨q0, q1, q2⟩
  · rintro ⟨q0, q1, q2⟩
    rw [gAf_pz h q0]
    exact ⟨q0, q1, q2⟩
theorem endG_pz (b : Int) (hb : 0 ≤ b) (hb2 : b < 128) : pz (endG g rg) b = pz g b := endG_keep g rg (by omega) (by omega) (by omega) (by omega)
theorem endG_sl (b : Int) : sl (endG g rg) b ↔ sl g b := by
  unfold sl
  constructor
  · rintro ⟨q0, q1, q2⟩
    rw [endG_pz b q0 q1] at q2
    exact ⟨q0, q1, q2⟩
  · rintro ⟨q0, q1, q2⟩
    rw [endG_pz b q0 q1]
    exact ⟨q0, q1, q2⟩
theorem endG_col (h : WR g rg) {a : Int} (h0 : 0 ≤ a) (h1 : a < 128) : endG g rg a = if g a = 1 then 0 else g a := by rw [endG_lo g rg (by omega), gAf_at h h0 h1]
theorem endG_ob (h : WR g rg) (b : Int) : ob (endG g rg) b ↔ ob g b ∧ g b ≠ 1 := by
  unfold ob
  rw [endG_sl]
  constructor
  · rintro ⟨q1, q2⟩
    rw [endG_col h q1.1 q1.2.1] at q2
    split at q2
    · exact absurd rfl q2
    · exact ⟨⟨q1, q2⟩, ‹_›⟩
  · rintro ⟨⟨q1, q2⟩, q3⟩
    rw [endG_col h q1.1 q1.2.1, if_neg q3]
    exact ⟨q1, q2⟩
/-- a cell of an object's field -/
theorem base_of (hp : w_pg g) {a f : Int} (ha : sl g a) (f0 : 0 ≤ f) (f1 : f < pz g a) : (a + f) / 16 = a / 16 ∧ (a + f) % pz g a = f ∧ a + f < 128 := by
  obtain ⟨a0, a1, a2, a3⟩ := ha
  rcases pz_in hp a0 a1 with q | q | q | q
  · exact absurd q a2
  · rw [q] at a3 f1 ⊢; omega
  · rw [q] at a3 f1 ⊢; omega
  · rw [q] at a3 f1 ⊢; omega
theorem lc_obj (hp : w_pg g) {a f : Int} (ha : sl g a) (f0 : 0 ≤ f) (f1 : f < pz g a) : pz g (a + f) = pz g a ∧ (a + f) - (a + f) % pz g (a + f) = a ∧ (a + f) % pz g (a + f) = f := by
  obtain ⟨q1, q2, q3⟩ := base_of hp ha f0 f1
  have e : pz g (a + f) = pz g a := by unfold pz; rw [q1]
  rw [e, q2]
  omega
end EA
