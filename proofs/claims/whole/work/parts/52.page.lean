/-! a page comes to be of another size, as a value -/
/-- the row that a node of the page leaves -/
def rzO (g : Int → Int) (n : Int) : Int := if pz g (2 * n) ≠ 0 ∧ 2 * n % pz g (2 * n) = 0 then kz g (2 * n) else 12
/-- the row that it comes into -/
def rzN (s n : Int) : Int := if 2 * n % s = 0 then s / 4 * 4 else 12
def rzR (g : Int → Int) (rg : Int → List Int) (p s : Int) : Nat → (Int → List Int)
  | 0 => rg
  | c + 1 => rmv (rzR g rg p s c) (8 * p + c) (rzO g (8 * p + c)) (rzN s (8 * p + c)) false
def rzG (g : Int → Int) (p s : Int) : Int → Int := fun i => if i = 707 + p then s else if 128 + 16 * p ≤ i ∧ i < 144 + 16 * p ∧ (i - 128) % s = 0 then 0 else g i
def resS (S : hSt) (p s : Int) : hSt := (rzG S.1 p s, rzR S.1 S.2.1 p s 8, S.2.2)
section RZ
variable {g : Int → Int} {rg : Int → List Int} {p s : Int}
theorem rzG_lo (p0 : 0 ≤ p) {i : Int} (h : i < 128) (h8 : p < 8) : rzG g p s i = g i := by unfold rzG; rw [if_neg (by omega), if_neg (by omega)]
theorem rzG_hi (p0 : 0 ≤ p) {i : Int} (h : 256 ≤ i) (h8 : p < 8) (hn : i ≠ 707 + p) : rzG g p s i = g i := by unfold rzG; rw [if_neg hn, if_neg (by omega)]
theorem rzG_fl (p0 : 0 ≤ p) (h8 : p < 8) {a : Int} (a0 : 0 ≤ a) (a1 : a < 128) : rzG g p s (128 + a) = if a / 16 = p ∧ a % s = 0 then 0 else g (128 + a) := by
  unfold rzG
  rw [if_neg (by omega), show 128 + a - 128 = a by omega]
  by_cases e : a / 16 = p ∧ a % s = 0
  · rw [if_pos e, if_pos ⟨by omega, by omega, e.2⟩]
  · rw [if_neg e, if_neg]
    rintro ⟨q1, q2, q3⟩
    exact e ⟨by omega, q3⟩
theorem rzG_pz (p0 : 0 ≤ p) (h8 : p < 8) {a : Int} (a0 : 0 ≤ a) (a1 : a < 128) : pz (rzG g p s) a = if a / 16 = p then s else pz g a := by
  unfold pz
  by_cases e : a / 16 = p
  · rw [if_pos e]; unfold rzG; rw [if_pos (by omega)]
  · rw [if_neg e, rzG_hi p0 (by omega) h8 (by omega)]
theorem rzG_sl (p0 : 0 ≤ p) (h8 : p < 8) (hs : s = 2 ∨ s = 4 ∨ s = 8) (a : Int) : sl (rzG g p s) a ↔ (0 ≤ a ∧ a < 128 ∧ (a / 16 = p ∧ a % s = 0 ∨ a / 16 ≠ p ∧ sl g a)) := by
  unfold sl
  constructor
  · rintro ⟨a0, a1, a2, a3⟩
    rw [rzG_pz p0 h8 a0 a1] at a2 a3
    refine ⟨a0, a1, ?_⟩
    by_cases e : a / 16 = p
    · rw [if_pos e] at a3
      exact Or.inl ⟨e, a3⟩
    · rw [if_neg e] at a2 a3
      exact Or.inr ⟨e, a0, a1, a2, a3⟩
  · rintro ⟨a0, a1, q⟩
    rw [rzG_pz p0 h8 a0 a1]
    rcases q with ⟨e, q⟩ | ⟨e, q⟩
    · rw [if_pos e]; exact ⟨a0, a1, by omega, q⟩
    · rw [if_neg e]; exact ⟨a0, a1, q.2.2⟩
/-- the rows while its nodes go over -/
theorem rzR_mem (hp : w_pg g) (hrow : w_row g rg) (p0 : 0 ≤ p) (h8 : p < 8) (hs : s = 2 ∨ s = 4 ∨ s = 8) (hne : pz g (16 * p) ≠ s) (hfree : ∀ a, 0 ≤ a → a < 128 → a / 16 = p → g a = 0) : ∀ c : Nat, c ≤ 8 → ∀ k, 0 ≤ k → k < 12 → (rzR g rg p s c k).Nodup ∧ ∀ n, n ∈ rzR g rg p s c k ↔ (n ∈ rg k ∧ ¬ (8 * p ≤ n ∧ n < 8 * p + c)) ∨ (8 * p ≤ n ∧ n < 8 * p + c ∧ rzN s n = k) := by
  intro c
  induction c with
  | zero =>
    intro _ k k0 k1
    refine ⟨(hrow k k0 k1).1, fun n => ?_⟩
    show n ∈ rg k ↔ _
    constructor
    · intro h; exact Or.inl ⟨h, by omega⟩
    · rintro (h | h)
      · exact h.1
      · omega
  | succ c ih =>
    intro hc k k0 k1
    obtain ⟨n1, n2⟩ := ih (by omega) k k0 k1
    have hpz : pz g (2 * (8 * p + (c : Int))) = pz g (16 * p) := by unfold pz; rw [show 2 * (8 * p + (c : Int)) / 16 = 16 * p / 16 by omega]
    have hin : ∀ k', 0 ≤ k' → k' < 12 → (8 * p + (c : Int) ∈ rg k' ↔ rzO g (8 * p + c) = k') := by
      intro k' k0' k1'
      rw [(hrow k' k0' k1').2]
      have hf := hfree (2 * (8 * p + (c : Int))) (by omega) (by omega) (by omega)
      unfold rzO
      constructor
      · rintro ⟨q1, q2, q3, q4⟩
        rw [if_pos ⟨q3.2.2.1, q3.2.2.2⟩]
        omega
      · intro q
        split at q
        · rename_i e
          exact ⟨by omega, by omega, ⟨by omega, by omega, e.1, e.2⟩, by omega⟩
        · omega
    have hmem : 8 * p + (c : Int) ∈ rzR g rg p s c k ↔ rzO g (8 * p + c) = k := by
      rw [n2, ← hin k k0 k1]
      constructor
      · rintro (h | h)
        · exact h.1
        · omega
      · intro h; exact Or.inl ⟨h, by omega⟩
    have hON : rzO g (8 * p + c) = k → rzN s (8 * p + c) ≠ k := by
      intro h1 h2
      unfold rzO at h1
      unfold rzN at h2
      split at h1
      · split at h2
        · rw [← h2] at h1
          unfold kz at h1
          rw [hpz] at h1
          rcases pz_in hp (show 0 ≤ 16 * p by omega) (by omega) with e | e | e | e <;> omega
        · omega
      · omega
    have hl : ∀ n, n ∈ (if k = rzO g (8 * p + c) then (rzR g rg p s c k).erase (8 * p + c) else rzR g rg p s c k) ↔ n ∈ rzR g rg p s c k ∧ n ≠ 8 * p + c := by
      intro n
      split
      · rw [n1.mem_erase_iff]; exact ⟨fun h => ⟨h.2, h.1⟩, fun h => ⟨h.2, h.1⟩⟩
      · rename_i hk
        refine ⟨fun h => ⟨h, fun e => hk ?_⟩, fun h => h.1⟩
        rw [e] at h
        exact (hmem.mp h).symm
    have hlN : (if k = rzO g (8 * p + c) then (rzR g rg p s c k).erase (8 * p + c) else rzR g rg p s c k).Nodup := by
      split
      · exact n1.erase _
      · exact n1
    show (rmv (rzR g rg p s c) (8 * p + c) (rzO g (8 * p + c)) (rzN s (8 * p + c)) false k).Nodup ∧ ∀ n, n ∈ rmv (rzR g rg p s c) (8 * p + c) (rzO g (8 * p + c)) (rzN s (8 * p + c)) false k ↔ _
    unfold rmv
    generalize (if k = rzO g (8 * p + c) then (rzR g rg p s c k).erase (8 * p + c) else rzR g rg p s c k) = l at hl hlN
    have key : ∀ n, n ∈ l ↔ (n ∈ rg k ∧ ¬ (8 * p ≤ n ∧ n < 8 * p + ((c + 1 : Nat) : Int))) ∨ (8 * p ≤ n ∧ n < 8 * p + c ∧ rzN s n = k) := by
      intro n
      rw [hl, n2]
      constructor
      · rintro ⟨h | h, h'⟩
        · exact Or.inl ⟨h.1, by omega⟩
        · exact Or.inr h
      · rintro (h | h)
        · exact ⟨Or.inl ⟨h.1, by omega⟩, by omega⟩
        · exact ⟨Or.inr h, by omega⟩
    by_cases hk : k = rzN s (8 * p + c)
    · rw [if_pos hk]
      simp only [Bool.false_eq_true, if_false]
      refine ⟨List.nodup_append.mpr ⟨hlN, by simp, fun x hx b hb => ?_⟩, fun n => ?_⟩
      · rw [List.mem_singleton.mp hb]
        exact ((hl x).mp hx).2
      · rw [List.mem_append, List.mem_singleton, key]
        constructor
        · rintro ((h | h) | h)
          · exact Or.inl h
          · exact Or.inr ⟨h.1, by omega, h.2.2⟩
          · exact Or.inr ⟨by omega, by omega, by rw [h]; exact hk.symm⟩
        · rintro (h | h)
          · exact Or.inl (Or.inl h)
          · by_cases e : n = 8 * p + c
            · exact Or.inr e
            · exact Or.inl (Or.inr ⟨h.1, by omega, h.2.2⟩)
    · rw [if_neg hk]
      refine ⟨hlN, fun n => ?_⟩
      rw [key]
      constructor
      · rintro (h | h)
        · exact Or.inl h
        · exact Or.inr ⟨h.1, by omega, h.2.2⟩
      · rintro (h | h)
        · exact Or.inl h
        · by_cases e : n = 8 * p + c
          · exact absurd (by rw [← e]; exact h.2.2.symm) hk
          · exact Or.inr ⟨h.1, by omega, h.2.2⟩
theorem rz_row (hp : w_pg g) (hcol : w_col g) (hrow : w_row g rg) (p0 : 0 ≤ p) (h8 : p < 8) (hs : s = 2 ∨ s = 4 ∨ s = 8) (hne : pz g (16 * p) ≠ s) (hfree : ∀ a, 0 ≤ a → a < 128 → a / 16 = p → g a = 0) : w_row (rzG g p s) (rzR g rg p s 8) := by
  intro k k0 k1
  obtain ⟨n1, n2⟩ := rzR_mem hp hrow p0 h8 hs hne hfree 8 (by omega) k k0 k1
  refine ⟨n1, fun n => ?_⟩
  rw [n2, rzG_sl p0 h8 hs]
  have hpz : 0 ≤ n → n < 64 → kz (rzG g p s) (2 * n) = if n / 8 = p then s / 4 * 4 else kz g (2 * n) := by
    intro q0 q1
    unfold kz
    rw [rzG_pz p0 h8 (by omega) (by omega)]
    by_cases e : n / 8 = p
    · rw [if_pos e, if_pos (by omega)]
    · rw [if_neg e, if_neg (by omega)]
  constructor
  · rintro (⟨h1, h2⟩ | ⟨h1, h2, h3⟩)
    · obtain ⟨q1, q2, q3, q4⟩ := ((hrow k k0 k1).2 n).mp h1
      refine ⟨q1, q2, ⟨by omega, by omega, Or.inr ⟨by omega, q3⟩⟩, ?_⟩
      rw [hpz q1 q2, if_neg (by omega), rzG_lo p0 (by omega) h8]
      exact q4
    · unfold rzN at h3
      split at h3
      · rename_i e
        refine ⟨by omega, by omega, ⟨by omega, by omega, Or.inl ⟨by omega, e⟩⟩, ?_⟩
        rw [hpz (by omega) (by omega), if_pos (by omega), rzG_lo p0 (by omega) h8, hfree _ (by omega) (by omega) (by omega)]
        omega
      · omega
  · rintro ⟨q1, q2, ⟨-, -, q3⟩, q4⟩
    rw [hpz q1 q2, rzG_lo p0 (by omega) h8] at q4
    rcases q3 with ⟨e, q3⟩ | ⟨e, q3⟩
    · rw [if_pos (by omega), hfree _ (by omega) (by omega) e] at q4
      refine Or.inr ⟨by omega, by omega, ?_⟩
      unfold rzN
      rw [if_pos q3]; omega
    · rw [if_neg (by omega)] at q4
      exact Or.inl ⟨((hrow k k0 k1).2 n).mpr ⟨q1, q2, q3, q4⟩, by omega⟩
theorem us_rmv0 (rg : Int → List Int) (n k0 k : Int) (front : Bool) (h0 : k0 % 4 = 0) (h1 : k % 4 = 0) (q : Int) : us (rmv rg n k0 k front) q = us rg q := by
  unfold us
  refine sumI_congr _ (fun j hj => ?_)
  have hj4 : j % 4 ≠ 0 := by
    simp only [List.mem_cons, List.mem_nil_iff, or_false] at hj
    omega
  unfold fl rmv
  rw [if_neg (by omega), if_neg (by omega)]
theorem rz_us (g : Int → Int) (rg : Int → List Int) (p s q : Int) (hs : s = 2 ∨ s = 4 ∨ s = 8) : ∀ c : Nat, us (rzR g rg p s c) q = us rg q := by
  intro c
  induction c with
  | zero => rfl
  | succ c ih =>
    show us (rmv (rzR g rg p s c) (8 * p + c) (rzO g (8 * p + c)) (rzN s (8 * p + c)) false) q = _
    rw [us_rmv0 _ _ _ _ _ ?_ ?_, ih]
    · unfold rzO kz; split <;> omega
    · unfold rzN; split <;> omega
/-- what holds then -/
theorem resS_wf {gl : List Int} (h : WF0 g rg gl) (p0 : 0 ≤ p) (h8 : p < g 725) (hs : s = 2 ∨ s = 4 ∨ s = 8) (hne : pz g (16 * p) ≠ s) (hfree : ∀ a, 0 ≤ a → a < 128 → a / 16 = p → g a = 0) : WF0 (rzG g p s) (rzR g rg p s 8) gl ∧ ∀ a, ob (rzG g p s) a ↔ ob g a := by
  obtain ⟨h1, h2, h3, h4, h5, h6, h7⟩ := h
  have hp8 : p < 8 := by have := h1.2.1; omega
  have hsl := rzG_sl (g := g) p0 hp8 hs
  have hob : ∀ a, ob (rzG g p s) a ↔ ob g a := by
    intro a
    unfold ob
    rw [hsl]
    constructor
    · rintro ⟨⟨a0, a1, q⟩, q2⟩
      rw [rzG_lo p0 a1 hp8] at q2
      rcases q with q | q
      · exact absurd (hfree a a0 a1 q.1) q2
      · exact ⟨q.2, q2⟩
    · rintro ⟨q1, q2⟩
      have a0 := q1.1
      have a1 := q1.2.1
      rw [rzG_lo p0 a1 hp8]
      refine ⟨⟨a0, a1, Or.inr ⟨fun e => q2 (hfree a a0 a1 e), q1⟩⟩, q2⟩
  have hpgn : ∀ a, ob g a → a / 16 ≠ p := fun a ha e => ha.2 (hfree a ha.1.1 ha.1.2.1 e)
  refine ⟨⟨⟨?_, ?_, fun q q0 q1 => ?_⟩, fun a a0 a1 => ?_, rz_row h1 h2 h3 p0 hp8 hs hne hfree, fun a ha => ?_, ⟨fun x x0 x1 => ?_, fun a f ha f0 f1 => ?_⟩, ?_, ?_⟩, hob⟩
  · rw [rzG_hi p0 (by omega) hp8 (by omega)]; exact h1.1
  · rw [rzG_hi p0 (by omega) hp8 (by omega)]; exact h1.2.1
  · rw [rzG_hi p0 (i := 725) (by omega) hp8 (by omega)]
    by_cases e : q = p
    · subst e
      have : rzG g q s (707 + q) = s := by unfold rzG; rw [if_pos rfl]
      rw [this]
      exact ⟨by omega, fun _ => by omega⟩
    · rw [rzG_hi p0 (by omega) hp8 (by omega)]
      exact h1.2.2 q q0 q1
  · rw [rzG_lo p0 a1 hp8, hsl]
    have := h2 a a0 a1
    refine ⟨this.1, this.2.1, fun q => ?_⟩
    by_cases e : a / 16 = p
    · exact hfree a a0 a1 e
    · exact this.2.2 (fun w => q ⟨a0, a1, Or.inr ⟨e, w⟩⟩)
  · obtain ⟨a0, a1, q⟩ := (hsl a).mp ha
    rw [rzG_lo p0 a1 hp8, rzG_fl p0 hp8 a0 a1, rzG_pz p0 hp8 a0 a1]
    rcases q with ⟨e, q⟩ | ⟨e, q⟩
    · rw [if_pos ⟨e, q⟩, if_pos e, hfree a a0 a1 e]
      exact ⟨fun _ => rfl, fun w => absurd rfl w⟩
    · rw [if_neg (fun w => e w.1), if_neg e]
      exact h4 a q
  · unfold nok
    rw [hob, rzG_hi p0 (by omega) hp8 (by omega)]
    exact h5.1 x x0 x1
  · have ha' := (hob a).mp ha
    have a0 := ha'.1.1
    have a1 := ha'.1.2.1
    rw [rzG_fl p0 hp8 a0 a1, if_neg (fun w => hpgn a ha' w.1)] at f1
    have hfl := (h4 a ha'.1).2 ha'.2
    have hb := base_of (g := g) h1 (f := f + 1) ha'.1 (by omega) (by omega)
    unfold nok
    rw [hob, rzG_hi p0 (by omega) hp8 (by omega)]
    exact h5.2 a f ha' f0 f1
  · unfold w_run
    obtain ⟨r1, r2, r3, r4, r5⟩ := h6
    rw [rzG_hi p0 (i := 726) (by omega) hp8 (by omega), rzG_hi p0 (i := 727) (by omega) hp8 (by omega), rzG_hi p0 (i := 728) (by omega) hp8 (by omega)]
    refine ⟨r1, fun e => ?_, r3, fun a => ?_, ?_⟩
    · obtain ⟨s1, s2, s3, s4⟩ := r2 e
      refine ⟨s1, s2, s3, fun a a0 a1 => ?_⟩
      rw [rzG_lo p0 a1 hp8]; exact s4 a a0 a1
    · rw [r4 a, hob]
      constructor
      · rintro ⟨q1, q2, q3⟩
        rw [rzG_lo p0 q1.1.2.1 hp8]; exact ⟨q1, q2, q3⟩
      · rintro ⟨q1, q2, q3⟩
        rw [rzG_lo p0 q1.1.2.1 hp8] at q2; exact ⟨q1, q2, q3⟩
    · rcases r5 with r5 | r5
      · exact Or.inl r5
      · refine Or.inr ?_
        have a0 := r5.1.1.1
        have a1 := r5.1.1.2.1
        rw [hob, rzG_lo p0 a1 hp8, rzG_fl p0 hp8 a0 a1, if_neg (fun w => hpgn _ r5.1 w.1)]
        exact r5
  · unfold w_set
    rw [rzG_hi p0 (i := 735) (by omega) hp8 (by omega), rzG_hi p0 (i := 736) (by omega) hp8 (by omega), rzG_hi p0 (i := 737) (by omega) hp8 (by omega), rzG_hi p0 (i := 738) (by omega) hp8 (by omega)]
    exact h7
end RZ
