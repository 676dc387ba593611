/-! what stays when an object changes its colour -/
theorem gu_w_pg {g : Int → Int} {a v : Int} (ha : a < 707) (h : w_pg g) : w_pg (gu g a v) := by
  obtain ⟨h1, h2, h3⟩ := h
  refine ⟨by rw [gu_n _ _ (by omega)]; exact h1, by rw [gu_n _ _ (by omega)]; exact h2, fun p p0 p1 => ?_⟩
  rw [gu_n _ _ (show (725 : Int) ≠ a by omega), gu_n _ _ (show 707 + p ≠ a by omega)]
  exact h3 p p0 p1
theorem gu_w_col {g : Int → Int} {a v : Int} (ha : sl g a) (h0 : 0 ≤ v) (h3 : v ≤ 3) (h : w_col g) : w_col (gu g a v) := by
  have ha7 : a < 707 := by have := ha.2.1; omega
  intro b b0 b1
  rw [gu_sl ha7]
  by_cases e : b = a
  · subst e
    rw [gu_s]
    exact ⟨h0, h3, fun hn => absurd ha hn⟩
  · rw [gu_n _ _ e]
    exact h b b0 b1
theorem gu_w_fld {g : Int → Int} {a v : Int} (ha : ob g a) (hv : v ≠ 0) (h : w_fld g) : w_fld (gu g a v) := by
  have ha7 : a < 128 := ha.1.2.1
  intro b hb
  rw [gu_sl (by omega)] at hb
  have hb0 := hb.1
  rw [gu_n _ _ (show 128 + b ≠ a by omega), gu_pz (by omega) b hb0]
  by_cases e : b = a
  · subst e
    rw [gu_s]
    exact ⟨fun q => absurd q hv, fun _ => (h b hb).2 ha.2⟩
  · rw [gu_n _ _ e]
    exact h b hb
theorem gu_w_nam {g : Int → Int} {a v : Int} (ha : ob g a) (hv : v ≠ 0) (h : w_nam g) : w_nam (gu g a v) := by
  have ha7 : a < 128 := ha.1.2.1
  refine ⟨fun x x0 x1 => ?_, fun b f hb f0 f1 => ?_⟩
  · rw [gu_nok ha hv, gu_n _ _ (by omega)]
    exact h.1 x x0 x1
  · rw [gu_ob ha hv] at hb
    have hb0 := hb.1.1
    rw [gu_n _ _ (by omega)] at f1
    rw [gu_nok ha hv, gu_n _ _ (by omega)]
    exact h.2 b f hb f0 f1
theorem gu_w_set {g : Int → Int} {a v : Int} (ha : a < 707) (h : w_set g) : w_set (gu g a v) := by
  unfold w_set
  rw [gu_n _ _ (show (735 : Int) ≠ a by omega), gu_n _ _ (show (736 : Int) ≠ a by omega), gu_n _ _ (show (737 : Int) ≠ a by omega), gu_n _ _ (show (738 : Int) ≠ a by omega)]
  exact h
theorem ecru_run {g : Int → Int} {gl : List Int} (h : w_run g gl) {a : Int} (h0 : 0 ≤ a) (h1 : a < 128) (hc : g a = 1 ∨ g a = 2) : g 726 = 1 := by
  rcases h.1 with e | e
  · have := (h.2.1 e).2.2.2 a h0 h1
    omega
  · exact e
theorem greyS_wf {g : Int → Int} {rg : Int → List Int} {gl : List Int} (h : WF0 g rg gl) {a : Int} (ha : nok g a) : WF0 (greyS (g, rg, gl) a).1 (greyS (g, rg, gl) a).2.1 (greyS (g, rg, gl) a).2.2 := by
  unfold greyS
  split
  · rename_i hc
    obtain ⟨hc0, hc1⟩ := hc
    replace hc1 : g a = 1 := hc1
    have hob : ob g a := by
      rcases ha with e | e
      · omega
      · exact e
    obtain ⟨h1, h2, h3, h4, h5, h6, h7⟩ := h
    have ha7 : a < 128 := hob.1.2.1
    have hrow := row_gu (front := true) (c := 2) h1 h3 hob.1 (by omega) (by omega) (by omega) (by omega) (by omega)
    rw [hc1] at hrow
    refine ⟨gu_w_pg (by omega) h1, gu_w_col hob.1 (by omega) (by omega) h2, hrow, gu_w_fld hob (by omega) h4, gu_w_nam hob (by omega) h5, ?_, gu_w_set (by omega) h7⟩
    have hrun := ecru_run h6 hc0 ha7 (Or.inl hc1)
    obtain ⟨r1, r2, r3, r4, r5⟩ := h6
    have hsc : g 727 ≠ a := by
      intro e
      rcases r5 with r5 | r5
      · omega
      · rw [e] at r5
        omega
    show w_run (gu g a 2) (gl ++ [a])
    unfold w_run
    rw [gu_n _ _ (show (726 : Int) ≠ a by omega), gu_n _ _ (show (727 : Int) ≠ a by omega), gu_n _ _ (show (728 : Int) ≠ a by omega)]
    refine ⟨r1, fun e => by omega, ?_, fun b => ?_, ?_⟩
    · refine List.nodup_append.mpr ⟨r3, by simp, fun x hx b hb => ?_⟩
      rw [List.mem_singleton.mp hb]
      intro e
      have := ((r4 x).mp hx).2.1
      rw [e] at this
      omega
    · rw [List.mem_append, List.mem_singleton, r4, gu_ob hob (by omega)]
      by_cases e : b = a
      · subst e
        rw [gu_s]
        exact ⟨fun _ => ⟨hob, rfl, fun q => hsc q.symm⟩, fun _ => Or.inr rfl⟩
      · rw [gu_n _ _ e]
        exact ⟨fun q => q.elim id (fun q => absurd q e), Or.inl⟩
    · rcases r5 with r5 | r5
      · exact Or.inl r5
      · refine Or.inr ?_
        have := r5.1.1.1
        rw [gu_ob hob (by omega), gu_n _ _ hsc, gu_n _ _ (show 128 + g 727 ≠ a by omega)]
        exact r5
  · exact h
/-- so many names, one behind another -/
def greyF (S : (Int → Int) × (Int → List Int) × List Int) (f : Nat → Int) : Nat → (Int → Int) × (Int → List Int) × List Int
  | 0 => S
  | n + 1 => greyS (greyF S f n) (f n)
theorem greyS_big (S : (Int → Int) × (Int → List Int) × List Int) (a : Int) (ha : a < 128) (x : Int) (hx : 128 ≤ x) : (greyS S a).1 x = S.1 x := by
  unfold greyS
  split
  · exact gu_n _ _ (by omega)
  · rfl
theorem greyS_ob {S : (Int → Int) × (Int → List Int) × List Int} {a : Int} (ha : nok S.1 a) (b : Int) : ob (greyS S a).1 b ↔ ob S.1 b := by
  unfold greyS
  split
  · rename_i hc
    rcases ha with e | e
    · omega
    · exact gu_ob e (by omega) b
  · exact Iff.rfl
theorem greyF_ok {g : Int → Int} {rg : Int → List Int} {gl : List Int} (h : WF0 g rg gl) {f : Nat → Int} : ∀ n : Nat, (∀ i, i < n → nok g (f i)) → WF0 (greyF (g, rg, gl) f n).1 (greyF (g, rg, gl) f n).2.1 (greyF (g, rg, gl) f n).2.2 ∧ (∀ b, ob (greyF (g, rg, gl) f n).1 b ↔ ob g b) ∧ ∀ x, 128 ≤ x → (greyF (g, rg, gl) f n).1 x = g x := by
  intro n
  induction n with
  | zero => intro _; exact ⟨h, fun _ => Iff.rfl, fun _ _ => rfl⟩
  | succ n ih =>
    intro hf
    obtain ⟨i1, i2, i3⟩ := ih (fun i hi => hf i (by omega))
    have hn : nok (greyF (g, rg, gl) f n).1 (f n) := by
      rcases hf n (by omega) with e | e
      · exact Or.inl e
      · exact Or.inr ((i2 _).mpr e)
    have h128 : f n < 128 := by
      rcases hf n (by omega) with e | e
      · omega
      · exact e.1.2.1
    refine ⟨greyS_wf i1 hn, fun b => (greyS_ob hn b).trans (i2 b), fun x hx => ?_⟩
    show (greyS (greyF (g, rg, gl) f n) (f n)).1 x = g x
    rw [greyS_big _ _ h128 x hx]
    exact i3 x hx
