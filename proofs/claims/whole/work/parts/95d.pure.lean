/-! what a cycle leaves as it is; the cells that are free -/
set_option maxRecDepth 20000
theorem wr_add (p q : Int) : az_wr (az_wr p + q) = az_wr (p + q) := by
  unfold az_wr
  rw [Int32.ofInt_add, Int32.ofInt_toInt, ← Int32.ofInt_add]
abbrev kpt (i : Int) : Prop := 707 ≤ i ∧ i < 715 ∨ i = 725 ∨ i = 730 ∨ 735 ≤ i ∧ i < 739
theorem end_at (S : hSt) {i : Int} (h : kpt i) : (endS S).1 i = S.1 i := endG_keep S.1 S.2.1 (by omega) (by omega) (by omega) (by omega)
theorem look_at {S : hSt} (h : WS S) (ha : ob S.1 (S.1 727)) {i : Int} (hi : kpt i) : (lookS S).1 i = S.1 i := by
  unfold lookS
  split
  · rename_i e
    have r5 : 0 ≤ S.1 728 := by
      rcases h.2.2.2.2.2.1.2.2.2.2 with r5 | r5 <;> omega
    have hnk := h.2.2.2.2.1.2 (S.1 727) (S.1 728) ha r5 e
    have h128 := nok_lt hnk
    rw [greyS_big _ _ h128 _ (by omega)]
    show gu S.1 728 (S.1 728 + 1) i = S.1 i
    rw [gu_n _ _ (by omega)]
  · rfl
theorem step_at {S : hSt} (h : WL S) (hr : S.1 726 = 1) {i : Int} (hi : kpt i) : (stepS S).1 i = (tickS S).1 i := by
  have h1 : WL (tickS S) := ⟨tickS_wf h.1, by
    intro _
    have := h.2 hr
    unfold tickS
    show S.2.2 ≠ [] ∨ gu S.1 730 (az_wr (S.1 730 + 1)) 727 ≠ -1
    rw [gu_n _ _ (by omega)]; exact this⟩
  have hr1 : (tickS S).1 726 = 1 := by
    show gu S.1 730 (az_wr (S.1 730 + 1)) 726 = 1
    rw [gu_n _ _ (by omega)]; exact hr
  obtain ⟨p1, p2, p3⟩ := pickS_wf h1 hr1
  have e2 : (pickS (tickS S)).1 i = (tickS S).1 i := by
    unfold pickS
    split
    · show gu (gu (tickS S).1 727 ((tickS S).2.2.getD (bs (tickS S).1 (tickS S).2.2 (tickS S).2.2.length).toNat 0)) 728 0 i = _
      rw [gu_n _ _ (by omega), gu_n _ _ (by omega)]
    · rfl
  obtain ⟨l1, l2, l3, l4⟩ := lookS_wf p1 p2
  have e3 := look_at p1 p2 hi
  rw [← l2] at l3
  unfold stepS doneS
  split
  · exact e3.trans e2
  · obtain ⟨b1, b2, b3, b4⟩ := blackS_wf l1 l3
    obtain ⟨r1, r2⟩ := rootsS_wf b1
    have e4 : (rootsS (blackS (lookS (pickS (tickS S))))).1 i = (tickS S).1 i := by
      rw [r2 i (by omega), b4 i (by omega) (by omega) (by omega), e3, e2]
    unfold lastS
    split
    · rw [end_at _ hi]; exact e4
    · exact e4
theorem tick_at (S : hSt) {i : Int} (h : i ≠ 730) : (tickS S).1 i = S.1 i := gu_n _ _ h
theorem adv_at {S : hSt} (h : WL S) (n : Nat) {i : Int} (hi : kpt i) (h7 : i ≠ 730) : (advS n S).1 i = S.1 i := by
  induction n generalizing S with
  | zero => rfl
  | succ n ih =>
    show (if S.1 726 = 1 then advS n (stepS S) else S).1 i = S.1 i
    by_cases e : S.1 726 = 1
    · rw [if_pos e, ih (stepS_wf h e), step_at h e hi, tick_at S h7]
    · rw [if_neg e]
theorem adv_730 {S : hSt} (h : WL S) (n : Nat) (c : Int) : az_wr ((advS n S).1 730 - c) = az_wr (S.1 730 + (advN n S : Int) - c) := by
  induction n generalizing S with
  | zero =>
    show az_wr (S.1 730 - c) = az_wr (S.1 730 + ((0 : Nat) : Int) - c)
    rw [show S.1 730 + ((0 : Nat) : Int) - c = S.1 730 - c by omega]
  | succ n ih =>
    show az_wr ((if S.1 726 = 1 then advS n (stepS S) else S).1 730 - c) = az_wr (S.1 730 + ((if S.1 726 = 1 then advN n (stepS S) + 1 else 0 : Nat) : Int) - c)
    by_cases e : S.1 726 = 1
    · rw [if_pos e, if_pos e, ih (stepS_wf h e), step_at h e (by omega)]
      have : (tickS S).1 730 = az_wr (S.1 730 + 1) := by
        show gu S.1 730 (az_wr (S.1 730 + 1)) 730 = _
        rw [gu_s]
      rw [this, show az_wr (S.1 730 + 1) + (advN n (stepS S) : Int) - c = az_wr (S.1 730 + 1) + ((advN n (stepS S) : Int) - c) by omega, wr_add]
      congr 1
      omega
    · rw [if_neg e, if_neg e, show S.1 730 + ((0 : Nat) : Int) - c = S.1 730 - c by omega]
theorem start_at {S : hSt} (h : WS S) (hn : S.1 726 = 0) {i : Int} (hi : kpt i) : (startS S).1 i = S.1 i := by
  obtain ⟨f1, f2, f3, f4, f5, f6⟩ := startM_facts (g := S.1) (rg := S.2.1) (gl := S.2.2) h hn (start_WR h)
  have e : (startM S).1 i = S.1 i := f3 i (by omega) (by omega) (by omega)
  unfold startS
  split
  · rw [end_at _ hi]; exact e
  · exact e
theorem toE_at {S : hSt} (h : WL S) {i : Int} (hi : kpt i) : (toE S).1 i = S.1 i := by
  unfold toE
  split
  · rfl
  · have := run01 h
    exact start_at h.1 (by omega) hi
theorem en_at {S : hSt} (h : WL S) {i : Int} (hi : kpt i) (h7 : i ≠ 730) : (enS S).1 i = S.1 i := (adv_at (toE_wf h).1 TE hi h7).trans (toE_at h hi)
theorem en_steps {S : hSt} (h : WL S) : az_wr ((enS S).1 730 - S.1 730) = (advN TE (toE S) : Int) := by
  have hle := advN_le TE (toE S)
  have e := adv_730 (toE_wf h).1 TE (S.1 730)
  rw [toE_at h (by omega)] at e
  have e' : az_wr ((enS S).1 730 - S.1 730) = az_wr (S.1 730 + (advN TE (toE S) : Int) - S.1 730) := e
  rw [e', show S.1 730 + (advN TE (toE S) : Int) - S.1 730 = (advN TE (toE S) : Int) by omega]
  unfold TE at hle ⊢
  exact az_wr_id (by omega) (by omega)
/-- free cells and those of objects are together those of the pages -/
theorem cf_oc {S : hSt} (h : WL S) : cfN S.2.1 + ocN S.1 S.2.1 = sumN 8 (fun p => if S.1 (707 + p) = 0 then 0 else 16) := by
  have hW := WR_of h.1
  have p1 := h.1.1.1
  have p8 := h.1.1.2.1
  have hlen : ∀ k, 0 ≤ k → k < 12 → ((S.2.1 k).length : Int) = sumN 8 (fun p => fl S.2.1 k p) := by
    intro k k0 k1
    refine (sum_pages 8 (S.2.1 k) (fun n hn => ?_)).symm
    have := (mem_row hW k0 k1).mp hn
    omega
  have hoc : ocN S.1 S.2.1 = sumN 8 (fun p => us S.2.1 p * S.1 (707 + p)) := by
    have key : ∀ d : Nat, (S.1 725).toNat + d ≤ 8 → sumN ((S.1 725).toNat + d) (fun p => us S.2.1 p * S.1 (707 + p)) = ocN S.1 S.2.1 := by
      intro d
      induction d with
      | zero => intro _; rfl
      | succ d ih =>
        intro hd
        show sumN ((S.1 725).toNat + d) (fun p => us S.2.1 p * S.1 (707 + p)) + us S.2.1 (((S.1 725).toNat + d : Nat) : Int) * S.1 (707 + (((S.1 725).toNat + d : Nat) : Int)) = _
        rw [ih (by omega), (h.1.1.2.2 (((S.1 725).toNat + d : Nat) : Int) (by omega) (by omega)).2 (by omega)]
        omega
    have := key (8 - (S.1 725).toNat) (by omega)
    rw [show (S.1 725).toNat + (8 - (S.1 725).toNat) = 8 by omega] at this
    exact this.symm
  have hf0 : ∀ p, 0 ≤ p → p < 8 → ∀ k, (k = 0 ∨ k = 4 ∨ k = 8) → S.1 (707 + p) / 4 * 4 ≠ k ∨ S.1 (707 + p) = 0 → fl S.2.1 k p = 0 := by
    intro p p0 p8 k hk hne
    unfold fl
    have : (S.2.1 k).filter (fun n => n / 8 == p) = [] := by
      rw [List.filter_eq_nil_iff]
      intro n hn hq
      have hq' : n / 8 = p := by simpa using hq
      obtain ⟨m1, m2, m3, m4⟩ := (mem_row hW (by omega) (by omega)).mp hn
      have hpz : pz S.1 (2 * n) = S.1 (707 + p) := by unfold pz; rw [show 2 * n / 16 = p by omega]
      have hnz := m3.2.2.1
      have hcol := h.1.2.1 (2 * n) m3.1 m3.2.1
      unfold kz at m4
      rw [hpz] at m4 hnz
      have hs := (h.1.1.2.2 p p0 p8).1
      omega
    rw [this]; rfl
  rw [hoc]
  unfold cfN
  rw [hlen 0 (by omega) (by omega), hlen 4 (by omega) (by omega), hlen 8 (by omega) (by omega)]
  have hmul : ∀ (c : Int) (f : Int → Int) (n : Nat), c * sumN n f = sumN n (fun p => c * f p) := by
    intro c f n
    induction n with
    | zero => show c * 0 = 0; omega
    | succ n ih => show c * (sumN n f + f n) = sumN n (fun p => c * f p) + c * f n; rw [Int.mul_add, ih]
  rw [hmul, hmul, hmul, ← sumN_add, ← sumN_add, ← sumN_add]
  refine sumN_congr 8 (fun q hq => ?_)
  show 2 * fl S.2.1 0 q + 4 * fl S.2.1 4 q + 8 * fl S.2.1 8 q + us S.2.1 q * S.1 (707 + q) = if S.1 (707 + q) = 0 then 0 else 16
  have hs := (h.1.1.2.2 q (by omega) (by omega)).1
  by_cases e : S.1 (707 + (q : Int)) = 0
  · rw [if_pos e, e, hf0 q (by omega) (by omega) 0 (by omega) (Or.inr e), hf0 q (by omega) (by omega) 4 (by omega) (Or.inr e), hf0 q (by omega) (by omega) 8 (by omega) (Or.inr e)]
    omega
  · rw [if_neg e]
    have hcn := page_cnt hW (p := q) (by omega) (by omega) e
    rcases hs with e0 | e2 | e4 | e8
    · exact absurd e0 e
    · rw [hf0 q (by omega) (by omega) 4 (by omega) (by omega), hf0 q (by omega) (by omega) 8 (by omega) (by omega)]
      rw [e2] at hcn ⊢
      have h0 : (2 : Int) / 4 * 4 = 0 := by decide
      rw [h0] at hcn
      have h16 : (16 : Int) / 2 = 8 := by decide
      omega
    · rw [hf0 q (by omega) (by omega) 0 (by omega) (by omega), hf0 q (by omega) (by omega) 8 (by omega) (by omega)]
      rw [e4] at hcn ⊢
      have h0 : (4 : Int) / 4 * 4 = 4 := by decide
      rw [h0] at hcn
      have h16 : (16 : Int) / 4 = 4 := by decide
      omega
    · rw [hf0 q (by omega) (by omega) 0 (by omega) (by omega), hf0 q (by omega) (by omega) 4 (by omega) (by omega)]
      rw [e8] at hcn ⊢
      have h0 : (8 : Int) / 4 * 4 = 8 := by decide
      rw [h0] at hcn
      have h16 : (16 : Int) / 8 = 2 := by decide
      omega
theorem en_cells {S : hSt} (h : WL S) : cfN (enS S).2.1 - cfN S.2.1 = ocN S.1 S.2.1 - ocN (enS S).1 (enS S).2.1 := by
  have h1 := cf_oc h
  have h2 := cf_oc (S := enS S) (advS_wf (toE_wf h).1 TE)
  have h3 : sumN 8 (fun p => if (enS S).1 (707 + p) = 0 then (0 : Int) else 16) = sumN 8 (fun p => if S.1 (707 + p) = 0 then (0 : Int) else 16) := by
    refine sumN_congr 8 (fun q hq => ?_)
    show (if (enS S).1 (707 + (q : Int)) = 0 then (0 : Int) else 16) = if S.1 (707 + (q : Int)) = 0 then (0 : Int) else 16
    rw [en_at h (by omega) (by omega)]
  omega
theorem ap_737 {S : hSt} (h : WL S) (b : Int) : (apS S b).1 737 = S.1 737 := by
  show gu (advS TE S).1 735 b 737 = _
  rw [gu_n _ _ (by omega)]
  exact adv_at h TE (by omega) (by omega)
theorem gu_same (g : Int → Int) (i : Int) : gu g i (g i) = g := by
  funext j
  unfold gu
  split
  · rename_i e; rw [e]
  · rfl
theorem lo_off {S : hSt} (hr : S.1 726 ≠ 1) (R : rSt) (n : Nat) : loN S R n = 0 := by
  unfold loN
  rw [show sumN n (fun a => if obD S.1 a ∧ a ∉ R.1 ∧ S.1 726 = 1 ∧ S.1 a ≠ 1 then (1 : Int) else 0) = sumN n (fun _ => 0) from sumN_congr n (fun i _ => if_neg (fun q => hr q.2.2.1)), sumN_zero]
