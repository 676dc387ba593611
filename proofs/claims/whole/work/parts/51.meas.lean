/-! a cycle ends: what goes down with each step -/
def eN (rg : Int → List Int) : Int := ((rg 1).length : Int) + ((rg 5).length : Int) + ((rg 9).length : Int)
theorem greyS_eN {S : hSt} (h : WS S) {a : Int} (ha : nok S.1 a) : eN (greyS S a).2.1 + ((greyS S a).2.2.length : Int) = eN S.2.1 + (S.2.2.length : Int) := by
  unfold greyS
  split
  · rename_i hc
    have hob : ob S.1 a := by
      rcases ha with e | e
      · omega
      · exact e
    obtain ⟨e1, e2, e3, e4, e5⟩ := sl_even h.1 hob.1
    have a1 := hob.1.2.1
    have hk : kz S.1 a = 0 ∨ kz S.1 a = 4 ∨ kz S.1 a = 8 := by unfold kz at e4 e5 ⊢; omega
    have hm : a / 2 ∈ S.2.1 (kz S.1 a + 1) := ((h.2.2.1 _ (by omega) (by omega)).2 (a / 2)).mpr ⟨by omega, by omega, by rw [show 2 * (a / 2) = a by omega]; exact ⟨hob.1, by omega⟩⟩
    have hl : (((S.2.1 (kz S.1 a + 1)).erase (a / 2)).length : Int) = ((S.2.1 (kz S.1 a + 1)).length : Int) - 1 := by
      rw [List.length_erase_of_mem hm]
      have := List.length_pos_of_mem hm
      omega
    show eN (rmv S.2.1 (a / 2) (kz S.1 a + 1) (kz S.1 a + 2) true) + ((S.2.2 ++ [a]).length : Int) = _
    rw [List.length_append, List.length_singleton]
    unfold eN rmv
    rcases hk with e | e | e <;> rw [e] at hl ⊢ <;> simp at hl ⊢ <;> omega
  · rfl
theorem greyF_eN {S : hSt} (h : WS S) {f : Nat → Int} : ∀ n : Nat, (∀ i, i < n → nok S.1 (f i)) → eN (greyF S f n).2.1 + ((greyF S f n).2.2.length : Int) = eN S.2.1 + (S.2.2.length : Int) := by
  intro n
  induction n with
  | zero => intro _; rfl
  | succ n ih =>
    intro hf
    obtain ⟨i1, i2, i3⟩ := greyF_ok (g := S.1) (rg := S.2.1) (gl := S.2.2) h (f := f) n (fun i hi => hf i (by omega))
    have hn : nok (greyF S f n).1 (f n) := by
      rcases hf n (by omega) with e | e
      · exact Or.inl e
      · exact Or.inr ((i2 _).mpr e)
    show eN (greyS (greyF S f n) (f n)).2.1 + ((greyS (greyF S f n) (f n)).2.2.length : Int) = _
    rw [greyS_eN i1 hn, ih (fun i hi => hf i (by omega))]
def mu (S : hSt) : Int := 9 * (eN S.2.1 + (S.2.2.length : Int)) + (if S.1 727 = -1 then 0 else 8 - S.1 728)
theorem run_in {S : hSt} (h : WS S) : S.1 727 = -1 ∧ S.1 728 = 0 ∨ S.1 727 ≠ -1 ∧ ob S.1 (S.1 727) ∧ 0 ≤ S.1 728 ∧ S.1 728 ≤ S.1 (128 + S.1 727) ∧ S.1 (128 + S.1 727) ≤ 7 := by
  rcases h.2.2.2.2.2.1.2.2.2.2 with r | r
  · exact Or.inl r
  · refine Or.inr ⟨?_, r.1, r.2.2.1, r.2.2.2, ?_⟩
    · have := r.1.1.1; omega
    · have := (h.2.2.2.1 _ r.1.1).2 r.1.2
      have := (sl_even h.1 r.1.1).2.2.1
      omega
theorem eN_nn (rg : Int → List Int) : 0 ≤ eN rg := by unfold eN; omega
theorem mu_nn {S : hSt} (h : WS S) : 0 ≤ mu S ∧ mu S ≤ 3000 := by
  have h0 := eN_nn S.2.1
  have h1 := gl_len h
  have hR := WR_of h
  have q1 := row_len hR (k := 1) (by omega) (by omega)
  have q5 := row_len hR (k := 5) (by omega) (by omega)
  have q9 := row_len hR (k := 9) (by omega) (by omega)
  have he : eN S.2.1 ≤ 192 := by unfold eN; omega
  unfold mu
  rcases run_in h with r | r
  · rw [if_pos r.1]; omega
  · rw [if_neg r.1]; omega
theorem look_mu {S : hSt} (h : WS S) (ha : ob S.1 (S.1 727)) : mu (lookS S) ≤ mu S ∧ (S.1 728 < S.1 (128 + S.1 727) → mu (lookS S) = mu S - 1) := by
  have hn : S.1 727 ≠ -1 := by have := ha.1.1; omega
  obtain ⟨l1, l2, l3, l4⟩ := lookS_wf h ha
  unfold lookS at l2 ⊢
  split
  · rename_i e
    rw [if_pos e] at l2
    have r5 : 0 ≤ S.1 728 := by
      rcases h.2.2.2.2.2.1.2.2.2.2 with r5 | r5 <;> omega
    have hnk := h.2.2.2.2.1.2 (S.1 727) (S.1 728) ha r5 e
    have h128 : S.1 (256 + S.1 727 + 1 + S.1 728) < 128 := by
      rcases hnk with q | q
      · omega
      · exact q.1.2.1
    have hg := gu728_wf h ha (v := S.1 728 + 1) (by omega) (by omega)
    have hnk4 : nok (gu S.1 728 (S.1 728 + 1)) (S.1 (256 + S.1 727 + 1 + S.1 728)) := by
      rcases hnk with q | q
      · exact Or.inl q
      · refine Or.inr ?_
        obtain ⟨⟨q0, q1, q2⟩, q3⟩ := q
        refine ⟨⟨q0, q1, ?_⟩, ?_⟩
        · unfold pz; rw [gu_n _ _ (by omega)]; exact q2
        · rw [gu_n _ _ (by omega)]; exact q3
    have he := greyS_eN (S := (gu S.1 728 (S.1 728 + 1), S.2.1, S.2.2)) hg hnk4
    have h728 : (greyS (gu S.1 728 (S.1 728 + 1), S.2.1, S.2.2) (S.1 (256 + S.1 727 + 1 + S.1 728))).1 728 = S.1 728 + 1 := by
      rw [greyS_big _ _ h128 _ (by omega)]
      show gu S.1 728 (S.1 728 + 1) 728 = _
      rw [gu_s]
    have hm : mu (greyS (gu S.1 728 (S.1 728 + 1), S.2.1, S.2.2) (S.1 (256 + S.1 727 + 1 + S.1 728))) = mu S - 1 := by
      unfold mu
      rw [l2, if_neg hn, if_neg hn, h728, he]
      show 9 * (eN S.2.1 + (S.2.2.length : Int)) + _ = _
      omega
    exact ⟨by omega, fun _ => hm⟩
  · rename_i e
    exact ⟨Int.le_refl _, fun q => absurd q e⟩
theorem step_mu {S : hSt} (h : WL S) (hr : S.1 726 = 1) : (stepS S).1 726 = 0 ∨ mu (stepS S) < mu S := by
  have h1 : WL (tickS S) := ⟨tickS_wf h.1, by
    intro _
    have := h.2 hr
    unfold tickS
    show S.2.2 ≠ [] ∨ gu S.1 730 (az_wr (S.1 730 + 1)) 727 ≠ -1
    rw [gu_n _ _ (by omega)]; exact this⟩
  have hr1 : (tickS S).1 726 = 1 := by
    show gu S.1 730 (az_wr (S.1 730 + 1)) 726 = 1
    rw [gu_n _ _ (by omega)]; exact hr
  have m1 : mu (tickS S) = mu S := by
    unfold mu
    show 9 * (eN S.2.1 + (S.2.2.length : Int)) + (if gu S.1 730 (az_wr (S.1 730 + 1)) 727 = -1 then 0 else 8 - gu S.1 730 (az_wr (S.1 730 + 1)) 728) = _
    rw [gu_n _ _ (by omega), gu_n _ _ (by omega)]
  obtain ⟨p1, p2, p3⟩ := pickS_wf h1 hr1
  have m2 : mu (pickS (tickS S)) ≤ mu S ∧ ((tickS S).1 727 = -1 → mu (pickS (tickS S)) < mu S) := by
    unfold pickS at p2 p1 ⊢
    split
    · rename_i e
      rw [if_pos e] at p2 p1
      have hne : 0 < (tickS S).2.2.length := by
        rcases h1.2 hr1 with q | q
        · exact List.length_pos_iff.mpr q
        · exact absurd e q
      have hb := bs_in (tickS S).1 (tickS S).2.2 (tickS S).2.2.length hne
      have hlen : ((takeS (tickS S)).2.2.length : Int) = ((tickS S).2.2.length : Int) - 1 := by
        show (((tickS S).2.2.eraseIdx (bs (tickS S).1 (tickS S).2.2 (tickS S).2.2.length).toNat).length : Int) = _
        rw [List.length_eraseIdx, if_pos (by omega)]
        omega
      have hmt : mu (takeS (tickS S)) = mu (tickS S) - 1 := by
        have hn : (takeS (tickS S)).1 727 ≠ -1 := by have := p2.1.1; omega
        unfold mu
        rw [if_neg hn, if_pos e, hlen]
        show 9 * (eN (tickS S).2.1 + _) + (8 - gu (gu (tickS S).1 727 ((tickS S).2.2.getD (bs (tickS S).1 (tickS S).2.2 (tickS S).2.2.length).toNat 0)) 728 0 728) = _
        rw [gu_s]
        omega
      exact ⟨by omega, fun _ => by omega⟩
    · rename_i e
      exact ⟨by omega, fun q => absurd q e⟩
  obtain ⟨l1, l2, l3, l4⟩ := lookS_wf p1 p2
  obtain ⟨m3, m4⟩ := look_mu p1 p2
  rw [← l2] at l3
  unfold stepS doneS
  split
  · rename_i e
    refine Or.inr ?_
    by_cases q : (pickS (tickS S)).1 728 < (pickS (tickS S)).1 (128 + (pickS (tickS S)).1 727)
    · have := m4 q; omega
    · exfalso
      have : lookS (pickS (tickS S)) = pickS (tickS S) := by unfold lookS; rw [if_neg q]
      rw [this] at e
      exact q e
  · obtain ⟨b1, b2, b3, b4⟩ := blackS_wf l1 l3
    obtain ⟨r1, r2⟩ := rootsS_wf b1
    have m5 : mu (blackS (lookS (pickS (tickS S)))) < mu (lookS (pickS (tickS S))) := by
      generalize lookS (pickS (tickS S)) = L at *
      have hn : L.1 727 ≠ -1 := by have := l3.1.1; omega
      rcases run_in l1 with r | r
      · exact absurd r.1 hn
      · have hc2 : L.1 (L.1 727) = 2 := by
          rcases l1.2.2.2.2.2.1.2.2.2.2 with r5 | r5
          · exact absurd r5.1 hn
          · exact r5.2.1
        obtain ⟨e1, e2, e3, e4, e5⟩ := sl_even l1.1 l3.1
        have hk : kz L.1 (L.1 727) = 0 ∨ kz L.1 (L.1 727) = 4 ∨ kz L.1 (L.1 727) = 8 := by unfold kz at e4 e5 ⊢; omega
        have hE : eN (blackS L).2.1 = eN L.2.1 := by
          show eN (rmv L.2.1 (L.1 727 / 2) (kz L.1 (L.1 727) + 2) (kz L.1 (L.1 727) + 3) true) = _
          unfold eN rmv
          rcases hk with e | e | e <;> rw [e] <;> simp
        unfold mu
        rw [b2, if_pos rfl, if_neg hn, hE]
        show 9 * (eN L.2.1 + (L.2.2.length : Int)) + 0 < _
        omega
    generalize hB : blackS (lookS (pickS (tickS S))) = B at *
    have m6 : mu (rootsS B) = mu B := by
      have h727 := r2 727 (by omega)
      have h728 := r2 728 (by omega)
      unfold mu
      rw [h727, h728]
      unfold rootsS
      split
      · have := greyF_eN b1 (f := fun i => B.1 (715 + i)) 6 (fun i hi => b1.2.2.2.2.1.1 (715 + (i : Int)) (by omega) (by omega))
        rw [this]
      · rfl
    unfold lastS
    split
    · exact Or.inl rfl
    · exact Or.inr (by omega)
theorem adv_stop {S : hSt} (hn : S.1 726 ≠ 1) (n : Nat) : advS n S = S ∧ advN n S = 0 := by
  cases n with
  | zero => exact ⟨rfl, rfl⟩
  | succ n =>
    refine ⟨?_, ?_⟩
    · show (if S.1 726 = 1 then advS n (stepS S) else S) = S
      rw [if_neg hn]
    · show (if S.1 726 = 1 then advN n (stepS S) + 1 else 0) = 0
      rw [if_neg hn]
theorem adv_ends {S : hSt} (h : WL S) (n : Nat) (hn : mu S < n) : (advS n S).1 726 = 0 := by
  induction n generalizing S with
  | zero => have := (mu_nn h.1).1; omega
  | succ n ih =>
    show (if S.1 726 = 1 then advS n (stepS S) else S).1 726 = 0
    split
    · rename_i e
      rcases step_mu h e with q | q
      · rw [(adv_stop (S := stepS S) (by omega) n).1]; exact q
      · exact ih (stepS_wf h e) (by omega)
    · rename_i e
      rcases h.1.2.2.2.2.2.1.1 with q | q
      · exact q
      · exact absurd q e
/-- to the end -/
def TE : Nat := 1000000
theorem adv_TE {S : hSt} (h : WL S) : (advS TE S).1 726 = 0 := adv_ends h TE (by have := (mu_nn h.1).2; unfold TE; omega)
/-! a start -/
theorem WR_turn {g : Int → Int} {rg : Int → List Int} (k : Int) (hk : k = 0 ∨ k = 4 ∨ k = 8) : ∀ (l2 l1 : List Int), WR (Tg g 1 l1) (Tr rg (k + 3) (k + 1) l1 l2) → WR (Tg g 1 (l1 ++ l2)) (Tr rg (k + 3) (k + 1) (l1 ++ l2) []) := by
  intro l2
  induction l2 with
  | nil => intro l1 h; rw [List.append_nil]; exact h
  | cons n t ih =>
    intro l1 hw
    have hk0 : 0 ≤ k + 3 ∧ k + 3 < 12 ∧ (k + 3) / 4 * 4 = k ∧ (k + 3) % 4 = 3 := by omega
    have hmem : n ∈ Tr rg (k + 3) (k + 1) l1 (n :: t) (k + 3) := by unfold Tr; rw [if_pos rfl]; exact List.mem_cons_self
    obtain ⟨n0, n1, nsl, nkz, nc⟩ := WR_mem hw hk0.1 hk0.2.1 hmem
    rw [hk0.2.2.1] at nkz
    rw [hk0.2.2.2] at nc
    have hW3 := WR_mv hw (c := 1) false nsl (by omega) (by omega) (by omega)
    rw [show 2 * n / 2 = n by omega, nkz, nc, Tr_step rg (by omega) l1 t n, Tg_step] at hW3
    have := ih (l1 ++ [n]) hW3
    rw [List.append_assoc, List.singleton_append] at this
    exact this
theorem WR_blk1 {S : hSt} (h : WR S.1 S.2.1) (k : Int) (hk : k = 0 ∨ k = 4 ∨ k = 8) : WR (blk1 S k).1 (blk1 S k).2.1 := by
  have := WR_turn (g := S.1) (rg := S.2.1) k hk (S.2.1 (k + 3)) [] (by rw [Tg_nil, Tr_nil _ (by omega)]; exact h)
  rw [List.nil_append] at this
  exact this
theorem WR_blkS {S : hSt} (h : WR S.1 S.2.1) : WR (blkS S).1 (blkS S).2.1 := WR_blk1 (WR_blk1 (WR_blk1 h 0 (by omega)) 4 (by omega)) 8 (by omega)
theorem start_WR {g : Int → Int} {rg : Int → List Int} {gl : List Int} (h : WF0 g rg gl) : WR (blkS (startG g, rg, gl)).1 (blkS (startG g, rg, gl)).2.1 :=
  WR_blkS (S := (startG g, rg, gl)) (WR_congr (WR_of h) (fun i hi => by show gu (gu g 726 1) 740 (g 730) i = g i; rw [gu_n _ _ (by omega), gu_n _ _ (by omega)]))
theorem startS_wf {S : hSt} (h : WS S) (hn : S.1 726 = 0) : WL (startS S) ∧ ((startS S).1 729 = S.1 729 ∨ (startS S).1 729 = S.1 729 + 1) := by
  obtain ⟨f1, f2, f3, f4, f5, f6⟩ := startM_facts (g := S.1) (rg := S.2.1) (gl := S.2.2) h hn (start_WR h)
  have h727 : (startM S).1 727 = -1 := by
    rw [f3 727 (by omega) (by omega) (by omega)]
    exact (h.2.2.2.2.2.1.2.1 hn).2.1
  have h729 : (startM S).1 729 = S.1 729 := f3 729 (by omega) (by omega) (by omega)
  have hl := lastS_wf (S := startM S) f1 h727
  have he : startS S = lastS (startM S) := rfl
  rw [he]
  refine ⟨hl, ?_⟩
  unfold lastS
  split
  · refine Or.inr ?_
    show (startM S).1 729 + 1 = _
    rw [h729]
  · exact Or.inl h729
