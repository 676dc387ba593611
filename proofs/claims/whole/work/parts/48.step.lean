/-! a step, as a value -/
theorem WF_congr {g g' : Int → Int} {rg : Int → List Int} {gl : List Int} (h : WF0 g rg gl) (hg : ∀ i, i < 729 ∨ 734 < i ∧ i < 739 → g' i = g i) : WF0 g' rg gl := by
  obtain ⟨h1, h2, h3, h4, h5, h6, h7⟩ := h
  have hR := WR_congr (g' := g') ⟨h1, h2, h3⟩ (fun i hi => hg i (by omega))
  have hpz : ∀ b, 0 ≤ b → b < 128 → pz g' b = pz g b := fun b b0 b1 => hg _ (by omega)
  have hsl : ∀ b, sl g' b ↔ sl g b := by
    intro b
    unfold sl
    constructor
    · rintro ⟨w0, w1, w2⟩
      rw [hpz b w0 w1] at w2
      exact ⟨w0, w1, w2⟩
    · rintro ⟨w0, w1, w2⟩
      rw [hpz b w0 w1]
      exact ⟨w0, w1, w2⟩
  have hob : ∀ b, ob g' b ↔ ob g b := by
    intro b
    unfold ob
    rw [hsl]
    constructor
    · rintro ⟨w1, w2⟩
      have := w1.2.1
      rw [hg b (by omega)] at w2
      exact ⟨w1, w2⟩
    · rintro ⟨w1, w2⟩
      have := w1.2.1
      rw [hg b (by omega)]
      exact ⟨w1, w2⟩
  have hnok : ∀ v, nok g' v ↔ nok g v := fun v => by unfold nok; rw [hob]
  refine ⟨hR.1, hR.2.1, hR.2.2, w_fld_congr h4 (fun i hi => hg i (by omega)), ⟨fun x x0 x1 => ?_, fun a f ha f0 f1 => ?_⟩, ?_, ?_⟩
  · rw [hnok, hg x (by omega)]; exact h5.1 x x0 x1
  · have ha' := (hob a).mp ha
    have a1 := ha'.1.2.1
    rw [hg (128 + a) (by omega)] at f1
    have hfl := (h4 a ha'.1).2 ha'.2
    have hb := base_of h1 (f := f + 1) ha'.1 (by omega) (by omega)
    rw [hnok, hg _ (by omega)]
    exact h5.2 a f ha' f0 f1
  · unfold w_run
    obtain ⟨r1, r2, r3, r4, r5⟩ := h6
    rw [hg 726 (by omega), hg 727 (by omega), hg 728 (by omega)]
    refine ⟨r1, fun e => ?_, r3, fun a => ?_, ?_⟩
    · obtain ⟨s1, s2, s3, s4⟩ := r2 e
      refine ⟨s1, s2, s3, fun a a0 a1 => ?_⟩
      rw [hg a (by omega)]; exact s4 a a0 a1
    · rw [r4 a, hob]
      constructor
      · rintro ⟨q1, q2, q3⟩
        have := q1.1.2.1
        rw [hg a (by omega)]; exact ⟨q1, q2, q3⟩
      · rintro ⟨q1, q2, q3⟩
        have := q1.1.2.1
        rw [hg a (by omega)] at q2; exact ⟨q1, q2, q3⟩
    · rcases r5 with r5 | r5
      · exact Or.inl r5
      · refine Or.inr ?_
        have := r5.1.1.2.1
        rw [hob, hg (g 727) (by omega), hg (128 + g 727) (by omega)]
        exact r5
  · unfold w_set
    rw [hg 735 (by omega), hg 736 (by omega), hg 737 (by omega), hg 738 (by omega)]
    exact h7
def tickS (S : hSt) : hSt := (gu S.1 730 (az_wr (S.1 730 + 1)), S.2.1, S.2.2)
def pickS (S : hSt) : hSt := if S.1 727 = -1 then takeS S else S
def lookS (S : hSt) : hSt := if S.1 728 < S.1 (128 + S.1 727) then greyS (gu S.1 728 (S.1 728 + 1), S.2.1, S.2.2) (S.1 (256 + S.1 727 + 1 + S.1 728)) else S
def blackS (S : hSt) : hSt := (gu (gu (gu S.1 (S.1 727) 3) 727 (-1)) 728 0, rmv S.2.1 (S.1 727 / 2) (kz S.1 (S.1 727) + 2) (kz S.1 (S.1 727) + 3) true, S.2.2)
def rootsS (S : hSt) : hSt := if S.2.2.length = 0 ∧ S.1 735 = 1 then greyF S (fun i => S.1 (715 + i)) 6 else S
def lastS (S : hSt) : hSt := if S.2.2.length = 0 then endS S else S
def doneS (S : hSt) : hSt := if S.1 728 < S.1 (128 + S.1 727) then S else lastS (rootsS (blackS S))
def stepS (S : hSt) : hSt := doneS (lookS (pickS (tickS S)))
def advS : Nat → hSt → hSt
  | 0, S => S
  | n + 1, S => if S.1 726 = 1 then advS n (stepS S) else S
def advN : Nat → hSt → Nat
  | 0, _ => 0
  | n + 1, S => if S.1 726 = 1 then advN n (stepS S) + 1 else 0
/-- what holds of a heap between calls -/
def WL (S : hSt) : Prop := WS S ∧ w_live S.1 S.2.2
theorem tickS_wf {S : hSt} (h : WS S) : WS (tickS S) := WF_congr h (fun i hi => gu_n _ _ (by omega))
theorem getD_mem {l : List Int} {i : Nat} (h : i < l.length) : l.getD i 0 ∈ l := by
  rw [List.getD_eq_getElem?_getD, List.getElem?_eq_getElem h]
  exact List.getElem_mem _
theorem mem_eraseIdx {l : List Int} (hn : l.Nodup) {i : Nat} (h : i < l.length) (x : Int) : x ∈ l.eraseIdx i ↔ x ∈ l ∧ x ≠ l.getD i 0 := by
  rw [List.mem_eraseIdx_iff_getElem]
  have hd : l.getD i 0 = l[i] := by rw [List.getD_eq_getElem?_getD, List.getElem?_eq_getElem h]; rfl
  rw [hd]
  constructor
  · rintro ⟨j, hj, hji, rfl⟩
    refine ⟨List.getElem_mem _, fun e => hji ?_⟩
    exact (List.getElem_inj hn).mp e
  · rintro ⟨hm, hne⟩
    obtain ⟨j, hj, rfl⟩ := List.getElem_of_mem hm
    exact ⟨j, hj, fun e => hne (by subst e; rfl), rfl⟩
theorem takeS_wf {S : hSt} (h : WS S) (hne : 0 < S.2.2.length) (hn : S.1 727 = -1) : WS (takeS S) ∧ ob S.1 ((takeS S).1 727) ∧ S.1 726 = 1 := by
  obtain ⟨g, rg, gl⟩ := S
  obtain ⟨b, hb⟩ : ∃ b, b = (bs g gl gl.length).toNat := ⟨_, rfl⟩
  have hb1 : b < gl.length := by have := bs_in g gl gl.length hne; rw [hb]; omega
  have hm : gl.getD b 0 ∈ gl := getD_mem hb1
  have hT : takeS (g, rg, gl) = (gu (gu g 727 (gl.getD b 0)) 728 0, rg, gl.eraseIdx b) := by rw [hb]; rfl
  rw [hT]
  generalize hA : gl.getD b 0 = A at hm
  obtain ⟨h1, h2, h3, h4, h5, h6, h7⟩ := h
  replace h6 : w_run g gl := h6
  replace hn : g 727 = -1 := hn
  obtain ⟨r1, r2, r3, r4, r5⟩ := h6
  obtain ⟨a1, a2, a3⟩ := (r4 A).mp hm
  have a128 := a1.1.2.1
  have a0 := a1.1.1
  have hrun : g 726 = 1 := ecru_run ⟨r1, r2, r3, r4, r5⟩ a0 a128 (Or.inr a2)
  have hlo : ∀ i, i ≠ 727 → i ≠ 728 → gu (gu g 727 A) 728 0 i = g i := fun i e1 e2 => by rw [gu_n _ _ e2, gu_n _ _ e1]
  have hR := WR_congr (g' := gu (gu g 727 A) 728 0) ⟨h1, h2, h3⟩ (fun i hi => hlo i (by omega) (by omega))
  have h727 : gu (gu g 727 A) 728 0 727 = A := by rw [gu_n _ _ (by omega), gu_s]
  have hpz : ∀ c, 0 ≤ c → c < 128 → pz (gu (gu g 727 A) 728 0) c = pz g c := fun c c0 c1 => hlo _ (by omega) (by omega)
  have hob : ∀ c, ob (gu (gu g 727 A) 728 0) c ↔ ob g c := by
    intro c
    unfold ob sl
    constructor
    · rintro ⟨⟨w0, w1, w2⟩, w3⟩
      rw [hpz c w0 w1] at w2
      rw [hlo c (by omega) (by omega)] at w3
      exact ⟨⟨w0, w1, w2⟩, w3⟩
    · rintro ⟨⟨w0, w1, w2⟩, w3⟩
      rw [hpz c w0 w1, hlo c (by omega) (by omega)]
      exact ⟨⟨w0, w1, w2⟩, w3⟩
  refine ⟨⟨hR.1, hR.2.1, hR.2.2, w_fld_congr h4 (fun i hi => hlo i (by omega) (by omega)), ⟨fun x x0 x1 => ?_, fun a f ha f0 f1 => ?_⟩, ?_, ?_⟩, ?_, hrun⟩
  · show nok (gu (gu g 727 A) 728 0) (gu (gu g 727 A) 728 0 x)
    unfold nok
    rw [hlo x (by omega) (by omega), hob]; exact h5.1 x x0 x1
  · replace ha : ob (gu (gu g 727 A) 728 0) a := ha
    have ha' := (hob a).mp ha
    have q1 := ha'.1.2.1
    replace f1 : f < gu (gu g 727 A) 728 0 (128 + a) := f1
    rw [hlo (128 + a) (by omega) (by omega)] at f1
    have hfl : 0 ≤ g (128 + a) ∧ g (128 + a) < pz g a := (h4 a ha'.1).2 ha'.2
    have hb := base_of (g := g) h1 (f := f + 1) ha'.1 (by omega) (by omega)
    show nok (gu (gu g 727 A) 728 0) (gu (gu g 727 A) 728 0 (256 + a + 1 + f))
    unfold nok
    rw [hlo _ (by omega) (by omega), hob]
    exact h5.2 a f ha' f0 f1
  · show w_run (gu (gu g 727 A) 728 0) (gl.eraseIdx b)
    unfold w_run
    rw [h727, gu_s, hlo 726 (by omega) (by omega)]
    refine ⟨r1, fun e => by omega, r3.sublist (List.eraseIdx_sublist _ _), fun a => ?_, Or.inr ⟨(hob A).mpr a1, ?_, by omega, ?_⟩⟩
    · rw [mem_eraseIdx r3 hb1, hA, r4 a, hob]
      constructor
      · rintro ⟨⟨q1, q2, q3⟩, q4⟩
        have := q1.1.2.1
        rw [hlo a (by omega) (by omega)]; exact ⟨q1, q2, q4⟩
      · rintro ⟨q1, q2, q3⟩
        have := q1.1.2.1
        have q0 := q1.1.1
        rw [hlo a (by omega) (by omega)] at q2; exact ⟨⟨q1, q2, by omega⟩, q3⟩
    · rw [hlo A (by omega) (by omega)]; exact a2
    · rw [hlo (128 + A) (by omega) (by omega)]; exact ((h4 A a1.1).2 a1.2).1
  · show w_set (gu (gu g 727 A) 728 0)
    unfold w_set
    rw [hlo 735 (by omega) (by omega), hlo 736 (by omega) (by omega), hlo 737 (by omega) (by omega), hlo 738 (by omega) (by omega)]
    exact h7
  · show ob g (gu (gu g 727 A) 728 0 727)
    rw [h727]; exact a1
theorem pickS_wf {S : hSt} (h : WL S) (hr : S.1 726 = 1) : WS (pickS S) ∧ ob (pickS S).1 ((pickS S).1 727) ∧ (pickS S).1 726 = 1 := by
  unfold pickS
  split
  · rename_i e
    have hne : 0 < S.2.2.length := by
      rcases h.2 hr with q | q
      · exact List.length_pos_iff.mpr q
      · exact absurd e q
    obtain ⟨t1, t2, t3⟩ := takeS_wf h.1 hne e
    have t4 : (takeS S).1 726 = 1 := by
      unfold takeS
      show gu (gu S.1 727 (S.2.2.getD (bs S.1 S.2.2 S.2.2.length).toNat 0)) 728 0 726 = 1
      rw [gu_n _ _ (by omega), gu_n _ _ (by omega)]; exact hr
    refine ⟨t1, ?_, t4⟩
    have r5 := t1.2.2.2.2.2.1.2.2.2.2
    rcases r5 with r5 | r5
    · have := t2.1.1
      have := r5.1
      omega
    · exact r5.1
  · rename_i e
    refine ⟨h.1, ?_, hr⟩
    rcases h.1.2.2.2.2.2.1.2.2.2.2 with r5 | r5
    · exact absurd r5.1 e
    · exact r5.1

/-- one number that says how far a scan is -/
theorem gu728_wf {g : Int → Int} {rg : Int → List Int} {gl : List Int} (h : WF0 g rg gl) (ha : ob g (g 727)) {v : Int} (v0 : 0 ≤ v) (v1 : v ≤ g (128 + g 727)) : WF0 (gu g 728 v) rg gl := by
  obtain ⟨h1, h2, h3, h4, h5, h6, h7⟩ := h
  have hlo : ∀ i, i ≠ 728 → gu g 728 v i = g i := fun i e => gu_n _ _ e
  have hR := WR_congr (g' := gu g 728 v) ⟨h1, h2, h3⟩ (fun i hi => hlo i (by omega))
  have hpz : ∀ c, 0 ≤ c → c < 128 → pz (gu g 728 v) c = pz g c := fun c c0 c1 => hlo _ (by omega)
  have hob : ∀ c, ob (gu g 728 v) c ↔ ob g c := by
    intro c
    unfold ob sl
    constructor
    · rintro ⟨⟨w0, w1, w2⟩, w3⟩
      rw [hpz c w0 w1] at w2
      rw [hlo c (by omega)] at w3
      exact ⟨⟨w0, w1, w2⟩, w3⟩
    · rintro ⟨⟨w0, w1, w2⟩, w3⟩
      rw [hpz c w0 w1, hlo c (by omega)]
      exact ⟨⟨w0, w1, w2⟩, w3⟩
  obtain ⟨r1, r2, r3, r4, r5⟩ := h6
  have a1 := ha.1.2.1
  have a0 := ha.1.1
  refine ⟨hR.1, hR.2.1, hR.2.2, w_fld_congr h4 (fun i hi => hlo i (by omega)), ⟨fun x x0 x1 => ?_, fun a f ha f0 f1 => ?_⟩, ?_, ?_⟩
  · unfold nok
    rw [hlo x (by omega), hob]; exact h5.1 x x0 x1
  · have ha' := (hob a).mp ha
    have q1 := ha'.1.2.1
    rw [hlo (128 + a) (by omega)] at f1
    have hfl := (h4 a ha'.1).2 ha'.2
    have hb := base_of (g := g) h1 (f := f + 1) ha'.1 (by omega) (by omega)
    unfold nok
    rw [hlo _ (by omega), hob]
    exact h5.2 a f ha' f0 f1
  · unfold w_run
    rw [gu_s, hlo 726 (by omega), hlo 727 (by omega)]
    refine ⟨r1, fun e => ?_, r3, fun a => ?_, Or.inr ⟨(hob _).mpr ha, ?_, v0, ?_⟩⟩
    · have := (r2 e).2.1; omega
    · rw [r4 a, hob]
      constructor
      · rintro ⟨q1, q2, q3⟩
        have := q1.1.2.1
        rw [hlo a (by omega)]; exact ⟨q1, q2, q3⟩
      · rintro ⟨q1, q2, q3⟩
        have := q1.1.2.1
        rw [hlo a (by omega)] at q2; exact ⟨q1, q2, q3⟩
    · rw [hlo _ (by omega)]
      rcases r5 with r5 | r5
      · omega
      · exact r5.2.1
    · rw [hlo _ (by omega)]; exact v1
  · unfold w_set
    rw [hlo 735 (by omega), hlo 736 (by omega), hlo 737 (by omega), hlo 738 (by omega)]
    exact h7
theorem lookS_wf {S : hSt} (h : WS S) (ha : ob S.1 (S.1 727)) : WS (lookS S) ∧ (lookS S).1 727 = S.1 727 ∧ ob (lookS S).1 (S.1 727) ∧ (lookS S).1 726 = S.1 726 := by
  unfold lookS
  split
  · rename_i e
    have r5 : 0 ≤ S.1 728 := by
      rcases h.2.2.2.2.2.1.2.2.2.2 with r5 | r5
      · omega
      · omega
    have hg := gu728_wf h ha (v := S.1 728 + 1) (by omega) (by omega)
    have a1 := ha.1.2.1
    have a0 := ha.1.1
    have hnk := h.2.2.2.2.1.2 (S.1 727) (S.1 728) ha r5 e
    have hob : ∀ c, ob (gu S.1 728 (S.1 728 + 1)) c ↔ ob S.1 c := by
      intro c
      unfold ob sl pz
      constructor
      · rintro ⟨⟨w0, w1, w2⟩, w3⟩
        rw [gu_n _ _ (by omega)] at w2 w3
        exact ⟨⟨w0, w1, w2⟩, w3⟩
      · rintro ⟨⟨w0, w1, w2⟩, w3⟩
        rw [gu_n _ _ (by omega), gu_n _ _ (by omega)]
        exact ⟨⟨w0, w1, w2⟩, w3⟩
    have hnk' : nok (gu S.1 728 (S.1 728 + 1)) (S.1 (256 + S.1 727 + 1 + S.1 728)) := by
      unfold nok
      rw [hob]; exact hnk
    have h128 : S.1 (256 + S.1 727 + 1 + S.1 728) < 128 := by
      rcases hnk with q | q
      · omega
      · exact q.1.2.1
    refine ⟨greyS_wf hg hnk', ?_, ?_, ?_⟩
    · rw [greyS_big _ _ h128 _ (by omega)]
      show gu S.1 728 (S.1 728 + 1) 727 = S.1 727
      rw [gu_n _ _ (by omega)]
    · rw [greyS_ob hnk', hob]; exact ha
    · rw [greyS_big _ _ h128 _ (by omega)]
      show gu S.1 728 (S.1 728 + 1) 726 = S.1 726
      rw [gu_n _ _ (by omega)]
  · exact ⟨h, rfl, ha, rfl⟩
theorem blackS_wf {S : hSt} (h : WS S) (ha : ob S.1 (S.1 727)) : WS (blackS S) ∧ (blackS S).1 727 = -1 ∧ (∀ b, ob (blackS S).1 b ↔ ob S.1 b) ∧ ∀ x, 128 ≤ x → x ≠ 727 → x ≠ 728 → (blackS S).1 x = S.1 x := by
  obtain ⟨g, rg, gl⟩ := S
  replace ha : ob g (g 727) := ha
  obtain ⟨h1, h2, h3, h4, h5, h6, h7⟩ := h
  have hc2 : g (g 727) = 2 := by
    rcases h6.2.2.2.2 with r5 | r5
    · have := ha.1.1
      have : g 727 = -1 := r5.1
      omega
    · exact r5.2.1
  have hs3 := ha.1.2.1
  have hs0 := ha.1.1
  generalize hA : g 727 = A at ha hc2 hs3 hs0
  have hrow := row_gu (front := true) (c := 3) h1 h3 ha.1 (by omega) (by omega) (by show 0 ≤ g A; omega) (by show g A ≤ 3; omega) (by show g A ≠ 3; omega)
  replace hrow : w_row (gu g A 3) (rmv rg (A / 2) (kz g A + g A) (kz g A + 3) true) := hrow
  rw [hc2] at hrow
  have hB : blackS (g, rg, gl) = (gu (gu (gu g A 3) 727 (-1)) 728 0, rmv rg (A / 2) (kz g A + 2) (kz g A + 3) true, gl) := by
    rw [← hA]; rfl
  rw [hB]
  have hlo : ∀ i, i ≠ 727 → i ≠ 728 → gu (gu (gu g A 3) 727 (-1)) 728 0 i = gu g A 3 i := fun i e1 e2 => by rw [gu_n _ _ e2, gu_n _ _ e1]
  have hR := WR_congr (g' := gu (gu (gu g A 3) 727 (-1)) 728 0) ⟨gu_w_pg (by omega) h1, gu_w_col ha.1 (by omega) (by omega) h2, hrow⟩ (fun i hi => hlo i (by omega) (by omega))
  have hob : ∀ b, ob (gu (gu (gu g A 3) 727 (-1)) 728 0) b ↔ ob g b := by
    intro b
    rw [← gu_ob ha (show (3 : Int) ≠ 0 by omega) b]
    unfold ob sl pz
    constructor
    · rintro ⟨⟨w0, w1, w2⟩, w3⟩
      rw [hlo _ (by omega) (by omega)] at w2 w3
      exact ⟨⟨w0, w1, w2⟩, w3⟩
    · rintro ⟨⟨w0, w1, w2⟩, w3⟩
      rw [hlo _ (by omega) (by omega), hlo _ (by omega) (by omega)]
      exact ⟨⟨w0, w1, w2⟩, w3⟩
  have h727 : gu (gu (gu g A 3) 727 (-1)) 728 0 727 = -1 := by rw [gu_n _ _ (by omega), gu_s]
  have hbig : ∀ x, 128 ≤ x → x ≠ 727 → x ≠ 728 → gu (gu (gu g A 3) 727 (-1)) 728 0 x = g x := fun x hx e1 e2 => by rw [hlo x e1 e2, gu_n _ _ (by omega)]
  refine ⟨⟨hR.1, hR.2.1, hR.2.2, w_fld_congr (gu_w_fld ha (by omega) h4) (fun i hi => hlo i (by omega) (by omega)), ⟨fun x x0 x1 => ?_, fun a f ha f0 f1 => ?_⟩, ?_, ?_⟩, h727, hob, hbig⟩
  · show nok (gu (gu (gu g A 3) 727 (-1)) 728 0) (gu (gu (gu g A 3) 727 (-1)) 728 0 x)
    unfold nok
    rw [hbig x (by omega) (by omega) (by omega), hob]; exact h5.1 x x0 x1
  · replace ha : ob (gu (gu (gu g A 3) 727 (-1)) 728 0) a := ha
    have ha' := (hob a).mp ha
    have q1 := ha'.1.2.1
    have q0 := ha'.1.1
    replace f1 : f < gu (gu (gu g A 3) 727 (-1)) 728 0 (128 + a) := f1
    rw [hbig (128 + a) (by omega) (by omega) (by omega)] at f1
    have hfl : 0 ≤ g (128 + a) ∧ g (128 + a) < pz g a := (h4 a ha'.1).2 ha'.2
    have hb := base_of (g := g) h1 (f := f + 1) ha'.1 (by omega) (by omega)
    show nok (gu (gu (gu g A 3) 727 (-1)) 728 0) (gu (gu (gu g A 3) 727 (-1)) 728 0 (256 + a + 1 + f))
    unfold nok
    rw [hbig _ (by omega) (by omega) (by omega), hob]
    exact h5.2 a f ha' f0 f1
  · show w_run (gu (gu (gu g A 3) 727 (-1)) 728 0) gl
    obtain ⟨r1, r2, r3, r4, r5⟩ := h6
    replace r1 : g 726 = 0 ∨ g 726 = 1 := r1
    have hrun : g 726 = 1 := ecru_run (g := g) ⟨r1, r2, r3, r4, r5⟩ hs0 hs3 (Or.inr hc2)
    unfold w_run
    rw [h727, gu_s, hbig 726 (by omega) (by omega) (by omega)]
    refine ⟨r1, fun e => by omega, r3, fun a => ?_, Or.inl ⟨rfl, rfl⟩⟩
    rw [r4 a, hob]
    show ob g a ∧ g a = 2 ∧ a ≠ g 727 ↔ _
    rw [hA]
    constructor
    · rintro ⟨q1, q2, q3⟩
      have := q1.1.2.1
      have q0 := q1.1.1
      rw [hlo a (by omega) (by omega), gu_n _ _ q3]; exact ⟨q1, q2, by omega⟩
    · rintro ⟨q1, q2, q3⟩
      have := q1.1.2.1
      rw [hlo a (by omega) (by omega)] at q2
      by_cases e : a = A
      · rw [e, gu_s] at q2; omega
      · rw [gu_n _ _ e] at q2
        exact ⟨q1, q2, e⟩
  · show w_set (gu (gu (gu g A 3) 727 (-1)) 728 0)
    unfold w_set
    rw [hbig 735 (by omega) (by omega) (by omega), hbig 736 (by omega) (by omega) (by omega), hbig 737 (by omega) (by omega) (by omega), hbig 738 (by omega) (by omega) (by omega)]
    exact h7
theorem rootsS_wf {S : hSt} (h : WS S) : WS (rootsS S) ∧ ∀ x, 128 ≤ x → (rootsS S).1 x = S.1 x := by
  unfold rootsS
  split
  · have hgf := greyF_ok h (f := fun i => S.1 (715 + i)) 6 (fun i hi => h.2.2.2.2.1.1 (715 + (i : Int)) (by omega) (by omega))
    exact ⟨hgf.1, hgf.2.2⟩
  · exact ⟨h, fun _ _ => rfl⟩
theorem lastS_wf {S : hSt} (h : WS S) (hn : S.1 727 = -1) : WL (lastS S) := by
  unfold lastS
  split
  · rename_i e
    have e' : S.2.2 = [] := List.length_eq_zero_iff.mp e
    refine ⟨endS_wf h e' hn, fun q => ?_⟩
    have : (endS S).1 726 = 0 := rfl
    omega
  · rename_i e
    refine ⟨h, fun _ => Or.inl (fun q => e ?_)⟩
    rw [q]; rfl
theorem stepS_wf {S : hSt} (h : WL S) (hr : S.1 726 = 1) : WL (stepS S) := by
  have h1 : WL (tickS S) := ⟨tickS_wf h.1, by
    intro _
    have := h.2 hr
    unfold tickS
    show S.2.2 ≠ [] ∨ gu S.1 730 (az_wr (S.1 730 + 1)) 727 ≠ -1
    rw [gu_n _ _ (by omega)]; exact this⟩
  have hr1 : (tickS S).1 726 = 1 := by
    show gu S.1 730 (az_wr (S.1 730 + 1)) 726 = 1
    rw [gu_n _ _ (by omega)]; exact hr
  obtain ⟨p1, p2, p3⟩ := pickS_wf h1 hr1
  obtain ⟨l1, l2, l3, l4⟩ := lookS_wf p1 p2
  unfold stepS doneS
  rw [← l2] at l3
  split
  · refine ⟨l1, fun _ => Or.inr ?_⟩
    have := l3.1.1
    omega
  · obtain ⟨b1, b2, b3, b4⟩ := blackS_wf l1 l3
    obtain ⟨r1, r2⟩ := rootsS_wf b1
    exact lastS_wf r1 (by rw [r2 727 (by omega)]; exact b2)
theorem advS_wf {S : hSt} (h : WL S) (n : Nat) : WL (advS n S) := by
  induction n generalizing S with
  | zero => exact h
  | succ n ih =>
    show WL (if S.1 726 = 1 then advS n (stepS S) else S)
    split
    · rename_i e
      exact ih (stepS_wf h e)
    · exact h
