/-! Heap.fetch, Heap.put, Heap.strengthen; names and settings that change -/
theorem WF_nam {g : Int → Int} {rg : Int → List Int} {gl : List Int} (h : WF0 g rg gl) {x v : Int} (x0 : 715 ≤ x) (x1 : x < 725) (hv : nok g v) : WF0 (gu g x v) rg gl := by
  obtain ⟨h1, h2, h3, h4, h5, h6, h7⟩ := h
  have hlo : ∀ i, i ≠ x → gu g x v i = g i := fun i e => gu_n _ _ e
  have hpz : ∀ c, 0 ≤ c → c < 128 → pz (gu g x v) c = pz g c := fun c c0 c1 => hlo _ (by omega)
  have hsl : ∀ b, sl (gu g x v) b ↔ sl g b := by
    intro b
    unfold sl
    constructor
    · rintro ⟨w0, w1, w2⟩
      rw [hpz b w0 w1] at w2
      exact ⟨w0, w1, w2⟩
    · rintro ⟨w0, w1, w2⟩
      rw [hpz b w0 w1]
      exact ⟨w0, w1, w2⟩
  have hob : ∀ b, ob (gu g x v) b ↔ ob g b := by
    intro b
    unfold ob
    rw [hsl]
    constructor
    · rintro ⟨w1, w2⟩
      have := w1.2.1
      rw [hlo b (by omega)] at w2
      exact ⟨w1, w2⟩
    · rintro ⟨w1, w2⟩
      have := w1.2.1
      rw [hlo b (by omega)]
      exact ⟨w1, w2⟩
  have hnok : ∀ v', nok (gu g x v) v' ↔ nok g v' := fun v' => by unfold nok; rw [hob]
  refine ⟨⟨by rw [hlo _ (by omega)]; exact h1.1, by rw [hlo _ (by omega)]; exact h1.2.1, fun p p0 p1 => ?_⟩, fun a a0 a1 => ?_, fun k k0 k1 => ⟨(h3 k k0 k1).1, fun n => ?_⟩, fun a ha => ?_, ⟨fun y y0 y1 => ?_, fun a f ha f0 f1 => ?_⟩, ?_, ?_⟩
  · rw [hlo 725 (by omega), hlo _ (by omega)]; exact h1.2.2 p p0 p1
  · rw [hsl, hlo a (by omega)]; exact h2 a a0 a1
  · rw [(h3 k k0 k1).2 n, hsl]
    unfold kz
    constructor
    · rintro ⟨q0, q1, q2, q3⟩
      rw [hpz _ (by omega) (by omega), hlo _ (by omega)]; exact ⟨q0, q1, q2, q3⟩
    · rintro ⟨q0, q1, q2, q3⟩
      rw [hpz _ (by omega) (by omega), hlo _ (by omega)] at q3; exact ⟨q0, q1, q2, q3⟩
  · have ha' := (hsl a).mp ha
    have a0 := ha'.1
    have a1 := ha'.2.1
    rw [hlo a (by omega), hlo _ (by omega), hpz a a0 a1]; exact h4 a ha'
  · rw [hnok]
    unfold gu
    split
    · exact hv
    · exact h5.1 y y0 y1
  · have ha' := (hob a).mp ha
    have a1 := ha'.1.2.1
    rw [hlo _ (by omega)] at f1
    have hfl := (h4 a ha'.1).2 ha'.2
    have hb := base_of (g := g) h1 (f := f + 1) ha'.1 (by omega) (by omega)
    rw [hnok, hlo _ (by omega)]
    exact h5.2 a f ha' f0 f1
  · unfold w_run
    obtain ⟨r1, r2, r3, r4, r5⟩ := h6
    rw [hlo 726 (by omega), hlo 727 (by omega), hlo 728 (by omega)]
    refine ⟨r1, fun e => ?_, r3, fun a => ?_, ?_⟩
    · obtain ⟨s1, s2, s3, s4⟩ := r2 e
      refine ⟨s1, s2, s3, fun a a0 a1 => ?_⟩
      rw [hlo a (by omega)]; exact s4 a a0 a1
    · rw [r4 a, hob]
      constructor
      · rintro ⟨q1, q2, q3⟩
        have := q1.1.2.1
        rw [hlo a (by omega)]; exact ⟨q1, q2, q3⟩
      · rintro ⟨q1, q2, q3⟩
        have := q1.1.2.1
        rw [hlo a (by omega)] at q2; exact ⟨q1, q2, q3⟩
    · rcases r5 with r5 | r5
      · exact Or.inl r5
      · refine Or.inr ?_
        have := r5.1.1.2.1
        rw [hob, hlo _ (by omega), hlo _ (by omega)]
        exact r5
  · unfold w_set
    rw [hlo 735 (by omega), hlo 736 (by omega), hlo 737 (by omega), hlo 738 (by omega)]
    exact h7
theorem WF_cel {g : Int → Int} {rg : Int → List Int} {gl : List Int} (h : WF0 g rg gl) {x v : Int} (x0 : 256 ≤ x) (x1 : x < 384) (hv : nok g v) : WF0 (gu g x v) rg gl := by
  obtain ⟨h1, h2, h3, h4, h5, h6, h7⟩ := h
  have hlo : ∀ i, i ≠ x → gu g x v i = g i := fun i e => gu_n _ _ e
  have hR := WR_congr (g := g) (rg := rg) ⟨h1, h2, h3⟩ (g' := g) (fun _ _ => rfl)
  have hpz : ∀ c, 0 ≤ c → c < 128 → pz (gu g x v) c = pz g c := fun c c0 c1 => hlo _ (by omega)
  have hsl : ∀ b, sl (gu g x v) b ↔ sl g b := by
    intro b
    unfold sl
    constructor
    · rintro ⟨w0, w1, w2⟩
      rw [hpz b w0 w1] at w2
      exact ⟨w0, w1, w2⟩
    · rintro ⟨w0, w1, w2⟩
      rw [hpz b w0 w1]
      exact ⟨w0, w1, w2⟩
  have hob : ∀ b, ob (gu g x v) b ↔ ob g b := by
    intro b
    unfold ob
    rw [hsl]
    constructor
    · rintro ⟨w1, w2⟩
      have := w1.2.1
      rw [hlo b (by omega)] at w2
      exact ⟨w1, w2⟩
    · rintro ⟨w1, w2⟩
      have := w1.2.1
      rw [hlo b (by omega)]
      exact ⟨w1, w2⟩
  have hnok : ∀ v', nok (gu g x v) v' ↔ nok g v' := fun v' => by unfold nok; rw [hob]
  refine ⟨⟨by rw [hlo _ (by omega)]; exact h1.1, by rw [hlo _ (by omega)]; exact h1.2.1, fun p p0 p1 => ?_⟩, fun a a0 a1 => ?_, fun k k0 k1 => ⟨(h3 k k0 k1).1, fun n => ?_⟩, fun a ha => ?_, ⟨fun y y0 y1 => ?_, fun a f ha f0 f1 => ?_⟩, ?_, ?_⟩
  · rw [hlo 725 (by omega), hlo _ (by omega)]; exact h1.2.2 p p0 p1
  · rw [hsl, hlo a (by omega)]; exact h2 a a0 a1
  · rw [(h3 k k0 k1).2 n, hsl]
    unfold kz
    constructor
    · rintro ⟨q0, q1, q2, q3⟩
      rw [hpz _ (by omega) (by omega), hlo _ (by omega)]; exact ⟨q0, q1, q2, q3⟩
    · rintro ⟨q0, q1, q2, q3⟩
      rw [hpz _ (by omega) (by omega), hlo _ (by omega)] at q3; exact ⟨q0, q1, q2, q3⟩
  · have ha' := (hsl a).mp ha
    have a0 := ha'.1
    have a1 := ha'.2.1
    rw [hlo a (by omega), hlo _ (by omega), hpz a a0 a1]; exact h4 a ha'
  · rw [hnok, hlo _ (by omega)]; exact h5.1 y y0 y1
  · have ha' := (hob a).mp ha
    have a1 := ha'.1.2.1
    rw [hlo _ (by omega)] at f1
    rw [hnok]
    unfold gu
    split
    · exact hv
    · exact h5.2 a f ha' f0 f1
  · unfold w_run
    obtain ⟨r1, r2, r3, r4, r5⟩ := h6
    rw [hlo 726 (by omega), hlo 727 (by omega), hlo 728 (by omega)]
    refine ⟨r1, fun e => ?_, r3, fun a => ?_, ?_⟩
    · obtain ⟨s1, s2, s3, s4⟩ := r2 e
      refine ⟨s1, s2, s3, fun a a0 a1 => ?_⟩
      rw [hlo a (by omega)]; exact s4 a a0 a1
    · rw [r4 a, hob]
      constructor
      · rintro ⟨q1, q2, q3⟩
        have := q1.1.2.1
        rw [hlo a (by omega)]; exact ⟨q1, q2, q3⟩
      · rintro ⟨q1, q2, q3⟩
        have := q1.1.2.1
        rw [hlo a (by omega)] at q2; exact ⟨q1, q2, q3⟩
    · rcases r5 with r5 | r5
      · exact Or.inl r5
      · refine Or.inr ?_
        have := r5.1.1.2.1
        rw [hob, hlo _ (by omega), hlo _ (by omega)]
        exact r5
  · unfold w_set
    rw [hlo 735 (by omega), hlo 736 (by omega), hlo 737 (by omega), hlo 738 (by omega)]
    exact h7
theorem HC_root {M : az_M} {h r v : Int} {g : Int → Int} {rg : Int → List Int} {gl : List Int} (hc : HC M h g rg gl) (hp : w_pg g) (hfl : w_fld g) (r0 : 0 ≤ r) (r1 : r < 6) : HC (az_up M (h + 9) r v) h (gu g (715 + r) v) rg gl := by
  have ho : ∀ b, b ≠ h + 9 → az_up M (h + 9) r v b = M b := fun b hb => up_oth _ _ _ hb
  have hg : ∀ j, j ≠ 715 + r → gu g (715 + r) v j = g j := fun j hj => gu_n _ _ hj
  refine HC_any hc hp hfl (fun j hj => hg j (by omega)) (fun b b0 b1 => ho b (by omega)) ?_ ?_ ?_ ?_ ?_ ?_
  · refine ⟨fun x x0 x1 => ?_, fun w w0 w1 => ?_⟩
    · rw [up_row]
      show (if x = r then v else M (h + 9) x) = _
      by_cases e : x = r
      · rw [if_pos e, e, gu_s]
      · rw [if_neg e, hg _ (by omega)]; exact hc.2.2.2.2.2.1.1 x x0 x1
    · rw [ho _ (by omega), hg _ (by omega)]; exact hc.2.2.2.2.2.1.2 w w0 w1
  · exact c_gry_c hc.2.2.2.2.2.2.1 (ho _ (by omega)) (by rw [ho _ (by omega)])
  · exact c_set_c hc.2.2.2.2.2.2.2.1 (ho _ (by omega)) (fun j _ _ => hg j (by omega))
  · exact c_tal_c hc.2.2.2.2.2.2.2.2.1 (ho _ (by omega)) (fun j _ _ => hg j (by omega))
  · exact c_log_c hc.2.2.2.2.2.2.2.2.2.1 (ho _ (by omega)) (fun j _ => hg j (by omega))
  · exact c_sca_c hc.2.2.2.2.2.2.2.2.2.2 (fun j _ => by rw [ho _ (by omega)]) (fun j _ => hg j (by omega))
theorem HC_weak {M : az_M} {h r v : Int} {g : Int → Int} {rg : Int → List Int} {gl : List Int} (hc : HC M h g rg gl) (hp : w_pg g) (hfl : w_fld g) (r0 : 0 ≤ r) (r1 : r < 4) : HC (az_up M (h + 10) r v) h (gu g (721 + r) v) rg gl := by
  have ho : ∀ b, b ≠ h + 10 → az_up M (h + 10) r v b = M b := fun b hb => up_oth _ _ _ hb
  have hg : ∀ j, j ≠ 721 + r → gu g (721 + r) v j = g j := fun j hj => gu_n _ _ hj
  refine HC_any hc hp hfl (fun j hj => hg j (by omega)) (fun b b0 b1 => ho b (by omega)) ?_ ?_ ?_ ?_ ?_ ?_
  · refine ⟨fun x x0 x1 => ?_, fun x x0 x1 => ?_⟩
    · rw [ho _ (by omega), hg _ (by omega)]; exact hc.2.2.2.2.2.1.1 x x0 x1
    · rw [up_row]
      show (if x = r then v else M (h + 10) x) = _
      by_cases e : x = r
      · rw [if_pos e, e, gu_s]
      · rw [if_neg e, hg _ (by omega)]; exact hc.2.2.2.2.2.1.2 x x0 x1
  · exact c_gry_c hc.2.2.2.2.2.2.1 (ho _ (by omega)) (by rw [ho _ (by omega)])
  · exact c_set_c hc.2.2.2.2.2.2.2.1 (ho _ (by omega)) (fun j _ _ => hg j (by omega))
  · exact c_tal_c hc.2.2.2.2.2.2.2.2.1 (ho _ (by omega)) (fun j _ _ => hg j (by omega))
  · exact c_log_c hc.2.2.2.2.2.2.2.2.2.1 (ho _ (by omega)) (fun j _ => hg j (by omega))
  · exact c_sca_c hc.2.2.2.2.2.2.2.2.2.2 (fun j _ => by rw [ho _ (by omega)]) (fun j _ => hg j (by omega))
theorem HC_setg {M : az_M} {h r v : Int} {g : Int → Int} {rg : Int → List Int} {gl : List Int} (hc : HC M h g rg gl) (hp : w_pg g) (hfl : w_fld g) (r0 : 0 ≤ r) (r1 : r < 4) : HC (az_up M (h + 12) r v) h (gu g (735 + r) v) rg gl := by
  have ho : ∀ b, b ≠ h + 12 → az_up M (h + 12) r v b = M b := fun b hb => up_oth _ _ _ hb
  have hg : ∀ j, j ≠ 735 + r → gu g (735 + r) v j = g j := fun j hj => gu_n _ _ hj
  refine HC_any hc hp hfl (fun j hj => hg j (by omega)) (fun b b0 b1 => ho b (by omega)) ?_ ?_ ?_ ?_ ?_ ?_
  · exact c_nam_c hc.2.2.2.2.2.1 (ho _ (by omega)) (ho _ (by omega)) (fun j _ _ => hg j (by omega))
  · exact c_gry_c hc.2.2.2.2.2.2.1 (ho _ (by omega)) (by rw [ho _ (by omega)])
  · intro x x0 x1
    rw [up_row]
    show (if x = r then v else M (h + 12) x) = _
    by_cases e : x = r
    · rw [if_pos e, e, gu_s]
    · rw [if_neg e, hg _ (by omega)]; exact hc.2.2.2.2.2.2.2.1 x x0 x1
  · exact c_tal_c hc.2.2.2.2.2.2.2.2.1 (ho _ (by omega)) (fun j _ _ => hg j (by omega))
  · exact c_log_c hc.2.2.2.2.2.2.2.2.2.1 (ho _ (by omega)) (fun j _ => hg j (by omega))
  · exact c_sca_c hc.2.2.2.2.2.2.2.2.2.2 (fun j _ => by rw [ho _ (by omega)]) (fun j _ => hg j (by omega))
theorem HC_cell {M : az_M} {h a f v : Int} {g : Int → Int} {rg : Int → List Int} {gl : List Int} (hc : HC M h g rg gl) (hp : w_pg g) (hfl : w_fld g) (ha : ob g a) (f0 : 0 ≤ f) (f1 : f < g (128 + a)) : HC (az_up M (h + 6) (a + 1 + f) v) h (gu g (256 + a + 1 + f) v) rg gl := by
  have ho : ∀ b, b ≠ h + 6 → az_up M (h + 6) (a + 1 + f) v b = M b := fun b hb => up_oth _ _ _ hb
  have hg : ∀ j, j ≠ 256 + a + 1 + f → gu g (256 + a + 1 + f) v j = g j := fun j hj => gu_n _ _ hj
  have a0 := ha.1.1
  have a1 := ha.1.2.1
  have hfa := (hfl a ha.1).2 ha.2
  have hba := base_of hp (f := f + 1) ha.1 (by omega) (by omega)
  obtain ⟨q1, q2, q3, q4, q5, q6, q7, q8, q9, q10, q11⟩ := hc
  have hpz : ∀ b, 0 ≤ b → b < 128 → pz (gu g (256 + a + 1 + f) v) b = pz g b := fun b b0 b1 => hg _ (by omega)
  have hsl : ∀ b, sl (gu g (256 + a + 1 + f) v) b ↔ sl g b := by
    intro b
    unfold sl
    constructor
    · rintro ⟨w0, w1, w2⟩
      rw [hpz b w0 w1] at w2
      exact ⟨w0, w1, w2⟩
    · rintro ⟨w0, w1, w2⟩
      rw [hpz b w0 w1]
      exact ⟨w0, w1, w2⟩
  refine ⟨?_, ?_, ?_, ?_, ?_, ?_, ?_, ?_, ?_, ?_, ?_⟩
  · rw [ho (h + 2) (by omega), ho (h + 3) (by omega), ho (h + 4) (by omega), ho (h + 5) (by omega)]
    exact q1
  · intro n n0 n1
    unfold kz
    rw [hsl, ho _ (by omega), hpz _ (by omega) (by omega), hg (2 * n) (by omega)]
    exact q2 n n0 n1
  · intro b hb
    rw [hsl] at hb
    have b0 := hb.1
    have b1 := hb.2.1
    rw [up_row, hg b (by omega), hg (128 + b) (by omega)]
    have := q3 b hb
    have hap : b = a ∨ b + pz g b ≤ a ∨ a + pz g a ≤ b := by
      by_cases w : b = a
      · exact Or.inl w
      · by_cases w : b < a
        · exact Or.inr (Or.inl (slot_apart hp ha.1 hb w))
        · exact Or.inr (Or.inr (slot_apart hp hb ha.1 (by omega)))
    have hpb := (sl_even hp hb).2.1
    have hoff : ∀ x, x ≠ a + 1 + f → (if x = a + 1 + f then v else M (h + 6) x) = M (h + 6) x := fun x hx => if_neg hx
    refine ⟨fun q => (hoff b (by omega)).trans (this.1 q), fun q => ⟨(hoff b (by omega)).trans (this.2 q).1, fun e e0 e1 => ?_⟩⟩
    have hfb := (hfl b hb).2 q
    by_cases w : b = a ∧ e = f
    · rw [w.1, w.2, gu_s]; exact if_pos rfl
    · rw [hg _ (by omega)]
      exact (hoff (b + 1 + e) (by omega)).trans ((this.2 q).2 e e0 e1)
  · intro p p0 p1
    rw [ho _ (by omega), hg _ (by omega)]
    exact q4 p p0 p1
  · intro p p0 p1
    rw [ho _ (by omega)]
    exact q5 p p0 p1
  · exact c_nam_c q6 (ho _ (by omega)) (ho _ (by omega)) (fun j _ _ => hg j (by omega))
  · exact c_gry_c q7 (ho _ (by omega)) (by rw [ho _ (by omega)])
  · exact c_set_c q8 (ho _ (by omega)) (fun j _ _ => hg j (by omega))
  · exact c_tal_c q9 (ho _ (by omega)) (fun j _ _ => hg j (by omega))
  · exact c_log_c q10 (ho _ (by omega)) (fun j _ => hg j (by omega))
  · exact c_sca_c q11 (fun j _ => by rw [ho _ (by omega)]) (fun j _ => hg j (by omega))
/-- a field's cell -/
theorem fCell_ok {M : az_M} {h : Int} {g : Int → Int} {rg : Int → List Int} {gl : List Int} (hc : HC M h g rg gl) (hw : WF0 g rg gl) (a f : Int) : (ob g a ∧ 0 ≤ f ∧ f < g (128 + a) → fCell M h a f = a + 1 + f) ∧ (¬ (ob g a ∧ 0 ≤ f ∧ f < g (128 + a)) → fCell M h a f = -1) ∧ (0 < cAt (M (h + 4)) a → M (h + 6) a ≤ 8) := by
  have key : 0 < cAt (M (h + 4)) a → ob g a ∧ M (h + 6) a = g (128 + a) := by
    intro q
    rcases sl_dec g a with s | s
    · rw [cAt_sl hw.1 hw.2.1 hc.2.1 s] at q
      exact ⟨⟨s, by omega⟩, ((hc.2.2.1 a s).2 (by omega)).1⟩
    · rw [cAt_no hc.2.1 s] at q; omega
  refine ⟨fun q => ?_, fun q => ?_, fun q => ?_⟩
  · unfold fCell
    have h1 := cAt_sl hw.1 hw.2.1 hc.2.1 q.1.1
    have h2 := (hw.2.1 a q.1.1.1 q.1.1.2.1).1
    have h3 := q.1.2
    have h4 := ((hc.2.2.1 a q.1.1).2 q.1.2).1
    rw [if_pos ⟨by omega, q.2.1, by omega⟩]
  · unfold fCell
    rw [if_neg]
    rintro ⟨w1, w2, w3⟩
    obtain ⟨k1, k2⟩ := key w1
    exact q ⟨k1, w2, by omega⟩
  · obtain ⟨k1, k2⟩ := key q
    have := (hw.2.2.2.1 a k1.1).2 k1.2
    have := (sl_even hw.1 k1.1).2.2.1
    omega
theorem greyS_off {S : hSt} (h : WS S) (hn : S.1 726 ≠ 1) {a : Int} (ha : nok S.1 a) : greyS S a = S := by
  unfold greyS
  rw [if_neg]
  rintro ⟨q1, q2⟩
  rcases ha with e | e
  · omega
  · exact hn (ecru_run h.2.2.2.2.2.1 e.1.1 e.1.2.1 (Or.inl q2))
def hasF (S : hSt) (a f : Int) : Prop := 0 ≤ a ∧ 0 ≤ f ∧ f < S.1 (128 + a)
def fetV (S : hSt) (o f : Int) : Int := S.1 (256 + S.1 (715 + o) + 1 + f)
def nameS (S : hSt) (x v : Int) : hSt := (gu S.1 x v, S.2.1, S.2.2)
def fetS (S : hSt) (r o f : Int) : hSt := if S.1 735 = 0 then greyS (nameS S (715 + r) (fetV S o f)) (fetV S o f) else nameS S (715 + r) (fetV S o f)
def namV (S : hSt) (o : Int) : Int := if o = -1 then -1 else S.1 (715 + o)
def put1 (S : hSt) (r f : Int) : hSt := if S.1 735 = 2 then greyS S (S.1 (256 + S.1 (715 + r) + 1 + f)) else S
def put2 (S : hSt) (r f o : Int) : hSt := nameS (put1 S r f) (256 + S.1 (715 + r) + 1 + f) (namV S o)
def putS (S : hSt) (r f o : Int) : hSt := if S.1 735 = 1 then greyS (put2 S r f o) (namV S o) else put2 S r f o
def strS (S : hSt) (r w : Int) : hSt := if S.1 735 ≠ 3 then greyS (nameS S (715 + r) (S.1 (721 + w))) (S.1 (721 + w)) else nameS S (715 + r) (S.1 (721 + w))
theorem nok_gu {g : Int → Int} {x v u : Int} (hx : 256 ≤ x) (hx2 : x < 707 ∨ 715 ≤ x) : nok (gu g x v) u ↔ nok g u := by
  unfold nok ob sl pz
  constructor
  · rintro (e | ⟨⟨w0, w1, w2⟩, w3⟩)
    · exact Or.inl e
    · rw [gu_n _ _ (by omega)] at w2 w3
      exact Or.inr ⟨⟨w0, w1, w2⟩, w3⟩
  · rintro (e | ⟨⟨w0, w1, w2⟩, w3⟩)
    · exact Or.inl e
    · rw [gu_n _ _ (by omega), gu_n _ _ (by omega)]
      exact Or.inr ⟨⟨w0, w1, w2⟩, w3⟩
theorem nameS_wl {S : hSt} (h : WL S) {x v : Int} (hx : 256 ≤ x ∧ x < 384 ∨ 715 ≤ x ∧ x < 725) (hv : nok S.1 v) : WL (nameS S x v) := by
  refine ⟨?_, ?_⟩
  · rcases hx with q | q
    · exact WF_cel h.1 q.1 q.2 hv
    · exact WF_nam h.1 q.1 q.2 hv
  · unfold w_live
    show gu S.1 x v 726 = 1 → S.2.2 ≠ [] ∨ gu S.1 x v 727 ≠ -1
    rw [gu_n _ _ (by omega), gu_n _ _ (by omega)]
    exact h.2
theorem nok_lt {g : Int → Int} {v : Int} (h : nok g v) : v < 128 := by
  rcases h with q | q
  · omega
  · exact q.1.2.1
theorem greyS_wl {S : hSt} (h : WL S) {a : Int} (ha : nok S.1 a) : WL (greyS S a) := by
  have ha1 := nok_lt ha
  refine ⟨greyS_wf h.1 ha, ?_⟩
  unfold w_live
  rw [greyS_big S a ha1 726 (by omega), greyS_big S a ha1 727 (by omega)]
  intro q
  rcases h.2 q with w | w
  · refine Or.inl ?_
    unfold greyS
    split
    · intro e
      have : S.2.2 ++ [a] = [] := e
      simp at this
    · exact w
  · exact Or.inr w
/-- what a name is -/
theorem nam_nok {S : hSt} (h : WL S) {x : Int} (x0 : 715 ≤ x) (x1 : x < 725) : nok S.1 (S.1 x) := h.1.2.2.2.2.1.1 x x0 x1
theorem has_ob {S : hSt} (h : WL S) {o f : Int} (o0 : 0 ≤ o) (o1 : o < 6) (hf : hasF S (S.1 (715 + o)) f) : ob S.1 (S.1 (715 + o)) := by
  rcases nam_nok h (x := 715 + o) (by omega) (by omega) with q | q
  · have := hf.1; omega
  · exact q
theorem has_in {S : hSt} (h : WL S) {o f : Int} (o0 : 0 ≤ o) (o1 : o < 6) (hf : hasF S (S.1 (715 + o)) f) : 256 ≤ 256 + S.1 (715 + o) + 1 + f ∧ 256 + S.1 (715 + o) + 1 + f < 384 ∧ nok S.1 (S.1 (256 + S.1 (715 + o) + 1 + f)) := by
  have ho := has_ob h o0 o1 hf
  have hfl := (h.1.2.2.2.1 _ ho.1).2 ho.2
  have hlt := hf.2.2
  have hb := base_of h.1.1 (f := f + 1) ho.1 (by have := hf.2.1; omega) (by omega)
  have := ho.1.1
  have := hf.2.1
  exact ⟨by omega, by omega, h.1.2.2.2.2.1.2 _ f ho hf.2.1 hf.2.2⟩
theorem fetS_wl {S : hSt} (h : WL S) {r o f : Int} (r0 : 0 ≤ r) (r1 : r < 6) (o0 : 0 ≤ o) (o1 : o < 6) (hf : hasF S (S.1 (715 + o)) f) : WL (fetS S r o f) ∧ nok S.1 (fetV S o f) ∧ (fetS S r o f).1 729 = S.1 729 := by
  obtain ⟨i1, i2, i3⟩ := has_in h o0 o1 hf
  have hw1 := nameS_wl h (x := 715 + r) (v := fetV S o f) (by omega) i3
  have hn : nok (nameS S (715 + r) (fetV S o f)).1 (fetV S o f) := (nok_gu (by omega) (by omega)).mpr i3
  have e : gu S.1 (715 + r) (fetV S o f) 729 = S.1 729 := gu_n _ _ (by omega)
  refine ⟨?_, i3, ?_⟩
  · unfold fetS
    split
    · exact greyS_wl hw1 hn
    · exact hw1
  · unfold fetS
    split
    · rw [greyS_big _ _ (nok_lt hn) 729 (by omega)]; exact e
    · exact e
set_option maxRecDepth 20000 in
set_option maxHeartbeats 1000000 in
theorem sp_fetch {K : az_K} {h : Int} (hK : HpK K h) (M : az_M) {S : hSt} (hc : HS M h S) (hw : WL S) (r o f : Int) (r0 : 0 ≤ r) (r1 : r < 6) (o0 : 0 ≤ o) (o1 : o < 6) : AM yX0_fetch cX0_fetch 5 (some .int) 3 0 0 [(1, h), (0, r), (0, o), (0, f)] K M (qi K (fun z M' => (hasF S (S.1 (715 + o)) f → z = fetV S o f ∧ HS M' h (fetS S r o f)) ∧ (¬ hasF S (S.1 (715 + o)) f → z = -2 ∧ HS M' h S) ∧ frH M M' h)) := by
  have hK0 := hK
  obtain ⟨hRg, kh, k6, k7, k8, k9, k10, k11, k12, k13, k14, z0, z1, z2, z3, z4, z5, z6, z7, z8, z9⟩ := hK
  refine am_of (by decide) (Nat.le_of_ble_eq_true rfl) (L := [(1, h), (0, r), (0, o), (0, f), (9, 0)]) rfl ?_
  have hro : M (h + 9) o = S.1 (715 + o) := hc.2.2.2.2.2.1.1 o o0 o1
  obtain ⟨fc1, fc2, fc3⟩ := fCell_ok hc hw.1 (S.1 (715 + o)) f
  have hfr := sp_fieldOfRoot hK0 M o f o0 o1 (HS_ro hc) (by rw [hro]; exact fc3)
  rw [hro] at hfr
  by_cases hh : hasF S (S.1 (715 + o)) f
  · have hob := has_ob hw o0 o1 hh
    have hcell := fc1 ⟨hob, hh.2.1, hh.2.2⟩
    rw [hcell] at hfr
    obtain ⟨i1, i2, i3⟩ := has_in hw o0 o1 hh
    have b0 := hob.1.1
    have hf0 := hh.2.1
    have v28 : M (h + 6) (S.1 (715 + o) + 1 + f) = fetV S o f := ((hc.2.2.1 _ hob.1).2 hob.2).2 f hh.2.1 hh.2.2
    refine aw_aload_n dX0_fetch_0 rfl rfl ⟨by decide, by decide⟩ ?_
    refine aw_iload_n dX0_fetch_1 rfl rfl ?_
    refine aw_iload_n dX0_fetch_2 rfl rfl ?_
    refine aw_cV2p dX0_fetch_3 ml_RX0_154 (by assumption) (by decide) rfl rfl ⟨by decide, by decide, by decide, by decide⟩ (Nat.le_of_ble_eq_true rfl) (hfr) ?_
    refine aw_istore dX0_fetch_6 (by decide) ?_
    refine aw_iload dX0_fetch_8 rfl ?_
    refine aw_iconst dX0_fetch_10 rfl ⟨by decide, by decide⟩ ?_
    refine aw_icmp_ne (tgt := 17) dX0_fetch_11 rfl (fun h11 => ?_) (fun h11 => absurd h11 (by omega))
    refine aw_aload_n dX0_fetch_17 rfl rfl ⟨by decide, by decide⟩ ?_
    refine aw_gzF 4 dX0_fetch_18 fl_RX0_28 (by assumption) rfl rfl (by assumption) ?_
    refine aw_iload_n dX0_fetch_21 rfl rfl ?_
    refine aw_aload_n dX0_fetch_22 rfl rfl ⟨by decide, by decide⟩ ?_
    refine aw_gzF 1 dX0_fetch_23 fl_RX0_18 (by assumption) rfl rfl (by assumption) ?_
    refine aw_iload dX0_fetch_26 rfl ?_
    refine aw_iv dX0_fetch_28 (by assumption) (by omega) (by omega) v28 ?_
    refine aw_iast dX0_fetch_29 (by assumption) (by omega) (by omega) ?_
    have hs1 : HS (az_up M (h + 9) r (fetV S o f)) h (nameS S (715 + r) (fetV S o f)) := HC_root hc hw.1.1 hw.1.2.2.2.1 r0 r1
    have hw1 := nameS_wl hw (x := 715 + r) (v := fetV S o f) (by omega) i3
    have hn : nok (nameS S (715 + r) (fetV S o f)).1 (fetV S o f) := (nok_gu (by omega) (by omega)).mpr i3
    have v35 : az_up M (h + 9) r (fetV S o f) (h + 12) 0 = S.1 735 := by rw [up_oth _ _ _ (by omega)]; exact hc.2.2.2.2.2.2.2.1 0 (by omega) (by omega)
    have v56 : az_up M (h + 9) r (fetV S o f) (h + 9) r = fetV S o f := az_up_s _ _ _ _
    have hf1 : frH M (az_up M (h + 9) r (fetV S o f)) h := fun b hb => up_oth _ _ _ (by omega)
    generalize az_up M (h + 9) r (fetV S o f) = M1 at hs1 v35 v56 hf1
    refine aw_aload_n dX0_fetch_30 rfl rfl ⟨by decide, by decide⟩ ?_
    refine aw_gzF 7 dX0_fetch_31 fl_RX0_37 (by assumption) rfl rfl (by assumption) ?_
    refine aw_iconst dX0_fetch_34 rfl ⟨by decide, by decide⟩ ?_
    refine aw_iv dX0_fetch_35 (by assumption) (by omega) (by omega) v35 ?_
    refine aw_if_ne (tgt := 51) dX0_fetch_36 rfl (fun h36 => ?_) (fun h36 => ?_)
    · refine aw_aload_n dX0_fetch_51 rfl rfl ⟨by decide, by decide⟩ ?_
      refine aw_gzF 4 dX0_fetch_52 fl_RX0_28 (by assumption) rfl rfl (by assumption) ?_
      refine aw_iload_n dX0_fetch_55 rfl rfl ?_
      refine aw_iv dX0_fetch_56 (by assumption) (by omega) (by omega) v56 ?_
      refine aw_iret dX0_fetch_57 (by decide) (by decide) ⟨_, rfl, rfl, fun _ => ⟨rfl, ?_⟩, fun q => absurd hh q, hf1⟩
      unfold fetS; rw [if_neg h36]; exact hs1
    · have hsh := sp_shade (S := nameS S (715 + r) (fetV S o f)) hK0 M1 hs1 hw1.1 (h + 9) r (r + 1) 6 1 k9 (by omega) (by omega) (by omega) (by omega) (by omega) (fun i hi => by
        have : i = 0 := by omega
        subst this
        rw [show r + ((0 : Nat) : Int) = r by omega, v56]; exact hn)
      refine aw_aload_n dX0_fetch_39 rfl rfl ⟨by decide, by decide⟩ ?_
      refine aw_aload_n dX0_fetch_40 rfl rfl ⟨by decide, by decide⟩ ?_
      refine aw_gzF 4 dX0_fetch_41 fl_RX0_28 (by assumption) rfl rfl (by assumption) ?_
      refine aw_iload_n dX0_fetch_44 rfl rfl ?_
      refine aw_iload_n dX0_fetch_45 rfl rfl ?_
      refine aw_iconst dX0_fetch_46 rfl ⟨by decide, by decide⟩ ?_
      refine aw_iadd dX0_fetch_47 (az_wr_id (by omega) (by omega)) ?_
      refine aw_cV3v dX0_fetch_48 ml_RX0_109 (by assumption) (by decide) rfl rfl ⟨by decide, by decide, by decide, by decide⟩ (Nat.le_of_ble_eq_true rfl) (hsh) (fun M2 hM2 => ?_)
      have v56' : M2 (h + 9) r = fetV S o f := by rw [hM2.2.1 _ (by omega) (by omega) (by omega)]; exact v56
      refine aw_aload_n dX0_fetch_51 rfl rfl ⟨by decide, by decide⟩ ?_
      refine aw_gzF 4 dX0_fetch_52 fl_RX0_28 (by assumption) rfl rfl (by assumption) ?_
      refine aw_iload_n dX0_fetch_55 rfl rfl ?_
      refine aw_iv dX0_fetch_56 (by assumption) (by omega) (by omega) v56' ?_
      refine aw_iret dX0_fetch_57 (by decide) (by decide) ⟨_, rfl, rfl, fun _ => ⟨rfl, ?_⟩, fun q => absurd hh q, fun b hb => by rw [hM2.2.1 b (by omega) (by omega) (by omega)]; exact hf1 b hb⟩
      unfold fetS; rw [if_pos h36]
      have h2 : HS M2 h (greyS (nameS S (715 + r) (fetV S o f)) (M1 (h + 9) (r + ((0 : Nat) : Int)))) := hM2.1
      rw [show r + ((0 : Nat) : Int) = r by omega, v56] at h2
      exact h2
  · have hcell := fc2 (fun q => hh ⟨q.1.1.1, q.2⟩)
    rw [hcell] at hfr
    refine aw_aload_n dX0_fetch_0 rfl rfl ⟨by decide, by decide⟩ ?_
    refine aw_iload_n dX0_fetch_1 rfl rfl ?_
    refine aw_iload_n dX0_fetch_2 rfl rfl ?_
    refine aw_cV2p dX0_fetch_3 ml_RX0_154 (by assumption) (by decide) rfl rfl ⟨by decide, by decide, by decide, by decide⟩ (Nat.le_of_ble_eq_true rfl) (hfr) ?_
    refine aw_istore dX0_fetch_6 (by decide) ?_
    refine aw_iload dX0_fetch_8 rfl ?_
    refine aw_iconst dX0_fetch_10 rfl ⟨by decide, by decide⟩ ?_
    refine aw_icmp_ne (tgt := 17) dX0_fetch_11 rfl (fun h11 => absurd h11 (by omega)) (fun h11 => ?_)
    refine aw_bipush dX0_fetch_14 (by decide) ⟨by decide, by decide⟩ ?_
    exact aw_iret dX0_fetch_16 (by decide) (by decide) ⟨_, rfl, rfl, fun q => absurd q hh, fun _ => ⟨rfl, hc⟩, frH.refl M h⟩
