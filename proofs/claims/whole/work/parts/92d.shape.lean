/-! what reading an item adds -/
set_option maxRecDepth 20000
section SH
variable {X : pTx} {s t : pSt}
theorem adv_in (h : s.1 ≤ X.2) : s.1 ≤ (adv X s).1 ∧ (adv X s).1 ≤ X.2 ∧ (s.1 < X.2 → s.1 < (adv X s).1) := by
  have h1 := tkE_in (X := X) h
  have h2 := tkA_in (X := X) h1.2.1
  show s.1 ≤ tkA X (tkE X s.1) ∧ tkA X (tkE X s.1) ≤ X.2 ∧ (s.1 < X.2 → s.1 < tkA X (tkE X s.1))
  omega
theorem bd_r {A B : Type} {x : Sum pE A} {f : A → Sum pE B} {b : B} (h : bd x f = .inr b) : ∃ a, x = .inr a ∧ f a = .inr b := by
  cases x with
  | inl e => cases h
  | inr a => exact ⟨a, rfl, h⟩
/-- what an item that was read adds -/
def shp (X : pTx) (s t : pSt) : Prop := (s.1 ≤ t.1 ∧ t.1 ≤ X.2) ∧ ((∃ k r o u, k < 5 ∧ okI k r o u ∧ t.2 = (addI s k r o u).2) ∨ ∃ k r u, 5 ≤ k ∧ okI k r (-1) u ∧ t.2 = (opn s k r u).2)
theorem pRn_in {a : Int × pSt} (h : pRn X s = .inr a) : a.2 = adv X s ∧ (a.1 = -1 ∨ 0 ≤ a.1 ∧ a.1 < 6) := by
  obtain ⟨h1, h2⟩ := pRn_r h
  refine ⟨h1, ?_⟩
  rcases h2 with ⟨-, e⟩ | ⟨-, r, e⟩
  · exact Or.inl e
  · have := r.2; omega
theorem pStp_shp (h0 : s.1 ≤ X.2) (h : pStp X s = .inr t) : shp X s t := by
  obtain ⟨a, ha, h⟩ := bd_r h
  obtain ⟨b, hb, h⟩ := bd_r h
  obtain ⟨ea, -, r⟩ := pNm_r ha
  subst ea
  obtain ⟨eb, -⟩ := pSg_r hb
  subst eb
  cases h
  have p1 := adv_in h0
  have p2 := adv_in (X := X) (s := adv X s) p1.2.1
  have p3 := adv_in (X := X) (s := adv X (adv X s)) p2.2.1
  exact ⟨⟨by show s.1 ≤ (adv X (adv X (adv X s))).1; omega, p3.2.1⟩, Or.inl ⟨4, -1, -1, _, by omega, by omega, rfl⟩⟩
theorem pTim_shp (h0 : s.1 ≤ X.2) (h : pTim X s = .inr t) : shp X s t := by
  obtain ⟨a, ha, h⟩ := bd_r h
  obtain ⟨b, hb, h⟩ := bd_r h
  obtain ⟨ea, -, r⟩ := pNm_r ha
  subst ea
  obtain ⟨eb, -⟩ := pSg_r hb
  subst eb
  cases h
  have p1 := adv_in h0
  have p2 := adv_in (X := X) (s := adv X s) p1.2.1
  have p3 := adv_in (X := X) (s := adv X (adv X s)) p2.2.1
  exact ⟨⟨by show s.1 ≤ (adv X (adv X (adv X s))).1; omega, p3.2.1⟩, Or.inr ⟨5, -1, _, by omega, by omega, rfl⟩⟩
theorem pIfs_shp (h0 : s.1 ≤ X.2) (h : pIfs X s = .inr t) : shp X s t := by
  obtain ⟨a, ha, h⟩ := bd_r h
  obtain ⟨b, hb, h⟩ := bd_r h
  obtain ⟨ea, r⟩ := pRt_r ha
  subst ea
  obtain ⟨eb, -⟩ := pSg_r hb
  subst eb
  cases h
  have p1 := adv_in h0
  have p2 := adv_in (X := X) (s := adv X s) p1.2.1
  have p3 := adv_in (X := X) (s := adv X (adv X s)) p2.2.1
  have r2 := r.2
  exact ⟨⟨by show s.1 ≤ (adv X (adv X (adv X s))).1; omega, p3.2.1⟩, Or.inr ⟨6, _, 0, by omega, by omega, rfl⟩⟩
theorem pSto_shp (h0 : s.1 ≤ X.2) {r : Int} (r0 : 0 ≤ r ∧ r < 6) (h : pSto X r s = .inr t) : shp X s t := by
  obtain ⟨a, ha, g1⟩ := bd_r h
  clear h
  obtain ⟨ea, -, ra⟩ := pNm_r ha
  subst ea
  obtain ⟨b, hb, g2⟩ := bd_r g1
  clear g1
  obtain ⟨eb, -⟩ := pSg_r hb
  subst eb
  obtain ⟨c, hc, g3⟩ := bd_r g2
  clear g2
  obtain ⟨ec, rc⟩ := pRn_in hc
  cases g3
  have p1 := adv_in h0
  have p2 := adv_in (X := X) (s := adv X s) p1.2.1
  have p3 := adv_in (X := X) (s := adv X (adv X s)) p2.2.1
  refine ⟨⟨?_, ?_⟩, Or.inl ⟨3, r, c.1, nm X s.1, by omega, by omega, ?_⟩⟩
  · show s.1 ≤ c.2.1
    rw [ec]; show s.1 ≤ (adv X (adv X (adv X s))).1; omega
  · show c.2.1 ≤ X.2
    rw [ec]; exact p3.2.1
  · show (addI c.2 3 r c.1 (nm X s.1)).2 = _
    rw [ec]; rfl
theorem pNmg_shp (h0 : s.1 ≤ X.2) {r : Int} (r0 : 0 ≤ r ∧ r < 6) (h : pNmg X r s = .inr t) : shp X s t := by
  have p1 := adv_in h0
  unfold pNmg at h
  split at h
  · obtain ⟨a, ha, h⟩ := bd_r h
    obtain ⟨ea, -, ra⟩ := pNm_r ha
    subst ea
    cases h
    have p2 := adv_in (X := X) (s := adv X s) p1.2.1
    exact ⟨⟨by show s.1 ≤ (adv X (adv X s)).1; omega, p2.2.1⟩, Or.inl ⟨0, r, -1, _, by omega, by omega, rfl⟩⟩
  · obtain ⟨b, hb, h⟩ := bd_r h
    obtain ⟨eb, rb⟩ := pRn_in hb
    split at h
    · rename_i q
      obtain ⟨a, ha, h⟩ := bd_r h
      obtain ⟨ea, -, ra⟩ := pNm_r ha
      subst ea
      cases h
      have p2 := adv_in (X := X) (s := adv X s) p1.2.1
      have p3 := adv_in (X := X) (s := adv X (adv X s)) p2.2.1
      refine ⟨⟨?_, ?_⟩, Or.inl ⟨2, r, b.1, nm X (adv X b.2).1, by omega, ?_, ?_⟩⟩
      · show s.1 ≤ (adv X (adv X b.2)).1
        rw [eb]; omega
      · show (adv X (adv X b.2)).1 ≤ X.2
        rw [eb]; exact p3.2.1
      · have q1 := q.1
        omega
      · show (addI (adv X (adv X b.2)) 2 r b.1 (nm X (adv X b.2).1)).2 = _
        rw [eb]; rfl
    · cases h
      refine ⟨⟨?_, ?_⟩, Or.inl ⟨1, r, b.1, 0, by omega, by omega, ?_⟩⟩
      · show s.1 ≤ b.2.1
        rw [eb]; exact p1.1
      · show b.2.1 ≤ X.2
        rw [eb]; exact p1.2.1
      · show (addI b.2 1 r b.1 0).2 = _
        rw [eb]; rfl
theorem shp_adv (h0 : s.1 ≤ X.2) (h : shp X (adv X s) t) : shp X s t := by
  have p1 := adv_in h0
  obtain ⟨⟨a, b⟩, h⟩ := h
  exact ⟨⟨by omega, b⟩, h⟩
theorem adv_shp (h : shp X s t) : shp X s (adv X t) := by
  obtain ⟨⟨a, b⟩, h⟩ := h
  have p1 := adv_in (X := X) (s := t) b
  exact ⟨⟨by omega, p1.2.1⟩, h⟩
theorem pDe1_shp (h0 : s.1 ≤ X.2) {r : Int} (r0 : 0 ≤ r ∧ r < 6) (h : pDe1 X r s = .inr t) : shp X s t := by
  have p1 := adv_in h0
  unfold pDe1 at h
  split at h
  · exact shp_adv h0 (pSto_shp p1.2.1 r0 h)
  · obtain ⟨a, ha, h⟩ := bd_r h
    obtain ⟨ea, -⟩ := pSg_r ha
    subst ea
    exact shp_adv h0 (pNmg_shp p1.2.1 r0 h)
theorem pDee_shp (h0 : s.1 ≤ X.2) (hr : isR X s) (h : pDee X s = .inr t) : shp X (adv X s) t := by
  have p1 := adv_in h0
  obtain ⟨a, ha, h⟩ := bd_r h
  obtain ⟨ea, -⟩ := pSg_r h
  subst ea
  have r2 := hr.2
  exact adv_shp (pDe1_shp p1.2.1 (by omega) ha)
theorem pItm_shp (h0 : 0 ≤ s.1) (h : pItm X s = .inr t) (h1 : s.1 ≤ X.2) : shp X s t ∧ s.2.1 ≤ 3 ∧ s.2.2.1 ≠ 40 ∧ s.1 < t.1 := by
  unfold pItm at h
  split at h
  · cases h
  · rename_i hb
    replace hb : beg X s := Classical.byContradiction hb
    have hlt : s.1 < X.2 := by
      have : tok X s.1 = 2 := by rcases hb with q | q | q | q <;> exact q.1
      exact (tok2.mp this).1
    have p1 := adv_in h1
    split at h
    · cases h
    · rename_i q
      suffices hh : shp X s t ∧ s.1 < t.1 from ⟨hh.1, by omega, by omega, hh.2⟩
      have key : ∀ {v : pSt}, shp X (adv X s) v → shp X s v ∧ s.1 < v.1 := fun w => ⟨shp_adv h1 w, by have := w.1.1; have := p1.2.2 hlt; omega⟩
      split at h
      · refine key ?_
        obtain ⟨a, ha, g1⟩ := bd_r h
        clear h
        obtain ⟨b, hb', g2⟩ := bd_r g1
        clear g1
        obtain ⟨ea, -, r⟩ := pNm_r ha
        subst ea
        obtain ⟨eb, -⟩ := pSg_r hb'
        subst eb
        cases g2
        have p2 := adv_in (X := X) (s := adv X s) p1.2.1
        have p3 := adv_in (X := X) (s := adv X (adv X s)) p2.2.1
        exact ⟨⟨by show (adv X s).1 ≤ (adv X (adv X (adv X s))).1; omega, p3.2.1⟩, Or.inl ⟨4, -1, -1, _, by omega, by omega, rfl⟩⟩
      · split at h
        · refine key ?_
          obtain ⟨a, ha, g1⟩ := bd_r h
          clear h
          obtain ⟨b, hb', g2⟩ := bd_r g1
          clear g1
          obtain ⟨ea, -, r⟩ := pNm_r ha
          subst ea
          obtain ⟨eb, -⟩ := pSg_r hb'
          subst eb
          cases g2
          have p2 := adv_in (X := X) (s := adv X s) p1.2.1
          have p3 := adv_in (X := X) (s := adv X (adv X s)) p2.2.1
          exact ⟨⟨by show (adv X s).1 ≤ (adv X (adv X (adv X s))).1; omega, p3.2.1⟩, Or.inr ⟨5, -1, _, by omega, by omega, rfl⟩⟩
        · split at h
          · refine key ?_
            obtain ⟨a, ha, g1⟩ := bd_r h
            clear h
            obtain ⟨b, hb', g2⟩ := bd_r g1
            clear g1
            obtain ⟨ea, r⟩ := pRt_r ha
            subst ea
            obtain ⟨eb, -⟩ := pSg_r hb'
            subst eb
            cases g2
            have p2 := adv_in (X := X) (s := adv X s) p1.2.1
            have p3 := adv_in (X := X) (s := adv X (adv X s)) p2.2.1
            have r2 := r.2
            exact ⟨⟨by show (adv X s).1 ≤ (adv X (adv X (adv X s))).1; omega, p3.2.1⟩, Or.inr ⟨6, _, 0, by omega, by omega, rfl⟩⟩
          · rename_i w1 w2 w3
            have hr : isR X s := by
              rcases hb with q | q | q | q
              · exact q
              · exact absurd q w1
              · exact absurd q w2
              · exact absurd q w3
            exact key (pDee_shp h1 hr h)
theorem pItm_NI (hN : NI s) (h0 : 0 ≤ s.1) (h1 : s.1 ≤ X.2) (h : pItm X s = .inr t) : NI t ∧ s.1 < t.1 ∧ t.1 ≤ X.2 := by
  obtain ⟨⟨a, b⟩, c, d, e⟩ := pItm_shp h0 h h1
  have hn := hN.2.1
  refine ⟨?_, e, a.2⟩
  unfold NI
  rcases b with ⟨k, r, o, u, b1, b2, b3⟩ | ⟨k, r, u, b1, b2, b3⟩
  · rw [b3]
    exact NQ.add hN c (by omega) b1 b2
  · rw [b3]
    exact NQ.opn hN c (by omega) b1 b2
theorem cls_NI (hN : NI s) (hd : 0 < s.2.1) : NI (adv X (cls s)) ∧ 0 ≤ s.2.2.2.2 (s.2.1 - 1) ∧ s.2.2.2.2 (s.2.1 - 1) < s.2.2.1 := NQ.cls hN hd
theorem pAll_NI : ∀ (d : Nat) (s t : pSt), NI s → 0 ≤ s.1 → s.1 ≤ X.2 → pAll X d s = .inr t → NI t := by
  intro d
  induction d with
  | zero => intro s t h _ _ e; cases e; exact h
  | succ d ih =>
    intro s t h h0 h1 e
    replace e : (if tok X s.1 = 0 then (Sum.inr s : Sum pE pSt) else if isS X 125 s ∧ 0 < s.2.1 then pAll X d (adv X (cls s)) else bd (pItm X s) (pAll X d)) = Sum.inr t := e
    split at e
    · cases e; exact h
    · split at e
      · rename_i q
        have hp := adv_in (X := X) (s := cls s) h1
        have hcs : (cls s).1 = s.1 := rfl
        exact ih _ _ (cls_NI h q.2).1 (by omega) hp.2.1 e
      · obtain ⟨a, ha, e⟩ := bd_r e
        obtain ⟨a1, a2, a3⟩ := pItm_NI h h0 h1 ha
        exact ih _ _ a1 (by omega) a3 e
theorem pPrg_NP (h0 : 0 ≤ X.2) (h : pPrg X = .inr t) : NP t.2.2.2.1 t.2.2.1 ∧ 0 ≤ t.2.2.1 ∧ t.2.2.1 ≤ 40 := by
  obtain ⟨a, ha, g1⟩ := bd_r h
  have hp := tkA_in (X := X) (q := 0) h0
  have hN0 : NI ((tkA X 0, 0, 0, fun _ _ => 0, fun _ => 0) : pSt) := NQ.nil _ _
  have hN : NI a := pAll_NI 400 _ _ hN0 hp.1 hp.2 ha
  replace g1 : (if 0 < a.2.1 then (Sum.inl (1, a.1) : Sum pE pSt) else Sum.inr a) = Sum.inr t := g1
  by_cases q : 0 < a.2.1
  · rw [if_pos q] at g1
    cases g1
  · rw [if_neg q] at g1
    have e : a = t := by cases g1; rfl
    subst e
    have hN2 : NQ a.2.1 a.2.2.1 a.2.2.2.1 a.2.2.2.2 := hN
    have h1 := hN2.1
    have e0 : a.2.1 = 0 := by omega
    rw [e0] at hN2
    exact ⟨hN2.allc, hN2.2.1⟩
end SH
