/-! Reader reads items -/
set_option maxRecDepth 20000
def RdK (K : az_K) (rd tp sc : Int) : Prop := RtK K rd tp ∧ ScK K sc ∧ (sc + 5 < rd ∨ rd + 8 < sc) ∧ (tp < sc ∨ sc + 5 < tp)
def LV (M : az_M) (rd tp sc : Int) (X : pTx) (s : pSt) : Prop := GS M rd tp X s.1 (0, -1) ∧ M rd 4 = sc ∧ M rd 6 = s.2.1 ∧ M sc 5 = s.2.2.1 ∧ (∀ i, 0 ≤ i → i < s.2.2.1 → clsI M sc s.2.2.2.1 i) ∧ (∀ k, 0 ≤ k → k < s.2.1 → M (rd + 8) k = s.2.2.2.2 k) ∧ (0 ≤ s.2.1 ∧ s.2.1 ≤ 4) ∧ 0 ≤ s.2.2.1 ∧ s.2.2.1 ≤ 40
def DD (M : az_M) (rd tp sc : Int) (X : pTx) (e : pE) (dp : Int) : Prop := (∃ p, GS M rd tp X p e) ∧ e.1 ≠ 0 ∧ M rd 4 = sc ∧ M rd 6 = dp ∧ 0 ≤ dp ∧ 0 ≤ M sc 5 ∧ M sc 5 ≤ 40
def frC (M M' : az_M) (rd sc : Int) : Prop := (∀ b, b ≠ rd → b ≠ rd + 8 → b < sc ∨ sc + 5 < b → M' b = M b) ∧ M' rd 0 = M rd 0 ∧ M' rd 1 = M rd 1 ∧ M' rd 4 = M rd 4
theorem frC.refl (M : az_M) (rd sc : Int) : frC M M rd sc := ⟨fun _ _ _ _ => rfl, rfl, rfl, rfl⟩
theorem frC.trans {M M1 M2 : az_M} {rd sc : Int} (p : frC M M1 rd sc) (q : frC M1 M2 rd sc) : frC M M2 rd sc := ⟨fun b h1 h2 h3 => (q.1 b h1 h2 h3).trans (p.1 b h1 h2 h3), q.2.1.trans p.2.1, q.2.2.1.trans p.2.2.1, q.2.2.2.trans p.2.2.2⟩
theorem frC.ofL {M M' : az_M} {rd sc : Int} (f : frL M M' rd) : frC M M' rd sc := ⟨fun b h1 _ _ => f.1 b h1, f.2 _ (by omega) (by omega) (by omega) (by omega), f.2 _ (by omega) (by omega) (by omega) (by omega), f.2 _ (by omega) (by omega) (by omega) (by omega)⟩
def CO (M M' : az_M) (rd tp sc : Int) (X : pTx) (r : Sum pE pSt) : Prop := (∀ e, r = .inl e → ∃ dp, dp ≤ 4 ∧ DD M' rd tp sc X e dp) ∧ (∀ t, r = .inr t → LV M' rd tp sc X t) ∧ frC M M' rd sc
section CC
variable {K : az_K} {rd tp sc : Int} {X : pTx} {s : pSt} {e : pE} {dp p : Int} {M M' : az_M}
theorem CO.l {r : Sum pE pSt} (h : r = .inl e) (hd : DD M' rd tp sc X e dp) (h4 : dp ≤ 4) (f : frC M M' rd sc) : CO M M' rd tp sc X r := ⟨fun e' q => (by rw [h] at q; cases q; exact ⟨dp, h4, hd⟩), fun t q => (by rw [h] at q; cases q), f⟩
theorem CO.r {r : Sum pE pSt} {t : pSt} (h : r = .inr t) (hd : LV M' rd tp sc X t) (f : frC M M' rd sc) : CO M M' rd tp sc X r := ⟨fun e' q => (by rw [h] at q; cases q), fun t' q => (by rw [h] at q; cases q; exact hd), f⟩
theorem LV.leaf (hK : RdK K rd tp sc) (h : LV M rd tp sc X s) (hg : GS M' rd tp X p (0, -1)) (f : frL M M' rd) : LV M' rd tp sc X (p, s.2) := by
  obtain ⟨h1, h2, h3, h4, h5, h6, h7, h8⟩ := h
  have hd := hK.2.2.1
  have o : ∀ b, sc ≤ b → b ≤ sc + 5 → M' b = M b := fun b a c => f.1 b (by omega)
  refine ⟨hg, (f.2 _ (by omega) (by omega) (by omega) (by omega)).trans h2, (f.2 _ (by omega) (by omega) (by omega) (by omega)).trans h3, by rw [o sc (by omega) (by omega)]; exact h4, fun i i0 i1 => ?_, fun k k0 k1 => by rw [f.1 _ (by omega)]; exact h6 k k0 k1, h7, h8⟩
  have := h5 i i0 i1
  unfold clsI at this ⊢
  rw [o _ (by omega) (by omega), o _ (by omega) (by omega), o _ (by omega) (by omega), o _ (by omega) (by omega), o _ (by omega) (by omega)]
  exact this
theorem DD.of (hK : RdK K rd tp sc) (h : LV M rd tp sc X s) (hg : GS M' rd tp X p e) (he : e.1 ≠ 0) (f : frL M M' rd) : DD M' rd tp sc X e s.2.1 := by
  obtain ⟨h1, h2, h3, h4, h5, h6, h7, h8⟩ := h
  have hd := hK.2.2.1
  have o : M' sc = M sc := f.1 _ (by omega)
  exact ⟨⟨p, hg⟩, he, (f.2 _ (by omega) (by omega) (by omega) (by omega)).trans h2, (f.2 _ (by omega) (by omega) (by omega) (by omega)).trans h3, h7.1, by rw [o]; omega, by rw [o]; omega⟩
theorem DD.leaf (hK : RdK K rd tp sc) (h : DD M rd tp sc X e dp) (hg : GS M' rd tp X p e) (f : frL M M' rd) : DD M' rd tp sc X e dp := by
  obtain ⟨h1, h2, h3, h4, h5, h6, h7⟩ := h
  have hd := hK.2.2.1
  have o : M' sc = M sc := f.1 _ (by omega)
  exact ⟨⟨p, hg⟩, h2, (f.2 _ (by omega) (by omega) (by omega) (by omega)).trans h3, (f.2 _ (by omega) (by omega) (by omega) (by omega)).trans h4, h5, by rw [o]; exact h6, by rw [o]; exact h7⟩
theorem sgB (hK : RdK K rd tp sc) (h : LV M rd tp sc X s) {c : Int} (hM : (s.1 < X.2 ∧ X.1 s.1 = c → GS M' rd tp X (tkA X (tkE X s.1)) (0, -1)) ∧ (¬ (s.1 < X.2 ∧ X.1 s.1 = c) → GS M' rd tp X s.1 (nt (0, -1) 1 s.1)) ∧ frL M M' rd) : (∀ e, pSg X c s = .inl e → DD M' rd tp sc X e s.2.1) ∧ (∀ t, pSg X c s = .inr t → LV M' rd tp sc X t) ∧ frC M M' rd sc := by
  obtain ⟨a, b, f⟩ := hM
  refine ⟨fun e q => ?_, fun t q => ?_, frC.ofL f⟩
  · obtain ⟨q1, q2⟩ := pSg_l q
    have := b q2
    rw [nt_l] at this
    subst q1
    exact DD.of hK h this (by show (1 : Int) ≠ 0; omega) f
  · obtain ⟨q1, q2⟩ := pSg_r q
    rw [q1]
    exact h.leaf hK (a q2) f
theorem sgD (hK : RdK K rd tp sc) (h : DD M rd tp sc X e dp) {c : Int} (hM : (p < X.2 ∧ X.1 p = c → GS M' rd tp X (tkA X (tkE X p)) e) ∧ (¬ (p < X.2 ∧ X.1 p = c) → GS M' rd tp X p (nt e 1 p)) ∧ frL M M' rd) : DD M' rd tp sc X e dp ∧ frC M M' rd sc := by
  obtain ⟨a, b, f⟩ := hM
  rw [nt_d h.2.1] at b
  by_cases q : p < X.2 ∧ X.1 p = c
  · exact ⟨h.leaf hK (a q) f, frC.ofL f⟩
  · exact ⟨h.leaf hK (b q) f, frC.ofL f⟩
theorem numB (hK : RdK K rd tp sc) (h : LV M rd tp sc X s) {lo hi z : Int} (hM : (tok X s.1 ≠ 3 → z = -1 ∧ GS M' rd tp X s.1 (nt (0, -1) 1 s.1)) ∧ (tok X s.1 = 3 → ¬ (lo ≤ nm X s.1 ∧ nm X s.1 ≤ hi) → z = -1 ∧ GS M' rd tp X s.1 (nt (0, -1) 2 s.1)) ∧ (tok X s.1 = 3 → lo ≤ nm X s.1 ∧ nm X s.1 ≤ hi → z = nm X s.1 ∧ GS M' rd tp X (tkA X (tkE X s.1)) (0, -1)) ∧ frL M M' rd) : (∀ e, pNm X lo hi s = .inl e → DD M' rd tp sc X e s.2.1) ∧ (∀ a, pNm X lo hi s = .inr a → z = a.1 ∧ LV M' rd tp sc X a.2) ∧ frC M M' rd sc := by
  obtain ⟨a, b, c, f⟩ := hM
  refine ⟨fun e q => ?_, fun t q => ?_, frC.ofL f⟩
  · rcases pNm_l q with ⟨q1, q2⟩ | ⟨q1, q2, q3⟩
    · have := (a q1).2
      rw [nt_l] at this
      subst q2
      exact DD.of hK h this (by show (1 : Int) ≠ 0; omega) f
    · have := (b q1 q2).2
      rw [nt_l] at this
      subst q3
      exact DD.of hK h this (by show (2 : Int) ≠ 0; omega) f
  · obtain ⟨q1, q2, q3⟩ := pNm_r q
    obtain ⟨c1, c2⟩ := c q2 q3
    rw [q1]
    exact ⟨c1, h.leaf hK c2 f⟩
theorem numD (hK : RdK K rd tp sc) (h : DD M rd tp sc X e dp) {lo hi z : Int} (hM : (tok X p ≠ 3 → z = -1 ∧ GS M' rd tp X p (nt e 1 p)) ∧ (tok X p = 3 → ¬ (lo ≤ nm X p ∧ nm X p ≤ hi) → z = -1 ∧ GS M' rd tp X p (nt e 2 p)) ∧ (tok X p = 3 → lo ≤ nm X p ∧ nm X p ≤ hi → z = nm X p ∧ GS M' rd tp X (tkA X (tkE X p)) e) ∧ frL M M' rd) : DD M' rd tp sc X e dp ∧ frC M M' rd sc := by
  obtain ⟨a, b, c, f⟩ := hM
  rw [nt_d h.2.1] at a b
  by_cases q : tok X p = 3
  · by_cases r : lo ≤ nm X p ∧ nm X p ≤ hi
    · exact ⟨h.leaf hK (c q r).2 f, frC.ofL f⟩
    · exact ⟨h.leaf hK (b q r).2 f, frC.ofL f⟩
  · exact ⟨h.leaf hK (a q).2 f, frC.ofL f⟩
theorem rnB (hK : RdK K rd tp sc) (h : LV M rd tp sc X s) {z : Int} (hM : z = (if rtP X s.1 then wd X s.1 - 1 else -1) ∧ (rtP X s.1 ∨ (1 : Int) = 1 ∧ tok X s.1 = 2 ∧ wd X s.1 = 474565 → GS M' rd tp X (tkA X (tkE X s.1)) (0, -1)) ∧ (¬ (rtP X s.1 ∨ (1 : Int) = 1 ∧ tok X s.1 = 2 ∧ wd X s.1 = 474565) → GS M' rd tp X s.1 (nt (0, -1) 1 s.1)) ∧ frL M M' rd) : (∀ e, pRn X s = .inl e → DD M' rd tp sc X e s.2.1) ∧ (∀ a, pRn X s = .inr a → z = a.1 ∧ LV M' rd tp sc X a.2) ∧ frC M M' rd sc := by
  obtain ⟨z1, a, b, f⟩ := hM
  refine ⟨fun e q => ?_, fun t q => ?_, frC.ofL f⟩
  · obtain ⟨q1, q2, q3⟩ := pRn_l q
    have := b (fun w => w.elim q3 (fun w => q2 w.2))
    rw [nt_l] at this
    subst q1
    exact DD.of hK h this (by show (1 : Int) ≠ 0; omega) f
  · obtain ⟨q1, q2⟩ := pRn_r q
    rw [q1]
    rcases q2 with ⟨w, e1⟩ | ⟨w, r, e1⟩
    · refine ⟨?_, h.leaf hK (a (Or.inr ⟨rfl, w⟩)) f⟩
      rw [z1, if_neg (fun r => by have := r.2; have := w.2; omega)]; exact e1.symm
    · refine ⟨?_, h.leaf hK (a (Or.inl r)) f⟩
      rw [z1, if_pos r]; exact e1.symm
theorem rtB (hK : RdK K rd tp sc) (h : LV M rd tp sc X s) {z : Int} (hM : z = (if rtP X s.1 then wd X s.1 - 1 else -1) ∧ (rtP X s.1 ∨ (0 : Int) = 1 ∧ tok X s.1 = 2 ∧ wd X s.1 = 474565 → GS M' rd tp X (tkA X (tkE X s.1)) (0, -1)) ∧ (¬ (rtP X s.1 ∨ (0 : Int) = 1 ∧ tok X s.1 = 2 ∧ wd X s.1 = 474565) → GS M' rd tp X s.1 (nt (0, -1) 1 s.1)) ∧ frL M M' rd) : (∀ e, pRt X s = .inl e → DD M' rd tp sc X e s.2.1) ∧ (∀ a, pRt X s = .inr a → z = a.1 ∧ LV M' rd tp sc X a.2) ∧ frC M M' rd sc := by
  obtain ⟨z1, a, b, f⟩ := hM
  refine ⟨fun e q => ?_, fun t q => ?_, frC.ofL f⟩
  · obtain ⟨q1, q2⟩ := pRt_l q
    have := b (fun w => w.elim q2 (fun w => by have := w.1; omega))
    rw [nt_l] at this
    subst q1
    exact DD.of hK h this (by show (1 : Int) ≠ 0; omega) f
  · obtain ⟨q1, q2⟩ := pRt_r q
    rw [q1]
    refine ⟨?_, h.leaf hK (a (Or.inl q2)) f⟩
    rw [z1, if_pos q2]
theorem rnD (hK : RdK K rd tp sc) (h : DD M rd tp sc X e dp) {b z : Int} (hM : z = (if rtP X p then wd X p - 1 else -1) ∧ (rtP X p ∨ b = 1 ∧ tok X p = 2 ∧ wd X p = 474565 → GS M' rd tp X (tkA X (tkE X p)) e) ∧ (¬ (rtP X p ∨ b = 1 ∧ tok X p = 2 ∧ wd X p = 474565) → GS M' rd tp X p (nt e 1 p)) ∧ frL M M' rd) : DD M' rd tp sc X e dp ∧ frC M M' rd sc := by
  obtain ⟨-, a, c, f⟩ := hM
  rw [nt_d h.2.1] at c
  by_cases q : rtP X p ∨ b = 1 ∧ tok X p = 2 ∧ wd X p = 474565
  · exact ⟨h.leaf hK (a q) f, frC.ofL f⟩
  · exact ⟨h.leaf hK (c q) f, frC.ofL f⟩
theorem frC.add (hK : RdK K rd tp sc) {n k r o u : Int} (h : addP M M' sc n k r o u) : frC M M' rd sc := by
  have hd := hK.2.2.1
  have o := h.2.2.2.2.2.1
  exact ⟨fun b _ _ hb => o b hb, by rw [o rd (by omega)], by rw [o rd (by omega)], by rw [o rd (by omega)]⟩
theorem GS.fr {fe : pE} (h : GS M rd tp X p fe) (ht : tp ≠ rd) (er : ∀ j, j ≠ 6 → M' rd j = M rd j) (et : M' tp = M tp) : GS M' rd tp X p fe := by
  obtain ⟨h1, h2, h3, h4, h5, h6⟩ := h
  exact ⟨h1.fr ht (er _ (by omega)) (er _ (by omega)) et, h2, (er _ (by omega)).trans h3, (er _ (by omega)).trans h4, (er _ (by omega)).trans h5, (er _ (by omega)).trans h6⟩
theorem LV.add (hK : RdK K rd tp sc) (h : LV M rd tp sc X s) (hn : s.2.2.1 ≤ 39) {k r o u d : Int} (ha : addP M M' sc s.2.2.1 k r o u) : LV M' rd tp sc X (addD s k r o u d) := by
  obtain ⟨h1, h2, h3, h4, h5, h6, h7, h8⟩ := h
  obtain ⟨a1, a2, a3, a4, a5, a6, a7⟩ := ha
  have hd := hK.2.2.1
  have ht := hK.2.2.2
  have htr := hK.1.2.2.2.2
  have er : M' rd = M rd := a6 _ (by omega)
  refine ⟨h1.fr (by omega) (fun j _ => by rw [er]) (a6 _ (by omega)), by rw [er]; exact h2, by rw [er]; exact h3, by rw [a7, rwU_s]; rfl, fun i i0 i1 => ?_, fun q k0 k1 => by rw [a6 _ (by omega)]; exact h6 q k0 k1, h7, ?_⟩
  · have i1' : i < s.2.2.1 + 1 := i1
    unfold clsI
    rw [a1, a2, a3, a4, a5]
    by_cases q : i = s.2.2.1
    · subst q
      simp only [rwU_s]
      exact ⟨(itU_0 _ _ _ _ _ _ _).symm, (itU_1 _ _ _ _ _ _ _).symm, (itU_2 _ _ _ _ _ _ _).symm, (itU_3 _ _ _ _ _ _ _).symm, (itU_4 _ _ _ _ _ _ _).symm⟩
    · have hi := h5 i i0 (by omega)
      unfold clsI at hi
      have f : ∀ j, (addD s k r o u d).2.2.2.1 i j = s.2.2.2.1 i j := itU_n _ _ _ _ _ _ _ q
      rw [rwU_n _ _ q, rwU_n _ _ q, rwU_n _ _ q, rwU_n _ _ q, rwU_n _ _ q, f, f, f, f, f]
      exact hi
  · show 0 ≤ s.2.2.1 + 1 ∧ s.2.2.1 + 1 ≤ 40
    omega
theorem DD.add (hK : RdK K rd tp sc) (h : DD M rd tp sc X e dp) {k r o u : Int} (ha : (M sc 5 < 40 → addP M M' sc (M sc 5) k r o u) ∧ (¬ M sc 5 < 40 → M' = M)) : DD M' rd tp sc X e dp ∧ frC M M' rd sc := by
  by_cases q : M sc 5 < 40
  · have hA := ha.1 q
    refine ⟨?_, frC.add hK hA⟩
    obtain ⟨⟨p, h1⟩, h2, h3, h4, h5, h6, h7⟩ := h
    obtain ⟨a1, a2, a3, a4, a5, a6, a7⟩ := hA
    have hd := hK.2.2.1
    have ht := hK.2.2.2
    have htr := hK.1.2.2.2.2
    have er : M' rd = M rd := a6 _ (by omega)
    have e5 : M' sc 5 = M sc 5 + 1 := by rw [a7, rwU_s]
    exact ⟨⟨p, h1.fr (by omega) (fun j _ => by rw [er]) (a6 _ (by omega))⟩, h2, by rw [er]; exact h3, by rw [er]; exact h4, h5, by omega, by omega⟩
  · have hA := ha.2 q
    subst hA
    exact ⟨h, frC.refl _ _ _⟩
end CC
section CR2
variable {K : az_K} {rd tp sc : Int} {X : pTx} {s : pSt} {e : pE} {dp : Int}
set_option maxHeartbeats 1000000 in
theorem sp_openBlockD (hK : RdK K rd tp sc) (M : az_M) (h : DD M rd tp sc X e dp) (hdp : dp ≤ 3) (k r u : Int) : AM yX2_openBlock cX2_openBlock 4 none 3 0 0 [(1, rd), (0, k), (0, r), (0, u)] K M (qv K (fun M' => DD M' rd tp sc X e (dp + 1) ∧ frC M M' rd sc)) := by
  have hK0 := hK
  obtain ⟨⟨kr, k8, kt, y5, hs⟩, hSc, hd, ht⟩ := hK
  have hSc0 := hSc
  obtain ⟨s0, s1, s2, s3, s4, s5, x0, x1, x2, x3, x4⟩ := hSc
  refine am_of (by decide) (Nat.le_of_ble_eq_true rfl) (L := [(1, rd), (0, k), (0, r), (0, u)]) rfl ?_
  obtain ⟨p, hg⟩ := h.1
  refine aw_aload_n dX2_openBlock_0 rfl rfl ⟨by decide, by decide⟩ ?_
  refine aw_bipush dX2_openBlock_1 (by decide) ⟨by decide, by decide⟩ ?_
  refine aw_cV1v dX2_openBlock_3 ml_RX2_110 (by assumption) (by decide) rfl rfl ⟨by decide, by decide, by decide, by decide⟩ (Nat.le_of_ble_eq_true rfl) (sp_creadSign hK0.1 M hg 123) (fun M1 hM1 => ?_)
  obtain ⟨h1, f1⟩ := sgD hK0 h hM1
  obtain ⟨⟨p1, g1⟩, n1, d4, d6, dp0, n5, n6⟩ := id h1
  have v24 : az_up M1 (rd + 8) dp (M1 sc 5) rd 6 = dp := by rw [up_oth _ _ _ (by omega)]; exact d6
  have u33 : az_up (az_up M1 (rd + 8) dp (M1 sc 5)) rd 6 (dp + 1) rd 4 = sc := by rw [az_up_i _ _ _ _ (by omega), up_oth _ _ _ (by omega)]; exact d4
  have h2 : DD (az_up (az_up M1 (rd + 8) dp (M1 sc 5)) rd 6 (dp + 1)) rd tp sc X e (dp + 1) := ⟨⟨p1, g1.fr (by omega) (fun j hj => by rw [az_up_i _ _ _ _ hj, up_oth _ _ _ (by omega)]) (by rw [up_oth _ _ _ (by omega), up_oth _ _ _ (by omega)])⟩, n1, u33, az_up_s _ _ _ _, by omega, by rw [up_oth _ _ _ (by omega), up_oth _ _ _ (by omega)]; exact n5, by rw [up_oth _ _ _ (by omega), up_oth _ _ _ (by omega)]; exact n6⟩
  have f2 : frC M1 (az_up (az_up M1 (rd + 8) dp (M1 sc 5)) rd 6 (dp + 1)) rd sc := ⟨fun b b1 b2 b3 => by rw [up_oth _ _ _ b1, up_oth _ _ _ b2], by rw [az_up_i _ _ _ _ (by omega), up_oth _ _ _ (by omega)], by rw [az_up_i _ _ _ _ (by omega), up_oth _ _ _ (by omega)], by rw [az_up_i _ _ _ _ (by omega), up_oth _ _ _ (by omega)]⟩
  refine aw_aload_n dX2_openBlock_6 rfl rfl ⟨by decide, by decide⟩ ?_
  refine aw_gzF 5 dX2_openBlock_7 fl_RX2_32 (by assumption) rfl rfl (by assumption) ?_
  refine aw_aload_n dX2_openBlock_10 rfl rfl ⟨by decide, by decide⟩ ?_
  refine aw_gi 6 dX2_openBlock_11 fl_RX2_35 (by assumption) rfl rfl d6 ?_
  refine aw_aload_n dX2_openBlock_14 rfl rfl ⟨by decide, by decide⟩ ?_
  refine aw_gr 4 dX2_openBlock_15 fl_RX2_28 (by assumption) rfl rfl d4 ?_
  refine aw_gi 5 dX2_openBlock_18 fl_RX2_44 (by assumption) rfl rfl rfl ?_
  refine aw_iast dX2_openBlock_21 (by assumption) (by omega) (by omega) ?_
  refine aw_aload_n dX2_openBlock_22 rfl rfl ⟨by decide, by decide⟩ ?_
  refine aw_dup dX2_openBlock_23 ?_
  refine aw_gi 6 dX2_openBlock_24 fl_RX2_35 (by assumption) rfl rfl v24 ?_
  refine aw_iconst dX2_openBlock_27 rfl ⟨by decide, by decide⟩ ?_
  refine aw_iadd dX2_openBlock_28 (az_wr_id (by omega) (by omega)) ?_
  refine aw_pi 6 dX2_openBlock_29 fl_RX2_35 (by assumption) rfl rfl ?_
  generalize az_up (az_up M1 (rd + 8) dp (M1 sc 5)) rd 6 (dp + 1) = M2 at u33 h2 f2 ⊢
  refine aw_aload_n dX2_openBlock_32 rfl rfl ⟨by decide, by decide⟩ ?_
  refine aw_gr 4 dX2_openBlock_33 fl_RX2_28 (by assumption) rfl rfl u33 ?_
  refine aw_iload_n dX2_openBlock_36 rfl rfl ?_
  refine aw_iload_n dX2_openBlock_37 rfl rfl ?_
  refine aw_iconst dX2_openBlock_38 rfl ⟨by decide, by decide⟩ ?_
  refine aw_iload_n dX2_openBlock_39 rfl rfl ?_
  refine aw_cV4v dX2_openBlock_40 ml_RX2_114 (by assumption) (by decide) rfl rfl ⟨by decide, by decide, by decide, by decide⟩ (Nat.le_of_ble_eq_true rfl) (sp_add hSc0 M2 (M2 sc 5) rfl h2.2.2.2.2.2.1 h2.2.2.2.2.2.2 k r (-1) u) (fun M3 hM3 => ?_)
  obtain ⟨h3, f3⟩ := h2.add hK0 hM3
  exact aw_vret dX2_openBlock_43 (by decide) (by decide) ⟨rfl, rfl, h3, f1.trans (f2.trans f3)⟩
set_option maxHeartbeats 1000000 in
theorem sp_openBlock (hK : RdK K rd tp sc) (M : az_M) (h : LV M rd tp sc X s) (hn : s.2.2.1 ≤ 39) (hdp : s.2.1 ≤ 3) (k r u : Int) : AM yX2_openBlock cX2_openBlock 4 none 3 0 0 [(1, rd), (0, k), (0, r), (0, u)] K M (qv K (fun M' => CO M M' rd tp sc X (bd (pSg X 123 s) fun t => .inr (opn t k r u)))) := by
  have hK0 := hK
  obtain ⟨⟨kr, k8, kt, y5, hs⟩, hSc, hd, ht⟩ := hK
  have hSc0 := hSc
  obtain ⟨s0, s1, s2, s3, s4, s5, x0, x1, x2, x3, x4⟩ := hSc
  refine am_of (by decide) (Nat.le_of_ble_eq_true rfl) (L := [(1, rd), (0, k), (0, r), (0, u)]) rfl ?_
  generalize hr : (bd (pSg X 123 s) fun t => Sum.inr (opn t k r u)) = R
  refine aw_aload_n dX2_openBlock_0 rfl rfl ⟨by decide, by decide⟩ ?_
  refine aw_bipush dX2_openBlock_1 (by decide) ⟨by decide, by decide⟩ ?_
  refine aw_cV1v dX2_openBlock_3 ml_RX2_110 (by assumption) (by decide) rfl rfl ⟨by decide, by decide, by decide, by decide⟩ (Nat.le_of_ble_eq_true rfl) (sp_creadSign hK0.1 M h.1 123) (fun M1 hM1 => ?_)
  obtain ⟨a1, b1, f1⟩ := sgB hK0 h hM1
  rcases hq : pSg X 123 s with e | t
  · have hD := a1 e hq
    rw [hq] at hr
    obtain ⟨⟨p1, g1⟩, n1, d4, d6, dp0, n5, n6⟩ := id hD
    have v24 : az_up M1 (rd + 8) s.2.1 (M1 sc 5) rd 6 = s.2.1 := by rw [up_oth _ _ _ (by omega)]; exact d6
    have u33 : az_up (az_up M1 (rd + 8) s.2.1 (M1 sc 5)) rd 6 (s.2.1 + 1) rd 4 = sc := by rw [az_up_i _ _ _ _ (by omega), up_oth _ _ _ (by omega)]; exact d4
    have h2 : DD (az_up (az_up M1 (rd + 8) s.2.1 (M1 sc 5)) rd 6 (s.2.1 + 1)) rd tp sc X e (s.2.1 + 1) := ⟨⟨p1, g1.fr (by omega) (fun j hj => by rw [az_up_i _ _ _ _ hj, up_oth _ _ _ (by omega)]) (by rw [up_oth _ _ _ (by omega), up_oth _ _ _ (by omega)])⟩, n1, u33, az_up_s _ _ _ _, by omega, by rw [up_oth _ _ _ (by omega), up_oth _ _ _ (by omega)]; exact n5, by rw [up_oth _ _ _ (by omega), up_oth _ _ _ (by omega)]; exact n6⟩
    have f2 : frC M1 (az_up (az_up M1 (rd + 8) s.2.1 (M1 sc 5)) rd 6 (s.2.1 + 1)) rd sc := ⟨fun b b1 b2 b3 => by rw [up_oth _ _ _ b1, up_oth _ _ _ b2], by rw [az_up_i _ _ _ _ (by omega), up_oth _ _ _ (by omega)], by rw [az_up_i _ _ _ _ (by omega), up_oth _ _ _ (by omega)], by rw [az_up_i _ _ _ _ (by omega), up_oth _ _ _ (by omega)]⟩
    refine aw_aload_n dX2_openBlock_6 rfl rfl ⟨by decide, by decide⟩ ?_
    refine aw_gzF 5 dX2_openBlock_7 fl_RX2_32 (by assumption) rfl rfl (by assumption) ?_
    refine aw_aload_n dX2_openBlock_10 rfl rfl ⟨by decide, by decide⟩ ?_
    refine aw_gi 6 dX2_openBlock_11 fl_RX2_35 (by assumption) rfl rfl d6 ?_
    refine aw_aload_n dX2_openBlock_14 rfl rfl ⟨by decide, by decide⟩ ?_
    refine aw_gr 4 dX2_openBlock_15 fl_RX2_28 (by assumption) rfl rfl d4 ?_
    refine aw_gi 5 dX2_openBlock_18 fl_RX2_44 (by assumption) rfl rfl rfl ?_
    refine aw_iast dX2_openBlock_21 (by assumption) (by omega) (by omega) ?_
    refine aw_aload_n dX2_openBlock_22 rfl rfl ⟨by decide, by decide⟩ ?_
    refine aw_dup dX2_openBlock_23 ?_
    refine aw_gi 6 dX2_openBlock_24 fl_RX2_35 (by assumption) rfl rfl v24 ?_
    refine aw_iconst dX2_openBlock_27 rfl ⟨by decide, by decide⟩ ?_
    refine aw_iadd dX2_openBlock_28 (az_wr_id (by omega) (by omega)) ?_
    refine aw_pi 6 dX2_openBlock_29 fl_RX2_35 (by assumption) rfl rfl ?_
    generalize az_up (az_up M1 (rd + 8) s.2.1 (M1 sc 5)) rd 6 (s.2.1 + 1) = M2 at u33 h2 f2 ⊢
    refine aw_aload_n dX2_openBlock_32 rfl rfl ⟨by decide, by decide⟩ ?_
    refine aw_gr 4 dX2_openBlock_33 fl_RX2_28 (by assumption) rfl rfl u33 ?_
    refine aw_iload_n dX2_openBlock_36 rfl rfl ?_
    refine aw_iload_n dX2_openBlock_37 rfl rfl ?_
    refine aw_iconst dX2_openBlock_38 rfl ⟨by decide, by decide⟩ ?_
    refine aw_iload_n dX2_openBlock_39 rfl rfl ?_
    refine aw_cV4v dX2_openBlock_40 ml_RX2_114 (by assumption) (by decide) rfl rfl ⟨by decide, by decide, by decide, by decide⟩ (Nat.le_of_ble_eq_true rfl) (sp_add hSc0 M2 (M2 sc 5) rfl h2.2.2.2.2.2.1 h2.2.2.2.2.2.2 k r (-1) u) (fun M3 hM3 => ?_)
    obtain ⟨h3, f3⟩ := h2.add hK0 hM3
    exact aw_vret dX2_openBlock_43 (by decide) (by decide) ⟨rfl, rfl, CO.l hr.symm h3 (by omega) (f1.trans (f2.trans f3))⟩
  · have hL := b1 t hq
    obtain ⟨et, -⟩ := pSg_r hq
    rw [hq] at hr
    subst et
    replace hr : Sum.inr (opn (adv X s) k r u) = R := hr
    obtain ⟨g1, d4, d6, n5, rI, rO, dpb, nb⟩ := id hL
    have d6' : M1 rd 6 = s.2.1 := d6
    have n5' : M1 sc 5 = s.2.2.1 := n5
    have v24 : az_up M1 (rd + 8) s.2.1 s.2.2.1 rd 6 = s.2.1 := by rw [up_oth _ _ _ (by omega)]; exact d6'
    have u33 : az_up (az_up M1 (rd + 8) s.2.1 s.2.2.1) rd 6 (s.2.1 + 1) rd 4 = sc := by rw [az_up_i _ _ _ _ (by omega), up_oth _ _ _ (by omega)]; exact d4
    have e5 : az_up (az_up M1 (rd + 8) s.2.1 s.2.2.1) rd 6 (s.2.1 + 1) sc 5 = s.2.2.1 := by rw [up_oth _ _ _ (by omega), up_oth _ _ _ (by omega)]; exact n5'
    have dp0 : 0 ≤ s.2.1 := dpb.1
    have n0 : 0 ≤ s.2.2.1 := nb.1
    have h2 : LV (az_up (az_up M1 (rd + 8) s.2.1 s.2.2.1) rd 6 (s.2.1 + 1)) rd tp sc X (opb (adv X s)) := by
      refine ⟨g1.fr (by omega) (fun j hj => by rw [az_up_i _ _ _ _ hj, up_oth _ _ _ (by omega)]) (by rw [up_oth _ _ _ (by omega), up_oth _ _ _ (by omega)]), u33, az_up_s _ _ _ _, e5, fun i i0 i1 => ?_, fun q q0 q1 => ?_, ⟨?_, ?_⟩, nb⟩
      · have := rI i i0 i1
        unfold clsI at this ⊢
        rw [up_oth _ _ _ (by omega), up_oth _ _ _ (by omega), up_oth _ _ _ (by omega), up_oth _ _ _ (by omega), up_oth _ _ _ (by omega), up_oth _ _ _ (by omega), up_oth _ _ _ (by omega), up_oth _ _ _ (by omega), up_oth _ _ _ (by omega), up_oth _ _ _ (by omega)]
        exact this
      · have q1' : q < s.2.1 + 1 := q1
        rw [up_oth _ _ _ (by omega), up_row]
        show (if q = s.2.1 then s.2.2.1 else M1 (rd + 8) q) = (if q = s.2.1 then s.2.2.1 else s.2.2.2.2 q)
        by_cases w : q = s.2.1
        · rw [if_pos w, if_pos w]
        · rw [if_neg w, if_neg w]; exact rO q q0 (by show q < s.2.1; omega)
      · show 0 ≤ s.2.1 + 1
        omega
      · show s.2.1 + 1 ≤ 4
        omega
    have f2 : frC M1 (az_up (az_up M1 (rd + 8) s.2.1 s.2.2.1) rd 6 (s.2.1 + 1)) rd sc := ⟨fun b b1 b2 b3 => by rw [up_oth _ _ _ b1, up_oth _ _ _ b2], by rw [az_up_i _ _ _ _ (by omega), up_oth _ _ _ (by omega)], by rw [az_up_i _ _ _ _ (by omega), up_oth _ _ _ (by omega)], by rw [az_up_i _ _ _ _ (by omega), up_oth _ _ _ (by omega)]⟩
    refine aw_aload_n dX2_openBlock_6 rfl rfl ⟨by decide, by decide⟩ ?_
    refine aw_gzF 5 dX2_openBlock_7 fl_RX2_32 (by assumption) rfl rfl (by assumption) ?_
    refine aw_aload_n dX2_openBlock_10 rfl rfl ⟨by decide, by decide⟩ ?_
    refine aw_gi 6 dX2_openBlock_11 fl_RX2_35 (by assumption) rfl rfl d6' ?_
    refine aw_aload_n dX2_openBlock_14 rfl rfl ⟨by decide, by decide⟩ ?_
    refine aw_gr 4 dX2_openBlock_15 fl_RX2_28 (by assumption) rfl rfl d4 ?_
    refine aw_gi 5 dX2_openBlock_18 fl_RX2_44 (by assumption) rfl rfl n5' ?_
    refine aw_iast dX2_openBlock_21 (by assumption) (by omega) (by omega) ?_
    refine aw_aload_n dX2_openBlock_22 rfl rfl ⟨by decide, by decide⟩ ?_
    refine aw_dup dX2_openBlock_23 ?_
    refine aw_gi 6 dX2_openBlock_24 fl_RX2_35 (by assumption) rfl rfl v24 ?_
    refine aw_iconst dX2_openBlock_27 rfl ⟨by decide, by decide⟩ ?_
    refine aw_iadd dX2_openBlock_28 (az_wr_id (by omega) (by omega)) ?_
    refine aw_pi 6 dX2_openBlock_29 fl_RX2_35 (by assumption) rfl rfl ?_
    generalize az_up (az_up M1 (rd + 8) s.2.1 s.2.2.1) rd 6 (s.2.1 + 1) = M2 at u33 h2 f2 e5 ⊢
    refine aw_aload_n dX2_openBlock_32 rfl rfl ⟨by decide, by decide⟩ ?_
    refine aw_gr 4 dX2_openBlock_33 fl_RX2_28 (by assumption) rfl rfl u33 ?_
    refine aw_iload_n dX2_openBlock_36 rfl rfl ?_
    refine aw_iload_n dX2_openBlock_37 rfl rfl ?_
    refine aw_iconst dX2_openBlock_38 rfl ⟨by decide, by decide⟩ ?_
    refine aw_iload_n dX2_openBlock_39 rfl rfl ?_
    refine aw_cV4v dX2_openBlock_40 ml_RX2_114 (by assumption) (by decide) rfl rfl ⟨by decide, by decide, by decide, by decide⟩ (Nat.le_of_ble_eq_true rfl) (sp_add hSc0 M2 s.2.2.1 e5 n0 (by omega) k r (-1) u) (fun M3 hM3 => ?_)
    have hA := hM3.1 (by omega)
    exact aw_vret dX2_openBlock_43 (by decide) (by decide) ⟨rfl, rfl, CO.r hr.symm (LV.add hK0 h2 hn hA) (f1.trans (f2.trans (frC.add hK0 hA)))⟩
set_option maxHeartbeats 1000000 in
theorem sp_readValueD (hK : RdK K rd tp sc) (M : az_M) (h : DD M rd tp sc X e dp) (rt : Int) : AM yX2_readValue cX2_readValue 3 none 6 0 0 [(1, rd), (0, rt)] K M (qv K (fun M' => DD M' rd tp sc X e dp ∧ frC M M' rd sc)) := by
  have hK0 := hK
  obtain ⟨⟨kr, k8, kt, y5, hs⟩, hSc, hd, ht⟩ := hK
  have hSc0 := hSc
  obtain ⟨s0, s1, s2, s3, s4, s5, x0, x1, x2, x3, x4⟩ := hSc
  refine am_of (by decide) (Nat.le_of_ble_eq_true rfl) (L := [(1, rd), (0, rt), (9, 0)]) rfl ?_
  obtain ⟨p, hg⟩ := h.1
  refine aw_aload_n dX2_readValue_0 rfl rfl ⟨by decide, by decide⟩ ?_
  refine aw_ldcS (i := 4) dX2_readValue_1 (by decide) rfl rfl ?_
  refine aw_cV1i dX2_readValue_3 ml_RX2_91 (by assumption) (by decide) rfl rfl ⟨by decide, by decide, by decide, by decide⟩ (Nat.le_of_ble_eq_true rfl) (sp_cisWord hK0.1 M hg 4 (by omega) (by omega)) (fun z1 M1 hz1 => ?_)
  obtain ⟨tz, eM⟩ := hz1
  subst eM
  refine aw_if_eq (tgt := 31) dX2_readValue_6 rfl (fun h6 => ?_) (fun h6 => ?_)
  · refine aw_aload_n dX2_readValue_31 rfl rfl ⟨by decide, by decide⟩ ?_
    refine aw_iconst dX2_readValue_32 rfl ⟨by decide, by decide⟩ ?_
    refine aw_cV1i dX2_readValue_33 ml_RX2_122 (by assumption) (by decide) rfl rfl ⟨by decide, by decide, by decide, by decide⟩ (Nat.le_of_ble_eq_true rfl) (sp_creadRoot hK0.1 M1 hg 1 (Or.inr rfl)) (fun z2 M2 hz2 => ?_)
    refine aw_istore_n dX2_readValue_36 rfl (by decide) ?_
    obtain ⟨h2, f2⟩ := rnD hK0 h hz2
    have last : ∀ M3 : az_M, DD M3 rd tp sc X e dp → frC M1 M3 rd sc → AW az_P0 (az_Z (qv K (fun M' => DD M' rd tp sc X e dp ∧ frC M1 M' rd sc)) 0 0) (az_rm 6 0 0) yX2_readValue cX2_readValue 3 none 0 0 75 [(1, rd), (0, rt), (0, z2)] [] K M3 := by
      intro M3 h3 f3
      refine aw_aload_n dX2_readValue_75 rfl rfl ⟨by decide, by decide⟩ ?_
      refine aw_gr 4 dX2_readValue_76 fl_RX2_28 (by assumption) rfl rfl h3.2.2.1 ?_
      refine aw_iconst dX2_readValue_79 rfl ⟨by decide, by decide⟩ ?_
      refine aw_iload_n dX2_readValue_80 rfl rfl ?_
      refine aw_iload_n dX2_readValue_81 rfl rfl ?_
      refine aw_iconst dX2_readValue_82 rfl ⟨by decide, by decide⟩ ?_
      refine aw_cV4v dX2_readValue_83 ml_RX2_114 (by assumption) (by decide) rfl rfl ⟨by decide, by decide, by decide, by decide⟩ (Nat.le_of_ble_eq_true rfl) (sp_add hSc0 M3 (M3 sc 5) rfl h3.2.2.2.2.2.1 h3.2.2.2.2.2.2 1 rt z2 0) (fun M4 hM4 => ?_)
      obtain ⟨h4, f4⟩ := h3.add hK0 hM4
      exact aw_vret dX2_readValue_86 (by decide) (by decide) ⟨rfl, rfl, h4, f3.trans f4⟩
    refine aw_iload_n dX2_readValue_37 rfl rfl ?_
    refine aw_iconst dX2_readValue_38 rfl ⟨by decide, by decide⟩ ?_
    refine aw_icmp_eq (tgt := 75) dX2_readValue_39 rfl (fun h39 => ?_) (fun h39 => ?_)
    · exact last M2 h2 f2
    · obtain ⟨p2, hg2⟩ := h2.1
      refine aw_aload_n dX2_readValue_42 rfl rfl ⟨by decide, by decide⟩ ?_
      refine aw_bipush dX2_readValue_43 (by decide) ⟨by decide, by decide⟩ ?_
      refine aw_cV1p dX2_readValue_45 ml_RX2_50 (by assumption) (by decide) rfl rfl ⟨by decide, by decide, by decide, by decide⟩ (Nat.le_of_ble_eq_true rfl) (sp_cisSign hK0.1 M2 hg2 46) ?_
      refine aw_if_eq (tgt := 75) dX2_readValue_48 rfl (fun h48 => ?_) (fun h48 => ?_)
      · exact last M2 h2 f2
      · refine aw_aload_n dX2_readValue_51 rfl rfl ⟨by decide, by decide⟩ ?_
        refine aw_cV0v dX2_readValue_52 ml_RX2_47 (by assumption) (by decide) rfl rfl ⟨by decide, by decide, by decide, by decide⟩ (Nat.le_of_ble_eq_true rfl) (sp_advG hK0.1 M2 hg2) (fun M3 hM3 => ?_)
        have ha := hg2.adv hK0.1 hM3
        have h3 := h2.leaf hK0 ha.1 ha.2
        obtain ⟨p3, hg3⟩ := h3.1
        refine aw_aload_n dX2_readValue_55 rfl rfl ⟨by decide, by decide⟩ ?_
        refine aw_gr 4 dX2_readValue_56 fl_RX2_28 (by assumption) rfl rfl h3.2.2.1 ?_
        refine aw_iconst dX2_readValue_59 rfl ⟨by decide, by decide⟩ ?_
        refine aw_iload_n dX2_readValue_60 rfl rfl ?_
        refine aw_iload_n dX2_readValue_61 rfl rfl ?_
        refine aw_aload_n dX2_readValue_62 rfl rfl ⟨by decide, by decide⟩ ?_
        refine aw_iconst dX2_readValue_63 rfl ⟨by decide, by decide⟩ ?_
        refine aw_bipush dX2_readValue_64 (by decide) ⟨by decide, by decide⟩ ?_
        refine aw_cV2i dX2_readValue_66 ml_RX2_107 (by assumption) (by decide) rfl rfl ⟨by decide, by decide, by decide, by decide⟩ (Nat.le_of_ble_eq_true rfl) (sp_creadNumber hK0.1 M3 hg3 0 6 (by omega)) (fun z4 M4 hz4 => ?_)
        obtain ⟨h4, f4⟩ := numD hK0 h3 hz4
        refine aw_cV4v dX2_readValue_69 ml_RX2_114 (by assumption) (by decide) rfl rfl ⟨by decide, by decide, by decide, by decide⟩ (Nat.le_of_ble_eq_true rfl) (sp_add hSc0 M4 (M4 sc 5) rfl h4.2.2.2.2.2.1 h4.2.2.2.2.2.2 2 rt z2 z4) (fun M5 hM5 => ?_)
        obtain ⟨h5, f5⟩ := h4.add hK0 hM5
        refine aw_goto (tgt := 86) dX2_readValue_72 rfl ?_
        exact aw_vret dX2_readValue_86 (by decide) (by decide) ⟨rfl, rfl, h5, f2.trans ((frC.ofL ha.2).trans (f4.trans f5))⟩
  · refine aw_aload_n dX2_readValue_9 rfl rfl ⟨by decide, by decide⟩ ?_
    refine aw_cV0v dX2_readValue_10 ml_RX2_47 (by assumption) (by decide) rfl rfl ⟨by decide, by decide, by decide, by decide⟩ (Nat.le_of_ble_eq_true rfl) (sp_advG hK0.1 M1 hg) (fun M3 hM3 => ?_)
    have ha := hg.adv hK0.1 hM3
    have h3 := h.leaf hK0 ha.1 ha.2
    obtain ⟨p3, hg3⟩ := h3.1
    refine aw_aload_n dX2_readValue_13 rfl rfl ⟨by decide, by decide⟩ ?_
    refine aw_gr 4 dX2_readValue_14 fl_RX2_28 (by assumption) rfl rfl h3.2.2.1 ?_
    refine aw_iconst dX2_readValue_17 rfl ⟨by decide, by decide⟩ ?_
    refine aw_iload_n dX2_readValue_18 rfl rfl ?_
    refine aw_iconst dX2_readValue_19 rfl ⟨by decide, by decide⟩ ?_
    refine aw_aload_n dX2_readValue_20 rfl rfl ⟨by decide, by decide⟩ ?_
    refine aw_iconst dX2_readValue_21 rfl ⟨by decide, by decide⟩ ?_
    refine aw_bipush dX2_readValue_22 (by decide) ⟨by decide, by decide⟩ ?_
    refine aw_cV2i dX2_readValue_24 ml_RX2_107 (by assumption) (by decide) rfl rfl ⟨by decide, by decide, by decide, by decide⟩ (Nat.le_of_ble_eq_true rfl) (sp_creadNumber hK0.1 M3 hg3 0 7 (by omega)) (fun z4 M4 hz4 => ?_)
    obtain ⟨h4, f4⟩ := numD hK0 h3 hz4
    refine aw_cV4v dX2_readValue_27 ml_RX2_114 (by assumption) (by decide) rfl rfl ⟨by decide, by decide, by decide, by decide⟩ (Nat.le_of_ble_eq_true rfl) (sp_add hSc0 M4 (M4 sc 5) rfl h4.2.2.2.2.2.1 h4.2.2.2.2.2.2 0 rt (-1) z4) (fun M5 hM5 => ?_)
    obtain ⟨h5, f5⟩ := h4.add hK0 hM5
    exact aw_vret dX2_readValue_30 (by decide) (by decide) ⟨rfl, rfl, h5, (frC.ofL ha.2).trans (f4.trans f5)⟩
set_option maxHeartbeats 1000000 in
theorem sp_readValue (hK : RdK K rd tp sc) (M : az_M) (h : LV M rd tp sc X s) (hn : s.2.2.1 ≤ 39) (rt : Int) : AM yX2_readValue cX2_readValue 3 none 6 0 0 [(1, rd), (0, rt)] K M (qv K (fun M' => CO M M' rd tp sc X (pNmg X rt s))) := by
  have hK0 := hK
  obtain ⟨⟨kr, k8, kt, y5, hs⟩, hSc, hd, ht⟩ := hK
  have hSc0 := hSc
  obtain ⟨s0, s1, s2, s3, s4, s5, x0, x1, x2, x3, x4⟩ := hSc
  refine am_of (by decide) (Nat.le_of_ble_eq_true rfl) (L := [(1, rd), (0, rt), (9, 0)]) rfl ?_
  have hw := w_new (X := X) h.1.2.1.2
  have n0 := h.2.2.2.2.2.2.2.1
  have dp4 := h.2.2.2.2.2.2.1
  generalize hr : pNmg X rt s = R
  unfold pNmg at hr
  refine aw_aload_n dX2_readValue_0 rfl rfl ⟨by decide, by decide⟩ ?_
  refine aw_ldcS (i := 4) dX2_readValue_1 (by decide) rfl rfl ?_
  refine aw_cV1i dX2_readValue_3 ml_RX2_91 (by assumption) (by decide) rfl rfl ⟨by decide, by decide, by decide, by decide⟩ (Nat.le_of_ble_eq_true rfl) (sp_cisWord hK0.1 M h.1 4 (by omega) (by omega)) (fun z1 M1 hz1 => ?_)
  obtain ⟨tz, eM⟩ := hz1
  subst eM
  refine aw_if_eq (tgt := 31) dX2_readValue_6 rfl (fun h6 => ?_) (fun h6 => ?_)
  · rw [if_neg (fun q => tv0 tz h6 (hw.mpr q))] at hr
    refine aw_aload_n dX2_readValue_31 rfl rfl ⟨by decide, by decide⟩ ?_
    refine aw_iconst dX2_readValue_32 rfl ⟨by decide, by decide⟩ ?_
    refine aw_cV1i dX2_readValue_33 ml_RX2_122 (by assumption) (by decide) rfl rfl ⟨by decide, by decide, by decide, by decide⟩ (Nat.le_of_ble_eq_true rfl) (sp_creadRoot hK0.1 M1 h.1 1 (Or.inr rfl)) (fun z2 M2 hz2 => ?_)
    refine aw_istore_n dX2_readValue_36 rfl (by decide) ?_
    obtain ⟨a2, b2, f2⟩ := rnB hK0 h hz2
    rcases hq : pRn X s with e | b
    · have h2 := a2 e hq
      rw [hq] at hr
      have last : ∀ M3 : az_M, DD M3 rd tp sc X e s.2.1 → frC M1 M3 rd sc → AW az_P0 (az_Z (qv K (fun M' => CO M1 M' rd tp sc X R)) 0 0) (az_rm 6 0 0) yX2_readValue cX2_readValue 3 none 0 0 75 [(1, rd), (0, rt), (0, z2)] [] K M3 := by
        intro M3 h3 f3
        refine aw_aload_n dX2_readValue_75 rfl rfl ⟨by decide, by decide⟩ ?_
        refine aw_gr 4 dX2_readValue_76 fl_RX2_28 (by assumption) rfl rfl h3.2.2.1 ?_
        refine aw_iconst dX2_readValue_79 rfl ⟨by decide, by decide⟩ ?_
        refine aw_iload_n dX2_readValue_80 rfl rfl ?_
        refine aw_iload_n dX2_readValue_81 rfl rfl ?_
        refine aw_iconst dX2_readValue_82 rfl ⟨by decide, by decide⟩ ?_
        refine aw_cV4v dX2_readValue_83 ml_RX2_114 (by assumption) (by decide) rfl rfl ⟨by decide, by decide, by decide, by decide⟩ (Nat.le_of_ble_eq_true rfl) (sp_add hSc0 M3 (M3 sc 5) rfl h3.2.2.2.2.2.1 h3.2.2.2.2.2.2 1 rt z2 0) (fun M4 hM4 => ?_)
        obtain ⟨h4, f4⟩ := h3.add hK0 hM4
        exact aw_vret dX2_readValue_86 (by decide) (by decide) ⟨rfl, rfl, CO.l hr.symm h4 dp4.2 (f3.trans f4)⟩
      refine aw_iload_n dX2_readValue_37 rfl rfl ?_
      refine aw_iconst dX2_readValue_38 rfl ⟨by decide, by decide⟩ ?_
      refine aw_icmp_eq (tgt := 75) dX2_readValue_39 rfl (fun h39 => ?_) (fun h39 => ?_)
      · exact last M2 h2 f2
      · obtain ⟨p2, hg2⟩ := h2.1
        refine aw_aload_n dX2_readValue_42 rfl rfl ⟨by decide, by decide⟩ ?_
        refine aw_bipush dX2_readValue_43 (by decide) ⟨by decide, by decide⟩ ?_
        refine aw_cV1p dX2_readValue_45 ml_RX2_50 (by assumption) (by decide) rfl rfl ⟨by decide, by decide, by decide, by decide⟩ (Nat.le_of_ble_eq_true rfl) (sp_cisSign hK0.1 M2 hg2 46) ?_
        refine aw_if_eq (tgt := 75) dX2_readValue_48 rfl (fun h48 => ?_) (fun h48 => ?_)
        · exact last M2 h2 f2
        · refine aw_aload_n dX2_readValue_51 rfl rfl ⟨by decide, by decide⟩ ?_
          refine aw_cV0v dX2_readValue_52 ml_RX2_47 (by assumption) (by decide) rfl rfl ⟨by decide, by decide, by decide, by decide⟩ (Nat.le_of_ble_eq_true rfl) (sp_advG hK0.1 M2 hg2) (fun M3 hM3 => ?_)
          have ha := hg2.adv hK0.1 hM3
          have h3 := h2.leaf hK0 ha.1 ha.2
          obtain ⟨p3, hg3⟩ := h3.1
          refine aw_aload_n dX2_readValue_55 rfl rfl ⟨by decide, by decide⟩ ?_
          refine aw_gr 4 dX2_readValue_56 fl_RX2_28 (by assumption) rfl rfl h3.2.2.1 ?_
          refine aw_iconst dX2_readValue_59 rfl ⟨by decide, by decide⟩ ?_
          refine aw_iload_n dX2_readValue_60 rfl rfl ?_
          refine aw_iload_n dX2_readValue_61 rfl rfl ?_
          refine aw_aload_n dX2_readValue_62 rfl rfl ⟨by decide, by decide⟩ ?_
          refine aw_iconst dX2_readValue_63 rfl ⟨by decide, by decide⟩ ?_
          refine aw_bipush dX2_readValue_64 (by decide) ⟨by decide, by decide⟩ ?_
          refine aw_cV2i dX2_readValue_66 ml_RX2_107 (by assumption) (by decide) rfl rfl ⟨by decide, by decide, by decide, by decide⟩ (Nat.le_of_ble_eq_true rfl) (sp_creadNumber hK0.1 M3 hg3 0 6 (by omega)) (fun z4 M4 hz4 => ?_)
          obtain ⟨h4, f4⟩ := numD hK0 h3 hz4
          refine aw_cV4v dX2_readValue_69 ml_RX2_114 (by assumption) (by decide) rfl rfl ⟨by decide, by decide, by decide, by decide⟩ (Nat.le_of_ble_eq_true rfl) (sp_add hSc0 M4 (M4 sc 5) rfl h4.2.2.2.2.2.1 h4.2.2.2.2.2.2 2 rt z2 z4) (fun M5 hM5 => ?_)
          obtain ⟨h5, f5⟩ := h4.add hK0 hM5
          refine aw_goto (tgt := 86) dX2_readValue_72 rfl ?_
          exact aw_vret dX2_readValue_86 (by decide) (by decide) ⟨rfl, rfl, CO.l hr.symm h5 dp4.2 (f2.trans ((frC.ofL ha.2).trans (f4.trans f5)))⟩
    · obtain ⟨e2, hL⟩ := b2 b hq
      have hin := pRn_in hq
      rw [hq] at hr
      obtain ⟨b1, bs⟩ := b
      have hbs : bs = adv X s := hin.1
      subst hbs
      have hbi : b1 = -1 ∨ 0 ≤ b1 ∧ b1 < 6 := hin.2
      replace e2 : z2 = b1 := e2
      subst e2
      replace hL : LV M2 rd tp sc X (adv X s) := hL
      replace hr : (if z2 ≠ -1 ∧ isS X 46 (adv X s) then bd (pNm X 0 6 (adv X (adv X s))) (fun a => Sum.inr (addI a.2 2 rt z2 a.1)) else Sum.inr (addI (adv X s) 1 rt z2 0)) = R := hr
      have last : ¬ (z2 ≠ -1 ∧ isS X 46 (adv X s)) → AW az_P0 (az_Z (qv K (fun M' => CO M1 M' rd tp sc X R)) 0 0) (az_rm 6 0 0) yX2_readValue cX2_readValue 3 none 0 0 75 [(1, rd), (0, rt), (0, z2)] [] K M2 := by
        intro hno
        rw [if_neg hno] at hr
        refine aw_aload_n dX2_readValue_75 rfl rfl ⟨by decide, by decide⟩ ?_
        refine aw_gr 4 dX2_readValue_76 fl_RX2_28 (by assumption) rfl rfl hL.2.1 ?_
        refine aw_iconst dX2_readValue_79 rfl ⟨by decide, by decide⟩ ?_
        refine aw_iload_n dX2_readValue_80 rfl rfl ?_
        refine aw_iload_n dX2_readValue_81 rfl rfl ?_
        refine aw_iconst dX2_readValue_82 rfl ⟨by decide, by decide⟩ ?_
        refine aw_cV4v dX2_readValue_83 ml_RX2_114 (by assumption) (by decide) rfl rfl ⟨by decide, by decide, by decide, by decide⟩ (Nat.le_of_ble_eq_true rfl) (sp_add hSc0 M2 s.2.2.1 hL.2.2.2.1 n0 (by omega) 1 rt z2 0) (fun M4 hM4 => ?_)
        have hA := hM4.1 (by omega)
        exact aw_vret dX2_readValue_86 (by decide) (by decide) ⟨rfl, rfl, CO.r hr.symm (LV.add hK0 hL hn hA) (f2.trans (frC.add hK0 hA))⟩
      refine aw_iload_n dX2_readValue_37 rfl rfl ?_
      refine aw_iconst dX2_readValue_38 rfl ⟨by decide, by decide⟩ ?_
      refine aw_icmp_eq (tgt := 75) dX2_readValue_39 rfl (fun h39 => ?_) (fun h39 => ?_)
      · exact last (fun q => q.1 h39)
      · refine aw_aload_n dX2_readValue_42 rfl rfl ⟨by decide, by decide⟩ ?_
        refine aw_bipush dX2_readValue_43 (by decide) ⟨by decide, by decide⟩ ?_
        refine aw_cV1p dX2_readValue_45 ml_RX2_50 (by assumption) (by decide) rfl rfl ⟨by decide, by decide, by decide, by decide⟩ (Nat.le_of_ble_eq_true rfl) (sp_cisSign hK0.1 M2 hL.1 46) ?_
        refine aw_if_eq (tgt := 75) dX2_readValue_48 rfl (fun h48 => ?_) (fun h48 => ?_)
        · exact last (fun q => if0 h48 q.2)
        · rw [if_pos ⟨h39, if1 h48⟩] at hr
          refine aw_aload_n dX2_readValue_51 rfl rfl ⟨by decide, by decide⟩ ?_
          refine aw_cV0v dX2_readValue_52 ml_RX2_47 (by assumption) (by decide) rfl rfl ⟨by decide, by decide, by decide, by decide⟩ (Nat.le_of_ble_eq_true rfl) (sp_advG hK0.1 M2 hL.1) (fun M3 hM3 => ?_)
          have ha := hL.1.adv hK0.1 hM3
          have h3 : LV M3 rd tp sc X (adv X (adv X s)) := hL.leaf hK0 ha.1 ha.2
          refine aw_aload_n dX2_readValue_55 rfl rfl ⟨by decide, by decide⟩ ?_
          refine aw_gr 4 dX2_readValue_56 fl_RX2_28 (by assumption) rfl rfl h3.2.1 ?_
          refine aw_iconst dX2_readValue_59 rfl ⟨by decide, by decide⟩ ?_
          refine aw_iload_n dX2_readValue_60 rfl rfl ?_
          refine aw_iload_n dX2_readValue_61 rfl rfl ?_
          refine aw_aload_n dX2_readValue_62 rfl rfl ⟨by decide, by decide⟩ ?_
          refine aw_iconst dX2_readValue_63 rfl ⟨by decide, by decide⟩ ?_
          refine aw_bipush dX2_readValue_64 (by decide) ⟨by decide, by decide⟩ ?_
          refine aw_cV2i dX2_readValue_66 ml_RX2_107 (by assumption) (by decide) rfl rfl ⟨by decide, by decide, by decide, by decide⟩ (Nat.le_of_ble_eq_true rfl) (sp_creadNumber hK0.1 M3 h3.1 0 6 (by omega)) (fun z4 M4 hz4 => ?_)
          obtain ⟨a4, b4, f4⟩ := numB hK0 h3 hz4
          have f24 := f2.trans ((frC.ofL ha.2).trans f4)
          rcases hq2 : pNm X 0 6 (adv X (adv X s)) with e | a
          · have h4 := a4 e hq2
            rw [hq2] at hr
            refine aw_cV4v dX2_readValue_69 ml_RX2_114 (by assumption) (by decide) rfl rfl ⟨by decide, by decide, by decide, by decide⟩ (Nat.le_of_ble_eq_true rfl) (sp_add hSc0 M4 (M4 sc 5) rfl h4.2.2.2.2.2.1 h4.2.2.2.2.2.2 2 rt z2 z4) (fun M5 hM5 => ?_)
            obtain ⟨h5, f5⟩ := h4.add hK0 hM5
            refine aw_goto (tgt := 86) dX2_readValue_72 rfl ?_
            exact aw_vret dX2_readValue_86 (by decide) (by decide) ⟨rfl, rfl, CO.l hr.symm h5 dp4.2 (f24.trans f5)⟩
          · obtain ⟨e4, h4⟩ := b4 a hq2
            obtain ⟨ea, -⟩ := pNm_r hq2
            rw [hq2] at hr
            subst ea
            replace h4 : LV M4 rd tp sc X (adv X (adv X (adv X s))) := h4
            replace e4 : z4 = nm X (adv X (adv X s)).1 := e4
            subst e4
            refine aw_cV4v dX2_readValue_69 ml_RX2_114 (by assumption) (by decide) rfl rfl ⟨by decide, by decide, by decide, by decide⟩ (Nat.le_of_ble_eq_true rfl) (sp_add hSc0 M4 s.2.2.1 h4.2.2.2.1 n0 (by omega) 2 rt z2 (nm X (adv X (adv X s)).1)) (fun M5 hM5 => ?_)
            have hA := hM5.1 (by omega)
            refine aw_goto (tgt := 86) dX2_readValue_72 rfl ?_
            exact aw_vret dX2_readValue_86 (by decide) (by decide) ⟨rfl, rfl, CO.r hr.symm (LV.add hK0 h4 hn hA) (f24.trans (frC.add hK0 hA))⟩
  · rw [if_pos (hw.mp (tv1 tz h6))] at hr
    refine aw_aload_n dX2_readValue_9 rfl rfl ⟨by decide, by decide⟩ ?_
    refine aw_cV0v dX2_readValue_10 ml_RX2_47 (by assumption) (by decide) rfl rfl ⟨by decide, by decide, by decide, by decide⟩ (Nat.le_of_ble_eq_true rfl) (sp_advG hK0.1 M1 h.1) (fun M3 hM3 => ?_)
    have ha := h.1.adv hK0.1 hM3
    have h3 : LV M3 rd tp sc X (adv X s) := h.leaf hK0 ha.1 ha.2
    refine aw_aload_n dX2_readValue_13 rfl rfl ⟨by decide, by decide⟩ ?_
    refine aw_gr 4 dX2_readValue_14 fl_RX2_28 (by assumption) rfl rfl h3.2.1 ?_
    refine aw_iconst dX2_readValue_17 rfl ⟨by decide, by decide⟩ ?_
    refine aw_iload_n dX2_readValue_18 rfl rfl ?_
    refine aw_iconst dX2_readValue_19 rfl ⟨by decide, by decide⟩ ?_
    refine aw_aload_n dX2_readValue_20 rfl rfl ⟨by decide, by decide⟩ ?_
    refine aw_iconst dX2_readValue_21 rfl ⟨by decide, by decide⟩ ?_
    refine aw_bipush dX2_readValue_22 (by decide) ⟨by decide, by decide⟩ ?_
    refine aw_cV2i dX2_readValue_24 ml_RX2_107 (by assumption) (by decide) rfl rfl ⟨by decide, by decide, by decide, by decide⟩ (Nat.le_of_ble_eq_true rfl) (sp_creadNumber hK0.1 M3 h3.1 0 7 (by omega)) (fun z4 M4 hz4 => ?_)
    obtain ⟨a4, b4, f4⟩ := numB hK0 h3 hz4
    have f24 := (frC.ofL (sc := sc) ha.2).trans f4
    rcases hq2 : pNm X 0 7 (adv X s) with e | a
    · have h4 := a4 e hq2
      rw [hq2] at hr
      refine aw_cV4v dX2_readValue_27 ml_RX2_114 (by assumption) (by decide) rfl rfl ⟨by decide, by decide, by decide, by decide⟩ (Nat.le_of_ble_eq_true rfl) (sp_add hSc0 M4 (M4 sc 5) rfl h4.2.2.2.2.2.1 h4.2.2.2.2.2.2 0 rt (-1) z4) (fun M5 hM5 => ?_)
      obtain ⟨h5, f5⟩ := h4.add hK0 hM5
      exact aw_vret dX2_readValue_30 (by decide) (by decide) ⟨rfl, rfl, CO.l hr.symm h5 dp4.2 (f24.trans f5)⟩
    · obtain ⟨e4, h4⟩ := b4 a hq2
      obtain ⟨ea, -⟩ := pNm_r hq2
      rw [hq2] at hr
      subst ea
      replace h4 : LV M4 rd tp sc X (adv X (adv X s)) := h4
      replace e4 : z4 = nm X (adv X s).1 := e4
      subst e4
      refine aw_cV4v dX2_readValue_27 ml_RX2_114 (by assumption) (by decide) rfl rfl ⟨by decide, by decide, by decide, by decide⟩ (Nat.le_of_ble_eq_true rfl) (sp_add hSc0 M4 s.2.2.1 h4.2.2.2.1 n0 (by omega) 0 rt (-1) (nm X (adv X s).1)) (fun M5 hM5 => ?_)
      have hA := hM5.1 (by omega)
      exact aw_vret dX2_readValue_30 (by decide) (by decide) ⟨rfl, rfl, CO.r hr.symm (LV.add hK0 h4 hn hA) (f24.trans (frC.add hK0 hA))⟩
end CR2
