/-! TreadRingModel.goEnd -/
set_option maxRecDepth 20000
abbrev cP (g : Int → Int) (rg : Int → List Int) (k f i : Int) : Prop := lc (gAf g rg) (i - 256) ∧ ((i - 256) - (i - 256) % pz g (i - 256) < k ∨ (i - 256) - (i - 256) % pz g (i - 256) = k ∧ (i - 256) % pz g (i - 256) ≤ f)
def eQ (g : Int → Int) (rg : Int → List Int) (q k f lo cl : Int) : Int → Int := fun i =>
  if i < 256 then g i
  else if i < 384 then (if cP g rg k f i ∧ eI g (g i) = 1 then -1 else g i)
  else if 715 ≤ i ∧ i < 725 then (if i < 715 + q ∧ eI g (g i) = 1 then -1 else g i)
  else if i = 726 then 0 else if i = 732 then lo else if i = 734 then cl else g i
section GE
variable {g : Int → Int} {rg : Int → List Int} {q k f lo cl : Int}
theorem eQ_lo {i : Int} (h : i < 256) : eQ g rg q k f lo cl i = g i := by unfold eQ; rw [if_pos h]
theorem eQ_ce {i : Int} (h : 256 ≤ i) (h2 : i < 384) : eQ g rg q k f lo cl i = if cP g rg k f i ∧ eI g (g i) = 1 then -1 else g i := by unfold eQ; rw [if_neg (by omega), if_pos h2]
theorem eQ_na {i : Int} (h : 715 ≤ i) (h2 : i < 725) : eQ g rg q k f lo cl i = if i < 715 + q ∧ eI g (g i) = 1 then -1 else g i := by unfold eQ; rw [if_neg (by omega), if_neg (by omega), if_pos ⟨h, h2⟩]
theorem eQ_hi {i : Int} (h : 384 ≤ i) (h2 : i < 715 ∨ 725 ≤ i) (h3 : i ≠ 726 ∧ i ≠ 732 ∧ i ≠ 734) : eQ g rg q k f lo cl i = g i := by unfold eQ; rw [if_neg (by omega), if_neg (by omega), if_neg (by omega), if_neg h3.1, if_neg h3.2.1, if_neg h3.2.2]
theorem eQ_lost : eQ g rg q k f lo cl 732 = lo := by unfold eQ; rw [if_neg (by omega), if_neg (by omega), if_neg (by omega), if_neg (by omega), if_pos rfl]
theorem eQ_clr : eQ g rg q k f lo cl 734 = cl := by unfold eQ; rw [if_neg (by omega), if_neg (by omega), if_neg (by omega), if_neg (by omega), if_neg (by omega), if_pos rfl]
theorem eQ_run : eQ g rg q k f lo cl 726 = 0 := by unfold eQ; rw [if_neg (by omega), if_neg (by omega), if_neg (by omega), if_pos rfl]
theorem eQ_oth {i : Int} (h : i < 256 ∨ 384 ≤ i) (k' f' : Int) : eQ g rg q k f lo cl i = eQ g rg q k' f' lo cl i := by
  unfold eQ
  by_cases e : i < 256
  · rw [if_pos e, if_pos e]
  · have e3 : ¬ i < 384 := by omega
    rw [if_neg e, if_neg e3, if_neg e, if_neg e3]
theorem eQ_lo2 {i : Int} (h : i ≠ 732) (lo' : Int) : eQ g rg q k f lo cl i = eQ g rg q k f lo' cl i := by
  unfold eQ
  rw [if_neg h, if_neg h]
theorem eQ_cl2 {i : Int} (h : i ≠ 734) (cl' : Int) : eQ g rg q k f lo cl i = eQ g rg q k f lo cl' i := by
  unfold eQ
  rw [if_neg h, if_neg h]
theorem eQ_q2 {i : Int} (h : i ≠ 715 + q) : eQ g rg q k f lo cl i = eQ g rg (q + 1) k f lo cl i := by
  by_cases e : 715 ≤ i ∧ i < 725
  · rw [eQ_na e.1 e.2, eQ_na e.1 e.2]
    by_cases c : i < 715 + q ∧ eI g (g i) = 1
    · rw [if_pos c, if_pos ⟨by omega, c.2⟩]
    · rw [if_neg c, if_neg (fun w => c ⟨by omega, w.2⟩)]
  · unfold eQ
    rw [if_neg e, if_neg e]
theorem eQ_pg (h : w_pg g) : w_pg (eQ g rg q k f lo cl) := by
  refine ⟨by rw [eQ_hi (by omega) (by omega) (by omega)]; exact h.1, by rw [eQ_hi (by omega) (by omega) (by omega)]; exact h.2.1, fun p p0 p1 => ?_⟩
  rw [eQ_hi (i := 725) (by omega) (by omega) (by omega), eQ_hi (by omega) (by omega) (by omega)]
  exact h.2.2 p p0 p1
theorem eQ_sl (a : Int) : sl (eQ g rg q k f lo cl) a ↔ sl g a := by
  unfold sl pz
  constructor
  · rintro ⟨q0, q1, q2⟩
    rw [eQ_hi (by omega) (by omega) (by omega)] at q2
    exact ⟨q0, q1, q2⟩
  · rintro ⟨q0, q1, q2⟩
    rw [eQ_hi (by omega) (by omega) (by omega)]
    exact ⟨q0, q1, q2⟩
theorem eQ_col (h : w_col g) : w_col (eQ g rg q k f lo cl) := by
  intro a a0 a1
  rw [eQ_sl, eQ_lo (by omega)]
  exact h a a0 a1
end GE
theorem endG_741 (g : Int → Int) (rg : Int → List Int) : endG g rg 741 = if g 741 < 16 then g 741 + 1 else g 741 := by
  unfold endG
  rw [if_neg (by omega), if_neg (by omega), if_neg (by omega), if_neg (by omega), if_neg (by omega), if_neg (by omega), if_neg (by omega), if_pos rfl]
theorem endG_T (g : Int → Int) (rg : Int → List Int) {i : Int} (h : 742 ≤ i) : endG g rg i = if i = 742 then az_wr (g 730 - g 740) else if i = 743 then ((rg 1).length : Int) + ((rg 5).length : Int) + ((rg 9).length : Int) else if i = 744 then obN (rgE rg) else if 745 ≤ i ∧ i < 790 then g (i - 3) else g i := by
  unfold endG
  rw [if_neg (by omega), if_neg (by omega), if_neg (by omega), if_neg (by omega), if_neg (by omega), if_neg (by omega), if_neg (by omega), if_neg (by omega)]
theorem eI_wr (x n e : Int) (he : e = 0 ∨ e = 1) : (if e = 1 then az_wr (az_wr (x + n) + 1) else az_wr (x + n)) = az_wr (x + (n + e)) := by
  rcases he with rfl | rfl
  · rw [if_neg (by omega), Int.add_zero]
  · rw [if_pos rfl, az_wr_add]
    congr 1
    omega
theorem eI_01 (g : Int → Int) (v : Int) : eI g v = 0 ∨ eI g v = 1 := by unfold eI; split <;> omega
theorem rL_rgE {rg : Int → List Int} {k : Int} (hk : k = 0 ∨ k = 4 ∨ k = 8) (h2 : rg (k + 2) = []) : rL (rgE rg) k = rL rg k := by
  rw [rL_eq, rL_eq, rgE_at rg (k := k) (by omega) (by omega), rgE_at rg (k := k + 1) (by omega) (by omega), rgE_at rg (k := k + 2) (by omega) (by omega), rgE_at rg (k := k + 3) (by omega) (by omega)]
  rw [if_pos (by omega), if_neg (by omega), if_pos (by omega), if_neg (by omega), if_neg (by omega), if_neg (by omega), if_neg (by omega), h2]
  simp
theorem no_grey {S : hSt} (h : WS S) (hg : S.2.2 = []) (hn : S.1 727 = -1) : (∀ a, 0 ≤ a → a < 128 → S.1 a ≠ 2) ∧ ∀ k, (k = 0 ∨ k = 4 ∨ k = 8) → S.2.1 (k + 2) = [] := by
  have h1 : ∀ a, 0 ≤ a → a < 128 → S.1 a ≠ 2 := by
    intro a a0 a1 e
    have hs : sl S.1 a := by
      rcases sl_dec S.1 a with q | q
      · exact q
      · have := (h.2.1 a a0 a1).2.2 q; omega
    have := (h.2.2.2.2.2.1.2.2.2.1 a).mpr ⟨⟨hs, by omega⟩, e, by omega⟩
    rw [hg] at this
    cases this
  refine ⟨h1, fun k hk => ?_⟩
  cases hr : S.2.1 (k + 2) with
  | nil => rfl
  | cons n t =>
    have := WR_mem (WR_of h) (k := k + 2) (by omega) (by omega) (n := n) (by rw [hr]; exact List.mem_cons_self)
    exact absurd (by omega) (h1 (2 * n) (by omega) (by omega))
theorem base_sl {g : Int → Int} (hp : w_pg g) {j : Int} (j0 : 0 ≤ j) (j1 : j < 128) (hz : pz g j ≠ 0) : sl g (j - j % pz g j) ∧ pz g (j - j % pz g j) = pz g j := by
  obtain ⟨b1, b2, b3, b4⟩ := base_even hp j0 j1 hz
  have e : pz g (j - j % pz g j) = pz g j := by unfold pz at b3 ⊢; rw [b3]
  have hm : 0 ≤ j % pz g j := by
    rcases pz_in hp j0 j1 with q | q | q | q <;> rw [q] <;> omega
  exact ⟨⟨b2, by omega, by rw [e]; exact hz, by rw [e]; exact b4⟩, e⟩
theorem lc_iff {g : Int → Int} {rg : Int → List Int} (hw : WR g rg) {j : Int} (j0 : 0 ≤ j) (j1 : j < 128) : lc (gAf g rg) j ↔ pz g j ≠ 0 ∧ ob g (j - j % pz g j) ∧ g (j - j % pz g j) ≠ 1 ∧ 1 ≤ j % pz g j ∧ j % pz g j ≤ g (128 + (j - j % pz g j)) := by
  have hz := gAf_pz hw j0
  unfold lc
  rw [hz]
  constructor
  · rintro ⟨q1, q2, q3, q4⟩
    have hb := base_sl hw.1 j0 j1 q1
    have b0 := hb.1.1
    have b1 := hb.1.2.1
    rw [gAf_at hw b0 b1] at q2
    rw [gAf_fl hw b0 b1] at q4
    by_cases e : g (j - j % pz g j) = 1
    · rw [if_pos e] at q2; exact absurd rfl q2
    · rw [if_neg e] at q2 q4
      exact ⟨q1, ⟨hb.1, q2⟩, e, q3, q4⟩
  · rintro ⟨q1, q2, q3, q4, q5⟩
    have b0 := q2.1.1
    have b1 := q2.1.2.1
    rw [gAf_at hw b0 b1, gAf_fl hw b0 b1, if_neg q3, if_neg q3]
    exact ⟨q1, q2.2, q4, q5⟩
/-- one address further, where nothing is looked at -/
theorem cP_skip {g : Int → Int} {rg : Int → List Int} (hw : WR g rg) {a i : Int} (i0 : 256 ≤ i) (i1 : i < 384) (hn : ¬ (ob g a ∧ g a ≠ 1)) : cP g rg a 0 i ↔ cP g rg (a + 1) 0 i := by
  have hl := lc_iff hw (j := i - 256) (by omega) (by omega)
  constructor
  · rintro ⟨q1, q2⟩
    have := (hl.mp q1).2.2.2.1
    exact ⟨q1, by omega⟩
  · rintro ⟨q1, q2⟩
    have w := hl.mp q1
    have h1 := w.2.2.2.1
    refine ⟨q1, Or.inl ?_⟩
    have hne : i - 256 - (i - 256) % pz g (i - 256) ≠ a := fun e => hn (by rw [← e]; exact ⟨w.2.1, w.2.2.1⟩)
    omega
theorem cP_end {g : Int → Int} {rg : Int → List Int} (hw : WR g rg) {a i : Int} (i0 : 256 ≤ i) (i1 : i < 384) : cP g rg a (g (128 + a)) i ↔ cP g rg (a + 1) 0 i := by
  have hl := lc_iff hw (j := i - 256) (by omega) (by omega)
  constructor
  · rintro ⟨q1, q2⟩
    exact ⟨q1, by omega⟩
  · rintro ⟨q1, q2⟩
    have w := hl.mp q1
    have h1 := w.2.2.2.1
    refine ⟨q1, ?_⟩
    by_cases e : i - 256 - (i - 256) % pz g (i - 256) = a
    · refine Or.inr ⟨e, ?_⟩
      have h2 := w.2.2.2.2
      rw [e] at h2
      exact h2
    · exact Or.inl (by omega)
theorem cP_step {g : Int → Int} {rg : Int → List Int} {a f i : Int} (hne : i ≠ 257 + a + f) : cP g rg a f i ↔ cP g rg a (f + 1) i := by
  constructor
  · rintro ⟨q1, q2⟩
    exact ⟨q1, by omega⟩
  · rintro ⟨q1, q2⟩
    exact ⟨q1, by omega⟩
set_option maxHeartbeats 2000000 in
theorem sp_goEnd {K : az_K} {m : Int} (hK : MaK K m) (M : az_M) {S : hSt} (hc : HM M m S) (hw : WS S) (hg : S.2.2 = []) (hn : S.1 727 = -1) (hcy : S.1 729 ≤ 20000000) (hcz : 0 ≤ S.1 729) : AM yX7_goEnd cX7_goEnd 3 none 4 0 0 [(1, m)] K M (qv K (fun M' => HM M' m (endS S) ∧ ∀ x, x ≠ m + 1 → M' x = M x)) := by
  have hK0 := hK
  obtain ⟨km, k1, zz⟩ := hK
  refine am_of (by decide) (Nat.le_of_ble_eq_true rfl) (L := [(1, m), (9, 0), (9, 0)]) rfl ?_
  obtain ⟨ng1, ng2⟩ := no_grey hw hg hn
  have hS := endS_wf hw hg hn
  have h728 : S.1 728 = 0 := by
    rcases hw.2.2.2.2.2.1.2.2.2.2 with r | r
    · exact r.2
    · have := r.1.1.1; omega
  obtain ⟨g, rg, gl⟩ := S
  obtain ⟨hF, hR, hW⟩ := hc
  replace hF : mAll (M (m + 1)) g := hF
  replace hR : mRg (M (m + 1)) rg := hR
  replace hg : gl = [] := hg
  replace hn : g 727 = -1 := hn
  replace h728 : g 728 = 0 := h728
  replace ng1 : ∀ a, 0 ≤ a → a < 128 → g a ≠ 2 := ng1
  replace hcz : 0 ≤ g 729 := hcz
  replace hcy : g 729 ≤ 20000000 := hcy
  have hWR : WR g rg := WR_of hw
  have hp : w_pg g := hw.1
  have hcl : w_col g := hw.2.1
  have hfl : w_fld g := hw.2.2.2.1
  have hna : w_nam g := hw.2.2.2.2.1
  -- what a run of losses leaves
  let Post : Option az_V → az_K → az_M → Prop := qv K (fun M' => HM M' m (endS (g, rg, gl)) ∧ ∀ x, x ≠ m + 1 → M' x = M x)
  have eo : ∀ M1 : az_M, (∀ i, 384 ≤ i ∧ i < 707 ∨ i = 739 → M1 (m + 1) i = M (m + 1) i) → (∀ x, x ≠ m + 1 → M1 x = M x) → mAll (M1 (m + 1)) (eQ g rg 10 128 0 (az_wr (g 732 + (sumN 6 (fun r => eI g (g (715 + r))) + sumN 128 (lostO g rg)))) (az_wr (g 734 + sumN 4 (fun w => eI g (g (721 + w)))))) → ∀ x1 x2 : az_V, AW az_P0 (az_Z Post 0 0) (az_rm 4 0 0) yX7_goEnd cX7_goEnd 3 none 0 0 146 [(1, m), x1, x2] [] K M1 := by
    intro M1 o1 o2 hA x1 x2
    generalize hlo : az_wr (g 732 + (sumN 6 (fun r => eI g (g (715 + r))) + sumN 128 (lostO g rg))) = lo at hA
    generalize hclr : az_wr (g 734 + sumN 4 (fun w => eI g (g (721 + w)))) = cl at hA
    have hlo2 : lo = az_wr (g 732 + lostN g rg) := by
      rw [← hlo]
      congr 1
      have := sum_even (lostO g rg) 64 (fun j hj => by
        unfold lostO
        rw [if_neg]
        intro q
        rw [gAf_at hWR (by omega) (by omega)] at q
        have hz : g (2 * (j : Int) + 1) = 0 := by
          apply Classical.byContradiction
          intro w
          have hs : sl g (2 * (j : Int) + 1) := by
            rcases sl_dec g (2 * (j : Int) + 1) with s | s
            · exact s
            · exact absurd ((hcl _ (by omega) (by omega)).2.2 s) w
          have := (sl_even hp hs).1
          omega
        rw [hz] at q
        simp at q)
      have e : sumN 128 (lostO g rg) = sumN 64 (fun i => lostO g rg (2 * i)) := this
      unfold lostN
      rw [e]
      omega
    have hcl2 : cl = az_wr (g 734 + clrN g) := by rw [← hclr]; rfl
    refine aw_aload_n dX7_goEnd_146 rfl rfl ⟨by decide, by decide⟩ ?_
    refine aw_iconst dX7_goEnd_147 rfl ⟨by decide, by decide⟩ ?_
    refine aw_iconst dX7_goEnd_148 rfl ⟨by decide, by decide⟩ ?_
    refine aw_cV2i dX7_goEnd_149 ml_RX7_146 (by assumption) (by decide) rfl rfl ⟨by decide, by decide, by decide, by decide⟩ (Nat.le_of_ble_eq_true rfl) (sp_turnAll hK0 M1 (eQ_pg hp) (eQ_col hcl) hA 1 0 (by omega) (by omega)) (fun nf M2 hM2 => ?_)
    refine aw_istore_n dX7_goEnd_152 rfl (by decide) ?_
    obtain ⟨n1, n2, n3, n4⟩ := hM2
    have hnf : nf = colN rg 1 := by
      rw [n1, ← colA_row hWR (by omega) (by omega)]
      unfold colA
      refine sumN_congr 128 (fun i hi => ?_)
      show (if eQ g rg 10 128 0 lo cl i = 1 then (1 : Int) else 0) = if g i = 1 then 1 else 0
      rw [eQ_lo (by omega)]
    have v161 : M2 (m + 1) 729 = g 729 := by rw [n2 729 (by omega) (by omega) (by omega) (by omega), tC_hi _ _ _ _ (by omega), eQ_hi (by omega) (by omega) (by omega)]
    refine aw_aload_n dX7_goEnd_153 rfl rfl ⟨by decide, by decide⟩ ?_
    refine aw_gzF 0 dX7_goEnd_154 fl_RX7_7 (by assumption) rfl rfl (by assumption) ?_
    refine aw_sipush dX7_goEnd_157 (by decide) ⟨by decide, by decide⟩ ?_
    refine aw_dup2 dX7_goEnd_160 ?_
    refine aw_iv dX7_goEnd_161 (by assumption) (by omega) (by omega) v161 ?_
    refine aw_iconst dX7_goEnd_162 rfl ⟨by decide, by decide⟩ ?_
    refine aw_iadd dX7_goEnd_163 (az_wr_id (by omega) (by omega)) ?_
    refine aw_iast dX7_goEnd_164 (by assumption) (by omega) (by omega) ?_
    generalize hM3 : az_up M2 (m + 1) 729 (g 729 + 1) = M3
    have f3 : ∀ i, M3 (m + 1) i = if i = 729 then g 729 + 1 else M2 (m + 1) i := fun i => by rw [← hM3, up_row]
    have o3 : ∀ x, x ≠ m + 1 → M3 x = M x := fun x hx => by rw [← hM3, up_oth _ _ _ hx, n4 x hx, o2 x hx]
    -- its numbers are the end's, but those that are told
    have hE : ∀ i, 0 ≤ i → i < 741 → i < 384 ∨ 707 ≤ i → i ≠ 739 → M3 (m + 1) i = endG g rg i := by
      intro i i0 i1 i2 i3
      rw [f3]
      by_cases e9 : i = 729
      · rw [if_pos e9, e9]; rfl
      · rw [if_neg e9, n2 i i0 (by omega) i2 i3]
        by_cases e1 : i < 128
        · rw [endG_lo g rg (by omega), gAf_at hWR i0 e1]
          unfold tC
          rw [eQ_lo (by omega)]
          by_cases e : g i = 1
          · rw [if_pos ⟨i0, e1, e1, e⟩, if_pos e]
          · rw [if_neg (fun w => e w.2.2.2), if_neg (by omega), if_neg e]
        · by_cases e2 : i < 256
          · have := gAf_fl hWR (a := i - 128) (by omega) (by omega)
            rw [show 128 + (i - 128) = i by omega] at this
            rw [endG_lo g rg e2, this]
            unfold tC
            rw [if_neg (by omega), eQ_lo (i := i - 128) (by omega)]
            by_cases e : g (i - 128) = 1
            · rw [if_pos ⟨rfl, by omega, e2, by omega, e⟩, if_pos e]
            · rw [if_neg (fun w => e w.2.2.2.2), if_neg e, eQ_lo e2]
          · rw [tC_hi _ _ _ _ (by omega)]
            by_cases e3 : i < 384
            · rw [endG_cel g rg (by omega) e3, eQ_ce (by omega) e3]
              by_cases e : lc (gAf g rg) (i - 256) ∧ eI g (g i) = 1
              · have hz : pz g (i - 256) ≠ 0 := by
                  have := e.1.1
                  rw [gAf_pz hWR (by omega)] at this
                  exact this
                have hb := base_sl hp (j := i - 256) (by omega) (by omega) hz
                have hb1 := hb.1.2.1
                rw [if_pos e, if_pos ⟨⟨e.1, Or.inl hb1⟩, e.2⟩]
              · rw [if_neg e, if_neg (fun w => e ⟨w.1.1, w.2⟩)]
            · by_cases e4 : 715 ≤ i ∧ i < 725
              · rw [endG_nam g rg e4.1 e4.2, eQ_na e4.1 e4.2]
                by_cases e : eI g (g i) = 1
                · rw [if_pos e, if_pos ⟨by omega, e⟩]
                · rw [if_neg e, if_neg (fun w => e w.2)]
              · by_cases e5 : i = 726
                · rw [e5, eQ_run]; rfl
                · by_cases e6 : i = 732
                  · rw [e6, eQ_lost, hlo2]
                    unfold endG
                    rw [if_neg (by omega), if_neg (by omega), if_neg (by omega), if_neg (by omega), if_neg (by omega), if_pos rfl]
                  · by_cases e7 : i = 734
                    · rw [e7, eQ_clr, hcl2]
                      unfold endG
                      rw [if_neg (by omega), if_neg (by omega), if_neg (by omega), if_neg (by omega), if_neg (by omega), if_neg (by omega), if_pos rfl]
                    · rw [eQ_hi (by omega) (by omega) ⟨e5, e6, e7⟩, endG_keep g rg (by omega) (by omega) (by omega) ⟨e5, e9, e6, e7⟩]
    have hT : ∀ i, 741 ≤ i → i < 790 → M3 (m + 1) i = g i := by
      intro i i0 i1
      rw [f3, if_neg (by omega), n2 i (by omega) (by omega) (by omega) (by omega), tC_hi _ _ _ _ (by omega), eQ_hi (by omega) (by omega) (by omega)]
    -- the ring stays as it is
    have hr3 : mRg (M3 (m + 1)) (rgE rg) := by
      intro z z0 z1
      rw [rL_rgE (by omega) (ng2 (4 * z) (by omega))]
      exact mRing_eq (hR z z0 z1) (fun i i0 i1 => by rw [f3, if_neg (by omega), n3 i (by omega), o1 i (by omega)]) z0 z1 (rL_len hWR (by omega))
    let g3 : Int → Int := fun i => if i < 741 then endG g rg i else g i
    have hA3 : mAll (M3 (m + 1)) g3 := by
      intro i i0 i1 i2 i3
      show _ = if i < 741 then endG g rg i else g i
      by_cases e : i < 741
      · rw [if_pos e]; exact hE i i0 e i2 i3
      · rw [if_neg e]; exact hT i (by omega) i1
    have hw3 : WR g3 (rgE rg) := WR_congr (WR_of hS) (fun i hi => by show (if i < 741 then endG g rg i else g i) = endG g rg i; rw [if_pos (by omega)])
    have v173 : M3 (m + 1) 730 = g 730 := by rw [hE 730 (by omega) (by omega) (by omega) (by omega), endG_keep g rg (by omega) (by omega) (by omega) (by omega)]
    have v181 : M3 (m + 1) 740 = g 740 := by rw [hE 740 (by omega) (by omega) (by omega) (by omega), endG_keep g rg (by omega) (by omega) (by omega) (by omega)]
    refine aw_aload_n dX7_goEnd_165 rfl rfl ⟨by decide, by decide⟩ ?_
    refine aw_aload_n dX7_goEnd_166 rfl rfl ⟨by decide, by decide⟩ ?_
    refine aw_gzF 0 dX7_goEnd_167 fl_RX7_7 (by assumption) rfl rfl (by assumption) ?_
    refine aw_sipush dX7_goEnd_170 (by decide) ⟨by decide, by decide⟩ ?_
    refine aw_iv dX7_goEnd_173 (by assumption) (by omega) (by omega) v173 ?_
    refine aw_aload_n dX7_goEnd_174 rfl rfl ⟨by decide, by decide⟩ ?_
    refine aw_gzF 0 dX7_goEnd_175 fl_RX7_7 (by assumption) rfl rfl (by assumption) ?_
    refine aw_sipush dX7_goEnd_178 (by decide) ⟨by decide, by decide⟩ ?_
    refine aw_iv dX7_goEnd_181 (by assumption) (by omega) (by omega) v181 ?_
    refine aw_isub dX7_goEnd_182 rfl ?_
    refine aw_iload_n dX7_goEnd_183 rfl rfl ?_
    refine aw_aload_n dX7_goEnd_184 rfl rfl ⟨by decide, by decide⟩ ?_
    refine aw_cV0p dX7_goEnd_185 ml_RX7_164 (by assumption) (by decide) rfl rfl ⟨by decide, by decide, by decide, by decide⟩ (Nat.le_of_ble_eq_true rfl) (sp_objectsNow hK0 M3 hw3 hA3 hr3) ?_
    refine aw_cV3v dX7_goEnd_188 ml_RX7_168 (by assumption) (by decide) rfl rfl ⟨by decide, by decide, by decide, by decide⟩ (Nat.le_of_ble_eq_true rfl) (sp_tell hK0 M3 (az_wr (g 730 - g 740)) nf (obN (rgE rg))) (fun M4 hM4 => ?_)
    obtain ⟨t1, t2⟩ := hM4
    refine aw_vret dX7_goEnd_191 (by decide) (by decide) ⟨rfl, rfl, ⟨fun i i0 i1 i2 i3 => ?_, fun z z0 z1 => ?_, ?_⟩, fun x hx => by rw [t2 x hx, o3 x hx]⟩
    · show M4 (m + 1) i = endG g rg i
      rw [t1]
      unfold tellF
      by_cases e1 : i < 741
      · rw [if_neg (by omega), if_neg (by omega), if_neg (by omega), if_neg (by omega), if_neg (by omega)]; exact hE i i0 e1 i2 i3
      · by_cases e2 : i = 741
        · rw [if_neg (by omega), if_neg (by omega), if_neg (by omega), if_neg (by omega), if_pos e2, e2, endG_741, hT 741 (by omega) (by omega)]
        · rw [endG_T g rg (show 742 ≤ i by omega)]
          by_cases e3 : i = 742
          · rw [if_pos e3, if_pos e3]
          · rw [if_neg e3, if_neg e3]
            by_cases e4 : i = 743
            · rw [if_pos e4, if_pos e4, hnf]
              unfold colN
              rfl
            · rw [if_neg e4, if_neg e4]
              by_cases e5 : i = 744
              · rw [if_pos e5, if_pos e5]
              · rw [if_neg e5, if_neg e5, if_pos ⟨by omega, i1⟩, if_pos ⟨by omega, i1⟩]
                exact hT (i - 3) (by omega) (by omega)
    · show mRing (M4 (m + 1)) z (rL (rgE rg) (4 * z))
      exact mRing_eq (hr3 z z0 z1) (fun i i0 i1 => by rw [t1]; unfold tellF; rw [if_neg (by omega), if_neg (by omega), if_neg (by omega), if_neg (by omega), if_neg (by omega)]) z0 z1 (rL_len hw3 (by omega))
    · have h739 : M4 (m + 1) 739 = M (m + 1) 739 := by
        rw [t1]
        unfold tellF
        rw [if_neg (by omega), if_neg (by omega), if_neg (by omega), if_neg (by omega), if_neg (by omega), f3, if_neg (by omega), n3 739 (by omega), o1 739 (by omega)]
      have r01 : g 726 = 0 ∨ g 726 = 1 := hw.2.2.2.2.2.1.1
      have w1 := hW.1
      have w2 : M (m + 1) 739 + eN rg ≤ 64 * (g 729 + g 726) := hW.2.1
      refine ⟨by rw [h739]; exact w1, ?_, fun i hi => ?_, fun i j hij hj => ?_⟩
      · show M4 (m + 1) 739 + eN (rgE rg) ≤ 64 * (endG g rg 729 + endG g rg 726)
        have x1 : endG g rg 729 = g 729 + 1 := rfl
        have x2 : endG g rg 726 = 0 := rfl
        have x3 : eN (rgE rg) = 0 := by
          unfold eN
          rw [rgE_at rg (k := 1) (by omega) (by omega), rgE_at rg (k := 5) (by omega) (by omega), rgE_at rg (k := 9) (by omega) (by omega)]
          rfl
        have := eN_nn rg
        rw [h739, x1, x2, x3]
        omega
      · have hi' : i < gl.length := hi
        rw [hg] at hi'
        exact absurd hi' (Nat.not_lt_zero i)
      · have hj' : j < gl.length := hj
        rw [hg] at hj'
        exact absurd hj' (Nat.not_lt_zero j)
  -- one loss, at a place that is not yet looked at
  have one : ∀ (M1 : az_M) (q k f lo cl x ct : Int), mAll (M1 (m + 1)) (eQ g rg q k f lo cl) → 0 ≤ x → x < 790 → x < 384 ∨ 707 ≤ x → x ≠ 739 → x ≠ ct → ct = 732 ∨ ct = 734 → eQ g rg q k f lo cl x = g x → nok g (g x) →
      AM yX7_lose cX7_lose 3 none 2 0 0 [(1, m), (0, x), (0, ct)] K M1 (qv K (fun M' => (∀ i, M' (m + 1) i = if i = x ∧ eI g (g x) = 1 then -1 else if i = ct ∧ eI g (g x) = 1 then az_wr (M1 (m + 1) ct + 1) else M1 (m + 1) i) ∧ ∀ b, b ≠ m + 1 → M' b = M1 b)) := by
    intro M1 q k f lo cl x ct hA x0 x1 x2 x3 hx hct hv hnk
    have e1 : M1 (m + 1) x = g x := by rw [hA x x0 x1 x2 x3, hv]
    have h128 := nok_lt hnk
    refine sp_lose hK0 M1 x ct (eI g (g x)) x0 x1 (by omega) (by omega) hx (by rw [e1]; exact h128) ?_
    rw [e1]
    unfold eI
    by_cases w : 0 ≤ g x
    · rw [hA (g x) w (by omega) (by omega) (by omega), eQ_lo (by omega)]
    · rw [if_neg (fun z => w z.1), if_neg (fun z => w z.1)]
  refine aw_rM (fun hr => ?_)
  have i732 : az_wr (g 732 + 0) = g 732 := by
    have := hr (m + 1) 732
    rw [hF 732 (by omega) (by omega) (by omega) (by omega)] at this
    rw [Int.add_zero, az_wr_id this.1 this.2]
  have i734 : az_wr (g 734 + 0) = g 734 := by
    have := hr (m + 1) 734
    rw [hF 734 (by omega) (by omega) (by omega) (by omega)] at this
    rw [Int.add_zero, az_wr_id this.1 this.2]
  generalize hRs : sumN 6 (fun r => eI g (g (715 + r))) = Rs at eo
  generalize hCs : sumN 4 (fun w => eI g (g (721 + w))) = Cs at eo
  -- the objects
  have objs : ∀ (d a : Nat) (M1 : az_M) (x2 : az_V), a + d = 128 → mAll (M1 (m + 1)) (eQ g rg 10 a 0 (az_wr (g 732 + (Rs + sumN a (lostO g rg)))) (az_wr (g 734 + Cs))) → (∀ i, 384 ≤ i ∧ i < 707 ∨ i = 739 → M1 (m + 1) i = M (m + 1) i) → (∀ x, x ≠ m + 1 → M1 x = M x) → AW az_P0 (az_Z Post 0 0) (az_rm 4 0 0) yX7_goEnd cX7_goEnd 3 none 0 0 80 [(1, m), (0, (a : Int)), x2] [] K M1 := by
    intro d
    induction d with
    | zero =>
      intro a M1 x2 ha hA o1 o2
      have : a = 128 := by omega
      subst this
      refine aw_iload_n dX7_goEnd_80 rfl rfl ?_
      refine aw_sipush dX7_goEnd_81 (by decide) ⟨by decide, by decide⟩ ?_
      refine aw_icmp_ge (tgt := 146) dX7_goEnd_84 rfl (fun h84 => ?_) (fun h84 => absurd h84 (by omega))
      exact eo M1 o1 o2 hA _ _
    | succ d ih =>
      intro a M1 x2 ha hA o1 o2
      have hs1 : sumN (a + 1) (lostO g rg) = sumN a (lostO g rg) + lostO g rg a := rfl
      have hgA := gAf_at hWR (a := (a : Int)) (by omega) (by omega)
      have skip : ¬ (ob g a ∧ g a ≠ 1) → ∀ x2 : az_V, AW az_P0 (az_Z Post 0 0) (az_rm 4 0 0) yX7_goEnd cX7_goEnd 3 none 0 0 140 [(1, m), (0, (a : Int)), x2] [] K M1 := by
        intro hno x2
        have h0 : lostO g rg a = 0 := by
          unfold lostO
          rw [if_neg]
          intro w
          rw [hgA] at w
          by_cases e : g (a : Int) = 1
          · rw [if_pos e] at w; exact w rfl
          · rw [if_neg e] at w
            refine hno ⟨⟨?_, w⟩, e⟩
            rcases sl_dec g (a : Int) with q | q
            · exact q
            · exact absurd ((hcl _ (by omega) (by omega)).2.2 q) w
        refine aw_iinc dX7_goEnd_140 rfl (az_wr_id (by omega) (by omega)) (by decide) ?_
        refine aw_goto (tgt := 80) dX7_goEnd_143 rfl ?_
        refine ih (a + 1) M1 _ (by omega) ?_ o1 o2
        rw [hs1, h0, Int.add_zero]
        intro i i0 i1 i2 i3
        rw [hA i i0 i1 i2 i3]
        by_cases e : 256 ≤ i ∧ i < 384
        · rw [eQ_ce e.1 e.2, eQ_ce e.1 e.2]
          have := cP_skip (rg := rg) hWR e.1 e.2 hno
          by_cases c1 : cP g rg a 0 i ∧ eI g (g i) = 1
          · rw [if_pos c1, if_pos ⟨this.mp c1.1, c1.2⟩]
          · rw [if_neg c1, if_neg (fun w => c1 ⟨this.mpr w.1, w.2⟩)]
        · exact eQ_oth (by omega) _ _
      have hobi := sp_misObject hK0 M1 (eQ_pg hp) hA (a : Int)
      have v97 : M1 (m + 1) (a : Int) = g a := by rw [hA _ (by omega) (by omega) (by omega) (by omega), eQ_lo (by omega)]
      have hec := sp_isEcru hK0 M1 (a : Int) (by omega)
      rw [v97] at hec
      refine aw_iload_n dX7_goEnd_80 rfl rfl ?_
      refine aw_sipush dX7_goEnd_81 (by decide) ⟨by decide, by decide⟩ ?_
      refine aw_icmp_ge (tgt := 146) dX7_goEnd_84 rfl (fun h84 => absurd h84 (by omega)) (fun h84 => ?_)
      refine aw_aload_n dX7_goEnd_87 rfl rfl ⟨by decide, by decide⟩ ?_
      refine aw_iload_n dX7_goEnd_88 rfl rfl ?_
      refine aw_cV1p dX7_goEnd_89 ml_RX7_109 (by assumption) (by decide) rfl rfl ⟨by decide, by decide, by decide, by decide⟩ (Nat.le_of_ble_eq_true rfl) (hobi) ?_
      refine aw_if_eq (tgt := 140) dX7_goEnd_92 rfl (fun h92 => ?_) (fun h92 => ?_)
      · refine skip (fun w => (if0 h92) ⟨(eQ_sl _).mpr w.1.1, ?_⟩) _
        rw [eQ_lo (by omega)]; exact w.1.2
      · have hob : ob g a := by
          have w := if1 h92
          exact ⟨(eQ_sl _).mp w.1, by have := w.2; rw [eQ_lo (by omega)] at this; exact this⟩
        refine aw_aload_n dX7_goEnd_95 rfl rfl ⟨by decide, by decide⟩ ?_
        refine aw_iload_n dX7_goEnd_96 rfl rfl ?_
        refine aw_cV1p dX7_goEnd_97 ml_RX7_158 (by assumption) (by decide) rfl rfl ⟨by decide, by decide, by decide, by decide⟩ (Nat.le_of_ble_eq_true rfl) (hec) ?_
        refine aw_if_eq (tgt := 106) dX7_goEnd_100 rfl (fun h100 => ?_) (fun h100 => ?_)
        · have he1 : g (a : Int) ≠ 1 := fun q => (if0 h100) ⟨by omega, q⟩
          have hfa := (hfl _ hob.1).2 hob.2
          have hpz := (sl_even hp hob.1).2.2.1
          obtain ⟨n, hn⟩ : ∃ n : Nat, (n : Int) = g (128 + (a : Int)) := ⟨(g (128 + (a : Int))).toNat, Int.toNat_of_nonneg hfa.1⟩
          have hbn := base_of hp (f := g (128 + (a : Int))) hob.1 hfa.1 hfa.2
          have hlO : lostO g rg a = sumN n (fun f => eI g (g (256 + (a : Int) + 1 + f))) := by
            unfold lostO
            rw [hgA, if_neg he1, if_pos hob.2, show (g (128 + (a : Int))).toNat = n by omega]
          refine aw_iconst dX7_goEnd_106 rfl ⟨by decide, by decide⟩ ?_
          refine aw_istore_n dX7_goEnd_107 rfl (by decide) ?_
          have flds : ∀ (c f : Nat) (M2 : az_M), f + c = n → mAll (M2 (m + 1)) (eQ g rg 10 a f (az_wr (g 732 + (Rs + sumN a (lostO g rg) + sumN f (fun f => eI g (g (256 + (a : Int) + 1 + f)))))) (az_wr (g 734 + Cs))) → (∀ i, 384 ≤ i ∧ i < 707 ∨ i = 739 → M2 (m + 1) i = M (m + 1) i) → (∀ x, x ≠ m + 1 → M2 x = M x) → AW az_P0 (az_Z Post 0 0) (az_rm 4 0 0) yX7_goEnd cX7_goEnd 3 none 0 0 108 [(1, m), (0, (a : Int)), (0, (f : Int))] [] K M2 := by
            intro c
            induction c with
            | zero =>
              intro f M2 hf hB p1 p2
              have hfn : f = n := by omega
              subst hfn
              have v118 : M2 (m + 1) (128 + (a : Int)) = (f : Int) := by rw [hB _ (by omega) (by omega) (by omega) (by omega), eQ_lo (by omega), hn]
              refine aw_iload_n dX7_goEnd_108 rfl rfl ?_
              refine aw_aload_n dX7_goEnd_109 rfl rfl ⟨by decide, by decide⟩ ?_
              refine aw_gzF 0 dX7_goEnd_110 fl_RX7_7 (by assumption) rfl rfl (by assumption) ?_
              refine aw_sipush dX7_goEnd_113 (by decide) ⟨by decide, by decide⟩ ?_
              refine aw_iload_n dX7_goEnd_116 rfl rfl ?_
              refine aw_iadd dX7_goEnd_117 (az_wr_id (by omega) (by omega)) ?_
              refine aw_iv dX7_goEnd_118 (by assumption) (by omega) (by omega) v118 ?_
              refine aw_icmp_ge (tgt := 140) dX7_goEnd_119 rfl (fun h119 => ?_) (fun h119 => absurd h119 (by omega))
              refine aw_iinc dX7_goEnd_140 rfl (az_wr_id (by omega) (by omega)) (by decide) ?_
              refine aw_goto (tgt := 80) dX7_goEnd_143 rfl ?_
              refine ih (a + 1) M2 _ (by omega) ?_ p1 p2
              have hsu : Rs + sumN (a + 1) (lostO g rg) = Rs + sumN a (lostO g rg) + sumN f (fun f => eI g (g (256 + (a : Int) + 1 + f))) := by rw [hs1, hlO]; omega
              rw [hsu]
              intro i i0 i1 i2 i3
              rw [hB i i0 i1 i2 i3]
              by_cases e : 256 ≤ i ∧ i < 384
              · rw [eQ_ce e.1 e.2, eQ_ce e.1 e.2]
                have := cP_end (rg := rg) (a := (a : Int)) hWR e.1 e.2
                rw [← hn] at this
                by_cases c1 : cP g rg a f i ∧ eI g (g i) = 1
                · rw [if_pos c1, if_pos ⟨this.mp c1.1, c1.2⟩]
                · rw [if_neg c1, if_neg (fun w => c1 ⟨this.mpr w.1, w.2⟩)]
              · exact eQ_oth (by omega) _ _
            | succ c ihc =>
              intro f M2 hf hB p1 p2
              have v118 : M2 (m + 1) (128 + (a : Int)) = (n : Int) := by rw [hB _ (by omega) (by omega) (by omega) (by omega), eQ_lo (by omega), hn]
              have hb := lc_obj hp (f := (f : Int) + 1) hob.1 (by omega) (by omega)
              have hba := base_of hp (f := (f : Int) + 1) hob.1 (by omega) (by omega)
              have hj : 256 + (a : Int) + 1 + f - 256 = (a : Int) + (f + 1) := by omega
              have hnk : nok g (g (256 + (a : Int) + 1 + f)) := hna.2 a f hob (by omega) (by omega)
              have hcP : ¬ cP g rg a f (256 + (a : Int) + 1 + f) := by
                unfold cP
                rw [hj, hb.2.1, hb.2.2]
                rintro ⟨-, q | q⟩ <;> omega
              have hcP1 : cP g rg a ((f + 1 : Nat) : Int) (256 + (a : Int) + 1 + f) := by
                unfold cP
                rw [hj, hb.2.1, hb.2.2]
                refine ⟨(lc_iff hWR (by omega) (by omega)).mpr ?_, Or.inr ⟨rfl, by omega⟩⟩
                rw [hb.2.1, hb.2.2, hb.1]
                exact ⟨hob.1.2.2.1, hob, he1, by omega, by omega⟩
              have hon := one M2 10 a f _ _ (256 + (a : Int) + 1 + f) 732 hB (by omega) (by omega) (by omega) (by omega) (by omega) (Or.inl rfl) (by rw [eQ_ce (by omega) (by omega), if_neg (fun w => hcP w.1)]) hnk
              refine aw_iload_n dX7_goEnd_108 rfl rfl ?_
              refine aw_aload_n dX7_goEnd_109 rfl rfl ⟨by decide, by decide⟩ ?_
              refine aw_gzF 0 dX7_goEnd_110 fl_RX7_7 (by assumption) rfl rfl (by assumption) ?_
              refine aw_sipush dX7_goEnd_113 (by decide) ⟨by decide, by decide⟩ ?_
              refine aw_iload_n dX7_goEnd_116 rfl rfl ?_
              refine aw_iadd dX7_goEnd_117 (az_wr_id (by omega) (by omega)) ?_
              refine aw_iv dX7_goEnd_118 (by assumption) (by omega) (by omega) v118 ?_
              refine aw_icmp_ge (tgt := 140) dX7_goEnd_119 rfl (fun h119 => absurd h119 (by omega)) (fun h119 => ?_)
              refine aw_aload_n dX7_goEnd_122 rfl rfl ⟨by decide, by decide⟩ ?_
              refine aw_iload_n dX7_goEnd_123 rfl rfl ?_
              refine aw_iload_n dX7_goEnd_124 rfl rfl ?_
              refine aw_cS2p dX7_goEnd_125 ml_RX7_161 ⟨by decide, by decide, by decide, by decide⟩ (Nat.le_of_ble_eq_true rfl) (sp_fieldAt K M2 a f (by omega) (by omega) (by omega) (by omega)) ?_
              refine aw_sipush dX7_goEnd_128 (by decide) ⟨by decide, by decide⟩ ?_
              refine aw_cV2v dX7_goEnd_131 ml_RX7_155 (by assumption) (by decide) rfl rfl ⟨by decide, by decide, by decide, by decide⟩ (Nat.le_of_ble_eq_true rfl) (hon) (fun M3 hM3 => ?_)
              refine aw_iinc dX7_goEnd_134 rfl (az_wr_id (by omega) (by omega)) (by decide) ?_
              refine aw_goto (tgt := 108) dX7_goEnd_137 rfl ?_
              obtain ⟨l1, l2⟩ := hM3
              refine ihc (f + 1) M3 (by omega) ?_ (fun i hi => ?_) (fun x hx => by rw [l2 x hx, p2 x hx])
              · have hsn : sumN (f + 1) (fun f => eI g (g (256 + (a : Int) + 1 + f))) = sumN f (fun f => eI g (g (256 + (a : Int) + 1 + f))) + eI g (g (256 + (a : Int) + 1 + f)) := rfl
                intro i i0 i1 i2 i3
                rw [l1, hsn]
                by_cases e1 : i = 256 + (a : Int) + 1 + f
                · rw [e1, eQ_ce (by omega) (by omega)]
                  by_cases e2 : eI g (g (256 + (a : Int) + 1 + f)) = 1
                  · rw [if_pos ⟨rfl, e2⟩, if_pos ⟨hcP1, e2⟩]
                  · rw [if_neg (fun w => e2 w.2), if_neg (by omega), if_neg (fun w => e2 w.2), hB _ (by omega) (by omega) (by omega) (by omega), eQ_ce (by omega) (by omega), if_neg (fun w => hcP w.1)]
                · rw [if_neg (fun w => e1 w.1)]
                  by_cases e2 : i = 732
                  · rw [e2, eQ_lost, show ∀ x y : Int, Rs + sumN a (lostO g rg) + (x + y) = Rs + sumN a (lostO g rg) + x + y from fun x y => by omega, ← eI_wr _ _ _ (eI_01 g (g (256 + (a : Int) + 1 + f))), hB 732 (by omega) (by omega) (by omega) (by omega), eQ_lost]
                    by_cases e3 : eI g (g (256 + (a : Int) + 1 + f)) = 1
                    · rw [if_pos ⟨rfl, e3⟩, if_pos e3]
                    · rw [if_neg (fun w => e3 w.2), if_neg e3]
                  · rw [if_neg (fun w => e2 w.1), hB i i0 i1 i2 i3]
                    by_cases e4 : 256 ≤ i ∧ i < 384
                    · rw [eQ_ce e4.1 e4.2, eQ_ce e4.1 e4.2]
                      have := cP_step (g := g) (rg := rg) (a := (a : Int)) (f := (f : Int)) (i := i) (by omega)
                      by_cases c1 : cP g rg a f i ∧ eI g (g i) = 1
                      · rw [if_pos c1, if_pos ⟨this.mp c1.1, c1.2⟩]
                      · rw [if_neg c1, if_neg (fun w => c1 ⟨this.mpr w.1, w.2⟩)]
                    · rw [eQ_oth (by omega) a ((f + 1 : Nat) : Int)]
                      exact eQ_lo2 e2 _
              · rw [l1, if_neg (by omega), if_neg (by omega), p1 i hi]
          refine flds n 0 M1 (by omega) ?_ o1 o2
          show mAll (M1 (m + 1)) (eQ g rg 10 a 0 (az_wr (g 732 + (Rs + sumN a (lostO g rg) + 0))) (az_wr (g 734 + Cs)))
          rw [Int.add_zero]
          exact hA
        · refine aw_goto (tgt := 140) dX7_goEnd_103 rfl ?_
          exact skip (fun w => w.2 (if1 h100).2) _
  -- the weak names, then the roots
  have weaks : ∀ (d w : Nat) (M1 : az_M) (x2 : az_V), w + d = 4 → mAll (M1 (m + 1)) (eQ g rg (6 + w) 0 0 (az_wr (g 732 + (Rs + 0))) (az_wr (g 734 + sumN w (fun w => eI g (g (721 + w)))))) → (∀ i, 384 ≤ i ∧ i < 707 ∨ i = 739 → M1 (m + 1) i = M (m + 1) i) → (∀ x, x ≠ m + 1 → M1 x = M x) → AW az_P0 (az_Z Post 0 0) (az_rm 4 0 0) yX7_goEnd cX7_goEnd 3 none 0 0 55 [(1, m), (0, (w : Int)), x2] [] K M1 := by
    intro d
    induction d with
    | zero =>
      intro w M1 x2 hwd hA o1 o2
      have : w = 4 := by omega
      subst this
      rw [hCs] at hA
      refine aw_iload_n dX7_goEnd_55 rfl rfl ?_
      refine aw_iconst dX7_goEnd_56 rfl ⟨by decide, by decide⟩ ?_
      refine aw_icmp_ge (tgt := 78) dX7_goEnd_57 rfl (fun h57 => ?_) (fun h57 => absurd h57 (by omega))
      refine aw_iconst dX7_goEnd_78 rfl ⟨by decide, by decide⟩ ?_
      refine aw_istore_n dX7_goEnd_79 rfl (by decide) ?_
      exact objs 128 0 M1 _ (by omega) hA o1 o2
    | succ d ih =>
      intro w M1 x2 hwd hA o1 o2
      have hsn : sumN (w + 1) (fun w => eI g (g (721 + w))) = sumN w (fun w => eI g (g (721 + w))) + eI g (g (721 + (w : Int))) := rfl
      have hon := one M1 (6 + w) 0 0 _ _ (721 + (w : Int)) 734 hA (by omega) (by omega) (by omega) (by omega) (by omega) (Or.inr rfl) (by rw [eQ_na (by omega) (by omega), if_neg (fun z => by have := z.1; omega)]) (hna.1 _ (by omega) (by omega))
      refine aw_iload_n dX7_goEnd_55 rfl rfl ?_
      refine aw_iconst dX7_goEnd_56 rfl ⟨by decide, by decide⟩ ?_
      refine aw_icmp_ge (tgt := 78) dX7_goEnd_57 rfl (fun h57 => absurd h57 (by omega)) (fun h57 => ?_)
      refine aw_aload_n dX7_goEnd_60 rfl rfl ⟨by decide, by decide⟩ ?_
      refine aw_sipush dX7_goEnd_61 (by decide) ⟨by decide, by decide⟩ ?_
      refine aw_iload_n dX7_goEnd_64 rfl rfl ?_
      refine aw_iadd dX7_goEnd_65 (az_wr_id (by omega) (by omega)) ?_
      refine aw_sipush dX7_goEnd_66 (by decide) ⟨by decide, by decide⟩ ?_
      refine aw_cV2v dX7_goEnd_69 ml_RX7_155 (by assumption) (by decide) rfl rfl ⟨by decide, by decide, by decide, by decide⟩ (Nat.le_of_ble_eq_true rfl) (hon) (fun M3 hM3 => ?_)
      refine aw_iinc dX7_goEnd_72 rfl (az_wr_id (by omega) (by omega)) (by decide) ?_
      refine aw_goto (tgt := 55) dX7_goEnd_75 rfl ?_
      obtain ⟨l1, l2⟩ := hM3
      refine ih (w + 1) M3 _ (by omega) ?_ (fun i hi => by rw [l1, if_neg (by omega), if_neg (by omega), o1 i hi]) (fun x hx => by rw [l2 x hx, o2 x hx])
      rw [hsn, ← eI_wr _ _ _ (eI_01 g (g (721 + (w : Int)))), show (6 : Int) + ((w + 1 : Nat) : Int) = 6 + (w : Int) + 1 by omega]
      intro i i0 i1 i2 i3
      rw [l1]
      by_cases e1 : i = 721 + (w : Int)
      · rw [e1, eQ_na (by omega) (by omega)]
        by_cases e2 : eI g (g (721 + (w : Int))) = 1
        · rw [if_pos ⟨rfl, e2⟩, if_pos ⟨by omega, e2⟩]
        · rw [if_neg (fun z => e2 z.2), if_neg (by omega), if_neg (fun z => e2 z.2), hA _ (by omega) (by omega) (by omega) (by omega), eQ_na (by omega) (by omega), if_neg (fun z => by have := z.1; omega)]
      · rw [if_neg (fun z => e1 z.1)]
        by_cases e2 : i = 734
        · rw [e2, eQ_clr, hA 734 (by omega) (by omega) (by omega) (by omega), eQ_clr]
          by_cases e3 : eI g (g (721 + (w : Int))) = 1
          · rw [if_pos ⟨rfl, e3⟩, if_pos e3]
          · rw [if_neg (fun z => e3 z.2), if_neg e3]
        · rw [if_neg (fun z => e2 z.1), hA i i0 i1 i2 i3, eQ_q2 (by omega)]
          exact eQ_cl2 e2 _
  have roots : ∀ (d r : Nat) (M1 : az_M) (x2 : az_V), r + d = 6 → mAll (M1 (m + 1)) (eQ g rg r 0 0 (az_wr (g 732 + sumN r (fun r => eI g (g (715 + r))))) (az_wr (g 734 + 0))) → (∀ i, 384 ≤ i ∧ i < 707 ∨ i = 739 → M1 (m + 1) i = M (m + 1) i) → (∀ x, x ≠ m + 1 → M1 x = M x) → AW az_P0 (az_Z Post 0 0) (az_rm 4 0 0) yX7_goEnd cX7_goEnd 3 none 0 0 29 [(1, m), (0, (r : Int)), x2] [] K M1 := by
    intro d
    induction d with
    | zero =>
      intro w M1 x2 hwd hA o1 o2
      have : w = 6 := by omega
      subst this
      rw [hRs] at hA
      refine aw_iload_n dX7_goEnd_29 rfl rfl ?_
      refine aw_bipush dX7_goEnd_30 (by decide) ⟨by decide, by decide⟩ ?_
      refine aw_icmp_ge (tgt := 53) dX7_goEnd_32 rfl (fun h32 => ?_) (fun h32 => absurd h32 (by omega))
      refine aw_iconst dX7_goEnd_53 rfl ⟨by decide, by decide⟩ ?_
      refine aw_istore_n dX7_goEnd_54 rfl (by decide) ?_
      refine weaks 4 0 M1 _ (by omega) ?_ o1 o2
      rw [Int.add_zero]
      exact hA
    | succ d ih =>
      intro w M1 x2 hwd hA o1 o2
      have hsn : sumN (w + 1) (fun w => eI g (g (715 + w))) = sumN w (fun w => eI g (g (715 + w))) + eI g (g (715 + (w : Int))) := rfl
      have hon := one M1 w 0 0 _ _ (715 + (w : Int)) 732 hA (by omega) (by omega) (by omega) (by omega) (by omega) (Or.inl rfl) (by rw [eQ_na (by omega) (by omega), if_neg (fun z => by have := z.1; omega)]) (hna.1 _ (by omega) (by omega))
      refine aw_iload_n dX7_goEnd_29 rfl rfl ?_
      refine aw_bipush dX7_goEnd_30 (by decide) ⟨by decide, by decide⟩ ?_
      refine aw_icmp_ge (tgt := 53) dX7_goEnd_32 rfl (fun h32 => absurd h32 (by omega)) (fun h32 => ?_)
      refine aw_aload_n dX7_goEnd_35 rfl rfl ⟨by decide, by decide⟩ ?_
      refine aw_sipush dX7_goEnd_36 (by decide) ⟨by decide, by decide⟩ ?_
      refine aw_iload_n dX7_goEnd_39 rfl rfl ?_
      refine aw_iadd dX7_goEnd_40 (az_wr_id (by omega) (by omega)) ?_
      refine aw_sipush dX7_goEnd_41 (by decide) ⟨by decide, by decide⟩ ?_
      refine aw_cV2v dX7_goEnd_44 ml_RX7_155 (by assumption) (by decide) rfl rfl ⟨by decide, by decide, by decide, by decide⟩ (Nat.le_of_ble_eq_true rfl) (hon) (fun M3 hM3 => ?_)
      refine aw_iinc dX7_goEnd_47 rfl (az_wr_id (by omega) (by omega)) (by decide) ?_
      refine aw_goto (tgt := 29) dX7_goEnd_50 rfl ?_
      obtain ⟨l1, l2⟩ := hM3
      refine ih (w + 1) M3 _ (by omega) ?_ (fun i hi => by rw [l1, if_neg (by omega), if_neg (by omega), o1 i hi]) (fun x hx => by rw [l2 x hx, o2 x hx])
      rw [hsn, ← eI_wr _ _ _ (eI_01 g (g (715 + (w : Int)))), show ((w + 1 : Nat) : Int) = (w : Int) + 1 by omega]
      intro i i0 i1 i2 i3
      rw [l1]
      by_cases e1 : i = 715 + (w : Int)
      · rw [e1, eQ_na (by omega) (by omega)]
        by_cases e2 : eI g (g (715 + (w : Int))) = 1
        · rw [if_pos ⟨rfl, e2⟩, if_pos ⟨by omega, e2⟩]
        · rw [if_neg (fun z => e2 z.2), if_neg (by omega), if_neg (fun z => e2 z.2), hA _ (by omega) (by omega) (by omega) (by omega), eQ_na (by omega) (by omega), if_neg (fun z => by have := z.1; omega)]
      · rw [if_neg (fun z => e1 z.1)]
        by_cases e2 : i = 732
        · rw [e2, eQ_lost, hA 732 (by omega) (by omega) (by omega) (by omega), eQ_lost]
          by_cases e3 : eI g (g (715 + (w : Int))) = 1
          · rw [if_pos ⟨rfl, e3⟩, if_pos e3]
          · rw [if_neg (fun z => e3 z.2), if_neg e3]
        · rw [if_neg (fun z => e2 z.1), hA i i0 i1 i2 i3, eQ_q2 e1]
          exact eQ_lo2 e2 _
  refine aw_aload_n dX7_goEnd_0 rfl rfl ⟨by decide, by decide⟩ ?_
  refine aw_gzF 0 dX7_goEnd_1 fl_RX7_7 (by assumption) rfl rfl (by assumption) ?_
  refine aw_sipush dX7_goEnd_4 (by decide) ⟨by decide, by decide⟩ ?_
  refine aw_iconst dX7_goEnd_7 rfl ⟨by decide, by decide⟩ ?_
  refine aw_iast dX7_goEnd_8 (by assumption) (by omega) (by omega) ?_
  refine aw_aload_n dX7_goEnd_9 rfl rfl ⟨by decide, by decide⟩ ?_
  refine aw_gzF 0 dX7_goEnd_10 fl_RX7_7 (by assumption) rfl rfl (by assumption) ?_
  refine aw_sipush dX7_goEnd_13 (by decide) ⟨by decide, by decide⟩ ?_
  refine aw_iconst dX7_goEnd_16 rfl ⟨by decide, by decide⟩ ?_
  refine aw_iast dX7_goEnd_17 (by assumption) (by omega) (by omega) ?_
  refine aw_aload_n dX7_goEnd_18 rfl rfl ⟨by decide, by decide⟩ ?_
  refine aw_gzF 0 dX7_goEnd_19 fl_RX7_7 (by assumption) rfl rfl (by assumption) ?_
  refine aw_sipush dX7_goEnd_22 (by decide) ⟨by decide, by decide⟩ ?_
  refine aw_iconst dX7_goEnd_25 rfl ⟨by decide, by decide⟩ ?_
  refine aw_iast dX7_goEnd_26 (by assumption) (by omega) (by omega) ?_
  refine aw_iconst dX7_goEnd_27 rfl ⟨by decide, by decide⟩ ?_
  refine aw_istore_n dX7_goEnd_28 rfl (by decide) ?_
  have f0 : ∀ i, az_up (az_up (az_up M (m + 1) 726 0) (m + 1) 727 (-1)) (m + 1) 728 0 (m + 1) i = if i = 728 then 0 else if i = 727 then -1 else if i = 726 then 0 else M (m + 1) i := fun i => by rw [up_row, up_row, up_row]
  refine roots 6 0 _ _ (by omega) (fun i i0 i1 i2 i3 => ?_) (fun i hi => by rw [f0, if_neg (by omega), if_neg (by omega), if_neg (by omega)]) (fun x hx => by rw [up_oth _ _ _ hx, up_oth _ _ _ hx, up_oth _ _ _ hx])
  show _ = eQ g rg 0 0 0 (az_wr (g 732 + 0)) (az_wr (g 734 + 0)) i
  rw [f0, i732, i734]
  by_cases e8 : i = 728
  · rw [if_pos e8, e8, eQ_hi (by omega) (by omega) (by omega), h728]
  · rw [if_neg e8]
    by_cases e7 : i = 727
    · rw [if_pos e7, e7, eQ_hi (by omega) (by omega) (by omega), hn]
    · rw [if_neg e7]
      by_cases e6 : i = 726
      · rw [if_pos e6, e6, eQ_run]
      · rw [if_neg e6, hF i i0 i1 i2 i3]
        by_cases e1 : i < 256
        · rw [eQ_lo e1]
        · by_cases e2 : i < 384
          · rw [eQ_ce (by omega) e2, if_neg]
            rintro ⟨⟨q1, q2⟩, -⟩
            have w := (lc_iff hWR (j := i - 256) (by omega) (by omega)).mp q1
            have w1 := w.2.1.1.1
            have w2 := w.2.2.2.1
            omega
          · by_cases e3 : 715 ≤ i ∧ i < 725
            · rw [eQ_na e3.1 e3.2, if_neg (fun z => by have := z.1; omega)]
            · by_cases e4 : i = 732
              · rw [e4, eQ_lost]
              · by_cases e5 : i = 734
                · rw [e5, eQ_clr]
                · rw [eQ_hi (by omega) (by omega) ⟨e6, e4, e5⟩]
