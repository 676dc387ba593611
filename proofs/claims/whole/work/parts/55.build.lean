/-! Heap.build -/
def frcS (S : hSt) : hSt := (gu (advS TE S).1 731 (az_wr (S.1 731 + (advN TE S : Int))), (advS TE S).2.1, (advS TE S).2.2)
def findB (S : hSt) : hSt := if S.1 726 = 1 then frcS S else S
def findS (S : hSt) (s : Int) : hSt :=
  if adr (fsS S s) s ≠ -1 then fsS S s
  else if S.1 726 = 1 ∧ adr (fsS (frcS S) s) s ≠ -1 then fsS (frcS S) s else fsS (frcS (startS (findB S))) s
def bldT (S : hSt) (f : Int) : hSt := findS (advS (S.1 737).toNat S) (szF f)
def againS (S : hSt) (s : Int) : hSt := if S.1 726 = 0 ∧ ((S.2.1 (s / 4 * 4)).length : Int) < S.1 738 then startS S else S
def bldS (S : hSt) (r f : Int) : hSt := if adr (bldT S f) (szF f) = -1 then bldT S f else againS (plS (bldT S f) (szF f) f r) (szF f)
def bldA (S : hSt) (f : Int) : Int := if adr (bldT S f) (szF f) = -1 then -2 else adr (bldT S f) (szF f)
theorem WL_gu {S : hSt} (h : WL S) {i v : Int} (h0 : 729 ≤ i) (h1 : i ≤ 734) : WL (gu S.1 i v, S.2.1, S.2.2) := by
  refine ⟨WF_congr h.1 (fun j hj => gu_n _ _ (by omega)), ?_⟩
  unfold w_live
  show gu S.1 i v 726 = 1 → S.2.2 ≠ [] ∨ gu S.1 i v 727 ≠ -1
  rw [gu_n _ _ (by omega), gu_n _ _ (by omega)]
  exact h.2
theorem frcS_wf {S : hSt} (h : WL S) : WL (frcS S) ∧ (frcS S).1 726 = 0 ∧ ((frcS S).1 729 = S.1 729 ∨ (frcS S).1 729 = S.1 729 + 1) := by
  refine ⟨WL_gu (advS_wf h TE) (by omega) (by omega), ?_, ?_⟩
  · show gu (advS TE S).1 731 (az_wr (S.1 731 + (advN TE S : Int))) 726 = 0
    rw [gu_n _ _ (by omega)]; exact adv_TE h
  · show gu (advS TE S).1 731 (az_wr (S.1 731 + (advN TE S : Int))) 729 = _ ∨ gu (advS TE S).1 731 (az_wr (S.1 731 + (advN TE S : Int))) 729 = _
    rw [gu_n _ _ (by omega)]; exact (adv_cy h TE).2
theorem run01 {S : hSt} (h : WL S) : S.1 726 = 0 ∨ S.1 726 = 1 := h.1.2.2.2.2.2.1.1
theorem findB_wf {S : hSt} (h : WL S) : WL (findB S) ∧ (findB S).1 726 = 0 ∧ S.1 729 ≤ (findB S).1 729 ∧ (findB S).1 729 ≤ S.1 729 + 1 := by
  unfold findB
  split
  · have := frcS_wf h
    exact ⟨this.1, this.2.1, by omega, by omega⟩
  · rename_i e
    have := run01 h
    exact ⟨h, by omega, by omega, by omega⟩
theorem szF_in (f : Int) : szF f = 2 ∨ szF f = 4 ∨ szF f = 8 := by
  unfold szF
  split
  · omega
  · split <;> omega
theorem findS_wf {S : hSt} (h : WL S) {s : Int} (hs : s = 2 ∨ s = 4 ∨ s = 8) : WL (findS S s) ∧ S.1 729 ≤ (findS S s).1 729 ∧ (findS S s).1 729 ≤ S.1 729 + 3 := by
  unfold findS
  split
  · have := fsS_wf h hs
    exact ⟨this.1, by rw [this.2.1 729 (by omega)]; omega, by rw [this.2.1 729 (by omega)]; omega⟩
  · split
    · have w := frcS_wf h
      have := fsS_wf w.1 hs
      exact ⟨this.1, by rw [this.2.1 729 (by omega)]; omega, by rw [this.2.1 729 (by omega)]; omega⟩
    · have b := findB_wf h
      have st := startS_wf b.1.1 b.2.1
      have w := frcS_wf st.1
      have := fsS_wf w.1 hs
      exact ⟨this.1, by rw [this.2.1 729 (by omega)]; omega, by rw [this.2.1 729 (by omega)]; omega⟩
/-- the one that is found -/
theorem adr_in {S : hSt} (h : WS S) {s : Int} (hs : s = 2 ∨ s = 4 ∨ s = 8) (hn : adr S s ≠ -1) : sl S.1 (adr S s) ∧ S.1 (adr S s) = 0 ∧ kz S.1 (adr S s) = s / 4 * 4 ∧ pz S.1 (adr S s) = s := by
  rcases hd2_in (WR_of h) (k := s / 4 * 4) (by omega) (by omega) with q | ⟨n, l, q1, q2, q3, q4, q5, q6, q7⟩
  · exact absurd q.1 hn
  · have : adr S s = 2 * n := q2
    rw [this]
    refine ⟨q5, by omega, by omega, ?_⟩
    have hk : kz S.1 (2 * n) = pz S.1 (2 * n) / 4 * 4 := rfl
    rcases pz_in h.1 q5.1 q5.2.1 with e | e | e | e
    · exact absurd e q5.2.2.1
    · rw [e] at hk ⊢; omega
    · rw [e] at hk ⊢; omega
    · rw [e] at hk ⊢; omega
theorem szF_lt {f : Int} (f1 : f ≤ 7) : f < szF f := by
  unfold szF
  split
  · omega
  · split <;> omega
theorem plS_wf {S : hSt} (h : WL S) {f r : Int} (hn : adr S (szF f) ≠ -1) (f0 : 0 ≤ f) (f1 : f ≤ 7) (r0 : 0 ≤ r) (r1 : r < 6) : WL (plS S (szF f) f r) ∧ (plS S (szF f) f r).1 729 = S.1 729 ∧ (plS S (szF f) f r).1 726 = S.1 726 ∧ (plS S (szF f) f r).1 738 = S.1 738 := by
  obtain ⟨a1, a2, a3, a4⟩ := adr_in h.1 (szF_in f) hn
  have hlt := szF_lt f1
  have hb0 := base_of h.1.1 (f := f) a1 f0 (by omega)
  have hna : ∀ i, 725 ≤ i → i ≠ 733 → plG S.1 (adr S (szF f)) f r i = S.1 i := fun i i0 i1 => by rw [pl_na a1.1 hb0.2.2 f0 r0 r1 (by omega) i1, if_neg (by omega)]
  have hw := pl_wf h.1 a1 a2 f0 (by omega) r0 r1
  rw [a3] at hw
  refine ⟨⟨hw, ?_⟩, hna 729 (by omega) (by omega), hna 726 (by omega) (by omega), hna 738 (by omega) (by omega)⟩
  unfold w_live
  show plG S.1 (adr S (szF f)) f r 726 = 1 → S.2.2 ≠ [] ∨ plG S.1 (adr S (szF f)) f r 727 ≠ -1
  rw [hna 726 (by omega) (by omega), hna 727 (by omega) (by omega)]
  exact h.2
theorem bldT_wf {S : hSt} (h : WL S) (f : Int) : WL (bldT S f) ∧ S.1 729 ≤ (bldT S f).1 729 ∧ (bldT S f).1 729 ≤ S.1 729 + 4 := by
  have w := advS_wf h (S.1 737).toNat
  have c := (adv_cy h (S.1 737).toNat).2
  have := findS_wf w (szF_in f)
  unfold bldT
  exact ⟨this.1, by omega, by omega⟩
theorem againS_wf {S : hSt} (h : WL S) (s : Int) : WL (againS S s) ∧ ((againS S s).1 729 = S.1 729 ∨ (againS S s).1 729 = S.1 729 + 1) := by
  unfold againS
  split
  · rename_i e
    exact startS_wf h.1 e.1
  · exact ⟨h, Or.inl rfl⟩
theorem bldS_wf {S : hSt} (h : WL S) {f r : Int} (f0 : 0 ≤ f) (f1 : f ≤ 7) (r0 : 0 ≤ r) (r1 : r < 6) : WL (bldS S r f) ∧ S.1 729 ≤ (bldS S r f).1 729 ∧ (bldS S r f).1 729 ≤ S.1 729 + 5 := by
  have w := bldT_wf h f
  unfold bldS
  split
  · exact ⟨w.1, by omega, by omega⟩
  · rename_i e
    have p := plS_wf w.1 e f0 f1 r0 r1
    have a := againS_wf p.1 (szF f)
    exact ⟨a.1, by omega, by omega⟩
set_option maxRecDepth 20000 in
set_option maxHeartbeats 2000000 in
theorem sp_build {K : az_K} {h : Int} (hK : HpK K h) (M : az_M) {S : hSt} (hc : HS M h S) (hw : WL S) (hcy : S.1 729 ≤ 1999999000) (r f : Int) (r0 : 0 ≤ r) (r1 : r < 6) (f0 : 0 ≤ f) (f1 : f ≤ 7) : AM yX0_build cX0_build 5 (some .int) 3 0 0 [(1, h), (0, r), (0, f)] K M (qi K (fun z M' => z = bldA S f ∧ HS M' h (bldS S r f) ∧ frH M M' h)) := by
  have hK0 := hK
  obtain ⟨hRg, kh, k6, k7, k8, k9, k10, k11, k12, k13, k14, z0, z1, z2, z3, z4, z5, z6, z7, z8, z9⟩ := hK
  refine am_of (by decide) (Nat.le_of_ble_eq_true rfl) (L := [(1, h), (0, r), (0, f), (9, 0), (9, 0)]) rfl ?_
  have hsz := szF_in f
  have hA : bldA S f = if adr (bldT S f) (szF f) = -1 then -2 else adr (bldT S f) (szF f) := rfl
  have hB : bldS S r f = if adr (bldT S f) (szF f) = -1 then bldT S f else againS (plS (bldT S f) (szF f) f r) (szF f) := rfl
  obtain ⟨t1, t2, t3⟩ := bldT_wf hw f
  have fin : ∀ (M5 : az_M) (x : Int), HS M5 h (bldT S f) → frH M M5 h → x = adr (bldT S f) (szF f) → AW az_P0 (az_Z (qi K (fun z M' => z = bldA S f ∧ HS M' h (bldS S r f) ∧ frH M M' h)) 0 0) (az_rm 3 0 0) yX0_build cX0_build 5 (some .int) 0 0 99 [(1, h), (0, r), (0, f), (0, szF f), (0, x)] [] K M5 := by
    intro M5 x h5 hf5 hx
    refine aw_iload dX0_build_99 rfl ?_
    refine aw_iconst dX0_build_101 rfl ⟨by decide, by decide⟩ ?_
    refine aw_icmp_ne (tgt := 108) dX0_build_102 rfl (fun h102 => ?_) (fun h102 => ?_)
    · rw [if_neg (by omega)] at hA hB
      have hne : adr (bldT S f) (szF f) ≠ -1 := by omega
      rw [← hx] at hA
      obtain ⟨pw, p729, p726, p738⟩ := plS_wf t1 hne f0 f1 r0 r1
      have hlt := szF_lt f1
      obtain ⟨a1, a2, a3, a4⟩ := adr_in t1.1 hsz hne
      rw [hA, hB]
      generalize hT : bldT S f = T at *
      unfold plS at pw p729 p726 p738 ⊢
      rw [← hx] at a1 a2 a3 a4 pw p729 p726 p738 ⊢
      have b0 := a1.1
      have b1 := a1.2.1
      obtain ⟨g, rg, gl⟩ := T
      replace a1 : sl g x := a1
      replace a2 : g x = 0 := a2
      replace a3 : kz g x = szF f / 4 * 4 := a3
      replace a4 : pz g x = szF f := a4
      have hb0 := base_of (g := g) t1.1.1 (f := f) a1 f0 (by omega)
      have hx2 : x % 2 = 0 := (sl_even t1.1.1 a1).1
      have hro : M5 (h + 4) (x / 2) = szF f / 4 * 4 := by
        have := (h5.2.1 (x / 2) (by omega) (by omega)).1
        rw [show 2 * (x / 2) = x by omega] at this
        have q : M5 (h + 4) (x / 2) = kz g x + g x := this a1
        omega
      have hmv := sp_move hRg M5 h5.1 x (szF f / 4 * 4 + 3) 0 b0 b1 (by omega) (by omega) (Or.inl rfl)
      rw [hro] at hmv
      refine aw_aload_n dX0_build_108 rfl rfl ⟨by decide, by decide⟩ ?_
      refine aw_gzF 0 dX0_build_109 fl_RX0_12 (by assumption) rfl rfl (by assumption) ?_
      refine aw_iload dX0_build_112 rfl ?_
      refine aw_iload_n dX0_build_114 rfl rfl ?_
      refine aw_iconst dX0_build_115 rfl ⟨by decide, by decide⟩ ?_
      refine aw_cS2p dX0_build_116 ml_RX0_96 ⟨by decide, by decide, by decide, by decide⟩ (Nat.le_of_ble_eq_true rfl) (sp_row K M5 (szF f) 3 (by omega) (by omega) (by omega) (by omega)) ?_
      refine aw_iconst dX0_build_119 rfl ⟨by decide, by decide⟩ ?_
      refine aw_cV3v dX0_build_120 ml_RX0_105 hRg.1 (by decide) rfl rfl ⟨by decide, by decide, by decide, by decide⟩ (Nat.le_of_ble_eq_true rfl) (hmv) (fun M6 hM6 => ?_)
      obtain ⟨m1, m2, m3⟩ := hM6
      refine aw_aload_n dX0_build_123 rfl rfl ⟨by decide, by decide⟩ ?_
      refine aw_gzF 1 dX0_build_124 fl_RX0_18 (by assumption) rfl rfl (by assumption) ?_
      refine aw_iload dX0_build_127 rfl ?_
      refine aw_iload_n dX0_build_129 rfl rfl ?_
      refine aw_iast dX0_build_130 (by assumption) (by omega) (by omega) ?_
      refine aw_aload_n dX0_build_131 rfl rfl ⟨by decide, by decide⟩ ?_
      refine aw_gzF 1 dX0_build_132 fl_RX0_18 (by assumption) rfl rfl (by assumption) ?_
      refine aw_iload dX0_build_135 rfl ?_
      refine aw_iconst dX0_build_137 rfl ⟨by decide, by decide⟩ ?_
      refine aw_iadd dX0_build_138 (az_wr_id (by omega) (by omega)) ?_
      refine aw_iload dX0_build_139 rfl ?_
      refine aw_iconst dX0_build_141 rfl ⟨by decide, by decide⟩ ?_
      refine aw_iadd dX0_build_142 (az_wr_id (by omega) (by omega)) ?_
      refine aw_iload_n dX0_build_143 rfl rfl ?_
      refine aw_iadd dX0_build_144 (az_wr_id (by omega) (by omega)) ?_
      refine aw_iconst dX0_build_145 rfl ⟨by decide, by decide⟩ ?_
      refine aw_cS4v dX0_build_146 ml_RX0_144 ⟨by decide, by decide, by decide, by decide⟩ (Nat.le_of_ble_eq_true rfl) (sp_fill4 k6 (by omega) (x + 1) (x + 1 + f) (-1) (by omega) (by omega) (by omega) _) (fun M7 hM7 => ?_)
      have e6 : M7 (h + 6) = fun y => if x + 1 ≤ y ∧ y < x + 1 + f then -1 else if y = x then f else M5 (h + 6) y := by
        rw [hM7]
        funext y
        unfold az_fill
        by_cases e : x + 1 ≤ y ∧ y < x + 1 + f
        · rw [if_pos ⟨rfl, e⟩, if_pos e]
        · rw [if_neg (fun q => e q.2), if_neg e, up_row]
          show (if y = x then f else M6 (h + 6) y) = _
          rw [m3 _ (by omega)]
      have o7 : ∀ b, b ≠ h + 6 → M7 b = M6 b := by
        intro b hb
        rw [hM7]
        funext y
        unfold az_fill
        rw [if_neg (fun q => hb q.1), up_oth _ _ _ hb]
      have v159 : M7 (h + 8) (x / 16) = us rg (x / 16) := by rw [o7 _ (by omega), m3 _ (by omega)]; exact h5.2.2.2.2.1 (x / 16) (by omega) (by omega)
      have us0 : us rg (x / 16) ≤ 1000 ∧ 0 ≤ us rg (x / 16) := by
        refine ⟨?_, us_nn _ _⟩
        have hR := WR_of t1.1
        have q1 := us_sum hR
        have q2 := obN_le hR
        have q3 : us rg (x / 16) ≤ sumN (x / 16 + 1).toNat (us rg) := by
          rw [show (x / 16 + 1).toNat = (x / 16).toNat + 1 by omega]
          show us rg (x / 16) ≤ sumN (x / 16).toNat (us rg) + us rg ((x / 16).toNat : Int)
          have := sumN_nn (f := us rg) (fun i => us_nn rg i) (x / 16).toNat
          rw [Int.toNat_of_nonneg (by omega)]
          omega
        have hpl : x / 16 < g 725 := by
          apply Classical.byContradiction
          intro hh
          exact a1.2.2.1 ((t1.1.1.2.2 (x / 16) (by omega) (by omega)).2 (by show g 725 ≤ x / 16; omega))
        have q4 := sumN_mono (f := us rg) (fun i => us_nn rg i) (x / 16 + 1).toNat (g 725).toNat (by omega)
        replace q1 : sumN (g 725).toNat (us rg) = obN rg := q1
        replace q2 : 0 ≤ obN rg ∧ obN rg ≤ 576 := q2
        omega
      refine aw_aload_n dX0_build_149 rfl rfl ⟨by decide, by decide⟩ ?_
      refine aw_gzF 3 dX0_build_150 fl_RX0_25 (by assumption) rfl rfl (by assumption) ?_
      refine aw_iload dX0_build_153 rfl ?_
      refine aw_bipush dX0_build_155 (by decide) ⟨by decide, by decide⟩ ?_
      refine aw_idiv dX0_build_157 (by omega) (by omega) ?_
      refine aw_dup2 dX0_build_158 ?_
      refine aw_iv dX0_build_159 (by assumption) (by omega) (by omega) v159 ?_
      refine aw_iconst dX0_build_160 rfl ⟨by decide, by decide⟩ ?_
      refine aw_iadd dX0_build_161 (az_wr_id (by omega) (by omega)) ?_
      refine aw_iast dX0_build_162 (by assumption) (by omega) (by omega) ?_
      refine aw_aload_n dX0_build_163 rfl rfl ⟨by decide, by decide⟩ ?_
      refine aw_gzF 4 dX0_build_164 fl_RX0_28 (by assumption) rfl rfl (by assumption) ?_
      refine aw_iload_n dX0_build_167 rfl rfl ?_
      refine aw_iload dX0_build_168 rfl ?_
      refine aw_iast dX0_build_170 (by assumption) (by omega) (by omega) ?_
      generalize hM9 : az_up (az_up M7 (h + 8) (x / 16) (us rg (x / 16) + 1)) (h + 9) r x = M9
      have o9 : ∀ b, b ≠ h + 8 → b ≠ h + 9 → M9 b = M7 b := fun b b1 b2 => by rw [← hM9, up_oth _ _ _ b2, up_oth _ _ _ b1]
      have v177 : M9 (h + 13) 4 = g 733 := by rw [o9 _ (by omega) (by omega), o7 _ (by omega), m3 _ (by omega)]; exact h5.2.2.2.2.2.2.2.2.1 4 (by omega) (by omega)
      refine aw_aload_n dX0_build_171 rfl rfl ⟨by decide, by decide⟩ ?_
      refine aw_gzF 8 dX0_build_172 fl_RX0_40 (by assumption) rfl rfl (by assumption) ?_
      refine aw_iconst dX0_build_175 rfl ⟨by decide, by decide⟩ ?_
      refine aw_dup2 dX0_build_176 ?_
      refine aw_iv dX0_build_177 (by assumption) (by omega) (by omega) v177 ?_
      refine aw_iconst dX0_build_178 rfl ⟨by decide, by decide⟩ ?_
      refine aw_iadd dX0_build_179 rfl ?_
      refine aw_iast dX0_build_180 (by assumption) (by omega) (by omega) ?_
      generalize hM10 : az_up M9 (h + 13) 4 (az_wr (g 733 + 1)) = M10
      have o10 : ∀ b, b ≠ h + 13 → M10 b = M9 b := fun b hb => by rw [← hM10, up_oth _ _ _ hb]
      have hs10 : HC M10 h (plG g x f r) (rmv rg (x / 2) (szF f / 4 * 4) (szF f / 4 * 4 + 3) false) gl := by
        rw [← a3]
        refine HC_place h5 t1.1 a1 a2 f0 (by show f < pz g x; omega) r0 r1 ?_ ?_ ?_ ?_ ?_ ?_ ?_
        · show RR _ _ _ _ (rmv rg (x / 2) (kz g x) (kz g x + 3) false)
          rw [a3, o10 _ (by omega), o10 _ (by omega), o10 _ (by omega), o10 _ (by omega), o9 _ (by omega) (by omega), o9 _ (by omega) (by omega), o9 _ (by omega) (by omega), o9 _ (by omega) (by omega), o7 _ (by omega), o7 _ (by omega), o7 _ (by omega), o7 _ (by omega)]
          simpa using m1
        · show _ = fun y => if y = x / 2 then kz g x + 3 else _
          rw [a3, o10 _ (by omega), o9 _ (by omega) (by omega), o7 _ (by omega), m2]
        · rw [o10 _ (by omega), o9 _ (by omega) (by omega), e6]
        · rw [o10 _ (by omega), ← hM9, up_oth _ _ _ (by omega), up_row, o7 _ (by omega), m3 _ (by omega)]
          funext p
          by_cases e : p = x / 16
          · rw [if_pos e, if_pos e, e]
            have := h5.2.2.2.2.1 (x / 16) (by omega) (by omega)
            rw [this]
          · rw [if_neg e, if_neg e]
        · rw [o10 _ (by omega), ← hM9, up_row, up_oth _ _ _ (by omega), o7 _ (by omega), m3 _ (by omega)]
        · rw [← hM10, up_row, o9 _ (by omega) (by omega), o7 _ (by omega), m3 _ (by omega)]
        · intro b b1 b2 b3 b4
          rw [o10 b b4, o9 b b2 b3, o7 b (by omega), m3 b (by omega)]
      have hf10 : frH M M10 h := fun b hb => by rw [o10 b (by omega), o9 b (by omega) (by omega), o7 b (by omega), m3 b (by omega)]; exact hf5 b hb
      have v182 : M10 h 15 = plG g x f r 726 := hs10.2.2.2.2.2.2.2.2.2.2.2.2.2.2
      have v205 : M10 (h + 12) 3 = plG g x f r 738 := hs10.2.2.2.2.2.2.2.1 3 (by omega) (by omega)
      have v197 : M10 (h + 5) (szF f / 4 * 4) = ((rmv rg (x / 2) (szF f / 4 * 4) (szF f / 4 * 4 + 3) false (szF f / 4 * 4)).length : Int) := (hs10.1.2.1 (szF f / 4 * 4) (by omega) (by omega)).2.2.1
      have hag : againS (plG g x f r, rmv rg (x / 2) (szF f / 4 * 4) (szF f / 4 * 4 + 3) false, gl) (szF f) = if plG g x f r 726 = 0 ∧ ((rmv rg (x / 2) (szF f / 4 * 4) (szF f / 4 * 4 + 3) false (szF f / 4 * 4)).length : Int) < plG g x f r 738 then startS (plG g x f r, rmv rg (x / 2) (szF f / 4 * 4) (szF f / 4 * 4 + 3) false, gl) else (plG g x f r, rmv rg (x / 2) (szF f / 4 * 4) (szF f / 4 * 4 + 3) false, gl) := rfl
      refine aw_aload_n dX0_build_181 rfl rfl ⟨by decide, by decide⟩ ?_
      refine aw_gi 15 dX0_build_182 fl_RX0_74 (by assumption) rfl rfl v182 ?_
      refine aw_if_ne (tgt := 213) dX0_build_185 rfl (fun h185 => ?_) (fun h185 => ?_)
      · refine aw_iload dX0_build_213 rfl ?_
        refine aw_iret dX0_build_215 (by decide) (by decide) ⟨_, rfl, rfl, rfl, ?_, hf10⟩
        rw [hag, if_neg (fun q => h185 q.1)]; exact hs10
      · refine aw_aload_n dX0_build_188 rfl rfl ⟨by decide, by decide⟩ ?_
        refine aw_gzF 0 dX0_build_189 fl_RX0_12 (by assumption) rfl rfl (by assumption) ?_
        refine aw_iload_n dX0_build_192 rfl rfl ?_
        refine aw_iconst dX0_build_193 rfl ⟨by decide, by decide⟩ ?_
        refine aw_cS2p dX0_build_194 ml_RX0_96 ⟨by decide, by decide, by decide, by decide⟩ (Nat.le_of_ble_eq_true rfl) (qp_c (sp_row K M10 (szF f) 0 (by omega) (by omega) (by omega) (by omega)) (show szF f / 4 * 4 + 0 = szF f / 4 * 4 by omega)) ?_
        refine aw_cV1p dX0_build_197 ml_RX0_99 hRg.1 (by decide) rfl rfl ⟨by decide, by decide, by decide, by decide⟩ (Nat.le_of_ble_eq_true rfl) (qp_c (sp_count hRg M10 (szF f / 4 * 4) (by omega) (by omega)) v197) ?_
        refine aw_aload_n dX0_build_200 rfl rfl ⟨by decide, by decide⟩ ?_
        refine aw_gzF 7 dX0_build_201 fl_RX0_37 (by assumption) rfl rfl (by assumption) ?_
        refine aw_iconst dX0_build_204 rfl ⟨by decide, by decide⟩ ?_
        refine aw_iv dX0_build_205 (by assumption) (by omega) (by omega) v205 ?_
        refine aw_icmp_ge (tgt := 213) dX0_build_206 rfl (fun h206 => ?_) (fun h206 => ?_)
        · refine aw_iload dX0_build_213 rfl ?_
          refine aw_iret dX0_build_215 (by decide) (by decide) ⟨_, rfl, rfl, rfl, ?_, hf10⟩
          rw [hag, if_neg (fun q => by have := q.2; omega)]; exact hs10
        · refine aw_aload_n dX0_build_209 rfl rfl ⟨by decide, by decide⟩ ?_
          refine aw_cV0v dX0_build_210 ml_RX0_141 (by assumption) (by decide) rfl rfl ⟨by decide, by decide, by decide, by decide⟩ (Nat.le_of_ble_eq_true rfl) (sp_begin hK0 M10 hs10 pw.1 h185 (by have : plG g x f r 729 = g 729 := p729; replace t3 : g 729 ≤ S.1 729 + 4 := t3; omega)) (fun M11 hM11 => ?_)
          refine aw_iload dX0_build_213 rfl ?_
          refine aw_iret dX0_build_215 (by decide) (by decide) ⟨_, rfl, rfl, rfl, ?_, fun b hb => (hM11.2.2 b hb).trans (hf10 b hb)⟩
          rw [hag, if_pos ⟨h185, h206⟩]; exact hM11.1
    · rw [if_pos (by omega)] at hA hB
      rw [hA, hB]
      refine aw_bipush dX0_build_105 (by decide) ⟨by decide, by decide⟩ ?_
      exact aw_iret dX0_build_107 (by decide) (by decide) ⟨_, rfl, rfl, rfl, h5, hf5⟩
  have main : AW az_P0 (az_Z (qi K (fun z M' => z = bldA S f ∧ HS M' h (bldS S r f) ∧ frH M M' h)) 0 0) (az_rm 3 0 0) yX0_build cX0_build 5 (some .int) 0 0 20 [(1, h), (0, r), (0, f), (9, 0), (9, 0)] [(0, szF f)] K M := by
    have v27 : M (h + 12) 2 = S.1 737 := hc.2.2.2.2.2.2.2.1 2 (by omega) (by omega)
    have hpace := hw.1.2.2.2.2.2.2.2.2.1
    have w1 := advS_wf hw (S.1 737).toNat
    have c1 := (adv_cy hw (S.1 737).toNat).2
    have hT : bldT S f = findS (advS (S.1 737).toNat S) (szF f) := rfl
    rw [hT] at fin
    refine aw_istore_n dX0_build_20 rfl (by decide) ?_
    refine aw_aload_n dX0_build_21 rfl rfl ⟨by decide, by decide⟩ ?_
    refine aw_aload_n dX0_build_22 rfl rfl ⟨by decide, by decide⟩ ?_
    refine aw_gzF 7 dX0_build_23 fl_RX0_37 (by assumption) rfl rfl (by assumption) ?_
    refine aw_iconst dX0_build_26 rfl ⟨by decide, by decide⟩ ?_
    refine aw_iv dX0_build_27 (by assumption) (by omega) (by omega) v27 ?_
    refine aw_cV1i dX0_build_28 ml_RX0_134 (by assumption) (by decide) rfl rfl ⟨by decide, by decide, by decide, by decide⟩ (Nat.le_of_ble_eq_true rfl) (sp_advance hK0 M hc hw (by omega) (S.1 737) hpace.1 (by omega)) (fun n1 M1 hM1 => ?_)
    refine aw_pop dX0_build_31 ?_
    obtain ⟨-, hs1, hf1⟩ := hM1
    generalize advS (S.1 737).toNat S = S1 at *
    have w2 := (fsS_wf w1 hsz).1
    refine aw_aload_n dX0_build_32 rfl rfl ⟨by decide, by decide⟩ ?_
    refine aw_iload_n dX0_build_33 rfl rfl ?_
    refine aw_cV1i dX0_build_34 ml_RX0_137 (by assumption) (by decide) rfl rfl ⟨by decide, by decide, by decide, by decide⟩ (Nat.le_of_ble_eq_true rfl) (sp_findSlot hK0 M1 hs1 w1 (szF f) hsz) (fun x M2 hM2 => ?_)
    refine aw_istore dX0_build_37 (by decide) ?_
    obtain ⟨hx, hs2, hf2⟩ := hM2
    replace hf2 : frH M M2 h := hf1.trans hf2
    have hfS : findS S1 (szF f) = if adr (fsS S1 (szF f)) (szF f) ≠ -1 then fsS S1 (szF f) else if S1.1 726 = 1 ∧ adr (fsS (frcS S1) (szF f)) (szF f) ≠ -1 then fsS (frcS S1) (szF f) else fsS (frcS (startS (findB S1))) (szF f) := rfl
    refine aw_iload dX0_build_39 rfl ?_
    refine aw_iconst dX0_build_41 rfl ⟨by decide, by decide⟩ ?_
    refine aw_icmp_ne (tgt := 67) dX0_build_42 rfl (fun h42 => ?_) (fun h42 => ?_)
    · refine aw_iload dX0_build_67 rfl ?_
      refine aw_iconst dX0_build_69 rfl ⟨by decide, by decide⟩ ?_
      refine aw_icmp_ne (tgt := 99) dX0_build_70 rfl (fun h70 => ?_) (fun h70 => absurd h70 (by omega))
      rw [hfS, if_pos (by omega)] at fin
      exact fin M2 x hs2 hf2 hx
    · rw [hfS, if_neg (by omega)] at fin
      have hS1 : fsS S1 (szF f) = S1 := fs_none w1.1 hsz (by omega)
      have hx1 : adr S1 (szF f) = -1 := by rw [hS1] at hx; omega
      rw [hS1] at hs2
      have v51 : M2 (h + 13) 2 = S1.1 731 := hs2.2.2.2.2.2.2.2.2.1 2 (by omega) (by omega)
      have hte : (1000000 : Int).toNat = TE := rfl
      refine aw_rM (fun hrg => ?_)
      have hin : az_in (S1.1 731) := by rw [← v51]; exact hrg _ _
      have ha2 := sp_advance hK0 M2 hs2 w1 (by omega) 1000000 (by omega) (by omega)
      rw [hte] at ha2
      refine aw_aload_n dX0_build_45 rfl rfl ⟨by decide, by decide⟩ ?_
      refine aw_gzF 8 dX0_build_46 fl_RX0_40 (by assumption) rfl rfl (by assumption) ?_
      refine aw_iconst dX0_build_49 rfl ⟨by decide, by decide⟩ ?_
      refine aw_dup2 dX0_build_50 ?_
      refine aw_iv dX0_build_51 (by assumption) (by omega) (by omega) v51 ?_
      refine aw_aload_n dX0_build_52 rfl rfl ⟨by decide, by decide⟩ ?_
      refine aw_ldc dX0_build_53 kc_RX0_140 ⟨by decide, by decide⟩ ?_
      refine aw_cV1i dX0_build_55 ml_RX0_134 (by assumption) (by decide) rfl rfl ⟨by decide, by decide, by decide, by decide⟩ (Nat.le_of_ble_eq_true rfl) (ha2) (fun n2 M3 hM3 => ?_)
      obtain ⟨hn2, hs3, hf3⟩ := hM3
      refine aw_iadd dX0_build_58 rfl ?_
      refine aw_iast dX0_build_59 (by assumption) (by omega) (by omega) ?_
      have ew := advS_wf w1 TE
      have hs4 : HS (az_up M3 (h + 13) 2 (az_wr (S1.1 731 + n2))) h (frcS S1) := by
        rw [hn2]
        exact HC_tly hs3 ew.1.1 ew.1.2.2.2.1 (by omega) (by omega)
      have hf4 : frH M (az_up M3 (h + 13) 2 (az_wr (S1.1 731 + n2))) h := fun b hb => by rw [up_oth _ _ _ (by omega), hf3 b hb]; exact hf2 b hb
      generalize az_up M3 (h + 13) 2 (az_wr (S1.1 731 + n2)) = M4 at hs4 hf4
      have hfB : frcS S1 = findB S1 := by
        unfold findB
        split
        · rfl
        · rename_i e
          obtain ⟨q1, q2⟩ := adv_stop e TE
          unfold frcS
          rw [q1, q2]
          have : gu S1.1 731 (az_wr (S1.1 731 + ((0 : Nat) : Int))) = S1.1 := by
            funext i
            unfold gu
            split
            · rename_i ei
              rw [ei, show S1.1 731 + ((0 : Nat) : Int) = S1.1 731 by omega, az_wr_id hin.1 hin.2]
            · rfl
          rw [this]
      obtain ⟨fb1, fb2, fb3, fb4⟩ := findB_wf w1
      rw [hfB] at hs4
      refine aw_aload_n dX0_build_60 rfl rfl ⟨by decide, by decide⟩ ?_
      refine aw_iload_n dX0_build_61 rfl rfl ?_
      refine aw_cV1i dX0_build_62 ml_RX0_137 (by assumption) (by decide) rfl rfl ⟨by decide, by decide, by decide, by decide⟩ (Nat.le_of_ble_eq_true rfl) (sp_findSlot hK0 M4 hs4 fb1 (szF f) hsz) (fun x2 M5 hM5 => ?_)
      refine aw_istore dX0_build_65 (by decide) ?_
      obtain ⟨hx2, hs5, hf5⟩ := hM5
      replace hf5 : frH M M5 h := hf4.trans hf5
      rw [hfB] at fin
      refine aw_iload dX0_build_67 rfl ?_
      refine aw_iconst dX0_build_69 rfl ⟨by decide, by decide⟩ ?_
      refine aw_icmp_ne (tgt := 99) dX0_build_70 rfl (fun h70 => ?_) (fun h70 => ?_)
      · have hrun : S1.1 726 = 1 := by
          rcases run01 w1 with q | q
          · exfalso
            have : findB S1 = S1 := by unfold findB; rw [if_neg (by omega)]
            rw [this, hS1] at hx2
            omega
          · exact q
        rw [if_pos ⟨hrun, by omega⟩] at fin
        exact fin M5 x2 hs5 hf5 hx2
      · have hS2 : fsS (findB S1) (szF f) = findB S1 := fs_none fb1.1 hsz (by omega)
        rw [hS2] at hs5
        rw [if_neg (fun q => by have := q.2; omega)] at fin
        obtain ⟨st1, st2⟩ := startS_wf fb1.1 fb2
        refine aw_aload_n dX0_build_73 rfl rfl ⟨by decide, by decide⟩ ?_
        refine aw_cV0v dX0_build_74 ml_RX0_141 (by assumption) (by decide) rfl rfl ⟨by decide, by decide, by decide, by decide⟩ (Nat.le_of_ble_eq_true rfl) (sp_begin hK0 M5 hs5 fb1.1 fb2 (by omega)) (fun M6 hM6 => ?_)
        obtain ⟨hs6, -, hf6⟩ := hM6
        replace hf6 : frH M M6 h := hf5.trans hf6
        replace hs6 : HS M6 h (startS (findB S1)) := hs6
        have v83 : M6 (h + 13) 2 = (startS (findB S1)).1 731 := hs6.2.2.2.2.2.2.2.2.1 2 (by omega) (by omega)
        have ha3 := sp_advance hK0 M6 hs6 st1 (by omega) 1000000 (by omega) (by omega)
        rw [hte] at ha3
        refine aw_aload_n dX0_build_77 rfl rfl ⟨by decide, by decide⟩ ?_
        refine aw_gzF 8 dX0_build_78 fl_RX0_40 (by assumption) rfl rfl (by assumption) ?_
        refine aw_iconst dX0_build_81 rfl ⟨by decide, by decide⟩ ?_
        refine aw_dup2 dX0_build_82 ?_
        refine aw_iv dX0_build_83 (by assumption) (by omega) (by omega) v83 ?_
        refine aw_aload_n dX0_build_84 rfl rfl ⟨by decide, by decide⟩ ?_
        refine aw_ldc dX0_build_85 kc_RX0_140 ⟨by decide, by decide⟩ ?_
        refine aw_cV1i dX0_build_87 ml_RX0_134 (by assumption) (by decide) rfl rfl ⟨by decide, by decide, by decide, by decide⟩ (Nat.le_of_ble_eq_true rfl) (ha3) (fun n3 M7 hM7 => ?_)
        obtain ⟨hn3, hs7, hf7⟩ := hM7
        refine aw_iadd dX0_build_90 rfl ?_
        refine aw_iast dX0_build_91 (by assumption) (by omega) (by omega) ?_
        have ew3 := advS_wf st1 TE
        have hs8 : HS (az_up M7 (h + 13) 2 (az_wr ((startS (findB S1)).1 731 + n3))) h (frcS (startS (findB S1))) := by
          rw [hn3]
          exact HC_tly hs7 ew3.1.1 ew3.1.2.2.2.1 (by omega) (by omega)
        have hf8 : frH M (az_up M7 (h + 13) 2 (az_wr ((startS (findB S1)).1 731 + n3))) h := fun b hb => by rw [up_oth _ _ _ (by omega), hf7 b hb]; exact hf6 b hb
        generalize az_up M7 (h + 13) 2 (az_wr ((startS (findB S1)).1 731 + n3)) = M8 at hs8 hf8
        refine aw_aload_n dX0_build_92 rfl rfl ⟨by decide, by decide⟩ ?_
        refine aw_iload_n dX0_build_93 rfl rfl ?_
        refine aw_cV1i dX0_build_94 ml_RX0_137 (by assumption) (by decide) rfl rfl ⟨by decide, by decide, by decide, by decide⟩ (Nat.le_of_ble_eq_true rfl) (sp_findSlot hK0 M8 hs8 (frcS_wf st1).1 (szF f) hsz) (fun x3 M9 hM9 => ?_)
        refine aw_istore dX0_build_97 (by decide) ?_
        obtain ⟨hx3, hs9, hf9⟩ := hM9
        exact fin M9 x3 hs9 (hf8.trans hf9) hx3
  have hz : szF f = if f < 2 then 2 else if f < 4 then 4 else 8 := rfl
  refine aw_iload_n dX0_build_0 rfl rfl ?_
  refine aw_iconst dX0_build_1 rfl ⟨by decide, by decide⟩ ?_
  refine aw_icmp_ge (tgt := 9) dX0_build_2 rfl (fun h2 => ?_) (fun h2 => ?_)
  · refine aw_iload_n dX0_build_9 rfl rfl ?_
    refine aw_iconst dX0_build_10 rfl ⟨by decide, by decide⟩ ?_
    refine aw_icmp_ge (tgt := 18) dX0_build_11 rfl (fun h11 => ?_) (fun h11 => ?_)
    · rw [if_neg (by omega), if_neg (by omega)] at hz
      rw [hz] at main
      refine aw_bipush dX0_build_18 (by decide) ⟨by decide, by decide⟩ ?_
      exact main
    · rw [if_neg (by omega), if_pos (by omega)] at hz
      rw [hz] at main
      refine aw_iconst dX0_build_14 rfl ⟨by decide, by decide⟩ ?_
      refine aw_goto (tgt := 20) dX0_build_15 rfl ?_
      exact main
  · rw [if_pos (by omega)] at hz
    rw [hz] at main
    refine aw_iconst dX0_build_5 rfl ⟨by decide, by decide⟩ ?_
    refine aw_goto (tgt := 20) dX0_build_6 rfl ?_
    exact main
