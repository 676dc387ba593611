/-! Heap.finish, whole -/
theorem dd_eI {M : az_M} {h : Int} {g gA : Int → Int} (hcel : c_cel M h gA) (hf : w_fld gA) (hsl : ∀ b, sl gA b ↔ sl g b) (hat : ∀ a, 0 ≤ a → a < 128 → gA a = if g a = 1 then 0 else g a) {v : Int} (hv : nok g v) : dd (M (h + 6)) v = eI g v := by
  unfold dd eI
  rcases hv with e | e
  · rw [if_neg (by omega), if_neg (by omega)]
  · have h0 := e.1.1
    have hs := (hsl v).mpr e.1
    have ha := hat v h0 e.1.2.1
    have hc := hcel v hs
    by_cases q : g v = 1
    · rw [if_pos q] at ha
      rw [if_pos ⟨by omega, hc.1 ha⟩, if_pos ⟨h0, q⟩]
    · rw [if_neg q] at ha
      have hne : gA v ≠ 0 := by rw [ha]; exact e.2
      have h1 := (hc.2 hne).1
      have h2 := (hf v hs).2 hne
      rw [if_neg (by omega), if_neg (fun w => q w.2)]
set_option maxRecDepth 20000 in
set_option maxHeartbeats 2000000 in
theorem sp_finish {K : az_K} {h : Int} (hK : HpK K h) (M : az_M) {g : Int → Int} {rg : Int → List Int} {gl : List Int} (hc : HC M h g rg gl) (hw : WF0 g rg gl) (hcy : g 729 ≤ 2000000000) : AM yX0_finish cX0_finish 6 none 1 0 0 [(1, h)] K M (qv K (fun M' => HC M' h (endG g rg) (rgE rg) gl ∧ ∀ b, b < h ∨ h + 14 < b → M' b = M b)) := by
  have hK0 := hK
  obtain ⟨hRg, kh, k6, k7, k8, k9, k10, k11, k12, k13, k14, z0, z1, z2, z3, z4, z5, z6, z7, z8, z9⟩ := hK
  refine am_of (by decide) (Nat.le_of_ble_eq_true rfl) (L := [(1, h), (9, 0), (9, 0), (9, 0), (9, 0), (9, 0)]) rfl ?_
  have hR := WR_of hw
  have hfl := hw.2.2.2.1
  have hnam := hw.2.2.2.2.1
  refine aw_aload_n dX0_finish_0 rfl rfl ⟨by decide, by decide⟩ ?_
  refine aw_iconst dX0_finish_1 rfl ⟨by decide, by decide⟩ ?_
  refine aw_pz 15 dX0_finish_2 fl_RX0_74 (by assumption) rfl rfl (by omega) ?_
  refine aw_iconst dX0_finish_5 rfl ⟨by decide, by decide⟩ ?_
  refine aw_istore_n dX0_finish_6 rfl (by decide) ?_
  refine aw_iconst dX0_finish_7 rfl ⟨by decide, by decide⟩ ?_
  refine aw_istore_n dX0_finish_8 rfl (by decide) ?_
  generalize hM0 : az_up M h 15 0 = M0
  have o0 : ∀ b, b ≠ h → M0 b = M b := fun b hb => by rw [← hM0, up_oth _ _ _ hb]
  have g0lo : ∀ i, i < 726 → gu g 726 0 i = g i := fun i hi => gu_n _ _ (by omega)
  have hc0 : HC M0 h (gu g 726 0) rg gl := by
    refine HC_sca hc hw.1 hfl o0 ?_ (fun i hi => gu_n _ _ (by omega)) ?_
    · rw [← hM0, az_up_i _ _ _ _ (by omega)]
    · have q := hc.2.2.2.2.2.2.2.2.2.2
      unfold c_sca at q ⊢
      rw [← hM0, az_up_i _ _ _ _ (by omega), az_up_i _ _ _ _ (by omega), az_up_i _ _ _ _ (by omega), az_up_i _ _ _ _ (by omega), az_up_s, gu_s, gu_n _ _ (by omega), gu_n _ _ (by omega), gu_n _ _ (by omega), gu_n _ _ (by omega)]
      exact ⟨q.1, q.2.1, q.2.2.1, q.2.2.2.1, rfl⟩
  have hw0 : WR (gu g 726 0) rg := WR_congr hR g0lo
  have hf0 : w_fld (gu g 726 0) := w_fld_congr hfl g0lo
  have len1 := row_len hR (k := 1) (by omega) (by omega)
  have len5 := row_len hR (k := 5) (by omega) (by omega)
  have len9 := row_len hR (k := 9) (by omega) (by omega)
  generalize hg0 : gu g 726 0 = g0 at hc0 hw0 hf0 g0lo
  -- the first size
  have ct1 := (hc0.1.2.1 1 (by omega) (by omega)).2.2.1
  refine aw_iload_n dX0_finish_9 rfl rfl ?_
  refine aw_bipush dX0_finish_10 (by decide) ⟨by decide, by decide⟩ ?_
  refine aw_icmp_gt (tgt := 99) dX0_finish_12 rfl (fun h12 => absurd h12 (by omega)) (fun h12 => ?_)
  refine aw_iload_n dX0_finish_15 rfl rfl ?_
  refine aw_iconst dX0_finish_16 rfl ⟨by decide, by decide⟩ ?_
  refine aw_cS2p dX0_finish_17 ml_RX0_96 ⟨by decide, by decide, by decide, by decide⟩ (Nat.le_of_ble_eq_true rfl) (qp_c (sp_row K M0 2 1 (by omega) (by omega) (by omega) (by omega)) (show (2 : Int) / 4 * 4 + 1 = 0 + 1 by omega)) ?_
  refine aw_istore_n dX0_finish_20 rfl (by decide) ?_
  refine aw_aload_n dX0_finish_21 rfl rfl ⟨by decide, by decide⟩ ?_
  refine aw_gzF 0 dX0_finish_22 fl_RX0_12 (by assumption) rfl rfl (by assumption) ?_
  refine aw_iload_n dX0_finish_25 rfl rfl ?_
  refine aw_cV1p dX0_finish_26 ml_RX0_99 hRg.1 (by decide) rfl rfl ⟨by decide, by decide, by decide, by decide⟩ (Nat.le_of_ble_eq_true rfl) (qp_c (sp_count hRg M0 (0 + 1) (by omega) (by omega)) ct1) ?_
  refine aw_istore dX0_finish_29 (by decide) ?_
  have t1 : Tr rg (0 + 1) 0 [] (rg 1) = rg := Tr_nil rg (k := 0 + 1) (k' := 0) (by omega)
  refine fin_row (g := g0) (rg := rg) hK0 0 2 (by omega) (rg 1) [] M0 0 _ _ (by rw [Fg_nil, t1]; exact hc0) (by rw [Fg_nil, t1]; exact hw0) (by rw [Fg_nil]; exact hf0) rfl (by omega) (by omega) (fun M1 x51 hc1 hw1 hf1 fr1' => ?_)
  rw [List.nil_append] at hc1 hw1 hf1
  generalize hg1 : Fg g0 (rg 1) = g1 at hc1 hw1 hf1
  generalize hr1 : Tr rg (0 + 1) 0 (rg 1) [] = rg1 at hc1 hw1
  have r15 : rg1 5 = rg 5 := by rw [← hr1]; simp [Tr]
  have r19 : rg1 9 = rg 9 := by rw [← hr1]; simp [Tr]
  have ct5 := (hc1.1.2.1 5 (by omega) (by omega)).2.2.1
  rw [r15] at ct5
  refine aw_iload_n dX0_finish_92 rfl rfl ?_
  refine aw_iconst dX0_finish_93 rfl ⟨by decide, by decide⟩ ?_
  refine aw_imul dX0_finish_94 (az_wr_id (by omega) (by omega)) ?_
  refine aw_istore_n dX0_finish_95 rfl (by decide) ?_
  refine aw_goto (tgt := 9) dX0_finish_96 rfl ?_
  refine aw_iload_n dX0_finish_9 rfl rfl ?_
  refine aw_bipush dX0_finish_10 (by decide) ⟨by decide, by decide⟩ ?_
  refine aw_icmp_gt (tgt := 99) dX0_finish_12 rfl (fun h12 => absurd h12 (by omega)) (fun h12 => ?_)
  refine aw_iload_n dX0_finish_15 rfl rfl ?_
  refine aw_iconst dX0_finish_16 rfl ⟨by decide, by decide⟩ ?_
  refine aw_cS2p dX0_finish_17 ml_RX0_96 ⟨by decide, by decide, by decide, by decide⟩ (Nat.le_of_ble_eq_true rfl) (qp_c (sp_row K M1 4 1 (by omega) (by omega) (by omega) (by omega)) (show (4 : Int) / 4 * 4 + 1 = 4 + 1 by omega)) ?_
  refine aw_istore_n dX0_finish_20 rfl (by decide) ?_
  refine aw_aload_n dX0_finish_21 rfl rfl ⟨by decide, by decide⟩ ?_
  refine aw_gzF 0 dX0_finish_22 fl_RX0_12 (by assumption) rfl rfl (by assumption) ?_
  refine aw_iload_n dX0_finish_25 rfl rfl ?_
  refine aw_cV1p dX0_finish_26 ml_RX0_99 hRg.1 (by decide) rfl rfl ⟨by decide, by decide, by decide, by decide⟩ (Nat.le_of_ble_eq_true rfl) (qp_c (sp_count hRg M1 (4 + 1) (by omega) (by omega)) ct5) ?_
  refine aw_istore dX0_finish_29 (by decide) ?_
  have t5 : Tr rg1 (4 + 1) 4 [] (rg 5) = rg1 := by rw [← r15]; exact Tr_nil rg1 (k := 4 + 1) (k' := 4) (by omega)
  refine fin_row (g := g1) (rg := rg1) hK0 4 4 (by omega) (rg 5) [] M1 _ _ _ (by rw [Fg_nil, t5]; exact hc1) (by rw [Fg_nil, t5]; exact hw1) (by rw [Fg_nil]; exact hf1) rfl (by omega) (by omega) (fun M2 x52 hc2 hw2 hf2 fr2' => ?_)
  rw [List.nil_append] at hc2 hw2 hf2
  generalize hg2 : Fg g1 (rg 5) = g2 at hc2 hw2 hf2
  generalize hr2 : Tr rg1 (4 + 1) 4 (rg 5) [] = rg2 at hc2 hw2
  have r29 : rg2 9 = rg 9 := by rw [← hr2, ← r19]; simp [Tr]
  have ct9 := (hc2.1.2.1 9 (by omega) (by omega)).2.2.1
  rw [r29] at ct9
  refine aw_iload_n dX0_finish_92 rfl rfl ?_
  refine aw_iconst dX0_finish_93 rfl ⟨by decide, by decide⟩ ?_
  refine aw_imul dX0_finish_94 (az_wr_id (by omega) (by omega)) ?_
  refine aw_istore_n dX0_finish_95 rfl (by decide) ?_
  refine aw_goto (tgt := 9) dX0_finish_96 rfl ?_
  refine aw_iload_n dX0_finish_9 rfl rfl ?_
  refine aw_bipush dX0_finish_10 (by decide) ⟨by decide, by decide⟩ ?_
  refine aw_icmp_gt (tgt := 99) dX0_finish_12 rfl (fun h12 => absurd h12 (by omega)) (fun h12 => ?_)
  refine aw_iload_n dX0_finish_15 rfl rfl ?_
  refine aw_iconst dX0_finish_16 rfl ⟨by decide, by decide⟩ ?_
  refine aw_cS2p dX0_finish_17 ml_RX0_96 ⟨by decide, by decide, by decide, by decide⟩ (Nat.le_of_ble_eq_true rfl) (qp_c (sp_row K M2 8 1 (by omega) (by omega) (by omega) (by omega)) (show (8 : Int) / 4 * 4 + 1 = 8 + 1 by omega)) ?_
  refine aw_istore_n dX0_finish_20 rfl (by decide) ?_
  refine aw_aload_n dX0_finish_21 rfl rfl ⟨by decide, by decide⟩ ?_
  refine aw_gzF 0 dX0_finish_22 fl_RX0_12 (by assumption) rfl rfl (by assumption) ?_
  refine aw_iload_n dX0_finish_25 rfl rfl ?_
  refine aw_cV1p dX0_finish_26 ml_RX0_99 hRg.1 (by decide) rfl rfl ⟨by decide, by decide, by decide, by decide⟩ (Nat.le_of_ble_eq_true rfl) (qp_c (sp_count hRg M2 (8 + 1) (by omega) (by omega)) ct9) ?_
  refine aw_istore dX0_finish_29 (by decide) ?_
  have t9 : Tr rg2 (8 + 1) 8 [] (rg 9) = rg2 := by rw [← r29]; exact Tr_nil rg2 (k := 8 + 1) (k' := 8) (by omega)
  refine fin_row (g := g2) (rg := rg2) hK0 8 8 (by omega) (rg 9) [] M2 _ _ _ (by rw [Fg_nil, t9]; exact hc2) (by rw [Fg_nil, t9]; exact hw2) (by rw [Fg_nil]; exact hf2) rfl (by omega) (by omega) (fun M3 x53 hc3 hw3 hf3 fr3' => ?_)
  rw [List.nil_append] at hc3 hw3 hf3
  have hgA : Fg g2 (rg 9) = gAf g0 rg := by rw [← hg2, ← hg1]; rfl
  have hrA : Tr rg2 (8 + 1) 8 (rg 9) [] = rgE rg := by
    have e0 : rgE rg = Tr (Tr (Tr rg 1 0 (rg 1) []) 5 4 (rg 5) []) 9 8 (rg 9) [] := rfl
    rw [e0, ← hr2, ← hr1]
    rfl
  rw [hgA, hrA] at hc3 hw3
  rw [hgA] at hf3
  have hat : ∀ a, 0 ≤ a → a < 128 → gAf g0 rg a = if g a = 1 then 0 else g a := by
    intro a a0 a1
    rw [gAf_at hw0 a0 a1, g0lo a (by omega)]
  have hslA : ∀ b, sl (gAf g0 rg) b ↔ sl g b := by
    intro b
    rw [gAf_sl hw0]
    unfold sl pz
    constructor
    · rintro ⟨q0, q1, q2⟩
      rw [g0lo _ (by omega)] at q2
      exact ⟨q0, q1, q2⟩
    · rintro ⟨q0, q1, q2⟩
      rw [g0lo _ (by omega)]
      exact ⟨q0, q1, q2⟩
  have hbigA : ∀ x, 256 ≤ x → x ≠ 726 → gAf g0 rg x = g x := by
    intro x hx hx2
    rw [gAf_big hw0 hx, ← hg0, gu_n _ _ hx2]
  have hobA : ∀ a, ob (gAf g0 rg) a → ob g a ∧ g a ≠ 1 := by
    rintro a ⟨q1, q2⟩
    have q3 := (hslA a).mp q1
    rw [hat a q1.1 q1.2.1] at q2
    by_cases e : g a = 1
    · rw [if_pos e] at q2; exact absurd rfl q2
    · rw [if_neg e] at q2; exact ⟨⟨q3, q2⟩, e⟩
  have hflA : ∀ a, 0 ≤ a → a < 128 → g a ≠ 1 → gAf g0 rg (128 + a) = g (128 + a) := by
    intro a a0 a1 e
    rw [gAf_fl hw0 a0 a1, g0lo a (by omega), if_neg e, g0lo _ (by omega)]
  -- names of the objects that stay
  have hval : ∀ a f, ob (gAf g0 rg) a → 0 ≤ f → f < gAf g0 rg (128 + a) → M3 (h + 6) (a + 1 + f) = g (256 + a + 1 + f) ∧ nok g (g (256 + a + 1 + f)) := by
    intro a f ha f0 f1
    obtain ⟨q1, q2⟩ := hobA a ha
    have q3 := ((hc3.2.2.1 a ha.1).2 ha.2).2 f f0 f1
    have q4 := (hf3 a ha.1).2 ha.2
    have q5 := base_of hw3.1 (f := f + 1) ha.1 (by omega) (by omega)
    rw [hflA a q1.1.1 q1.1.2.1 q2] at f1
    have a0 := q1.1.1
    rw [hbigA _ (by omega) (by omega)] at q3
    exact ⟨q3, hnam.2 a f q1 f0 f1⟩
  have hnm3 : ∀ a f, ob (gAf g0 rg) a → 0 ≤ f → f < gAf g0 rg (128 + a) → M3 (h + 6) (a + 1 + f) = -1 ∨ sl (gAf g0 rg) (M3 (h + 6) (a + 1 + f)) := by
    intro a f ha f0 f1
    obtain ⟨q1, q2⟩ := hval a f ha f0 f1
    rw [q1]
    rcases q2 with e | e
    · exact Or.inl e
    · exact Or.inr ((hslA _).mpr e.1)
  have hdd : ∀ v, nok g v → dd (M3 (h + 6)) v = eI g v := fun v hv => dd_eI hc3.2.2.1 hf3 hslA hat hv
  refine aw_iload_n dX0_finish_92 rfl rfl ?_
  refine aw_iconst dX0_finish_93 rfl ⟨by decide, by decide⟩ ?_
  refine aw_imul dX0_finish_94 (az_wr_id (by omega) (by omega)) ?_
  refine aw_istore_n dX0_finish_95 rfl (by decide) ?_
  refine aw_goto (tgt := 9) dX0_finish_96 rfl ?_
  refine aw_iload_n dX0_finish_9 rfl rfl ?_
  refine aw_bipush dX0_finish_10 (by decide) ⟨by decide, by decide⟩ ?_
  refine aw_icmp_gt (tgt := 99) dX0_finish_12 rfl (fun h12 => ?_) (fun h12 => absurd h12 (by omega))
  refine aw_iconst dX0_finish_99 rfl ⟨by decide, by decide⟩ ?_
  refine aw_istore_n dX0_finish_100 rfl (by decide) ?_
  refine fin_names hK0 hc3 hw3 hf3 hnm3 _ _ _ _ (fun M4 e6 e13 eo => ?_)
  have hnr : ∀ r, 0 ≤ r → r < 6 → M4 (h + 9) r = g (715 + r) := by
    intro r r0 r1
    rw [eo _ (by omega) (by omega), hc3.2.2.2.2.2.1.1 r r0 r1, hbigA _ (by omega) (by omega)]
  have hnw : ∀ w, 0 ≤ w → w < 4 → M4 (h + 10) w = g (721 + w) := by
    intro w w0 w1
    rw [eo _ (by omega) (by omega), hc3.2.2.2.2.2.1.2 w w0 w1, hbigA _ (by omega) (by omega)]
  have hddc : ∀ v, nok g v → dd (M4 (h + 6)) v = eI g v := by
    intro v hv
    rw [e6, dd_cr (hv.imp id (fun q => (hslA v).mpr q.1)), hdd v hv]
  have hnk : ∀ v, nok g v → v = -1 ∨ 0 ≤ v ∧ v < 128 := fun v hv => hv.imp id (fun q => ⟨q.1.1, q.1.2.1⟩)
  have hspr := sp_forget hK0 M4 (h + 9) 0 6 6 6 k9 (by omega) (by omega) (by omega) (by omega) (fun j j0 j1 => by
    rw [hnr j j0 j1]
    exact (hnk _ (hnam.1 (715 + j) (by omega) (by omega))).imp id (fun q => ⟨q.1, q.2, fun e => by omega⟩))
  have hsumr : sumN 6 (fun i => dd (M4 (h + 6)) (M4 (h + 9) (0 + i))) = sumN 6 (fun r => eI g (g (715 + r))) := by
    refine sumN_congr _ (fun i hi => ?_)
    rw [Int.zero_add, hnr i (by omega) (by omega), hddc _ (hnam.1 (715 + (i : Int)) (by omega) (by omega))]
  -- the objects' lost names
  generalize hLA : sumN 64 (fun n => if gAf g0 rg (2 * n) ≠ 0 then sumN (gAf g0 rg (128 + 2 * n)).toNat (fun f => dd (M3 (h + 6)) (M3 (h + 6) (2 * n + 1 + f))) else 0) = LA at e13
  have hLA2 : LA = sumN 64 (fun n => lostO g rg (2 * n)) := by
    rw [← hLA]
    refine sumN_congr _ (fun n hn => ?_)
    unfold lostO
    have hn2 : gAf g rg (2 * (n : Int)) = gAf g0 rg (2 * (n : Int)) := by rw [gAf_at hR (by omega) (by omega), hat _ (by omega) (by omega)]
    rw [hn2]
    by_cases e : gAf g0 rg (2 * (n : Int)) ≠ 0
    · rw [if_pos e, if_pos e]
      have hsn : sl (gAf g0 rg) (2 * (n : Int)) := by
        rcases sl_dec (gAf g0 rg) (2 * (n : Int)) with q | q
        · exact q
        · exact absurd ((hw3.2.1 _ (by omega) (by omega)).2.2 q) e
      obtain ⟨q1, q2⟩ := hobA _ ⟨hsn, e⟩
      have q3 := hflA _ q1.1.1 q1.1.2.1 q2
      rw [q3]
      refine sumN_congr _ (fun f hf => ?_)
      obtain ⟨q4, q5⟩ := hval (2 * (n : Int)) f ⟨hsn, e⟩ (by omega) (by rw [q3]; omega)
      rw [q4, hdd _ q5]
    · rw [if_neg e, if_neg e]
  have ht3 : ∀ i, 0 ≤ i → i < 6 → M3 (h + 13) i = g (729 + i) := by
    intro i i0 i1
    rw [hc3.2.2.2.2.2.2.2.2.1 i i0 i1, hbigA _ (by omega) (by omega)]
  have v161 : M4 (h + 13) 3 = az_wr (g 732 + LA) := by
    rw [e13]
    show (if (3 : Int) = 3 then _ else _) = _
    rw [if_pos rfl, ht3 3 (by omega) (by omega)]
    rfl
  refine aw_aload_n dX0_finish_155 rfl rfl ⟨by decide, by decide⟩ ?_
  refine aw_gzF 8 dX0_finish_156 fl_RX0_40 (by assumption) rfl rfl (by assumption) ?_
  refine aw_iconst dX0_finish_159 rfl ⟨by decide, by decide⟩ ?_
  refine aw_dup2 dX0_finish_160 ?_
  refine aw_iv dX0_finish_161 (by assumption) (by omega) (by omega) v161 ?_
  refine aw_aload_n dX0_finish_162 rfl rfl ⟨by decide, by decide⟩ ?_
  refine aw_aload_n dX0_finish_163 rfl rfl ⟨by decide, by decide⟩ ?_
  refine aw_gzF 4 dX0_finish_164 fl_RX0_28 (by assumption) rfl rfl (by assumption) ?_
  refine aw_iconst dX0_finish_167 rfl ⟨by decide, by decide⟩ ?_
  refine aw_bipush dX0_finish_168 (by decide) ⟨by decide, by decide⟩ ?_
  refine aw_cV3i dX0_finish_170 ml_RX0_126 (by assumption) (by decide) rfl rfl ⟨by decide, by decide, by decide, by decide⟩ (Nat.le_of_ble_eq_true rfl) (hspr) (fun zr M5 hzr => ?_)
  refine aw_iadd dX0_finish_173 rfl ?_
  refine aw_iast dX0_finish_174 (by assumption) (by omega) (by omega) ?_
  obtain ⟨hzr1, hzr2⟩ := hzr
  rw [hsumr] at hzr1
  generalize hM6 : az_up M5 (h + 13) 3 (az_wr (az_wr (g 732 + LA) + zr)) = M6
  have f6 : M6 (h + 6) = M4 (h + 6) := by
    rw [← hM6, up_oth _ _ _ (by omega), hzr2]
    unfold fgt
    rw [if_neg (by omega)]
  have f10 : M6 (h + 10) = M4 (h + 10) := by
    rw [← hM6, up_oth _ _ _ (by omega), hzr2]
    unfold fgt
    rw [if_neg (by omega)]
  have hspw := sp_forget hK0 M6 (h + 10) 0 4 4 4 k10 (by omega) (by omega) (by omega) (by omega) (fun j j0 j1 => by
    rw [f10, hnw j j0 j1]
    exact (hnk _ (hnam.1 (721 + j) (by omega) (by omega))).imp id (fun q => ⟨q.1, q.2, fun e => by omega⟩))
  have hsumw : sumN 4 (fun i => dd (M6 (h + 6)) (M6 (h + 10) (0 + i))) = clrN g := by
    unfold clrN
    refine sumN_congr _ (fun i hi => ?_)
    rw [f6, f10, Int.zero_add, hnw i (by omega) (by omega), hddc _ (hnam.1 (721 + (i : Int)) (by omega) (by omega))]
  have t6 : M6 (h + 13) = fun j => if j = 3 then az_wr (az_wr (g 732 + LA) + zr) else M3 (h + 13) j := by
    rw [← hM6, up_row, hzr2]
    unfold fgt
    rw [if_neg (by omega), e13]
    funext j
    by_cases e : j = 3
    · rw [if_pos e, if_pos e]
    · rw [if_neg e, if_neg e]
      exact if_neg e
  have v181 : M6 (h + 13) 5 = g 734 := by
    rw [t6]
    show (if (5 : Int) = 3 then _ else _) = _
    rw [if_neg (by omega), ht3 5 (by omega) (by omega)]
    rfl
  refine aw_aload_n dX0_finish_175 rfl rfl ⟨by decide, by decide⟩ ?_
  refine aw_gzF 8 dX0_finish_176 fl_RX0_40 (by assumption) rfl rfl (by assumption) ?_
  refine aw_iconst dX0_finish_179 rfl ⟨by decide, by decide⟩ ?_
  refine aw_dup2 dX0_finish_180 ?_
  refine aw_iv dX0_finish_181 (by assumption) (by omega) (by omega) v181 ?_
  refine aw_aload_n dX0_finish_182 rfl rfl ⟨by decide, by decide⟩ ?_
  refine aw_aload_n dX0_finish_183 rfl rfl ⟨by decide, by decide⟩ ?_
  refine aw_gzF 5 dX0_finish_184 fl_RX0_31 (by assumption) rfl rfl (by assumption) ?_
  refine aw_iconst dX0_finish_187 rfl ⟨by decide, by decide⟩ ?_
  refine aw_iconst dX0_finish_188 rfl ⟨by decide, by decide⟩ ?_
  refine aw_cV3i dX0_finish_189 ml_RX0_126 (by assumption) (by decide) rfl rfl ⟨by decide, by decide, by decide, by decide⟩ (Nat.le_of_ble_eq_true rfl) (hspw) (fun zw M7 hzw => ?_)
  refine aw_iadd dX0_finish_192 rfl ?_
  refine aw_iast dX0_finish_193 (by assumption) (by omega) (by omega) ?_
  obtain ⟨hzw1, hzw2⟩ := hzw
  rw [hsumw] at hzw1
  generalize hM8 : az_up M7 (h + 13) 5 (az_wr (g 734 + zw)) = M8
  have t8 : M8 (h + 13) = fun j => if j = 5 then az_wr (g 734 + zw) else if j = 3 then az_wr (az_wr (g 732 + LA) + zr) else M3 (h + 13) j := by
    rw [← hM8, up_row, hzw2]
    unfold fgt
    rw [if_neg (by omega), t6]
  have r8 : M8 (h + 6) = cr (gAf g0 rg) (M3 (h + 6)) 64 := by
    rw [← hM8, up_oth _ _ _ (by omega), hzw2]
    unfold fgt
    rw [if_neg (by omega), f6, e6]
  have r89 : ∀ r, 0 ≤ r → r < 6 → M8 (h + 9) r = if eI g (g (715 + r)) = 1 then -1 else g (715 + r) := by
    intro r r0 r1
    rw [← hM8, up_oth _ _ _ (by omega), hzw2]
    unfold fgt
    rw [if_neg (by omega), ← hM6, up_oth _ _ _ (by omega), hzr2]
    unfold fgt
    rw [if_pos rfl, hnr r r0 r1, hddc _ (hnam.1 (715 + r) (by omega) (by omega))]
    by_cases e : eI g (g (715 + r)) = 1
    · rw [if_pos e, if_pos ⟨r0, r1, e⟩]
    · rw [if_neg e, if_neg (fun q => e q.2.2)]
  have r810 : ∀ w, 0 ≤ w → w < 4 → M8 (h + 10) w = if eI g (g (721 + w)) = 1 then -1 else g (721 + w) := by
    intro w w0 w1
    rw [← hM8, up_oth _ _ _ (by omega), hzw2]
    unfold fgt
    rw [if_pos rfl, f6, f10, hnw w w0 w1, hddc _ (hnam.1 (721 + w) (by omega) (by omega))]
    by_cases e : eI g (g (721 + w)) = 1
    · rw [if_pos e, if_pos ⟨w0, w1, e⟩]
    · rw [if_neg e, if_neg (fun q => e q.2.2)]
  have r8o : ∀ b, b ≠ h + 6 → b ≠ h + 9 → b ≠ h + 10 → b ≠ h + 13 → M8 b = M3 b := by
    intro b b1 b2 b3 b4
    rw [← hM8, up_oth _ _ _ b4, hzw2]
    unfold fgt
    rw [if_neg b3, ← hM6, up_oth _ _ _ b4, hzr2]
    unfold fgt
    rw [if_neg b2]
    exact eo b b1 b4
  have hsca := hc3.2.2.2.2.2.2.2.2.2.2
  have hlog := hc3.2.2.2.2.2.2.2.2.2.1
  have c729 : gAf g0 rg 729 = g 729 := hbigA 729 (by omega) (by omega)
  have hcy0 : 0 ≤ g 729 := by rw [← c729]; exact hlog.1
  have v199 : M8 (h + 13) 0 = g 729 := by
    rw [t8]
    show (if (0 : Int) = 5 then _ else if (0 : Int) = 3 then _ else _) = _
    rw [if_neg (by omega), if_neg (by omega), ht3 0 (by omega) (by omega)]
    rfl
  have v216 : M8 (h + 13) 1 = g 730 := by
    rw [t8]
    show (if (1 : Int) = 5 then _ else if (1 : Int) = 3 then _ else _) = _
    rw [if_neg (by omega), if_neg (by omega), ht3 1 (by omega) (by omega)]
    rfl
  have v218 : M8 h 14 = g 740 := by
    rw [r8o h (by omega) (by omega) (by omega) (by omega), hsca.2.2.2.1, hbigA _ (by omega) (by omega)]
  have hob8 : WR (gAf g0 rg) (rgE rg) := hw3
  refine aw_aload_n dX0_finish_194 rfl rfl ⟨by decide, by decide⟩ ?_
  refine aw_gzF 8 dX0_finish_195 fl_RX0_40 (by assumption) rfl rfl (by assumption) ?_
  refine aw_iconst dX0_finish_198 rfl ⟨by decide, by decide⟩ ?_
  refine aw_iv dX0_finish_199 (by assumption) (by omega) (by omega) v199 ?_
  refine aw_bipush dX0_finish_200 (by decide) ⟨by decide, by decide⟩ ?_
  refine aw_irem dX0_finish_202 (by omega) (by omega) ?_
  refine aw_iconst dX0_finish_203 rfl ⟨by decide, by decide⟩ ?_
  refine aw_imul dX0_finish_204 (az_wr_id (by omega) (by omega)) ?_
  refine aw_istore_n dX0_finish_205 rfl (by decide) ?_
  refine aw_aload_n dX0_finish_206 rfl rfl ⟨by decide, by decide⟩ ?_
  refine aw_gzF 9 dX0_finish_207 fl_RX0_43 (by assumption) rfl rfl (by assumption) ?_
  refine aw_iload_n dX0_finish_210 rfl rfl ?_
  refine aw_aload_n dX0_finish_211 rfl rfl ⟨by decide, by decide⟩ ?_
  refine aw_gzF 8 dX0_finish_212 fl_RX0_40 (by assumption) rfl rfl (by assumption) ?_
  refine aw_iconst dX0_finish_215 rfl ⟨by decide, by decide⟩ ?_
  refine aw_iv dX0_finish_216 (by assumption) (by omega) (by omega) v216 ?_
  refine aw_aload_n dX0_finish_217 rfl rfl ⟨by decide, by decide⟩ ?_
  refine aw_gi 14 dX0_finish_218 fl_RX0_71 (by assumption) rfl rfl v218 ?_
  refine aw_isub dX0_finish_221 rfl ?_
  refine aw_iast dX0_finish_222 (by assumption) (by omega) (by omega) ?_
  refine aw_aload_n dX0_finish_223 rfl rfl ⟨by decide, by decide⟩ ?_
  refine aw_gzF 9 dX0_finish_224 fl_RX0_43 (by assumption) rfl rfl (by assumption) ?_
  refine aw_iload_n dX0_finish_227 rfl rfl ?_
  refine aw_iconst dX0_finish_228 rfl ⟨by decide, by decide⟩ ?_
  refine aw_iadd dX0_finish_229 (az_wr_id (by omega) (by omega)) ?_
  refine aw_iload_n dX0_finish_230 rfl rfl ?_
  refine aw_iast dX0_finish_231 (by assumption) (by omega) (by omega) ?_
  generalize hM9 : az_up (az_up M8 (h + 14) (g 729 % 16 * 3) (az_wr (g 730 - g 740))) (h + 14) (g 729 % 16 * 3 + 1) (0 + ((rg 1).length : Int) + ((rg 5).length : Int) + ((rg 9).length : Int)) = M9
  have r9o : ∀ b, b ≠ h + 14 → M9 b = M8 b := fun b hb => by rw [← hM9, up_oth _ _ _ hb, up_oth _ _ _ hb]
  have hu9 : c_use M9 h (rgE rg) := by
    intro p p0 p1
    rw [r9o _ (by omega), r8o _ (by omega) (by omega) (by omega) (by omega)]
    exact hc3.2.2.2.2.1 p p0 p1
  have hp9 : M9 h 10 = gAf g0 rg 725 := by
    rw [r9o _ (by omega), r8o _ (by omega) (by omega) (by omega) (by omega)]
    exact hsca.1
  refine aw_aload_n dX0_finish_232 rfl rfl ⟨by decide, by decide⟩ ?_
  refine aw_gzF 9 dX0_finish_233 fl_RX0_43 (by assumption) rfl rfl (by assumption) ?_
  refine aw_iload_n dX0_finish_236 rfl rfl ?_
  refine aw_iconst dX0_finish_237 rfl ⟨by decide, by decide⟩ ?_
  refine aw_iadd dX0_finish_238 (az_wr_id (by omega) (by omega)) ?_
  refine aw_aload_n dX0_finish_239 rfl rfl ⟨by decide, by decide⟩ ?_
  refine aw_cV0p dX0_finish_240 ml_RX0_130 (by assumption) (by decide) rfl rfl ⟨by decide, by decide, by decide, by decide⟩ (Nat.le_of_ble_eq_true rfl) (sp_objects hK0 M9 hob8 hu9 hp9) ?_
  refine aw_iast dX0_finish_243 (by assumption) (by omega) (by omega) ?_
  have v250 : az_up M9 (h + 14) (g 729 % 16 * 3 + 2) (obN (rgE rg)) (h + 13) 0 = g 729 := by
    rw [up_oth _ _ _ (by omega), r9o _ (by omega)]
    exact v199
  refine aw_aload_n dX0_finish_244 rfl rfl ⟨by decide, by decide⟩ ?_
  refine aw_gzF 8 dX0_finish_245 fl_RX0_40 (by assumption) rfl rfl (by assumption) ?_
  refine aw_iconst dX0_finish_248 rfl ⟨by decide, by decide⟩ ?_
  refine aw_dup2 dX0_finish_249 ?_
  refine aw_iv dX0_finish_250 (by assumption) (by omega) (by omega) v250 ?_
  refine aw_iconst dX0_finish_251 rfl ⟨by decide, by decide⟩ ?_
  refine aw_iadd dX0_finish_252 (az_wr_id (by omega) (by omega)) ?_
  refine aw_iast dX0_finish_253 (by assumption) (by omega) (by omega) ?_
  refine aw_vret dX0_finish_254 (by decide) (by decide) ⟨rfl, rfl, ?_, ?_⟩
  · generalize hM10 : az_up (az_up M9 (h + 14) (g 729 % 16 * 3 + 2) (obN (rgE rg))) (h + 13) 0 (g 729 + 1) = M10
    have a13 : M10 (h + 13) = fun j => if j = 0 then g 729 + 1 else M8 (h + 13) j := by
      rw [← hM10, up_row, up_oth _ _ _ (by omega), r9o _ (by omega)]
    have a14 : M10 (h + 14) = fun j => if j = g 729 % 16 * 3 + 2 then obN (rgE rg) else if j = g 729 % 16 * 3 + 1 then 0 + ((rg 1).length : Int) + ((rg 5).length : Int) + ((rg 9).length : Int) else if j = g 729 % 16 * 3 then az_wr (g 730 - g 740) else M3 (h + 14) j := by
      rw [← hM10, up_oth _ _ _ (by omega), up_row, ← hM9, up_row, up_row, r8o _ (by omega) (by omega) (by omega) (by omega)]
    have ao : ∀ b, b ≠ h + 13 → b ≠ h + 14 → M10 b = M8 b := by
      intro b b1 b2
      rw [← hM10, up_oth _ _ _ b1, up_oth _ _ _ b2, r9o _ b2]
    have a3 : ∀ b, b ≠ h + 6 → b ≠ h + 9 → b ≠ h + 10 → b ≠ h + 13 → b ≠ h + 14 → M10 b = M3 b := by
      intro b b1 b2 b3 b4 b5
      rw [ao b b4 b5, r8o b b1 b2 b3 b4]
    have elo : ∀ i, i < 256 → 0 ≤ i → endG g rg i = gAf g0 rg i := by
      intro i hi hi0
      rw [endG_lo g rg hi]
      by_cases e : i < 128
      · rw [gAf_at hR hi0 e, hat i hi0 e]
      · have h1 := gAf_fl hR (a := i - 128) (by omega) (by omega)
        have h2 := gAf_fl hw0 (a := i - 128) (by omega) (by omega)
        rw [show 128 + (i - 128) = i by omega] at h1 h2
        rw [h1, h2, g0lo _ (by omega), g0lo _ (by omega)]
    have ekz : ∀ n, 0 ≤ n → n < 64 → kz (endG g rg) (2 * n) = kz (gAf g0 rg) (2 * n) := by
      intro n n0 n1
      unfold kz
      rw [endG_pz _ (by omega) (by omega)]
      unfold pz
      rw [hbigA _ (by omega) (by omega)]
    have esl : ∀ b, sl (endG g rg) b ↔ sl (gAf g0 rg) b := fun b => (endG_sl b).trans (hslA b).symm
    refine ⟨?_, ?_, ?_, ?_, ?_, ?_, ?_, ?_, ?_, ?_, ?_⟩
    · rw [a3 _ (by omega) (by omega) (by omega) (by omega) (by omega), a3 _ (by omega) (by omega) (by omega) (by omega) (by omega), a3 _ (by omega) (by omega) (by omega) (by omega) (by omega), a3 _ (by omega) (by omega) (by omega) (by omega) (by omega)]
      exact hc3.1
    · intro n n0 n1
      rw [esl, a3 _ (by omega) (by omega) (by omega) (by omega) (by omega), ekz n n0 n1, elo _ (by omega) (by omega)]
      exact hc3.2.1 n n0 n1
    · intro a ha
      rw [esl] at ha
      have q0 := ha.1
      have q1 := ha.2.1
      rw [ao _ (by omega) (by omega), r8, cr_head ha, elo a (by omega) q0, elo (128 + a) (by omega) (by omega)]
      have hq := hc3.2.2.1 a ha
      refine ⟨hq.1, fun e => ⟨(hq.2 e).1, fun f f0 f1 => ?_⟩⟩
      obtain ⟨v1, v2⟩ := hval a f ⟨ha, e⟩ f0 f1
      have hfl3 := (hf3 a ha).2 e
      obtain ⟨w1, w2, w3⟩ := lc_obj hw3.1 (f := 1 + f) ha (by omega) (by omega)
      have w4 := base_of hw3.1 (f := 1 + f) ha (by omega) (by omega)
      rw [show a + (1 + f) = a + 1 + f by omega] at w1 w2 w3 w4
      have hlcA : lc (gAf g0 rg) (a + 1 + f) := by
        unfold lc
        rw [w2, w3, w1]
        exact ⟨by have := ha.2.2.1; exact this, e, by omega, by omega⟩
      have hpzz : pz (gAf g rg) (a + 1 + f) = pz (gAf g0 rg) (a + 1 + f) := by
        rw [gAf_pz hR (by omega), gAf_pz hw0 (by omega)]
        unfold pz
        rw [g0lo _ (by omega)]
      have hlcB : lc (gAf g rg) (a + 1 + f) := by
        unfold lc
        rw [hpzz, w2, w3, w1]
        have e1 := elo a (by omega) q0
        rw [endG_lo g rg (by omega)] at e1
        have e2 := elo (128 + a) (by omega) (by omega)
        rw [endG_lo g rg (by omega)] at e2
        rw [e1, e2]
        exact ⟨by have := ha.2.2.1; exact this, e, by omega, by omega⟩
      unfold cr
      rw [v1, endG_cel g rg (by omega) (by omega), show 256 + a + 1 + f - 256 = a + 1 + f by omega, hdd _ v2]
      by_cases q : eI g (g (256 + a + 1 + f)) = 1
      · rw [if_pos ⟨by omega, by omega, hlcA, by omega, q⟩, if_pos ⟨hlcB, q⟩]
      · rw [if_neg (fun z => q z.2.2.2.2), if_neg (fun z => q z.2)]
    · intro p p0 p1
      rw [a3 _ (by omega) (by omega) (by omega) (by omega) (by omega), hc3.2.2.2.1 p p0 p1, hbigA _ (by omega) (by omega), endG_keep g rg (by omega) (by omega) (by omega) (by omega)]
    · intro p p0 p1
      rw [a3 _ (by omega) (by omega) (by omega) (by omega) (by omega)]
      exact hc3.2.2.2.2.1 p p0 p1
    · refine ⟨fun r r0 r1 => ?_, fun w w0 w1 => ?_⟩
      · rw [ao _ (by omega) (by omega), r89 r r0 r1, endG_nam g rg (by omega) (by omega)]
      · rw [ao _ (by omega) (by omega), r810 w w0 w1, endG_nam g rg (by omega) (by omega)]
    · unfold c_gry
      rw [a3 h (by omega) (by omega) (by omega) (by omega) (by omega), a3 (h + 11) (by omega) (by omega) (by omega) (by omega) (by omega)]
      exact hc3.2.2.2.2.2.2.1
    · intro i i0 i1
      rw [a3 _ (by omega) (by omega) (by omega) (by omega) (by omega), hc3.2.2.2.2.2.2.2.1 i i0 i1, hbigA _ (by omega) (by omega), endG_keep g rg (by omega) (by omega) (by omega) (by omega)]
    · intro i i0 i1
      rw [a13, t8]
      show (if i = 0 then _ else if i = 5 then _ else if i = 3 then _ else _) = _
      by_cases q0 : i = 0
      · rw [if_pos q0, q0]
        show _ = endG g rg 729
        unfold endG
        simp
      · rw [if_neg q0]
        by_cases q5 : i = 5
        · rw [if_pos q5, q5, hzw1]
          show _ = endG g rg 734
          unfold endG
          simp
        · rw [if_neg q5]
          by_cases q3 : i = 3
          · rw [if_pos q3, q3, hzr1, hLA2, az_wr_add]
            show _ = endG g rg 732
            unfold endG lostN
            simp [Int.add_assoc]
          · rw [if_neg q3, ht3 i i0 i1, endG_keep g rg (by omega) (by omega) (by omega) (by omega)]
    · have e729 : endG g rg 729 = g 729 + 1 := by unfold endG; simp
      have e741 : endG g rg 741 = if g 741 < 16 then g 741 + 1 else g 741 := by unfold endG; simp
      have c741 : gAf g0 rg 741 = g 741 := hbigA 741 (by omega) (by omega)
      have h741 : g 741 = min (g 729) 16 := by rw [← c741, ← c729]; exact hlog.2.1
      rw [Int.min_def] at h741
      unfold c_log
      rw [e729, e741]
      refine ⟨by omega, ?_, fun i w i0 i1 w0 w1 => ?_⟩
      · rw [Int.min_def]
        by_cases q : g 729 ≤ 16
        · rw [if_pos q] at h741
          by_cases q2 : g 741 < 16
          · rw [if_pos q2, if_pos (by omega)]; omega
          · rw [if_neg q2, if_neg (by omega)]; omega
        · rw [if_neg q] at h741
          rw [if_neg (by omega), if_neg (by omega)]; omega
      · have hi16 : i < 16 := by
          by_cases q2 : g 741 < 16
          · rw [if_pos q2] at i1; omega
          · rw [if_neg q2] at i1
            by_cases q : g 729 ≤ 16
            · rw [if_pos q] at h741; omega
            · rw [if_neg q] at h741; omega
        rw [a14]
        show (if (g 729 + 1 - 1 - i) % 16 * 3 + w = g 729 % 16 * 3 + 2 then _ else if (g 729 + 1 - 1 - i) % 16 * 3 + w = g 729 % 16 * 3 + 1 then _ else if (g 729 + 1 - 1 - i) % 16 * 3 + w = g 729 % 16 * 3 then _ else _) = _
        by_cases qi : i = 0
        · subst qi
          have hw3' : w = 0 ∨ w = 1 ∨ w = 2 := by omega
          rcases hw3' with rfl | rfl | rfl
          · rw [if_neg (by omega), if_neg (by omega), if_pos (by omega)]
            show _ = endG g rg 742
            unfold endG
            simp
          · rw [if_neg (by omega), if_pos (by omega)]
            show _ = endG g rg 743
            unfold endG
            simp
          · rw [if_pos (by omega)]
            show _ = endG g rg 744
            unfold endG
            simp
        · have hi1 : i - 1 < g 741 := by
            by_cases q2 : g 741 < 16
            · rw [if_pos q2] at i1; omega
            · rw [if_neg q2] at i1; omega
          have hl := hlog.2.2 (i - 1) w (by omega) (by rw [c741]; exact hi1) w0 w1
          rw [c729] at hl
          rw [if_neg (by omega), if_neg (by omega), if_neg (by omega), show g 729 + 1 - 1 - i = g 729 - 1 - (i - 1) by omega, hl, hbigA _ (by omega) (by omega)]
          unfold endG
          rw [if_neg (by omega), if_neg (by omega), if_neg (by omega), if_neg (by omega), if_neg (by omega), if_neg (by omega), if_neg (by omega), if_neg (by omega), if_neg (by omega), if_neg (by omega), if_neg (by omega), if_pos (by omega)]
          congr 1
          omega
    · unfold c_sca
      rw [a3 h (by omega) (by omega) (by omega) (by omega) (by omega)]
      have q := hsca
      unfold c_sca at q
      rw [gAf_big hw0 (x := 726) (by omega), ← hg0, gu_s] at q
      rw [hg0, hbigA 725 (by omega) (by omega), hbigA 727 (by omega) (by omega), hbigA 728 (by omega) (by omega), hbigA 740 (by omega) (by omega)] at q
      rw [endG_keep g rg (i := 725) (by omega) (by omega) (by omega) (by omega), endG_keep g rg (i := 727) (by omega) (by omega) (by omega) (by omega), endG_keep g rg (i := 728) (by omega) (by omega) (by omega) (by omega), endG_keep g rg (i := 740) (by omega) (by omega) (by omega) (by omega)]
      refine ⟨q.1, q.2.1, q.2.2.1, q.2.2.2.1, ?_⟩
      rw [q.2.2.2.2]
      unfold endG
      simp
  · intro b hb
    rw [up_oth _ _ _ (by omega), up_oth _ _ _ (by omega), r9o _ (by omega), r8o _ (by omega) (by omega) (by omega) (by omega), fr3' b (by omega) (by omega) (by omega), fr2' b (by omega) (by omega) (by omega), fr1' b (by omega) (by omega) (by omega), o0 b (by omega)]
