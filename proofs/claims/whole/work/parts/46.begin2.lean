/-! Heap.begin, whole -/
theorem greyF_congr (S : hSt) {f f' : Nat → Int} : ∀ n : Nat, (∀ i, i < n → f i = f' i) → greyF S f n = greyF S f' n := by
  intro n
  induction n with
  | zero => intro _; rfl
  | succ n ih =>
    intro h
    show greyS (greyF S f n) (f n) = greyS (greyF S f' n) (f' n)
    rw [ih (fun i hi => h i (by omega)), h n (by omega)]
/-- what a method on a heap leaves as it was -/
def frH (M M' : az_M) (h : Int) : Prop := ∀ b, b < h ∨ h + 14 < b → M' b = M b
theorem frH.refl (M : az_M) (h : Int) : frH M M h := fun _ _ => rfl
theorem frH.trans {M M1 M2 : az_M} {h : Int} (a : frH M M1 h) (b : frH M1 M2 h) : frH M M2 h := fun x hx => (b x hx).trans (a x hx)
/-- the numbers behind a start, before the names are greyed -/
theorem startM_facts {g : Int → Int} {rg : Int → List Int} {gl : List Int} (h : WF0 g rg gl) (hn : g 726 = 0) (hw2 : WR (blkS (startG g, rg, gl)).1 (blkS (startG g, rg, gl)).2.1) :
    WS (startM (g, rg, gl)) ∧ (∀ b, ob (startM (g, rg, gl)).1 b ↔ ob g b) ∧ (∀ x, 128 ≤ x → x ≠ 726 → x ≠ 740 → (startM (g, rg, gl)).1 x = g x) ∧ (startM (g, rg, gl)).1 726 = 1 ∧ (∀ b, nok (blkS (startG g, rg, gl)).1 b ↔ nok g b) ∧ (∀ x, 128 ≤ x → x ≠ 726 → x ≠ 740 → (blkS (startG g, rg, gl)).1 x = g x) := by
  have hR : WR g rg := WR_of h
  have glo : ∀ i, i ≠ 726 → i ≠ 740 → startG g i = g i := fun i a b => by unfold startG; rw [gu_n _ _ b, gu_n _ _ a]
  have hR1 : WR (startG g) rg := WR_congr hR (fun i hi => glo i (by omega) (by omega))
  have e1 := (blkS_rg (startG g, rg, gl)).1
  have hb := blkS_wf h hn hw2
  have hcol : ∀ a, 0 ≤ a → a < 128 → (blkS (startG g, rg, gl)).1 a = if g a = 3 then 1 else g a := by
    intro a a0 a1
    rw [e1]
    show Tg (Tg (Tg (startG g) 1 (rg 3)) 1 (rg 7)) 1 (rg 11) a = _
    rw [blk_at hR1 a0 a1, glo a (by omega) (by omega)]
  have hbig : ∀ x, 128 ≤ x → x ≠ 726 → x ≠ 740 → (blkS (startG g, rg, gl)).1 x = g x := by
    intro x hx a b
    rw [e1]
    show Tg (Tg (Tg (startG g) 1 (rg 3)) 1 (rg 7)) 1 (rg 11) x = _
    rw [blk_big hR1 hx, glo x a b]
  have h726 : (blkS (startG g, rg, gl)).1 726 = 1 := by
    rw [e1]
    show Tg (Tg (Tg (startG g) 1 (rg 3)) 1 (rg 7)) 1 (rg 11) 726 = _
    rw [blk_big hR1 (by omega)]
    unfold startG
    rw [gu_n _ _ (by omega), gu_s]
  have hob : ∀ b, ob (blkS (startG g, rg, gl)).1 b ↔ ob g b := by
    intro b
    unfold ob sl pz
    constructor
    · rintro ⟨⟨w0, w1, w2⟩, w3⟩
      rw [hbig _ (by omega) (by omega) (by omega)] at w2
      rw [hcol b w0 w1] at w3
      refine ⟨⟨w0, w1, w2⟩, fun e => w3 ?_⟩
      rw [if_neg (by omega)]; exact e
    · rintro ⟨⟨w0, w1, w2⟩, w3⟩
      rw [hbig _ (by omega) (by omega) (by omega), hcol b w0 w1]
      refine ⟨⟨w0, w1, w2⟩, ?_⟩
      split <;> omega
  have hnok : ∀ v, nok (blkS (startG g, rg, gl)).1 v ↔ nok g v := fun v => by unfold nok; rw [hob]
  have hgf := greyF_ok hb (f := fun i => g (715 + i)) 6 (fun i hi => (hnok _).mpr (h.2.2.2.2.1.1 (715 + (i : Int)) (by omega) (by omega)))
  refine ⟨hgf.1, fun b => (hgf.2.1 b).trans (hob b), fun x hx a b => (hgf.2.2 x hx).trans (hbig x hx a b), (hgf.2.2 726 (by omega)).trans h726, hnok, hbig⟩
set_option maxRecDepth 20000 in
set_option maxHeartbeats 1000000 in
theorem sp_begin {K : az_K} {h : Int} (hK : HpK K h) (M : az_M) {g : Int → Int} {rg : Int → List Int} {gl : List Int} (hc : HC M h g rg gl) (hw : WF0 g rg gl) (hn : g 726 = 0) (hcy : g 729 ≤ 2000000000) : AM yX0_begin cX0_begin 4 none 2 0 0 [(1, h)] K M (qv K (fun M' => HS M' h (startS (g, rg, gl)) ∧ WR (blkS (startG g, rg, gl)).1 (blkS (startG g, rg, gl)).2.1 ∧ frH M M' h)) := by
  have hK0 := hK
  obtain ⟨hRg, kh, k6, k7, k8, k9, k10, k11, k12, k13, k14, z0, z1, z2, z3, z4, z5, z6, z7, z8, z9⟩ := hK
  refine am_of (by decide) (Nat.le_of_ble_eq_true rfl) (L := [(1, h), (9, 0), (9, 0), (9, 0)]) rfl ?_
  have hR := WR_of hw
  refine aw_aload_n dX0_begin_0 rfl rfl ⟨by decide, by decide⟩ ?_
  refine aw_iconst dX0_begin_1 rfl ⟨by decide, by decide⟩ ?_
  refine aw_pz 15 dX0_begin_2 fl_RX0_74 (by assumption) rfl rfl (by omega) ?_
  have v11 : az_up M h 15 1 (h + 13) 1 = g 730 := by
    rw [up_oth _ _ _ (by omega), hc.2.2.2.2.2.2.2.2.1 1 (by omega) (by omega)]
    rfl
  refine aw_aload_n dX0_begin_5 rfl rfl ⟨by decide, by decide⟩ ?_
  refine aw_aload_n dX0_begin_6 rfl rfl ⟨by decide, by decide⟩ ?_
  refine aw_gzF 8 dX0_begin_7 fl_RX0_40 (by assumption) rfl rfl (by assumption) ?_
  refine aw_iconst dX0_begin_10 rfl ⟨by decide, by decide⟩ ?_
  refine aw_iv dX0_begin_11 (by assumption) (by omega) (by omega) v11 ?_
  refine aw_pi 14 dX0_begin_12 fl_RX0_71 (by assumption) rfl rfl ?_
  refine aw_iconst dX0_begin_15 rfl ⟨by decide, by decide⟩ ?_
  refine aw_istore_n dX0_begin_16 rfl (by decide) ?_
  generalize hM0 : az_up (az_up M h 15 1) h 14 (g 730) = M0
  have o0 : ∀ b, b ≠ h → M0 b = M b := fun b hb => by rw [← hM0, up_oth _ _ _ hb, up_oth _ _ _ hb]
  have glo : ∀ i, i ≠ 726 → i ≠ 740 → startG g i = g i := fun i a b => by unfold startG; rw [gu_n _ _ b, gu_n _ _ a]
  have hc0 : HC M0 h (startG g) rg gl := by
    refine HC_sca hc hw.1 hw.2.2.2.1 o0 ?_ (fun i hi => glo i (by omega) (by omega)) ?_
    · rw [← hM0, az_up_i _ _ _ _ (by omega), az_up_i _ _ _ _ (by omega)]
    · have q := hc.2.2.2.2.2.2.2.2.2.2
      unfold c_sca at q ⊢
      rw [glo 725 (by omega) (by omega), glo 727 (by omega) (by omega), glo 728 (by omega) (by omega)]
      refine ⟨?_, ?_, ?_, ?_, ?_⟩
      · rw [← hM0, az_up_i _ _ _ _ (by omega), az_up_i _ _ _ _ (by omega)]; exact q.1
      · rw [← hM0, az_up_i _ _ _ _ (by omega), az_up_i _ _ _ _ (by omega)]; exact q.2.1
      · rw [← hM0, az_up_i _ _ _ _ (by omega), az_up_i _ _ _ _ (by omega)]; exact q.2.2.1
      · rw [← hM0, az_up_s]; unfold startG; rw [gu_s]
      · rw [← hM0, az_up_i _ _ _ _ (by omega), az_up_s]; unfold startG; rw [gu_n _ _ (by omega), gu_s]
  have hw0 : WR (startG g) rg := WR_congr hR (fun i hi => glo i (by omega) (by omega))
  have len3 := row_len hR (k := 3) (by omega) (by omega)
  have len7 := row_len hR (k := 7) (by omega) (by omega)
  have len11 := row_len hR (k := 11) (by omega) (by omega)
  have ct3 := (hc0.1.2.1 3 (by omega) (by omega)).2.2.1
  refine aw_iload_n dX0_begin_17 rfl rfl ?_
  refine aw_bipush dX0_begin_18 (by decide) ⟨by decide, by decide⟩ ?_
  refine aw_icmp_gt (tgt := 76) dX0_begin_20 rfl (fun h20 => absurd h20 (by omega)) (fun h20 => ?_)
  refine aw_iload_n dX0_begin_23 rfl rfl ?_
  refine aw_iconst dX0_begin_24 rfl ⟨by decide, by decide⟩ ?_
  refine aw_cS2p dX0_begin_25 ml_RX0_96 ⟨by decide, by decide, by decide, by decide⟩ (Nat.le_of_ble_eq_true rfl) (qp_c (sp_row K M0 2 3 (by omega) (by omega) (by omega) (by omega)) (show (2 : Int) / 4 * 4 + 3 = 0 + 3 by omega)) ?_
  refine aw_istore_n dX0_begin_28 rfl (by decide) ?_
  refine aw_aload_n dX0_begin_29 rfl rfl ⟨by decide, by decide⟩ ?_
  refine aw_gzF 0 dX0_begin_30 fl_RX0_12 (by assumption) rfl rfl (by assumption) ?_
  refine aw_iload_n dX0_begin_33 rfl rfl ?_
  refine aw_cV1p dX0_begin_34 ml_RX0_99 hRg.1 (by decide) rfl rfl ⟨by decide, by decide, by decide, by decide⟩ (Nat.le_of_ble_eq_true rfl) (qp_c (sp_count hRg M0 (0 + 3) (by omega) (by omega)) ct3) ?_
  refine aw_istore_n dX0_begin_37 rfl (by decide) ?_
  have t3 : Tr rg (0 + 3) (0 + 1) [] (rg 3) = rg := Tr_nil rg (k := 0 + 3) (k' := 0 + 1) (by omega)
  refine beg_row (g := startG g) (rg := rg) hK0 0 2 (by omega) (rg 3) [] M0 _ (by rw [Tg_nil, t3]; exact hc0) (by rw [Tg_nil, t3]; exact hw0) rfl (by omega) (fun M1 hc1 hw1 fr1' => ?_)
  rw [List.nil_append] at hc1 hw1
  generalize hg1 : Tg (startG g) 1 (rg 3) = g1 at hc1 hw1
  generalize hr1 : Tr rg (0 + 3) (0 + 1) (rg 3) [] = rg1 at hc1 hw1
  have r17 : rg1 7 = rg 7 := by rw [← hr1]; simp [Tr]
  have r111 : rg1 11 = rg 11 := by rw [← hr1]; simp [Tr]
  have ct7 := (hc1.1.2.1 7 (by omega) (by omega)).2.2.1
  rw [r17] at ct7
  refine aw_iload_n dX0_begin_69 rfl rfl ?_
  refine aw_iconst dX0_begin_70 rfl ⟨by decide, by decide⟩ ?_
  refine aw_imul dX0_begin_71 (az_wr_id (by omega) (by omega)) ?_
  refine aw_istore_n dX0_begin_72 rfl (by decide) ?_
  refine aw_goto (tgt := 17) dX0_begin_73 rfl ?_
  refine aw_iload_n dX0_begin_17 rfl rfl ?_
  refine aw_bipush dX0_begin_18 (by decide) ⟨by decide, by decide⟩ ?_
  refine aw_icmp_gt (tgt := 76) dX0_begin_20 rfl (fun h20 => absurd h20 (by omega)) (fun h20 => ?_)
  refine aw_iload_n dX0_begin_23 rfl rfl ?_
  refine aw_iconst dX0_begin_24 rfl ⟨by decide, by decide⟩ ?_
  refine aw_cS2p dX0_begin_25 ml_RX0_96 ⟨by decide, by decide, by decide, by decide⟩ (Nat.le_of_ble_eq_true rfl) (qp_c (sp_row K M1 4 3 (by omega) (by omega) (by omega) (by omega)) (show (4 : Int) / 4 * 4 + 3 = 4 + 3 by omega)) ?_
  refine aw_istore_n dX0_begin_28 rfl (by decide) ?_
  refine aw_aload_n dX0_begin_29 rfl rfl ⟨by decide, by decide⟩ ?_
  refine aw_gzF 0 dX0_begin_30 fl_RX0_12 (by assumption) rfl rfl (by assumption) ?_
  refine aw_iload_n dX0_begin_33 rfl rfl ?_
  refine aw_cV1p dX0_begin_34 ml_RX0_99 hRg.1 (by decide) rfl rfl ⟨by decide, by decide, by decide, by decide⟩ (Nat.le_of_ble_eq_true rfl) (qp_c (sp_count hRg M1 (4 + 3) (by omega) (by omega)) ct7) ?_
  refine aw_istore_n dX0_begin_37 rfl (by decide) ?_
  have t7 : Tr rg1 (4 + 3) (4 + 1) [] (rg 7) = rg1 := by rw [← r17]; exact Tr_nil rg1 (k := 4 + 3) (k' := 4 + 1) (by omega)
  refine beg_row (g := g1) (rg := rg1) hK0 4 4 (by omega) (rg 7) [] M1 _ (by rw [Tg_nil, t7]; exact hc1) (by rw [Tg_nil, t7]; exact hw1) rfl (by omega) (fun M2 hc2 hw2 fr2' => ?_)
  rw [List.nil_append] at hc2 hw2
  generalize hg2 : Tg g1 1 (rg 7) = g2 at hc2 hw2
  generalize hr2 : Tr rg1 (4 + 3) (4 + 1) (rg 7) [] = rg2 at hc2 hw2
  have r211 : rg2 11 = rg 11 := by rw [← hr2, ← r111]; simp [Tr]
  have ct11 := (hc2.1.2.1 11 (by omega) (by omega)).2.2.1
  rw [r211] at ct11
  refine aw_iload_n dX0_begin_69 rfl rfl ?_
  refine aw_iconst dX0_begin_70 rfl ⟨by decide, by decide⟩ ?_
  refine aw_imul dX0_begin_71 (az_wr_id (by omega) (by omega)) ?_
  refine aw_istore_n dX0_begin_72 rfl (by decide) ?_
  refine aw_goto (tgt := 17) dX0_begin_73 rfl ?_
  refine aw_iload_n dX0_begin_17 rfl rfl ?_
  refine aw_bipush dX0_begin_18 (by decide) ⟨by decide, by decide⟩ ?_
  refine aw_icmp_gt (tgt := 76) dX0_begin_20 rfl (fun h20 => absurd h20 (by omega)) (fun h20 => ?_)
  refine aw_iload_n dX0_begin_23 rfl rfl ?_
  refine aw_iconst dX0_begin_24 rfl ⟨by decide, by decide⟩ ?_
  refine aw_cS2p dX0_begin_25 ml_RX0_96 ⟨by decide, by decide, by decide, by decide⟩ (Nat.le_of_ble_eq_true rfl) (qp_c (sp_row K M2 8 3 (by omega) (by omega) (by omega) (by omega)) (show (8 : Int) / 4 * 4 + 3 = 8 + 3 by omega)) ?_
  refine aw_istore_n dX0_begin_28 rfl (by decide) ?_
  refine aw_aload_n dX0_begin_29 rfl rfl ⟨by decide, by decide⟩ ?_
  refine aw_gzF 0 dX0_begin_30 fl_RX0_12 (by assumption) rfl rfl (by assumption) ?_
  refine aw_iload_n dX0_begin_33 rfl rfl ?_
  refine aw_cV1p dX0_begin_34 ml_RX0_99 hRg.1 (by decide) rfl rfl ⟨by decide, by decide, by decide, by decide⟩ (Nat.le_of_ble_eq_true rfl) (qp_c (sp_count hRg M2 (8 + 3) (by omega) (by omega)) ct11) ?_
  refine aw_istore_n dX0_begin_37 rfl (by decide) ?_
  have t11 : Tr rg2 (8 + 3) (8 + 1) [] (rg 11) = rg2 := by rw [← r211]; exact Tr_nil rg2 (k := 8 + 3) (k' := 8 + 1) (by omega)
  refine beg_row (g := g2) (rg := rg2) hK0 8 8 (by omega) (rg 11) [] M2 _ (by rw [Tg_nil, t11]; exact hc2) (by rw [Tg_nil, t11]; exact hw2) rfl (by omega) (fun M3 hc3 hw3 fr3' => ?_)
  rw [List.nil_append] at hc3 hw3
  obtain ⟨b1, b2, -⟩ := blkS_rg (startG g, rg, gl)
  have hgA : Tg g2 1 (rg 11) = (blkS (startG g, rg, gl)).1 := by rw [b1, ← hg2, ← hg1]
  have hrA : Tr rg2 (8 + 3) (8 + 1) (rg 11) [] = (blkS (startG g, rg, gl)).2.1 := by rw [b2, ← hr2, ← hr1]; rfl
  rw [hgA, hrA] at hc3 hw3
  obtain ⟨f1, f2, f3, f4, f5, f6⟩ := startM_facts hw hn hw3
  have hb := blkS_wf hw hn hw3
  have hrt : ∀ i : Nat, i < 6 → M3 (h + 9) (0 + i) = g (715 + i) := by
    intro i hi
    rw [Int.zero_add, hc3.2.2.2.2.2.1.1 i (by omega) (by omega), f6 _ (by omega) (by omega) (by omega)]
  have hsh := sp_shade (S := blkS (startG g, rg, gl)) hK0 M3 hc3 hb (h + 9) 0 6 6 6 k9 (by omega) (by omega) (by omega) (by omega) (by omega) (fun i hi => by rw [hrt i hi]; exact (f5 _).mpr (hw.2.2.2.2.1.1 (715 + (i : Int)) (by omega) (by omega)))
  have hSM : greyF (blkS (startG g, rg, gl)) (fun i => M3 (h + 9) (0 + i)) 6 = startM (g, rg, gl) := greyF_congr _ 6 hrt
  rw [hSM] at hsh
  have fr0 : frH M M3 h := fun b hb => by rw [fr3' b (by omega), fr2' b (by omega), fr1' b (by omega), o0 b (by omega)]
  refine aw_iload_n dX0_begin_69 rfl rfl ?_
  refine aw_iconst dX0_begin_70 rfl ⟨by decide, by decide⟩ ?_
  refine aw_imul dX0_begin_71 (az_wr_id (by omega) (by omega)) ?_
  refine aw_istore_n dX0_begin_72 rfl (by decide) ?_
  refine aw_goto (tgt := 17) dX0_begin_73 rfl ?_
  refine aw_iload_n dX0_begin_17 rfl rfl ?_
  refine aw_bipush dX0_begin_18 (by decide) ⟨by decide, by decide⟩ ?_
  refine aw_icmp_gt (tgt := 76) dX0_begin_20 rfl (fun h20 => ?_) (fun h20 => absurd h20 (by omega))
  refine aw_aload_n dX0_begin_76 rfl rfl ⟨by decide, by decide⟩ ?_
  refine aw_aload_n dX0_begin_77 rfl rfl ⟨by decide, by decide⟩ ?_
  refine aw_gzF 4 dX0_begin_78 fl_RX0_28 (by assumption) rfl rfl (by assumption) ?_
  refine aw_iconst dX0_begin_81 rfl ⟨by decide, by decide⟩ ?_
  refine aw_bipush dX0_begin_82 (by decide) ⟨by decide, by decide⟩ ?_
  refine aw_cV3v dX0_begin_84 ml_RX0_109 (by assumption) (by decide) rfl rfl ⟨by decide, by decide, by decide, by decide⟩ (Nat.le_of_ble_eq_true rfl) (hsh) (fun M4 hM4 => ?_)
  obtain ⟨hs4, hf4⟩ := hM4
  have fr4 : frH M M4 h := fun b hb => by rw [hf4.1 b (by omega) (by omega) (by omega), fr0 b hb]
  have hwt : M4 h 11 = ((startM (g, rg, gl)).2.2.length : Int) := hs4.2.2.2.2.2.2.1.1
  refine aw_aload_n dX0_begin_87 rfl rfl ⟨by decide, by decide⟩ ?_
  refine aw_gi 11 dX0_begin_88 fl_RX0_62 (by assumption) rfl rfl hwt ?_
  refine aw_if_ne (tgt := 98) dX0_begin_91 rfl (fun h91 => ?_) (fun h91 => ?_)
  · refine aw_vret dX0_begin_98 (by decide) (by decide) ⟨rfl, rfl, ?_, hw3, fr4⟩
    unfold startS
    rw [if_neg (by omega)]
    exact hs4
  · have hl0 : (startM (g, rg, gl)).2.2.length = 0 := by omega
    refine aw_aload_n dX0_begin_94 rfl rfl ⟨by decide, by decide⟩ ?_
    refine aw_cV0v dX0_begin_95 ml_RX0_113 (by assumption) (by decide) rfl rfl ⟨by decide, by decide, by decide, by decide⟩ (Nat.le_of_ble_eq_true rfl) (sp_finish hK0 M4 hs4 f1 (by rw [f3 729 (by omega) (by omega) (by omega)]; exact hcy)) (fun M5 hM5 => ?_)
    refine aw_vret dX0_begin_98 (by decide) (by decide) ⟨rfl, rfl, ?_, hw3, fun b hb => (hM5.2 b hb).trans (fr4 b hb)⟩
    unfold startS
    rw [if_pos hl0]
    exact hM5.1
