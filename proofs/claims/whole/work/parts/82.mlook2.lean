/-! TreadRingModel: look, find -/
set_option maxRecDepth 20000
theorem adr_fs {S : hSt} (hw : WL S) {s : Int} (hs : s = 2 ∨ s = 4 ∨ s = 8) : adr (fsS S s) s = -1 ↔ S.2.1 (s / 4 * 4) = [] ∧ pgF S.1 S.2.1 s = -1 := by
  obtain ⟨fw, -⟩ := fsS_wf hw hs
  have hfe : fsS S s = if S.2.1 (s / 4 * 4) = [] then (if pgF S.1 S.2.1 s = -1 then S else resS S (pgF S.1 S.2.1 s) s) else S := rfl
  constructor
  · intro h
    by_cases e : S.2.1 (s / 4 * 4) = []
    · refine ⟨e, Classical.byContradiction (fun e2 => ?_)⟩
      rw [if_pos e, if_neg e2] at hfe
      have hr := res_row hw.1 hs e2
      rw [← hfe] at hr
      rcases hd2_in (WR_of fw.1) (k := s / 4 * 4) (by omega) (by omega) with q | ⟨n, l, q1, q2, q3, q4, -⟩
      · exact hr q.2
      · have : adr (fsS S s) s = 2 * n := q2
        omega
    · rw [if_neg e] at hfe
      rw [hfe] at h
      rcases hd2_in (WR_of hw.1) (k := s / 4 * 4) (by omega) (by omega) with q | ⟨n, l, q1, q2, q3, q4, -⟩
      · exact absurd q.2 e
      · have : adr S s = 2 * n := q2
        omega
  · rintro ⟨e1, e2⟩
    rw [if_pos e1, if_pos e2] at hfe
    rw [hfe]
    unfold adr
    rw [e1]; rfl
set_option maxHeartbeats 1000000 in
theorem sp_look {K : az_K} {m : Int} (hK : MaK K m) (M : az_M) {S : hSt} (hc : HM M m S) (hw : WL S) (s : Int) (hs : s = 2 ∨ s = 4 ∨ s = 8) : AM yX7_look cX7_look 3 (some .boolean) 3 0 0 [(1, m), (0, s)] K M (qi K (fun z M' => z = (if adr (fsS S s) s = -1 then 0 else 1) ∧ HM M' m (fsS S s) ∧ ∀ x, x ≠ m + 1 → M' x = M x)) := by
  have hK0 := hK
  obtain ⟨km, k1, zz⟩ := hK
  refine am_of (by decide) (Nat.le_of_ble_eq_true rfl) (L := [(1, m), (0, s), (9, 0)]) rfl ?_
  obtain ⟨z, hz0⟩ : ∃ z : Int, z = if s = 2 then (0 : Int) else if s = 4 then 1 else 2 := ⟨_, rfl⟩
  have hz : s / 4 * 4 = 4 * z := by rcases hs with e | e | e <;> rw [e] at hz0 ⊢ <;> simp at hz0 <;> omega
  have zn0 : 0 ≤ z := by omega
  have zn3 : z < 3 := by omega
  have hkk : 4 * z = 0 ∨ 4 * z = 4 ∨ 4 * z = 8 := by omega
  have hWR := WR_of hw.1
  have hF := hc.1
  have hR := hc.2.1
  have p1 := hw.1.1.1
  have p8 := hw.1.1.2.1
  have hcnt := cnt_row hWR hF (c := 0) hkk (by omega) (by omega)
  rw [Int.add_zero] at hcnt
  have hco := qp_c (sp_countOf hK0 M z 0 zn0 zn3 (rL S.2.1 (4 * z)) (hR z zn0 zn3) (rL_len hWR hkk) (rL_in hWR hkk)) hcnt
  have hAd := adr_fs hw hs
  have hfe : fsS S s = if S.2.1 (s / 4 * 4) = [] then (if pgF S.1 S.2.1 s = -1 then S else resS S (pgF S.1 S.2.1 s) s) else S := rfl
  have hpF : pgF S.1 S.2.1 s = if fp (pq1 S.1) (S.1 725).toNat 0 = -1 then fp (pq2 S.1 S.2.1 s) (S.1 725).toNat 0 else fp (pq1 S.1) (S.1 725).toNat 0 := rfl
  have v24 : M (m + 1) 725 = S.1 725 := hF 725 (by omega) (by omega) (by omega) (by omega)
  rw [hz] at hAd hfe
  generalize hQ : (fun (y : Int) (M' : az_M) => y = (if adr (fsS S s) s = -1 then 0 else 1) ∧ HM M' m (fsS S s) ∧ ∀ x, x ≠ m + 1 → M' x = M x) = Q
  refine aw_aload_n dX7_look_0 rfl rfl ⟨by decide, by decide⟩ ?_
  refine aw_iload_n dX7_look_1 rfl rfl ?_
  refine aw_cS1p dX7_look_2 ml_RX7_125 ⟨by decide, by decide, by decide, by decide⟩ (Nat.le_of_ble_eq_true rfl) (qp_c (sp_ringOf K M s) hz0.symm) ?_
  refine aw_iconst dX7_look_5 rfl ⟨by decide, by decide⟩ ?_
  refine aw_cV2p dX7_look_6 ml_RX7_119 (by assumption) (by decide) rfl rfl ⟨by decide, by decide, by decide, by decide⟩ (Nat.le_of_ble_eq_true rfl) (hco) ?_
  refine aw_if_le (tgt := 14) dX7_look_9 rfl (fun h9 => ?_) (fun h9 => ?_)
  · have hnil : S.2.1 (4 * z) = [] := List.length_eq_zero_iff.mp (by omega)
    rw [if_pos hnil] at hfe
    have done : ∀ p : Int, pgF S.1 S.2.1 s = p → 0 ≤ p → ∀ M4 : az_M, HM M4 m (resS S p s) → (∀ x, x ≠ m + 1 → M4 x = M x) → Q 1 M4 := by
      intro p e pp M4 h1 h2
      rw [← hQ]
      have hne : ¬ pgF S.1 S.2.1 s = -1 := by omega
      rw [if_neg hne, e] at hfe
      exact ⟨by rw [if_neg (fun q => hne (hAd.mp q).2)], by rw [hfe]; exact h1, h2⟩
    have hlen : ∀ p : Int, pgF S.1 S.2.1 s = p → 0 ≤ p → p < 8 ∧ S.1 (707 + p) ≠ s ∧ (rLx (S.2.1 (4 * z) ++ nw s p 8) S.2.1 (4 * z)).length ≤ 64 ∧ (∀ a, 0 ≤ a → a < 128 → a / 16 = p → S.1 a = 0) ∧ p < S.1 725 := by
      intro p e pp
      have q := pgF_in hWR hs (by omega)
      rw [e] at q
      obtain ⟨q1, q2, q3, q4⟩ := q
      have hpz : pz S.1 (16 * p) = S.1 (707 + p) := by unfold pz; rw [show 16 * p / 16 = p by omega]
      rw [hpz] at q3
      have w := (resS_wf (gl := S.2.2) hw.1 q1 q2 hs (by rw [hpz]; exact q3) q4).1
      have := rL_len (WR_of w) hkk
      rw [res_ring hw.1.1 q1 (by omega) hs q3 zn0 zn3, if_pos hz.symm] at this
      exact ⟨by omega, q3, this, q4, q2⟩
    have loop2 : ∀ (k : Nat) (i : Int), 0 ≤ i → i + k = S.1 725 → fp (pq1 S.1) (S.1 725).toNat 0 = -1 → fp (pq2 S.1 S.2.1 s) (S.1 725).toNat 0 = fp (pq2 S.1 S.2.1 s) k i → AW az_P0 (az_Z (qi K Q) 0 0) (az_rm 3 0 0) yX7_look cX7_look 3 (some .boolean) 0 0 60 [(1, m), (0, s), (0, i)] [] K M := by
      intro k
      induction k with
      | zero =>
        intro i i0 i1 hn1 hv
        have hv' : fp (pq2 S.1 S.2.1 s) (S.1 725).toNat 0 = -1 := hv
        rw [if_pos hn1, hv'] at hpF
        rw [if_pos hpF] at hfe
        refine aw_iload_n dX7_look_60 rfl rfl ?_
        refine aw_aload_n dX7_look_61 rfl rfl ⟨by decide, by decide⟩ ?_
        refine aw_gzF 0 dX7_look_62 fl_RX7_7 (by assumption) rfl rfl (by assumption) ?_
        refine aw_sipush dX7_look_65 (by decide) ⟨by decide, by decide⟩ ?_
        refine aw_iv dX7_look_68 (by assumption) (by omega) (by omega) v24 ?_
        refine aw_icmp_ge (tgt := 116) dX7_look_69 rfl (fun h69 => ?_) (fun h69 => absurd h69 (by omega))
        refine aw_iconst dX7_look_116 rfl ⟨by decide, by decide⟩ ?_
        refine aw_zret dX7_look_117 (by omega) (by decide) (by decide) ⟨_, rfl, rfl, ?_⟩
        rw [← hQ]
        exact ⟨by rw [if_pos (hAd.mpr ⟨hnil, hpF⟩)], by rw [hfe]; exact hc, fun _ _ => rfl⟩
      | succ k ih =>
        intro i i0 i1 hn1 hv
        replace hv : fp (pq2 S.1 S.2.1 s) (S.1 725).toNat 0 = if pq2 S.1 S.2.1 s i = true then i else fp (pq2 S.1 S.2.1 s) k (i + 1) := hv
        have hd : pq2 S.1 S.2.1 s i = true ↔ (S.1 (707 + i) ≠ s ∧ us S.2.1 i = 0) := by unfold pq2; exact decide_eq_true_iff
        have v81 : M (m + 1) (707 + i) = S.1 (707 + i) := hF _ (by omega) (by omega) (by omega) (by omega)
        have hnz : S.1 (707 + i) ≠ 0 := fun e => fp_no (pq1 S.1) _ 0 (by omega) hn1 i i0 (by omega) (by unfold pq1; exact decide_eq_true_iff.mpr e)
        refine aw_iload_n dX7_look_60 rfl rfl ?_
        refine aw_aload_n dX7_look_61 rfl rfl ⟨by decide, by decide⟩ ?_
        refine aw_gzF 0 dX7_look_62 fl_RX7_7 (by assumption) rfl rfl (by assumption) ?_
        refine aw_sipush dX7_look_65 (by decide) ⟨by decide, by decide⟩ ?_
        refine aw_iv dX7_look_68 (by assumption) (by omega) (by omega) v24 ?_
        refine aw_icmp_ge (tgt := 116) dX7_look_69 rfl (fun h69 => absurd h69 (by omega)) (fun h69 => ?_)
        refine aw_aload_n dX7_look_72 rfl rfl ⟨by decide, by decide⟩ ?_
        refine aw_gzF 0 dX7_look_73 fl_RX7_7 (by assumption) rfl rfl (by assumption) ?_
        refine aw_sipush dX7_look_76 (by decide) ⟨by decide, by decide⟩ ?_
        refine aw_iload_n dX7_look_79 rfl rfl ?_
        refine aw_iadd dX7_look_80 (az_wr_id (by omega) (by omega)) ?_
        refine aw_iv dX7_look_81 (by assumption) (by omega) (by omega) v81 ?_
        refine aw_iload_n dX7_look_82 rfl rfl ?_
        refine aw_icmp_eq (tgt := 110) dX7_look_83 rfl (fun h83 => ?_) (fun h83 => ?_)
        · refine aw_iinc dX7_look_110 rfl (az_wr_id (by omega) (by omega)) (by decide) ?_
          refine aw_goto (tgt := 60) dX7_look_113 rfl ?_
          exact ih (i + 1) (by omega) (by omega) hn1 (by rw [if_neg (fun w => (hd.mp w).1 h83)] at hv; exact hv)
        · refine aw_aload_n dX7_look_86 rfl rfl ⟨by decide, by decide⟩ ?_
          refine aw_iload_n dX7_look_87 rfl rfl ?_
          refine aw_cV1p dX7_look_88 ml_RX7_195 (by assumption) (by decide) rfl rfl ⟨by decide, by decide, by decide, by decide⟩ (Nat.le_of_ble_eq_true rfl) (sp_isPageFree hK0 M hWR hF i i0 (by omega) hnz) ?_
          refine aw_if_ne (tgt := 97) dX7_look_91 rfl (fun h91 => ?_) (fun h91 => ?_)
          · have hu : us S.2.1 i = 0 := if1 h91
            rw [if_pos (hd.mpr ⟨h83, hu⟩)] at hv
            rw [if_pos hn1, hv] at hpF
            obtain ⟨l1, l2, l3, l4, l5⟩ := hlen i hpF i0
            have hs0 : S.1 (707 + i) = 2 ∨ S.1 (707 + i) = 4 ∨ S.1 (707 + i) = 8 := by
              have := (hw.1.1.2.2 i i0 l1).1
              omega
            obtain ⟨y, hy⟩ : ∃ y : Int, S.1 (707 + i) / 4 * 4 = 4 * y := ⟨S.1 (707 + i) / 4, by omega⟩
            have hyz : y ≠ z := by omega
            refine aw_aload_n dX7_look_97 rfl rfl ⟨by decide, by decide⟩ ?_
            refine aw_iload_n dX7_look_98 rfl rfl ?_
            refine aw_cV1v dX7_look_99 ml_RX7_198 (by assumption) (by decide) rfl rfl ⟨by decide, by decide, by decide, by decide⟩ (Nat.le_of_ble_eq_true rfl) (sp_giveUp hK0 M hWR hF i i0 l1 hs0 l4 y hy (hR y (by omega) (by omega))) (fun M1 hM1 => ?_)
            obtain ⟨t1, t2, t3⟩ := hM1
            have hF1 : mAll (M1 (m + 1)) S.1 := fun j j0 j1 j2 j3 => by rw [t2 j (by omega) (by omega)]; exact hF j j0 j1 j2 j3
            have hR1 : ∀ z', 0 ≤ z' → z' < 3 → z' ≠ y → mRing (M1 (m + 1)) z' (rL S.2.1 (4 * z')) := fun z' a b c => mRing_hop (hR z' a b) t2 c a b (by omega) (by omega) (rL_len hWR (by omega))
            refine aw_aload_n dX7_look_102 rfl rfl ⟨by decide, by decide⟩ ?_
            refine aw_iload_n dX7_look_103 rfl rfl ?_
            refine aw_iload_n dX7_look_104 rfl rfl ?_
            refine aw_cV2v dX7_look_105 ml_RX7_192 (by assumption) (by decide) rfl rfl ⟨by decide, by decide, by decide, by decide⟩ (Nat.le_of_ble_eq_true rfl) (sp_takePage hK0 M1 hWR hF1 i s i0 l1 hs l4 z hz (hR1 z zn0 zn3 (by omega)) l3) (fun M2 hM2 => ?_)
            obtain ⟨u1, u2, u3, u4, u5⟩ := hM2
            refine aw_iconst dX7_look_108 rfl ⟨by decide, by decide⟩ ?_
            refine aw_zret dX7_look_109 (by omega) (by decide) (by decide) ⟨_, rfl, rfl, ?_⟩
            have ky : ∀ (z' : Int) (L : List Int), 0 ≤ z' → z' < 3 → z' ≠ z → mRing (M1 (m + 1)) z' L → L.length ≤ 64 → mRing (M2 (m + 1)) z' L := fun z' L a b c d e => ⟨by rw [u3 _ (by omega) (by omega) (by omega) (by omega)]; exact d.1, fun j hj => by rw [u3 _ (by omega) (by omega) (by omega) (by omega)]; exact d.2 j hj⟩
            refine done i hpF i0 M2 ?_ (fun x hx => (u5 x hx).trans (t3 x hx))
            refine MT_res hc hw.1 i0 l5 hs l2 hz u1 u2 (fun z' a b c => ?_) (fun j j0 j1 => by rw [u3 j j0 (by omega) (by omega) (by omega), t2 j (by omega) (by omega)]) (by rw [u4, t2 _ (by omega) (by omega)])
            by_cases e : z' = y
            · subst e
              rw [if_pos hy.symm]
              refine ky z' _ a b c t1 ?_
              have w := (resS_wf (gl := S.2.2) hw.1 i0 l5 hs (by unfold pz; rw [show 16 * i / 16 = i by omega]; exact l2) l4).1
              have q := rL_len (WR_of w) (k := 4 * z') (by omega)
              rw [res_ring hw.1.1 i0 l1 hs l2 a b, if_neg (by omega), if_pos hy.symm] at q
              exact q
            · rw [if_neg (by omega)]
              exact ky z' _ a b c (hR1 z' a b e) (rL_len hWR (by omega))
          · have hu : ¬ us S.2.1 i = 0 := if0 h91
            refine aw_goto (tgt := 110) dX7_look_94 rfl ?_
            refine aw_iinc dX7_look_110 rfl (az_wr_id (by omega) (by omega)) (by decide) ?_
            refine aw_goto (tgt := 60) dX7_look_113 rfl ?_
            exact ih (i + 1) (by omega) (by omega) hn1 (by rw [if_neg (fun w => hu (hd.mp w).2)] at hv; exact hv)
    have loop1 : ∀ (k : Nat) (i : Int), 0 ≤ i → i + k = S.1 725 → fp (pq1 S.1) (S.1 725).toNat 0 = fp (pq1 S.1) k i → AW az_P0 (az_Z (qi K Q) 0 0) (az_rm 3 0 0) yX7_look cX7_look 3 (some .boolean) 0 0 16 [(1, m), (0, s), (0, i)] [] K M := by
      intro k
      induction k with
      | zero =>
        intro i i0 i1 hv
        have hv' : fp (pq1 S.1) (S.1 725).toNat 0 = -1 := hv
        refine aw_iload_n dX7_look_16 rfl rfl ?_
        refine aw_aload_n dX7_look_17 rfl rfl ⟨by decide, by decide⟩ ?_
        refine aw_gzF 0 dX7_look_18 fl_RX7_7 (by assumption) rfl rfl (by assumption) ?_
        refine aw_sipush dX7_look_21 (by decide) ⟨by decide, by decide⟩ ?_
        refine aw_iv dX7_look_24 (by assumption) (by omega) (by omega) v24 ?_
        refine aw_icmp_ge (tgt := 58) dX7_look_25 rfl (fun h25 => ?_) (fun h25 => absurd h25 (by omega))
        refine aw_iconst dX7_look_58 rfl ⟨by decide, by decide⟩ ?_
        refine aw_istore_n dX7_look_59 rfl (by decide) ?_
        exact loop2 (S.1 725).toNat 0 (by omega) (by omega) hv' rfl
      | succ k ih =>
        intro i i0 i1 hv
        replace hv : fp (pq1 S.1) (S.1 725).toNat 0 = if pq1 S.1 i = true then i else fp (pq1 S.1) k (i + 1) := hv
        have hd : pq1 S.1 i = true ↔ S.1 (707 + i) = 0 := by unfold pq1; exact decide_eq_true_iff
        have v37 : M (m + 1) (707 + i) = S.1 (707 + i) := hF _ (by omega) (by omega) (by omega) (by omega)
        refine aw_iload_n dX7_look_16 rfl rfl ?_
        refine aw_aload_n dX7_look_17 rfl rfl ⟨by decide, by decide⟩ ?_
        refine aw_gzF 0 dX7_look_18 fl_RX7_7 (by assumption) rfl rfl (by assumption) ?_
        refine aw_sipush dX7_look_21 (by decide) ⟨by decide, by decide⟩ ?_
        refine aw_iv dX7_look_24 (by assumption) (by omega) (by omega) v24 ?_
        refine aw_icmp_ge (tgt := 58) dX7_look_25 rfl (fun h25 => absurd h25 (by omega)) (fun h25 => ?_)
        refine aw_aload_n dX7_look_28 rfl rfl ⟨by decide, by decide⟩ ?_
        refine aw_gzF 0 dX7_look_29 fl_RX7_7 (by assumption) rfl rfl (by assumption) ?_
        refine aw_sipush dX7_look_32 (by decide) ⟨by decide, by decide⟩ ?_
        refine aw_iload_n dX7_look_35 rfl rfl ?_
        refine aw_iadd dX7_look_36 (az_wr_id (by omega) (by omega)) ?_
        refine aw_iv dX7_look_37 (by assumption) (by omega) (by omega) v37 ?_
        refine aw_if_eq (tgt := 44) dX7_look_38 rfl (fun h38 => ?_) (fun h38 => ?_)
        · rw [if_pos (hd.mpr h38)] at hv
          rw [if_neg (by omega), hv] at hpF
          obtain ⟨l1, l2, l3, l4, l5⟩ := hlen i hpF i0
          refine aw_aload_n dX7_look_44 rfl rfl ⟨by decide, by decide⟩ ?_
          refine aw_iload_n dX7_look_45 rfl rfl ?_
          refine aw_iload_n dX7_look_46 rfl rfl ?_
          refine aw_cV2v dX7_look_47 ml_RX7_192 (by assumption) (by decide) rfl rfl ⟨by decide, by decide, by decide, by decide⟩ (Nat.le_of_ble_eq_true rfl) (sp_takePage hK0 M hWR hF i s i0 l1 hs l4 z hz (hR z zn0 zn3) l3) (fun M2 hM2 => ?_)
          obtain ⟨u1, u2, u3, u4, u5⟩ := hM2
          refine aw_iconst dX7_look_50 rfl ⟨by decide, by decide⟩ ?_
          refine aw_zret dX7_look_51 (by omega) (by decide) (by decide) ⟨_, rfl, rfl, ?_⟩
          refine done i hpF i0 M2 ?_ u5
          refine MT_res hc hw.1 i0 l5 hs l2 hz u1 u2 (fun z' a b c => ?_) (fun j j0 j1 => u3 j j0 (by omega) (by omega) (by omega)) u4
          have hl := rL_len hWR (k := 4 * z') (by omega)
          have : (if 4 * z' = S.1 (707 + i) / 4 * 4 then rLx (er (S.1 (707 + i)) i (S.2.1 (4 * z')) 8) S.2.1 (4 * z') else rL S.2.1 (4 * z')) = rL S.2.1 (4 * z') := by
            split
            · rw [h38, er_0, rLx_eq]
            · rfl
          rw [this]
          exact ⟨by rw [u3 _ (by omega) (by omega) (by omega) (by omega)]; exact (hR z' a b).1, fun j hj => by rw [u3 _ (by omega) (by omega) (by omega) (by omega)]; exact (hR z' a b).2 j hj⟩
        · refine aw_goto (tgt := 52) dX7_look_41 rfl ?_
          refine aw_iinc dX7_look_52 rfl (az_wr_id (by omega) (by omega)) (by decide) ?_
          refine aw_goto (tgt := 16) dX7_look_55 rfl ?_
          exact ih (i + 1) (by omega) (by omega) (by rw [if_neg (fun w => h38 (hd.mp w))] at hv; exact hv)
    refine aw_iconst dX7_look_14 rfl ⟨by decide, by decide⟩ ?_
    refine aw_istore_n dX7_look_15 rfl (by decide) ?_
    exact loop1 (S.1 725).toNat 0 (by omega) (by omega) rfl
  · have hne : S.2.1 (4 * z) ≠ [] := fun e => by rw [e] at h9; simp at h9
    rw [if_neg hne] at hfe
    refine aw_iconst dX7_look_12 rfl ⟨by decide, by decide⟩ ?_
    refine aw_zret dX7_look_13 (by omega) (by decide) (by decide) ⟨_, rfl, rfl, ?_⟩
    rw [← hQ]
    exact ⟨by rw [if_neg (fun q => hne (hAd.mp q).1)], by rw [hfe]; exact hc, fun _ _ => rfl⟩
set_option maxHeartbeats 1000000 in
theorem sp_find {K : az_K} {m : Int} (hK : MoK K m) (M : az_M) {S : hSt} (hc : HM M m S) (hw : WL S) (hcy : S.1 729 ≤ 19999000) (hcz : 0 ≤ S.1 729) (s : Int) (hs : s = 2 ∨ s = 4 ∨ s = 8) : AM yX7_find cX7_find 2 (some .boolean) 8 0 0 [(1, m), (0, s)] K M (qi K (fun z M' => z = (if adr (findS S s) s = -1 then 0 else 1) ∧ HM M' m (findS S s) ∧ frM M M' m)) := by
  have hK0 := hK
  obtain ⟨hKa, k2, z1⟩ := hK
  have hKa0 := hKa
  obtain ⟨km, k1, zz⟩ := hKa
  refine am_of (by decide) (Nat.le_of_ble_eq_true rfl) (L := [(1, m), (0, s)]) rfl ?_
  have hfS : findS S s = if adr (fsS S s) s ≠ -1 then fsS S s else if S.1 726 = 1 ∧ adr (fsS (frcS S) s) s ≠ -1 then fsS (frcS S) s else fsS (frcS (startS (findB S))) s := rfl
  generalize hQ : (fun (y : Int) (M' : az_M) => y = (if adr (findS S s) s = -1 then 0 else 1) ∧ HM M' m (findS S s) ∧ frM M M' m) = Q
  obtain ⟨b1, b2, b3, b4⟩ := findB_wf hw
  have st := startS_wf b1.1 b2
  have fw := frcS_wf hw
  have fw2 := frcS_wf st.1
  have rest : ∀ M5 : az_M, HM M5 m (findB S) → frM M M5 m → adr (fsS S s) s = -1 → ¬ (S.1 726 = 1 ∧ adr (fsS (frcS S) s) s ≠ -1) → AW az_P0 (az_Z (qi K Q) 0 0) (az_rm 8 0 0) yX7_find cX7_find 2 (some .boolean) 0 0 31 [(1, m), (0, s)] [] K M5 := by
    intro M5 h5 f5 e1 e2
    rw [if_neg (fun q => q e1), if_neg e2] at hfS
    refine aw_aload_n dX7_find_31 rfl rfl ⟨by decide, by decide⟩ ?_
    refine aw_cV0v dX7_find_32 ml_RX7_207 (by assumption) (by decide) rfl rfl ⟨by decide, by decide, by decide, by decide⟩ (Nat.le_of_ble_eq_true rfl) (sp_goStart hKa0 M5 h5 b1.1 b2 (by omega) (by omega)) (fun M6 hM6 => ?_)
    refine aw_aload_n dX7_find_35 rfl rfl ⟨by decide, by decide⟩ ?_
    refine aw_cV0v dX7_find_36 ml_RX7_204 (by assumption) (by decide) rfl rfl ⟨by decide, by decide, by decide, by decide⟩ (Nat.le_of_ble_eq_true rfl) (sp_force hK0 M6 hM6.1 st.1 (by omega) (by omega)) (fun M7 hM7 => ?_)
    refine aw_aload_n dX7_find_39 rfl rfl ⟨by decide, by decide⟩ ?_
    refine aw_iload_n dX7_find_40 rfl rfl ?_
    refine aw_cV1i dX7_find_41 ml_RX7_201 (by assumption) (by decide) rfl rfl ⟨by decide, by decide, by decide, by decide⟩ (Nat.le_of_ble_eq_true rfl) (sp_look hKa0 M7 hM7.1 fw2.1 s hs) (fun y M8 hM8 => ?_)
    obtain ⟨y1, y2, y3⟩ := hM8
    refine aw_zret dX7_find_44 (by rw [y1]; split <;> omega) (by decide) (by decide) ⟨_, rfl, rfl, ?_⟩
    rw [← hQ, hfS]
    exact ⟨y1, y2, ((f5.trans (frM.of hM6.2)).trans hM7.2).trans (frM.of y3)⟩
  refine aw_aload_n dX7_find_0 rfl rfl ⟨by decide, by decide⟩ ?_
  refine aw_iload_n dX7_find_1 rfl rfl ?_
  refine aw_cV1i dX7_find_2 ml_RX7_201 (by assumption) (by decide) rfl rfl ⟨by decide, by decide, by decide, by decide⟩ (Nat.le_of_ble_eq_true rfl) (sp_look hKa0 M hc hw s hs) (fun y M1 hM1 => ?_)
  refine aw_if_eq (tgt := 10) dX7_find_5 rfl (fun h5 => ?_) (fun h5 => ?_)
  · obtain ⟨y1, y2, y3⟩ := hM1
    have e1 : adr (fsS S s) s = -1 := Classical.byContradiction (fun q => by rw [y1, if_neg q] at h5; omega)
    rw [fs_none hw.1 hs e1] at y2
    have v11 : M1 (m + 1) 726 = S.1 726 := y2.1 726 (by omega) (by omega) (by omega) (by omega)
    have hrs := sp_runs hKa0 M1
    rw [v11] at hrs
    refine aw_aload_n dX7_find_10 rfl rfl ⟨by decide, by decide⟩ ?_
    refine aw_cV0p dX7_find_11 ml_RX7_181 (by assumption) (by decide) rfl rfl ⟨by decide, by decide, by decide, by decide⟩ (Nat.le_of_ble_eq_true rfl) (hrs) ?_
    refine aw_if_eq (tgt := 31) dX7_find_14 rfl (fun h14 => ?_) (fun h14 => ?_)
    · have e2 := if0 h14
      refine rest M1 ?_ (frM.of y3) e1 (fun q => e2 q.1)
      unfold findB
      rw [if_neg e2]; exact y2
    · have e2 : S.1 726 = 1 := if1 h14
      refine aw_aload_n dX7_find_17 rfl rfl ⟨by decide, by decide⟩ ?_
      refine aw_cV0v dX7_find_18 ml_RX7_204 (by assumption) (by decide) rfl rfl ⟨by decide, by decide, by decide, by decide⟩ (Nat.le_of_ble_eq_true rfl) (sp_force hK0 M1 y2 hw (by omega) hcz) (fun M2 hM2 => ?_)
      refine aw_aload_n dX7_find_21 rfl rfl ⟨by decide, by decide⟩ ?_
      refine aw_iload_n dX7_find_22 rfl rfl ?_
      refine aw_cV1i dX7_find_23 ml_RX7_201 (by assumption) (by decide) rfl rfl ⟨by decide, by decide, by decide, by decide⟩ (Nat.le_of_ble_eq_true rfl) (sp_look hKa0 M2 hM2.1 fw.1 s hs) (fun x M3 hM3 => ?_)
      refine aw_if_eq (tgt := 31) dX7_find_26 rfl (fun h26 => ?_) (fun h26 => ?_)
      · obtain ⟨x1, x2, x3⟩ := hM3
        have e3 : adr (fsS (frcS S) s) s = -1 := Classical.byContradiction (fun q => by rw [x1, if_neg q] at h26; omega)
        rw [fs_none fw.1.1 hs e3] at x2
        refine rest M3 ?_ (((frM.of y3).trans hM2.2).trans (frM.of x3)) e1 (fun q => q.2 e3)
        unfold findB
        rw [if_pos e2]; exact x2
      · obtain ⟨x1, x2, x3⟩ := hM3
        have e3 : adr (fsS (frcS S) s) s ≠ -1 := fun q => by rw [x1, if_pos q] at h26; omega
        rw [if_neg (fun q => q e1), if_pos ⟨e2, e3⟩] at hfS
        refine aw_iconst dX7_find_29 rfl ⟨by decide, by decide⟩ ?_
        refine aw_zret dX7_find_30 (by omega) (by decide) (by decide) ⟨_, rfl, rfl, ?_⟩
        rw [← hQ, hfS, if_neg e3]
        exact ⟨rfl, x2, ((frM.of y3).trans hM2.2).trans (frM.of x3)⟩
  · obtain ⟨y1, y2, y3⟩ := hM1
    have e1 : adr (fsS S s) s ≠ -1 := fun q => by rw [y1, if_pos q] at h5; omega
    rw [if_pos e1] at hfS
    refine aw_iconst dX7_find_8 rfl ⟨by decide, by decide⟩ ?_
    refine aw_zret dX7_find_9 (by omega) (by decide) (by decide) ⟨_, rfl, rfl, ?_⟩
    rw [← hQ, hfS, if_neg e1]
    exact ⟨rfl, y2, frM.of y3⟩
