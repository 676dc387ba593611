/-! Heap.advance -/
theorem look_cy {S : hSt} (h : WS S) (ha : ob S.1 (S.1 727)) : (lookS S).1 729 = S.1 729 := by
  unfold lookS
  split
  · rename_i e
    have r5 : 0 ≤ S.1 728 := by
      rcases h.2.2.2.2.2.1.2.2.2.2 with r5 | r5 <;> omega
    have hnk := h.2.2.2.2.1.2 (S.1 727) (S.1 728) ha r5 e
    have h128 : S.1 (256 + S.1 727 + 1 + S.1 728) < 128 := by
      rcases hnk with q | q
      · omega
      · exact q.1.2.1
    rw [greyS_big _ _ h128 _ (by omega)]
    show gu S.1 728 (S.1 728 + 1) 729 = S.1 729
    rw [gu_n _ _ (by omega)]
  · rfl
theorem step_cy {S : hSt} (h : WL S) (hr : S.1 726 = 1) : ((stepS S).1 726 = 1 → (stepS S).1 729 = S.1 729) ∧ ((stepS S).1 729 = S.1 729 ∨ (stepS S).1 729 = S.1 729 + 1) := by
  have h1 : WL (tickS S) := ⟨tickS_wf h.1, by
    intro _
    have := h.2 hr
    unfold tickS
    show S.2.2 ≠ [] ∨ gu S.1 730 (az_wr (S.1 730 + 1)) 727 ≠ -1
    rw [gu_n _ _ (by omega)]; exact this⟩
  have hr1 : (tickS S).1 726 = 1 := by
    show gu S.1 730 (az_wr (S.1 730 + 1)) 726 = 1
    rw [gu_n _ _ (by omega)]; exact hr
  have e1 : (tickS S).1 729 = S.1 729 := by
    show gu S.1 730 (az_wr (S.1 730 + 1)) 729 = _
    rw [gu_n _ _ (by omega)]
  obtain ⟨p1, p2, p3⟩ := pickS_wf h1 hr1
  have e2 : (pickS (tickS S)).1 729 = S.1 729 := by
    unfold pickS
    split
    · show gu (gu (tickS S).1 727 ((tickS S).2.2.getD (bs (tickS S).1 (tickS S).2.2 (tickS S).2.2.length).toNat 0)) 728 0 729 = _
      rw [gu_n _ _ (by omega), gu_n _ _ (by omega), e1]
    · exact e1
  obtain ⟨l1, l2, l3, l4⟩ := lookS_wf p1 p2
  have e3 := look_cy p1 p2
  rw [e2] at e3
  rw [← l2] at l3
  unfold stepS doneS
  split
  · exact ⟨fun _ => e3, Or.inl e3⟩
  · obtain ⟨b1, b2, b3, b4⟩ := blackS_wf l1 l3
    obtain ⟨r1, r2⟩ := rootsS_wf b1
    have e4 : (rootsS (blackS (lookS (pickS (tickS S))))).1 729 = S.1 729 := by
      rw [r2 729 (by omega), b4 729 (by omega) (by omega) (by omega), e3]
    unfold lastS
    split
    · refine ⟨fun q => ?_, Or.inr ?_⟩
      · have : (endS (rootsS (blackS (lookS (pickS (tickS S)))))).1 726 = 0 := rfl
        omega
      · show (rootsS (blackS (lookS (pickS (tickS S))))).1 729 + 1 = _
        rw [e4]
    · exact ⟨fun _ => e4, Or.inl e4⟩
theorem adv_cy {S : hSt} (h : WL S) (n : Nat) : ((advS n S).1 726 = 1 → (advS n S).1 729 = S.1 729) ∧ ((advS n S).1 729 = S.1 729 ∨ (advS n S).1 729 = S.1 729 + 1) := by
  induction n generalizing S with
  | zero => exact ⟨fun _ => rfl, Or.inl rfl⟩
  | succ n ih =>
    show ((if S.1 726 = 1 then advS n (stepS S) else S).1 726 = 1 → (if S.1 726 = 1 then advS n (stepS S) else S).1 729 = S.1 729) ∧ ((if S.1 726 = 1 then advS n (stepS S) else S).1 729 = S.1 729 ∨ (if S.1 726 = 1 then advS n (stepS S) else S).1 729 = S.1 729 + 1)
    split
    · rename_i e
      obtain ⟨i1, i2⟩ := ih (stepS_wf h e)
      obtain ⟨s1, s2⟩ := step_cy h e
      by_cases q : (stepS S).1 726 = 1
      · rw [s1 q] at i1 i2
        exact ⟨i1, i2⟩
      · have hst : advS n (stepS S) = stepS S := by
          cases n with
          | zero => rfl
          | succ n =>
            show (if (stepS S).1 726 = 1 then advS n (stepS (stepS S)) else stepS S) = _
            rw [if_neg q]
        rw [hst]
        exact ⟨fun w => absurd w q, s2⟩
    · exact ⟨fun _ => rfl, Or.inl rfl⟩
theorem advN_le (n : Nat) (S : hSt) : advN n S ≤ n := by
  induction n generalizing S with
  | zero => exact Nat.le_refl _
  | succ n ih =>
    show (if S.1 726 = 1 then advN n (stepS S) + 1 else 0) ≤ n + 1
    split
    · have := ih (stepS S); omega
    · omega
set_option maxRecDepth 20000 in
set_option maxHeartbeats 2000000 in
theorem sp_advance {K : az_K} {h : Int} (hK : HpK K h) (M : az_M) {S : hSt} (hc : HS M h S) (hw : WL S) (hcy : S.1 729 ≤ 2000000000) (most : Int) (m0 : 0 ≤ most) (m1 : most ≤ 1000000) : AM yX0_advance cX0_advance 3 (some .int) 2 0 0 [(1, h), (0, most)] K M (qi K (fun z M' => z = (advN most.toNat S : Int) ∧ HS M' h (advS most.toNat S) ∧ frH M M' h)) := by
  have hK0 := hK
  obtain ⟨hRg, kh, k6, k7, k8, k9, k10, k11, k12, k13, k14, z0, z1, z2, z3, z4, z5, z6, z7, z8, z9⟩ := hK
  refine am_of (by decide) (Nat.le_of_ble_eq_true rfl) (L := [(1, h), (0, most), (9, 0)]) rfl ?_
  generalize hN : advN most.toNat S = N
  generalize hF : advS most.toNat S = F
  refine aw_iconst dX0_advance_0 rfl ⟨by decide, by decide⟩ ?_
  refine aw_istore_n dX0_advance_1 rfl (by decide) ?_
  have loop : ∀ (n : Nat) (T : hSt) (M1 : az_M) (dn : Int), HS M1 h T → WL T → T.1 729 ≤ 2000000000 ∨ T.1 726 ≠ 1 → 0 ≤ dn → dn + n = most → dn + (advN n T : Int) = N → advS n T = F → frH M M1 h → AW az_P0 (az_Z (qi K (fun z M' => z = (N : Int) ∧ HS M' h F ∧ frH M M' h)) 0 0) (az_rm 2 0 0) yX0_advance cX0_advance 3 (some .int) 0 0 2 [(1, h), (0, most), (0, dn)] [] K M1 := by
    intro n
    induction n with
    | zero =>
      intro T M1 dn hs hwl hcy d0 d1 hn hf hfr
      have hN0 : dn = (N : Int) := by rw [← hn]; show dn = dn + ((0 : Nat) : Int); omega
      replace hf : T = F := hf
      subst hf
      have v3 : M1 h 15 = T.1 726 := hs.2.2.2.2.2.2.2.2.2.2.2.2.2.2
      refine aw_aload_n dX0_advance_2 rfl rfl ⟨by decide, by decide⟩ ?_
      refine aw_gi 15 dX0_advance_3 fl_RX0_74 (by assumption) rfl rfl v3 ?_
      refine aw_if_eq (tgt := 185) dX0_advance_6 rfl (fun h6 => ?_) (fun h6 => ?_)
      · refine aw_iload_n dX0_advance_185 rfl rfl ?_
        exact aw_iret dX0_advance_186 (by decide) (by decide) ⟨_, rfl, rfl, hN0, hs, hfr⟩
      · refine aw_iload_n dX0_advance_9 rfl rfl ?_
        refine aw_iload_n dX0_advance_10 rfl rfl ?_
        refine aw_icmp_ge (tgt := 185) dX0_advance_11 rfl (fun h11 => ?_) (fun h11 => absurd h11 (by omega))
        refine aw_iload_n dX0_advance_185 rfl rfl ?_
        exact aw_iret dX0_advance_186 (by decide) (by decide) ⟨_, rfl, rfl, hN0, hs, hfr⟩
    | succ n ih =>
      intro T M1 dn hs hwl hcy d0 d1 hn hf hfr
      have v3 : M1 h 15 = T.1 726 := hs.2.2.2.2.2.2.2.2.2.2.2.2.2.2
      refine aw_aload_n dX0_advance_2 rfl rfl ⟨by decide, by decide⟩ ?_
      refine aw_gi 15 dX0_advance_3 fl_RX0_74 (by assumption) rfl rfl v3 ?_
      refine aw_if_eq (tgt := 185) dX0_advance_6 rfl (fun h6 => ?_) (fun h6 => ?_)
      · have e0 : ¬ T.1 726 = 1 := by omega
        have hn2 : dn = (N : Int) := by
          rw [← hn]
          show dn = dn + ((if T.1 726 = 1 then advN n (stepS T) + 1 else 0 : Nat) : Int)
          rw [if_neg e0]; omega
        have hf2 : T = F := by
          rw [← hf]
          show T = if T.1 726 = 1 then advS n (stepS T) else T
          rw [if_neg e0]
        subst hf2
        refine aw_iload_n dX0_advance_185 rfl rfl ?_
        exact aw_iret dX0_advance_186 (by decide) (by decide) ⟨_, rfl, rfl, hn2, hs, hfr⟩
      · have hrun : T.1 726 = 1 := by
          rcases hwl.1.2.2.2.2.2.1.1 with q | q
          · exact absurd q h6
          · exact q
        have hcy2 : T.1 729 ≤ 2000000000 := by
          rcases hcy with q | q
          · exact q
          · exact absurd hrun q
        have hn2 : dn + 1 + (advN n (stepS T) : Int) = N := by
          rw [← hn]
          show _ = dn + ((if T.1 726 = 1 then advN n (stepS T) + 1 else 0 : Nat) : Int)
          rw [if_pos hrun]; omega
        have hf2 : advS n (stepS T) = F := by
          rw [← hf]
          show _ = if T.1 726 = 1 then advS n (stepS T) else T
          rw [if_pos hrun]
        have hstw := stepS_wf hwl hrun
        obtain ⟨sc1, sc2⟩ := step_cy hwl hrun
        have again : ∀ M9, HS M9 h (stepS T) → frH M M9 h → AW az_P0 (az_Z (qi K (fun z M' => z = (N : Int) ∧ HS M' h F ∧ frH M M' h)) 0 0) (az_rm 2 0 0) yX0_advance cX0_advance 3 (some .int) 0 0 2 [(1, h), (0, most), (0, dn + 1)] [] K M9 := fun M9 hs9 hf9 => ih (stepS T) M9 (dn + 1) hs9 hstw (by
          by_cases q : (stepS T).1 726 = 1
          · exact Or.inl (by rw [sc1 q]; exact hcy2)
          · exact Or.inr q) (by omega) (by omega) hn2 hf2 hf9
        clear ih
        have hwl1 : WL (tickS T) := ⟨tickS_wf hwl.1, by
          intro _
          have := hwl.2 hrun
          unfold tickS
          show T.2.2 ≠ [] ∨ gu T.1 730 (az_wr (T.1 730 + 1)) 727 ≠ -1
          rw [gu_n _ _ (by omega)]; exact this⟩
        have hr1 : (tickS T).1 726 = 1 := by
          show gu T.1 730 (az_wr (T.1 730 + 1)) 726 = 1
          rw [gu_n _ _ (by omega)]; exact hrun
        obtain ⟨p1, p2, p3⟩ := pickS_wf hwl1 hr1
        obtain ⟨l1, l2, l3, l4⟩ := lookS_wf p1 p2
        rw [← l2] at l3
        obtain ⟨b1, b2, b3, b4⟩ := blackS_wf l1 l3
        obtain ⟨r1, r2⟩ := rootsS_wf b1
        have hd : stepS T = doneS (lookS (pickS (tickS T))) := rfl
        have hlc := look_cy p1 p2
        have hpc : (pickS (tickS T)).1 729 = T.1 729 := by
          unfold pickS
          split
          · show gu (gu (tickS T).1 727 ((tickS T).2.2.getD (bs (tickS T).1 (tickS T).2.2 (tickS T).2.2.length).toNat 0)) 728 0 729 = _
            rw [gu_n _ _ (by omega), gu_n _ _ (by omega)]
            show gu T.1 730 (az_wr (T.1 730 + 1)) 729 = _
            rw [gu_n _ _ (by omega)]
          · show gu T.1 730 (az_wr (T.1 730 + 1)) 729 = _
            rw [gu_n _ _ (by omega)]
        rw [hpc] at hlc
        have v23 : M1 (h + 13) 1 = T.1 730 := hs.2.2.2.2.2.2.2.2.1 1 (by omega) (by omega)
        refine aw_iload_n dX0_advance_9 rfl rfl ?_
        refine aw_iload_n dX0_advance_10 rfl rfl ?_
        refine aw_icmp_ge (tgt := 185) dX0_advance_11 rfl (fun h11 => absurd h11 (by omega)) (fun h11 => ?_)
        refine aw_iinc dX0_advance_14 rfl (az_wr_id (by omega) (by omega)) (by decide) ?_
        refine aw_aload_n dX0_advance_17 rfl rfl ⟨by decide, by decide⟩ ?_
        refine aw_gzF 8 dX0_advance_18 fl_RX0_40 (by assumption) rfl rfl (by assumption) ?_
        refine aw_iconst dX0_advance_21 rfl ⟨by decide, by decide⟩ ?_
        refine aw_dup2 dX0_advance_22 ?_
        refine aw_iv dX0_advance_23 (by assumption) (by omega) (by omega) v23 ?_
        refine aw_iconst dX0_advance_24 rfl ⟨by decide, by decide⟩ ?_
        refine aw_iadd dX0_advance_25 rfl ?_
        refine aw_iast dX0_advance_26 (by assumption) (by omega) (by omega) ?_
        have hs2 : HS (az_up M1 (h + 13) 1 (az_wr (T.1 730 + 1))) h (tickS T) := HC_tly hs hwl.1.1 hwl.1.2.2.2.1 (by omega) (by omega)
        have hf2 : frH M (az_up M1 (h + 13) 1 (az_wr (T.1 730 + 1))) h := fun b hb => by rw [up_oth _ _ _ (by omega)]; exact hfr b hb
        generalize az_up M1 (h + 13) 1 (az_wr (T.1 730 + 1)) = M2 at hs2 hf2
        generalize hP : pickS (tickS T) = P at *
        have rest3 : ∀ M8, HS M8 h (rootsS (blackS (lookS P))) → frH M M8 h → ¬ (lookS P).1 728 < (lookS P).1 (128 + (lookS P).1 727) → AW az_P0 (az_Z (qi K (fun z M' => z = (N : Int) ∧ HS M' h F ∧ frH M M' h)) 0 0) (az_rm 2 0 0) yX0_advance cX0_advance 3 (some .int) 0 0 171 [(1, h), (0, most), (0, dn + 1)] [] K M8 := by
          intro M8 hs8 hf8 hge
          have hd2 : stepS T = lastS (rootsS (blackS (lookS P))) := by rw [hd]; unfold doneS; rw [if_neg hge]
          have v172 : M8 h 11 = ((rootsS (blackS (lookS P))).2.2.length : Int) := hs8.2.2.2.2.2.2.1.1
          refine aw_aload_n dX0_advance_171 rfl rfl ⟨by decide, by decide⟩ ?_
          refine aw_gi 11 dX0_advance_172 fl_RX0_62 (by assumption) rfl rfl v172 ?_
          refine aw_if_ne (tgt := 2) dX0_advance_175 rfl (fun h175 => ?_) (fun h175 => ?_)
          · refine again M8 ?_ hf8
            rw [hd2]; unfold lastS; rw [if_neg (by omega)]; exact hs8
          · refine aw_aload_n dX0_advance_178 rfl rfl ⟨by decide, by decide⟩ ?_
            refine aw_cV0v dX0_advance_179 ml_RX0_113 (by assumption) (by decide) rfl rfl ⟨by decide, by decide, by decide, by decide⟩ (Nat.le_of_ble_eq_true rfl) (sp_finish hK0 M8 hs8 r1 (by rw [r2 729 (by omega), b4 729 (by omega) (by omega) (by omega), hlc]; exact hcy2)) (fun M9 hM9 => ?_)
            refine aw_goto (tgt := 2) dX0_advance_182 rfl ?_
            refine again M9 ?_ (fun b hb => (hM9.2 b hb).trans (hf8 b hb))
            rw [hd2]; unfold lastS; rw [if_pos (by omega)]; exact hM9.1
        have rest2 : ∀ M5, HS M5 h (lookS P) → frH M M5 h → AW az_P0 (az_Z (qi K (fun z M' => z = (N : Int) ∧ HS M' h F ∧ frH M M' h)) 0 0) (az_rm 2 0 0) yX0_advance cX0_advance 3 (some .int) 0 0 93 [(1, h), (0, most), (0, dn + 1)] [] K M5 := by
          intro M5 hs5 hf5
          generalize hL : lookS P = L at *
          obtain ⟨g, rg, gl⟩ := L
          replace l3 : ob g (g 727) := l3
          have w5 : M5 h 13 = g 728 := hs5.2.2.2.2.2.2.2.2.2.2.2.2.1
          have w6 : M5 h 12 = g 727 := hs5.2.2.2.2.2.2.2.2.2.2.2.1
          have w7 : M5 (h + 6) (g 727) = g (128 + g 727) := ((hs5.2.2.1 (g 727) l3.1).2 l3.2).1
          have a0 := l3.1.1
          have a1 := l3.1.2.1
          have ac2 : g (g 727) = 2 := by
            rcases l1.2.2.2.2.2.1.2.2.2.2 with r5 | r5
            · have : g 727 = -1 := r5.1
              omega
            · exact r5.2.1
          refine aw_aload_n dX0_advance_93 rfl rfl ⟨by decide, by decide⟩ ?_
          refine aw_gi 13 dX0_advance_94 fl_RX0_68 (by assumption) rfl rfl w5 ?_
          refine aw_aload_n dX0_advance_97 rfl rfl ⟨by decide, by decide⟩ ?_
          refine aw_gzF 1 dX0_advance_98 fl_RX0_18 (by assumption) rfl rfl (by assumption) ?_
          refine aw_aload_n dX0_advance_101 rfl rfl ⟨by decide, by decide⟩ ?_
          refine aw_gi 12 dX0_advance_102 fl_RX0_65 (by assumption) rfl rfl w6 ?_
          refine aw_iv dX0_advance_105 (by assumption) (by omega) (by omega) w7 ?_
          refine aw_icmp_lt (tgt := 2) dX0_advance_106 rfl (fun h106 => ?_) (fun h106 => ?_)
          · refine again M5 ?_ hf5
            rw [hd]; unfold doneS; rw [if_pos (by exact h106)]; exact hs5
          · obtain ⟨e1, e2, e3, e4, e5⟩ := sl_even l1.1 l3.1
            replace e1 : g 727 % 2 = 0 := e1
            replace e2 : 2 ≤ pz g (g 727) := e2
            replace e3 : pz g (g 727) ≤ 8 := e3
            replace e4 : 0 ≤ kz g (g 727) := e4
            replace e5 : kz g (g 727) ≤ 8 := e5
            have hsz : M5 (h + 7) (g 727 / 16) = pz g (g 727) := hs5.2.2.2.1 (g 727 / 16) (by omega) (by omega)
            have hkz : pz g (g 727) / 4 * 4 = kz g (g 727) := rfl
            have hro : M5 (h + 4) (g 727 / 2) = kz g (g 727) + 2 := by
              have := (hs5.2.1 (g 727 / 2) (by omega) (by omega)).1
              rw [show 2 * (g 727 / 2) = g 727 by omega] at this
              have q := this l3.1
              replace q : M5 (h + 4) (g 727 / 2) = kz g (g 727) + g (g 727) := q
              rw [q, ac2]
            have hmv := sp_move hRg M5 hs5.1 (g 727) (kz g (g 727) + 3) 1 (by omega) (by omega) (by omega) (by omega) (Or.inr rfl)
            refine aw_aload_n dX0_advance_109 rfl rfl ⟨by decide, by decide⟩ ?_
            refine aw_gzF 0 dX0_advance_110 fl_RX0_12 (by assumption) rfl rfl (by assumption) ?_
            refine aw_aload_n dX0_advance_113 rfl rfl ⟨by decide, by decide⟩ ?_
            refine aw_gi 12 dX0_advance_114 fl_RX0_65 (by assumption) rfl rfl w6 ?_
            refine aw_aload_n dX0_advance_117 rfl rfl ⟨by decide, by decide⟩ ?_
            refine aw_aload_n dX0_advance_118 rfl rfl ⟨by decide, by decide⟩ ?_
            refine aw_gi 12 dX0_advance_119 fl_RX0_65 (by assumption) rfl rfl w6 ?_
            refine aw_cV1p dX0_advance_122 ml_RX0_116 (by assumption) (by decide) rfl rfl ⟨by decide, by decide, by decide, by decide⟩ (Nat.le_of_ble_eq_true rfl) (qp_c (sp_sizeAtC hK0 M5 (g 727) (by omega) (by omega)) hsz) ?_
            refine aw_iconst dX0_advance_125 rfl ⟨by decide, by decide⟩ ?_
            refine aw_cS2p dX0_advance_126 ml_RX0_96 ⟨by decide, by decide, by decide, by decide⟩ (Nat.le_of_ble_eq_true rfl) (qp_c (sp_row K M5 (pz g (g 727)) 3 (by omega) (by omega) (by omega) (by omega)) (show pz g (g 727) / 4 * 4 + 3 = kz g (g 727) + 3 by omega)) ?_
            refine aw_iconst dX0_advance_129 rfl ⟨by decide, by decide⟩ ?_
            refine aw_cV3v dX0_advance_130 ml_RX0_105 hRg.1 (by decide) rfl rfl ⟨by decide, by decide, by decide, by decide⟩ (Nat.le_of_ble_eq_true rfl) (hmv) (fun M6 hM6 => ?_)
            obtain ⟨m1, m2, m3⟩ := hM6
            have hc6 : HC M6 h (gu g (g 727) 3) (rmv rg (g 727 / 2) (kz g (g 727) + 2) (kz g (g 727) + 3) true) gl := by
              have := HC_mv (M' := M6) (front := true) (c := 3) hs5 l1.1 l1.2.1 l1.2.2.1 l3 (by omega) (by omega) (by
                show RR _ _ _ _ (rmv rg (g 727 / 2) (kz g (g 727) + g (g 727)) (kz g (g 727) + 3) true)
                rw [ac2]
                rw [hro] at m1
                simpa using m1) (by exact m2) m3
              replace this : HC M6 h (gu g (g 727) 3) (rmv rg (g 727 / 2) (kz g (g 727) + g (g 727)) (kz g (g 727) + 3) true) gl := this
              rw [ac2] at this
              exact this
            refine aw_aload_n dX0_advance_133 rfl rfl ⟨by decide, by decide⟩ ?_
            refine aw_iconst dX0_advance_134 rfl ⟨by decide, by decide⟩ ?_
            refine aw_pi 12 dX0_advance_135 fl_RX0_65 (by assumption) rfl rfl ?_
            refine aw_aload_n dX0_advance_138 rfl rfl ⟨by decide, by decide⟩ ?_
            refine aw_iconst dX0_advance_139 rfl ⟨by decide, by decide⟩ ?_
            refine aw_pi 13 dX0_advance_140 fl_RX0_68 (by assumption) rfl rfl ?_
            have o7 : ∀ b, b ≠ h → az_up (az_up M6 h 12 (-1)) h 13 0 b = M6 b := fun b hb => by rw [up_oth _ _ _ hb, up_oth _ _ _ hb]
            have i7 : ∀ j, j ≠ 12 → j ≠ 13 → az_up (az_up M6 h 12 (-1)) h 13 0 h j = M6 h j := fun j j1 j2 => by rw [az_up_i _ _ _ _ j2, az_up_i _ _ _ _ j1]
            have hs7 : HS (az_up (az_up M6 h 12 (-1)) h 13 0) h (blackS (g, rg, gl)) := by
              refine HC_sca hc6 (gu_w_pg (by omega) l1.1) (gu_w_fld l3 (by omega) l1.2.2.2.1) o7 (i7 11 (by omega) (by omega)) (fun i hi => ?_) ?_
              · show gu (gu (gu g (g 727) 3) 727 (-1)) 728 0 i = _
                rw [gu_n _ _ (by omega), gu_n _ _ (by omega)]
              · have q := hc6.2.2.2.2.2.2.2.2.2.2
                unfold c_sca at q ⊢
                show _ = gu (gu (gu g (g 727) 3) 727 (-1)) 728 0 725 ∧ _ = gu (gu (gu g (g 727) 3) 727 (-1)) 728 0 727 ∧ _ = gu (gu (gu g (g 727) 3) 727 (-1)) 728 0 728 ∧ _ = gu (gu (gu g (g 727) 3) 727 (-1)) 728 0 740 ∧ _ = gu (gu (gu g (g 727) 3) 727 (-1)) 728 0 726
                refine ⟨?_, ?_, ?_, ?_, ?_⟩
                · rw [i7 _ (by omega) (by omega), gu_n _ _ (by omega), gu_n _ _ (by omega)]; exact q.1
                · rw [az_up_i _ _ _ _ (by omega), az_up_s, gu_n _ _ (by omega), gu_s]
                · rw [az_up_s, gu_s]
                · rw [i7 _ (by omega) (by omega), gu_n _ _ (by omega), gu_n _ _ (by omega)]; exact q.2.2.2.1
                · rw [i7 _ (by omega) (by omega), gu_n _ _ (by omega), gu_n _ _ (by omega)]; exact q.2.2.2.2
            have hf7 : frH M (az_up (az_up M6 h 12 (-1)) h 13 0) h := fun b hb => by rw [o7 b (by omega), m3 b (by omega)]; exact hf5 b hb
            generalize az_up (az_up M6 h 12 (-1)) h 13 0 = M7 at hs7 hf7
            have hge : ¬ (g, rg, gl).1 728 < (g, rg, gl).1 (128 + (g, rg, gl).1 727) := by
              show ¬ g 728 < g (128 + g 727)
              omega
            generalize hB : blackS (g, rg, gl) = B at *
            have v144 : M7 h 11 = (B.2.2.length : Int) := hs7.2.2.2.2.2.2.1.1
            have v155 : M7 (h + 12) 0 = B.1 735 := hs7.2.2.2.2.2.2.2.1 0 (by omega) (by omega)
            have no : ¬ (B.2.2.length = 0 ∧ B.1 735 = 1) → rootsS B = B := fun q => by unfold rootsS; rw [if_neg q]
            refine aw_aload_n dX0_advance_143 rfl rfl ⟨by decide, by decide⟩ ?_
            refine aw_gi 11 dX0_advance_144 fl_RX0_62 (by assumption) rfl rfl v144 ?_
            refine aw_if_ne (tgt := 171) dX0_advance_147 rfl (fun h147 => ?_) (fun h147 => ?_)
            · exact rest3 M7 (by rw [no (by omega)]; exact hs7) hf7 hge
            · refine aw_aload_n dX0_advance_150 rfl rfl ⟨by decide, by decide⟩ ?_
              refine aw_gzF 7 dX0_advance_151 fl_RX0_37 (by assumption) rfl rfl (by assumption) ?_
              refine aw_iconst dX0_advance_154 rfl ⟨by decide, by decide⟩ ?_
              refine aw_iv dX0_advance_155 (by assumption) (by omega) (by omega) v155 ?_
              refine aw_iconst dX0_advance_156 rfl ⟨by decide, by decide⟩ ?_
              refine aw_icmp_ne (tgt := 171) dX0_advance_157 rfl (fun h157 => ?_) (fun h157 => ?_)
              · exact rest3 M7 (by rw [no (by omega)]; exact hs7) hf7 hge
              · have hrt : ∀ i : Nat, i < 6 → M7 (h + 9) (0 + i) = B.1 (715 + i) := by
                  intro i hi
                  rw [Int.zero_add, hs7.2.2.2.2.2.1.1 i (by omega) (by omega)]
                have hsh := sp_shade (S := B) hK0 M7 hs7 b1 (h + 9) 0 6 6 6 k9 (by omega) (by omega) (by omega) (by omega) (by omega) (fun i hi => by rw [hrt i hi]; exact b1.2.2.2.2.1.1 (715 + (i : Int)) (by omega) (by omega))
                rw [greyF_congr B (f' := fun i => B.1 (715 + i)) 6 hrt] at hsh
                refine aw_aload_n dX0_advance_160 rfl rfl ⟨by decide, by decide⟩ ?_
                refine aw_aload_n dX0_advance_161 rfl rfl ⟨by decide, by decide⟩ ?_
                refine aw_gzF 4 dX0_advance_162 fl_RX0_28 (by assumption) rfl rfl (by assumption) ?_
                refine aw_iconst dX0_advance_165 rfl ⟨by decide, by decide⟩ ?_
                refine aw_bipush dX0_advance_166 (by decide) ⟨by decide, by decide⟩ ?_
                refine aw_cV3v dX0_advance_168 ml_RX0_109 (by assumption) (by decide) rfl rfl ⟨by decide, by decide, by decide, by decide⟩ (Nat.le_of_ble_eq_true rfl) (hsh) (fun M8 hM8 => ?_)
                refine rest3 M8 ?_ (fun b hb => by rw [hM8.2.1 b (by omega) (by omega) (by omega)]; exact hf7 b hb) hge
                unfold rootsS; rw [if_pos ⟨by omega, by omega⟩]; exact hM8.1
        have rest : ∀ M3, HS M3 h P → frH M M3 h → AW az_P0 (az_Z (qi K (fun z M' => z = (N : Int) ∧ HS M' h F ∧ frH M M' h)) 0 0) (az_rm 2 0 0) yX0_advance cX0_advance 3 (some .int) 0 0 39 [(1, h), (0, most), (0, dn + 1)] [] K M3 := by
          intro M3 hs3 hf3
          clear rest3
          obtain ⟨g, rg, gl⟩ := P
          replace p2 : ob g (g 727) := p2
          have w5 : M3 h 13 = g 728 := hs3.2.2.2.2.2.2.2.2.2.2.2.2.1
          have w6 : M3 h 12 = g 727 := hs3.2.2.2.2.2.2.2.2.2.2.2.1
          have w7 : M3 (h + 6) (g 727) = g (128 + g 727) := ((hs3.2.2.1 (g 727) p2.1).2 p2.2).1
          have a0 := p2.1.1
          have a1 := p2.1.2.1
          refine aw_aload_n dX0_advance_39 rfl rfl ⟨by decide, by decide⟩ ?_
          refine aw_gi 13 dX0_advance_40 fl_RX0_68 (by assumption) rfl rfl w5 ?_
          refine aw_aload_n dX0_advance_43 rfl rfl ⟨by decide, by decide⟩ ?_
          refine aw_gzF 1 dX0_advance_44 fl_RX0_18 (by assumption) rfl rfl (by assumption) ?_
          refine aw_aload_n dX0_advance_47 rfl rfl ⟨by decide, by decide⟩ ?_
          refine aw_gi 12 dX0_advance_48 fl_RX0_65 (by assumption) rfl rfl w6 ?_
          refine aw_iv dX0_advance_51 (by assumption) (by omega) (by omega) w7 ?_
          refine aw_icmp_ge (tgt := 93) dX0_advance_52 rfl (fun h52 => ?_) (fun h52 => ?_)
          · refine rest2 M3 ?_ hf3
            unfold lookS; rw [if_neg (by show ¬ g 728 < g (128 + g 727); omega)]; exact hs3
          · have r0 : 0 ≤ g 728 := by
              rcases p1.2.2.2.2.2.1.2.2.2.2 with r5 | r5
              · have : g 728 = 0 := r5.2
                omega
              · exact r5.2.2.1
            have hfl : 0 ≤ g (128 + g 727) ∧ g (128 + g 727) < pz g (g 727) := (p1.2.2.2.1 (g 727) p2.1).2 p2.2
            obtain ⟨e1, e2, e3, e4, e5⟩ := sl_even p1.1 p2.1
            replace e3 : pz g (g 727) ≤ 8 := e3
            refine aw_aload_n dX0_advance_55 rfl rfl ⟨by decide, by decide⟩ ?_
            refine aw_dup dX0_advance_56 ?_
            refine aw_gi 13 dX0_advance_57 fl_RX0_68 (by assumption) rfl rfl w5 ?_
            refine aw_iconst dX0_advance_60 rfl ⟨by decide, by decide⟩ ?_
            refine aw_iadd dX0_advance_61 (az_wr_id (by omega) (by omega)) ?_
            refine aw_pi 13 dX0_advance_62 fl_RX0_68 (by assumption) rfl rfl ?_
            have o4 : ∀ b, b ≠ h → az_up M3 h 13 (g 728 + 1) b = M3 b := fun b hb => up_oth _ _ _ hb
            have i4 : ∀ j, j ≠ 13 → az_up M3 h 13 (g 728 + 1) h j = M3 h j := fun j hj => az_up_i _ _ _ _ hj
            have hs4 : HS (az_up M3 h 13 (g 728 + 1)) h (gu g 728 (g 728 + 1), rg, gl) := by
              refine HC_sca hs3 p1.1 p1.2.2.2.1 o4 (i4 11 (by omega)) (fun i hi => gu_n _ _ (by omega)) ?_
              have q := hs3.2.2.2.2.2.2.2.2.2.2
              unfold c_sca at q ⊢
              show _ = gu g 728 (g 728 + 1) 725 ∧ _ = gu g 728 (g 728 + 1) 727 ∧ _ = gu g 728 (g 728 + 1) 728 ∧ _ = gu g 728 (g 728 + 1) 740 ∧ _ = gu g 728 (g 728 + 1) 726
              refine ⟨?_, ?_, ?_, ?_, ?_⟩
              · rw [i4 _ (by omega), gu_n _ _ (by omega)]; exact q.1
              · rw [i4 _ (by omega), gu_n _ _ (by omega)]; exact q.2.1
              · rw [az_up_s, gu_s]
              · rw [i4 _ (by omega), gu_n _ _ (by omega)]; exact q.2.2.2.1
              · rw [i4 _ (by omega), gu_n _ _ (by omega)]; exact q.2.2.2.2
            have hw4 : WS (gu g 728 (g 728 + 1), rg, gl) := gu728_wf p1 p2 (by omega) (by show g 728 + 1 ≤ g (128 + g 727); omega)
            have hf4 : frH M (az_up M3 h 13 (g 728 + 1)) h := fun b hb => by rw [o4 b (by omega)]; exact hf3 b hb
            have u5 : az_up M3 h 13 (g 728 + 1) h 13 = g 728 + 1 := az_up_s _ _ _ _
            have u6 : az_up M3 h 13 (g 728 + 1) h 12 = g 727 := by rw [i4 _ (by omega)]; exact w6
            have u7 : az_up M3 h 13 (g 728 + 1) (h + 6) (g 727 + (g 728 + 1) + ((0 : Nat) : Int)) = g (256 + g 727 + 1 + g 728) := by
              rw [o4 _ (by omega), show g 727 + (g 728 + 1) + ((0 : Nat) : Int) = g 727 + 1 + g 728 by omega]
              exact ((hs3.2.2.1 (g 727) p2.1).2 p2.2).2 (g 728) r0 h52
            generalize az_up M3 h 13 (g 728 + 1) = M4 at hs4 hf4 u5 u6 u7
            have hb := base_of (g := g) p1.1 (f := g 728 + 1) p2.1 (by omega) (by omega)
            have hnk : nok g (g (256 + g 727 + 1 + g 728)) := p1.2.2.2.2.1.2 (g 727) (g 728) p2 r0 h52
            have hnk4 : nok (gu g 728 (g 728 + 1)) (g (256 + g 727 + 1 + g 728)) := by
              rcases hnk with q | q
              · exact Or.inl q
              · refine Or.inr ?_
                obtain ⟨⟨q0, q1, q2⟩, q3⟩ := q
                refine ⟨⟨q0, q1, ?_⟩, ?_⟩
                · unfold pz; rw [gu_n _ _ (by omega)]; exact q2
                · rw [gu_n _ _ (by omega)]; exact q3
            have hsh := sp_shade (S := (gu g 728 (g 728 + 1), rg, gl)) hK0 M4 hs4 hw4 (h + 6) (g 727 + (g 728 + 1)) (g 727 + (g 728 + 1) + 1) 128 1 k6 (by omega) (by omega) (by omega) (by omega) (by omega) (fun i hi => by
              have : i = 0 := by omega
              subst this
              rw [u7]; exact hnk4)
            refine aw_aload_n dX0_advance_65 rfl rfl ⟨by decide, by decide⟩ ?_
            refine aw_aload_n dX0_advance_66 rfl rfl ⟨by decide, by decide⟩ ?_
            refine aw_gzF 1 dX0_advance_67 fl_RX0_18 (by assumption) rfl rfl (by assumption) ?_
            refine aw_aload_n dX0_advance_70 rfl rfl ⟨by decide, by decide⟩ ?_
            refine aw_gi 12 dX0_advance_71 fl_RX0_65 (by assumption) rfl rfl u6 ?_
            refine aw_aload_n dX0_advance_74 rfl rfl ⟨by decide, by decide⟩ ?_
            refine aw_gi 13 dX0_advance_75 fl_RX0_68 (by assumption) rfl rfl u5 ?_
            refine aw_iadd dX0_advance_78 (az_wr_id (by omega) (by omega)) ?_
            refine aw_aload_n dX0_advance_79 rfl rfl ⟨by decide, by decide⟩ ?_
            refine aw_gi 12 dX0_advance_80 fl_RX0_65 (by assumption) rfl rfl u6 ?_
            refine aw_aload_n dX0_advance_83 rfl rfl ⟨by decide, by decide⟩ ?_
            refine aw_gi 13 dX0_advance_84 fl_RX0_68 (by assumption) rfl rfl u5 ?_
            refine aw_iadd dX0_advance_87 (az_wr_id (by omega) (by omega)) ?_
            refine aw_iconst dX0_advance_88 rfl ⟨by decide, by decide⟩ ?_
            refine aw_iadd dX0_advance_89 (az_wr_id (by omega) (by omega)) ?_
            refine aw_cV3v dX0_advance_90 ml_RX0_109 (by assumption) (by decide) rfl rfl ⟨by decide, by decide, by decide, by decide⟩ (Nat.le_of_ble_eq_true rfl) (hsh) (fun M5 hM5 => ?_)
            refine rest2 M5 ?_ (fun b hb => by rw [hM5.2.1 b (by omega) (by omega) (by omega)]; exact hf4 b hb)
            have h5 := hM5.1
            replace h5 : HS M5 h (greyS (gu g 728 (g 728 + 1), rg, gl) (M4 (h + 6) (g 727 + (g 728 + 1) + ((0 : Nat) : Int)))) := h5
            rw [u7] at h5
            unfold lookS; rw [if_pos (by exact h52)]; exact h5
        have v28 : M2 h 12 = (tickS T).1 727 := hs2.2.2.2.2.2.2.2.2.2.2.2.1
        refine aw_aload_n dX0_advance_27 rfl rfl ⟨by decide, by decide⟩ ?_
        refine aw_gi 12 dX0_advance_28 fl_RX0_65 (by assumption) rfl rfl v28 ?_
        refine aw_iconst dX0_advance_31 rfl ⟨by decide, by decide⟩ ?_
        refine aw_icmp_ne (tgt := 39) dX0_advance_32 rfl (fun h32 => ?_) (fun h32 => ?_)
        · refine rest M2 ?_ hf2
          rw [← hP]; unfold pickS; rw [if_neg (by omega)]; exact hs2
        · have hne : 0 < (tickS T).2.2.length := by
            rcases hwl1.2 hr1 with q | q
            · exact List.length_pos_iff.mpr q
            · exact absurd (by omega) q
          refine aw_aload_n dX0_advance_35 rfl rfl ⟨by decide, by decide⟩ ?_
          refine aw_cV0v dX0_advance_36 ml_RX0_119 (by assumption) (by decide) rfl rfl ⟨by decide, by decide, by decide, by decide⟩ (Nat.le_of_ble_eq_true rfl) (sp_take hK0 M2 hs2 hwl1.1 hne) (fun M3 hM3 => ?_)
          refine rest M3 ?_ (fun b hb => (hM3.2 b hb).trans (hf2 b hb))
          rw [← hP]; unfold pickS; rw [if_pos (by omega)]; exact hM3.1
  exact loop most.toNat S M 0 hc hw (Or.inl hcy) (by omega) (by omega) (by rw [hN]; omega) hF (frH.refl M h)
