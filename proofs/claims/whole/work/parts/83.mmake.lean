/-! TreadRingModel: goMake -/
set_option maxRecDepth 20000
theorem ring_make (rg : Int → List Int) {k n : Int} {l : List Int} (hn : rg k = n :: l) : ins ((rL rg k).erase (2 * n)) ((rL rg k).erase (2 * n)).length (2 * n) = rL (rmv rg n k (k + 3) false) k ∧ 2 * n ∈ rL rg k ∧ (rL rg k).getD 0 0 = 2 * n ∧ 0 < (rL rg k).length := by
  have hE : rL rg k = 2 * n :: (l.map (fun n => 2 * n) ++ ((rg (k + 1)).map (fun n => 2 * n) ++ ((rg (k + 2)).map (fun n => 2 * n) ++ (rg (k + 3)).map (fun n => 2 * n)))) := by
    rw [rL_eq, hn]; rfl
  refine ⟨?_, by rw [hE]; exact List.mem_cons_self, by rw [hE]; rfl, by rw [hE]; exact Nat.succ_pos _⟩
  rw [hE, List.erase_cons_head]
  unfold ins
  rw [List.take_length, List.drop_length, rL_eq]
  unfold rmv
  have t0 : ¬ k = k + 3 := by omega
  have t1 : ¬ k + 1 = k + 3 := by omega
  have t2 : ¬ k + 1 = k := by omega
  have t3 : ¬ k + 2 = k + 3 := by omega
  have t4 : ¬ k + 2 = k := by omega
  have t5 : ¬ k + 3 = k := by omega
  simp only [t0, t1, t2, t3, t4, t5, if_true, if_false, hn, List.erase_cons_head, List.map_append, List.map_cons, List.map_nil, List.append_assoc, Bool.false_eq_true]
theorem MT_place {F F' : Int → Int} {T : hSt} (h : MT F T) (hw : WS T) {s f r z : Int} (hs : s = 2 ∨ s = 4 ∨ s = 8) (hz : s / 4 * 4 = 4 * z) (hgi : plG T.1 (adr T s) f r 729 = T.1 729 ∧ plG T.1 (adr T s) f r 726 = T.1 726) (t1 : mAll F' (plG T.1 (adr T s) f r)) (t2 : mRing F' z (rL (rmv T.2.1 (adr T s / 2) (4 * z) (4 * z + 3) false) (4 * z))) (t3 : ∀ i, 384 ≤ i → i < 707 → i < 512 + 64 * z ∨ 576 + 64 * z ≤ i → i ≠ 704 + z → F' i = F i) (t5 : F' 739 = F 739) : MT F' (plS T s f r) := by
  obtain ⟨a, b, c1, c2, c3, c4⟩ := h
  have t4 : ∀ i, 384 ≤ i → i < 512 → F' i = F i := fun i i0 i1 => t3 i i0 (by omega) (by omega) (by omega)
  unfold plS
  rw [hz]
  refine ⟨t1, fun z' z0 z1 => ?_, ?_, ?_, fun i hi => ?_, fun i j hij hj => ?_⟩
  · show mRing F' z' (rL (rmv T.2.1 (adr T s / 2) (4 * z) (4 * z + 3) false) (4 * z'))
    by_cases e : z' = z
    · subst e; exact t2
    · rw [rL_rmv _ _ (by omega) (by omega)]
      have hl := rL_len (WR_of hw) (k := 4 * z') (by omega)
      exact ⟨by rw [t3 _ (by omega) (by omega) (by omega) (by omega)]; exact (b z' z0 z1).1, fun j hj => by rw [t3 _ (by omega) (by omega) (by omega) (by omega)]; exact (b z' z0 z1).2 j hj⟩
  · rw [t5]; exact c1
  · show F' 739 + eN (rmv T.2.1 (adr T s / 2) (4 * z) (4 * z + 3) false) ≤ 64 * (plG T.1 (adr T s) f r 729 + plG T.1 (adr T s) f r 726)
    have he : eN (rmv T.2.1 (adr T s / 2) (4 * z) (4 * z + 3) false) = eN T.2.1 := by
      unfold eN rmv
      rw [if_neg (by omega), if_neg (by omega), if_neg (by omega), if_neg (by omega), if_neg (by omega), if_neg (by omega)]
    rw [t5, he, hgi.1, hgi.2]
    exact c2
  · have hx := gl_in hw _ (getD_mem (l := T.2.2) (i := i) hi)
    show 0 ≤ F' (384 + T.2.2.getD i 0) ∧ F' (384 + T.2.2.getD i 0) ≤ F' 739
    rw [t4 _ (by omega) (by omega), t5]
    exact c3 i hi
  · have hj' : j < T.2.2.length := hj
    have hx := gl_in hw _ (getD_mem (l := T.2.2) (i := i) (by omega))
    have hy := gl_in hw _ (getD_mem (l := T.2.2) (i := j) hj)
    show F' (384 + T.2.2.getD i 0) < F' (384 + T.2.2.getD j 0)
    rw [t4 _ (by omega) (by omega), t4 _ (by omega) (by omega)]
    exact c4 i j hij hj
set_option maxHeartbeats 2000000 in
theorem sp_goMake {K : az_K} {m : Int} (hK : MoK K m) (M : az_M) {S : hSt} (hc : HM M m S) (hw : WL S) (hcy : S.1 729 ≤ 19998000) (hcz : 0 ≤ S.1 729) (r f : Int) (r0 : 0 ≤ r) (r1 : r < 6) (f0 : 0 ≤ f) (f1 : f ≤ 7) : AM yX7_goMake cX7_goMake 7 (some .int) 9 0 0 [(1, m), (0, r), (0, f)] K M (qi K (fun z M' => z = bldA S f ∧ HM M' m (bldS S r f) ∧ frM M M' m)) := by
  have hK0 := hK
  obtain ⟨hKa, k2, z1⟩ := hK
  have hKa0 := hKa
  obtain ⟨km, k1, zz⟩ := hKa
  refine am_of (by decide) (Nat.le_of_ble_eq_true rfl) (L := [(1, m), (0, r), (0, f), (9, 0), (9, 0), (9, 0), (9, 0)]) rfl ?_
  have hsz := szF_in f
  have hA : bldA S f = if adr (bldT S f) (szF f) = -1 then -2 else adr (bldT S f) (szF f) := rfl
  have hB : bldS S r f = if adr (bldT S f) (szF f) = -1 then bldT S f else againS (plS (bldT S f) (szF f) f r) (szF f) := rfl
  obtain ⟨t1, t2, t3⟩ := bldT_wf hw f
  have w1 := advS_wf hw (S.1 737).toNat
  have c1 := (adv_cy hw (S.1 737).toNat).2
  have hT : bldT S f = findS (advS (S.1 737).toNat S) (szF f) := rfl
  have hpace := hw.1.2.2.2.2.2.2.2.2.1
  obtain ⟨z, hz0⟩ : ∃ z : Int, z = if szF f = 2 then (0 : Int) else if szF f = 4 then 1 else 2 := ⟨_, rfl⟩
  have hz : szF f / 4 * 4 = 4 * z := by rcases hsz with e | e | e <;> rw [e] at hz0 ⊢ <;> simp at hz0 <;> omega
  have zn0 : 0 ≤ z := by omega
  have zn3 : z < 3 := by omega
  have hkk : 4 * z = 0 ∨ 4 * z = 4 ∨ 4 * z = 8 := by omega
  generalize hQ : (fun (y : Int) (M' : az_M) => y = bldA S f ∧ HM M' m (bldS S r f) ∧ frM M M' m) = Q
  have body : ∀ M1 : az_M, HM M1 m (advS (S.1 737).toNat S) → frM M M1 m → AW az_P0 (az_Z (qi K Q) 0 0) (az_rm 9 0 0) yX7_goMake cX7_goMake 7 (some .int) 0 0 20 [(1, m), (0, r), (0, f), (9, 0), (9, 0), (9, 0), (9, 0)] [] K M1 := by
    intro M1 h1 hf1
    refine aw_iload_n dX7_goMake_20 rfl rfl ?_
    refine aw_cS1p dX7_goMake_21 ml_RX7_210 ⟨by decide, by decide, by decide, by decide⟩ (Nat.le_of_ble_eq_true rfl) (sp_sizeFor K M1 f) ?_
    refine aw_istore_n dX7_goMake_24 rfl (by decide) ?_
    refine aw_iload_n dX7_goMake_25 rfl rfl ?_
    refine aw_cS1p dX7_goMake_26 ml_RX7_125 ⟨by decide, by decide, by decide, by decide⟩ (Nat.le_of_ble_eq_true rfl) (qp_c (sp_ringOf K M1 (szF f)) hz0.symm) ?_
    refine aw_istore dX7_goMake_29 (by decide) ?_
    refine aw_aload_n dX7_goMake_31 rfl rfl ⟨by decide, by decide⟩ ?_
    refine aw_iload_n dX7_goMake_32 rfl rfl ?_
    refine aw_cV1i dX7_goMake_33 ml_RX7_213 (by assumption) (by decide) rfl rfl ⟨by decide, by decide, by decide, by decide⟩ (Nat.le_of_ble_eq_true rfl) (sp_find hK0 M1 h1 w1 (by omega) (by omega) (szF f) hsz) (fun y M2 hM2 => ?_)
    refine aw_if_ne (tgt := 42) dX7_goMake_36 rfl (fun h36 => ?_) (fun h36 => ?_)
    · obtain ⟨y1, y2, y3⟩ := hM2
      rw [← hT] at y1 y2
      have hne : adr (bldT S f) (szF f) ≠ -1 := fun q => by rw [y1, if_pos q] at h36; omega
      rw [if_neg hne] at hA hB
      have hf2 : frM M M2 m := hf1.trans y3
      generalize bldT S f = T at *
      obtain ⟨p1, p2, p3, p4⟩ := plS_wf t1 hne f0 f1 r0 r1
      have hWR := WR_of t1.1
      obtain ⟨n, l, q1, q2, q3, q4⟩ : ∃ n l, T.2.1 (4 * z) = n :: l ∧ adr T (szF f) = 2 * n ∧ 0 ≤ n ∧ n < 64 := by
        rcases hd2_in hWR (k := szF f / 4 * 4) (by omega) (by omega) with q | ⟨n, l, q1, q2, q3, q4, -⟩
        · exact absurd q.1 hne
        · rw [hz] at q1
          exact ⟨n, l, q1, q2, q3, q4⟩
      obtain ⟨m1, m2, m3, m4⟩ := ring_make T.2.1 q1
      have hR := y2.2.1 z zn0 zn3
      have hlen := rL_len hWR hkk
      have hel : ((rL T.2.1 (4 * z)).erase (2 * n)).length < 64 := by
        have := List.length_erase_of_mem m2
        omega
      have v52 : M2 (m + 1) (512 + 64 * z + 0) = 2 * n := (hR.2 0 m4).trans m3
      refine aw_aload_n dX7_goMake_42 rfl rfl ⟨by decide, by decide⟩ ?_
      refine aw_gzF 0 dX7_goMake_43 fl_RX7_7 (by assumption) rfl rfl (by assumption) ?_
      refine aw_iload dX7_goMake_46 rfl ?_
      refine aw_iconst dX7_goMake_48 rfl ⟨by decide, by decide⟩ ?_
      refine aw_cS2p dX7_goMake_49 ml_RX7_112 ⟨by decide, by decide, by decide, by decide⟩ (Nat.le_of_ble_eq_true rfl) (sp_ringAt K M2 z 0 zn0 zn3 (by omega) (by omega)) ?_
      refine aw_iv dX7_goMake_52 (by assumption) (by omega) (by omega) v52 ?_
      refine aw_istore dX7_goMake_53 (by decide) ?_
      refine aw_aload_n dX7_goMake_55 rfl rfl ⟨by decide, by decide⟩ ?_
      refine aw_iload dX7_goMake_56 rfl ?_
      refine aw_iload dX7_goMake_58 rfl ?_
      refine aw_cV2v dX7_goMake_60 ml_RX7_128 (by assumption) (by decide) rfl rfl ⟨by decide, by decide, by decide, by decide⟩ (Nat.le_of_ble_eq_true rfl) (sp_takeOut hKa0 M2 z (2 * n) zn0 zn3 _ hR hlen m2) (fun M3 hM3 => ?_)
      obtain ⟨u1, u2, u3⟩ := hM3
      refine aw_aload_n dX7_goMake_63 rfl rfl ⟨by decide, by decide⟩ ?_
      refine aw_gzF 0 dX7_goMake_64 fl_RX7_7 (by assumption) rfl rfl (by assumption) ?_
      refine aw_iconst dX7_goMake_67 rfl ⟨by decide, by decide⟩ ?_
      refine aw_iload dX7_goMake_68 rfl ?_
      refine aw_iadd dX7_goMake_70 (az_wr_id (by omega) (by omega)) ?_
      refine aw_iconst dX7_goMake_71 rfl ⟨by decide, by decide⟩ ?_
      refine aw_iast dX7_goMake_72 (by assumption) (by omega) (by omega) ?_
      rw [Int.zero_add]
      generalize hM4 : az_up M3 (m + 1) (2 * n) 3 = M4
      have e4 : ∀ i, M4 (m + 1) i = if i = 2 * n then 3 else M3 (m + 1) i := fun i => by rw [← hM4, up_row]
      have o4 : ∀ b, b ≠ m + 1 → M4 b = M3 b := fun b hb => by rw [← hM4, up_oth _ _ _ hb]
      have u1' : mRing (M4 (m + 1)) z ((rL T.2.1 (4 * z)).erase (2 * n)) := mRing_eq u1 (fun i i0 i1 => by rw [e4]; exact if_neg (by omega)) zn0 zn3 (by omega)
      have hpi := sp_putIn hKa0 M4 z (2 * n) ((rL T.2.1 (4 * z)).erase (2 * n)).length zn0 zn3 _ u1' hel (Nat.le_refl _)
      rw [m1] at hpi
      refine aw_aload_n dX7_goMake_73 rfl rfl ⟨by decide, by decide⟩ ?_
      refine aw_iload dX7_goMake_74 rfl ?_
      refine aw_aload_n dX7_goMake_76 rfl rfl ⟨by decide, by decide⟩ ?_
      refine aw_iload dX7_goMake_77 rfl ?_
      refine aw_cV1p dX7_goMake_79 ml_RX7_116 (by assumption) (by decide) rfl rfl ⟨by decide, by decide, by decide, by decide⟩ (Nat.le_of_ble_eq_true rfl) (qp_c (sp_longOf hKa0 M4 z zn0 zn3) u1'.1) ?_
      refine aw_iload dX7_goMake_82 rfl ?_
      refine aw_cV3v dX7_goMake_84 ml_RX7_135 (by assumption) (by decide) rfl rfl ⟨by decide, by decide, by decide, by decide⟩ (Nat.le_of_ble_eq_true rfl) (hpi) (fun M5 hM5 => ?_)
      obtain ⟨w1', w2', w3'⟩ := hM5
      refine aw_aload_n dX7_goMake_87 rfl rfl ⟨by decide, by decide⟩ ?_
      refine aw_gzF 0 dX7_goMake_88 fl_RX7_7 (by assumption) rfl rfl (by assumption) ?_
      refine aw_sipush dX7_goMake_91 (by decide) ⟨by decide, by decide⟩ ?_
      refine aw_iload dX7_goMake_94 rfl ?_
      refine aw_iadd dX7_goMake_96 (az_wr_id (by omega) (by omega)) ?_
      refine aw_iload_n dX7_goMake_97 rfl rfl ?_
      refine aw_iast dX7_goMake_98 (by assumption) (by omega) (by omega) ?_
      refine aw_iconst dX7_goMake_99 rfl ⟨by decide, by decide⟩ ?_
      refine aw_istore dX7_goMake_100 (by decide) ?_
      generalize hM6 : az_up M5 (m + 1) (128 + 2 * n) f = M6
      have e6 : ∀ i, M6 (m + 1) i = if i = 128 + 2 * n then f else M5 (m + 1) i := fun i => by rw [← hM6, up_row]
      have o6 : ∀ b, b ≠ m + 1 → M6 b = M5 b := fun b hb => by rw [← hM6, up_oth _ _ _ hb]
      have fin : ∀ M7 : az_M, (∀ i, M7 (m + 1) i = if 257 + 2 * n ≤ i ∧ i < 257 + 2 * n + f then -1 else M6 (m + 1) i) → (∀ b, b ≠ m + 1 → M7 b = M6 b) → AW az_P0 (az_Z (qi K Q) 0 0) (az_rm 9 0 0) yX7_goMake cX7_goMake 7 (some .int) 0 0 127 [(1, m), (0, r), (0, f), (0, szF f), (0, z), (0, 2 * n), (0, f)] [] K M7 := by
        intro M7 e7 o7
        have hb0 := base_of t1.1.1 (f := f) (adr_in t1.1 hsz hne).1 f0 (by rw [(adr_in t1.1 hsz hne).2.2.2]; exact szF_lt f1)
        rw [q2] at hb0
        have hgt : 257 + 2 * n + f ≤ 384 := by have := hb0.2.2; omega
        have v147 : M7 (m + 1) 733 = T.1 733 := by
          rw [e7, if_neg (by omega), e6, if_neg (by omega), w2' _ (by omega) (by omega), e4, if_neg (by omega), u2 _ (by omega) (by omega)]
          exact y2.1 733 (by omega) (by omega) (by omega) (by omega)
        have v147' : az_up M7 (m + 1) (715 + r) (2 * n) (m + 1) 733 = T.1 733 := by rw [up_row]; show (if 733 = 715 + r then 2 * n else M7 (m + 1) 733) = _; rw [if_neg (by omega)]; exact v147
        refine aw_aload_n dX7_goMake_127 rfl rfl ⟨by decide, by decide⟩ ?_
        refine aw_gzF 0 dX7_goMake_128 fl_RX7_7 (by assumption) rfl rfl (by assumption) ?_
        refine aw_sipush dX7_goMake_131 (by decide) ⟨by decide, by decide⟩ ?_
        refine aw_iload_n dX7_goMake_134 rfl rfl ?_
        refine aw_iadd dX7_goMake_135 (az_wr_id (by omega) (by omega)) ?_
        refine aw_iload dX7_goMake_136 rfl ?_
        refine aw_iast dX7_goMake_138 (by assumption) (by omega) (by omega) ?_
        refine aw_aload_n dX7_goMake_139 rfl rfl ⟨by decide, by decide⟩ ?_
        refine aw_gzF 0 dX7_goMake_140 fl_RX7_7 (by assumption) rfl rfl (by assumption) ?_
        refine aw_sipush dX7_goMake_143 (by decide) ⟨by decide, by decide⟩ ?_
        refine aw_dup2 dX7_goMake_146 ?_
        refine aw_iv dX7_goMake_147 (by assumption) (by omega) (by omega) v147' ?_
        refine aw_iconst dX7_goMake_148 rfl ⟨by decide, by decide⟩ ?_
        refine aw_iadd dX7_goMake_149 rfl ?_
        refine aw_iast dX7_goMake_150 (by assumption) (by omega) (by omega) ?_
        generalize hM9 : az_up (az_up M7 (m + 1) (715 + r) (2 * n)) (m + 1) 733 (az_wr (T.1 733 + 1)) = M9
        have e9 : ∀ i, M9 (m + 1) i = if i = 733 then az_wr (T.1 733 + 1) else if i = 715 + r then 2 * n else M7 (m + 1) i := fun i => by rw [← hM9, up_row, up_row]
        have o9 : ∀ b, b ≠ m + 1 → M9 b = M7 b := fun b hb => by rw [← hM9, up_oth _ _ _ hb, up_oth _ _ _ hb]
        have hfr : frM M M9 m := fun b hb hb2 => by rw [o9 b hb, o7 b hb, o6 b hb, w3' b hb, o4 b hb, u3 b hb]; exact hf2 b hb hb2
        have hs9 : HM M9 m (plS T (szF f) f r) := by
          refine MT_place y2 t1.1 hsz hz ⟨p2, p3⟩ ?_ ?_ ?_ ?_
          · intro i i0 i1 i2 i3
            rw [q2, e9]
            unfold plG
            by_cases a1 : i = 733
            · rw [if_pos a1, if_neg (by omega), if_neg (by omega), if_neg (by omega), if_neg (by omega), if_pos a1]
            · rw [if_neg a1]
              by_cases a2 : i = 715 + r
              · rw [if_pos a2, if_neg (by omega), if_neg (by omega), if_neg (by omega), if_pos a2]
              · rw [if_neg a2, e7]
                by_cases a3 : 257 + 2 * n ≤ i ∧ i < 257 + 2 * n + f
                · rw [if_pos a3, if_neg (by omega), if_neg (by omega), if_pos a3]
                · rw [if_neg a3, e6]
                  by_cases a4 : i = 128 + 2 * n
                  · rw [if_pos a4, if_neg (by omega), if_pos a4]
                  · rw [if_neg a4, w2' i (by omega) (by omega), e4]
                    by_cases a5 : i = 2 * n
                    · rw [if_pos a5, if_pos a5]
                    · rw [if_neg a5, if_neg a5, if_neg a4, if_neg a3, if_neg a2, if_neg a1, u2 i (by omega) (by omega)]
                      exact y2.1 i i0 i1 i2 i3
          · rw [q2, show 2 * n / 2 = n by omega]
            refine mRing_eq w1' (fun i i0 i1 => ?_) zn0 zn3 ?_
            · rw [e9, if_neg (by omega), if_neg (by omega), e7, if_neg (by omega), e6, if_neg (by omega)]
            · rw [← m1]
              unfold ins
              rw [List.take_length, List.drop_length, List.length_append, List.length_singleton]
              omega
          · intro i i0 i1 i2 i3
            rw [e9, if_neg (by omega), if_neg (by omega), e7, if_neg (by omega), e6, if_neg (by omega), w2' i i2 i3, e4, if_neg (by omega), u2 i i2 i3]
          · rw [e9, if_neg (by omega), if_neg (by omega), e7, if_neg (by omega), e6, if_neg (by omega), w2' _ (by omega) (by omega), e4, if_neg (by omega), u2 _ (by omega) (by omega)]
        rw [q2] at hA
        have hQ1 : ∀ M' : az_M, HM M' m (againS (plS T (szF f) f r) (szF f)) → frM M M' m → Q (2 * n) M' := fun M' a b => by
          rw [← hQ, hA, hB]
          exact ⟨rfl, a, b⟩
        have v152 : M9 (m + 1) 726 = (plS T (szF f) f r).1 726 := hs9.1 726 (by omega) (by omega) (by omega) (by omega)
        have v172 : M9 (m + 1) 738 = (plS T (szF f) f r).1 738 := hs9.1 738 (by omega) (by omega) (by omega) (by omega)
        have hrs := sp_runs hKa0 M9
        rw [v152] at hrs
        generalize plS T (szF f) f r = U at *
        have hU := run01 p1
        have hWU := WR_of p1.1
        have hag : againS U (szF f) = if U.1 726 = 0 ∧ ((U.2.1 (szF f / 4 * 4)).length : Int) < U.1 738 then startS U else U := rfl
        rw [hz] at hag
        have hcnt := cnt_row hWU hs9.1 (c := 0) hkk (by omega) (by omega)
        rw [Int.add_zero] at hcnt
        have hco := qp_c (sp_countOf hKa0 M9 z 0 zn0 zn3 (rL U.2.1 (4 * z)) (hs9.2.1 z zn0 zn3) (rL_len hWU hkk) (rL_in hWU hkk)) hcnt
        refine aw_aload_n dX7_goMake_151 rfl rfl ⟨by decide, by decide⟩ ?_
        refine aw_cV0p dX7_goMake_152 ml_RX7_181 (by assumption) (by decide) rfl rfl ⟨by decide, by decide, by decide, by decide⟩ (Nat.le_of_ble_eq_true rfl) (hrs) ?_
        refine aw_if_ne (tgt := 180) dX7_goMake_155 rfl (fun h155 => ?_) (fun h155 => ?_)
        · have e1 : U.1 726 = 1 := if1 h155
          refine aw_iload dX7_goMake_180 rfl ?_
          refine aw_iret dX7_goMake_182 (by decide) (by decide) ⟨_, rfl, rfl, hQ1 M9 ?_ hfr⟩
          rw [hag, if_neg (fun q => by have := q.1; omega)]; exact hs9
        · have e1 : ¬ U.1 726 = 1 := if0 h155
          refine aw_aload_n dX7_goMake_158 rfl rfl ⟨by decide, by decide⟩ ?_
          refine aw_iload dX7_goMake_159 rfl ?_
          refine aw_iconst dX7_goMake_161 rfl ⟨by decide, by decide⟩ ?_
          refine aw_cV2p dX7_goMake_162 ml_RX7_119 (by assumption) (by decide) rfl rfl ⟨by decide, by decide, by decide, by decide⟩ (Nat.le_of_ble_eq_true rfl) (hco) ?_
          refine aw_aload_n dX7_goMake_165 rfl rfl ⟨by decide, by decide⟩ ?_
          refine aw_gzF 0 dX7_goMake_166 fl_RX7_7 (by assumption) rfl rfl (by assumption) ?_
          refine aw_sipush dX7_goMake_169 (by decide) ⟨by decide, by decide⟩ ?_
          refine aw_iv dX7_goMake_172 (by assumption) (by omega) (by omega) v172 ?_
          refine aw_icmp_ge (tgt := 180) dX7_goMake_173 rfl (fun h173 => ?_) (fun h173 => ?_)
          · refine aw_iload dX7_goMake_180 rfl ?_
            refine aw_iret dX7_goMake_182 (by decide) (by decide) ⟨_, rfl, rfl, hQ1 M9 ?_ hfr⟩
            rw [hag, if_neg (fun q => by have := q.2; omega)]; exact hs9
          · refine aw_aload_n dX7_goMake_176 rfl rfl ⟨by decide, by decide⟩ ?_
            refine aw_cV0v dX7_goMake_177 ml_RX7_207 (by assumption) (by decide) rfl rfl ⟨by decide, by decide, by decide, by decide⟩ (Nat.le_of_ble_eq_true rfl) (sp_goStart hKa0 M9 hs9 p1.1 (by omega) (by omega) (by omega)) (fun M10 hM10 => ?_)
            refine aw_iload dX7_goMake_180 rfl ?_
            refine aw_iret dX7_goMake_182 (by decide) (by decide) ⟨_, rfl, rfl, hQ1 M10 ?_ (hfr.trans (frM.of hM10.2))⟩
            rw [hag, if_pos ⟨by omega, by omega⟩]; exact hM10.1
      have loop : ∀ (k : Nat) (j : Int) (M7 : az_M), 0 ≤ j → j + k = f → (∀ i, M7 (m + 1) i = if 257 + 2 * n ≤ i ∧ i < 257 + 2 * n + j then -1 else M6 (m + 1) i) → (∀ b, b ≠ m + 1 → M7 b = M6 b) → AW az_P0 (az_Z (qi K Q) 0 0) (az_rm 9 0 0) yX7_goMake cX7_goMake 7 (some .int) 0 0 102 [(1, m), (0, r), (0, f), (0, szF f), (0, z), (0, 2 * n), (0, j)] [] K M7 := by
        intro k
        induction k with
        | zero =>
          intro j M7 j0 j1 e7 o7
          have hj : j = f := by omega
          subst hj
          refine aw_iload dX7_goMake_102 rfl ?_
          refine aw_iload_n dX7_goMake_104 rfl rfl ?_
          refine aw_icmp_ge (tgt := 127) dX7_goMake_105 rfl (fun h105 => ?_) (fun h105 => absurd h105 (by omega))
          exact fin M7 e7 o7
        | succ k ih =>
          intro j M7 j0 j1 e7 o7
          refine aw_iload dX7_goMake_102 rfl ?_
          refine aw_iload_n dX7_goMake_104 rfl rfl ?_
          refine aw_icmp_ge (tgt := 127) dX7_goMake_105 rfl (fun h105 => absurd h105 (by omega)) (fun h105 => ?_)
          refine aw_aload_n dX7_goMake_108 rfl rfl ⟨by decide, by decide⟩ ?_
          refine aw_gzF 0 dX7_goMake_109 fl_RX7_7 (by assumption) rfl rfl (by assumption) ?_
          refine aw_iload dX7_goMake_112 rfl ?_
          refine aw_iload dX7_goMake_114 rfl ?_
          refine aw_cS2p dX7_goMake_116 ml_RX7_161 ⟨by decide, by decide, by decide, by decide⟩ (Nat.le_of_ble_eq_true rfl) (sp_fieldAt K M7 (2 * n) j (by omega) (by omega) (by omega) (by omega)) ?_
          refine aw_iconst dX7_goMake_119 rfl ⟨by decide, by decide⟩ ?_
          refine aw_iast dX7_goMake_120 (by assumption) (by omega) (by omega) ?_
          refine aw_iinc dX7_goMake_121 rfl (az_wr_id (by omega) (by omega)) (by decide) ?_
          refine aw_goto (tgt := 102) dX7_goMake_124 rfl ?_
          refine ih (j + 1) _ (by omega) (by omega) (fun i => ?_) (fun b hb => by rw [up_oth _ _ _ hb]; exact o7 b hb)
          rw [up_row]
          show (if i = 256 + 2 * n + 1 + j then -1 else M7 (m + 1) i) = _
          rw [e7]
          by_cases a1 : i = 256 + 2 * n + 1 + j
          · rw [if_pos a1, if_pos (by omega)]
          · rw [if_neg a1]
            by_cases a2 : 257 + 2 * n ≤ i ∧ i < 257 + 2 * n + j
            · rw [if_pos a2, if_pos (by omega)]
            · rw [if_neg a2, if_neg (by omega)]
      exact loop f.toNat 0 M6 (by omega) (by omega) (fun i => by rw [if_neg (by omega)]) (fun _ _ => rfl)
    · obtain ⟨y1, y2, y3⟩ := hM2
      rw [← hT] at y1 y2
      have he : adr (bldT S f) (szF f) = -1 := Classical.byContradiction (fun q => by rw [y1, if_neg q] at h36; omega)
      rw [if_pos he] at hA hB
      refine aw_bipush dX7_goMake_39 (by decide) ⟨by decide, by decide⟩ ?_
      refine aw_iret dX7_goMake_41 (by decide) (by decide) ⟨_, rfl, rfl, ?_⟩
      rw [← hQ, hA, hB]
      exact ⟨rfl, y2, hf1.trans y3⟩
  have v1 : M (m + 1) 726 = S.1 726 := hc.1 726 (by omega) (by omega) (by omega) (by omega)
  have v15 : M (m + 1) 737 = S.1 737 := hc.1 737 (by omega) (by omega) (by omega) (by omega)
  have hrs := sp_runs hKa0 M
  rw [v1] at hrs
  refine aw_aload_n dX7_goMake_0 rfl rfl ⟨by decide, by decide⟩ ?_
  refine aw_cV0p dX7_goMake_1 ml_RX7_181 (by assumption) (by decide) rfl rfl ⟨by decide, by decide, by decide, by decide⟩ (Nat.le_of_ble_eq_true rfl) (hrs) ?_
  refine aw_if_eq (tgt := 20) dX7_goMake_4 rfl (fun h4 => ?_) (fun h4 => ?_)
  · have e1 : ¬ S.1 726 = 1 := if0 h4
    refine body M ?_ (frM.refl M m)
    rw [(adv_stop e1 _).1]; exact hc
  · refine aw_aload_n dX7_goMake_7 rfl rfl ⟨by decide, by decide⟩ ?_
    refine aw_aload_n dX7_goMake_8 rfl rfl ⟨by decide, by decide⟩ ?_
    refine aw_gzF 0 dX7_goMake_9 fl_RX7_7 (by assumption) rfl rfl (by assumption) ?_
    refine aw_sipush dX7_goMake_12 (by decide) ⟨by decide, by decide⟩ ?_
    refine aw_iv dX7_goMake_15 (by assumption) (by omega) (by omega) v15 ?_
    refine aw_cV1i dX7_goMake_16 ml_RX7_189 (by assumption) (by decide) rfl rfl ⟨by decide, by decide, by decide, by decide⟩ (Nat.le_of_ble_eq_true rfl) (sp_goSteps hK0 M hc hw (by omega) hcz (S.1 737) hpace.1 (by omega)) (fun x M1 hM1 => ?_)
    refine aw_pop dX7_goMake_19 ?_
    exact body M1 hM1.2.1 hM1.2.2
