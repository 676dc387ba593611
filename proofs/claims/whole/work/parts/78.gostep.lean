/-! TreadRingModel: goStep, goSteps, force -/
set_option maxRecDepth 20000
/-- what a method on the reference's heap leaves as it was -/
def frM (M M' : az_M) (m : Int) : Prop := ∀ b, b ≠ m + 1 → b ≠ m + 2 → M' b = M b
theorem frM.refl (M : az_M) (m : Int) : frM M M m := fun _ _ _ => rfl
theorem frM.trans {M M1 M2 : az_M} {m : Int} (a : frM M M1 m) (b : frM M1 M2 m) : frM M M2 m := fun x h1 h2 => (b x h1 h2).trans (a x h1 h2)
theorem frM.of {M M' : az_M} {m : Int} (h : ∀ b, b ≠ m + 1 → M' b = M b) : frM M M' m := fun b h1 _ => h b h1
theorem HM_fr {M M' : az_M} {m : Int} {S : hSt} (h : HM M m S) (e : M' (m + 1) = M (m + 1)) : HM M' m S := by
  unfold HM
  rw [e]
  exact h
theorem MT_take {M M' : az_M} {m : Int} {S : hSt} (h : HM M m S) (hw : WS S) (hne : 0 < S.2.2.length) (f : ∀ i, M' (m + 1) i = if i = 728 then 0 else if i = 727 then S.2.2.getD (bs S.1 S.2.2 S.2.2.length).toNat 0 else M (m + 1) i) : HM M' m (takeS S) := by
  have hbi := bs_in S.1 S.2.2 S.2.2.length hne
  obtain ⟨b, hb⟩ : ∃ b : Nat, b = (bs S.1 S.2.2 S.2.2.length).toNat := ⟨_, rfl⟩
  have hbl : b < S.2.2.length := by omega
  obtain ⟨a, r, c1, c2, c3, c4⟩ := h
  unfold takeS
  rw [← hb] at f ⊢
  have hx : ∀ i : Nat, i < S.2.2.length → 0 ≤ S.2.2.getD i 0 ∧ S.2.2.getD i 0 < 128 := fun i hi => gl_in hw _ (getD_mem hi)
  have f2 : ∀ i : Nat, i < S.2.2.length → M' (m + 1) (384 + S.2.2.getD i 0) = M (m + 1) (384 + S.2.2.getD i 0) := fun i hi => by
    have := hx i hi
    rw [f, if_neg (by omega), if_neg (by omega)]
  have f3 : M' (m + 1) 739 = M (m + 1) 739 := by rw [f, if_neg (by omega), if_neg (by omega)]
  have hl : (S.2.2.eraseIdx b).length = S.2.2.length - 1 := by rw [List.length_eraseIdx, if_pos hbl]
  have hp : ∀ i : Nat, i < S.2.2.length - 1 → ∃ i' : Nat, i' < S.2.2.length ∧ (S.2.2.eraseIdx b).getD i 0 = S.2.2.getD i' 0 ∧ i' = if i < b then i else i + 1 := by
    intro i hi
    refine ⟨if i < b then i else i + 1, by split <;> omega, ?_, rfl⟩
    rw [getD_erase]
    split <;> rfl
  refine ⟨fun i i0 i1 i2 i3 => ?_, fun z z0 z1 => ?_, ?_, ?_, fun i hi => ?_, fun i j hij hj => ?_⟩
  · show _ = gu (gu S.1 727 (S.2.2.getD b 0)) 728 0 i
    rw [f]
    unfold gu
    by_cases e : i = 728
    · rw [if_pos e, if_pos e]
    · rw [if_neg e, if_neg e]
      by_cases e2 : i = 727
      · rw [if_pos e2, if_pos e2]
      · rw [if_neg e2, if_neg e2]; exact a i i0 i1 i2 i3
  · exact mRing_eq (r z z0 z1) (fun i i0 i1 => by rw [f, if_neg (by omega), if_neg (by omega)]) z0 z1 (rL_len (WR_of hw) (by omega))
  · rw [f3]; exact c1
  · show _ + eN S.2.1 ≤ 64 * (gu (gu S.1 727 (S.2.2.getD b 0)) 728 0 729 + gu (gu S.1 727 (S.2.2.getD b 0)) 728 0 726)
    rw [f3, gu_n _ _ (by omega), gu_n _ _ (by omega), gu_n _ _ (by omega), gu_n _ _ (by omega)]; exact c2
  · have hi' : i < (S.2.2.eraseIdx b).length := hi
    rw [hl] at hi'
    obtain ⟨i', q1, q2, -⟩ := hp i hi'
    show 0 ≤ M' (m + 1) (384 + (S.2.2.eraseIdx b).getD i 0) ∧ M' (m + 1) (384 + (S.2.2.eraseIdx b).getD i 0) ≤ M' (m + 1) 739
    rw [q2, f2 i' q1, f3]; exact c3 i' q1
  · have hj' : j < (S.2.2.eraseIdx b).length := hj
    rw [hl] at hj'
    obtain ⟨i', q1, q2, q3⟩ := hp i (by omega)
    obtain ⟨j', p1, p2, p3⟩ := hp j hj'
    show M' (m + 1) (384 + (S.2.2.eraseIdx b).getD i 0) < M' (m + 1) (384 + (S.2.2.eraseIdx b).getD j 0)
    rw [q2, p2, f2 i' q1, f2 j' p1]
    refine c4 i' j' ?_ p1
    rw [q3, p3]
    split <;> split <;> omega
set_option maxHeartbeats 2000000 in
theorem sp_goStep {K : az_K} {m : Int} (hK : MoK K m) (M : az_M) {S : hSt} (hc : HM M m S) (hw : WL S) (hr : S.1 726 = 1) (hcy : S.1 729 ≤ 20000000) (hcz : 0 ≤ S.1 729) : AM yX7_goStep cX7_goStep 3 none 5 0 0 [(1, m)] K M (qv K (fun M' => HM M' m (stepS S) ∧ frM M M' m)) := by
  have hK0 := hK
  obtain ⟨hKa, k2, z1⟩ := hK
  have hKa0 := hKa
  obtain ⟨km, k1, zz⟩ := hKa
  refine am_of (by decide) (Nat.le_of_ble_eq_true rfl) (L := [(1, m), (9, 0), (9, 0)]) rfl ?_
  have hwl1 : WL (tickS S) := ⟨tickS_wf hw.1, by
    intro _
    have := hw.2 hr
    unfold tickS
    show S.2.2 ≠ [] ∨ gu S.1 730 (az_wr (S.1 730 + 1)) 727 ≠ -1
    rw [gu_n _ _ (by omega)]; exact this⟩
  have hr1 : (tickS S).1 726 = 1 := by
    show gu S.1 730 (az_wr (S.1 730 + 1)) 726 = 1
    rw [gu_n _ _ (by omega)]; exact hr
  obtain ⟨p1, p2, p3⟩ := pickS_wf hwl1 hr1
  obtain ⟨l1, l2, l3, l4⟩ := lookS_wf p1 p2
  rw [← l2] at l3
  obtain ⟨b1, b2, b3, b4⟩ := blackS_wf l1 l3
  obtain ⟨r1, r2⟩ := rootsS_wf b1
  have hd : stepS S = doneS (lookS (pickS (tickS S))) := rfl
  have hlc := look_cy p1 p2
  have htc : (tickS S).1 729 = S.1 729 := by
    show gu S.1 730 (az_wr (S.1 730 + 1)) 729 = _
    rw [gu_n _ _ (by omega)]
  have hpc : (pickS (tickS S)).1 729 = S.1 729 := by
    unfold pickS
    split
    · show gu (gu (tickS S).1 727 ((tickS S).2.2.getD (bs (tickS S).1 (tickS S).2.2 (tickS S).2.2.length).toNat 0)) 728 0 729 = _
      rw [gu_n _ _ (by omega), gu_n _ _ (by omega), htc]
    · exact htc
  rw [hpc] at hlc
  have v8 : M (m + 1) 730 = S.1 730 := hc.1 730 (by omega) (by omega) (by omega) (by omega)
  refine aw_aload_n dX7_goStep_0 rfl rfl ⟨by decide, by decide⟩ ?_
  refine aw_gzF 0 dX7_goStep_1 fl_RX7_7 (by assumption) rfl rfl (by assumption) ?_
  refine aw_sipush dX7_goStep_4 (by decide) ⟨by decide, by decide⟩ ?_
  refine aw_dup2 dX7_goStep_7 ?_
  refine aw_iv dX7_goStep_8 (by assumption) (by omega) (by omega) v8 ?_
  refine aw_iconst dX7_goStep_9 rfl ⟨by decide, by decide⟩ ?_
  refine aw_iadd dX7_goStep_10 rfl ?_
  refine aw_iast dX7_goStep_11 (by assumption) (by omega) (by omega) ?_
  have hs1 : HM (az_up M (m + 1) 730 (az_wr (S.1 730 + 1))) m (tickS S) := HM_up hc hw.1 (by omega) (by omega) (by omega) (by omega)
  have hf1 : frM M (az_up M (m + 1) 730 (az_wr (S.1 730 + 1))) m := fun b h1 _ => up_oth _ _ _ h1
  generalize az_up M (m + 1) 730 (az_wr (S.1 730 + 1)) = M1 at hs1 hf1
  refine aw_aload_n dX7_goStep_12 rfl rfl ⟨by decide, by decide⟩ ?_
  refine aw_cV0v dX7_goStep_13 ml_RX7_175 (by assumption) (by decide) rfl rfl ⟨by decide, by decide, by decide, by decide⟩ (Nat.le_of_ble_eq_true rfl) (sp_clearOut hK0 M1) (fun M2 hM2 => ?_)
  obtain ⟨co1, co2⟩ := hM2
  have hs2 : HM M2 m (tickS S) := HM_fr hs1 (co2 _ (by omega))
  have hf2 : frM M M2 m := fun b h1 h2 => by rw [co2 b h2]; exact hf1 b h1 h2
  generalize hP : pickS (tickS S) = P at *
  have rest3 : ∀ (M8 : az_M) (x1 x2 : az_V), HM M8 m (blackS (lookS P)) → frM M M8 m → ¬ (lookS P).1 728 < (lookS P).1 (128 + (lookS P).1 727) → AW az_P0 (az_Z (qv K (fun M' => HM M' m (stepS S) ∧ frM M M' m)) 0 0) (az_rm 5 0 0) yX7_goStep cX7_goStep 3 none 0 0 159 [(1, m), x1, x2] [] K M8 := by
    intro M8 x1 x2 hs8 hf8 hge
    have hd2 : stepS S = lastS (rootsS (blackS (lookS P))) := by rw [hd]; unfold doneS; rw [if_neg hge]
    have hB7 := b2
    generalize hB : blackS (lookS P) = B at *
    have h0 := col2_zero (S := B) b1
    have hpos := col_in (WR_of b1) (c := 2) (by omega) (by omega)
    refine aw_aload_n dX7_goStep_159 rfl rfl ⟨by decide, by decide⟩ ?_
    refine aw_iconst dX7_goStep_160 rfl ⟨by decide, by decide⟩ ?_
    refine aw_cV1p dX7_goStep_161 ml_RX7_122 (by assumption) (by decide) rfl rfl ⟨by decide, by decide, by decide, by decide⟩ (Nat.le_of_ble_eq_true rfl) (sp_countAll hKa0 M8 (WR_of b1) hs8.1 hs8.2.1 2 (by omega) (by omega)) ?_
    refine aw_if_le (tgt := 168) dX7_goStep_164 rfl (fun h164 => ?_) (fun h164 => ?_)
    · have hB0 : B.2.2 = [] := (h0.mp (by omega)).1
      have hB0' : B.2.2.length = 0 := by rw [hB0]; rfl
      have v175 : M8 (m + 1) 735 = B.1 735 := hs8.1 735 (by omega) (by omega) (by omega) (by omega)
      have hb729 : B.1 729 = S.1 729 := by rw [b4 729 (by omega) (by omega) (by omega), hlc]
      have last : ∀ M9 : az_M, HM M9 m (rootsS B) → frM M M9 m → AW az_P0 (az_Z (qv K (fun M' => HM M' m (stepS S) ∧ frM M M' m)) 0 0) (az_rm 5 0 0) yX7_goStep cX7_goStep 3 none 0 0 184 [(1, m), x1, x2] [] K M9 := by
        intro M9 hs9 hf9
        have h9 := col2_zero (S := rootsS B) r1
        refine aw_aload_n dX7_goStep_184 rfl rfl ⟨by decide, by decide⟩ ?_
        refine aw_iconst dX7_goStep_185 rfl ⟨by decide, by decide⟩ ?_
        refine aw_cV1p dX7_goStep_186 ml_RX7_122 (by assumption) (by decide) rfl rfl ⟨by decide, by decide, by decide, by decide⟩ (Nat.le_of_ble_eq_true rfl) (sp_countAll hKa0 M9 (WR_of r1) hs9.1 hs9.2.1 2 (by omega) (by omega)) ?_
        refine aw_if_ne (tgt := 196) dX7_goStep_189 rfl (fun h189 => ?_) (fun h189 => ?_)
        · refine aw_vret dX7_goStep_196 (by decide) (by decide) ⟨rfl, rfl, ?_, hf9⟩
          rw [hd2]
          unfold lastS
          rw [if_neg]
          · exact hs9
          · intro q
            exact h189 (h9.mpr ⟨List.length_eq_zero_iff.mp q, by rw [r2 727 (by omega)]; exact hB7⟩)
        · obtain ⟨q1, q2⟩ := h9.mp h189
          have h729 : (rootsS B).1 729 = S.1 729 := by rw [r2 729 (by omega), hb729]
          refine aw_aload_n dX7_goStep_192 rfl rfl ⟨by decide, by decide⟩ ?_
          refine aw_cV0v dX7_goStep_193 ml_RX7_152 (by assumption) (by decide) rfl rfl ⟨by decide, by decide, by decide, by decide⟩ (Nat.le_of_ble_eq_true rfl) (sp_goEnd hKa0 M9 hs9 r1 q1 q2 (by rw [h729]; exact hcy) (by rw [h729]; exact hcz)) (fun M10 hM10 => ?_)
          refine aw_vret dX7_goStep_196 (by decide) (by decide) ⟨rfl, rfl, ?_, fun b h1 h2 => by rw [hM10.2 b h1]; exact hf9 b h1 h2⟩
          rw [hd2]
          unfold lastS
          rw [if_pos (by rw [q1]; rfl)]
          exact hM10.1
      refine aw_aload_n dX7_goStep_168 rfl rfl ⟨by decide, by decide⟩ ?_
      refine aw_gzF 0 dX7_goStep_169 fl_RX7_7 (by assumption) rfl rfl (by assumption) ?_
      refine aw_sipush dX7_goStep_172 (by decide) ⟨by decide, by decide⟩ ?_
      refine aw_iv dX7_goStep_175 (by assumption) (by omega) (by omega) v175 ?_
      refine aw_iconst dX7_goStep_176 rfl ⟨by decide, by decide⟩ ?_
      refine aw_icmp_ne (tgt := 184) dX7_goStep_177 rfl (fun h177 => ?_) (fun h177 => ?_)
      · refine last M8 ?_ hf8
        unfold rootsS
        rw [if_neg (fun q => h177 q.2)]
        exact hs8
      · refine aw_aload_n dX7_goStep_180 rfl rfl ⟨by decide, by decide⟩ ?_
        refine aw_cV0v dX7_goStep_181 ml_RX7_149 (by assumption) (by decide) rfl rfl ⟨by decide, by decide, by decide, by decide⟩ (Nat.le_of_ble_eq_true rfl) (sp_greyRoots hKa0 M8 hs8 b1 (by rw [hb729]; exact hcy)) (fun M9 hM9 => ?_)
        refine last M9 ?_ (fun b h1 h2 => by rw [hM9.2 b h1]; exact hf8 b h1 h2)
        unfold rootsS
        rw [if_pos ⟨hB0', h177⟩]
        exact hM9.1
    · refine aw_vret dX7_goStep_167 (by decide) (by decide) ⟨rfl, rfl, ?_, hf8⟩
      have hB0 : B.2.2.length ≠ 0 := fun q => by
        have := h0.mpr ⟨List.length_eq_zero_iff.mp q, hB7⟩
        omega
      have hrb : rootsS B = B := by unfold rootsS; rw [if_neg (fun q => hB0 q.1)]
      rw [hd2, hrb]
      unfold lastS
      rw [if_neg hB0]
      exact hs8
  have rest2 : ∀ (M5 : az_M) (x2 : az_V), HM M5 m (lookS P) → frM M M5 m → AW az_P0 (az_Z (qv K (fun M' => HM M' m (stepS S) ∧ frM M M' m)) 0 0) (az_rm 5 0 0) yX7_goStep cX7_goStep 3 none 0 0 114 [(1, m), (0, (lookS P).1 727), x2] [] K M5 := by
    intro M5 x2 hs5 hf5
    generalize hL : lookS P = L at *
    have a0 := l3.1.1
    have a1 := l3.1.2.1
    have v121 : M5 (m + 1) 728 = L.1 728 := hs5.1 728 (by omega) (by omega) (by omega) (by omega)
    have v131 : M5 (m + 1) (128 + L.1 727) = L.1 (128 + L.1 727) := hs5.1 _ (by omega) (by omega) (by omega) (by omega)
    have ac2 : L.1 (L.1 727) = 2 := by
      rcases l1.2.2.2.2.2.1.2.2.2.2 with r5 | r5
      · omega
      · exact r5.2.1
    refine aw_aload_n dX7_goStep_114 rfl rfl ⟨by decide, by decide⟩ ?_
    refine aw_gzF 0 dX7_goStep_115 fl_RX7_7 (by assumption) rfl rfl (by assumption) ?_
    refine aw_sipush dX7_goStep_118 (by decide) ⟨by decide, by decide⟩ ?_
    refine aw_iv dX7_goStep_121 (by assumption) (by omega) (by omega) v121 ?_
    refine aw_aload_n dX7_goStep_122 rfl rfl ⟨by decide, by decide⟩ ?_
    refine aw_gzF 0 dX7_goStep_123 fl_RX7_7 (by assumption) rfl rfl (by assumption) ?_
    refine aw_sipush dX7_goStep_126 (by decide) ⟨by decide, by decide⟩ ?_
    refine aw_iload_n dX7_goStep_129 rfl rfl ?_
    refine aw_iadd dX7_goStep_130 (az_wr_id (by omega) (by omega)) ?_
    refine aw_iv dX7_goStep_131 (by assumption) (by omega) (by omega) v131 ?_
    refine aw_icmp_lt (tgt := 159) dX7_goStep_132 rfl (fun h132 => ?_) (fun h132 => ?_)
    · have hcn := col2_zero (S := L) l1
      have hpos := col_in (WR_of l1) (c := 2) (by omega) (by omega)
      have hne : colN L.2.1 2 ≠ 0 := fun q => by have := (hcn.mp q).2; omega
      refine aw_aload_n dX7_goStep_159 rfl rfl ⟨by decide, by decide⟩ ?_
      refine aw_iconst dX7_goStep_160 rfl ⟨by decide, by decide⟩ ?_
      refine aw_cV1p dX7_goStep_161 ml_RX7_122 (by assumption) (by decide) rfl rfl ⟨by decide, by decide, by decide, by decide⟩ (Nat.le_of_ble_eq_true rfl) (sp_countAll hKa0 M5 (WR_of l1) hs5.1 hs5.2.1 2 (by omega) (by omega)) ?_
      refine aw_if_le (tgt := 168) dX7_goStep_164 rfl (fun h164 => ?_) (fun h164 => ?_)
      · omega
      · refine aw_vret dX7_goStep_167 (by decide) (by decide) ⟨rfl, rfl, ?_, hf5⟩
        rw [hd]
        unfold doneS
        rw [if_pos (by exact h132)]
        exact hs5
    · have hbc := sp_becomes hKa0 M5 (WR_of l1) hs5.1 hs5.2.1 (L.1 727) 2 l3.1 (Or.inr rfl) ac2
      refine aw_aload_n dX7_goStep_135 rfl rfl ⟨by decide, by decide⟩ ?_
      refine aw_iload_n dX7_goStep_136 rfl rfl ?_
      refine aw_iconst dX7_goStep_137 rfl ⟨by decide, by decide⟩ ?_
      refine aw_cV2v dX7_goStep_138 ml_RX7_139 (by assumption) (by decide) rfl rfl ⟨by decide, by decide, by decide, by decide⟩ (Nat.le_of_ble_eq_true rfl) (hbc) (fun M6 hM6 => ?_)
      obtain ⟨e1, e2, e3, e4⟩ := hM6
      refine aw_aload_n dX7_goStep_141 rfl rfl ⟨by decide, by decide⟩ ?_
      refine aw_gzF 0 dX7_goStep_142 fl_RX7_7 (by assumption) rfl rfl (by assumption) ?_
      refine aw_sipush dX7_goStep_145 (by decide) ⟨by decide, by decide⟩ ?_
      refine aw_iconst dX7_goStep_148 rfl ⟨by decide, by decide⟩ ?_
      refine aw_iast dX7_goStep_149 (by assumption) (by omega) (by omega) ?_
      refine aw_aload_n dX7_goStep_150 rfl rfl ⟨by decide, by decide⟩ ?_
      refine aw_gzF 0 dX7_goStep_151 fl_RX7_7 (by assumption) rfl rfl (by assumption) ?_
      refine aw_sipush dX7_goStep_154 (by decide) ⟨by decide, by decide⟩ ?_
      refine aw_iconst dX7_goStep_157 rfl ⟨by decide, by decide⟩ ?_
      refine aw_iast dX7_goStep_158 (by assumption) (by omega) (by omega) ?_
      have g7 : ∀ i, az_up (az_up M6 (m + 1) 727 (-1)) (m + 1) 728 0 (m + 1) i = if i = 728 then 0 else if i = 727 then -1 else M6 (m + 1) i := fun i => by rw [up_row, up_row]
      refine rest3 _ _ _ ?_ (fun b h1 h2 => by rw [up_oth _ _ _ h1, up_oth _ _ _ h1, e4 b h1]; exact hf5 b h1 h2) (by omega)
      have hWRb := WR_of b1
      have hgr : ∀ i : Nat, i < L.2.2.length → 0 ≤ L.2.2.getD i 0 ∧ L.2.2.getD i 0 < 128 := fun i hi => gl_in l1 _ (getD_mem hi)
      have hEN : eN (blackS L).2.1 = eN L.2.1 := by
        obtain ⟨s1, s2, s3, s4, s5⟩ := sl_even l1.1 l3.1
        have hk : kz L.1 (L.1 727) = 0 ∨ kz L.1 (L.1 727) = 4 ∨ kz L.1 (L.1 727) = 8 := by unfold kz at s4 s5 ⊢; omega
        show eN (rmv L.2.1 (L.1 727 / 2) (kz L.1 (L.1 727) + 2) (kz L.1 (L.1 727) + 3) true) = _
        unfold eN rmv
        rcases hk with e | e | e <;> rw [e] <;> simp
      refine ⟨fun i i0 i1 i2 i3 => ?_, fun z z0 z1 => ?_, ?_, ?_, fun i hi => ?_, fun i j hij hj => ?_⟩
      · rw [g7]
        show _ = gu (gu (gu L.1 (L.1 727) 3) 727 (-1)) 728 0 i
        by_cases q : i = 728
        · rw [if_pos q, q, gu_s]
        · rw [if_neg q, gu_n _ _ q]
          by_cases q2 : i = 727
          · rw [if_pos q2, q2, gu_s]
          · rw [if_neg q2, gu_n _ _ q2]; exact e1 i i0 i1 i2 i3
      · exact mRing_eq (e2 z z0 z1) (fun i i0 i1 => by rw [g7, if_neg (by omega), if_neg (by omega)]) z0 z1 (rL_len hWRb (by omega))
      · rw [g7, if_neg (by omega), if_neg (by omega), e3 739 (by omega)]; exact hs5.2.2.1
      · rw [g7, if_neg (by omega), if_neg (by omega), e3 739 (by omega), hEN, b4 729 (by omega) (by omega) (by omega), b4 726 (by omega) (by omega) (by omega)]; exact hs5.2.2.2.1
      · have hi' : i < L.2.2.length := hi
        have := hgr i hi'
        show 0 ≤ az_up (az_up M6 (m + 1) 727 (-1)) (m + 1) 728 0 (m + 1) (384 + L.2.2.getD i 0) ∧ az_up (az_up M6 (m + 1) 727 (-1)) (m + 1) 728 0 (m + 1) (384 + L.2.2.getD i 0) ≤ az_up (az_up M6 (m + 1) 727 (-1)) (m + 1) 728 0 (m + 1) 739
        rw [g7, if_neg (by omega), if_neg (by omega), g7, if_neg (by omega), if_neg (by omega), e3 739 (by omega), e3 _ (by omega)]
        exact hs5.2.2.2.2.1 i hi'
      · have hj' : j < L.2.2.length := hj
        have q1 := hgr i (by omega)
        have q2 := hgr j hj'
        show az_up (az_up M6 (m + 1) 727 (-1)) (m + 1) 728 0 (m + 1) (384 + L.2.2.getD i 0) < az_up (az_up M6 (m + 1) 727 (-1)) (m + 1) 728 0 (m + 1) (384 + L.2.2.getD j 0)
        rw [g7, if_neg (by omega), if_neg (by omega), g7, if_neg (by omega), if_neg (by omega), e3 _ (by omega), e3 _ (by omega)]
        exact hs5.2.2.2.2.2 i j hij hj'
  have rest : ∀ (M3 : az_M), HM M3 m P → frM M M3 m → AW az_P0 (az_Z (qv K (fun M' => HM M' m (stepS S) ∧ frM M M' m)) 0 0) (az_rm 5 0 0) yX7_goStep cX7_goStep 3 none 0 0 48 [(1, m), (9, 0), (9, 0)] [] K M3 := by
    intro M3 hs3 hf3
    clear rest3
    have a0 := p2.1.1
    have a1 := p2.1.2.1
    have v55 : M3 (m + 1) 727 = P.1 727 := hs3.1 727 (by omega) (by omega) (by omega) (by omega)
    have v64 : M3 (m + 1) 728 = P.1 728 := hs3.1 728 (by omega) (by omega) (by omega) (by omega)
    have v74 : M3 (m + 1) (128 + P.1 727) = P.1 (128 + P.1 727) := hs3.1 _ (by omega) (by omega) (by omega) (by omega)
    refine aw_aload_n dX7_goStep_48 rfl rfl ⟨by decide, by decide⟩ ?_
    refine aw_gzF 0 dX7_goStep_49 fl_RX7_7 (by assumption) rfl rfl (by assumption) ?_
    refine aw_sipush dX7_goStep_52 (by decide) ⟨by decide, by decide⟩ ?_
    refine aw_iv dX7_goStep_55 (by assumption) (by omega) (by omega) v55 ?_
    refine aw_istore_n dX7_goStep_56 rfl (by decide) ?_
    refine aw_aload_n dX7_goStep_57 rfl rfl ⟨by decide, by decide⟩ ?_
    refine aw_gzF 0 dX7_goStep_58 fl_RX7_7 (by assumption) rfl rfl (by assumption) ?_
    refine aw_sipush dX7_goStep_61 (by decide) ⟨by decide, by decide⟩ ?_
    refine aw_iv dX7_goStep_64 (by assumption) (by omega) (by omega) v64 ?_
    refine aw_aload_n dX7_goStep_65 rfl rfl ⟨by decide, by decide⟩ ?_
    refine aw_gzF 0 dX7_goStep_66 fl_RX7_7 (by assumption) rfl rfl (by assumption) ?_
    refine aw_sipush dX7_goStep_69 (by decide) ⟨by decide, by decide⟩ ?_
    refine aw_iload_n dX7_goStep_72 rfl rfl ?_
    refine aw_iadd dX7_goStep_73 (az_wr_id (by omega) (by omega)) ?_
    refine aw_iv dX7_goStep_74 (by assumption) (by omega) (by omega) v74 ?_
    refine aw_icmp_ge (tgt := 114) dX7_goStep_75 rfl (fun h75 => ?_) (fun h75 => ?_)
    · have hlk : lookS P = P := by unfold lookS; rw [if_neg (by omega)]
      rw [hlk] at rest2
      exact rest2 M3 _ hs3 hf3
    · have r0 : 0 ≤ P.1 728 := by
        rcases p1.2.2.2.2.2.1.2.2.2.2 with r5 | r5
        · omega
        · exact r5.2.2.1
      have hfl := (p1.2.2.2.1 _ p2.1).2 p2.2
      have hpz := (sl_even p1.1 p2.1).2.2.1
      have hb := base_of p1.1 (f := P.1 728 + 1) p2.1 (by omega) (by omega)
      have hnk := p1.2.2.2.2.1.2 (P.1 727) (P.1 728) p2 r0 h75
      have v94 : M3 (m + 1) (256 + P.1 727 + 1 + P.1 728) = P.1 (256 + P.1 727 + 1 + P.1 728) := hs3.1 _ (by omega) (by omega) (by omega) (by omega)
      refine aw_aload_n dX7_goStep_78 rfl rfl ⟨by decide, by decide⟩ ?_
      refine aw_gzF 0 dX7_goStep_79 fl_RX7_7 (by assumption) rfl rfl (by assumption) ?_
      refine aw_iload_n dX7_goStep_82 rfl rfl ?_
      refine aw_aload_n dX7_goStep_83 rfl rfl ⟨by decide, by decide⟩ ?_
      refine aw_gzF 0 dX7_goStep_84 fl_RX7_7 (by assumption) rfl rfl (by assumption) ?_
      refine aw_sipush dX7_goStep_87 (by decide) ⟨by decide, by decide⟩ ?_
      refine aw_iv dX7_goStep_90 (by assumption) (by omega) (by omega) v64 ?_
      refine aw_cS2p dX7_goStep_91 ml_RX7_161 ⟨by decide, by decide, by decide, by decide⟩ (Nat.le_of_ble_eq_true rfl) (sp_fieldAt K M3 (P.1 727) (P.1 728) (by omega) (by omega) (by omega) (by omega)) ?_
      refine aw_iv dX7_goStep_94 (by assumption) (by omega) (by omega) v94 ?_
      refine aw_istore_n dX7_goStep_95 rfl (by decide) ?_
      refine aw_aload_n dX7_goStep_96 rfl rfl ⟨by decide, by decide⟩ ?_
      refine aw_gzF 0 dX7_goStep_97 fl_RX7_7 (by assumption) rfl rfl (by assumption) ?_
      refine aw_sipush dX7_goStep_100 (by decide) ⟨by decide, by decide⟩ ?_
      refine aw_dup2 dX7_goStep_103 ?_
      refine aw_iv dX7_goStep_104 (by assumption) (by omega) (by omega) v64 ?_
      refine aw_iconst dX7_goStep_105 rfl ⟨by decide, by decide⟩ ?_
      refine aw_iadd dX7_goStep_106 (az_wr_id (by omega) (by omega)) ?_
      refine aw_iast dX7_goStep_107 (by assumption) (by omega) (by omega) ?_
      have hs4 : HM (az_up M3 (m + 1) 728 (P.1 728 + 1)) m (gu P.1 728 (P.1 728 + 1), P.2.1, P.2.2) := HM_up hs3 p1 (by omega) (by omega) (by omega) (by omega)
      have hf4 : frM M (az_up M3 (m + 1) 728 (P.1 728 + 1)) m := fun b h1 h2 => by rw [up_oth _ _ _ h1]; exact hf3 b h1 h2
      generalize az_up M3 (m + 1) 728 (P.1 728 + 1) = M4 at hs4 hf4
      have hw4 : WS (gu P.1 728 (P.1 728 + 1), P.2.1, P.2.2) := gu728_wf p1 p2 (by omega) (by omega)
      have hnk4 : nok (gu P.1 728 (P.1 728 + 1)) (P.1 (256 + P.1 727 + 1 + P.1 728)) := (nok_gu (by omega) (by omega)).mpr hnk
      have hg := sp_mgrey hKa0 M4 hs4 hw4 (by show gu P.1 728 (P.1 728 + 1) 729 ≤ _; rw [gu_n _ _ (by omega), hpc]; exact hcy) (P.1 (256 + P.1 727 + 1 + P.1 728)) 1 hnk4 (Or.inr rfl)
      rw [if_pos rfl] at hg
      refine aw_aload_n dX7_goStep_108 rfl rfl ⟨by decide, by decide⟩ ?_
      refine aw_iload_n dX7_goStep_109 rfl rfl ?_
      refine aw_iconst dX7_goStep_110 rfl ⟨by decide, by decide⟩ ?_
      refine aw_cV2v dX7_goStep_111 ml_RX7_142 (by assumption) (by decide) rfl rfl ⟨by decide, by decide, by decide, by decide⟩ (Nat.le_of_ble_eq_true rfl) (hg) (fun M5 hM5 => ?_)
      have hlk : lookS P = greyS (gu P.1 728 (P.1 728 + 1), P.2.1, P.2.2) (P.1 (256 + P.1 727 + 1 + P.1 728)) := by unfold lookS; rw [if_pos h75]
      have h5 := rest2 M5 (0, P.1 (256 + P.1 727 + 1 + P.1 728)) (by rw [hlk]; exact hM5.1) (fun b h1 h2 => by rw [hM5.2 b h1]; exact hf4 b h1 h2)
      rw [l2] at h5
      exact h5
  have v23 : M2 (m + 1) 727 = (tickS S).1 727 := hs2.1 727 (by omega) (by omega) (by omega) (by omega)
  rcases run_in hwl1.1 with hq | hq
  · have hne : 0 < (tickS S).2.2.length := by
      rcases hwl1.2 hr1 with q | q
      · exact List.length_pos_iff.mpr q
      · exact absurd hq.1 q
    have hO : ∀ a, 0 ≤ a → a < 128 → (tickS S).1 a = 2 → a ∉ (tickS S).2.2 → M2 (m + 2) a ≠ 0 := by
      intro a a0 a1 h2 hn
      exfalso
      refine hn ((hwl1.1.2.2.2.2.2.1.2.2.2.1 a).mpr ⟨⟨?_, by omega⟩, h2, by omega⟩)
      rcases sl_dec (tickS S).1 a with q | q
      · exact q
      · have := (hwl1.1.2.1 a a0 a1).2.2 q; omega
    refine aw_aload_n dX7_goStep_16 rfl rfl ⟨by decide, by decide⟩ ?_
    refine aw_gzF 0 dX7_goStep_17 fl_RX7_7 (by assumption) rfl rfl (by assumption) ?_
    refine aw_sipush dX7_goStep_20 (by decide) ⟨by decide, by decide⟩ ?_
    refine aw_iv dX7_goStep_23 (by assumption) (by omega) (by omega) v23 ?_
    refine aw_if_ge (tgt := 48) dX7_goStep_24 rfl (fun h24 => absurd h24 (by omega)) (fun h24 => ?_)
    refine aw_aload_n dX7_goStep_27 rfl rfl ⟨by decide, by decide⟩ ?_
    refine aw_gzF 0 dX7_goStep_28 fl_RX7_7 (by assumption) rfl rfl (by assumption) ?_
    refine aw_sipush dX7_goStep_31 (by decide) ⟨by decide, by decide⟩ ?_
    refine aw_aload_n dX7_goStep_34 rfl rfl ⟨by decide, by decide⟩ ?_
    refine aw_cV0i dX7_goStep_35 ml_RX7_178 (by assumption) (by decide) rfl rfl ⟨by decide, by decide, by decide, by decide⟩ (Nat.le_of_ble_eq_true rfl) (sp_nextGrey hK0 M2 hs2 hwl1.1 (by rw [htc]; exact hcy) hO) (fun z M3 hM3 => ?_)
    obtain ⟨hM3, hbst⟩ := hM3
    subst hM3
    have hz := next_take hwl1.1 hs2 co1 hne hbst
    rw [hz]
    refine aw_iast dX7_goStep_38 (by assumption) (by omega) (by omega) ?_
    refine aw_aload_n dX7_goStep_39 rfl rfl ⟨by decide, by decide⟩ ?_
    refine aw_gzF 0 dX7_goStep_40 fl_RX7_7 (by assumption) rfl rfl (by assumption) ?_
    refine aw_sipush dX7_goStep_43 (by decide) ⟨by decide, by decide⟩ ?_
    refine aw_iconst dX7_goStep_46 rfl ⟨by decide, by decide⟩ ?_
    refine aw_iast dX7_goStep_47 (by assumption) (by omega) (by omega) ?_
    refine rest _ ?_ (fun b h1 h2 => by rw [up_oth _ _ _ h1, up_oth _ _ _ h1]; exact hf2 b h1 h2)
    rw [← hP]
    unfold pickS
    rw [if_pos hq.1]
    exact MT_take hs2 hwl1.1 hne (fun i => by rw [up_row, up_row])
  · have h0 : 0 ≤ (tickS S).1 727 := hq.2.1.1.1
    refine aw_aload_n dX7_goStep_16 rfl rfl ⟨by decide, by decide⟩ ?_
    refine aw_gzF 0 dX7_goStep_17 fl_RX7_7 (by assumption) rfl rfl (by assumption) ?_
    refine aw_sipush dX7_goStep_20 (by decide) ⟨by decide, by decide⟩ ?_
    refine aw_iv dX7_goStep_23 (by assumption) (by omega) (by omega) v23 ?_
    refine aw_if_ge (tgt := 48) dX7_goStep_24 rfl (fun h24 => ?_) (fun h24 => absurd h24 (by omega))
    refine rest M2 ?_ hf2
    rw [← hP]
    unfold pickS
    rw [if_neg hq.1]
    exact hs2
theorem sp_goSteps {K : az_K} {m : Int} (hK : MoK K m) (M : az_M) {S : hSt} (hc : HM M m S) (hw : WL S) (hcy : S.1 729 ≤ 20000000) (hcz : 0 ≤ S.1 729) (most : Int) (m0 : 0 ≤ most) (m1 : most ≤ 1000000) : AM yX7_goSteps cX7_goSteps 3 (some .int) 6 0 0 [(1, m), (0, most)] K M (qi K (fun z M' => z = (advN most.toNat S : Int) ∧ HM M' m (advS most.toNat S) ∧ frM M M' m)) := by
  have hK0 := hK
  obtain ⟨hKa, k2, z1⟩ := hK
  have hKa0 := hKa
  obtain ⟨km, k1, zz⟩ := hKa
  refine am_of (by decide) (Nat.le_of_ble_eq_true rfl) (L := [(1, m), (0, most), (9, 0)]) rfl ?_
  generalize hN : advN most.toNat S = N
  generalize hF : advS most.toNat S = F
  refine aw_iconst dX7_goSteps_0 rfl ⟨by decide, by decide⟩ ?_
  refine aw_istore_n dX7_goSteps_1 rfl (by decide) ?_
  have loop : ∀ (n : Nat) (T : hSt) (M1 : az_M) (dn : Int), HM M1 m T → WL T → (T.1 729 ≤ 20000000 ∧ 0 ≤ T.1 729) ∨ T.1 726 ≠ 1 → 0 ≤ dn → dn + n = most → dn + (advN n T : Int) = N → advS n T = F → frM M M1 m → AW az_P0 (az_Z (qi K (fun z M' => z = (N : Int) ∧ HM M' m F ∧ frM M M' m)) 0 0) (az_rm 6 0 0) yX7_goSteps cX7_goSteps 3 (some .int) 0 0 2 [(1, m), (0, most), (0, dn)] [] K M1 := by
    intro n
    induction n with
    | zero =>
      intro T M1 dn hs hwl hcy d0 d1 hn hf hfr
      have hN0 : dn = (N : Int) := by rw [← hn]; show dn = dn + ((0 : Nat) : Int); omega
      replace hf : T = F := hf
      subst hf
      refine aw_iload_n dX7_goSteps_2 rfl rfl ?_
      refine aw_iload_n dX7_goSteps_3 rfl rfl ?_
      refine aw_icmp_ge (tgt := 24) dX7_goSteps_4 rfl (fun h4 => ?_) (fun h4 => absurd h4 (by omega))
      refine aw_iload_n dX7_goSteps_24 rfl rfl ?_
      exact aw_iret dX7_goSteps_25 (by decide) (by decide) ⟨_, rfl, rfl, hN0, hs, hfr⟩
    | succ n ih =>
      intro T M1 dn hs hwl hcy d0 d1 hn hf hfr
      have v8 : M1 (m + 1) 726 = T.1 726 := hs.1 726 (by omega) (by omega) (by omega) (by omega)
      have hrs := sp_runs hKa0 M1
      rw [v8] at hrs
      refine aw_iload_n dX7_goSteps_2 rfl rfl ?_
      refine aw_iload_n dX7_goSteps_3 rfl rfl ?_
      refine aw_icmp_ge (tgt := 24) dX7_goSteps_4 rfl (fun h4 => absurd h4 (by omega)) (fun h4 => ?_)
      refine aw_aload_n dX7_goSteps_7 rfl rfl ⟨by decide, by decide⟩ ?_
      refine aw_cV0p dX7_goSteps_8 ml_RX7_181 (by assumption) (by decide) rfl rfl ⟨by decide, by decide, by decide, by decide⟩ (Nat.le_of_ble_eq_true rfl) (hrs) ?_
      refine aw_if_eq (tgt := 24) dX7_goSteps_11 rfl (fun h11 => ?_) (fun h11 => ?_)
      · have e0 : ¬ T.1 726 = 1 := if0 h11
        have hn2 : dn = (N : Int) := by
          rw [← hn]
          show dn = dn + ((if T.1 726 = 1 then advN n (stepS T) + 1 else 0 : Nat) : Int)
          rw [if_neg e0]; omega
        have hf2 : T = F := by
          rw [← hf]
          show T = if T.1 726 = 1 then advS n (stepS T) else T
          rw [if_neg e0]
        subst hf2
        refine aw_iload_n dX7_goSteps_24 rfl rfl ?_
        exact aw_iret dX7_goSteps_25 (by decide) (by decide) ⟨_, rfl, rfl, hn2, hs, hfr⟩
      · have hrun : T.1 726 = 1 := if1 h11
        have hcy2 : T.1 729 ≤ 20000000 ∧ 0 ≤ T.1 729 := by
          rcases hcy with q | q
          · exact q
          · exact absurd hrun q
        have hn2 : dn + 1 + (advN n (stepS T) : Int) = N := by
          rw [← hn]
          show _ = dn + ((if T.1 726 = 1 then advN n (stepS T) + 1 else 0 : Nat) : Int)
          rw [if_pos hrun]; omega
        have hf2 : advS n (stepS T) = F := by
          rw [← hf]
          show _ = if T.1 726 = 1 then advS n (stepS T) else T
          rw [if_pos hrun]
        have hstw := stepS_wf hwl hrun
        obtain ⟨sc1, sc2⟩ := step_cy hwl hrun
        refine aw_aload_n dX7_goSteps_14 rfl rfl ⟨by decide, by decide⟩ ?_
        refine aw_cV0v dX7_goSteps_15 ml_RX7_185 (by assumption) (by decide) rfl rfl ⟨by decide, by decide, by decide, by decide⟩ (Nat.le_of_ble_eq_true rfl) (sp_goStep hK0 M1 hs hwl hrun hcy2.1 hcy2.2) (fun M2 hM2 => ?_)
        refine aw_iinc dX7_goSteps_18 rfl (az_wr_id (by omega) (by omega)) (by decide) ?_
        refine aw_goto (tgt := 2) dX7_goSteps_21 rfl ?_
        exact ih (stepS T) M2 (dn + 1) hM2.1 hstw (by
          by_cases q : (stepS T).1 726 = 1
          · exact Or.inl (by rw [sc1 q]; exact hcy2)
          · exact Or.inr q) (by omega) (by omega) hn2 hf2 (hfr.trans hM2.2)
  exact loop most.toNat S M 0 hc hw (Or.inl ⟨hcy, hcz⟩) (by omega) (by omega) (by rw [hN]; omega) hF (frM.refl M m)
theorem sp_force {K : az_K} {m : Int} (hK : MoK K m) (M : az_M) {S : hSt} (hc : HM M m S) (hw : WL S) (hcy : S.1 729 ≤ 20000000) (hcz : 0 ≤ S.1 729) : AM yX7_force cX7_force 1 none 7 0 0 [(1, m)] K M (qv K (fun M' => HM M' m (frcS S) ∧ frM M M' m)) := by
  have hK0 := hK
  obtain ⟨hKa, k2, z1⟩ := hK
  have hKa0 := hKa
  obtain ⟨km, k1, zz⟩ := hKa
  refine am_of (by decide) (Nat.le_of_ble_eq_true rfl) (L := [(1, m)]) rfl ?_
  have v8 : M (m + 1) 731 = S.1 731 := hc.1 731 (by omega) (by omega) (by omega) (by omega)
  have hgs := sp_goSteps hK0 M hc hw hcy hcz 1000000 (by omega) (by omega)
  have hte : (1000000 : Int).toNat = TE := rfl
  rw [hte] at hgs
  refine aw_aload_n dX7_force_0 rfl rfl ⟨by decide, by decide⟩ ?_
  refine aw_gzF 0 dX7_force_1 fl_RX7_7 (by assumption) rfl rfl (by assumption) ?_
  refine aw_sipush dX7_force_4 (by decide) ⟨by decide, by decide⟩ ?_
  refine aw_dup2 dX7_force_7 ?_
  refine aw_iv dX7_force_8 (by assumption) (by omega) (by omega) v8 ?_
  refine aw_aload_n dX7_force_9 rfl rfl ⟨by decide, by decide⟩ ?_
  refine aw_ldc dX7_force_10 kc_RX7_188 ⟨by decide, by decide⟩ ?_
  refine aw_cV1i dX7_force_12 ml_RX7_189 (by assumption) (by decide) rfl rfl ⟨by decide, by decide, by decide, by decide⟩ (Nat.le_of_ble_eq_true rfl) (hgs) (fun n1 M1 hM1 => ?_)
  obtain ⟨hn1, hs1, hf1⟩ := hM1
  refine aw_iadd dX7_force_15 rfl ?_
  refine aw_iast dX7_force_16 (by assumption) (by omega) (by omega) ?_
  refine aw_vret dX7_force_17 (by decide) (by decide) ⟨rfl, rfl, ?_, fun b h1 h2 => by rw [up_oth _ _ _ h1]; exact hf1 b h1 h2⟩
  rw [hn1]
  exact HM_up hs1 (advS_wf hw TE).1 (by omega) (by omega) (by omega) (by omega)
