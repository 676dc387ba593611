/-! TreadRingModel.goStart -/
set_option maxRecDepth 20000
theorem nodup3 {g : Int → Int} {rg : Int → List Int} (hw : WR g rg) {c : Int} (c0 : 0 ≤ c) (c3 : c ≤ 3) : colN rg c ≤ 64 := by
  have ne : ∀ {i j : Int}, 0 ≤ i → i < 12 → 0 ≤ j → j < 12 → i ≠ j → ∀ x ∈ rg i, ∀ y ∈ rg j, x ≠ y := by
    intro i j i0 i1 j0 j1 hij x hx y hy e
    subst e
    have := ((hw.2.2 i i0 i1).2 x).mp hx
    have := ((hw.2.2 j j0 j1).2 x).mp hy
    omega
  have h0 := hw.2.2 c (by omega) (by omega)
  have h1 := hw.2.2 (4 + c) (by omega) (by omega)
  have h2 := hw.2.2 (8 + c) (by omega) (by omega)
  have hn : (rg c ++ (rg (4 + c) ++ rg (8 + c))).Nodup := by
    refine List.nodup_append.mpr ⟨h0.1, List.nodup_append.mpr ⟨h1.1, h2.1, ne (by omega) (by omega) (by omega) (by omega) (by omega)⟩, ?_⟩
    intro x hx y hy
    rcases List.mem_append.mp hy with h | h
    · exact ne (by omega) (by omega) (by omega) (by omega) (by omega) x hx y h
    · exact ne (by omega) (by omega) (by omega) (by omega) (by omega) x hx y h
  have := nodup_le 64 _ hn (fun x hx => by
    simp only [List.mem_append] at hx
    rcases hx with h | h | h
    · exact rows_in hw (k := c) (by omega) (by omega) x h
    · exact rows_in hw (k := 4 + c) (by omega) (by omega) x h
    · exact rows_in hw (k := 8 + c) (by omega) (by omega) x h)
  rw [List.length_append, List.length_append] at this
  unfold colN
  omega
theorem eN_col (rg : Int → List Int) : eN rg = colN rg 1 := rfl
theorem col2_zero {S : hSt} (h : WS S) : colN S.2.1 2 = 0 ↔ S.2.2 = [] ∧ S.1 727 = -1 := by
  constructor
  · intro h0
    have he : ∀ k, (k = 0 ∨ k = 4 ∨ k = 8) → S.2.1 (k + 2) = [] := by
      unfold colN at h0
      intro k hk
      refine List.length_eq_zero_iff.mp ?_
      rcases hk with rfl | rfl | rfl
      · rw [show (0 : Int) + 2 = 2 by decide]; omega
      · omega
      · omega
    have no : ∀ a, ob S.1 a → S.1 a ≠ 2 := by
      intro a ha e
      obtain ⟨e1, e2, e3, e4, e5⟩ := sl_even h.1 ha.1
      have a0 := ha.1.1
      have a1 := ha.1.2.1
      have hk : kz S.1 a = 0 ∨ kz S.1 a = 4 ∨ kz S.1 a = 8 := by unfold kz at e4 e5 ⊢; omega
      have hm : a / 2 ∈ S.2.1 (kz S.1 a + 2) := ((h.2.2.1 _ (by omega) (by omega)).2 (a / 2)).mpr ⟨by omega, by omega, by rw [show 2 * (a / 2) = a by omega]; exact ⟨ha.1, by omega⟩⟩
      rw [he _ hk] at hm
      cases hm
    refine ⟨?_, ?_⟩
    · cases hl : S.2.2 with
      | nil => rfl
      | cons x t =>
        have := (h.2.2.2.2.2.1.2.2.2.1 x).mp (by rw [hl]; exact List.mem_cons_self)
        exact absurd this.2.1 (no x this.1)
    · rcases h.2.2.2.2.2.1.2.2.2.2 with r | r
      · exact r.1
      · exact absurd r.2.1 (no _ r.1)
  · rintro ⟨h1, h2⟩
    have := (no_grey h h1 h2).2
    unfold colN
    have q0 := this 0 (by omega)
    have q4 := this 4 (by omega)
    have q8 := this 8 (by omega)
    rw [show (0 : Int) + 2 = 2 by decide] at q0
    rw [q0, q4, q8]
    rfl
theorem off_rows {S : hSt} (h : WS S) (hn : S.1 726 = 0) {k : Int} (hk : k = 0 ∨ k = 4 ∨ k = 8) {c : Int} (hc : c = 1 ∨ c = 2) : S.2.1 (k + c) = [] := by
  cases hl : S.2.1 (k + c) with
  | nil => rfl
  | cons n t =>
    have w := WR_mem (WR_of h) (k := k + c) (by omega) (by omega) (n := n) (by rw [hl]; exact List.mem_cons_self)
    have := (h.2.2.2.2.2.1.2.1 hn).2.2.2 (2 * n) (by omega) (by omega)
    omega
theorem blk_row (S : hSt) {k : Int} (hk : k = 0 ∨ k = 4 ∨ k = 8) : (blkS S).2.1 k = S.2.1 k ∧ (blkS S).2.1 (k + 1) = S.2.1 (k + 1) ++ S.2.1 (k + 3) ∧ (blkS S).2.1 (k + 2) = S.2.1 (k + 2) ∧ (blkS S).2.1 (k + 3) = [] := by
  rw [(blkS_rg S).2.1]
  unfold Tr
  rcases hk with rfl | rfl | rfl <;> simp
theorem rL_blk {S : hSt} (h : WS S) (hn : S.1 726 = 0) {k : Int} (hk : k = 0 ∨ k = 4 ∨ k = 8) (G : Int → Int) : rL (blkS (G, S.2.1, S.2.2)).2.1 k = rL S.2.1 k := by
  obtain ⟨b0, b1, b2, b3⟩ := blk_row (G, S.2.1, S.2.2) hk
  rw [rL_eq, rL_eq, b0, b1, b2, b3]
  show _ ++ (List.map _ (S.2.1 (k + 1) ++ S.2.1 (k + 3)) ++ (List.map _ (S.2.1 (k + 2)) ++ _)) = _
  rw [off_rows h hn hk (Or.inl rfl), off_rows h hn hk (Or.inr rfl)]
  simp
set_option maxHeartbeats 1000000 in
theorem sp_goStart {K : az_K} {m : Int} (hK : MaK K m) (M : az_M) {S : hSt} (hc : HM M m S) (hw : WS S) (hn : S.1 726 = 0) (hcy : S.1 729 ≤ 20000000) (hcz : 0 ≤ S.1 729) : AM yX7_goStart cX7_goStart 1 none 5 0 0 [(1, m)] K M (qv K (fun M' => HM M' m (startS S) ∧ ∀ x, x ≠ m + 1 → M' x = M x)) := by
  have hK0 := hK
  obtain ⟨km, k1, zz⟩ := hK
  refine am_of (by decide) (Nat.le_of_ble_eq_true rfl) (L := [(1, m)]) rfl ?_
  have hrn := hw.2.2.2.2.2.1.2.1 hn
  obtain ⟨f1, f2, f3, f4, f5, f6⟩ := startM_facts (g := S.1) (rg := S.2.1) (gl := S.2.2) hw hn (start_WR hw)
  have hbw := blkS_wf (g := S.1) (rg := S.2.1) (gl := S.2.2) hw hn (start_WR hw)
  obtain ⟨hF, hR, hW⟩ := hc
  have v41 : ∀ M1 : az_M, M1 (m + 1) 730 = M (m + 1) 730 → M1 (m + 1) 730 = S.1 730 := fun M1 q => by rw [q, hF 730 (by omega) (by omega) (by omega) (by omega)]
  refine aw_aload_n dX7_goStart_0 rfl rfl ⟨by decide, by decide⟩ ?_
  refine aw_gzF 0 dX7_goStart_1 fl_RX7_7 (by assumption) rfl rfl (by assumption) ?_
  refine aw_sipush dX7_goStart_4 (by decide) ⟨by decide, by decide⟩ ?_
  refine aw_iconst dX7_goStart_7 rfl ⟨by decide, by decide⟩ ?_
  refine aw_iast dX7_goStart_8 (by assumption) (by omega) (by omega) ?_
  refine aw_aload_n dX7_goStart_9 rfl rfl ⟨by decide, by decide⟩ ?_
  refine aw_gzF 0 dX7_goStart_10 fl_RX7_7 (by assumption) rfl rfl (by assumption) ?_
  refine aw_sipush dX7_goStart_13 (by decide) ⟨by decide, by decide⟩ ?_
  refine aw_iconst dX7_goStart_16 rfl ⟨by decide, by decide⟩ ?_
  refine aw_iast dX7_goStart_17 (by assumption) (by omega) (by omega) ?_
  refine aw_aload_n dX7_goStart_18 rfl rfl ⟨by decide, by decide⟩ ?_
  refine aw_gzF 0 dX7_goStart_19 fl_RX7_7 (by assumption) rfl rfl (by assumption) ?_
  refine aw_sipush dX7_goStart_22 (by decide) ⟨by decide, by decide⟩ ?_
  refine aw_iconst dX7_goStart_25 rfl ⟨by decide, by decide⟩ ?_
  refine aw_iast dX7_goStart_26 (by assumption) (by omega) (by omega) ?_
  have w41 : az_up (az_up (az_up M (m + 1) 726 1) (m + 1) 727 (-1)) (m + 1) 728 0 (m + 1) 730 = S.1 730 := v41 _ (by rw [az_up_i _ _ _ _ (by omega), az_up_i _ _ _ _ (by omega), az_up_i _ _ _ _ (by omega)])
  refine aw_aload_n dX7_goStart_27 rfl rfl ⟨by decide, by decide⟩ ?_
  refine aw_gzF 0 dX7_goStart_28 fl_RX7_7 (by assumption) rfl rfl (by assumption) ?_
  refine aw_sipush dX7_goStart_31 (by decide) ⟨by decide, by decide⟩ ?_
  refine aw_aload_n dX7_goStart_34 rfl rfl ⟨by decide, by decide⟩ ?_
  refine aw_gzF 0 dX7_goStart_35 fl_RX7_7 (by assumption) rfl rfl (by assumption) ?_
  refine aw_sipush dX7_goStart_38 (by decide) ⟨by decide, by decide⟩ ?_
  refine aw_iv dX7_goStart_41 (by assumption) (by omega) (by omega) w41 ?_
  refine aw_iast dX7_goStart_42 (by assumption) (by omega) (by omega) ?_
  generalize hM1 : az_up (az_up (az_up (az_up M (m + 1) 726 1) (m + 1) 727 (-1)) (m + 1) 728 0) (m + 1) 740 (S.1 730) = M1
  have o1 : ∀ x, x ≠ m + 1 → M1 x = M x := fun x hx => by rw [← hM1, up_oth _ _ _ hx, up_oth _ _ _ hx, up_oth _ _ _ hx, up_oth _ _ _ hx]
  have g1 : ∀ i, M1 (m + 1) i = if i = 740 then S.1 730 else if i = 728 then 0 else if i = 727 then -1 else if i = 726 then 1 else M (m + 1) i := fun i => by rw [← hM1, up_row, up_row, up_row, up_row]
  have hA1 : mAll (M1 (m + 1)) (startG S.1) := by
    intro i i0 i1 i2 i3
    rw [g1]
    unfold startG gu
    by_cases e : i = 740
    · rw [if_pos e, if_pos e]
    · rw [if_neg e, if_neg e]
      by_cases e8 : i = 728
      · rw [if_pos e8, if_neg (by omega), e8, hrn.2.2.1]
      · rw [if_neg e8]
        by_cases e7 : i = 727
        · rw [if_pos e7, if_neg (by omega), e7, hrn.2.1]
        · rw [if_neg e7]
          by_cases e6 : i = 726
          · rw [if_pos e6, if_pos e6]
          · rw [if_neg e6, if_neg e6]; exact hF i i0 i1 i2 i3
  have glo : ∀ i, i ≠ 726 → i ≠ 740 → startG S.1 i = S.1 i := fun i a b => by unfold startG; rw [gu_n _ _ b, gu_n _ _ a]
  have hW1 : WR (startG S.1) S.2.1 := WR_congr (WR_of hw) (fun i hi => glo i (by omega) (by omega))
  refine aw_aload_n dX7_goStart_43 rfl rfl ⟨by decide, by decide⟩ ?_
  refine aw_iconst dX7_goStart_44 rfl ⟨by decide, by decide⟩ ?_
  refine aw_iconst dX7_goStart_45 rfl ⟨by decide, by decide⟩ ?_
  refine aw_cV2i dX7_goStart_46 ml_RX7_146 (by assumption) (by decide) rfl rfl ⟨by decide, by decide, by decide, by decide⟩ (Nat.le_of_ble_eq_true rfl) (sp_turnAll hK0 M1 hW1.1 hW1.2.1 hA1 3 1 (by omega) (by omega)) (fun nn M2 hM2 => ?_)
  refine aw_pop dX7_goStart_49 ?_
  obtain ⟨-, t1, t2, t3⟩ := hM2
  have hbS : (blkS (startG S.1, S.2.1, S.2.2)).2.2 = S.2.2 := rfl
  have hM2 : HM M2 m (blkS (startG S.1, S.2.1, S.2.2)) := by
    refine ⟨fun i i0 i1 i2 i3 => ?_, fun z z0 z1 => ?_, ?_, ?_, fun i hi => ?_, fun i j hij hj => ?_⟩
    · rw [t1 i i0 i1 i2 i3, (blkS_rg (startG S.1, S.2.1, S.2.2)).1]
      show _ = Tg (Tg (Tg (startG S.1) 1 (S.2.1 3)) 1 (S.2.1 7)) 1 (S.2.1 11) i
      by_cases e : i < 128
      · rw [blk_at hW1 i0 e]
        unfold tC
        by_cases e3 : startG S.1 i = 3
        · rw [if_pos ⟨i0, e, e, e3⟩, if_pos e3]
        · rw [if_neg (fun w => e3 w.2.2.2), if_neg (by omega), if_neg e3]
      · rw [blk_big hW1 (by omega)]
        unfold tC
        rw [if_neg (by omega), if_neg (by omega)]
    · rw [rL_blk hw hn (by omega)]
      exact mRing_eq (hR z z0 z1) (fun i i0 i1 => by rw [t2 i (by omega), g1, if_neg (by omega), if_neg (by omega), if_neg (by omega), if_neg (by omega)]) z0 z1 (rL_len (WR_of hw) (by omega))
    · rw [t2 739 (by omega), g1, if_neg (by omega), if_neg (by omega), if_neg (by omega), if_neg (by omega)]
      exact hW.1
    · rw [t2 739 (by omega), g1, if_neg (by omega), if_neg (by omega), if_neg (by omega), if_neg (by omega), f6 729 (by omega) (by omega) (by omega)]
      have q1 := hW.2.1
      have q2 := eN_nn S.2.1
      have q3 := nodup3 (WR_of hbw) (c := 1) (by omega) (by omega)
      rw [← eN_col] at q3
      have q4 : (blkS (startG S.1, S.2.1, S.2.2)).1 726 = 1 := by
        rw [(blkS_rg (startG S.1, S.2.1, S.2.2)).1]
        show Tg (Tg (Tg (startG S.1) 1 (S.2.1 3)) 1 (S.2.1 7)) 1 (S.2.1 11) 726 = _
        rw [blk_big hW1 (by omega)]
        unfold startG
        rw [gu_n _ _ (by omega), gu_s]
      rw [q4]
      omega
    · rw [hbS, hrn.1] at hi
      exact absurd hi (Nat.not_lt_zero i)
    · rw [hbS, hrn.1] at hj
      exact absurd hj (Nat.not_lt_zero j)
  have o2 : ∀ x, x ≠ m + 1 → M2 x = M x := fun x hx => by rw [t3 x hx, o1 x hx]
  have hgr := sp_greyRoots hK0 M2 hM2 hbw (by rw [f6 729 (by omega) (by omega) (by omega)]; exact hcy)
  have hsm : greyF (blkS (startG S.1, S.2.1, S.2.2)) (fun i => (blkS (startG S.1, S.2.1, S.2.2)).1 (715 + i)) 6 = startM S := greyF_congr _ 6 (fun i hi => f6 _ (by omega) (by omega) (by omega))
  rw [hsm] at hgr
  refine aw_aload_n dX7_goStart_50 rfl rfl ⟨by decide, by decide⟩ ?_
  refine aw_cV0v dX7_goStart_51 ml_RX7_149 (by assumption) (by decide) rfl rfl ⟨by decide, by decide, by decide, by decide⟩ (Nat.le_of_ble_eq_true rfl) (hgr) (fun M3 hM3 => ?_)
  obtain ⟨s1, s2⟩ := hM3
  have h727 : (startM S).1 727 = -1 := by
    rw [f3 727 (by omega) (by omega) (by omega)]
    exact hrn.2.1
  have hcz2 := col2_zero (S := startM S) f1
  refine aw_aload_n dX7_goStart_54 rfl rfl ⟨by decide, by decide⟩ ?_
  refine aw_iconst dX7_goStart_55 rfl ⟨by decide, by decide⟩ ?_
  refine aw_cV1p dX7_goStart_56 ml_RX7_122 (by assumption) (by decide) rfl rfl ⟨by decide, by decide, by decide, by decide⟩ (Nat.le_of_ble_eq_true rfl) (sp_countAll hK0 M3 (WR_of f1) s1.1 s1.2.1 2 (by omega) (by omega)) ?_
  refine aw_if_ne (tgt := 66) dX7_goStart_59 rfl (fun h59 => ?_) (fun h59 => ?_)
  · refine aw_vret dX7_goStart_66 (by decide) (by decide) ⟨rfl, rfl, ?_, fun x hx => by rw [s2 x hx, o2 x hx]⟩
    unfold startS
    rw [if_neg]
    · exact s1
    · intro q
      exact h59 (hcz2.mpr ⟨List.length_eq_zero_iff.mp q, h727⟩)
  · have hg := (hcz2.mp h59).1
    have h729 : (startM S).1 729 = S.1 729 := f3 729 (by omega) (by omega) (by omega)
    refine aw_aload_n dX7_goStart_62 rfl rfl ⟨by decide, by decide⟩ ?_
    refine aw_cV0v dX7_goStart_63 ml_RX7_152 (by assumption) (by decide) rfl rfl ⟨by decide, by decide, by decide, by decide⟩ (Nat.le_of_ble_eq_true rfl) (sp_goEnd hK0 M3 s1 f1 hg h727 (by rw [h729]; exact hcy) (by rw [h729]; exact hcz)) (fun M4 hM4 => ?_)
    refine aw_vret dX7_goStart_66 (by decide) (by decide) ⟨rfl, rfl, ?_, fun x hx => by rw [hM4.2 x hx, s2 x hx, o2 x hx]⟩
    unfold startS
    rw [if_pos (by rw [hg]; rfl)]
    exact hM4.1
