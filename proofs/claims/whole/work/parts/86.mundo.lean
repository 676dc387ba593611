/-! TreadRingModel: swapAll, undo, redo, image, back, beginAnew, open -/
set_option maxRecDepth 20000
theorem blk_fr {M M' : az_M} {b : Int} (h : M' b = M b) (j : Int) : blk M' b j = blk M b j := by unfold blk; rw [h]
theorem sp_swapAll {K : az_K} {m : Int} (hK : MdK K m) (M : az_M) (c : Int) (c0 : 0 ≤ c) (c1 : c < 21) (hc : M m 44 = c) : AM yX7_swapAll cX7_swapAll 3 none 0 0 0 [(1, m)] K M (qv K (fun M' => (∀ i, 0 ≤ i → i < 790 → M' (m + 1) i = M (m + 23) (790 * c + i)) ∧ (∀ i, M' (m + 23) i = if 790 * c ≤ i ∧ i < 790 * c + 790 then M (m + 1) (i - 790 * c) else M (m + 23) i) ∧ ∀ b, b ≠ m + 1 → b ≠ m + 23 → M' b = M b)) := by
  have hK0 := hK
  obtain ⟨hKo, k3, k4, k5, k6, k7, k8, k9, k10, k11, k12, k13, k14, k15, k16, k17, k18, k19, k20, k21, k22, k23, k24, k25, y3, y4, y5, y6, y7, y8, y9, y10, y11, y12, y13, y14, y15, y16, y17, y18, y19, y20, y21, y22, y23, y24, y25⟩ := hK
  have hKo0 := hKo
  obtain ⟨hKa, k2, y2⟩ := hKo
  have hKa0 := hKa
  obtain ⟨km, k1, y1⟩ := hKa
  refine am_of (by decide) (Nat.le_of_ble_eq_true rfl) (L := [(1, m), (9, 0), (9, 0)]) rfl ?_
  generalize hQ : (fun M' : az_M => (∀ i, 0 ≤ i → i < 790 → M' (m + 1) i = M (m + 23) (790 * c + i)) ∧ (∀ i, M' (m + 23) i = if 790 * c ≤ i ∧ i < 790 * c + 790 then M (m + 1) (i - 790 * c) else M (m + 23) i) ∧ ∀ b, b ≠ m + 1 → b ≠ m + 23 → M' b = M b) = Q
  refine aw_iconst dX7_swapAll_0 rfl ⟨by decide, by decide⟩ ?_
  refine aw_istore_n dX7_swapAll_1 rfl (by decide) ?_
  have loop : ∀ (d : Nat) (k : Int) (v : az_V) (M2 : az_M), 0 ≤ k → k + d = 790 → (∀ i, M2 (m + 1) i = if 0 ≤ i ∧ i < k then M (m + 23) (790 * c + i) else M (m + 1) i) → (∀ i, M2 (m + 23) i = if 790 * c ≤ i ∧ i < 790 * c + k then M (m + 1) (i - 790 * c) else M (m + 23) i) → (∀ b, b ≠ m + 1 → b ≠ m + 23 → M2 b = M b) → AW az_P0 (az_Z (qv K Q) 0 0) (az_rm 0 0 0) yX7_swapAll cX7_swapAll 3 none 0 0 2 [(1, m), (0, k), v] [] K M2 := by
    intro d
    induction d with
    | zero =>
      intro k v M2 k0 k1 f1 f2 o2
      have hk : k = 790 := by omega
      subst hk
      refine aw_iload_n dX7_swapAll_2 rfl rfl ?_
      refine aw_sipush dX7_swapAll_3 (by decide) ⟨by decide, by decide⟩ ?_
      refine aw_icmp_ge (tgt := 59) dX7_swapAll_6 rfl (fun h6 => ?_) (fun h6 => absurd h6 (by omega))
      refine aw_vret dX7_swapAll_59 (by decide) (by decide) ⟨rfl, rfl, ?_⟩
      rw [← hQ]
      exact ⟨fun i i0 i1 => by rw [f1, if_pos ⟨i0, i1⟩], f2, o2⟩
    | succ d ih =>
      intro k v M2 k0 k1 f1 f2 o2
      have v17 : M2 m 44 = c := by rw [o2 _ (by omega) (by omega)]; exact hc
      have v23 : M2 (m + 23) (790 * c + k) = M (m + 23) (790 * c + k) := by rw [f2, if_neg (by omega)]
      have v44 : M2 (m + 1) k = M (m + 1) k := by rw [f1, if_neg (by omega)]
      refine aw_iload_n dX7_swapAll_2 rfl rfl ?_
      refine aw_sipush dX7_swapAll_3 (by decide) ⟨by decide, by decide⟩ ?_
      refine aw_icmp_ge (tgt := 59) dX7_swapAll_6 rfl (fun h6 => absurd h6 (by omega)) (fun h6 => ?_)
      refine aw_aload_n dX7_swapAll_9 rfl rfl ⟨by decide, by decide⟩ ?_
      refine aw_gzF 41 dX7_swapAll_10 fl_RX7_81 (by assumption) rfl rfl (by assumption) ?_
      refine aw_sipush dX7_swapAll_13 (by decide) ⟨by decide, by decide⟩ ?_
      refine aw_aload_n dX7_swapAll_16 rfl rfl ⟨by decide, by decide⟩ ?_
      refine aw_gi 44 dX7_swapAll_17 fl_RX7_250 (by assumption) rfl rfl v17 ?_
      refine aw_imul dX7_swapAll_20 (az_wr_id (by omega) (by omega)) ?_
      refine aw_iload_n dX7_swapAll_21 rfl rfl ?_
      refine aw_iadd dX7_swapAll_22 (az_wr_id (by omega) (by omega)) ?_
      refine aw_iv dX7_swapAll_23 (by assumption) (by omega) (by omega) v23 ?_
      refine aw_istore_n dX7_swapAll_24 rfl (by decide) ?_
      refine aw_aload_n dX7_swapAll_25 rfl rfl ⟨by decide, by decide⟩ ?_
      refine aw_gzF 41 dX7_swapAll_26 fl_RX7_81 (by assumption) rfl rfl (by assumption) ?_
      refine aw_sipush dX7_swapAll_29 (by decide) ⟨by decide, by decide⟩ ?_
      refine aw_aload_n dX7_swapAll_32 rfl rfl ⟨by decide, by decide⟩ ?_
      refine aw_gi 44 dX7_swapAll_33 fl_RX7_250 (by assumption) rfl rfl v17 ?_
      refine aw_imul dX7_swapAll_36 (az_wr_id (by omega) (by omega)) ?_
      refine aw_iload_n dX7_swapAll_37 rfl rfl ?_
      refine aw_iadd dX7_swapAll_38 (az_wr_id (by omega) (by omega)) ?_
      refine aw_aload_n dX7_swapAll_39 rfl rfl ⟨by decide, by decide⟩ ?_
      refine aw_gzF 0 dX7_swapAll_40 fl_RX7_7 (by assumption) rfl rfl (by assumption) ?_
      refine aw_iload_n dX7_swapAll_43 rfl rfl ?_
      refine aw_iv dX7_swapAll_44 (by assumption) (by omega) (by omega) v44 ?_
      refine aw_iast dX7_swapAll_45 (by assumption) (by omega) (by omega) ?_
      refine aw_aload_n dX7_swapAll_46 rfl rfl ⟨by decide, by decide⟩ ?_
      refine aw_gzF 0 dX7_swapAll_47 fl_RX7_7 (by assumption) rfl rfl (by assumption) ?_
      refine aw_iload_n dX7_swapAll_50 rfl rfl ?_
      refine aw_iload_n dX7_swapAll_51 rfl rfl ?_
      refine aw_iast dX7_swapAll_52 (by assumption) (by omega) (by omega) ?_
      refine aw_iinc dX7_swapAll_53 rfl (az_wr_id (by omega) (by omega)) (by decide) ?_
      refine aw_goto (tgt := 2) dX7_swapAll_56 rfl ?_
      refine ih (k + 1) _ _ (by omega) (by omega) (fun i => ?_) (fun i => ?_) (fun b b1 b2 => by rw [up_oth _ _ _ b1, up_oth _ _ _ b2]; exact o2 b b1 b2)
      · rw [up_row]
        show (if i = k then M (m + 23) (790 * c + k) else az_up M2 (m + 23) (790 * c + k) (M (m + 1) k) (m + 1) i) = _
        rw [up_oth _ _ _ (by omega), f1]
        by_cases e1 : i = k
        · rw [if_pos e1, if_pos (by omega), e1]
        · rw [if_neg e1]
          by_cases e2 : 0 ≤ i ∧ i < k
          · rw [if_pos e2, if_pos (by omega)]
          · rw [if_neg e2, if_neg (by omega)]
      · rw [up_oth _ _ _ (by omega), up_row]
        show (if i = 790 * c + k then M (m + 1) k else M2 (m + 23) i) = _
        rw [f2]
        by_cases e1 : i = 790 * c + k
        · rw [if_pos e1, if_pos (by omega), show i - 790 * c = k by omega]
        · rw [if_neg e1]
          by_cases e2 : 790 * c ≤ i ∧ i < 790 * c + k
          · rw [if_pos e2, if_pos (by omega)]
          · rw [if_neg e2, if_neg (by omega)]
  exact loop 790 0 _ M (by omega) (by omega) (fun i => by rw [if_neg (by omega)]) (fun i => by rw [if_neg (by omega)]) (fun _ _ _ => rfl)
set_option maxHeartbeats 1000000 in
theorem sp_mundo {K : az_K} {m : Int} (hK : MdK K m) (M : az_M) {ch : hCh} {a u : Int} {bx : hCh} {bz : Int → Int} {B : Int} (hg : GW ch a u bx bz B) (hd : MDh M m ch a u bx bz) : AM yX7_undo cX7_undo 1 (some .boolean) 1 0 0 [(1, m)] K M (qi K (fun z M' => tv z (0 < a) ∧ MDh M' m ch (if 0 < a then a - 1 else a) (if 0 < a then u + 1 else u) bx bz ∧ frX M M' m ∧ frO M M' m)) := by
  have hK0 := hK
  obtain ⟨hKo, k3, k4, k5, k6, k7, k8, k9, k10, k11, k12, k13, k14, k15, k16, k17, k18, k19, k20, k21, k22, k23, k24, k25, y3, y4, y5, y6, y7, y8, y9, y10, y11, y12, y13, y14, y15, y16, y17, y18, y19, y20, y21, y22, y23, y24, y25⟩ := hK
  have hKo0 := hKo
  obtain ⟨hKa, k2, y2⟩ := hKo
  have hKa0 := hKa
  obtain ⟨km, k1, y1⟩ := hKa
  have hgg := hg
  obtain ⟨a0, u0, au, hgo, hgb⟩ := hg
  have hdd := hd
  obtain ⟨d1, d2, d3, d4, d5, d6⟩ := hd
  refine am_of (by decide) (Nat.le_of_ble_eq_true rfl) (L := [(1, m)]) rfl ?_
  refine aw_aload_n dX7_undo_0 rfl rfl ⟨by decide, by decide⟩ ?_
  refine aw_gi 44 dX7_undo_1 fl_RX7_250 (by assumption) rfl rfl d2 ?_
  refine aw_if_ne (tgt := 9) dX7_undo_4 rfl (fun h4 => ?_) (fun h4 => ?_)
  · have hp : 0 < a := by omega
    rw [if_pos hp, if_pos hp]
    have v21 : az_up M m 44 (a - 1) m 45 = u := by rw [az_up_i _ _ _ _ (by omega)]; exact d3
    refine aw_aload_n dX7_undo_9 rfl rfl ⟨by decide, by decide⟩ ?_
    refine aw_dup dX7_undo_10 ?_
    refine aw_gi 44 dX7_undo_11 fl_RX7_250 (by assumption) rfl rfl d2 ?_
    refine aw_iconst dX7_undo_14 rfl ⟨by decide, by decide⟩ ?_
    refine aw_isub dX7_undo_15 (az_wr_id (by omega) (by omega)) ?_
    refine aw_pi 44 dX7_undo_16 fl_RX7_250 (by assumption) rfl rfl ?_
    refine aw_aload_n dX7_undo_19 rfl rfl ⟨by decide, by decide⟩ ?_
    refine aw_dup dX7_undo_20 ?_
    refine aw_gi 45 dX7_undo_21 fl_RX7_253 (by assumption) rfl rfl v21 ?_
    refine aw_iconst dX7_undo_24 rfl ⟨by decide, by decide⟩ ?_
    refine aw_iadd dX7_undo_25 (az_wr_id (by omega) (by omega)) ?_
    refine aw_pi 45 dX7_undo_26 fl_RX7_253 (by assumption) rfl rfl ?_
    have em : ∀ j, az_up (az_up M m 44 (a - 1)) m 45 (u + 1) m j = if j = 45 then u + 1 else if j = 44 then a - 1 else M m j := fun j => by rw [up_row, up_row]
    have eo : ∀ b, b ≠ m → az_up (az_up M m 44 (a - 1)) m 45 (u + 1) b = M b := fun b hb => by rw [up_oth _ _ _ hb, up_oth _ _ _ hb]
    generalize az_up (az_up M m 44 (a - 1)) m 45 (u + 1) = M1 at em eo
    refine aw_aload_n dX7_undo_29 rfl rfl ⟨by decide, by decide⟩ ?_
    refine aw_cV0v dX7_undo_30 ml_RX7_463 (by assumption) (by decide) rfl rfl ⟨by decide, by decide, by decide, by decide⟩ (Nat.le_of_ble_eq_true rfl) (sp_swapAll hK0 M1 (a - 1) (by omega) (by omega) (by rw [em, if_neg (by omega), if_pos rfl])) (fun M2 hM2 => ?_)
    obtain ⟨s1, s2, s3⟩ := hM2
    refine aw_iconst dX7_undo_33 rfl ⟨by decide, by decide⟩ ?_
    refine aw_zret dX7_undo_34 (by omega) (by decide) (by decide) ⟨_, rfl, rfl, tv.t hp, ?_⟩
    have em2 : ∀ j, M2 m j = if j = 45 then u + 1 else if j = 44 then a - 1 else M m j := fun j => by rw [s3 _ (by omega) (by omega), em]
    have eo2 : ∀ b, b ≠ m → b ≠ m + 1 → b ≠ m + 23 → M2 b = M b := fun b h1 h2 h3 => by rw [s3 b h2 h3, eo b h1]
    refine ⟨⟨?_, by rw [em2, if_neg (by omega), if_pos rfl], by rw [em2, if_pos rfl], fun j j0 j1 => ?_, fun j j0 j1 => ?_, fun j j0 j1 => ?_⟩, ⟨eo2 _ (by omega) (by omega) (by omega), fun b b1 b2 => eo2 b (by omega) (by omega) (by omega), ?_, ?_, ?_, ?_⟩, fun b hb => eo2 b (by omega) (by omega) (by omega)⟩
    · refine MT_congr (d4 (a - 1) (by omega) (by omega)) (hgo (a - 1) (by omega) (by omega)).1.1 (fun i i0 i1 => ?_)
      rw [s1 i i0 i1, eo _ (by omega)]; rfl
    · refine MT_congr (d4 j j0 (by omega)) (hgo j j0 (by omega)).1.1 (fun i i0 i1 => ?_)
      show M2 (m + 23) (790 * j + i) = M (m + 23) (790 * j + i)
      rw [s2, if_neg (by omega), eo _ (by omega)]
    · by_cases e : j = a - 1
      · subst e
        rw [show a - 1 + 1 = a by omega]
        refine MT_congr d1 (hgo a a0 (by omega)).1.1 (fun i i0 i1 => ?_)
        show M2 (m + 23) (790 * (a - 1) + i) = M (m + 1) i
        rw [s2, if_pos (by omega), eo _ (by omega), show 790 * (a - 1) + i - 790 * (a - 1) = i by omega]
      · refine MT_congr (d5 j (by omega) (by omega)) (hgo (j + 1) (by omega) (by omega)).1.1 (fun i i0 i1 => ?_)
        show M2 (m + 23) (790 * j + i) = M (m + 23) (790 * j + i)
        rw [s2, if_neg (by omega), eo _ (by omega)]
    · rw [blk_fr (eo2 (m + 24) (by omega) (by omega) (by omega)), eo2 (m + 25) (by omega) (by omega) (by omega)]
      exact d6 j j0 j1
    · rw [em2, if_neg (by omega), if_neg (by omega)]
    · rw [em2, if_neg (by omega), if_neg (by omega)]
    · rw [em2, if_neg (by omega), if_neg (by omega)]
    · rw [em2, if_neg (by omega), if_neg (by omega)]
  · refine aw_iconst dX7_undo_7 rfl ⟨by decide, by decide⟩ ?_
    refine aw_zret dX7_undo_8 (by omega) (by decide) (by decide) ⟨_, rfl, rfl, tv.f (by omega), ?_, frX.refl M m, frO.refl M m⟩
    rw [if_neg (by omega), if_neg (by omega)]
    exact hdd
set_option maxHeartbeats 1000000 in
theorem sp_mredo {K : az_K} {m : Int} (hK : MdK K m) (M : az_M) {ch : hCh} {a u : Int} {bx : hCh} {bz : Int → Int} {B : Int} (hg : GW ch a u bx bz B) (hd : MDh M m ch a u bx bz) : AM yX7_redo cX7_redo 1 (some .boolean) 1 0 0 [(1, m)] K M (qi K (fun z M' => tv z (0 < u) ∧ MDh M' m ch (if 0 < u then a + 1 else a) (if 0 < u then u - 1 else u) bx bz ∧ frX M M' m ∧ frO M M' m)) := by
  have hK0 := hK
  obtain ⟨hKo, k3, k4, k5, k6, k7, k8, k9, k10, k11, k12, k13, k14, k15, k16, k17, k18, k19, k20, k21, k22, k23, k24, k25, y3, y4, y5, y6, y7, y8, y9, y10, y11, y12, y13, y14, y15, y16, y17, y18, y19, y20, y21, y22, y23, y24, y25⟩ := hK
  have hKo0 := hKo
  obtain ⟨hKa, k2, y2⟩ := hKo
  have hKa0 := hKa
  obtain ⟨km, k1, y1⟩ := hKa
  have hgg := hg
  obtain ⟨a0, u0, au, hgo, hgb⟩ := hg
  have hdd := hd
  obtain ⟨d1, d2, d3, d4, d5, d6⟩ := hd
  refine am_of (by decide) (Nat.le_of_ble_eq_true rfl) (L := [(1, m)]) rfl ?_
  refine aw_aload_n dX7_redo_0 rfl rfl ⟨by decide, by decide⟩ ?_
  refine aw_gi 45 dX7_redo_1 fl_RX7_253 (by assumption) rfl rfl d3 ?_
  refine aw_if_ne (tgt := 9) dX7_redo_4 rfl (fun h4 => ?_) (fun h4 => ?_)
  · have hp : 0 < u := by omega
    rw [if_pos hp, if_pos hp]
    refine aw_aload_n dX7_redo_9 rfl rfl ⟨by decide, by decide⟩ ?_
    refine aw_cV0v dX7_redo_10 ml_RX7_463 (by assumption) (by decide) rfl rfl ⟨by decide, by decide, by decide, by decide⟩ (Nat.le_of_ble_eq_true rfl) (sp_swapAll hK0 M a a0 (by omega) d2) (fun M1 hM1 => ?_)
    obtain ⟨s1, s2, s3⟩ := hM1
    have v15 : M1 m 44 = a := by rw [s3 _ (by omega) (by omega)]; exact d2
    have v25 : az_up M1 m 44 (a + 1) m 45 = u := by rw [az_up_i _ _ _ _ (by omega), s3 _ (by omega) (by omega)]; exact d3
    refine aw_aload_n dX7_redo_13 rfl rfl ⟨by decide, by decide⟩ ?_
    refine aw_dup dX7_redo_14 ?_
    refine aw_gi 44 dX7_redo_15 fl_RX7_250 (by assumption) rfl rfl v15 ?_
    refine aw_iconst dX7_redo_18 rfl ⟨by decide, by decide⟩ ?_
    refine aw_iadd dX7_redo_19 (az_wr_id (by omega) (by omega)) ?_
    refine aw_pi 44 dX7_redo_20 fl_RX7_250 (by assumption) rfl rfl ?_
    refine aw_aload_n dX7_redo_23 rfl rfl ⟨by decide, by decide⟩ ?_
    refine aw_dup dX7_redo_24 ?_
    refine aw_gi 45 dX7_redo_25 fl_RX7_253 (by assumption) rfl rfl v25 ?_
    refine aw_iconst dX7_redo_28 rfl ⟨by decide, by decide⟩ ?_
    refine aw_isub dX7_redo_29 (az_wr_id (by omega) (by omega)) ?_
    refine aw_pi 45 dX7_redo_30 fl_RX7_253 (by assumption) rfl rfl ?_
    have em2 : ∀ j, az_up (az_up M1 m 44 (a + 1)) m 45 (u - 1) m j = if j = 45 then u - 1 else if j = 44 then a + 1 else M m j := fun j => by rw [up_row, up_row, s3 m (by omega) (by omega)]
    have eo : ∀ b, b ≠ m → az_up (az_up M1 m 44 (a + 1)) m 45 (u - 1) b = M1 b := fun b hb => by rw [up_oth _ _ _ hb, up_oth _ _ _ hb]
    generalize az_up (az_up M1 m 44 (a + 1)) m 45 (u - 1) = M2 at em2 eo
    refine aw_iconst dX7_redo_33 rfl ⟨by decide, by decide⟩ ?_
    refine aw_zret dX7_redo_34 (by omega) (by decide) (by decide) ⟨_, rfl, rfl, tv.t hp, ?_⟩
    have eo2 : ∀ b, b ≠ m → b ≠ m + 1 → b ≠ m + 23 → M2 b = M b := fun b h1 h2 h3 => by rw [eo b h1, s3 b h2 h3]
    refine ⟨⟨?_, by rw [em2, if_neg (by omega), if_pos rfl], by rw [em2, if_pos rfl], fun j j0 j1 => ?_, fun j j0 j1 => ?_, fun j j0 j1 => ?_⟩, ⟨eo2 _ (by omega) (by omega) (by omega), fun b b1 b2 => eo2 b (by omega) (by omega) (by omega), ?_, ?_, ?_, ?_⟩, fun b hb => eo2 b (by omega) (by omega) (by omega)⟩
    · refine MT_congr (d5 a (by omega) (by omega)) (hgo (a + 1) (by omega) (by omega)).1.1 (fun i i0 i1 => ?_)
      rw [eo _ (by omega), s1 i i0 i1]; rfl
    · by_cases e : j = a
      · subst e
        refine MT_congr d1 (hgo j a0 (by omega)).1.1 (fun i i0 i1 => ?_)
        show M2 (m + 23) (790 * j + i) = M (m + 1) i
        rw [eo _ (by omega), s2, if_pos (by omega), show 790 * j + i - 790 * j = i by omega]
      · refine MT_congr (d4 j j0 (by omega)) (hgo j j0 (by omega)).1.1 (fun i i0 i1 => ?_)
        show M2 (m + 23) (790 * j + i) = M (m + 23) (790 * j + i)
        rw [eo _ (by omega), s2, if_neg (by omega)]
    · refine MT_congr (d5 j (by omega) (by omega)) (hgo (j + 1) (by omega) (by omega)).1.1 (fun i i0 i1 => ?_)
      show M2 (m + 23) (790 * j + i) = M (m + 23) (790 * j + i)
      rw [eo _ (by omega), s2, if_neg (by omega)]
    · rw [blk_fr (eo2 (m + 24) (by omega) (by omega) (by omega)), eo2 (m + 25) (by omega) (by omega) (by omega)]
      exact d6 j j0 j1
    · rw [em2, if_neg (by omega), if_neg (by omega)]
    · rw [em2, if_neg (by omega), if_neg (by omega)]
    · rw [em2, if_neg (by omega), if_neg (by omega)]
    · rw [em2, if_neg (by omega), if_neg (by omega)]
  · refine aw_iconst dX7_redo_7 rfl ⟨by decide, by decide⟩ ?_
    refine aw_zret dX7_redo_8 (by omega) (by decide) (by decide) ⟨_, rfl, rfl, tv.f (by omega), ?_, frX.refl M m, frO.refl M m⟩
    rw [if_neg (by omega), if_neg (by omega)]
    exact hdd
def bxs (bx : hCh) (b : Int) (T : hSt) : hCh := fun j => if j = b then T else bx j
set_option maxHeartbeats 1000000 in
theorem sp_mimage {K : az_K} {m : Int} (hK : MdK K m) (M : az_M) {ch : hCh} {a u : Int} {bx : hCh} {bz : Int → Int} {B : Int} (hg : GW ch a u bx bz B) (hd : MDh M m ch a u bx bz) (b : Int) : AM yX7_image cX7_image 3 (some .int) 4 0 0 [(1, m), (0, b)] K M (qi K (fun z M' => (0 ≤ b ∧ b < 2 → z = obN (ch a).2.1 ∧ MDh M' m ch a u (bxs bx b (ch a)) (gu bz b 1)) ∧ (¬ (0 ≤ b ∧ b < 2) → z = -1 ∧ MDh M' m ch a u bx bz) ∧ frX M M' m ∧ frO M M' m)) := by
  have hK0 := hK
  obtain ⟨hKo, k3, k4, k5, k6, k7, k8, k9, k10, k11, k12, k13, k14, k15, k16, k17, k18, k19, k20, k21, k22, k23, k24, k25, y3, y4, y5, y6, y7, y8, y9, y10, y11, y12, y13, y14, y15, y16, y17, y18, y19, y20, y21, y22, y23, y24, y25⟩ := hK
  have hKo0 := hKo
  obtain ⟨hKa, k2, y2⟩ := hKo
  have hKa0 := hKa
  obtain ⟨km, k1, y1⟩ := hKa
  have hcu := hg.cur
  obtain ⟨a0, u0, au, hgo, hgb⟩ := hg
  have hdd := hd
  obtain ⟨d1, d2, d3, d4, d5, d6⟩ := hd
  refine am_of (by decide) (Nat.le_of_ble_eq_true rfl) (L := [(1, m), (0, b), (9, 0)]) rfl ?_
  generalize hQ : (fun (z : Int) (M' : az_M) => (0 ≤ b ∧ b < 2 → z = obN (ch a).2.1 ∧ MDh M' m ch a u (bxs bx b (ch a)) (gu bz b 1)) ∧ (¬ (0 ≤ b ∧ b < 2) → z = -1 ∧ MDh M' m ch a u bx bz) ∧ frX M M' m ∧ frO M M' m) = Q
  refine aw_iload_n dX7_image_0 rfl rfl ?_
  refine aw_iconst dX7_image_1 rfl ⟨by decide, by decide⟩ ?_
  refine aw_iconst dX7_image_2 rfl ⟨by decide, by decide⟩ ?_
  refine aw_cS3p dX7_image_3 ml_RX7_94 ⟨by decide, by decide, by decide, by decide⟩ (Nat.le_of_ble_eq_true rfl) (sp_isIn K M b 0 1) ?_
  refine aw_if_ne (tgt := 11) dX7_image_6 rfl (fun h6 => ?_) (fun h6 => ?_)
  · have hb := if1 h6
    refine aw_iconst dX7_image_11 rfl ⟨by decide, by decide⟩ ?_
    refine aw_istore_n dX7_image_12 rfl (by decide) ?_
    have loop : ∀ (d : Nat) (k : Int) (M2 : az_M), 0 ≤ k → k + d = 790 → (∀ i, M2 (m + 24) i = if 790 * b ≤ i ∧ i < 790 * b + k then M (m + 1) (i - 790 * b) else M (m + 24) i) → (∀ b, b ≠ m + 24 → M2 b = M b) → AW az_P0 (az_Z (qi K Q) 0 0) (az_rm 4 0 0) yX7_image cX7_image 3 (some .int) 0 0 13 [(1, m), (0, b), (0, k)] [] K M2 := by
      intro d
      induction d with
      | zero =>
        intro k M2 k0 k1 f2 o2
        have hk : k = 790 := by omega
        subst hk
        refine aw_iload_n dX7_image_13 rfl rfl ?_
        refine aw_sipush dX7_image_14 (by decide) ⟨by decide, by decide⟩ ?_
        refine aw_icmp_ge (tgt := 44) dX7_image_17 rfl (fun h17 => ?_) (fun h17 => absurd h17 (by omega))
        refine aw_aload_n dX7_image_44 rfl rfl ⟨by decide, by decide⟩ ?_
        refine aw_gzF 43 dX7_image_45 fl_RX7_87 (by assumption) rfl rfl (by assumption) ?_
        refine aw_iload_n dX7_image_48 rfl rfl ?_
        refine aw_iconst dX7_image_49 rfl ⟨by decide, by decide⟩ ?_
        refine aw_zast dX7_image_50 (by assumption) (by omega) (by omega) (by omega) ?_
        have e25 : ∀ j, az_up M2 (m + 25) b 1 (m + 25) j = if j = b then 1 else M (m + 25) j := fun j => by rw [up_row, o2 _ (by omega)]
        have eo : ∀ c, c ≠ m + 24 → c ≠ m + 25 → az_up M2 (m + 25) b 1 c = M c := fun c h1 h2 => by rw [up_oth _ _ _ h2, o2 c h1]
        have e24 : az_up M2 (m + 25) b 1 (m + 24) = M2 (m + 24) := up_oth _ _ _ (by omega)
        generalize az_up M2 (m + 25) b 1 = M3 at e25 eo e24
        have h1 : HM M3 m (ch a) := HM_fr d1 (eo _ (by omega) (by omega))
        refine aw_aload_n dX7_image_51 rfl rfl ⟨by decide, by decide⟩ ?_
        refine aw_cV0p dX7_image_52 ml_RX7_164 (by assumption) (by decide) rfl rfl ⟨by decide, by decide, by decide, by decide⟩ (Nat.le_of_ble_eq_true rfl) (sp_objectsNow hKa0 M3 (WR_of hcu.1.1) h1.1 h1.2.1) ?_
        refine aw_iret dX7_image_55 (by decide) (by decide) ⟨_, rfl, rfl, ?_⟩
        rw [← hQ]
        refine ⟨fun _ => ⟨rfl, h1, by rw [eo _ (by omega) (by omega)]; exact d2, by rw [eo _ (by omega) (by omega)]; exact d3, fun j j0 j1 => by rw [blk_fr (eo (m + 23) (by omega) (by omega))]; exact d4 j j0 j1, fun j j0 j1 => by rw [blk_fr (eo (m + 23) (by omega) (by omega))]; exact d5 j j0 j1, fun j j0 j1 => ?_⟩, fun q => absurd (by omega) q, ⟨eo _ (by omega) (by omega), fun c h1 h2 => eo c (by omega) (by omega), by rw [eo _ (by omega) (by omega)], by rw [eo _ (by omega) (by omega)], by rw [eo _ (by omega) (by omega)], by rw [eo _ (by omega) (by omega)]⟩, fun c hc => eo c (by omega) (by omega)⟩
        rw [e25]
        unfold gu bxs
        by_cases e : j = b
        · rw [if_pos e, if_pos e]
          refine ⟨rfl, fun _ => ?_⟩
          simp only [e, if_true]
          refine MT_congr d1 hcu.1.1 (fun i i0 i1 => ?_)
          show M3 (m + 24) (790 * b + i) = M (m + 1) i
          rw [e24, f2, if_pos (by omega), show 790 * b + i - 790 * b = i by omega]
        · rw [if_neg e, if_neg e]
          simp only [e, if_false]
          obtain ⟨g1, g2⟩ := d6 j j0 j1
          refine ⟨g1, fun q => ?_⟩
          refine MT_congr (g2 q) ((hgb j j0 j1).2 q).1.1 (fun i i0 i1 => ?_)
          show M3 (m + 24) (790 * j + i) = M (m + 24) (790 * j + i)
          rw [e24, f2, if_neg (by omega)]
      | succ d ih =>
        intro k M2 k0 k1 f2 o2
        have v36 : M2 (m + 1) k = M (m + 1) k := by rw [o2 _ (by omega)]
        refine aw_iload_n dX7_image_13 rfl rfl ?_
        refine aw_sipush dX7_image_14 (by decide) ⟨by decide, by decide⟩ ?_
        refine aw_icmp_ge (tgt := 44) dX7_image_17 rfl (fun h17 => absurd h17 (by omega)) (fun h17 => ?_)
        refine aw_aload_n dX7_image_20 rfl rfl ⟨by decide, by decide⟩ ?_
        refine aw_gzF 42 dX7_image_21 fl_RX7_84 (by assumption) rfl rfl (by assumption) ?_
        refine aw_sipush dX7_image_24 (by decide) ⟨by decide, by decide⟩ ?_
        refine aw_iload_n dX7_image_27 rfl rfl ?_
        refine aw_imul dX7_image_28 (az_wr_id (by omega) (by omega)) ?_
        refine aw_iload_n dX7_image_29 rfl rfl ?_
        refine aw_iadd dX7_image_30 (az_wr_id (by omega) (by omega)) ?_
        refine aw_aload_n dX7_image_31 rfl rfl ⟨by decide, by decide⟩ ?_
        refine aw_gzF 0 dX7_image_32 fl_RX7_7 (by assumption) rfl rfl (by assumption) ?_
        refine aw_iload_n dX7_image_35 rfl rfl ?_
        refine aw_iv dX7_image_36 (by assumption) (by omega) (by omega) v36 ?_
        refine aw_iast dX7_image_37 (by assumption) (by omega) (by omega) ?_
        refine aw_iinc dX7_image_38 rfl (az_wr_id (by omega) (by omega)) (by decide) ?_
        refine aw_goto (tgt := 13) dX7_image_41 rfl ?_
        refine ih (k + 1) _ (by omega) (by omega) (fun i => ?_) (fun b hb => by rw [up_oth _ _ _ hb]; exact o2 b hb)
        rw [up_row]
        show (if i = 790 * b + k then M (m + 1) k else M2 (m + 24) i) = _
        rw [f2]
        by_cases e1 : i = 790 * b + k
        · rw [if_pos e1, if_pos (by omega), show i - 790 * b = k by omega]
        · rw [if_neg e1]
          by_cases e2 : 790 * b ≤ i ∧ i < 790 * b + k
          · rw [if_pos e2, if_pos (by omega)]
          · rw [if_neg e2, if_neg (by omega)]
    exact loop 790 0 M (by omega) (by omega) (fun i => by rw [if_neg (by omega)]) (fun _ _ => rfl)
  · have hb := if0 h6
    refine aw_iconst dX7_image_9 rfl ⟨by decide, by decide⟩ ?_
    refine aw_iret dX7_image_10 (by decide) (by decide) ⟨_, rfl, rfl, ?_⟩
    rw [← hQ]
    exact ⟨fun q => absurd (by omega) hb, fun _ => ⟨rfl, hdd⟩, frX.refl M m, frO.refl M m⟩
set_option maxHeartbeats 1000000 in
theorem sp_mback {K : az_K} {m : Int} (hK : MdK K m) (M : az_M) {ch : hCh} {a u : Int} {bx : hCh} {bz : Int → Int} {B : Int} (hg : GW ch a u bx bz B) (hd : MDh M m ch a u bx bz) (b : Int) : AM yX7_back cX7_back 3 (some .int) 4 0 0 [(1, m), (0, b)] K M (qi K (fun z M' => ((0 ≤ b ∧ b < 2) ∧ bz b = 1 → z = obN (bx b).2.1 ∧ MDh M' m (fun _ => bx b) 0 0 bx bz) ∧ (¬ ((0 ≤ b ∧ b < 2) ∧ bz b = 1) → z = -1 ∧ MDh M' m ch a u bx bz) ∧ frX M M' m ∧ frO M M' m)) := by
  have hK0 := hK
  obtain ⟨hKo, k3, k4, k5, k6, k7, k8, k9, k10, k11, k12, k13, k14, k15, k16, k17, k18, k19, k20, k21, k22, k23, k24, k25, y3, y4, y5, y6, y7, y8, y9, y10, y11, y12, y13, y14, y15, y16, y17, y18, y19, y20, y21, y22, y23, y24, y25⟩ := hK
  have hKo0 := hKo
  obtain ⟨hKa, k2, y2⟩ := hKo
  have hKa0 := hKa
  obtain ⟨km, k1, y1⟩ := hKa
  obtain ⟨a0, u0, au, hgo, hgb⟩ := hg
  have hdd := hd
  obtain ⟨d1, d2, d3, d4, d5, d6⟩ := hd
  refine am_of (by decide) (Nat.le_of_ble_eq_true rfl) (L := [(1, m), (0, b), (9, 0)]) rfl ?_
  generalize hQ : (fun (z : Int) (M' : az_M) => ((0 ≤ b ∧ b < 2) ∧ bz b = 1 → z = obN (bx b).2.1 ∧ MDh M' m (fun _ => bx b) 0 0 bx bz) ∧ (¬ ((0 ≤ b ∧ b < 2) ∧ bz b = 1) → z = -1 ∧ MDh M' m ch a u bx bz) ∧ frX M M' m ∧ frO M M' m) = Q
  have no : ¬ ((0 ≤ b ∧ b < 2) ∧ bz b = 1) → AW az_P0 (az_Z (qi K Q) 0 0) (az_rm 4 0 0) yX7_back cX7_back 3 (some .int) 0 0 18 [(1, m), (0, b), (9, 0)] [] K M := by
    intro h
    refine aw_iconst dX7_back_18 rfl ⟨by decide, by decide⟩ ?_
    refine aw_iret dX7_back_19 (by decide) (by decide) ⟨_, rfl, rfl, ?_⟩
    rw [← hQ]
    exact ⟨fun q => absurd q h, fun _ => ⟨rfl, hdd⟩, frX.refl M m, frO.refl M m⟩
  refine aw_iload_n dX7_back_0 rfl rfl ?_
  refine aw_iconst dX7_back_1 rfl ⟨by decide, by decide⟩ ?_
  refine aw_iconst dX7_back_2 rfl ⟨by decide, by decide⟩ ?_
  refine aw_cS3p dX7_back_3 ml_RX7_94 ⟨by decide, by decide, by decide, by decide⟩ (Nat.le_of_ble_eq_true rfl) (sp_isIn K M b 0 1) ?_
  refine aw_if_eq (tgt := 18) dX7_back_6 rfl (fun h6 => ?_) (fun h6 => ?_)
  · exact no (fun q => if0 h6 (by omega))
  · have hb := if1 h6
    obtain ⟨g1, g2⟩ := d6 b (by omega) (by omega)
    obtain ⟨g3, g4⟩ := hgb b (by omega) (by omega)
    refine aw_aload_n dX7_back_9 rfl rfl ⟨by decide, by decide⟩ ?_
    refine aw_gzF 43 dX7_back_10 fl_RX7_87 (by assumption) rfl rfl (by assumption) ?_
    refine aw_iload_n dX7_back_13 rfl rfl ?_
    refine aw_zv dX7_back_14 (by assumption) (by omega) (by omega) g1 ?_
    refine aw_if_ne (tgt := 20) dX7_back_15 rfl (fun h15 => ?_) (fun h15 => ?_)
    · have h1 : bz b = 1 := by omega
      replace g2 := g2 h1
      replace g4 := g4 h1
      refine aw_iconst dX7_back_20 rfl ⟨by decide, by decide⟩ ?_
      refine aw_istore_n dX7_back_21 rfl (by decide) ?_
      have loop : ∀ (d : Nat) (k : Int) (M2 : az_M), 0 ≤ k → k + d = 790 → (∀ i, M2 (m + 1) i = if 0 ≤ i ∧ i < k then M (m + 24) (790 * b + i) else M (m + 1) i) → (∀ b, b ≠ m + 1 → M2 b = M b) → AW az_P0 (az_Z (qi K Q) 0 0) (az_rm 4 0 0) yX7_back cX7_back 3 (some .int) 0 0 22 [(1, m), (0, b), (0, k)] [] K M2 := by
        intro d
        induction d with
        | zero =>
          intro k M2 k0 k1 f2 o2
          have hk : k = 790 := by omega
          subst hk
          refine aw_iload_n dX7_back_22 rfl rfl ?_
          refine aw_sipush dX7_back_23 (by decide) ⟨by decide, by decide⟩ ?_
          refine aw_icmp_ge (tgt := 53) dX7_back_26 rfl (fun h26 => ?_) (fun h26 => absurd h26 (by omega))
          refine aw_aload_n dX7_back_53 rfl rfl ⟨by decide, by decide⟩ ?_
          refine aw_iconst dX7_back_54 rfl ⟨by decide, by decide⟩ ?_
          refine aw_pi 44 dX7_back_55 fl_RX7_250 (by assumption) rfl rfl ?_
          refine aw_aload_n dX7_back_58 rfl rfl ⟨by decide, by decide⟩ ?_
          refine aw_iconst dX7_back_59 rfl ⟨by decide, by decide⟩ ?_
          refine aw_pi 45 dX7_back_60 fl_RX7_253 (by assumption) rfl rfl ?_
          have em : ∀ j, az_up (az_up M2 m 44 0) m 45 0 m j = if j = 45 then 0 else if j = 44 then 0 else M m j := fun j => by rw [up_row, up_row, o2 _ (by omega)]
          have eo : ∀ c, c ≠ m → az_up (az_up M2 m 44 0) m 45 0 c = M2 c := fun c hc => by rw [up_oth _ _ _ hc, up_oth _ _ _ hc]
          generalize az_up (az_up M2 m 44 0) m 45 0 = M3 at em eo
          have h3 : HM M3 m (bx b) := by
            refine MT_congr g2 g4.1.1 (fun i i0 i1 => ?_)
            rw [eo _ (by omega), f2, if_pos ⟨i0, i1⟩]; rfl
          have eo2 : ∀ c, c ≠ m → c ≠ m + 1 → M3 c = M c := fun c q1 q2 => by rw [eo c q1, o2 c q2]
          refine aw_aload_n dX7_back_63 rfl rfl ⟨by decide, by decide⟩ ?_
          refine aw_cV0p dX7_back_64 ml_RX7_164 (by assumption) (by decide) rfl rfl ⟨by decide, by decide, by decide, by decide⟩ (Nat.le_of_ble_eq_true rfl) (sp_objectsNow hKa0 M3 (WR_of g4.1.1) h3.1 h3.2.1) ?_
          refine aw_iret dX7_back_67 (by decide) (by decide) ⟨_, rfl, rfl, ?_⟩
          rw [← hQ]
          refine ⟨fun _ => ⟨rfl, h3, by rw [em, if_neg (by omega), if_pos rfl], by rw [em, if_pos rfl], fun j j0 j1 => by omega, fun j j0 j1 => by omega, fun j j0 j1 => ?_⟩, fun q => absurd ⟨by omega, h1⟩ q, ⟨eo2 _ (by omega) (by omega), fun c q1 q2 => eo2 c (by omega) (by omega), ?_, ?_, ?_, ?_⟩, fun c hc => eo2 c (by omega) (by omega)⟩
          · rw [blk_fr (eo2 (m + 24) (by omega) (by omega)), eo2 (m + 25) (by omega) (by omega)]; exact d6 j j0 j1
          · rw [em, if_neg (by omega), if_neg (by omega)]
          · rw [em, if_neg (by omega), if_neg (by omega)]
          · rw [em, if_neg (by omega), if_neg (by omega)]
          · rw [em, if_neg (by omega), if_neg (by omega)]
        | succ d ih =>
          intro k M2 k0 k1 f2 o2
          have v45 : M2 (m + 24) (790 * b + k) = M (m + 24) (790 * b + k) := by rw [o2 _ (by omega)]
          refine aw_iload_n dX7_back_22 rfl rfl ?_
          refine aw_sipush dX7_back_23 (by decide) ⟨by decide, by decide⟩ ?_
          refine aw_icmp_ge (tgt := 53) dX7_back_26 rfl (fun h26 => absurd h26 (by omega)) (fun h26 => ?_)
          refine aw_aload_n dX7_back_29 rfl rfl ⟨by decide, by decide⟩ ?_
          refine aw_gzF 0 dX7_back_30 fl_RX7_7 (by assumption) rfl rfl (by assumption) ?_
          refine aw_iload_n dX7_back_33 rfl rfl ?_
          refine aw_aload_n dX7_back_34 rfl rfl ⟨by decide, by decide⟩ ?_
          refine aw_gzF 42 dX7_back_35 fl_RX7_84 (by assumption) rfl rfl (by assumption) ?_
          refine aw_sipush dX7_back_38 (by decide) ⟨by decide, by decide⟩ ?_
          refine aw_iload_n dX7_back_41 rfl rfl ?_
          refine aw_imul dX7_back_42 (az_wr_id (by omega) (by omega)) ?_
          refine aw_iload_n dX7_back_43 rfl rfl ?_
          refine aw_iadd dX7_back_44 (az_wr_id (by omega) (by omega)) ?_
          refine aw_iv dX7_back_45 (by assumption) (by omega) (by omega) v45 ?_
          refine aw_iast dX7_back_46 (by assumption) (by omega) (by omega) ?_
          refine aw_iinc dX7_back_47 rfl (az_wr_id (by omega) (by omega)) (by decide) ?_
          refine aw_goto (tgt := 22) dX7_back_50 rfl ?_
          refine ih (k + 1) _ (by omega) (by omega) (fun i => ?_) (fun b hb => by rw [up_oth _ _ _ hb]; exact o2 b hb)
          rw [up_row]
          show (if i = k then M (m + 24) (790 * b + k) else M2 (m + 1) i) = _
          rw [f2]
          by_cases e1 : i = k
          · rw [if_pos e1, if_pos (by omega), e1]
          · rw [if_neg e1]
            by_cases e2 : 0 ≤ i ∧ i < k
            · rw [if_pos e2, if_pos (by omega)]
            · rw [if_neg e2, if_neg (by omega)]
      exact loop 790 0 M (by omega) (by omega) (fun i => by rw [if_neg (by omega)]) (fun _ _ => rfl)
    · exact no (fun q => by omega)
