/-! TreadRing$Rings -/
theorem up_row (M : az_M) (a i v : Int) : az_up M a i v a = fun j => if j = i then v else M a j := by
  funext j
  unfold az_up
  by_cases h : j = i <;> simp [h]
theorem up_oth (M : az_M) {a b : Int} (i v : Int) (h : b ≠ a) : az_up M a i v b = M b := by
  funext j
  unfold az_up
  simp [h]
theorem qp_i {K : az_K} {M : az_M} {x z : Int} (h : x = z) : qp K M z (some (0, x)) K M := by subst h; exact ⟨rfl, rfl, rfl⟩
def RgK (K : az_K) (q : Int) : Prop := az_at K (q + 1) (3, 4) ∧ az_at K (q + 2) (100, 77) ∧ az_at K (q + 3) (100, 77) ∧ az_at K (q + 4) (100, 64) ∧ az_at K (q + 5) (100, 13) ∧
  K.2 (q + 1) 0 = some (q + 2) ∧ K.2 (q + 1) 1 = some (q + 3) ∧ K.2 (q + 1) 2 = some (q + 4) ∧ K.2 (q + 1) 3 = some (q + 5)
set_option maxRecDepth 20000 in
theorem sp_count {K : az_K} {q : Int} (hK : RgK K q) (M : az_M) (k : Int) (h0 : 0 ≤ k) (h1 : k < 13) : AM yX3_count cX3_count 2 (some .int) 0 0 0 [(1, q + 1), (0, k)] K M (qp K M (M (q + 5) k)) := by
  obtain ⟨k0, k1, k2, k3, k4, z0, z1, z2, z3⟩ := hK
  refine am_of (by decide) (Nat.le_of_ble_eq_true rfl) (L := [(1, q + 1), (0, k)]) rfl ?_
  refine aw_aload_n dX3_count_0 rfl rfl ⟨by decide, by decide⟩ ?_
  refine aw_gzF 3 dX3_count_1 fl_RX3_21 (by assumption) rfl rfl (by assumption) ?_
  refine aw_iload_n dX3_count_4 rfl rfl ?_
  refine aw_iv dX3_count_5 (by assumption) (by omega) (by omega) rfl ?_
  exact aw_iret dX3_count_6 (by decide) (by decide) (qp_i rfl)
set_option maxRecDepth 20000 in
theorem sp_first {K : az_K} {q : Int} (hK : RgK K q) (M : az_M) (k : Int) (h0 : 0 ≤ k) (h1 : k < 13) (h2 : 0 ≤ M (q + 2) (64 + k)) (h3 : M (q + 2) (64 + k) < 77) : AM yX3_first cX3_first 2 (some .int) 0 0 0 [(1, q + 1), (0, k)] K M (qp K M (2 * M (q + 2) (64 + k))) := by
  obtain ⟨k0, k1, k2, k3, k4, z0, z1, z2, z3⟩ := hK
  refine am_of (by decide) (Nat.le_of_ble_eq_true rfl) (L := [(1, q + 1), (0, k)]) rfl ?_
  refine aw_iconst dX3_first_0 rfl ⟨by decide, by decide⟩ ?_
  refine aw_aload_n dX3_first_1 rfl rfl ⟨by decide, by decide⟩ ?_
  refine aw_gzF 0 dX3_first_2 fl_RX3_11 (by assumption) rfl rfl (by assumption) ?_
  refine aw_bipush dX3_first_5 (by decide) ⟨by decide, by decide⟩ ?_
  refine aw_iload_n dX3_first_7 rfl rfl ?_
  refine aw_iadd dX3_first_8 (az_wr_id (by omega) (by omega)) ?_
  refine aw_iv dX3_first_9 (by assumption) (by omega) (by omega) rfl ?_
  refine aw_imul dX3_first_10 (az_wr_id (by omega) (by omega)) ?_
  exact aw_iret dX3_first_11 (by decide) (by decide) (qp_i rfl)
/-- the colour of the slot that begins at an address; -1 if none does -/
def cAt (ro : Int → Int) (a : Int) : Int := if 0 ≤ a ∧ a < 128 ∧ a % 2 = 0 ∧ ro (a / 2) ≠ 12 then ro (a / 2) % 4 else -1
set_option maxRecDepth 20000 in
theorem sp_colourAt {K : az_K} {q : Int} (hK : RgK K q) (M : az_M) (a : Int) (h0 : ∀ x, 0 ≤ x → x < 64 → 0 ≤ M (q + 4) x) : AM yX3_colourAt cX3_colourAt 2 (some .int) 0 0 0 [(1, q + 1), (0, a)] K M (qp K M (cAt (M (q + 4)) a)) := by
  obtain ⟨k0, k1, k2, k3, k4, z0, z1, z2, z3⟩ := hK
  refine am_of (by decide) (Nat.le_of_ble_eq_true rfl) (L := [(1, q + 1), (0, a)]) rfl ?_
  refine aw_iload_n dX3_colourAt_0 rfl rfl ?_
  refine aw_if_lt (tgt := 30) dX3_colourAt_1 rfl (fun h1 => ?_) (fun h1 => ?_)
  · refine aw_iconst dX3_colourAt_30 rfl ⟨by decide, by decide⟩ ?_
    exact aw_iret dX3_colourAt_31 (by decide) (by decide) (qp_i (by unfold cAt; split <;> omega))
  · refine aw_iload_n dX3_colourAt_4 rfl rfl ?_
    refine aw_sipush dX3_colourAt_5 (by decide) ⟨by decide, by decide⟩ ?_
    refine aw_icmp_ge (tgt := 30) dX3_colourAt_8 rfl (fun h8 => ?_) (fun h8 => ?_)
    · refine aw_iconst dX3_colourAt_30 rfl ⟨by decide, by decide⟩ ?_
      exact aw_iret dX3_colourAt_31 (by decide) (by decide) (qp_i (by unfold cAt; split <;> omega))
    · refine aw_iload_n dX3_colourAt_11 rfl rfl ?_
      refine aw_iconst dX3_colourAt_12 rfl ⟨by decide, by decide⟩ ?_
      refine aw_irem dX3_colourAt_13 (by omega) (by omega) ?_
      refine aw_if_ne (tgt := 30) dX3_colourAt_14 rfl (fun h14 => ?_) (fun h14 => ?_)
      · refine aw_iconst dX3_colourAt_30 rfl ⟨by decide, by decide⟩ ?_
        exact aw_iret dX3_colourAt_31 (by decide) (by decide) (qp_i (by unfold cAt; split <;> omega))
      · refine aw_aload_n dX3_colourAt_17 rfl rfl ⟨by decide, by decide⟩ ?_
        refine aw_gzF 2 dX3_colourAt_18 fl_RX3_18 (by assumption) rfl rfl (by assumption) ?_
        refine aw_iload_n dX3_colourAt_21 rfl rfl ?_
        refine aw_iconst dX3_colourAt_22 rfl ⟨by decide, by decide⟩ ?_
        refine aw_idiv dX3_colourAt_23 (by omega) (by omega) ?_
        refine aw_iv dX3_colourAt_24 (by assumption) (by omega) (by omega) rfl ?_
        refine aw_bipush dX3_colourAt_25 (by decide) ⟨by decide, by decide⟩ ?_
        refine aw_icmp_ne (tgt := 32) dX3_colourAt_27 rfl (fun h27 => ?_) (fun h27 => ?_)
        · refine aw_aload_n dX3_colourAt_32 rfl rfl ⟨by decide, by decide⟩ ?_
          refine aw_gzF 2 dX3_colourAt_33 fl_RX3_18 (by assumption) rfl rfl (by assumption) ?_
          refine aw_iload_n dX3_colourAt_36 rfl rfl ?_
          refine aw_iconst dX3_colourAt_37 rfl ⟨by decide, by decide⟩ ?_
          refine aw_idiv dX3_colourAt_38 (by omega) (by omega) ?_
          refine aw_iv dX3_colourAt_39 (by assumption) (by omega) (by omega) rfl ?_
          refine aw_iconst dX3_colourAt_40 rfl ⟨by decide, by decide⟩ ?_
          refine aw_irem dX3_colourAt_41 (by first | omega | exact h0 _ (by omega) (by omega)) (by first | omega | exact h0 _ (by omega) (by omega)) ?_
          exact aw_iret dX3_colourAt_42 (by decide) (by decide) (qp_i (by unfold cAt; split <;> omega))
        · refine aw_iconst dX3_colourAt_30 rfl ⟨by decide, by decide⟩ ?_
          exact aw_iret dX3_colourAt_31 (by decide) (by decide) (qp_i (by unfold cAt; split <;> omega))
set_option maxRecDepth 20000 in
set_option maxHeartbeats 1000000 in
theorem sp_move {K : az_K} {q : Int} (hK : RgK K q) (M : az_M) {rg : Int → List Int} (hR : RR (M (q + 2)) (M (q + 3)) (M (q + 4)) (M (q + 5)) rg) (a k f : Int) (a0 : 0 ≤ a) (a1 : a < 128) (h0 : 0 ≤ k) (h1 : k ≤ 12) (hf : f = 0 ∨ f = 1) :
    AM yX3_move cX3_move 8 none 0 0 0 [(1, q + 1), (0, a), (0, k), (0, f)] K M (qv K (fun M' => RR (M' (q + 2)) (M' (q + 3)) (M' (q + 4)) (M' (q + 5)) (rmv rg (a / 2) (M (q + 4) (a / 2)) k (decide (f = 1))) ∧ M' (q + 4) = (fun x => if x = a / 2 then k else M (q + 4) x) ∧ ∀ b, b < q + 2 ∨ q + 5 < b → M' b = M b)) := by
  obtain ⟨k0, k1, k2, k3, k4, z0, z1, z2, z3⟩ := hK
  refine am_of (by decide) (Nat.le_of_ble_eq_true rfl) (L := [(1, q + 1), (0, a), (0, k), (0, f), (9, 0), (9, 0), (9, 0), (9, 0)]) rfl ?_
  refine aw_iload_n dX3_move_0 rfl rfl ?_
  refine aw_iconst dX3_move_1 rfl ⟨by decide, by decide⟩ ?_
  refine aw_idiv dX3_move_2 (by omega) (by omega) ?_
  refine aw_istore dX3_move_3 (by decide) ?_
  obtain ⟨n, hn⟩ : ∃ n, n = a / 2 := ⟨_, rfl⟩
  rw [← hn]
  have n0 : 0 ≤ n := by omega
  have n1 : n < 64 := by omega
  have hI := hR.1
  obtain ⟨⟨i1, i2⟩, ⟨i3, i4⟩, i5, i6⟩ := hI n n0 (by omega)
  obtain ⟨ro0, ro1, ro2⟩ := hR.2.2 n n0 n1
  refine aw_aload_n dX3_move_5 rfl rfl ⟨by decide, by decide⟩ ?_
  refine aw_gzF 0 dX3_move_6 fl_RX3_11 (by assumption) rfl rfl (by assumption) ?_
  refine aw_aload_n dX3_move_9 rfl rfl ⟨by decide, by decide⟩ ?_
  refine aw_gzF 1 dX3_move_10 fl_RX3_15 (by assumption) rfl rfl (by assumption) ?_
  refine aw_iload dX3_move_13 rfl ?_
  refine aw_iv dX3_move_15 (by assumption) (by omega) (by omega) rfl ?_
  refine aw_aload_n dX3_move_16 rfl rfl ⟨by decide, by decide⟩ ?_
  refine aw_gzF 0 dX3_move_17 fl_RX3_11 (by assumption) rfl rfl (by assumption) ?_
  refine aw_iload dX3_move_20 rfl ?_
  refine aw_iv dX3_move_22 (by assumption) (by omega) (by omega) rfl ?_
  refine aw_iast dX3_move_23 (by assumption) (by omega) (by omega) ?_
  generalize e1 : az_up M (q + 2) (M (q + 3) n) (M (q + 2) n) = M1
  have r1 : M1 (q + 2) = nx1 (M (q + 2)) (M (q + 3)) n := by rw [← e1, up_row]; rfl
  have o1 : ∀ b, b ≠ q + 2 → M1 b = M b := fun b hb => by rw [← e1, up_oth _ _ _ hb]
  have v1 : M1 (q + 2) n = M (q + 2) n := by rw [r1]; unfold nx1; split <;> rfl
  have v2 : M1 (q + 3) n = M (q + 3) n := by rw [o1 _ (by omega)]
  refine aw_aload_n dX3_move_24 rfl rfl ⟨by decide, by decide⟩ ?_
  refine aw_gzF 1 dX3_move_25 fl_RX3_15 (by assumption) rfl rfl (by assumption) ?_
  refine aw_aload_n dX3_move_28 rfl rfl ⟨by decide, by decide⟩ ?_
  refine aw_gzF 0 dX3_move_29 fl_RX3_11 (by assumption) rfl rfl (by assumption) ?_
  refine aw_iload dX3_move_32 rfl ?_
  refine aw_iv dX3_move_34 (by assumption) (by omega) (by omega) v1 ?_
  refine aw_aload_n dX3_move_35 rfl rfl ⟨by decide, by decide⟩ ?_
  refine aw_gzF 1 dX3_move_36 fl_RX3_15 (by assumption) rfl rfl (by assumption) ?_
  refine aw_iload dX3_move_39 rfl ?_
  refine aw_iv dX3_move_41 (by assumption) (by omega) (by omega) v2 ?_
  refine aw_iast dX3_move_42 (by assumption) (by omega) (by omega) ?_
  generalize e2 : az_up M1 (q + 3) (M (q + 2) n) (M (q + 3) n) = M2
  have r2 : M2 (q + 3) = pv1 (M (q + 2)) (M (q + 3)) n := by rw [← e2, up_row, o1 _ (by omega)]; rfl
  have o2 : ∀ b, b ≠ q + 3 → M2 b = M1 b := fun b hb => by rw [← e2, up_oth _ _ _ hb]
  have v3 : M2 (q + 4) n = M (q + 4) n := by rw [o2 _ (by omega), o1 _ (by omega)]
  have v4 : M2 (q + 5) (M (q + 4) n) = M (q + 5) (M (q + 4) n) := by rw [o2 _ (by omega), o1 _ (by omega)]
  refine aw_aload_n dX3_move_43 rfl rfl ⟨by decide, by decide⟩ ?_
  refine aw_gzF 3 dX3_move_44 fl_RX3_21 (by assumption) rfl rfl (by assumption) ?_
  refine aw_aload_n dX3_move_47 rfl rfl ⟨by decide, by decide⟩ ?_
  refine aw_gzF 2 dX3_move_48 fl_RX3_18 (by assumption) rfl rfl (by assumption) ?_
  refine aw_iload dX3_move_51 rfl ?_
  refine aw_iv dX3_move_53 (by assumption) (by omega) (by omega) v3 ?_
  refine aw_dup2 dX3_move_54 ?_
  refine aw_iv dX3_move_55 (by assumption) (by omega) (by omega) v4 ?_
  refine aw_iconst dX3_move_56 rfl ⟨by decide, by decide⟩ ?_
  refine aw_isub dX3_move_57 rfl ?_
  refine aw_iast dX3_move_58 (by assumption) (by omega) (by omega) ?_
  generalize e3 : az_up M2 (q + 5) (M (q + 4) n) (az_wr (M (q + 5) (M (q + 4) n) - 1)) = M3
  have o3 : ∀ b, b ≠ q + 5 → M3 b = M2 b := fun b hb => by rw [← e3, up_oth _ _ _ hb]
  have r3 : M3 (q + 5) = fun j => if j = M (q + 4) n then az_wr (M (q + 5) (M (q + 4) n) - 1) else M (q + 5) j := by rw [← e3, up_row, o2 _ (by omega), o1 _ (by omega)]
  have s1 : M3 (q + 2) = nx1 (M (q + 2)) (M (q + 3)) n := by rw [o3 _ (by omega), o2 _ (by omega), r1]
  have s2 : M3 (q + 3) = pv1 (M (q + 2)) (M (q + 3)) n := by rw [o3 _ (by omega), r2]
  have s3 : M3 (q + 4) = M (q + 4) := by rw [o3 _ (by omega), o2 _ (by omega), o1 _ (by omega)]
  have so : ∀ b, b < q + 2 ∨ q + 5 < b → M3 b = M b := fun b hb => by rw [o3 _ (by omega), o2 _ (by omega), o1 _ (by omega)]
  obtain ⟨-, ⟨p1, p2, p3⟩, -, p5⟩ := inv1 hI n0 (by omega) (64 + k) (by omega) (by omega) (by omega)
  -- from where the new place on the left is known
  have go : ∀ lf : Int, lf = (if decide (f = 1) then 64 + k else pv1 (M (q + 2)) (M (q + 3)) n (64 + k)) → AW az_P0 (az_Z (qv K (fun M' => RR (M' (q + 2)) (M' (q + 3)) (M' (q + 4)) (M' (q + 5)) (rmv rg n (M (q + 4) n) k (decide (f = 1))) ∧ M' (q + 4) = (fun x => if x = n then k else M (q + 4) x) ∧ ∀ b, b < q + 2 ∨ q + 5 < b → M' b = M b)) 0 0) (az_rm 0 0 0) yX3_move cX3_move 8 none 0 0 81 [(1, q + 1), (0, a), (0, k), (0, f), (0, n), (0, 64 + k), (9, 0), (9, 0)] [(0, lf)] K M3 := by
    intro lf hlf
    have hl : 0 ≤ lf ∧ lf < 77 ∧ lf ≠ n := by
      rw [hlf]
      rcases hf with rfl | rfl
      · simp; omega
      · simp; omega
    obtain ⟨⟨w1, w2, w3⟩, -⟩ := inv1 hI n0 (by omega) lf hl.1 hl.2.1 hl.2.2
    have v5 : M3 (q + 2) lf = nx1 (M (q + 2)) (M (q + 3)) n lf := by rw [s1]
    refine aw_istore dX3_move_81 (by decide) ?_
    refine aw_aload_n dX3_move_83 rfl rfl ⟨by decide, by decide⟩ ?_
    refine aw_gzF 0 dX3_move_84 fl_RX3_11 (by assumption) rfl rfl (by assumption) ?_
    refine aw_iload dX3_move_87 rfl ?_
    refine aw_iv dX3_move_89 (by assumption) (by omega) (by omega) v5 ?_
    refine aw_istore dX3_move_90 (by decide) ?_
    refine aw_aload_n dX3_move_92 rfl rfl ⟨by decide, by decide⟩ ?_
    refine aw_gzF 0 dX3_move_93 fl_RX3_11 (by assumption) rfl rfl (by assumption) ?_
    refine aw_iload dX3_move_96 rfl ?_
    refine aw_iload dX3_move_98 rfl ?_
    refine aw_iast dX3_move_100 (by assumption) (by omega) (by omega) ?_
    generalize e4 : az_up M3 (q + 2) lf n = M4
    refine aw_aload_n dX3_move_101 rfl rfl ⟨by decide, by decide⟩ ?_
    refine aw_gzF 1 dX3_move_102 fl_RX3_15 (by assumption) rfl rfl (by assumption) ?_
    refine aw_iload dX3_move_105 rfl ?_
    refine aw_iload dX3_move_107 rfl ?_
    refine aw_iast dX3_move_109 (by assumption) (by omega) (by omega) ?_
    generalize e5 : az_up M4 (q + 3) n lf = M5
    refine aw_aload_n dX3_move_110 rfl rfl ⟨by decide, by decide⟩ ?_
    refine aw_gzF 0 dX3_move_111 fl_RX3_11 (by assumption) rfl rfl (by assumption) ?_
    refine aw_iload dX3_move_114 rfl ?_
    refine aw_iload dX3_move_116 rfl ?_
    refine aw_iast dX3_move_118 (by assumption) (by omega) (by omega) ?_
    generalize e6 : az_up M5 (q + 2) n (nx1 (M (q + 2)) (M (q + 3)) n lf) = M6
    refine aw_aload_n dX3_move_119 rfl rfl ⟨by decide, by decide⟩ ?_
    refine aw_gzF 1 dX3_move_120 fl_RX3_15 (by assumption) rfl rfl (by assumption) ?_
    refine aw_iload dX3_move_123 rfl ?_
    refine aw_iload dX3_move_125 rfl ?_
    refine aw_iast dX3_move_127 (by assumption) (by omega) (by omega) ?_
    generalize e7 : az_up M6 (q + 3) (nx1 (M (q + 2)) (M (q + 3)) n lf) n = M7
    refine aw_aload_n dX3_move_128 rfl rfl ⟨by decide, by decide⟩ ?_
    refine aw_gzF 2 dX3_move_129 fl_RX3_18 (by assumption) rfl rfl (by assumption) ?_
    refine aw_iload dX3_move_132 rfl ?_
    refine aw_iload_n dX3_move_134 rfl rfl ?_
    refine aw_iast dX3_move_135 (by assumption) (by omega) (by omega) ?_
    generalize e8 : az_up M7 (q + 4) n k = M8
    have t1 : M8 (q + 2) = nx2 (M (q + 2)) (M (q + 3)) n lf := by
      rw [← e8, up_oth _ _ _ (by omega), ← e7, up_oth _ _ _ (by omega), ← e6, up_row, ← e5, up_oth _ _ _ (by omega), ← e4, up_row, s1]
      rfl
    have t2 : M8 (q + 3) = pv2 (M (q + 2)) (M (q + 3)) n lf := by
      rw [← e8, up_oth _ _ _ (by omega), ← e7, up_row, ← e6, up_oth _ _ _ (by omega), ← e5, up_row, ← e4, up_oth _ _ _ (by omega), s2]
      rfl
    have t3 : M8 (q + 4) = fun x => if x = n then k else M (q + 4) x := by
      rw [← e8, up_row, ← e7, up_oth _ _ _ (by omega), ← e6, up_oth _ _ _ (by omega), ← e5, up_oth _ _ _ (by omega), ← e4, up_oth _ _ _ (by omega), s3]
    have t4 : M8 (q + 5) = M3 (q + 5) := by
      rw [← e8, up_oth _ _ _ (by omega), ← e7, up_oth _ _ _ (by omega), ← e6, up_oth _ _ _ (by omega), ← e5, up_oth _ _ _ (by omega), ← e4, up_oth _ _ _ (by omega)]
    have t5 : ∀ b, b < q + 2 ∨ q + 5 < b → M8 b = M b := by
      intro b hb
      rw [← e8, up_oth _ _ _ (by omega), ← e7, up_oth _ _ _ (by omega), ← e6, up_oth _ _ _ (by omega), ← e5, up_oth _ _ _ (by omega), ← e4, up_oth _ _ _ (by omega)]
      exact so b hb
    refine aw_aload_n dX3_move_136 rfl rfl ⟨by decide, by decide⟩ ?_
    refine aw_gzF 3 dX3_move_137 fl_RX3_21 (by assumption) rfl rfl (by assumption) ?_
    refine aw_iload_n dX3_move_140 rfl rfl ?_
    refine aw_dup2 dX3_move_141 ?_
    refine aw_iv dX3_move_142 (by assumption) (by omega) (by omega) rfl ?_
    refine aw_iconst dX3_move_143 rfl ⟨by decide, by decide⟩ ?_
    refine aw_iadd dX3_move_144 rfl ?_
    refine aw_iast dX3_move_145 (by assumption) (by omega) (by omega) ?_
    refine aw_vret dX3_move_146 (by decide) (by decide) ⟨rfl, rfl, ?_, ?_, ?_⟩
    · rw [up_oth _ _ _ (by omega), up_oth _ _ _ (by omega), up_oth _ _ _ (by omega), up_row, t1, t2, t3, t4, r3]
      refine RR_move hR n0 n1 h0 h1 _ hlf (fun j j0 j1 => ?_)
      obtain ⟨-, g2, g3, g4⟩ := hR.2.1 j j0 j1
      have hlen := nodup_le 64 _ g2 (fun x hx => ⟨(g4 x hx).1, (g4 x hx).2.1⟩)
      have hpos : j = M (q + 4) n → 0 < (rg j).length := by
        intro e
        have h5 := ro2 (by omega)
        rw [← e] at h5
        exact List.length_pos_of_mem h5
      by_cases ek : j = k
      · subst ek
        by_cases er : j = M (q + 4) n
        · have := hpos er
          simp only [if_true, ← er]
          rw [az_wr_id (z := M (q + 5) j - 1) (by omega) (by omega), az_wr_id (by omega) (by omega)]
        · simp only [if_true, er, if_false]
          rw [az_wr_id (by omega) (by omega)]
          omega
      · simp only [ek, if_false]
        by_cases er : j = M (q + 4) n
        · have := hpos er
          simp only [if_true, ← er]
          rw [az_wr_id (by omega) (by omega)]
          omega
        · simp only [er, if_false]
          omega
    · rw [up_oth _ _ _ (by omega), t3]
    · intro b hb
      rw [up_oth _ _ _ (by omega)]
      exact t5 b hb
  refine aw_bipush dX3_move_59 (by decide) ⟨by decide, by decide⟩ ?_
  refine aw_iload_n dX3_move_61 rfl rfl ?_
  refine aw_iadd dX3_move_62 (az_wr_id (by omega) (by omega)) ?_
  refine aw_istore dX3_move_63 (by decide) ?_
  refine aw_iload_n dX3_move_65 rfl rfl ?_
  refine aw_if_eq (tgt := 74) dX3_move_66 rfl (fun h66 => ?_) (fun h66 => ?_)
  · have v6 : M3 (q + 3) (64 + k) = pv1 (M (q + 2)) (M (q + 3)) n (64 + k) := by rw [s2]
    refine aw_aload_n dX3_move_74 rfl rfl ⟨by decide, by decide⟩ ?_
    refine aw_gzF 1 dX3_move_75 fl_RX3_15 (by assumption) rfl rfl (by assumption) ?_
    refine aw_iload dX3_move_78 rfl ?_
    refine aw_iv dX3_move_80 (by assumption) (by omega) (by omega) v6 ?_
    exact go _ (by rw [if_neg (by simp; omega)])
  · refine aw_iload dX3_move_69 rfl ?_
    refine aw_goto (tgt := 81) dX3_move_71 rfl ?_
    exact go _ (by rw [if_pos (by simp; omega)])
