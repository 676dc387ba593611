/-! TreadRingModel: its small ones -/
abbrev slD (g : Int → Int) (a : Int) : Prop := 0 ≤ a ∧ a < 128 ∧ pz g a ≠ 0 ∧ a % pz g a = 0
abbrev obD (g : Int → Int) (a : Int) : Prop := (0 ≤ a ∧ a < 128 ∧ pz g a ≠ 0 ∧ a % pz g a = 0) ∧ g a ≠ 0
def MaK (K : az_K) (m : Int) : Prop := az_at K m (7, 46) ∧ az_at K (m + 1) (100, 790) ∧ K.2 m 0 = some (m + 1)
def mAll (F g : Int → Int) : Prop := ∀ i, 0 ≤ i → i < 790 → i < 384 ∨ 707 ≤ i → i ≠ 739 → F i = g i
def mRing (F : Int → Int) (z : Int) (L : List Int) : Prop := F (704 + z) = (L.length : Int) ∧ ∀ j : Nat, j < L.length → F (512 + 64 * z + j) = L.getD j 0
def rL (rg : Int → List Int) (k : Int) : List Int := (catR rg k 4).map (fun n => 2 * n)
def mRg (F : Int → Int) (rg : Int → List Int) : Prop := ∀ z, 0 ≤ z → z < 3 → mRing F z (rL rg (4 * z))
set_option maxRecDepth 20000
theorem if1 {p : Prop} {dp : Decidable p} (h : (if p then (1 : Int) else 0) ≠ 0) : p := Classical.byContradiction (fun q => h (if_neg q))
theorem if0 {p : Prop} {dp : Decidable p} (h : (if p then (1 : Int) else 0) = 0) : ¬ p := fun q => by rw [if_pos q] at h; omega
theorem sp_isIn (K : az_K) (M : az_M) (v l h : Int) : AM yX7_isIn cX7_isIn 3 (some .boolean) 0 0 0 [(0, v), (0, l), (0, h)] K M (qp K M (if l ≤ v ∧ v ≤ h then 1 else 0)) := by
  refine am_of (by decide) (Nat.le_of_ble_eq_true rfl) (L := [(0, v), (0, l), (0, h)]) rfl ?_
  refine aw_iload_n dX7_isIn_0 rfl rfl ?_
  refine aw_iload_n dX7_isIn_1 rfl rfl ?_
  refine aw_icmp_lt (tgt := 14) dX7_isIn_2 rfl (fun h2 => ?_) (fun h2 => ?_)
  · refine aw_iconst dX7_isIn_14 rfl ⟨by decide, by decide⟩ ?_
    exact aw_zret dX7_isIn_15 (by omega) (by decide) (by decide) (qp_i (by split <;> omega))
  · refine aw_iload_n dX7_isIn_5 rfl rfl ?_
    refine aw_iload_n dX7_isIn_6 rfl rfl ?_
    refine aw_icmp_gt (tgt := 14) dX7_isIn_7 rfl (fun h7 => ?_) (fun h7 => ?_)
    · refine aw_iconst dX7_isIn_14 rfl ⟨by decide, by decide⟩ ?_
      exact aw_zret dX7_isIn_15 (by omega) (by decide) (by decide) (qp_i (by split <;> omega))
    · refine aw_iconst dX7_isIn_10 rfl ⟨by decide, by decide⟩ ?_
      refine aw_goto (tgt := 15) dX7_isIn_11 rfl ?_
      exact aw_zret dX7_isIn_15 (by omega) (by decide) (by decide) (qp_i (by split <;> omega))
theorem sp_misRoot (K : az_K) (M : az_M) (v : Int) : AM yX7_isRoot cX7_isRoot 1 (some .boolean) 1 0 0 [(0, v)] K M (qp K M (if 0 ≤ v ∧ v ≤ 5 then 1 else 0)) := by
  refine am_of (by decide) (Nat.le_of_ble_eq_true rfl) (L := [(0, v)]) rfl ?_
  refine aw_iload_n dX7_isRoot_0 rfl rfl ?_
  refine aw_iconst dX7_isRoot_1 rfl ⟨by decide, by decide⟩ ?_
  refine aw_iconst dX7_isRoot_2 rfl ⟨by decide, by decide⟩ ?_
  refine aw_cS3p dX7_isRoot_3 ml_RX7_94 ⟨by decide, by decide, by decide, by decide⟩ (Nat.le_of_ble_eq_true rfl) (sp_isIn K M v 0 5) ?_
  exact aw_zret dX7_isRoot_6 (by split <;> omega) (by decide) (by decide) (qp_i rfl)
theorem sp_misWeak (K : az_K) (M : az_M) (v : Int) : AM yX7_isWeak cX7_isWeak 1 (some .boolean) 1 0 0 [(0, v)] K M (qp K M (if 0 ≤ v ∧ v ≤ 3 then 1 else 0)) := by
  refine am_of (by decide) (Nat.le_of_ble_eq_true rfl) (L := [(0, v)]) rfl ?_
  refine aw_iload_n dX7_isWeak_0 rfl rfl ?_
  refine aw_iconst dX7_isWeak_1 rfl ⟨by decide, by decide⟩ ?_
  refine aw_iconst dX7_isWeak_2 rfl ⟨by decide, by decide⟩ ?_
  refine aw_cS3p dX7_isWeak_3 ml_RX7_94 ⟨by decide, by decide, by decide, by decide⟩ (Nat.le_of_ble_eq_true rfl) (sp_isIn K M v 0 3) ?_
  exact aw_zret dX7_isWeak_6 (by split <;> omega) (by decide) (by decide) (qp_i rfl)
theorem sp_fieldAt (K : az_K) (M : az_M) (a f : Int) (h0 : -1000 ≤ a) (h1 : a ≤ 1000) (h2 : -1000 ≤ f) (h3 : f ≤ 1000) : AM yX7_fieldAt cX7_fieldAt 2 (some .int) 0 0 0 [(0, a), (0, f)] K M (qp K M (256 + a + 1 + f)) := by
  refine am_of (by decide) (Nat.le_of_ble_eq_true rfl) (L := [(0, a), (0, f)]) rfl ?_
  refine aw_sipush dX7_fieldAt_0 (by decide) ⟨by decide, by decide⟩ ?_
  refine aw_iload_n dX7_fieldAt_3 rfl rfl ?_
  refine aw_iadd dX7_fieldAt_4 (az_wr_id (by omega) (by omega)) ?_
  refine aw_iconst dX7_fieldAt_5 rfl ⟨by decide, by decide⟩ ?_
  refine aw_iadd dX7_fieldAt_6 (az_wr_id (by omega) (by omega)) ?_
  refine aw_iload_n dX7_fieldAt_7 rfl rfl ?_
  refine aw_iadd dX7_fieldAt_8 (az_wr_id (by omega) (by omega)) ?_
  exact aw_iret dX7_fieldAt_9 (by decide) (by decide) (qp_i rfl)
theorem sp_ringOf (K : az_K) (M : az_M) (s : Int) : AM yX7_ringOf cX7_ringOf 1 (some .int) 0 0 0 [(0, s)] K M (qp K M (if s = 2 then 0 else if s = 4 then 1 else 2)) := by
  refine am_of (by decide) (Nat.le_of_ble_eq_true rfl) (L := [(0, s)]) rfl ?_
  refine aw_iload_n dX7_ringOf_0 rfl rfl ?_
  refine aw_iconst dX7_ringOf_1 rfl ⟨by decide, by decide⟩ ?_
  refine aw_icmp_ne (tgt := 9) dX7_ringOf_2 rfl (fun h2 => ?_) (fun h2 => ?_)
  · refine aw_iload_n dX7_ringOf_9 rfl rfl ?_
    refine aw_iconst dX7_ringOf_10 rfl ⟨by decide, by decide⟩ ?_
    refine aw_icmp_ne (tgt := 18) dX7_ringOf_11 rfl (fun h11 => ?_) (fun h11 => ?_)
    · refine aw_iconst dX7_ringOf_18 rfl ⟨by decide, by decide⟩ ?_
      exact aw_iret dX7_ringOf_19 (by decide) (by decide) (qp_i (by split <;> (try split) <;> omega))
    · refine aw_iconst dX7_ringOf_14 rfl ⟨by decide, by decide⟩ ?_
      refine aw_goto (tgt := 19) dX7_ringOf_15 rfl ?_
      exact aw_iret dX7_ringOf_19 (by decide) (by decide) (qp_i (by split <;> (try split) <;> omega))
  · refine aw_iconst dX7_ringOf_5 rfl ⟨by decide, by decide⟩ ?_
    refine aw_goto (tgt := 19) dX7_ringOf_6 rfl ?_
    exact aw_iret dX7_ringOf_19 (by decide) (by decide) (qp_i (by split <;> (try split) <;> omega))
theorem sp_sizeOfRing (K : az_K) (M : az_M) (z : Int) (hz : z = 0 ∨ z = 1 ∨ z = 2) : AM yX7_sizeOfRing cX7_sizeOfRing 1 (some .int) 0 0 0 [(0, z)] K M (qp K M (if z = 0 then 2 else if z = 1 then 4 else 8)) := by
  refine am_of (by decide) (Nat.le_of_ble_eq_true rfl) (L := [(0, z)]) rfl ?_
  have v2 : az_shl 2 z = if z = 0 then 2 else if z = 1 then 4 else 8 := by rcases hz with rfl | rfl | rfl <;> rfl
  refine aw_iconst dX7_sizeOfRing_0 rfl ⟨by decide, by decide⟩ ?_
  refine aw_iload_n dX7_sizeOfRing_1 rfl rfl ?_
  refine aw_ishl dX7_sizeOfRing_2 v2 ?_
  exact aw_iret dX7_sizeOfRing_3 (by decide) (by decide) (qp_i rfl)
theorem sp_sizeFor (K : az_K) (M : az_M) (f : Int) : AM yX7_sizeFor cX7_sizeFor 1 (some .int) 0 0 0 [(0, f)] K M (qp K M (szF f)) := by
  refine am_of (by decide) (Nat.le_of_ble_eq_true rfl) (L := [(0, f)]) rfl ?_
  refine aw_iload_n dX7_sizeFor_0 rfl rfl ?_
  refine aw_iconst dX7_sizeFor_1 rfl ⟨by decide, by decide⟩ ?_
  refine aw_icmp_ge (tgt := 9) dX7_sizeFor_2 rfl (fun h2 => ?_) (fun h2 => ?_)
  · refine aw_iload_n dX7_sizeFor_9 rfl rfl ?_
    refine aw_iconst dX7_sizeFor_10 rfl ⟨by decide, by decide⟩ ?_
    refine aw_icmp_ge (tgt := 18) dX7_sizeFor_11 rfl (fun h11 => ?_) (fun h11 => ?_)
    · refine aw_bipush dX7_sizeFor_18 (by decide) ⟨by decide, by decide⟩ ?_
      exact aw_iret dX7_sizeFor_20 (by decide) (by decide) (qp_i (by unfold szF; split <;> (try split) <;> omega))
    · refine aw_iconst dX7_sizeFor_14 rfl ⟨by decide, by decide⟩ ?_
      refine aw_goto (tgt := 20) dX7_sizeFor_15 rfl ?_
      exact aw_iret dX7_sizeFor_20 (by decide) (by decide) (qp_i (by unfold szF; split <;> (try split) <;> omega))
  · refine aw_iconst dX7_sizeFor_5 rfl ⟨by decide, by decide⟩ ?_
    refine aw_goto (tgt := 20) dX7_sizeFor_6 rfl ?_
    exact aw_iret dX7_sizeFor_20 (by decide) (by decide) (qp_i (by unfold szF; split <;> (try split) <;> omega))
theorem sp_ringAt (K : az_K) (M : az_M) (z i : Int) (z0 : 0 ≤ z) (z1 : z < 3) (h2 : -1000 ≤ i) (h3 : i ≤ 1000) : AM yX7_ringAt cX7_ringAt 2 (some .int) 0 0 0 [(0, z), (0, i)] K M (qp K M (512 + 64 * z + i)) := by
  refine am_of (by decide) (Nat.le_of_ble_eq_true rfl) (L := [(0, z), (0, i)]) rfl ?_
  refine aw_sipush dX7_ringAt_0 (by decide) ⟨by decide, by decide⟩ ?_
  refine aw_bipush dX7_ringAt_3 (by decide) ⟨by decide, by decide⟩ ?_
  refine aw_iload_n dX7_ringAt_5 rfl rfl ?_
  refine aw_imul dX7_ringAt_6 (az_wr_id (by omega) (by omega)) ?_
  refine aw_iadd dX7_ringAt_7 (az_wr_id (by omega) (by omega)) ?_
  refine aw_iload_n dX7_ringAt_8 rfl rfl ?_
  refine aw_iadd dX7_ringAt_9 (az_wr_id (by omega) (by omega)) ?_
  exact aw_iret dX7_ringAt_10 (by decide) (by decide) (qp_i rfl)
theorem sp_runs {K : az_K} {m : Int} (hK : MaK K m) (M : az_M) : AM yX7_runs cX7_runs 1 (some .boolean) 0 0 0 [(1, m)] K M (qp K M (if M (m + 1) 726 = 1 then 1 else 0)) := by
  obtain ⟨km, k1, z0⟩ := hK
  refine am_of (by decide) (Nat.le_of_ble_eq_true rfl) (L := [(1, m)]) rfl ?_
  refine aw_aload_n dX7_runs_0 rfl rfl ⟨by decide, by decide⟩ ?_
  refine aw_gzF 0 dX7_runs_1 fl_RX7_7 (by assumption) rfl rfl (by assumption) ?_
  refine aw_sipush dX7_runs_4 (by decide) ⟨by decide, by decide⟩ ?_
  refine aw_iv dX7_runs_7 (by assumption) (by omega) (by omega) rfl ?_
  refine aw_iconst dX7_runs_8 rfl ⟨by decide, by decide⟩ ?_
  refine aw_icmp_ne (tgt := 16) dX7_runs_9 rfl (fun h9 => ?_) (fun h9 => ?_)
  · refine aw_iconst dX7_runs_16 rfl ⟨by decide, by decide⟩ ?_
    exact aw_zret dX7_runs_17 (by omega) (by decide) (by decide) (qp_i (by split <;> omega))
  · refine aw_iconst dX7_runs_12 rfl ⟨by decide, by decide⟩ ?_
    refine aw_goto (tgt := 17) dX7_runs_13 rfl ?_
    exact aw_zret dX7_runs_17 (by omega) (by decide) (by decide) (qp_i (by split <;> omega))
theorem sp_colourOf {K : az_K} {m : Int} (hK : MaK K m) (M : az_M) (a : Int) (a0 : 0 ≤ a) (a1 : a < 790) : AM yX7_colourOf cX7_colourOf 2 (some .int) 0 0 0 [(1, m), (0, a)] K M (qp K M (M (m + 1) a)) := by
  obtain ⟨km, k1, z0⟩ := hK
  refine am_of (by decide) (Nat.le_of_ble_eq_true rfl) (L := [(1, m), (0, a)]) rfl ?_
  refine aw_aload_n dX7_colourOf_0 rfl rfl ⟨by decide, by decide⟩ ?_
  refine aw_gzF 0 dX7_colourOf_1 fl_RX7_7 (by assumption) rfl rfl (by assumption) ?_
  refine aw_iconst dX7_colourOf_4 rfl ⟨by decide, by decide⟩ ?_
  refine aw_iload_n dX7_colourOf_5 rfl rfl ?_
  refine aw_iadd dX7_colourOf_6 (az_wr_id (by omega) (by omega)) ?_
  refine aw_iv dX7_colourOf_7 (by assumption) (by omega) (by omega) rfl ?_
  exact aw_iret dX7_colourOf_8 (by decide) (by decide) (qp_i (by rw [Int.zero_add]))
theorem sp_longOf {K : az_K} {m : Int} (hK : MaK K m) (M : az_M) (z : Int) (z0 : 0 ≤ z) (z1 : z < 3) : AM yX7_longOf cX7_longOf 2 (some .int) 0 0 0 [(1, m), (0, z)] K M (qp K M (M (m + 1) (704 + z))) := by
  obtain ⟨km, k1, z0⟩ := hK
  refine am_of (by decide) (Nat.le_of_ble_eq_true rfl) (L := [(1, m), (0, z)]) rfl ?_
  refine aw_aload_n dX7_longOf_0 rfl rfl ⟨by decide, by decide⟩ ?_
  refine aw_gzF 0 dX7_longOf_1 fl_RX7_7 (by assumption) rfl rfl (by assumption) ?_
  refine aw_sipush dX7_longOf_4 (by decide) ⟨by decide, by decide⟩ ?_
  refine aw_iload_n dX7_longOf_7 rfl rfl ?_
  refine aw_iadd dX7_longOf_8 (az_wr_id (by omega) (by omega)) ?_
  refine aw_iv dX7_longOf_9 (by assumption) (by omega) (by omega) rfl ?_
  exact aw_iret dX7_longOf_10 (by decide) (by decide) (qp_i rfl)
theorem pz_big {g : Int → Int} (hp : w_pg g) {a : Int} (a0 : 0 ≤ a) (a1 : a < 128) (h : g 725 ≤ a / 16) : pz g a = 0 := (hp.2.2 (a / 16) (by omega) (by omega)).2 h
theorem sp_msizeAt {K : az_K} {m : Int} (hK : MaK K m) (M : az_M) {g : Int → Int} (hp : w_pg g) (hF : mAll (M (m + 1)) g) (a : Int) : AM yX7_sizeAt cX7_sizeAt 2 (some .int) 1 0 0 [(1, m), (0, a)] K M (qp K M (if 0 ≤ a ∧ a < 128 then pz g a else 0)) := by
  obtain ⟨km, k1, z0⟩ := hK
  refine am_of (by decide) (Nat.le_of_ble_eq_true rfl) (L := [(1, m), (0, a)]) rfl ?_
  have v21 : M (m + 1) 725 = g 725 := hF 725 (by omega) (by omega) (by omega) (by omega)
  have p8 := hp.2.1
  refine aw_iload_n dX7_sizeAt_0 rfl rfl ?_
  refine aw_iconst dX7_sizeAt_1 rfl ⟨by decide, by decide⟩ ?_
  refine aw_bipush dX7_sizeAt_2 (by decide) ⟨by decide, by decide⟩ ?_
  refine aw_cS3p dX7_sizeAt_4 ml_RX7_94 ⟨by decide, by decide, by decide, by decide⟩ (Nat.le_of_ble_eq_true rfl) (sp_isIn K M a 0 127) ?_
  refine aw_if_eq (tgt := 41) dX7_sizeAt_7 rfl (fun h7 => ?_) (fun h7 => ?_)
  · refine aw_iconst dX7_sizeAt_41 rfl ⟨by decide, by decide⟩ ?_
    refine aw_iret dX7_sizeAt_42 (by decide) (by decide) (qp_i ?_)
    have : ¬ (0 ≤ a ∧ a ≤ 127) := fun q => by rw [if_pos q] at h7; omega
    rw [if_neg (by omega)]
  · have ha : 0 ≤ a ∧ a ≤ 127 := by
      apply Classical.byContradiction
      intro q
      rw [if_neg q] at h7
      exact h7 rfl
    have v37 : M (m + 1) (707 + a / 16) = pz g a := hF (707 + a / 16) (by omega) (by omega) (by omega) (by omega)
    refine aw_iload_n dX7_sizeAt_10 rfl rfl ?_
    refine aw_bipush dX7_sizeAt_11 (by decide) ⟨by decide, by decide⟩ ?_
    refine aw_idiv dX7_sizeAt_13 (by omega) (by omega) ?_
    refine aw_aload_n dX7_sizeAt_14 rfl rfl ⟨by decide, by decide⟩ ?_
    refine aw_gzF 0 dX7_sizeAt_15 fl_RX7_7 (by assumption) rfl rfl (by assumption) ?_
    refine aw_sipush dX7_sizeAt_18 (by decide) ⟨by decide, by decide⟩ ?_
    refine aw_iv dX7_sizeAt_21 (by assumption) (by omega) (by omega) v21 ?_
    refine aw_icmp_ge (tgt := 41) dX7_sizeAt_22 rfl (fun h22 => ?_) (fun h22 => ?_)
    · refine aw_iconst dX7_sizeAt_41 rfl ⟨by decide, by decide⟩ ?_
      refine aw_iret dX7_sizeAt_42 (by decide) (by decide) (qp_i ?_)
      rw [if_pos (by omega), pz_big hp ha.1 (by omega) h22]
    · refine aw_aload_n dX7_sizeAt_25 rfl rfl ⟨by decide, by decide⟩ ?_
      refine aw_gzF 0 dX7_sizeAt_26 fl_RX7_7 (by assumption) rfl rfl (by assumption) ?_
      refine aw_sipush dX7_sizeAt_29 (by decide) ⟨by decide, by decide⟩ ?_
      refine aw_iload_n dX7_sizeAt_32 rfl rfl ?_
      refine aw_bipush dX7_sizeAt_33 (by decide) ⟨by decide, by decide⟩ ?_
      refine aw_idiv dX7_sizeAt_35 (by omega) (by omega) ?_
      refine aw_iadd dX7_sizeAt_36 (az_wr_id (by omega) (by omega)) ?_
      refine aw_iv dX7_sizeAt_37 (by assumption) (by omega) (by omega) v37 ?_
      refine aw_goto (tgt := 42) dX7_sizeAt_38 rfl ?_
      refine aw_iret dX7_sizeAt_42 (by decide) (by decide) (qp_i ?_)
      rw [if_pos (by omega)]
theorem sp_misSlot {K : az_K} {m : Int} (hK : MaK K m) (M : az_M) {g : Int → Int} (hp : w_pg g) (hF : mAll (M (m + 1)) g) (a : Int) : AM yX7_isSlot cX7_isSlot 2 (some .boolean) 2 0 0 [(1, m), (0, a)] K M (qp K M (if slD g a then 1 else 0)) := by
  have hK0 := hK
  obtain ⟨km, k1, z0⟩ := hK
  refine am_of (by decide) (Nat.le_of_ble_eq_true rfl) (L := [(1, m), (0, a)]) rfl ?_
  refine aw_aload_n dX7_isSlot_0 rfl rfl ⟨by decide, by decide⟩ ?_
  refine aw_iload_n dX7_isSlot_1 rfl rfl ?_
  refine aw_cV1p dX7_isSlot_2 ml_RX7_98 (by assumption) (by decide) rfl rfl ⟨by decide, by decide, by decide, by decide⟩ (Nat.le_of_ble_eq_true rfl) (sp_msizeAt hK0 M hp hF a) ?_
  refine aw_if_le (tgt := 22) dX7_isSlot_5 rfl (fun h5 => ?_) (fun h5 => ?_)
  · refine aw_iconst dX7_isSlot_22 rfl ⟨by decide, by decide⟩ ?_
    refine aw_zret dX7_isSlot_23 (by omega) (by decide) (by decide) (qp_i ?_)
    rw [if_neg]
    rintro ⟨q0, q1, q2, q3⟩
    rw [if_pos ⟨q0, q1⟩] at h5
    rcases pz_in hp q0 q1 with e | e | e | e <;> omega
  · have ha : 0 ≤ a ∧ a < 128 := by
      apply Classical.byContradiction
      intro q
      rw [if_neg q] at h5
      omega
    rw [if_pos ha] at h5
    have hz : (if 0 ≤ a ∧ a < 128 then pz g a else 0) = pz g a := if_pos ha
    have hpz := pz_in hp ha.1 ha.2
    refine aw_iload_n dX7_isSlot_8 rfl rfl ?_
    refine aw_aload_n dX7_isSlot_9 rfl rfl ⟨by decide, by decide⟩ ?_
    refine aw_iload_n dX7_isSlot_10 rfl rfl ?_
    refine aw_cV1p dX7_isSlot_11 ml_RX7_98 (by assumption) (by decide) rfl rfl ⟨by decide, by decide, by decide, by decide⟩ (Nat.le_of_ble_eq_true rfl) (qp_c (sp_msizeAt hK0 M hp hF a) hz) ?_
    refine aw_irem dX7_isSlot_14 (by omega) (by omega) ?_
    refine aw_if_ne (tgt := 22) dX7_isSlot_15 rfl (fun h15 => ?_) (fun h15 => ?_)
    · refine aw_iconst dX7_isSlot_22 rfl ⟨by decide, by decide⟩ ?_
      refine aw_zret dX7_isSlot_23 (by omega) (by decide) (by decide) (qp_i ?_)
      rw [if_neg]
      rintro ⟨q0, q1, q2, q3⟩
      rcases hpz with e | e | e | e <;> rw [e] at h15 q3 <;> omega
    · refine aw_iconst dX7_isSlot_18 rfl ⟨by decide, by decide⟩ ?_
      refine aw_goto (tgt := 23) dX7_isSlot_19 rfl ?_
      refine aw_zret dX7_isSlot_23 (by omega) (by decide) (by decide) (qp_i ?_)
      rw [if_pos]
      refine ⟨ha.1, ha.2, by omega, ?_⟩
      rcases hpz with e | e | e | e <;> rw [e] at h15 ⊢ <;> omega
theorem sp_misObject {K : az_K} {m : Int} (hK : MaK K m) (M : az_M) {g : Int → Int} (hp : w_pg g) (hF : mAll (M (m + 1)) g) (a : Int) : AM yX7_isObject cX7_isObject 2 (some .boolean) 3 0 0 [(1, m), (0, a)] K M (qp K M (if obD g a then 1 else 0)) := by
  have hK0 := hK
  obtain ⟨km, k1, z0⟩ := hK
  refine am_of (by decide) (Nat.le_of_ble_eq_true rfl) (L := [(1, m), (0, a)]) rfl ?_
  refine aw_aload_n dX7_isObject_0 rfl rfl ⟨by decide, by decide⟩ ?_
  refine aw_iload_n dX7_isObject_1 rfl rfl ?_
  refine aw_cV1p dX7_isObject_2 ml_RX7_102 (by assumption) (by decide) rfl rfl ⟨by decide, by decide, by decide, by decide⟩ (Nat.le_of_ble_eq_true rfl) (sp_misSlot hK0 M hp hF a) ?_
  refine aw_if_eq (tgt := 20) dX7_isObject_5 rfl (fun h5 => ?_) (fun h5 => ?_)
  · refine aw_iconst dX7_isObject_20 rfl ⟨by decide, by decide⟩ ?_
    refine aw_zret dX7_isObject_21 (by omega) (by decide) (by decide) (qp_i ?_)
    rw [if_neg]
    intro q
    rw [if_pos q.1] at h5
    omega
  · have hs : sl g a := if1 h5
    have hv : M (m + 1) a = g a := hF a hs.1 (by have := hs.2.1; omega) (by have := hs.2.1; omega) (by have := hs.2.1; omega)
    refine aw_aload_n dX7_isObject_8 rfl rfl ⟨by decide, by decide⟩ ?_
    refine aw_iload_n dX7_isObject_9 rfl rfl ?_
    refine aw_cV1p dX7_isObject_10 ml_RX7_106 (by assumption) (by decide) rfl rfl ⟨by decide, by decide, by decide, by decide⟩ (Nat.le_of_ble_eq_true rfl) (qp_c (sp_colourOf hK0 M a hs.1 (by have := hs.2.1; omega)) hv) ?_
    refine aw_if_eq (tgt := 20) dX7_isObject_13 rfl (fun h13 => ?_) (fun h13 => ?_)
    · refine aw_iconst dX7_isObject_20 rfl ⟨by decide, by decide⟩ ?_
      refine aw_zret dX7_isObject_21 (by omega) (by decide) (by decide) (qp_i ?_)
      rw [if_neg (fun q => q.2 h13)]
    · refine aw_iconst dX7_isObject_16 rfl ⟨by decide, by decide⟩ ?_
      refine aw_goto (tgt := 21) dX7_isObject_17 rfl ?_
      refine aw_zret dX7_isObject_21 (by omega) (by decide) (by decide) (qp_i ?_)
      rw [if_pos ⟨hs, h13⟩]
theorem sp_hasField {K : az_K} {m : Int} (hK : MaK K m) (M : az_M) {g : Int → Int} {rg : Int → List Int} {gl : List Int} (hw : WF0 g rg gl) (hF : mAll (M (m + 1)) g) (a f : Int) : AM yX7_hasField cX7_hasField 3 (some .boolean) 4 0 0 [(1, m), (0, a), (0, f)] K M (qp K M (if obD g a ∧ 0 ≤ f ∧ f < g (128 + a) then 1 else 0)) := by
  have hK0 := hK
  obtain ⟨km, k1, z0⟩ := hK
  refine am_of (by decide) (Nat.le_of_ble_eq_true rfl) (L := [(1, m), (0, a), (0, f)]) rfl ?_
  refine aw_aload_n dX7_hasField_0 rfl rfl ⟨by decide, by decide⟩ ?_
  refine aw_iload_n dX7_hasField_1 rfl rfl ?_
  refine aw_cV1p dX7_hasField_2 ml_RX7_109 (by assumption) (by decide) rfl rfl ⟨by decide, by decide, by decide, by decide⟩ (Nat.le_of_ble_eq_true rfl) (sp_misObject hK0 M hw.1 hF a) ?_
  refine aw_if_eq (tgt := 32) dX7_hasField_5 rfl (fun h5 => ?_) (fun h5 => ?_)
  · refine aw_iconst dX7_hasField_32 rfl ⟨by decide, by decide⟩ ?_
    refine aw_zret dX7_hasField_33 (by omega) (by decide) (by decide) (qp_i ?_)
    rw [if_neg]
    intro q
    rw [if_pos q.1] at h5
    omega
  · have hs : ob g a := if1 h5
    have a0 := hs.1.1
    have a1 := hs.1.2.1
    have hfl := (hw.2.2.2.1 a hs.1).2 hs.2
    have hpz := (sl_even hw.1 hs.1).2.2.1
    have hv : M (m + 1) (128 + a) = g (128 + a) := hF (128 + a) (by omega) (by omega) (by omega) (by omega)
    refine aw_iload_n dX7_hasField_8 rfl rfl ?_
    refine aw_iconst dX7_hasField_9 rfl ⟨by decide, by decide⟩ ?_
    refine aw_aload_n dX7_hasField_10 rfl rfl ⟨by decide, by decide⟩ ?_
    refine aw_gzF 0 dX7_hasField_11 fl_RX7_7 (by assumption) rfl rfl (by assumption) ?_
    refine aw_sipush dX7_hasField_14 (by decide) ⟨by decide, by decide⟩ ?_
    refine aw_iload_n dX7_hasField_17 rfl rfl ?_
    refine aw_iadd dX7_hasField_18 (az_wr_id (by omega) (by omega)) ?_
    refine aw_iv dX7_hasField_19 (by assumption) (by omega) (by omega) hv ?_
    refine aw_iconst dX7_hasField_20 rfl ⟨by decide, by decide⟩ ?_
    refine aw_isub dX7_hasField_21 (az_wr_id (by omega) (by omega)) ?_
    refine aw_cS3p dX7_hasField_22 ml_RX7_94 ⟨by decide, by decide, by decide, by decide⟩ (Nat.le_of_ble_eq_true rfl) (sp_isIn K M f 0 (g (128 + a) - 1)) ?_
    refine aw_if_eq (tgt := 32) dX7_hasField_25 rfl (fun h25 => ?_) (fun h25 => ?_)
    · refine aw_iconst dX7_hasField_32 rfl ⟨by decide, by decide⟩ ?_
      refine aw_zret dX7_hasField_33 (by omega) (by decide) (by decide) (qp_i ?_)
      rw [if_neg]
      intro q
      rw [if_pos ⟨q.2.1, by omega⟩] at h25
      omega
    · have hf : 0 ≤ f ∧ f ≤ g (128 + a) - 1 := by
        apply Classical.byContradiction
        intro q
        rw [if_neg q] at h25
        exact h25 rfl
      refine aw_iconst dX7_hasField_28 rfl ⟨by decide, by decide⟩ ?_
      refine aw_goto (tgt := 33) dX7_hasField_29 rfl ?_
      refine aw_zret dX7_hasField_33 (by omega) (by decide) (by decide) (qp_i ?_)
      rw [if_pos ⟨hs, by omega, by omega⟩]
