/-! TreadRingModel: canLoad, goLoad, canStore, goStore -/
set_option maxRecDepth 20000
/-- a truth as an int -/
def tv (z : Int) (p : Prop) : Prop := z = 1 ∧ p ∨ z = 0 ∧ ¬ p
theorem tv1 {z : Int} {p : Prop} (h : tv z p) (q : z ≠ 0) : p := by
  rcases h with h | h
  · exact h.2
  · exact absurd h.1 q
theorem tv0 {z : Int} {p : Prop} (h : tv z p) (q : z = 0) : ¬ p := by
  rcases h with h | h
  · omega
  · exact h.2
theorem tv01 {z : Int} {p : Prop} (h : tv z p) : z = 0 ∨ z = 1 := by
  rcases h with h | h
  · exact Or.inr h.1
  · exact Or.inl h.1
theorem tv.t {p : Prop} (h : p) : tv 1 p := Or.inl ⟨rfl, h⟩
theorem tv.f {p : Prop} (h : ¬ p) : tv 0 p := Or.inr ⟨rfl, h⟩
theorem tv_eq {y z : Int} {p q : Prop} (h1 : tv y p) (h2 : tv z q) (h : p ↔ q) : y = z := by
  rcases h1 with ⟨a, b⟩ | ⟨a, b⟩ <;> rcases h2 with ⟨c, d⟩ | ⟨c, d⟩
  · omega
  · exact absurd (h.mp b) d
  · exact absurd (h.mpr d) b
  · omega
theorem sp_canLoad {K : az_K} {m : Int} (hK : MaK K m) (M : az_M) {S : hSt} (hc : HM M m S) (hw : WL S) (r o f : Int) : AM yX7_canLoad cX7_canLoad 4 (some .boolean) 5 0 0 [(1, m), (0, r), (0, o), (0, f)] K M (qi K (fun z M' => tv z ((0 ≤ r ∧ r < 6) ∧ (0 ≤ o ∧ o < 6) ∧ hasF S (S.1 (715 + o)) f) ∧ M' = M)) := by
  have hK0 := hK
  obtain ⟨km, k1, zz⟩ := hK
  refine am_of (by decide) (Nat.le_of_ble_eq_true rfl) (L := [(1, m), (0, r), (0, o), (0, f)]) rfl ?_
  have no : ∀ {x : List az_V}, ¬ ((0 ≤ r ∧ r < 6) ∧ (0 ≤ o ∧ o < 6) ∧ hasF S (S.1 (715 + o)) f) → AW az_P0 (az_Z (qi K (fun z M' => tv z ((0 ≤ r ∧ r < 6) ∧ (0 ≤ o ∧ o < 6) ∧ hasF S (S.1 (715 + o)) f) ∧ M' = M)) 0 0) (az_rm 5 0 0) yX7_canLoad cX7_canLoad 4 (some .boolean) 0 0 49 x [] K M := by
    intro x h
    refine aw_iconst dX7_canLoad_49 rfl ⟨by decide, by decide⟩ ?_
    exact aw_zret dX7_canLoad_50 (by omega) (by decide) (by decide) ⟨_, rfl, rfl, tv.f h, rfl⟩
  refine aw_iload_n dX7_canLoad_0 rfl rfl ?_
  refine aw_cS1p dX7_canLoad_1 ml_RX7_216 ⟨by decide, by decide, by decide, by decide⟩ (Nat.le_of_ble_eq_true rfl) (sp_misRoot K M r) ?_
  refine aw_if_eq (tgt := 49) dX7_canLoad_4 rfl (fun h4 => ?_) (fun h4 => ?_)
  · exact no (fun q => if0 h4 (by omega))
  · have hr := if1 h4
    refine aw_iload_n dX7_canLoad_7 rfl rfl ?_
    refine aw_cS1p dX7_canLoad_8 ml_RX7_216 ⟨by decide, by decide, by decide, by decide⟩ (Nat.le_of_ble_eq_true rfl) (sp_misRoot K M o) ?_
    refine aw_if_eq (tgt := 49) dX7_canLoad_11 rfl (fun h11 => ?_) (fun h11 => ?_)
    · exact no (fun q => if0 h11 (by omega))
    · have ho := if1 h11
      have v : M (m + 1) (715 + o) = S.1 (715 + o) := hc.1 _ (by omega) (by omega) (by omega) (by omega)
      refine aw_aload_n dX7_canLoad_14 rfl rfl ⟨by decide, by decide⟩ ?_
      refine aw_gzF 0 dX7_canLoad_15 fl_RX7_7 (by assumption) rfl rfl (by assumption) ?_
      refine aw_sipush dX7_canLoad_18 (by decide) ⟨by decide, by decide⟩ ?_
      refine aw_iload_n dX7_canLoad_21 rfl rfl ?_
      refine aw_iadd dX7_canLoad_22 (az_wr_id (by omega) (by omega)) ?_
      refine aw_iv dX7_canLoad_23 (by assumption) (by omega) (by omega) v ?_
      refine aw_if_lt (tgt := 49) dX7_canLoad_24 rfl (fun h24 => ?_) (fun h24 => ?_)
      · exact no (fun q => by have := q.2.2.1; omega)
      · have hob : ob S.1 (S.1 (715 + o)) := by
          rcases nam_nok hw (x := 715 + o) (by omega) (by omega) with q | q
          · omega
          · exact q
        refine aw_aload_n dX7_canLoad_27 rfl rfl ⟨by decide, by decide⟩ ?_
        refine aw_aload_n dX7_canLoad_28 rfl rfl ⟨by decide, by decide⟩ ?_
        refine aw_gzF 0 dX7_canLoad_29 fl_RX7_7 (by assumption) rfl rfl (by assumption) ?_
        refine aw_sipush dX7_canLoad_32 (by decide) ⟨by decide, by decide⟩ ?_
        refine aw_iload_n dX7_canLoad_35 rfl rfl ?_
        refine aw_iadd dX7_canLoad_36 (az_wr_id (by omega) (by omega)) ?_
        refine aw_iv dX7_canLoad_37 (by assumption) (by omega) (by omega) v ?_
        refine aw_iload_n dX7_canLoad_38 rfl rfl ?_
        refine aw_cV2p dX7_canLoad_39 ml_RX7_225 (by assumption) (by decide) rfl rfl ⟨by decide, by decide, by decide, by decide⟩ (Nat.le_of_ble_eq_true rfl) (sp_hasField hK0 M hw.1 hc.1 (S.1 (715 + o)) f) ?_
        refine aw_if_eq (tgt := 49) dX7_canLoad_42 rfl (fun h42 => ?_) (fun h42 => ?_)
        · exact no (fun q => if0 h42 ⟨hob, q.2.2.2⟩)
        · refine aw_iconst dX7_canLoad_45 rfl ⟨by decide, by decide⟩ ?_
          refine aw_goto (tgt := 50) dX7_canLoad_46 rfl ?_
          exact aw_zret dX7_canLoad_50 (by omega) (by decide) (by decide) ⟨_, rfl, rfl, tv.t ⟨by omega, by omega, by omega, (if1 h42).2⟩, rfl⟩
theorem sp_misRootOrNone (K : az_K) (M : az_M) (r : Int) : AM yX7_isRootOrNone cX7_isRootOrNone 1 (some .boolean) 2 0 0 [(0, r)] K M (qp K M (if r = -1 ∨ 0 ≤ r ∧ r < 6 then 1 else 0)) := by
  refine am_of (by decide) (Nat.le_of_ble_eq_true rfl) (L := [(0, r)]) rfl ?_
  refine aw_iload_n dX7_isRootOrNone_0 rfl rfl ?_
  refine aw_iconst dX7_isRootOrNone_1 rfl ⟨by decide, by decide⟩ ?_
  refine aw_icmp_eq (tgt := 12) dX7_isRootOrNone_2 rfl (fun h2 => ?_) (fun h2 => ?_)
  · refine aw_iconst dX7_isRootOrNone_12 rfl ⟨by decide, by decide⟩ ?_
    refine aw_goto (tgt := 17) dX7_isRootOrNone_13 rfl ?_
    exact aw_zret dX7_isRootOrNone_17 (by omega) (by decide) (by decide) (qp_i (by omega))
  · refine aw_iload_n dX7_isRootOrNone_5 rfl rfl ?_
    refine aw_cS1p dX7_isRootOrNone_6 ml_RX7_216 ⟨by decide, by decide, by decide, by decide⟩ (Nat.le_of_ble_eq_true rfl) (sp_misRoot K M r) ?_
    refine aw_if_eq (tgt := 16) dX7_isRootOrNone_9 rfl (fun h9 => ?_) (fun h9 => ?_)
    · refine aw_iconst dX7_isRootOrNone_16 rfl ⟨by decide, by decide⟩ ?_
      exact aw_zret dX7_isRootOrNone_17 (by omega) (by decide) (by decide) (qp_i (by omega))
    · refine aw_iconst dX7_isRootOrNone_12 rfl ⟨by decide, by decide⟩ ?_
      refine aw_goto (tgt := 17) dX7_isRootOrNone_13 rfl ?_
      exact aw_zret dX7_isRootOrNone_17 (by omega) (by decide) (by decide) (qp_i (by omega))
theorem sp_named {K : az_K} {m : Int} (hK : MaK K m) (M : az_M) {S : hSt} (hc : HM M m S) (o : Int) (ho : o = -1 ∨ 0 ≤ o ∧ o < 6) : AM yX7_named cX7_named 2 (some .int) 0 0 0 [(1, m), (0, o)] K M (qp K M (namV S o)) := by
  obtain ⟨km, k1, zz⟩ := hK
  refine am_of (by decide) (Nat.le_of_ble_eq_true rfl) (L := [(1, m), (0, o)]) rfl ?_
  refine aw_iload_n dX7_named_0 rfl rfl ?_
  refine aw_if_ge (tgt := 8) dX7_named_1 rfl (fun h1 => ?_) (fun h1 => ?_)
  · have v : M (m + 1) (715 + o) = S.1 (715 + o) := hc.1 _ (by omega) (by omega) (by omega) (by omega)
    refine aw_aload_n dX7_named_8 rfl rfl ⟨by decide, by decide⟩ ?_
    refine aw_gzF 0 dX7_named_9 fl_RX7_7 (by assumption) rfl rfl (by assumption) ?_
    refine aw_sipush dX7_named_12 (by decide) ⟨by decide, by decide⟩ ?_
    refine aw_iload_n dX7_named_15 rfl rfl ?_
    refine aw_iadd dX7_named_16 (az_wr_id (by omega) (by omega)) ?_
    refine aw_iv dX7_named_17 (by assumption) (by omega) (by omega) v ?_
    exact aw_iret dX7_named_18 (by decide) (by decide) (qp_i (by unfold namV; rw [if_neg (by omega)]))
  · refine aw_iconst dX7_named_4 rfl ⟨by decide, by decide⟩ ?_
    refine aw_goto (tgt := 18) dX7_named_5 rfl ?_
    exact aw_iret dX7_named_18 (by decide) (by decide) (qp_i (by unfold namV; rw [if_pos (by omega)]))
theorem sp_canStore {K : az_K} {m : Int} (hK : MaK K m) (M : az_M) {S : hSt} (hc : HM M m S) (hw : WL S) (r f o : Int) : AM yX7_canStore cX7_canStore 4 (some .boolean) 5 0 0 [(1, m), (0, r), (0, f), (0, o)] K M (qi K (fun z M' => tv z ((0 ≤ r ∧ r < 6) ∧ (o = -1 ∨ 0 ≤ o ∧ o < 6) ∧ hasF S (S.1 (715 + r)) f) ∧ M' = M)) := by
  have hK0 := hK
  obtain ⟨km, k1, zz⟩ := hK
  refine am_of (by decide) (Nat.le_of_ble_eq_true rfl) (L := [(1, m), (0, r), (0, f), (0, o)]) rfl ?_
  have no : ∀ {x : List az_V}, ¬ ((0 ≤ r ∧ r < 6) ∧ (o = -1 ∨ 0 ≤ o ∧ o < 6) ∧ hasF S (S.1 (715 + r)) f) → AW az_P0 (az_Z (qi K (fun z M' => tv z ((0 ≤ r ∧ r < 6) ∧ (o = -1 ∨ 0 ≤ o ∧ o < 6) ∧ hasF S (S.1 (715 + r)) f) ∧ M' = M)) 0 0) (az_rm 5 0 0) yX7_canStore cX7_canStore 4 (some .boolean) 0 0 49 x [] K M := by
    intro x h
    refine aw_iconst dX7_canStore_49 rfl ⟨by decide, by decide⟩ ?_
    exact aw_zret dX7_canStore_50 (by omega) (by decide) (by decide) ⟨_, rfl, rfl, tv.f h, rfl⟩
  refine aw_iload_n dX7_canStore_0 rfl rfl ?_
  refine aw_cS1p dX7_canStore_1 ml_RX7_216 ⟨by decide, by decide, by decide, by decide⟩ (Nat.le_of_ble_eq_true rfl) (sp_misRoot K M r) ?_
  refine aw_if_eq (tgt := 49) dX7_canStore_4 rfl (fun h4 => ?_) (fun h4 => ?_)
  · exact no (fun q => if0 h4 (by omega))
  · have hr := if1 h4
    refine aw_iload_n dX7_canStore_7 rfl rfl ?_
    refine aw_cS1p dX7_canStore_8 ml_RX7_235 ⟨by decide, by decide, by decide, by decide⟩ (Nat.le_of_ble_eq_true rfl) (sp_misRootOrNone K M o) ?_
    refine aw_if_eq (tgt := 49) dX7_canStore_11 rfl (fun h11 => ?_) (fun h11 => ?_)
    · exact no (fun q => if0 h11 q.2.1)
    · have ho := if1 h11
      have v : M (m + 1) (715 + r) = S.1 (715 + r) := hc.1 _ (by omega) (by omega) (by omega) (by omega)
      refine aw_aload_n dX7_canStore_14 rfl rfl ⟨by decide, by decide⟩ ?_
      refine aw_gzF 0 dX7_canStore_15 fl_RX7_7 (by assumption) rfl rfl (by assumption) ?_
      refine aw_sipush dX7_canStore_18 (by decide) ⟨by decide, by decide⟩ ?_
      refine aw_iload_n dX7_canStore_21 rfl rfl ?_
      refine aw_iadd dX7_canStore_22 (az_wr_id (by omega) (by omega)) ?_
      refine aw_iv dX7_canStore_23 (by assumption) (by omega) (by omega) v ?_
      refine aw_if_lt (tgt := 49) dX7_canStore_24 rfl (fun h24 => ?_) (fun h24 => ?_)
      · exact no (fun q => by have := q.2.2.1; omega)
      · have hob : ob S.1 (S.1 (715 + r)) := by
          rcases nam_nok hw (x := 715 + r) (by omega) (by omega) with q | q
          · omega
          · exact q
        refine aw_aload_n dX7_canStore_27 rfl rfl ⟨by decide, by decide⟩ ?_
        refine aw_aload_n dX7_canStore_28 rfl rfl ⟨by decide, by decide⟩ ?_
        refine aw_gzF 0 dX7_canStore_29 fl_RX7_7 (by assumption) rfl rfl (by assumption) ?_
        refine aw_sipush dX7_canStore_32 (by decide) ⟨by decide, by decide⟩ ?_
        refine aw_iload_n dX7_canStore_35 rfl rfl ?_
        refine aw_iadd dX7_canStore_36 (az_wr_id (by omega) (by omega)) ?_
        refine aw_iv dX7_canStore_37 (by assumption) (by omega) (by omega) v ?_
        refine aw_iload_n dX7_canStore_38 rfl rfl ?_
        refine aw_cV2p dX7_canStore_39 ml_RX7_225 (by assumption) (by decide) rfl rfl ⟨by decide, by decide, by decide, by decide⟩ (Nat.le_of_ble_eq_true rfl) (sp_hasField hK0 M hw.1 hc.1 (S.1 (715 + r)) f) ?_
        refine aw_if_eq (tgt := 49) dX7_canStore_42 rfl (fun h42 => ?_) (fun h42 => ?_)
        · exact no (fun q => if0 h42 ⟨hob, q.2.2.2⟩)
        · refine aw_iconst dX7_canStore_45 rfl ⟨by decide, by decide⟩ ?_
          refine aw_goto (tgt := 50) dX7_canStore_46 rfl ?_
          exact aw_zret dX7_canStore_50 (by omega) (by decide) (by decide) ⟨_, rfl, rfl, tv.t ⟨by omega, ho, by omega, (if1 h42).2⟩, rfl⟩
theorem HM_name {M : az_M} {m x v : Int} {S : hSt} (h : HM M m S) (hw : WS S) (hx : 0 ≤ x ∧ x < 384 ∨ 707 ≤ x ∧ x < 725) : HM (az_up M (m + 1) x v) m (nameS S x v) := HM_up h hw (by omega) (by omega) (by omega) (by omega)
theorem sp_goLoad {K : az_K} {m : Int} (hK : MoK K m) (M : az_M) {S : hSt} (hc : HM M m S) (hw : WL S) (hcy : S.1 729 ≤ 20000000) (r o f : Int) (r0 : 0 ≤ r) (r1 : r < 6) (o0 : 0 ≤ o) (o1 : o < 6) (hh : hasF S (S.1 (715 + o)) f) : AM yX7_goLoad cX7_goLoad 5 (some .int) 4 0 0 [(1, m), (0, r), (0, o), (0, f)] K M (qi K (fun z M' => z = fetV S o f ∧ HM M' m (fetS S r o f) ∧ frM M M' m)) := by
  have hK0 := hK
  obtain ⟨hKa, k2, z1⟩ := hK
  have hKa0 := hKa
  obtain ⟨km, k1, zz⟩ := hKa
  refine am_of (by decide) (Nat.le_of_ble_eq_true rfl) (L := [(1, m), (0, r), (0, o), (0, f), (9, 0)]) rfl ?_
  have hob := has_ob hw o0 o1 hh
  obtain ⟨i1, i2, i3⟩ := has_in hw o0 o1 hh
  have b0 := hob.1.1
  have b1 := hob.1.2.1
  have f0 := hh.2.1
  have v13 : M (m + 1) (715 + o) = S.1 (715 + o) := hc.1 _ (by omega) (by omega) (by omega) (by omega)
  have v18 : M (m + 1) (256 + S.1 (715 + o) + 1 + f) = fetV S o f := hc.1 _ (by omega) (by omega) (by omega) (by omega)
  have hw1 := nameS_wl hw (x := 715 + r) (v := fetV S o f) (by omega) i3
  have hn : nok (nameS S (715 + r) (fetV S o f)).1 (fetV S o f) := (nok_gu (by omega) (by omega)).mpr i3
  have h1 := HM_name (v := fetV S o f) hc hw.1 (x := 715 + r) (by omega)
  have e7 : (nameS S (715 + r) (fetV S o f)).1 729 = S.1 729 := gu_n _ _ (by omega)
  have e8 : (nameS S (715 + r) (fetV S o f)).1 735 = S.1 735 := gu_n _ _ (by omega)
  have e9 : (nameS S (715 + r) (fetV S o f)).1 726 = S.1 726 := gu_n _ _ (by omega)
  have hfe : fetS S r o f = if S.1 735 = 0 then greyS (nameS S (715 + r) (fetV S o f)) (fetV S o f) else nameS S (715 + r) (fetV S o f) := rfl
  refine aw_aload_n dX7_goLoad_0 rfl rfl ⟨by decide, by decide⟩ ?_
  refine aw_gzF 0 dX7_goLoad_1 fl_RX7_7 (by assumption) rfl rfl (by assumption) ?_
  refine aw_aload_n dX7_goLoad_4 rfl rfl ⟨by decide, by decide⟩ ?_
  refine aw_gzF 0 dX7_goLoad_5 fl_RX7_7 (by assumption) rfl rfl (by assumption) ?_
  refine aw_sipush dX7_goLoad_8 (by decide) ⟨by decide, by decide⟩ ?_
  refine aw_iload_n dX7_goLoad_11 rfl rfl ?_
  refine aw_iadd dX7_goLoad_12 (az_wr_id (by omega) (by omega)) ?_
  refine aw_iv dX7_goLoad_13 (by assumption) (by omega) (by omega) v13 ?_
  refine aw_iload_n dX7_goLoad_14 rfl rfl ?_
  refine aw_cS2p dX7_goLoad_15 ml_RX7_161 ⟨by decide, by decide, by decide, by decide⟩ (Nat.le_of_ble_eq_true rfl) (sp_fieldAt K M (S.1 (715 + o)) f (by omega) (by omega) (by omega) (by omega)) ?_
  refine aw_iv dX7_goLoad_18 (by assumption) (by omega) (by omega) v18 ?_
  refine aw_istore dX7_goLoad_19 (by decide) ?_
  refine aw_aload_n dX7_goLoad_21 rfl rfl ⟨by decide, by decide⟩ ?_
  refine aw_gzF 0 dX7_goLoad_22 fl_RX7_7 (by assumption) rfl rfl (by assumption) ?_
  refine aw_sipush dX7_goLoad_25 (by decide) ⟨by decide, by decide⟩ ?_
  refine aw_iload_n dX7_goLoad_28 rfl rfl ?_
  refine aw_iadd dX7_goLoad_29 (az_wr_id (by omega) (by omega)) ?_
  refine aw_iload dX7_goLoad_30 rfl ?_
  refine aw_iast dX7_goLoad_32 (by assumption) (by omega) (by omega) ?_
  have fo : frM M (az_up M (m + 1) (715 + r) (fetV S o f)) m := fun b hb _ => up_oth _ _ _ hb
  generalize az_up M (m + 1) (715 + r) (fetV S o f) = M1 at h1 fo
  generalize hN : nameS S (715 + r) (fetV S o f) = N at *
  have v37 : M1 (m + 1) 726 = N.1 726 := h1.1 726 (by omega) (by omega) (by omega) (by omega)
  have v50 : M1 (m + 1) 735 = S.1 735 := (h1.1 735 (by omega) (by omega) (by omega) (by omega)).trans e8
  have hrs := sp_runs hKa0 M1
  rw [v37, e9] at hrs
  have fin : ∀ b : Int, b = 0 ∨ b = 1 → fetS S r o f = (if b = 1 then greyS N (fetV S o f) else N) → AW az_P0 (az_Z (qi K (fun z M' => z = fetV S o f ∧ HM M' m (fetS S r o f) ∧ frM M M' m)) 0 0) (az_rm 4 0 0) yX7_goLoad cX7_goLoad 5 (some .int) 0 0 59 [(1, m), (0, r), (0, o), (0, f), (0, fetV S o f)] [(0, b), (0, fetV S o f), (1, m)] K M1 := by
    intro b hb he
    have hg := sp_mgrey hKa0 M1 h1 hw1.1 (by omega) (fetV S o f) b hn hb
    rw [← he] at hg
    refine aw_cV2v dX7_goLoad_59 ml_RX7_142 (by assumption) (by decide) rfl rfl ⟨by decide, by decide, by decide, by decide⟩ (Nat.le_of_ble_eq_true rfl) (hg) (fun M2 hM2 => ?_)
    refine aw_iload dX7_goLoad_62 rfl ?_
    exact aw_iret dX7_goLoad_64 (by decide) (by decide) ⟨_, rfl, rfl, rfl, hM2.1, fo.trans (frM.of hM2.2)⟩
  refine aw_aload_n dX7_goLoad_33 rfl rfl ⟨by decide, by decide⟩ ?_
  refine aw_iload dX7_goLoad_34 rfl ?_
  refine aw_aload_n dX7_goLoad_36 rfl rfl ⟨by decide, by decide⟩ ?_
  refine aw_cV0p dX7_goLoad_37 ml_RX7_181 (by assumption) (by decide) rfl rfl ⟨by decide, by decide, by decide, by decide⟩ (Nat.le_of_ble_eq_true rfl) (hrs) ?_
  refine aw_if_eq (tgt := 58) dX7_goLoad_40 rfl (fun h40 => ?_) (fun h40 => ?_)
  · have e1 : ¬ S.1 726 = 1 := if0 h40
    refine aw_iconst dX7_goLoad_58 rfl ⟨by decide, by decide⟩ ?_
    refine fin 0 (by omega) ?_
    rw [hfe, greyS_off hw1.1 (by rw [e9]; exact e1) hn]
    split <;> rfl
  · have e1 : S.1 726 = 1 := if1 h40
    refine aw_aload_n dX7_goLoad_43 rfl rfl ⟨by decide, by decide⟩ ?_
    refine aw_gzF 0 dX7_goLoad_44 fl_RX7_7 (by assumption) rfl rfl (by assumption) ?_
    refine aw_sipush dX7_goLoad_47 (by decide) ⟨by decide, by decide⟩ ?_
    refine aw_iv dX7_goLoad_50 (by assumption) (by omega) (by omega) v50 ?_
    refine aw_if_ne (tgt := 58) dX7_goLoad_51 rfl (fun h51 => ?_) (fun h51 => ?_)
    · refine aw_iconst dX7_goLoad_58 rfl ⟨by decide, by decide⟩ ?_
      refine fin 0 (by omega) ?_
      rw [hfe, if_neg h51]; rfl
    · refine aw_iconst dX7_goLoad_54 rfl ⟨by decide, by decide⟩ ?_
      refine aw_goto (tgt := 59) dX7_goLoad_55 rfl ?_
      refine fin 1 (by omega) ?_
      rw [hfe, if_pos h51]; rfl
set_option maxHeartbeats 1000000 in
theorem sp_goStore {K : az_K} {m : Int} (hK : MoK K m) (M : az_M) {S : hSt} (hc : HM M m S) (hw : WL S) (hcy : S.1 729 ≤ 20000000) (r f o : Int) (r0 : 0 ≤ r) (r1 : r < 6) (ho : o = -1 ∨ 0 ≤ o ∧ o < 6) (hh : hasF S (S.1 (715 + r)) f) : AM yX7_goStore cX7_goStore 6 none 4 0 0 [(1, m), (0, r), (0, f), (0, o)] K M (qv K (fun M' => HM M' m (putS S r f o) ∧ frM M M' m)) := by
  have hK0 := hK
  obtain ⟨hKa, k2, z1⟩ := hK
  have hKa0 := hKa
  obtain ⟨km, k1, zz⟩ := hKa
  refine am_of (by decide) (Nat.le_of_ble_eq_true rfl) (L := [(1, m), (0, r), (0, f), (0, o), (9, 0), (9, 0)]) rfl ?_
  have hob := has_ob hw r0 r1 hh
  obtain ⟨i1, i2, i3⟩ := has_in hw r0 r1 hh
  obtain ⟨p1, p2, p3, p4⟩ := put1_wl hw r0 r1 hh
  obtain ⟨u1, u2, u3, u4⟩ := put2_wl hw r0 r1 ho hh
  have b0 := hob.1.1
  have b1 := hob.1.2.1
  have f0 := hh.2.1
  have v9 : M (m + 1) (715 + r) = S.1 (715 + r) := hc.1 _ (by omega) (by omega) (by omega) (by omega)
  have hp1 : put1 S r f = if S.1 735 = 2 then greyS S (S.1 (256 + S.1 (715 + r) + 1 + f)) else S := rfl
  have hp2 : put2 S r f o = nameS (put1 S r f) (256 + S.1 (715 + r) + 1 + f) (namV S o) := rfl
  have hp3 : putS S r f o = if S.1 735 = 1 then greyS (put2 S r f o) (namV S o) else put2 S r f o := rfl
  obtain ⟨x, hx⟩ : ∃ x, x = 256 + S.1 (715 + r) + 1 + f := ⟨_, rfl⟩
  rw [← hx] at i1 i2 i3 hp1 hp2
  have v30 : M (m + 1) x = S.1 x := hc.1 _ (by omega) (by omega) (by omega) (by omega)
  have e26 : (put2 S r f o).1 726 = S.1 726 := by
    rw [hp2]
    show gu (put1 S r f).1 _ _ 726 = _
    rw [gu_n _ _ (by omega), p3 _ (by omega)]
  have v45 : M (m + 1) 735 = S.1 735 := hc.1 735 (by omega) (by omega) (by omega) (by omega)
  have v32 : M (m + 1) 726 = S.1 726 := hc.1 726 (by omega) (by omega) (by omega) (by omega)
  have hrs := sp_runs hKa0 M
  rw [v32] at hrs
  have fin2 : ∀ (M3 : az_M) (b : Int), HM M3 m (put2 S r f o) → frM M M3 m → b = 0 ∨ b = 1 → putS S r f o = (if b = 1 then greyS (put2 S r f o) (namV S o) else put2 S r f o) → AW az_P0 (az_Z (qv K (fun M' => HM M' m (putS S r f o) ∧ frM M M' m)) 0 0) (az_rm 4 0 0) yX7_goStore cX7_goStore 6 none 0 0 94 [(1, m), (0, r), (0, f), (0, o), (0, x), (0, namV S o)] [(0, b), (0, namV S o), (1, m)] K M3 := by
    intro M3 b h3 f3 hb he
    have hg := sp_mgrey hKa0 M3 h3 u1.1 (by omega) (namV S o) b u2 hb
    rw [← he] at hg
    refine aw_cV2v dX7_goStore_94 ml_RX7_142 (by assumption) (by decide) rfl rfl ⟨by decide, by decide, by decide, by decide⟩ (Nat.le_of_ble_eq_true rfl) (hg) (fun M4 hM4 => ?_)
    exact aw_vret dX7_goStore_97 (by decide) (by decide) ⟨rfl, rfl, hM4.1, f3.trans (frM.of hM4.2)⟩
  have fin : ∀ b : Int, b = 0 ∨ b = 1 → put1 S r f = (if b = 1 then greyS S (S.1 x) else S) → AW az_P0 (az_Z (qv K (fun M' => HM M' m (putS S r f o) ∧ frM M M' m)) 0 0) (az_rm 4 0 0) yX7_goStore cX7_goStore 6 none 0 0 55 [(1, m), (0, r), (0, f), (0, o), (0, x), (0, namV S o)] [(0, b), (0, S.1 x), (1, m)] K M := by
    intro b hb he
    have hg := sp_mgrey hKa0 M hc hw.1 hcy (S.1 x) b i3 hb
    rw [← he] at hg
    refine aw_cV2v dX7_goStore_55 ml_RX7_142 (by assumption) (by decide) rfl rfl ⟨by decide, by decide, by decide, by decide⟩ (Nat.le_of_ble_eq_true rfl) (hg) (fun M2 hM2 => ?_)
    refine aw_aload_n dX7_goStore_58 rfl rfl ⟨by decide, by decide⟩ ?_
    refine aw_gzF 0 dX7_goStore_59 fl_RX7_7 (by assumption) rfl rfl (by assumption) ?_
    refine aw_iload dX7_goStore_62 rfl ?_
    refine aw_iload dX7_goStore_64 rfl ?_
    refine aw_iast dX7_goStore_66 (by assumption) (by omega) (by omega) ?_
    have h3 := HM_name (v := namV S o) hM2.1 p1.1 (x := x) (by omega)
    rw [← hp2] at h3
    have f3 : frM M (az_up M2 (m + 1) x (namV S o)) m := fun b hb _ => by rw [up_oth _ _ _ hb]; exact hM2.2 b hb
    generalize az_up M2 (m + 1) x (namV S o) = M3 at h3 f3
    have v84 : M3 (m + 1) 735 = S.1 735 := (h3.1 735 (by omega) (by omega) (by omega) (by omega)).trans u3
    have v71 : M3 (m + 1) 726 = S.1 726 := (h3.1 726 (by omega) (by omega) (by omega) (by omega)).trans e26
    have hrs3 := sp_runs hKa0 M3
    rw [v71] at hrs3
    refine aw_aload_n dX7_goStore_67 rfl rfl ⟨by decide, by decide⟩ ?_
    refine aw_iload dX7_goStore_68 rfl ?_
    refine aw_aload_n dX7_goStore_70 rfl rfl ⟨by decide, by decide⟩ ?_
    refine aw_cV0p dX7_goStore_71 ml_RX7_181 (by assumption) (by decide) rfl rfl ⟨by decide, by decide, by decide, by decide⟩ (Nat.le_of_ble_eq_true rfl) (hrs3) ?_
    refine aw_if_eq (tgt := 93) dX7_goStore_74 rfl (fun h74 => ?_) (fun h74 => ?_)
    · have e1 : ¬ S.1 726 = 1 := if0 h74
      refine aw_iconst dX7_goStore_93 rfl ⟨by decide, by decide⟩ ?_
      refine fin2 M3 0 h3 f3 (by omega) ?_
      rw [hp3, greyS_off u1.1 (by rw [e26]; exact e1) u2]
      split <;> rfl
    · refine aw_aload_n dX7_goStore_77 rfl rfl ⟨by decide, by decide⟩ ?_
      refine aw_gzF 0 dX7_goStore_78 fl_RX7_7 (by assumption) rfl rfl (by assumption) ?_
      refine aw_sipush dX7_goStore_81 (by decide) ⟨by decide, by decide⟩ ?_
      refine aw_iv dX7_goStore_84 (by assumption) (by omega) (by omega) v84 ?_
      refine aw_iconst dX7_goStore_85 rfl ⟨by decide, by decide⟩ ?_
      refine aw_icmp_ne (tgt := 93) dX7_goStore_86 rfl (fun h86 => ?_) (fun h86 => ?_)
      · refine aw_iconst dX7_goStore_93 rfl ⟨by decide, by decide⟩ ?_
        refine fin2 M3 0 h3 f3 (by omega) ?_
        rw [hp3, if_neg h86]; rfl
      · refine aw_iconst dX7_goStore_89 rfl ⟨by decide, by decide⟩ ?_
        refine aw_goto (tgt := 94) dX7_goStore_90 rfl ?_
        refine fin2 M3 1 h3 f3 (by omega) ?_
        rw [hp3, if_pos h86]; rfl
  refine aw_aload_n dX7_goStore_0 rfl rfl ⟨by decide, by decide⟩ ?_
  refine aw_gzF 0 dX7_goStore_1 fl_RX7_7 (by assumption) rfl rfl (by assumption) ?_
  refine aw_sipush dX7_goStore_4 (by decide) ⟨by decide, by decide⟩ ?_
  refine aw_iload_n dX7_goStore_7 rfl rfl ?_
  refine aw_iadd dX7_goStore_8 (az_wr_id (by omega) (by omega)) ?_
  refine aw_iv dX7_goStore_9 (by assumption) (by omega) (by omega) v9 ?_
  refine aw_iload_n dX7_goStore_10 rfl rfl ?_
  refine aw_cS2p dX7_goStore_11 ml_RX7_161 ⟨by decide, by decide, by decide, by decide⟩ (Nat.le_of_ble_eq_true rfl) (qp_c (sp_fieldAt K M (S.1 (715 + r)) f (by omega) (by omega) (by omega) (by omega)) hx.symm) ?_
  refine aw_istore dX7_goStore_14 (by decide) ?_
  refine aw_aload_n dX7_goStore_16 rfl rfl ⟨by decide, by decide⟩ ?_
  refine aw_iload_n dX7_goStore_17 rfl rfl ?_
  refine aw_cV1p dX7_goStore_18 ml_RX7_238 (by assumption) (by decide) rfl rfl ⟨by decide, by decide, by decide, by decide⟩ (Nat.le_of_ble_eq_true rfl) (sp_named hKa0 M hc o ho) ?_
  refine aw_istore dX7_goStore_21 (by decide) ?_
  refine aw_aload_n dX7_goStore_23 rfl rfl ⟨by decide, by decide⟩ ?_
  refine aw_aload_n dX7_goStore_24 rfl rfl ⟨by decide, by decide⟩ ?_
  refine aw_gzF 0 dX7_goStore_25 fl_RX7_7 (by assumption) rfl rfl (by assumption) ?_
  refine aw_iload dX7_goStore_28 rfl ?_
  refine aw_iv dX7_goStore_30 (by assumption) (by omega) (by omega) v30 ?_
  refine aw_aload_n dX7_goStore_31 rfl rfl ⟨by decide, by decide⟩ ?_
  refine aw_cV0p dX7_goStore_32 ml_RX7_181 (by assumption) (by decide) rfl rfl ⟨by decide, by decide, by decide, by decide⟩ (Nat.le_of_ble_eq_true rfl) (hrs) ?_
  refine aw_if_eq (tgt := 54) dX7_goStore_35 rfl (fun h35 => ?_) (fun h35 => ?_)
  · have e1 : ¬ S.1 726 = 1 := if0 h35
    refine aw_iconst dX7_goStore_54 rfl ⟨by decide, by decide⟩ ?_
    refine fin 0 (by omega) ?_
    rw [hp1, greyS_off hw.1 e1 i3]
    split <;> rfl
  · refine aw_aload_n dX7_goStore_38 rfl rfl ⟨by decide, by decide⟩ ?_
    refine aw_gzF 0 dX7_goStore_39 fl_RX7_7 (by assumption) rfl rfl (by assumption) ?_
    refine aw_sipush dX7_goStore_42 (by decide) ⟨by decide, by decide⟩ ?_
    refine aw_iv dX7_goStore_45 (by assumption) (by omega) (by omega) v45 ?_
    refine aw_iconst dX7_goStore_46 rfl ⟨by decide, by decide⟩ ?_
    refine aw_icmp_ne (tgt := 54) dX7_goStore_47 rfl (fun h47 => ?_) (fun h47 => ?_)
    · refine aw_iconst dX7_goStore_54 rfl ⟨by decide, by decide⟩ ?_
      refine fin 0 (by omega) ?_
      rw [hp1, if_neg h47]; rfl
    · refine aw_iconst dX7_goStore_50 rfl ⟨by decide, by decide⟩ ?_
      refine aw_goto (tgt := 55) dX7_goStore_51 rfl ?_
      refine fin 1 (by omega) ?_
      rw [hp1, if_pos h47]; rfl
