/-! TreadRing: questions -/
set_option maxRecDepth 20000
section QX
variable {K : az_K} {x : Int} {ch : hCh} {a u : Int} {bx : hCh} {bz : Int → Int} {B cu : Int} {M M' : az_M}
theorem frY.ofE (f : frE M M' (x + 20)) : frY M M' x := fun b h1 h2 => f.1 b (by omega)
theorem cAt_if {h : Int} {S : hSt} (hc : HS M h S) (hw : WL S) (v : Int) : cAt (M (h + 4)) v = if slD S.1 v then S.1 v else -1 := by
  by_cases w : slD S.1 v
  · rw [if_pos w]; exact cAt_sl hw.1.1 hw.1.2.1 hc.2.1 w
  · rw [if_neg w]; exact cAt_no hc.2.1 w
theorem isO_if {h : Int} {S : hSt} (hc : HS M h S) (hw : WL S) (v : Int) : (if 0 < cAt (M (h + 4)) v then (1 : Int) else 0) = if obD S.1 v then 1 else 0 := by
  rw [cAt_if hc hw v]
  by_cases w : slD S.1 v
  · have := hw.1.2.1 v w.1 w.2.1
    rw [if_pos w]
    by_cases q : S.1 v = 0
    · rw [if_neg (by omega), if_neg (fun z => z.2 q)]
    · rw [if_pos (by omega), if_pos ⟨w, q⟩]
  · rw [if_neg w, if_neg (by omega), if_neg (fun z => w z.1)]
section HX
theorem sp_croot (hK : TrK K x) (M : az_M) (hg : GW ch a u bx bz B) (ht : TRh M x ch a u bx bz cu) (r : Int) : AM yX6_root cX6_root 2 (some .int) 1 0 0 [(1, x), (0, r)] K M (qp K M (if 0 ≤ r ∧ r < 6 then (ch a).1 (715 + r) else -2)) := by
  obtain ⟨h, hh, hH, hc, hhp, hb1, hb2⟩ := ht.now hK hg
  have hK0 := hK
  obtain ⟨kx, k1, k2, k3, hT4, k19, hRe, k23, hRt, hS1, hS2, k45, hKp, hBx, y0, y4, y5, y6, y7, y8, y9, y11, y14, n12, n13, r0, r4, q0, q1, xin⟩ := hK
  obtain ⟨hRg, kh, k6, k7, k8, k9, k10, k11, k12, k13, k14, z0, z1, z2, z3, z4, z5, z6, z7, z8, z9⟩ := hH
  refine am_of (by decide) (Nat.le_of_ble_eq_true rfl) (L := [(1, x), (0, r)]) rfl ?_
  refine aw_iload_n dX6_root_0 rfl rfl ?_
  refine aw_cS1p dX6_root_1 ml_RX6_91 ⟨by decide, by decide, by decide, by decide⟩ (Nat.le_of_ble_eq_true rfl) (sp_cisRoot K M r) ?_
  refine aw_if_eq (tgt := 19) dX6_root_4 rfl (fun h4 => ?_) (fun h4 => ?_)
  · rw [if_neg (if0 h4)]
    refine aw_bipush dX6_root_19 (by decide) ⟨by decide, by decide⟩ ?_
    exact aw_iret dX6_root_21 (by decide) (by decide) (qp_i rfl)
  · have hr := if1 h4
    rw [if_pos hr]
    have v15 := hc.2.2.2.2.2.1.1 r hr.1 hr.2
    refine aw_aload_n dX6_root_7 rfl rfl ⟨by decide, by decide⟩ ?_
    refine aw_cV0q dX6_root_8 ml_RX6_80 (by assumption) (by decide) rfl rfl ⟨by decide, by decide, by decide, by decide⟩ (Nat.le_of_ble_eq_true rfl) (hhp) ?_
    refine aw_gzF 4 dX6_root_11 fl_RX6_119 (by assumption) rfl rfl (by assumption) ?_
    refine aw_iload_n dX6_root_14 rfl rfl ?_
    refine aw_iv dX6_root_15 (by assumption) (by omega) (by omega) v15 ?_
    refine aw_goto (tgt := 21) dX6_root_16 rfl ?_
    exact aw_iret dX6_root_21 (by decide) (by decide) (qp_i rfl)
theorem sp_cweakly (hK : TrK K x) (M : az_M) (hg : GW ch a u bx bz B) (ht : TRh M x ch a u bx bz cu) (r : Int) : AM yX6_weakly cX6_weakly 2 (some .int) 1 0 0 [(1, x), (0, r)] K M (qp K M (if 0 ≤ r ∧ r < 4 then (ch a).1 (721 + r) else -2)) := by
  obtain ⟨h, hh, hH, hc, hhp, hb1, hb2⟩ := ht.now hK hg
  have hK0 := hK
  obtain ⟨kx, k1, k2, k3, hT4, k19, hRe, k23, hRt, hS1, hS2, k45, hKp, hBx, y0, y4, y5, y6, y7, y8, y9, y11, y14, n12, n13, r0, r4, q0, q1, xin⟩ := hK
  obtain ⟨hRg, kh, k6, k7, k8, k9, k10, k11, k12, k13, k14, z0, z1, z2, z3, z4, z5, z6, z7, z8, z9⟩ := hH
  refine am_of (by decide) (Nat.le_of_ble_eq_true rfl) (L := [(1, x), (0, r)]) rfl ?_
  refine aw_iload_n dX6_weakly_0 rfl rfl ?_
  refine aw_cS1p dX6_weakly_1 ml_RX6_126 ⟨by decide, by decide, by decide, by decide⟩ (Nat.le_of_ble_eq_true rfl) (sp_cisWeak K M r) ?_
  refine aw_if_eq (tgt := 19) dX6_weakly_4 rfl (fun h4 => ?_) (fun h4 => ?_)
  · rw [if_neg (if0 h4)]
    refine aw_bipush dX6_weakly_19 (by decide) ⟨by decide, by decide⟩ ?_
    exact aw_iret dX6_weakly_21 (by decide) (by decide) (qp_i rfl)
  · have hr := if1 h4
    rw [if_pos hr]
    have v15 := hc.2.2.2.2.2.1.2 r hr.1 hr.2
    refine aw_aload_n dX6_weakly_7 rfl rfl ⟨by decide, by decide⟩ ?_
    refine aw_cV0q dX6_weakly_8 ml_RX6_80 (by assumption) (by decide) rfl rfl ⟨by decide, by decide, by decide, by decide⟩ (Nat.le_of_ble_eq_true rfl) (hhp) ?_
    refine aw_gzF 5 dX6_weakly_11 fl_RX6_129 (by assumption) rfl rfl (by assumption) ?_
    refine aw_iload_n dX6_weakly_14 rfl rfl ?_
    refine aw_iv dX6_weakly_15 (by assumption) (by omega) (by omega) v15 ?_
    refine aw_goto (tgt := 21) dX6_weakly_16 rfl ?_
    exact aw_iret dX6_weakly_21 (by decide) (by decide) (qp_i rfl)
theorem sp_ctold (hK : TrK K x) (M : az_M) (hg : GW ch a u bx bz B) (hB : B ≤ 19990000) (ht : TRh M x ch a u bx bz cu) (i w : Int) : AM yX6_told cX6_told 3 (some .int) 2 0 0 [(1, x), (0, i), (0, w)] K M (qp K M (if (0 ≤ i ∧ i < (ch a).1 741) ∧ 0 ≤ w ∧ w < 3 then (ch a).1 (742 + 3 * i + w) else -1)) := by
  obtain ⟨h, hh, hH, hc, hhp, hb1, hb2⟩ := ht.now hK hg
  have hK0 := hK
  obtain ⟨kx, k1, k2, k3, hT4, k19, hRe, k23, hRt, hS1, hS2, k45, hKp, hBx, y0, y4, y5, y6, y7, y8, y9, y11, y14, n12, n13, r0, r4, q0, q1, xin⟩ := hK
  have kh := hH.2.1
  obtain ⟨w1, w2, w3⟩ := hg.cur
  refine am_of (by decide) (Nat.le_of_ble_eq_true rfl) (L := [(1, x), (0, i), (0, w)]) rfl ?_
  generalize hV : (if (0 ≤ i ∧ i < (ch a).1 741) ∧ 0 ≤ w ∧ w < 3 then (ch a).1 (742 + 3 * i + w) else -1) = V
  have no : ¬ ((0 ≤ i ∧ i < (ch a).1 741) ∧ 0 ≤ w ∧ w < 3) → AW az_P0 (az_Z (qp K M V) 0 0) (az_rm 2 0 0) yX6_told cX6_told 3 (some .int) 0 0 24 [(1, x), (0, i), (0, w)] [] K M := by
    intro q
    rw [if_neg q] at hV
    refine aw_iconst dX6_told_24 rfl ⟨by decide, by decide⟩ ?_
    exact aw_iret dX6_told_25 (by decide) (by decide) (qp_i hV)
  refine aw_iload_n dX6_told_0 rfl rfl ?_
  refine aw_if_lt (tgt := 24) dX6_told_1 rfl (fun h1 => ?_) (fun h1 => ?_)
  · exact no (by omega)
  · refine aw_iload_n dX6_told_4 rfl rfl ?_
    refine aw_aload_n dX6_told_5 rfl rfl ⟨by decide, by decide⟩ ?_
    refine aw_cV0q dX6_told_6 ml_RX6_80 (by assumption) (by decide) rfl rfl ⟨by decide, by decide, by decide, by decide⟩ (Nat.le_of_ble_eq_true rfl) (hhp) ?_
    refine aw_cV0p dX6_told_9 ml_RX6_192 (by assumption) (by decide) rfl rfl ⟨by decide, by decide, by decide, by decide⟩ (Nat.le_of_ble_eq_true rfl) (sp_toldCycles hH M hc) ?_
    refine aw_icmp_ge (tgt := 24) dX6_told_12 rfl (fun h12 => ?_) (fun h12 => ?_)
    · exact no (by omega)
    · refine aw_iload_n dX6_told_15 rfl rfl ?_
      refine aw_if_lt (tgt := 24) dX6_told_16 rfl (fun h16 => ?_) (fun h16 => ?_)
      · exact no (by omega)
      · refine aw_iload_n dX6_told_19 rfl rfl ?_
        refine aw_iconst dX6_told_20 rfl ⟨by decide, by decide⟩ ?_
        refine aw_icmp_lt (tgt := 26) dX6_told_21 rfl (fun h21 => ?_) (fun h21 => ?_)
        · rw [if_pos (by omega)] at hV
          refine aw_aload_n dX6_told_26 rfl rfl ⟨by decide, by decide⟩ ?_
          refine aw_cV0q dX6_told_27 ml_RX6_80 (by assumption) (by decide) rfl rfl ⟨by decide, by decide, by decide, by decide⟩ (Nat.le_of_ble_eq_true rfl) (hhp) ?_
          refine aw_iload_n dX6_told_30 rfl rfl ?_
          refine aw_iload_n dX6_told_31 rfl rfl ?_
          refine aw_cV2p dX6_told_32 ml_RX6_195 (by assumption) (by decide) rfl rfl ⟨by decide, by decide, by decide, by decide⟩ (Nat.le_of_ble_eq_true rfl) (sp_toldPart hH M hc (by omega) i w (by omega) (by omega) (by omega) (by omega)) ?_
          exact aw_iret dX6_told_35 (by decide) (by decide) (qp_i hV)
        · exact no (by omega)
set_option maxHeartbeats 1000000 in
theorem sp_cfield (hK : TrK K x) (M : az_M) (hg : GW ch a u bx bz B) (ht : TRh M x ch a u bx bz cu) (v f : Int) : AM yX6_field cX6_field 4 (some .int) 2 0 0 [(1, x), (0, v), (0, f)] K M (qp K M (if obD (ch a).1 v ∧ 0 ≤ f ∧ f < (ch a).1 (128 + v) then (ch a).1 (256 + v + 1 + f) else -2)) := by
  obtain ⟨h, hh, hH, hc, hhp, hb1, hb2⟩ := ht.now hK hg
  have hK0 := hK
  obtain ⟨kx, k1, k2, k3, hT4, k19, hRe, k23, hRt, hS1, hS2, k45, hKp, hBx, y0, y4, y5, y6, y7, y8, y9, y11, y14, n12, n13, r0, r4, q0, q1, xin⟩ := hK
  have hH0 := hH
  obtain ⟨hRg, kh, k6, k7, k8, k9, k10, k11, k12, k13, k14, z0, z1, z2, z3, z4, z5, z6, z7, z8, z9⟩ := hH
  obtain ⟨w1, w2, w3⟩ := hg.cur
  refine am_of (by decide) (Nat.le_of_ble_eq_true rfl) (L := [(1, x), (0, v), (0, f), (9, 0)]) rfl ?_
  obtain ⟨ca, cb, cc⟩ := fCell_ok hc w1.1 v f
  refine aw_aload_n dX6_field_0 rfl rfl ⟨by decide, by decide⟩ ?_
  refine aw_cV0q dX6_field_1 ml_RX6_80 (by assumption) (by decide) rfl rfl ⟨by decide, by decide, by decide, by decide⟩ (Nat.le_of_ble_eq_true rfl) (hhp) ?_
  refine aw_iload_n dX6_field_4 rfl rfl ?_
  refine aw_iload_n dX6_field_5 rfl rfl ?_
  refine aw_cV2p dX6_field_6 ml_RX6_202 (by assumption) (by decide) rfl rfl ⟨by decide, by decide, by decide, by decide⟩ (Nat.le_of_ble_eq_true rfl) (sp_fieldCell hH0 M v f (HS_ro hc) cc) ?_
  refine aw_istore_n dX6_field_9 rfl (by decide) ?_
  by_cases q : ob (ch a).1 v ∧ 0 ≤ f ∧ f < (ch a).1 (128 + v)
  · have e := ca q
    rw [e, if_pos ⟨⟨q.1.1, q.1.2⟩, q.2⟩]
    have v0 := q.1.1.1
    obtain ⟨f0, f7, f8, -⟩ := fld_in w1 q.1.1
    have v28 := ((hc.2.2.1 v q.1.1).2 q.1.2).2 f q.2.1 q.2.2
    refine aw_iload_n dX6_field_10 rfl rfl ?_
    refine aw_iconst dX6_field_11 rfl ⟨by decide, by decide⟩ ?_
    refine aw_icmp_ne (tgt := 20) dX6_field_12 rfl (fun h12 => ?_) (fun h12 => absurd h12 (by omega))
    refine aw_aload_n dX6_field_20 rfl rfl ⟨by decide, by decide⟩ ?_
    refine aw_cV0q dX6_field_21 ml_RX6_80 (by assumption) (by decide) rfl rfl ⟨by decide, by decide, by decide, by decide⟩ (Nat.le_of_ble_eq_true rfl) (hhp) ?_
    refine aw_gzF 1 dX6_field_24 fl_RX6_205 (by assumption) rfl rfl (by assumption) ?_
    refine aw_iload_n dX6_field_27 rfl rfl ?_
    refine aw_iv dX6_field_28 (by assumption) (by omega) (by omega) v28 ?_
    exact aw_iret dX6_field_29 (by decide) (by decide) (qp_i rfl)
  · have e := cb q
    rw [e, if_neg (fun z => q ⟨⟨z.1.1, z.1.2⟩, z.2⟩)]
    refine aw_iload_n dX6_field_10 rfl rfl ?_
    refine aw_iconst dX6_field_11 rfl ⟨by decide, by decide⟩ ?_
    refine aw_icmp_ne (tgt := 20) dX6_field_12 rfl (fun h12 => absurd h12 (by omega)) (fun h12 => ?_)
    refine aw_bipush dX6_field_15 (by decide) ⟨by decide, by decide⟩ ?_
    refine aw_goto (tgt := 29) dX6_field_17 rfl ?_
    exact aw_iret dX6_field_29 (by decide) (by decide) (qp_i rfl)
theorem sp_cring (hK : TrK K x) (M : az_M) (hg : GW ch a u bx bz B) (ht : TRh M x ch a u bx bz cu) (s i : Int) : AM yX6_ring cX6_ring 3 (some .int) 2 0 0 [(1, x), (0, s), (0, i)] K M (qp K M (if (s = 2 ∨ s = 4 ∨ s = 8) ∧ 0 ≤ i then lk (catR (ch a).2.1 (s / 4 * 4) 4) i else -1)) := by
  obtain ⟨h, hh, hH, hc, hhp, hb1, hb2⟩ := ht.now hK hg
  have hK0 := hK
  obtain ⟨kx, k1, k2, k3, hT4, k19, hRe, k23, hRt, hS1, hS2, k45, hKp, hBx, y0, y4, y5, y6, y7, y8, y9, y11, y14, n12, n13, r0, r4, q0, q1, xin⟩ := hK
  obtain ⟨hRg, kh, k6, k7, k8, k9, k10, k11, k12, k13, k14, z0, z1, z2, z3, z4, z5, z6, z7, z8, z9⟩ := hH
  obtain ⟨w1, w2, w3⟩ := hg.cur
  have kr := hRg.1
  refine am_of (by decide) (Nat.le_of_ble_eq_true rfl) (L := [(1, x), (0, s), (0, i)]) rfl ?_
  generalize hV : (if (s = 2 ∨ s = 4 ∨ s = 8) ∧ 0 ≤ i then lk (catR (ch a).2.1 (s / 4 * 4) 4) i else -1) = V
  have no : ¬ ((s = 2 ∨ s = 4 ∨ s = 8) ∧ 0 ≤ i) → AW az_P0 (az_Z (qp K M V) 0 0) (az_rm 2 0 0) yX6_ring cX6_ring 3 (some .int) 0 0 11 [(1, x), (0, s), (0, i)] [] K M := by
    intro q
    rw [if_neg q] at hV
    refine aw_iconst dX6_ring_11 rfl ⟨by decide, by decide⟩ ?_
    exact aw_iret dX6_ring_12 (by decide) (by decide) (qp_i hV)
  refine aw_iload_n dX6_ring_0 rfl rfl ?_
  refine aw_cS1p dX6_ring_1 ml_RX6_232 ⟨by decide, by decide, by decide, by decide⟩ (Nat.le_of_ble_eq_true rfl) (sp_cisSize K M s) ?_
  refine aw_if_eq (tgt := 11) dX6_ring_4 rfl (fun h4 => ?_) (fun h4 => ?_)
  · exact no (fun q => if0 h4 q.1)
  · refine aw_iload_n dX6_ring_7 rfl rfl ?_
    refine aw_if_ge (tgt := 13) dX6_ring_8 rfl (fun h8 => ?_) (fun h8 => ?_)
    · have hs := if1 h4
      rw [if_pos ⟨hs, by omega⟩] at hV
      refine aw_aload_n dX6_ring_13 rfl rfl ⟨by decide, by decide⟩ ?_
      refine aw_cV0q dX6_ring_14 ml_RX6_80 (by assumption) (by decide) rfl rfl ⟨by decide, by decide, by decide, by decide⟩ (Nat.le_of_ble_eq_true rfl) (hhp) ?_
      refine aw_gzF 0 dX6_ring_17 fl_RX6_208 (by assumption) rfl rfl (by assumption) ?_
      refine aw_iload_n dX6_ring_20 rfl rfl ?_
      refine aw_iload_n dX6_ring_21 rfl rfl ?_
      refine aw_cV2p dX6_ring_22 ml_RX6_235 (by assumption) (by decide) rfl rfl ⟨by decide, by decide, by decide, by decide⟩ (Nat.le_of_ble_eq_true rfl) (sp_addressAt hRg M hc.1 (fun k k0 k1 => by have := row_len (WR_of w1.1) k0 k1; omega) s i hs (by omega)) ?_
      exact aw_iret dX6_ring_25 (by decide) (by decide) (qp_i hV)
    · exact no (by omega)
theorem sp_cmany (hK : TrK K x) (M : az_M) (hg : GW ch a u bx bz B) (ht : TRh M x ch a u bx bz cu) (s c : Int) : AM yX6_many cX6_many 3 (some .int) 2 0 0 [(1, x), (0, s), (0, c)] K M (qp K M (if (s = 2 ∨ s = 4 ∨ s = 8) ∧ 0 ≤ c ∧ c ≤ 3 then (((ch a).2.1 (s / 4 * 4 + c)).length : Int) else -1)) := by
  obtain ⟨h, hh, hH, hc, hhp, hb1, hb2⟩ := ht.now hK hg
  have hK0 := hK
  obtain ⟨kx, k1, k2, k3, hT4, k19, hRe, k23, hRt, hS1, hS2, k45, hKp, hBx, y0, y4, y5, y6, y7, y8, y9, y11, y14, n12, n13, r0, r4, q0, q1, xin⟩ := hK
  obtain ⟨hRg, kh, k6, k7, k8, k9, k10, k11, k12, k13, k14, z0, z1, z2, z3, z4, z5, z6, z7, z8, z9⟩ := hH
  obtain ⟨w1, w2, w3⟩ := hg.cur
  have kr := hRg.1
  refine am_of (by decide) (Nat.le_of_ble_eq_true rfl) (L := [(1, x), (0, s), (0, c)]) rfl ?_
  generalize hV : (if (s = 2 ∨ s = 4 ∨ s = 8) ∧ 0 ≤ c ∧ c ≤ 3 then (((ch a).2.1 (s / 4 * 4 + c)).length : Int) else -1) = V
  have no : ¬ ((s = 2 ∨ s = 4 ∨ s = 8) ∧ 0 ≤ c ∧ c ≤ 3) → AW az_P0 (az_Z (qp K M V) 0 0) (az_rm 2 0 0) yX6_many cX6_many 3 (some .int) 0 0 16 [(1, x), (0, s), (0, c)] [] K M := by
    intro q
    rw [if_neg q] at hV
    refine aw_iconst dX6_many_16 rfl ⟨by decide, by decide⟩ ?_
    exact aw_iret dX6_many_17 (by decide) (by decide) (qp_i hV)
  refine aw_iload_n dX6_many_0 rfl rfl ?_
  refine aw_cS1p dX6_many_1 ml_RX6_232 ⟨by decide, by decide, by decide, by decide⟩ (Nat.le_of_ble_eq_true rfl) (sp_cisSize K M s) ?_
  refine aw_if_eq (tgt := 16) dX6_many_4 rfl (fun h4 => ?_) (fun h4 => ?_)
  · exact no (fun q => if0 h4 q.1)
  · refine aw_iload_n dX6_many_7 rfl rfl ?_
    refine aw_if_lt (tgt := 16) dX6_many_8 rfl (fun h8 => ?_) (fun h8 => ?_)
    · exact no (by omega)
    · refine aw_iload_n dX6_many_11 rfl rfl ?_
      refine aw_iconst dX6_many_12 rfl ⟨by decide, by decide⟩ ?_
      refine aw_icmp_le (tgt := 18) dX6_many_13 rfl (fun h13 => ?_) (fun h13 => ?_)
      · have hs := if1 h4
        rw [if_pos ⟨hs, by omega⟩] at hV
        have hcn : M (h + 5) (s / 4 * 4 + c) = V := by rw [← hV]; exact (hc.1.2.1 _ (by omega) (by omega)).2.2.1
        refine aw_aload_n dX6_many_18 rfl rfl ⟨by decide, by decide⟩ ?_
        refine aw_cV0q dX6_many_19 ml_RX6_80 (by assumption) (by decide) rfl rfl ⟨by decide, by decide, by decide, by decide⟩ (Nat.le_of_ble_eq_true rfl) (hhp) ?_
        refine aw_gzF 0 dX6_many_22 fl_RX6_208 (by assumption) rfl rfl (by assumption) ?_
        refine aw_iload_n dX6_many_25 rfl rfl ?_
        refine aw_iload_n dX6_many_26 rfl rfl ?_
        refine aw_cS2p dX6_many_27 ml_RX6_238 ⟨by decide, by decide, by decide, by decide⟩ (Nat.le_of_ble_eq_true rfl) (sp_row K M s c (by omega) (by omega) (by omega) (by omega)) ?_
        refine aw_cV1p dX6_many_30 ml_RX6_241 (by assumption) (by decide) rfl rfl ⟨by decide, by decide, by decide, by decide⟩ (Nat.le_of_ble_eq_true rfl) (qp_c (sp_count hRg M (s / 4 * 4 + c) (by omega) (by omega)) hcn) ?_
        exact aw_iret dX6_many_33 (by decide) (by decide) (qp_i rfl)
      · exact no (by omega)
set_option maxHeartbeats 1000000 in
theorem sp_cpage (hK : TrK K x) (M : az_M) (hg : GW ch a u bx bz B) (ht : TRh M x ch a u bx bz cu) (p w : Int) : AM yX6_page cX6_page 5 (some .int) 1 0 0 [(1, x), (0, p), (0, w)] K M (qp K M (if (0 ≤ p ∧ p < (ch a).1 725) ∧ 0 ≤ w ∧ w < 3 then pgV (ch a) p w else -1)) := by
  obtain ⟨h, hh, hH, hc, hhp, hb1, hb2⟩ := ht.now hK hg
  have hK0 := hK
  obtain ⟨kx, k1, k2, k3, hT4, k19, hRe, k23, hRt, hS1, hS2, k45, hKp, hBx, y0, y4, y5, y6, y7, y8, y9, y11, y14, n12, n13, r0, r4, q0, q1, xin⟩ := hK
  obtain ⟨hRg, kh, k6, k7, k8, k9, k10, k11, k12, k13, k14, z0, z1, z2, z3, z4, z5, z6, z7, z8, z9⟩ := hH
  obtain ⟨w1, w2, w3⟩ := hg.cur
  have p8 := w1.1.1.2.1
  refine am_of (by decide) (Nat.le_of_ble_eq_true rfl) (L := [(1, x), (0, p), (0, w), (9, 0), (9, 0)]) rfl ?_
  have v11 : M h 10 = (ch a).1 725 := hc.2.2.2.2.2.2.2.2.2.2.1
  generalize hV : (if (0 ≤ p ∧ p < (ch a).1 725) ∧ 0 ≤ w ∧ w < 3 then pgV (ch a) p w else -1) = V
  refine aw_aload_n dX6_page_0 rfl rfl ⟨by decide, by decide⟩ ?_
  refine aw_cV0q dX6_page_1 ml_RX6_80 (by assumption) (by decide) rfl rfl ⟨by decide, by decide, by decide, by decide⟩ (Nat.le_of_ble_eq_true rfl) (hhp) ?_
  refine aw_astore_n dX6_page_4 rfl (by decide) (by decide) ?_
  have no : ¬ (0 ≤ p ∧ p < (ch a).1 725) → AW az_P0 (az_Z (qp K M V) 0 0) (az_rm 1 0 0) yX6_page cX6_page 5 (some .int) 0 0 17 [(1, x), (0, p), (0, w), (1, h), (9, 0)] [] K M := by
    intro q
    rw [if_neg (fun z => q z.1)] at hV
    refine aw_iconst dX6_page_17 rfl ⟨by decide, by decide⟩ ?_
    exact aw_iret dX6_page_18 (by decide) (by decide) (qp_i hV)
  refine aw_iload_n dX6_page_5 rfl rfl ?_
  refine aw_if_lt (tgt := 17) dX6_page_6 rfl (fun h6 => ?_) (fun h6 => ?_)
  · exact no (by omega)
  · refine aw_iload_n dX6_page_9 rfl rfl ?_
    refine aw_aload_n dX6_page_10 rfl rfl ⟨by decide, by decide⟩ ?_
    refine aw_gi 10 dX6_page_11 fl_RX6_244 (by assumption) rfl rfl v11 ?_
    refine aw_icmp_lt (tgt := 19) dX6_page_14 rfl (fun h14 => ?_) (fun h14 => ?_)
    · have hp : 0 ≤ p ∧ p < (ch a).1 725 := by omega
      have v24 : M (h + 7) p = (ch a).1 (707 + p) := hc.2.2.2.1 p hp.1 (by omega)
      have v78 : M (h + 8) p = us (ch a).2.1 p := hc.2.2.2.2.1 p hp.1 (by omega)
      have hs := (w1.1.1.2.2 p hp.1 (by omega)).1
      have hu := us_le (WR_of w1.1) hp.1 hp.2
      have hu0 := us_0 (WR_of w1.1) hp.1 (by omega)
      unfold pgV at hV
      refine aw_aload_n dX6_page_19 rfl rfl ⟨by decide, by decide⟩ ?_
      refine aw_gzF 2 dX6_page_20 fl_RX6_247 (by assumption) rfl rfl (by assumption) ?_
      refine aw_iload_n dX6_page_23 rfl rfl ?_
      refine aw_iv dX6_page_24 (by assumption) (by omega) (by omega) v24 ?_
      refine aw_istore dX6_page_25 (by decide) ?_
      refine aw_iload_n dX6_page_27 rfl rfl ?_
      by_cases q0 : w = 0
      · subst q0
        rw [if_pos ⟨hp, by omega⟩] at hV
        refine aw_tsIn (tgt := 56) dX6_page_28 (by omega) (by omega) rfl rfl ?_
        refine aw_iload dX6_page_56 rfl ?_
        exact aw_iret dX6_page_58 (by decide) (by decide) (qp_i hV)
      by_cases q1 : w = 1
      · subst q1
        rw [if_pos ⟨hp, by omega⟩, if_neg q0] at hV
        refine aw_tsIn (tgt := 59) dX6_page_28 (by omega) (by omega) rfl rfl ?_
        refine aw_iload dX6_page_59 rfl ?_
        refine aw_if_ne (tgt := 68) dX6_page_61 rfl (fun h61 => ?_) (fun h61 => ?_)
        · rw [if_neg h61, if_pos rfl] at hV
          have hq16 : 0 ≤ 16 / (ch a).1 (707 + p) ∧ 16 / (ch a).1 (707 + p) ≤ 16 := by
            rcases hs with e | e | e | e <;> rw [e] <;> decide
          refine aw_bipush dX6_page_68 (by decide) ⟨by decide, by decide⟩ ?_
          refine aw_iload dX6_page_70 rfl ?_
          refine aw_idiv dX6_page_72 (by omega) (by omega) ?_
          refine aw_aload_n dX6_page_73 rfl rfl ⟨by decide, by decide⟩ ?_
          refine aw_gzF 3 dX6_page_74 fl_RX6_250 (by assumption) rfl rfl (by assumption) ?_
          refine aw_iload_n dX6_page_77 rfl rfl ?_
          refine aw_iv dX6_page_78 (by assumption) (by omega) (by omega) v78 ?_
          refine aw_isub dX6_page_79 (az_wr_id (by omega) (by omega)) ?_
          exact aw_iret dX6_page_80 (by decide) (by decide) (qp_i hV)
        · rw [if_pos (by omega)] at hV
          refine aw_iconst dX6_page_64 rfl ⟨by decide, by decide⟩ ?_
          refine aw_goto (tgt := 80) dX6_page_65 rfl ?_
          exact aw_iret dX6_page_80 (by decide) (by decide) (qp_i hV)
      by_cases q2 : w = 2
      · subst q2
        rw [if_pos ⟨hp, by omega⟩, if_neg q0, if_neg q1] at hV
        refine aw_tsIn (tgt := 81) dX6_page_28 (by omega) (by omega) rfl rfl ?_
        refine aw_aload_n dX6_page_81 rfl rfl ⟨by decide, by decide⟩ ?_
        refine aw_gzF 3 dX6_page_82 fl_RX6_250 (by assumption) rfl rfl (by assumption) ?_
        refine aw_iload_n dX6_page_85 rfl rfl ?_
        refine aw_iv dX6_page_86 (by assumption) (by omega) (by omega) v78 ?_
        refine aw_iret dX6_page_87 (by decide) (by decide) (qp_i ?_)
        by_cases e : (ch a).1 (707 + p) = 0
        · rw [if_pos e] at hV; rw [hu0 e]; exact hV
        · rw [if_neg e] at hV; exact hV
      rw [if_neg (by omega)] at hV
      refine aw_tsOut (tgt := 88) dX6_page_28 (by omega) rfl ?_
      refine aw_iconst dX6_page_88 rfl ⟨by decide, by decide⟩ ?_
      exact aw_iret dX6_page_89 (by decide) (by decide) (qp_i hV)
    · exact no (by omega)
theorem sp_cgrey (hK : TrK K x) (M : az_M) (hg : GW ch a u bx bz B) (ht : TRh M x ch a u bx bz cu) (i : Int) : AM yX6_grey cX6_grey 2 (some .int) 2 0 0 [(1, x), (0, i)] K M (qp K M (if i < 0 then -1 else gyA (ch a) i)) := by
  obtain ⟨h, hh, hH, hc, hhp, hb1, hb2⟩ := ht.now hK hg
  have hK0 := hK
  obtain ⟨kx, k1, k2, k3, hT4, k19, hRe, k23, hRt, hS1, hS2, k45, hKp, hBx, y0, y4, y5, y6, y7, y8, y9, y11, y14, n12, n13, r0, r4, q0, q1, xin⟩ := hK
  have kh := hH.2.1
  obtain ⟨w1, w2, w3⟩ := hg.cur
  refine am_of (by decide) (Nat.le_of_ble_eq_true rfl) (L := [(1, x), (0, i)]) rfl ?_
  refine aw_iload_n dX6_grey_0 rfl rfl ?_
  refine aw_if_ge (tgt := 8) dX6_grey_1 rfl (fun h1 => ?_) (fun h1 => ?_)
  · rw [if_neg (by omega)]
    refine aw_aload_n dX6_grey_8 rfl rfl ⟨by decide, by decide⟩ ?_
    refine aw_cV0q dX6_grey_9 ml_RX6_80 (by assumption) (by decide) rfl rfl ⟨by decide, by decide, by decide, by decide⟩ (Nat.le_of_ble_eq_true rfl) (hhp) ?_
    refine aw_iload_n dX6_grey_12 rfl rfl ?_
    refine aw_cV1p dX6_grey_13 ml_RX6_253 (by assumption) (by decide) rfl rfl ⟨by decide, by decide, by decide, by decide⟩ (Nat.le_of_ble_eq_true rfl) (sp_greyAt hH M hc w1 i (by omega)) ?_
    exact aw_iret dX6_grey_16 (by decide) (by decide) (qp_i rfl)
  · rw [if_pos (by omega)]
    refine aw_iconst dX6_grey_4 rfl ⟨by decide, by decide⟩ ?_
    refine aw_goto (tgt := 16) dX6_grey_5 rfl ?_
    exact aw_iret dX6_grey_16 (by decide) (by decide) (qp_i rfl)
theorem sp_claw (hK : TrK K x) (M : az_M) (hg : GW ch a u bx bz B) (ht : TRh M x ch a u bx bz cu) (w : Int) : AM yX6_law cX6_law 2 (some .int) 3 0 0 [(1, x), (0, w)] K M (qp K M (if w = 0 then boN (ch a).1 else if w = 1 then 0 else -1)) := by
  obtain ⟨h, hh, hH, hc, hhp, hb1, hb2⟩ := ht.now hK hg
  have hK0 := hK
  obtain ⟨kx, k1, k2, k3, hT4, k19, hRe, k23, hRt, hS1, hS2, k45, hKp, hBx, y0, y4, y5, y6, y7, y8, y9, y11, y14, n12, n13, r0, r4, q0, q1, xin⟩ := hK
  have kh := hH.2.1
  obtain ⟨w1, w2, w3⟩ := hg.cur
  refine am_of (by decide) (Nat.le_of_ble_eq_true rfl) (L := [(1, x), (0, w)]) rfl ?_
  refine aw_iload_n dX6_law_0 rfl rfl ?_
  refine aw_if_ne (tgt := 12) dX6_law_1 rfl (fun h1 => ?_) (fun h1 => ?_)
  · rw [if_neg h1]
    refine aw_iload_n dX6_law_12 rfl rfl ?_
    refine aw_iconst dX6_law_13 rfl ⟨by decide, by decide⟩ ?_
    refine aw_icmp_ne (tgt := 27) dX6_law_14 rfl (fun h14 => ?_) (fun h14 => ?_)
    · rw [if_neg h14]
      refine aw_iconst dX6_law_27 rfl ⟨by decide, by decide⟩ ?_
      exact aw_iret dX6_law_28 (by decide) (by decide) (qp_i rfl)
    · rw [if_pos h14]
      refine aw_aload_n dX6_law_17 rfl rfl ⟨by decide, by decide⟩ ?_
      refine aw_cV0q dX6_law_18 ml_RX6_80 (by assumption) (by decide) rfl rfl ⟨by decide, by decide, by decide, by decide⟩ (Nat.le_of_ble_eq_true rfl) (hhp) ?_
      refine aw_cV0p dX6_law_21 ml_RX6_286 (by assumption) (by decide) rfl rfl ⟨by decide, by decide, by decide, by decide⟩ (Nat.le_of_ble_eq_true rfl) (sp_namesOfFree hH M hc w1) ?_
      refine aw_goto (tgt := 28) dX6_law_24 rfl ?_
      exact aw_iret dX6_law_28 (by decide) (by decide) (qp_i rfl)
  · rw [if_pos h1]
    refine aw_aload_n dX6_law_4 rfl rfl ⟨by decide, by decide⟩ ?_
    refine aw_cV0q dX6_law_5 ml_RX6_80 (by assumption) (by decide) rfl rfl ⟨by decide, by decide, by decide, by decide⟩ (Nat.le_of_ble_eq_true rfl) (hhp) ?_
    refine aw_cV0p dX6_law_8 ml_RX6_283 (by assumption) (by decide) rfl rfl ⟨by decide, by decide, by decide, by decide⟩ (Nat.le_of_ble_eq_true rfl) (sp_blackOverEcru hH M hc w1) ?_
    exact aw_iret dX6_law_11 (by decide) (by decide) (qp_i rfl)
set_option maxHeartbeats 2000000 in
theorem sp_cabout (hK : TrK K x) (M : az_M) (hg : GW ch a u bx bz B) (ht : TRh M x ch a u bx bz cu) (n t sc : Int) (h10 : M x 10 = t) (h12 : M x 12 = sc) (ks : az_at K sc (5, 6)) (hn : M sc 5 = n) (w : Int) : AM yX6_about cX6_about 3 (some .int) 2 0 0 [(1, x), (0, w)] K M (qp K M (abV (ch a) a u n t w)) := by
  obtain ⟨h, hh, hH, hc, hhp, hb1, hb2⟩ := ht.now hK hg
  have hK0 := hK
  obtain ⟨kx, k1, k2, k3, hT4, k19, hRe, k23, hRt, hS1, hS2, k45, hKp, hBx, y0, y4, y5, y6, y7, y8, y9, y11, y14, n12, n13, r0, r4, q0, q1, xin⟩ := hK
  have hH0 := hH
  obtain ⟨hRg, kh, k6, k7, k8, k9, k10, k11, k12, k13, k14, z0, z1, z2, z3, z4, z5, z6, z7, z8, z9⟩ := hH
  obtain ⟨w1, w2, w3⟩ := hg.cur
  obtain ⟨p1, p2, p3, p4, p5, p6⟩ := id ht
  have hr01 := run01 w1
  refine am_of (by decide) (Nat.le_of_ble_eq_true rfl) (L := [(1, x), (0, w), (9, 0)]) rfl ?_
  generalize hV : abV (ch a) a u n t w = V
  unfold abV at hV
  have hta := hc.2.2.2.2.2.2.2.2.1
  have hse := hc.2.2.2.2.2.2.2.1
  have hsc := hc.2.2.2.2.2.2.2.2.2.2
  refine aw_aload_n dX6_about_0 rfl rfl ⟨by decide, by decide⟩ ?_
  refine aw_cV0q dX6_about_1 ml_RX6_80 (by assumption) (by decide) rfl rfl ⟨by decide, by decide, by decide, by decide⟩ (Nat.le_of_ble_eq_true rfl) (hhp) ?_
  refine aw_astore_n dX6_about_4 rfl (by decide) (by decide) ?_
  have sw : ¬ (2 ≤ w ∧ w ≤ 6) → ¬ (8 ≤ w ∧ w ≤ 11) → AW az_P0 (az_Z (qp K M V) 0 0) (az_rm 2 0 0) yX6_about cX6_about 3 (some .int) 0 0 47 [(1, x), (0, w), (1, h)] [] K M := by
    intro n1 n2
    refine aw_iload_n dX6_about_47 rfl rfl ?_
    by_cases q : w = 0
    · subst q
      refine aw_tsIn (tgt := 140) dX6_about_48 (by omega) (by omega) rfl rfl ?_
      refine aw_aload_n dX6_about_140 rfl rfl ⟨by decide, by decide⟩ ?_
      refine aw_gi 10 dX6_about_141 fl_RX6_244 (by assumption) rfl rfl hsc.1 ?_
      exact aw_iret dX6_about_144 (by decide) (by decide) (qp_i hV)
    rw [if_neg q] at hV
    by_cases q : w = 1
    · subst q
      rw [if_pos rfl] at hV
      refine aw_tsIn (tgt := 145) dX6_about_48 (by omega) (by omega) rfl rfl ?_
      refine aw_aload_n dX6_about_145 rfl rfl ⟨by decide, by decide⟩ ?_
      refine aw_gi 15 dX6_about_146 fl_RX6_135 (by assumption) rfl rfl hsc.2.2.2.2 ?_
      refine aw_if_eq (tgt := 156) dX6_about_149 rfl (fun h149 => ?_) (fun h149 => ?_)
      · refine aw_iconst dX6_about_156 rfl ⟨by decide, by decide⟩ ?_
        exact aw_iret dX6_about_157 (by decide) (by decide) (qp_i (by omega))
      · refine aw_iconst dX6_about_152 rfl ⟨by decide, by decide⟩ ?_
        refine aw_goto (tgt := 157) dX6_about_153 rfl ?_
        exact aw_iret dX6_about_157 (by decide) (by decide) (qp_i (by omega))
    rw [if_neg q, if_neg n1] at hV
    by_cases q : w = 7
    · subst q
      rw [if_pos rfl] at hV
      refine aw_tsIn (tgt := 158) dX6_about_48 (by omega) (by omega) rfl rfl ?_
      refine aw_aload_n dX6_about_158 rfl rfl ⟨by decide, by decide⟩ ?_
      refine aw_cV0p dX6_about_159 ml_RX6_181 (by assumption) (by decide) rfl rfl ⟨by decide, by decide, by decide, by decide⟩ (Nat.le_of_ble_eq_true rfl) (sp_objects hH0 M (WR_of w1.1) hc.2.2.2.2.1 hsc.1) ?_
      exact aw_iret dX6_about_162 (by decide) (by decide) (qp_i hV)
    rw [if_neg q, if_neg n2] at hV
    by_cases q : w = 12
    · subst q
      rw [if_pos rfl] at hV
      refine aw_tsIn (tgt := 163) dX6_about_48 (by omega) (by omega) rfl rfl ?_
      refine aw_aload_n dX6_about_163 rfl rfl ⟨by decide, by decide⟩ ?_
      refine aw_gi 12 dX6_about_164 fl_RX6_223 (by assumption) rfl rfl hsc.2.1 ?_
      exact aw_iret dX6_about_167 (by decide) (by decide) (qp_i hV)
    rw [if_neg q] at hV
    by_cases q : w = 13
    · subst q
      rw [if_pos rfl] at hV
      refine aw_tsIn (tgt := 168) dX6_about_48 (by omega) (by omega) rfl rfl ?_
      refine aw_aload_n dX6_about_168 rfl rfl ⟨by decide, by decide⟩ ?_
      refine aw_gi 2 dX6_about_169 fl_RX6_19 (by assumption) rfl rfl p3 ?_
      exact aw_iret dX6_about_172 (by decide) (by decide) (qp_i hV)
    rw [if_neg q] at hV
    by_cases q : w = 14
    · subst q
      rw [if_pos rfl] at hV
      refine aw_tsIn (tgt := 173) dX6_about_48 (by omega) (by omega) rfl rfl ?_
      refine aw_aload_n dX6_about_173 rfl rfl ⟨by decide, by decide⟩ ?_
      refine aw_gi 3 dX6_about_174 fl_RX6_22 (by assumption) rfl rfl p4 ?_
      exact aw_iret dX6_about_177 (by decide) (by decide) (qp_i hV)
    rw [if_neg q] at hV
    by_cases q : w = 15
    · subst q
      rw [if_pos rfl] at hV
      have v183 := hta 5 (by omega) (by omega)
      refine aw_tsIn (tgt := 178) dX6_about_48 (by omega) (by omega) rfl rfl ?_
      refine aw_aload_n dX6_about_178 rfl rfl ⟨by decide, by decide⟩ ?_
      refine aw_gzF 8 dX6_about_179 fl_RX6_289 (by assumption) rfl rfl (by assumption) ?_
      refine aw_iconst dX6_about_182 rfl ⟨by decide, by decide⟩ ?_
      refine aw_iv dX6_about_183 (by assumption) (by omega) (by omega) v183 ?_
      exact aw_iret dX6_about_184 (by decide) (by decide) (qp_i hV)
    rw [if_neg q] at hV
    by_cases q : w = 16
    · subst q
      rw [if_pos rfl] at hV
      refine aw_tsIn (tgt := 185) dX6_about_48 (by omega) (by omega) rfl rfl ?_
      refine aw_aload_n dX6_about_185 rfl rfl ⟨by decide, by decide⟩ ?_
      refine aw_cV0p dX6_about_186 ml_RX6_192 (by assumption) (by decide) rfl rfl ⟨by decide, by decide, by decide, by decide⟩ (Nat.le_of_ble_eq_true rfl) (sp_toldCycles hH0 M hc) ?_
      exact aw_iret dX6_about_189 (by decide) (by decide) (qp_i hV)
    rw [if_neg q] at hV
    by_cases q : w = 17
    · subst q
      rw [if_pos rfl] at hV
      refine aw_tsIn (tgt := 190) dX6_about_48 (by omega) (by omega) rfl rfl ?_
      refine aw_aload_n dX6_about_190 rfl rfl ⟨by decide, by decide⟩ ?_
      refine aw_gr 12 dX6_about_191 fl_RX6_64 (by assumption) rfl rfl h12 ?_
      refine aw_gi 5 dX6_about_194 fl_RX6_158 (by assumption) rfl rfl hn ?_
      exact aw_iret dX6_about_197 (by decide) (by decide) (qp_i hV)
    rw [if_neg q] at hV
    by_cases q : w = 18
    · subst q
      rw [if_pos rfl] at hV
      refine aw_tsIn (tgt := 198) dX6_about_48 (by omega) (by omega) rfl rfl ?_
      refine aw_aload_n dX6_about_198 rfl rfl ⟨by decide, by decide⟩ ?_
      refine aw_gi 10 dX6_about_199 fl_RX6_51 (by assumption) rfl rfl h10 ?_
      exact aw_iret dX6_about_202 (by decide) (by decide) (qp_i hV)
    rw [if_neg q] at hV
    have fin : AW az_P0 (az_Z (qp K M V) 0 0) (az_rm 2 0 0) yX6_about cX6_about 3 (some .int) 0 0 203 [(1, x), (0, w), (1, h)] [] K M := by
      refine aw_bipush dX6_about_203 (by decide) ⟨by decide, by decide⟩ ?_
      exact aw_iret dX6_about_205 (by decide) (by decide) (qp_i hV)
    exact aw_tsOut (tgt := 203) dX6_about_48 (by omega) rfl fin
  have second : ¬ (2 ≤ w ∧ w ≤ 6) → AW az_P0 (az_Z (qp K M V) 0 0) (az_rm 2 0 0) yX6_about cX6_about 3 (some .int) 0 0 25 [(1, x), (0, w), (1, h)] [] K M := by
    intro n1
    refine aw_iload_n dX6_about_25 rfl rfl ?_
    refine aw_bipush dX6_about_26 (by decide) ⟨by decide, by decide⟩ ?_
    refine aw_icmp_lt (tgt := 47) dX6_about_28 rfl (fun h28 => ?_) (fun h28 => ?_)
    · exact sw n1 (by omega)
    · refine aw_iload_n dX6_about_31 rfl rfl ?_
      refine aw_bipush dX6_about_32 (by decide) ⟨by decide, by decide⟩ ?_
      refine aw_icmp_gt (tgt := 47) dX6_about_34 rfl (fun h34 => ?_) (fun h34 => ?_)
      · exact sw n1 (by omega)
      · have v45 := hse (w - 8) (by omega) (by omega)
        rw [if_neg (by omega), if_neg (by omega), if_neg n1, if_neg (by omega), if_pos (by omega)] at hV
        refine aw_aload_n dX6_about_37 rfl rfl ⟨by decide, by decide⟩ ?_
        refine aw_gzF 7 dX6_about_38 fl_RX6_145 (by assumption) rfl rfl (by assumption) ?_
        refine aw_iload_n dX6_about_41 rfl rfl ?_
        refine aw_bipush dX6_about_42 (by decide) ⟨by decide, by decide⟩ ?_
        refine aw_isub dX6_about_44 (az_wr_id (by omega) (by omega)) ?_
        refine aw_iv dX6_about_45 (by assumption) (by omega) (by omega) v45 ?_
        refine aw_iret dX6_about_46 (by decide) (by decide) (qp_i ?_)
        rw [← hV, show (735 : Int) + (w - 8) = 727 + w by omega]
  refine aw_iload_n dX6_about_5 rfl rfl ?_
  refine aw_iconst dX6_about_6 rfl ⟨by decide, by decide⟩ ?_
  refine aw_icmp_lt (tgt := 25) dX6_about_7 rfl (fun h7 => ?_) (fun h7 => ?_)
  · exact second (by omega)
  · refine aw_iload_n dX6_about_10 rfl rfl ?_
    refine aw_bipush dX6_about_11 (by decide) ⟨by decide, by decide⟩ ?_
    refine aw_icmp_gt (tgt := 25) dX6_about_13 rfl (fun h13 => ?_) (fun h13 => ?_)
    · exact second (by omega)
    · have v23 := hta (w - 2) (by omega) (by omega)
      rw [if_neg (by omega), if_neg (by omega), if_pos (by omega)] at hV
      refine aw_aload_n dX6_about_16 rfl rfl ⟨by decide, by decide⟩ ?_
      refine aw_gzF 8 dX6_about_17 fl_RX6_289 (by assumption) rfl rfl (by assumption) ?_
      refine aw_iload_n dX6_about_20 rfl rfl ?_
      refine aw_iconst dX6_about_21 rfl ⟨by decide, by decide⟩ ?_
      refine aw_isub dX6_about_22 (az_wr_id (by omega) (by omega)) ?_
      refine aw_iv dX6_about_23 (by assumption) (by omega) (by omega) v23 ?_
      refine aw_iret dX6_about_24 (by decide) (by decide) (qp_i ?_)
      rw [← hV, show (729 : Int) + (w - 2) = 727 + w by omega]
theorem sp_cfault (hK : TrK K x) (M : az_M) (w : Int) : AM yX6_fault cX6_fault 2 (some .int) 0 0 0 [(1, x), (0, w)] K M (qp K M (if w = 0 then M (x + 24) 7 else if w = 1 then M (x + 24) 8 else -1)) := by
  have hK0 := hK
  obtain ⟨kx, k1, k2, k3, hT4, k19, hRe, k23, hRt, hS1, hS2, k45, hKp, hBx, y0, y4, y5, y6, y7, y8, y9, y11, y14, n12, n13, r0, r4, q0, q1, xin⟩ := hK
  have kr := hRt.1
  refine am_of (by decide) (Nat.le_of_ble_eq_true rfl) (L := [(1, x), (0, w)]) rfl ?_
  refine aw_iload_n dX6_fault_0 rfl rfl ?_
  refine aw_if_ne (tgt := 12) dX6_fault_1 rfl (fun h1 => ?_) (fun h1 => ?_)
  · rw [if_neg h1]
    refine aw_iload_n dX6_fault_12 rfl rfl ?_
    refine aw_iconst dX6_fault_13 rfl ⟨by decide, by decide⟩ ?_
    refine aw_icmp_ne (tgt := 27) dX6_fault_14 rfl (fun h14 => ?_) (fun h14 => ?_)
    · rw [if_neg h14]
      refine aw_iconst dX6_fault_27 rfl ⟨by decide, by decide⟩ ?_
      exact aw_iret dX6_fault_28 (by decide) (by decide) (qp_i rfl)
    · rw [if_pos h14]
      refine aw_aload_n dX6_fault_17 rfl rfl ⟨by decide, by decide⟩ ?_
      refine aw_gzF 11 dX6_fault_18 fl_RX6_57 (by assumption) rfl rfl (by assumption) ?_
      refine aw_gi 8 dX6_fault_21 fl_RX6_161 (by assumption) rfl rfl rfl ?_
      refine aw_goto (tgt := 28) dX6_fault_24 rfl ?_
      exact aw_iret dX6_fault_28 (by decide) (by decide) (qp_i rfl)
  · rw [if_pos h1]
    refine aw_aload_n dX6_fault_4 rfl rfl ⟨by decide, by decide⟩ ?_
    refine aw_gzF 11 dX6_fault_5 fl_RX6_57 (by assumption) rfl rfl (by assumption) ?_
    refine aw_gi 7 dX6_fault_8 fl_RX6_155 (by assumption) rfl rfl rfl ?_
    exact aw_iret dX6_fault_11 (by decide) (by decide) (qp_i rfl)
theorem sp_ccut (hK : TrK K x) (M : az_M) (t : Int) (ht : M x 10 = t) (w : Int) : AM yX6_cut cX6_cut 2 (some .int) 0 0 0 [(1, x), (0, w)] K M (qi K (fun z M' => (0 ≤ w ∧ w ≤ t → z = w ∧ M' = az_up M x 10 w) ∧ (¬ (0 ≤ w ∧ w ≤ t) → z = -1 ∧ M' = M))) := by
  have hK0 := hK
  obtain ⟨kx, k1, k2, k3, hT4, k19, hRe, k23, hRt, hS1, hS2, k45, hKp, hBx, y0, y4, y5, y6, y7, y8, y9, y11, y14, n12, n13, r0, r4, q0, q1, xin⟩ := hK
  refine am_of (by decide) (Nat.le_of_ble_eq_true rfl) (L := [(1, x), (0, w)]) rfl ?_
  have no : ¬ (0 ≤ w ∧ w ≤ t) → AW az_P0 (az_Z (qi K (fun z M' => (0 ≤ w ∧ w ≤ t → z = w ∧ M' = az_up M x 10 w) ∧ (¬ (0 ≤ w ∧ w ≤ t) → z = -1 ∧ M' = M))) 0 0) (az_rm 0 0 0) yX6_cut cX6_cut 2 (some .int) 0 0 12 [(1, x), (0, w)] [] K M := by
    intro h
    refine aw_iconst dX6_cut_12 rfl ⟨by decide, by decide⟩ ?_
    exact aw_iret dX6_cut_13 (by decide) (by decide) ⟨_, rfl, rfl, fun q => absurd q h, fun _ => ⟨rfl, rfl⟩⟩
  refine aw_iload_n dX6_cut_0 rfl rfl ?_
  refine aw_if_lt (tgt := 12) dX6_cut_1 rfl (fun h1 => ?_) (fun h1 => ?_)
  · exact no (by omega)
  · refine aw_iload_n dX6_cut_4 rfl rfl ?_
    refine aw_aload_n dX6_cut_5 rfl rfl ⟨by decide, by decide⟩ ?_
    refine aw_gi 10 dX6_cut_6 fl_RX6_51 (by assumption) rfl rfl ht ?_
    refine aw_icmp_le (tgt := 14) dX6_cut_9 rfl (fun h9 => ?_) (fun h9 => ?_)
    · refine aw_aload_n dX6_cut_14 rfl rfl ⟨by decide, by decide⟩ ?_
      refine aw_iload_n dX6_cut_15 rfl rfl ?_
      refine aw_pi 10 dX6_cut_16 fl_RX6_51 (by assumption) rfl rfl ?_
      refine aw_iload_n dX6_cut_19 rfl rfl ?_
      exact aw_iret dX6_cut_20 (by decide) (by decide) ⟨_, rfl, rfl, fun _ => ⟨rfl, rfl⟩, fun q => absurd (by omega) q⟩
    · exact no (by omega)
end HX
end QX
