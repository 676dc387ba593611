/-! TreadRing: what is reached -/
set_option maxRecDepth 20000
section RX
variable {K : az_K} {x : Int} {ch : hCh} {a u : Int} {bx : hCh} {bz : Int → Int} {B cu : Int}
theorem CR.far {M : az_M} {q : Int} {R : rSt} (h : CR M q (-1) R) {v : Int} (v0 : 0 ≤ v) (v1 : v < 128) : M (q + 1) v = R.2 v := by
  rw [h.2.2 v v0 v1, if_neg (by omega)]
set_option maxHeartbeats 1000000 in
theorem sp_cslot (hK : TrK K x) (M : az_M) (hg : GW ch a u bx bz B) (ht : TRh M x ch a u bx bz cu) (v w : Int) : AM yX6_slot cX6_slot 5 (some .int) 2 0 0 [(1, x), (0, v), (0, w)] K M (qi K (fun z M' => z = slV (ch a) v w ∧ frY M M' x)) := by
  obtain ⟨h, hh, hH, hc, hhp, hb1, hb2⟩ := ht.now hK hg
  have hK0 := hK
  obtain ⟨kx, k1, k2, k3, hT4, k19, hRe, k23, hRt, hS1, hS2, k45, hKp, hBx, y0, y4, y5, y6, y7, y8, y9, y11, y14, n12, n13, r0, r4, q0, q1, xin⟩ := hK
  have hH0 := hH
  obtain ⟨hRg, kh, k6, k7, k8, k9, k10, k11, k12, k13, k14, z0, z1, z2, z3, z4, z5, z6, z7, z8, z9⟩ := hH
  obtain ⟨w1, w2, w3⟩ := hg.cur
  have kr := hRg.1
  have hRe0 := hRe
  obtain ⟨e0, e1, e2, e3, e4⟩ := hRe
  refine am_of (by decide) (Nat.le_of_ble_eq_true rfl) (L := [(1, x), (0, v), (0, w), (9, 0), (9, 0)]) rfl ?_
  generalize hV : slV (ch a) v w = V
  unfold slV at hV
  refine aw_aload_n dX6_slot_0 rfl rfl ⟨by decide, by decide⟩ ?_
  refine aw_cV0q dX6_slot_1 ml_RX6_80 (by assumption) (by decide) rfl rfl ⟨by decide, by decide, by decide, by decide⟩ (Nat.le_of_ble_eq_true rfl) (hhp) ?_
  refine aw_astore_n dX6_slot_4 rfl (by decide) (by decide) ?_
  refine aw_aload_n dX6_slot_5 rfl rfl ⟨by decide, by decide⟩ ?_
  refine aw_gzF 0 dX6_slot_6 fl_RX6_208 (by assumption) rfl rfl (by assumption) ?_
  refine aw_iload_n dX6_slot_9 rfl rfl ?_
  refine aw_cV1p dX6_slot_10 ml_RX6_212 (by assumption) (by decide) rfl rfl ⟨by decide, by decide, by decide, by decide⟩ (Nat.le_of_ble_eq_true rfl) (qp_c (sp_colourAt hRg M v (HS_ro hc)) (cAt_if hc w1 v)) ?_
  refine aw_istore dX6_slot_13 (by decide) ?_
  by_cases hs : slD (ch a).1 v
  · rw [if_pos hs] at hV
    rw [if_pos hs]
    have v0 := hs.1
    have v1 := hs.2.1
    have hcol := w1.1.2.1 v v0 v1
    refine aw_iload dX6_slot_15 rfl ?_
    refine aw_iconst dX6_slot_17 rfl ⟨by decide, by decide⟩ ?_
    refine aw_icmp_ne (tgt := 23) dX6_slot_18 rfl (fun h18 => ?_) (fun h18 => absurd h18 (by omega))
    refine aw_iload_n dX6_slot_23 rfl rfl ?_
    by_cases q : w = 0
    · subst q
      refine aw_tsIn (tgt := 64) dX6_slot_24 (by omega) (by omega) rfl rfl ?_
      refine aw_iload dX6_slot_64 rfl ?_
      exact aw_iret dX6_slot_66 (by decide) (by decide) ⟨_, rfl, rfl, hV, frY.refl M x⟩
    rw [if_neg q] at hV
    by_cases q : w = 1
    · subst q
      refine aw_tsIn (tgt := 67) dX6_slot_24 (by omega) (by omega) rfl rfl ?_
      refine aw_aload_n dX6_slot_67 rfl rfl ⟨by decide, by decide⟩ ?_
      refine aw_iload_n dX6_slot_68 rfl rfl ?_
      refine aw_cV1p dX6_slot_69 ml_RX6_217 (by assumption) (by decide) rfl rfl ⟨by decide, by decide, by decide, by decide⟩ (Nat.le_of_ble_eq_true rfl) (qp_c (sp_sizeAtC hH0 M v v0 v1) (hc.2.2.2.1 (v / 16) (by omega) (by omega))) ?_
      exact aw_iret dX6_slot_72 (by decide) (by decide) ⟨_, rfl, rfl, hV, frY.refl M x⟩
    rw [if_neg q] at hV
    by_cases q : w = 2
    · subst q
      rw [if_pos rfl] at hV
      refine aw_tsIn (tgt := 73) dX6_slot_24 (by omega) (by omega) rfl rfl ?_
      refine aw_iload dX6_slot_73 rfl ?_
      refine aw_if_ne (tgt := 82) dX6_slot_75 rfl (fun h75 => ?_) (fun h75 => ?_)
      · have v87 := ((hc.2.2.1 v hs).2 h75).1
        refine aw_aload_n dX6_slot_82 rfl rfl ⟨by decide, by decide⟩ ?_
        refine aw_gzF 1 dX6_slot_83 fl_RX6_205 (by assumption) rfl rfl (by assumption) ?_
        refine aw_iload_n dX6_slot_86 rfl rfl ?_
        refine aw_iv dX6_slot_87 (by assumption) (by omega) (by omega) v87 ?_
        exact aw_iret dX6_slot_88 (by decide) (by decide) ⟨_, rfl, rfl, hV, frY.refl M x⟩
      · have := (w1.1.2.2.2.1 v hs).1 (by omega)
        refine aw_iconst dX6_slot_78 rfl ⟨by decide, by decide⟩ ?_
        refine aw_goto (tgt := 88) dX6_slot_79 rfl ?_
        exact aw_iret dX6_slot_88 (by decide) (by decide) ⟨_, rfl, rfl, by omega, frY.refl M x⟩
    rw [if_neg q] at hV
    by_cases q : w = 3
    · subst q
      refine aw_tsIn (tgt := 89) dX6_slot_24 (by omega) (by omega) rfl rfl ?_
      refine aw_aload_n dX6_slot_89 rfl rfl ⟨by decide, by decide⟩ ?_
      refine aw_iload_n dX6_slot_90 rfl rfl ?_
      refine aw_cV1p dX6_slot_91 ml_RX6_220 (by assumption) (by decide) rfl rfl ⟨by decide, by decide, by decide, by decide⟩ (Nat.le_of_ble_eq_true rfl) (sp_namedBy hH0 M hc w1 v hs) ?_
      exact aw_iret dX6_slot_94 (by decide) (by decide) ⟨_, rfl, rfl, hV, frY.refl M x⟩
    rw [if_neg q] at hV
    by_cases q : w = 4
    · subst q
      rw [if_pos rfl] at hV
      have hsc := hc.2.2.2.2.2.2.2.2.2.2
      refine aw_tsIn (tgt := 95) dX6_slot_24 (by omega) (by omega) rfl rfl ?_
      refine aw_iload_n dX6_slot_95 rfl rfl ?_
      refine aw_aload_n dX6_slot_96 rfl rfl ⟨by decide, by decide⟩ ?_
      refine aw_gi 12 dX6_slot_97 fl_RX6_223 (by assumption) rfl rfl hsc.2.1 ?_
      refine aw_icmp_ne (tgt := 110) dX6_slot_100 rfl (fun h100 => ?_) (fun h100 => ?_)
      · rw [if_neg h100] at hV
        refine aw_iconst dX6_slot_110 rfl ⟨by decide, by decide⟩ ?_
        exact aw_iret dX6_slot_111 (by decide) (by decide) ⟨_, rfl, rfl, hV, frY.refl M x⟩
      · rw [if_pos h100] at hV
        refine aw_aload_n dX6_slot_103 rfl rfl ⟨by decide, by decide⟩ ?_
        refine aw_gi 13 dX6_slot_104 fl_RX6_226 (by assumption) rfl rfl hsc.2.2.1 ?_
        refine aw_goto (tgt := 111) dX6_slot_107 rfl ?_
        exact aw_iret dX6_slot_111 (by decide) (by decide) ⟨_, rfl, rfl, hV, frY.refl M x⟩
    rw [if_neg q] at hV
    by_cases q : w = 5
    · subst q
      rw [if_pos rfl] at hV
      have hsp := sp_spread hRe0 hH0 (Or.inl (by omega)) M hc w1 0 6 (by omega) (by omega) (-1) (Or.inl rfl)
      rw [show (0 : Int) + ((6 : Nat) : Int) = 6 from rfl] at hsp
      have hqk := rea_ok w1 (lo := 0) (n := 6) (by omega) (by omega) (-1)
      have hqn := rea_qn (ch a) 0 6 (-1)
      refine aw_tsIn (tgt := 112) dX6_slot_24 (by omega) (by omega) rfl rfl ?_
      generalize rea (ch a) 0 6 (-1) = R at *
      refine aw_aload_n dX6_slot_112 rfl rfl ⟨by decide, by decide⟩ ?_
      refine aw_gzF 8 dX6_slot_113 fl_RX6_44 (by assumption) rfl rfl (by assumption) ?_
      refine aw_aload_n dX6_slot_116 rfl rfl ⟨by decide, by decide⟩ ?_
      refine aw_iconst dX6_slot_117 rfl ⟨by decide, by decide⟩ ?_
      refine aw_bipush dX6_slot_118 (by decide) ⟨by decide, by decide⟩ ?_
      refine aw_iconst dX6_slot_120 rfl ⟨by decide, by decide⟩ ?_
      refine aw_cV4v dX6_slot_121 ml_RX6_185 (by assumption) (by decide) rfl rfl ⟨by decide, by decide, by decide, by decide⟩ (Nat.le_of_ble_eq_true rfl) (hsp) (fun M1 hM1 => ?_)
      have v132 := hM1.1.far v0 v1
      refine aw_aload_n dX6_slot_124 rfl rfl ⟨by decide, by decide⟩ ?_
      refine aw_gzF 8 dX6_slot_125 fl_RX6_44 (by assumption) rfl rfl (by assumption) ?_
      refine aw_gzF 0 dX6_slot_128 fl_RX6_229 (by assumption) rfl rfl (by assumption) ?_
      refine aw_iload_n dX6_slot_131 rfl rfl ?_
      refine aw_iv dX6_slot_132 (by assumption) (by omega) (by omega) v132 ?_
      refine aw_iconst dX6_slot_133 rfl ⟨by decide, by decide⟩ ?_
      refine aw_icmp_ne (tgt := 141) dX6_slot_134 rfl (fun h134 => ?_) (fun h134 => ?_)
      · have hm : v ∈ R.1 := Classical.byContradiction (fun z => h134 (hqn v z))
        rw [if_pos hm] at hV
        refine aw_iconst dX6_slot_141 rfl ⟨by decide, by decide⟩ ?_
        exact aw_iret dX6_slot_142 (by decide) (by decide) ⟨_, rfl, rfl, hV, frY.ofE hM1.2⟩
      · rw [if_neg (fun z => by have := (hqk.2 v z).2.2.1; omega)] at hV
        refine aw_iconst dX6_slot_137 rfl ⟨by decide, by decide⟩ ?_
        refine aw_goto (tgt := 142) dX6_slot_138 rfl ?_
        exact aw_iret dX6_slot_142 (by decide) (by decide) ⟨_, rfl, rfl, hV, frY.ofE hM1.2⟩
    rw [if_neg q] at hV
    refine aw_tsOut (tgt := 143) dX6_slot_24 (by omega) rfl ?_
    refine aw_iconst dX6_slot_143 rfl ⟨by decide, by decide⟩ ?_
    exact aw_iret dX6_slot_144 (by decide) (by decide) ⟨_, rfl, rfl, hV, frY.refl M x⟩
  · rw [if_neg hs] at hV
    rw [if_neg hs]
    refine aw_iload dX6_slot_15 rfl ?_
    refine aw_iconst dX6_slot_17 rfl ⟨by decide, by decide⟩ ?_
    refine aw_icmp_ne (tgt := 23) dX6_slot_18 rfl (fun h18 => absurd h18 (by omega)) (fun h18 => ?_)
    refine aw_iconst dX6_slot_21 rfl ⟨by decide, by decide⟩ ?_
    exact aw_iret dX6_slot_22 (by decide) (by decide) ⟨_, rfl, rfl, hV, frY.refl M x⟩
set_option maxHeartbeats 1000000 in
theorem sp_clive (hK : TrK K x) (M : az_M) (hg : GW ch a u bx bz B) (ht : TRh M x ch a u bx bz cu) (w : Int) : AM yX6_live cX6_live 3 (some .int) 2 0 0 [(1, x), (0, w)] K M (qi K (fun z M' => z = lvV (ch a) w ∧ frY M M' x)) := by
  obtain ⟨h, hh, hH, hc, hhp, hb1, hb2⟩ := ht.now hK hg
  have hK0 := hK
  obtain ⟨kx, k1, k2, k3, hT4, k19, hRe, k23, hRt, hS1, hS2, k45, hKp, hBx, y0, y4, y5, y6, y7, y8, y9, y11, y14, n12, n13, r0, r4, q0, q1, xin⟩ := hK
  have hH0 := hH
  have kh := hH.2.1
  obtain ⟨w1, w2, w3⟩ := hg.cur
  have hRe0 := hRe
  obtain ⟨e0, e1, e2, e3, e4⟩ := hRe
  refine am_of (by decide) (Nat.le_of_ble_eq_true rfl) (L := [(1, x), (0, w), (9, 0)]) rfl ?_
  have hsp := sp_spread hRe0 hH0 (Or.inl (by omega)) M hc w1 0 6 (by omega) (by omega) (-1) (Or.inl rfl)
  rw [show (0 : Int) + ((6 : Nat) : Int) = 6 from rfl] at hsp
  have hqk := rea_ok w1 (lo := 0) (n := 6) (by omega) (by omega) (-1)
  have hqn := rea_qn (ch a) 0 6 (-1)
  have hl := qk_len w1.1.1 hqk
  have hon := obN_le (WR_of w1.1)
  have hr01 := run01 w1
  generalize hV : lvV (ch a) w = V
  unfold lvV at hV
  generalize rea (ch a) 0 6 (-1) = R at *
  have no : ¬ (0 ≤ w ∧ w ≤ 3) → AW az_P0 (az_Z (qi K (fun z M' => z = V ∧ frY M M' x)) 0 0) (az_rm 2 0 0) yX6_live cX6_live 3 (some .int) 0 0 9 [(1, x), (0, w), (9, 0)] [] K M := by
    intro q
    rw [if_neg (by omega), if_neg (by omega), if_neg (by omega), if_neg (by omega)] at hV
    refine aw_iconst dX6_live_9 rfl ⟨by decide, by decide⟩ ?_
    exact aw_iret dX6_live_10 (by decide) (by decide) ⟨_, rfl, rfl, hV, frY.refl M x⟩
  refine aw_iload_n dX6_live_0 rfl rfl ?_
  refine aw_if_lt (tgt := 9) dX6_live_1 rfl (fun h1 => ?_) (fun h1 => ?_)
  · exact no (by omega)
  · refine aw_iload_n dX6_live_4 rfl rfl ?_
    refine aw_iconst dX6_live_5 rfl ⟨by decide, by decide⟩ ?_
    refine aw_icmp_le (tgt := 11) dX6_live_6 rfl (fun h6 => ?_) (fun h6 => ?_)
    · refine aw_aload_n dX6_live_11 rfl rfl ⟨by decide, by decide⟩ ?_
      refine aw_cV0q dX6_live_12 ml_RX6_80 (by assumption) (by decide) rfl rfl ⟨by decide, by decide, by decide, by decide⟩ (Nat.le_of_ble_eq_true rfl) (hhp) ?_
      refine aw_astore_n dX6_live_15 rfl (by decide) (by decide) ?_
      refine aw_aload_n dX6_live_16 rfl rfl ⟨by decide, by decide⟩ ?_
      refine aw_gzF 8 dX6_live_17 fl_RX6_44 (by assumption) rfl rfl (by assumption) ?_
      refine aw_aload_n dX6_live_20 rfl rfl ⟨by decide, by decide⟩ ?_
      refine aw_iconst dX6_live_21 rfl ⟨by decide, by decide⟩ ?_
      refine aw_bipush dX6_live_22 (by decide) ⟨by decide, by decide⟩ ?_
      refine aw_iconst dX6_live_24 rfl ⟨by decide, by decide⟩ ?_
      refine aw_cV4v dX6_live_25 ml_RX6_185 (by assumption) (by decide) rfl rfl ⟨by decide, by decide, by decide, by decide⟩ (Nat.le_of_ble_eq_true rfl) (hsp) (fun M1 hM1 => ?_)
      obtain ⟨r1, f1⟩ := hM1
      have fY := frY.ofE f1
      have hc1 : HS M1 h (ch a) := HS_fr hc (fun b b0 b1 => f1.1 b (by omega))
      refine aw_iload_n dX6_live_28 rfl rfl ?_
      by_cases q : w = 0
      · subst q
        refine aw_tsIn (tgt := 56) dX6_live_29 (by omega) (by omega) rfl rfl ?_
        refine aw_aload_n dX6_live_56 rfl rfl ⟨by decide, by decide⟩ ?_
        refine aw_gzF 8 dX6_live_57 fl_RX6_44 (by assumption) rfl rfl (by assumption) ?_
        refine aw_gi 2 dX6_live_60 fl_RX6_189 (by assumption) rfl rfl r1.1 ?_
        exact aw_iret dX6_live_63 (by decide) (by decide) ⟨_, rfl, rfl, hV, fY⟩
      rw [if_neg q] at hV
      by_cases q : w = 1
      · subst q
        refine aw_tsIn (tgt := 64) dX6_live_29 (by omega) (by omega) rfl rfl ?_
        refine aw_aload_n dX6_live_64 rfl rfl ⟨by decide, by decide⟩ ?_
        refine aw_gzF 8 dX6_live_65 fl_RX6_44 (by assumption) rfl rfl (by assumption) ?_
        refine aw_aload_n dX6_live_68 rfl rfl ⟨by decide, by decide⟩ ?_
        refine aw_cV1p dX6_live_69 ml_RX6_256 (by assumption) (by decide) rfl rfl ⟨by decide, by decide, by decide, by decide⟩ (Nat.le_of_ble_eq_true rfl) (sp_foundCells hRe0 hH0 M1 hc1 w1 r1 hqk) ?_
        exact aw_iret dX6_live_72 (by decide) (by decide) ⟨_, rfl, rfl, hV, fY⟩
      rw [if_neg q] at hV
      by_cases q : w = 2
      · subst q
        refine aw_tsIn (tgt := 73) dX6_live_29 (by omega) (by omega) rfl rfl ?_
        refine aw_aload_n dX6_live_73 rfl rfl ⟨by decide, by decide⟩ ?_
        refine aw_cV0p dX6_live_74 ml_RX6_181 (by assumption) (by decide) rfl rfl ⟨by decide, by decide, by decide, by decide⟩ (Nat.le_of_ble_eq_true rfl) (sp_objects hH0 M1 (WR_of w1.1) hc1.2.2.2.2.1 hc1.2.2.2.2.2.2.2.2.2.2.1) ?_
        refine aw_aload_n dX6_live_77 rfl rfl ⟨by decide, by decide⟩ ?_
        refine aw_gzF 8 dX6_live_78 fl_RX6_44 (by assumption) rfl rfl (by assumption) ?_
        refine aw_gi 2 dX6_live_81 fl_RX6_189 (by assumption) rfl rfl r1.1 ?_
        refine aw_isub dX6_live_84 (az_wr_id (by omega) (by omega)) ?_
        exact aw_iret dX6_live_85 (by decide) (by decide) ⟨_, rfl, rfl, hV, fY⟩
      rw [if_neg q, if_pos (by omega)] at hV
      have v87 : M1 h 15 = (ch a).1 726 := hc1.2.2.2.2.2.2.2.2.2.2.2.2.2.2
      refine aw_tsOut (tgt := 86) dX6_live_29 (by omega) rfl ?_
      refine aw_aload_n dX6_live_86 rfl rfl ⟨by decide, by decide⟩ ?_
      refine aw_gi 15 dX6_live_87 fl_RX6_135 (by assumption) rfl rfl v87 ?_
      refine aw_if_eq (tgt := 104) dX6_live_90 rfl (fun h90 => ?_) (fun h90 => ?_)
      · rw [lo_off (by omega)] at hV
        refine aw_iconst dX6_live_104 rfl ⟨by decide, by decide⟩ ?_
        exact aw_iret dX6_live_105 (by decide) (by decide) ⟨_, rfl, rfl, hV, fY⟩
      · refine aw_aload_n dX6_live_93 rfl rfl ⟨by decide, by decide⟩ ?_
        refine aw_gzF 8 dX6_live_94 fl_RX6_44 (by assumption) rfl rfl (by assumption) ?_
        refine aw_aload_n dX6_live_97 rfl rfl ⟨by decide, by decide⟩ ?_
        refine aw_cV1p dX6_live_98 ml_RX6_260 (by assumption) (by decide) rfl rfl ⟨by decide, by decide, by decide, by decide⟩ (Nat.le_of_ble_eq_true rfl) (sp_floating hRe0 hH0 M1 hc1 w1 r1 hqk hqn (by omega)) ?_
        refine aw_goto (tgt := 105) dX6_live_101 rfl ?_
        exact aw_iret dX6_live_105 (by decide) (by decide) ⟨_, rfl, rfl, hV, fY⟩
    · exact no (by omega)
set_option maxHeartbeats 1000000 in
theorem sp_cpath (hK : TrK K x) (M : az_M) (hg : GW ch a u bx bz B) (ht : TRh M x ch a u bx bz cu) (r v : Int) : AM yX6_path cX6_path 3 (some .int) 2 0 0 [(1, x), (0, r), (0, v)] K M (qi K (fun z M' => z = phV (ch a) r v ∧ frY M M' x)) := by
  obtain ⟨h, hh, hH, hc, hhp, hb1, hb2⟩ := ht.now hK hg
  have hK0 := hK
  obtain ⟨kx, k1, k2, k3, hT4, k19, hRe, k23, hRt, hS1, hS2, k45, hKp, hBx, y0, y4, y5, y6, y7, y8, y9, y11, y14, n12, n13, r0, r4, q0, q1, xin⟩ := hK
  have hH0 := hH
  have kh := hH.2.1
  obtain ⟨w1, w2, w3⟩ := hg.cur
  have hRe0 := hRe
  obtain ⟨e0, e1, e2, e3, e4⟩ := hRe
  refine am_of (by decide) (Nat.le_of_ble_eq_true rfl) (L := [(1, x), (0, r), (0, v)]) rfl ?_
  generalize hV : phV (ch a) r v = V
  unfold phV at hV
  have no : ¬ ((0 ≤ r ∧ r < 6) ∧ obD (ch a).1 v) → AW az_P0 (az_Z (qi K (fun z M' => z = V ∧ frY M M' x)) 0 0) (az_rm 2 0 0) yX6_path cX6_path 3 (some .int) 0 0 18 [(1, x), (0, r), (0, v)] [] K M := by
    intro q
    rw [if_neg q] at hV
    refine aw_iconst dX6_path_18 rfl ⟨by decide, by decide⟩ ?_
    exact aw_iret dX6_path_19 (by decide) (by decide) ⟨_, rfl, rfl, hV, frY.refl M x⟩
  refine aw_iload_n dX6_path_0 rfl rfl ?_
  refine aw_cS1p dX6_path_1 ml_RX6_91 ⟨by decide, by decide, by decide, by decide⟩ (Nat.le_of_ble_eq_true rfl) (sp_cisRoot K M r) ?_
  refine aw_if_eq (tgt := 18) dX6_path_4 rfl (fun h4 => ?_) (fun h4 => ?_)
  · exact no (fun q => if0 h4 q.1)
  · have hr := if1 h4
    refine aw_aload_n dX6_path_7 rfl rfl ⟨by decide, by decide⟩ ?_
    refine aw_cV0q dX6_path_8 ml_RX6_80 (by assumption) (by decide) rfl rfl ⟨by decide, by decide, by decide, by decide⟩ (Nat.le_of_ble_eq_true rfl) (hhp) ?_
    refine aw_iload_n dX6_path_11 rfl rfl ?_
    refine aw_cV1p dX6_path_12 ml_RX6_263 (by assumption) (by decide) rfl rfl ⟨by decide, by decide, by decide, by decide⟩ (Nat.le_of_ble_eq_true rfl) (qp_c (sp_isObjectC hH0 M v (HS_ro hc)) (isO_if hc w1 v)) ?_
    refine aw_if_ne (tgt := 20) dX6_path_15 rfl (fun h15 => ?_) (fun h15 => ?_)
    · have ho := if1 h15
      have v0 := ho.1.1
      have v1 := ho.1.2.1
      rw [if_pos ⟨hr, ho⟩] at hV
      have hsp := sp_spread hRe0 hH0 (Or.inl (by omega)) M hc w1 r 1 hr.1 (by omega) (-1) (Or.inl rfl)
      rw [show r + ((1 : Nat) : Int) = r + 1 from rfl] at hsp
      refine aw_aload_n dX6_path_20 rfl rfl ⟨by decide, by decide⟩ ?_
      refine aw_gzF 8 dX6_path_21 fl_RX6_44 (by assumption) rfl rfl (by assumption) ?_
      refine aw_aload_n dX6_path_24 rfl rfl ⟨by decide, by decide⟩ ?_
      refine aw_cV0q dX6_path_25 ml_RX6_80 (by assumption) (by decide) rfl rfl ⟨by decide, by decide, by decide, by decide⟩ (Nat.le_of_ble_eq_true rfl) (hhp) ?_
      refine aw_iload_n dX6_path_28 rfl rfl ?_
      refine aw_iload_n dX6_path_29 rfl rfl ?_
      refine aw_iconst dX6_path_30 rfl ⟨by decide, by decide⟩ ?_
      refine aw_iadd dX6_path_31 (az_wr_id (by omega) (by omega)) ?_
      refine aw_iconst dX6_path_32 rfl ⟨by decide, by decide⟩ ?_
      refine aw_cV4v dX6_path_33 ml_RX6_185 (by assumption) (by decide) rfl rfl ⟨by decide, by decide, by decide, by decide⟩ (Nat.le_of_ble_eq_true rfl) (hsp) (fun M1 hM1 => ?_)
      have v44 := hM1.1.far v0 v1
      refine aw_aload_n dX6_path_36 rfl rfl ⟨by decide, by decide⟩ ?_
      refine aw_gzF 8 dX6_path_37 fl_RX6_44 (by assumption) rfl rfl (by assumption) ?_
      refine aw_gzF 0 dX6_path_40 fl_RX6_229 (by assumption) rfl rfl (by assumption) ?_
      refine aw_iload_n dX6_path_43 rfl rfl ?_
      refine aw_iv dX6_path_44 (by assumption) (by omega) (by omega) v44 ?_
      exact aw_iret dX6_path_45 (by decide) (by decide) ⟨_, rfl, rfl, hV, frY.ofE hM1.2⟩
    · exact no (fun q => if0 h15 q.2)
set_option maxHeartbeats 1000000 in
theorem sp_cretained (hK : TrK K x) (M : az_M) (hg : GW ch a u bx bz B) (ht : TRh M x ch a u bx bz cu) (v : Int) : AM yX6_retained cX6_retained 3 (some .int) 2 0 0 [(1, x), (0, v)] K M (qi K (fun z M' => z = rtd (ch a) v ∧ frY M M' x)) := by
  obtain ⟨h, hh, hH, hc, hhp, hb1, hb2⟩ := ht.now hK hg
  have ht0 := ht
  have hK0 := hK
  obtain ⟨kx, k1, k2, k3, hT4, k19, hRe, k23, hRt, hS1, hS2, k45, hKp, hBx, y0, y4, y5, y6, y7, y8, y9, y11, y14, n12, n13, r0, r4, q0, q1, xin⟩ := hK
  have hH0 := hH
  have kh := hH.2.1
  obtain ⟨w1, w2, w3⟩ := hg.cur
  have hRe0 := hRe
  obtain ⟨e0, e1, e2, e3, e4⟩ := hRe
  refine am_of (by decide) (Nat.le_of_ble_eq_true rfl) (L := [(1, x), (0, v), (9, 0)]) rfl ?_
  have l1 := rea_len w1 (lo := 0) (n := 6) (by omega) (by omega) (-1)
  have l2 := rea_len w1 (lo := 0) (n := 6) (by omega) (by omega) v
  generalize hV : rtd (ch a) v = V
  unfold rtd at hV
  refine aw_aload_n dX6_retained_0 rfl rfl ⟨by decide, by decide⟩ ?_
  refine aw_cV0q dX6_retained_1 ml_RX6_80 (by assumption) (by decide) rfl rfl ⟨by decide, by decide, by decide, by decide⟩ (Nat.le_of_ble_eq_true rfl) (hhp) ?_
  refine aw_iload_n dX6_retained_4 rfl rfl ?_
  refine aw_cV1p dX6_retained_5 ml_RX6_263 (by assumption) (by decide) rfl rfl ⟨by decide, by decide, by decide, by decide⟩ (Nat.le_of_ble_eq_true rfl) (qp_c (sp_isObjectC hH0 M v (HS_ro hc)) (isO_if hc w1 v)) ?_
  refine aw_if_ne (tgt := 13) dX6_retained_8 rfl (fun h8 => ?_) (fun h8 => ?_)
  · have ho := if1 h8
    have v0 := ho.1.1
    have v1 := ho.1.2.1
    have hsp := sp_spread hRe0 hH0 (Or.inl (by omega)) M hc w1 0 6 (by omega) (by omega) (-1) (Or.inl rfl)
    rw [show (0 : Int) + ((6 : Nat) : Int) = 6 from rfl] at hsp
    have hqk := rea_ok w1 (lo := 0) (n := 6) (by omega) (by omega) (-1)
    have hqn := rea_qn (ch a) 0 6 (-1)
    generalize rea (ch a) 0 6 (-1) = R at *
    refine aw_aload_n dX6_retained_13 rfl rfl ⟨by decide, by decide⟩ ?_
    refine aw_gzF 8 dX6_retained_14 fl_RX6_44 (by assumption) rfl rfl (by assumption) ?_
    refine aw_aload_n dX6_retained_17 rfl rfl ⟨by decide, by decide⟩ ?_
    refine aw_cV0q dX6_retained_18 ml_RX6_80 (by assumption) (by decide) rfl rfl ⟨by decide, by decide, by decide, by decide⟩ (Nat.le_of_ble_eq_true rfl) (hhp) ?_
    refine aw_iconst dX6_retained_21 rfl ⟨by decide, by decide⟩ ?_
    refine aw_bipush dX6_retained_22 (by decide) ⟨by decide, by decide⟩ ?_
    refine aw_iconst dX6_retained_24 rfl ⟨by decide, by decide⟩ ?_
    refine aw_cV4v dX6_retained_25 ml_RX6_185 (by assumption) (by decide) rfl rfl ⟨by decide, by decide, by decide, by decide⟩ (Nat.le_of_ble_eq_true rfl) (hsp) (fun M1 hM1 => ?_)
    obtain ⟨r1, f1⟩ := hM1
    have hc1 : HS M1 h (ch a) := HS_fr hc (fun b b0 b1 => f1.1 b (by omega))
    have v36 := r1.far v0 v1
    have ht1 := ht0.ofY (frY.ofE f1)
    have hhp1 := sp_heap hK0 M1 ht1.1 ht1.2.1.1 ht1.2.1.2
    rw [← hh] at hhp1
    have hsp2 := sp_spread hRe0 hH0 (Or.inl (by omega)) M1 hc1 w1 0 6 (by omega) (by omega) v (Or.inr ⟨v0, v1⟩)
    rw [show (0 : Int) + ((6 : Nat) : Int) = 6 from rfl] at hsp2
    generalize rea (ch a) 0 6 v = R2 at *
    refine aw_aload_n dX6_retained_28 rfl rfl ⟨by decide, by decide⟩ ?_
    refine aw_gzF 8 dX6_retained_29 fl_RX6_44 (by assumption) rfl rfl (by assumption) ?_
    refine aw_gzF 0 dX6_retained_32 fl_RX6_229 (by assumption) rfl rfl (by assumption) ?_
    refine aw_iload_n dX6_retained_35 rfl rfl ?_
    refine aw_iv dX6_retained_36 (by assumption) (by omega) (by omega) v36 ?_
    refine aw_iconst dX6_retained_37 rfl ⟨by decide, by decide⟩ ?_
    refine aw_icmp_ne (tgt := 43) dX6_retained_38 rfl (fun h38 => ?_) (fun h38 => ?_)
    · have hm : v ∈ R.1 := Classical.byContradiction (fun z => h38 (hqn v z))
      rw [if_pos ⟨ho, hm⟩] at hV
      refine aw_aload_n dX6_retained_43 rfl rfl ⟨by decide, by decide⟩ ?_
      refine aw_gzF 8 dX6_retained_44 fl_RX6_44 (by assumption) rfl rfl (by assumption) ?_
      refine aw_gi 2 dX6_retained_47 fl_RX6_189 (by assumption) rfl rfl r1.1 ?_
      refine aw_istore_n dX6_retained_50 rfl (by decide) ?_
      refine aw_aload_n dX6_retained_51 rfl rfl ⟨by decide, by decide⟩ ?_
      refine aw_gzF 8 dX6_retained_52 fl_RX6_44 (by assumption) rfl rfl (by assumption) ?_
      refine aw_aload_n dX6_retained_55 rfl rfl ⟨by decide, by decide⟩ ?_
      refine aw_cV0q dX6_retained_56 ml_RX6_80 (by assumption) (by decide) rfl rfl ⟨by decide, by decide, by decide, by decide⟩ (Nat.le_of_ble_eq_true rfl) (hhp1) ?_
      refine aw_iconst dX6_retained_59 rfl ⟨by decide, by decide⟩ ?_
      refine aw_bipush dX6_retained_60 (by decide) ⟨by decide, by decide⟩ ?_
      refine aw_iload_n dX6_retained_62 rfl rfl ?_
      refine aw_cV4v dX6_retained_63 ml_RX6_185 (by assumption) (by decide) rfl rfl ⟨by decide, by decide, by decide, by decide⟩ (Nat.le_of_ble_eq_true rfl) (hsp2) (fun M2 hM2 => ?_)
      refine aw_iload_n dX6_retained_66 rfl rfl ?_
      refine aw_aload_n dX6_retained_67 rfl rfl ⟨by decide, by decide⟩ ?_
      refine aw_gzF 8 dX6_retained_68 fl_RX6_44 (by assumption) rfl rfl (by assumption) ?_
      refine aw_gi 2 dX6_retained_71 fl_RX6_189 (by assumption) rfl rfl hM2.1.1 ?_
      refine aw_isub dX6_retained_74 (az_wr_id (by omega) (by omega)) ?_
      exact aw_iret dX6_retained_75 (by decide) (by decide) ⟨_, rfl, rfl, hV, (frY.ofE f1).trans (frY.ofE hM2.2)⟩
    · rw [if_neg (fun z => by have := (hqk.2 v z.2).2.2.1; omega)] at hV
      refine aw_iconst dX6_retained_41 rfl ⟨by decide, by decide⟩ ?_
      exact aw_iret dX6_retained_42 (by decide) (by decide) ⟨_, rfl, rfl, hV, frY.ofE f1⟩
  · rw [if_neg (fun z => if0 h8 z.1)] at hV
    refine aw_iconst dX6_retained_11 rfl ⟨by decide, by decide⟩ ?_
    exact aw_iret dX6_retained_12 (by decide) (by decide) ⟨_, rfl, rfl, hV, frY.refl M x⟩
end RX
