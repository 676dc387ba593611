/-! TreadRing: acts -/
set_option maxRecDepth 20000
section AX
variable {K : az_K} {x : Int} {ch : hCh} {a u : Int} {bx : hCh} {bz : Int → Int} {B cu : Int} {T : hSt}
set_option maxHeartbeats 1000000 in
theorem sp_ccopy (hK : TrK K x) (M : az_M) (hg : GW ch a u bx bz B) (ht : TRh M x ch a u bx bz cu) (r o : Int) : AM yX6_copy cX6_copy 4 (some .boolean) 4 0 0 [(1, x), (0, r), (0, o)] K M (qi K (rC ((0 ≤ r ∧ r < 6) ∧ (o = -1 ∨ 0 ≤ o ∧ o < 6)) 1 0 (nameS (ch a) (715 + r) (namV (ch a) o)) ch a u bx bz cu M x)) := by
  have hK0 := hK
  obtain ⟨kx, k1, k2, k3, hT4, k19, hRe, k23, hRt, hS1, hS2, k45, hKp, hBx, y0, y4, y5, y6, y7, y8, y9, y11, y14, n12, n13, r0, r4, q0, q1, xin⟩ := hK
  refine am_of (by decide) (Nat.le_of_ble_eq_true rfl) (L := [(1, x), (0, r), (0, o), (9, 0)]) rfl ?_
  obtain ⟨w1, w2, w3⟩ := hg.cur
  have hcn := nx1_in ht.2.1
  generalize hP : ((0 ≤ r ∧ r < 6) ∧ (o = -1 ∨ 0 ≤ o ∧ o < 6)) = P
  have no : ¬ P → AW az_P0 (az_Z (qi K (rC P 1 0 (nameS (ch a) (715 + r) (namV (ch a) o)) ch a u bx bz cu M x)) 0 0) (az_rm 4 0 0) yX6_copy cX6_copy 4 (some .boolean) 0 0 14 [(1, x), (0, r), (0, o), (9, 0)] [] K M := by
    intro q
    refine aw_iconst dX6_copy_14 rfl ⟨by decide, by decide⟩ ?_
    exact aw_zret dX6_copy_15 (by omega) (by decide) (by decide) ⟨_, rfl, rfl, rC.no q ht⟩
  refine aw_iload_n dX6_copy_0 rfl rfl ?_
  refine aw_cS1p dX6_copy_1 ml_RX6_91 ⟨by decide, by decide, by decide, by decide⟩ (Nat.le_of_ble_eq_true rfl) (sp_cisRoot K M r) ?_
  refine aw_if_eq (tgt := 14) dX6_copy_4 rfl (fun h4 => ?_) (fun h4 => ?_)
  · exact no (fun q => by rw [← hP] at q; exact if0 h4 q.1)
  · refine aw_iload_n dX6_copy_7 rfl rfl ?_
    refine aw_cS1p dX6_copy_8 ml_RX6_112 ⟨by decide, by decide, by decide, by decide⟩ (Nat.le_of_ble_eq_true rfl) (sp_cisRootOrNone K M o) ?_
    refine aw_if_ne (tgt := 16) dX6_copy_11 rfl (fun h11 => ?_) (fun h11 => ?_)
    · have hr := if1 h4
      have ho := if1 h11
      refine aw_aload_n dX6_copy_16 rfl rfl ⟨by decide, by decide⟩ ?_
      refine aw_cV0r dX6_copy_17 ml_RX6_98 (by assumption) (by decide) rfl rfl ⟨by decide, by decide, by decide, by decide⟩ (Nat.le_of_ble_eq_true rfl) (sp_act hK0 M hg ht) (fun h1 M1 hz1 => ?_)
      obtain ⟨e1, t1⟩ := hz1
      have hH1 : HpK K h1 := by rw [e1]; exact (hKp (nx1_ cu) hcn.1 hcn.2).1
      have hc1 : HS M1 h1 (ch a) := by rw [e1]; exact act_hs hg t1.1
      have hH10 := hH1
      obtain ⟨hRg, kh, k6, k7, k8, k9, k10, k11, k12, k13, k14, z0, z1, z2, z3, z4, z5, z6, z7, z8, z9⟩ := hH1
      have hnv : (if o = -1 then -1 else M1 (h1 + 9) o) = namV (ch a) o := by
        unfold namV
        by_cases w : o = -1
        · rw [if_pos w, if_pos w]
        · rw [if_neg w, if_neg w]; exact hc1.2.2.2.2.2.1.1 _ (by omega) (by omega)
      refine aw_astore_n dX6_copy_20 rfl (by decide) (by decide) ?_
      refine aw_aload_n dX6_copy_21 rfl rfl ⟨by decide, by decide⟩ ?_
      refine aw_gzF 4 dX6_copy_22 fl_RX6_119 (by assumption) rfl rfl (by assumption) ?_
      refine aw_iload_n dX6_copy_25 rfl rfl ?_
      refine aw_aload_n dX6_copy_26 rfl rfl ⟨by decide, by decide⟩ ?_
      refine aw_iload_n dX6_copy_27 rfl rfl ?_
      refine aw_cV1p dX6_copy_28 ml_RX6_122 (by assumption) (by decide) rfl rfl ⟨by decide, by decide, by decide, by decide⟩ (Nat.le_of_ble_eq_true rfl) (qp_c (sp_rootOrNone hH10 M1 o ho) hnv) ?_
      refine aw_iast dX6_copy_31 (by assumption) (by omega) (by omega) ?_
      refine aw_iconst dX6_copy_32 rfl ⟨by decide, by decide⟩ ?_
      refine aw_zret dX6_copy_33 (by omega) (by decide) (by decide) ⟨_, rfl, rfl, rC.yes (by rw [← hP]; exact ⟨hr, ho⟩) hg t1 ?_ ?_⟩
      · rw [← e1]; exact HC_root hc1 w1.1.1 w1.1.2.2.2.1 hr.1 hr.2
      · rw [← e1]; exact fun b hb => up_oth _ _ _ (by omega)
    · exact no (fun q => by rw [← hP] at q; exact if0 h11 q.2)
set_option maxHeartbeats 1000000 in
theorem sp_cweak (hK : TrK K x) (M : az_M) (hg : GW ch a u bx bz B) (ht : TRh M x ch a u bx bz cu) (r o : Int) : AM yX6_weak cX6_weak 4 (some .boolean) 4 0 0 [(1, x), (0, r), (0, o)] K M (qi K (rC ((0 ≤ r ∧ r < 4) ∧ (o = -1 ∨ 0 ≤ o ∧ o < 6)) 1 0 (nameS (ch a) (721 + r) (namV (ch a) o)) ch a u bx bz cu M x)) := by
  have hK0 := hK
  obtain ⟨kx, k1, k2, k3, hT4, k19, hRe, k23, hRt, hS1, hS2, k45, hKp, hBx, y0, y4, y5, y6, y7, y8, y9, y11, y14, n12, n13, r0, r4, q0, q1, xin⟩ := hK
  refine am_of (by decide) (Nat.le_of_ble_eq_true rfl) (L := [(1, x), (0, r), (0, o), (9, 0)]) rfl ?_
  obtain ⟨w1, w2, w3⟩ := hg.cur
  have hcn := nx1_in ht.2.1
  generalize hP : ((0 ≤ r ∧ r < 4) ∧ (o = -1 ∨ 0 ≤ o ∧ o < 6)) = P
  have no : ¬ P → AW az_P0 (az_Z (qi K (rC P 1 0 (nameS (ch a) (721 + r) (namV (ch a) o)) ch a u bx bz cu M x)) 0 0) (az_rm 4 0 0) yX6_weak cX6_weak 4 (some .boolean) 0 0 14 [(1, x), (0, r), (0, o), (9, 0)] [] K M := by
    intro q
    refine aw_iconst dX6_weak_14 rfl ⟨by decide, by decide⟩ ?_
    exact aw_zret dX6_weak_15 (by omega) (by decide) (by decide) ⟨_, rfl, rfl, rC.no q ht⟩
  refine aw_iload_n dX6_weak_0 rfl rfl ?_
  refine aw_cS1p dX6_weak_1 ml_RX6_126 ⟨by decide, by decide, by decide, by decide⟩ (Nat.le_of_ble_eq_true rfl) (sp_cisWeak K M r) ?_
  refine aw_if_eq (tgt := 14) dX6_weak_4 rfl (fun h4 => ?_) (fun h4 => ?_)
  · exact no (fun q => by rw [← hP] at q; exact if0 h4 q.1)
  · refine aw_iload_n dX6_weak_7 rfl rfl ?_
    refine aw_cS1p dX6_weak_8 ml_RX6_112 ⟨by decide, by decide, by decide, by decide⟩ (Nat.le_of_ble_eq_true rfl) (sp_cisRootOrNone K M o) ?_
    refine aw_if_ne (tgt := 16) dX6_weak_11 rfl (fun h11 => ?_) (fun h11 => ?_)
    · have hr := if1 h4
      have ho := if1 h11
      refine aw_aload_n dX6_weak_16 rfl rfl ⟨by decide, by decide⟩ ?_
      refine aw_cV0r dX6_weak_17 ml_RX6_98 (by assumption) (by decide) rfl rfl ⟨by decide, by decide, by decide, by decide⟩ (Nat.le_of_ble_eq_true rfl) (sp_act hK0 M hg ht) (fun h1 M1 hz1 => ?_)
      obtain ⟨e1, t1⟩ := hz1
      have hH1 : HpK K h1 := by rw [e1]; exact (hKp (nx1_ cu) hcn.1 hcn.2).1
      have hc1 : HS M1 h1 (ch a) := by rw [e1]; exact act_hs hg t1.1
      have hH10 := hH1
      obtain ⟨hRg, kh, k6, k7, k8, k9, k10, k11, k12, k13, k14, z0, z1, z2, z3, z4, z5, z6, z7, z8, z9⟩ := hH1
      have hnv : (if o = -1 then -1 else M1 (h1 + 9) o) = namV (ch a) o := by
        unfold namV
        by_cases w : o = -1
        · rw [if_pos w, if_pos w]
        · rw [if_neg w, if_neg w]; exact hc1.2.2.2.2.2.1.1 _ (by omega) (by omega)
      refine aw_astore_n dX6_weak_20 rfl (by decide) (by decide) ?_
      refine aw_aload_n dX6_weak_21 rfl rfl ⟨by decide, by decide⟩ ?_
      refine aw_gzF 5 dX6_weak_22 fl_RX6_129 (by assumption) rfl rfl (by assumption) ?_
      refine aw_iload_n dX6_weak_25 rfl rfl ?_
      refine aw_aload_n dX6_weak_26 rfl rfl ⟨by decide, by decide⟩ ?_
      refine aw_iload_n dX6_weak_27 rfl rfl ?_
      refine aw_cV1p dX6_weak_28 ml_RX6_122 (by assumption) (by decide) rfl rfl ⟨by decide, by decide, by decide, by decide⟩ (Nat.le_of_ble_eq_true rfl) (qp_c (sp_rootOrNone hH10 M1 o ho) hnv) ?_
      refine aw_iast dX6_weak_31 (by assumption) (by omega) (by omega) ?_
      refine aw_iconst dX6_weak_32 rfl ⟨by decide, by decide⟩ ?_
      refine aw_zret dX6_weak_33 (by omega) (by decide) (by decide) ⟨_, rfl, rfl, rC.yes (by rw [← hP]; exact ⟨hr, ho⟩) hg t1 ?_ ?_⟩
      · rw [← e1]; exact HC_weak hc1 w1.1.1 w1.1.2.2.2.1 hr.1 hr.2
      · rw [← e1]; exact fun b hb => up_oth _ _ _ (by omega)
    · exact no (fun q => by rw [← hP] at q; exact if0 h11 q.2)
set_option maxHeartbeats 1000000 in
theorem sp_cstrong (hK : TrK K x) (M : az_M) (hg : GW ch a u bx bz B) (ht : TRh M x ch a u bx bz cu) (r w : Int) : AM yX6_strong cX6_strong 3 (some .int) 4 0 0 [(1, x), (0, r), (0, w)] K M (qi K (rC ((0 ≤ r ∧ r < 6) ∧ 0 ≤ w ∧ w < 4) ((ch a).1 (721 + w)) (-2) (strS (ch a) r w) ch a u bx bz cu M x)) := by
  have hK0 := hK
  obtain ⟨kx, k1, k2, k3, hT4, k19, hRe, k23, hRt, hS1, hS2, k45, hKp, hBx, y0, y4, y5, y6, y7, y8, y9, y11, y14, n12, n13, r0, r4, q0, q1, xin⟩ := hK
  refine am_of (by decide) (Nat.le_of_ble_eq_true rfl) (L := [(1, x), (0, r), (0, w)]) rfl ?_
  obtain ⟨w1, w2, w3⟩ := hg.cur
  have hcn := nx1_in ht.2.1
  generalize hP : ((0 ≤ r ∧ r < 6) ∧ 0 ≤ w ∧ w < 4) = P
  have no : ¬ P → AW az_P0 (az_Z (qi K (rC P ((ch a).1 (721 + w)) (-2) (strS (ch a) r w) ch a u bx bz cu M x)) 0 0) (az_rm 4 0 0) yX6_strong cX6_strong 3 (some .int) 0 0 14 [(1, x), (0, r), (0, w)] [] K M := by
    intro q
    refine aw_bipush dX6_strong_14 (by decide) ⟨by decide, by decide⟩ ?_
    exact aw_iret dX6_strong_16 (by decide) (by decide) ⟨_, rfl, rfl, rC.no q ht⟩
  refine aw_iload_n dX6_strong_0 rfl rfl ?_
  refine aw_cS1p dX6_strong_1 ml_RX6_91 ⟨by decide, by decide, by decide, by decide⟩ (Nat.le_of_ble_eq_true rfl) (sp_cisRoot K M r) ?_
  refine aw_if_eq (tgt := 14) dX6_strong_4 rfl (fun h4 => ?_) (fun h4 => ?_)
  · exact no (fun q => by rw [← hP] at q; exact if0 h4 q.1)
  · refine aw_iload_n dX6_strong_7 rfl rfl ?_
    refine aw_cS1p dX6_strong_8 ml_RX6_126 ⟨by decide, by decide, by decide, by decide⟩ (Nat.le_of_ble_eq_true rfl) (sp_cisWeak K M w) ?_
    refine aw_if_ne (tgt := 17) dX6_strong_11 rfl (fun h11 => ?_) (fun h11 => ?_)
    · have hr := if1 h4
      have ho := if1 h11
      refine aw_aload_n dX6_strong_17 rfl rfl ⟨by decide, by decide⟩ ?_
      refine aw_cV0r dX6_strong_18 ml_RX6_98 (by assumption) (by decide) rfl rfl ⟨by decide, by decide, by decide, by decide⟩ (Nat.le_of_ble_eq_true rfl) (sp_act hK0 M hg ht) (fun h1 M1 hz1 => ?_)
      obtain ⟨e1, t1⟩ := hz1
      have hH1 : HpK K h1 := by rw [e1]; exact (hKp (nx1_ cu) hcn.1 hcn.2).1
      have hc1 : HS M1 h1 (ch a) := by rw [e1]; exact act_hs hg t1.1
      have kh := hH1.2.1
      refine aw_iload_n dX6_strong_21 rfl rfl ?_
      refine aw_iload_n dX6_strong_22 rfl rfl ?_
      refine aw_cV2i dX6_strong_23 ml_RX6_132 (by assumption) (by decide) rfl rfl ⟨by decide, by decide, by decide, by decide⟩ (Nat.le_of_ble_eq_true rfl) (sp_strengthen hH1 M1 hc1 w1 r w hr.1 hr.2 ho.1 ho.2) (fun z2 M2 hz2 => ?_)
      obtain ⟨e2, t2, f2⟩ := hz2
      subst e2
      rw [e1] at t2 f2
      exact aw_iret dX6_strong_26 (by decide) (by decide) ⟨_, rfl, rfl, rC.yes (by rw [← hP]; exact ⟨hr, ho⟩) hg t1 t2 f2⟩
    · exact no (fun q => by rw [← hP] at q; exact if0 h11 q.2)
set_option maxHeartbeats 1000000 in
theorem sp_cstart (hK : TrK K x) (M : az_M) (hg : GW ch a u bx bz B) (hB : B ≤ 19990000) (ht : TRh M x ch a u bx bz cu) : AM yX6_start cX6_start 1 (some .boolean) 4 0 0 [(1, x)] K M (qi K (rC ((ch a).1 726 = 0) 1 0 (startS (ch a)) ch a u bx bz cu M x)) := by
  obtain ⟨h, hh, hH, hc, hhp, hb1, hb2⟩ := ht.now hK hg
  have hK0 := hK
  obtain ⟨kx, k1, k2, k3, hT4, k19, hRe, k23, hRt, hS1, hS2, k45, hKp, hBx, y0, y4, y5, y6, y7, y8, y9, y11, y14, n12, n13, r0, r4, q0, q1, xin⟩ := hK
  refine am_of (by decide) (Nat.le_of_ble_eq_true rfl) (L := [(1, x)]) rfl ?_
  obtain ⟨w1, w2, w3⟩ := hg.cur
  have hcn := nx1_in ht.2.1
  have kh := hH.2.1
  have v4 : M h 15 = (ch a).1 726 := hc.2.2.2.2.2.2.2.2.2.2.2.2.2.2
  refine aw_aload_n dX6_start_0 rfl rfl ⟨by decide, by decide⟩ ?_
  refine aw_cV0q dX6_start_1 ml_RX6_80 (by assumption) (by decide) rfl rfl ⟨by decide, by decide, by decide, by decide⟩ (Nat.le_of_ble_eq_true rfl) (hhp) ?_
  refine aw_gi 15 dX6_start_4 fl_RX6_135 (by assumption) rfl rfl v4 ?_
  refine aw_if_eq (tgt := 12) dX6_start_7 rfl (fun h7 => ?_) (fun h7 => ?_)
  · refine aw_aload_n dX6_start_12 rfl rfl ⟨by decide, by decide⟩ ?_
    refine aw_cV0r dX6_start_13 ml_RX6_98 (by assumption) (by decide) rfl rfl ⟨by decide, by decide, by decide, by decide⟩ (Nat.le_of_ble_eq_true rfl) (sp_act hK0 M hg ht) (fun h1 M1 hz1 => ?_)
    obtain ⟨e1, t1⟩ := hz1
    have hH1 : HpK K h1 := by rw [e1]; exact (hKp (nx1_ cu) hcn.1 hcn.2).1
    have hc1 : HS M1 h1 (ch a) := by rw [e1]; exact act_hs hg t1.1
    have kh1 := hH1.2.1
    refine aw_cV0v dX6_start_16 ml_RX6_139 (by assumption) (by decide) rfl rfl ⟨by decide, by decide, by decide, by decide⟩ (Nat.le_of_ble_eq_true rfl) (sp_begin hH1 M1 hc1 w1.1 h7 (by omega)) (fun M2 hM2 => ?_)
    refine aw_iconst dX6_start_19 rfl ⟨by decide, by decide⟩ ?_
    obtain ⟨t2, -, f2⟩ := hM2
    rw [e1] at t2 f2
    exact aw_zret dX6_start_20 (by omega) (by decide) (by decide) ⟨_, rfl, rfl, rC.yes h7 hg t1 t2 f2⟩
  · refine aw_iconst dX6_start_10 rfl ⟨by decide, by decide⟩ ?_
    exact aw_zret dX6_start_11 (by omega) (by decide) (by decide) ⟨_, rfl, rfl, rC.no h7 ht⟩
set_option maxHeartbeats 1000000 in
theorem sp_cwork (hK : TrK K x) (M : az_M) (hg : GW ch a u bx bz B) (hB : B ≤ 19990000) (ht : TRh M x ch a u bx bz cu) (n : Int) : AM yX6_work cX6_work 2 (some .int) 4 0 0 [(1, x), (0, n)] K M (qi K (rC ((ch a).1 726 = 1 ∧ 1 ≤ n ∧ n ≤ 500) (advN n.toNat (ch a) : Int) (-1) (advS n.toNat (ch a)) ch a u bx bz cu M x)) := by
  obtain ⟨h, hh, hH, hc, hhp, hb1, hb2⟩ := ht.now hK hg
  have hK0 := hK
  obtain ⟨kx, k1, k2, k3, hT4, k19, hRe, k23, hRt, hS1, hS2, k45, hKp, hBx, y0, y4, y5, y6, y7, y8, y9, y11, y14, n12, n13, r0, r4, q0, q1, xin⟩ := hK
  refine am_of (by decide) (Nat.le_of_ble_eq_true rfl) (L := [(1, x), (0, n)]) rfl ?_
  obtain ⟨w1, w2, w3⟩ := hg.cur
  have hcn := nx1_in ht.2.1
  have kh := hH.2.1
  have v4 : M h 15 = (ch a).1 726 := hc.2.2.2.2.2.2.2.2.2.2.2.2.2.2
  have hr01 := run01 w1
  generalize hP : ((ch a).1 726 = 1 ∧ 1 ≤ n ∧ n ≤ 500) = P
  have no : ¬ P → AW az_P0 (az_Z (qi K (rC P (advN n.toNat (ch a) : Int) (-1) (advS n.toNat (ch a)) ch a u bx bz cu M x)) 0 0) (az_rm 4 0 0) yX6_work cX6_work 2 (some .int) 0 0 22 [(1, x), (0, n)] [] K M := by
    intro q
    refine aw_iconst dX6_work_22 rfl ⟨by decide, by decide⟩ ?_
    exact aw_iret dX6_work_23 (by decide) (by decide) ⟨_, rfl, rfl, rC.no q ht⟩
  refine aw_aload_n dX6_work_0 rfl rfl ⟨by decide, by decide⟩ ?_
  refine aw_cV0q dX6_work_1 ml_RX6_80 (by assumption) (by decide) rfl rfl ⟨by decide, by decide, by decide, by decide⟩ (Nat.le_of_ble_eq_true rfl) (hhp) ?_
  refine aw_gi 15 dX6_work_4 fl_RX6_135 (by assumption) rfl rfl v4 ?_
  refine aw_if_eq (tgt := 22) dX6_work_7 rfl (fun h7 => ?_) (fun h7 => ?_)
  · exact no (fun q => by rw [← hP] at q; omega)
  · refine aw_iload_n dX6_work_10 rfl rfl ?_
    refine aw_iconst dX6_work_11 rfl ⟨by decide, by decide⟩ ?_
    refine aw_icmp_lt (tgt := 22) dX6_work_12 rfl (fun h12 => ?_) (fun h12 => ?_)
    · exact no (fun q => by rw [← hP] at q; omega)
    · refine aw_iload_n dX6_work_15 rfl rfl ?_
      refine aw_sipush dX6_work_16 (by decide) ⟨by decide, by decide⟩ ?_
      refine aw_icmp_le (tgt := 24) dX6_work_19 rfl (fun h19 => ?_) (fun h19 => ?_)
      · refine aw_aload_n dX6_work_24 rfl rfl ⟨by decide, by decide⟩ ?_
        refine aw_cV0r dX6_work_25 ml_RX6_98 (by assumption) (by decide) rfl rfl ⟨by decide, by decide, by decide, by decide⟩ (Nat.le_of_ble_eq_true rfl) (sp_act hK0 M hg ht) (fun h1 M1 hz1 => ?_)
        obtain ⟨e1, t1⟩ := hz1
        have hH1 : HpK K h1 := by rw [e1]; exact (hKp (nx1_ cu) hcn.1 hcn.2).1
        have hc1 : HS M1 h1 (ch a) := by rw [e1]; exact act_hs hg t1.1
        have kh1 := hH1.2.1
        refine aw_iload_n dX6_work_28 rfl rfl ?_
        refine aw_cV1i dX6_work_29 ml_RX6_142 (by assumption) (by decide) rfl rfl ⟨by decide, by decide, by decide, by decide⟩ (Nat.le_of_ble_eq_true rfl) (sp_advance hH1 M1 hc1 w1 (by omega) n (by omega) (by omega)) (fun z2 M2 hz2 => ?_)
        obtain ⟨e2, t2, f2⟩ := hz2
        subst e2
        rw [e1] at t2 f2
        exact aw_iret dX6_work_32 (by decide) (by decide) ⟨_, rfl, rfl, rC.yes (by rw [← hP]; omega) hg t1 t2 f2⟩
      · exact no (fun q => by rw [← hP] at q; omega)
set_option maxHeartbeats 1000000 in
theorem sp_cturn (hK : TrK K x) (M : az_M) (hg : GW ch a u bx bz B) (ht : TRh M x ch a u bx bz cu) (w v : Int) : AM yX6_turn cX6_turn 6 (some .int) 4 0 0 [(1, x), (0, w), (0, v)] K M (qi K (rC ((0 ≤ w ∧ w < 4) ∧ (0 ≤ v ∧ v ≤ if w < 2 then 3 else 16) ∧ ¬ (w = 0 ∧ (ch a).1 726 = 1)) ((ch a).1 (735 + w)) (-1) (nameS (ch a) (735 + w) v) ch a u bx bz cu M x)) := by
  obtain ⟨h, hh, hH, hc, hhp, hb1, hb2⟩ := ht.now hK hg
  have hK0 := hK
  obtain ⟨kx, k1, k2, k3, hT4, k19, hRe, k23, hRt, hS1, hS2, k45, hKp, hBx, y0, y4, y5, y6, y7, y8, y9, y11, y14, n12, n13, r0, r4, q0, q1, xin⟩ := hK
  refine am_of (by decide) (Nat.le_of_ble_eq_true rfl) (L := [(1, x), (0, w), (0, v), (9, 0), (9, 0), (9, 0)]) rfl ?_
  obtain ⟨w1, w2, w3⟩ := hg.cur
  have hcn := nx1_in ht.2.1
  have kh := hH.2.1
  have v44 : M h 15 = (ch a).1 726 := hc.2.2.2.2.2.2.2.2.2.2.2.2.2.2
  have hr01 := run01 w1
  generalize hP : ((0 ≤ w ∧ w < 4) ∧ (0 ≤ v ∧ v ≤ if w < 2 then 3 else 16) ∧ ¬ (w = 0 ∧ (ch a).1 726 = 1)) = P
  have no : ¬ P → AW az_P0 (az_Z (qi K (rC P ((ch a).1 (735 + w)) (-1) (nameS (ch a) (735 + w) v) ch a u bx bz cu M x)) 0 0) (az_rm 4 0 0) yX6_turn cX6_turn 6 (some .int) 0 0 13 [(1, x), (0, w), (0, v), (9, 0), (9, 0), (9, 0)] [] K M := by
    intro q
    refine aw_iconst dX6_turn_13 rfl ⟨by decide, by decide⟩ ?_
    exact aw_iret dX6_turn_14 (by decide) (by decide) ⟨_, rfl, rfl, rC.no q ht⟩
  have rest : 0 ≤ w → w < 4 → 0 ≤ v → ∀ m : Int, m = (if w < 2 then 3 else 16) → AW az_P0 (az_Z (qi K (rC P ((ch a).1 (735 + w)) (-1) (nameS (ch a) (735 + w) v) ch a u bx bz cu M x)) 0 0) (az_rm 4 0 0) yX6_turn cX6_turn 6 (some .int) 0 0 30 [(1, x), (0, w), (0, v), (9, 0), (9, 0), (9, 0)] [(0, m)] K M := by
    intro ww0 ww1 v0 m hm
    have no2 : ¬ P → AW az_P0 (az_Z (qi K (rC P ((ch a).1 (735 + w)) (-1) (nameS (ch a) (735 + w) v) ch a u bx bz cu M x)) 0 0) (az_rm 4 0 0) yX6_turn cX6_turn 6 (some .int) 0 0 50 [(1, x), (0, w), (0, v), (0, m), (9, 0), (9, 0)] [] K M := by
      intro q
      refine aw_iconst dX6_turn_50 rfl ⟨by decide, by decide⟩ ?_
      exact aw_iret dX6_turn_51 (by decide) (by decide) ⟨_, rfl, rfl, rC.no q ht⟩
    have yes : v ≤ m → ¬ (w = 0 ∧ (ch a).1 726 = 1) → AW az_P0 (az_Z (qi K (rC P ((ch a).1 (735 + w)) (-1) (nameS (ch a) (735 + w) v) ch a u bx bz cu M x)) 0 0) (az_rm 4 0 0) yX6_turn cX6_turn 6 (some .int) 0 0 52 [(1, x), (0, w), (0, v), (0, m), (9, 0), (9, 0)] [] K M := by
      intro vm hnr
      refine aw_aload_n dX6_turn_52 rfl rfl ⟨by decide, by decide⟩ ?_
      refine aw_cV0r dX6_turn_53 ml_RX6_98 (by assumption) (by decide) rfl rfl ⟨by decide, by decide, by decide, by decide⟩ (Nat.le_of_ble_eq_true rfl) (sp_act hK0 M hg ht) (fun h1 M1 hz1 => ?_)
      obtain ⟨e1, t1⟩ := hz1
      have hH1 : HpK K h1 := by rw [e1]; exact (hKp (nx1_ cu) hcn.1 hcn.2).1
      have hc1 : HS M1 h1 (ch a) := by rw [e1]; exact act_hs hg t1.1
      obtain ⟨hRg, kh1, k6, k7, k8, k9, k10, k11, k12, k13, k14, z0, z1, z2, z3, z4, z5, z6, z7, z8, z9⟩ := hH1
      have v64 : M1 (h1 + 12) w = (ch a).1 (735 + w) := hc1.2.2.2.2.2.2.2.1 w ww0 ww1
      refine aw_astore dX6_turn_56 (by decide) (by decide) ?_
      refine aw_aload dX6_turn_58 rfl ⟨by decide, by decide⟩ ?_
      refine aw_gzF 7 dX6_turn_60 fl_RX6_145 (by assumption) rfl rfl (by assumption) ?_
      refine aw_iload_n dX6_turn_63 rfl rfl ?_
      refine aw_iv dX6_turn_64 (by assumption) (by omega) (by omega) v64 ?_
      refine aw_istore dX6_turn_65 (by decide) ?_
      refine aw_aload dX6_turn_67 rfl ⟨by decide, by decide⟩ ?_
      refine aw_gzF 7 dX6_turn_69 fl_RX6_145 (by assumption) rfl rfl (by assumption) ?_
      refine aw_iload_n dX6_turn_72 rfl rfl ?_
      refine aw_iload_n dX6_turn_73 rfl rfl ?_
      refine aw_iast dX6_turn_74 (by assumption) (by omega) (by omega) ?_
      refine aw_iload dX6_turn_75 rfl ?_
      refine aw_iret dX6_turn_77 (by decide) (by decide) ⟨_, rfl, rfl, rC.yes (by rw [← hP]; exact ⟨⟨ww0, ww1⟩, ⟨v0, by omega⟩, hnr⟩) hg t1 ?_ ?_⟩
      · rw [← e1]; exact HC_setg hc1 w1.1.1 w1.1.2.2.2.1 ww0 ww1
      · rw [← e1]; exact fun b hb => up_oth _ _ _ (by omega)
    refine aw_istore_n dX6_turn_30 rfl (by decide) ?_
    refine aw_iload_n dX6_turn_31 rfl rfl ?_
    refine aw_iload_n dX6_turn_32 rfl rfl ?_
    refine aw_icmp_gt (tgt := 50) dX6_turn_33 rfl (fun h33 => ?_) (fun h33 => ?_)
    · exact no2 (fun q => by rw [← hP] at q; have := q.2.1.2; omega)
    · refine aw_iload_n dX6_turn_36 rfl rfl ?_
      refine aw_if_ne (tgt := 52) dX6_turn_37 rfl (fun h37 => ?_) (fun h37 => ?_)
      · exact yes (by omega) (fun q => h37 q.1)
      · refine aw_aload_n dX6_turn_40 rfl rfl ⟨by decide, by decide⟩ ?_
        refine aw_cV0q dX6_turn_41 ml_RX6_80 (by assumption) (by decide) rfl rfl ⟨by decide, by decide, by decide, by decide⟩ (Nat.le_of_ble_eq_true rfl) (hhp) ?_
        refine aw_gi 15 dX6_turn_44 fl_RX6_135 (by assumption) rfl rfl v44 ?_
        refine aw_if_eq (tgt := 52) dX6_turn_47 rfl (fun h47 => ?_) (fun h47 => ?_)
        · exact yes (by omega) (fun q => by omega)
        · exact no2 (fun q => by rw [← hP] at q; exact q.2.2 ⟨by omega, by omega⟩)
  refine aw_iload_n dX6_turn_0 rfl rfl ?_
  refine aw_if_lt (tgt := 13) dX6_turn_1 rfl (fun h1 => ?_) (fun h1 => ?_)
  · exact no (fun q => by rw [← hP] at q; have := q.1; omega)
  · refine aw_iload_n dX6_turn_4 rfl rfl ?_
    refine aw_iconst dX6_turn_5 rfl ⟨by decide, by decide⟩ ?_
    refine aw_icmp_ge (tgt := 13) dX6_turn_6 rfl (fun h6 => ?_) (fun h6 => ?_)
    · exact no (fun q => by rw [← hP] at q; have := q.1; omega)
    · refine aw_iload_n dX6_turn_9 rfl rfl ?_
      refine aw_if_ge (tgt := 15) dX6_turn_10 rfl (fun h10 => ?_) (fun h10 => ?_)
      · refine aw_iload_n dX6_turn_15 rfl rfl ?_
        refine aw_if_eq (tgt := 24) dX6_turn_16 rfl (fun h16 => ?_) (fun h16 => ?_)
        · refine aw_iconst dX6_turn_24 rfl ⟨by decide, by decide⟩ ?_
          refine aw_goto (tgt := 30) dX6_turn_25 rfl ?_
          exact rest (by omega) (by omega) (by omega) 3 (by rw [if_pos (by omega)])
        · refine aw_iload_n dX6_turn_19 rfl rfl ?_
          refine aw_iconst dX6_turn_20 rfl ⟨by decide, by decide⟩ ?_
          refine aw_icmp_ne (tgt := 28) dX6_turn_21 rfl (fun h21 => ?_) (fun h21 => ?_)
          · refine aw_bipush dX6_turn_28 (by decide) ⟨by decide, by decide⟩ ?_
            exact rest (by omega) (by omega) (by omega) 16 (by rw [if_neg (by omega)])
          · refine aw_iconst dX6_turn_24 rfl ⟨by decide, by decide⟩ ?_
            refine aw_goto (tgt := 30) dX6_turn_25 rfl ?_
            exact rest (by omega) (by omega) (by omega) 3 (by rw [if_pos (by omega)])
      · exact no (fun q => by rw [← hP] at q; have := q.2.1.1; omega)
set_option maxHeartbeats 1000000 in
theorem sp_copen (hK : TrK K x) (M : az_M) (hg : GW ch a u bx bz B) (ht : TRh M x ch a u bx bz cu) (n : Int) : AM yX6_open cX6_open 2 (some .boolean) 3 0 0 [(1, x), (0, n)] K M (qi K (fun z M' => tv z (1 ≤ n ∧ n ≤ 8) ∧ (1 ≤ n ∧ n ≤ 8 → TRh M' x (fun _ => clrS n) 0 0 bx bz cu) ∧ (¬ (1 ≤ n ∧ n ≤ 8) → TRh M' x ch a u bx bz cu) ∧ frA M M' x)) := by
  obtain ⟨h, hh, hH, hc, hhp, hb1, hb2⟩ := ht.now hK hg
  have hK0 := hK
  obtain ⟨kx, k1, k2, k3, hT4, k19, hRe, k23, hRt, hS1, hS2, k45, hKp, hBx, y0, y4, y5, y6, y7, y8, y9, y11, y14, n12, n13, r0, r4, q0, q1, xin⟩ := hK
  refine am_of (by decide) (Nat.le_of_ble_eq_true rfl) (L := [(1, x), (0, n)]) rfl ?_
  have kh := hH.2.1
  generalize hQ : (fun (z : Int) (M' : az_M) => tv z (1 ≤ n ∧ n ≤ 8) ∧ (1 ≤ n ∧ n ≤ 8 → TRh M' x (fun _ => clrS n) 0 0 bx bz cu) ∧ (¬ (1 ≤ n ∧ n ≤ 8) → TRh M' x ch a u bx bz cu) ∧ frA M M' x) = Q
  have no : ¬ (1 ≤ n ∧ n ≤ 8) → AW az_P0 (az_Z (qi K Q) 0 0) (az_rm 3 0 0) yX6_open cX6_open 2 (some .boolean) 0 0 11 [(1, x), (0, n)] [] K M := by
    intro q
    refine aw_iconst dX6_open_11 rfl ⟨by decide, by decide⟩ ?_
    refine aw_zret dX6_open_12 (by omega) (by decide) (by decide) ⟨_, rfl, rfl, ?_⟩
    rw [← hQ]
    exact ⟨tv.f q, fun w => absurd w q, fun _ => ht, frA.refl M x⟩
  refine aw_iload_n dX6_open_0 rfl rfl ?_
  refine aw_iconst dX6_open_1 rfl ⟨by decide, by decide⟩ ?_
  refine aw_icmp_lt (tgt := 11) dX6_open_2 rfl (fun h2 => ?_) (fun h2 => ?_)
  · exact no (by omega)
  · refine aw_iload_n dX6_open_5 rfl rfl ?_
    refine aw_bipush dX6_open_6 (by decide) ⟨by decide, by decide⟩ ?_
    refine aw_icmp_le (tgt := 13) dX6_open_8 rfl (fun h8 => ?_) (fun h8 => ?_)
    · have hy : 1 ≤ n ∧ n ≤ 8 := by omega
      refine aw_aload_n dX6_open_13 rfl rfl ⟨by decide, by decide⟩ ?_
      refine aw_cV0q dX6_open_14 ml_RX6_80 (by assumption) (by decide) rfl rfl ⟨by decide, by decide, by decide, by decide⟩ (Nat.le_of_ble_eq_true rfl) (hhp) ?_
      refine aw_iload_n dX6_open_17 rfl rfl ?_
      refine aw_cV1v dX6_open_18 ml_RX6_84 (by assumption) (by decide) rfl rfl ⟨by decide, by decide, by decide, by decide⟩ (Nat.le_of_ble_eq_true rfl) (sp_clear hH M n) (fun M1 hM1 => ?_)
      obtain ⟨t1, f1⟩ := hM1
      refine aw_aload_n dX6_open_21 rfl rfl ⟨by decide, by decide⟩ ?_
      refine aw_cV0v dX6_open_22 ml_RX6_88 (by assumption) (by decide) rfl rfl ⟨by decide, by decide, by decide, by decide⟩ (Nat.le_of_ble_eq_true rfl) (sp_forgetActs hK0 M1) (fun M2 hM2 => ?_)
      obtain ⟨m2, m3, mo, mj⟩ := hM2
      obtain ⟨p1, p2, p3, p4, p5, p6⟩ := ht
      have ex : M1 x = M x := f1 _ (by omega)
      refine aw_iconst dX6_open_25 rfl ⟨by decide, by decide⟩ ?_
      refine aw_zret dX6_open_26 (by omega) (by decide) (by decide) ⟨_, rfl, rfl, ?_⟩
      rw [← hQ]
      refine ⟨tv.t hy, fun _ => ⟨by rw [mj _ (by omega) (by omega), ex]; exact p1, p2, m2, m3, fun t t0 t1' => ?_, fun j j0 j1 => ⟨by rw [mo _ (by omega), f1 _ (by omega)]; exact (p6 j j0 j1).1, fun q => HS_fr ((p6 j j0 j1).2 q) (fun b b0 b1 => by rw [mo _ (by omega), f1 _ (by omega)])⟩⟩, fun q => absurd hy q, fun b b0 b1 => by rw [mo b b0, f1 b (by omega)], fun j j1 j2 j3 => by rw [mj j j2 j3, ex]⟩
      have e : t = 0 := by omega
      subst e
      rw [show (cu - 0 + 0) % 21 = cu by omega, ← hh]
      exact HS_fr t1 (fun b b0 b1 => mo b (by omega))
    · exact no (by omega)
set_option maxHeartbeats 1000000 in
theorem sp_cundo (hK : TrK K x) (M : az_M) (hg : GW ch a u bx bz B) (ht : TRh M x ch a u bx bz cu) : AM yX6_undo cX6_undo 1 (some .boolean) 0 0 0 [(1, x)] K M (qi K (fun z M' => tv z (0 < a) ∧ (∃ c', TRh M' x ch (if 0 < a then a - 1 else a) (if 0 < a then u + 1 else u) bx bz c') ∧ frA M M' x)) := by
  have hK0 := hK
  obtain ⟨kx, k1, k2, k3, hT4, k19, hRe, k23, hRt, hS1, hS2, k45, hKp, hBx, y0, y4, y5, y6, y7, y8, y9, y11, y14, n12, n13, r0, r4, q0, q1, xin⟩ := hK
  refine am_of (by decide) (Nat.le_of_ble_eq_true rfl) (L := [(1, x)]) rfl ?_
  obtain ⟨p1, p2, p3, p4, p5, p6⟩ := id ht
  obtain ⟨g1, g2, g3, -, -⟩ := id hg
  refine aw_aload_n dX6_undo_0 rfl rfl ⟨by decide, by decide⟩ ?_
  refine aw_gi 2 dX6_undo_1 fl_RX6_19 (by assumption) rfl rfl p3 ?_
  refine aw_if_ne (tgt := 9) dX6_undo_4 rfl (fun h4 => ?_) (fun h4 => ?_)
  · obtain ⟨c', hce⟩ : ∃ c', c' = (cu + 20) % 21 := ⟨_, rfl⟩
    refine aw_aload_n dX6_undo_9 rfl rfl ⟨by decide, by decide⟩ ?_
    refine aw_aload_n dX6_undo_10 rfl rfl ⟨by decide, by decide⟩ ?_
    refine aw_gi 1 dX6_undo_11 fl_RX6_15 (by assumption) rfl rfl p1 ?_
    refine aw_bipush dX6_undo_14 (by decide) ⟨by decide, by decide⟩ ?_
    refine aw_iadd dX6_undo_16 (az_wr_id (by omega) (by omega)) ?_
    refine aw_aload_n dX6_undo_17 rfl rfl ⟨by decide, by decide⟩ ?_
    refine aw_gzF 0 dX6_undo_18 fl_RX6_11 (by assumption) rfl rfl (by assumption) ?_
    refine aw_alen102 dX6_undo_21 k1 ⟨by decide, by decide⟩ ?_
    refine aw_irem dX6_undo_22 (by omega) (by omega) ?_
    rw [show (cu + 20) % ((21 : Nat) : Int) = c' from hce.symm]
    have v28 : az_up M x 1 c' x 2 = a := by rw [az_up_i _ _ _ _ (by omega)]; exact p3
    have v38 : az_up (az_up M x 1 c') x 2 (a - 1) x 3 = u := by rw [az_up_i _ _ _ _ (by omega), az_up_i _ _ _ _ (by omega)]; exact p4
    refine aw_pi 1 dX6_undo_23 fl_RX6_15 (by assumption) rfl rfl ?_
    refine aw_aload_n dX6_undo_26 rfl rfl ⟨by decide, by decide⟩ ?_
    refine aw_dup dX6_undo_27 ?_
    refine aw_gi 2 dX6_undo_28 fl_RX6_19 (by assumption) rfl rfl v28 ?_
    refine aw_iconst dX6_undo_31 rfl ⟨by decide, by decide⟩ ?_
    refine aw_isub dX6_undo_32 (az_wr_id (by omega) (by omega)) ?_
    refine aw_pi 2 dX6_undo_33 fl_RX6_19 (by assumption) rfl rfl ?_
    refine aw_aload_n dX6_undo_36 rfl rfl ⟨by decide, by decide⟩ ?_
    refine aw_dup dX6_undo_37 ?_
    refine aw_gi 3 dX6_undo_38 fl_RX6_22 (by assumption) rfl rfl v38 ?_
    refine aw_iconst dX6_undo_41 rfl ⟨by decide, by decide⟩ ?_
    refine aw_iadd dX6_undo_42 (az_wr_id (by omega) (by omega)) ?_
    refine aw_pi 3 dX6_undo_43 fl_RX6_22 (by assumption) rfl rfl ?_
    refine aw_iconst dX6_undo_46 rfl ⟨by decide, by decide⟩ ?_
    have ho : ∀ b, b ≠ x → az_up (az_up (az_up M x 1 c') x 2 (a - 1)) x 3 (u + 1) b = M b := fun b hb => by rw [up_oth _ _ _ hb, up_oth _ _ _ hb, up_oth _ _ _ hb]
    refine aw_zret dX6_undo_47 (by omega) (by decide) (by decide) ⟨_, rfl, rfl, tv.t (by omega), ⟨c', ?_⟩, fun b b0 b1 => ho b b0, fun j j1 j2 j3 => by rw [az_up_i _ _ _ _ j3, az_up_i _ _ _ _ j2, az_up_i _ _ _ _ j1]⟩
    rw [if_pos (by omega), if_pos (by omega)]
    refine ⟨by rw [az_up_i _ _ _ _ (by omega), az_up_i _ _ _ _ (by omega), az_up_s], by omega, by rw [az_up_i _ _ _ _ (by omega), az_up_s], az_up_s _ _ _ _, fun t t0 t1 => ?_, fun j j0 j1 => ⟨by rw [ho _ (by omega)]; exact (p6 j j0 j1).1, fun q => HS_fr ((p6 j j0 j1).2 q) (fun b b0 b1 => ho b (by omega))⟩⟩
    rw [show (c' - (a - 1) + t) % 21 = (cu - a + t) % 21 by omega]
    exact HS_fr (p5 t t0 (by omega)) (fun b b0 b1 => ho b (by omega))
  · refine aw_iconst dX6_undo_7 rfl ⟨by decide, by decide⟩ ?_
    refine aw_zret dX6_undo_8 (by omega) (by decide) (by decide) ⟨_, rfl, rfl, tv.f (by omega), ⟨cu, ?_⟩, frA.refl M x⟩
    rw [if_neg (by omega), if_neg (by omega)]
    exact ht
set_option maxHeartbeats 1000000 in
theorem sp_credo (hK : TrK K x) (M : az_M) (hg : GW ch a u bx bz B) (ht : TRh M x ch a u bx bz cu) : AM yX6_redo cX6_redo 1 (some .boolean) 0 0 0 [(1, x)] K M (qi K (fun z M' => tv z (0 < u) ∧ (∃ c', TRh M' x ch (if 0 < u then a + 1 else a) (if 0 < u then u - 1 else u) bx bz c') ∧ frA M M' x)) := by
  have hK0 := hK
  obtain ⟨kx, k1, k2, k3, hT4, k19, hRe, k23, hRt, hS1, hS2, k45, hKp, hBx, y0, y4, y5, y6, y7, y8, y9, y11, y14, n12, n13, r0, r4, q0, q1, xin⟩ := hK
  refine am_of (by decide) (Nat.le_of_ble_eq_true rfl) (L := [(1, x)]) rfl ?_
  obtain ⟨p1, p2, p3, p4, p5, p6⟩ := id ht
  obtain ⟨g1, g2, g3, -, -⟩ := id hg
  refine aw_aload_n dX6_redo_0 rfl rfl ⟨by decide, by decide⟩ ?_
  refine aw_gi 3 dX6_redo_1 fl_RX6_22 (by assumption) rfl rfl p4 ?_
  refine aw_if_ne (tgt := 9) dX6_redo_4 rfl (fun h4 => ?_) (fun h4 => ?_)
  · obtain ⟨c', hce⟩ : ∃ c', c' = (cu + 1) % 21 := ⟨_, rfl⟩
    refine aw_aload_n dX6_redo_9 rfl rfl ⟨by decide, by decide⟩ ?_
    refine aw_aload_n dX6_redo_10 rfl rfl ⟨by decide, by decide⟩ ?_
    refine aw_gi 1 dX6_redo_11 fl_RX6_15 (by assumption) rfl rfl p1 ?_
    refine aw_iconst dX6_redo_14 rfl ⟨by decide, by decide⟩ ?_
    refine aw_iadd dX6_redo_15 (az_wr_id (by omega) (by omega)) ?_
    refine aw_aload_n dX6_redo_16 rfl rfl ⟨by decide, by decide⟩ ?_
    refine aw_gzF 0 dX6_redo_17 fl_RX6_11 (by assumption) rfl rfl (by assumption) ?_
    refine aw_alen102 dX6_redo_20 k1 ⟨by decide, by decide⟩ ?_
    refine aw_irem dX6_redo_21 (by omega) (by omega) ?_
    rw [show (cu + 1) % ((21 : Nat) : Int) = c' from hce.symm]
    have v27 : az_up M x 1 c' x 2 = a := by rw [az_up_i _ _ _ _ (by omega)]; exact p3
    have v37 : az_up (az_up M x 1 c') x 2 (a + 1) x 3 = u := by rw [az_up_i _ _ _ _ (by omega), az_up_i _ _ _ _ (by omega)]; exact p4
    refine aw_pi 1 dX6_redo_22 fl_RX6_15 (by assumption) rfl rfl ?_
    refine aw_aload_n dX6_redo_25 rfl rfl ⟨by decide, by decide⟩ ?_
    refine aw_dup dX6_redo_26 ?_
    refine aw_gi 2 dX6_redo_27 fl_RX6_19 (by assumption) rfl rfl v27 ?_
    refine aw_iconst dX6_redo_30 rfl ⟨by decide, by decide⟩ ?_
    refine aw_iadd dX6_redo_31 (az_wr_id (by omega) (by omega)) ?_
    refine aw_pi 2 dX6_redo_32 fl_RX6_19 (by assumption) rfl rfl ?_
    refine aw_aload_n dX6_redo_35 rfl rfl ⟨by decide, by decide⟩ ?_
    refine aw_dup dX6_redo_36 ?_
    refine aw_gi 3 dX6_redo_37 fl_RX6_22 (by assumption) rfl rfl v37 ?_
    refine aw_iconst dX6_redo_40 rfl ⟨by decide, by decide⟩ ?_
    refine aw_isub dX6_redo_41 (az_wr_id (by omega) (by omega)) ?_
    refine aw_pi 3 dX6_redo_42 fl_RX6_22 (by assumption) rfl rfl ?_
    refine aw_iconst dX6_redo_45 rfl ⟨by decide, by decide⟩ ?_
    have ho : ∀ b, b ≠ x → az_up (az_up (az_up M x 1 c') x 2 (a + 1)) x 3 (u - 1) b = M b := fun b hb => by rw [up_oth _ _ _ hb, up_oth _ _ _ hb, up_oth _ _ _ hb]
    refine aw_zret dX6_redo_46 (by omega) (by decide) (by decide) ⟨_, rfl, rfl, tv.t (by omega), ⟨c', ?_⟩, fun b b0 b1 => ho b b0, fun j j1 j2 j3 => by rw [az_up_i _ _ _ _ j3, az_up_i _ _ _ _ j2, az_up_i _ _ _ _ j1]⟩
    rw [if_pos (by omega), if_pos (by omega)]
    refine ⟨by rw [az_up_i _ _ _ _ (by omega), az_up_i _ _ _ _ (by omega), az_up_s], by omega, by rw [az_up_i _ _ _ _ (by omega), az_up_s], az_up_s _ _ _ _, fun t t0 t1 => ?_, fun j j0 j1 => ⟨by rw [ho _ (by omega)]; exact (p6 j j0 j1).1, fun q => HS_fr ((p6 j j0 j1).2 q) (fun b b0 b1 => ho b (by omega))⟩⟩
    rw [show (c' - (a + 1) + t) % 21 = (cu - a + t) % 21 by omega]
    exact HS_fr (p5 t t0 (by omega)) (fun b b0 b1 => ho b (by omega))
  · refine aw_iconst dX6_redo_7 rfl ⟨by decide, by decide⟩ ?_
    refine aw_zret dX6_redo_8 (by omega) (by decide) (by decide) ⟨_, rfl, rfl, tv.f (by omega), ⟨cu, ?_⟩, frA.refl M x⟩
    rw [if_neg (by omega), if_neg (by omega)]
    exact ht
def frI (M M' : az_M) (x : Int) : Prop := ∀ b, b ≠ x + 3 → b < x + 361 ∨ x + 390 < b → M' b = M b
set_option maxHeartbeats 1000000 in
theorem sp_cimage (hK : TrK K x) (M : az_M) (hg : GW ch a u bx bz B) (ht : TRh M x ch a u bx bz cu) (b : Int) : AM yX6_image cX6_image 2 (some .int) 3 0 0 [(1, x), (0, b)] K M (qi K (fun z M' => (0 ≤ b ∧ b < 2 → z = obN (ch a).2.1 ∧ TRh M' x ch a u (bxs bx b (ch a)) (gu bz b 1) cu) ∧ (¬ (0 ≤ b ∧ b < 2) → z = -1 ∧ TRh M' x ch a u bx bz cu) ∧ frI M M' x)) := by
  obtain ⟨h, hh, hH, hc, hhp, hb1, hb2⟩ := ht.now hK hg
  have hK0 := hK
  obtain ⟨kx, k1, k2, k3, hT4, k19, hRe, k23, hRt, hS1, hS2, k45, hKp, hBx, y0, y4, y5, y6, y7, y8, y9, y11, y14, n12, n13, r0, r4, q0, q1, xin⟩ := hK
  refine am_of (by decide) (Nat.le_of_ble_eq_true rfl) (L := [(1, x), (0, b)]) rfl ?_
  refine aw_fz (fun hz => ?_)
  obtain ⟨w1, w2, w3⟩ := hg.cur
  obtain ⟨p1, p2, p3, p4, p5, p6⟩ := id ht
  have kh := hH.2.1
  generalize hQ : (fun (z : Int) (M' : az_M) => (0 ≤ b ∧ b < 2 → z = obN (ch a).2.1 ∧ TRh M' x ch a u (bxs bx b (ch a)) (gu bz b 1) cu) ∧ (¬ (0 ≤ b ∧ b < 2) → z = -1 ∧ TRh M' x ch a u bx bz cu) ∧ frI M M' x) = Q
  have no : ¬ (0 ≤ b ∧ b < 2) → AW az_P0 (az_Z (qi K Q) 0 0) (az_rm 3 0 0) yX6_image cX6_image 2 (some .int) 0 0 9 [(1, x), (0, b)] [] K M := by
    intro q
    refine aw_iconst dX6_image_9 rfl ⟨by decide, by decide⟩ ?_
    refine aw_iret dX6_image_10 (by decide) (by decide) ⟨_, rfl, rfl, ?_⟩
    rw [← hQ]
    exact ⟨fun w => absurd w q, fun _ => ⟨rfl, ht⟩, fun _ _ _ => rfl⟩
  refine aw_iload_n dX6_image_0 rfl rfl ?_
  refine aw_if_lt (tgt := 9) dX6_image_1 rfl (fun h1 => ?_) (fun h1 => ?_)
  · exact no (by omega)
  · refine aw_iload_n dX6_image_4 rfl rfl ?_
    refine aw_iconst dX6_image_5 rfl ⟨by decide, by decide⟩ ?_
    refine aw_icmp_lt (tgt := 11) dX6_image_6 rfl (fun h6 => ?_) (fun h6 => ?_)
    · have hy : 0 ≤ b ∧ b < 2 := by omega
      obtain ⟨hB, hBe⟩ := hBx b hy.1 hy.2
      have v16 := (hz (x + 2) b _ hBe).1
      obtain ⟨q, hq⟩ : ∃ q, q = x + 361 + 15 * b := ⟨_, rfl⟩
      rw [← hq] at v16 hB
      have kq := hB.2.1
      have hbe := sp_become hB hH (by omega) M hc w1.1
      refine aw_aload_n dX6_image_11 rfl rfl ⟨by decide, by decide⟩ ?_
      refine aw_gzF 4 dX6_image_12 fl_RX6_25 (by assumption) rfl rfl (by assumption) ?_
      refine aw_iload_n dX6_image_15 rfl rfl ?_
      refine aw_qv dX6_image_16 (by assumption) (by omega) (by omega) v16 ?_
      refine aw_aload_n dX6_image_17 rfl rfl ⟨by decide, by decide⟩ ?_
      refine aw_cV0q dX6_image_18 ml_RX6_80 (by assumption) (by decide) rfl rfl ⟨by decide, by decide, by decide, by decide⟩ (Nat.le_of_ble_eq_true rfl) (hhp) ?_
      refine aw_cV1v dX6_image_21 ml_RX6_198 (by assumption) (by decide) rfl rfl ⟨by decide, by decide, by decide, by decide⟩ (Nat.le_of_ble_eq_true rfl) (hbe) (fun M1 hM1 => ?_)
      obtain ⟨t1, f1⟩ := hM1
      have ho : ∀ c, c ≠ x + 3 → c < x + 361 ∨ x + 390 < c → az_up M1 (x + 3) b 1 c = M c := fun c c1 c2 => by rw [up_oth _ _ _ c1]; exact f1 c (by omega)
      have hox : az_up M1 (x + 3) b 1 x = M x := ho x (by omega) (by omega)
      have hhp' := sp_heap hK0 (az_up M1 (x + 3) b 1) (cu := cu) (by rw [hox]; exact p1) p2.1 p2.2
      rw [← hh] at hhp'
      have hc' : HS (az_up M1 (x + 3) b 1) h (ch a) := HS_fr hc (fun c c0 c1 => ho c (by omega) (by omega))
      refine aw_aload_n dX6_image_24 rfl rfl ⟨by decide, by decide⟩ ?_
      refine aw_gzF 5 dX6_image_25 fl_RX6_28 (by assumption) rfl rfl (by assumption) ?_
      refine aw_iload_n dX6_image_28 rfl rfl ?_
      refine aw_iconst dX6_image_29 rfl ⟨by decide, by decide⟩ ?_
      refine aw_zast dX6_image_30 (by assumption) (by omega) (by omega) (by omega) ?_
      refine aw_aload_n dX6_image_31 rfl rfl ⟨by decide, by decide⟩ ?_
      refine aw_cV0q dX6_image_32 ml_RX6_80 (by assumption) (by decide) rfl rfl ⟨by decide, by decide, by decide, by decide⟩ (Nat.le_of_ble_eq_true rfl) (hhp') ?_
      refine aw_cV0p dX6_image_35 ml_RX6_181 (by assumption) (by decide) rfl rfl ⟨by decide, by decide, by decide, by decide⟩ (Nat.le_of_ble_eq_true rfl) (sp_objects hH (az_up M1 (x + 3) b 1) (WR_of w1.1) hc'.2.2.2.2.1 hc'.2.2.2.2.2.2.2.2.2.2.1) ?_
      refine aw_iret dX6_image_38 (by decide) (by decide) ⟨_, rfl, rfl, ?_⟩
      rw [← hQ]
      refine ⟨fun _ => ⟨rfl, by rw [hox]; exact p1, p2, by rw [hox]; exact p3, by rw [hox]; exact p4, fun t t0 t1 => HS_fr (p5 t t0 t1) (fun c c0 c1 => ho c (by omega) (by omega)), fun j j0 j1 => ?_⟩, fun w => absurd hy w, ho⟩
      by_cases e : j = b
      · subst e
        refine ⟨by rw [az_up_s, gu_s], fun _ => ?_⟩
        show HS _ _ (if j = j then ch a else bx j)
        rw [if_pos rfl, ← hq]
        exact HS_fr t1 (fun c c0 c1 => up_oth _ _ _ (by omega))
      · refine ⟨by rw [az_up_i _ _ _ _ e, gu_n _ _ e, f1 _ (by omega)]; exact (p6 j j0 j1).1, fun w => ?_⟩
        rw [gu_n _ _ e] at w
        show HS _ _ (if j = b then ch a else bx j)
        rw [if_neg e]
        exact HS_fr ((p6 j j0 j1).2 w) (fun c c0 c1 => by rw [up_oth _ _ _ (by omega)]; exact f1 c (by omega))
    · exact no (by omega)
set_option maxHeartbeats 1000000 in
theorem sp_cback (hK : TrK K x) (M : az_M) (hg : GW ch a u bx bz B) (ht : TRh M x ch a u bx bz cu) (b : Int) : AM yX6_back cX6_back 2 (some .int) 3 0 0 [(1, x), (0, b)] K M (qi K (fun z M' => ((0 ≤ b ∧ b < 2) ∧ bz b = 1 → z = obN (bx b).2.1 ∧ TRh M' x (fun _ => bx b) 0 0 bx bz cu) ∧ (¬ ((0 ≤ b ∧ b < 2) ∧ bz b = 1) → z = -1 ∧ TRh M' x ch a u bx bz cu) ∧ frA M M' x)) := by
  obtain ⟨h, hh, hH, hc, hhp, hb1, hb2⟩ := ht.now hK hg
  have hK0 := hK
  obtain ⟨kx, k1, k2, k3, hT4, k19, hRe, k23, hRt, hS1, hS2, k45, hKp, hBx, y0, y4, y5, y6, y7, y8, y9, y11, y14, n12, n13, r0, r4, q0, q1, xin⟩ := hK
  refine am_of (by decide) (Nat.le_of_ble_eq_true rfl) (L := [(1, x), (0, b)]) rfl ?_
  refine aw_fz (fun hz => ?_)
  obtain ⟨p1, p2, p3, p4, p5, p6⟩ := id ht
  have kh := hH.2.1
  have hgb := hg.2.2.2.2
  generalize hQ : (fun (z : Int) (M' : az_M) => ((0 ≤ b ∧ b < 2) ∧ bz b = 1 → z = obN (bx b).2.1 ∧ TRh M' x (fun _ => bx b) 0 0 bx bz cu) ∧ (¬ ((0 ≤ b ∧ b < 2) ∧ bz b = 1) → z = -1 ∧ TRh M' x ch a u bx bz cu) ∧ frA M M' x) = Q
  have no : ¬ ((0 ≤ b ∧ b < 2) ∧ bz b = 1) → AW az_P0 (az_Z (qi K Q) 0 0) (az_rm 3 0 0) yX6_back cX6_back 2 (some .int) 0 0 18 [(1, x), (0, b)] [] K M := by
    intro q
    refine aw_iconst dX6_back_18 rfl ⟨by decide, by decide⟩ ?_
    refine aw_iret dX6_back_19 (by decide) (by decide) ⟨_, rfl, rfl, ?_⟩
    rw [← hQ]
    exact ⟨fun w => absurd w q, fun _ => ⟨rfl, ht⟩, frA.refl M x⟩
  refine aw_iload_n dX6_back_0 rfl rfl ?_
  refine aw_if_lt (tgt := 18) dX6_back_1 rfl (fun h1 => ?_) (fun h1 => ?_)
  · exact no (by omega)
  · refine aw_iload_n dX6_back_4 rfl rfl ?_
    refine aw_iconst dX6_back_5 rfl ⟨by decide, by decide⟩ ?_
    refine aw_icmp_ge (tgt := 18) dX6_back_6 rfl (fun h6 => ?_) (fun h6 => ?_)
    · exact no (by omega)
    · have hy : 0 ≤ b ∧ b < 2 := by omega
      have v14 := (p6 b hy.1 hy.2).1
      have hb01 := (hgb b hy.1 hy.2).1
      refine aw_aload_n dX6_back_9 rfl rfl ⟨by decide, by decide⟩ ?_
      refine aw_gzF 5 dX6_back_10 fl_RX6_28 (by assumption) rfl rfl (by assumption) ?_
      refine aw_iload_n dX6_back_13 rfl rfl ?_
      refine aw_zv dX6_back_14 (by assumption) (by omega) (by omega) v14 ?_
      refine aw_if_ne (tgt := 20) dX6_back_15 rfl (fun h15 => ?_) (fun h15 => ?_)
      · have hbz : bz b = 1 := by omega
        have wb := ((hgb b hy.1 hy.2).2 hbz).1
        have hcb := (p6 b hy.1 hy.2).2 hbz
        obtain ⟨hB, hBe⟩ := hBx b hy.1 hy.2
        have v29 := (hz (x + 2) b _ hBe).1
        obtain ⟨q, hq⟩ : ∃ q, q = x + 361 + 15 * b := ⟨_, rfl⟩
        rw [← hq] at v29 hB hcb
        have hbe := sp_become hH hB (by omega) M hcb wb.1
        refine aw_aload_n dX6_back_20 rfl rfl ⟨by decide, by decide⟩ ?_
        refine aw_cV0q dX6_back_21 ml_RX6_80 (by assumption) (by decide) rfl rfl ⟨by decide, by decide, by decide, by decide⟩ (Nat.le_of_ble_eq_true rfl) (hhp) ?_
        refine aw_aload_n dX6_back_24 rfl rfl ⟨by decide, by decide⟩ ?_
        refine aw_gzF 4 dX6_back_25 fl_RX6_25 (by assumption) rfl rfl (by assumption) ?_
        refine aw_iload_n dX6_back_28 rfl rfl ?_
        refine aw_qv dX6_back_29 (by assumption) (by omega) (by omega) v29 ?_
        refine aw_cV1v dX6_back_30 ml_RX6_198 (by assumption) (by decide) rfl rfl ⟨by decide, by decide, by decide, by decide⟩ (Nat.le_of_ble_eq_true rfl) (hbe) (fun M1 hM1 => ?_)
        obtain ⟨t1, f1⟩ := hM1
        refine aw_aload_n dX6_back_33 rfl rfl ⟨by decide, by decide⟩ ?_
        refine aw_cV0v dX6_back_34 ml_RX6_88 (by assumption) (by decide) rfl rfl ⟨by decide, by decide, by decide, by decide⟩ (Nat.le_of_ble_eq_true rfl) (sp_forgetActs hK0 M1) (fun M2 hM2 => ?_)
        obtain ⟨m2, m3, mo, mj⟩ := hM2
        have ex : M1 x = M x := f1 _ (by omega)
        have e1 : M2 x 1 = cu := by rw [mj _ (by omega) (by omega), ex]; exact p1
        have hhp' := sp_heap hK0 M2 e1 p2.1 p2.2
        rw [← hh] at hhp'
        have hc' : HS M2 h (bx b) := HS_fr t1 (fun c c0 c1 => mo c (by omega))
        refine aw_aload_n dX6_back_37 rfl rfl ⟨by decide, by decide⟩ ?_
        refine aw_cV0q dX6_back_38 ml_RX6_80 (by assumption) (by decide) rfl rfl ⟨by decide, by decide, by decide, by decide⟩ (Nat.le_of_ble_eq_true rfl) (hhp') ?_
        refine aw_cV0p dX6_back_41 ml_RX6_181 (by assumption) (by decide) rfl rfl ⟨by decide, by decide, by decide, by decide⟩ (Nat.le_of_ble_eq_true rfl) (sp_objects hH M2 (WR_of wb.1) hc'.2.2.2.2.1 hc'.2.2.2.2.2.2.2.2.2.2.1) ?_
        refine aw_iret dX6_back_44 (by decide) (by decide) ⟨_, rfl, rfl, ?_⟩
        rw [← hQ]
        refine ⟨fun _ => ⟨rfl, e1, p2, m2, m3, fun t t0 t1' => ?_, fun j j0 j1 => ⟨by rw [mo _ (by omega), f1 _ (by omega)]; exact (p6 j j0 j1).1, fun q => HS_fr ((p6 j j0 j1).2 q) (fun c c0 c1 => by rw [mo _ (by omega), f1 _ (by omega)])⟩⟩, fun w => absurd ⟨hy, hbz⟩ w, fun c c0 c1 => by rw [mo c c0, f1 c (by omega)], fun j j1 j2 j3 => by rw [mj j j2 j3, ex]⟩
        have e : t = 0 := by omega
        subst e
        rw [show (cu - 0 + 0) % 21 = cu by omega, ← hh]
        exact hc'
      · exact no (fun w => by omega)
end AX
