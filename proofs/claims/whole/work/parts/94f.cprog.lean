/-! Reader reads a whole program -/
set_option maxRecDepth 20000
section CP
variable {K : az_K} {rd tp sc : Int} {X : pTx} {s : pSt} {e : pE} {dp : Int}
set_option maxHeartbeats 1000000 in
theorem sp_creadNaming (hK : RdK K rd tp sc) (M : az_M) (h : LV M rd tp sc X s) (hn : s.2.2.1 ≤ 39) (rt : Int) : AM yX2_readNaming cX2_readNaming 3 none 7 0 0 [(1, rd), (0, rt)] K M (qv K (fun M' => CO M M' rd tp sc X (bd (pDe1 X rt s) (pSg X 59)))) := by
  have hK0 := hK
  obtain ⟨⟨kr, k8, kt, y5, hs⟩, hSc, hd, ht⟩ := hK
  have hSc0 := hSc
  obtain ⟨s0, s1, s2, s3, s4, s5, x0, x1, x2, x3, x4⟩ := hSc
  refine am_of (by decide) (Nat.le_of_ble_eq_true rfl) (L := [(1, rd), (0, rt), (9, 0)]) rfl ?_
  have n0 := h.2.2.2.2.2.2.2.1
  have dp4 := h.2.2.2.2.2.2.1
  generalize hr : bd (pDe1 X rt s) (pSg X 59) = R
  have tail : ∀ (M2 : az_M) (v : az_V) (r1 : Sum pE pSt), CO M M2 rd tp sc X r1 → bd r1 (pSg X 59) = R → AW az_P0 (az_Z (qv K (fun M' => CO M M' rd tp sc X R)) 0 0) (az_rm 7 0 0) yX2_readNaming cX2_readNaming 3 none 0 0 56 [(1, rd), (0, rt), v] [] K M2 := by
    intro M2 v r1 hc hq
    obtain ⟨d2, l2, f2⟩ := hc
    rcases r1 with e | t
    · obtain ⟨dq, hdq, hD⟩ := d2 e rfl
      obtain ⟨p, hg⟩ := hD.1
      refine aw_aload_n dX2_readNaming_56 rfl rfl ⟨by decide, by decide⟩ ?_
      refine aw_bipush dX2_readNaming_57 (by decide) ⟨by decide, by decide⟩ ?_
      refine aw_cV1v dX2_readNaming_59 ml_RX2_110 (by assumption) (by decide) rfl rfl ⟨by decide, by decide, by decide, by decide⟩ (Nat.le_of_ble_eq_true rfl) (sp_creadSign hK0.1 M2 hg 59) (fun M3 hM3 => ?_)
      obtain ⟨h3, f3⟩ := sgD hK0 hD hM3
      exact aw_vret dX2_readNaming_62 (by decide) (by decide) ⟨rfl, rfl, CO.l hq.symm h3 hdq (f2.trans f3)⟩
    · have hL := l2 t rfl
      replace hq : pSg X 59 t = R := hq
      refine aw_aload_n dX2_readNaming_56 rfl rfl ⟨by decide, by decide⟩ ?_
      refine aw_bipush dX2_readNaming_57 (by decide) ⟨by decide, by decide⟩ ?_
      refine aw_cV1v dX2_readNaming_59 ml_RX2_110 (by assumption) (by decide) rfl rfl ⟨by decide, by decide, by decide, by decide⟩ (Nat.le_of_ble_eq_true rfl) (sp_creadSign hK0.1 M2 hL.1 59) (fun M3 hM3 => ?_)
      obtain ⟨a3, b3, f3⟩ := sgB hK0 hL hM3
      refine aw_vret dX2_readNaming_62 (by decide) (by decide) ⟨rfl, rfl, ?_⟩
      rcases hw : pSg X 59 t with e | t'
      · exact CO.l (hq.symm.trans hw) (a3 e hw) hL.2.2.2.2.2.2.1.2 (f2.trans f3)
      · exact CO.r (hq.symm.trans hw) (b3 t' hw) (f2.trans f3)
  unfold pDe1 at hr
  refine aw_aload_n dX2_readNaming_0 rfl rfl ⟨by decide, by decide⟩ ?_
  refine aw_bipush dX2_readNaming_1 (by decide) ⟨by decide, by decide⟩ ?_
  refine aw_cV1p dX2_readNaming_3 ml_RX2_50 (by assumption) (by decide) rfl rfl ⟨by decide, by decide, by decide, by decide⟩ (Nat.le_of_ble_eq_true rfl) (sp_cisSign hK0.1 M h.1 46) ?_
  refine aw_if_eq (tgt := 45) dX2_readNaming_6 rfl (fun h6 => ?_) (fun h6 => ?_)
  · rw [if_neg (if0 h6)] at hr
    refine aw_aload_n dX2_readNaming_45 rfl rfl ⟨by decide, by decide⟩ ?_
    refine aw_bipush dX2_readNaming_46 (by decide) ⟨by decide, by decide⟩ ?_
    refine aw_cV1v dX2_readNaming_48 ml_RX2_110 (by assumption) (by decide) rfl rfl ⟨by decide, by decide, by decide, by decide⟩ (Nat.le_of_ble_eq_true rfl) (sp_creadSign hK0.1 M h.1 61) (fun M2 hM2 => ?_)
    obtain ⟨a2, b2, f2⟩ := sgB hK0 h hM2
    rcases hq : pSg X 61 s with e | t
    · have hD := a2 e hq
      rw [hq] at hr
      refine aw_aload_n dX2_readNaming_51 rfl rfl ⟨by decide, by decide⟩ ?_
      refine aw_iload_n dX2_readNaming_52 rfl rfl ?_
      refine aw_cV1v dX2_readNaming_53 ml_RX2_126 (by assumption) (by decide) rfl rfl ⟨by decide, by decide, by decide, by decide⟩ (Nat.le_of_ble_eq_true rfl) (sp_readValueD hK0 M2 hD rt) (fun M3 hM3 => ?_)
      exact tail M3 _ (.inl e) (CO.l rfl hM3.1 dp4.2 (f2.trans hM3.2)) hr
    · have hL := b2 t hq
      obtain ⟨et, -⟩ := pSg_r hq
      rw [hq] at hr
      subst et
      refine aw_aload_n dX2_readNaming_51 rfl rfl ⟨by decide, by decide⟩ ?_
      refine aw_iload_n dX2_readNaming_52 rfl rfl ?_
      refine aw_cV1v dX2_readNaming_53 ml_RX2_126 (by assumption) (by decide) rfl rfl ⟨by decide, by decide, by decide, by decide⟩ (Nat.le_of_ble_eq_true rfl) (sp_readValue hK0 M2 hL hn rt) (fun M3 hM3 => ?_)
      exact tail M3 _ _ ⟨hM3.1, hM3.2.1, f2.trans hM3.2.2⟩ hr
  · rw [if_pos (if1 h6)] at hr
    unfold pSto at hr
    refine aw_aload_n dX2_readNaming_9 rfl rfl ⟨by decide, by decide⟩ ?_
    refine aw_cV0v dX2_readNaming_10 ml_RX2_47 (by assumption) (by decide) rfl rfl ⟨by decide, by decide, by decide, by decide⟩ (Nat.le_of_ble_eq_true rfl) (sp_advG hK0.1 M h.1) (fun M1 hM1 => ?_)
    have ha := h.1.adv hK0.1 hM1
    have h1 : LV M1 rd tp sc X (adv X s) := h.leaf hK0 ha.1 ha.2
    have f1 : frC M M1 rd sc := frC.ofL ha.2
    refine aw_aload_n dX2_readNaming_13 rfl rfl ⟨by decide, by decide⟩ ?_
    refine aw_iconst dX2_readNaming_14 rfl ⟨by decide, by decide⟩ ?_
    refine aw_bipush dX2_readNaming_15 (by decide) ⟨by decide, by decide⟩ ?_
    refine aw_cV2i dX2_readNaming_17 ml_RX2_107 (by assumption) (by decide) rfl rfl ⟨by decide, by decide, by decide, by decide⟩ (Nat.le_of_ble_eq_true rfl) (sp_creadNumber hK0.1 M1 h1.1 0 6 (by omega)) (fun z2 M2 hz2 => ?_)
    refine aw_istore_n dX2_readNaming_20 rfl (by decide) ?_
    obtain ⟨a2, b2, f2⟩ := numB hK0 h1 hz2
    -- behind a fault
    have dead : ∀ (M3 : az_M) (e : pE) (z : Int), DD M3 rd tp sc X e s.2.1 → frC M M3 rd sc → bd (Sum.inl e : Sum pE pSt) (pSg X 59) = R → AW az_P0 (az_Z (qv K (fun M' => CO M M' rd tp sc X R)) 0 0) (az_rm 7 0 0) yX2_readNaming cX2_readNaming 3 none 0 0 27 [(1, rd), (0, rt), (0, z)] [] K M3 := by
      intro M3 e z hD f3 hq
      obtain ⟨p, hg⟩ := hD.1
      refine aw_aload_n dX2_readNaming_27 rfl rfl ⟨by decide, by decide⟩ ?_
      refine aw_gr 4 dX2_readNaming_28 fl_RX2_28 (by assumption) rfl rfl hD.2.2.1 ?_
      refine aw_iconst dX2_readNaming_31 rfl ⟨by decide, by decide⟩ ?_
      refine aw_iload_n dX2_readNaming_32 rfl rfl ?_
      refine aw_aload_n dX2_readNaming_33 rfl rfl ⟨by decide, by decide⟩ ?_
      refine aw_iconst dX2_readNaming_34 rfl ⟨by decide, by decide⟩ ?_
      refine aw_cV1i dX2_readNaming_35 ml_RX2_122 (by assumption) (by decide) rfl rfl ⟨by decide, by decide, by decide, by decide⟩ (Nat.le_of_ble_eq_true rfl) (sp_creadRoot hK0.1 M3 hg 1 (Or.inr rfl)) (fun z4 M4 hz4 => ?_)
      obtain ⟨h4, f4⟩ := rnD hK0 hD hz4
      refine aw_iload_n dX2_readNaming_38 rfl rfl ?_
      refine aw_cV4v dX2_readNaming_39 ml_RX2_114 (by assumption) (by decide) rfl rfl ⟨by decide, by decide, by decide, by decide⟩ (Nat.le_of_ble_eq_true rfl) (sp_add hSc0 M4 (M4 sc 5) rfl h4.2.2.2.2.2.1 h4.2.2.2.2.2.2 3 rt z4 z) (fun M5 hM5 => ?_)
      obtain ⟨h5, f5⟩ := h4.add hK0 hM5
      refine aw_goto (tgt := 56) dX2_readNaming_42 rfl ?_
      exact tail M5 _ (.inl e) (CO.l rfl h5 dp4.2 (f3.trans (f4.trans f5))) hq
    rcases hq : pNm X 0 6 (adv X s) with e | a
    · have hD := a2 e hq
      rw [hq] at hr
      obtain ⟨p, hg⟩ := hD.1
      refine aw_aload_n dX2_readNaming_21 rfl rfl ⟨by decide, by decide⟩ ?_
      refine aw_bipush dX2_readNaming_22 (by decide) ⟨by decide, by decide⟩ ?_
      refine aw_cV1v dX2_readNaming_24 ml_RX2_110 (by assumption) (by decide) rfl rfl ⟨by decide, by decide, by decide, by decide⟩ (Nat.le_of_ble_eq_true rfl) (sp_creadSign hK0.1 M2 hg 61) (fun M3 hM3 => ?_)
      obtain ⟨h3, f3⟩ := sgD hK0 hD hM3
      exact dead M3 e z2 h3 (f1.trans (f2.trans f3)) hr
    · obtain ⟨e2, h2⟩ := b2 a hq
      obtain ⟨ea, -⟩ := pNm_r hq
      rw [hq] at hr
      subst ea
      replace h2 : LV M2 rd tp sc X (adv X (adv X s)) := h2
      replace e2 : z2 = nm X (adv X s).1 := e2
      subst e2
      replace hr : bd (bd (pSg X 61 (adv X (adv X s))) (fun t => bd (pRn X t) fun b => Sum.inr (addI b.2 3 rt b.1 (nm X (adv X s).1)))) (pSg X 59) = R := hr
      refine aw_aload_n dX2_readNaming_21 rfl rfl ⟨by decide, by decide⟩ ?_
      refine aw_bipush dX2_readNaming_22 (by decide) ⟨by decide, by decide⟩ ?_
      refine aw_cV1v dX2_readNaming_24 ml_RX2_110 (by assumption) (by decide) rfl rfl ⟨by decide, by decide, by decide, by decide⟩ (Nat.le_of_ble_eq_true rfl) (sp_creadSign hK0.1 M2 h2.1 61) (fun M3 hM3 => ?_)
      obtain ⟨a3, b3, f3⟩ := sgB hK0 h2 hM3
      rcases hq2 : pSg X 61 (adv X (adv X s)) with e | t
      · have hD := a3 e hq2
        rw [hq2] at hr
        exact dead M3 e _ hD (f1.trans (f2.trans f3)) hr
      · have h3 := b3 t hq2
        obtain ⟨et, -⟩ := pSg_r hq2
        rw [hq2] at hr
        subst et
        replace hr : bd (bd (pRn X (adv X (adv X (adv X s)))) fun b => Sum.inr (addI b.2 3 rt b.1 (nm X (adv X s).1))) (pSg X 59) = R := hr
        have f13 := f1.trans (f2.trans f3)
        refine aw_aload_n dX2_readNaming_27 rfl rfl ⟨by decide, by decide⟩ ?_
        refine aw_gr 4 dX2_readNaming_28 fl_RX2_28 (by assumption) rfl rfl h3.2.1 ?_
        refine aw_iconst dX2_readNaming_31 rfl ⟨by decide, by decide⟩ ?_
        refine aw_iload_n dX2_readNaming_32 rfl rfl ?_
        refine aw_aload_n dX2_readNaming_33 rfl rfl ⟨by decide, by decide⟩ ?_
        refine aw_iconst dX2_readNaming_34 rfl ⟨by decide, by decide⟩ ?_
        refine aw_cV1i dX2_readNaming_35 ml_RX2_122 (by assumption) (by decide) rfl rfl ⟨by decide, by decide, by decide, by decide⟩ (Nat.le_of_ble_eq_true rfl) (sp_creadRoot hK0.1 M3 h3.1 1 (Or.inr rfl)) (fun z4 M4 hz4 => ?_)
        obtain ⟨a4, b4, f4⟩ := rnB hK0 h3 hz4
        rcases hq3 : pRn X (adv X (adv X (adv X s))) with e | b
        · have h4 := a4 e hq3
          rw [hq3] at hr
          refine aw_iload_n dX2_readNaming_38 rfl rfl ?_
          refine aw_cV4v dX2_readNaming_39 ml_RX2_114 (by assumption) (by decide) rfl rfl ⟨by decide, by decide, by decide, by decide⟩ (Nat.le_of_ble_eq_true rfl) (sp_add hSc0 M4 (M4 sc 5) rfl h4.2.2.2.2.2.1 h4.2.2.2.2.2.2 3 rt z4 (nm X (adv X s).1)) (fun M5 hM5 => ?_)
          obtain ⟨h5, f5⟩ := h4.add hK0 hM5
          refine aw_goto (tgt := 56) dX2_readNaming_42 rfl ?_
          exact tail M5 _ (.inl e) (CO.l rfl h5 dp4.2 (f13.trans (f4.trans f5))) hr
        · obtain ⟨e4, h4⟩ := b4 b hq3
          have hin := pRn_in hq3
          rw [hq3] at hr
          obtain ⟨b1, bs⟩ := b
          have hbs : bs = adv X (adv X (adv X (adv X s))) := hin.1
          subst hbs
          replace e4 : z4 = b1 := e4
          subst e4
          replace h4 : LV M4 rd tp sc X (adv X (adv X (adv X (adv X s)))) := h4
          refine aw_iload_n dX2_readNaming_38 rfl rfl ?_
          refine aw_cV4v dX2_readNaming_39 ml_RX2_114 (by assumption) (by decide) rfl rfl ⟨by decide, by decide, by decide, by decide⟩ (Nat.le_of_ble_eq_true rfl) (sp_add hSc0 M4 s.2.2.1 h4.2.2.2.1 n0 (by omega) 3 rt z4 (nm X (adv X s).1)) (fun M5 hM5 => ?_)
          have hA := hM5.1 (by omega)
          refine aw_goto (tgt := 56) dX2_readNaming_42 rfl ?_
          exact tail M5 _ _ (CO.r rfl (LV.add hK0 h4 hn hA) (f13.trans (f4.trans (frC.add hK0 hA)))) hr
set_option maxHeartbeats 2000000 in
theorem sp_creadItem (hK : RdK K rd tp sc) (M : az_M) (h : LV M rd tp sc X s) : AM yX2_readItem cX2_readItem 5 none 8 0 0 [(1, rd)] K M (qv K (fun M' => CO M M' rd tp sc X (pItm X s))) := by
  have hK0 := hK
  obtain ⟨⟨kr, k8, kt, y5, hs⟩, hSc, hd, ht⟩ := hK
  have hSc0 := hSc
  obtain ⟨s0, s1, s2, s3, s4, s5, x0, x1, x2, x3, x4⟩ := hSc
  refine am_of (by decide) (Nat.le_of_ble_eq_true rfl) (L := [(1, rd), (9, 0), (9, 0), (9, 0), (9, 0)]) rfl ?_
  have n0 := h.2.2.2.2.2.2.2
  have dp4 := h.2.2.2.2.2.2.1
  have hp := h.1.2.1.2
  have w0 := w_step (X := X) hp
  have w1 := w_times (X := X) hp
  have w2 := w_if (X := X) hp
  generalize hr : pItm X s = R
  unfold pItm at hr
  generalize hV : (if tok X s.1 = 2 ∧ 1 ≤ wd X s.1 ∧ wd X s.1 ≤ 6 then wd X s.1 - 1 else -1) = V
  have hrh := qp_c (sp_rootHere hK0.1 M h.1) hV
  have hVr : V ≠ -1 ↔ isR X s := by
    rw [← hV]
    by_cases q : tok X s.1 = 2 ∧ 1 ≤ wd X s.1 ∧ wd X s.1 ≤ 6
    · rw [if_pos q]
      have := q.2
      exact ⟨fun _ => q, fun _ => by omega⟩
    · rw [if_neg q]
      exact ⟨fun w => absurd rfl w, fun w => absurd w q⟩
  refine aw_aload_n dX2_readItem_0 rfl rfl ⟨by decide, by decide⟩ ?_
  refine aw_cV0p dX2_readItem_1 ml_RX2_86 (by assumption) (by decide) rfl rfl ⟨by decide, by decide, by decide, by decide⟩ (Nat.le_of_ble_eq_true rfl) (hrh) ?_
  refine aw_istore_n dX2_readItem_4 rfl (by decide) ?_
  refine aw_aload_n dX2_readItem_5 rfl rfl ⟨by decide, by decide⟩ ?_
  refine aw_ldcS (i := 0) dX2_readItem_6 (by decide) rfl rfl ?_
  refine aw_cV1i dX2_readItem_8 ml_RX2_91 (by assumption) (by decide) rfl rfl ⟨by decide, by decide, by decide, by decide⟩ (Nat.le_of_ble_eq_true rfl) (sp_cisWord hK0.1 M h.1 0 (by omega) (by omega)) (fun za Ma hza => ?_)
  obtain ⟨ta, eM⟩ := hza
  subst eM
  refine aw_istore_n dX2_readItem_11 rfl (by decide) ?_
  refine aw_aload_n dX2_readItem_12 rfl rfl ⟨by decide, by decide⟩ ?_
  refine aw_ldcS (i := 1) dX2_readItem_13 (by decide) rfl rfl ?_
  refine aw_cV1i dX2_readItem_15 ml_RX2_91 (by assumption) (by decide) rfl rfl ⟨by decide, by decide, by decide, by decide⟩ (Nat.le_of_ble_eq_true rfl) (sp_cisWord hK0.1 Ma h.1 1 (by omega) (by omega)) (fun zb Mb hzb => ?_)
  obtain ⟨tb, eM⟩ := hzb
  subst eM
  have a01 := tv01 ta
  have b01 := tv01 tb
  have fault : ∀ (k : Int) (z : pE), 0 < k → z = (k, s.1) → Sum.inl z = R → ∀ M1 : az_M, GS M1 rd tp X s.1 (nt (0, -1) k s.1) ∧ frL Mb M1 rd → CO Mb M1 rd tp sc X R := by
    intro k z hk hz hq M1 hM1
    have := hM1.1
    rw [nt_l] at this
    subst hz
    exact CO.l hq.symm (DD.of hK0 h this (by show k ≠ 0; omega) hM1.2) dp4.2 (frC.ofL hM1.2)
  have go : beg X s → AW az_P0 (az_Z (qv K (fun M' => CO Mb M' rd tp sc X R)) 0 0) (az_rm 8 0 0) yX2_readItem cX2_readItem 5 none 0 0 47 [(1, rd), (0, V), (0, za), (0, zb), (9, 0)] [] K Mb := by
    intro hb
    rw [if_neg (fun q => q hb)] at hr
    have many : 3 < s.2.1 ∨ s.2.2.1 = 40 → AW az_P0 (az_Z (qv K (fun M' => CO Mb M' rd tp sc X R)) 0 0) (az_rm 8 0 0) yX2_readItem cX2_readItem 5 none 0 0 67 [(1, rd), (0, V), (0, za), (0, zb), (9, 0)] [] K Mb := by
      intro q
      rw [if_pos q] at hr
      refine aw_aload_n dX2_readItem_67 rfl rfl ⟨by decide, by decide⟩ ?_
      refine aw_iconst dX2_readItem_68 rfl ⟨by decide, by decide⟩ ?_
      refine aw_cV1v dX2_readItem_69 ml_RX2_60 (by assumption) (by decide) rfl rfl ⟨by decide, by decide, by decide, by decide⟩ (Nat.le_of_ble_eq_true rfl) (sp_note hK0.1 Mb h.1 3) (fun M1 hM1 => ?_)
      exact aw_vret dX2_readItem_72 (by decide) (by decide) ⟨rfl, rfl, fault 3 _ (by omega) rfl hr M1 hM1⟩
    refine aw_aload_n dX2_readItem_47 rfl rfl ⟨by decide, by decide⟩ ?_
    refine aw_gr 4 dX2_readItem_48 fl_RX2_28 (by assumption) rfl rfl h.2.1 ?_
    refine aw_gi 5 dX2_readItem_51 fl_RX2_44 (by assumption) rfl rfl h.2.2.2.1 ?_
    refine aw_bipush dX2_readItem_54 (by decide) ⟨by decide, by decide⟩ ?_
    refine aw_icmp_eq (tgt := 67) dX2_readItem_56 rfl (fun h56 => ?_) (fun h56 => ?_)
    · exact many (Or.inr h56)
    · refine aw_aload_n dX2_readItem_59 rfl rfl ⟨by decide, by decide⟩ ?_
      refine aw_gi 6 dX2_readItem_60 fl_RX2_35 (by assumption) rfl rfl h.2.2.1 ?_
      refine aw_iconst dX2_readItem_63 rfl ⟨by decide, by decide⟩ ?_
      refine aw_icmp_ne (tgt := 73) dX2_readItem_64 rfl (fun h64 => ?_) (fun h64 => ?_)
      · rw [if_neg (by omega)] at hr
        have hn : s.2.2.1 ≤ 39 := by omega
        have hdp : s.2.1 ≤ 3 := by omega
        refine aw_aload_n dX2_readItem_73 rfl rfl ⟨by decide, by decide⟩ ?_
        refine aw_cV0v dX2_readItem_74 ml_RX2_47 (by assumption) (by decide) rfl rfl ⟨by decide, by decide, by decide, by decide⟩ (Nat.le_of_ble_eq_true rfl) (sp_advG hK0.1 Mb h.1) (fun M1 hM1 => ?_)
        have ha := h.1.adv hK0.1 hM1
        have h1 : LV M1 rd tp sc X (adv X s) := h.leaf hK0 ha.1 ha.2
        have f1 : frC Mb M1 rd sc := frC.ofL ha.2
        have fin : ∀ (M2 : az_M) (v : az_V), CO M1 M2 rd tp sc X R → AW az_P0 (az_Z (qv K (fun M' => CO Mb M' rd tp sc X R)) 0 0) (az_rm 8 0 0) yX2_readItem cX2_readItem 5 none 0 0 156 [(1, rd), (0, V), (0, za), (0, zb), v] [] K M2 := fun M2 v hc => aw_vret dX2_readItem_156 (by decide) (by decide) ⟨rfl, rfl, hc.1, hc.2.1, f1.trans hc.2.2⟩
        refine aw_iload_n dX2_readItem_77 rfl rfl ?_
        refine aw_iconst dX2_readItem_78 rfl ⟨by decide, by decide⟩ ?_
        refine aw_icmp_eq (tgt := 90) dX2_readItem_79 rfl (fun h79 => ?_) (fun h79 => ?_)
        · have hnr : ¬ isR X s := fun q => hVr.mpr q h79
          refine aw_iload_n dX2_readItem_90 rfl rfl ?_
          refine aw_if_eq (tgt := 124) dX2_readItem_91 rfl (fun h91 => ?_) (fun h91 => ?_)
          · have hnw : ¬ isW X 643248 s := fun q => tv0 ta h91 (w0.mpr q)
            rw [if_neg hnw] at hr
            refine aw_iload_n dX2_readItem_124 rfl rfl ?_
            refine aw_if_eq (tgt := 144) dX2_readItem_125 rfl (fun h125 => ?_) (fun h125 => ?_)
            · have hnt : ¬ isW X 21279923 s := fun q => tv0 tb h125 (w1.mpr q)
              have hif : isW X 294 s := by
                rcases hb with q | q | q | q
                · exact absurd q hnr
                · exact absurd q hnw
                · exact absurd q hnt
                · exact q
              rw [if_neg hnt, if_pos hif] at hr
              unfold pIfs at hr
              refine aw_aload_n dX2_readItem_144 rfl rfl ⟨by decide, by decide⟩ ?_
              refine aw_bipush dX2_readItem_145 (by decide) ⟨by decide, by decide⟩ ?_
              refine aw_aload_n dX2_readItem_147 rfl rfl ⟨by decide, by decide⟩ ?_
              refine aw_iconst dX2_readItem_148 rfl ⟨by decide, by decide⟩ ?_
              refine aw_cV1i dX2_readItem_149 ml_RX2_122 (by assumption) (by decide) rfl rfl ⟨by decide, by decide, by decide, by decide⟩ (Nat.le_of_ble_eq_true rfl) (sp_creadRoot hK0.1 M1 h1.1 0 (Or.inl rfl)) (fun z2 M2 hz2 => ?_)
              obtain ⟨a2, b2, f2⟩ := rtB hK0 h1 hz2
              rcases hq : pRt X (adv X s) with e | a
              · have hD := a2 e hq
                rw [hq] at hr
                refine aw_iconst dX2_readItem_152 rfl ⟨by decide, by decide⟩ ?_
                refine aw_cV3v dX2_readItem_153 ml_RX2_118 (by assumption) (by decide) rfl rfl ⟨by decide, by decide, by decide, by decide⟩ (Nat.le_of_ble_eq_true rfl) (sp_openBlockD hK0 M2 hD hdp 6 z2 0) (fun M3 hM3 => ?_)
                exact fin M3 _ (CO.l hr.symm hM3.1 (by show s.2.1 + 1 ≤ 4; omega) (f2.trans hM3.2))
              · obtain ⟨e2, h2⟩ := b2 a hq
                obtain ⟨ea, -⟩ := pRt_r hq
                rw [hq] at hr
                subst ea
                replace h2 : LV M2 rd tp sc X (adv X (adv X s)) := h2
                replace e2 : z2 = wd X (adv X s).1 - 1 := e2
                subst e2
                have hob := sp_openBlock hK0 M2 h2 hn hdp 6 (wd X (adv X s).1 - 1) 0
                refine aw_iconst dX2_readItem_152 rfl ⟨by decide, by decide⟩ ?_
                refine aw_cV3v dX2_readItem_153 ml_RX2_118 (by assumption) (by decide) rfl rfl ⟨by decide, by decide, by decide, by decide⟩ (Nat.le_of_ble_eq_true rfl) (hob) (fun M3 hM3 => ?_)
                rw [show (bd (pSg X 123 (adv X (adv X s))) fun t => Sum.inr (opn t 6 (wd X (adv X s).1 - 1) 0)) = R from hr] at hM3
                exact fin M3 _ ⟨hM3.1, hM3.2.1, f2.trans hM3.2.2⟩
            · have ht : isW X 21279923 s := w1.mp (tv1 tb h125)
              rw [if_pos ht] at hr
              unfold pTim at hr
              refine aw_aload_n dX2_readItem_128 rfl rfl ⟨by decide, by decide⟩ ?_
              refine aw_iconst dX2_readItem_129 rfl ⟨by decide, by decide⟩ ?_
              refine aw_iconst dX2_readItem_130 rfl ⟨by decide, by decide⟩ ?_
              refine aw_aload_n dX2_readItem_131 rfl rfl ⟨by decide, by decide⟩ ?_
              refine aw_iconst dX2_readItem_132 rfl ⟨by decide, by decide⟩ ?_
              refine aw_bipush dX2_readItem_133 (by decide) ⟨by decide, by decide⟩ ?_
              refine aw_cV2i dX2_readItem_135 ml_RX2_107 (by assumption) (by decide) rfl rfl ⟨by decide, by decide, by decide, by decide⟩ (Nat.le_of_ble_eq_true rfl) (sp_creadNumber hK0.1 M1 h1.1 2 9 (by omega)) (fun z2 M2 hz2 => ?_)
              obtain ⟨a2, b2, f2⟩ := numB hK0 h1 hz2
              rcases hq : pNm X 2 9 (adv X s) with e | a
              · have hD := a2 e hq
                rw [hq] at hr
                refine aw_cV3v dX2_readItem_138 ml_RX2_118 (by assumption) (by decide) rfl rfl ⟨by decide, by decide, by decide, by decide⟩ (Nat.le_of_ble_eq_true rfl) (sp_openBlockD hK0 M2 hD hdp 5 (-1) z2) (fun M3 hM3 => ?_)
                refine aw_goto (tgt := 156) dX2_readItem_141 rfl ?_
                exact fin M3 _ (CO.l hr.symm hM3.1 (by show s.2.1 + 1 ≤ 4; omega) (f2.trans hM3.2))
              · obtain ⟨e2, h2⟩ := b2 a hq
                obtain ⟨ea, -⟩ := pNm_r hq
                rw [hq] at hr
                subst ea
                replace h2 : LV M2 rd tp sc X (adv X (adv X s)) := h2
                replace e2 : z2 = nm X (adv X s).1 := e2
                subst e2
                have hob := sp_openBlock hK0 M2 h2 hn hdp 5 (-1) (nm X (adv X s).1)
                refine aw_cV3v dX2_readItem_138 ml_RX2_118 (by assumption) (by decide) rfl rfl ⟨by decide, by decide, by decide, by decide⟩ (Nat.le_of_ble_eq_true rfl) (hob) (fun M3 hM3 => ?_)
                rw [show (bd (pSg X 123 (adv X (adv X s))) fun t => Sum.inr (opn t 5 (-1) (nm X (adv X s).1))) = R from hr] at hM3
                refine aw_goto (tgt := 156) dX2_readItem_141 rfl ?_
                exact fin M3 _ ⟨hM3.1, hM3.2.1, f2.trans hM3.2.2⟩
          · have hw : isW X 643248 s := w0.mp (tv1 ta h91)
            rw [if_pos hw] at hr
            unfold pStp at hr
            refine aw_aload_n dX2_readItem_94 rfl rfl ⟨by decide, by decide⟩ ?_
            refine aw_iconst dX2_readItem_95 rfl ⟨by decide, by decide⟩ ?_
            refine aw_bipush dX2_readItem_96 (by decide) ⟨by decide, by decide⟩ ?_
            refine aw_cV2i dX2_readItem_98 ml_RX2_107 (by assumption) (by decide) rfl rfl ⟨by decide, by decide, by decide, by decide⟩ (Nat.le_of_ble_eq_true rfl) (sp_creadNumber hK0.1 M1 h1.1 1 99 (by omega)) (fun z2 M2 hz2 => ?_)
            refine aw_istore dX2_readItem_101 (by decide) ?_
            obtain ⟨a2, b2, f2⟩ := numB hK0 h1 hz2
            rcases hq : pNm X 1 99 (adv X s) with e | a
            · have hD := a2 e hq
              rw [hq] at hr
              obtain ⟨p, hg⟩ := hD.1
              refine aw_aload_n dX2_readItem_103 rfl rfl ⟨by decide, by decide⟩ ?_
              refine aw_bipush dX2_readItem_104 (by decide) ⟨by decide, by decide⟩ ?_
              refine aw_cV1v dX2_readItem_106 ml_RX2_110 (by assumption) (by decide) rfl rfl ⟨by decide, by decide, by decide, by decide⟩ (Nat.le_of_ble_eq_true rfl) (sp_creadSign hK0.1 M2 hg 59) (fun M3 hM3 => ?_)
              obtain ⟨h3, f3⟩ := sgD hK0 hD hM3
              refine aw_aload_n dX2_readItem_109 rfl rfl ⟨by decide, by decide⟩ ?_
              refine aw_gr 4 dX2_readItem_110 fl_RX2_28 (by assumption) rfl rfl h3.2.2.1 ?_
              refine aw_iconst dX2_readItem_113 rfl ⟨by decide, by decide⟩ ?_
              refine aw_iconst dX2_readItem_114 rfl ⟨by decide, by decide⟩ ?_
              refine aw_iconst dX2_readItem_115 rfl ⟨by decide, by decide⟩ ?_
              refine aw_iload dX2_readItem_116 rfl ?_
              refine aw_cV4v dX2_readItem_118 ml_RX2_114 (by assumption) (by decide) rfl rfl ⟨by decide, by decide, by decide, by decide⟩ (Nat.le_of_ble_eq_true rfl) (sp_add hSc0 M3 (M3 sc 5) rfl h3.2.2.2.2.2.1 h3.2.2.2.2.2.2 4 (-1) (-1) z2) (fun M5 hM5 => ?_)
              obtain ⟨h5, f5⟩ := h3.add hK0 hM5
              refine aw_goto (tgt := 156) dX2_readItem_121 rfl ?_
              exact fin M5 _ (CO.l hr.symm h5 dp4.2 (f2.trans (f3.trans f5)))
            · obtain ⟨e2, h2⟩ := b2 a hq
              obtain ⟨ea, -⟩ := pNm_r hq
              rw [hq] at hr
              subst ea
              replace h2 : LV M2 rd tp sc X (adv X (adv X s)) := h2
              replace e2 : z2 = nm X (adv X s).1 := e2
              subst e2
              replace hr : (bd (pSg X 59 (adv X (adv X s))) fun t => Sum.inr (addI t 4 (-1) (-1) (nm X (adv X s).1))) = R := hr
              refine aw_aload_n dX2_readItem_103 rfl rfl ⟨by decide, by decide⟩ ?_
              refine aw_bipush dX2_readItem_104 (by decide) ⟨by decide, by decide⟩ ?_
              refine aw_cV1v dX2_readItem_106 ml_RX2_110 (by assumption) (by decide) rfl rfl ⟨by decide, by decide, by decide, by decide⟩ (Nat.le_of_ble_eq_true rfl) (sp_creadSign hK0.1 M2 h2.1 59) (fun M3 hM3 => ?_)
              obtain ⟨a3, b3, f3⟩ := sgB hK0 h2 hM3
              rcases hq2 : pSg X 59 (adv X (adv X s)) with e | t
              · have h3 := a3 e hq2
                rw [hq2] at hr
                refine aw_aload_n dX2_readItem_109 rfl rfl ⟨by decide, by decide⟩ ?_
                refine aw_gr 4 dX2_readItem_110 fl_RX2_28 (by assumption) rfl rfl h3.2.2.1 ?_
                refine aw_iconst dX2_readItem_113 rfl ⟨by decide, by decide⟩ ?_
                refine aw_iconst dX2_readItem_114 rfl ⟨by decide, by decide⟩ ?_
                refine aw_iconst dX2_readItem_115 rfl ⟨by decide, by decide⟩ ?_
                refine aw_iload dX2_readItem_116 rfl ?_
                refine aw_cV4v dX2_readItem_118 ml_RX2_114 (by assumption) (by decide) rfl rfl ⟨by decide, by decide, by decide, by decide⟩ (Nat.le_of_ble_eq_true rfl) (sp_add hSc0 M3 (M3 sc 5) rfl h3.2.2.2.2.2.1 h3.2.2.2.2.2.2 4 (-1) (-1) (nm X (adv X s).1)) (fun M5 hM5 => ?_)
                obtain ⟨h5, f5⟩ := h3.add hK0 hM5
                refine aw_goto (tgt := 156) dX2_readItem_121 rfl ?_
                exact fin M5 _ (CO.l hr.symm h5 dp4.2 (f2.trans (f3.trans f5)))
              · have h3 := b3 t hq2
                obtain ⟨et, -⟩ := pSg_r hq2
                rw [hq2] at hr
                subst et
                refine aw_aload_n dX2_readItem_109 rfl rfl ⟨by decide, by decide⟩ ?_
                refine aw_gr 4 dX2_readItem_110 fl_RX2_28 (by assumption) rfl rfl h3.2.1 ?_
                refine aw_iconst dX2_readItem_113 rfl ⟨by decide, by decide⟩ ?_
                refine aw_iconst dX2_readItem_114 rfl ⟨by decide, by decide⟩ ?_
                refine aw_iconst dX2_readItem_115 rfl ⟨by decide, by decide⟩ ?_
                refine aw_iload dX2_readItem_116 rfl ?_
                refine aw_cV4v dX2_readItem_118 ml_RX2_114 (by assumption) (by decide) rfl rfl ⟨by decide, by decide, by decide, by decide⟩ (Nat.le_of_ble_eq_true rfl) (sp_add hSc0 M3 s.2.2.1 h3.2.2.2.1 n0.1 (by omega) 4 (-1) (-1) (nm X (adv X s).1)) (fun M5 hM5 => ?_)
                have hA := hM5.1 (by omega)
                refine aw_goto (tgt := 156) dX2_readItem_121 rfl ?_
                exact fin M5 _ (CO.r hr.symm (LV.add hK0 h3 hn hA) (f2.trans (f3.trans (frC.add hK0 hA))))
        · have hR : isR X s := hVr.mp h79
          have hR2 := hR.2
          rw [if_neg (fun q => by have := q.2; omega), if_neg (fun q => by have := q.2; omega), if_neg (fun q => by have := q.2; omega)] at hr
          have hVe : wd X s.1 - 1 = V := by rw [← hV, if_pos hR]
          unfold pDee at hr
          rw [hVe] at hr
          have hnm := sp_creadNaming hK0 M1 h1 hn V
          refine aw_aload_n dX2_readItem_82 rfl rfl ⟨by decide, by decide⟩ ?_
          refine aw_iload_n dX2_readItem_83 rfl rfl ?_
          refine aw_cV1v dX2_readItem_84 ml_RX2_104 (by assumption) (by decide) rfl rfl ⟨by decide, by decide, by decide, by decide⟩ (Nat.le_of_ble_eq_true rfl) (hnm) (fun M2 hM2 => ?_)
          rw [hr] at hM2
          refine aw_goto (tgt := 156) dX2_readItem_87 rfl ?_
          exact fin M2 _ hM2
      · exact many (Or.inl (by omega))
  refine aw_istore_n dX2_readItem_18 rfl (by decide) ?_
  refine aw_iload_n dX2_readItem_19 rfl rfl ?_
  refine aw_iconst dX2_readItem_20 rfl ⟨by decide, by decide⟩ ?_
  refine aw_icmp_ne (tgt := 47) dX2_readItem_21 rfl (fun h21 => ?_) (fun h21 => ?_)
  · exact go (Or.inl (hVr.mp h21))
  · refine aw_iload_n dX2_readItem_24 rfl rfl ?_
    refine aw_if_ne (tgt := 47) dX2_readItem_25 rfl (fun h25 => ?_) (fun h25 => ?_)
    · exact go (Or.inr (Or.inl (w0.mp (tv1 ta h25))))
    · refine aw_iload_n dX2_readItem_28 rfl rfl ?_
      refine aw_if_ne (tgt := 47) dX2_readItem_29 rfl (fun h29 => ?_) (fun h29 => ?_)
      · exact go (Or.inr (Or.inr (Or.inl (w1.mp (tv1 tb h29)))))
      · refine aw_aload_n dX2_readItem_32 rfl rfl ⟨by decide, by decide⟩ ?_
        refine aw_ldcS (i := 2) dX2_readItem_33 (by decide) rfl rfl ?_
        refine aw_cV1i dX2_readItem_35 ml_RX2_91 (by assumption) (by decide) rfl rfl ⟨by decide, by decide, by decide, by decide⟩ (Nat.le_of_ble_eq_true rfl) (sp_cisWord hK0.1 Mb h.1 2 (by omega) (by omega)) (fun zc Mc hzc => ?_)
        obtain ⟨tc, eM⟩ := hzc
        subst eM
        refine aw_if_ne (tgt := 47) dX2_readItem_38 rfl (fun h38 => ?_) (fun h38 => ?_)
        · exact go (Or.inr (Or.inr (Or.inr (w2.mp (tv1 tc h38)))))
        · have hno : ¬ beg X s := by
            rintro (q | q | q | q)
            · exact hVr.mpr q h21
            · exact tv0 ta h25 (w0.mpr q)
            · exact tv0 tb h29 (w1.mpr q)
            · exact tv0 tc h38 (w2.mpr q)
          rw [if_pos hno] at hr
          refine aw_aload_n dX2_readItem_41 rfl rfl ⟨by decide, by decide⟩ ?_
          refine aw_iconst dX2_readItem_42 rfl ⟨by decide, by decide⟩ ?_
          refine aw_cV1v dX2_readItem_43 ml_RX2_60 (by assumption) (by decide) rfl rfl ⟨by decide, by decide, by decide, by decide⟩ (Nat.le_of_ble_eq_true rfl) (sp_note hK0.1 Mc h.1 1) (fun M1 hM1 => ?_)
          exact aw_vret dX2_readItem_46 (by decide) (by decide) ⟨rfl, rfl, fault 1 _ (by omega) rfl hr M1 hM1⟩
set_option maxHeartbeats 1000000 in
theorem sp_closeBlock (hK : RdK K rd tp sc) (M : az_M) (h : LV M rd tp sc X s) (hN : NI s) (hS : isS X 125 s) : AM yX2_closeBlock cX2_closeBlock 1 none 2 0 0 [(1, rd)] K M (qv K (fun M' => CO M M' rd tp sc X (if 0 < s.2.1 then .inr (adv X (cls s)) else .inl (1, s.1)))) := by
  have hK0 := hK
  obtain ⟨⟨kr, k8, kt, y5, hs⟩, hSc, hd, ht⟩ := hK
  obtain ⟨s0, s1, s2, s3, s4, s5, x0, x1, x2, x3, x4⟩ := hSc
  refine am_of (by decide) (Nat.le_of_ble_eq_true rfl) (L := [(1, rd)]) rfl ?_
  obtain ⟨g1, d4, d6, n5, rI, rO, dpb, nb⟩ := id h
  generalize hr : (if 0 < s.2.1 then (Sum.inr (adv X (cls s)) : Sum pE pSt) else .inl (1, s.1)) = R
  refine aw_aload_n dX2_closeBlock_0 rfl rfl ⟨by decide, by decide⟩ ?_
  refine aw_gi 6 dX2_closeBlock_1 fl_RX2_35 (by assumption) rfl rfl d6 ?_
  refine aw_if_ne (tgt := 13) dX2_closeBlock_4 rfl (fun h4 => ?_) (fun h4 => ?_)
  · rw [if_pos (by omega)] at hr
    obtain ⟨-, c2, c3⟩ := cls_NI (X := X) hN (by omega)
    generalize hb : s.2.2.2.2 (s.2.1 - 1) = b at c2 c3
    have u24 : az_up M rd 6 (s.2.1 - 1) rd 4 = sc := by rw [az_up_i _ _ _ _ (by omega)]; exact d4
    have v35 : az_up M rd 6 (s.2.1 - 1) rd 6 = s.2.1 - 1 := az_up_s _ _ _ _
    have v38 : az_up M rd 6 (s.2.1 - 1) (rd + 8) (s.2.1 - 1) = b := by rw [up_oth _ _ _ (by omega), ← hb]; exact rO _ (by omega) (by omega)
    have v43 : az_up M rd 6 (s.2.1 - 1) sc 5 = s.2.2.1 := by rw [up_oth _ _ _ (by omega)]; exact n5
    have hL : LV (az_up (az_up M rd 6 (s.2.1 - 1)) (sc + 5) b s.2.2.1) rd tp sc X (cls s) := by
      refine ⟨g1.fr (by omega) (fun j hj => by rw [up_oth _ _ _ (by omega), az_up_i _ _ _ _ hj]) (by rw [up_oth _ _ _ (by omega), up_oth _ _ _ (by omega)]), by rw [up_oth _ _ _ (by omega)]; exact u24, by rw [up_oth _ _ _ (by omega)]; exact v35, by rw [up_oth _ _ _ (by omega)]; exact v43, fun i i0 i1 => ?_, fun q q0 q1 => ?_, ⟨?_, ?_⟩, nb⟩
      · have hi := rI i i0 i1
        unfold clsI at hi ⊢
        have f : ∀ j, j ≠ 4 → (cls s).2.2.2.1 i j = s.2.2.2.1 i j := fun j hj => if_neg (fun q => hj q.2)
        rw [f 0 (by omega), f 1 (by omega), f 2 (by omega), f 3 (by omega), up_oth _ _ _ (by omega), up_oth _ _ _ (by omega), up_oth _ _ _ (by omega), up_oth _ _ _ (by omega), up_oth _ _ _ (by omega), up_oth _ _ _ (by omega), up_oth _ _ _ (by omega), up_oth _ _ _ (by omega)]
        refine ⟨hi.1, hi.2.1, hi.2.2.1, hi.2.2.2.1, ?_⟩
        rw [up_row, up_oth _ _ _ (by omega)]
        show (if i = b then s.2.2.1 else M (sc + 5) i) = if i = s.2.2.2.2 (s.2.1 - 1) ∧ (4 : Int) = 4 then s.2.2.1 else s.2.2.2.1 i 4
        rw [hb]
        by_cases q : i = b
        · rw [if_pos q, if_pos ⟨q, rfl⟩]
        · rw [if_neg q, if_neg (fun w => q w.1)]; exact hi.2.2.2.2
      · have q1' : q < s.2.1 - 1 := q1
        rw [up_oth _ _ _ (by omega), up_oth _ _ _ (by omega)]; exact rO q q0 (by omega)
      · show 0 ≤ s.2.1 - 1
        omega
      · show s.2.1 - 1 ≤ 4
        omega
    have f1 : frC M (az_up (az_up M rd 6 (s.2.1 - 1)) (sc + 5) b s.2.2.1) rd sc := ⟨fun b b1 b2 b3 => by rw [up_oth _ _ _ (by omega), up_oth _ _ _ b1], by rw [up_oth _ _ _ (by omega), az_up_i _ _ _ _ (by omega)], by rw [up_oth _ _ _ (by omega), az_up_i _ _ _ _ (by omega)], by rw [up_oth _ _ _ (by omega), az_up_i _ _ _ _ (by omega)]⟩
    refine aw_aload_n dX2_closeBlock_13 rfl rfl ⟨by decide, by decide⟩ ?_
    refine aw_dup dX2_closeBlock_14 ?_
    refine aw_gi 6 dX2_closeBlock_15 fl_RX2_35 (by assumption) rfl rfl d6 ?_
    refine aw_iconst dX2_closeBlock_18 rfl ⟨by decide, by decide⟩ ?_
    refine aw_isub dX2_closeBlock_19 (az_wr_id (by omega) (by omega)) ?_
    refine aw_pi 6 dX2_closeBlock_20 fl_RX2_35 (by assumption) rfl rfl ?_
    refine aw_aload_n dX2_closeBlock_23 rfl rfl ⟨by decide, by decide⟩ ?_
    refine aw_gr 4 dX2_closeBlock_24 fl_RX2_28 (by assumption) rfl rfl u24 ?_
    refine aw_gzF 4 dX2_closeBlock_27 fl_RX2_95 (by assumption) rfl rfl (by assumption) ?_
    refine aw_aload_n dX2_closeBlock_30 rfl rfl ⟨by decide, by decide⟩ ?_
    refine aw_gzF 5 dX2_closeBlock_31 fl_RX2_32 (by assumption) rfl rfl (by assumption) ?_
    refine aw_aload_n dX2_closeBlock_34 rfl rfl ⟨by decide, by decide⟩ ?_
    refine aw_gi 6 dX2_closeBlock_35 fl_RX2_35 (by assumption) rfl rfl v35 ?_
    refine aw_iv dX2_closeBlock_38 (by assumption) (by omega) (by omega) v38 ?_
    refine aw_aload_n dX2_closeBlock_39 rfl rfl ⟨by decide, by decide⟩ ?_
    refine aw_gr 4 dX2_closeBlock_40 fl_RX2_28 (by assumption) rfl rfl u24 ?_
    refine aw_gi 5 dX2_closeBlock_43 fl_RX2_44 (by assumption) rfl rfl v43 ?_
    refine aw_iast dX2_closeBlock_46 (by assumption) (by omega) (by omega) ?_
    generalize az_up (az_up M rd 6 (s.2.1 - 1)) (sc + 5) b s.2.2.1 = M1 at hL f1 ⊢
    refine aw_aload_n dX2_closeBlock_47 rfl rfl ⟨by decide, by decide⟩ ?_
    refine aw_cV0v dX2_closeBlock_48 ml_RX2_47 (by assumption) (by decide) rfl rfl ⟨by decide, by decide, by decide, by decide⟩ (Nat.le_of_ble_eq_true rfl) (sp_advG hK0.1 M1 hL.1) (fun M2 hM2 => ?_)
    have ha := hL.1.adv hK0.1 hM2
    exact aw_vret dX2_closeBlock_51 (by decide) (by decide) ⟨rfl, rfl, CO.r hr.symm (hL.leaf hK0 ha.1 ha.2) (f1.trans (frC.ofL ha.2))⟩
  · rw [if_neg (by omega)] at hr
    refine aw_aload_n dX2_closeBlock_7 rfl rfl ⟨by decide, by decide⟩ ?_
    refine aw_iconst dX2_closeBlock_8 rfl ⟨by decide, by decide⟩ ?_
    refine aw_cV1v dX2_closeBlock_9 ml_RX2_60 (by assumption) (by decide) rfl rfl ⟨by decide, by decide, by decide, by decide⟩ (Nat.le_of_ble_eq_true rfl) (sp_note hK0.1 M g1 1) (fun M1 hM1 => ?_)
    have := hM1.1
    rw [nt_l] at this
    exact aw_vret dX2_closeBlock_12 (by decide) (by decide) ⟨rfl, rfl, CO.l hr.symm (DD.of hK0 h this (by show (1 : Int) ≠ 0; omega) hM1.2) dpb.2 (frC.ofL hM1.2)⟩
/-- what a reading leaves -/
def rdP (M M' : az_M) (rd sc : Int) (X : pTx) : Prop := (∀ e, pPrg X = .inl e → M' rd 7 = e.1 ∧ M' rd 8 = e.2 ∧ e.1 ≠ 0) ∧ (∀ t, pPrg X = .inr t → M' rd 7 = 0 ∧ M' rd 8 = -1 ∧ PGc M' sc t.2.2.2.1 t.2.2.1) ∧ ∀ b, b ≠ rd → b ≠ rd + 8 → b < sc ∨ sc + 5 < b → M' b = M b
set_option maxHeartbeats 2000000 in
theorem sp_read (hK : RdK K rd tp sc) (M : az_M) (h0 : 0 ≤ X.2) (h4 : X.2 ≤ 400) (hX : ∀ i, 0 ≤ i → i < X.2 → M tp i = X.1 i ∧ 0 ≤ X.1 i ∧ X.1 i ≤ 255) (z0 : K.2 rd 0 = none) (z4 : K.2 rd 4 = none) (it : az_in tp) (is : az_in sc) : AM yX2_read cX2_read 5 none 9 0 0 [(1, rd), (1, tp), (0, X.2), (1, sc)] K M (qv K (fun M' => rdP M M' rd sc X)) := by
  have hK0 := hK
  obtain ⟨⟨kr, k8, kt, y5, hs⟩, hSc, hd, ht⟩ := hK
  obtain ⟨s0, s1, s2, s3, s4, s5, x0, x1, x2, x3, x4⟩ := hSc
  refine am_of (by decide) (Nat.le_of_ble_eq_true rfl) (L := [(1, rd), (1, tp), (0, X.2), (1, sc), (9, 0)]) rfl ?_
  have hpA := tkA_in (X := X) (q := 0) h0
  generalize hr : pPrg X = R
  replace hr : bd (pAll X 400 (tkA X 0, 0, 0, fun _ _ => 0, fun _ => 0)) lst = R := hr
  have hend : ∀ M' : az_M, (∀ e, R = .inl e → M' rd 7 = e.1 ∧ M' rd 8 = e.2 ∧ e.1 ≠ 0) → (∀ t, R = .inr t → M' rd 7 = 0 ∧ M' rd 8 = -1 ∧ PGc M' sc t.2.2.2.1 t.2.2.1) → (∀ b, b ≠ rd → b ≠ rd + 8 → b < sc ∨ sc + 5 < b → M' b = M b) → rdP M M' rd sc X := by
    intro M' a b c
    have hrr : pPrg X = R := hr
    unfold rdP
    rw [hrr]
    exact ⟨a, b, c⟩
  generalize hM1 : az_up (az_up (az_up (az_up (az_up (az_up (az_up (az_up M rd 0 tp) rd 1 X.2) rd 4 sc) sc 5 0) rd 6 0) rd 7 0) rd 8 (-1)) rd 3 0 = M1
  have o1 : ∀ b, b ≠ rd → b ≠ sc → M1 b = M b := fun b a c => by rw [← hM1, up_oth _ _ _ a, up_oth _ _ _ a, up_oth _ _ _ a, up_oth _ _ _ a, up_oth _ _ _ c, up_oth _ _ _ a, up_oth _ _ _ a, up_oth _ _ _ a]
  have e0 : M1 rd 0 = tp := by rw [← hM1, az_up_i _ _ _ _ (by omega), az_up_i _ _ _ _ (by omega), az_up_i _ _ _ _ (by omega), az_up_i _ _ _ _ (by omega), up_oth _ _ _ (by omega), az_up_i _ _ _ _ (by omega), az_up_i _ _ _ _ (by omega), az_up_s]
  have e1 : M1 rd 1 = X.2 := by rw [← hM1, az_up_i _ _ _ _ (by omega), az_up_i _ _ _ _ (by omega), az_up_i _ _ _ _ (by omega), az_up_i _ _ _ _ (by omega), up_oth _ _ _ (by omega), az_up_i _ _ _ _ (by omega), az_up_s]
  have e4 : M1 rd 4 = sc := by rw [← hM1, az_up_i _ _ _ _ (by omega), az_up_i _ _ _ _ (by omega), az_up_i _ _ _ _ (by omega), az_up_i _ _ _ _ (by omega), up_oth _ _ _ (by omega), az_up_s]
  have e5 : M1 sc 5 = 0 := by rw [← hM1, up_oth _ _ _ (by omega), up_oth _ _ _ (by omega), up_oth _ _ _ (by omega), up_oth _ _ _ (by omega), az_up_s]
  have e6 : M1 rd 6 = 0 := by rw [← hM1, az_up_i _ _ _ _ (by omega), az_up_i _ _ _ _ (by omega), az_up_i _ _ _ _ (by omega), az_up_s]
  have e7 : M1 rd 7 = 0 := by rw [← hM1, az_up_i _ _ _ _ (by omega), az_up_i _ _ _ _ (by omega), az_up_s]
  have e8 : M1 rd 8 = -1 := by rw [← hM1, az_up_i _ _ _ _ (by omega), az_up_s]
  have e3 : M1 rd 3 = 0 := by rw [← hM1, az_up_s]
  have hb1 : CB M1 rd tp X := ⟨e0, e1, h0, h4, fun i i0 i1 => by rw [o1 _ (by omega) (by omega)]; exact hX i i0 i1⟩
  have u16 : az_up (az_up (az_up M rd 0 tp) rd 1 X.2) rd 4 sc rd 4 = sc := az_up_s _ _ _ _
  have dead : ∀ (M2 : az_M) (e : pE) (dp i : Int), DD M2 rd tp sc X e dp → dp ≤ 4 → (∀ b, b ≠ rd → b ≠ rd + 8 → b < sc ∨ sc + 5 < b → M2 b = M b) → R = .inl e → AW az_P0 (az_Z (qv K (fun M' => rdP M M' rd sc X)) 0 0) (az_rm 9 0 0) yX2_read cX2_read 5 none 0 0 102 [(1, rd), (1, tp), (0, X.2), (1, sc), (0, i)] [] K M2 := by
    intro M2 e dp i hD h4 o2 hq
    obtain ⟨⟨p, hg⟩, hne, -, d6, dp0, -, -⟩ := id hD
    have fin : ∀ M3 : az_M, M3 rd 7 = e.1 → M3 rd 8 = e.2 → (∀ b, b ≠ rd → b ≠ rd + 8 → b < sc ∨ sc + 5 < b → M3 b = M b) → AW az_P0 (az_Z (qv K (fun M' => rdP M M' rd sc X)) 0 0) (az_rm 9 0 0) yX2_read cX2_read 5 none 0 0 114 [(1, rd), (1, tp), (0, X.2), (1, sc), (0, i)] [] K M3 := fun M3 a b c => aw_vret dX2_read_114 (by decide) (by decide) ⟨rfl, rfl, hend M3 (fun e' q => by rw [hq] at q; cases q; exact ⟨a, b, hne⟩) (fun t q => by rw [hq] at q; cases q) c⟩
    refine aw_aload_n dX2_read_102 rfl rfl ⟨by decide, by decide⟩ ?_
    refine aw_gi 6 dX2_read_103 fl_RX2_35 (by assumption) rfl rfl d6 ?_
    refine aw_if_le (tgt := 114) dX2_read_106 rfl (fun h106 => ?_) (fun h106 => ?_)
    · exact fin M2 hg.2.2.2.2.1 hg.2.2.2.2.2 o2
    · refine aw_aload_n dX2_read_109 rfl rfl ⟨by decide, by decide⟩ ?_
      refine aw_iconst dX2_read_110 rfl ⟨by decide, by decide⟩ ?_
      refine aw_cV1v dX2_read_111 ml_RX2_60 (by assumption) (by decide) rfl rfl ⟨by decide, by decide, by decide, by decide⟩ (Nat.le_of_ble_eq_true rfl) (sp_note hK0.1 M2 hg 1) (fun M3 hM3 => ?_)
      have h3 := hM3.1
      rw [nt_d hne] at h3
      exact fin M3 h3.2.2.2.2.1 h3.2.2.2.2.2 (fun b a c d => by rw [hM3.2.1 b a]; exact o2 b a c d)
  have done : ∀ (M2 : az_M) (s : pSt) (i : Int), LV M2 rd tp sc X s → (∀ b, b ≠ rd → b ≠ rd + 8 → b < sc ∨ sc + 5 < b → M2 b = M b) → lst s = R → AW az_P0 (az_Z (qv K (fun M' => rdP M M' rd sc X)) 0 0) (az_rm 9 0 0) yX2_read cX2_read 5 none 0 0 102 [(1, rd), (1, tp), (0, X.2), (1, sc), (0, i)] [] K M2 := by
    intro M2 s i hL o2 hq
    unfold lst at hq
    refine aw_aload_n dX2_read_102 rfl rfl ⟨by decide, by decide⟩ ?_
    refine aw_gi 6 dX2_read_103 fl_RX2_35 (by assumption) rfl rfl hL.2.2.1 ?_
    refine aw_if_le (tgt := 114) dX2_read_106 rfl (fun h106 => ?_) (fun h106 => ?_)
    · rw [if_neg (by omega)] at hq
      refine aw_vret dX2_read_114 (by decide) (by decide) ⟨rfl, rfl, hend M2 (fun e q => by rw [← hq] at q; cases q) (fun t q => ?_) o2⟩
      rw [← hq] at q
      have e : s = t := by cases q; rfl
      rw [← e]
      exact ⟨hL.1.2.2.2.2.1, hL.1.2.2.2.2.2, hL.2.2.2.1, hL.2.2.2.2.2.2.2, hL.2.2.2.2.1⟩
    · rw [if_pos (by omega)] at hq
      refine aw_aload_n dX2_read_109 rfl rfl ⟨by decide, by decide⟩ ?_
      refine aw_iconst dX2_read_110 rfl ⟨by decide, by decide⟩ ?_
      refine aw_cV1v dX2_read_111 ml_RX2_60 (by assumption) (by decide) rfl rfl ⟨by decide, by decide, by decide, by decide⟩ (Nat.le_of_ble_eq_true rfl) (sp_note hK0.1 M2 hL.1 1) (fun M3 hM3 => ?_)
      have h3 := hM3.1
      rw [nt_l] at h3
      refine aw_vret dX2_read_114 (by decide) (by decide) ⟨rfl, rfl, hend M3 (fun e q => ?_) (fun t q => by rw [← hq] at q; cases q) (fun b a c d => by rw [hM3.2.1 b a]; exact o2 b a c d)⟩
      rw [← hq] at q
      cases q
      exact ⟨h3.2.2.2.2.1, h3.2.2.2.2.2, by show (1 : Int) ≠ 0; omega⟩
  have loop : ∀ (d : Nat) (i : Int) (s : pSt) (M2 : az_M), 0 ≤ i → i + d = 400 → LV M2 rd tp sc X s → NI s → X.2 - s.1 ≤ d → (∀ b, b ≠ rd → b ≠ rd + 8 → b < sc ∨ sc + 5 < b → M2 b = M b) → bd (pAll X d s) lst = R → AW az_P0 (az_Z (qv K (fun M' => rdP M M' rd sc X)) 0 0) (az_rm 9 0 0) yX2_read cX2_read 5 none 0 0 50 [(1, rd), (1, tp), (0, X.2), (1, sc), (0, i)] [] K M2 := by
    intro d
    induction d with
    | zero =>
      intro i s M2 i0 hi hL hN hd' o2 hq
      refine aw_iload dX2_read_50 rfl ?_
      refine aw_sipush dX2_read_52 (by decide) ⟨by decide, by decide⟩ ?_
      refine aw_icmp_ge (tgt := 102) dX2_read_55 rfl (fun h55 => ?_) (fun h55 => absurd h55 (by omega))
      exact done M2 s i hL o2 hq
    | succ d ih =>
      intro i s M2 i0 hi hL hN hd' o2 hq
      have p01 := hL.1.2.1
      replace hq : bd (if tok X s.1 = 0 then (Sum.inr s : Sum pE pSt) else if isS X 125 s ∧ 0 < s.2.1 then pAll X d (adv X (cls s)) else bd (pItm X s) (pAll X d)) lst = R := hq
      have next : ∀ (M3 : az_M) (r1 : Sum pE pSt), CO M2 M3 rd tp sc X r1 → (∀ t, r1 = .inr t → NI t ∧ s.1 < t.1) → bd (bd r1 (pAll X d)) lst = R → AW az_P0 (az_Z (qv K (fun M' => rdP M M' rd sc X)) 0 0) (az_rm 9 0 0) yX2_read cX2_read 5 none 0 0 96 [(1, rd), (1, tp), (0, X.2), (1, sc), (0, i)] [] K M3 := by
        intro M3 r1 hc hNt hq3
        obtain ⟨d3, l3, f3⟩ := hc
        have o3 : ∀ b, b ≠ rd → b ≠ rd + 8 → b < sc ∨ sc + 5 < b → M3 b = M b := fun b a c d => (f3.1 b a c d).trans (o2 b a c d)
        refine aw_iinc dX2_read_96 rfl (az_wr_id (by omega) (by omega)) (by decide) ?_
        refine aw_goto (tgt := 50) dX2_read_99 rfl ?_
        rcases r1 with e | t
        · obtain ⟨dq, hdq, hD⟩ := d3 e rfl
          obtain ⟨⟨p, hg⟩, hne, -⟩ := id hD
          have hR : R = .inl e := hq3.symm
          refine aw_iload dX2_read_50 rfl ?_
          refine aw_sipush dX2_read_52 (by decide) ⟨by decide, by decide⟩ ?_
          refine aw_icmp_ge (tgt := 102) dX2_read_55 rfl (fun h55 => ?_) (fun h55 => ?_)
          · exact dead M3 e dq _ hD hdq o3 hR
          · refine aw_aload_n dX2_read_58 rfl rfl ⟨by decide, by decide⟩ ?_
            refine aw_gi 2 dX2_read_59 fl_RX2_19 (by assumption) rfl rfl hg.2.2.1 ?_
            refine aw_aload_n dX2_read_62 rfl rfl ⟨by decide, by decide⟩ ?_
            refine aw_gi 1 dX2_read_63 fl_RX2_15 (by assumption) rfl rfl hg.1.2.1 ?_
            refine aw_icmp_ge (tgt := 102) dX2_read_66 rfl (fun h66 => ?_) (fun h66 => ?_)
            · exact dead M3 e dq _ hD hdq o3 hR
            · refine aw_aload_n dX2_read_69 rfl rfl ⟨by decide, by decide⟩ ?_
              refine aw_gi 7 dX2_read_70 fl_RX2_38 (by assumption) rfl rfl hg.2.2.2.2.1 ?_
              refine aw_if_ne (tgt := 102) dX2_read_73 rfl (fun h73 => ?_) (fun h73 => absurd h73 (by omega))
              exact dead M3 e dq _ hD hdq o3 hR
        · obtain ⟨t1, t2⟩ := hNt t rfl
          exact ih (i + 1) t M3 (by omega) (by omega) (l3 t rfl) t1 (by omega) o3 hq3
      refine aw_iload dX2_read_50 rfl ?_
      refine aw_sipush dX2_read_52 (by decide) ⟨by decide, by decide⟩ ?_
      refine aw_icmp_ge (tgt := 102) dX2_read_55 rfl (fun h55 => absurd h55 (by omega)) (fun h55 => ?_)
      refine aw_aload_n dX2_read_58 rfl rfl ⟨by decide, by decide⟩ ?_
      refine aw_gi 2 dX2_read_59 fl_RX2_19 (by assumption) rfl rfl hL.1.2.2.1 ?_
      refine aw_aload_n dX2_read_62 rfl rfl ⟨by decide, by decide⟩ ?_
      refine aw_gi 1 dX2_read_63 fl_RX2_15 (by assumption) rfl rfl hL.1.1.2.1 ?_
      refine aw_icmp_ge (tgt := 102) dX2_read_66 rfl (fun h66 => ?_) (fun h66 => ?_)
      · rw [if_pos (tok0.mpr (by omega))] at hq
        exact done M2 s i hL o2 hq
      · have hlt : s.1 < X.2 := by omega
        rw [if_neg (fun q => by have := tok0.mp q; omega)] at hq
        refine aw_aload_n dX2_read_69 rfl rfl ⟨by decide, by decide⟩ ?_
        refine aw_gi 7 dX2_read_70 fl_RX2_38 (by assumption) rfl rfl hL.1.2.2.2.2.1 ?_
        refine aw_if_ne (tgt := 102) dX2_read_73 rfl (fun h73 => absurd h73 (by omega)) (fun h73 => ?_)
        refine aw_aload_n dX2_read_76 rfl rfl ⟨by decide, by decide⟩ ?_
        refine aw_bipush dX2_read_77 (by decide) ⟨by decide, by decide⟩ ?_
        refine aw_cV1p dX2_read_79 ml_RX2_50 (by assumption) (by decide) rfl rfl ⟨by decide, by decide, by decide, by decide⟩ (Nat.le_of_ble_eq_true rfl) (sp_cisSign hK0.1 M2 hL.1 125) ?_
        refine aw_if_eq (tgt := 92) dX2_read_82 rfl (fun h82 => ?_) (fun h82 => ?_)
        · have hns := if0 h82
          rw [if_neg (fun q => hns q.1)] at hq
          refine aw_aload_n dX2_read_92 rfl rfl ⟨by decide, by decide⟩ ?_
          refine aw_cV0v dX2_read_93 ml_RX2_57 (by assumption) (by decide) rfl rfl ⟨by decide, by decide, by decide, by decide⟩ (Nat.le_of_ble_eq_true rfl) (sp_creadItem hK0 M2 hL) (fun M3 hM3 => ?_)
          exact next M3 _ hM3 (fun t q => by have := pItm_NI hN p01.1 p01.2 q; exact ⟨this.1, this.2.1⟩) hq
        · have hsy : isS X 125 s := if1 h82
          refine aw_aload_n dX2_read_85 rfl rfl ⟨by decide, by decide⟩ ?_
          refine aw_cV0v dX2_read_86 ml_RX2_54 (by assumption) (by decide) rfl rfl ⟨by decide, by decide, by decide, by decide⟩ (Nat.le_of_ble_eq_true rfl) (sp_closeBlock hK0 M2 hL hN hsy) (fun M3 hM3 => ?_)
          refine aw_goto (tgt := 96) dX2_read_89 rfl ?_
          refine next M3 _ hM3 (fun t q => ?_) ?_
          · by_cases w : 0 < s.2.1
            · rw [if_pos w] at q
              cases q
              have hcs : (cls s).1 = s.1 := rfl
              have hai := adv_in (X := X) (s := cls s) p01.2
              exact ⟨(cls_NI hN w).1, by have := hai.2.2 hlt; omega⟩
            · rw [if_neg w] at q
              cases q
          · by_cases w : 0 < s.2.1
            · rw [if_pos w]
              rw [if_pos ⟨hsy, w⟩] at hq
              exact hq
            · rw [if_neg w]
              rw [if_neg (fun q => w q.2)] at hq
              have hnb : ¬ beg X s := by
                have ht : tok X s.1 = 4 := tok4.mpr ⟨hlt, by rw [hsy.2]; decide⟩
                rintro (q | q | q | q) <;> · have := q.1; omega
              have hpi : pItm X s = .inl (1, s.1) := by unfold pItm; rw [if_pos hnb]
              rw [hpi] at hq
              exact hq
  refine aw_aload_n dX2_read_0 rfl rfl ⟨by decide, by decide⟩ ?_
  refine aw_aload_n dX2_read_1 rfl rfl ⟨by decide, by decide⟩ ?_
  refine aw_pr 0 dX2_read_2 fl_RX2_9 (by assumption) rfl rfl it z0 ?_
  refine aw_aload_n dX2_read_5 rfl rfl ⟨by decide, by decide⟩ ?_
  refine aw_iload_n dX2_read_6 rfl rfl ?_
  refine aw_pi 1 dX2_read_7 fl_RX2_15 (by assumption) rfl rfl ?_
  refine aw_aload_n dX2_read_10 rfl rfl ⟨by decide, by decide⟩ ?_
  refine aw_aload_n dX2_read_11 rfl rfl ⟨by decide, by decide⟩ ?_
  refine aw_pr 4 dX2_read_12 fl_RX2_28 (by assumption) rfl rfl is z4 ?_
  refine aw_aload_n dX2_read_15 rfl rfl ⟨by decide, by decide⟩ ?_
  refine aw_gr 4 dX2_read_16 fl_RX2_28 (by assumption) rfl rfl u16 ?_
  refine aw_iconst dX2_read_19 rfl ⟨by decide, by decide⟩ ?_
  refine aw_pi 5 dX2_read_20 fl_RX2_44 (by assumption) rfl rfl ?_
  refine aw_aload_n dX2_read_23 rfl rfl ⟨by decide, by decide⟩ ?_
  refine aw_iconst dX2_read_24 rfl ⟨by decide, by decide⟩ ?_
  refine aw_pi 6 dX2_read_25 fl_RX2_35 (by assumption) rfl rfl ?_
  refine aw_aload_n dX2_read_28 rfl rfl ⟨by decide, by decide⟩ ?_
  refine aw_iconst dX2_read_29 rfl ⟨by decide, by decide⟩ ?_
  refine aw_pi 7 dX2_read_30 fl_RX2_38 (by assumption) rfl rfl ?_
  refine aw_aload_n dX2_read_33 rfl rfl ⟨by decide, by decide⟩ ?_
  refine aw_iconst dX2_read_34 rfl ⟨by decide, by decide⟩ ?_
  refine aw_pi 8 dX2_read_35 fl_RX2_41 (by assumption) rfl rfl ?_
  refine aw_aload_n dX2_read_38 rfl rfl ⟨by decide, by decide⟩ ?_
  refine aw_iconst dX2_read_39 rfl ⟨by decide, by decide⟩ ?_
  refine aw_pi 3 dX2_read_40 fl_RX2_22 (by assumption) rfl rfl ?_
  rw [hM1]
  refine aw_aload_n dX2_read_43 rfl rfl ⟨by decide, by decide⟩ ?_
  refine aw_cV0v dX2_read_44 ml_RX2_47 (by assumption) (by decide) rfl rfl ⟨by decide, by decide, by decide, by decide⟩ (Nat.le_of_ble_eq_true rfl) (sp_advanceToken hK0.1 M1 hb1 0 e3 (by omega) h0) (fun M2 hM2 => ?_)
  refine aw_iconst dX2_read_47 rfl ⟨by decide, by decide⟩ ?_
  refine aw_istore dX2_read_48 (by decide) ?_
  obtain ⟨m2, m3, mo, mj⟩ := hM2
  refine loop 400 0 (tkA X 0, 0, 0, fun _ _ => 0, fun _ => 0) M2 (by omega) (by omega) ⟨⟨hb1.fr (by omega) (mj _ (by omega) (by omega)) (mj _ (by omega) (by omega)) (mo _ (by omega)), hpA, m2, m3, (mj _ (by omega) (by omega)).trans e7, (mj _ (by omega) (by omega)).trans e8⟩, (mj _ (by omega) (by omega)).trans e4, (mj _ (by omega) (by omega)).trans e6, by rw [mo _ (by omega)]; exact e5, fun i i0 i1 => ?_, fun k k0 k1 => ?_, ⟨by show (0 : Int) ≤ 0; omega, by show (0 : Int) ≤ 4; omega⟩, by show (0 : Int) ≤ 0; omega, by show (0 : Int) ≤ 40; omega⟩ (NQ.nil _ _) (by show X.2 - tkA X 0 ≤ ((400 : Nat) : Int); omega) (fun b b1 b2 b3 => by rw [mo b b1]; exact o1 b b1 (by omega)) hr
  · have : i < 0 := i1
    omega
  · have : k < 0 := k1
    omega
end CP
