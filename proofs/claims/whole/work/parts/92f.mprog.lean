/-! TreadRingModel: a whole program is read; feed, cut, fault -/
set_option maxRecDepth 20000
section MP
variable {K : az_K} {m : Int} {X : pTx} {s : pSt} {e : pE} {n : Int}
set_option maxHeartbeats 1000000 in
theorem sp_readDeed (hK : MdK K m) (M : az_M) (hl : PL M m X s) (hn : s.2.2.1 ≤ 39) (hR : isR X s) : AM yX7_readDeed cX7_readDeed 2 none 5 0 0 [(1, m)] K M (qv K (fun M' => PO M M' m X (pDee X s))) := by
  have hK0 := hK
  obtain ⟨hKo, k3, k4, k5, k6, k7, k8, k9, k10, k11, k12, k13, k14, k15, k16, k17, k18, k19, k20, k21, k22, k23, k24, k25, y3, y4, y5, y6, y7, y8, y9, y10, y11, y12, y13, y14, y15, y16, y17, y18, y19, y20, y21, y22, y23, y24, y25⟩ := hK
  have hKo0 := hKo
  obtain ⟨hKa, k2, y2⟩ := hKo
  have hKa0 := hKa
  obtain ⟨km, k1, y1⟩ := hKa
  refine am_of (by decide) (Nat.le_of_ble_eq_true rfl) (L := [(1, m), (9, 0)]) rfl ?_
  generalize hr : pDee X s = r
  unfold pDee at hr
  have n0 := hl.2.2.2.2.2.2.2.2.1
  have tail : ∀ (M2 : az_M) (v : Int) (r1 : Sum pE pSt), PO M M2 m X r1 → bd r1 (pSg X 59) = r → AW az_P0 (az_Z (qv K (fun M' => PO M M' m X r)) 0 0) (az_rm 5 0 0) yX7_readDeed cX7_readDeed 2 none 0 0 37 [(1, m), (0, v)] [] K M2 := by
    intro M2 v r1 hp hq
    obtain ⟨d2, l2, f2⟩ := hp
    rcases r1 with e | t
    · obtain ⟨n', hn', hd⟩ := d2 e rfl
      refine aw_aload_n dX7_readDeed_37 rfl rfl ⟨by decide, by decide⟩ ?_
      refine aw_bipush dX7_readDeed_38 (by decide) ⟨by decide, by decide⟩ ?_
      refine aw_cV1v dX7_readDeed_40 ml_RX7_407 (by assumption) (by decide) rfl rfl ⟨by decide, by decide, by decide, by decide⟩ (Nat.le_of_ble_eq_true rfl) (sp_needD hK0 M2 hd 59) (fun M3 hM3 => ?_)
      subst hM3
      exact aw_vret dX7_readDeed_43 (by decide) (by decide) ⟨rfl, rfl, PO.l hq.symm hn' hd f2⟩
    · have lt := l2 t rfl
      replace hq : pSg X 59 t = r := hq
      refine aw_aload_n dX7_readDeed_37 rfl rfl ⟨by decide, by decide⟩ ?_
      refine aw_bipush dX7_readDeed_38 (by decide) ⟨by decide, by decide⟩ ?_
      refine aw_cV1v dX7_readDeed_40 ml_RX7_407 (by assumption) (by decide) rfl rfl ⟨by decide, by decide, by decide, by decide⟩ (Nat.le_of_ble_eq_true rfl) (sp_need hK0 M2 lt 59 (by decide)) (fun M3 hM3 => ?_)
      obtain ⟨d3, l3, f3⟩ := hM3
      refine aw_vret dX7_readDeed_43 (by decide) (by decide) ⟨rfl, rfl, ?_⟩
      rcases hs : pSg X 59 t with e | t'
      · exact PO.l (hq.symm.trans hs) lt.2.2.2.2.2.2.2.2.2 (d3 e hs) (f2.trans f3)
      · exact PO.r (hq.symm.trans hs) (l3 t' hs) (f2.trans f3)
  have hp : pRt X s = .inr (wd X s.1 - 1, adv X s) := by unfold pRt; rw [if_pos hR]
  refine aw_aload_n dX7_readDeed_0 rfl rfl ⟨by decide, by decide⟩ ?_
  refine aw_cV0i dX7_readDeed_1 ml_RX7_414 (by assumption) (by decide) rfl rfl ⟨by decide, by decide, by decide, by decide⟩ (Nat.le_of_ble_eq_true rfl) (sp_letter hK0 M hl) (fun z1 M1 hz1 => ?_)
  refine aw_istore_n dX7_readDeed_4 rfl (by decide) ?_
  obtain ⟨-, l1, f1⟩ := hz1
  obtain ⟨e1, hl1⟩ := l1 _ hp
  replace hl1 : PL M1 m X (adv X s) := hl1
  replace e1 : z1 = wd X s.1 - 1 := e1
  subst e1
  unfold pDe1 at hr
  refine aw_aload_n dX7_readDeed_5 rfl rfl ⟨by decide, by decide⟩ ?_
  refine aw_bipush dX7_readDeed_6 (by decide) ⟨by decide, by decide⟩ ?_
  refine aw_cV1p dX7_readDeed_8 ml_RX7_368 (by assumption) (by decide) rfl rfl ⟨by decide, by decide, by decide, by decide⟩ (Nat.le_of_ble_eq_true rfl) (sp_isAt hK0 M1 hl1 46 (by decide)) ?_
  refine aw_if_eq (tgt := 26) dX7_readDeed_11 rfl (fun h11 => ?_) (fun h11 => ?_)
  · rw [if_neg (if0 h11)] at hr
    refine aw_aload_n dX7_readDeed_26 rfl rfl ⟨by decide, by decide⟩ ?_
    refine aw_bipush dX7_readDeed_27 (by decide) ⟨by decide, by decide⟩ ?_
    refine aw_cV1v dX7_readDeed_29 ml_RX7_407 (by assumption) (by decide) rfl rfl ⟨by decide, by decide, by decide, by decide⟩ (Nat.le_of_ble_eq_true rfl) (sp_need hK0 M1 hl1 61 (by decide)) (fun M2 hM2 => ?_)
    obtain ⟨d2, l2, f2⟩ := hM2
    rcases hs : pSg X 61 (adv X s) with e | t
    · have hd := d2 e hs
      rw [hs] at hr
      refine aw_aload_n dX7_readDeed_32 rfl rfl ⟨by decide, by decide⟩ ?_
      refine aw_iload_n dX7_readDeed_33 rfl rfl ?_
      refine aw_cV1v dX7_readDeed_34 ml_RX7_420 (by assumption) (by decide) rfl rfl ⟨by decide, by decide, by decide, by decide⟩ (Nat.le_of_ble_eq_true rfl) (sp_readNamingD hK0 M2 hd hn (wd X s.1 - 1)) (fun M3 hM3 => ?_)
      exact tail M3 _ (.inl e) (PO.l rfl (by show s.2.2.1 + 1 ≤ 40; omega) hM3.1 (f1.trans (f2.trans hM3.2))) hr
    · have hl2 := l2 t hs
      obtain ⟨et, -⟩ := pSg_r hs
      rw [hs] at hr
      subst et
      refine aw_aload_n dX7_readDeed_32 rfl rfl ⟨by decide, by decide⟩ ?_
      refine aw_iload_n dX7_readDeed_33 rfl rfl ?_
      refine aw_cV1v dX7_readDeed_34 ml_RX7_420 (by assumption) (by decide) rfl rfl ⟨by decide, by decide, by decide, by decide⟩ (Nat.le_of_ble_eq_true rfl) (sp_readNaming hK0 M2 hl2 hn (wd X s.1 - 1)) (fun M3 hM3 => ?_)
      exact tail M3 _ _ ⟨hM3.1, hM3.2.1, f1.trans (f2.trans hM3.2.2)⟩ hr
  · rw [if_pos (if1 h11)] at hr
    refine aw_aload_n dX7_readDeed_14 rfl rfl ⟨by decide, by decide⟩ ?_
    refine aw_cV0v dX7_readDeed_15 ml_RX7_371 (by assumption) (by decide) rfl rfl ⟨by decide, by decide, by decide, by decide⟩ (Nat.le_of_ble_eq_true rfl) (sp_scanP hK0 M1 hl1) (fun M2 hM2 => ?_)
    have hl2 := hl1.adv hM2.1 hM2.2
    refine aw_aload_n dX7_readDeed_18 rfl rfl ⟨by decide, by decide⟩ ?_
    refine aw_iload_n dX7_readDeed_19 rfl rfl ?_
    refine aw_cV1v dX7_readDeed_20 ml_RX7_417 (by assumption) (by decide) rfl rfl ⟨by decide, by decide, by decide, by decide⟩ (Nat.le_of_ble_eq_true rfl) (sp_readStore hK0 M2 hl2 hn (wd X s.1 - 1)) (fun M3 hM3 => ?_)
    refine aw_goto (tgt := 37) dX7_readDeed_23 rfl ?_
    exact tail M3 _ _ ⟨hM3.1, hM3.2.1, f1.trans ((frP.ofN hM2.2).trans hM3.2.2)⟩ hr
theorem sp_canBegin (hK : MdK K m) (M : az_M) (hl : PL M m X s) : AM yX7_canBegin cX7_canBegin 1 (some .boolean) 2 0 0 [(1, m)] K M (qp K M (if beg X s then 1 else 0)) := by
  have hK0 := hK
  obtain ⟨hKo, k3, k4, k5, k6, k7, k8, k9, k10, k11, k12, k13, k14, k15, k16, k17, k18, k19, k20, k21, k22, k23, k24, k25, y3, y4, y5, y6, y7, y8, y9, y10, y11, y12, y13, y14, y15, y16, y17, y18, y19, y20, y21, y22, y23, y24, y25⟩ := hK
  have hKo0 := hKo
  obtain ⟨hKa, k2, y2⟩ := hKo
  have hKa0 := hKa
  obtain ⟨km, k1, y1⟩ := hKa
  refine am_of (by decide) (Nat.le_of_ble_eq_true rfl) (L := [(1, m)]) rfl ?_
  have yes : beg X s → AW az_P0 (az_Z (qp K M (if beg X s then 1 else 0)) 0 0) (az_rm 2 0 0) yX7_canBegin cX7_canBegin 1 (some .boolean) 0 0 37 [(1, m)] [] K M := by
    intro h
    rw [if_pos h]
    refine aw_iconst dX7_canBegin_37 rfl ⟨by decide, by decide⟩ ?_
    refine aw_goto (tgt := 42) dX7_canBegin_38 rfl ?_
    exact aw_zret dX7_canBegin_42 (by omega) (by decide) (by decide) (qp_i rfl)
  refine aw_aload_n dX7_canBegin_0 rfl rfl ⟨by decide, by decide⟩ ?_
  refine aw_cV0p dX7_canBegin_1 ml_RX7_377 (by assumption) (by decide) rfl rfl ⟨by decide, by decide, by decide, by decide⟩ (Nat.le_of_ble_eq_true rfl) (sp_isLetterHere hK0 M hl) ?_
  refine aw_if_ne (tgt := 37) dX7_canBegin_4 rfl (fun h4 => ?_) (fun h4 => ?_)
  · exact yes (Or.inl (if1 h4))
  · refine aw_aload_n dX7_canBegin_7 rfl rfl ⟨by decide, by decide⟩ ?_
    refine aw_ldcw dX7_canBegin_8 kc_RX7_383 ⟨by decide, by decide⟩ ?_
    refine aw_cV1p dX7_canBegin_11 ml_RX7_384 (by assumption) (by decide) rfl rfl ⟨by decide, by decide, by decide, by decide⟩ (Nat.le_of_ble_eq_true rfl) (sp_isWord hK0 M hl 643248) ?_
    refine aw_if_ne (tgt := 37) dX7_canBegin_14 rfl (fun h14 => ?_) (fun h14 => ?_)
    · exact yes (Or.inr (Or.inl (if1 h14)))
    · refine aw_aload_n dX7_canBegin_17 rfl rfl ⟨by decide, by decide⟩ ?_
      refine aw_ldcw dX7_canBegin_18 kc_RX7_387 ⟨by decide, by decide⟩ ?_
      refine aw_cV1p dX7_canBegin_21 ml_RX7_384 (by assumption) (by decide) rfl rfl ⟨by decide, by decide, by decide, by decide⟩ (Nat.le_of_ble_eq_true rfl) (sp_isWord hK0 M hl 21279923) ?_
      refine aw_if_ne (tgt := 37) dX7_canBegin_24 rfl (fun h24 => ?_) (fun h24 => ?_)
      · exact yes (Or.inr (Or.inr (Or.inl (if1 h24))))
      · refine aw_aload_n dX7_canBegin_27 rfl rfl ⟨by decide, by decide⟩ ?_
        refine aw_sipush dX7_canBegin_28 (by decide) ⟨by decide, by decide⟩ ?_
        refine aw_cV1p dX7_canBegin_31 ml_RX7_384 (by assumption) (by decide) rfl rfl ⟨by decide, by decide, by decide, by decide⟩ (Nat.le_of_ble_eq_true rfl) (sp_isWord hK0 M hl 294) ?_
        refine aw_if_eq (tgt := 41) dX7_canBegin_34 rfl (fun h34 => ?_) (fun h34 => ?_)
        · have hno : ¬ beg X s := by
            rintro (q | q | q | q)
            · exact if0 h4 q
            · exact if0 h14 q
            · exact if0 h24 q
            · exact if0 h34 q
          rw [if_neg hno]
          refine aw_iconst dX7_canBegin_41 rfl ⟨by decide, by decide⟩ ?_
          exact aw_zret dX7_canBegin_42 (by omega) (by decide) (by decide) (qp_i rfl)
        · exact yes (Or.inr (Or.inr (Or.inr (if1 h34))))
set_option maxHeartbeats 1000000 in
theorem sp_readItem (hK : MdK K m) (M : az_M) (hl : PL M m X s) : AM yX7_readItem cX7_readItem 1 none 6 0 0 [(1, m)] K M (qv K (fun M' => PO M M' m X (pItm X s))) := by
  have hK0 := hK
  obtain ⟨hKo, k3, k4, k5, k6, k7, k8, k9, k10, k11, k12, k13, k14, k15, k16, k17, k18, k19, k20, k21, k22, k23, k24, k25, y3, y4, y5, y6, y7, y8, y9, y10, y11, y12, y13, y14, y15, y16, y17, y18, y19, y20, y21, y22, y23, y24, y25⟩ := hK
  have hKo0 := hKo
  obtain ⟨hKa, k2, y2⟩ := hKo
  have hKa0 := hKa
  obtain ⟨km, k1, y1⟩ := hKa
  refine am_of (by decide) (Nat.le_of_ble_eq_true rfl) (L := [(1, m)]) rfl ?_
  generalize hr : pItm X s = r
  unfold pItm at hr
  have n0 := hl.2.2.2.2.2.2.2.2
  have v16 := hl.2.2.2.1
  have v24 := hl.2.2.2.2.1
  have dp0 := hl.2.2.2.2.2.2.2.1
  have dead : ∀ (M2 : az_M) (e : pE), PD M2 m X e s.2.2.1 → frP M M2 m → r = .inl e → AW az_P0 (az_Z (qv K (fun M' => PO M M' m X r)) 0 0) (az_rm 6 0 0) yX7_readItem cX7_readItem 1 none 0 0 37 [(1, m)] [] K M2 := by
    intro M2 e hd f2 hq
    have h0 := hd.2.2.1
    refine aw_aload_n dX7_readItem_37 rfl rfl ⟨by decide, by decide⟩ ?_
    refine aw_gi 32 dX7_readItem_38 fl_RX7_362 (by assumption) rfl rfl hd.2.1 ?_
    refine aw_if_le (tgt := 45) dX7_readItem_41 rfl (fun h41 => absurd h41 (by omega)) (fun h41 => ?_)
    exact aw_vret dX7_readItem_44 (by decide) (by decide) ⟨rfl, rfl, PO.l hq (by omega) hd f2⟩
  refine aw_aload_n dX7_readItem_0 rfl rfl ⟨by decide, by decide⟩ ?_
  refine aw_cV0p dX7_readItem_1 ml_RX7_388 (by assumption) (by decide) rfl rfl ⟨by decide, by decide, by decide, by decide⟩ (Nat.le_of_ble_eq_true rfl) (sp_canBegin hK0 M hl) ?_
  refine aw_if_ne (tgt := 15) dX7_readItem_4 rfl (fun h4 => ?_) (fun h4 => ?_)
  · have hb := if1 h4
    rw [if_neg (fun q => q hb)] at hr
    have f3 : 3 < s.2.1 ∨ s.2.2.1 = 40 → AW az_P0 (az_Z (qv K (fun M' => PO M M' m X r)) 0 0) (az_rm 6 0 0) yX7_readItem cX7_readItem 1 none 0 0 32 [(1, m)] [] K M := by
      intro h
      rw [if_pos h] at hr
      refine aw_aload_n dX7_readItem_32 rfl rfl ⟨by decide, by decide⟩ ?_
      refine aw_iconst dX7_readItem_33 rfl ⟨by decide, by decide⟩ ?_
      refine aw_cV1v dX7_readItem_34 ml_RX7_374 (by assumption) (by decide) rfl rfl ⟨by decide, by decide, by decide, by decide⟩ (Nat.le_of_ble_eq_true rfl) (sp_fail hK0 M hl 3 (by omega)) (fun M1 hM1 => ?_)
      exact dead M1 _ hM1.1 hM1.2 hr.symm
    refine aw_aload_n dX7_readItem_15 rfl rfl ⟨by decide, by decide⟩ ?_
    refine aw_gi 34 dX7_readItem_16 fl_RX7_391 (by assumption) rfl rfl v16 ?_
    refine aw_iconst dX7_readItem_19 rfl ⟨by decide, by decide⟩ ?_
    refine aw_icmp_gt (tgt := 32) dX7_readItem_20 rfl (fun h20 => ?_) (fun h20 => ?_)
    · exact f3 (Or.inl (by omega))
    · refine aw_aload_n dX7_readItem_23 rfl rfl ⟨by decide, by decide⟩ ?_
      refine aw_gi 22 dX7_readItem_24 fl_RX7_380 (by assumption) rfl rfl v24 ?_
      refine aw_bipush dX7_readItem_27 (by decide) ⟨by decide, by decide⟩ ?_
      refine aw_icmp_ne (tgt := 37) dX7_readItem_29 rfl (fun h29 => ?_) (fun h29 => ?_)
      · have hn : s.2.2.1 ≤ 39 := by omega
        have hdp : s.2.1 ≤ 3 := by omega
        rw [if_neg (by omega)] at hr
        refine aw_aload_n dX7_readItem_37 rfl rfl ⟨by decide, by decide⟩ ?_
        refine aw_gi 32 dX7_readItem_38 fl_RX7_362 (by assumption) rfl rfl hl.2.2.1 ?_
        refine aw_if_le (tgt := 45) dX7_readItem_41 rfl (fun h41 => ?_) (fun h41 => absurd h41 (by omega))
        refine aw_aload_n dX7_readItem_45 rfl rfl ⟨by decide, by decide⟩ ?_
        refine aw_ldcw dX7_readItem_46 kc_RX7_383 ⟨by decide, by decide⟩ ?_
        refine aw_cV1p dX7_readItem_49 ml_RX7_384 (by assumption) (by decide) rfl rfl ⟨by decide, by decide, by decide, by decide⟩ (Nat.le_of_ble_eq_true rfl) (sp_isWord hK0 M hl 643248) ?_
        refine aw_if_eq (tgt := 62) dX7_readItem_52 rfl (fun h52 => ?_) (fun h52 => ?_)
        · have hn1 := if0 h52
          rw [if_neg hn1] at hr
          have blk : (isW X 21279923 s ∨ isW X 294 s) → AW az_P0 (az_Z (qv K (fun M' => PO M M' m X r)) 0 0) (az_rm 6 0 0) yX7_readItem cX7_readItem 1 none 0 0 82 [(1, m)] [] K M := by
            intro hor
            have hrb := sp_readBlock hK0 M hl hn hdp (if isW X 21279923 s then 1 else 0) (by split <;> omega)
            have he : (if (if isW X 21279923 s then (1 : Int) else 0) = 1 then pTim X s else pIfs X s) = r := by
              by_cases q : isW X 21279923 s
              · rw [if_pos q] at hr
                rw [if_pos (if_pos q)]; exact hr
              · rw [if_neg q] at hr
                rw [if_neg (by rw [if_neg q]; omega)]
                rcases hor with w | w
                · exact absurd w q
                · rw [if_pos w] at hr; exact hr
            rw [he] at hrb
            refine aw_aload_n dX7_readItem_82 rfl rfl ⟨by decide, by decide⟩ ?_
            refine aw_aload_n dX7_readItem_83 rfl rfl ⟨by decide, by decide⟩ ?_
            refine aw_ldcw dX7_readItem_84 kc_RX7_387 ⟨by decide, by decide⟩ ?_
            refine aw_cV1p dX7_readItem_87 ml_RX7_384 (by assumption) (by decide) rfl rfl ⟨by decide, by decide, by decide, by decide⟩ (Nat.le_of_ble_eq_true rfl) (sp_isWord hK0 M hl 21279923) ?_
            refine aw_cV1v dX7_readItem_90 ml_RX7_397 (by assumption) (by decide) rfl rfl ⟨by decide, by decide, by decide, by decide⟩ (Nat.le_of_ble_eq_true rfl) (hrb) (fun M1 hM1 => ?_)
            refine aw_goto (tgt := 100) dX7_readItem_93 rfl ?_
            exact aw_vret dX7_readItem_100 (by decide) (by decide) ⟨rfl, rfl, hM1⟩
          refine aw_aload_n dX7_readItem_62 rfl rfl ⟨by decide, by decide⟩ ?_
          refine aw_ldcw dX7_readItem_63 kc_RX7_387 ⟨by decide, by decide⟩ ?_
          refine aw_cV1p dX7_readItem_66 ml_RX7_384 (by assumption) (by decide) rfl rfl ⟨by decide, by decide, by decide, by decide⟩ (Nat.le_of_ble_eq_true rfl) (sp_isWord hK0 M hl 21279923) ?_
          refine aw_if_ne (tgt := 82) dX7_readItem_69 rfl (fun h69 => ?_) (fun h69 => ?_)
          · exact blk (Or.inl (if1 h69))
          · refine aw_aload_n dX7_readItem_72 rfl rfl ⟨by decide, by decide⟩ ?_
            refine aw_sipush dX7_readItem_73 (by decide) ⟨by decide, by decide⟩ ?_
            refine aw_cV1p dX7_readItem_76 ml_RX7_384 (by assumption) (by decide) rfl rfl ⟨by decide, by decide, by decide, by decide⟩ (Nat.le_of_ble_eq_true rfl) (sp_isWord hK0 M hl 294) ?_
            refine aw_if_eq (tgt := 96) dX7_readItem_79 rfl (fun h79 => ?_) (fun h79 => ?_)
            · have hn2 := if0 h69
              have hn3 := if0 h79
              rw [if_neg hn2, if_neg hn3] at hr
              have hR : isR X s := by
                rcases hb with q | q | q | q
                · exact q
                · exact absurd q hn1
                · exact absurd q hn2
                · exact absurd q hn3
              have hrd := sp_readDeed hK0 M hl hn hR
              rw [hr] at hrd
              refine aw_aload_n dX7_readItem_96 rfl rfl ⟨by decide, by decide⟩ ?_
              refine aw_cV0v dX7_readItem_97 ml_RX7_401 (by assumption) (by decide) rfl rfl ⟨by decide, by decide, by decide, by decide⟩ (Nat.le_of_ble_eq_true rfl) (hrd) (fun M1 hM1 => ?_)
              exact aw_vret dX7_readItem_100 (by decide) (by decide) ⟨rfl, rfl, hM1⟩
            · exact blk (Or.inr (if1 h79))
        · rw [if_pos (if1 h52)] at hr
          have hrs := sp_readStep hK0 M hl hn
          rw [hr] at hrs
          refine aw_aload_n dX7_readItem_55 rfl rfl ⟨by decide, by decide⟩ ?_
          refine aw_cV0v dX7_readItem_56 ml_RX7_394 (by assumption) (by decide) rfl rfl ⟨by decide, by decide, by decide, by decide⟩ (Nat.le_of_ble_eq_true rfl) (hrs) (fun M1 hM1 => ?_)
          refine aw_goto (tgt := 100) dX7_readItem_59 rfl ?_
          exact aw_vret dX7_readItem_100 (by decide) (by decide) ⟨rfl, rfl, hM1⟩
      · exact f3 (Or.inr (by omega))
  · rw [if_pos (if0 h4)] at hr
    refine aw_aload_n dX7_readItem_7 rfl rfl ⟨by decide, by decide⟩ ?_
    refine aw_iconst dX7_readItem_8 rfl ⟨by decide, by decide⟩ ?_
    refine aw_cV1v dX7_readItem_9 ml_RX7_374 (by assumption) (by decide) rfl rfl ⟨by decide, by decide, by decide, by decide⟩ (Nat.le_of_ble_eq_true rfl) (sp_fail hK0 M hl 1 (by omega)) (fun M1 hM1 => ?_)
    refine aw_goto (tgt := 37) dX7_readItem_12 rfl ?_
    exact dead M1 _ hM1.1 hM1.2 hr.symm
theorem PL_cls {M : az_M} (hl : PL M m X s) (hd : 0 < s.2.1) : PL (az_up (az_up M m 34 (s.2.1 - 1)) (m + 13) (s.2.2.2.2 (s.2.1 - 1)) s.2.2.1) m X (cls s) := by
  obtain ⟨h1, h2, h3, h4, h5, h6, h7, h8, h9⟩ := hl
  generalize hM : az_up (az_up M m 34 (s.2.1 - 1)) (m + 13) (s.2.2.2.2 (s.2.1 - 1)) s.2.2.1 = M'
  have e : ∀ j, j ≠ 34 → M' m j = M m j := fun j hj => by rw [← hM, up_oth _ _ _ (by omega), az_up_i _ _ _ _ hj]
  have o : ∀ b, b ≠ m → b ≠ m + 13 → M' b = M b := fun b b1 b2 => by rw [← hM, up_oth _ _ _ b2, up_oth _ _ _ b1]
  have e34 : M' m 34 = s.2.1 - 1 := by rw [← hM, up_oth _ _ _ (by omega), az_up_s]
  have e13 : ∀ i, M' (m + 13) i = if i = s.2.2.2.2 (s.2.1 - 1) then s.2.2.1 else M (m + 13) i := fun i => by rw [← hM, up_row, up_oth _ _ _ (by omega)]
  refine ⟨h1.fr (e _ (by omega)) (o _ (by omega) (by omega)), ⟨h2.1, by rw [e _ (by omega)]; exact h2.2.1, by rw [e _ (by omega)]; exact h2.2.2.1, by rw [e _ (by omega)]; exact h2.2.2.2.1, fun q => by rw [e _ (by omega)]; exact h2.2.2.2.2.1 q, fun q => by rw [e _ (by omega)]; exact h2.2.2.2.2.2 q⟩, by rw [e _ (by omega)]; exact h3, e34, by rw [e _ (by omega)]; exact h5, fun i i0 i1 => ?_, fun k k0 k1 => ?_, ⟨?_, ?_, (e _ (by omega)).trans h8.2.2⟩, h9⟩
  · have hi := h6 i i0 i1
    unfold refI at hi ⊢
    rw [o _ (by omega) (by omega), o _ (by omega) (by omega), o _ (by omega) (by omega), o _ (by omega) (by omega), show m + 9 + 4 = m + 13 by omega, e13]
    rw [show m + 9 + 4 = m + 13 by omega] at hi
    have f : ∀ j, j ≠ 4 → (cls s).2.2.2.1 i j = s.2.2.2.1 i j := fun j hj => if_neg (fun q => hj q.2)
    rw [f 0 (by omega), f 1 (by omega), f 2 (by omega), f 3 (by omega)]
    refine ⟨hi.1, ?_⟩
    show _ = if i = s.2.2.2.2 (s.2.1 - 1) ∧ (4 : Int) = 4 then s.2.2.1 else s.2.2.2.1 i 4
    by_cases q : i = s.2.2.2.2 (s.2.1 - 1)
    · rw [if_pos q, if_pos ⟨q, rfl⟩]
    · rw [if_neg q, if_neg (fun w => q w.1)]; exact hi.2
  · have k1' : k < s.2.1 - 1 := k1
    rw [o _ (by omega) (by omega)]; exact h7 k k0 (by omega)
  · show 0 ≤ s.2.1 - 1
    omega
  · show s.2.1 - 1 ≤ 4
    omega
def lst (s : pSt) : Sum pE pSt := if 0 < s.2.1 then .inl (1, s.1) else .inr s
set_option maxHeartbeats 1000000 in
theorem sp_readAll (hK : MdK K m) (M : az_M) (hb : PB M m X) (h26 : M m 26 = 0) (h32 : M m 32 = 0) (h33 : M m 33 = -1) (h34 : M m 34 = 0) (h22 : M m 22 = 0) : AM yX7_readAll cX7_readAll 1 none 7 0 0 [(1, m)] K M (qv K (fun M' => PO M M' m X (pPrg X))) := by
  have hK0 := hK
  obtain ⟨hKo, k3, k4, k5, k6, k7, k8, k9, k10, k11, k12, k13, k14, k15, k16, k17, k18, k19, k20, k21, k22, k23, k24, k25, y3, y4, y5, y6, y7, y8, y9, y10, y11, y12, y13, y14, y15, y16, y17, y18, y19, y20, y21, y22, y23, y24, y25⟩ := hK
  have hKo0 := hKo
  obtain ⟨hKa, k2, y2⟩ := hKo
  have hKa0 := hKa
  obtain ⟨km, k1, y1⟩ := hKa
  refine am_of (by decide) (Nat.le_of_ble_eq_true rfl) (L := [(1, m)]) rfl ?_
  have b1 := hb.2.1
  have b2 := hb.2.2.1
  have hp := tkA_in (X := X) (q := 0) b1
  generalize hr : pPrg X = r
  replace hr : bd (pAll X 400 (tkA X 0, 0, 0, fun _ _ => 0, fun _ => 0)) lst = r := hr
  have dead : ∀ (M2 : az_M) (e : pE) (n : Int), PD M2 m X e n → n ≤ 40 → frP M M2 m → r = .inl e → AW az_P0 (az_Z (qv K (fun M' => PO M M' m X r)) 0 0) (az_rm 7 0 0) yX7_readAll cX7_readAll 1 none 0 0 4 [(1, m)] [] K M2 := by
    intro M2 e n hd hn f2 hq
    have h0 := hd.2.2.1
    refine aw_aload_n dX7_readAll_4 rfl rfl ⟨by decide, by decide⟩ ?_
    refine aw_gi 32 dX7_readAll_5 fl_RX7_362 (by assumption) rfl rfl hd.2.1 ?_
    refine aw_if_ne (tgt := 76) dX7_readAll_8 rfl (fun h8 => ?_) (fun h8 => absurd h8 (by omega))
    refine aw_aload_n dX7_readAll_76 rfl rfl ⟨by decide, by decide⟩ ?_
    refine aw_gi 32 dX7_readAll_77 fl_RX7_362 (by assumption) rfl rfl hd.2.1 ?_
    refine aw_if_ne (tgt := 95) dX7_readAll_80 rfl (fun h80 => ?_) (fun h80 => absurd h80 (by omega))
    exact aw_vret dX7_readAll_95 (by decide) (by decide) ⟨rfl, rfl, PO.l hq hn hd f2⟩
  have fin : ∀ (M2 : az_M) (s : pSt), PL M2 m X s → frP M M2 m → lst s = r → AW az_P0 (az_Z (qv K (fun M' => PO M M' m X r)) 0 0) (az_rm 7 0 0) yX7_readAll cX7_readAll 1 none 0 0 76 [(1, m)] [] K M2 := by
    intro M2 s hl f2 hq
    unfold lst at hq
    refine aw_aload_n dX7_readAll_76 rfl rfl ⟨by decide, by decide⟩ ?_
    refine aw_gi 32 dX7_readAll_77 fl_RX7_362 (by assumption) rfl rfl hl.2.2.1 ?_
    refine aw_if_ne (tgt := 95) dX7_readAll_80 rfl (fun h80 => absurd h80 (by omega)) (fun h80 => ?_)
    refine aw_aload_n dX7_readAll_83 rfl rfl ⟨by decide, by decide⟩ ?_
    refine aw_gi 34 dX7_readAll_84 fl_RX7_391 (by assumption) rfl rfl hl.2.2.2.1 ?_
    refine aw_if_le (tgt := 95) dX7_readAll_87 rfl (fun h87 => ?_) (fun h87 => ?_)
    · rw [if_neg (by omega)] at hq
      exact aw_vret dX7_readAll_95 (by decide) (by decide) ⟨rfl, rfl, PO.r hq.symm hl f2⟩
    · rw [if_pos (by omega)] at hq
      refine aw_aload_n dX7_readAll_90 rfl rfl ⟨by decide, by decide⟩ ?_
      refine aw_iconst dX7_readAll_91 rfl ⟨by decide, by decide⟩ ?_
      refine aw_cV1v dX7_readAll_92 ml_RX7_374 (by assumption) (by decide) rfl rfl ⟨by decide, by decide, by decide, by decide⟩ (Nat.le_of_ble_eq_true rfl) (sp_fail hK0 M2 hl 1 (by omega)) (fun M3 hM3 => ?_)
      exact aw_vret dX7_readAll_95 (by decide) (by decide) ⟨rfl, rfl, PO.l hq.symm hl.2.2.2.2.2.2.2.2.2 hM3.1 (f2.trans hM3.2)⟩
  have loop : ∀ (d : Nat) (s : pSt) (M2 : az_M), PL M2 m X s → NI s → X.2 - s.1 ≤ d → frP M M2 m → bd (pAll X d s) lst = r → AW az_P0 (az_Z (qv K (fun M' => PO M M' m X r)) 0 0) (az_rm 7 0 0) yX7_readAll cX7_readAll 1 none 0 0 4 [(1, m)] [] K M2 := by
    intro d
    induction d with
    | zero =>
      intro s M2 hl hN hd f2 hq
      have ht : M2 m 27 = 0 := by rw [hl.2.1.2.2.2.1]; exact tok0.mpr (by omega)
      refine aw_aload_n dX7_readAll_4 rfl rfl ⟨by decide, by decide⟩ ?_
      refine aw_gi 32 dX7_readAll_5 fl_RX7_362 (by assumption) rfl rfl hl.2.2.1 ?_
      refine aw_if_ne (tgt := 76) dX7_readAll_8 rfl (fun h8 => absurd h8 (by omega)) (fun h8 => ?_)
      refine aw_aload_n dX7_readAll_11 rfl rfl ⟨by decide, by decide⟩ ?_
      refine aw_gi 27 dX7_readAll_12 fl_RX7_335 (by assumption) rfl rfl ht ?_
      refine aw_if_eq (tgt := 76) dX7_readAll_15 rfl (fun h15 => ?_) (fun h15 => absurd h15 (by omega))
      exact fin M2 s hl f2 hq
    | succ d ih =>
      intro s M2 hl hN hd f2 hq
      have p01 := hl.2.1.1
      replace hq : bd (if tok X s.1 = 0 then (Sum.inr s : Sum pE pSt) else if isS X 125 s ∧ 0 < s.2.1 then pAll X d (adv X (cls s)) else bd (pItm X s) (pAll X d)) lst = r := hq
      refine aw_aload_n dX7_readAll_4 rfl rfl ⟨by decide, by decide⟩ ?_
      refine aw_gi 32 dX7_readAll_5 fl_RX7_362 (by assumption) rfl rfl hl.2.2.1 ?_
      refine aw_if_ne (tgt := 76) dX7_readAll_8 rfl (fun h8 => absurd h8 (by omega)) (fun h8 => ?_)
      refine aw_aload_n dX7_readAll_11 rfl rfl ⟨by decide, by decide⟩ ?_
      refine aw_gi 27 dX7_readAll_12 fl_RX7_335 (by assumption) rfl rfl hl.2.1.2.2.2.1 ?_
      refine aw_if_eq (tgt := 76) dX7_readAll_15 rfl (fun h15 => ?_) (fun h15 => ?_)
      · rw [if_pos h15] at hq
        exact fin M2 s hl f2 hq
      · rw [if_neg h15] at hq
        have hlt : s.1 < X.2 := by
          apply Classical.byContradiction
          intro q
          exact h15 (tok0.mpr (by omega))
        have item : ¬ (isS X 125 s ∧ 0 < s.2.1) → AW az_P0 (az_Z (qv K (fun M' => PO M M' m X r)) 0 0) (az_rm 7 0 0) yX7_readAll cX7_readAll 1 none 0 0 69 [(1, m)] [] K M2 := by
          intro hno
          rw [if_neg hno] at hq
          refine aw_aload_n dX7_readAll_69 rfl rfl ⟨by decide, by decide⟩ ?_
          refine aw_cV0v dX7_readAll_70 ml_RX7_424 (by assumption) (by decide) rfl rfl ⟨by decide, by decide, by decide, by decide⟩ (Nat.le_of_ble_eq_true rfl) (sp_readItem hK0 M2 hl) (fun M3 hM3 => ?_)
          obtain ⟨d3, l3, f3⟩ := hM3
          refine aw_goto (tgt := 4) dX7_readAll_73 rfl ?_
          rcases hi : pItm X s with e | t
          · rw [hi] at hq
            obtain ⟨n', hn', hd'⟩ := d3 e hi
            exact dead M3 e n' hd' hn' (f2.trans f3) hq.symm
          · rw [hi] at hq
            obtain ⟨t1, t2, t3⟩ := pItm_NI hN p01.1 p01.2 hi
            exact ih t M3 (l3 t hi) t1 (by omega) (f2.trans f3) hq
        refine aw_aload_n dX7_readAll_18 rfl rfl ⟨by decide, by decide⟩ ?_
        refine aw_bipush dX7_readAll_19 (by decide) ⟨by decide, by decide⟩ ?_
        refine aw_cV1p dX7_readAll_21 ml_RX7_368 (by assumption) (by decide) rfl rfl ⟨by decide, by decide, by decide, by decide⟩ (Nat.le_of_ble_eq_true rfl) (sp_isAt hK0 M2 hl 125 (by decide)) ?_
        refine aw_if_eq (tgt := 69) dX7_readAll_24 rfl (fun h24 => ?_) (fun h24 => ?_)
        · exact item (fun q => if0 h24 q.1)
        · refine aw_aload_n dX7_readAll_27 rfl rfl ⟨by decide, by decide⟩ ?_
          refine aw_gi 34 dX7_readAll_28 fl_RX7_391 (by assumption) rfl rfl hl.2.2.2.1 ?_
          refine aw_if_le (tgt := 69) dX7_readAll_31 rfl (fun h31 => ?_) (fun h31 => ?_)
          · exact item (fun q => by omega)
          · have hs := if1 h24
            rw [if_pos ⟨hs, by omega⟩] at hq
            obtain ⟨c1, c2, c3⟩ := cls_NI (X := X) hN (by omega)
            have n40 := hl.2.2.2.2.2.2.2.2
            have dp4 := hl.2.2.2.2.2.2.2.1
            have v53 : az_up M2 m 34 (s.2.1 - 1) m 34 = s.2.1 - 1 := az_up_s _ _ _ _
            have v56 : az_up M2 m 34 (s.2.1 - 1) (m + 19) (s.2.1 - 1) = s.2.2.2.2 (s.2.1 - 1) := by rw [up_oth _ _ _ (by omega)]; exact hl.2.2.2.2.2.2.1 _ (by omega) (by omega)
            have v58 : az_up M2 m 34 (s.2.1 - 1) m 22 = s.2.2.1 := by rw [az_up_i _ _ _ _ (by omega)]; exact hl.2.2.2.2.1
            have hcl := PL_cls hl (by omega)
            have fc : frP M2 (az_up (az_up M2 m 34 (s.2.1 - 1)) (m + 13) (s.2.2.2.2 (s.2.1 - 1)) s.2.2.1) m := ⟨fun b b1 b2 b3 => by rw [up_oth _ _ _ (by omega), up_oth _ _ _ b1], fun j j1 j2 j3 j4 j5 => by rw [up_oth _ _ _ (by omega), az_up_i _ _ _ _ j5]⟩
            refine aw_aload_n dX7_readAll_34 rfl rfl ⟨by decide, by decide⟩ ?_
            refine aw_dup dX7_readAll_35 ?_
            refine aw_gi 34 dX7_readAll_36 fl_RX7_391 (by assumption) rfl rfl hl.2.2.2.1 ?_
            refine aw_iconst dX7_readAll_39 rfl ⟨by decide, by decide⟩ ?_
            refine aw_isub dX7_readAll_40 (az_wr_id (by omega) (by omega)) ?_
            refine aw_pi 34 dX7_readAll_41 fl_RX7_391 (by assumption) rfl rfl ?_
            refine aw_aload_n dX7_readAll_44 rfl rfl ⟨by decide, by decide⟩ ?_
            refine aw_gzF 16 dX7_readAll_45 fl_RX7_47 (by assumption) rfl rfl (by assumption) ?_
            refine aw_aload_n dX7_readAll_48 rfl rfl ⟨by decide, by decide⟩ ?_
            refine aw_gzF 35 dX7_readAll_49 fl_RX7_69 (by assumption) rfl rfl (by assumption) ?_
            refine aw_aload_n dX7_readAll_52 rfl rfl ⟨by decide, by decide⟩ ?_
            refine aw_gi 34 dX7_readAll_53 fl_RX7_391 (by assumption) rfl rfl v53 ?_
            refine aw_iv dX7_readAll_56 (by assumption) (by omega) (by omega) v56 ?_
            refine aw_aload_n dX7_readAll_57 rfl rfl ⟨by decide, by decide⟩ ?_
            refine aw_gi 22 dX7_readAll_58 fl_RX7_380 (by assumption) rfl rfl v58 ?_
            refine aw_iast dX7_readAll_61 (by assumption) (by omega) (by omega) ?_
            generalize az_up (az_up M2 m 34 (s.2.1 - 1)) (m + 13) (s.2.2.2.2 (s.2.1 - 1)) s.2.2.1 = M3 at hcl fc ⊢
            refine aw_aload_n dX7_readAll_62 rfl rfl ⟨by decide, by decide⟩ ?_
            refine aw_cV0v dX7_readAll_63 ml_RX7_371 (by assumption) (by decide) rfl rfl ⟨by decide, by decide, by decide, by decide⟩ (Nat.le_of_ble_eq_true rfl) (sp_scanP hK0 M3 hcl) (fun M4 hM4 => ?_)
            refine aw_goto (tgt := 4) dX7_readAll_66 rfl ?_
            have hcs : (cls s).1 = s.1 := rfl
            have hai := adv_in (X := X) (s := cls s) p01.2
            have := hai.2.2 hlt
            exact ih _ M4 (hcl.adv hM4.1 hM4.2) c1 (by omega) (f2.trans (fc.trans (frP.ofN hM4.2))) hq
  refine aw_aload_n dX7_readAll_0 rfl rfl ⟨by decide, by decide⟩ ?_
  refine aw_cV0v dX7_readAll_1 ml_RX7_371 (by assumption) (by decide) rfl rfl ⟨by decide, by decide, by decide, by decide⟩ (Nat.le_of_ble_eq_true rfl) (sp_scan hK0 M hb 0 h26 (by omega) b1) (fun M1 hM1 => ?_)
  obtain ⟨pt, fN⟩ := hM1
  refine loop 400 (tkA X 0, 0, 0, fun _ _ => 0, fun _ => 0) M1 ⟨hb.frN fN, pt, (fN.2 _ (by omega)).trans h32, (fN.2 _ (by omega)).trans h34, (fN.2 _ (by omega)).trans h22, fun i i0 i1 => ?_, fun k k0 k1 => ?_, ⟨by show (0 : Int) ≤ 0; omega, by show (0 : Int) ≤ 4; omega, (fN.2 _ (by omega)).trans h33⟩, by show (0 : Int) ≤ 0; omega, by show (0 : Int) ≤ 40; omega⟩ (NQ.nil _ _) (by show X.2 - tkA X 0 ≤ ((400 : Nat) : Int); omega) (frP.ofN fN) hr
  · have : i < 0 := i1
    omega
  · have : k < 0 := k1
    omega
/-- what the reference keeps of a program: the text is gone, the fault stands, the items if there is none -/
def frG (M M' : az_M) (m : Int) : Prop := (∀ b, b ≠ m → b < m + 9 ∨ m + 19 < b → M' b = M b) ∧ ∀ j, j ≠ 11 → j < 22 ∨ 34 < j → M' m j = M m j
def prgP (M M' : az_M) (m : Int) (X : pTx) (z : Int) : Prop := (∀ e, pPrg X = .inl e → z = -1 ∧ M' m 30 = e.1 ∧ M' m 31 = e.2 ∧ M' m 23 = M m 23 ∧ ∀ b, m + 14 ≤ b → b ≤ m + 18 → M' b = M b) ∧
  (∀ t, pPrg X = .inr t → z = t.2.2.1 ∧ M' m 30 = 0 ∧ M' m 31 = -1 ∧ M' m 23 = t.2.2.1 ∧ ∀ i, 0 ≤ i → i < t.2.2.1 → refI M' (m + 14) t.2.2.2.1 i) ∧ M' m 11 = 0 ∧ frG M M' m
set_option maxHeartbeats 2000000 in
theorem sp_mprogram (hK : MdK K m) (M : az_M) (hX : M m 11 = X.2 ∧ 0 ≤ X.2 ∧ X.2 ≤ 400 ∧ ∀ i, 0 ≤ i → i < X.2 → M (m + 8) i = X.1 i ∧ 0 ≤ X.1 i ∧ X.1 i ≤ 255) : AM yX7_program cX7_program 2 (some .int) 8 0 0 [(1, m)] K M (qi K (fun z M' => prgP M M' m X z)) := by
  have hK0 := hK
  obtain ⟨hKo, k3, k4, k5, k6, k7, k8, k9, k10, k11, k12, k13, k14, k15, k16, k17, k18, k19, k20, k21, k22, k23, k24, k25, y3, y4, y5, y6, y7, y8, y9, y10, y11, y12, y13, y14, y15, y16, y17, y18, y19, y20, y21, y22, y23, y24, y25⟩ := hK
  have hKo0 := hKo
  obtain ⟨hKa, k2, y2⟩ := hKo
  have hKa0 := hKa
  obtain ⟨km, k1, y1⟩ := hKa
  refine am_of (by decide) (Nat.le_of_ble_eq_true rfl) (L := [(1, m), (9, 0)]) rfl ?_
  obtain ⟨x1, x2, x3, x4⟩ := hX
  generalize hM1 : az_up (az_up (az_up (az_up (az_up (az_up (az_up M m 24 X.2) m 11 0) m 26 0) m 32 0) m 33 (-1)) m 34 0) m 22 0 = M1
  have o1 : ∀ b, b ≠ m → M1 b = M b := fun b hb => by rw [← hM1, up_oth _ _ _ hb, up_oth _ _ _ hb, up_oth _ _ _ hb, up_oth _ _ _ hb, up_oth _ _ _ hb, up_oth _ _ _ hb, up_oth _ _ _ hb]
  have j1 : ∀ j, j ≠ 24 → j ≠ 11 → j ≠ 26 → j ≠ 32 → j ≠ 33 → j ≠ 34 → j ≠ 22 → M1 m j = M m j := fun j a b c d e f g => by rw [← hM1, az_up_i _ _ _ _ g, az_up_i _ _ _ _ f, az_up_i _ _ _ _ e, az_up_i _ _ _ _ d, az_up_i _ _ _ _ c, az_up_i _ _ _ _ b, az_up_i _ _ _ _ a]
  have e24 : M1 m 24 = X.2 := by rw [← hM1, az_up_i _ _ _ _ (by omega), az_up_i _ _ _ _ (by omega), az_up_i _ _ _ _ (by omega), az_up_i _ _ _ _ (by omega), az_up_i _ _ _ _ (by omega), az_up_i _ _ _ _ (by omega), az_up_s]
  have e11 : M1 m 11 = 0 := by rw [← hM1, az_up_i _ _ _ _ (by omega), az_up_i _ _ _ _ (by omega), az_up_i _ _ _ _ (by omega), az_up_i _ _ _ _ (by omega), az_up_i _ _ _ _ (by omega), az_up_s]
  have e26 : M1 m 26 = 0 := by rw [← hM1, az_up_i _ _ _ _ (by omega), az_up_i _ _ _ _ (by omega), az_up_i _ _ _ _ (by omega), az_up_i _ _ _ _ (by omega), az_up_s]
  have e32 : M1 m 32 = 0 := by rw [← hM1, az_up_i _ _ _ _ (by omega), az_up_i _ _ _ _ (by omega), az_up_i _ _ _ _ (by omega), az_up_s]
  have e33 : M1 m 33 = -1 := by rw [← hM1, az_up_i _ _ _ _ (by omega), az_up_i _ _ _ _ (by omega), az_up_s]
  have e34 : M1 m 34 = 0 := by rw [← hM1, az_up_i _ _ _ _ (by omega), az_up_s]
  have e22 : M1 m 22 = 0 := by rw [← hM1, az_up_s]
  have hb : PB M1 m X := ⟨e24, x2, x3, fun i i0 i1 => by rw [o1 _ (by omega)]; exact x4 i i0 i1⟩
  refine aw_aload_n dX7_program_0 rfl rfl ⟨by decide, by decide⟩ ?_
  refine aw_aload_n dX7_program_1 rfl rfl ⟨by decide, by decide⟩ ?_
  refine aw_gi 11 dX7_program_2 fl_RX7_320 (by assumption) rfl rfl x1 ?_
  refine aw_pi 24 dX7_program_5 fl_RX7_323 (by assumption) rfl rfl ?_
  refine aw_aload_n dX7_program_8 rfl rfl ⟨by decide, by decide⟩ ?_
  refine aw_iconst dX7_program_9 rfl ⟨by decide, by decide⟩ ?_
  refine aw_pi 11 dX7_program_10 fl_RX7_320 (by assumption) rfl rfl ?_
  refine aw_aload_n dX7_program_13 rfl rfl ⟨by decide, by decide⟩ ?_
  refine aw_iconst dX7_program_14 rfl ⟨by decide, by decide⟩ ?_
  refine aw_pi 26 dX7_program_15 fl_RX7_326 (by assumption) rfl rfl ?_
  refine aw_aload_n dX7_program_18 rfl rfl ⟨by decide, by decide⟩ ?_
  refine aw_iconst dX7_program_19 rfl ⟨by decide, by decide⟩ ?_
  refine aw_pi 32 dX7_program_20 fl_RX7_362 (by assumption) rfl rfl ?_
  refine aw_aload_n dX7_program_23 rfl rfl ⟨by decide, by decide⟩ ?_
  refine aw_iconst dX7_program_24 rfl ⟨by decide, by decide⟩ ?_
  refine aw_pi 33 dX7_program_25 fl_RX7_365 (by assumption) rfl rfl ?_
  refine aw_aload_n dX7_program_28 rfl rfl ⟨by decide, by decide⟩ ?_
  refine aw_iconst dX7_program_29 rfl ⟨by decide, by decide⟩ ?_
  refine aw_pi 34 dX7_program_30 fl_RX7_391 (by assumption) rfl rfl ?_
  refine aw_aload_n dX7_program_33 rfl rfl ⟨by decide, by decide⟩ ?_
  refine aw_iconst dX7_program_34 rfl ⟨by decide, by decide⟩ ?_
  refine aw_pi 22 dX7_program_35 fl_RX7_380 (by assumption) rfl rfl ?_
  rw [hM1]
  refine aw_aload_n dX7_program_38 rfl rfl ⟨by decide, by decide⟩ ?_
  refine aw_cV0v dX7_program_39 ml_RX7_427 (by assumption) (by decide) rfl rfl ⟨by decide, by decide, by decide, by decide⟩ (Nat.le_of_ble_eq_true rfl) (sp_readAll hK0 M1 hb e26 e32 e33 e34 e22) (fun M2 hM2 => ?_)
  obtain ⟨d2, l2, f2⟩ := hM2
  have j2 : ∀ j, j ≠ 11 → j < 22 ∨ 34 < j → M2 m j = M m j := fun j a b => by rw [f2.2 j (by omega) (by omega) (by omega) (by omega) (by omega)]; exact j1 j (by omega) (by omega) (by omega) (by omega) (by omega) (by omega) (by omega)
  have o2 : ∀ b, b ≠ m → b < m + 9 ∨ m + 13 < b → b ≠ m + 19 → M2 b = M b := fun b a c d => by rw [f2.1 b a c d]; exact o1 b a
  have k11 : M2 m 11 = 0 := by rw [f2.2 11 (by omega) (by omega) (by omega) (by omega) (by omega)]; exact e11
  have k23 : M2 m 23 = M m 23 := by rw [f2.2 23 (by omega) (by omega) (by omega) (by omega) (by omega)]; exact j1 _ (by omega) (by omega) (by omega) (by omega) (by omega) (by omega) (by omega)
  rcases hq : pPrg X with e | t
  · obtain ⟨n', hn', hd⟩ := d2 e hq
    have h0 := hd.2.2.1
    have v44 := hd.2.1
    have v52 : az_up M2 m 30 e.1 m 33 = e.2 := by rw [az_up_i _ _ _ _ (by omega)]; exact hd.2.2.2.1
    have v59 : az_up (az_up M2 m 30 e.1) m 31 e.2 m 30 = e.1 := by rw [az_up_i _ _ _ _ (by omega), az_up_s]
    refine aw_aload_n dX7_program_42 rfl rfl ⟨by decide, by decide⟩ ?_
    refine aw_aload_n dX7_program_43 rfl rfl ⟨by decide, by decide⟩ ?_
    refine aw_gi 32 dX7_program_44 fl_RX7_362 (by assumption) rfl rfl v44 ?_
    refine aw_pi 30 dX7_program_47 fl_RX7_430 (by assumption) rfl rfl ?_
    refine aw_aload_n dX7_program_50 rfl rfl ⟨by decide, by decide⟩ ?_
    refine aw_aload_n dX7_program_51 rfl rfl ⟨by decide, by decide⟩ ?_
    refine aw_gi 33 dX7_program_52 fl_RX7_365 (by assumption) rfl rfl v52 ?_
    refine aw_pi 31 dX7_program_55 fl_RX7_65 (by assumption) rfl rfl ?_
    refine aw_aload_n dX7_program_58 rfl rfl ⟨by decide, by decide⟩ ?_
    refine aw_gi 30 dX7_program_59 fl_RX7_430 (by assumption) rfl rfl v59 ?_
    refine aw_if_le (tgt := 67) dX7_program_62 rfl (fun h62 => absurd h62 (by omega)) (fun h62 => ?_)
    refine aw_iconst dX7_program_65 rfl ⟨by decide, by decide⟩ ?_
    refine aw_iret dX7_program_66 (by decide) (by decide) ⟨_, rfl, rfl, fun e' q => ?_, fun t q => (by rw [hq] at q; cases q), ?_, fun b b1 b2 => ?_, fun j a b => ?_⟩
    · rw [hq] at q
      cases q
      refine ⟨rfl, v59, az_up_s _ _ _ _, ?_, fun b b1 b2 => ?_⟩
      · rw [az_up_i _ _ _ _ (by omega), az_up_i _ _ _ _ (by omega)]; exact k23
      · rw [up_oth _ _ _ (by omega), up_oth _ _ _ (by omega)]; exact o2 b (by omega) (by omega) (by omega)
    · rw [az_up_i _ _ _ _ (by omega), az_up_i _ _ _ _ (by omega)]; exact k11
    · rw [up_oth _ _ _ b1, up_oth _ _ _ b1]; exact o2 b b1 (by omega) (by omega)
    · rw [az_up_i _ _ _ _ (by omega), az_up_i _ _ _ _ (by omega)]; exact j2 j a b
  · have hl := l2 t hq
    have n40 := hl.2.2.2.2.2.2.2.2
    obtain ⟨n, hn⟩ : ∃ n : Int, n = t.2.2.1 := ⟨_, rfl⟩
    have v44 := hl.2.2.1
    have v52 : az_up M2 m 30 0 m 33 = -1 := by rw [az_up_i _ _ _ _ (by omega)]; exact hl.2.2.2.2.2.2.2.1.2.2
    have v59 : az_up (az_up M2 m 30 0) m 31 (-1) m 30 = 0 := by rw [az_up_i _ _ _ _ (by omega), az_up_s]
    have v69 : az_up (az_up M2 m 30 0) m 31 (-1) m 22 = n := by rw [az_up_i _ _ _ _ (by omega), az_up_i _ _ _ _ (by omega), hn]; exact hl.2.2.2.2.1
    refine aw_aload_n dX7_program_42 rfl rfl ⟨by decide, by decide⟩ ?_
    refine aw_aload_n dX7_program_43 rfl rfl ⟨by decide, by decide⟩ ?_
    refine aw_gi 32 dX7_program_44 fl_RX7_362 (by assumption) rfl rfl v44 ?_
    refine aw_pi 30 dX7_program_47 fl_RX7_430 (by assumption) rfl rfl ?_
    refine aw_aload_n dX7_program_50 rfl rfl ⟨by decide, by decide⟩ ?_
    refine aw_aload_n dX7_program_51 rfl rfl ⟨by decide, by decide⟩ ?_
    refine aw_gi 33 dX7_program_52 fl_RX7_365 (by assumption) rfl rfl v52 ?_
    refine aw_pi 31 dX7_program_55 fl_RX7_65 (by assumption) rfl rfl ?_
    refine aw_aload_n dX7_program_58 rfl rfl ⟨by decide, by decide⟩ ?_
    refine aw_gi 30 dX7_program_59 fl_RX7_430 (by assumption) rfl rfl v59 ?_
    refine aw_if_le (tgt := 67) dX7_program_62 rfl (fun h62 => ?_) (fun h62 => absurd h62 (by omega))
    refine aw_aload_n dX7_program_67 rfl rfl ⟨by decide, by decide⟩ ?_
    refine aw_aload_n dX7_program_68 rfl rfl ⟨by decide, by decide⟩ ?_
    refine aw_gi 22 dX7_program_69 fl_RX7_380 (by assumption) rfl rfl v69 ?_
    refine aw_pi 23 dX7_program_72 fl_RX7_433 (by assumption) rfl rfl ?_
    refine aw_iconst dX7_program_75 rfl ⟨by decide, by decide⟩ ?_
    refine aw_istore_n dX7_program_76 rfl (by decide) ?_
    have g1 : ∀ b, b ≠ m → az_up (az_up (az_up M2 m 30 0) m 31 (-1)) m 23 n b = M2 b := fun b hb => by rw [up_oth _ _ _ hb, up_oth _ _ _ hb, up_oth _ _ _ hb]
    have g2 : ∀ j, j ≠ 30 → j ≠ 31 → j ≠ 23 → az_up (az_up (az_up M2 m 30 0) m 31 (-1)) m 23 n m j = M2 m j := fun j a b c => by rw [az_up_i _ _ _ _ c, az_up_i _ _ _ _ b, az_up_i _ _ _ _ a]
    have g30 : az_up (az_up (az_up M2 m 30 0) m 31 (-1)) m 23 n m 30 = 0 := by rw [az_up_i _ _ _ _ (by omega)]; exact v59
    have g31 : az_up (az_up (az_up M2 m 30 0) m 31 (-1)) m 23 n m 31 = -1 := by rw [az_up_i _ _ _ _ (by omega), az_up_s]
    have g23 : az_up (az_up (az_up M2 m 30 0) m 31 (-1)) m 23 n m 23 = n := az_up_s _ _ _ _
    generalize az_up (az_up (az_up M2 m 30 0) m 31 (-1)) m 23 n = M3 at g1 g2 g30 g31 g23 ⊢
    have loop : ∀ (d : Nat) (k : Int) (M4 : az_M), 0 ≤ k → k + d = n → (∀ i, 0 ≤ i → i < k → ∀ c, 0 ≤ c → c ≤ 4 → M4 (m + 14 + c) i = M2 (m + 9 + c) i) → (∀ b, b < m + 14 ∨ m + 18 < b → M4 b = M3 b) → AW az_P0 (az_Z (qi K (fun z M' => prgP M M' m X z)) 0 0) (az_rm 8 0 0) yX7_program cX7_program 2 (some .int) 0 0 77 [(1, m), (0, k)] [] K M4 := by
      intro d
      induction d with
      | zero =>
        intro k M4 k0 kd c4 o4
        have v79 : M4 m 23 = n := by rw [o4 _ (by omega)]; exact g23
        refine aw_iload_n dX7_program_77 rfl rfl ?_
        refine aw_aload_n dX7_program_78 rfl rfl ⟨by decide, by decide⟩ ?_
        refine aw_gi 23 dX7_program_79 fl_RX7_433 (by assumption) rfl rfl v79 ?_
        refine aw_icmp_ge (tgt := 151) dX7_program_82 rfl (fun h82 => ?_) (fun h82 => absurd h82 (by omega))
        refine aw_aload_n dX7_program_151 rfl rfl ⟨by decide, by decide⟩ ?_
        refine aw_gi 23 dX7_program_152 fl_RX7_433 (by assumption) rfl rfl v79 ?_
        refine aw_iret dX7_program_155 (by decide) (by decide) ⟨_, rfl, rfl, fun e' q => (by rw [hq] at q; cases q), fun t' q => ?_, ?_, fun b b1 b2 => ?_, fun j a b => ?_⟩
        · rw [hq] at q
          cases q
          refine ⟨hn, by rw [o4 _ (by omega)]; exact g30, by rw [o4 _ (by omega)]; exact g31, by rw [o4 _ (by omega), g23]; exact hn, fun i i0 i1 => ?_⟩
          have hi := hl.2.2.2.2.2.1 i i0 i1
          have c0 := c4 i i0 (by omega) 0 (by omega) (by omega)
          have c1 := c4 i i0 (by omega) 1 (by omega) (by omega)
          have c2 := c4 i i0 (by omega) 2 (by omega) (by omega)
          have c3 := c4 i i0 (by omega) 3 (by omega) (by omega)
          have c4' := c4 i i0 (by omega) 4 (by omega) (by omega)
          rw [Int.add_zero, Int.add_zero] at c0
          unfold refI at hi ⊢
          rw [c0, c1, c2, c3, c4']
          exact hi
        · rw [o4 _ (by omega), g2 _ (by omega) (by omega) (by omega)]; exact k11
        · rw [o4 b (by omega), g1 b b1]; exact o2 b b1 (by omega) (by omega)
        · rw [o4 _ (by omega), g2 j (by omega) (by omega) (by omega)]; exact j2 j a b
      | succ d ih =>
        intro k M4 k0 kd c4 o4
        have v79 : M4 m 23 = n := by rw [o4 _ (by omega)]; exact g23
        refine aw_iload_n dX7_program_77 rfl rfl ?_
        refine aw_aload_n dX7_program_78 rfl rfl ⟨by decide, by decide⟩ ?_
        refine aw_gi 23 dX7_program_79 fl_RX7_433 (by assumption) rfl rfl v79 ?_
        refine aw_icmp_ge (tgt := 151) dX7_program_82 rfl (fun h82 => absurd h82 (by omega)) (fun h82 => ?_)
        have s0 : M4 (m + 9) = M2 (m + 9) := by rw [o4 _ (by omega), g1 _ (by omega)]
        have s1 : M4 (m + 10) = M2 (m + 10) := by rw [o4 _ (by omega), g1 _ (by omega)]
        have s2 : M4 (m + 11) = M2 (m + 11) := by rw [o4 _ (by omega), g1 _ (by omega)]
        have s3 : M4 (m + 12) = M2 (m + 12) := by rw [o4 _ (by omega), g1 _ (by omega)]
        have s4 : M4 (m + 13) = M2 (m + 13) := by rw [o4 _ (by omega), g1 _ (by omega)]
        have v95 : M4 (m + 9) k = M2 (m + 9) k := by rw [s0]
        have v107 : az_up M4 (m + 14) k (M2 (m + 9) k) (m + 10) k = M2 (m + 10) k := by rw [up_oth _ _ _ (by omega), s1]
        have v119 : az_up (az_up M4 (m + 14) k (M2 (m + 9) k)) (m + 15) k (M2 (m + 10) k) (m + 11) k = M2 (m + 11) k := by rw [up_oth _ _ _ (by omega), up_oth _ _ _ (by omega), s2]
        have v131 : az_up (az_up (az_up M4 (m + 14) k (M2 (m + 9) k)) (m + 15) k (M2 (m + 10) k)) (m + 16) k (M2 (m + 11) k) (m + 12) k = M2 (m + 12) k := by rw [up_oth _ _ _ (by omega), up_oth _ _ _ (by omega), up_oth _ _ _ (by omega), s3]
        have v143 : az_up (az_up (az_up (az_up M4 (m + 14) k (M2 (m + 9) k)) (m + 15) k (M2 (m + 10) k)) (m + 16) k (M2 (m + 11) k)) (m + 17) k (M2 (m + 12) k) (m + 13) k = M2 (m + 13) k := by rw [up_oth _ _ _ (by omega), up_oth _ _ _ (by omega), up_oth _ _ _ (by omega), up_oth _ _ _ (by omega), s4]
        refine aw_aload_n dX7_program_85 rfl rfl ⟨by decide, by decide⟩ ?_
        refine aw_gzF 17 dX7_program_86 fl_RX7_50 (by assumption) rfl rfl (by assumption) ?_
        refine aw_iload_n dX7_program_89 rfl rfl ?_
        refine aw_aload_n dX7_program_90 rfl rfl ⟨by decide, by decide⟩ ?_
        refine aw_gzF 12 dX7_program_91 fl_RX7_35 (by assumption) rfl rfl (by assumption) ?_
        refine aw_iload_n dX7_program_94 rfl rfl ?_
        refine aw_iv dX7_program_95 (by assumption) (by omega) (by omega) v95 ?_
        refine aw_iast dX7_program_96 (by assumption) (by omega) (by omega) ?_
        refine aw_aload_n dX7_program_97 rfl rfl ⟨by decide, by decide⟩ ?_
        refine aw_gzF 18 dX7_program_98 fl_RX7_53 (by assumption) rfl rfl (by assumption) ?_
        refine aw_iload_n dX7_program_101 rfl rfl ?_
        refine aw_aload_n dX7_program_102 rfl rfl ⟨by decide, by decide⟩ ?_
        refine aw_gzF 13 dX7_program_103 fl_RX7_38 (by assumption) rfl rfl (by assumption) ?_
        refine aw_iload_n dX7_program_106 rfl rfl ?_
        refine aw_iv dX7_program_107 (by assumption) (by omega) (by omega) v107 ?_
        refine aw_iast dX7_program_108 (by assumption) (by omega) (by omega) ?_
        refine aw_aload_n dX7_program_109 rfl rfl ⟨by decide, by decide⟩ ?_
        refine aw_gzF 19 dX7_program_110 fl_RX7_56 (by assumption) rfl rfl (by assumption) ?_
        refine aw_iload_n dX7_program_113 rfl rfl ?_
        refine aw_aload_n dX7_program_114 rfl rfl ⟨by decide, by decide⟩ ?_
        refine aw_gzF 14 dX7_program_115 fl_RX7_41 (by assumption) rfl rfl (by assumption) ?_
        refine aw_iload_n dX7_program_118 rfl rfl ?_
        refine aw_iv dX7_program_119 (by assumption) (by omega) (by omega) v119 ?_
        refine aw_iast dX7_program_120 (by assumption) (by omega) (by omega) ?_
        refine aw_aload_n dX7_program_121 rfl rfl ⟨by decide, by decide⟩ ?_
        refine aw_gzF 20 dX7_program_122 fl_RX7_59 (by assumption) rfl rfl (by assumption) ?_
        refine aw_iload_n dX7_program_125 rfl rfl ?_
        refine aw_aload_n dX7_program_126 rfl rfl ⟨by decide, by decide⟩ ?_
        refine aw_gzF 15 dX7_program_127 fl_RX7_44 (by assumption) rfl rfl (by assumption) ?_
        refine aw_iload_n dX7_program_130 rfl rfl ?_
        refine aw_iv dX7_program_131 (by assumption) (by omega) (by omega) v131 ?_
        refine aw_iast dX7_program_132 (by assumption) (by omega) (by omega) ?_
        refine aw_aload_n dX7_program_133 rfl rfl ⟨by decide, by decide⟩ ?_
        refine aw_gzF 21 dX7_program_134 fl_RX7_62 (by assumption) rfl rfl (by assumption) ?_
        refine aw_iload_n dX7_program_137 rfl rfl ?_
        refine aw_aload_n dX7_program_138 rfl rfl ⟨by decide, by decide⟩ ?_
        refine aw_gzF 16 dX7_program_139 fl_RX7_47 (by assumption) rfl rfl (by assumption) ?_
        refine aw_iload_n dX7_program_142 rfl rfl ?_
        refine aw_iv dX7_program_143 (by assumption) (by omega) (by omega) v143 ?_
        refine aw_iast dX7_program_144 (by assumption) (by omega) (by omega) ?_
        refine aw_iinc dX7_program_145 rfl (az_wr_id (by omega) (by omega)) (by decide) ?_
        refine aw_goto (tgt := 77) dX7_program_148 rfl ?_
        refine ih (k + 1) _ (by omega) (by omega) (fun i i0 i1 c c0 c1 => ?_) (fun b hb => by rw [up_oth _ _ _ (by omega), up_oth _ _ _ (by omega), up_oth _ _ _ (by omega), up_oth _ _ _ (by omega), up_oth _ _ _ (by omega)]; exact o4 b hb)
        have hold : i ≠ k → M4 (m + 14 + c) i = M2 (m + 9 + c) i := fun q => c4 i i0 (by omega) c c0 c1
        have h5 : c = 0 ∨ c = 1 ∨ c = 2 ∨ c = 3 ∨ c = 4 := by omega
        by_cases q : i = k
        · subst q
          rcases h5 with rfl | rfl | rfl | rfl | rfl
          · rw [show m + 14 + 0 = m + 14 by omega, show m + 9 + 0 = m + 9 by omega, up_oth _ _ _ (by omega), up_oth _ _ _ (by omega), up_oth _ _ _ (by omega), up_oth _ _ _ (by omega), az_up_s]
          · rw [show m + 14 + 1 = m + 15 by omega, show m + 9 + 1 = m + 10 by omega, up_oth _ _ _ (by omega), up_oth _ _ _ (by omega), up_oth _ _ _ (by omega), az_up_s]
          · rw [show m + 14 + 2 = m + 16 by omega, show m + 9 + 2 = m + 11 by omega, up_oth _ _ _ (by omega), up_oth _ _ _ (by omega), az_up_s]
          · rw [show m + 14 + 3 = m + 17 by omega, show m + 9 + 3 = m + 12 by omega, up_oth _ _ _ (by omega), az_up_s]
          · rw [show m + 14 + 4 = m + 18 by omega, show m + 9 + 4 = m + 13 by omega, az_up_s]
        · rw [az_up_i _ _ _ _ q, az_up_i _ _ _ _ q, az_up_i _ _ _ _ q, az_up_i _ _ _ _ q, az_up_i _ _ _ _ q]
          exact hold q
    exact loop n.toNat 0 M3 (by omega) (by omega) (fun i i0 i1 => by omega) (fun _ _ => rfl)
theorem sp_mfault (hK : MdK K m) (M : az_M) (w : Int) : AM yX7_fault cX7_fault 2 (some .int) 0 0 0 [(1, m), (0, w)] K M (qp K M (if w = 0 then M m 30 else if w = 1 then M m 31 else -1)) := by
  have hK0 := hK
  obtain ⟨hKo, k3, k4, k5, k6, k7, k8, k9, k10, k11, k12, k13, k14, k15, k16, k17, k18, k19, k20, k21, k22, k23, k24, k25, y3, y4, y5, y6, y7, y8, y9, y10, y11, y12, y13, y14, y15, y16, y17, y18, y19, y20, y21, y22, y23, y24, y25⟩ := hK
  have hKo0 := hKo
  obtain ⟨hKa, k2, y2⟩ := hKo
  have hKa0 := hKa
  obtain ⟨km, k1, y1⟩ := hKa
  refine am_of (by decide) (Nat.le_of_ble_eq_true rfl) (L := [(1, m), (0, w)]) rfl ?_
  refine aw_iload_n dX7_fault_0 rfl rfl ?_
  refine aw_if_ne (tgt := 11) dX7_fault_1 rfl (fun h1 => ?_) (fun h1 => ?_)
  · rw [if_neg h1]
    refine aw_iload_n dX7_fault_11 rfl rfl ?_
    refine aw_iconst dX7_fault_12 rfl ⟨by decide, by decide⟩ ?_
    refine aw_icmp_ne (tgt := 23) dX7_fault_13 rfl (fun h13 => ?_) (fun h13 => ?_)
    · rw [if_neg h13]
      refine aw_iconst dX7_fault_23 rfl ⟨by decide, by decide⟩ ?_
      exact aw_iret dX7_fault_24 (by decide) (by decide) (qp_i rfl)
    · rw [if_pos h13]
      refine aw_aload_n dX7_fault_16 rfl rfl ⟨by decide, by decide⟩ ?_
      refine aw_gi 31 dX7_fault_17 fl_RX7_65 (by assumption) rfl rfl rfl ?_
      refine aw_goto (tgt := 24) dX7_fault_20 rfl ?_
      exact aw_iret dX7_fault_24 (by decide) (by decide) (qp_i rfl)
  · rw [if_pos h1]
    refine aw_aload_n dX7_fault_4 rfl rfl ⟨by decide, by decide⟩ ?_
    refine aw_gi 30 dX7_fault_5 fl_RX7_430 (by assumption) rfl rfl rfl ?_
    refine aw_goto (tgt := 24) dX7_fault_8 rfl ?_
    exact aw_iret dX7_fault_24 (by decide) (by decide) (qp_i rfl)
theorem sp_mcut (hK : MdK K m) (M : az_M) (t : Int) (ht : M m 11 = t) (w : Int) : AM yX7_cut cX7_cut 2 (some .int) 0 0 0 [(1, m), (0, w)] K M (qi K (fun z M' => (0 ≤ w ∧ w ≤ t → z = w ∧ M' = az_up M m 11 w) ∧ (¬ (0 ≤ w ∧ w ≤ t) → z = -1 ∧ M' = M))) := by
  have hK0 := hK
  obtain ⟨hKo, k3, k4, k5, k6, k7, k8, k9, k10, k11, k12, k13, k14, k15, k16, k17, k18, k19, k20, k21, k22, k23, k24, k25, y3, y4, y5, y6, y7, y8, y9, y10, y11, y12, y13, y14, y15, y16, y17, y18, y19, y20, y21, y22, y23, y24, y25⟩ := hK
  have hKo0 := hKo
  obtain ⟨hKa, k2, y2⟩ := hKo
  have hKa0 := hKa
  obtain ⟨km, k1, y1⟩ := hKa
  refine am_of (by decide) (Nat.le_of_ble_eq_true rfl) (L := [(1, m), (0, w)]) rfl ?_
  have no : ¬ (0 ≤ w ∧ w ≤ t) → AW az_P0 (az_Z (qi K (fun z M' => (0 ≤ w ∧ w ≤ t → z = w ∧ M' = az_up M m 11 w) ∧ (¬ (0 ≤ w ∧ w ≤ t) → z = -1 ∧ M' = M))) 0 0) (az_rm 0 0 0) yX7_cut cX7_cut 2 (some .int) 0 0 12 [(1, m), (0, w)] [] K M := by
    intro h
    refine aw_iconst dX7_cut_12 rfl ⟨by decide, by decide⟩ ?_
    exact aw_iret dX7_cut_13 (by decide) (by decide) ⟨_, rfl, rfl, fun q => absurd q h, fun _ => ⟨rfl, rfl⟩⟩
  refine aw_iload_n dX7_cut_0 rfl rfl ?_
  refine aw_if_lt (tgt := 12) dX7_cut_1 rfl (fun h1 => ?_) (fun h1 => ?_)
  · exact no (by omega)
  · refine aw_iload_n dX7_cut_4 rfl rfl ?_
    refine aw_aload_n dX7_cut_5 rfl rfl ⟨by decide, by decide⟩ ?_
    refine aw_gi 11 dX7_cut_6 fl_RX7_320 (by assumption) rfl rfl ht ?_
    refine aw_icmp_le (tgt := 14) dX7_cut_9 rfl (fun h9 => ?_) (fun h9 => ?_)
    · refine aw_aload_n dX7_cut_14 rfl rfl ⟨by decide, by decide⟩ ?_
      refine aw_iload_n dX7_cut_15 rfl rfl ?_
      refine aw_pi 11 dX7_cut_16 fl_RX7_320 (by assumption) rfl rfl ?_
      refine aw_iload_n dX7_cut_19 rfl rfl ?_
      exact aw_iret dX7_cut_20 (by decide) (by decide) ⟨_, rfl, rfl, fun _ => ⟨rfl, rfl⟩, fun q => absurd (by omega) q⟩
    · exact no (by omega)
end MP
