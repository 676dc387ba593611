/-! TreadRingModel reads items -/
set_option maxRecDepth 20000
section MR2
variable {K : az_K} {m : Int} {X : pTx} {s : pSt} {e : pE} {n : Int}
theorem PD.nn {M : az_M} (h : PD M m X e n) : M m 22 = n ∧ 0 ≤ n := ⟨h.2.2.2.2.1, h.2.2.2.2.2⟩
set_option maxHeartbeats 1000000 in
theorem sp_readStep (hK : MdK K m) (M : az_M) (hl : PL M m X s) (hn : s.2.2.1 ≤ 39) : AM yX7_readStep cX7_readStep 2 none 4 0 0 [(1, m)] K M (qv K (fun M' => PO M M' m X (pStp X s))) := by
  have hK0 := hK
  obtain ⟨hKo, k3, k4, k5, k6, k7, k8, k9, k10, k11, k12, k13, k14, k15, k16, k17, k18, k19, k20, k21, k22, k23, k24, k25, y3, y4, y5, y6, y7, y8, y9, y10, y11, y12, y13, y14, y15, y16, y17, y18, y19, y20, y21, y22, y23, y24, y25⟩ := hK
  have hKo0 := hKo
  obtain ⟨hKa, k2, y2⟩ := hKo
  have hKa0 := hKa
  obtain ⟨km, k1, y1⟩ := hKa
  refine am_of (by decide) (Nat.le_of_ble_eq_true rfl) (L := [(1, m), (9, 0)]) rfl ?_
  generalize hr : pStp X s = r
  unfold pStp at hr
  have n0 := hl.2.2.2.2.2.2.2.2.1
  refine aw_aload_n dX7_readStep_0 rfl rfl ⟨by decide, by decide⟩ ?_
  refine aw_cV0v dX7_readStep_1 ml_RX7_371 (by assumption) (by decide) rfl rfl ⟨by decide, by decide, by decide, by decide⟩ (Nat.le_of_ble_eq_true rfl) (sp_scanP hK0 M hl) (fun M1 hM1 => ?_)
  have hl1 := hl.adv hM1.1 hM1.2
  have f1 := frP.ofN hM1.2
  refine aw_aload_n dX7_readStep_4 rfl rfl ⟨by decide, by decide⟩ ?_
  refine aw_iconst dX7_readStep_5 rfl ⟨by decide, by decide⟩ ?_
  refine aw_bipush dX7_readStep_6 (by decide) ⟨by decide, by decide⟩ ?_
  refine aw_cV2i dX7_readStep_8 ml_RX7_404 (by assumption) (by decide) rfl rfl ⟨by decide, by decide, by decide, by decide⟩ (Nat.le_of_ble_eq_true rfl) (sp_numeral hK0 M1 hl1 1 99) (fun z2 M2 hz2 => ?_)
  refine aw_istore_n dX7_readStep_11 rfl (by decide) ?_
  obtain ⟨d2, l2, f2⟩ := hz2
  rcases hq : pNm X 1 99 (adv X s) with e | a
  · have hd := d2 e hq
    rw [hq] at hr
    replace hr : Sum.inl e = r := hr
    refine aw_aload_n dX7_readStep_12 rfl rfl ⟨by decide, by decide⟩ ?_
    refine aw_bipush dX7_readStep_13 (by decide) ⟨by decide, by decide⟩ ?_
    refine aw_cV1v dX7_readStep_15 ml_RX7_407 (by assumption) (by decide) rfl rfl ⟨by decide, by decide, by decide, by decide⟩ (Nat.le_of_ble_eq_true rfl) (sp_needD hK0 M2 hd 59) (fun M3 hM3 => ?_)
    subst hM3
    refine aw_aload_n dX7_readStep_18 rfl rfl ⟨by decide, by decide⟩ ?_
    refine aw_bipush dX7_readStep_19 (by decide) ⟨by decide, by decide⟩ ?_
    refine aw_iload_n dX7_readStep_21 rfl rfl ?_
    refine aw_iconst dX7_readStep_22 rfl ⟨by decide, by decide⟩ ?_
    refine aw_iconst dX7_readStep_23 rfl ⟨by decide, by decide⟩ ?_
    refine aw_cV4v dX7_readStep_24 ml_RX7_410 (by assumption) (by decide) rfl rfl ⟨by decide, by decide, by decide, by decide⟩ (Nat.le_of_ble_eq_true rfl) (sp_lay hK0 M3 _ hd.nn.1 n0 (by show s.2.2.1 ≤ 40; omega) 6 z2 0 0) (fun M4 hM4 => ?_)
    exact aw_vret dX7_readStep_27 (by decide) (by decide) ⟨rfl, rfl, PO.l hr.symm (by show s.2.2.1 + 1 ≤ 40; omega) (hd.lay hM4) (f1.trans (f2.trans (frP.lay hM4)))⟩
  · obtain ⟨e2, l2'⟩ := l2 a hq
    obtain ⟨ea, -⟩ := pNm_r hq
    rw [hq] at hr
    subst ea
    replace l2' : PL M2 m X (adv X (adv X s)) := l2'
    replace e2 : z2 = nm X (adv X s).1 := e2
    subst e2
    replace hr : bd (pSg X 59 (adv X (adv X s))) (fun t => .inr (addI t 4 (-1) (-1) (nm X (adv X s).1))) = r := hr
    refine aw_aload_n dX7_readStep_12 rfl rfl ⟨by decide, by decide⟩ ?_
    refine aw_bipush dX7_readStep_13 (by decide) ⟨by decide, by decide⟩ ?_
    refine aw_cV1v dX7_readStep_15 ml_RX7_407 (by assumption) (by decide) rfl rfl ⟨by decide, by decide, by decide, by decide⟩ (Nat.le_of_ble_eq_true rfl) (sp_need hK0 M2 l2' 59 (by decide)) (fun M3 hM3 => ?_)
    obtain ⟨d3, l3, f3⟩ := hM3
    rcases hs : pSg X 59 (adv X (adv X s)) with e | t
    · have hd := d3 e hs
      rw [hs] at hr
      replace hr : Sum.inl e = r := hr
      refine aw_aload_n dX7_readStep_18 rfl rfl ⟨by decide, by decide⟩ ?_
      refine aw_bipush dX7_readStep_19 (by decide) ⟨by decide, by decide⟩ ?_
      refine aw_iload_n dX7_readStep_21 rfl rfl ?_
      refine aw_iconst dX7_readStep_22 rfl ⟨by decide, by decide⟩ ?_
      refine aw_iconst dX7_readStep_23 rfl ⟨by decide, by decide⟩ ?_
      refine aw_cV4v dX7_readStep_24 ml_RX7_410 (by assumption) (by decide) rfl rfl ⟨by decide, by decide, by decide, by decide⟩ (Nat.le_of_ble_eq_true rfl) (sp_lay hK0 M3 _ hd.nn.1 n0 (by show s.2.2.1 ≤ 40; omega) 6 (nm X (adv X s).1) 0 0) (fun M4 hM4 => ?_)
      exact aw_vret dX7_readStep_27 (by decide) (by decide) ⟨rfl, rfl, PO.l hr.symm (by show s.2.2.1 + 1 ≤ 40; omega) (hd.lay hM4) (f1.trans (f2.trans (f3.trans (frP.lay hM4))))⟩
    · have hl3 := l3 t hs
      obtain ⟨et, -⟩ := pSg_r hs
      rw [hs] at hr
      subst et
      replace hr : Sum.inr (addI (adv X (adv X (adv X s))) 4 (-1) (-1) (nm X (adv X s).1)) = r := hr
      refine aw_aload_n dX7_readStep_18 rfl rfl ⟨by decide, by decide⟩ ?_
      refine aw_bipush dX7_readStep_19 (by decide) ⟨by decide, by decide⟩ ?_
      refine aw_iload_n dX7_readStep_21 rfl rfl ?_
      refine aw_iconst dX7_readStep_22 rfl ⟨by decide, by decide⟩ ?_
      refine aw_iconst dX7_readStep_23 rfl ⟨by decide, by decide⟩ ?_
      refine aw_cV4v dX7_readStep_24 ml_RX7_410 (by assumption) (by decide) rfl rfl ⟨by decide, by decide, by decide, by decide⟩ (Nat.le_of_ble_eq_true rfl) (sp_lay hK0 M3 s.2.2.1 hl3.2.2.2.2.1 n0 (by omega) 6 (nm X (adv X s).1) 0 0) (fun M4 hM4 => ?_)
      exact aw_vret dX7_readStep_27 (by decide) (by decide) ⟨rfl, rfl, PO.r hr.symm (PL.lay hl3 hn hM4 (by simp [rowP, opc])) (f1.trans (f2.trans (f3.trans (frP.lay hM4))))⟩
theorem PL.opb {M : az_M} (hl : PL M m X s) (hd : s.2.1 ≤ 3) : PL (az_up (az_up M (m + 19) s.2.1 s.2.2.1) m 34 (s.2.1 + 1)) m X (opb s) := by
  obtain ⟨h1, h2, h3, h4, h5, h6, h7, h8, h9⟩ := hl
  have e : ∀ j, j ≠ 34 → az_up (az_up M (m + 19) s.2.1 s.2.2.1) m 34 (s.2.1 + 1) m j = M m j := fun j hj => by rw [az_up_i _ _ _ _ hj, up_oth _ _ _ (by omega)]
  have o : ∀ b, b ≠ m → b ≠ m + 19 → az_up (az_up M (m + 19) s.2.1 s.2.2.1) m 34 (s.2.1 + 1) b = M b := fun b b1 b2 => by rw [up_oth _ _ _ b1, up_oth _ _ _ b2]
  refine ⟨h1.fr (e _ (by omega)) (o _ (by omega) (by omega)), ⟨h2.1, by rw [e _ (by omega)]; exact h2.2.1, by rw [e _ (by omega)]; exact h2.2.2.1, by rw [e _ (by omega)]; exact h2.2.2.2.1, fun q => by rw [e _ (by omega)]; exact h2.2.2.2.2.1 q, fun q => by rw [e _ (by omega)]; exact h2.2.2.2.2.2 q⟩, by rw [e _ (by omega)]; exact h3, az_up_s _ _ _ _, by rw [e _ (by omega)]; exact h5, fun i i0 i1 => ?_, fun k k0 k1 => ?_, ?_, h9⟩
  · have := h6 i i0 i1
    unfold refI at this ⊢
    rw [o _ (by omega) (by omega), o _ (by omega) (by omega), o _ (by omega) (by omega), o _ (by omega) (by omega), o _ (by omega) (by omega)]
    exact this
  · have k1' : k < s.2.1 + 1 := k1
    rw [up_oth _ _ _ (by omega), up_row]
    show (if k = s.2.1 then s.2.2.1 else M (m + 19) k) = (if k = s.2.1 then s.2.2.1 else s.2.2.2.2 k)
    by_cases q : k = s.2.1
    · rw [if_pos q, if_pos q]
    · rw [if_neg q, if_neg q]; exact h7 k k0 (by omega)
  · exact ⟨by show 0 ≤ s.2.1 + 1; omega, by show s.2.1 + 1 ≤ 4; omega, (e _ (by omega)).trans h8.2.2⟩
set_option maxHeartbeats 1000000 in
theorem sp_readBlock (hK : MdK K m) (M : az_M) (hl : PL M m X s) (hn : s.2.2.1 ≤ 39) (hdp : s.2.1 ≤ 3) (tm : Int) (ht : tm = 0 ∨ tm = 1) : AM yX7_readBlock cX7_readBlock 3 none 4 0 0 [(1, m), (0, tm)] K M (qv K (fun M' => PO M M' m X (if tm = 1 then pTim X s else pIfs X s))) := by
  have hK0 := hK
  obtain ⟨hKo, k3, k4, k5, k6, k7, k8, k9, k10, k11, k12, k13, k14, k15, k16, k17, k18, k19, k20, k21, k22, k23, k24, k25, y3, y4, y5, y6, y7, y8, y9, y10, y11, y12, y13, y14, y15, y16, y17, y18, y19, y20, y21, y22, y23, y24, y25⟩ := hK
  have hKo0 := hKo
  obtain ⟨hKa, k2, y2⟩ := hKo
  have hKa0 := hKa
  obtain ⟨km, k1, y1⟩ := hKa
  refine am_of (by decide) (Nat.le_of_ble_eq_true rfl) (L := [(1, m), (0, tm), (9, 0)]) rfl ?_
  generalize hr : (if tm = 1 then pTim X s else pIfs X s) = r
  have n0 := hl.2.2.2.2.2.2.2.2.1
  have dp0 := hl.2.2.2.2.2.2.2.1
  -- behind the number or the letter, of a state t
  have dead : ∀ (M2 : az_M) (v : Int) (e : pE), PD M2 m X e s.2.2.1 → frP M M2 m → r = .inl e → AW az_P0 (az_Z (qv K (fun M' => PO M M' m X r)) 0 0) (az_rm 4 0 0) yX7_readBlock cX7_readBlock 3 none 0 0 29 [(1, m), (0, tm), (0, v)] [] K M2 := by
    intro M2 v e hd f2 hq
    have h0 := hd.2.2.1
    refine aw_aload_n dX7_readBlock_29 rfl rfl ⟨by decide, by decide⟩ ?_
    refine aw_gi 32 dX7_readBlock_30 fl_RX7_362 (by assumption) rfl rfl hd.2.1 ?_
    refine aw_if_le (tgt := 37) dX7_readBlock_33 rfl (fun h33 => absurd h33 (by omega)) (fun h33 => ?_)
    exact aw_vret dX7_readBlock_36 (by decide) (by decide) ⟨rfl, rfl, PO.l hq (by omega) hd f2⟩
  have tail : ∀ (M2 : az_M) (v k rr u : Int) (t : pSt), PL M2 m X t → t.2 = s.2 → frP M M2 m → (tm = 1 ∧ k = 5 ∧ rr = -1 ∧ u = v ∨ tm = 0 ∧ k = 6 ∧ rr = v ∧ u = 0) → bd (pSg X 123 t) (fun t => .inr (opn t k rr u)) = r → AW az_P0 (az_Z (qv K (fun M' => PO M M' m X r)) 0 0) (az_rm 4 0 0) yX7_readBlock cX7_readBlock 3 none 0 0 23 [(1, m), (0, tm), (0, v)] [] K M2 := by
    intro M2 v k rr u t lt et f2 hk hq
    have en : t.2.2.1 = s.2.2.1 := by rw [et]
    have ed : t.2.1 = s.2.1 := by rw [et]
    refine aw_aload_n dX7_readBlock_23 rfl rfl ⟨by decide, by decide⟩ ?_
    refine aw_bipush dX7_readBlock_24 (by decide) ⟨by decide, by decide⟩ ?_
    refine aw_cV1v dX7_readBlock_26 ml_RX7_407 (by assumption) (by decide) rfl rfl ⟨by decide, by decide, by decide, by decide⟩ (Nat.le_of_ble_eq_true rfl) (sp_need hK0 M2 lt 123 (by decide)) (fun M3 hM3 => ?_)
    obtain ⟨d3, l3, f3⟩ := hM3
    rcases hs : pSg X 123 t with e | t'
    · have hd := d3 e hs
      rw [en] at hd
      rw [hs] at hq
      exact dead M3 v e hd (f2.trans f3) hq.symm
    · have hl3 := l3 t' hs
      obtain ⟨et', -⟩ := pSg_r hs
      rw [hs] at hq
      subst et'
      replace hq : Sum.inr (opn (adv X t) k rr u) = r := hq
      have en3 : (adv X t).2.2.1 = s.2.2.1 := en
      have ed3 : (adv X t).2.1 = s.2.1 := ed
      have v30 := hl3.2.2.1
      have v42 : M3 m 34 = s.2.1 := hl3.2.2.2.1.trans ed3
      have v46 : M3 m 22 = s.2.2.1 := hl3.2.2.2.2.1.trans en3
      have v52 : az_up M3 (m + 19) s.2.1 s.2.2.1 m 34 = s.2.1 := by rw [up_oth _ _ _ (by omega)]; exact v42
      have hob := PL.opb hl3 (by omega)
      rw [en3, ed3] at hob
      have f4 : frP M3 (az_up (az_up M3 (m + 19) s.2.1 s.2.2.1) m 34 (s.2.1 + 1)) m := ⟨fun b b1 b2 b3 => by rw [up_oth _ _ _ b1, up_oth _ _ _ b3], fun j j1 j2 j3 j4 j5 => by rw [az_up_i _ _ _ _ j5, up_oth _ _ _ (by omega)]⟩
      refine aw_aload_n dX7_readBlock_29 rfl rfl ⟨by decide, by decide⟩ ?_
      refine aw_gi 32 dX7_readBlock_30 fl_RX7_362 (by assumption) rfl rfl v30 ?_
      refine aw_if_le (tgt := 37) dX7_readBlock_33 rfl (fun h33 => ?_) (fun h33 => absurd h33 (by omega))
      refine aw_aload_n dX7_readBlock_37 rfl rfl ⟨by decide, by decide⟩ ?_
      refine aw_gzF 35 dX7_readBlock_38 fl_RX7_69 (by assumption) rfl rfl (by assumption) ?_
      refine aw_aload_n dX7_readBlock_41 rfl rfl ⟨by decide, by decide⟩ ?_
      refine aw_gi 34 dX7_readBlock_42 fl_RX7_391 (by assumption) rfl rfl v42 ?_
      refine aw_aload_n dX7_readBlock_45 rfl rfl ⟨by decide, by decide⟩ ?_
      refine aw_gi 22 dX7_readBlock_46 fl_RX7_380 (by assumption) rfl rfl v46 ?_
      refine aw_iast dX7_readBlock_49 (by assumption) (by omega) (by omega) ?_
      refine aw_aload_n dX7_readBlock_50 rfl rfl ⟨by decide, by decide⟩ ?_
      refine aw_dup dX7_readBlock_51 ?_
      refine aw_gi 34 dX7_readBlock_52 fl_RX7_391 (by assumption) rfl rfl v52 ?_
      refine aw_iconst dX7_readBlock_55 rfl ⟨by decide, by decide⟩ ?_
      refine aw_iadd dX7_readBlock_56 (az_wr_id (by omega) (by omega)) ?_
      refine aw_pi 34 dX7_readBlock_57 fl_RX7_391 (by assumption) rfl rfl ?_
      generalize az_up (az_up M3 (m + 19) s.2.1 s.2.2.1) m 34 (s.2.1 + 1) = M4 at hob f4 ⊢
      have en4 : (opb (adv X t)).2.2.1 = s.2.2.1 := en3
      have go : ∀ w : Int, rowP k rr (-1) u w v 0 0 → AW az_P0 (az_Z (qv K (fun M' => PO M M' m X r)) 0 0) (az_rm 4 0 0) yX7_readBlock cX7_readBlock 3 none 0 0 72 [(1, m), (0, tm), (0, v)] [(0, w), (1, m)] K M4 := by
        intro w hrow
        refine aw_iload_n dX7_readBlock_72 rfl rfl ?_
        refine aw_iconst dX7_readBlock_73 rfl ⟨by decide, by decide⟩ ?_
        refine aw_iconst dX7_readBlock_74 rfl ⟨by decide, by decide⟩ ?_
        refine aw_cV4v dX7_readBlock_75 ml_RX7_410 (by assumption) (by decide) rfl rfl ⟨by decide, by decide, by decide, by decide⟩ (Nat.le_of_ble_eq_true rfl) (sp_lay hK0 M4 (opb (adv X t)).2.2.1 hob.2.2.2.2.1 (by omega) (by omega) w v 0 0) (fun M5 hM5 => ?_)
        exact aw_vret dX7_readBlock_78 (by decide) (by decide) ⟨rfl, rfl, PO.r hq.symm (PL.lay hob (by omega) hM5 hrow) (f2.trans (f3.trans (f4.trans (frP.lay hM5))))⟩
      refine aw_aload_n dX7_readBlock_60 rfl rfl ⟨by decide, by decide⟩ ?_
      refine aw_iload_n dX7_readBlock_61 rfl rfl ?_
      refine aw_if_eq (tgt := 70) dX7_readBlock_62 rfl (fun h62 => ?_) (fun h62 => ?_)
      · rcases hk with hk | ⟨-, k6, k7, k8⟩
        · omega
        · refine aw_bipush dX7_readBlock_70 (by decide) ⟨by decide, by decide⟩ ?_
          refine go 8 ?_
          rw [k6, k7, k8]
          simp [rowP, opc]
      · rcases hk with ⟨-, k6, k7, k8⟩ | hk
        · refine aw_bipush dX7_readBlock_65 (by decide) ⟨by decide, by decide⟩ ?_
          refine aw_goto (tgt := 72) dX7_readBlock_67 rfl ?_
          refine go 7 ?_
          rw [k6, k7, k8]
          simp [rowP, opc]
        · omega
  refine aw_aload_n dX7_readBlock_0 rfl rfl ⟨by decide, by decide⟩ ?_
  refine aw_cV0v dX7_readBlock_1 ml_RX7_371 (by assumption) (by decide) rfl rfl ⟨by decide, by decide, by decide, by decide⟩ (Nat.le_of_ble_eq_true rfl) (sp_scanP hK0 M hl) (fun M1 hM1 => ?_)
  have hl1 := hl.adv hM1.1 hM1.2
  have f1 := frP.ofN hM1.2
  refine aw_iload_n dX7_readBlock_4 rfl rfl ?_
  refine aw_if_eq (tgt := 18) dX7_readBlock_5 rfl (fun h5 => ?_) (fun h5 => ?_)
  · rw [if_neg (by omega)] at hr
    unfold pIfs at hr
    refine aw_aload_n dX7_readBlock_18 rfl rfl ⟨by decide, by decide⟩ ?_
    refine aw_cV0i dX7_readBlock_19 ml_RX7_414 (by assumption) (by decide) rfl rfl ⟨by decide, by decide, by decide, by decide⟩ (Nat.le_of_ble_eq_true rfl) (sp_letter hK0 M1 hl1) (fun z2 M2 hz2 => ?_)
    refine aw_istore_n dX7_readBlock_22 rfl (by decide) ?_
    obtain ⟨d2, l2, f2⟩ := hz2
    rcases hq : pRt X (adv X s) with e | a
    · have hd := d2 e hq
      rw [hq] at hr
      refine aw_aload_n dX7_readBlock_23 rfl rfl ⟨by decide, by decide⟩ ?_
      refine aw_bipush dX7_readBlock_24 (by decide) ⟨by decide, by decide⟩ ?_
      refine aw_cV1v dX7_readBlock_26 ml_RX7_407 (by assumption) (by decide) rfl rfl ⟨by decide, by decide, by decide, by decide⟩ (Nat.le_of_ble_eq_true rfl) (sp_needD hK0 M2 hd 123) (fun M3 hM3 => ?_)
      subst hM3
      exact dead M3 z2 e hd (f1.trans f2) hr.symm
    · obtain ⟨e2, l2'⟩ := l2 a hq
      obtain ⟨ea, -⟩ := pRt_r hq
      rw [hq] at hr
      subst ea
      replace e2 : z2 = wd X (adv X s).1 - 1 := e2
      subst e2
      exact tail M2 _ 6 _ 0 (adv X (adv X s)) l2' rfl (f1.trans f2) (Or.inr ⟨by omega, rfl, rfl, rfl⟩) hr
  · rw [if_pos (by omega)] at hr
    unfold pTim at hr
    refine aw_aload_n dX7_readBlock_8 rfl rfl ⟨by decide, by decide⟩ ?_
    refine aw_iconst dX7_readBlock_9 rfl ⟨by decide, by decide⟩ ?_
    refine aw_bipush dX7_readBlock_10 (by decide) ⟨by decide, by decide⟩ ?_
    refine aw_cV2i dX7_readBlock_12 ml_RX7_404 (by assumption) (by decide) rfl rfl ⟨by decide, by decide, by decide, by decide⟩ (Nat.le_of_ble_eq_true rfl) (sp_numeral hK0 M1 hl1 2 9) (fun z2 M2 hz2 => ?_)
    refine aw_goto (tgt := 22) dX7_readBlock_15 rfl ?_
    obtain ⟨d2, l2, f2⟩ := hz2
    refine aw_istore_n dX7_readBlock_22 rfl (by decide) ?_
    rcases hq : pNm X 2 9 (adv X s) with e | a
    · have hd := d2 e hq
      rw [hq] at hr
      refine aw_aload_n dX7_readBlock_23 rfl rfl ⟨by decide, by decide⟩ ?_
      refine aw_bipush dX7_readBlock_24 (by decide) ⟨by decide, by decide⟩ ?_
      refine aw_cV1v dX7_readBlock_26 ml_RX7_407 (by assumption) (by decide) rfl rfl ⟨by decide, by decide, by decide, by decide⟩ (Nat.le_of_ble_eq_true rfl) (sp_needD hK0 M2 hd 123) (fun M3 hM3 => ?_)
      subst hM3
      exact dead M3 z2 e hd (f1.trans f2) hr.symm
    · obtain ⟨e2, l2'⟩ := l2 a hq
      obtain ⟨ea, -⟩ := pNm_r hq
      rw [hq] at hr
      subst ea
      replace e2 : z2 = nm X (adv X s).1 := e2
      subst e2
      exact tail M2 _ 5 (-1) _ (adv X (adv X s)) l2' rfl (f1.trans f2) (Or.inl ⟨by omega, rfl, rfl, rfl⟩) hr
set_option maxHeartbeats 1000000 in
theorem sp_readStore (hK : MdK K m) (M : az_M) (hl : PL M m X s) (hn : s.2.2.1 ≤ 39) (rt : Int) : AM yX7_readStore cX7_readStore 3 none 4 0 0 [(1, m), (0, rt)] K M (qv K (fun M' => PO M M' m X (pSto X rt s))) := by
  have hK0 := hK
  obtain ⟨hKo, k3, k4, k5, k6, k7, k8, k9, k10, k11, k12, k13, k14, k15, k16, k17, k18, k19, k20, k21, k22, k23, k24, k25, y3, y4, y5, y6, y7, y8, y9, y10, y11, y12, y13, y14, y15, y16, y17, y18, y19, y20, y21, y22, y23, y24, y25⟩ := hK
  have hKo0 := hKo
  obtain ⟨hKa, k2, y2⟩ := hKo
  have hKa0 := hKa
  obtain ⟨km, k1, y1⟩ := hKa
  refine am_of (by decide) (Nat.le_of_ble_eq_true rfl) (L := [(1, m), (0, rt), (9, 0)]) rfl ?_
  generalize hr : pSto X rt s = r
  unfold pSto at hr
  have n0 := hl.2.2.2.2.2.2.2.2.1
  have dead : ∀ (M2 : az_M) (v : Int) (e : pE), PD M2 m X e s.2.2.1 → frP M M2 m → r = .inl e → AW az_P0 (az_Z (qv K (fun M' => PO M M' m X r)) 0 0) (az_rm 4 0 0) yX7_readStore cX7_readStore 3 none 0 0 14 [(1, m), (0, rt), (0, v)] [] K M2 := by
    intro M2 v e hd f2 hq
    refine aw_aload_n dX7_readStore_14 rfl rfl ⟨by decide, by decide⟩ ?_
    refine aw_ldcw dX7_readStore_15 kc_RX7_423 ⟨by decide, by decide⟩ ?_
    refine aw_cV1p dX7_readStore_18 ml_RX7_384 (by assumption) (by decide) rfl rfl ⟨by decide, by decide, by decide, by decide⟩ (Nat.le_of_ble_eq_true rfl) (sp_isWordD hK0 M2 hd 474565) ?_
    refine aw_if_eq (tgt := 39) dX7_readStore_21 rfl (fun h21 => ?_) (fun h21 => absurd h21 (by omega))
    refine aw_aload_n dX7_readStore_39 rfl rfl ⟨by decide, by decide⟩ ?_
    refine aw_iconst dX7_readStore_40 rfl ⟨by decide, by decide⟩ ?_
    refine aw_iload_n dX7_readStore_41 rfl rfl ?_
    refine aw_iload_n dX7_readStore_42 rfl rfl ?_
    refine aw_aload_n dX7_readStore_43 rfl rfl ⟨by decide, by decide⟩ ?_
    refine aw_cV0i dX7_readStore_44 ml_RX7_414 (by assumption) (by decide) rfl rfl ⟨by decide, by decide, by decide, by decide⟩ (Nat.le_of_ble_eq_true rfl) (sp_letterD hK0 M2 hd) (fun z3 M3 hM3 => ?_)
    subst hM3
    refine aw_cV4v dX7_readStore_47 ml_RX7_410 (by assumption) (by decide) rfl rfl ⟨by decide, by decide, by decide, by decide⟩ (Nat.le_of_ble_eq_true rfl) (sp_lay hK0 M3 _ hd.nn.1 n0 (by omega) 4 rt v z3) (fun M4 hM4 => ?_)
    exact aw_vret dX7_readStore_50 (by decide) (by decide) ⟨rfl, rfl, PO.l hq (by show s.2.2.1 + 1 ≤ 40; omega) (hd.lay hM4) (f2.trans (frP.lay hM4))⟩
  refine aw_aload_n dX7_readStore_0 rfl rfl ⟨by decide, by decide⟩ ?_
  refine aw_iconst dX7_readStore_1 rfl ⟨by decide, by decide⟩ ?_
  refine aw_bipush dX7_readStore_2 (by decide) ⟨by decide, by decide⟩ ?_
  refine aw_cV2i dX7_readStore_4 ml_RX7_404 (by assumption) (by decide) rfl rfl ⟨by decide, by decide, by decide, by decide⟩ (Nat.le_of_ble_eq_true rfl) (sp_numeral hK0 M hl 0 6) (fun z2 M2 hz2 => ?_)
  refine aw_istore_n dX7_readStore_7 rfl (by decide) ?_
  obtain ⟨d2, l2, f2⟩ := hz2
  rcases hq : pNm X 0 6 s with e | a
  · have hd := d2 e hq
    rw [hq] at hr
    refine aw_aload_n dX7_readStore_8 rfl rfl ⟨by decide, by decide⟩ ?_
    refine aw_bipush dX7_readStore_9 (by decide) ⟨by decide, by decide⟩ ?_
    refine aw_cV1v dX7_readStore_11 ml_RX7_407 (by assumption) (by decide) rfl rfl ⟨by decide, by decide, by decide, by decide⟩ (Nat.le_of_ble_eq_true rfl) (sp_needD hK0 M2 hd 61) (fun M3 hM3 => ?_)
    subst hM3
    exact dead M3 z2 e hd f2 hr.symm
  · obtain ⟨e2, l2'⟩ := l2 a hq
    obtain ⟨ea, -⟩ := pNm_r hq
    rw [hq] at hr
    subst ea
    replace l2' : PL M2 m X (adv X s) := l2'
    replace e2 : z2 = nm X s.1 := e2
    subst e2
    replace hr : bd (pSg X 61 (adv X s)) (fun t => bd (pRn X t) fun b => .inr (addI b.2 3 rt b.1 (nm X s.1))) = r := hr
    refine aw_aload_n dX7_readStore_8 rfl rfl ⟨by decide, by decide⟩ ?_
    refine aw_bipush dX7_readStore_9 (by decide) ⟨by decide, by decide⟩ ?_
    refine aw_cV1v dX7_readStore_11 ml_RX7_407 (by assumption) (by decide) rfl rfl ⟨by decide, by decide, by decide, by decide⟩ (Nat.le_of_ble_eq_true rfl) (sp_need hK0 M2 l2' 61 (by decide)) (fun M3 hM3 => ?_)
    obtain ⟨d3, l3, f3⟩ := hM3
    rcases hs : pSg X 61 (adv X s) with e | t
    · have hd := d3 e hs
      rw [hs] at hr
      exact dead M3 _ e hd (f2.trans f3) hr.symm
    · have hl3 := l3 t hs
      obtain ⟨et, -⟩ := pSg_r hs
      rw [hs] at hr
      subst et
      replace hr : bd (pRn X (adv X (adv X s))) (fun b => .inr (addI b.2 3 rt b.1 (nm X s.1))) = r := hr
      unfold pRn at hr
      refine aw_aload_n dX7_readStore_14 rfl rfl ⟨by decide, by decide⟩ ?_
      refine aw_ldcw dX7_readStore_15 kc_RX7_423 ⟨by decide, by decide⟩ ?_
      refine aw_cV1p dX7_readStore_18 ml_RX7_384 (by assumption) (by decide) rfl rfl ⟨by decide, by decide, by decide, by decide⟩ (Nat.le_of_ble_eq_true rfl) (sp_isWord hK0 M3 hl3 474565) ?_
      refine aw_if_eq (tgt := 39) dX7_readStore_21 rfl (fun h21 => ?_) (fun h21 => ?_)
      · have hnw := if0 h21
        rw [if_neg hnw] at hr
        refine aw_aload_n dX7_readStore_39 rfl rfl ⟨by decide, by decide⟩ ?_
        refine aw_iconst dX7_readStore_40 rfl ⟨by decide, by decide⟩ ?_
        refine aw_iload_n dX7_readStore_41 rfl rfl ?_
        refine aw_iload_n dX7_readStore_42 rfl rfl ?_
        refine aw_aload_n dX7_readStore_43 rfl rfl ⟨by decide, by decide⟩ ?_
        refine aw_cV0i dX7_readStore_44 ml_RX7_414 (by assumption) (by decide) rfl rfl ⟨by decide, by decide, by decide, by decide⟩ (Nat.le_of_ble_eq_true rfl) (sp_letter hK0 M3 hl3) (fun z4 M4 hz4 => ?_)
        obtain ⟨d4, l4, f4⟩ := hz4
        by_cases q : isR X (adv X (adv X s))
        · rw [if_pos q] at hr
          have hp : pRt X (adv X (adv X s)) = .inr (wd X (adv X (adv X s)).1 - 1, adv X (adv X (adv X s))) := by unfold pRt; rw [if_pos q]
          obtain ⟨e4, l4'⟩ := l4 _ hp
          replace l4' : PL M4 m X (adv X (adv X (adv X s))) := l4'
          replace e4 : z4 = wd X (adv X (adv X s)).1 - 1 := e4
          subst e4
          replace hr : Sum.inr (addI (adv X (adv X (adv X s))) 3 rt (wd X (adv X (adv X s)).1 - 1) (nm X s.1)) = r := hr
          have q2 := q.2
          refine aw_cV4v dX7_readStore_47 ml_RX7_410 (by assumption) (by decide) rfl rfl ⟨by decide, by decide, by decide, by decide⟩ (Nat.le_of_ble_eq_true rfl) (sp_lay hK0 M4 s.2.2.1 l4'.2.2.2.2.1 n0 (by omega) 4 rt (nm X s.1) (wd X (adv X (adv X s)).1 - 1)) (fun M5 hM5 => ?_)
          refine aw_vret dX7_readStore_50 (by decide) (by decide) ⟨rfl, rfl, PO.r hr.symm (PL.lay l4' hn hM5 ?_) (f2.trans (f3.trans (f4.trans (frP.lay hM5))))⟩
          have hne : ¬ wd X (adv X (adv X s)).1 - 1 = -1 := by omega
          simp [rowP, opc, hne]
        · rw [if_neg q] at hr
          have hp : pRt X (adv X (adv X s)) = .inl (1, (adv X (adv X s)).1) := by unfold pRt; rw [if_neg q]
          have hd := d4 _ hp
          refine aw_cV4v dX7_readStore_47 ml_RX7_410 (by assumption) (by decide) rfl rfl ⟨by decide, by decide, by decide, by decide⟩ (Nat.le_of_ble_eq_true rfl) (sp_lay hK0 M4 _ hd.nn.1 n0 (by show s.2.2.1 ≤ 40; omega) 4 rt (nm X s.1) z4) (fun M5 hM5 => ?_)
          exact aw_vret dX7_readStore_50 (by decide) (by decide) ⟨rfl, rfl, PO.l hr.symm (by show s.2.2.1 + 1 ≤ 40; omega) (hd.lay hM5) (f2.trans (f3.trans (f4.trans (frP.lay hM5))))⟩
      · have hww := if1 h21
        rw [if_pos hww] at hr
        replace hr : Sum.inr (addI (adv X (adv X (adv X s))) 3 rt (-1) (nm X s.1)) = r := hr
        refine aw_aload_n dX7_readStore_24 rfl rfl ⟨by decide, by decide⟩ ?_
        refine aw_cV0v dX7_readStore_25 ml_RX7_371 (by assumption) (by decide) rfl rfl ⟨by decide, by decide, by decide, by decide⟩ (Nat.le_of_ble_eq_true rfl) (sp_scanP hK0 M3 hl3) (fun M4 hM4 => ?_)
        have hl4 := hl3.adv hM4.1 hM4.2
        refine aw_aload_n dX7_readStore_28 rfl rfl ⟨by decide, by decide⟩ ?_
        refine aw_iconst dX7_readStore_29 rfl ⟨by decide, by decide⟩ ?_
        refine aw_iload_n dX7_readStore_30 rfl rfl ?_
        refine aw_iload_n dX7_readStore_31 rfl rfl ?_
        refine aw_iconst dX7_readStore_32 rfl ⟨by decide, by decide⟩ ?_
        refine aw_cV4v dX7_readStore_33 ml_RX7_410 (by assumption) (by decide) rfl rfl ⟨by decide, by decide, by decide, by decide⟩ (Nat.le_of_ble_eq_true rfl) (sp_lay hK0 M4 s.2.2.1 hl4.2.2.2.2.1 n0 (by omega) 5 rt (nm X s.1) 0) (fun M5 hM5 => ?_)
        refine aw_goto (tgt := 50) dX7_readStore_36 rfl ?_
        exact aw_vret dX7_readStore_50 (by decide) (by decide) ⟨rfl, rfl, PO.r hr.symm (PL.lay hl4 hn hM5 (by simp [rowP, opc])) (f2.trans (f3.trans ((frP.ofN hM4.2).trans (frP.lay hM5))))⟩
theorem sp_readNamingD (hK : MdK K m) (M : az_M) (hd : PD M m X e n) (hn : n ≤ 39) (rt : Int) : AM yX7_readNaming cX7_readNaming 3 none 4 0 0 [(1, m), (0, rt)] K M (qv K (fun M' => PD M' m X e (n + 1) ∧ frP M M' m)) := by
  have hK0 := hK
  obtain ⟨hKo, k3, k4, k5, k6, k7, k8, k9, k10, k11, k12, k13, k14, k15, k16, k17, k18, k19, k20, k21, k22, k23, k24, k25, y3, y4, y5, y6, y7, y8, y9, y10, y11, y12, y13, y14, y15, y16, y17, y18, y19, y20, y21, y22, y23, y24, y25⟩ := hK
  have hKo0 := hKo
  obtain ⟨hKa, k2, y2⟩ := hKo
  have hKa0 := hKa
  obtain ⟨km, k1, y1⟩ := hKa
  refine am_of (by decide) (Nat.le_of_ble_eq_true rfl) (L := [(1, m), (0, rt), (9, 0)]) rfl ?_
  have hnn := hd.nn
  refine aw_aload_n dX7_readNaming_0 rfl rfl ⟨by decide, by decide⟩ ?_
  refine aw_sipush dX7_readNaming_1 (by decide) ⟨by decide, by decide⟩ ?_
  refine aw_cV1p dX7_readNaming_4 ml_RX7_384 (by assumption) (by decide) rfl rfl ⟨by decide, by decide, by decide, by decide⟩ (Nat.le_of_ble_eq_true rfl) (sp_isWordD hK0 M hd 14519) ?_
  refine aw_if_eq (tgt := 31) dX7_readNaming_7 rfl (fun h7 => ?_) (fun h7 => absurd h7 (by omega))
  refine aw_aload_n dX7_readNaming_31 rfl rfl ⟨by decide, by decide⟩ ?_
  refine aw_ldcw dX7_readNaming_32 kc_RX7_423 ⟨by decide, by decide⟩ ?_
  refine aw_cV1p dX7_readNaming_35 ml_RX7_384 (by assumption) (by decide) rfl rfl ⟨by decide, by decide, by decide, by decide⟩ (Nat.le_of_ble_eq_true rfl) (sp_isWordD hK0 M hd 474565) ?_
  refine aw_if_eq (tgt := 56) dX7_readNaming_38 rfl (fun h38 => ?_) (fun h38 => absurd h38 (by omega))
  refine aw_aload_n dX7_readNaming_56 rfl rfl ⟨by decide, by decide⟩ ?_
  refine aw_cV0i dX7_readNaming_57 ml_RX7_414 (by assumption) (by decide) rfl rfl ⟨by decide, by decide, by decide, by decide⟩ (Nat.le_of_ble_eq_true rfl) (sp_letterD hK0 M hd) (fun z3 M3 hM3 => ?_)
  refine aw_istore_n dX7_readNaming_60 rfl (by decide) ?_
  subst hM3
  refine aw_aload_n dX7_readNaming_61 rfl rfl ⟨by decide, by decide⟩ ?_
  refine aw_bipush dX7_readNaming_62 (by decide) ⟨by decide, by decide⟩ ?_
  refine aw_cV1p dX7_readNaming_64 ml_RX7_368 (by assumption) (by decide) rfl rfl ⟨by decide, by decide, by decide, by decide⟩ (Nat.le_of_ble_eq_true rfl) (sp_isAtD hK0 M3 hd 46) ?_
  refine aw_if_eq (tgt := 91) dX7_readNaming_67 rfl (fun h67 => ?_) (fun h67 => absurd h67 (by omega))
  refine aw_aload_n dX7_readNaming_91 rfl rfl ⟨by decide, by decide⟩ ?_
  refine aw_iconst dX7_readNaming_92 rfl ⟨by decide, by decide⟩ ?_
  refine aw_iload_n dX7_readNaming_93 rfl rfl ?_
  refine aw_iload_n dX7_readNaming_94 rfl rfl ?_
  refine aw_iconst dX7_readNaming_95 rfl ⟨by decide, by decide⟩ ?_
  refine aw_cV4v dX7_readNaming_96 ml_RX7_410 (by assumption) (by decide) rfl rfl ⟨by decide, by decide, by decide, by decide⟩ (Nat.le_of_ble_eq_true rfl) (sp_lay hK0 M3 n hnn.1 hnn.2 (by omega) 2 rt z3 0) (fun M4 hM4 => ?_)
  exact aw_vret dX7_readNaming_99 (by decide) (by decide) ⟨rfl, rfl, hd.lay hM4, frP.lay hM4⟩
set_option maxHeartbeats 1000000 in
theorem sp_readNaming (hK : MdK K m) (M : az_M) (hl : PL M m X s) (hn : s.2.2.1 ≤ 39) (rt : Int) : AM yX7_readNaming cX7_readNaming 3 none 4 0 0 [(1, m), (0, rt)] K M (qv K (fun M' => PO M M' m X (pNmg X rt s))) := by
  have hK0 := hK
  obtain ⟨hKo, k3, k4, k5, k6, k7, k8, k9, k10, k11, k12, k13, k14, k15, k16, k17, k18, k19, k20, k21, k22, k23, k24, k25, y3, y4, y5, y6, y7, y8, y9, y10, y11, y12, y13, y14, y15, y16, y17, y18, y19, y20, y21, y22, y23, y24, y25⟩ := hK
  have hKo0 := hKo
  obtain ⟨hKa, k2, y2⟩ := hKo
  have hKa0 := hKa
  obtain ⟨km, k1, y1⟩ := hKa
  refine am_of (by decide) (Nat.le_of_ble_eq_true rfl) (L := [(1, m), (0, rt), (9, 0)]) rfl ?_
  generalize hr : pNmg X rt s = r
  unfold pNmg at hr
  have n0 := hl.2.2.2.2.2.2.2.2.1
  refine aw_aload_n dX7_readNaming_0 rfl rfl ⟨by decide, by decide⟩ ?_
  refine aw_sipush dX7_readNaming_1 (by decide) ⟨by decide, by decide⟩ ?_
  refine aw_cV1p dX7_readNaming_4 ml_RX7_384 (by assumption) (by decide) rfl rfl ⟨by decide, by decide, by decide, by decide⟩ (Nat.le_of_ble_eq_true rfl) (sp_isWord hK0 M hl 14519) ?_
  refine aw_if_eq (tgt := 31) dX7_readNaming_7 rfl (fun h7 => ?_) (fun h7 => ?_)
  · rw [if_neg (if0 h7)] at hr
    unfold pRn at hr
    refine aw_aload_n dX7_readNaming_31 rfl rfl ⟨by decide, by decide⟩ ?_
    refine aw_ldcw dX7_readNaming_32 kc_RX7_423 ⟨by decide, by decide⟩ ?_
    refine aw_cV1p dX7_readNaming_35 ml_RX7_384 (by assumption) (by decide) rfl rfl ⟨by decide, by decide, by decide, by decide⟩ (Nat.le_of_ble_eq_true rfl) (sp_isWord hK0 M hl 474565) ?_
    refine aw_if_eq (tgt := 56) dX7_readNaming_38 rfl (fun h38 => ?_) (fun h38 => ?_)
    · rw [if_neg (if0 h38)] at hr
      refine aw_aload_n dX7_readNaming_56 rfl rfl ⟨by decide, by decide⟩ ?_
      refine aw_cV0i dX7_readNaming_57 ml_RX7_414 (by assumption) (by decide) rfl rfl ⟨by decide, by decide, by decide, by decide⟩ (Nat.le_of_ble_eq_true rfl) (sp_letter hK0 M hl) (fun z2 M2 hz2 => ?_)
      refine aw_istore_n dX7_readNaming_60 rfl (by decide) ?_
      obtain ⟨d2, l2, f2⟩ := hz2
      by_cases q : isR X s
      · rw [if_pos q] at hr
        have hp : pRt X s = .inr (wd X s.1 - 1, adv X s) := by unfold pRt; rw [if_pos q]
        obtain ⟨e2, l2'⟩ := l2 _ hp
        replace l2' : PL M2 m X (adv X s) := l2'
        replace e2 : z2 = wd X s.1 - 1 := e2
        subst e2
        have q2 := q.2
        have hne : ¬ wd X s.1 - 1 = -1 := by omega
        replace hr : (if wd X s.1 - 1 ≠ -1 ∧ isS X 46 (adv X s) then bd (pNm X 0 6 (adv X (adv X s))) (fun a => .inr (addI a.2 2 rt (wd X s.1 - 1) a.1)) else .inr (addI (adv X s) 1 rt (wd X s.1 - 1) 0)) = r := hr
        refine aw_aload_n dX7_readNaming_61 rfl rfl ⟨by decide, by decide⟩ ?_
        refine aw_bipush dX7_readNaming_62 (by decide) ⟨by decide, by decide⟩ ?_
        refine aw_cV1p dX7_readNaming_64 ml_RX7_368 (by assumption) (by decide) rfl rfl ⟨by decide, by decide, by decide, by decide⟩ (Nat.le_of_ble_eq_true rfl) (sp_isAt hK0 M2 l2' 46 (by decide)) ?_
        refine aw_if_eq (tgt := 91) dX7_readNaming_67 rfl (fun h67 => ?_) (fun h67 => ?_)
        · rw [if_neg (fun w => if0 h67 w.2)] at hr
          refine aw_aload_n dX7_readNaming_91 rfl rfl ⟨by decide, by decide⟩ ?_
          refine aw_iconst dX7_readNaming_92 rfl ⟨by decide, by decide⟩ ?_
          refine aw_iload_n dX7_readNaming_93 rfl rfl ?_
          refine aw_iload_n dX7_readNaming_94 rfl rfl ?_
          refine aw_iconst dX7_readNaming_95 rfl ⟨by decide, by decide⟩ ?_
          refine aw_cV4v dX7_readNaming_96 ml_RX7_410 (by assumption) (by decide) rfl rfl ⟨by decide, by decide, by decide, by decide⟩ (Nat.le_of_ble_eq_true rfl) (sp_lay hK0 M2 s.2.2.1 l2'.2.2.2.2.1 n0 (by omega) 2 rt (wd X s.1 - 1) 0) (fun M3 hM3 => ?_)
          exact aw_vret dX7_readNaming_99 (by decide) (by decide) ⟨rfl, rfl, PO.r hr.symm (PL.lay l2' hn hM3 (by simp [rowP, opc, hne])) (f2.trans (frP.lay hM3))⟩
        · rw [if_pos ⟨hne, if1 h67⟩] at hr
          refine aw_aload_n dX7_readNaming_70 rfl rfl ⟨by decide, by decide⟩ ?_
          refine aw_cV0v dX7_readNaming_71 ml_RX7_371 (by assumption) (by decide) rfl rfl ⟨by decide, by decide, by decide, by decide⟩ (Nat.le_of_ble_eq_true rfl) (sp_scanP hK0 M2 l2') (fun M3 hM3 => ?_)
          have hl3 := l2'.adv hM3.1 hM3.2
          refine aw_aload_n dX7_readNaming_74 rfl rfl ⟨by decide, by decide⟩ ?_
          refine aw_iconst dX7_readNaming_75 rfl ⟨by decide, by decide⟩ ?_
          refine aw_iload_n dX7_readNaming_76 rfl rfl ?_
          refine aw_iload_n dX7_readNaming_77 rfl rfl ?_
          refine aw_aload_n dX7_readNaming_78 rfl rfl ⟨by decide, by decide⟩ ?_
          refine aw_iconst dX7_readNaming_79 rfl ⟨by decide, by decide⟩ ?_
          refine aw_bipush dX7_readNaming_80 (by decide) ⟨by decide, by decide⟩ ?_
          refine aw_cV2i dX7_readNaming_82 ml_RX7_404 (by assumption) (by decide) rfl rfl ⟨by decide, by decide, by decide, by decide⟩ (Nat.le_of_ble_eq_true rfl) (sp_numeral hK0 M3 hl3 0 6) (fun z4 M4 hz4 => ?_)
          obtain ⟨d4, l4, f4⟩ := hz4
          have f24 := f2.trans ((frP.ofN hM3.2).trans f4)
          rcases hq : pNm X 0 6 (adv X (adv X s)) with e | a
          · have hd := d4 e hq
            rw [hq] at hr
            refine aw_cV4v dX7_readNaming_85 ml_RX7_410 (by assumption) (by decide) rfl rfl ⟨by decide, by decide, by decide, by decide⟩ (Nat.le_of_ble_eq_true rfl) (sp_lay hK0 M4 _ hd.nn.1 n0 (by show s.2.2.1 ≤ 40; omega) 3 rt (wd X s.1 - 1) z4) (fun M5 hM5 => ?_)
            refine aw_goto (tgt := 99) dX7_readNaming_88 rfl ?_
            exact aw_vret dX7_readNaming_99 (by decide) (by decide) ⟨rfl, rfl, PO.l hr.symm (by show s.2.2.1 + 1 ≤ 40; omega) (hd.lay hM5) (f24.trans (frP.lay hM5))⟩
          · obtain ⟨e4, l4'⟩ := l4 a hq
            obtain ⟨ea, -⟩ := pNm_r hq
            rw [hq] at hr
            subst ea
            replace l4' : PL M4 m X (adv X (adv X (adv X s))) := l4'
            replace e4 : z4 = nm X (adv X (adv X s)).1 := e4
            subst e4
            refine aw_cV4v dX7_readNaming_85 ml_RX7_410 (by assumption) (by decide) rfl rfl ⟨by decide, by decide, by decide, by decide⟩ (Nat.le_of_ble_eq_true rfl) (sp_lay hK0 M4 s.2.2.1 l4'.2.2.2.2.1 n0 (by omega) 3 rt (wd X s.1 - 1) (nm X (adv X (adv X s)).1)) (fun M5 hM5 => ?_)
            refine aw_goto (tgt := 99) dX7_readNaming_88 rfl ?_
            exact aw_vret dX7_readNaming_99 (by decide) (by decide) ⟨rfl, rfl, PO.r hr.symm (PL.lay l4' hn hM5 (by simp [rowP, opc])) (f24.trans (frP.lay hM5))⟩
      · rw [if_neg q] at hr
        have hp : pRt X s = .inl (1, s.1) := by unfold pRt; rw [if_neg q]
        have hd := d2 _ hp
        refine aw_aload_n dX7_readNaming_61 rfl rfl ⟨by decide, by decide⟩ ?_
        refine aw_bipush dX7_readNaming_62 (by decide) ⟨by decide, by decide⟩ ?_
        refine aw_cV1p dX7_readNaming_64 ml_RX7_368 (by assumption) (by decide) rfl rfl ⟨by decide, by decide, by decide, by decide⟩ (Nat.le_of_ble_eq_true rfl) (sp_isAtD hK0 M2 hd 46) ?_
        refine aw_if_eq (tgt := 91) dX7_readNaming_67 rfl (fun h67 => ?_) (fun h67 => absurd h67 (by omega))
        refine aw_aload_n dX7_readNaming_91 rfl rfl ⟨by decide, by decide⟩ ?_
        refine aw_iconst dX7_readNaming_92 rfl ⟨by decide, by decide⟩ ?_
        refine aw_iload_n dX7_readNaming_93 rfl rfl ?_
        refine aw_iload_n dX7_readNaming_94 rfl rfl ?_
        refine aw_iconst dX7_readNaming_95 rfl ⟨by decide, by decide⟩ ?_
        refine aw_cV4v dX7_readNaming_96 ml_RX7_410 (by assumption) (by decide) rfl rfl ⟨by decide, by decide, by decide, by decide⟩ (Nat.le_of_ble_eq_true rfl) (sp_lay hK0 M2 _ hd.nn.1 n0 (by omega) 2 rt z2 0) (fun M3 hM3 => ?_)
        exact aw_vret dX7_readNaming_99 (by decide) (by decide) ⟨rfl, rfl, PO.l hr.symm (by show s.2.2.1 + 1 ≤ 40; omega) (hd.lay hM3) (f2.trans (frP.lay hM3))⟩
    · rw [if_pos (if1 h38)] at hr
      replace hr : (if (-1 : Int) ≠ -1 ∧ isS X 46 (adv X s) then bd (pNm X 0 6 (adv X (adv X s))) (fun a => .inr (addI a.2 2 rt (-1) a.1)) else .inr (addI (adv X s) 1 rt (-1) 0)) = r := hr
      rw [if_neg (fun w => w.1 rfl)] at hr
      refine aw_aload_n dX7_readNaming_41 rfl rfl ⟨by decide, by decide⟩ ?_
      refine aw_cV0v dX7_readNaming_42 ml_RX7_371 (by assumption) (by decide) rfl rfl ⟨by decide, by decide, by decide, by decide⟩ (Nat.le_of_ble_eq_true rfl) (sp_scanP hK0 M hl) (fun M1 hM1 => ?_)
      have hl1 := hl.adv hM1.1 hM1.2
      refine aw_aload_n dX7_readNaming_45 rfl rfl ⟨by decide, by decide⟩ ?_
      refine aw_iconst dX7_readNaming_46 rfl ⟨by decide, by decide⟩ ?_
      refine aw_iload_n dX7_readNaming_47 rfl rfl ?_
      refine aw_iconst dX7_readNaming_48 rfl ⟨by decide, by decide⟩ ?_
      refine aw_iconst dX7_readNaming_49 rfl ⟨by decide, by decide⟩ ?_
      refine aw_cV4v dX7_readNaming_50 ml_RX7_410 (by assumption) (by decide) rfl rfl ⟨by decide, by decide, by decide, by decide⟩ (Nat.le_of_ble_eq_true rfl) (sp_lay hK0 M1 s.2.2.1 hl1.2.2.2.2.1 n0 (by omega) 1 rt 0 0) (fun M3 hM3 => ?_)
      refine aw_goto (tgt := 99) dX7_readNaming_53 rfl ?_
      exact aw_vret dX7_readNaming_99 (by decide) (by decide) ⟨rfl, rfl, PO.r hr.symm (PL.lay hl1 hn hM3 (by simp [rowP, opc])) ((frP.ofN hM1.2).trans (frP.lay hM3))⟩
  · rw [if_pos (if1 h7)] at hr
    refine aw_aload_n dX7_readNaming_10 rfl rfl ⟨by decide, by decide⟩ ?_
    refine aw_cV0v dX7_readNaming_11 ml_RX7_371 (by assumption) (by decide) rfl rfl ⟨by decide, by decide, by decide, by decide⟩ (Nat.le_of_ble_eq_true rfl) (sp_scanP hK0 M hl) (fun M1 hM1 => ?_)
    have hl1 := hl.adv hM1.1 hM1.2
    refine aw_aload_n dX7_readNaming_14 rfl rfl ⟨by decide, by decide⟩ ?_
    refine aw_iconst dX7_readNaming_15 rfl ⟨by decide, by decide⟩ ?_
    refine aw_iload_n dX7_readNaming_16 rfl rfl ?_
    refine aw_aload_n dX7_readNaming_17 rfl rfl ⟨by decide, by decide⟩ ?_
    refine aw_iconst dX7_readNaming_18 rfl ⟨by decide, by decide⟩ ?_
    refine aw_bipush dX7_readNaming_19 (by decide) ⟨by decide, by decide⟩ ?_
    refine aw_cV2i dX7_readNaming_21 ml_RX7_404 (by assumption) (by decide) rfl rfl ⟨by decide, by decide, by decide, by decide⟩ (Nat.le_of_ble_eq_true rfl) (sp_numeral hK0 M1 hl1 0 7) (fun z4 M4 hz4 => ?_)
    obtain ⟨d4, l4, f4⟩ := hz4
    have f24 := (frP.ofN hM1.2).trans f4
    rcases hq : pNm X 0 7 (adv X s) with e | a
    · have hd := d4 e hq
      rw [hq] at hr
      refine aw_iconst dX7_readNaming_24 rfl ⟨by decide, by decide⟩ ?_
      refine aw_cV4v dX7_readNaming_25 ml_RX7_410 (by assumption) (by decide) rfl rfl ⟨by decide, by decide, by decide, by decide⟩ (Nat.le_of_ble_eq_true rfl) (sp_lay hK0 M4 _ hd.nn.1 n0 (by show s.2.2.1 ≤ 40; omega) 0 rt z4 0) (fun M5 hM5 => ?_)
      refine aw_goto (tgt := 99) dX7_readNaming_28 rfl ?_
      exact aw_vret dX7_readNaming_99 (by decide) (by decide) ⟨rfl, rfl, PO.l hr.symm (by show s.2.2.1 + 1 ≤ 40; omega) (hd.lay hM5) (f24.trans (frP.lay hM5))⟩
    · obtain ⟨e4, l4'⟩ := l4 a hq
      obtain ⟨ea, -⟩ := pNm_r hq
      rw [hq] at hr
      subst ea
      replace l4' : PL M4 m X (adv X (adv X s)) := l4'
      replace e4 : z4 = nm X (adv X s).1 := e4
      subst e4
      refine aw_iconst dX7_readNaming_24 rfl ⟨by decide, by decide⟩ ?_
      refine aw_cV4v dX7_readNaming_25 ml_RX7_410 (by assumption) (by decide) rfl rfl ⟨by decide, by decide, by decide, by decide⟩ (Nat.le_of_ble_eq_true rfl) (sp_lay hK0 M4 s.2.2.1 l4'.2.2.2.2.1 n0 (by omega) 0 rt (nm X (adv X s).1) 0) (fun M5 hM5 => ?_)
      refine aw_goto (tgt := 99) dX7_readNaming_28 rfl ?_
      exact aw_vret dX7_readNaming_99 (by decide) (by decide) ⟨rfl, rfl, PO.r hr.symm (PL.lay l4' hn hM5 (by simp [rowP, opc])) (f24.trans (frP.lay hM5))⟩
end MR2
