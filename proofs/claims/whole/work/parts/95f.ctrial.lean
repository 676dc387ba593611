/-! TreadRing: what is tried -/
set_option maxRecDepth 20000
/-- the heap that things are tried on, and the counts from when they count -/
def TS (M : az_M) (x : Int) (b : Int → Int) (T : hSt) : Prop := HS M (x + 4) T ∧ ∀ i, 0 ≤ i → i < 6 → M (x + 19) i = b (729 + i)
section TX2
variable {K : az_K} {x : Int} {ch : hCh} {a u : Int} {bx : hCh} {bz : Int → Int} {B cu : Int} {b : Int → Int} {T : hSt}
theorem frY.ofH {M M' : az_M} (f : frH M M' (x + 4)) : frY M M' x := fun c h1 h2 => f c (by omega)
theorem TS.ofH {M M' : az_M} {T' : hSt} (h : TS M x b T) (hT : HS M' (x + 4) T') (f : frH M M' (x + 4)) : TS M' x b T' := ⟨hT, fun i i0 i1 => by rw [f _ (by omega)]; exact h.2 i i0 i1⟩
theorem sp_noteTrial (hK : TrK K x) (M : az_M) (hc : HS M (x + 4) T) : AM yX6_noteTrial cX6_noteTrial 1 none 1 0 0 [(1, x)] K M (qv K (fun M' => TS M' x T.1 T ∧ ∀ c, c ≠ x + 19 → M' c = M c)) := by
  have hK0 := hK
  obtain ⟨kx, k1, k2, k3, hT4, k19, hRe, k23, hRt, hS1, hS2, k45, hKp, hBx, y0, y4, y5, y6, y7, y8, y9, y11, y14, n12, n13, r0, r4, q0, q1, xin⟩ := hK
  obtain ⟨hRg, kh, k6, k7, k8, k9, k10, k11, k12, k13, k14, z0, z1, z2, z3, z4, z5, z6, z7, z8, z9⟩ := hT4
  refine am_of (by decide) (Nat.le_of_ble_eq_true rfl) (L := [(1, x)]) rfl ?_
  refine aw_aload_n dX6_noteTrial_0 rfl rfl ⟨by decide, by decide⟩ ?_
  refine aw_gzF 6 dX6_noteTrial_1 fl_RX6_33 (by assumption) rfl rfl (by assumption) ?_
  refine aw_gzF 8 dX6_noteTrial_4 fl_RX6_289 (by assumption) rfl rfl (by assumption) ?_
  refine aw_iconst dX6_noteTrial_7 rfl ⟨by decide, by decide⟩ ?_
  refine aw_aload_n dX6_noteTrial_8 rfl rfl ⟨by decide, by decide⟩ ?_
  refine aw_gzF 7 dX6_noteTrial_9 fl_RX6_37 (by assumption) rfl rfl (by assumption) ?_
  refine aw_iconst dX6_noteTrial_12 rfl ⟨by decide, by decide⟩ ?_
  refine aw_bipush dX6_noteTrial_13 (by decide) ⟨by decide, by decide⟩ ?_
  refine aw_copy dX6_noteTrial_15 cp_RX6_300 k13 k19 (by decide) (by decide) ⟨by decide, by decide⟩ ?_
  have ho : ∀ c, c ≠ x + 19 → az_cp M (x + 4 + 13) (x + 19) 6 c = M c := fun c hc => by
    funext j
    show (if c = x + 19 ∧ 0 ≤ j ∧ j < 6 then M (x + 4 + 13) j else M c j) = M c j
    rw [if_neg (fun q => hc q.1)]
  refine aw_vret dX6_noteTrial_18 (by decide) (by decide) ⟨rfl, rfl, ⟨HS_fr hc (fun c c0 c1 => ho c (by omega)), fun i i0 i1 => ?_⟩, ho⟩
  show (if x + 19 = x + 19 ∧ 0 ≤ i ∧ i < 6 then M (x + 4 + 13) i else M (x + 19) i) = T.1 (729 + i)
  rw [if_pos ⟨rfl, i0, i1⟩]
  exact hc.2.2.2.2.2.2.2.2.1 i i0 i1
theorem sp_onTrial (hK : TrK K x) (M : az_M) (h : TS M x b T) (i : Int) (i0 : 0 ≤ i) (i1 : i < 6) : AM yX6_onTrial cX6_onTrial 2 (some .int) 0 0 0 [(1, x), (0, i)] K M (qp K M (az_wr (T.1 (729 + i) - b (729 + i)))) := by
  have hK0 := hK
  obtain ⟨kx, k1, k2, k3, hT4, k19, hRe, k23, hRt, hS1, hS2, k45, hKp, hBx, y0, y4, y5, y6, y7, y8, y9, y11, y14, n12, n13, r0, r4, q0, q1, xin⟩ := hK
  obtain ⟨hRg, kh, k6, k7, k8, k9, k10, k11, k12, k13, k14, z0, z1, z2, z3, z4, z5, z6, z7, z8, z9⟩ := hT4
  refine am_of (by decide) (Nat.le_of_ble_eq_true rfl) (L := [(1, x), (0, i)]) rfl ?_
  have v8 : M (x + 4 + 13) i = T.1 (729 + i) := h.1.2.2.2.2.2.2.2.2.1 i i0 i1
  have v14 := h.2 i i0 i1
  refine aw_aload_n dX6_onTrial_0 rfl rfl ⟨by decide, by decide⟩ ?_
  refine aw_gzF 6 dX6_onTrial_1 fl_RX6_33 (by assumption) rfl rfl (by assumption) ?_
  refine aw_gzF 8 dX6_onTrial_4 fl_RX6_289 (by assumption) rfl rfl (by assumption) ?_
  refine aw_iload_n dX6_onTrial_7 rfl rfl ?_
  refine aw_iv dX6_onTrial_8 (by assumption) (by omega) (by omega) v8 ?_
  refine aw_aload_n dX6_onTrial_9 rfl rfl ⟨by decide, by decide⟩ ?_
  refine aw_gzF 7 dX6_onTrial_10 fl_RX6_37 (by assumption) rfl rfl (by assumption) ?_
  refine aw_iload_n dX6_onTrial_13 rfl rfl ?_
  refine aw_iv dX6_onTrial_14 (by assumption) (by omega) (by omega) v14 ?_
  refine aw_isub dX6_onTrial_15 rfl ?_
  exact aw_iret dX6_onTrial_16 (by decide) (by decide) (qp_i rfl)
theorem frY.ofN {M M' : az_M} (f : ∀ c, c ≠ x + 19 → M' c = M c) : frY M M' x := fun c h1 h2 => f c (by omega)
set_option maxHeartbeats 1000000 in
theorem sp_beginTrial (hK : TrK K x) (M : az_M) (hg : GW ch a u bx bz B) (ht : TRh M x ch a u bx bz cu) : AM yX6_beginTrial cX6_beginTrial 1 none 3 0 0 [(1, x)] K M (qv K (fun M' => TS M' x (ch a).1 (ch a) ∧ frY M M' x)) := by
  obtain ⟨h, hh, hH, hc, hhp, hb1, hb2⟩ := ht.now hK hg
  have hK0 := hK
  obtain ⟨kx, k1, k2, k3, hT4, k19, hRe, k23, hRt, hS1, hS2, k45, hKp, hBx, y0, y4, y5, y6, y7, y8, y9, y11, y14, n12, n13, r0, r4, q0, q1, xin⟩ := hK
  have kT := hT4.2.1
  obtain ⟨w1, w2, w3⟩ := hg.cur
  refine am_of (by decide) (Nat.le_of_ble_eq_true rfl) (L := [(1, x)]) rfl ?_
  refine aw_aload_n dX6_beginTrial_0 rfl rfl ⟨by decide, by decide⟩ ?_
  refine aw_gzF 6 dX6_beginTrial_1 fl_RX6_33 (by assumption) rfl rfl (by assumption) ?_
  refine aw_aload_n dX6_beginTrial_4 rfl rfl ⟨by decide, by decide⟩ ?_
  refine aw_cV0q dX6_beginTrial_5 ml_RX6_80 (by assumption) (by decide) rfl rfl ⟨by decide, by decide, by decide, by decide⟩ (Nat.le_of_ble_eq_true rfl) (hhp) ?_
  refine aw_cV1v dX6_beginTrial_8 ml_RX6_198 (by assumption) (by decide) rfl rfl ⟨by decide, by decide, by decide, by decide⟩ (Nat.le_of_ble_eq_true rfl) (sp_become hT4 hH (by omega) M hc w1.1) (fun M1 hM1 => ?_)
  refine aw_aload_n dX6_beginTrial_11 rfl rfl ⟨by decide, by decide⟩ ?_
  refine aw_cV0v dX6_beginTrial_12 ml_RX6_297 (by assumption) (by decide) rfl rfl ⟨by decide, by decide, by decide, by decide⟩ (Nat.le_of_ble_eq_true rfl) (sp_noteTrial hK0 M1 hM1.1) (fun M2 hM2 => ?_)
  exact aw_vret dX6_beginTrial_15 (by decide) (by decide) ⟨rfl, rfl, hM2.1, (frY.ofH hM1.2).trans (frY.ofN hM2.2)⟩
set_option maxHeartbeats 1000000 in
theorem sp_cbeginApart (hK : TrK K x) (M : az_M) (hg : GW ch a u bx bz B) (hB : B ≤ 19990000) (ht : TRh M x ch a u bx bz cu) (br : Int) : AM yX6_beginApart cX6_beginApart 2 none 3 0 0 [(1, x), (0, br)] K M (qv K (fun M' => TS M' x (apS (ch a) br).1 (apS (ch a) br) ∧ frY M M' x)) := by
  obtain ⟨h, hh, hH, hc, hhp, hb1, hb2⟩ := ht.now hK hg
  have hK0 := hK
  obtain ⟨kx, k1, k2, k3, hT4, k19, hRe, k23, hRt, hS1, hS2, k45, hKp, hBx, y0, y4, y5, y6, y7, y8, y9, y11, y14, n12, n13, r0, r4, q0, q1, xin⟩ := hK
  have hT40 := hT4
  obtain ⟨hRg, kT, k6, k7, k8, k9, k10, k11, k12, k13, k14, z0, z1, z2, z3, z4, z5, z6, z7, z8, z9⟩ := hT4
  obtain ⟨w1, w2, w3⟩ := hg.cur
  refine am_of (by decide) (Nat.le_of_ble_eq_true rfl) (L := [(1, x), (0, br)]) rfl ?_
  refine aw_aload_n dX6_beginApart_0 rfl rfl ⟨by decide, by decide⟩ ?_
  refine aw_gzF 6 dX6_beginApart_1 fl_RX6_33 (by assumption) rfl rfl (by assumption) ?_
  refine aw_aload_n dX6_beginApart_4 rfl rfl ⟨by decide, by decide⟩ ?_
  refine aw_cV0q dX6_beginApart_5 ml_RX6_80 (by assumption) (by decide) rfl rfl ⟨by decide, by decide, by decide, by decide⟩ (Nat.le_of_ble_eq_true rfl) (hhp) ?_
  refine aw_cV1v dX6_beginApart_8 ml_RX6_198 (by assumption) (by decide) rfl rfl ⟨by decide, by decide, by decide, by decide⟩ (Nat.le_of_ble_eq_true rfl) (sp_become hT40 hH (by omega) M hc w1.1) (fun M1 hM1 => ?_)
  refine aw_aload_n dX6_beginApart_11 rfl rfl ⟨by decide, by decide⟩ ?_
  refine aw_gzF 6 dX6_beginApart_12 fl_RX6_33 (by assumption) rfl rfl (by assumption) ?_
  refine aw_ldcw dX6_beginApart_15 kc_RX6_269 ⟨by decide, by decide⟩ ?_
  refine aw_cV1i dX6_beginApart_18 ml_RX6_142 (by assumption) (by decide) rfl rfl ⟨by decide, by decide, by decide, by decide⟩ (Nat.le_of_ble_eq_true rfl) (sp_advance hT40 M1 hM1.1 w1 (by omega) 1000000 (by omega) (by omega)) (fun z2 M2 hz2 => ?_)
  obtain ⟨-, t2, f2⟩ := hz2
  replace t2 : HS M2 (x + 4) (advS TE (ch a)) := t2
  have wa := advS_wf w1 TE
  have t3 : HS (az_up M2 (x + 4 + 12) 0 br) (x + 4) (apS (ch a) br) := HC_setg (r := 0) t2 wa.1.1 wa.1.2.2.2.1 (by omega) (by omega)
  have f3 : frH M2 (az_up M2 (x + 4 + 12) 0 br) (x + 4) := fun c hc => up_oth _ _ _ (by omega)
  refine aw_pop dX6_beginApart_21 ?_
  refine aw_aload_n dX6_beginApart_22 rfl rfl ⟨by decide, by decide⟩ ?_
  refine aw_gzF 6 dX6_beginApart_23 fl_RX6_33 (by assumption) rfl rfl (by assumption) ?_
  refine aw_gzF 7 dX6_beginApart_26 fl_RX6_145 (by assumption) rfl rfl (by assumption) ?_
  refine aw_iconst dX6_beginApart_29 rfl ⟨by decide, by decide⟩ ?_
  refine aw_iload_n dX6_beginApart_30 rfl rfl ?_
  refine aw_iast dX6_beginApart_31 (by assumption) (by omega) (by omega) ?_
  generalize az_up M2 (x + 4 + 12) 0 br = M3 at t3 f3 ⊢
  refine aw_aload_n dX6_beginApart_32 rfl rfl ⟨by decide, by decide⟩ ?_
  refine aw_cV0v dX6_beginApart_33 ml_RX6_297 (by assumption) (by decide) rfl rfl ⟨by decide, by decide, by decide, by decide⟩ (Nat.le_of_ble_eq_true rfl) (sp_noteTrial hK0 M3 t3) (fun M4 hM4 => ?_)
  exact aw_vret dX6_beginApart_36 (by decide) (by decide) ⟨rfl, rfl, hM4.1, (frY.ofH hM1.2).trans ((frY.ofH f2).trans ((frY.ofH f3).trans (frY.ofN hM4.2)))⟩
set_option maxHeartbeats 1000000 in
theorem sp_makeOnTrial (hK : TrK K x) (M : az_M) (h : TS M x b T) (hw : WL T) (hcy : T.1 729 ≤ 1998000000) (f : Int) (n : Nat) (hn : n ≤ 64) (bf : Int) (f0 : 0 ≤ f) (f1 : f ≤ 7) (hb : bf = 0 ∨ bf = 1) : AM yX6_makeOnTrial cX6_makeOnTrial 6 (some .int) 4 0 0 [(1, x), (0, f), (0, (n : Int)), (0, bf)] K M (qi K (fun z M' => z = (mkU (b 731) f bf n T : Int) ∧ frY M M' x)) := by
  have hK0 := hK
  obtain ⟨kx, k1, k2, k3, hT4, k19, hRe, k23, hRt, hS1, hS2, k45, hKp, hBx, y0, y4, y5, y6, y7, y8, y9, y11, y14, n12, n13, r0, r4, q0, q1, xin⟩ := hK
  have kT := hT4.2.1
  refine am_of (by decide) (Nat.le_of_ble_eq_true rfl) (L := [(1, x), (0, f), (0, (n : Int)), (0, bf), (9, 0), (9, 0)]) rfl ?_
  generalize hV : mkU (b 731) f bf n T = V
  refine aw_iconst dX6_makeOnTrial_0 rfl ⟨by decide, by decide⟩ ?_
  refine aw_istore dX6_makeOnTrial_1 (by decide) ?_
  have loop : ∀ (d k : Nat) (U : hSt) (M2 : az_M) (v5 : az_V), k + d = n → TS M2 x b U → WL U → U.1 729 + 5 * d ≤ 1998001000 → frY M M2 x → k + mkU (b 731) f bf d U = V → AW az_P0 (az_Z (qi K (fun z M' => z = (V : Int) ∧ frY M M' x)) 0 0) (az_rm 4 0 0) yX6_makeOnTrial cX6_makeOnTrial 6 (some .int) 0 0 3 [(1, x), (0, f), (0, (n : Int)), (0, bf), (0, (k : Int)), v5] [] K M2 := by
    intro d
    induction d with
    | zero =>
      intro k U M2 v5 hk hU wU cU f2 hv
      replace hv : k + 0 = V := hv
      refine aw_iload dX6_makeOnTrial_3 rfl ?_
      refine aw_iload_n dX6_makeOnTrial_5 rfl rfl ?_
      refine aw_icmp_ge (tgt := 48) dX6_makeOnTrial_6 rfl (fun h6 => ?_) (fun h6 => absurd h6 (by omega))
      refine aw_iload_n dX6_makeOnTrial_48 rfl rfl ?_
      exact aw_iret dX6_makeOnTrial_49 (by decide) (by decide) ⟨_, rfl, rfl, by omega, f2⟩
    | succ d ih =>
      intro k U M2 v5 hk hU wU cU f2 hv
      replace hv : k + (if bldA U f < 0 then 0 else if bf = 0 ∧ 0 < az_wr ((bldS U 0 f).1 731 - b 731) then 0 else mkU (b 731) f bf d (bldS U 0 f) + 1) = V := hv
      obtain ⟨w1, w2, w3⟩ := bldS_wf wU f0 f1 (r := 0) (by omega) (by omega)
      have hba : bldA U f = -2 ∨ 0 ≤ bldA U f := by
        unfold bldA
        by_cases q : adr (bldT U f) (szF f) = -1
        · rw [if_pos q]; exact Or.inl rfl
        · rw [if_neg q]
          have := (adr_in (bldT_wf wU f).1.1 (szF_in f) q).1.1
          exact Or.inr this
      refine aw_iload dX6_makeOnTrial_3 rfl ?_
      refine aw_iload_n dX6_makeOnTrial_5 rfl rfl ?_
      refine aw_icmp_ge (tgt := 48) dX6_makeOnTrial_6 rfl (fun h6 => absurd h6 (by omega)) (fun h6 => ?_)
      refine aw_aload_n dX6_makeOnTrial_9 rfl rfl ⟨by decide, by decide⟩ ?_
      refine aw_gzF 6 dX6_makeOnTrial_10 fl_RX6_33 (by assumption) rfl rfl (by assumption) ?_
      refine aw_iconst dX6_makeOnTrial_13 rfl ⟨by decide, by decide⟩ ?_
      refine aw_iload_n dX6_makeOnTrial_14 rfl rfl ?_
      refine aw_cV2i dX6_makeOnTrial_15 ml_RX6_101 (by assumption) (by decide) rfl rfl ⟨by decide, by decide, by decide, by decide⟩ (Nat.le_of_ble_eq_true rfl) (sp_build hT4 M2 hU.1 wU (by omega) 0 f (by omega) (by omega) f0 f1) (fun z3 M3 hz3 => ?_)
      refine aw_istore dX6_makeOnTrial_18 (by decide) ?_
      obtain ⟨e3, t3, f3⟩ := hz3
      subst e3
      have hU3 := hU.ofH t3 f3
      have g3 := f2.trans (frY.ofH f3)
      refine aw_iload dX6_makeOnTrial_20 rfl ?_
      refine aw_bipush dX6_makeOnTrial_22 (by decide) ⟨by decide, by decide⟩ ?_
      refine aw_icmp_eq (tgt := 39) dX6_makeOnTrial_24 rfl (fun h24 => ?_) (fun h24 => ?_)
      · rw [if_pos (by omega)] at hv
        refine aw_iload dX6_makeOnTrial_39 rfl ?_
        exact aw_iret dX6_makeOnTrial_41 (by decide) (by decide) ⟨_, rfl, rfl, by omega, g3⟩
      · rw [if_neg (by omega)] at hv
        have go : ¬ (bf = 0 ∧ 0 < az_wr ((bldS U 0 f).1 731 - b 731)) → AW az_P0 (az_Z (qi K (fun z M' => z = (V : Int) ∧ frY M M' x)) 0 0) (az_rm 4 0 0) yX6_makeOnTrial cX6_makeOnTrial 6 (some .int) 0 0 42 [(1, x), (0, f), (0, (n : Int)), (0, bf), (0, (k : Int)), (0, bldA U f)] [] K M3 := by
          intro q
          rw [if_neg q] at hv
          refine aw_iinc dX6_makeOnTrial_42 rfl (az_wr_id (by omega) (by omega)) (by decide) ?_
          refine aw_goto (tgt := 3) dX6_makeOnTrial_45 rfl ?_
          exact ih (k + 1) _ M3 _ (by omega) hU3 w1 (by omega) g3 (by omega)
        refine aw_iload_n dX6_makeOnTrial_27 rfl rfl ?_
        refine aw_if_ne (tgt := 42) dX6_makeOnTrial_28 rfl (fun h28 => ?_) (fun h28 => ?_)
        · exact go (fun q => h28 q.1)
        · refine aw_aload_n dX6_makeOnTrial_31 rfl rfl ⟨by decide, by decide⟩ ?_
          refine aw_iconst dX6_makeOnTrial_32 rfl ⟨by decide, by decide⟩ ?_
          refine aw_cV1p dX6_makeOnTrial_33 ml_RX6_178 (by assumption) (by decide) rfl rfl ⟨by decide, by decide, by decide, by decide⟩ (Nat.le_of_ble_eq_true rfl) (qp_c (sp_onTrial hK0 M3 hU3 2 (by omega) (by omega)) (show az_wr ((bldS U 0 f).1 (729 + 2) - b (729 + 2)) = az_wr ((bldS U 0 f).1 731 - b 731) from rfl)) ?_
          refine aw_if_le (tgt := 42) dX6_makeOnTrial_36 rfl (fun h36 => ?_) (fun h36 => ?_)
          · exact go (fun q => by have := q.2; omega)
          · rw [if_pos ⟨h28, by omega⟩] at hv
            refine aw_iload dX6_makeOnTrial_39 rfl ?_
            exact aw_iret dX6_makeOnTrial_41 (by decide) (by decide) ⟨_, rfl, rfl, by omega, g3⟩
  exact loop n 0 T M _ (by omega) h hw (by omega) (frY.refl M x) (by omega)
theorem sp_drawn (K : az_K) (M : az_M) (v : Int) (v0 : 0 ≤ v) (v1 : v < 10007) : AM yX6_drawn cX6_drawn 1 (some .int) 0 0 0 [(0, v)] K M (qp K M (dr v)) := by
  refine am_of (by decide) (Nat.le_of_ble_eq_true rfl) (L := [(0, v)]) rfl ?_
  refine aw_sipush dX6_drawn_0 (by decide) ⟨by decide, by decide⟩ ?_
  refine aw_iload_n dX6_drawn_3 rfl rfl ?_
  refine aw_imul dX6_drawn_4 (az_wr_id (by omega) (by omega)) ?_
  refine aw_bipush dX6_drawn_5 (by decide) ⟨by decide, by decide⟩ ?_
  refine aw_iadd dX6_drawn_7 (az_wr_id (by omega) (by omega)) ?_
  refine aw_sipush dX6_drawn_8 (by decide) ⟨by decide, by decide⟩ ?_
  refine aw_irem dX6_drawn_11 (by omega) (by omega) ?_
  exact aw_iret dX6_drawn_12 (by decide) (by decide) (qp_i rfl)
set_option maxHeartbeats 2000000 in
theorem sp_playOnTrial (hK : TrK K x) (M : az_M) (h : TS M x b T) (hw : WL T) (hcy : T.1 729 ≤ 1998000000) (sd : Int) (n : Nat) (hn : n ≤ 200) (s0 : 0 ≤ sd) (s1 : sd < 10007) : AM yX6_playOnTrial cX6_playOnTrial 9 none 4 0 0 [(1, x), (0, sd), (0, (n : Int))] K M (qv K (fun M' => TS M' x b (gmS n sd T) ∧ frY M M' x)) := by
  have hK0 := hK
  obtain ⟨kx, k1, k2, k3, hT4, k19, hRe, k23, hRt, hS1, hS2, k45, hKp, hBx, y0, y4, y5, y6, y7, y8, y9, y11, y14, n12, n13, r0, r4, q0, q1, xin⟩ := hK
  have hT40 := hT4
  obtain ⟨hRg, kT, k6, k7, k8, k9, k10, k11, k12, k13, k14, z0, z1, z2, z3, z4, z5, z6, z7, z8, z9⟩ := hT4
  refine am_of (by decide) (Nat.le_of_ble_eq_true rfl) (L := [(1, x), (0, sd), (0, (n : Int)), (9, 0), (9, 0), (9, 0), (9, 0), (9, 0), (9, 0)]) rfl ?_
  generalize hV : gmS n sd T = V
  refine aw_iload_n dX6_playOnTrial_0 rfl rfl ?_
  refine aw_istore_n dX6_playOnTrial_1 rfl (by decide) ?_
  refine aw_iconst dX6_playOnTrial_2 rfl ⟨by decide, by decide⟩ ?_
  refine aw_istore dX6_playOnTrial_3 (by decide) ?_
  have loop : ∀ (d k : Nat) (y : Int) (U : hSt) (M2 : az_M) (v5 v6 v7 v8 : az_V), k + d = n → 0 ≤ y → y < 10007 → TS M2 x b U → WL U → U.1 729 + 5 * d ≤ 1998001000 → frY M M2 x → gmS d y U = V → AW az_P0 (az_Z (qv K (fun M' => TS M' x b V ∧ frY M M' x)) 0 0) (az_rm 4 0 0) yX6_playOnTrial cX6_playOnTrial 9 none 0 0 5 [(1, x), (0, sd), (0, (n : Int)), (0, y), (0, (k : Int)), v5, v6, v7, v8] [] K M2 := by
    intro d
    induction d with
    | zero =>
      intro k y U M2 v5 v6 v7 v8 hk y0 y1 hU wU cU f2 hv
      replace hv : U = V := hv
      subst hv
      refine aw_iload dX6_playOnTrial_5 rfl ?_
      refine aw_iload_n dX6_playOnTrial_7 rfl rfl ?_
      refine aw_icmp_ge (tgt := 159) dX6_playOnTrial_8 rfl (fun h8 => ?_) (fun h8 => absurd h8 (by omega))
      exact aw_vret dX6_playOnTrial_159 (by decide) (by decide) ⟨rfl, rfl, hU, f2⟩
    | succ d ih =>
      intro k y U M2 v5 v6 v7 v8 hk y0 y1 hU wU cU f2 hv
      replace hv : gmS d (dr4 y) (gm1 y U) = V := hv
      have hgm : gm1 y U = gmA U (dr y % 8) (dr (dr y) % 6) (dr (dr (dr y)) % 6) (dr (dr (dr (dr y))) % 6) := rfl
      have d1 := dr_in y0
      have d2 := dr_in d1.1
      have d3 := dr_in d2.1
      have d4 := dr_in d3.1
      have hd4 : dr4 y = dr (dr (dr (dr y))) := rfl
      obtain ⟨g1, g2, g3⟩ := gm1_wf wU y0
      refine aw_iload dX6_playOnTrial_5 rfl ?_
      refine aw_iload_n dX6_playOnTrial_7 rfl rfl ?_
      refine aw_icmp_ge (tgt := 159) dX6_playOnTrial_8 rfl (fun h8 => absurd h8 (by omega)) (fun h8 => ?_)
      refine aw_iload_n dX6_playOnTrial_11 rfl rfl ?_
      refine aw_cS1p dX6_playOnTrial_12 ml_RX6_306 ⟨by decide, by decide, by decide, by decide⟩ (Nat.le_of_ble_eq_true rfl) (sp_drawn K M2 y y0 y1) ?_
      refine aw_istore_n dX6_playOnTrial_15 rfl (by decide) ?_
      refine aw_iload_n dX6_playOnTrial_16 rfl rfl ?_
      refine aw_bipush dX6_playOnTrial_17 (by decide) ⟨by decide, by decide⟩ ?_
      refine aw_irem dX6_playOnTrial_19 (by omega) (by omega) ?_
      refine aw_istore dX6_playOnTrial_20 (by decide) ?_
      refine aw_iload_n dX6_playOnTrial_22 rfl rfl ?_
      refine aw_cS1p dX6_playOnTrial_23 ml_RX6_306 ⟨by decide, by decide, by decide, by decide⟩ (Nat.le_of_ble_eq_true rfl) (sp_drawn K M2 (dr y) d1.1 d1.2) ?_
      refine aw_istore_n dX6_playOnTrial_26 rfl (by decide) ?_
      refine aw_iload_n dX6_playOnTrial_27 rfl rfl ?_
      refine aw_bipush dX6_playOnTrial_28 (by decide) ⟨by decide, by decide⟩ ?_
      refine aw_irem dX6_playOnTrial_30 (by omega) (by omega) ?_
      refine aw_istore dX6_playOnTrial_31 (by decide) ?_
      refine aw_iload_n dX6_playOnTrial_33 rfl rfl ?_
      refine aw_cS1p dX6_playOnTrial_34 ml_RX6_306 ⟨by decide, by decide, by decide, by decide⟩ (Nat.le_of_ble_eq_true rfl) (sp_drawn K M2 (dr (dr y)) d2.1 d2.2) ?_
      refine aw_istore_n dX6_playOnTrial_37 rfl (by decide) ?_
      refine aw_iload_n dX6_playOnTrial_38 rfl rfl ?_
      refine aw_bipush dX6_playOnTrial_39 (by decide) ⟨by decide, by decide⟩ ?_
      refine aw_irem dX6_playOnTrial_41 (by omega) (by omega) ?_
      refine aw_istore dX6_playOnTrial_42 (by decide) ?_
      refine aw_iload_n dX6_playOnTrial_44 rfl rfl ?_
      refine aw_cS1p dX6_playOnTrial_45 ml_RX6_306 ⟨by decide, by decide, by decide, by decide⟩ (Nat.le_of_ble_eq_true rfl) (sp_drawn K M2 (dr (dr (dr y))) d3.1 d3.2) ?_
      refine aw_istore_n dX6_playOnTrial_48 rfl (by decide) ?_
      refine aw_iload_n dX6_playOnTrial_49 rfl rfl ?_
      refine aw_bipush dX6_playOnTrial_50 (by decide) ⟨by decide, by decide⟩ ?_
      refine aw_irem dX6_playOnTrial_52 (by omega) (by omega) ?_
      refine aw_istore dX6_playOnTrial_53 (by decide) ?_
      rw [hd4] at hv
      have k0 : 0 ≤ dr y % 8 ∧ dr y % 8 < 8 := by omega
      have r0 : 0 ≤ dr (dr y) % 6 ∧ dr (dr y) % 6 < 6 := by omega
      have q0 : 0 ≤ dr (dr (dr y)) % 6 ∧ dr (dr (dr y)) % 6 < 6 := by omega
      have f0 : 0 ≤ dr (dr (dr (dr y))) % 6 ∧ dr (dr (dr (dr y))) % 6 < 6 := by omega
      generalize dr y % 8 = kk at *
      generalize dr (dr y) % 6 = rr at *
      generalize dr (dr (dr y)) % 6 = ss at *
      generalize hff : dr (dr (dr (dr y))) % 6 = ff at *
      generalize dr (dr (dr (dr y))) = Y at *
      rw [hgm] at hv g1 g2 g3
      generalize hG : gmA U kk rr ss ff = G at hv g1 g2 g3
      unfold gmA at hG
      have next : ∀ M3 : az_M, HS M3 (x + 4) G → frH M2 M3 (x + 4) → AW az_P0 (az_Z (qv K (fun M' => TS M' x b V ∧ frY M M' x)) 0 0) (az_rm 4 0 0) yX6_playOnTrial cX6_playOnTrial 9 none 0 0 153 [(1, x), (0, sd), (0, (n : Int)), (0, Y), (0, (k : Int)), (0, kk), (0, rr), (0, ss), (0, ff)] [] K M3 := by
        intro M3 t3 f3
        refine aw_iinc dX6_playOnTrial_153 rfl (az_wr_id (by omega) (by omega)) (by decide) ?_
        refine aw_goto (tgt := 5) dX6_playOnTrial_156 rfl ?_
        exact ih (k + 1) Y G M3 _ _ _ _ (by omega) d4.1 d4.2 (hU.ofH t3 f3) g1 (by omega) (f2.trans (frY.ofH f3)) hv
      refine aw_iload dX6_playOnTrial_55 rfl ?_
      refine aw_iconst dX6_playOnTrial_57 rfl ⟨by decide, by decide⟩ ?_
      refine aw_icmp_gt (tgt := 76) dX6_playOnTrial_58 rfl (fun h58 => ?_) (fun h58 => ?_)
      · rw [if_neg (by omega)] at hG
        refine aw_iload dX6_playOnTrial_76 rfl ?_
        refine aw_iconst dX6_playOnTrial_78 rfl ⟨by decide, by decide⟩ ?_
        refine aw_icmp_ne (tgt := 99) dX6_playOnTrial_79 rfl (fun h79 => ?_) (fun h79 => ?_)
        · rw [if_neg h79] at hG
          refine aw_iload dX6_playOnTrial_99 rfl ?_
          refine aw_iconst dX6_playOnTrial_101 rfl ⟨by decide, by decide⟩ ?_
          refine aw_icmp_gt (tgt := 122) dX6_playOnTrial_102 rfl (fun h102 => ?_) (fun h102 => ?_)
          · rw [if_neg (by omega)] at hG
            have st : ∀ v : Int, v = (if kk = 6 then U.1 (715 + ss) else -1) → AW az_P0 (az_Z (qv K (fun M' => TS M' x b V ∧ frY M M' x)) 0 0) (az_rm 4 0 0) yX6_playOnTrial cX6_playOnTrial 9 none 0 0 152 [(1, x), (0, sd), (0, (n : Int)), (0, Y), (0, (k : Int)), (0, kk), (0, rr), (0, ss), (0, ff)] [(0, v), (0, rr), (1, x + 4 + 9)] K M2 := by
              intro v hvv
              rw [← hvv] at hG
              refine aw_iast dX6_playOnTrial_152 (by assumption) (by omega) (by omega) ?_
              refine next _ ?_ (fun c hc => up_oth _ _ _ (by omega))
              rw [← hG]
              exact HC_root hU.1 wU.1.1 wU.1.2.2.2.1 r0.1 r0.2
            have v147 : M2 (x + 4 + 9) ss = U.1 (715 + ss) := hU.1.2.2.2.2.2.1.1 ss q0.1 q0.2
            refine aw_aload_n dX6_playOnTrial_122 rfl rfl ⟨by decide, by decide⟩ ?_
            refine aw_gzF 6 dX6_playOnTrial_123 fl_RX6_33 (by assumption) rfl rfl (by assumption) ?_
            refine aw_gzF 4 dX6_playOnTrial_126 fl_RX6_119 (by assumption) rfl rfl (by assumption) ?_
            refine aw_iload dX6_playOnTrial_129 rfl ?_
            refine aw_iload dX6_playOnTrial_131 rfl ?_
            refine aw_bipush dX6_playOnTrial_133 (by decide) ⟨by decide, by decide⟩ ?_
            refine aw_icmp_ne (tgt := 151) dX6_playOnTrial_135 rfl (fun h135 => ?_) (fun h135 => ?_)
            · refine aw_iconst dX6_playOnTrial_151 rfl ⟨by decide, by decide⟩ ?_
              exact st _ (by rw [if_neg h135])
            · refine aw_aload_n dX6_playOnTrial_138 rfl rfl ⟨by decide, by decide⟩ ?_
              refine aw_gzF 6 dX6_playOnTrial_139 fl_RX6_33 (by assumption) rfl rfl (by assumption) ?_
              refine aw_gzF 4 dX6_playOnTrial_142 fl_RX6_119 (by assumption) rfl rfl (by assumption) ?_
              refine aw_iload dX6_playOnTrial_145 rfl ?_
              refine aw_iv dX6_playOnTrial_147 (by assumption) (by omega) (by omega) v147 ?_
              refine aw_goto (tgt := 152) dX6_playOnTrial_148 rfl ?_
              exact st _ (by rw [if_pos h135])
          · rw [if_pos (by omega)] at hG
            refine aw_aload_n dX6_playOnTrial_105 rfl rfl ⟨by decide, by decide⟩ ?_
            refine aw_gzF 6 dX6_playOnTrial_106 fl_RX6_33 (by assumption) rfl rfl (by assumption) ?_
            refine aw_iload dX6_playOnTrial_109 rfl ?_
            refine aw_iload dX6_playOnTrial_111 rfl ?_
            refine aw_iload dX6_playOnTrial_113 rfl ?_
            refine aw_cV3i dX6_playOnTrial_115 ml_RX6_115 (by assumption) (by decide) rfl rfl ⟨by decide, by decide, by decide, by decide⟩ (Nat.le_of_ble_eq_true rfl) (sp_put hT40 M2 hU.1 wU rr ff ss r0.1 r0.2 (Or.inr q0)) (fun z3 M3 hz3 => ?_)
            refine aw_pop dX6_playOnTrial_118 ?_
            obtain ⟨ey, en, f3⟩ := hz3
            refine aw_goto (tgt := 153) dX6_playOnTrial_119 rfl ?_
            by_cases q : hasF U (U.1 (715 + rr)) ff
            · have q' := q
              unfold hasF at q'
              rw [if_pos q'] at hG
              exact next M3 (by rw [← hG]; exact (ey q).2) f3
            · have q' := q
              unfold hasF at q'
              rw [if_neg q'] at hG
              exact next M3 (by rw [← hG]; exact (en q).2) f3
        · rw [if_pos h79] at hG
          refine aw_aload_n dX6_playOnTrial_82 rfl rfl ⟨by decide, by decide⟩ ?_
          refine aw_gzF 6 dX6_playOnTrial_83 fl_RX6_33 (by assumption) rfl rfl (by assumption) ?_
          refine aw_iload dX6_playOnTrial_86 rfl ?_
          refine aw_iload dX6_playOnTrial_88 rfl ?_
          refine aw_iload dX6_playOnTrial_90 rfl ?_
          refine aw_cV3i dX6_playOnTrial_92 ml_RX6_108 (by assumption) (by decide) rfl rfl ⟨by decide, by decide, by decide, by decide⟩ (Nat.le_of_ble_eq_true rfl) (sp_fetch hT40 M2 hU.1 wU rr ss ff r0.1 r0.2 q0.1 q0.2) (fun z3 M3 hz3 => ?_)
          refine aw_pop dX6_playOnTrial_95 ?_
          obtain ⟨ey, en, f3⟩ := hz3
          refine aw_goto (tgt := 153) dX6_playOnTrial_96 rfl ?_
          by_cases q : hasF U (U.1 (715 + ss)) ff
          · have q' := q
            unfold hasF at q'
            rw [if_pos q'] at hG
            exact next M3 (by rw [← hG]; exact (ey q).2) f3
          · have q' := q
            unfold hasF at q'
            rw [if_neg q'] at hG
            exact next M3 (by rw [← hG]; exact (en q).2) f3
      · rw [if_pos (by omega)] at hG
        refine aw_aload_n dX6_playOnTrial_61 rfl rfl ⟨by decide, by decide⟩ ?_
        refine aw_gzF 6 dX6_playOnTrial_62 fl_RX6_33 (by assumption) rfl rfl (by assumption) ?_
        refine aw_iload dX6_playOnTrial_65 rfl ?_
        refine aw_iload dX6_playOnTrial_67 rfl ?_
        refine aw_cV2i dX6_playOnTrial_69 ml_RX6_101 (by assumption) (by decide) rfl rfl ⟨by decide, by decide, by decide, by decide⟩ (Nat.le_of_ble_eq_true rfl) (sp_build hT40 M2 hU.1 wU (by omega) rr ff r0.1 r0.2 f0.1 (by omega)) (fun z3 M3 hz3 => ?_)
        refine aw_pop dX6_playOnTrial_72 ?_
        obtain ⟨-, t3, f3⟩ := hz3
        refine aw_goto (tgt := 153) dX6_playOnTrial_73 rfl ?_
        exact next M3 (by rw [← hG]; exact t3) f3
  exact loop n 0 sd T M _ _ _ _ (by omega) s0 s1 h hw (by omega) (frY.refl M x) hV
set_option maxHeartbeats 1000000 in
theorem sp_cend (hK : TrK K x) (M : az_M) (hg : GW ch a u bx bz B) (hB : B ≤ 19990000) (ht : TRh M x ch a u bx bz cu) (w : Int) : AM yX6_end cX6_end 2 (some .int) 4 0 0 [(1, x), (0, w)] K M (qi K (fun z M' => z = (if 0 ≤ w ∧ w ≤ 3 then edV (ch a) w else -1) ∧ frY M M' x)) := by
  have ht0 := ht
  obtain ⟨h, hh, hH, hc, hhp, hb1, hb2⟩ := ht.now hK hg
  have hK0 := hK
  obtain ⟨kx, k1, k2, k3, hT4, k19, hRe, k23, hRt, hS1, hS2, k45, hKp, hBx, y0, y4, y5, y6, y7, y8, y9, y11, y14, n12, n13, r0, r4, q0, q1, xin⟩ := hK
  have kh := hH.2.1
  have kT := hT4.2.1
  obtain ⟨w1, w2, w3⟩ := hg.cur
  obtain ⟨tw, tc0, tc1⟩ := toE_wf w1
  have ew : WL (enS (ch a)) := advS_wf tw TE
  have b1 := obN_le (WR_of w1.1)
  have b2 := obN_le (WR_of ew.1)
  have hr01 := run01 w1
  have hst := en_steps w1
  have hce := en_cells w1
  have b3 := cf_in (WR_of w1.1)
  have b4 := cf_in (WR_of ew.1)
  refine am_of (by decide) (Nat.le_of_ble_eq_true rfl) (L := [(1, x), (0, w)]) rfl ?_
  generalize hV : (if 0 ≤ w ∧ w ≤ 3 then edV (ch a) w else -1) = V
  have no : ¬ (0 ≤ w ∧ w ≤ 3) → AW az_P0 (az_Z (qi K (fun z M' => z = V ∧ frY M M' x)) 0 0) (az_rm 4 0 0) yX6_end cX6_end 2 (some .int) 0 0 9 [(1, x), (0, w)] [] K M := by
    intro q
    rw [if_neg q] at hV
    refine aw_iconst dX6_end_9 rfl ⟨by decide, by decide⟩ ?_
    exact aw_iret dX6_end_10 (by decide) (by decide) ⟨_, rfl, rfl, hV, frY.refl M x⟩
  refine aw_iload_n dX6_end_0 rfl rfl ?_
  refine aw_if_lt (tgt := 9) dX6_end_1 rfl (fun h1 => ?_) (fun h1 => ?_)
  · exact no (by omega)
  · refine aw_iload_n dX6_end_4 rfl rfl ?_
    refine aw_iconst dX6_end_5 rfl ⟨by decide, by decide⟩ ?_
    refine aw_icmp_le (tgt := 11) dX6_end_6 rfl (fun h6 => ?_) (fun h6 => ?_)
    · rw [if_pos (by omega)] at hV
      unfold edV at hV
      refine aw_aload_n dX6_end_11 rfl rfl ⟨by decide, by decide⟩ ?_
      refine aw_cV0v dX6_end_12 ml_RX6_266 (by assumption) (by decide) rfl rfl ⟨by decide, by decide, by decide, by decide⟩ (Nat.le_of_ble_eq_true rfl) (sp_beginTrial hK0 M hg ht0) (fun M1 hM1 => ?_)
      obtain ⟨t1, f1⟩ := hM1
      have v19 : M1 (x + 4) 15 = (ch a).1 726 := t1.1.2.2.2.2.2.2.2.2.2.2.2.2.2.2
      have rest : ∀ M2 : az_M, TS M2 x (ch a).1 (toE (ch a)) → frY M M2 x → AW az_P0 (az_Z (qi K (fun z M' => z = V ∧ frY M M' x)) 0 0) (az_rm 4 0 0) yX6_end cX6_end 2 (some .int) 0 0 32 [(1, x), (0, w)] [] K M2 := by
        intro M2 t2 f2
        refine aw_aload_n dX6_end_32 rfl rfl ⟨by decide, by decide⟩ ?_
        refine aw_gzF 6 dX6_end_33 fl_RX6_33 (by assumption) rfl rfl (by assumption) ?_
        refine aw_ldcw dX6_end_36 kc_RX6_269 ⟨by decide, by decide⟩ ?_
        refine aw_cV1i dX6_end_39 ml_RX6_142 (by assumption) (by decide) rfl rfl ⟨by decide, by decide, by decide, by decide⟩ (Nat.le_of_ble_eq_true rfl) (sp_advance hT4 M2 t2.1 tw (by omega) 1000000 (by omega) (by omega)) (fun z3 M3 hz3 => ?_)
        refine aw_pop dX6_end_42 ?_
        obtain ⟨-, t3, f3⟩ := hz3
        have t3' : TS M3 x (ch a).1 (enS (ch a)) := t2.ofH t3 f3
        have g3 := f2.trans (frY.ofH f3)
        have ht3 := ht0.ofY g3
        have hc3 : HS M3 h (ch a) := by rw [hh]; exact ht3.hs hg
        have hhp3 := sp_heap hK0 M3 ht3.1 ht3.2.1.1 ht3.2.1.2
        rw [← hh] at hhp3
        refine aw_iload_n dX6_end_43 rfl rfl ?_
        by_cases q : w = 0
        · subst q
          rw [if_pos rfl] at hV
          refine aw_tsIn (tgt := 72) dX6_end_44 (by omega) (by omega) rfl rfl ?_
          refine aw_aload_n dX6_end_72 rfl rfl ⟨by decide, by decide⟩ ?_
          refine aw_iconst dX6_end_73 rfl ⟨by decide, by decide⟩ ?_
          refine aw_cV1p dX6_end_74 ml_RX6_178 (by assumption) (by decide) rfl rfl ⟨by decide, by decide, by decide, by decide⟩ (Nat.le_of_ble_eq_true rfl) (sp_onTrial hK0 M3 t3' 1 (by omega) (by omega)) ?_
          exact aw_iret dX6_end_77 (by decide) (by decide) ⟨_, rfl, rfl, hst.trans hV, g3⟩
        rw [if_neg q] at hV
        by_cases q : w = 1
        · subst q
          rw [if_pos rfl] at hV
          refine aw_tsIn (tgt := 78) dX6_end_44 (by omega) (by omega) rfl rfl ?_
          refine aw_aload_n dX6_end_78 rfl rfl ⟨by decide, by decide⟩ ?_
          refine aw_cV0q dX6_end_79 ml_RX6_80 (by assumption) (by decide) rfl rfl ⟨by decide, by decide, by decide, by decide⟩ (Nat.le_of_ble_eq_true rfl) (hhp3) ?_
          refine aw_cV0p dX6_end_82 ml_RX6_181 (by assumption) (by decide) rfl rfl ⟨by decide, by decide, by decide, by decide⟩ (Nat.le_of_ble_eq_true rfl) (sp_objects hH M3 (WR_of w1.1) hc3.2.2.2.2.1 hc3.2.2.2.2.2.2.2.2.2.2.1) ?_
          refine aw_aload_n dX6_end_85 rfl rfl ⟨by decide, by decide⟩ ?_
          refine aw_gzF 6 dX6_end_86 fl_RX6_33 (by assumption) rfl rfl (by assumption) ?_
          refine aw_cV0p dX6_end_89 ml_RX6_181 (by assumption) (by decide) rfl rfl ⟨by decide, by decide, by decide, by decide⟩ (Nat.le_of_ble_eq_true rfl) (sp_objects hT4 M3 (WR_of ew.1) t3'.1.2.2.2.2.1 t3'.1.2.2.2.2.2.2.2.2.2.2.1) ?_
          refine aw_isub dX6_end_92 (az_wr_id (by omega) (by omega)) ?_
          exact aw_iret dX6_end_93 (by decide) (by decide) ⟨_, rfl, rfl, hV, g3⟩
        rw [if_neg q] at hV
        by_cases q : w = 2
        · subst q
          rw [if_pos rfl] at hV
          refine aw_tsIn (tgt := 94) dX6_end_44 (by omega) (by omega) rfl rfl ?_
          refine aw_aload_n dX6_end_94 rfl rfl ⟨by decide, by decide⟩ ?_
          refine aw_cV0q dX6_end_95 ml_RX6_80 (by assumption) (by decide) rfl rfl ⟨by decide, by decide, by decide, by decide⟩ (Nat.le_of_ble_eq_true rfl) (hhp3) ?_
          refine aw_cV0p dX6_end_98 ml_RX6_270 (by assumption) (by decide) rfl rfl ⟨by decide, by decide, by decide, by decide⟩ (Nat.le_of_ble_eq_true rfl) (sp_objectCells hH M3 hc3 w1) ?_
          refine aw_aload_n dX6_end_101 rfl rfl ⟨by decide, by decide⟩ ?_
          refine aw_gzF 6 dX6_end_102 fl_RX6_33 (by assumption) rfl rfl (by assumption) ?_
          refine aw_cV0p dX6_end_105 ml_RX6_270 (by assumption) (by decide) rfl rfl ⟨by decide, by decide, by decide, by decide⟩ (Nat.le_of_ble_eq_true rfl) (sp_objectCells hT4 M3 t3'.1 ew) ?_
          refine aw_isub dX6_end_108 (az_wr_id (by omega) (by omega)) ?_
          exact aw_iret dX6_end_109 (by decide) (by decide) ⟨_, rfl, rfl, hce.symm.trans hV, g3⟩
        rw [if_neg q] at hV
        refine aw_tsOut (tgt := 110) dX6_end_44 (by omega) rfl ?_
        refine aw_aload_n dX6_end_110 rfl rfl ⟨by decide, by decide⟩ ?_
        refine aw_iconst dX6_end_111 rfl ⟨by decide, by decide⟩ ?_
        refine aw_cV1p dX6_end_112 ml_RX6_178 (by assumption) (by decide) rfl rfl ⟨by decide, by decide, by decide, by decide⟩ (Nat.le_of_ble_eq_true rfl) (sp_onTrial hK0 M3 t3' 3 (by omega) (by omega)) ?_
        exact aw_iret dX6_end_115 (by decide) (by decide) ⟨_, rfl, rfl, hV, g3⟩
      refine aw_aload_n dX6_end_15 rfl rfl ⟨by decide, by decide⟩ ?_
      refine aw_gzF 6 dX6_end_16 fl_RX6_33 (by assumption) rfl rfl (by assumption) ?_
      refine aw_gi 15 dX6_end_19 fl_RX6_135 (by assumption) rfl rfl v19 ?_
      refine aw_if_ne (tgt := 32) dX6_end_22 rfl (fun h22 => ?_) (fun h22 => ?_)
      · refine rest M1 ?_ f1
        unfold toE
        rw [if_pos (by omega)]; exact t1
      · refine aw_aload_n dX6_end_25 rfl rfl ⟨by decide, by decide⟩ ?_
        refine aw_gzF 6 dX6_end_26 fl_RX6_33 (by assumption) rfl rfl (by assumption) ?_
        refine aw_cV0v dX6_end_29 ml_RX6_139 (by assumption) (by decide) rfl rfl ⟨by decide, by decide, by decide, by decide⟩ (Nat.le_of_ble_eq_true rfl) (sp_begin hT4 M1 t1.1 w1.1 (by omega) (by omega)) (fun M2 hM2 => ?_)
        refine rest M2 ?_ (f1.trans (frY.ofH hM2.2.2))
        unfold toE
        rw [if_neg (by omega)]; exact t1.ofH hM2.1 hM2.2.2
    · exact no (by omega)
set_option maxHeartbeats 1000000 in
theorem sp_croom (hK : TrK K x) (M : az_M) (hg : GW ch a u bx bz B) (hB : B ≤ 19990000) (ht : TRh M x ch a u bx bz cu) (f w : Int) : AM yX6_room cX6_room 3 (some .int) 5 0 0 [(1, x), (0, f), (0, w)] K M (qi K (fun z M' => z = roV (ch a) f w ∧ frY M M' x)) := by
  have ht0 := ht
  have hK0 := hK
  obtain ⟨kx, k1, k2, k3, hT4, k19, hRe, k23, hRt, hS1, hS2, k45, hKp, hBx, y0, y4, y5, y6, y7, y8, y9, y11, y14, n12, n13, r0, r4, q0, q1, xin⟩ := hK
  obtain ⟨w1, w2, w3⟩ := hg.cur
  refine am_of (by decide) (Nat.le_of_ble_eq_true rfl) (L := [(1, x), (0, f), (0, w)]) rfl ?_
  generalize hV : roV (ch a) f w = V
  unfold roV at hV
  have no : ¬ ((0 ≤ f ∧ f ≤ 7) ∧ 0 ≤ w ∧ w ≤ 1) → AW az_P0 (az_Z (qi K (fun z M' => z = V ∧ frY M M' x)) 0 0) (az_rm 5 0 0) yX6_room cX6_room 3 (some .int) 0 0 16 [(1, x), (0, f), (0, w)] [] K M := by
    intro q
    rw [if_neg q] at hV
    refine aw_iconst dX6_room_16 rfl ⟨by decide, by decide⟩ ?_
    exact aw_iret dX6_room_17 (by decide) (by decide) ⟨_, rfl, rfl, hV, frY.refl M x⟩
  refine aw_iload_n dX6_room_0 rfl rfl ?_
  refine aw_cS1p dX6_room_1 ml_RX6_95 ⟨by decide, by decide, by decide, by decide⟩ (Nat.le_of_ble_eq_true rfl) (sp_cisFieldCount K M f) ?_
  refine aw_if_eq (tgt := 16) dX6_room_4 rfl (fun h4 => ?_) (fun h4 => ?_)
  · exact no (fun q => if0 h4 q.1)
  · refine aw_iload_n dX6_room_7 rfl rfl ?_
    refine aw_if_lt (tgt := 16) dX6_room_8 rfl (fun h8 => ?_) (fun h8 => ?_)
    · exact no (by omega)
    · refine aw_iload_n dX6_room_11 rfl rfl ?_
      refine aw_iconst dX6_room_12 rfl ⟨by decide, by decide⟩ ?_
      refine aw_icmp_le (tgt := 18) dX6_room_13 rfl (fun h13 => ?_) (fun h13 => ?_)
      · have hf := if1 h4
        rw [if_pos ⟨hf, by omega⟩] at hV
        refine aw_aload_n dX6_room_18 rfl rfl ⟨by decide, by decide⟩ ?_
        refine aw_cV0v dX6_room_19 ml_RX6_266 (by assumption) (by decide) rfl rfl ⟨by decide, by decide, by decide, by decide⟩ (Nat.le_of_ble_eq_true rfl) (sp_beginTrial hK0 M hg ht0) (fun M1 hM1 => ?_)
        obtain ⟨t1, f1⟩ := hM1
        have rest : AW az_P0 (az_Z (qi K (fun z M' => z = V ∧ frY M M' x)) 0 0) (az_rm 5 0 0) yX6_room cX6_room 3 (some .int) 0 0 36 [(1, x), (0, f), (0, w)] [(0, w), (0, 64), (0, f), (1, x)] K M1 := by
          refine aw_cV3i dX6_room_36 ml_RX6_273 (by assumption) (by decide) rfl rfl ⟨by decide, by decide, by decide, by decide⟩ (Nat.le_of_ble_eq_true rfl) (sp_makeOnTrial hK0 M1 t1 w1 (by omega) f 64 (by omega) w hf.1 hf.2 (by omega)) (fun z2 M2 hz2 => ?_)
          exact aw_iret dX6_room_39 (by decide) (by decide) ⟨_, rfl, rfl, hz2.1.trans hV, f1.trans hz2.2⟩
        refine aw_aload_n dX6_room_22 rfl rfl ⟨by decide, by decide⟩ ?_
        refine aw_iload_n dX6_room_23 rfl rfl ?_
        refine aw_bipush dX6_room_24 (by decide) ⟨by decide, by decide⟩ ?_
        refine aw_iload_n dX6_room_26 rfl rfl ?_
        refine aw_iconst dX6_room_27 rfl ⟨by decide, by decide⟩ ?_
        refine aw_icmp_ne (tgt := 35) dX6_room_28 rfl (fun h28 => ?_) (fun h28 => ?_)
        · have e : w = 0 := by omega
          subst e
          refine aw_iconst dX6_room_35 rfl ⟨by decide, by decide⟩ ?_
          exact rest
        · have e : w = 1 := by omega
          subst e
          refine aw_iconst dX6_room_31 rfl ⟨by decide, by decide⟩ ?_
          refine aw_goto (tgt := 36) dX6_room_32 rfl ?_
          exact rest
      · exact no (by omega)
set_option maxHeartbeats 1000000 in
theorem sp_cpace (hK : TrK K x) (M : az_M) (hg : GW ch a u bx bz B) (hB : B ≤ 19990000) (ht : TRh M x ch a u bx bz cu) (f n : Int) : AM yX6_pace cX6_pace 4 (some .int) 5 0 0 [(1, x), (0, f), (0, n)] K M (qi K (fun z M' => z = pcV (ch a) f n ∧ frY M M' x)) := by
  have ht0 := ht
  have hK0 := hK
  obtain ⟨kx, k1, k2, k3, hT4, k19, hRe, k23, hRt, hS1, hS2, k45, hKp, hBx, y0, y4, y5, y6, y7, y8, y9, y11, y14, n12, n13, r0, r4, q0, q1, xin⟩ := hK
  obtain ⟨hRg, kT, k6, k7, k8, k9, k10, k11, k12, k13, k14, z0, z1, z2, z3, z4, z5, z6, z7, z8, z9⟩ := hT4
  obtain ⟨w1, w2, w3⟩ := hg.cur
  refine am_of (by decide) (Nat.le_of_ble_eq_true rfl) (L := [(1, x), (0, f), (0, n), (9, 0)]) rfl ?_
  generalize hV : pcV (ch a) f n = V
  unfold pcV at hV
  have no : ¬ ((0 ≤ f ∧ f ≤ 7) ∧ 1 ≤ n ∧ n ≤ 64) → AW az_P0 (az_Z (qi K (fun z M' => z = V ∧ frY M M' x)) 0 0) (az_rm 5 0 0) yX6_pace cX6_pace 4 (some .int) 0 0 18 [(1, x), (0, f), (0, n), (9, 0)] [] K M := by
    intro q
    rw [if_neg q] at hV
    refine aw_iconst dX6_pace_18 rfl ⟨by decide, by decide⟩ ?_
    exact aw_iret dX6_pace_19 (by decide) (by decide) ⟨_, rfl, rfl, hV, frY.refl M x⟩
  refine aw_iload_n dX6_pace_0 rfl rfl ?_
  refine aw_cS1p dX6_pace_1 ml_RX6_95 ⟨by decide, by decide, by decide, by decide⟩ (Nat.le_of_ble_eq_true rfl) (sp_cisFieldCount K M f) ?_
  refine aw_if_eq (tgt := 18) dX6_pace_4 rfl (fun h4 => ?_) (fun h4 => ?_)
  · exact no (fun q => if0 h4 q.1)
  · refine aw_iload_n dX6_pace_7 rfl rfl ?_
    refine aw_iconst dX6_pace_8 rfl ⟨by decide, by decide⟩ ?_
    refine aw_icmp_lt (tgt := 18) dX6_pace_9 rfl (fun h9 => ?_) (fun h9 => ?_)
    · exact no (by omega)
    · refine aw_iload_n dX6_pace_12 rfl rfl ?_
      refine aw_bipush dX6_pace_13 (by decide) ⟨by decide, by decide⟩ ?_
      refine aw_icmp_le (tgt := 20) dX6_pace_15 rfl (fun h15 => ?_) (fun h15 => ?_)
      · have hf := if1 h4
        rw [if_pos ⟨hf, by omega⟩] at hV
        obtain ⟨N, hN⟩ : ∃ N : Nat, (N : Int) = n := ⟨n.toNat, by omega⟩
        subst hN
        rw [Int.toNat_natCast] at hV
        refine aw_iconst dX6_pace_20 rfl ⟨by decide, by decide⟩ ?_
        refine aw_istore_n dX6_pace_21 rfl (by decide) ?_
        have loop : ∀ (d : Nat) (p : Int) (M2 : az_M), 0 ≤ p → p + d = 17 → frY M M2 x → pcL (ch a) f N d p = V → AW az_P0 (az_Z (qi K (fun z M' => z = V ∧ frY M M' x)) 0 0) (az_rm 5 0 0) yX6_pace cX6_pace 4 (some .int) 0 0 22 [(1, x), (0, f), (0, (N : Int)), (0, p)] [] K M2 := by
          intro d
          induction d with
          | zero =>
            intro p M2 p0 p1 f2 hv
            replace hv : (-1 : Int) = V := hv
            refine aw_iload_n dX6_pace_22 rfl rfl ?_
            refine aw_bipush dX6_pace_23 (by decide) ⟨by decide, by decide⟩ ?_
            refine aw_icmp_gt (tgt := 61) dX6_pace_25 rfl (fun h25 => ?_) (fun h25 => absurd h25 (by omega))
            refine aw_iconst dX6_pace_61 rfl ⟨by decide, by decide⟩ ?_
            exact aw_iret dX6_pace_62 (by decide) (by decide) ⟨_, rfl, rfl, hv, f2⟩
          | succ d ih =>
            intro p M2 p0 p1 f2 hv
            replace hv : (if mkU ((ch a).1 731) f 0 N (nameS (ch a) 737 p) = N then p else pcL (ch a) f N d (p + 1)) = V := hv
            refine aw_iload_n dX6_pace_22 rfl rfl ?_
            refine aw_bipush dX6_pace_23 (by decide) ⟨by decide, by decide⟩ ?_
            refine aw_icmp_gt (tgt := 61) dX6_pace_25 rfl (fun h25 => absurd h25 (by omega)) (fun h25 => ?_)
            refine aw_aload_n dX6_pace_28 rfl rfl ⟨by decide, by decide⟩ ?_
            refine aw_cV0v dX6_pace_29 ml_RX6_266 (by assumption) (by decide) rfl rfl ⟨by decide, by decide, by decide, by decide⟩ (Nat.le_of_ble_eq_true rfl) (sp_beginTrial hK0 M2 hg (ht0.ofY f2)) (fun M3 hM3 => ?_)
            obtain ⟨t3, f3⟩ := hM3
            have t4 : HS (az_up M3 (x + 4 + 12) 2 p) (x + 4) (nameS (ch a) 737 p) := HC_setg (r := 2) t3.1 w1.1.1 w1.1.2.2.2.1 (by omega) (by omega)
            have f4 : frH M3 (az_up M3 (x + 4 + 12) 2 p) (x + 4) := fun c hc => up_oth _ _ _ (by omega)
            have t4' := t3.ofH t4 f4
            have w4 : WL (nameS (ch a) 737 p) := WL_setg w1 (w := 2) (by omega) (by omega) p0 (by rw [if_neg (by omega)]; omega)
            have e1 : (nameS (ch a) 737 p).1 729 = (ch a).1 729 := nameS_n _ _ (by omega)
            refine aw_aload_n dX6_pace_32 rfl rfl ⟨by decide, by decide⟩ ?_
            refine aw_gzF 6 dX6_pace_33 fl_RX6_33 (by assumption) rfl rfl (by assumption) ?_
            refine aw_gzF 7 dX6_pace_36 fl_RX6_145 (by assumption) rfl rfl (by assumption) ?_
            refine aw_iconst dX6_pace_39 rfl ⟨by decide, by decide⟩ ?_
            refine aw_iload_n dX6_pace_40 rfl rfl ?_
            refine aw_iast dX6_pace_41 (by assumption) (by omega) (by omega) ?_
            generalize az_up M3 (x + 4 + 12) 2 p = M4 at t4' f4 ⊢
            have hmk := sp_makeOnTrial hK0 M4 t4' w4 (by omega) f N (by omega) 0 hf.1 hf.2 (Or.inl rfl)
            generalize mkU ((ch a).1 731) f 0 N (nameS (ch a) 737 p) = Z at hmk hv
            refine aw_aload_n dX6_pace_42 rfl rfl ⟨by decide, by decide⟩ ?_
            refine aw_iload_n dX6_pace_43 rfl rfl ?_
            refine aw_iload_n dX6_pace_44 rfl rfl ?_
            refine aw_iconst dX6_pace_45 rfl ⟨by decide, by decide⟩ ?_
            refine aw_cV3i dX6_pace_46 ml_RX6_273 (by assumption) (by decide) rfl rfl ⟨by decide, by decide, by decide, by decide⟩ (Nat.le_of_ble_eq_true rfl) (hmk) (fun z5 M5 hz5 => ?_)
            obtain ⟨e5, f5⟩ := hz5
            subst e5
            have g5 := f2.trans (f3.trans ((frY.ofH f4).trans f5))
            refine aw_iload_n dX6_pace_49 rfl rfl ?_
            refine aw_icmp_ne (tgt := 55) dX6_pace_50 rfl (fun h50 => ?_) (fun h50 => ?_)
            · rw [if_neg (by omega)] at hv
              refine aw_iinc dX6_pace_55 rfl (az_wr_id (by omega) (by omega)) (by decide) ?_
              refine aw_goto (tgt := 22) dX6_pace_58 rfl ?_
              exact ih (p + 1) M5 (by omega) (by omega) g5 hv
            · rw [if_pos (by omega)] at hv
              refine aw_iload_n dX6_pace_53 rfl rfl ?_
              exact aw_iret dX6_pace_54 (by decide) (by decide) ⟨_, rfl, rfl, hv, g5⟩
        exact loop 17 0 M (by omega) (by omega) (frY.refl M x) hV
      · exact no (by omega)
set_option maxHeartbeats 1000000 in
theorem sp_cgame (hK : TrK K x) (M : az_M) (hg : GW ch a u bx bz B) (hB : B ≤ 19990000) (ht : TRh M x ch a u bx bz cu) (br sd n w : Int) : AM yX6_game cX6_game 5 (some .int) 5 0 0 [(1, x), (0, br), (0, sd), (0, n), (0, w)] K M (qi K (fun z M' => z = gaV (ch a) br sd n w ∧ frY M M' x)) := by
  have ht0 := ht
  have hK0 := hK
  obtain ⟨kx, k1, k2, k3, hT4, k19, hRe, k23, hRt, hS1, hS2, k45, hKp, hBx, y0, y4, y5, y6, y7, y8, y9, y11, y14, n12, n13, r0, r4, q0, q1, xin⟩ := hK
  have kT := hT4.2.1
  obtain ⟨w1, w2, w3⟩ := hg.cur
  refine am_of (by decide) (Nat.le_of_ble_eq_true rfl) (L := [(1, x), (0, br), (0, sd), (0, n), (0, w)]) rfl ?_
  generalize hV : gaV (ch a) br sd n w = V
  unfold gaV at hV
  have no1 : ¬ ((0 ≤ br ∧ br ≤ 3) ∧ (0 ≤ sd ∧ sd ≤ 9999) ∧ (1 ≤ n ∧ n ≤ 200) ∧ 0 ≤ w ∧ w ≤ 5) → AW az_P0 (az_Z (qi K (fun z M' => z = V ∧ frY M M' x)) 0 0) (az_rm 5 0 0) yX6_game cX6_game 5 (some .int) 0 0 20 [(1, x), (0, br), (0, sd), (0, n), (0, w)] [] K M := by
    intro q
    rw [if_neg q] at hV
    refine aw_iconst dX6_game_20 rfl ⟨by decide, by decide⟩ ?_
    exact aw_iret dX6_game_21 (by decide) (by decide) ⟨_, rfl, rfl, hV, frY.refl M x⟩
  have no2 : ¬ ((0 ≤ br ∧ br ≤ 3) ∧ (0 ≤ sd ∧ sd ≤ 9999) ∧ (1 ≤ n ∧ n ≤ 200) ∧ 0 ≤ w ∧ w ≤ 5) → AW az_P0 (az_Z (qi K (fun z M' => z = V ∧ frY M M' x)) 0 0) (az_rm 5 0 0) yX6_game cX6_game 5 (some .int) 0 0 45 [(1, x), (0, br), (0, sd), (0, n), (0, w)] [] K M := by
    intro q
    rw [if_neg q] at hV
    refine aw_iconst dX6_game_45 rfl ⟨by decide, by decide⟩ ?_
    exact aw_iret dX6_game_46 (by decide) (by decide) ⟨_, rfl, rfl, hV, frY.refl M x⟩
  refine aw_iload_n dX6_game_0 rfl rfl ?_
  refine aw_if_lt (tgt := 20) dX6_game_1 rfl (fun h1 => ?_) (fun h1 => ?_)
  · exact no1 (by omega)
  · refine aw_iload_n dX6_game_4 rfl rfl ?_
    refine aw_iconst dX6_game_5 rfl ⟨by decide, by decide⟩ ?_
    refine aw_icmp_gt (tgt := 20) dX6_game_6 rfl (fun h6 => ?_) (fun h6 => ?_)
    · exact no1 (by omega)
    · refine aw_iload_n dX6_game_9 rfl rfl ?_
      refine aw_if_lt (tgt := 20) dX6_game_10 rfl (fun h10 => ?_) (fun h10 => ?_)
      · exact no1 (by omega)
      · refine aw_iload_n dX6_game_13 rfl rfl ?_
        refine aw_sipush dX6_game_14 (by decide) ⟨by decide, by decide⟩ ?_
        refine aw_icmp_le (tgt := 22) dX6_game_17 rfl (fun h17 => ?_) (fun h17 => ?_)
        · refine aw_iload_n dX6_game_22 rfl rfl ?_
          refine aw_iconst dX6_game_23 rfl ⟨by decide, by decide⟩ ?_
          refine aw_icmp_lt (tgt := 45) dX6_game_24 rfl (fun h24 => ?_) (fun h24 => ?_)
          · exact no2 (by omega)
          · refine aw_iload_n dX6_game_27 rfl rfl ?_
            refine aw_sipush dX6_game_28 (by decide) ⟨by decide, by decide⟩ ?_
            refine aw_icmp_gt (tgt := 45) dX6_game_31 rfl (fun h31 => ?_) (fun h31 => ?_)
            · exact no2 (by omega)
            · refine aw_iload dX6_game_34 rfl ?_
              refine aw_if_lt (tgt := 45) dX6_game_36 rfl (fun h36 => ?_) (fun h36 => ?_)
              · exact no2 (by omega)
              · refine aw_iload dX6_game_39 rfl ?_
                refine aw_iconst dX6_game_41 rfl ⟨by decide, by decide⟩ ?_
                refine aw_icmp_le (tgt := 47) dX6_game_42 rfl (fun h42 => ?_) (fun h42 => ?_)
                · have hy : (0 ≤ br ∧ br ≤ 3) ∧ (0 ≤ sd ∧ sd ≤ 9999) ∧ (1 ≤ n ∧ n ≤ 200) ∧ 0 ≤ w ∧ w ≤ 5 := by omega
                  rw [if_pos hy] at hV
                  obtain ⟨N, hN⟩ : ∃ N : Nat, (N : Int) = n := ⟨n.toNat, by omega⟩
                  subst hN
                  rw [Int.toNat_natCast] at hV
                  obtain ⟨a1, a2, a3⟩ := apS_wf w1 hy.1.1 hy.1.2
                  refine aw_aload_n dX6_game_47 rfl rfl ⟨by decide, by decide⟩ ?_
                  refine aw_iload_n dX6_game_48 rfl rfl ?_
                  refine aw_cV1v dX6_game_49 ml_RX6_277 (by assumption) (by decide) rfl rfl ⟨by decide, by decide, by decide, by decide⟩ (Nat.le_of_ble_eq_true rfl) (sp_cbeginApart hK0 M hg hB ht0 br) (fun M1 hM1 => ?_)
                  obtain ⟨t1, f1⟩ := hM1
                  have hpl := sp_playOnTrial hK0 M1 t1 a1 (by omega) sd N (by omega) (by omega) (by omega)
                  have hgw : ∀ (d : Nat) (y : Int) (U : hSt), 0 ≤ y → WL U → WL (gmS d y U) := by
                    intro d
                    induction d with
                    | zero => intro y U _ hU; exact hU
                    | succ d ih =>
                      intro y U y0 hU
                      exact ih _ _ (dr_in (dr_in (dr_in (dr_in y0).1).1).1).1 (gm1_wf hU y0).1
                  have wG := hgw N sd (apS (ch a) br) (by omega) a1
                  generalize hb0 : (apS (ch a) br).1 = b0 at *
                  generalize gmS N sd (apS (ch a) br) = G at *
                  refine aw_aload_n dX6_game_52 rfl rfl ⟨by decide, by decide⟩ ?_
                  refine aw_iload_n dX6_game_53 rfl rfl ?_
                  refine aw_iload_n dX6_game_54 rfl rfl ?_
                  refine aw_cV2v dX6_game_55 ml_RX6_280 (by assumption) (by decide) rfl rfl ⟨by decide, by decide, by decide, by decide⟩ (Nat.le_of_ble_eq_true rfl) (hpl) (fun M2 hM2 => ?_)
                  obtain ⟨t2, f2⟩ := hM2
                  have g2 := f1.trans f2
                  unfold gtV at hV
                  refine aw_iload dX6_game_58 rfl ?_
                  by_cases q : w = 0
                  · subst q
                    rw [if_pos rfl] at hV
                    refine aw_tsIn (tgt := 96) dX6_game_60 (by omega) (by omega) rfl rfl ?_
                    refine aw_aload_n dX6_game_96 rfl rfl ⟨by decide, by decide⟩ ?_
                    refine aw_iconst dX6_game_97 rfl ⟨by decide, by decide⟩ ?_
                    refine aw_cV1p dX6_game_98 ml_RX6_178 (by assumption) (by decide) rfl rfl ⟨by decide, by decide, by decide, by decide⟩ (Nat.le_of_ble_eq_true rfl) (sp_onTrial hK0 M2 t2 1 (by omega) (by omega)) ?_
                    exact aw_iret dX6_game_101 (by decide) (by decide) ⟨_, rfl, rfl, hV, g2⟩
                  rw [if_neg q] at hV
                  by_cases q : w = 1
                  · subst q
                    rw [if_pos rfl] at hV
                    refine aw_tsIn (tgt := 102) dX6_game_60 (by omega) (by omega) rfl rfl ?_
                    refine aw_aload_n dX6_game_102 rfl rfl ⟨by decide, by decide⟩ ?_
                    refine aw_iconst dX6_game_103 rfl ⟨by decide, by decide⟩ ?_
                    refine aw_cV1p dX6_game_104 ml_RX6_178 (by assumption) (by decide) rfl rfl ⟨by decide, by decide, by decide, by decide⟩ (Nat.le_of_ble_eq_true rfl) (sp_onTrial hK0 M2 t2 3 (by omega) (by omega)) ?_
                    exact aw_iret dX6_game_107 (by decide) (by decide) ⟨_, rfl, rfl, hV, g2⟩
                  rw [if_neg q] at hV
                  by_cases q : w = 2
                  · subst q
                    rw [if_pos rfl] at hV
                    refine aw_tsIn (tgt := 108) dX6_game_60 (by omega) (by omega) rfl rfl ?_
                    refine aw_aload_n dX6_game_108 rfl rfl ⟨by decide, by decide⟩ ?_
                    refine aw_iconst dX6_game_109 rfl ⟨by decide, by decide⟩ ?_
                    refine aw_cV1p dX6_game_110 ml_RX6_178 (by assumption) (by decide) rfl rfl ⟨by decide, by decide, by decide, by decide⟩ (Nat.le_of_ble_eq_true rfl) (sp_onTrial hK0 M2 t2 2 (by omega) (by omega)) ?_
                    exact aw_iret dX6_game_113 (by decide) (by decide) ⟨_, rfl, rfl, hV, g2⟩
                  rw [if_neg q] at hV
                  by_cases q : w = 3
                  · subst q
                    rw [if_pos rfl] at hV
                    refine aw_tsIn (tgt := 114) dX6_game_60 (by omega) (by omega) rfl rfl ?_
                    refine aw_aload_n dX6_game_114 rfl rfl ⟨by decide, by decide⟩ ?_
                    refine aw_iconst dX6_game_115 rfl ⟨by decide, by decide⟩ ?_
                    refine aw_cV1p dX6_game_116 ml_RX6_178 (by assumption) (by decide) rfl rfl ⟨by decide, by decide, by decide, by decide⟩ (Nat.le_of_ble_eq_true rfl) (sp_onTrial hK0 M2 t2 0 (by omega) (by omega)) ?_
                    exact aw_iret dX6_game_119 (by decide) (by decide) ⟨_, rfl, rfl, hV, g2⟩
                  rw [if_neg q] at hV
                  by_cases q : w = 4
                  · subst q
                    rw [if_pos rfl] at hV
                    refine aw_tsIn (tgt := 120) dX6_game_60 (by omega) (by omega) rfl rfl ?_
                    refine aw_aload_n dX6_game_120 rfl rfl ⟨by decide, by decide⟩ ?_
                    refine aw_iconst dX6_game_121 rfl ⟨by decide, by decide⟩ ?_
                    refine aw_cV1p dX6_game_122 ml_RX6_178 (by assumption) (by decide) rfl rfl ⟨by decide, by decide, by decide, by decide⟩ (Nat.le_of_ble_eq_true rfl) (sp_onTrial hK0 M2 t2 4 (by omega) (by omega)) ?_
                    exact aw_iret dX6_game_125 (by decide) (by decide) ⟨_, rfl, rfl, hV, g2⟩
                  rw [if_neg q] at hV
                  refine aw_tsOut (tgt := 126) dX6_game_60 (by omega) rfl ?_
                  refine aw_aload_n dX6_game_126 rfl rfl ⟨by decide, by decide⟩ ?_
                  refine aw_gzF 6 dX6_game_127 fl_RX6_33 (by assumption) rfl rfl (by assumption) ?_
                  refine aw_cV0p dX6_game_130 ml_RX6_181 (by assumption) (by decide) rfl rfl ⟨by decide, by decide, by decide, by decide⟩ (Nat.le_of_ble_eq_true rfl) (sp_objects hT4 M2 (WR_of wG.1) t2.1.2.2.2.2.1 t2.1.2.2.2.2.2.2.2.2.2.2.1) ?_
                  exact aw_iret dX6_game_133 (by decide) (by decide) ⟨_, rfl, rfl, hV, g2⟩
                · exact no2 (by omega)
        · exact no1 (by omega)
end TX2
