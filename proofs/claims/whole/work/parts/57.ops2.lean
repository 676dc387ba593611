/-! Heap.put, Heap.strengthen -/
theorem put1_wl {S : hSt} (h : WL S) {r f : Int} (r0 : 0 ≤ r) (r1 : r < 6) (hf : hasF S (S.1 (715 + r)) f) : WL (put1 S r f) ∧ (∀ v, nok (put1 S r f).1 v ↔ nok S.1 v) ∧ (∀ x, 128 ≤ x → (put1 S r f).1 x = S.1 x) ∧ ∀ b, ob (put1 S r f).1 b ↔ ob S.1 b := by
  obtain ⟨i1, i2, i3⟩ := has_in h r0 r1 hf
  unfold put1
  split
  · refine ⟨greyS_wl h i3, fun v => ?_, fun x hx => greyS_big _ _ (nok_lt i3) x hx, fun b => greyS_ob i3 b⟩
    unfold nok
    rw [greyS_ob i3]
  · exact ⟨h, fun _ => Iff.rfl, fun _ _ => rfl, fun _ => Iff.rfl⟩
theorem namV_nok {S : hSt} (h : WL S) {o : Int} (ho : o = -1 ∨ 0 ≤ o ∧ o < 6) : nok S.1 (namV S o) := by
  unfold namV
  split
  · exact Or.inl rfl
  · exact nam_nok h (by omega) (by omega)
theorem put2_wl {S : hSt} (h : WL S) {r f o : Int} (r0 : 0 ≤ r) (r1 : r < 6) (ho : o = -1 ∨ 0 ≤ o ∧ o < 6) (hf : hasF S (S.1 (715 + r)) f) : WL (put2 S r f o) ∧ nok (put2 S r f o).1 (namV S o) ∧ (put2 S r f o).1 735 = S.1 735 ∧ (put2 S r f o).1 729 = S.1 729 := by
  obtain ⟨i1, i2, i3⟩ := has_in h r0 r1 hf
  obtain ⟨p1, p2, p3, p4⟩ := put1_wl h r0 r1 hf
  have hn := (p2 _).mpr (namV_nok h ho)
  refine ⟨nameS_wl p1 (Or.inl ⟨i1, i2⟩) hn, (nok_gu (by omega) (by omega)).mpr hn, ?_, ?_⟩
  · show gu (put1 S r f).1 _ _ 735 = _
    rw [gu_n _ _ (by omega), p3 _ (by omega)]
  · show gu (put1 S r f).1 _ _ 729 = _
    rw [gu_n _ _ (by omega), p3 _ (by omega)]
theorem putS_wl {S : hSt} (h : WL S) {r f o : Int} (r0 : 0 ≤ r) (r1 : r < 6) (ho : o = -1 ∨ 0 ≤ o ∧ o < 6) (hf : hasF S (S.1 (715 + r)) f) : WL (putS S r f o) ∧ (putS S r f o).1 729 = S.1 729 := by
  obtain ⟨p1, p2, p3, p4⟩ := put2_wl h r0 r1 ho hf
  unfold putS
  split
  · exact ⟨greyS_wl p1 p2, by rw [greyS_big _ _ (nok_lt p2) 729 (by omega)]; exact p4⟩
  · exact ⟨p1, p4⟩
theorem strS_wl {S : hSt} (h : WL S) {r w : Int} (r0 : 0 ≤ r) (r1 : r < 6) (w0 : 0 ≤ w) (w1 : w < 4) : WL (strS S r w) ∧ (strS S r w).1 729 = S.1 729 := by
  have i3 := nam_nok h (x := 721 + w) (by omega) (by omega)
  have hw1 := nameS_wl h (x := 715 + r) (v := S.1 (721 + w)) (by omega) i3
  have hn : nok (nameS S (715 + r) (S.1 (721 + w))).1 (S.1 (721 + w)) := (nok_gu (by omega) (by omega)).mpr i3
  have e : gu S.1 (715 + r) (S.1 (721 + w)) 729 = S.1 729 := gu_n _ _ (by omega)
  unfold strS
  split
  · exact ⟨greyS_wl hw1 hn, by rw [greyS_big _ _ (nok_lt hn) 729 (by omega)]; exact e⟩
  · exact ⟨hw1, e⟩
set_option maxRecDepth 20000 in
set_option maxHeartbeats 1000000 in
theorem sp_put {K : az_K} {h : Int} (hK : HpK K h) (M : az_M) {S : hSt} (hc : HS M h S) (hw : WL S) (r f o : Int) (r0 : 0 ≤ r) (r1 : r < 6) (ho : o = -1 ∨ 0 ≤ o ∧ o < 6) : AM yX0_put cX0_put 5 (some .boolean) 3 0 0 [(1, h), (0, r), (0, f), (0, o)] K M (qi K (fun z M' => (hasF S (S.1 (715 + r)) f → z = 1 ∧ HS M' h (putS S r f o)) ∧ (¬ hasF S (S.1 (715 + r)) f → z = 0 ∧ HS M' h S) ∧ frH M M' h)) := by
  have hK0 := hK
  obtain ⟨hRg, kh, k6, k7, k8, k9, k10, k11, k12, k13, k14, z0, z1, z2, z3, z4, z5, z6, z7, z8, z9⟩ := hK
  refine am_of (by decide) (Nat.le_of_ble_eq_true rfl) (L := [(1, h), (0, r), (0, f), (0, o), (9, 0)]) rfl ?_
  have hro : M (h + 9) r = S.1 (715 + r) := hc.2.2.2.2.2.1.1 r r0 r1
  obtain ⟨fc1, fc2, fc3⟩ := fCell_ok hc hw.1 (S.1 (715 + r)) f
  have hfr := sp_fieldOfRoot hK0 M r f r0 r1 (HS_ro hc) (by rw [hro]; exact fc3)
  rw [hro] at hfr
  by_cases hh : hasF S (S.1 (715 + r)) f
  · have hob := has_ob hw r0 r1 hh
    have hcell := fc1 ⟨hob, hh.2.1, hh.2.2⟩
    rw [hcell] at hfr
    obtain ⟨i1, i2, i3⟩ := has_in hw r0 r1 hh
    obtain ⟨p1, p2, p3, p4⟩ := put1_wl hw r0 r1 hh
    obtain ⟨u1, u2, u3, -⟩ := put2_wl hw r0 r1 ho hh
    have b0 := hob.1.1
    have hf0 := hh.2.1
    obtain ⟨x, hx⟩ : ∃ x, x = S.1 (715 + r) + 1 + f := ⟨_, rfl⟩
    rw [← hx] at hfr
    have hx2 : 256 + S.1 (715 + r) + 1 + f = 256 + x := by omega
    rw [hx2] at i1 i2 i3
    have v28 : M (h + 6) x = S.1 (256 + x) := by
      have := ((hc.2.2.1 _ hob.1).2 hob.2).2 f hh.2.1 hh.2.2
      rw [← hx, hx2] at this
      exact this
    have v21 : M (h + 12) 0 = S.1 735 := hc.2.2.2.2.2.2.2.1 0 (by omega) (by omega)
    have rest : ∀ M1, HS M1 h (put1 S r f) → frH M M1 h → AW az_P0 (az_Z (qi K (fun z M' => (hasF S (S.1 (715 + r)) f → z = 1 ∧ HS M' h (putS S r f o)) ∧ (¬ hasF S (S.1 (715 + r)) f → z = 0 ∧ HS M' h S) ∧ frH M M' h)) 0 0) (az_rm 3 0 0) yX0_put cX0_put 5 (some .boolean) 0 0 40 [(1, h), (0, r), (0, f), (0, o), (0, x)] [] K M1 := by
      intro M1 hs1 hf1
      have v48 : (if o = -1 then -1 else M1 (h + 9) o) = namV S o := by
        unfold namV
        split
        · rfl
        · rw [hs1.2.2.2.2.2.1.1 o (by omega) (by omega), p3 _ (by omega)]
      refine aw_aload_n dX0_put_40 rfl rfl ⟨by decide, by decide⟩ ?_
      refine aw_gzF 1 dX0_put_41 fl_RX0_18 (by assumption) rfl rfl (by assumption) ?_
      refine aw_iload dX0_put_44 rfl ?_
      refine aw_aload_n dX0_put_46 rfl rfl ⟨by decide, by decide⟩ ?_
      refine aw_iload_n dX0_put_47 rfl rfl ?_
      refine aw_cV1p dX0_put_48 ml_RX0_157 (by assumption) (by decide) rfl rfl ⟨by decide, by decide, by decide, by decide⟩ (Nat.le_of_ble_eq_true rfl) (qp_c (sp_rootOrNone hK0 M1 o ho) v48) ?_
      refine aw_iast dX0_put_51 (by assumption) (by omega) (by omega) ?_
      have hs2 : HS (az_up M1 (h + 6) x (namV S o)) h (put2 S r f o) := by
        have hl : f < (put1 S r f).1 (128 + S.1 (715 + r)) := by rw [p3 _ (by omega)]; exact hh.2.2
        have := HC_cell (v := namV S o) hs1 p1.1.1 p1.1.2.2.2.1 ((p4 _).mpr hob) hf0 hl
        rw [← hx] at this
        exact this
      have hf2 : frH M (az_up M1 (h + 6) x (namV S o)) h := fun b hb => by rw [up_oth _ _ _ (by omega)]; exact hf1 b hb
      have v57 : az_up M1 (h + 6) x (namV S o) (h + 12) 0 = S.1 735 := by rw [up_oth _ _ _ (by omega), hs1.2.2.2.2.2.2.2.1 0 (by omega) (by omega)]; exact p3 _ (by omega)
      have v77 : az_up M1 (h + 6) x (namV S o) (h + 6) x = namV S o := az_up_s _ _ _ _
      generalize az_up M1 (h + 6) x (namV S o) = M2 at hs2 hf2 v57 v77
      refine aw_aload_n dX0_put_52 rfl rfl ⟨by decide, by decide⟩ ?_
      refine aw_gzF 7 dX0_put_53 fl_RX0_37 (by assumption) rfl rfl (by assumption) ?_
      refine aw_iconst dX0_put_56 rfl ⟨by decide, by decide⟩ ?_
      refine aw_iv dX0_put_57 (by assumption) (by omega) (by omega) v57 ?_
      refine aw_iconst dX0_put_58 rfl ⟨by decide, by decide⟩ ?_
      refine aw_icmp_ne (tgt := 76) dX0_put_59 rfl (fun h59 => ?_) (fun h59 => ?_)
      · refine aw_iconst dX0_put_76 rfl ⟨by decide, by decide⟩ ?_
        refine aw_zret dX0_put_77 (by omega) (by decide) (by decide) ⟨_, rfl, rfl, fun _ => ⟨rfl, ?_⟩, fun q => absurd hh q, hf2⟩
        unfold putS; rw [if_neg h59]; exact hs2
      · have hsh := sp_shade (S := put2 S r f o) hK0 M2 hs2 u1.1 (h + 6) x (x + 1) 128 1 k6 (by omega) (by omega) (by omega) (by omega) (by omega) (fun i hi => by
          have : i = 0 := by omega
          subst this
          rw [show x + ((0 : Nat) : Int) = x by omega, v77]; exact u2)
        refine aw_aload_n dX0_put_62 rfl rfl ⟨by decide, by decide⟩ ?_
        refine aw_aload_n dX0_put_63 rfl rfl ⟨by decide, by decide⟩ ?_
        refine aw_gzF 1 dX0_put_64 fl_RX0_18 (by assumption) rfl rfl (by assumption) ?_
        refine aw_iload dX0_put_67 rfl ?_
        refine aw_iload dX0_put_69 rfl ?_
        refine aw_iconst dX0_put_71 rfl ⟨by decide, by decide⟩ ?_
        refine aw_iadd dX0_put_72 (az_wr_id (by omega) (by omega)) ?_
        refine aw_cV3v dX0_put_73 ml_RX0_109 (by assumption) (by decide) rfl rfl ⟨by decide, by decide, by decide, by decide⟩ (Nat.le_of_ble_eq_true rfl) (hsh) (fun M3 hM3 => ?_)
        refine aw_iconst dX0_put_76 rfl ⟨by decide, by decide⟩ ?_
        refine aw_zret dX0_put_77 (by omega) (by decide) (by decide) ⟨_, rfl, rfl, fun _ => ⟨rfl, ?_⟩, fun q => absurd hh q, fun b hb => by rw [hM3.2.1 b (by omega) (by omega) (by omega)]; exact hf2 b hb⟩
        unfold putS; rw [if_pos h59]
        have h2 : HS M3 h (greyS (put2 S r f o) (M2 (h + 6) (x + ((0 : Nat) : Int)))) := hM3.1
        rw [show x + ((0 : Nat) : Int) = x by omega, v77] at h2
        exact h2
    refine aw_aload_n dX0_put_0 rfl rfl ⟨by decide, by decide⟩ ?_
    refine aw_iload_n dX0_put_1 rfl rfl ?_
    refine aw_iload_n dX0_put_2 rfl rfl ?_
    refine aw_cV2p dX0_put_3 ml_RX0_154 (by assumption) (by decide) rfl rfl ⟨by decide, by decide, by decide, by decide⟩ (Nat.le_of_ble_eq_true rfl) (hfr) ?_
    refine aw_istore dX0_put_6 (by decide) ?_
    refine aw_iload dX0_put_8 rfl ?_
    refine aw_iconst dX0_put_10 rfl ⟨by decide, by decide⟩ ?_
    refine aw_icmp_ne (tgt := 16) dX0_put_11 rfl (fun h11 => ?_) (fun h11 => absurd h11 (by omega))
    refine aw_aload_n dX0_put_16 rfl rfl ⟨by decide, by decide⟩ ?_
    refine aw_gzF 7 dX0_put_17 fl_RX0_37 (by assumption) rfl rfl (by assumption) ?_
    refine aw_iconst dX0_put_20 rfl ⟨by decide, by decide⟩ ?_
    refine aw_iv dX0_put_21 (by assumption) (by omega) (by omega) v21 ?_
    refine aw_iconst dX0_put_22 rfl ⟨by decide, by decide⟩ ?_
    refine aw_icmp_ne (tgt := 40) dX0_put_23 rfl (fun h23 => ?_) (fun h23 => ?_)
    · refine rest M ?_ (frH.refl M h)
      unfold put1; rw [if_neg h23]; exact hc
    · have hsh := sp_shade (S := S) hK0 M hc hw.1 (h + 6) x (x + 1) 128 1 k6 (by omega) (by omega) (by omega) (by omega) (by omega) (fun i hi => by
        have : i = 0 := by omega
        subst this
        rw [show x + ((0 : Nat) : Int) = x by omega, v28]; exact i3)
      refine aw_aload_n dX0_put_26 rfl rfl ⟨by decide, by decide⟩ ?_
      refine aw_aload_n dX0_put_27 rfl rfl ⟨by decide, by decide⟩ ?_
      refine aw_gzF 1 dX0_put_28 fl_RX0_18 (by assumption) rfl rfl (by assumption) ?_
      refine aw_iload dX0_put_31 rfl ?_
      refine aw_iload dX0_put_33 rfl ?_
      refine aw_iconst dX0_put_35 rfl ⟨by decide, by decide⟩ ?_
      refine aw_iadd dX0_put_36 (az_wr_id (by omega) (by omega)) ?_
      refine aw_cV3v dX0_put_37 ml_RX0_109 (by assumption) (by decide) rfl rfl ⟨by decide, by decide, by decide, by decide⟩ (Nat.le_of_ble_eq_true rfl) (hsh) (fun M1 hM1 => ?_)
      refine rest M1 ?_ (fun b hb => hM1.2.1 b (by omega) (by omega) (by omega))
      unfold put1; rw [if_pos h23]
      have h2 : HS M1 h (greyS S (M (h + 6) (x + ((0 : Nat) : Int)))) := hM1.1
      rw [show x + ((0 : Nat) : Int) = x by omega, v28] at h2
      rw [hx2]
      exact h2
  · have hcell := fc2 (fun q => hh ⟨q.1.1.1, q.2⟩)
    rw [hcell] at hfr
    refine aw_aload_n dX0_put_0 rfl rfl ⟨by decide, by decide⟩ ?_
    refine aw_iload_n dX0_put_1 rfl rfl ?_
    refine aw_iload_n dX0_put_2 rfl rfl ?_
    refine aw_cV2p dX0_put_3 ml_RX0_154 (by assumption) (by decide) rfl rfl ⟨by decide, by decide, by decide, by decide⟩ (Nat.le_of_ble_eq_true rfl) (hfr) ?_
    refine aw_istore dX0_put_6 (by decide) ?_
    refine aw_iload dX0_put_8 rfl ?_
    refine aw_iconst dX0_put_10 rfl ⟨by decide, by decide⟩ ?_
    refine aw_icmp_ne (tgt := 16) dX0_put_11 rfl (fun h11 => absurd h11 (by omega)) (fun h11 => ?_)
    refine aw_iconst dX0_put_14 rfl ⟨by decide, by decide⟩ ?_
    exact aw_zret dX0_put_15 (by omega) (by decide) (by decide) ⟨_, rfl, rfl, fun q => absurd q hh, fun _ => ⟨rfl, hc⟩, frH.refl M h⟩
set_option maxRecDepth 20000 in
set_option maxHeartbeats 1000000 in
theorem sp_strengthen {K : az_K} {h : Int} (hK : HpK K h) (M : az_M) {S : hSt} (hc : HS M h S) (hw : WL S) (r w : Int) (r0 : 0 ≤ r) (r1 : r < 6) (w0 : 0 ≤ w) (w1 : w < 4) : AM yX0_strengthen cX0_strengthen 3 (some .int) 2 0 0 [(1, h), (0, r), (0, w)] K M (qi K (fun z M' => z = S.1 (721 + w) ∧ HS M' h (strS S r w) ∧ frH M M' h)) := by
  have hK0 := hK
  obtain ⟨hRg, kh, k6, k7, k8, k9, k10, k11, k12, k13, k14, z0, z1, z2, z3, z4, z5, z6, z7, z8, z9⟩ := hK
  refine am_of (by decide) (Nat.le_of_ble_eq_true rfl) (L := [(1, h), (0, r), (0, w)]) rfl ?_
  have v10 : M (h + 10) w = S.1 (721 + w) := hc.2.2.2.2.2.1.2 w w0 w1
  have i3 := nam_nok hw (x := 721 + w) (by omega) (by omega)
  obtain ⟨v, hv⟩ : ∃ v, v = S.1 (721 + w) := ⟨_, rfl⟩
  rw [← hv] at v10 i3 ⊢
  have hS : strS S r w = if S.1 735 ≠ 3 then greyS (nameS S (715 + r) v) v else nameS S (715 + r) v := by rw [hv]; rfl
  refine aw_aload_n dX0_strengthen_0 rfl rfl ⟨by decide, by decide⟩ ?_
  refine aw_gzF 4 dX0_strengthen_1 fl_RX0_28 (by assumption) rfl rfl (by assumption) ?_
  refine aw_iload_n dX0_strengthen_4 rfl rfl ?_
  refine aw_aload_n dX0_strengthen_5 rfl rfl ⟨by decide, by decide⟩ ?_
  refine aw_gzF 5 dX0_strengthen_6 fl_RX0_31 (by assumption) rfl rfl (by assumption) ?_
  refine aw_iload_n dX0_strengthen_9 rfl rfl ?_
  refine aw_iv dX0_strengthen_10 (by assumption) (by omega) (by omega) v10 ?_
  refine aw_iast dX0_strengthen_11 (by assumption) (by omega) (by omega) ?_
  have hs1 : HS (az_up M (h + 9) r v) h (nameS S (715 + r) v) := HC_root hc hw.1.1 hw.1.2.2.2.1 r0 r1
  have hw1 := nameS_wl hw (x := 715 + r) (v := v) (by omega) i3
  have hn : nok (nameS S (715 + r) v).1 v := (nok_gu (by omega) (by omega)).mpr i3
  have v17 : az_up M (h + 9) r v (h + 12) 0 = S.1 735 := by rw [up_oth _ _ _ (by omega)]; exact hc.2.2.2.2.2.2.2.1 0 (by omega) (by omega)
  have v56 : az_up M (h + 9) r v (h + 9) r = v := az_up_s _ _ _ _
  have hf1 : frH M (az_up M (h + 9) r v) h := fun b hb => up_oth _ _ _ (by omega)
  generalize az_up M (h + 9) r v = M1 at hs1 v17 v56 hf1
  refine aw_aload_n dX0_strengthen_12 rfl rfl ⟨by decide, by decide⟩ ?_
  refine aw_gzF 7 dX0_strengthen_13 fl_RX0_37 (by assumption) rfl rfl (by assumption) ?_
  refine aw_iconst dX0_strengthen_16 rfl ⟨by decide, by decide⟩ ?_
  refine aw_iv dX0_strengthen_17 (by assumption) (by omega) (by omega) v17 ?_
  refine aw_iconst dX0_strengthen_18 rfl ⟨by decide, by decide⟩ ?_
  refine aw_icmp_eq (tgt := 34) dX0_strengthen_19 rfl (fun h19 => ?_) (fun h19 => ?_)
  · refine aw_aload_n dX0_strengthen_34 rfl rfl ⟨by decide, by decide⟩ ?_
    refine aw_gzF 4 dX0_strengthen_35 fl_RX0_28 (by assumption) rfl rfl (by assumption) ?_
    refine aw_iload_n dX0_strengthen_38 rfl rfl ?_
    refine aw_iv dX0_strengthen_39 (by assumption) (by omega) (by omega) v56 ?_
    refine aw_iret dX0_strengthen_40 (by decide) (by decide) ⟨_, rfl, rfl, rfl, ?_, hf1⟩
    rw [hS, if_neg (by omega)]; exact hs1
  · have hsh := sp_shade (S := nameS S (715 + r) v) hK0 M1 hs1 hw1.1 (h + 9) r (r + 1) 6 1 k9 (by omega) (by omega) (by omega) (by omega) (by omega) (fun i hi => by
      have : i = 0 := by omega
      subst this
      rw [show r + ((0 : Nat) : Int) = r by omega, v56]; exact hn)
    refine aw_aload_n dX0_strengthen_22 rfl rfl ⟨by decide, by decide⟩ ?_
    refine aw_aload_n dX0_strengthen_23 rfl rfl ⟨by decide, by decide⟩ ?_
    refine aw_gzF 4 dX0_strengthen_24 fl_RX0_28 (by assumption) rfl rfl (by assumption) ?_
    refine aw_iload_n dX0_strengthen_27 rfl rfl ?_
    refine aw_iload_n dX0_strengthen_28 rfl rfl ?_
    refine aw_iconst dX0_strengthen_29 rfl ⟨by decide, by decide⟩ ?_
    refine aw_iadd dX0_strengthen_30 (az_wr_id (by omega) (by omega)) ?_
    refine aw_cV3v dX0_strengthen_31 ml_RX0_109 (by assumption) (by decide) rfl rfl ⟨by decide, by decide, by decide, by decide⟩ (Nat.le_of_ble_eq_true rfl) (hsh) (fun M2 hM2 => ?_)
    have v56' : M2 (h + 9) r = v := by rw [hM2.2.1 _ (by omega) (by omega) (by omega)]; exact v56
    refine aw_aload_n dX0_strengthen_34 rfl rfl ⟨by decide, by decide⟩ ?_
    refine aw_gzF 4 dX0_strengthen_35 fl_RX0_28 (by assumption) rfl rfl (by assumption) ?_
    refine aw_iload_n dX0_strengthen_38 rfl rfl ?_
    refine aw_iv dX0_strengthen_39 (by assumption) (by omega) (by omega) v56' ?_
    refine aw_iret dX0_strengthen_40 (by decide) (by decide) ⟨_, rfl, rfl, rfl, ?_, fun b hb => by rw [hM2.2.1 b (by omega) (by omega) (by omega)]; exact hf1 b hb⟩
    rw [hS, if_pos (by omega)]
    have h2 : HS M2 h (greyS (nameS S (715 + r) v) (M1 (h + 9) (r + ((0 : Nat) : Int)))) := hM2.1
    rw [show r + ((0 : Nat) : Int) = r by omega, v56] at h2
    exact h2
