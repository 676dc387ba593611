/-! Reach: what is reached -/
set_option maxRecDepth 20000
def ReK (K : az_K) (q : Int) : Prop := az_at K q (1, 3) ∧ az_at K (q + 1) (100, 128) ∧ az_at K (q + 2) (100, 64) ∧ K.2 q 0 = some (q + 1) ∧ K.2 q 1 = some (q + 2)
def CR (M : az_M) (q wo : Int) (st : rSt) : Prop := M q 2 = (st.1.length : Int) ∧ (∀ i : Nat, i < st.1.length → M (q + 2) i = st.1.getD i 0) ∧ ∀ a, 0 ≤ a → a < 128 → M (q + 1) a = if a = wo then 0 else st.2 a
def frE (M M' : az_M) (q : Int) : Prop := (∀ b, b < q ∨ q + 2 < b → M' b = M b) ∧ ∀ j, j ≠ 2 → M' q j = M q j
theorem frE.refl (M : az_M) (q : Int) : frE M M q := ⟨fun _ _ => rfl, fun _ _ => rfl⟩
theorem frE.trans {M M1 M2 : az_M} {q : Int} (p : frE M M1 q) (r : frE M1 M2 q) : frE M M2 q := ⟨fun b h => (r.1 b h).trans (p.1 b h), fun j h => (r.2 j h).trans (p.2 j h)⟩
section CE
variable {K : az_K} {q h : Int} {S : hSt} {wo : Int} {st : rSt}
theorem sp_visit (hK : ReK K q) (M : az_M) {g : Int → Int} (hp : w_pg g) (hr : CR M q wo st) (hq : qk g wo st) (hn : qn st) (a d : Int) (ha : nok g a) : AM yX1_visit cX1_visit 3 none 0 0 0 [(1, q), (0, a), (0, d)] K M (qv K (fun M' => CR M' q wo (vis wo st a d) ∧ frE M M' q)) := by
  obtain ⟨k0, k1, k2, y0, y1⟩ := hK
  refine am_of (by decide) (Nat.le_of_ble_eq_true rfl) (L := [(1, q), (0, a), (0, d)]) rfl ?_
  obtain ⟨r1, r2, r3⟩ := hr
  have hvi : vis wo st a d = if a = -1 ∨ a = wo ∨ a ∈ st.1 then st else (st.1 ++ [a], gu st.2 a d) := rfl
  have hlt := nok_lt ha
  have no : (a = -1 ∨ a = wo ∨ a ∈ st.1) → AW az_P0 (az_Z (qv K (fun M' => CR M' q wo (vis wo st a d) ∧ frE M M' q)) 0 0) (az_rm 0 0 0) yX1_visit cX1_visit 3 none 0 0 42 [(1, q), (0, a), (0, d)] [] K M := by
    intro h
    rw [hvi, if_pos h]
    exact aw_vret dX1_visit_42 (by decide) (by decide) ⟨rfl, rfl, ⟨r1, r2, r3⟩, frE.refl M q⟩
  refine aw_iload_n dX1_visit_0 rfl rfl ?_
  refine aw_iconst dX1_visit_1 rfl ⟨by decide, by decide⟩ ?_
  refine aw_icmp_eq (tgt := 42) dX1_visit_2 rfl (fun h2 => ?_) (fun h2 => ?_)
  · exact no (Or.inl h2)
  · have a0 : 0 ≤ a := by
      rcases ha with e | e
      · exact absurd e h2
      · exact e.1.1
    have v10 := r3 a a0 hlt
    refine aw_aload_n dX1_visit_5 rfl rfl ⟨by decide, by decide⟩ ?_
    refine aw_gzF 0 dX1_visit_6 fl_RX1_9 (by assumption) rfl rfl (by assumption) ?_
    refine aw_iload_n dX1_visit_9 rfl rfl ?_
    refine aw_iv dX1_visit_10 (by assumption) (by omega) (by omega) v10 ?_
    refine aw_iconst dX1_visit_11 rfl ⟨by decide, by decide⟩ ?_
    refine aw_icmp_ne (tgt := 42) dX1_visit_12 rfl (fun h12 => ?_) (fun h12 => ?_)
    · refine no (Or.inr ?_)
      by_cases e : a = wo
      · exact Or.inl e
      · rw [if_neg e] at h12
        exact Or.inr (Classical.byContradiction (fun w => h12 (hn a w)))
    · have hno : ¬ (a = -1 ∨ a = wo ∨ a ∈ st.1) := by
        rintro (e | e | e)
        · exact h2 e
        · rw [if_pos e] at h12; omega
        · have := hq.2 a e
          rw [if_neg this.2.1] at h12
          omega
      rw [hvi, if_neg hno]
      have hs64 : st.1.length < 64 := by
        have hn := qk_len hp (vis_ok hq ha (d := 0) (by omega) (by omega))
        unfold vis at hn
        rw [if_neg hno] at hn
        have : (st.1 ++ [a]).length ≤ 64 := hn
        rw [List.length_append, List.length_singleton] at this
        omega
      have v27 : az_up M (q + 1) a d q 2 = (st.1.length : Int) := by rw [up_oth _ _ _ (by omega)]; exact r1
      have v34 : az_up (az_up M (q + 1) a d) (q + 2) (st.1.length : Int) a q 2 = (st.1.length : Int) := by rw [up_oth _ _ _ (by omega)]; exact v27
      refine aw_aload_n dX1_visit_15 rfl rfl ⟨by decide, by decide⟩ ?_
      refine aw_gzF 0 dX1_visit_16 fl_RX1_9 (by assumption) rfl rfl (by assumption) ?_
      refine aw_iload_n dX1_visit_19 rfl rfl ?_
      refine aw_iload_n dX1_visit_20 rfl rfl ?_
      refine aw_iast dX1_visit_21 (by assumption) (by omega) (by omega) ?_
      refine aw_aload_n dX1_visit_22 rfl rfl ⟨by decide, by decide⟩ ?_
      refine aw_gzF 1 dX1_visit_23 fl_RX1_15 (by assumption) rfl rfl (by assumption) ?_
      refine aw_aload_n dX1_visit_26 rfl rfl ⟨by decide, by decide⟩ ?_
      refine aw_gi 2 dX1_visit_27 fl_RX1_18 (by assumption) rfl rfl v27 ?_
      refine aw_iload_n dX1_visit_30 rfl rfl ?_
      refine aw_iast dX1_visit_31 (by assumption) (by omega) (by omega) ?_
      refine aw_aload_n dX1_visit_32 rfl rfl ⟨by decide, by decide⟩ ?_
      refine aw_dup dX1_visit_33 ?_
      refine aw_gi 2 dX1_visit_34 fl_RX1_18 (by assumption) rfl rfl v34 ?_
      refine aw_iconst dX1_visit_37 rfl ⟨by decide, by decide⟩ ?_
      refine aw_iadd dX1_visit_38 (az_wr_id (by omega) (by omega)) ?_
      refine aw_pi 2 dX1_visit_39 fl_RX1_18 (by assumption) rfl rfl ?_
      refine aw_vret dX1_visit_42 (by decide) (by decide) ⟨rfl, rfl, ⟨?_, fun i hi => ?_, fun b b0 b1 => ?_⟩, fun b hb => ?_, fun j hj => ?_⟩
      · rw [az_up_s]
        show _ = ((st.1 ++ [a]).length : Int)
        rw [List.length_append, List.length_singleton]; omega
      · have hi' : i < (st.1 ++ [a]).length := hi
        rw [List.length_append, List.length_singleton] at hi'
        rw [up_oth _ _ _ (by omega), up_row]
        show (if (i : Int) = (st.1.length : Int) then a else az_up M (q + 1) a d (q + 2) i) = (st.1 ++ [a]).getD i 0
        by_cases e : (i : Int) = (st.1.length : Int)
        · rw [if_pos e, List.getD_eq_getElem?_getD, List.getElem?_append_right (by omega), show i - st.1.length = 0 by omega]; rfl
        · rw [if_neg e, up_oth _ _ _ (by omega), r2 i (by omega), List.getD_eq_getElem?_getD, List.getD_eq_getElem?_getD, List.getElem?_append_left (by omega)]
      · rw [up_oth _ _ _ (by omega), up_oth _ _ _ (by omega), up_row]
        show (if b = a then d else M (q + 1) b) = if b = wo then 0 else gu st.2 a d b
        by_cases e : b = a
        · have hw : b ≠ wo := fun w => hno (Or.inr (Or.inl (e.symm.trans w)))
          rw [if_pos e, if_neg hw, e, gu_s]
        · rw [if_neg e, gu_n _ _ e]; exact r3 b b0 b1
      · rw [up_oth _ _ _ (by omega), up_oth _ _ _ (by omega), up_oth _ _ _ (by omega)]
      · rw [az_up_i _ _ _ _ hj, up_oth _ _ _ (by omega), up_oth _ _ _ (by omega)]
set_option maxHeartbeats 1000000 in
theorem sp_spread (hK : ReK K q) (hH : HpK K h) (hqh : q + 2 < h ∨ h + 14 < q) (M : az_M) (hc : HS M h S) (hw : WL S) (lo : Int) (n : Nat) (l0 : 0 ≤ lo) (l1 : lo + n ≤ 6) (wo : Int) (hwo : wo = -1 ∨ 0 ≤ wo ∧ wo < 128) : AM yX1_spread cX1_spread 8 none 1 0 0 [(1, q), (1, h), (0, lo), (0, lo + n), (0, wo)] K M (qv K (fun M' => CR M' q wo (rea S lo n wo) ∧ frE M M' q)) := by
  have hK0 := hK
  obtain ⟨k0, k1, k2, y0, y1⟩ := hK
  obtain ⟨hRg, kh, k6, k7, k8, k9, k10, k11, k12, k13, k14, z0, z1, z2, z3, z4, z5, z6, z7, z8, z9⟩ := hH
  refine am_of (by decide) (Nat.le_of_ble_eq_true rfl) (L := [(1, q), (1, h), (0, lo), (0, lo + n), (0, wo), (9, 0), (9, 0), (9, 0)]) rfl ?_
  have hre : rea S lo n wo = foV wo S.1 65 0 (rtV wo S.1 lo n ([], fun _ => -1)) := rfl
  generalize rea S lo n wo = R at hre ⊢
  have hHS : ∀ M2 : az_M, frE M M2 q → HS M2 h S := fun M2 f => HS_fr hc (fun b b0 b1 => f.1 b (by omega))
  -- the second stretch
  have outer : ∀ (k i : Nat) (s1 : rSt) (M1 : az_M) (v6 v7 : az_V), k + i = 65 → qk S.1 wo s1 → qn s1 → CR M1 q wo s1 → frE M M1 q → foV wo S.1 k i s1 = R → AW az_P0 (az_Z (qv K (fun M' => CR M' q wo R ∧ frE M M' q)) 0 0) (az_rm 1 0 0) yX1_spread cX1_spread 8 none 0 0 57 [(1, q), (1, h), (0, lo), (0, lo + n), (0, wo), (0, (i : Int)), v6, v7] [] K M1 := by
    intro k
    induction k with
    | zero =>
      intro i s1 M1 v6 v7 hki q1 qn1 r1 f1 hR1
      have hl := qk_len hw.1.1 q1
      replace hR1 : s1 = R := hR1
      subst hR1
      refine aw_iload dX1_spread_57 rfl ?_
      refine aw_aload_n dX1_spread_59 rfl rfl ⟨by decide, by decide⟩ ?_
      refine aw_gi 2 dX1_spread_60 fl_RX1_18 (by assumption) rfl rfl r1.1 ?_
      refine aw_icmp_ge (tgt := 127) dX1_spread_63 rfl (fun h63 => ?_) (fun h63 => absurd h63 (by omega))
      exact aw_vret dX1_spread_127 (by decide) (by decide) ⟨rfl, rfl, r1, f1⟩
    | succ k ih =>
      intro i s1 M1 v6 v7 hki q1 qn1 r1 f1 hR1
      have hl := qk_len hw.1.1 q1
      replace hR1 : (if i < s1.1.length then foV wo S.1 k (i + 1) (fdV wo S.1 (s1.1.getD i 0) (s1.2 (s1.1.getD i 0) + 1) (S.1 (128 + s1.1.getD i 0)).toNat s1) else s1) = R := hR1
      refine aw_iload dX1_spread_57 rfl ?_
      refine aw_aload_n dX1_spread_59 rfl rfl ⟨by decide, by decide⟩ ?_
      refine aw_gi 2 dX1_spread_60 fl_RX1_18 (by assumption) rfl rfl r1.1 ?_
      refine aw_icmp_ge (tgt := 127) dX1_spread_63 rfl (fun h63 => ?_) (fun h63 => ?_)
      · rw [if_neg (by omega)] at hR1
        subst hR1
        exact aw_vret dX1_spread_127 (by decide) (by decide) ⟨rfl, rfl, r1, f1⟩
      · have hi : i < s1.1.length := by omega
        rw [if_pos hi] at hR1
        obtain ⟨g1, g2, g3, g4⟩ := fo_fd hw q1 hi
        have hmem : s1.1.getD i 0 ∈ s1.1 := getD_mem hi
        have v72 := r1.2.1 i hi
        generalize s1.1.getD i 0 = b at *
        obtain ⟨b0, b7, b8, -⟩ := fld_in hw g4.1
        have bb0 := g4.1.1
        have bb1 := g4.1.2.1
        have bw := (q1.2 b hmem).2.1
        obtain ⟨N, hN⟩ : ∃ N : Nat, (N : Int) = S.1 (128 + b) := ⟨(S.1 (128 + b)).toNat, by omega⟩
        rw [show (S.1 (128 + b)).toNat = N by omega] at g1 hR1
        refine aw_aload_n dX1_spread_66 rfl rfl ⟨by decide, by decide⟩ ?_
        refine aw_gzF 1 dX1_spread_67 fl_RX1_15 (by assumption) rfl rfl (by assumption) ?_
        refine aw_iload dX1_spread_70 rfl ?_
        refine aw_iv dX1_spread_72 (by assumption) (by omega) (by omega) v72 ?_
        refine aw_istore dX1_spread_73 (by decide) ?_
        refine aw_iconst dX1_spread_75 rfl ⟨by decide, by decide⟩ ?_
        refine aw_istore dX1_spread_76 (by decide) ?_
        have inner : ∀ (e j : Nat) (M2 : az_M), j + e = N → CR M2 q wo (fdV wo S.1 b (s1.2 b + 1) j s1) → frE M M2 q → AW az_P0 (az_Z (qv K (fun M' => CR M' q wo R ∧ frE M M' q)) 0 0) (az_rm 1 0 0) yX1_spread cX1_spread 8 none 0 0 78 [(1, q), (1, h), (0, lo), (0, lo + n), (0, wo), (0, (i : Int)), (0, b), (0, (j : Int))] [] K M2 := by
          intro e
          induction e with
          | zero =>
            intro j M2 hj r2 f2
            have hj2 : j = N := by omega
            subst hj2
            have hcc := ((hHS M2 f2).2.2.1 b g4.1).2 g4.2
            refine aw_iload dX1_spread_78 rfl ?_
            refine aw_aload_n dX1_spread_80 rfl rfl ⟨by decide, by decide⟩ ?_
            refine aw_gzF 1 dX1_spread_81 fl_RX1_37 (by assumption) rfl rfl (by assumption) ?_
            refine aw_iload dX1_spread_84 rfl ?_
            refine aw_iv dX1_spread_86 (by assumption) (by omega) (by omega) hcc.1 ?_
            refine aw_icmp_ge (tgt := 121) dX1_spread_87 rfl (fun h87 => ?_) (fun h87 => absurd h87 (by omega))
            refine aw_iinc dX1_spread_121 rfl (az_wr_id (by omega) (by omega)) (by decide) ?_
            refine aw_goto (tgt := 57) dX1_spread_124 rfl ?_
            exact ih (i + 1) _ M2 _ _ (by omega) (fdV_ok q1 j g1 g2 g3).1 (fdV_qn qn1 _ _ _) r2 f2 hR1
          | succ e ihe =>
            intro j M2 hj r2 f2
            obtain ⟨q2, l2⟩ := fdV_ok q1 j (fun i hi => g1 i (by omega)) g2 g3
            have hcc := ((hHS M2 f2).2.2.1 b g4.1).2 g4.2
            have v102 := hcc.2 j (by omega) (by omega)
            have v109 : M2 (q + 1) b = s1.2 b := by rw [r2.2.2 b bb0 bb1, if_neg bw]; exact (l2.2.2 b hmem).2
            have hl2 := qk_len hw.1.1 q2
            refine aw_iload dX1_spread_78 rfl ?_
            refine aw_aload_n dX1_spread_80 rfl rfl ⟨by decide, by decide⟩ ?_
            refine aw_gzF 1 dX1_spread_81 fl_RX1_37 (by assumption) rfl rfl (by assumption) ?_
            refine aw_iload dX1_spread_84 rfl ?_
            refine aw_iv dX1_spread_86 (by assumption) (by omega) (by omega) hcc.1 ?_
            refine aw_icmp_ge (tgt := 121) dX1_spread_87 rfl (fun h87 => absurd h87 (by omega)) (fun h87 => ?_)
            refine aw_aload_n dX1_spread_90 rfl rfl ⟨by decide, by decide⟩ ?_
            refine aw_aload_n dX1_spread_91 rfl rfl ⟨by decide, by decide⟩ ?_
            refine aw_gzF 1 dX1_spread_92 fl_RX1_37 (by assumption) rfl rfl (by assumption) ?_
            refine aw_iload dX1_spread_95 rfl ?_
            refine aw_iconst dX1_spread_97 rfl ⟨by decide, by decide⟩ ?_
            refine aw_iadd dX1_spread_98 (az_wr_id (by omega) (by omega)) ?_
            refine aw_iload dX1_spread_99 rfl ?_
            refine aw_iadd dX1_spread_101 (az_wr_id (by omega) (by omega)) ?_
            refine aw_iv dX1_spread_102 (by assumption) (by omega) (by omega) v102 ?_
            refine aw_aload_n dX1_spread_103 rfl rfl ⟨by decide, by decide⟩ ?_
            refine aw_gzF 0 dX1_spread_104 fl_RX1_9 (by assumption) rfl rfl (by assumption) ?_
            refine aw_iload dX1_spread_107 rfl ?_
            refine aw_iv dX1_spread_109 (by assumption) (by omega) (by omega) v109 ?_
            refine aw_iconst dX1_spread_110 rfl ⟨by decide, by decide⟩ ?_
            refine aw_iadd dX1_spread_111 (az_wr_id (by omega) (by omega)) ?_
            refine aw_cV2v dX1_spread_112 ml_RX1_33 (by assumption) (by decide) rfl rfl ⟨by decide, by decide, by decide, by decide⟩ (Nat.le_of_ble_eq_true rfl) (sp_visit hK0 M2 hw.1.1 r2 q2 (fdV_qn qn1 _ _ _) (S.1 (256 + b + 1 + j)) (s1.2 b + 1) (g1 j (by omega))) (fun M3 hM3 => ?_)
            refine aw_iinc dX1_spread_115 rfl (az_wr_id (by omega) (by omega)) (by decide) ?_
            refine aw_goto (tgt := 78) dX1_spread_118 rfl ?_
            exact ihe (j + 1) M3 (by omega) hM3.1 (f2.trans hM3.2)
        exact inner N 0 M1 (by omega) r1 f1
  have roots : ∀ (e j : Nat) (M2 : az_M), j + e = n → CR M2 q wo (rtV wo S.1 lo j ([], fun _ => -1)) → frE M M2 q → AW az_P0 (az_Z (qv K (fun M' => CR M' q wo R ∧ frE M M' q)) 0 0) (az_rm 1 0 0) yX1_spread cX1_spread 8 none 0 0 30 [(1, q), (1, h), (0, lo), (0, lo + n), (0, wo), (0, lo + (j : Int)), (9, 0), (9, 0)] [] K M2 := by
    intro e
    induction e with
    | zero =>
      intro j M2 hj r2 f2
      have hj2 : j = n := by omega
      subst hj2
      have q2 := rtV_ok (lo := lo) (qk_nil S.1 wo (fun _ => -1)) j (fun i hi => nam_nok hw (by omega) (by omega))
      refine aw_iload dX1_spread_30 rfl ?_
      refine aw_iload_n dX1_spread_32 rfl rfl ?_
      refine aw_icmp_ge (tgt := 54) dX1_spread_33 rfl (fun h33 => ?_) (fun h33 => absurd h33 (by omega))
      refine aw_iconst dX1_spread_54 rfl ⟨by decide, by decide⟩ ?_
      refine aw_istore dX1_spread_55 (by decide) ?_
      exact outer 65 0 _ M2 _ _ (by omega) q2 (rtV_qn (fun _ _ => rfl) lo j) r2 f2 hre.symm
    | succ e ih =>
      intro j M2 hj r2 f2
      have q2 := rtV_ok (lo := lo) (qk_nil S.1 wo (fun _ => -1)) j (fun i hi => nam_nok hw (by omega) (by omega))
      have hl2 := qk_len hw.1.1 q2
      have v43 : M2 (h + 9) (lo + (j : Int)) = S.1 (715 + (lo + j)) := (hHS M2 f2).2.2.2.2.2.1.1 _ (by omega) (by omega)
      refine aw_iload dX1_spread_30 rfl ?_
      refine aw_iload_n dX1_spread_32 rfl rfl ?_
      refine aw_icmp_ge (tgt := 54) dX1_spread_33 rfl (fun h33 => absurd h33 (by omega)) (fun h33 => ?_)
      refine aw_aload_n dX1_spread_36 rfl rfl ⟨by decide, by decide⟩ ?_
      refine aw_aload_n dX1_spread_37 rfl rfl ⟨by decide, by decide⟩ ?_
      refine aw_gzF 4 dX1_spread_38 fl_RX1_28 (by assumption) rfl rfl (by assumption) ?_
      refine aw_iload dX1_spread_41 rfl ?_
      refine aw_iv dX1_spread_43 (by assumption) (by omega) (by omega) v43 ?_
      refine aw_iconst dX1_spread_44 rfl ⟨by decide, by decide⟩ ?_
      refine aw_cV2v dX1_spread_45 ml_RX1_33 (by assumption) (by decide) rfl rfl ⟨by decide, by decide, by decide, by decide⟩ (Nat.le_of_ble_eq_true rfl) (sp_visit hK0 M2 hw.1.1 r2 q2 (rtV_qn (fun _ _ => rfl) lo j) (S.1 (715 + (lo + j))) 0 (nam_nok hw (by omega) (by omega))) (fun M3 hM3 => ?_)
      refine aw_iinc dX1_spread_48 rfl (az_wr_id (by omega) (by omega)) (by decide) ?_
      refine aw_goto (tgt := 30) dX1_spread_51 rfl ?_
      have := ih (j + 1) M3 (by omega) hM3.1 (f2.trans hM3.2)
      rw [show lo + ((j + 1 : Nat) : Int) = lo + (j : Int) + 1 by omega] at this
      exact this
  have start : ∀ M2 : az_M, CR M2 q wo ([], fun _ => -1) → frE M M2 q → AW az_P0 (az_Z (qv K (fun M' => CR M' q wo R ∧ frE M M' q)) 0 0) (az_rm 1 0 0) yX1_spread cX1_spread 8 none 0 0 27 [(1, q), (1, h), (0, lo), (0, lo + n), (0, wo), (9, 0), (9, 0), (9, 0)] [] K M2 := by
    intro M2 r2 f2
    refine aw_iload_n dX1_spread_27 rfl rfl ?_
    refine aw_istore dX1_spread_28 (by decide) ?_
    have := roots n 0 M2 (by omega) r2 f2
    rw [show lo + ((0 : Nat) : Int) = lo by omega] at this
    exact this
  refine aw_aload_n dX1_spread_0 rfl rfl ⟨by decide, by decide⟩ ?_
  refine aw_gzF 0 dX1_spread_1 fl_RX1_9 (by assumption) rfl rfl (by assumption) ?_
  refine aw_iconst dX1_spread_4 rfl ⟨by decide, by decide⟩ ?_
  refine aw_cS2v dX1_spread_5 ml_RX1_22 ⟨by decide, by decide, by decide, by decide⟩ (Nat.le_of_ble_eq_true rfl) (sp_fill2 (n := 128) k1 (by omega) (-1) M) (fun M1 hM1 => ?_)
  have e1 : ∀ a, 0 ≤ a → a < 128 → M1 (q + 1) a = -1 := fun a a0 a1 => by
    rw [hM1]
    show (if q + 1 = q + 1 ∧ 0 ≤ a ∧ a < ((128 : Nat) : Int) then (-1 : Int) else M (q + 1) a) = -1
    rw [if_pos ⟨rfl, a0, by omega⟩]
  have o1 : ∀ b, b ≠ q + 1 → M1 b = M b := fun b hb => by
    rw [hM1]
    funext j
    show (if b = q + 1 ∧ _ then (-1 : Int) else M b j) = M b j
    rw [if_neg (fun w => hb w.1)]
  have f2 : frE M (az_up M1 q 2 0) q := ⟨fun b hb => by rw [up_oth _ _ _ (by omega)]; exact o1 b (by omega), fun j hj => by rw [az_up_i _ _ _ _ hj, o1 q (by omega)]⟩
  have c2 : az_up M1 q 2 0 q 2 = 0 := az_up_s _ _ _ _
  have e2 : ∀ a, 0 ≤ a → a < 128 → az_up M1 q 2 0 (q + 1) a = -1 := fun a a0 a1 => by rw [up_oth _ _ _ (by omega)]; exact e1 a a0 a1
  refine aw_aload_n dX1_spread_8 rfl rfl ⟨by decide, by decide⟩ ?_
  refine aw_iconst dX1_spread_9 rfl ⟨by decide, by decide⟩ ?_
  refine aw_pi 2 dX1_spread_10 fl_RX1_18 (by assumption) rfl rfl ?_
  generalize az_up M1 q 2 0 = M2 at f2 c2 e2 ⊢
  refine aw_iload dX1_spread_13 rfl ?_
  refine aw_iconst dX1_spread_15 rfl ⟨by decide, by decide⟩ ?_
  refine aw_icmp_eq (tgt := 27) dX1_spread_16 rfl (fun h16 => ?_) (fun h16 => ?_)
  · refine start M2 ⟨c2, fun i hi => absurd hi (Nat.not_lt_zero _), fun a a0 a1 => ?_⟩ f2
    rw [if_neg (by omega)]
    exact e2 a a0 a1
  · refine aw_aload_n dX1_spread_19 rfl rfl ⟨by decide, by decide⟩ ?_
    refine aw_gzF 0 dX1_spread_20 fl_RX1_9 (by assumption) rfl rfl (by assumption) ?_
    refine aw_iload dX1_spread_23 rfl ?_
    refine aw_iconst dX1_spread_25 rfl ⟨by decide, by decide⟩ ?_
    refine aw_iast dX1_spread_26 (by assumption) (by omega) (by omega) ?_
    refine start _ ⟨by rw [up_oth _ _ _ (by omega)]; exact c2, fun i hi => absurd hi (Nat.not_lt_zero _), fun a a0 a1 => ?_⟩ (f2.trans ⟨fun b hb => up_oth _ _ _ (by omega), fun j hj => by rw [up_oth _ _ _ (by omega)]⟩)
    rw [up_row]
    show (if a = wo then 0 else M2 (q + 1) a) = if a = wo then 0 else -1
    by_cases w : a = wo
    · rw [if_pos w, if_pos w]
    · rw [if_neg w, if_neg w]; exact e2 a a0 a1
theorem lc_sum {R : rSt} (hw : WL S) (hq : qk S.1 wo R) : sumI R.1 (pz S.1) = lcN S R 128 := sumI_sumN (pz S.1) 128 R.1 hq.1 (fun x hx => by have := (hq.2 x hx).1.1; have a0 := this.1; have a1 := this.2.1; exact ⟨a0, by omega⟩)
theorem sumI_take (f : Int → Int) : ∀ (l : List Int) (i : Nat), i < l.length → sumI (l.take (i + 1)) f = sumI (l.take i) f + f (l.getD i 0) := by
  intro l
  induction l with
  | nil => intro i hi; exact absurd hi (Nat.not_lt_zero _)
  | cons x t ih =>
    intro i hi
    cases i with
    | zero => show f x + sumI (t.take 0) f = 0 + f x; rw [List.take_zero]; show f x + 0 = 0 + f x; omega
    | succ i =>
      show f x + sumI (t.take (i + 1)) f = f x + sumI (t.take i) f + f (t.getD i 0)
      rw [ih i (by rw [List.length_cons] at hi; omega)]; omega
theorem sumI_bnd (f : Int → Int) (c : Int) : ∀ (l : List Int), (∀ x ∈ l, 0 ≤ f x ∧ f x ≤ c) → 0 ≤ sumI l f ∧ sumI l f ≤ c * l.length := by
  intro l
  induction l with
  | nil => intro _; exact ⟨Int.le_refl _, by show (0 : Int) ≤ c * 0; omega⟩
  | cons x t ih =>
    intro h
    have h1 := h x List.mem_cons_self
    have h2 := ih (fun y hy => h y (List.mem_cons_of_mem _ hy))
    show 0 ≤ f x + sumI t f ∧ f x + sumI t f ≤ c * ((t.length + 1 : Nat) : Int)
    have e : c * ((t.length + 1 : Nat) : Int) = c * t.length + c := by rw [Int.natCast_add, Int.mul_add]; omega
    omega
set_option maxHeartbeats 1000000 in
theorem sp_foundCells (hK : ReK K q) (hH : HpK K h) (M : az_M) (hc : HS M h S) (hw : WL S) {R : rSt} (hr : CR M q wo R) (hq : qk S.1 wo R) : AM yX1_foundCells cX1_foundCells 4 (some .int) 1 0 0 [(1, q), (1, h)] K M (qp K M (lcN S R 128)) := by
  have hH0 := hH
  obtain ⟨k0, k1, k2, y0, y1⟩ := hK
  obtain ⟨hRg, kh, k6, k7, k8, k9, k10, k11, k12, k13, k14, z0, z1, z2, z3, z4, z5, z6, z7, z8, z9⟩ := hH
  refine am_of (by decide) (Nat.le_of_ble_eq_true rfl) (L := [(1, q), (1, h), (9, 0), (9, 0)]) rfl ?_
  have hl := qk_len hw.1.1 hq
  have hpz : ∀ x ∈ R.1, 0 ≤ pz S.1 x ∧ pz S.1 x ≤ 8 := fun x hx => by have := sl_even hw.1.1 (hq.2 x hx).1.1; omega
  refine aw_iconst dX1_foundCells_0 rfl ⟨by decide, by decide⟩ ?_
  refine aw_istore_n dX1_foundCells_1 rfl (by decide) ?_
  refine aw_iconst dX1_foundCells_2 rfl ⟨by decide, by decide⟩ ?_
  refine aw_istore_n dX1_foundCells_3 rfl (by decide) ?_
  have loop : ∀ (k i : Nat), i + k = R.1.length → AW az_P0 (az_Z (qp K M (lcN S R 128)) 0 0) (az_rm 1 0 0) yX1_foundCells cX1_foundCells 4 (some .int) 0 0 4 [(1, q), (1, h), (0, sumI (R.1.take i) (pz S.1)), (0, (i : Int))] [] K M := by
    intro k
    induction k with
    | zero =>
      intro i hi
      have hi2 : i = R.1.length := by omega
      subst hi2
      refine aw_iload_n dX1_foundCells_4 rfl rfl ?_
      refine aw_aload_n dX1_foundCells_5 rfl rfl ⟨by decide, by decide⟩ ?_
      refine aw_gi 2 dX1_foundCells_6 fl_RX1_18 (by assumption) rfl rfl hr.1 ?_
      refine aw_icmp_ge (tgt := 31) dX1_foundCells_9 rfl (fun h9 => ?_) (fun h9 => absurd h9 (by omega))
      refine aw_iload_n dX1_foundCells_31 rfl rfl ?_
      refine aw_iret dX1_foundCells_32 (by decide) (by decide) (qp_i ?_)
      rw [List.take_length]; exact lc_sum hw hq
    | succ k ih =>
      intro i hi
      have v19 := hr.2.1 i (by omega)
      have hm := getD_mem (l := R.1) (i := i) (by omega)
      have ho := (hq.2 _ hm).1.1
      have o0 := ho.1
      have o1 := ho.2.1
      have hs := qp_c (sp_sizeAtC hH0 M (R.1.getD i 0) o0 o1) (hc.2.2.2.1 (R.1.getD i 0 / 16) (by omega) (by omega))
      have hb := sumI_bnd (pz S.1) 8 (R.1.take i) (fun x hx => hpz x (List.mem_of_mem_take hx))
      rw [List.length_take] at hb
      have hp := hpz _ hm
      have hnx := sumI_take (pz S.1) R.1 i (by omega)
      have hih := ih (i + 1) (by omega)
      rw [hnx] at hih
      have hpzd : pz S.1 (R.1.getD i 0) = S.1 (707 + R.1.getD i 0 / 16) := rfl
      have hmn : min i R.1.length = i := by omega
      rw [hmn] at hb
      refine aw_iload_n dX1_foundCells_4 rfl rfl ?_
      refine aw_aload_n dX1_foundCells_5 rfl rfl ⟨by decide, by decide⟩ ?_
      refine aw_gi 2 dX1_foundCells_6 fl_RX1_18 (by assumption) rfl rfl hr.1 ?_
      refine aw_icmp_ge (tgt := 31) dX1_foundCells_9 rfl (fun h9 => absurd h9 (by omega)) (fun h9 => ?_)
      refine aw_iload_n dX1_foundCells_12 rfl rfl ?_
      refine aw_aload_n dX1_foundCells_13 rfl rfl ⟨by decide, by decide⟩ ?_
      refine aw_aload_n dX1_foundCells_14 rfl rfl ⟨by decide, by decide⟩ ?_
      refine aw_gzF 1 dX1_foundCells_15 fl_RX1_15 (by assumption) rfl rfl (by assumption) ?_
      refine aw_iload_n dX1_foundCells_18 rfl rfl ?_
      refine aw_iv dX1_foundCells_19 (by assumption) (by omega) (by omega) v19 ?_
      refine aw_cV1p dX1_foundCells_20 ml_RX1_40 (by assumption) (by decide) rfl rfl ⟨by decide, by decide, by decide, by decide⟩ (Nat.le_of_ble_eq_true rfl) (hs) ?_
      refine aw_iadd dX1_foundCells_23 (az_wr_id (by omega) (by omega)) ?_
      refine aw_istore_n dX1_foundCells_24 rfl (by decide) ?_
      refine aw_iinc dX1_foundCells_25 rfl (az_wr_id (by omega) (by omega)) (by decide) ?_
      refine aw_goto (tgt := 4) dX1_foundCells_28 rfl ?_
      exact hih
  exact loop R.1.length 0 (by omega)
set_option maxHeartbeats 1000000 in
theorem sp_floating (hK : ReK K q) (hH : HpK K h) (M : az_M) (hc : HS M h S) (hw : WL S) {R : rSt} (hr : CR M q (-1) R) (hq : qk S.1 (-1) R) (hn : qn R) (hrun : S.1 726 = 1) : AM yX1_floating cX1_floating 4 (some .int) 1 0 0 [(1, q), (1, h)] K M (qp K M (loN S R 128)) := by
  have hH0 := hH
  obtain ⟨k0, k1, k2, y0, y1⟩ := hK
  obtain ⟨hRg, kh, k6, k7, k8, k9, k10, k11, k12, k13, k14, z0, z1, z2, z3, z4, z5, z6, z7, z8, z9⟩ := hH
  have hRg0 := hRg
  obtain ⟨c1, c2, c3, c4, c5, c6, c7, c8, c9⟩ := hRg
  refine am_of (by decide) (Nat.le_of_ble_eq_true rfl) (L := [(1, q), (1, h), (9, 0), (9, 0)]) rfl ?_
  have hev : loN S R 128 = sumN 64 (fun n => if obD S.1 (2 * n) ∧ (2 * n) ∉ R.1 ∧ S.1 726 = 1 ∧ S.1 (2 * n) ≠ 1 then 1 else 0) := sumN_evn (f := fun a => if obD S.1 a ∧ a ∉ R.1 ∧ S.1 726 = 1 ∧ S.1 a ≠ 1 then 1 else 0) 64 (fun n hn => if_neg (fun w => by have := (sl_even hw.1.1 w.1.1).1; omega))
  rw [hev]
  generalize hF : (fun n : Int => if obD S.1 (2 * n) ∧ (2 * n) ∉ R.1 ∧ S.1 726 = 1 ∧ S.1 (2 * n) ≠ 1 then (1 : Int) else 0) = F
  have hFi : ∀ i : Nat, F i = if obD S.1 (2 * (i : Int)) ∧ (2 * (i : Int)) ∉ R.1 ∧ S.1 726 = 1 ∧ S.1 (2 * (i : Int)) ≠ 1 then 1 else 0 := fun i => by rw [← hF]
  have hFb : ∀ i : Nat, 0 ≤ sumN i F ∧ sumN i F ≤ 1 * i := fun i => sumN_le i (fun j hj => by rw [hFi]; split <;> omega)
  refine aw_iconst dX1_floating_0 rfl ⟨by decide, by decide⟩ ?_
  refine aw_istore_n dX1_floating_1 rfl (by decide) ?_
  refine aw_iconst dX1_floating_2 rfl ⟨by decide, by decide⟩ ?_
  refine aw_istore_n dX1_floating_3 rfl (by decide) ?_
  have loop : ∀ (k i : Nat), i + k = 64 → AW az_P0 (az_Z (qp K M (sumN 64 F)) 0 0) (az_rm 1 0 0) yX1_floating cX1_floating 4 (some .int) 0 0 4 [(1, q), (1, h), (0, sumN i F), (0, 2 * (i : Int))] [] K M := by
    intro k
    induction k with
    | zero =>
      intro i hi
      have hi2 : i = 64 := by omega
      subst hi2
      refine aw_iload_n dX1_floating_4 rfl rfl ?_
      refine aw_sipush dX1_floating_5 (by decide) ⟨by decide, by decide⟩ ?_
      refine aw_icmp_ge (tgt := 42) dX1_floating_8 rfl (fun h8 => ?_) (fun h8 => absurd h8 (by omega))
      refine aw_iload_n dX1_floating_42 rfl rfl ?_
      exact aw_iret dX1_floating_43 (by decide) (by decide) (qp_i rfl)
    | succ k ih =>
      intro i hi
      have hb := hFb i
      have hnx : sumN (i + 1) F = sumN i F + F i := rfl
      have hih := ih (i + 1) (by omega)
      rw [hnx, show 2 * ((i + 1 : Nat) : Int) = 2 * (i : Int) + 2 by omega] at hih
      have v28 := hr.2.2 (2 * (i : Int)) (by omega) (by omega)
      rw [if_neg (by omega)] at v28
      have hcol := sp_colourAt hRg0 M (2 * (i : Int)) (HS_ro hc)
      have hca : cAt (M (h + 4)) (2 * (i : Int)) = if slD S.1 (2 * (i : Int)) then S.1 (2 * (i : Int)) else -1 := by
        by_cases w : slD S.1 (2 * (i : Int))
        · rw [if_pos w]; exact cAt_sl hw.1.1 hw.1.2.1 hc.2.1 w
        · rw [if_neg w]; exact cAt_no hc.2.1 w
      have hcol' := qp_c hcol hca
      have hno : ¬ (obD S.1 (2 * (i : Int)) ∧ (2 * (i : Int)) ∉ R.1 ∧ S.1 726 = 1 ∧ S.1 (2 * (i : Int)) ≠ 1) → AW az_P0 (az_Z (qp K M (sumN 64 F)) 0 0) (az_rm 1 0 0) yX1_floating cX1_floating 4 (some .int) 0 0 36 [(1, q), (1, h), (0, sumN i F), (0, 2 * (i : Int))] [] K M := by
        intro w
        rw [hFi, if_neg w, Int.add_zero] at hih
        refine aw_iinc dX1_floating_36 rfl (az_wr_id (by omega) (by omega)) (by decide) ?_
        refine aw_goto (tgt := 4) dX1_floating_39 rfl ?_
        exact hih
      refine aw_iload_n dX1_floating_4 rfl rfl ?_
      refine aw_sipush dX1_floating_5 (by decide) ⟨by decide, by decide⟩ ?_
      refine aw_icmp_ge (tgt := 42) dX1_floating_8 rfl (fun h8 => absurd h8 (by omega)) (fun h8 => ?_)
      refine aw_aload_n dX1_floating_11 rfl rfl ⟨by decide, by decide⟩ ?_
      refine aw_gzF 0 dX1_floating_12 fl_RX1_44 (by assumption) rfl rfl (by assumption) ?_
      refine aw_iload_n dX1_floating_15 rfl rfl ?_
      refine aw_cV1p dX1_floating_16 ml_RX1_48 (by assumption) (by decide) rfl rfl ⟨by decide, by decide, by decide, by decide⟩ (Nat.le_of_ble_eq_true rfl) (hcol') ?_
      refine aw_iconst dX1_floating_19 rfl ⟨by decide, by decide⟩ ?_
      refine aw_icmp_le (tgt := 36) dX1_floating_20 rfl (fun h20 => ?_) (fun h20 => ?_)
      · refine hno (fun w => ?_)
        rw [if_pos w.1.1] at h20
        have h1 := w.1.2
        have h2 := w.2.2.2
        have := hw.1.2.1 (2 * (i : Int)) (by omega) (by omega)
        omega
      · have hsl : slD S.1 (2 * (i : Int)) := Classical.byContradiction (fun w => by rw [if_neg w] at h20; omega)
        rw [if_pos hsl] at h20
        refine aw_aload_n dX1_floating_23 rfl rfl ⟨by decide, by decide⟩ ?_
        refine aw_gzF 0 dX1_floating_24 fl_RX1_9 (by assumption) rfl rfl (by assumption) ?_
        refine aw_iload_n dX1_floating_27 rfl rfl ?_
        refine aw_iv dX1_floating_28 (by assumption) (by omega) (by omega) v28 ?_
        refine aw_iconst dX1_floating_29 rfl ⟨by decide, by decide⟩ ?_
        refine aw_icmp_ne (tgt := 36) dX1_floating_30 rfl (fun h30 => ?_) (fun h30 => ?_)
        · refine hno (fun w => h30 (hn _ w.2.1))
        · have hnm : (2 * (i : Int)) ∉ R.1 := fun w => by have := (hq.2 _ w).2.2.1; omega
          rw [hFi, if_pos ⟨⟨hsl, by omega⟩, hnm, hrun, by omega⟩] at hih
          refine aw_iinc dX1_floating_33 rfl (az_wr_id (by omega) (by omega)) (by decide) ?_
          refine aw_iinc dX1_floating_36 rfl (az_wr_id (by omega) (by omega)) (by decide) ?_
          refine aw_goto (tgt := 4) dX1_floating_39 rfl ?_
          exact hih
  exact loop 64 0 (by omega)
end CE
