/-! TreadRingModel: goRun, run, runBy, cheapest, suits -/
set_option maxRecDepth 20000
section DS
variable {it : Int → Int → Int} {n : Int}
theorem den_step (hN : NP it n) {fr : fRs} (hv : FV it n fr) {i : Int} {st : rSx} (t0 : ts fr ≤ i) (t1 : i < eo n fr) (hs : st.2.2 = 0) : den it n fr i st = den it n fr (it i 4) (x1 it (ex it) i st) := by
  have hr := (FV.rg hN hv).1
  have hr' : RG it n i (eo n fr) := ⟨by have := hr.1; omega, hr.2.1, fun j j0 j1 => hr.2.2 j (by omega) j1⟩
  cases fr with
  | nil => exact ex_step hN hr' t1 hs
  | cons f fr =>
    show den it n fr f.2.1 (itr f.2.2.toNat (ex it f.1 f.2.1) (ex it i f.2.1 st)) = den it n fr f.2.1 (itr f.2.2.toNat (ex it f.1 f.2.1) (ex it (it i 4) f.2.1 (x1 it (ex it) i st)))
    have e : ex it i f.2.1 st = ex it (it i 4) f.2.1 (x1 it (ex it) i st) := ex_step hN hr' t1 hs
    rw [e]
theorem mden_step (hN : NP it n) {fr : fRs} (hv : FV it n fr) {i : Int} (t0 : ts fr ≤ i) (t1 : i < eo n fr) : mden it n fr i = 1 + (if it i 0 = 5 then (it i 3).toNat * cst it (i + 1) (it i 4) else if it i 0 = 6 then cst it (i + 1) (it i 4) else 0) + mden it n fr (it i 4) := by
  have hr := (FV.rg hN hv).1
  have hr' : RG it n i (eo n fr) := ⟨by have := hr.1; omega, hr.2.1, fun j j0 j1 => hr.2.2 j (by omega) j1⟩
  cases fr with
  | nil => exact cst_step hN hr' t1
  | cons f fr =>
    show cst it i f.2.1 + f.2.2.toNat * cst it f.1 f.2.1 + mden it n fr f.2.1 = _ + (cst it (it i 4) f.2.1 + f.2.2.toNat * cst it f.1 f.2.1 + mden it n fr f.2.1)
    have e := cst_step hN hr' t1
    rw [show eo n (f :: fr) = f.2.1 from rfl] at e
    rw [e]
    omega
end DS
section GR2
variable {K : az_K} {m : Int} {it : Int → Int → Int} {n : Int} {S : hSt}
def rn0 (it : Int → Int → Int) (n : Int) (S : hSt) : rSx := ex it 0 n (S, 0, 0)
theorem rn0_RW (hN : NP it n) (hw : WL S) (h0 : 0 ≤ S.1 729) : RW (S.1 729) (rn0 it n S) := by
  refine ex_RW hN ⟨Int.le_refl _, Int.le_refl _, fun j j0 j1 => (hN j j0 j1).2.2.1.2⟩ ⟨hw, h0, ?_, ?_, Or.inl rfl, fun _ => ?_⟩
  · show S.1 729 ≤ S.1 729 + 5 * 0
    omega
  · show (0 : Int) ≤ 0 ∧ (0 : Int) ≤ 300
    omega
  · show (0 : Int) < 300
    omega
set_option maxHeartbeats 2000000 in
theorem sp_goRun (hK : MdK K m) (hN : NP it n) (M : az_M) (hc : HM M m S) (hw : WL S) (hcy : S.1 729 ≤ 19996000) (hcz : 0 ≤ S.1 729) (hg : PGm M m it n) : AM yX7_goRun cX7_goRun 2 (some .int) 11 0 0 [(1, m)] K M (qi K (fun z M' => z = (rn0 it n S).2.1 ∧ HM M' m (rn0 it n S).1 ∧ M' (m + 7) = M (m + 7) ∧ frT M M' m)) := by
  have hK0 := hK
  obtain ⟨hKo, k3, k4, k5, k6, k7, k8, k9, k10, k11, k12, k13, k14, k15, k16, k17, k18, k19, k20, k21, k22, k23, k24, k25, y3, y4, y5, y6, y7, y8, y9, y10, y11, y12, y13, y14, y15, y16, y17, y18, y19, y20, y21, y22, y23, y24, y25⟩ := hK
  have hKo0 := hKo
  obtain ⟨hKa, k2, y2⟩ := hKo
  have hKa0 := hKa
  obtain ⟨km, k1, y1⟩ := hKa
  refine am_of (by decide) (Nat.le_of_ble_eq_true rfl) (L := [(1, m), (9, 0)]) rfl ?_
  have hden0 : den it n [] 0 (S, 0, 0) = rn0 it n S := rfl
  generalize rn0 it n S = R at hden0 ⊢
  have n40 := hg.2.1
  generalize hQ : (fun (z : Int) (M' : az_M) => z = R.2.1 ∧ HM M' m R.1 ∧ M' (m + 7) = M (m + 7) ∧ frT M M' m) = Q
  have loop : ∀ (N : Nat) (fr : fRs) (i : Int) (st : rSx) (M2 : az_M), mden it n fr i ≤ N → PS M2 m it n fr i → (fr = [] ∨ i < eo n fr) → HM M2 m st.1 → RW (S.1 729) st → PGm M2 m it n → frT M M2 m → M2 (m + 7) = M (m + 7) → den it n fr i st = R → (st.2.2 = 0 ∨ st.2.2 ≠ 0 ∧ st.2.1 = 300) → AW az_P0 (az_Z (qi K Q) 0 0) (az_rm 11 0 0) yX7_goRun cX7_goRun 2 (some .int) 0 0 16 [(1, m), (0, st.2.1)] [] K M2 := by
    intro N
    induction N with
    | zero =>
      intro fr i st M2 hm hp hfi h2 hrw hg2 f2 e7 hd hst
      obtain ⟨w1, w2, w3, w4, w5, w6⟩ := hrw
      obtain ⟨r, hv, e39, e40, t0, t1⟩ := hp
      have hrg := (FV.rg hN hv).1
      have ret : st = R → AW az_P0 (az_Z (qi K Q) 0 0) (az_rm 11 0 0) yX7_goRun cX7_goRun 2 (some .int) 0 0 179 [(1, m), (0, st.2.1)] [] K M2 := by
        intro hR
        subst hR
        refine aw_iload_n dX7_goRun_179 rfl rfl ?_
        refine aw_iret dX7_goRun_180 (by decide) (by decide) ⟨_, rfl, rfl, ?_⟩
        rw [← hQ]
        exact ⟨rfl, h2, e7, f2⟩
      refine aw_aload_n dX7_goRun_16 rfl rfl ⟨by decide, by decide⟩ ?_
      refine aw_gi 39 dX7_goRun_17 fl_RX7_439 (by assumption) rfl rfl e39 ?_
      refine aw_aload_n dX7_goRun_20 rfl rfl ⟨by decide, by decide⟩ ?_
      refine aw_gi 23 dX7_goRun_21 fl_RX7_433 (by assumption) rfl rfl hg2.1 ?_
      refine aw_icmp_ge (tgt := 179) dX7_goRun_24 rfl (fun h24 => ?_) (fun h24 => ?_)
      · refine ret ?_
        rcases hfi with q | q
        · subst q
          rw [← hd]
          exact (ex_stop (fun w => by omega)).symm
        · have := hrg.2.1
          omega
      · by_cases s0 : st.2.2 = 0
        · have hlt : i < eo n fr := by
            rcases hfi with q | q
            · subst q; show i < n; omega
            · exact q
          have := mden_step hN hv t0 hlt
          omega
        · have h300 : st.2.1 = 300 := by
            rcases hst with q | q
            · exact absurd q s0
            · exact q.2
          refine aw_iload_n dX7_goRun_27 rfl rfl ?_
          refine aw_sipush dX7_goRun_28 (by decide) ⟨by decide, by decide⟩ ?_
          refine aw_icmp_ge (tgt := 179) dX7_goRun_31 rfl (fun h31 => ?_) (fun h31 => absurd h31 (by omega))
          exact ret ((den_sto fr i st s0).symm.trans hd)
    | succ N ih =>
      intro fr i st M2 hm hp hfi h2 hrw hg2 f2 e7 hd hst
      have hrw0 := hrw
      obtain ⟨w1, w2, w3, w4, w5, w6⟩ := hrw
      have hp0 := hp
      obtain ⟨r, hv, e39, e40, t0, t1⟩ := hp
      have hrg := (FV.rg hN hv).1
      have ret : st = R → AW az_P0 (az_Z (qi K Q) 0 0) (az_rm 11 0 0) yX7_goRun cX7_goRun 2 (some .int) 0 0 179 [(1, m), (0, st.2.1)] [] K M2 := by
        intro hR
        subst hR
        refine aw_iload_n dX7_goRun_179 rfl rfl ?_
        refine aw_iret dX7_goRun_180 (by decide) (by decide) ⟨_, rfl, rfl, ?_⟩
        rw [← hQ]
        exact ⟨rfl, h2, e7, f2⟩
      refine aw_aload_n dX7_goRun_16 rfl rfl ⟨by decide, by decide⟩ ?_
      refine aw_gi 39 dX7_goRun_17 fl_RX7_439 (by assumption) rfl rfl e39 ?_
      refine aw_aload_n dX7_goRun_20 rfl rfl ⟨by decide, by decide⟩ ?_
      refine aw_gi 23 dX7_goRun_21 fl_RX7_433 (by assumption) rfl rfl hg2.1 ?_
      refine aw_icmp_ge (tgt := 179) dX7_goRun_24 rfl (fun h24 => ?_) (fun h24 => ?_)
      · refine ret ?_
        rcases hfi with q | q
        · subst q
          rw [← hd]
          exact (ex_stop (fun w => by omega)).symm
        · have := hrg.2.1
          omega
      · by_cases s0 : st.2.2 = 0
        · have hlt : i < eo n fr := by
            rcases hfi with q | q
            · subst q; show i < n; omega
            · exact q
          have i0 : 0 ≤ i := by have := hrg.1; omega
          have in_ : i < n := by omega
          have hms := mden_step hN hv t0 hlt
          have hds := den_step hN hv t0 hlt s0
          rw [hd] at hds
          obtain ⟨a1, a2, a3, a4, a5⟩ := hN i i0 in_
          have e4 := hrg.2.2 i t0 hlt
          obtain ⟨⟨p1, p2, p3, p4, p5, p6⟩, p7⟩ := hg2.2.2 i i0 in_
          rw [show m + 14 + 1 = m + 15 by omega] at p2
          rw [show m + 14 + 4 = m + 18 by omega] at p7
          have w6' := w6 s0
          -- behind the item: the blocks are left
          have next : ∀ (fr3 : fRs) (i3 : Int) (st3 : rSx) (M3 : az_M), PS M3 m it n fr3 i3 → mden it n fr3 i3 ≤ N → HM M3 m st3.1 → RW (S.1 729) st3 → PGm M3 m it n → frT M M3 m → M3 (m + 7) = M (m + 7) → den it n fr3 i3 st3 = R → (st3.2.2 = 0 ∨ st3.2.2 ≠ 0 ∧ st3.2.1 = 300) → AW az_P0 (az_Z (qi K Q) 0 0) (az_rm 11 0 0) yX7_goRun cX7_goRun 2 (some .int) 0 0 172 [(1, m), (0, st3.2.1)] [] K M3 := by
            intro fr3 i3 st3 M3 hp3 hm3 h3 hrw3 hg3 f3 e73 hd3 hst3
            refine aw_aload_n dX7_goRun_172 rfl rfl ⟨by decide, by decide⟩ ?_
            refine aw_cV0v dX7_goRun_173 ml_RX7_442 (by assumption) (by decide) rfl rfl ⟨by decide, by decide, by decide, by decide⟩ (Nat.le_of_ble_eq_true rfl) (sp_leaveBlocks hK0 hN M3 fr3 i3 hp3) (fun M4 hM4 => ?_)
            obtain ⟨fr4, i4, hp4, hd4, hm4, hfi4, f4⟩ := hM4
            refine aw_goto (tgt := 16) dX7_goRun_176 rfl ?_
            exact ih fr4 i4 st3 M4 (Nat.le_trans hm4 hm3) hp4 hfi4 (HM_fr h3 (f4.1 _ (by omega) (by omega))) hrw3 (hg3.frT (frT.ofK f4).1) (f3.trans (frT.ofK f4)) ((f4.1 _ (by omega) (by omega)).trans e73) ((hd4 st3).trans hd3) hst3
          have ent : ∀ (M3 : az_M), frK M2 M3 m → HM M3 m st.1 ∧ PGm M3 m it n ∧ frT M M3 m ∧ M3 (m + 7) = M (m + 7) := fun M3 f3 => ⟨HM_fr h2 (f3.1 _ (by omega) (by omega)), hg2.frT (frT.ofK f3).1, f2.trans (frT.ofK f3), (f3.1 _ (by omega) (by omega)).trans e7⟩
          unfold x1 at hds
          by_cases k5 : it i 0 = 5
          · rw [if_pos k5] at hds hms
            have e14 : M2 (m + 14) i = 7 := by rw [p1, k5]; rfl
            have e15 : M2 (m + 15) i = it i 3 := by rw [p2, if_pos (Or.inr k5)]
            obtain ⟨u, hu⟩ : ∃ u : Nat, (it i 3).toNat = u + 1 := ⟨(it i 3).toNat - 1, by omega⟩
            refine aw_iload_n dX7_goRun_27 rfl rfl ?_
            refine aw_sipush dX7_goRun_28 (by decide) ⟨by decide, by decide⟩ ?_
            refine aw_icmp_ge (tgt := 179) dX7_goRun_31 rfl (fun h31 => absurd h31 (by omega)) (fun h31 => ?_)
            refine aw_aload_n dX7_goRun_34 rfl rfl ⟨by decide, by decide⟩ ?_
            refine aw_gzF 17 dX7_goRun_35 fl_RX7_50 (by assumption) rfl rfl (by assumption) ?_
            refine aw_aload_n dX7_goRun_38 rfl rfl ⟨by decide, by decide⟩ ?_
            refine aw_gi 39 dX7_goRun_39 fl_RX7_439 (by assumption) rfl rfl e39 ?_
            refine aw_iv dX7_goRun_42 (by assumption) (by omega) (by omega) e14 ?_
            refine aw_bipush dX7_goRun_43 (by decide) ⟨by decide, by decide⟩ ?_
            refine aw_icmp_ne (tgt := 64) dX7_goRun_45 rfl (fun h45 => absurd h45 (by omega)) (fun h45 => ?_)
            refine aw_aload_n dX7_goRun_48 rfl rfl ⟨by decide, by decide⟩ ?_
            refine aw_aload_n dX7_goRun_49 rfl rfl ⟨by decide, by decide⟩ ?_
            refine aw_gzF 18 dX7_goRun_50 fl_RX7_53 (by assumption) rfl rfl (by assumption) ?_
            refine aw_aload_n dX7_goRun_53 rfl rfl ⟨by decide, by decide⟩ ?_
            refine aw_gi 39 dX7_goRun_54 fl_RX7_439 (by assumption) rfl rfl e39 ?_
            refine aw_iv dX7_goRun_57 (by assumption) (by omega) (by omega) e15 ?_
            refine aw_cV1v dX7_goRun_58 ml_RX7_445 (by assumption) (by decide) rfl rfl ⟨by decide, by decide, by decide, by decide⟩ (Nat.le_of_ble_eq_true rfl) (sp_enter hK0 hN M2 fr i hp0 hlt p7 n40.2 (it i 3) (by omega) (by omega)) (fun M3 hM3 => ?_)
            obtain ⟨hp3, f3⟩ := hM3
            obtain ⟨g1, g2, g3, g4⟩ := ent M3 f3
            refine aw_goto (tgt := 172) dX7_goRun_61 rfl ?_
            refine next _ _ st M3 hp3 ?_ g1 hrw0 g2 g3 g4 ?_ hst
            · show cst it (i + 1) (it i 4) + (it i 3 - 1).toNat * cst it (i + 1) (it i 4) + mden it n fr (it i 4) ≤ N
              rw [show (it i 3 - 1).toNat = u by omega]
              rw [hu, Nat.succ_mul] at hms
              omega
            · rw [hds]
              show den it n fr (it i 4) (itr (it i 3 - 1).toNat (ex it (i + 1) (it i 4)) (ex it (i + 1) (it i 4) st)) = _
              rw [hu, show (it i 3 - 1).toNat = u by omega]
              rfl
          rw [if_neg k5] at hds hms
          by_cases k6 : it i 0 = 6
          · rw [if_pos k6] at hds hms
            have e14 : M2 (m + 14) i = 8 := by rw [p1, k6]; rfl
            have e15 : M2 (m + 15) i = it i 1 := by rw [p2, if_neg (by omega)]
            have v95 : M2 (m + 1) (715 + it i 1) = st.1.1 (715 + it i 1) := h2.1 _ (by omega) (by omega) (by omega) (by omega)
            refine aw_iload_n dX7_goRun_27 rfl rfl ?_
            refine aw_sipush dX7_goRun_28 (by decide) ⟨by decide, by decide⟩ ?_
            refine aw_icmp_ge (tgt := 179) dX7_goRun_31 rfl (fun h31 => absurd h31 (by omega)) (fun h31 => ?_)
            refine aw_aload_n dX7_goRun_34 rfl rfl ⟨by decide, by decide⟩ ?_
            refine aw_gzF 17 dX7_goRun_35 fl_RX7_50 (by assumption) rfl rfl (by assumption) ?_
            refine aw_aload_n dX7_goRun_38 rfl rfl ⟨by decide, by decide⟩ ?_
            refine aw_gi 39 dX7_goRun_39 fl_RX7_439 (by assumption) rfl rfl e39 ?_
            refine aw_iv dX7_goRun_42 (by assumption) (by omega) (by omega) e14 ?_
            refine aw_bipush dX7_goRun_43 (by decide) ⟨by decide, by decide⟩ ?_
            refine aw_icmp_ne (tgt := 64) dX7_goRun_45 rfl (fun h45 => ?_) (fun h45 => absurd h45 (by omega))
            refine aw_aload_n dX7_goRun_64 rfl rfl ⟨by decide, by decide⟩ ?_
            refine aw_gzF 17 dX7_goRun_65 fl_RX7_50 (by assumption) rfl rfl (by assumption) ?_
            refine aw_aload_n dX7_goRun_68 rfl rfl ⟨by decide, by decide⟩ ?_
            refine aw_gi 39 dX7_goRun_69 fl_RX7_439 (by assumption) rfl rfl e39 ?_
            refine aw_iv dX7_goRun_72 (by assumption) (by omega) (by omega) e14 ?_
            refine aw_bipush dX7_goRun_73 (by decide) ⟨by decide, by decide⟩ ?_
            refine aw_icmp_ne (tgt := 123) dX7_goRun_75 rfl (fun h75 => absurd h75 (by omega)) (fun h75 => ?_)
            refine aw_aload_n dX7_goRun_78 rfl rfl ⟨by decide, by decide⟩ ?_
            refine aw_gzF 0 dX7_goRun_79 fl_RX7_7 (by assumption) rfl rfl (by assumption) ?_
            refine aw_sipush dX7_goRun_82 (by decide) ⟨by decide, by decide⟩ ?_
            refine aw_aload_n dX7_goRun_85 rfl rfl ⟨by decide, by decide⟩ ?_
            refine aw_gzF 18 dX7_goRun_86 fl_RX7_53 (by assumption) rfl rfl (by assumption) ?_
            refine aw_aload_n dX7_goRun_89 rfl rfl ⟨by decide, by decide⟩ ?_
            refine aw_gi 39 dX7_goRun_90 fl_RX7_439 (by assumption) rfl rfl e39 ?_
            refine aw_iv dX7_goRun_93 (by assumption) (by omega) (by omega) e15 ?_
            refine aw_iadd dX7_goRun_94 (az_wr_id (by omega) (by omega)) ?_
            refine aw_iv dX7_goRun_95 (by assumption) (by omega) (by omega) v95 ?_
            refine aw_if_lt (tgt := 107) dX7_goRun_96 rfl (fun h96 => ?_) (fun h96 => ?_)
            · rw [if_neg (by omega)] at hds
              have hfK : frK M2 (az_up M2 m 39 (it i 4)) m := ⟨fun b p q => up_oth _ _ _ p, fun j p q => az_up_i _ _ _ _ p⟩
              obtain ⟨g1, g2, g3, g4⟩ := ent _ hfK
              refine aw_aload_n dX7_goRun_107 rfl rfl ⟨by decide, by decide⟩ ?_
              refine aw_aload_n dX7_goRun_108 rfl rfl ⟨by decide, by decide⟩ ?_
              refine aw_gzF 21 dX7_goRun_109 fl_RX7_62 (by assumption) rfl rfl (by assumption) ?_
              refine aw_aload_n dX7_goRun_112 rfl rfl ⟨by decide, by decide⟩ ?_
              refine aw_gi 39 dX7_goRun_113 fl_RX7_439 (by assumption) rfl rfl e39 ?_
              refine aw_iv dX7_goRun_116 (by assumption) (by omega) (by omega) p7 ?_
              refine aw_pi 39 dX7_goRun_117 fl_RX7_439 (by assumption) rfl rfl ?_
              refine aw_goto (tgt := 172) dX7_goRun_120 rfl ?_
              refine next fr (it i 4) st _ ⟨FR.fr r (fun b p q => up_oth _ _ _ (by omega)), hv, az_up_s _ _ _ _, by rw [az_up_i _ _ _ _ (by omega)]; exact e40, by omega, e4⟩ (by omega) g1 hrw0 g2 g3 g4 hds.symm hst
            · rw [if_pos (by omega)] at hds
              refine aw_aload_n dX7_goRun_99 rfl rfl ⟨by decide, by decide⟩ ?_
              refine aw_iconst dX7_goRun_100 rfl ⟨by decide, by decide⟩ ?_
              refine aw_cV1v dX7_goRun_101 ml_RX7_445 (by assumption) (by decide) rfl rfl ⟨by decide, by decide, by decide, by decide⟩ (Nat.le_of_ble_eq_true rfl) (sp_enter hK0 hN M2 fr i hp0 hlt p7 n40.2 1 (by omega) (by omega)) (fun M3 hM3 => ?_)
              obtain ⟨hp3, f3⟩ := hM3
              obtain ⟨g1, g2, g3, g4⟩ := ent M3 f3
              refine aw_goto (tgt := 172) dX7_goRun_104 rfl ?_
              refine next _ _ st M3 hp3 ?_ g1 hrw0 g2 g3 g4 ?_ hst
              · show cst it (i + 1) (it i 4) + (1 - 1 : Int).toNat * cst it (i + 1) (it i 4) + mden it n fr (it i 4) ≤ N
                rw [show ((1 - 1 : Int)).toNat = 0 from rfl]
                omega
              · rw [hds]; rfl
          rw [if_neg k6] at hds hms
          have k4 : it i 0 < 5 := by omega
          have hgo := go1_RW hrw0 s0 a1 k4
          have hopc : opc (it i 0) (it i 2) ≠ 7 ∧ opc (it i 0) (it i 2) ≠ 8 ∧ (opc (it i 0) (it i 2) = 0 ↔ it i 0 = 0) := by
            have h0 : it i 0 = 0 ∨ it i 0 = 1 ∨ it i 0 = 2 ∨ it i 0 = 3 ∨ it i 0 = 4 := by omega
            unfold opc
            rcases h0 with e | e | e | e | e <;> rw [e] <;> simp <;> (try split) <;> omega
          refine aw_iload_n dX7_goRun_27 rfl rfl ?_
          refine aw_sipush dX7_goRun_28 (by decide) ⟨by decide, by decide⟩ ?_
          refine aw_icmp_ge (tgt := 179) dX7_goRun_31 rfl (fun h31 => absurd h31 (by omega)) (fun h31 => ?_)
          refine aw_aload_n dX7_goRun_34 rfl rfl ⟨by decide, by decide⟩ ?_
          refine aw_gzF 17 dX7_goRun_35 fl_RX7_50 (by assumption) rfl rfl (by assumption) ?_
          refine aw_aload_n dX7_goRun_38 rfl rfl ⟨by decide, by decide⟩ ?_
          refine aw_gi 39 dX7_goRun_39 fl_RX7_439 (by assumption) rfl rfl e39 ?_
          refine aw_iv dX7_goRun_42 (by assumption) (by omega) (by omega) p1 ?_
          refine aw_bipush dX7_goRun_43 (by decide) ⟨by decide, by decide⟩ ?_
          refine aw_icmp_ne (tgt := 64) dX7_goRun_45 rfl (fun h45 => ?_) (fun h45 => absurd h45 (by omega))
          refine aw_aload_n dX7_goRun_64 rfl rfl ⟨by decide, by decide⟩ ?_
          refine aw_gzF 17 dX7_goRun_65 fl_RX7_50 (by assumption) rfl rfl (by assumption) ?_
          refine aw_aload_n dX7_goRun_68 rfl rfl ⟨by decide, by decide⟩ ?_
          refine aw_gi 39 dX7_goRun_69 fl_RX7_439 (by assumption) rfl rfl e39 ?_
          refine aw_iv dX7_goRun_72 (by assumption) (by omega) (by omega) p1 ?_
          refine aw_bipush dX7_goRun_73 (by decide) ⟨by decide, by decide⟩ ?_
          refine aw_icmp_ne (tgt := 123) dX7_goRun_75 rfl (fun h75 => ?_) (fun h75 => absurd h75 (by omega))
          refine aw_aload_n dX7_goRun_123 rfl rfl ⟨by decide, by decide⟩ ?_
          refine aw_cV0i dX7_goRun_124 ml_RX7_448 (by assumption) (by decide) rfl rfl ⟨by decide, by decide, by decide, by decide⟩ (Nat.le_of_ble_eq_true rfl) (sp_canGo hK0 M2 h2 w1 hg2 i i0 in_ e39 a1 k4) (fun zc Mc hzc => ?_)
          obtain ⟨tc, eM⟩ := hzc
          subst eM
          unfold go1 at hds hgo
          refine aw_if_ne (tgt := 132) dX7_goRun_127 rfl (fun h127 => ?_) (fun h127 => ?_)
          · have hcan := tv1 tc h127
            rw [if_neg (fun q => q hcan)] at hds hgo
            refine aw_aload_n dX7_goRun_132 rfl rfl ⟨by decide, by decide⟩ ?_
            refine aw_cV0v dX7_goRun_133 ml_RX7_451 (by assumption) (by decide) rfl rfl ⟨by decide, by decide, by decide, by decide⟩ (Nat.le_of_ble_eq_true rfl) (sp_doGo hK0 Mc h2 w1 (by omega) w2 hg2 i i0 in_ e39 a1 k4 hcan) (fun M3 hM3 => ?_)
            obtain ⟨h3, h9, f3⟩ := hM3
            have fT3 := f2.trans (frT.ofD f3)
            have e73 : M3 (m + 7) = M (m + 7) := (f3.1 _ (by omega) (by omega) (by omega)).trans e7
            have e393 : M3 m 39 = i := (f3.2 _ (by omega)).trans e39
            have g3 : PGm M3 m it n := hg2.frT (frT.ofD f3).1
            have v147 : M3 (m + 14) i = opc (it i 0) (it i 2) := by rw [f3.1 _ (by omega) (by omega) (by omega)]; exact p1
            have cont : ¬ (it i 0 = 0 ∧ bldA st.1 (it i 3) = -2) → AW az_P0 (az_Z (qi K Q) 0 0) (az_rm 11 0 0) yX7_goRun cX7_goRun 2 (some .int) 0 0 162 [(1, m), (0, st.2.1 + 1)] [] K M3 := by
              intro hno
              have hfK : frK M3 (az_up M3 m 39 (i + 1)) m := ⟨fun b p q => up_oth _ _ _ p, fun j p q => az_up_i _ _ _ _ p⟩
              refine aw_aload_n dX7_goRun_162 rfl rfl ⟨by decide, by decide⟩ ?_
              refine aw_dup dX7_goRun_163 ?_
              refine aw_gi 39 dX7_goRun_164 fl_RX7_439 (by assumption) rfl rfl e393 ?_
              refine aw_iconst dX7_goRun_167 rfl ⟨by decide, by decide⟩ ?_
              refine aw_iadd dX7_goRun_168 (az_wr_id (by omega) (by omega)) ?_
              refine aw_pi 39 dX7_goRun_169 fl_RX7_439 (by assumption) rfl rfl ?_
              refine next fr (i + 1) (doI it i st.1, st.2.1 + 1, if it i 0 = 0 ∧ bldA st.1 (it i 3) = -2 ∨ 300 ≤ st.2.1 + 1 then 1 else 0) _ ⟨FR.fr r (fun b p q => by rw [up_oth _ _ _ (by omega)]; exact f3.1 b (by omega) (by omega) (by omega)), hv, az_up_s _ _ _ _, by rw [az_up_i _ _ _ _ (by omega), f3.2 _ (by omega)]; exact e40, by omega, by omega⟩ (by rw [← a4 k4]; omega) (HM_fr h3 (up_oth _ _ _ (by omega))) hgo (g3.frT (frT.ofK hfK).1) (fT3.trans (frT.ofK hfK)) ((up_oth _ _ _ (by omega)).trans e73) (by rw [← a4 k4]; exact hds.symm) ?_
              show (if it i 0 = 0 ∧ bldA st.1 (it i 3) = -2 ∨ 300 ≤ st.2.1 + 1 then (1 : Int) else 0) = 0 ∨ (if it i 0 = 0 ∧ bldA st.1 (it i 3) = -2 ∨ 300 ≤ st.2.1 + 1 then (1 : Int) else 0) ≠ 0 ∧ st.2.1 + 1 = 300
              by_cases q : 300 ≤ st.2.1 + 1
              · rw [if_pos (Or.inr q)]; omega
              · rw [if_neg (fun w => w.elim hno q)]; omega
            refine aw_iinc dX7_goRun_136 rfl (az_wr_id (by omega) (by omega)) (by decide) ?_
            refine aw_aload_n dX7_goRun_139 rfl rfl ⟨by decide, by decide⟩ ?_
            refine aw_gzF 17 dX7_goRun_140 fl_RX7_50 (by assumption) rfl rfl (by assumption) ?_
            refine aw_aload_n dX7_goRun_143 rfl rfl ⟨by decide, by decide⟩ ?_
            refine aw_gi 39 dX7_goRun_144 fl_RX7_439 (by assumption) rfl rfl e393 ?_
            refine aw_iv dX7_goRun_147 (by assumption) (by omega) (by omega) v147 ?_
            refine aw_if_ne (tgt := 162) dX7_goRun_148 rfl (fun h148 => ?_) (fun h148 => ?_)
            · exact cont (fun q => h148 (hopc.2.2.mpr q.1))
            · have k0 := hopc.2.2.mp h148
              refine aw_aload_n dX7_goRun_151 rfl rfl ⟨by decide, by decide⟩ ?_
              refine aw_gi 9 dX7_goRun_152 fl_RX7_308 (by assumption) rfl rfl (h9 k0) ?_
              refine aw_bipush dX7_goRun_155 (by decide) ⟨by decide, by decide⟩ ?_
              refine aw_icmp_ne (tgt := 162) dX7_goRun_157 rfl (fun h157 => ?_) (fun h157 => ?_)
              · exact cont (fun q => h157 q.2)
              · rw [if_pos (Or.inl ⟨k0, h157⟩)] at hds
                rw [den_sto _ _ _ (by show (1 : Int) ≠ 0; omega)] at hds
                refine aw_iload_n dX7_goRun_160 rfl rfl ?_
                refine aw_iret dX7_goRun_161 (by decide) (by decide) ⟨_, rfl, rfl, ?_⟩
                rw [← hQ, hds]
                exact ⟨rfl, h3, e73, fT3⟩
          · have hno := tv0 tc h127
            rw [if_pos hno, den_sto _ _ _ (by show (1 : Int) ≠ 0; omega)] at hds
            refine aw_iload_n dX7_goRun_130 rfl rfl ?_
            refine aw_iret dX7_goRun_131 (by decide) (by decide) ⟨_, rfl, rfl, ?_⟩
            rw [← hQ, hds]
            exact ⟨rfl, h2, e7, f2⟩
        · have h300 : st.2.1 = 300 := by
            rcases hst with q | q
            · exact absurd q s0
            · exact q.2
          refine aw_iload_n dX7_goRun_27 rfl rfl ?_
          refine aw_sipush dX7_goRun_28 (by decide) ⟨by decide, by decide⟩ ?_
          refine aw_icmp_ge (tgt := 179) dX7_goRun_31 rfl (fun h31 => ?_) (fun h31 => absurd h31 (by omega))
          exact ret ((den_sto fr i st s0).symm.trans hd)
  refine aw_iconst dX7_goRun_0 rfl ⟨by decide, by decide⟩ ?_
  refine aw_istore_n dX7_goRun_1 rfl (by decide) ?_
  refine aw_aload_n dX7_goRun_2 rfl rfl ⟨by decide, by decide⟩ ?_
  refine aw_iconst dX7_goRun_3 rfl ⟨by decide, by decide⟩ ?_
  refine aw_pi 39 dX7_goRun_4 fl_RX7_439 (by assumption) rfl rfl ?_
  refine aw_aload_n dX7_goRun_7 rfl rfl ⟨by decide, by decide⟩ ?_
  refine aw_iconst dX7_goRun_8 rfl ⟨by decide, by decide⟩ ?_
  refine aw_pi 40 dX7_goRun_9 fl_RX7_436 (by assumption) rfl rfl ?_
  have fK1 : frK M (az_up (az_up M m 39 0) m 40 0) m := ⟨fun b p q => by rw [up_oth _ _ _ p, up_oth _ _ _ p], fun j p q => by rw [az_up_i _ _ _ _ q, az_up_i _ _ _ _ p]⟩
  have hps : PS (az_up (az_up M m 39 0) m 40 0) m it n [] 0 := ⟨trivial, trivial, by rw [az_up_i _ _ _ _ (by omega), az_up_s], by rw [az_up_s]; rfl, Int.le_refl _, n40.1⟩
  generalize az_up (az_up M m 39 0) m 40 0 = M1 at fK1 hps ⊢
  refine aw_aload_n dX7_goRun_12 rfl rfl ⟨by decide, by decide⟩ ?_
  refine aw_cV0v dX7_goRun_13 ml_RX7_442 (by assumption) (by decide) rfl rfl ⟨by decide, by decide, by decide, by decide⟩ (Nat.le_of_ble_eq_true rfl) (sp_leaveBlocks hK0 hN M1 [] 0 hps) (fun M4 hM4 => ?_)
  obtain ⟨fr4, i4, hp4, hd4, hm4, hfi4, f4⟩ := hM4
  have f14 := fK1.trans f4
  refine loop (mden it n fr4 i4) fr4 i4 (S, 0, 0) M4 (Nat.le_refl _) hp4 hfi4 (HM_fr hc (f14.1 _ (by omega) (by omega))) ⟨hw, hcz, by show S.1 729 ≤ S.1 729 + 5 * 0; omega, by show (0 : Int) ≤ 0 ∧ (0 : Int) ≤ 300; omega, Or.inl rfl, fun _ => by show (0 : Int) < 300; omega⟩ (hg.frT (frT.ofK f14).1) (frT.ofK f14) (f14.1 _ (by omega) (by omega)) ((hd4 _).trans hden0) (Or.inl rfl)
theorem MDh.curU {M M' : az_M} {ch : hCh} {a u : Int} {bx : hCh} {bz : Int → Int} {T : hSt} (h : MDh M m ch a u bx bz) (hT : HM M' m T) (f : frU M M' m) : MDh M' m (chs ch a T) a u bx bz := by
  obtain ⟨h1, h2, h3, h4, h5, h6⟩ := h
  have e : ∀ b, m + 23 ≤ b → M' b = M b := fun b hb => f.1 b (by omega) (by omega)
  refine ⟨by rw [chs_s]; exact hT, by rw [f.2 44 (by omega) (by omega) (by omega) (by omega) (by omega)]; exact h2, by rw [f.2 45 (by omega) (by omega) (by omega) (by omega) (by omega)]; exact h3, fun j j0 j1 => ?_, fun j j0 j1 => ?_, fun j j0 j1 => ?_⟩
  · rw [blk_fr (e _ (by omega)), chs_n _ _ (by omega)]; exact h4 j j0 j1
  · rw [blk_fr (e _ (by omega)), chs_n _ _ (by omega)]; exact h5 j j0 j1
  · rw [blk_fr (e _ (by omega)), e _ (by omega)]; exact h6 j j0 j1
theorem PGm.frX {M M' : az_M} (h : PGm M m it n) (f : frX M M' m) : PGm M' m it n := h.fr f.2.2.2.1 f.2.1
theorem sp_mrun {ch : hCh} {a u : Int} {bx : hCh} {bz : Int → Int} {B : Int} (hK : MdK K m) (hN : NP it n) (M : az_M) (hgw : GW ch a u bx bz B) (hB : B ≤ 19990000) (hd : MDh M m ch a u bx bz) (hg : PGm M m it n) : AM yX7_run cX7_run 1 (some .int) 12 0 0 [(1, m)] K M (qi K (rA (n ≠ 0) (rn0 it n (ch a)).2.1 (-1) (rn0 it n (ch a)).1 ch a u bx bz M m)) := by
  have hK0 := hK
  obtain ⟨hKo, k3, k4, k5, k6, k7, k8, k9, k10, k11, k12, k13, k14, k15, k16, k17, k18, k19, k20, k21, k22, k23, k24, k25, y3, y4, y5, y6, y7, y8, y9, y10, y11, y12, y13, y14, y15, y16, y17, y18, y19, y20, y21, y22, y23, y24, y25⟩ := hK
  have hKo0 := hKo
  obtain ⟨hKa, k2, y2⟩ := hKo
  have hKa0 := hKa
  obtain ⟨km, k1, y1⟩ := hKa
  refine am_of (by decide) (Nat.le_of_ble_eq_true rfl) (L := [(1, m)]) rfl ?_
  obtain ⟨c1, c2, c3⟩ := hgw.cur
  refine aw_aload_n dX7_run_0 rfl rfl ⟨by decide, by decide⟩ ?_
  refine aw_gi 23 dX7_run_1 fl_RX7_433 (by assumption) rfl rfl hg.1 ?_
  refine aw_if_ne (tgt := 9) dX7_run_4 rfl (fun h4 => ?_) (fun h4 => ?_)
  · refine aw_aload_n dX7_run_9 rfl rfl ⟨by decide, by decide⟩ ?_
    refine aw_cV0v dX7_run_10 ml_RX7_219 (by assumption) (by decide) rfl rfl ⟨by decide, by decide, by decide, by decide⟩ (Nat.le_of_ble_eq_true rfl) (sp_keepAct hK0 M hgw hd) (fun M1 hM1 => ?_)
    have hc1 := act_HM hgw hM1.1
    refine aw_aload_n dX7_run_13 rfl rfl ⟨by decide, by decide⟩ ?_
    refine aw_cV0i dX7_run_14 ml_RX7_454 (by assumption) (by decide) rfl rfl ⟨by decide, by decide, by decide, by decide⟩ (Nat.le_of_ble_eq_true rfl) (sp_goRun hK0 hN M1 hc1 c1 (by omega) c2 (hg.frX hM1.2.1)) (fun z2 M2 hz2 => ?_)
    obtain ⟨e2, h2, -, f2⟩ := hz2
    subst e2
    exact aw_iret dX7_run_17 (by decide) (by decide) ⟨_, rfl, rfl, rA.yes h4 ⟨hM1.1.curU h2 f2.1, hM1.2.1.trans (frX.ofU f2.1), hM1.2.2.trans (frO.ofU f2.1)⟩⟩
  · refine aw_iconst dX7_run_7 rfl ⟨by decide, by decide⟩ ?_
    exact aw_iret dX7_run_8 (by decide) (by decide) ⟨_, rfl, rfl, rA.no (fun q => q h4) hd⟩
def atV (b : Int → Int) (T : hSt) (w : Int) : Int := if w = 1 then az_wr (T.1 730 - b 730) else if w = 2 then az_wr (T.1 732 - b 732) else if w = 3 then az_wr (T.1 731 - b 731) else if w = 4 then az_wr (T.1 729 - b 729) else if w = 5 then obN T.2.1 else ((rea T 0 6 (-1)).1.length : Int)
theorem sp_apartTells (hK : MdK K m) (M : az_M) (hc : HM M m S) (hw : WL S) (b : Int → Int) (hb : ∀ i, 729 ≤ i → i ≤ 733 → M (m + 7) i = b i) (w : Int) (w0 : 1 ≤ w) (w6 : w ≤ 6) : AM yX7_apartTells cX7_apartTells 2 (some .int) 4 0 0 [(1, m), (0, w)] K M (qi K (fun z M' => z = atV b S w ∧ frQ M M' m)) := by
  have hK0 := hK
  obtain ⟨hKo, k3, k4, k5, k6, k7, k8, k9, k10, k11, k12, k13, k14, k15, k16, k17, k18, k19, k20, k21, k22, k23, k24, k25, y3, y4, y5, y6, y7, y8, y9, y10, y11, y12, y13, y14, y15, y16, y17, y18, y19, y20, y21, y22, y23, y24, y25⟩ := hK
  have hKo0 := hKo
  obtain ⟨hKa, k2, y2⟩ := hKo
  have hKa0 := hKa
  obtain ⟨km, k1, y1⟩ := hKa
  refine am_of (by decide) (Nat.le_of_ble_eq_true rfl) (L := [(1, m), (0, w)]) rfl ?_
  have si : ∀ i, 729 ≤ i → i ≤ 733 → AM yX7_since cX7_since 2 (some .int) 0 0 0 [(1, m), (0, i)] K M (qp K M (az_wr (S.1 i - b i))) := fun i i0 i1 => qp_c (sp_since hK0 M i (by omega) (by omega)) (by rw [hb i i0 i1, hc.1 i (by omega) (by omega) (by omega) (by omega)])
  generalize hV : atV b S w = V
  unfold atV at hV
  refine aw_iload_n dX7_apartTells_0 rfl rfl ?_
  by_cases q1 : w = 1
  · subst q1
    refine aw_tsIn (tgt := 36) dX7_apartTells_1 (by omega) (by omega) rfl rfl ?_
    refine aw_aload_n dX7_apartTells_36 rfl rfl ⟨by decide, by decide⟩ ?_
    refine aw_sipush dX7_apartTells_37 (by decide) ⟨by decide, by decide⟩ ?_
    refine aw_cV1p dX7_apartTells_40 ml_RX7_295 (by assumption) (by decide) rfl rfl ⟨by decide, by decide, by decide, by decide⟩ (Nat.le_of_ble_eq_true rfl) (si 730 (by omega) (by omega)) ?_
    exact aw_iret dX7_apartTells_43 (by decide) (by decide) ⟨_, rfl, rfl, hV, frQ.refl M m⟩
  rw [if_neg q1] at hV
  by_cases q2 : w = 2
  · subst q2
    refine aw_tsIn (tgt := 44) dX7_apartTells_1 (by omega) (by omega) rfl rfl ?_
    refine aw_aload_n dX7_apartTells_44 rfl rfl ⟨by decide, by decide⟩ ?_
    refine aw_sipush dX7_apartTells_45 (by decide) ⟨by decide, by decide⟩ ?_
    refine aw_cV1p dX7_apartTells_48 ml_RX7_295 (by assumption) (by decide) rfl rfl ⟨by decide, by decide, by decide, by decide⟩ (Nat.le_of_ble_eq_true rfl) (si 732 (by omega) (by omega)) ?_
    exact aw_iret dX7_apartTells_51 (by decide) (by decide) ⟨_, rfl, rfl, hV, frQ.refl M m⟩
  rw [if_neg q2] at hV
  by_cases q3 : w = 3
  · subst q3
    refine aw_tsIn (tgt := 52) dX7_apartTells_1 (by omega) (by omega) rfl rfl ?_
    refine aw_aload_n dX7_apartTells_52 rfl rfl ⟨by decide, by decide⟩ ?_
    refine aw_sipush dX7_apartTells_53 (by decide) ⟨by decide, by decide⟩ ?_
    refine aw_cV1p dX7_apartTells_56 ml_RX7_295 (by assumption) (by decide) rfl rfl ⟨by decide, by decide, by decide, by decide⟩ (Nat.le_of_ble_eq_true rfl) (si 731 (by omega) (by omega)) ?_
    exact aw_iret dX7_apartTells_59 (by decide) (by decide) ⟨_, rfl, rfl, hV, frQ.refl M m⟩
  rw [if_neg q3] at hV
  by_cases q4 : w = 4
  · subst q4
    refine aw_tsIn (tgt := 60) dX7_apartTells_1 (by omega) (by omega) rfl rfl ?_
    refine aw_aload_n dX7_apartTells_60 rfl rfl ⟨by decide, by decide⟩ ?_
    refine aw_sipush dX7_apartTells_61 (by decide) ⟨by decide, by decide⟩ ?_
    refine aw_cV1p dX7_apartTells_64 ml_RX7_295 (by assumption) (by decide) rfl rfl ⟨by decide, by decide, by decide, by decide⟩ (Nat.le_of_ble_eq_true rfl) (si 729 (by omega) (by omega)) ?_
    exact aw_iret dX7_apartTells_67 (by decide) (by decide) ⟨_, rfl, rfl, hV, frQ.refl M m⟩
  rw [if_neg q4] at hV
  by_cases q5 : w = 5
  · subst q5
    refine aw_tsIn (tgt := 68) dX7_apartTells_1 (by omega) (by omega) rfl rfl ?_
    refine aw_aload_n dX7_apartTells_68 rfl rfl ⟨by decide, by decide⟩ ?_
    refine aw_cV0p dX7_apartTells_69 ml_RX7_164 (by assumption) (by decide) rfl rfl ⟨by decide, by decide, by decide, by decide⟩ (Nat.le_of_ble_eq_true rfl) (sp_objectsNow hKa0 M (WR_of hw.1) hc.1 hc.2.1) ?_
    exact aw_iret dX7_apartTells_72 (by decide) (by decide) ⟨_, rfl, rfl, hV, frQ.refl M m⟩
  rw [if_neg q5] at hV
  refine aw_tsOut (tgt := 73) dX7_apartTells_1 (by omega) rfl ?_
  refine aw_aload_n dX7_apartTells_73 rfl rfl ⟨by decide, by decide⟩ ?_
  refine aw_iconst dX7_apartTells_74 rfl ⟨by decide, by decide⟩ ?_
  refine aw_cV1i dX7_apartTells_75 ml_RX7_268 (by assumption) (by decide) rfl rfl ⟨by decide, by decide, by decide, by decide⟩ (Nat.le_of_ble_eq_true rfl) (sp_reach hK0 M hc hw (-1)) (fun z1 M1 hz1 => ?_)
  obtain ⟨e1, r1, f1⟩ := hz1
  exact aw_iret dX7_apartTells_78 (by decide) (by decide) ⟨_, rfl, rfl, e1.trans hV, f1⟩
def apV (it : Int → Int → Int) (n : Int) (S : hSt) (b w : Int) : Int := if w = 0 then (rn0 it n (apS S b)).2.1 else atV (apS S b).1 (rn0 it n (apS S b)).1 w
set_option maxHeartbeats 1000000 in
theorem sp_apart (hK : MdK K m) (hN : NP it n) (M : az_M) (hc : HM M m S) (hw : WL S) (hcy : S.1 729 ≤ 19990000) (hcz : 0 ≤ S.1 729) (hg : PGm M m it n) (b w : Int) (hb : 0 ≤ b ∧ b ≤ 3) (hw6 : 0 ≤ w ∧ w ≤ 6) : AM yX7_apart cX7_apart 5 (some .int) 12 0 0 [(1, m), (0, b), (0, w)] K M (qi K (fun z M' => z = apV it n S b w ∧ HM M' m S ∧ frU M M' m)) := by
  have hK0 := hK
  obtain ⟨hKo, k3, k4, k5, k6, k7, k8, k9, k10, k11, k12, k13, k14, k15, k16, k17, k18, k19, k20, k21, k22, k23, k24, k25, y3, y4, y5, y6, y7, y8, y9, y10, y11, y12, y13, y14, y15, y16, y17, y18, y19, y20, y21, y22, y23, y24, y25⟩ := hK
  have hKo0 := hKo
  obtain ⟨hKa, k2, y2⟩ := hKo
  have hKa0 := hKa
  obtain ⟨km, k1, y1⟩ := hKa
  refine am_of (by decide) (Nat.le_of_ble_eq_true rfl) (L := [(1, m), (0, b), (0, w), (9, 0), (9, 0)]) rfl ?_
  obtain ⟨w0, c0, c1⟩ := apS_wf hw hb.1 hb.2
  obtain ⟨q1, q2, q3, q4, -, -⟩ := rn0_RW (it := it) (n := n) hN w0 (by omega)
  generalize hV : apV it n S b w = V
  unfold apV at hV
  refine aw_aload_n dX7_apart_0 rfl rfl ⟨by decide, by decide⟩ ?_
  refine aw_cV0v dX7_apart_1 ml_RX7_283 (by assumption) (by decide) rfl rfl ⟨by decide, by decide, by decide, by decide⟩ (Nat.le_of_ble_eq_true rfl) (sp_putAside hK0 M) (fun M1 hM1 => ?_)
  have hc1 : HM M1 m S := HM_fr hc (hM1.2 _ (by omega))
  have ha1 : MT (M1 (m + 6)) S := MT_congr hc hw.1 hM1.1
  have f1 : frU M M1 m := ⟨fun b h1 h2 => hM1.2 b (by omega), fun j _ _ _ _ _ => by rw [hM1.2 m (by omega)]⟩
  refine aw_aload_n dX7_apart_4 rfl rfl ⟨by decide, by decide⟩ ?_
  refine aw_iload_n dX7_apart_5 rfl rfl ?_
  refine aw_cV1v dX7_apart_6 ml_RX7_311 (by assumption) (by decide) rfl rfl ⟨by decide, by decide, by decide, by decide⟩ (Nat.le_of_ble_eq_true rfl) (sp_mbeginApart hK0 M1 hc1 hw (by omega) hcz b) (fun M2 hM2 => ?_)
  obtain ⟨hc2, hb2, f2⟩ := hM2
  have hbase : ∀ i, 729 ≤ i → i ≤ 733 → M2 (m + 7) i = (apS S b).1 i := fun i i0 i1 => by rw [hb2 i (by omega) (by omega)]; exact hc2.1 _ (by omega) (by omega) (by omega) (by omega)
  refine aw_aload_n dX7_apart_9 rfl rfl ⟨by decide, by decide⟩ ?_
  refine aw_cV0i dX7_apart_10 ml_RX7_454 (by assumption) (by decide) rfl rfl ⟨by decide, by decide, by decide, by decide⟩ (Nat.le_of_ble_eq_true rfl) (sp_goRun hK0 hN M2 hc2 w0 (by omega) (by omega) (hg.frT (f1.trans f2.1))) (fun z3 M3 hz3 => ?_)
  refine aw_istore_n dX7_apart_13 rfl (by decide) ?_
  obtain ⟨e3, hc3, e7, f3⟩ := hz3
  subst e3
  generalize rn0 it n (apS S b) = R at *
  have f23 := f2.trans f3
  have fin : ∀ (x : Int) (M4 : az_M), x = V → frT M1 M4 m → AW az_P0 (az_Z (qi K (fun z M' => z = V ∧ HM M' m S ∧ frU M M' m)) 0 0) (az_rm 12 0 0) yX7_apart cX7_apart 5 (some .int) 0 0 27 [(1, m), (0, b), (0, w), (0, R.2.1), (9, 0)] [(0, x)] K M4 := by
    intro x M4 hx f4
    refine aw_istore dX7_apart_27 (by decide) ?_
    refine aw_aload_n dX7_apart_29 rfl rfl ⟨by decide, by decide⟩ ?_
    refine aw_cV0v dX7_apart_30 ml_RX7_289 (by assumption) (by decide) rfl rfl ⟨by decide, by decide, by decide, by decide⟩ (Nat.le_of_ble_eq_true rfl) (sp_bringBack hK0 M4) (fun M5 hM5 => ?_)
    have hc5 : HM M5 m S := HM_back (by rw [f4.2]; exact ha1) hw hM5.1
    refine aw_iload dX7_apart_33 rfl ?_
    exact aw_iret dX7_apart_35 (by decide) (by decide) ⟨_, rfl, rfl, hx, hc5, (f1.trans f4.1).trans ⟨fun b h1 h2 => hM5.2 b (by omega), fun j _ _ _ _ _ => by rw [hM5.2 m (by omega)]⟩⟩
  refine aw_iload_n dX7_apart_14 rfl rfl ?_
  refine aw_if_ne (tgt := 22) dX7_apart_15 rfl (fun h15 => ?_) (fun h15 => ?_)
  · rw [if_neg h15] at hV
    refine aw_aload_n dX7_apart_22 rfl rfl ⟨by decide, by decide⟩ ?_
    refine aw_iload_n dX7_apart_23 rfl rfl ?_
    refine aw_cV1i dX7_apart_24 ml_RX7_457 (by assumption) (by decide) rfl rfl ⟨by decide, by decide, by decide, by decide⟩ (Nat.le_of_ble_eq_true rfl) (sp_apartTells hK0 M3 hc3 q1 (apS S b).1 (fun i i0 i1 => by rw [e7]; exact hbase i i0 i1) w (by omega) (by omega)) (fun z4 M4 hz4 => ?_)
    exact fin _ M4 (hz4.1.trans hV) (f23.trans (frT.ofQ hz4.2))
  · rw [if_pos (by omega)] at hV
    refine aw_iload_n dX7_apart_18 rfl rfl ?_
    refine aw_goto (tgt := 27) dX7_apart_19 rfl ?_
    exact fin _ M3 hV f23
def rbV (it : Int → Int → Int) (n : Int) (S : hSt) (b w : Int) : Int := if n ≠ 0 ∧ (0 ≤ b ∧ b ≤ 3) ∧ 0 ≤ w ∧ w ≤ 6 then apV it n S b w else -1
theorem sp_mrunBy (hK : MdK K m) (hN : NP it n) (M : az_M) (hc : HM M m S) (hw : WL S) (hcy : S.1 729 ≤ 19990000) (hcz : 0 ≤ S.1 729) (hg : PGm M m it n) (b w : Int) : AM yX7_runBy cX7_runBy 3 (some .int) 13 0 0 [(1, m), (0, b), (0, w)] K M (qi K (fun z M' => z = rbV it n S b w ∧ HM M' m S ∧ frU M M' m)) := by
  have hK0 := hK
  obtain ⟨hKo, k3, k4, k5, k6, k7, k8, k9, k10, k11, k12, k13, k14, k15, k16, k17, k18, k19, k20, k21, k22, k23, k24, k25, y3, y4, y5, y6, y7, y8, y9, y10, y11, y12, y13, y14, y15, y16, y17, y18, y19, y20, y21, y22, y23, y24, y25⟩ := hK
  have hKo0 := hKo
  obtain ⟨hKa, k2, y2⟩ := hKo
  have hKa0 := hKa
  obtain ⟨km, k1, y1⟩ := hKa
  refine am_of (by decide) (Nat.le_of_ble_eq_true rfl) (L := [(1, m), (0, b), (0, w)]) rfl ?_
  generalize hV : rbV it n S b w = V
  unfold rbV at hV
  have no : ¬ (n ≠ 0 ∧ (0 ≤ b ∧ b ≤ 3) ∧ 0 ≤ w ∧ w ≤ 6) → AW az_P0 (az_Z (qi K (fun z M' => z = V ∧ HM M' m S ∧ frU M M' m)) 0 0) (az_rm 13 0 0) yX7_runBy cX7_runBy 3 (some .int) 0 0 26 [(1, m), (0, b), (0, w)] [] K M := by
    intro h
    rw [if_neg h] at hV
    refine aw_iconst dX7_runBy_26 rfl ⟨by decide, by decide⟩ ?_
    exact aw_iret dX7_runBy_27 (by decide) (by decide) ⟨_, rfl, rfl, hV, hc, frU.refl M m⟩
  refine aw_aload_n dX7_runBy_0 rfl rfl ⟨by decide, by decide⟩ ?_
  refine aw_gi 23 dX7_runBy_1 fl_RX7_433 (by assumption) rfl rfl hg.1 ?_
  refine aw_if_eq (tgt := 26) dX7_runBy_4 rfl (fun h4 => ?_) (fun h4 => ?_)
  · exact no (fun q => q.1 h4)
  · refine aw_iload_n dX7_runBy_7 rfl rfl ?_
    refine aw_iconst dX7_runBy_8 rfl ⟨by decide, by decide⟩ ?_
    refine aw_iconst dX7_runBy_9 rfl ⟨by decide, by decide⟩ ?_
    refine aw_cS3p dX7_runBy_10 ml_RX7_94 ⟨by decide, by decide, by decide, by decide⟩ (Nat.le_of_ble_eq_true rfl) (sp_isIn K M b 0 3) ?_
    refine aw_if_eq (tgt := 26) dX7_runBy_13 rfl (fun h13 => ?_) (fun h13 => ?_)
    · exact no (fun q => if0 h13 q.2.1)
    · refine aw_iload_n dX7_runBy_16 rfl rfl ?_
      refine aw_iconst dX7_runBy_17 rfl ⟨by decide, by decide⟩ ?_
      refine aw_bipush dX7_runBy_18 (by decide) ⟨by decide, by decide⟩ ?_
      refine aw_cS3p dX7_runBy_20 ml_RX7_94 ⟨by decide, by decide, by decide, by decide⟩ (Nat.le_of_ble_eq_true rfl) (sp_isIn K M w 0 6) ?_
      refine aw_if_ne (tgt := 28) dX7_runBy_23 rfl (fun h23 => ?_) (fun h23 => ?_)
      · rw [if_pos ⟨h4, if1 h13, if1 h23⟩] at hV
        refine aw_aload_n dX7_runBy_28 rfl rfl ⟨by decide, by decide⟩ ?_
        refine aw_iload_n dX7_runBy_29 rfl rfl ?_
        refine aw_iload_n dX7_runBy_30 rfl rfl ?_
        refine aw_cV2i dX7_runBy_31 ml_RX7_460 (by assumption) (by decide) rfl rfl ⟨by decide, by decide, by decide, by decide⟩ (Nat.le_of_ble_eq_true rfl) (sp_apart hK0 hN M hc hw hcy hcz hg b w (if1 h13) (if1 h23)) (fun z1 M1 hz1 => ?_)
        exact aw_iret dX7_runBy_34 (by decide) (by decide) ⟨_, rfl, rfl, hz1.1.trans hV, hz1.2⟩
      · exact no (fun q => if0 h23 q.2.2)
def chB (it : Int → Int → Int) (n : Int) (S : hSt) : Nat → Int × Int
  | 0 => (0, apV it n S 0 1)
  | k + 1 => if apV it n S (k + 1) 1 < (chB it n S k).2 then ((k : Int) + 1, apV it n S (k + 1) 1) else chB it n S k
def chV (it : Int → Int → Int) (n : Int) (S : hSt) (w : Int) : Int := if n ≠ 0 ∧ 0 ≤ w ∧ w ≤ 1 then (if w = 0 then (chB it n S 2).1 else (chB it n S 2).2) else -1
set_option maxHeartbeats 1000000 in
theorem sp_mcheapest (hK : MdK K m) (hN : NP it n) (M : az_M) (hc : HM M m S) (hw : WL S) (hcy : S.1 729 ≤ 19990000) (hcz : 0 ≤ S.1 729) (hg : PGm M m it n) (w : Int) : AM yX7_cheapest cX7_cheapest 6 (some .int) 13 0 0 [(1, m), (0, w)] K M (qi K (fun z M' => z = chV it n S w ∧ HM M' m S ∧ frU M M' m)) := by
  have hK0 := hK
  obtain ⟨hKo, k3, k4, k5, k6, k7, k8, k9, k10, k11, k12, k13, k14, k15, k16, k17, k18, k19, k20, k21, k22, k23, k24, k25, y3, y4, y5, y6, y7, y8, y9, y10, y11, y12, y13, y14, y15, y16, y17, y18, y19, y20, y21, y22, y23, y24, y25⟩ := hK
  have hKo0 := hKo
  obtain ⟨hKa, k2, y2⟩ := hKo
  have hKa0 := hKa
  obtain ⟨km, k1, y1⟩ := hKa
  refine am_of (by decide) (Nat.le_of_ble_eq_true rfl) (L := [(1, m), (0, w), (9, 0), (9, 0), (9, 0), (9, 0)]) rfl ?_
  generalize hV : chV it n S w = V
  unfold chV at hV
  have no : ¬ (n ≠ 0 ∧ 0 ≤ w ∧ w ≤ 1) → AW az_P0 (az_Z (qi K (fun z M' => z = V ∧ HM M' m S ∧ frU M M' m)) 0 0) (az_rm 13 0 0) yX7_cheapest cX7_cheapest 6 (some .int) 0 0 16 [(1, m), (0, w), (9, 0), (9, 0), (9, 0), (9, 0)] [] K M := by
    intro h
    rw [if_neg h] at hV
    refine aw_iconst dX7_cheapest_16 rfl ⟨by decide, by decide⟩ ?_
    exact aw_iret dX7_cheapest_17 (by decide) (by decide) ⟨_, rfl, rfl, hV, hc, frU.refl M m⟩
  refine aw_aload_n dX7_cheapest_0 rfl rfl ⟨by decide, by decide⟩ ?_
  refine aw_gi 23 dX7_cheapest_1 fl_RX7_433 (by assumption) rfl rfl hg.1 ?_
  refine aw_if_eq (tgt := 16) dX7_cheapest_4 rfl (fun h4 => ?_) (fun h4 => ?_)
  · exact no (fun q => q.1 h4)
  · refine aw_iload_n dX7_cheapest_7 rfl rfl ?_
    refine aw_iconst dX7_cheapest_8 rfl ⟨by decide, by decide⟩ ?_
    refine aw_iconst dX7_cheapest_9 rfl ⟨by decide, by decide⟩ ?_
    refine aw_cS3p dX7_cheapest_10 ml_RX7_94 ⟨by decide, by decide, by decide, by decide⟩ (Nat.le_of_ble_eq_true rfl) (sp_isIn K M w 0 1) ?_
    refine aw_if_ne (tgt := 18) dX7_cheapest_13 rfl (fun h13 => ?_) (fun h13 => ?_)
    · rw [if_pos ⟨h4, if1 h13⟩] at hV
      have hw1 := if1 h13
      refine aw_iconst dX7_cheapest_18 rfl ⟨by decide, by decide⟩ ?_
      refine aw_istore_n dX7_cheapest_19 rfl (by decide) ?_
      refine aw_aload_n dX7_cheapest_20 rfl rfl ⟨by decide, by decide⟩ ?_
      refine aw_iconst dX7_cheapest_21 rfl ⟨by decide, by decide⟩ ?_
      refine aw_iconst dX7_cheapest_22 rfl ⟨by decide, by decide⟩ ?_
      refine aw_cV2i dX7_cheapest_23 ml_RX7_460 (by assumption) (by decide) rfl rfl ⟨by decide, by decide, by decide, by decide⟩ (Nat.le_of_ble_eq_true rfl) (sp_apart hK0 hN M hc hw hcy hcz hg 0 1 (by omega) (by omega)) (fun z1 M1 hz1 => ?_)
      refine aw_istore_n dX7_cheapest_26 rfl (by decide) ?_
      obtain ⟨e1, hc1, f1⟩ := hz1
      subst e1
      refine aw_iconst dX7_cheapest_27 rfl ⟨by decide, by decide⟩ ?_
      refine aw_istore dX7_cheapest_28 (by decide) ?_
      have loop : ∀ (d k : Nat) (M2 : az_M) (v5 : az_V), k + d = 2 → HM M2 m S → frU M M2 m → AW az_P0 (az_Z (qi K (fun z M' => z = V ∧ HM M' m S ∧ frU M M' m)) 0 0) (az_rm 13 0 0) yX7_cheapest cX7_cheapest 6 (some .int) 0 0 30 [(1, m), (0, w), (0, (chB it n S k).1), (0, (chB it n S k).2), (0, (k : Int) + 1), v5] [] K M2 := by
        intro d
        induction d with
        | zero =>
          intro k M2 v5 hk hc2 f2
          have hk2 : k = 2 := by omega
          subst hk2
          refine aw_iload dX7_cheapest_30 rfl ?_
          refine aw_iconst dX7_cheapest_32 rfl ⟨by decide, by decide⟩ ?_
          refine aw_icmp_gt (tgt := 66) dX7_cheapest_33 rfl (fun h33 => ?_) (fun h33 => absurd h33 (by omega))
          refine aw_iload_n dX7_cheapest_66 rfl rfl ?_
          refine aw_if_ne (tgt := 74) dX7_cheapest_67 rfl (fun h67 => ?_) (fun h67 => ?_)
          · rw [if_neg h67] at hV
            refine aw_iload_n dX7_cheapest_74 rfl rfl ?_
            exact aw_iret dX7_cheapest_75 (by decide) (by decide) ⟨_, rfl, rfl, hV, hc2, f2⟩
          · rw [if_pos (by omega)] at hV
            refine aw_iload_n dX7_cheapest_70 rfl rfl ?_
            refine aw_goto (tgt := 75) dX7_cheapest_71 rfl ?_
            exact aw_iret dX7_cheapest_75 (by decide) (by decide) ⟨_, rfl, rfl, hV, hc2, f2⟩
        | succ d ih =>
          intro k M2 v5 hk hc2 f2
          have hst : chB it n S (k + 1) = if apV it n S (k + 1) 1 < (chB it n S k).2 then ((k : Int) + 1, apV it n S (k + 1) 1) else chB it n S k := rfl
          refine aw_iload dX7_cheapest_30 rfl ?_
          refine aw_iconst dX7_cheapest_32 rfl ⟨by decide, by decide⟩ ?_
          refine aw_icmp_gt (tgt := 66) dX7_cheapest_33 rfl (fun h33 => absurd h33 (by omega)) (fun h33 => ?_)
          refine aw_aload_n dX7_cheapest_36 rfl rfl ⟨by decide, by decide⟩ ?_
          refine aw_iload dX7_cheapest_37 rfl ?_
          refine aw_iconst dX7_cheapest_39 rfl ⟨by decide, by decide⟩ ?_
          refine aw_cV2i dX7_cheapest_40 ml_RX7_460 (by assumption) (by decide) rfl rfl ⟨by decide, by decide, by decide, by decide⟩ (Nat.le_of_ble_eq_true rfl) (sp_apart hK0 hN M2 hc2 hw hcy hcz (hg.frT f2) ((k : Int) + 1) 1 (by omega) (by omega)) (fun z3 M3 hz3 => ?_)
          refine aw_istore dX7_cheapest_43 (by decide) ?_
          obtain ⟨e3, hc3, f3⟩ := hz3
          subst e3
          refine aw_iload dX7_cheapest_45 rfl ?_
          refine aw_iload_n dX7_cheapest_47 rfl rfl ?_
          refine aw_icmp_lt (tgt := 54) dX7_cheapest_48 rfl (fun h48 => ?_) (fun h48 => ?_)
          · rw [if_pos h48] at hst
            refine aw_iload dX7_cheapest_54 rfl ?_
            refine aw_istore_n dX7_cheapest_56 rfl (by decide) ?_
            refine aw_iload dX7_cheapest_57 rfl ?_
            refine aw_istore_n dX7_cheapest_59 rfl (by decide) ?_
            refine aw_iinc dX7_cheapest_60 rfl (az_wr_id (by omega) (by omega)) (by decide) ?_
            refine aw_goto (tgt := 30) dX7_cheapest_63 rfl ?_
            have := ih (k + 1) M3 (0, apV it n S ((k : Int) + 1) 1) (by omega) hc3 (f2.trans f3)
            rw [hst] at this
            exact this
          · rw [if_neg (by omega)] at hst
            refine aw_goto (tgt := 60) dX7_cheapest_51 rfl ?_
            refine aw_iinc dX7_cheapest_60 rfl (az_wr_id (by omega) (by omega)) (by decide) ?_
            refine aw_goto (tgt := 30) dX7_cheapest_63 rfl ?_
            have := ih (k + 1) M3 (0, apV it n S ((k : Int) + 1) 1) (by omega) hc3 (f2.trans f3)
            rw [hst] at this
            exact this
      exact loop 2 0 M1 _ (by omega) hc1 f1
    · exact no (fun q => if0 h13 q.2)
def suL (it : Int → Int → Int) (n : Int) (S : hSt) : Nat → Int → Int
  | 0, _ => -1
  | d + 1, p => if az_wr ((rn0 it n (nameS (apS S (S.1 735)) 737 p)).1.1 731 - (apS S (S.1 735)).1 731) = 0 then p else suL it n S d (p + 1)
def suV (it : Int → Int → Int) (n : Int) (S : hSt) : Int := if n ≠ 0 then suL it n S 17 0 else -1
set_option maxHeartbeats 1000000 in
theorem sp_msuits (hK : MdK K m) (hN : NP it n) (M : az_M) (hc : HM M m S) (hw : WL S) (hcy : S.1 729 ≤ 19990000) (hcz : 0 ≤ S.1 729) (hg : PGm M m it n) : AM yX7_suits cX7_suits 3 (some .int) 12 0 0 [(1, m)] K M (qi K (fun z M' => z = suV it n S ∧ HM M' m S ∧ frU M M' m)) := by
  have hK0 := hK
  obtain ⟨hKo, k3, k4, k5, k6, k7, k8, k9, k10, k11, k12, k13, k14, k15, k16, k17, k18, k19, k20, k21, k22, k23, k24, k25, y3, y4, y5, y6, y7, y8, y9, y10, y11, y12, y13, y14, y15, y16, y17, y18, y19, y20, y21, y22, y23, y24, y25⟩ := hK
  have hKo0 := hKo
  obtain ⟨hKa, k2, y2⟩ := hKo
  have hKa0 := hKa
  obtain ⟨km, k1, y1⟩ := hKa
  refine am_of (by decide) (Nat.le_of_ble_eq_true rfl) (L := [(1, m), (9, 0), (9, 0)]) rfl ?_
  generalize hV : suV it n S = V
  unfold suV at hV
  have hset := hw.1.2.2.2.2.2.2.1
  obtain ⟨w0, c0, c1⟩ := apS_wf hw hset.1 hset.2
  refine aw_aload_n dX7_suits_0 rfl rfl ⟨by decide, by decide⟩ ?_
  refine aw_gi 23 dX7_suits_1 fl_RX7_433 (by assumption) rfl rfl hg.1 ?_
  refine aw_if_ne (tgt := 9) dX7_suits_4 rfl (fun h4 => ?_) (fun h4 => ?_)
  · rw [if_pos h4] at hV
    refine aw_iconst dX7_suits_9 rfl ⟨by decide, by decide⟩ ?_
    refine aw_istore_n dX7_suits_10 rfl (by decide) ?_
    refine aw_aload_n dX7_suits_11 rfl rfl ⟨by decide, by decide⟩ ?_
    refine aw_cV0v dX7_suits_12 ml_RX7_283 (by assumption) (by decide) rfl rfl ⟨by decide, by decide, by decide, by decide⟩ (Nat.le_of_ble_eq_true rfl) (sp_putAside hK0 M) (fun M1 hM1 => ?_)
    have hc1 : HM M1 m S := HM_fr hc (hM1.2 _ (by omega))
    have ha1 : MT (M1 (m + 6)) S := MT_congr hc hw.1 hM1.1
    have f1 : frU M M1 m := ⟨fun b h1 h2 => hM1.2 b (by omega), fun j _ _ _ _ _ => by rw [hM1.2 m (by omega)]⟩
    refine aw_iconst dX7_suits_15 rfl ⟨by decide, by decide⟩ ?_
    refine aw_istore_n dX7_suits_16 rfl (by decide) ?_
    have loop : ∀ (d : Nat) (p x : Int) (M2 : az_M), 0 ≤ p → p + d = 17 → HM M2 m S → MT (M2 (m + 6)) S → frU M M2 m → (x = -1 ∧ suL it n S d p = V ∨ 0 ≤ x ∧ x = V) → AW az_P0 (az_Z (qi K (fun z M' => z = V ∧ HM M' m S ∧ frU M M' m)) 0 0) (az_rm 12 0 0) yX7_suits cX7_suits 3 (some .int) 0 0 17 [(1, m), (0, x), (0, p)] [] K M2 := by
      intro d
      induction d with
      | zero =>
        intro p x M2 p0 p1 hc2 ha2 f2 hx
        have hxV : x = V := by
          rcases hx with ⟨e, q⟩ | ⟨-, e⟩
          · exact e.trans q
          · exact e
        refine aw_iload_n dX7_suits_17 rfl rfl ?_
        refine aw_bipush dX7_suits_18 (by decide) ⟨by decide, by decide⟩ ?_
        refine aw_icmp_gt (tgt := 78) dX7_suits_20 rfl (fun h20 => ?_) (fun h20 => absurd h20 (by omega))
        refine aw_iload_n dX7_suits_78 rfl rfl ?_
        exact aw_iret dX7_suits_79 (by decide) (by decide) ⟨_, rfl, rfl, hxV, hc2, f2⟩
      | succ d ih =>
        intro p x M2 p0 p1 hc2 ha2 f2 hx
        refine aw_iload_n dX7_suits_17 rfl rfl ?_
        refine aw_bipush dX7_suits_18 (by decide) ⟨by decide, by decide⟩ ?_
        refine aw_icmp_gt (tgt := 78) dX7_suits_20 rfl (fun h20 => absurd h20 (by omega)) (fun h20 => ?_)
        refine aw_iload_n dX7_suits_23 rfl rfl ?_
        refine aw_if_ge (tgt := 78) dX7_suits_24 rfl (fun h24 => ?_) (fun h24 => ?_)
        · have hxV : x = V := by
            rcases hx with ⟨e, q⟩ | ⟨-, e⟩
            · omega
            · exact e
          refine aw_iload_n dX7_suits_78 rfl rfl ?_
          exact aw_iret dX7_suits_79 (by decide) (by decide) ⟨_, rfl, rfl, hxV, hc2, f2⟩
        · have hx1 : x = -1 ∧ suL it n S (d + 1) p = V := by
            rcases hx with q | q
            · exact q
            · omega
          obtain ⟨hx1, hx2⟩ := hx1
          replace hx2 : (if az_wr ((rn0 it n (nameS (apS S (S.1 735)) 737 p)).1.1 731 - (apS S (S.1 735)).1 731) = 0 then p else suL it n S d (p + 1)) = V := hx2
          have v35 : M2 (m + 1) 735 = S.1 735 := hc2.1 _ (by omega) (by omega) (by omega) (by omega)
          refine aw_aload_n dX7_suits_27 rfl rfl ⟨by decide, by decide⟩ ?_
          refine aw_aload_n dX7_suits_28 rfl rfl ⟨by decide, by decide⟩ ?_
          refine aw_gzF 0 dX7_suits_29 fl_RX7_7 (by assumption) rfl rfl (by assumption) ?_
          refine aw_sipush dX7_suits_32 (by decide) ⟨by decide, by decide⟩ ?_
          refine aw_iv dX7_suits_35 (by assumption) (by omega) (by omega) v35 ?_
          refine aw_cV1v dX7_suits_36 ml_RX7_311 (by assumption) (by decide) rfl rfl ⟨by decide, by decide, by decide, by decide⟩ (Nat.le_of_ble_eq_true rfl) (sp_mbeginApart hK0 M2 hc2 hw (by omega) hcz (S.1 735)) (fun M3 hM3 => ?_)
          obtain ⟨hc3, hb3, f3⟩ := hM3
          have e731 : M3 (m + 7) 731 = (apS S (S.1 735)).1 731 := by rw [hb3 731 (by omega) (by omega)]; exact hc3.1 _ (by omega) (by omega) (by omega) (by omega)
          have hc4 : HM (az_up M3 (m + 1) 737 p) m (nameS (apS S (S.1 735)) 737 p) := HM_up hc3 w0.1 (by omega) (by omega) (by omega) (by omega)
          have w4 : WL (nameS (apS S (S.1 735)) 737 p) := WL_setg w0 (w := 2) (by omega) (by omega) p0 (by rw [if_neg (by omega)]; omega)
          have e729 : (nameS (apS S (S.1 735)) 737 p).1 729 = (apS S (S.1 735)).1 729 := nameS_n _ _ (by omega)
          have f34 : frT M3 (az_up M3 (m + 1) 737 p) m := frT.of1 (fun x hx => up_oth _ _ _ hx)
          refine aw_aload_n dX7_suits_39 rfl rfl ⟨by decide, by decide⟩ ?_
          refine aw_gzF 0 dX7_suits_40 fl_RX7_7 (by assumption) rfl rfl (by assumption) ?_
          refine aw_sipush dX7_suits_43 (by decide) ⟨by decide, by decide⟩ ?_
          refine aw_iload_n dX7_suits_46 rfl rfl ?_
          refine aw_iast dX7_suits_47 (by assumption) (by omega) (by omega) ?_
          have e74 : az_up M3 (m + 1) 737 p (m + 7) = M3 (m + 7) := up_oth _ _ _ (by omega)
          generalize az_up M3 (m + 1) 737 p = M4 at hc4 f34 e74 ⊢
          have hgo := sp_goRun hK0 hN M4 hc4 w4 (by omega) (by omega) (hg.frT (f2.trans (f3.trans f34).1))
          generalize rn0 it n (nameS (apS S (S.1 735)) 737 p) = R at hgo hx2
          refine aw_aload_n dX7_suits_48 rfl rfl ⟨by decide, by decide⟩ ?_
          refine aw_aload_n dX7_suits_49 rfl rfl ⟨by decide, by decide⟩ ?_
          refine aw_cV0i dX7_suits_50 ml_RX7_454 (by assumption) (by decide) rfl rfl ⟨by decide, by decide, by decide, by decide⟩ (Nat.le_of_ble_eq_true rfl) (hgo) (fun z5 M5 hz5 => ?_)
          obtain ⟨e5, hc5, e75, f5⟩ := hz5
          have hc6 : HM (az_up M5 m 9 z5) m R.1 := HM_fr hc5 (up_oth _ _ _ (by omega))
          have e76 : az_up M5 m 9 z5 (m + 7) 731 = (apS S (S.1 735)).1 731 := by rw [up_oth _ _ _ (by omega), e75, e74]; exact e731
          have f56 : frT M5 (az_up M5 m 9 z5) m := ⟨⟨fun b h1 h2 => up_oth _ _ _ (by omega), fun j _ _ h9 _ _ => az_up_i _ _ _ _ h9⟩, up_oth _ _ _ (by omega)⟩
          have f26 : frT M2 (az_up M5 m 9 z5) m := f3.trans (f34.trans (f5.trans f56))
          have hsi : az_wr (az_up M5 m 9 z5 (m + 1) 731 - az_up M5 m 9 z5 (m + 7) 731) = az_wr (R.1.1 731 - (apS S (S.1 735)).1 731) := by rw [e76, hc6.1 731 (by omega) (by omega) (by omega) (by omega)]
          refine aw_pi 9 dX7_suits_53 fl_RX7_308 (by assumption) rfl rfl ?_
          generalize az_up M5 m 9 z5 = M6 at hc6 e76 f26 hsi ⊢
          have ha6 : MT (M6 (m + 6)) S := by rw [f26.2]; exact ha2
          have go : ∀ y : Int, (y = -1 ∧ suL it n S d (p + 1) = V ∨ 0 ≤ y ∧ y = V) → AW az_P0 (az_Z (qi K (fun z M' => z = V ∧ HM M' m S ∧ frU M M' m)) 0 0) (az_rm 12 0 0) yX7_suits cX7_suits 3 (some .int) 0 0 68 [(1, m), (0, y), (0, p)] [] K M6 := by
            intro y hy
            refine aw_aload_n dX7_suits_68 rfl rfl ⟨by decide, by decide⟩ ?_
            refine aw_cV0v dX7_suits_69 ml_RX7_289 (by assumption) (by decide) rfl rfl ⟨by decide, by decide, by decide, by decide⟩ (Nat.le_of_ble_eq_true rfl) (sp_bringBack hK0 M6) (fun M7 hM7 => ?_)
            have hc7 : HM M7 m S := HM_back ha6 hw hM7.1
            refine aw_iinc dX7_suits_72 rfl (az_wr_id (by omega) (by omega)) (by decide) ?_
            refine aw_goto (tgt := 17) dX7_suits_75 rfl ?_
            exact ih (p + 1) y M7 (by omega) (by omega) hc7 (by rw [hM7.2 _ (by omega)]; exact ha6) ((f2.trans f26.1).trans ⟨fun b h1 h2 => hM7.2 b (by omega), fun j _ _ _ _ _ => by rw [hM7.2 m (by omega)]⟩) hy
          refine aw_aload_n dX7_suits_56 rfl rfl ⟨by decide, by decide⟩ ?_
          refine aw_sipush dX7_suits_57 (by decide) ⟨by decide, by decide⟩ ?_
          refine aw_cV1p dX7_suits_60 ml_RX7_295 (by assumption) (by decide) rfl rfl ⟨by decide, by decide, by decide, by decide⟩ (Nat.le_of_ble_eq_true rfl) (qp_c (sp_since hK0 M6 731 (by omega) (by omega)) hsi) ?_
          refine aw_if_ne (tgt := 68) dX7_suits_63 rfl (fun h63 => ?_) (fun h63 => ?_)
          · rw [if_neg h63] at hx2
            exact go x (Or.inl ⟨hx1, hx2⟩)
          · rw [if_pos (by omega)] at hx2
            refine aw_iload_n dX7_suits_66 rfl rfl ?_
            refine aw_istore_n dX7_suits_67 rfl (by decide) ?_
            exact go p (Or.inr ⟨p0, hx2⟩)
    exact loop 17 0 (-1) M1 (by omega) (by omega) hc1 ha1 f1 (Or.inl ⟨rfl, hV⟩)
  · rw [if_neg (fun q => q h4)] at hV
    refine aw_iconst dX7_suits_7 rfl ⟨by decide, by decide⟩ ?_
    exact aw_iret dX7_suits_8 (by decide) (by decide) ⟨_, rfl, rfl, hV, hc, frU.refl M m⟩
end GR2
