/-! TreadRingModel: law, about -/
set_option maxRecDepth 20000
theorem sumN_evn {f : Int → Int} (k : Nat) (h : ∀ n : Nat, n < k → f (2 * (n : Int) + 1) = 0) : sumN (2 * k) f = sumN k (fun n => f (2 * n)) := by
  induction k with
  | zero => rfl
  | succ k ih =>
    rw [show 2 * (k + 1) = 2 * k + 1 + 1 by omega]
    show sumN (2 * k) f + f ((2 * k : Nat) : Int) + f ((2 * k + 1 : Nat) : Int) = sumN k (fun n => f (2 * n)) + f (2 * (k : Int))
    rw [ih (fun n hn => h n (by omega)), show ((2 * k + 1 : Nat) : Int) = 2 * (k : Int) + 1 by omega, h k (by omega), show ((2 * k : Nat) : Int) = 2 * (k : Int) by omega]
    omega
theorem odd_0 {g : Int → Int} {rg : Int → List Int} (hw : WR g rg) {a : Int} (a0 : 0 ≤ a) (a1 : a < 128) (h : a % 2 = 1) : g a = 0 := (hw.2.1 a a0 a1).2.2 (fun q => by have := (sl_even hw.1 q).1; omega)
section QM
variable {K : az_K} {m : Int} {S : hSt}
theorem eI_nn (g : Int → Int) (v : Int) : 0 ≤ eI g v ∧ eI g v ≤ 1 := by unfold eI; split <;> omega
set_option maxHeartbeats 2000000 in
theorem sp_mlaw (hK : MaK K m) (M : az_M) (hc : HM M m S) (hw : WL S) (w : Int) : AM yX7_law cX7_law 8 (some .int) 5 0 0 [(1, m), (0, w)] K M (qp K M (if w = 0 then boN S.1 else if w = 1 then 0 else -1)) := by
  have hK0 := hK
  obtain ⟨km, k1, y1⟩ := hK
  refine am_of (by decide) (Nat.le_of_ble_eq_true rfl) (L := [(1, m), (0, w), (9, 0), (9, 0), (9, 0), (9, 0), (9, 0), (9, 0)]) rfl ?_
  have hWR := WR_of hw.1
  have hbo : boN S.1 = sumN 128 (boI S.1) := by
    unfold boN
    rw [show (128 : Nat) = 2 * 64 from rfl, sumN_evn 64 (fun n hn => ?_)]
    unfold boI
    rw [if_neg]
    rintro ⟨q, -⟩
    rw [odd_0 hWR (by omega) (by omega) (by omega)] at q
    omega
  rw [hbo]
  generalize hV : (if w = 0 then sumN 128 (boI S.1) else if w = 1 then 0 else -1) = V
  have bo01 : ∀ a, 0 ≤ boI S.1 a ∧ boI S.1 a ≤ 1 := fun a => by unfold boI; split <;> omega
  refine aw_iload_n dX7_law_0 rfl rfl ?_
  refine aw_iconst dX7_law_1 rfl ⟨by decide, by decide⟩ ?_
  refine aw_iconst dX7_law_2 rfl ⟨by decide, by decide⟩ ?_
  refine aw_cS3p dX7_law_3 ml_RX7_94 ⟨by decide, by decide, by decide, by decide⟩ (Nat.le_of_ble_eq_true rfl) (sp_isIn K M w 0 1) ?_
  refine aw_if_ne (tgt := 11) dX7_law_6 rfl (fun h6 => ?_) (fun h6 => ?_)
  · have hw01 := if1 h6
    have loop2 : ∀ (d i : Nat) (v5 v6 v7 : az_V), i + d = 128 → AW az_P0 (az_Z (qp K M V) 0 0) (az_rm 5 0 0) yX7_law cX7_law 8 (some .int) 0 0 60 [(1, m), (0, w), (0, sumN i (boI S.1)), (0, 0), (0, (i : Int)), v5, v6, v7] [] K M := by
      intro d
      induction d with
      | zero =>
        intro i v5 v6 v7 hi
        have hi2 : i = 128 := by omega
        subst hi2
        refine aw_iload dX7_law_60 rfl ?_
        refine aw_sipush dX7_law_62 (by decide) ⟨by decide, by decide⟩ ?_
        refine aw_icmp_ge (tgt := 189) dX7_law_65 rfl (fun h65 => ?_) (fun h65 => absurd h65 (by omega))
        refine aw_iload_n dX7_law_189 rfl rfl ?_
        refine aw_if_ne (tgt := 197) dX7_law_190 rfl (fun h190 => ?_) (fun h190 => ?_)
        · rw [if_neg h190, if_pos (by omega)] at hV
          refine aw_iload_n dX7_law_197 rfl rfl ?_
          exact aw_iret dX7_law_198 (by decide) (by decide) (qp_i hV)
        · rw [if_pos h190] at hV
          refine aw_iload_n dX7_law_193 rfl rfl ?_
          refine aw_goto (tgt := 198) dX7_law_194 rfl ?_
          exact aw_iret dX7_law_198 (by decide) (by decide) (qp_i hV)
      | succ d ih =>
        intro i v5 v6 v7 hi
        have hnx : sumN (i + 1) (boI S.1) = sumN i (boI S.1) + boI S.1 i := rfl
        have hsum := sumN_le (f := boI S.1) (c := 1) i (fun j _ => bo01 j)
        refine aw_iload dX7_law_60 rfl ?_
        refine aw_sipush dX7_law_62 (by decide) ⟨by decide, by decide⟩ ?_
        refine aw_icmp_ge (tgt := 189) dX7_law_65 rfl (fun h65 => absurd h65 (by omega)) (fun h65 => ?_)
        refine aw_aload_n dX7_law_68 rfl rfl ⟨by decide, by decide⟩ ?_
        refine aw_iload dX7_law_69 rfl ?_
        refine aw_cV1p dX7_law_71 ml_RX7_109 (by assumption) (by decide) rfl rfl ⟨by decide, by decide, by decide, by decide⟩ (Nat.le_of_ble_eq_true rfl) (sp_misObject hK0 M hw.1.1 hc.1 i) ?_
        refine aw_if_ne (tgt := 80) dX7_law_74 rfl (fun h74 => ?_) (fun h74 => ?_)
        · have hob : ob S.1 i := if1 h74
          obtain ⟨f0, f7, fa, -⟩ := fld_in hw hob.1
          obtain ⟨n, hn⟩ : ∃ n : Nat, (n : Int) = S.1 (128 + (i : Int)) := ⟨(S.1 (128 + (i : Int))).toNat, by omega⟩
          have v98 : M (m + 1) (128 + (i : Int)) = S.1 (128 + (i : Int)) := hc.1 _ (by omega) (by omega) (by omega) (by omega)
          have v124 : M (m + 1) (i : Int) = S.1 i := hc.1 _ (by omega) (by omega) (by omega) (by omega)
          have hboi : boI S.1 i = if S.1 i = 3 ∧ 0 < sumN n (fun f => eI S.1 (S.1 (256 + i + 1 + f))) then 1 else 0 := by unfold boI; rw [show (S.1 (128 + (i : Int))).toNat = n by omega]
          refine aw_iconst dX7_law_80 rfl ⟨by decide, by decide⟩ ?_
          refine aw_istore dX7_law_81 (by decide) ?_
          refine aw_iconst dX7_law_83 rfl ⟨by decide, by decide⟩ ?_
          refine aw_istore dX7_law_84 (by decide) ?_
          have inner : ∀ (e j : Nat) (x : Int) (v7 : az_V), j + e = n → x = (if S.1 i = 3 ∧ 0 < sumN j (fun f => eI S.1 (S.1 (256 + i + 1 + f))) then 1 else 0) → AW az_P0 (az_Z (qp K M V) 0 0) (az_rm 5 0 0) yX7_law cX7_law 8 (some .int) 0 0 86 [(1, m), (0, w), (0, sumN i (boI S.1)), (0, 0), (0, (i : Int)), (0, x), (0, (j : Int)), v7] [] K M := by
            intro e
            induction e with
            | zero =>
              intro j x v7 hj hx
              have hj2 : j = n := by omega
              subst hj2
              rw [← hboi] at hx
              refine aw_iload dX7_law_86 rfl ?_
              refine aw_aload_n dX7_law_88 rfl rfl ⟨by decide, by decide⟩ ?_
              refine aw_gzF 0 dX7_law_89 fl_RX7_7 (by assumption) rfl rfl (by assumption) ?_
              refine aw_sipush dX7_law_92 (by decide) ⟨by decide, by decide⟩ ?_
              refine aw_iload dX7_law_95 rfl ?_
              refine aw_iadd dX7_law_97 (az_wr_id (by omega) (by omega)) ?_
              refine aw_iv dX7_law_98 (by assumption) (by omega) (by omega) v98 ?_
              refine aw_icmp_ge (tgt := 170) dX7_law_99 rfl (fun h99 => ?_) (fun h99 => absurd h99 (by omega))
              have hb := bo01 i
              refine aw_iload_n dX7_law_170 rfl rfl ?_
              refine aw_iload dX7_law_171 rfl ?_
              refine aw_if_eq (tgt := 180) dX7_law_173 rfl (fun h173 => ?_) (fun h173 => ?_)
              · refine aw_iconst dX7_law_180 rfl ⟨by decide, by decide⟩ ?_
                refine aw_iadd dX7_law_181 (az_wr_id (by omega) (by omega)) ?_
                refine aw_istore_n dX7_law_182 rfl (by decide) ?_
                refine aw_iinc dX7_law_183 rfl (az_wr_id (by omega) (by omega)) (by decide) ?_
                refine aw_goto (tgt := 60) dX7_law_186 rfl ?_
                have hih := ih (i + 1) (0, x) (0, (j : Int)) v7 (by omega)
                rw [hnx, show boI S.1 i = 0 by omega] at hih
                exact hih
              · refine aw_iconst dX7_law_176 rfl ⟨by decide, by decide⟩ ?_
                refine aw_goto (tgt := 181) dX7_law_177 rfl ?_
                refine aw_iadd dX7_law_181 (az_wr_id (by omega) (by omega)) ?_
                refine aw_istore_n dX7_law_182 rfl (by decide) ?_
                refine aw_iinc dX7_law_183 rfl (az_wr_id (by omega) (by omega)) (by decide) ?_
                refine aw_goto (tgt := 60) dX7_law_186 rfl ?_
                have hih := ih (i + 1) (0, x) (0, (j : Int)) v7 (by omega)
                rw [hnx, show boI S.1 i = 1 by omega] at hih
                exact hih
            | succ e ihe =>
              intro j x v7 hj hx
              have hnk := hw.1.2.2.2.2.1.2 i j hob (by omega) (by omega)
              have hlt := nok_lt hnk
              have v113 : M (m + 1) (256 + (i : Int) + 1 + (j : Int)) = S.1 (256 + i + 1 + j) := hc.1 _ (by omega) (by omega) (by omega) (by omega)
              generalize hv : S.1 (256 + (i : Int) + 1 + (j : Int)) = v at *
              have hej : sumN (j + 1) (fun f => eI S.1 (S.1 (256 + i + 1 + f))) = sumN j (fun f => eI S.1 (S.1 (256 + i + 1 + f))) + eI S.1 v := by
                show _ + eI S.1 (S.1 (256 + (i : Int) + 1 + (j : Int))) = _
                rw [hv]
              have hs0 := (sumN_le (f := fun f => eI S.1 (S.1 (256 + i + 1 + f))) (c := 1) j (fun k _ => eI_nn _ _)).1
              have hen := eI_nn S.1 v
              have fin : ∀ y : Int, y = (if S.1 i = 3 ∧ 0 < sumN (j + 1) (fun f => eI S.1 (S.1 (256 + i + 1 + f))) then 1 else 0) → AW az_P0 (az_Z (qp K M V) 0 0) (az_rm 5 0 0) yX7_law cX7_law 8 (some .int) 0 0 145 [(1, m), (0, w), (0, sumN i (boI S.1)), (0, 0), (0, (i : Int)), (0, x), (0, (j : Int)), (0, v)] [(0, y)] K M := by
                intro y hy
                refine aw_istore dX7_law_145 (by decide) ?_
                refine aw_iload_n dX7_law_147 rfl rfl ?_
                refine aw_aload_n dX7_law_148 rfl rfl ⟨by decide, by decide⟩ ?_
                refine aw_iload dX7_law_149 rfl ?_
                refine aw_cV1p dX7_law_151 ml_RX7_277 (by assumption) (by decide) rfl rfl ⟨by decide, by decide, by decide, by decide⟩ (Nat.le_of_ble_eq_true rfl) (sp_misFreed hK0 M hc hw v hnk) ?_
                refine aw_if_eq (tgt := 161) dX7_law_154 rfl (fun h154 => ?_) (fun h154 => absurd h154 (by omega))
                refine aw_iconst dX7_law_161 rfl ⟨by decide, by decide⟩ ?_
                refine aw_iadd dX7_law_162 (az_wr_id (by omega) (by omega)) ?_
                refine aw_istore_n dX7_law_163 rfl (by decide) ?_
                refine aw_iinc dX7_law_164 rfl (az_wr_id (by omega) (by omega)) (by decide) ?_
                refine aw_goto (tgt := 86) dX7_law_167 rfl ?_
                exact ihe (j + 1) y _ (by omega) hy
              refine aw_iload dX7_law_86 rfl ?_
              refine aw_aload_n dX7_law_88 rfl rfl ⟨by decide, by decide⟩ ?_
              refine aw_gzF 0 dX7_law_89 fl_RX7_7 (by assumption) rfl rfl (by assumption) ?_
              refine aw_sipush dX7_law_92 (by decide) ⟨by decide, by decide⟩ ?_
              refine aw_iload dX7_law_95 rfl ?_
              refine aw_iadd dX7_law_97 (az_wr_id (by omega) (by omega)) ?_
              refine aw_iv dX7_law_98 (by assumption) (by omega) (by omega) v98 ?_
              refine aw_icmp_ge (tgt := 170) dX7_law_99 rfl (fun h99 => absurd h99 (by omega)) (fun h99 => ?_)
              refine aw_aload_n dX7_law_102 rfl rfl ⟨by decide, by decide⟩ ?_
              refine aw_gzF 0 dX7_law_103 fl_RX7_7 (by assumption) rfl rfl (by assumption) ?_
              refine aw_iload dX7_law_106 rfl ?_
              refine aw_iload dX7_law_108 rfl ?_
              refine aw_cS2p dX7_law_110 ml_RX7_161 ⟨by decide, by decide, by decide, by decide⟩ (Nat.le_of_ble_eq_true rfl) (sp_fieldAt K M i j (by omega) (by omega) (by omega) (by omega)) ?_
              refine aw_iv dX7_law_113 (by assumption) (by omega) (by omega) v113 ?_
              refine aw_istore dX7_law_114 (by decide) ?_
              refine aw_iload dX7_law_116 rfl ?_
              refine aw_if_ne (tgt := 140) dX7_law_118 rfl (fun h118 => ?_) (fun h118 => ?_)
              · refine aw_iconst dX7_law_140 rfl ⟨by decide, by decide⟩ ?_
                refine aw_goto (tgt := 145) dX7_law_141 rfl ?_
                refine fin 1 ?_
                have : S.1 i = 3 ∧ 0 < sumN j (fun f => eI S.1 (S.1 (256 + i + 1 + f))) := by
                  rw [hx] at h118; exact if1 h118
                rw [if_pos ⟨this.1, by omega⟩]
              · have hnot : ¬ (S.1 i = 3 ∧ 0 < sumN j (fun f => eI S.1 (S.1 (256 + i + 1 + f)))) := by rw [hx] at h118; exact if0 h118
                refine aw_aload_n dX7_law_121 rfl rfl ⟨by decide, by decide⟩ ?_
                refine aw_iload dX7_law_122 rfl ?_
                refine aw_cV1p dX7_law_124 ml_RX7_106 (by assumption) (by decide) rfl rfl ⟨by decide, by decide, by decide, by decide⟩ (Nat.le_of_ble_eq_true rfl) (qp_c (sp_colourOf hK0 M i (by omega) (by omega)) v124) ?_
                refine aw_iconst dX7_law_127 rfl ⟨by decide, by decide⟩ ?_
                refine aw_icmp_ne (tgt := 144) dX7_law_128 rfl (fun h128 => ?_) (fun h128 => ?_)
                · refine aw_iconst dX7_law_144 rfl ⟨by decide, by decide⟩ ?_
                  exact fin 0 (by rw [if_neg (fun q => h128 q.1)])
                · have v134 : (if 0 ≤ v ∧ M (m + 1) v = 1 then (1 : Int) else 0) = eI S.1 v := by
                    unfold eI
                    by_cases q : 0 ≤ v
                    · rw [hc.1 v q (by omega) (by omega) (by omega)]
                    · rw [if_neg (fun z => q z.1), if_neg (fun z => q z.1)]
                  refine aw_aload_n dX7_law_131 rfl rfl ⟨by decide, by decide⟩ ?_
                  refine aw_iload dX7_law_132 rfl ?_
                  refine aw_cV1p dX7_law_134 ml_RX7_158 (by assumption) (by decide) rfl rfl ⟨by decide, by decide, by decide, by decide⟩ (Nat.le_of_ble_eq_true rfl) (qp_c (sp_isEcru hK0 M v (by omega)) v134) ?_
                  refine aw_if_eq (tgt := 144) dX7_law_137 rfl (fun h137 => ?_) (fun h137 => ?_)
                  · refine aw_iconst dX7_law_144 rfl ⟨by decide, by decide⟩ ?_
                    exact fin 0 (by rw [if_neg (fun q => by have := q.2; omega)])
                  · refine aw_iconst dX7_law_140 rfl ⟨by decide, by decide⟩ ?_
                    refine aw_goto (tgt := 145) dX7_law_141 rfl ?_
                    exact fin 1 (by rw [if_pos ⟨h128, by omega⟩])
          refine inner n 0 0 _ (by omega) ?_
          rw [if_neg]
          rintro ⟨-, q⟩
          exact absurd q (by show ¬ (0 : Int) < 0; omega)
        · have hob := if0 h74
          have hz : boI S.1 i = 0 := by
            unfold boI
            rw [if_neg]
            rintro ⟨q, -⟩
            have hs : sl S.1 i := Classical.byContradiction (fun z => by have := (hw.1.2.1 i (by omega) (by omega)).2.2 z; omega)
            exact hob ⟨hs, by omega⟩
          refine aw_goto (tgt := 183) dX7_law_77 rfl ?_
          refine aw_iinc dX7_law_183 rfl (az_wr_id (by omega) (by omega)) (by decide) ?_
          refine aw_goto (tgt := 60) dX7_law_186 rfl ?_
          have hih := ih (i + 1) v5 v6 v7 (by omega)
          rw [hnx, hz, Int.add_zero] at hih
          exact hih
    have loop1 : ∀ (d : Nat) (i : Int), 0 ≤ i → i + d = 6 → AW az_P0 (az_Z (qp K M V) 0 0) (az_rm 5 0 0) yX7_law cX7_law 8 (some .int) 0 0 18 [(1, m), (0, w), (0, 0), (0, 0), (0, i), (9, 0), (9, 0), (9, 0)] [] K M := by
      intro d
      induction d with
      | zero =>
        intro i i0 i1
        refine aw_iload dX7_law_18 rfl ?_
        refine aw_bipush dX7_law_20 (by decide) ⟨by decide, by decide⟩ ?_
        refine aw_icmp_ge (tgt := 57) dX7_law_22 rfl (fun h22 => ?_) (fun h22 => absurd h22 (by omega))
        refine aw_iconst dX7_law_57 rfl ⟨by decide, by decide⟩ ?_
        refine aw_istore dX7_law_58 (by decide) ?_
        exact loop2 128 0 _ _ _ (by omega)
      | succ d ih =>
        intro i i0 i1
        have v : M (m + 1) (715 + i) = S.1 (715 + i) := hc.1 _ (by omega) (by omega) (by omega) (by omega)
        refine aw_iload dX7_law_18 rfl ?_
        refine aw_bipush dX7_law_20 (by decide) ⟨by decide, by decide⟩ ?_
        refine aw_icmp_ge (tgt := 57) dX7_law_22 rfl (fun h22 => absurd h22 (by omega)) (fun h22 => ?_)
        refine aw_iload_n dX7_law_25 rfl rfl ?_
        refine aw_aload_n dX7_law_26 rfl rfl ⟨by decide, by decide⟩ ?_
        refine aw_aload_n dX7_law_27 rfl rfl ⟨by decide, by decide⟩ ?_
        refine aw_gzF 0 dX7_law_28 fl_RX7_7 (by assumption) rfl rfl (by assumption) ?_
        refine aw_sipush dX7_law_31 (by decide) ⟨by decide, by decide⟩ ?_
        refine aw_iload dX7_law_34 rfl ?_
        refine aw_iadd dX7_law_36 (az_wr_id (by omega) (by omega)) ?_
        refine aw_iv dX7_law_37 (by assumption) (by omega) (by omega) v ?_
        refine aw_cV1p dX7_law_38 ml_RX7_277 (by assumption) (by decide) rfl rfl ⟨by decide, by decide, by decide, by decide⟩ (Nat.le_of_ble_eq_true rfl) (sp_misFreed hK0 M hc hw (S.1 (715 + i)) (nam_nok hw (by omega) (by omega))) ?_
        refine aw_if_eq (tgt := 48) dX7_law_41 rfl (fun h41 => ?_) (fun h41 => absurd h41 (by omega))
        refine aw_iconst dX7_law_48 rfl ⟨by decide, by decide⟩ ?_
        refine aw_iadd dX7_law_49 (az_wr_id (by omega) (by omega)) ?_
        refine aw_istore_n dX7_law_50 rfl (by decide) ?_
        refine aw_iinc dX7_law_51 rfl (az_wr_id (by omega) (by omega)) (by decide) ?_
        refine aw_goto (tgt := 18) dX7_law_54 rfl ?_
        exact ih (i + 1) (by omega) (by omega)
    refine aw_iconst dX7_law_11 rfl ⟨by decide, by decide⟩ ?_
    refine aw_istore_n dX7_law_12 rfl (by decide) ?_
    refine aw_iconst dX7_law_13 rfl ⟨by decide, by decide⟩ ?_
    refine aw_istore_n dX7_law_14 rfl (by decide) ?_
    refine aw_iconst dX7_law_15 rfl ⟨by decide, by decide⟩ ?_
    refine aw_istore dX7_law_16 (by decide) ?_
    exact loop1 6 0 (by omega) (by omega)
  · have h := if0 h6
    rw [if_neg (by omega), if_neg (by omega)] at hV
    refine aw_iconst dX7_law_9 rfl ⟨by decide, by decide⟩ ?_
    exact aw_iret dX7_law_10 (by decide) (by decide) (qp_i hV)
def abV (S : hSt) (a u n t w : Int) : Int := if w = 0 then S.1 725 else if w = 1 then S.1 726 else if 2 ≤ w ∧ w ≤ 6 then S.1 (727 + w) else if w = 7 then obN S.2.1 else if 8 ≤ w ∧ w ≤ 11 then S.1 (727 + w) else if w = 12 then S.1 727 else if w = 13 then a else if w = 14 then u else if w = 15 then S.1 734 else if w = 16 then S.1 741 else if w = 17 then n else if w = 18 then t else -2
set_option maxHeartbeats 1000000 in
theorem sp_mabout {ch : hCh} {a u : Int} {bx : hCh} {bz : Int → Int} (hK : MdK K m) (M : az_M) (hd : MDh M m ch a u bx bz) (hw : WL (ch a)) (n t : Int) (hi : M m 23 = n) (ht : M m 11 = t) (w : Int) : AM yX7_about cX7_about 2 (some .int) 4 0 0 [(1, m), (0, w)] K M (qp K M (abV (ch a) a u n t w)) := by
  have hK0 := hK
  obtain ⟨hKo, k3, k4, k5, k6, k7, k8, k9, k10, k11, k12, k13, k14, k15, k16, k17, k18, k19, k20, k21, k22, k23, k24, k25, y3, y4, y5, y6, y7, y8, y9, y10, y11, y12, y13, y14, y15, y16, y17, y18, y19, y20, y21, y22, y23, y24, y25⟩ := hK
  have hKo0 := hKo
  obtain ⟨hKa, k2, y2⟩ := hKo
  have hKa0 := hKa
  obtain ⟨km, k1, y1⟩ := hKa
  refine am_of (by decide) (Nat.le_of_ble_eq_true rfl) (L := [(1, m), (0, w)]) rfl ?_
  have hv : ∀ i, 707 ≤ i ∧ i < 790 → i ≠ 739 → M (m + 1) i = (ch a).1 i := fun i h1 h2 => hd.1.1 i (by omega) (by omega) (by omega) h2
  have hc : w = 0 ∨ w = 1 ∨ w = 2 ∨ w = 3 ∨ w = 4 ∨ w = 5 ∨ w = 6 ∨ w = 7 ∨ w = 8 ∨ w = 9 ∨ w = 10 ∨ w = 11 ∨ w = 12 ∨ w = 13 ∨ w = 14 ∨ w = 15 ∨ w = 16 ∨ w = 17 ∨ w = 18 ∨ (w < 0 ∨ 18 < w) := by omega
  rcases hc with rfl | rfl | rfl | rfl | rfl | rfl | rfl | rfl | rfl | rfl | rfl | rfl | rfl | rfl | rfl | rfl | rfl | rfl | rfl | hc
  · refine aw_iload_n dX7_about_0 rfl rfl ?_
    refine aw_tsIn (tgt := 92) dX7_about_1 (by omega) (by omega) rfl rfl ?_
    refine aw_aload_n dX7_about_92 rfl rfl ⟨by decide, by decide⟩ ?_
    refine aw_gzF 0 dX7_about_93 fl_RX7_7 (by assumption) rfl rfl (by assumption) ?_
    refine aw_sipush dX7_about_96 (by decide) ⟨by decide, by decide⟩ ?_
    refine aw_iv dX7_about_99 (by assumption) (by omega) (by omega) (hv 725 (by omega) (by omega)) ?_
    exact aw_iret dX7_about_100 (by decide) (by decide) (qp_i rfl)
  · refine aw_iload_n dX7_about_0 rfl rfl ?_
    refine aw_tsIn (tgt := 101) dX7_about_1 (by omega) (by omega) rfl rfl ?_
    refine aw_aload_n dX7_about_101 rfl rfl ⟨by decide, by decide⟩ ?_
    refine aw_gzF 0 dX7_about_102 fl_RX7_7 (by assumption) rfl rfl (by assumption) ?_
    refine aw_sipush dX7_about_105 (by decide) ⟨by decide, by decide⟩ ?_
    refine aw_iv dX7_about_108 (by assumption) (by omega) (by omega) (hv 726 (by omega) (by omega)) ?_
    exact aw_iret dX7_about_109 (by decide) (by decide) (qp_i rfl)
  · refine aw_iload_n dX7_about_0 rfl rfl ?_
    refine aw_tsIn (tgt := 110) dX7_about_1 (by omega) (by omega) rfl rfl ?_
    refine aw_aload_n dX7_about_110 rfl rfl ⟨by decide, by decide⟩ ?_
    refine aw_gzF 0 dX7_about_111 fl_RX7_7 (by assumption) rfl rfl (by assumption) ?_
    refine aw_sipush dX7_about_114 (by decide) ⟨by decide, by decide⟩ ?_
    refine aw_iv dX7_about_117 (by assumption) (by omega) (by omega) (hv 729 (by omega) (by omega)) ?_
    exact aw_iret dX7_about_118 (by decide) (by decide) (qp_i rfl)
  · refine aw_iload_n dX7_about_0 rfl rfl ?_
    refine aw_tsIn (tgt := 119) dX7_about_1 (by omega) (by omega) rfl rfl ?_
    refine aw_aload_n dX7_about_119 rfl rfl ⟨by decide, by decide⟩ ?_
    refine aw_gzF 0 dX7_about_120 fl_RX7_7 (by assumption) rfl rfl (by assumption) ?_
    refine aw_sipush dX7_about_123 (by decide) ⟨by decide, by decide⟩ ?_
    refine aw_iv dX7_about_126 (by assumption) (by omega) (by omega) (hv 730 (by omega) (by omega)) ?_
    exact aw_iret dX7_about_127 (by decide) (by decide) (qp_i rfl)
  · refine aw_iload_n dX7_about_0 rfl rfl ?_
    refine aw_tsIn (tgt := 128) dX7_about_1 (by omega) (by omega) rfl rfl ?_
    refine aw_aload_n dX7_about_128 rfl rfl ⟨by decide, by decide⟩ ?_
    refine aw_gzF 0 dX7_about_129 fl_RX7_7 (by assumption) rfl rfl (by assumption) ?_
    refine aw_sipush dX7_about_132 (by decide) ⟨by decide, by decide⟩ ?_
    refine aw_iv dX7_about_135 (by assumption) (by omega) (by omega) (hv 731 (by omega) (by omega)) ?_
    exact aw_iret dX7_about_136 (by decide) (by decide) (qp_i rfl)
  · refine aw_iload_n dX7_about_0 rfl rfl ?_
    refine aw_tsIn (tgt := 137) dX7_about_1 (by omega) (by omega) rfl rfl ?_
    refine aw_aload_n dX7_about_137 rfl rfl ⟨by decide, by decide⟩ ?_
    refine aw_gzF 0 dX7_about_138 fl_RX7_7 (by assumption) rfl rfl (by assumption) ?_
    refine aw_sipush dX7_about_141 (by decide) ⟨by decide, by decide⟩ ?_
    refine aw_iv dX7_about_144 (by assumption) (by omega) (by omega) (hv 732 (by omega) (by omega)) ?_
    exact aw_iret dX7_about_145 (by decide) (by decide) (qp_i rfl)
  · refine aw_iload_n dX7_about_0 rfl rfl ?_
    refine aw_tsIn (tgt := 146) dX7_about_1 (by omega) (by omega) rfl rfl ?_
    refine aw_aload_n dX7_about_146 rfl rfl ⟨by decide, by decide⟩ ?_
    refine aw_gzF 0 dX7_about_147 fl_RX7_7 (by assumption) rfl rfl (by assumption) ?_
    refine aw_sipush dX7_about_150 (by decide) ⟨by decide, by decide⟩ ?_
    refine aw_iv dX7_about_153 (by assumption) (by omega) (by omega) (hv 733 (by omega) (by omega)) ?_
    exact aw_iret dX7_about_154 (by decide) (by decide) (qp_i rfl)
  · refine aw_iload_n dX7_about_0 rfl rfl ?_
    refine aw_tsIn (tgt := 155) dX7_about_1 (by omega) (by omega) rfl rfl ?_
    refine aw_aload_n dX7_about_155 rfl rfl ⟨by decide, by decide⟩ ?_
    refine aw_cV0p dX7_about_156 ml_RX7_164 (by assumption) (by decide) rfl rfl ⟨by decide, by decide, by decide, by decide⟩ (Nat.le_of_ble_eq_true rfl) (sp_objectsNow hKa0 M (WR_of hw.1) hd.1.1 hd.1.2.1) ?_
    exact aw_iret dX7_about_159 (by decide) (by decide) (qp_i rfl)
  · refine aw_iload_n dX7_about_0 rfl rfl ?_
    refine aw_tsIn (tgt := 160) dX7_about_1 (by omega) (by omega) rfl rfl ?_
    refine aw_aload_n dX7_about_160 rfl rfl ⟨by decide, by decide⟩ ?_
    refine aw_gzF 0 dX7_about_161 fl_RX7_7 (by assumption) rfl rfl (by assumption) ?_
    refine aw_sipush dX7_about_164 (by decide) ⟨by decide, by decide⟩ ?_
    refine aw_iload_n dX7_about_167 rfl rfl ?_
    refine aw_iadd dX7_about_168 (az_wr_id (by omega) (by omega)) ?_
    refine aw_bipush dX7_about_169 (by decide) ⟨by decide, by decide⟩ ?_
    refine aw_isub dX7_about_171 (az_wr_id (by omega) (by omega)) ?_
    refine aw_iv dX7_about_172 (by assumption) (by omega) (by omega) (hv _ (by omega) (by omega)) ?_
    exact aw_iret dX7_about_173 (by decide) (by decide) (qp_i rfl)
  · refine aw_iload_n dX7_about_0 rfl rfl ?_
    refine aw_tsIn (tgt := 160) dX7_about_1 (by omega) (by omega) rfl rfl ?_
    refine aw_aload_n dX7_about_160 rfl rfl ⟨by decide, by decide⟩ ?_
    refine aw_gzF 0 dX7_about_161 fl_RX7_7 (by assumption) rfl rfl (by assumption) ?_
    refine aw_sipush dX7_about_164 (by decide) ⟨by decide, by decide⟩ ?_
    refine aw_iload_n dX7_about_167 rfl rfl ?_
    refine aw_iadd dX7_about_168 (az_wr_id (by omega) (by omega)) ?_
    refine aw_bipush dX7_about_169 (by decide) ⟨by decide, by decide⟩ ?_
    refine aw_isub dX7_about_171 (az_wr_id (by omega) (by omega)) ?_
    refine aw_iv dX7_about_172 (by assumption) (by omega) (by omega) (hv _ (by omega) (by omega)) ?_
    exact aw_iret dX7_about_173 (by decide) (by decide) (qp_i rfl)
  · refine aw_iload_n dX7_about_0 rfl rfl ?_
    refine aw_tsIn (tgt := 160) dX7_about_1 (by omega) (by omega) rfl rfl ?_
    refine aw_aload_n dX7_about_160 rfl rfl ⟨by decide, by decide⟩ ?_
    refine aw_gzF 0 dX7_about_161 fl_RX7_7 (by assumption) rfl rfl (by assumption) ?_
    refine aw_sipush dX7_about_164 (by decide) ⟨by decide, by decide⟩ ?_
    refine aw_iload_n dX7_about_167 rfl rfl ?_
    refine aw_iadd dX7_about_168 (az_wr_id (by omega) (by omega)) ?_
    refine aw_bipush dX7_about_169 (by decide) ⟨by decide, by decide⟩ ?_
    refine aw_isub dX7_about_171 (az_wr_id (by omega) (by omega)) ?_
    refine aw_iv dX7_about_172 (by assumption) (by omega) (by omega) (hv _ (by omega) (by omega)) ?_
    exact aw_iret dX7_about_173 (by decide) (by decide) (qp_i rfl)
  · refine aw_iload_n dX7_about_0 rfl rfl ?_
    refine aw_tsIn (tgt := 160) dX7_about_1 (by omega) (by omega) rfl rfl ?_
    refine aw_aload_n dX7_about_160 rfl rfl ⟨by decide, by decide⟩ ?_
    refine aw_gzF 0 dX7_about_161 fl_RX7_7 (by assumption) rfl rfl (by assumption) ?_
    refine aw_sipush dX7_about_164 (by decide) ⟨by decide, by decide⟩ ?_
    refine aw_iload_n dX7_about_167 rfl rfl ?_
    refine aw_iadd dX7_about_168 (az_wr_id (by omega) (by omega)) ?_
    refine aw_bipush dX7_about_169 (by decide) ⟨by decide, by decide⟩ ?_
    refine aw_isub dX7_about_171 (az_wr_id (by omega) (by omega)) ?_
    refine aw_iv dX7_about_172 (by assumption) (by omega) (by omega) (hv _ (by omega) (by omega)) ?_
    exact aw_iret dX7_about_173 (by decide) (by decide) (qp_i rfl)
  · refine aw_iload_n dX7_about_0 rfl rfl ?_
    refine aw_tsIn (tgt := 174) dX7_about_1 (by omega) (by omega) rfl rfl ?_
    refine aw_aload_n dX7_about_174 rfl rfl ⟨by decide, by decide⟩ ?_
    refine aw_gzF 0 dX7_about_175 fl_RX7_7 (by assumption) rfl rfl (by assumption) ?_
    refine aw_sipush dX7_about_178 (by decide) ⟨by decide, by decide⟩ ?_
    refine aw_iv dX7_about_181 (by assumption) (by omega) (by omega) (hv 727 (by omega) (by omega)) ?_
    exact aw_iret dX7_about_182 (by decide) (by decide) (qp_i rfl)
  · refine aw_iload_n dX7_about_0 rfl rfl ?_
    refine aw_tsIn (tgt := 183) dX7_about_1 (by omega) (by omega) rfl rfl ?_
    refine aw_aload_n dX7_about_183 rfl rfl ⟨by decide, by decide⟩ ?_
    refine aw_gi 44 dX7_about_184 fl_RX7_250 (by assumption) rfl rfl hd.2.1 ?_
    exact aw_iret dX7_about_187 (by decide) (by decide) (qp_i rfl)
  · refine aw_iload_n dX7_about_0 rfl rfl ?_
    refine aw_tsIn (tgt := 188) dX7_about_1 (by omega) (by omega) rfl rfl ?_
    refine aw_aload_n dX7_about_188 rfl rfl ⟨by decide, by decide⟩ ?_
    refine aw_gi 45 dX7_about_189 fl_RX7_253 (by assumption) rfl rfl hd.2.2.1 ?_
    exact aw_iret dX7_about_192 (by decide) (by decide) (qp_i rfl)
  · refine aw_iload_n dX7_about_0 rfl rfl ?_
    refine aw_tsIn (tgt := 193) dX7_about_1 (by omega) (by omega) rfl rfl ?_
    refine aw_aload_n dX7_about_193 rfl rfl ⟨by decide, by decide⟩ ?_
    refine aw_gzF 0 dX7_about_194 fl_RX7_7 (by assumption) rfl rfl (by assumption) ?_
    refine aw_sipush dX7_about_197 (by decide) ⟨by decide, by decide⟩ ?_
    refine aw_iv dX7_about_200 (by assumption) (by omega) (by omega) (hv 734 (by omega) (by omega)) ?_
    exact aw_iret dX7_about_201 (by decide) (by decide) (qp_i rfl)
  · refine aw_iload_n dX7_about_0 rfl rfl ?_
    refine aw_tsIn (tgt := 202) dX7_about_1 (by omega) (by omega) rfl rfl ?_
    refine aw_aload_n dX7_about_202 rfl rfl ⟨by decide, by decide⟩ ?_
    refine aw_gzF 0 dX7_about_203 fl_RX7_7 (by assumption) rfl rfl (by assumption) ?_
    refine aw_sipush dX7_about_206 (by decide) ⟨by decide, by decide⟩ ?_
    refine aw_iv dX7_about_209 (by assumption) (by omega) (by omega) (hv 741 (by omega) (by omega)) ?_
    exact aw_iret dX7_about_210 (by decide) (by decide) (qp_i rfl)
  · refine aw_iload_n dX7_about_0 rfl rfl ?_
    refine aw_tsIn (tgt := 211) dX7_about_1 (by omega) (by omega) rfl rfl ?_
    refine aw_aload_n dX7_about_211 rfl rfl ⟨by decide, by decide⟩ ?_
    refine aw_gi 23 dX7_about_212 fl_RX7_433 (by assumption) rfl rfl hi ?_
    exact aw_iret dX7_about_215 (by decide) (by decide) (qp_i rfl)
  · refine aw_iload_n dX7_about_0 rfl rfl ?_
    refine aw_tsIn (tgt := 216) dX7_about_1 (by omega) (by omega) rfl rfl ?_
    refine aw_aload_n dX7_about_216 rfl rfl ⟨by decide, by decide⟩ ?_
    refine aw_gi 11 dX7_about_217 fl_RX7_320 (by assumption) rfl rfl ht ?_
    exact aw_iret dX7_about_220 (by decide) (by decide) (qp_i rfl)
  · refine aw_iload_n dX7_about_0 rfl rfl ?_
    refine aw_tsOut (tgt := 221) dX7_about_1 (by omega) rfl ?_
    refine aw_bipush dX7_about_221 (by decide) ⟨by decide, by decide⟩ ?_
    refine aw_iret dX7_about_223 (by decide) (by decide) (qp_i ?_)
    unfold abV
    rw [if_neg (by omega), if_neg (by omega), if_neg (by omega), if_neg (by omega), if_neg (by omega), if_neg (by omega), if_neg (by omega), if_neg (by omega), if_neg (by omega), if_neg (by omega), if_neg (by omega), if_neg (by omega)]
end QM
