/-! TreadRingModel: grey, greyRoots, countAll, objectsNow -/
theorem eN_pos {S : hSt} (h : WS S) {a : Int} (ha : ob S.1 a) (h1 : S.1 a = 1) : 1 ≤ eN S.2.1 := by
  obtain ⟨e1, e2, e3, e4, e5⟩ := sl_even h.1 ha.1
  have a0 := ha.1.1
  have a1 := ha.1.2.1
  have hk : kz S.1 a = 0 ∨ kz S.1 a = 4 ∨ kz S.1 a = 8 := by unfold kz at e4 e5 ⊢; omega
  have hm : a / 2 ∈ S.2.1 (kz S.1 a + 1) := ((h.2.2.1 _ (by omega) (by omega)).2 (a / 2)).mpr ⟨by omega, by omega, by rw [show 2 * (a / 2) = a by omega]; exact ⟨ha.1, by omega⟩⟩
  have := List.length_pos_of_mem hm
  unfold eN
  rcases hk with e | e | e <;> rw [e] at this
  · have q : 0 < (S.2.1 1).length := this
    omega
  · have q : 0 < (S.2.1 5).length := this
    omega
  · have q : 0 < (S.2.1 9).length := this
    omega
set_option maxHeartbeats 1000000 in
theorem sp_mgrey {K : az_K} {m : Int} (hK : MaK K m) (M : az_M) {S : hSt} (hc : HM M m S) (hw : WS S) (hcy : S.1 729 ≤ 20000000) (a b : Int) (ha : nok S.1 a) (hb : b = 0 ∨ b = 1) : AM yX7_grey cX7_grey 3 none 3 0 0 [(1, m), (0, a), (0, b)] K M (qv K (fun M' => HM M' m (if b = 1 then greyS S a else S) ∧ ∀ x, x ≠ m + 1 → M' x = M x)) := by
  have hK0 := hK
  obtain ⟨km, k1, zz⟩ := hK
  refine am_of (by decide) (Nat.le_of_ble_eq_true rfl) (L := [(1, m), (0, a), (0, b)]) rfl ?_
  have ha128 := nok_lt ha
  have r01 : S.1 726 = 0 ∨ S.1 726 = 1 := hw.2.2.2.2.2.1.1
  obtain ⟨hF, hR, hW⟩ := hc
  have quit : (if b = 1 then greyS S a else S) = S → AW az_P0 (az_Z (qv K (fun M' => HM M' m (if b = 1 then greyS S a else S) ∧ ∀ x, x ≠ m + 1 → M' x = M x)) 0 0) (az_rm 3 0 0) yX7_grey cX7_grey 3 none 0 0 17 [(1, m), (0, a), (0, b)] [] K M := by
    intro q
    rw [q]
    exact aw_vret dX7_grey_17 (by decide) (by decide) ⟨rfl, rfl, ⟨hF, hR, hW⟩, fun _ _ => rfl⟩
  refine aw_iload_n dX7_grey_0 rfl rfl ?_
  refine aw_if_eq (tgt := 17) dX7_grey_1 rfl (fun h1 => ?_) (fun h1 => ?_)
  · exact quit (by rw [if_neg (by omega)])
  · rw [if_pos (show b = 1 by omega)] at quit ⊢
    refine aw_iload_n dX7_grey_4 rfl rfl ?_
    refine aw_if_lt (tgt := 17) dX7_grey_5 rfl (fun h5 => ?_) (fun h5 => ?_)
    · refine quit ?_
      unfold greyS
      rw [if_neg (by omega)]
    · have hv : M (m + 1) a = S.1 a := hF a (by omega) (by omega) (by omega) (by omega)
      refine aw_aload_n dX7_grey_8 rfl rfl ⟨by decide, by decide⟩ ?_
      refine aw_iload_n dX7_grey_9 rfl rfl ?_
      refine aw_cV1p dX7_grey_10 ml_RX7_106 (by assumption) (by decide) rfl rfl ⟨by decide, by decide, by decide, by decide⟩ (Nat.le_of_ble_eq_true rfl) (qp_c (sp_colourOf hK0 M a (by omega) (by omega)) hv) ?_
      refine aw_iconst dX7_grey_13 rfl ⟨by decide, by decide⟩ ?_
      refine aw_icmp_eq (tgt := 18) dX7_grey_14 rfl (fun h14 => ?_) (fun h14 => ?_)
      · have hob : ob S.1 a := by
          rcases ha with e | e
          · omega
          · exact e
        have a0 := hob.1.1
        have hep := eN_pos hw hob h14
        have hbc := sp_becomes hK0 M (WR_of hw) hF hR a 1 hob.1 (Or.inl rfl) h14
        refine aw_aload_n dX7_grey_18 rfl rfl ⟨by decide, by decide⟩ ?_
        refine aw_iload_n dX7_grey_19 rfl rfl ?_
        refine aw_iconst dX7_grey_20 rfl ⟨by decide, by decide⟩ ?_
        refine aw_cV2v dX7_grey_21 ml_RX7_139 (by assumption) (by decide) rfl rfl ⟨by decide, by decide, by decide, by decide⟩ (Nat.le_of_ble_eq_true rfl) (hbc) (fun M1 hM1 => ?_)
        obtain ⟨m1, m2, m3, m4⟩ := hM1
        have v32 : M1 (m + 1) 739 = M (m + 1) 739 := m3 739 (by omega)
        have hst := hW.1
        have hbd := hW.2.1
        refine aw_aload_n dX7_grey_24 rfl rfl ⟨by decide, by decide⟩ ?_
        refine aw_gzF 0 dX7_grey_25 fl_RX7_7 (by assumption) rfl rfl (by assumption) ?_
        refine aw_sipush dX7_grey_28 (by decide) ⟨by decide, by decide⟩ ?_
        refine aw_dup2 dX7_grey_31 ?_
        refine aw_iv dX7_grey_32 (by assumption) (by omega) (by omega) v32 ?_
        refine aw_iconst dX7_grey_33 rfl ⟨by decide, by decide⟩ ?_
        refine aw_iadd dX7_grey_34 (az_wr_id (by omega) (by omega)) ?_
        refine aw_iast dX7_grey_35 (by assumption) (by omega) (by omega) ?_
        have v52 : az_up M1 (m + 1) 739 (M (m + 1) 739 + 1) (m + 1) 739 = M (m + 1) 739 + 1 := az_up_s _ _ _ _
        refine aw_aload_n dX7_grey_36 rfl rfl ⟨by decide, by decide⟩ ?_
        refine aw_gzF 0 dX7_grey_37 fl_RX7_7 (by assumption) rfl rfl (by assumption) ?_
        refine aw_sipush dX7_grey_40 (by decide) ⟨by decide, by decide⟩ ?_
        refine aw_iload_n dX7_grey_43 rfl rfl ?_
        refine aw_iadd dX7_grey_44 (az_wr_id (by omega) (by omega)) ?_
        refine aw_aload_n dX7_grey_45 rfl rfl ⟨by decide, by decide⟩ ?_
        refine aw_gzF 0 dX7_grey_46 fl_RX7_7 (by assumption) rfl rfl (by assumption) ?_
        refine aw_sipush dX7_grey_49 (by decide) ⟨by decide, by decide⟩ ?_
        refine aw_iv dX7_grey_52 (by assumption) (by omega) (by omega) v52 ?_
        refine aw_iast dX7_grey_53 (by assumption) (by omega) (by omega) ?_
        generalize hM2 : az_up (az_up M1 (m + 1) 739 (M (m + 1) 739 + 1)) (m + 1) (384 + a) (M (m + 1) 739 + 1) = M2
        have f2 : ∀ i, M2 (m + 1) i = if i = 384 + a ∨ i = 739 then M (m + 1) 739 + 1 else M1 (m + 1) i := by
          intro i
          rw [← hM2]
          by_cases e : i = 384 + a
          · rw [if_pos (Or.inl e), e, az_up_s]
          · rw [az_up_i _ _ _ _ e]
            by_cases e2 : i = 739
            · rw [if_pos (Or.inr e2), e2, az_up_s]
            · rw [az_up_i _ _ _ _ e2, if_neg (by omega)]
        refine aw_vret dX7_grey_54 (by decide) (by decide) ⟨rfl, rfl, ?_, fun x hx => by rw [← hM2, up_oth _ _ _ hx, up_oth _ _ _ hx, m4 x hx]⟩
        have hgl := hw.2.2.2.2.2.1.2.2.2.1
        have hnot : a ∉ S.2.2 := fun q => by have := ((hgl a).mp q).2.1; omega
        have hEN := greyS_eN hw ha
        unfold greyS at hEN ⊢
        rw [if_pos ⟨a0, h14⟩] at hEN ⊢
        have hrl : ∀ z, 0 ≤ z → z < 3 → (rL (rmv S.2.1 (a / 2) (kz S.1 a + 1) (kz S.1 a + (1 + 1)) true) (4 * z)).length ≤ 64 := by
          intro z z0 z1
          exact rL_len (WR_of (greyS_wf (g := S.1) (rg := S.2.1) (gl := S.2.2) hw ha) |> fun q => by unfold greyS at q; rw [if_pos ⟨a0, h14⟩] at q; exact q) (by omega)
        refine ⟨fun i i0 i1 i2 i3 => ?_, fun z z0 z1 => ?_, ?_, ?_, fun i hi => ?_, fun i j hij hj => ?_⟩
        · rw [f2, if_neg (by omega)]; exact m1 i i0 i1 i2 i3
        · exact mRing_eq (m2 z z0 z1) (fun i i0 i1 => by rw [f2, if_neg (by omega)]) z0 z1 (hrl z z0 z1)
        · rw [f2, if_pos (Or.inr rfl)]; omega
        · rw [f2, if_pos (Or.inr rfl)]
          show M (m + 1) 739 + 1 + eN (rmv S.2.1 (a / 2) (kz S.1 a + 1) (kz S.1 a + 2) true) ≤ 64 * (gu S.1 a 2 729 + gu S.1 a 2 726)
          rw [gu_n _ _ (by omega), gu_n _ _ (by omega)]
          replace hEN : eN (rmv S.2.1 (a / 2) (kz S.1 a + 1) (kz S.1 a + 2) true) + ((S.2.2 ++ [a]).length : Int) = eN S.2.1 + (S.2.2.length : Int) := hEN
          rw [List.length_append, List.length_singleton] at hEN
          omega
        · show 0 ≤ M2 (m + 1) (384 + (S.2.2 ++ [a]).getD i 0) ∧ M2 (m + 1) (384 + (S.2.2 ++ [a]).getD i 0) ≤ M2 (m + 1) 739
          have hi' : i < (S.2.2 ++ [a]).length := hi
          rw [List.length_append, List.length_singleton] at hi'
          rw [f2 739, if_pos (Or.inr rfl)]
          by_cases e : i = S.2.2.length
          · rw [e, getD_app_r, f2, if_pos (Or.inl rfl)]; omega
          · rw [getD_app_l (by omega)]
            have hmem := getD_mem (l := S.2.2) (i := i) (by omega)
            have hx := ((hgl _).mp hmem).1.1
            have x0 := hx.1
            have x1 := hx.2.1
            have hne : S.2.2.getD i 0 ≠ a := fun q => hnot (by rw [← q]; exact hmem)
            rw [f2, if_neg (by omega), m3 _ (by omega)]
            have := hW.2.2.1 i (by omega)
            omega
        · show M2 (m + 1) (384 + (S.2.2 ++ [a]).getD i 0) < M2 (m + 1) (384 + (S.2.2 ++ [a]).getD j 0)
          have hj' : j < (S.2.2 ++ [a]).length := hj
          rw [List.length_append, List.length_singleton] at hj'
          have hmem := getD_mem (l := S.2.2) (i := i) (by omega)
          have hx := ((hgl _).mp hmem).1.1
          have x0 := hx.1
          have x1 := hx.2.1
          have hne : S.2.2.getD i 0 ≠ a := fun q => hnot (by rw [← q]; exact hmem)
          rw [getD_app_l (l := S.2.2) (a := a) (i := i) (by omega), f2 (384 + S.2.2.getD i 0), if_neg (by omega), m3 _ (by omega)]
          by_cases e : j = S.2.2.length
          · rw [e, getD_app_r, f2, if_pos (Or.inl rfl)]
            have := hW.2.2.1 i (by omega)
            omega
          · rw [getD_app_l (by omega)]
            have hmj := getD_mem (l := S.2.2) (i := j) (by omega)
            have hy := ((hgl _).mp hmj).1.1
            have y0 := hy.1
            have y1 := hy.2.1
            have hnj : S.2.2.getD j 0 ≠ a := fun q => hnot (by rw [← q]; exact hmj)
            rw [f2, if_neg (by omega), m3 _ (by omega)]
            exact hW.2.2.2 i j hij (by omega)
      · refine quit ?_
        unfold greyS
        rw [if_neg (fun q => h14 q.2)]
theorem sp_greyRoots {K : az_K} {m : Int} (hK : MaK K m) (M : az_M) {S : hSt} (hc : HM M m S) (hw : WS S) (hcy : S.1 729 ≤ 20000000) : AM yX7_greyRoots cX7_greyRoots 2 none 4 0 0 [(1, m)] K M (qv K (fun M' => HM M' m (greyF S (fun i => S.1 (715 + i)) 6) ∧ ∀ x, x ≠ m + 1 → M' x = M x)) := by
  have hK0 := hK
  obtain ⟨km, k1, zz⟩ := hK
  refine am_of (by decide) (Nat.le_of_ble_eq_true rfl) (L := [(1, m), (9, 0)]) rfl ?_
  have hGF := fun (i : Nat) (hi : i ≤ 6) => greyF_ok (g := S.1) (rg := S.2.1) (gl := S.2.2) hw (f := fun i => S.1 (715 + i)) i (fun j hj => hw.2.2.2.2.1.1 (715 + (j : Int)) (by omega) (by omega))
  refine aw_iconst dX7_greyRoots_0 rfl ⟨by decide, by decide⟩ ?_
  refine aw_istore_n dX7_greyRoots_1 rfl (by decide) ?_
  have loop : ∀ (k i : Nat) (M1 : az_M), i + k = 6 → HM M1 m (greyF S (fun i => S.1 (715 + i)) i) → (∀ x, x ≠ m + 1 → M1 x = M x) → AW az_P0 (az_Z (qv K (fun M' => HM M' m (greyF S (fun i => S.1 (715 + i)) 6) ∧ ∀ x, x ≠ m + 1 → M' x = M x)) 0 0) (az_rm 4 0 0) yX7_greyRoots cX7_greyRoots 2 none 0 0 2 [(1, m), (0, (i : Int))] [] K M1 := by
    intro k
    induction k with
    | zero =>
      intro i M1 hi h1 h2
      have : i = 6 := by omega
      subst this
      refine aw_iload_n dX7_greyRoots_2 rfl rfl ?_
      refine aw_bipush dX7_greyRoots_3 (by decide) ⟨by decide, by decide⟩ ?_
      refine aw_icmp_ge (tgt := 29) dX7_greyRoots_5 rfl (fun h5 => ?_) (fun h5 => absurd h5 (by omega))
      exact aw_vret dX7_greyRoots_29 (by decide) (by decide) ⟨rfl, rfl, h1, h2⟩
    | succ k ih =>
      intro i M1 hi h1 h2
      obtain ⟨w1, w2, w3⟩ := hGF i (by omega)
      have v18 : M1 (m + 1) (715 + (i : Int)) = S.1 (715 + i) := by
        rw [h1.1 _ (by omega) (by omega) (by omega) (by omega)]
        exact w3 _ (by omega)
      have hnk : nok (greyF S (fun i => S.1 (715 + i)) i).1 (S.1 (715 + i)) := by
        rcases hw.2.2.2.2.1.1 (715 + (i : Int)) (by omega) (by omega) with q | q
        · exact Or.inl q
        · exact Or.inr ((w2 _).mpr q)
      have hg := sp_mgrey hK0 M1 h1 w1 (by rw [w3 729 (by omega)]; exact hcy) (S.1 (715 + i)) 1 hnk (Or.inr rfl)
      rw [if_pos rfl] at hg
      refine aw_iload_n dX7_greyRoots_2 rfl rfl ?_
      refine aw_bipush dX7_greyRoots_3 (by decide) ⟨by decide, by decide⟩ ?_
      refine aw_icmp_ge (tgt := 29) dX7_greyRoots_5 rfl (fun h5 => absurd h5 (by omega)) (fun h5 => ?_)
      refine aw_aload_n dX7_greyRoots_8 rfl rfl ⟨by decide, by decide⟩ ?_
      refine aw_aload_n dX7_greyRoots_9 rfl rfl ⟨by decide, by decide⟩ ?_
      refine aw_gzF 0 dX7_greyRoots_10 fl_RX7_7 (by assumption) rfl rfl (by assumption) ?_
      refine aw_sipush dX7_greyRoots_13 (by decide) ⟨by decide, by decide⟩ ?_
      refine aw_iload_n dX7_greyRoots_16 rfl rfl ?_
      refine aw_iadd dX7_greyRoots_17 (az_wr_id (by omega) (by omega)) ?_
      refine aw_iv dX7_greyRoots_18 (by assumption) (by omega) (by omega) v18 ?_
      refine aw_iconst dX7_greyRoots_19 rfl ⟨by decide, by decide⟩ ?_
      refine aw_cV2v dX7_greyRoots_20 ml_RX7_142 (by assumption) (by decide) rfl rfl ⟨by decide, by decide, by decide, by decide⟩ (Nat.le_of_ble_eq_true rfl) (hg) (fun M2 hM2 => ?_)
      refine aw_iinc dX7_greyRoots_23 rfl (az_wr_id (by omega) (by omega)) (by decide) ?_
      refine aw_goto (tgt := 2) dX7_greyRoots_26 rfl ?_
      exact ih (i + 1) M2 (by omega) hM2.1 (fun x hx => (hM2.2 x hx).trans (h2 x hx))
  exact loop 6 0 M (by omega) hc (fun _ _ => rfl)
/-- how many of a colour there are -/
def colN (rg : Int → List Int) (c : Int) : Int := ((rg c).length : Int) + ((rg (4 + c)).length : Int) + ((rg (8 + c)).length : Int)
theorem sp_countAll {K : az_K} {m : Int} (hK : MaK K m) (M : az_M) {g : Int → Int} {rg : Int → List Int} (hw : WR g rg) (hF : mAll (M (m + 1)) g) (hR : mRg (M (m + 1)) rg) (c : Int) (c0 : 0 ≤ c) (c3 : c ≤ 3) : AM yX7_countAll cX7_countAll 4 (some .int) 2 0 0 [(1, m), (0, c)] K M (qp K M (colN rg c)) := by
  have hK0 := hK
  obtain ⟨km, k1, zz⟩ := hK
  refine am_of (by decide) (Nat.le_of_ble_eq_true rfl) (L := [(1, m), (0, c), (9, 0), (9, 0)]) rfl ?_
  have cn := fun (z : Int) (z0 : 0 ≤ z) (z1 : z < 3) => qp_c (sp_countOf hK0 M z c z0 z1 (rL rg (4 * z)) (hR z z0 z1) (rL_len hw (by omega)) (rL_in hw (by omega))) (cnt_row hw hF (by omega) c0 c3)
  have q0 := row_len hw (k := 4 * 0 + c) (by omega) (by omega)
  have q1 := row_len hw (k := 4 * 1 + c) (by omega) (by omega)
  have q2 := row_len hw (k := 4 * 2 + c) (by omega) (by omega)
  refine aw_iconst dX7_countAll_0 rfl ⟨by decide, by decide⟩ ?_
  refine aw_istore_n dX7_countAll_1 rfl (by decide) ?_
  refine aw_iconst dX7_countAll_2 rfl ⟨by decide, by decide⟩ ?_
  refine aw_istore_n dX7_countAll_3 rfl (by decide) ?_
  refine aw_iload_n dX7_countAll_4 rfl rfl ?_
  refine aw_iconst dX7_countAll_5 rfl ⟨by decide, by decide⟩ ?_
  refine aw_icmp_ge (tgt := 24) dX7_countAll_6 rfl (fun h6 => absurd h6 (by omega)) (fun h6 => ?_)
  refine aw_iload_n dX7_countAll_9 rfl rfl ?_
  refine aw_aload_n dX7_countAll_10 rfl rfl ⟨by decide, by decide⟩ ?_
  refine aw_iload_n dX7_countAll_11 rfl rfl ?_
  refine aw_iload_n dX7_countAll_12 rfl rfl ?_
  refine aw_cV2p dX7_countAll_13 ml_RX7_119 (by assumption) (by decide) rfl rfl ⟨by decide, by decide, by decide, by decide⟩ (Nat.le_of_ble_eq_true rfl) (cn 0 (by omega) (by omega)) ?_
  refine aw_iadd dX7_countAll_16 (az_wr_id (by omega) (by omega)) ?_
  refine aw_istore_n dX7_countAll_17 rfl (by decide) ?_
  refine aw_iinc dX7_countAll_18 rfl (az_wr_id (by omega) (by omega)) (by decide) ?_
  refine aw_goto (tgt := 4) dX7_countAll_21 rfl ?_
  refine aw_iload_n dX7_countAll_4 rfl rfl ?_
  refine aw_iconst dX7_countAll_5 rfl ⟨by decide, by decide⟩ ?_
  refine aw_icmp_ge (tgt := 24) dX7_countAll_6 rfl (fun h6 => absurd h6 (by omega)) (fun h6 => ?_)
  refine aw_iload_n dX7_countAll_9 rfl rfl ?_
  refine aw_aload_n dX7_countAll_10 rfl rfl ⟨by decide, by decide⟩ ?_
  refine aw_iload_n dX7_countAll_11 rfl rfl ?_
  refine aw_iload_n dX7_countAll_12 rfl rfl ?_
  refine aw_cV2p dX7_countAll_13 ml_RX7_119 (by assumption) (by decide) rfl rfl ⟨by decide, by decide, by decide, by decide⟩ (Nat.le_of_ble_eq_true rfl) (cn 1 (by omega) (by omega)) ?_
  refine aw_iadd dX7_countAll_16 (az_wr_id (by omega) (by omega)) ?_
  refine aw_istore_n dX7_countAll_17 rfl (by decide) ?_
  refine aw_iinc dX7_countAll_18 rfl (az_wr_id (by omega) (by omega)) (by decide) ?_
  refine aw_goto (tgt := 4) dX7_countAll_21 rfl ?_
  refine aw_iload_n dX7_countAll_4 rfl rfl ?_
  refine aw_iconst dX7_countAll_5 rfl ⟨by decide, by decide⟩ ?_
  refine aw_icmp_ge (tgt := 24) dX7_countAll_6 rfl (fun h6 => absurd h6 (by omega)) (fun h6 => ?_)
  refine aw_iload_n dX7_countAll_9 rfl rfl ?_
  refine aw_aload_n dX7_countAll_10 rfl rfl ⟨by decide, by decide⟩ ?_
  refine aw_iload_n dX7_countAll_11 rfl rfl ?_
  refine aw_iload_n dX7_countAll_12 rfl rfl ?_
  refine aw_cV2p dX7_countAll_13 ml_RX7_119 (by assumption) (by decide) rfl rfl ⟨by decide, by decide, by decide, by decide⟩ (Nat.le_of_ble_eq_true rfl) (cn 2 (by omega) (by omega)) ?_
  refine aw_iadd dX7_countAll_16 (az_wr_id (by omega) (by omega)) ?_
  refine aw_istore_n dX7_countAll_17 rfl (by decide) ?_
  refine aw_iinc dX7_countAll_18 rfl (az_wr_id (by omega) (by omega)) (by decide) ?_
  refine aw_goto (tgt := 4) dX7_countAll_21 rfl ?_
  refine aw_iload_n dX7_countAll_4 rfl rfl ?_
  refine aw_iconst dX7_countAll_5 rfl ⟨by decide, by decide⟩ ?_
  refine aw_icmp_ge (tgt := 24) dX7_countAll_6 rfl (fun h6 => ?_) (fun h6 => absurd h6 (by omega))
  refine aw_iload_n dX7_countAll_24 rfl rfl ?_
  refine aw_iret dX7_countAll_25 (by decide) (by decide) (qp_i ?_)
  unfold colN
  rw [show 4 * 0 + c = c by omega, show 4 * 1 + c = 4 + c by omega, show 4 * 2 + c = 8 + c by omega]
  omega
theorem obN_col (rg : Int → List Int) : obN rg = colN rg 1 + colN rg 2 + colN rg 3 := by
  unfold obN colN
  simp only [sumI]
  simp only [show (4 : Int) + 1 = 5 by decide, show (4 : Int) + 2 = 6 by decide, show (4 : Int) + 3 = 7 by decide, show (8 : Int) + 1 = 9 by decide, show (8 : Int) + 2 = 10 by decide, show (8 : Int) + 3 = 11 by decide]
  omega
theorem col_in {g : Int → Int} {rg : Int → List Int} (hw : WR g rg) {c : Int} (c0 : 0 ≤ c) (c3 : c ≤ 3) : 0 ≤ colN rg c ∧ colN rg c ≤ 192 := by
  have q0 := row_len hw (k := c) (by omega) (by omega)
  have q1 := row_len hw (k := 4 + c) (by omega) (by omega)
  have q2 := row_len hw (k := 8 + c) (by omega) (by omega)
  unfold colN
  omega
theorem sp_objectsNow {K : az_K} {m : Int} (hK : MaK K m) (M : az_M) {g : Int → Int} {rg : Int → List Int} (hw : WR g rg) (hF : mAll (M (m + 1)) g) (hR : mRg (M (m + 1)) rg) : AM yX7_objectsNow cX7_objectsNow 1 (some .int) 3 0 0 [(1, m)] K M (qp K M (obN rg)) := by
  have hK0 := hK
  obtain ⟨km, k1, zz⟩ := hK
  refine am_of (by decide) (Nat.le_of_ble_eq_true rfl) (L := [(1, m)]) rfl ?_
  have q1 := col_in hw (c := 1) (by omega) (by omega)
  have q2 := col_in hw (c := 2) (by omega) (by omega)
  have q3 := col_in hw (c := 3) (by omega) (by omega)
  refine aw_aload_n dX7_objectsNow_0 rfl rfl ⟨by decide, by decide⟩ ?_
  refine aw_iconst dX7_objectsNow_1 rfl ⟨by decide, by decide⟩ ?_
  refine aw_cV1p dX7_objectsNow_2 ml_RX7_122 (by assumption) (by decide) rfl rfl ⟨by decide, by decide, by decide, by decide⟩ (Nat.le_of_ble_eq_true rfl) (sp_countAll hK0 M hw hF hR 1 (by omega) (by omega)) ?_
  refine aw_aload_n dX7_objectsNow_5 rfl rfl ⟨by decide, by decide⟩ ?_
  refine aw_iconst dX7_objectsNow_6 rfl ⟨by decide, by decide⟩ ?_
  refine aw_cV1p dX7_objectsNow_7 ml_RX7_122 (by assumption) (by decide) rfl rfl ⟨by decide, by decide, by decide, by decide⟩ (Nat.le_of_ble_eq_true rfl) (sp_countAll hK0 M hw hF hR 2 (by omega) (by omega)) ?_
  refine aw_iadd dX7_objectsNow_10 (az_wr_id (by omega) (by omega)) ?_
  refine aw_aload_n dX7_objectsNow_11 rfl rfl ⟨by decide, by decide⟩ ?_
  refine aw_iconst dX7_objectsNow_12 rfl ⟨by decide, by decide⟩ ?_
  refine aw_cV1p dX7_objectsNow_13 ml_RX7_122 (by assumption) (by decide) rfl rfl ⟨by decide, by decide, by decide, by decide⟩ (Nat.le_of_ble_eq_true rfl) (sp_countAll hK0 M hw hF hR 3 (by omega) (by omega)) ?_
  refine aw_iadd dX7_objectsNow_16 (az_wr_id (by omega) (by omega)) ?_
  exact aw_iret dX7_objectsNow_17 (by decide) (by decide) (qp_i (obN_col rg).symm)
