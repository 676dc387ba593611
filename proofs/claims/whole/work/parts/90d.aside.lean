/-! TreadRingModel: what is tried and brought back -/
set_option maxRecDepth 20000
def frU (M M' : az_M) (m : Int) : Prop := (∀ b, b < m ∨ m + 7 < b → b < m + 20 ∨ m + 22 < b → M' b = M b) ∧ ∀ j, j ≠ 5 → j ≠ 8 → j ≠ 9 → j ≠ 39 → j ≠ 40 → M' m j = M m j
def frT (M M' : az_M) (m : Int) : Prop := frU M M' m ∧ M' (m + 6) = M (m + 6)
theorem nameS_n (S : hSt) {x y : Int} (v : Int) (h : y ≠ x) : (nameS S x v).1 y = S.1 y := by
  show gu S.1 x v y = S.1 y
  exact gu_n _ _ h
section FU
variable {M M1 M2 : az_M} {m : Int}
theorem frU.refl (M : az_M) (m : Int) : frU M M m := ⟨fun _ _ _ => rfl, fun _ _ _ _ _ _ => rfl⟩
theorem frU.trans (p : frU M M1 m) (q : frU M1 M2 m) : frU M M2 m := ⟨fun b h1 h2 => (q.1 b h1 h2).trans (p.1 b h1 h2), fun j a b c d e => (q.2 j a b c d e).trans (p.2 j a b c d e)⟩
theorem frT.refl (M : az_M) (m : Int) : frT M M m := ⟨frU.refl M m, rfl⟩
theorem frT.trans (p : frT M M1 m) (q : frT M1 M2 m) : frT M M2 m := ⟨p.1.trans q.1, q.2.trans p.2⟩
theorem frT.ofM (f : frM M M1 m) : frT M M1 m := ⟨⟨fun b h1 h2 => f b (by omega) (by omega), fun j _ _ _ _ _ => by rw [f m (by omega) (by omega)]⟩, f _ (by omega) (by omega)⟩
theorem frT.ofQ (f : frQ M M1 m) : frT M M1 m := ⟨⟨fun b h1 h2 => f.1 b (by omega) (by omega) (by omega) (by omega), fun j h5 _ _ _ _ => f.2 j h5⟩, f.1 _ (by omega) (by omega) (by omega) (by omega)⟩
theorem frT.of1 (f : ∀ x, x ≠ m + 1 → M1 x = M x) : frT M M1 m := frT.ofM (fun b h1 _ => f b h1)
theorem frX.ofU (f : frU M M1 m) : frX M M1 m := ⟨f.1 _ (by omega) (by omega), fun b h1 h2 => f.1 b (by omega) (by omega), f.2 _ (by omega) (by omega) (by omega) (by omega) (by omega), f.2 _ (by omega) (by omega) (by omega) (by omega) (by omega), f.2 _ (by omega) (by omega) (by omega) (by omega) (by omega), f.2 _ (by omega) (by omega) (by omega) (by omega) (by omega)⟩
theorem frO.ofU (f : frU M M1 m) : frO M M1 m := fun b hb => f.1 b (by omega) (by omega)
theorem MDh.ofU {ch : hCh} {a u : Int} {bx : hCh} {bz : Int → Int} (h : MDh M m ch a u bx bz) (hT : HM M1 m (ch a)) (f : frU M M1 m) : MDh M1 m ch a u bx bz := by
  obtain ⟨h1, h2, h3, h4, h5, h6⟩ := h
  have e : ∀ b, m + 23 ≤ b → M1 b = M b := fun b hb => f.1 b (by omega) (by omega)
  refine ⟨hT, by rw [f.2 44 (by omega) (by omega) (by omega) (by omega) (by omega)]; exact h2, by rw [f.2 45 (by omega) (by omega) (by omega) (by omega) (by omega)]; exact h3, fun j j0 j1 => ?_, fun j j0 j1 => ?_, fun j j0 j1 => ?_⟩
  · rw [blk_fr (e _ (by omega))]; exact h4 j j0 j1
  · rw [blk_fr (e _ (by omega))]; exact h5 j j0 j1
  · rw [blk_fr (e _ (by omega)), e _ (by omega)]; exact h6 j j0 j1
end FU
section AS
variable {K : az_K} {m : Int} {S : hSt}
theorem sp_putAside (hK : MdK K m) (M : az_M) : AM yX7_putAside cX7_putAside 2 none 0 0 0 [(1, m)] K M (qv K (fun M' => (∀ i, 0 ≤ i → i < 790 → M' (m + 6) i = M (m + 1) i) ∧ ∀ b, b ≠ m + 6 → M' b = M b)) := by
  have hK0 := hK
  obtain ⟨hKo, k3, k4, k5, k6, k7, k8, k9, k10, k11, k12, k13, k14, k15, k16, k17, k18, k19, k20, k21, k22, k23, k24, k25, y3, y4, y5, y6, y7, y8, y9, y10, y11, y12, y13, y14, y15, y16, y17, y18, y19, y20, y21, y22, y23, y24, y25⟩ := hK
  have hKo0 := hKo
  obtain ⟨hKa, k2, y2⟩ := hKo
  have hKa0 := hKa
  obtain ⟨km, k1, y1⟩ := hKa
  refine am_of (by decide) (Nat.le_of_ble_eq_true rfl) (L := [(1, m), (9, 0)]) rfl ?_
  refine aw_iconst dX7_putAside_0 rfl ⟨by decide, by decide⟩ ?_
  refine aw_istore_n dX7_putAside_1 rfl (by decide) ?_
  have loop : ∀ (d : Nat) (k : Int) (M2 : az_M), 0 ≤ k → k + d = 790 → (∀ i, 0 ≤ i → i < k → M2 (m + 6) i = M (m + 1) i) → (∀ b, b ≠ m + 6 → M2 b = M b) → AW az_P0 (az_Z (qv K (fun M' => (∀ i, 0 ≤ i → i < 790 → M' (m + 6) i = M (m + 1) i) ∧ ∀ b, b ≠ m + 6 → M' b = M b)) 0 0) (az_rm 0 0 0) yX7_putAside cX7_putAside 2 none 0 0 2 [(1, m), (0, k)] [] K M2 := by
    intro d
    induction d with
    | zero =>
      intro k M2 k0 k1 f2 o2
      refine aw_iload_n dX7_putAside_2 rfl rfl ?_
      refine aw_sipush dX7_putAside_3 (by decide) ⟨by decide, by decide⟩ ?_
      refine aw_icmp_ge (tgt := 27) dX7_putAside_6 rfl (fun h6 => ?_) (fun h6 => absurd h6 (by omega))
      exact aw_vret dX7_putAside_27 (by decide) (by decide) ⟨rfl, rfl, fun i i0 i1 => f2 i i0 (by omega), o2⟩
    | succ d ih =>
      intro k M2 k0 k1 f2 o2
      have v19 : M2 (m + 1) k = M (m + 1) k := by rw [o2 _ (by omega)]
      refine aw_iload_n dX7_putAside_2 rfl rfl ?_
      refine aw_sipush dX7_putAside_3 (by decide) ⟨by decide, by decide⟩ ?_
      refine aw_icmp_ge (tgt := 27) dX7_putAside_6 rfl (fun h6 => absurd h6 (by omega)) (fun h6 => ?_)
      refine aw_aload_n dX7_putAside_9 rfl rfl ⟨by decide, by decide⟩ ?_
      refine aw_gzF 6 dX7_putAside_10 fl_RX7_26 (by assumption) rfl rfl (by assumption) ?_
      refine aw_iload_n dX7_putAside_13 rfl rfl ?_
      refine aw_aload_n dX7_putAside_14 rfl rfl ⟨by decide, by decide⟩ ?_
      refine aw_gzF 0 dX7_putAside_15 fl_RX7_7 (by assumption) rfl rfl (by assumption) ?_
      refine aw_iload_n dX7_putAside_18 rfl rfl ?_
      refine aw_iv dX7_putAside_19 (by assumption) (by omega) (by omega) v19 ?_
      refine aw_iast dX7_putAside_20 (by assumption) (by omega) (by omega) ?_
      refine aw_iinc dX7_putAside_21 rfl (az_wr_id (by omega) (by omega)) (by decide) ?_
      refine aw_goto (tgt := 2) dX7_putAside_24 rfl ?_
      refine ih (k + 1) _ (by omega) (by omega) (fun i i0 i1 => ?_) (fun b hb => by rw [up_oth _ _ _ hb]; exact o2 b hb)
      rw [up_row]
      show (if i = k then M (m + 1) k else M2 (m + 6) i) = _
      by_cases e : i = k
      · rw [if_pos e, e]
      · rw [if_neg e]; exact f2 i i0 (by omega)
  exact loop 790 0 M (by omega) (by omega) (fun i i0 i1 => by omega) (fun _ _ => rfl)
theorem sp_bringBack (hK : MdK K m) (M : az_M) : AM yX7_bringBack cX7_bringBack 2 none 0 0 0 [(1, m)] K M (qv K (fun M' => (∀ i, 0 ≤ i → i < 790 → M' (m + 1) i = M (m + 6) i) ∧ ∀ b, b ≠ m + 1 → M' b = M b)) := by
  have hK0 := hK
  obtain ⟨hKo, k3, k4, k5, k6, k7, k8, k9, k10, k11, k12, k13, k14, k15, k16, k17, k18, k19, k20, k21, k22, k23, k24, k25, y3, y4, y5, y6, y7, y8, y9, y10, y11, y12, y13, y14, y15, y16, y17, y18, y19, y20, y21, y22, y23, y24, y25⟩ := hK
  have hKo0 := hKo
  obtain ⟨hKa, k2, y2⟩ := hKo
  have hKa0 := hKa
  obtain ⟨km, k1, y1⟩ := hKa
  refine am_of (by decide) (Nat.le_of_ble_eq_true rfl) (L := [(1, m), (9, 0)]) rfl ?_
  refine aw_iconst dX7_bringBack_0 rfl ⟨by decide, by decide⟩ ?_
  refine aw_istore_n dX7_bringBack_1 rfl (by decide) ?_
  have loop : ∀ (d : Nat) (k : Int) (M2 : az_M), 0 ≤ k → k + d = 790 → (∀ i, 0 ≤ i → i < k → M2 (m + 1) i = M (m + 6) i) → (∀ b, b ≠ m + 1 → M2 b = M b) → AW az_P0 (az_Z (qv K (fun M' => (∀ i, 0 ≤ i → i < 790 → M' (m + 1) i = M (m + 6) i) ∧ ∀ b, b ≠ m + 1 → M' b = M b)) 0 0) (az_rm 0 0 0) yX7_bringBack cX7_bringBack 2 none 0 0 2 [(1, m), (0, k)] [] K M2 := by
    intro d
    induction d with
    | zero =>
      intro k M2 k0 k1 f2 o2
      refine aw_iload_n dX7_bringBack_2 rfl rfl ?_
      refine aw_sipush dX7_bringBack_3 (by decide) ⟨by decide, by decide⟩ ?_
      refine aw_icmp_ge (tgt := 27) dX7_bringBack_6 rfl (fun h6 => ?_) (fun h6 => absurd h6 (by omega))
      exact aw_vret dX7_bringBack_27 (by decide) (by decide) ⟨rfl, rfl, fun i i0 i1 => f2 i i0 (by omega), o2⟩
    | succ d ih =>
      intro k M2 k0 k1 f2 o2
      have v19 : M2 (m + 6) k = M (m + 6) k := by rw [o2 _ (by omega)]
      refine aw_iload_n dX7_bringBack_2 rfl rfl ?_
      refine aw_sipush dX7_bringBack_3 (by decide) ⟨by decide, by decide⟩ ?_
      refine aw_icmp_ge (tgt := 27) dX7_bringBack_6 rfl (fun h6 => absurd h6 (by omega)) (fun h6 => ?_)
      refine aw_aload_n dX7_bringBack_9 rfl rfl ⟨by decide, by decide⟩ ?_
      refine aw_gzF 0 dX7_bringBack_10 fl_RX7_7 (by assumption) rfl rfl (by assumption) ?_
      refine aw_iload_n dX7_bringBack_13 rfl rfl ?_
      refine aw_aload_n dX7_bringBack_14 rfl rfl ⟨by decide, by decide⟩ ?_
      refine aw_gzF 6 dX7_bringBack_15 fl_RX7_26 (by assumption) rfl rfl (by assumption) ?_
      refine aw_iload_n dX7_bringBack_18 rfl rfl ?_
      refine aw_iv dX7_bringBack_19 (by assumption) (by omega) (by omega) v19 ?_
      refine aw_iast dX7_bringBack_20 (by assumption) (by omega) (by omega) ?_
      refine aw_iinc dX7_bringBack_21 rfl (az_wr_id (by omega) (by omega)) (by decide) ?_
      refine aw_goto (tgt := 2) dX7_bringBack_24 rfl ?_
      refine ih (k + 1) _ (by omega) (by omega) (fun i i0 i1 => ?_) (fun b hb => by rw [up_oth _ _ _ hb]; exact o2 b hb)
      rw [up_row]
      show (if i = k then M (m + 6) k else M2 (m + 1) i) = _
      by_cases e : i = k
      · rw [if_pos e, e]
      · rw [if_neg e]; exact f2 i i0 (by omega)
  exact loop 790 0 M (by omega) (by omega) (fun i i0 i1 => by omega) (fun _ _ => rfl)
theorem sp_putBase (hK : MdK K m) (M : az_M) : AM yX7_putBase cX7_putBase 2 none 0 0 0 [(1, m)] K M (qv K (fun M' => (∀ i, 0 ≤ i → i < 790 → M' (m + 7) i = M (m + 1) i) ∧ ∀ b, b ≠ m + 7 → M' b = M b)) := by
  have hK0 := hK
  obtain ⟨hKo, k3, k4, k5, k6, k7, k8, k9, k10, k11, k12, k13, k14, k15, k16, k17, k18, k19, k20, k21, k22, k23, k24, k25, y3, y4, y5, y6, y7, y8, y9, y10, y11, y12, y13, y14, y15, y16, y17, y18, y19, y20, y21, y22, y23, y24, y25⟩ := hK
  have hKo0 := hKo
  obtain ⟨hKa, k2, y2⟩ := hKo
  have hKa0 := hKa
  obtain ⟨km, k1, y1⟩ := hKa
  refine am_of (by decide) (Nat.le_of_ble_eq_true rfl) (L := [(1, m), (9, 0)]) rfl ?_
  refine aw_iconst dX7_putBase_0 rfl ⟨by decide, by decide⟩ ?_
  refine aw_istore_n dX7_putBase_1 rfl (by decide) ?_
  have loop : ∀ (d : Nat) (k : Int) (M2 : az_M), 0 ≤ k → k + d = 790 → (∀ i, 0 ≤ i → i < k → M2 (m + 7) i = M (m + 1) i) → (∀ b, b ≠ m + 7 → M2 b = M b) → AW az_P0 (az_Z (qv K (fun M' => (∀ i, 0 ≤ i → i < 790 → M' (m + 7) i = M (m + 1) i) ∧ ∀ b, b ≠ m + 7 → M' b = M b)) 0 0) (az_rm 0 0 0) yX7_putBase cX7_putBase 2 none 0 0 2 [(1, m), (0, k)] [] K M2 := by
    intro d
    induction d with
    | zero =>
      intro k M2 k0 k1 f2 o2
      refine aw_iload_n dX7_putBase_2 rfl rfl ?_
      refine aw_sipush dX7_putBase_3 (by decide) ⟨by decide, by decide⟩ ?_
      refine aw_icmp_ge (tgt := 27) dX7_putBase_6 rfl (fun h6 => ?_) (fun h6 => absurd h6 (by omega))
      exact aw_vret dX7_putBase_27 (by decide) (by decide) ⟨rfl, rfl, fun i i0 i1 => f2 i i0 (by omega), o2⟩
    | succ d ih =>
      intro k M2 k0 k1 f2 o2
      have v19 : M2 (m + 1) k = M (m + 1) k := by rw [o2 _ (by omega)]
      refine aw_iload_n dX7_putBase_2 rfl rfl ?_
      refine aw_sipush dX7_putBase_3 (by decide) ⟨by decide, by decide⟩ ?_
      refine aw_icmp_ge (tgt := 27) dX7_putBase_6 rfl (fun h6 => absurd h6 (by omega)) (fun h6 => ?_)
      refine aw_aload_n dX7_putBase_9 rfl rfl ⟨by decide, by decide⟩ ?_
      refine aw_gzF 7 dX7_putBase_10 fl_RX7_29 (by assumption) rfl rfl (by assumption) ?_
      refine aw_iload_n dX7_putBase_13 rfl rfl ?_
      refine aw_aload_n dX7_putBase_14 rfl rfl ⟨by decide, by decide⟩ ?_
      refine aw_gzF 0 dX7_putBase_15 fl_RX7_7 (by assumption) rfl rfl (by assumption) ?_
      refine aw_iload_n dX7_putBase_18 rfl rfl ?_
      refine aw_iv dX7_putBase_19 (by assumption) (by omega) (by omega) v19 ?_
      refine aw_iast dX7_putBase_20 (by assumption) (by omega) (by omega) ?_
      refine aw_iinc dX7_putBase_21 rfl (az_wr_id (by omega) (by omega)) (by decide) ?_
      refine aw_goto (tgt := 2) dX7_putBase_24 rfl ?_
      refine ih (k + 1) _ (by omega) (by omega) (fun i i0 i1 => ?_) (fun b hb => by rw [up_oth _ _ _ hb]; exact o2 b hb)
      rw [up_row]
      show (if i = k then M (m + 1) k else M2 (m + 7) i) = _
      by_cases e : i = k
      · rw [if_pos e, e]
      · rw [if_neg e]; exact f2 i i0 (by omega)
  exact loop 790 0 M (by omega) (by omega) (fun i i0 i1 => by omega) (fun _ _ => rfl)
/-- what was put aside is back -/
theorem HM_back {M M' : az_M} (h : MT (M (m + 6)) S) (hw : WL S) (hb : ∀ i, 0 ≤ i → i < 790 → M' (m + 1) i = M (m + 6) i) : HM M' m S := MT_congr h hw.1 hb
theorem sp_since (hK : MdK K m) (M : az_M) (i : Int) (i0 : 0 ≤ i) (i1 : i < 790) : AM yX7_since cX7_since 2 (some .int) 0 0 0 [(1, m), (0, i)] K M (qp K M (az_wr (M (m + 1) i - M (m + 7) i))) := by
  have hK0 := hK
  obtain ⟨hKo, k3, k4, k5, k6, k7, k8, k9, k10, k11, k12, k13, k14, k15, k16, k17, k18, k19, k20, k21, k22, k23, k24, k25, y3, y4, y5, y6, y7, y8, y9, y10, y11, y12, y13, y14, y15, y16, y17, y18, y19, y20, y21, y22, y23, y24, y25⟩ := hK
  have hKo0 := hKo
  obtain ⟨hKa, k2, y2⟩ := hKo
  have hKa0 := hKa
  obtain ⟨km, k1, y1⟩ := hKa
  refine am_of (by decide) (Nat.le_of_ble_eq_true rfl) (L := [(1, m), (0, i)]) rfl ?_
  refine aw_aload_n dX7_since_0 rfl rfl ⟨by decide, by decide⟩ ?_
  refine aw_gzF 0 dX7_since_1 fl_RX7_7 (by assumption) rfl rfl (by assumption) ?_
  refine aw_iload_n dX7_since_4 rfl rfl ?_
  refine aw_iv dX7_since_5 (by assumption) (by omega) (by omega) rfl ?_
  refine aw_aload_n dX7_since_6 rfl rfl ⟨by decide, by decide⟩ ?_
  refine aw_gzF 7 dX7_since_7 fl_RX7_29 (by assumption) rfl rfl (by assumption) ?_
  refine aw_iload_n dX7_since_10 rfl rfl ?_
  refine aw_iv dX7_since_11 (by assumption) (by omega) (by omega) rfl ?_
  refine aw_isub dX7_since_12 rfl ?_
  exact aw_iret dX7_since_13 (by decide) (by decide) (qp_i rfl)
def cfN (rg : Int → List Int) : Int := 2 * ((rg 0).length : Int) + 4 * ((rg 4).length : Int) + 8 * ((rg 8).length : Int)
theorem sp_cellsFree (hK : MaK K m) (M : az_M) {g : Int → Int} {rg : Int → List Int} (hw : WR g rg) (hF : mAll (M (m + 1)) g) (hR : mRg (M (m + 1)) rg) : AM yX7_cellsFree cX7_cellsFree 3 (some .int) 2 0 0 [(1, m)] K M (qp K M (cfN rg)) := by
  have hK0 := hK
  obtain ⟨km, k1, zz⟩ := hK
  refine am_of (by decide) (Nat.le_of_ble_eq_true rfl) (L := [(1, m), (9, 0), (9, 0)]) rfl ?_
  have cn := fun (z : Int) (z0 : 0 ≤ z) (z1 : z < 3) => qp_c (sp_countOf hK0 M z 0 z0 z1 (rL rg (4 * z)) (hR z z0 z1) (rL_len hw (by omega)) (rL_in hw (by omega))) (cnt_row hw hF (by omega) (by omega) (by omega))
  have q0 := row_len hw (k := 4 * 0 + 0) (by omega) (by omega)
  have q1 := row_len hw (k := 4 * 1 + 0) (by omega) (by omega)
  have q2 := row_len hw (k := 4 * 2 + 0) (by omega) (by omega)
  refine aw_iconst dX7_cellsFree_0 rfl ⟨by decide, by decide⟩ ?_
  refine aw_istore_n dX7_cellsFree_1 rfl (by decide) ?_
  refine aw_iconst dX7_cellsFree_2 rfl ⟨by decide, by decide⟩ ?_
  refine aw_istore_n dX7_cellsFree_3 rfl (by decide) ?_
  refine aw_iload_n dX7_cellsFree_4 rfl rfl ?_
  refine aw_iconst dX7_cellsFree_5 rfl ⟨by decide, by decide⟩ ?_
  refine aw_icmp_ge (tgt := 29) dX7_cellsFree_6 rfl (fun h6 => absurd h6 (by omega)) (fun h6 => ?_)
  refine aw_iload_n dX7_cellsFree_9 rfl rfl ?_
  refine aw_iload_n dX7_cellsFree_10 rfl rfl ?_
  refine aw_cS1p dX7_cellsFree_11 ml_RX7_280 ⟨by decide, by decide, by decide, by decide⟩ (Nat.le_of_ble_eq_true rfl) (qp_c (z := 2) (sp_sizeOfRing K M 0 (by omega)) (by decide)) ?_
  refine aw_aload_n dX7_cellsFree_14 rfl rfl ⟨by decide, by decide⟩ ?_
  refine aw_iload_n dX7_cellsFree_15 rfl rfl ?_
  refine aw_iconst dX7_cellsFree_16 rfl ⟨by decide, by decide⟩ ?_
  refine aw_cV2p dX7_cellsFree_17 ml_RX7_119 (by assumption) (by decide) rfl rfl ⟨by decide, by decide, by decide, by decide⟩ (Nat.le_of_ble_eq_true rfl) (cn 0 (by omega) (by omega)) ?_
  refine aw_imul dX7_cellsFree_20 (az_wr_id (by omega) (by omega)) ?_
  refine aw_iadd dX7_cellsFree_21 (az_wr_id (by omega) (by omega)) ?_
  refine aw_istore_n dX7_cellsFree_22 rfl (by decide) ?_
  refine aw_iinc dX7_cellsFree_23 rfl (az_wr_id (by omega) (by omega)) (by decide) ?_
  refine aw_goto (tgt := 4) dX7_cellsFree_26 rfl ?_
  refine aw_iload_n dX7_cellsFree_4 rfl rfl ?_
  refine aw_iconst dX7_cellsFree_5 rfl ⟨by decide, by decide⟩ ?_
  refine aw_icmp_ge (tgt := 29) dX7_cellsFree_6 rfl (fun h6 => absurd h6 (by omega)) (fun h6 => ?_)
  refine aw_iload_n dX7_cellsFree_9 rfl rfl ?_
  refine aw_iload_n dX7_cellsFree_10 rfl rfl ?_
  refine aw_cS1p dX7_cellsFree_11 ml_RX7_280 ⟨by decide, by decide, by decide, by decide⟩ (Nat.le_of_ble_eq_true rfl) (qp_c (z := 4) (sp_sizeOfRing K M 1 (by omega)) (by decide)) ?_
  refine aw_aload_n dX7_cellsFree_14 rfl rfl ⟨by decide, by decide⟩ ?_
  refine aw_iload_n dX7_cellsFree_15 rfl rfl ?_
  refine aw_iconst dX7_cellsFree_16 rfl ⟨by decide, by decide⟩ ?_
  refine aw_cV2p dX7_cellsFree_17 ml_RX7_119 (by assumption) (by decide) rfl rfl ⟨by decide, by decide, by decide, by decide⟩ (Nat.le_of_ble_eq_true rfl) (cn 1 (by omega) (by omega)) ?_
  refine aw_imul dX7_cellsFree_20 (az_wr_id (by omega) (by omega)) ?_
  refine aw_iadd dX7_cellsFree_21 (az_wr_id (by omega) (by omega)) ?_
  refine aw_istore_n dX7_cellsFree_22 rfl (by decide) ?_
  refine aw_iinc dX7_cellsFree_23 rfl (az_wr_id (by omega) (by omega)) (by decide) ?_
  refine aw_goto (tgt := 4) dX7_cellsFree_26 rfl ?_
  refine aw_iload_n dX7_cellsFree_4 rfl rfl ?_
  refine aw_iconst dX7_cellsFree_5 rfl ⟨by decide, by decide⟩ ?_
  refine aw_icmp_ge (tgt := 29) dX7_cellsFree_6 rfl (fun h6 => absurd h6 (by omega)) (fun h6 => ?_)
  refine aw_iload_n dX7_cellsFree_9 rfl rfl ?_
  refine aw_iload_n dX7_cellsFree_10 rfl rfl ?_
  refine aw_cS1p dX7_cellsFree_11 ml_RX7_280 ⟨by decide, by decide, by decide, by decide⟩ (Nat.le_of_ble_eq_true rfl) (qp_c (z := 8) (sp_sizeOfRing K M 2 (by omega)) (by decide)) ?_
  refine aw_aload_n dX7_cellsFree_14 rfl rfl ⟨by decide, by decide⟩ ?_
  refine aw_iload_n dX7_cellsFree_15 rfl rfl ?_
  refine aw_iconst dX7_cellsFree_16 rfl ⟨by decide, by decide⟩ ?_
  refine aw_cV2p dX7_cellsFree_17 ml_RX7_119 (by assumption) (by decide) rfl rfl ⟨by decide, by decide, by decide, by decide⟩ (Nat.le_of_ble_eq_true rfl) (cn 2 (by omega) (by omega)) ?_
  refine aw_imul dX7_cellsFree_20 (az_wr_id (by omega) (by omega)) ?_
  refine aw_iadd dX7_cellsFree_21 (az_wr_id (by omega) (by omega)) ?_
  refine aw_istore_n dX7_cellsFree_22 rfl (by decide) ?_
  refine aw_iinc dX7_cellsFree_23 rfl (az_wr_id (by omega) (by omega)) (by decide) ?_
  refine aw_goto (tgt := 4) dX7_cellsFree_26 rfl ?_
  refine aw_iload_n dX7_cellsFree_4 rfl rfl ?_
  refine aw_iconst dX7_cellsFree_5 rfl ⟨by decide, by decide⟩ ?_
  refine aw_icmp_ge (tgt := 29) dX7_cellsFree_6 rfl (fun h6 => ?_) (fun h6 => absurd h6 (by omega))
  refine aw_iload_n dX7_cellsFree_29 rfl rfl ?_
  refine aw_iret dX7_cellsFree_30 (by decide) (by decide) (qp_i ?_)
  unfold cfN
  rw [show (4 : Int) * 0 + 0 = 0 by omega, show (4 : Int) * 1 + 0 = 4 by omega, show (4 : Int) * 2 + 0 = 8 by omega]
  omega
theorem cf_in {g : Int → Int} {rg : Int → List Int} (hw : WR g rg) : 0 ≤ cfN rg ∧ cfN rg ≤ 1000 := by
  have q0 := row_len hw (k := 0) (by omega) (by omega)
  have q1 := row_len hw (k := 4) (by omega) (by omega)
  have q2 := row_len hw (k := 8) (by omega) (by omega)
  unfold cfN
  omega
/-- a cycle from now on to its end -/
def toE (S : hSt) : hSt := if S.1 726 = 1 then S else startS S
def enS (S : hSt) : hSt := advS TE (toE S)
def edV (S : hSt) (w : Int) : Int := if w = 0 then (advN TE (toE S) : Int) else if w = 1 then obN S.2.1 - obN (enS S).2.1 else if w = 2 then cfN (enS S).2.1 - cfN S.2.1 else az_wr ((enS S).1 732 - S.1 732)
theorem toE_wf (h : WL S) : WL (toE S) ∧ S.1 729 ≤ (toE S).1 729 ∧ (toE S).1 729 ≤ S.1 729 + 1 := by
  unfold toE
  split
  · exact ⟨h, by omega, by omega⟩
  · have := run01 h
    have := startS_wf h.1 (by omega)
    exact ⟨this.1, by omega, by omega⟩
set_option maxHeartbeats 1000000 in
theorem sp_mend (hK : MdK K m) (M : az_M) (hc : HM M m S) (hw : WL S) (hcy : S.1 729 ≤ 19999000) (hcz : 0 ≤ S.1 729) (w : Int) : AM yX7_end cX7_end 8 (some .int) 7 0 0 [(1, m), (0, w)] K M (qi K (fun z M' => z = (if 0 ≤ w ∧ w ≤ 3 then edV S w else -1) ∧ HM M' m S ∧ frU M M' m)) := by
  have hK0 := hK
  obtain ⟨hKo, k3, k4, k5, k6, k7, k8, k9, k10, k11, k12, k13, k14, k15, k16, k17, k18, k19, k20, k21, k22, k23, k24, k25, y3, y4, y5, y6, y7, y8, y9, y10, y11, y12, y13, y14, y15, y16, y17, y18, y19, y20, y21, y22, y23, y24, y25⟩ := hK
  have hKo0 := hKo
  obtain ⟨hKa, k2, y2⟩ := hKo
  have hKa0 := hKa
  obtain ⟨km, k1, y1⟩ := hKa
  refine am_of (by decide) (Nat.le_of_ble_eq_true rfl) (L := [(1, m), (0, w), (9, 0), (9, 0), (9, 0), (9, 0), (9, 0), (9, 0)]) rfl ?_
  obtain ⟨tw, tc0, tc1⟩ := toE_wf hw
  have ew : WL (enS S) := advS_wf tw TE
  have hWR := WR_of hw.1
  have eWR := WR_of ew.1
  have b1 := obN_le hWR
  have b2 := obN_le eWR
  have b3 := cf_in hWR
  have b4 := cf_in eWR
  have hr01 := run01 hw
  generalize hV : (if 0 ≤ w ∧ w ≤ 3 then edV S w else -1) = V
  refine aw_iload_n dX7_end_0 rfl rfl ?_
  refine aw_iconst dX7_end_1 rfl ⟨by decide, by decide⟩ ?_
  refine aw_iconst dX7_end_2 rfl ⟨by decide, by decide⟩ ?_
  refine aw_cS3p dX7_end_3 ml_RX7_94 ⟨by decide, by decide, by decide, by decide⟩ (Nat.le_of_ble_eq_true rfl) (sp_isIn K M w 0 3) ?_
  refine aw_if_ne (tgt := 11) dX7_end_6 rfl (fun h6 => ?_) (fun h6 => ?_)
  · have hw3 := if1 h6
    rw [if_pos hw3] at hV
    unfold edV at hV
    refine aw_aload_n dX7_end_11 rfl rfl ⟨by decide, by decide⟩ ?_
    refine aw_cV0v dX7_end_12 ml_RX7_283 (by assumption) (by decide) rfl rfl ⟨by decide, by decide, by decide, by decide⟩ (Nat.le_of_ble_eq_true rfl) (sp_putAside hK0 M) (fun M1 hM1 => ?_)
    have hc1 : HM M1 m S := HM_fr hc (hM1.2 _ (by omega))
    have ha1 : MT (M1 (m + 6)) S := MT_congr hc hw.1 hM1.1
    have hrun : (if M1 (m + 1) 726 = 1 then (1 : Int) else 0) = if S.1 726 = 1 then 1 else 0 := by rw [hc1.1 726 (by omega) (by omega) (by omega) (by omega)]
    have f1 : frU M M1 m := ⟨fun b h1 h2 => hM1.2 b (by omega), fun j _ _ _ _ _ => by rw [hM1.2 m (by omega)]⟩
    have rest : ∀ M2 : az_M, HM M2 m (toE S) → frT M1 M2 m → AW az_P0 (az_Z (qi K (fun z M' => z = V ∧ HM M' m S ∧ frU M M' m)) 0 0) (az_rm 7 0 0) yX7_end cX7_end 8 (some .int) 0 0 36 [(1, m), (0, w), (0, obN S.2.1), (0, cfN S.2.1), (9, 0), (9, 0), (9, 0), (9, 0)] [] K M2 := by
      intro M2 hc2 f2
      refine aw_aload_n dX7_end_36 rfl rfl ⟨by decide, by decide⟩ ?_
      refine aw_ldc dX7_end_37 kc_RX7_188 ⟨by decide, by decide⟩ ?_
      refine aw_cV1i dX7_end_39 ml_RX7_189 (by assumption) (by decide) rfl rfl ⟨by decide, by decide, by decide, by decide⟩ (Nat.le_of_ble_eq_true rfl) (sp_goSteps hKo0 M2 hc2 tw (by omega) (by omega) 1000000 (by omega) (by omega)) (fun z3 M3 hz3 => ?_)
      refine aw_istore dX7_end_42 (by decide) ?_
      obtain ⟨e3, hc3, f3⟩ := hz3
      have hc3' : HM M3 m (enS S) := hc3
      replace e3 : z3 = (advN TE (toE S) : Int) := e3
      subst e3
      have f23 := f2.trans (frT.ofM f3)
      have v67 : M3 (m + 1) 732 = (enS S).1 732 := hc3'.1 _ (by omega) (by omega) (by omega) (by omega)
      have v75 : M3 (m + 6) 732 = S.1 732 := by rw [f23.2]; exact ha1.1 _ (by omega) (by omega) (by omega) (by omega)
      refine aw_iload_n dX7_end_44 rfl rfl ?_
      refine aw_aload_n dX7_end_45 rfl rfl ⟨by decide, by decide⟩ ?_
      refine aw_cV0p dX7_end_46 ml_RX7_164 (by assumption) (by decide) rfl rfl ⟨by decide, by decide, by decide, by decide⟩ (Nat.le_of_ble_eq_true rfl) (sp_objectsNow hKa0 M3 eWR hc3'.1 hc3'.2.1) ?_
      refine aw_isub dX7_end_49 (az_wr_id (by omega) (by omega)) ?_
      refine aw_istore dX7_end_50 (by decide) ?_
      refine aw_aload_n dX7_end_52 rfl rfl ⟨by decide, by decide⟩ ?_
      refine aw_cV0p dX7_end_53 ml_RX7_286 (by assumption) (by decide) rfl rfl ⟨by decide, by decide, by decide, by decide⟩ (Nat.le_of_ble_eq_true rfl) (sp_cellsFree hKa0 M3 eWR hc3'.1 hc3'.2.1) ?_
      refine aw_iload_n dX7_end_56 rfl rfl ?_
      refine aw_isub dX7_end_57 (az_wr_id (by omega) (by omega)) ?_
      refine aw_istore dX7_end_58 (by decide) ?_
      refine aw_aload_n dX7_end_60 rfl rfl ⟨by decide, by decide⟩ ?_
      refine aw_gzF 0 dX7_end_61 fl_RX7_7 (by assumption) rfl rfl (by assumption) ?_
      refine aw_sipush dX7_end_64 (by decide) ⟨by decide, by decide⟩ ?_
      refine aw_iv dX7_end_67 (by assumption) (by omega) (by omega) v67 ?_
      refine aw_aload_n dX7_end_68 rfl rfl ⟨by decide, by decide⟩ ?_
      refine aw_gzF 6 dX7_end_69 fl_RX7_26 (by assumption) rfl rfl (by assumption) ?_
      refine aw_sipush dX7_end_72 (by decide) ⟨by decide, by decide⟩ ?_
      refine aw_iv dX7_end_75 (by assumption) (by omega) (by omega) v75 ?_
      refine aw_isub dX7_end_76 rfl ?_
      refine aw_istore dX7_end_77 (by decide) ?_
      refine aw_aload_n dX7_end_79 rfl rfl ⟨by decide, by decide⟩ ?_
      refine aw_cV0v dX7_end_80 ml_RX7_289 (by assumption) (by decide) rfl rfl ⟨by decide, by decide, by decide, by decide⟩ (Nat.le_of_ble_eq_true rfl) (sp_bringBack hK0 M3) (fun M4 hM4 => ?_)
      have hc4 : HM M4 m S := HM_back (by rw [f23.2]; exact ha1) hw hM4.1
      have f4 : frU M M4 m := (f1.trans f23.1).trans ⟨fun b h1 h2 => hM4.2 b (by omega), fun j _ _ _ _ _ => by rw [hM4.2 m (by omega)]⟩
      have fin : ∀ x : Int, x = V → AW az_P0 (az_Z (qi K (fun z M' => z = V ∧ HM M' m S ∧ frU M M' m)) 0 0) (az_rm 7 0 0) yX7_end cX7_end 8 (some .int) 0 0 114 [(1, m), (0, w), (0, obN S.2.1), (0, cfN S.2.1), (0, (advN TE (toE S) : Int)), (0, obN S.2.1 - obN (enS S).2.1), (0, cfN (enS S).2.1 - cfN S.2.1), (0, az_wr ((enS S).1 732 - S.1 732))] [(0, x)] K M4 := fun x hx => aw_iret dX7_end_114 (by decide) (by decide) ⟨_, rfl, rfl, hx, hc4, f4⟩
      refine aw_iload_n dX7_end_83 rfl rfl ?_
      refine aw_if_ne (tgt := 92) dX7_end_84 rfl (fun h84 => ?_) (fun h84 => ?_)
      · rw [if_neg h84] at hV
        refine aw_iload_n dX7_end_92 rfl rfl ?_
        refine aw_iconst dX7_end_93 rfl ⟨by decide, by decide⟩ ?_
        refine aw_icmp_ne (tgt := 102) dX7_end_94 rfl (fun h94 => ?_) (fun h94 => ?_)
        · rw [if_neg h94] at hV
          refine aw_iload_n dX7_end_102 rfl rfl ?_
          refine aw_iconst dX7_end_103 rfl ⟨by decide, by decide⟩ ?_
          refine aw_icmp_ne (tgt := 112) dX7_end_104 rfl (fun h104 => ?_) (fun h104 => ?_)
          · rw [if_neg h104] at hV
            refine aw_iload dX7_end_112 rfl ?_
            exact fin _ hV
          · rw [if_pos (by omega)] at hV
            refine aw_iload dX7_end_107 rfl ?_
            refine aw_goto (tgt := 114) dX7_end_109 rfl ?_
            exact fin _ hV
        · rw [if_pos (by omega)] at hV
          refine aw_iload dX7_end_97 rfl ?_
          refine aw_goto (tgt := 114) dX7_end_99 rfl ?_
          exact fin _ hV
      · rw [if_pos (by omega)] at hV
        refine aw_iload dX7_end_87 rfl ?_
        refine aw_goto (tgt := 114) dX7_end_89 rfl ?_
        exact fin _ hV
    refine aw_aload_n dX7_end_15 rfl rfl ⟨by decide, by decide⟩ ?_
    refine aw_cV0p dX7_end_16 ml_RX7_164 (by assumption) (by decide) rfl rfl ⟨by decide, by decide, by decide, by decide⟩ (Nat.le_of_ble_eq_true rfl) (sp_objectsNow hKa0 M1 hWR hc1.1 hc1.2.1) ?_
    refine aw_istore_n dX7_end_19 rfl (by decide) ?_
    refine aw_aload_n dX7_end_20 rfl rfl ⟨by decide, by decide⟩ ?_
    refine aw_cV0p dX7_end_21 ml_RX7_286 (by assumption) (by decide) rfl rfl ⟨by decide, by decide, by decide, by decide⟩ (Nat.le_of_ble_eq_true rfl) (sp_cellsFree hKa0 M1 hWR hc1.1 hc1.2.1) ?_
    refine aw_istore_n dX7_end_24 rfl (by decide) ?_
    refine aw_aload_n dX7_end_25 rfl rfl ⟨by decide, by decide⟩ ?_
    refine aw_cV0p dX7_end_26 ml_RX7_181 (by assumption) (by decide) rfl rfl ⟨by decide, by decide, by decide, by decide⟩ (Nat.le_of_ble_eq_true rfl) (qp_c (sp_runs hKa0 M1) hrun) ?_
    refine aw_if_ne (tgt := 36) dX7_end_29 rfl (fun h29 => ?_) (fun h29 => ?_)
    · have hr : S.1 726 = 1 := if1 h29
      refine rest M1 ?_ (frT.refl M1 m)
      unfold toE
      rw [if_pos hr]; exact hc1
    · have hr := if0 h29
      refine aw_aload_n dX7_end_32 rfl rfl ⟨by decide, by decide⟩ ?_
      refine aw_cV0v dX7_end_33 ml_RX7_207 (by assumption) (by decide) rfl rfl ⟨by decide, by decide, by decide, by decide⟩ (Nat.le_of_ble_eq_true rfl) (sp_goStart hKa0 M1 hc1 hw.1 (by omega) (by omega) (by omega)) (fun M2 hM2 => ?_)
      refine rest M2 ?_ (frT.of1 hM2.2)
      unfold toE
      rw [if_neg hr]; exact hM2.1
  · rw [if_neg (if0 h6)] at hV
    refine aw_iconst dX7_end_9 rfl ⟨by decide, by decide⟩ ?_
    exact aw_iret dX7_end_10 (by decide) (by decide) ⟨_, rfl, rfl, hV, hc, frU.refl M m⟩
/-- how many can be made: without forced steps, or at all -/
def mkU (b0 f b : Int) : Nat → hSt → Nat
  | 0, _ => 0
  | n + 1, S => if bldA S f < 0 then 0 else if b = 0 ∧ 0 < az_wr ((bldS S 0 f).1 731 - b0) then 0 else mkU b0 f b n (bldS S 0 f) + 1
theorem mkU_le (b0 f b : Int) : ∀ (n : Nat) (S : hSt), mkU b0 f b n S ≤ n := by
  intro n
  induction n with
  | zero => intro S; exact Nat.le_refl _
  | succ n ih =>
    intro S
    show (if bldA S f < 0 then 0 else if b = 0 ∧ 0 < az_wr ((bldS S 0 f).1 731 - b0) then 0 else mkU b0 f b n (bldS S 0 f) + 1) ≤ n + 1
    have := ih (bldS S 0 f)
    split
    · omega
    · split <;> omega
set_option maxHeartbeats 1000000 in
theorem sp_madeUpTo (hK : MdK K m) (M : az_M) (hc : HM M m S) (hw : WL S) (hcy : S.1 729 ≤ 19997000) (hcz : 0 ≤ S.1 729) (n : Nat) (hn : n ≤ 64) (f b : Int) (f0 : 0 ≤ f) (f1 : f ≤ 7) (hb : b = 0 ∨ b = 1) : AM yX7_madeUpTo cX7_madeUpTo 5 (some .int) 10 0 0 [(1, m), (0, (n : Int)), (0, f), (0, b)] K M (qi K (fun z M' => z = (mkU (S.1 731) f b n S : Int) ∧ frT M M' m)) := by
  have hK0 := hK
  obtain ⟨hKo, k3, k4, k5, k6, k7, k8, k9, k10, k11, k12, k13, k14, k15, k16, k17, k18, k19, k20, k21, k22, k23, k24, k25, y3, y4, y5, y6, y7, y8, y9, y10, y11, y12, y13, y14, y15, y16, y17, y18, y19, y20, y21, y22, y23, y24, y25⟩ := hK
  have hKo0 := hKo
  obtain ⟨hKa, k2, y2⟩ := hKo
  have hKa0 := hKa
  obtain ⟨km, k1, y1⟩ := hKa
  refine am_of (by decide) (Nat.le_of_ble_eq_true rfl) (L := [(1, m), (0, (n : Int)), (0, f), (0, b), (9, 0)]) rfl ?_
  generalize hV : mkU (S.1 731) f b n S = V
  generalize hb0 : S.1 731 = b0 at hV
  refine aw_aload_n dX7_madeUpTo_0 rfl rfl ⟨by decide, by decide⟩ ?_
  refine aw_cV0v dX7_madeUpTo_1 ml_RX7_292 (by assumption) (by decide) rfl rfl ⟨by decide, by decide, by decide, by decide⟩ (Nat.le_of_ble_eq_true rfl) (sp_putBase hK0 M) (fun M1 hM1 => ?_)
  refine aw_iconst dX7_madeUpTo_4 rfl ⟨by decide, by decide⟩ ?_
  refine aw_istore dX7_madeUpTo_5 (by decide) ?_
  have g1 : frT M M1 m := ⟨⟨fun b h1 h2 => hM1.2 b (by omega), fun j _ _ _ _ _ => by rw [hM1.2 m (by omega)]⟩, hM1.2 _ (by omega)⟩
  have e731 : M1 (m + 7) 731 = b0 := by rw [hM1.1 _ (by omega) (by omega), ← hb0]; exact hc.1 _ (by omega) (by omega) (by omega) (by omega)
  have loop : ∀ (d k : Nat) (T : hSt) (M2 : az_M), k + d = n → HM M2 m T → WL T → 0 ≤ T.1 729 → T.1 729 + 5 * d ≤ 19997900 → M2 (m + 7) 731 = b0 → frT M M2 m → k + mkU b0 f b d T = V → AW az_P0 (az_Z (qi K (fun z M' => z = (V : Int) ∧ frT M M' m)) 0 0) (az_rm 10 0 0) yX7_madeUpTo cX7_madeUpTo 5 (some .int) 0 0 7 [(1, m), (0, (n : Int)), (0, f), (0, b), (0, (k : Int))] [] K M2 := by
    intro d
    induction d with
    | zero =>
      intro k T M2 hk hT wT c0 c1 e7 g2 hv
      replace hv : k + 0 = V := hv
      refine aw_iload dX7_madeUpTo_7 rfl ?_
      refine aw_iload_n dX7_madeUpTo_9 rfl rfl ?_
      refine aw_icmp_ge (tgt := 48) dX7_madeUpTo_10 rfl (fun h10 => ?_) (fun h10 => absurd h10 (by omega))
      refine aw_iload_n dX7_madeUpTo_48 rfl rfl ?_
      exact aw_iret dX7_madeUpTo_49 (by decide) (by decide) ⟨_, rfl, rfl, by omega, g2⟩
    | succ d ih =>
      intro k T M2 hk hT wT c0 c1 e7 g2 hv
      replace hv : k + (if bldA T f < 0 then 0 else if b = 0 ∧ 0 < az_wr ((bldS T 0 f).1 731 - b0) then 0 else mkU b0 f b d (bldS T 0 f) + 1) = V := hv
      obtain ⟨w1, w2, w3⟩ := bldS_wf wT f0 f1 (r := 0) (by omega) (by omega)
      refine aw_iload dX7_madeUpTo_7 rfl ?_
      refine aw_iload_n dX7_madeUpTo_9 rfl rfl ?_
      refine aw_icmp_ge (tgt := 48) dX7_madeUpTo_10 rfl (fun h10 => absurd h10 (by omega)) (fun h10 => ?_)
      refine aw_aload_n dX7_madeUpTo_13 rfl rfl ⟨by decide, by decide⟩ ?_
      refine aw_iconst dX7_madeUpTo_14 rfl ⟨by decide, by decide⟩ ?_
      refine aw_iload_n dX7_madeUpTo_15 rfl rfl ?_
      refine aw_cV2i dX7_madeUpTo_16 ml_RX7_222 (by assumption) (by decide) rfl rfl ⟨by decide, by decide, by decide, by decide⟩ (Nat.le_of_ble_eq_true rfl) (sp_goMake hKo0 M2 hT wT (by omega) c0 0 f (by omega) (by omega) f0 f1) (fun z3 M3 hz3 => ?_)
      obtain ⟨e3, hT3, fr3⟩ := hz3
      subst e3
      have g3 := g2.trans (frT.ofM fr3)
      have e73 : M3 (m + 7) 731 = b0 := by rw [fr3 _ (by omega) (by omega)]; exact e7
      have v33 : M3 (m + 1) 731 = (bldS T 0 f).1 731 := hT3.1 _ (by omega) (by omega) (by omega) (by omega)
      refine aw_if_ge (tgt := 25) dX7_madeUpTo_19 rfl (fun h19 => ?_) (fun h19 => ?_)
      · rw [if_neg (by omega)] at hv
        have go : ¬ (b = 0 ∧ 0 < az_wr ((bldS T 0 f).1 731 - b0)) → AW az_P0 (az_Z (qi K (fun z M' => z = (V : Int) ∧ frT M M' m)) 0 0) (az_rm 10 0 0) yX7_madeUpTo cX7_madeUpTo 5 (some .int) 0 0 42 [(1, m), (0, (n : Int)), (0, f), (0, b), (0, (k : Int))] [] K M3 := by
          intro h
          rw [if_neg h] at hv
          refine aw_iinc dX7_madeUpTo_42 rfl (az_wr_id (by omega) (by omega)) (by decide) ?_
          refine aw_goto (tgt := 7) dX7_madeUpTo_45 rfl ?_
          exact ih (k + 1) _ M3 (by omega) hT3 w1 (by omega) (by omega) e73 g3 (by omega)
        refine aw_iload_n dX7_madeUpTo_25 rfl rfl ?_
        refine aw_if_ne (tgt := 42) dX7_madeUpTo_26 rfl (fun h26 => ?_) (fun h26 => ?_)
        · exact go (fun q => h26 q.1)
        · have hsi : az_wr (M3 (m + 1) 731 - M3 (m + 7) 731) = az_wr ((bldS T 0 f).1 731 - b0) := by rw [v33, e73]
          refine aw_aload_n dX7_madeUpTo_29 rfl rfl ⟨by decide, by decide⟩ ?_
          refine aw_sipush dX7_madeUpTo_30 (by decide) ⟨by decide, by decide⟩ ?_
          refine aw_cV1p dX7_madeUpTo_33 ml_RX7_295 (by assumption) (by decide) rfl rfl ⟨by decide, by decide, by decide, by decide⟩ (Nat.le_of_ble_eq_true rfl) (qp_c (sp_since hK0 M3 731 (by omega) (by omega)) hsi) ?_
          refine aw_if_le (tgt := 42) dX7_madeUpTo_36 rfl (fun h36 => ?_) (fun h36 => ?_)
          · exact go (fun q => by have := q.2; omega)
          · rw [if_pos ⟨h26, by omega⟩] at hv
            refine aw_iload dX7_madeUpTo_39 rfl ?_
            exact aw_iret dX7_madeUpTo_41 (by decide) (by decide) ⟨_, rfl, rfl, by omega, g3⟩
      · rw [if_pos (by omega)] at hv
        refine aw_iload dX7_madeUpTo_22 rfl ?_
        exact aw_iret dX7_madeUpTo_24 (by decide) (by decide) ⟨_, rfl, rfl, by omega, g3⟩
  exact loop n 0 S M1 (by omega) (HM_fr hc (hM1.2 _ (by omega))) hw hcz (by omega) e731 g1 (by omega)
def roV (S : hSt) (f w : Int) : Int := if (0 ≤ f ∧ f ≤ 7) ∧ 0 ≤ w ∧ w ≤ 1 then (mkU (S.1 731) f w 64 S : Int) else -1
set_option maxHeartbeats 1000000 in
theorem sp_mroom (hK : MdK K m) (M : az_M) (hc : HM M m S) (hw : WL S) (hcy : S.1 729 ≤ 19997000) (hcz : 0 ≤ S.1 729) (f w : Int) : AM yX7_room cX7_room 4 (some .int) 11 0 0 [(1, m), (0, f), (0, w)] K M (qi K (fun z M' => z = roV S f w ∧ HM M' m S ∧ frU M M' m)) := by
  have hK0 := hK
  obtain ⟨hKo, k3, k4, k5, k6, k7, k8, k9, k10, k11, k12, k13, k14, k15, k16, k17, k18, k19, k20, k21, k22, k23, k24, k25, y3, y4, y5, y6, y7, y8, y9, y10, y11, y12, y13, y14, y15, y16, y17, y18, y19, y20, y21, y22, y23, y24, y25⟩ := hK
  have hKo0 := hKo
  obtain ⟨hKa, k2, y2⟩ := hKo
  have hKa0 := hKa
  obtain ⟨km, k1, y1⟩ := hKa
  refine am_of (by decide) (Nat.le_of_ble_eq_true rfl) (L := [(1, m), (0, f), (0, w), (9, 0)]) rfl ?_
  generalize hV : roV S f w = V
  unfold roV at hV
  have no : ¬ ((0 ≤ f ∧ f ≤ 7) ∧ 0 ≤ w ∧ w ≤ 1) → AW az_P0 (az_Z (qi K (fun z M' => z = V ∧ HM M' m S ∧ frU M M' m)) 0 0) (az_rm 11 0 0) yX7_room cX7_room 4 (some .int) 0 0 19 [(1, m), (0, f), (0, w), (9, 0)] [] K M := by
    intro h
    rw [if_neg h] at hV
    refine aw_iconst dX7_room_19 rfl ⟨by decide, by decide⟩ ?_
    exact aw_iret dX7_room_20 (by decide) (by decide) ⟨_, rfl, rfl, hV, hc, frU.refl M m⟩
  refine aw_iload_n dX7_room_0 rfl rfl ?_
  refine aw_iconst dX7_room_1 rfl ⟨by decide, by decide⟩ ?_
  refine aw_bipush dX7_room_2 (by decide) ⟨by decide, by decide⟩ ?_
  refine aw_cS3p dX7_room_4 ml_RX7_94 ⟨by decide, by decide, by decide, by decide⟩ (Nat.le_of_ble_eq_true rfl) (sp_isIn K M f 0 7) ?_
  refine aw_if_eq (tgt := 19) dX7_room_7 rfl (fun h7 => ?_) (fun h7 => ?_)
  · exact no (fun q => if0 h7 q.1)
  · have hf := if1 h7
    refine aw_iload_n dX7_room_10 rfl rfl ?_
    refine aw_iconst dX7_room_11 rfl ⟨by decide, by decide⟩ ?_
    refine aw_iconst dX7_room_12 rfl ⟨by decide, by decide⟩ ?_
    refine aw_cS3p dX7_room_13 ml_RX7_94 ⟨by decide, by decide, by decide, by decide⟩ (Nat.le_of_ble_eq_true rfl) (sp_isIn K M w 0 1) ?_
    refine aw_if_ne (tgt := 21) dX7_room_16 rfl (fun h16 => ?_) (fun h16 => ?_)
    · have hw1 := if1 h16
      rw [if_pos ⟨hf, hw1⟩] at hV
      refine aw_aload_n dX7_room_21 rfl rfl ⟨by decide, by decide⟩ ?_
      refine aw_cV0v dX7_room_22 ml_RX7_283 (by assumption) (by decide) rfl rfl ⟨by decide, by decide, by decide, by decide⟩ (Nat.le_of_ble_eq_true rfl) (sp_putAside hK0 M) (fun M1 hM1 => ?_)
      have hc1 : HM M1 m S := HM_fr hc (hM1.2 _ (by omega))
      have ha1 : MT (M1 (m + 6)) S := MT_congr hc hw.1 hM1.1
      have f1 : frU M M1 m := ⟨fun b h1 h2 => hM1.2 b (by omega), fun j _ _ _ _ _ => by rw [hM1.2 m (by omega)]⟩
      have rest : AW az_P0 (az_Z (qi K (fun z M' => z = V ∧ HM M' m S ∧ frU M M' m)) 0 0) (az_rm 11 0 0) yX7_room cX7_room 4 (some .int) 0 0 39 [(1, m), (0, f), (0, w), (9, 0)] [(0, w), (0, f), (0, 64), (1, m)] K M1 := by
        refine aw_cV3i dX7_room_39 ml_RX7_298 (by assumption) (by decide) rfl rfl ⟨by decide, by decide, by decide, by decide⟩ (Nat.le_of_ble_eq_true rfl) (sp_madeUpTo hK0 M1 hc1 hw hcy hcz 64 (by omega) f w hf.1 hf.2 (by omega)) (fun z2 M2 hz2 => ?_)
        refine aw_istore_n dX7_room_42 rfl (by decide) ?_
        obtain ⟨e2, f2⟩ := hz2
        subst e2
        refine aw_aload_n dX7_room_43 rfl rfl ⟨by decide, by decide⟩ ?_
        refine aw_cV0v dX7_room_44 ml_RX7_289 (by assumption) (by decide) rfl rfl ⟨by decide, by decide, by decide, by decide⟩ (Nat.le_of_ble_eq_true rfl) (sp_bringBack hK0 M2) (fun M3 hM3 => ?_)
        refine aw_iload_n dX7_room_47 rfl rfl ?_
        have hc3 : HM M3 m S := HM_back (by rw [f2.2]; exact ha1) hw hM3.1
        exact aw_iret dX7_room_48 (by decide) (by decide) ⟨_, rfl, rfl, hV, hc3, (f1.trans f2.1).trans ⟨fun b h1 h2 => hM3.2 b (by omega), fun j _ _ _ _ _ => by rw [hM3.2 m (by omega)]⟩⟩
      refine aw_aload_n dX7_room_25 rfl rfl ⟨by decide, by decide⟩ ?_
      refine aw_bipush dX7_room_26 (by decide) ⟨by decide, by decide⟩ ?_
      refine aw_iload_n dX7_room_28 rfl rfl ?_
      refine aw_iload_n dX7_room_29 rfl rfl ?_
      refine aw_iconst dX7_room_30 rfl ⟨by decide, by decide⟩ ?_
      refine aw_icmp_ne (tgt := 38) dX7_room_31 rfl (fun h31 => ?_) (fun h31 => ?_)
      · have e : w = 0 := by omega
        subst e
        refine aw_iconst dX7_room_38 rfl ⟨by decide, by decide⟩ ?_
        exact rest
      · have e : w = 1 := by omega
        subst e
        refine aw_iconst dX7_room_34 rfl ⟨by decide, by decide⟩ ?_
        refine aw_goto (tgt := 39) dX7_room_35 rfl ?_
        exact rest
    · exact no (fun q => if0 h16 q.2)
def pcL (S : hSt) (f : Int) (n : Nat) : Nat → Int → Int
  | 0, _ => -1
  | d + 1, p => if mkU (S.1 731) f 0 n (nameS S 737 p) = n then p else pcL S f n d (p + 1)
def pcV (S : hSt) (f n : Int) : Int := if (0 ≤ f ∧ f ≤ 7) ∧ 1 ≤ n ∧ n ≤ 64 then pcL S f n.toNat 17 0 else -1
set_option maxHeartbeats 1000000 in
theorem sp_mpace (hK : MdK K m) (M : az_M) (hc : HM M m S) (hw : WL S) (hcy : S.1 729 ≤ 19997000) (hcz : 0 ≤ S.1 729) (f n : Int) : AM yX7_pace cX7_pace 5 (some .int) 11 0 0 [(1, m), (0, f), (0, n)] K M (qi K (fun z M' => z = pcV S f n ∧ HM M' m S ∧ frU M M' m)) := by
  have hK0 := hK
  obtain ⟨hKo, k3, k4, k5, k6, k7, k8, k9, k10, k11, k12, k13, k14, k15, k16, k17, k18, k19, k20, k21, k22, k23, k24, k25, y3, y4, y5, y6, y7, y8, y9, y10, y11, y12, y13, y14, y15, y16, y17, y18, y19, y20, y21, y22, y23, y24, y25⟩ := hK
  have hKo0 := hKo
  obtain ⟨hKa, k2, y2⟩ := hKo
  have hKa0 := hKa
  obtain ⟨km, k1, y1⟩ := hKa
  refine am_of (by decide) (Nat.le_of_ble_eq_true rfl) (L := [(1, m), (0, f), (0, n), (9, 0), (9, 0)]) rfl ?_
  generalize hV : pcV S f n = V
  unfold pcV at hV
  have no : ¬ ((0 ≤ f ∧ f ≤ 7) ∧ 1 ≤ n ∧ n ≤ 64) → AW az_P0 (az_Z (qi K (fun z M' => z = V ∧ HM M' m S ∧ frU M M' m)) 0 0) (az_rm 11 0 0) yX7_pace cX7_pace 5 (some .int) 0 0 20 [(1, m), (0, f), (0, n), (9, 0), (9, 0)] [] K M := by
    intro h
    rw [if_neg h] at hV
    refine aw_iconst dX7_pace_20 rfl ⟨by decide, by decide⟩ ?_
    exact aw_iret dX7_pace_21 (by decide) (by decide) ⟨_, rfl, rfl, hV, hc, frU.refl M m⟩
  refine aw_iload_n dX7_pace_0 rfl rfl ?_
  refine aw_iconst dX7_pace_1 rfl ⟨by decide, by decide⟩ ?_
  refine aw_bipush dX7_pace_2 (by decide) ⟨by decide, by decide⟩ ?_
  refine aw_cS3p dX7_pace_4 ml_RX7_94 ⟨by decide, by decide, by decide, by decide⟩ (Nat.le_of_ble_eq_true rfl) (sp_isIn K M f 0 7) ?_
  refine aw_if_eq (tgt := 20) dX7_pace_7 rfl (fun h7 => ?_) (fun h7 => ?_)
  · exact no (fun q => if0 h7 q.1)
  · have hf := if1 h7
    refine aw_iload_n dX7_pace_10 rfl rfl ?_
    refine aw_iconst dX7_pace_11 rfl ⟨by decide, by decide⟩ ?_
    refine aw_bipush dX7_pace_12 (by decide) ⟨by decide, by decide⟩ ?_
    refine aw_cS3p dX7_pace_14 ml_RX7_94 ⟨by decide, by decide, by decide, by decide⟩ (Nat.le_of_ble_eq_true rfl) (sp_isIn K M n 1 64) ?_
    refine aw_if_ne (tgt := 22) dX7_pace_17 rfl (fun h17 => ?_) (fun h17 => ?_)
    · have hn1 := if1 h17
      rw [if_pos ⟨hf, hn1⟩] at hV
      obtain ⟨N, hN⟩ : ∃ N : Nat, (N : Int) = n := ⟨n.toNat, by omega⟩
      subst hN
      rw [Int.toNat_natCast] at hV
      refine aw_aload_n dX7_pace_22 rfl rfl ⟨by decide, by decide⟩ ?_
      refine aw_cV0v dX7_pace_23 ml_RX7_283 (by assumption) (by decide) rfl rfl ⟨by decide, by decide, by decide, by decide⟩ (Nat.le_of_ble_eq_true rfl) (sp_putAside hK0 M) (fun M1 hM1 => ?_)
      refine aw_iconst dX7_pace_26 rfl ⟨by decide, by decide⟩ ?_
      refine aw_istore_n dX7_pace_27 rfl (by decide) ?_
      refine aw_iconst dX7_pace_28 rfl ⟨by decide, by decide⟩ ?_
      refine aw_istore dX7_pace_29 (by decide) ?_
      have hc1 : HM M1 m S := HM_fr hc (hM1.2 _ (by omega))
      have ha1 : MT (M1 (m + 6)) S := MT_congr hc hw.1 hM1.1
      have f1 : frU M M1 m := ⟨fun b h1 h2 => hM1.2 b (by omega), fun j _ _ _ _ _ => by rw [hM1.2 m (by omega)]⟩
      have loop : ∀ (d : Nat) (p x : Int) (M2 : az_M), 0 ≤ p → p + d = 17 → HM M2 m S → MT (M2 (m + 6)) S → frU M M2 m → (x = -1 ∧ pcL S f N d p = V ∨ 0 ≤ x ∧ x = V) → AW az_P0 (az_Z (qi K (fun z M' => z = V ∧ HM M' m S ∧ frU M M' m)) 0 0) (az_rm 11 0 0) yX7_pace cX7_pace 5 (some .int) 0 0 31 [(1, m), (0, f), (0, (N : Int)), (0, x), (0, p)] [] K M2 := by
        intro d
        induction d with
        | zero =>
          intro p x M2 p0 p1 hc2 ha2 f2 hx
          have hxV : x = V := by
            rcases hx with ⟨e, q⟩ | ⟨-, e⟩
            · exact e.trans q
            · exact e
          refine aw_iload dX7_pace_31 rfl ?_
          refine aw_bipush dX7_pace_33 (by decide) ⟨by decide, by decide⟩ ?_
          refine aw_icmp_gt (tgt := 76) dX7_pace_35 rfl (fun h35 => ?_) (fun h35 => absurd h35 (by omega))
          refine aw_iload_n dX7_pace_76 rfl rfl ?_
          exact aw_iret dX7_pace_77 (by decide) (by decide) ⟨_, rfl, rfl, hxV, hc2, f2⟩
        | succ d ih =>
          intro p x M2 p0 p1 hc2 ha2 f2 hx
          refine aw_iload dX7_pace_31 rfl ?_
          refine aw_bipush dX7_pace_33 (by decide) ⟨by decide, by decide⟩ ?_
          refine aw_icmp_gt (tgt := 76) dX7_pace_35 rfl (fun h35 => absurd h35 (by omega)) (fun h35 => ?_)
          refine aw_iload_n dX7_pace_38 rfl rfl ?_
          refine aw_if_ge (tgt := 76) dX7_pace_39 rfl (fun h39 => ?_) (fun h39 => ?_)
          · have hxV : x = V := by
              rcases hx with ⟨e, q⟩ | ⟨-, e⟩
              · omega
              · exact e
            refine aw_iload_n dX7_pace_76 rfl rfl ?_
            exact aw_iret dX7_pace_77 (by decide) (by decide) ⟨_, rfl, rfl, hxV, hc2, f2⟩
          · have hx1 : x = -1 ∧ pcL S f N (d + 1) p = V := by
              rcases hx with q | q
              · exact q
              · omega
            obtain ⟨hx1, hx2⟩ := hx1
            replace hx2 : (if mkU (S.1 731) f 0 N (nameS S 737 p) = N then p else pcL S f N d (p + 1)) = V := hx2
            have hc3 : HM (az_up M2 (m + 1) 737 p) m (nameS S 737 p) := HM_up hc2 hw.1 (by omega) (by omega) (by omega) (by omega)
            have w3 : WL (nameS S 737 p) := WL_setg hw (w := 2) (by omega) (by omega) p0 (by rw [if_neg (by omega)]; omega)
            have e1 : (nameS S 737 p).1 729 = S.1 729 := nameS_n S _ (by omega)
            have e2 : (nameS S 737 p).1 731 = S.1 731 := nameS_n S _ (by omega)
            have hmk := sp_madeUpTo hK0 (az_up M2 (m + 1) 737 p) hc3 w3 (by omega) (by omega) N (by omega) f 0 hf.1 hf.2 (Or.inl rfl)
            rw [e2] at hmk
            generalize mkU (S.1 731) f 0 N (nameS S 737 p) = Z at hmk hx2
            refine aw_aload_n dX7_pace_42 rfl rfl ⟨by decide, by decide⟩ ?_
            refine aw_gzF 0 dX7_pace_43 fl_RX7_7 (by assumption) rfl rfl (by assumption) ?_
            refine aw_sipush dX7_pace_46 (by decide) ⟨by decide, by decide⟩ ?_
            refine aw_iload dX7_pace_49 rfl ?_
            refine aw_iast dX7_pace_51 (by assumption) (by omega) (by omega) ?_
            refine aw_aload_n dX7_pace_52 rfl rfl ⟨by decide, by decide⟩ ?_
            refine aw_iload_n dX7_pace_53 rfl rfl ?_
            refine aw_iload_n dX7_pace_54 rfl rfl ?_
            refine aw_iconst dX7_pace_55 rfl ⟨by decide, by decide⟩ ?_
            refine aw_cV3i dX7_pace_56 ml_RX7_298 (by assumption) (by decide) rfl rfl ⟨by decide, by decide, by decide, by decide⟩ (Nat.le_of_ble_eq_true rfl) (hmk) (fun z4 M4 hz4 => ?_)
            obtain ⟨e4, f4⟩ := hz4
            subst e4
            have ha4 : MT (M4 (m + 6)) S := by rw [f4.2, up_oth _ _ _ (by omega)]; exact ha2
            have f24 : frU M2 M4 m := frU.trans ⟨fun b h1 h2 => up_oth _ _ _ (by omega), fun j _ _ _ _ _ => by rw [up_oth _ _ _ (by omega)]⟩ f4.1
            have go : ∀ y : Int, (y = -1 ∧ pcL S f N d (p + 1) = V ∨ 0 ≤ y ∧ y = V) → AW az_P0 (az_Z (qi K (fun z M' => z = V ∧ HM M' m S ∧ frU M M' m)) 0 0) (az_rm 11 0 0) yX7_pace cX7_pace 5 (some .int) 0 0 66 [(1, m), (0, f), (0, (N : Int)), (0, y), (0, p)] [] K M4 := by
              intro y hy
              refine aw_aload_n dX7_pace_66 rfl rfl ⟨by decide, by decide⟩ ?_
              refine aw_cV0v dX7_pace_67 ml_RX7_289 (by assumption) (by decide) rfl rfl ⟨by decide, by decide, by decide, by decide⟩ (Nat.le_of_ble_eq_true rfl) (sp_bringBack hK0 M4) (fun M5 hM5 => ?_)
              have hc5 : HM M5 m S := HM_back ha4 hw hM5.1
              refine aw_iinc dX7_pace_70 rfl (az_wr_id (by omega) (by omega)) (by decide) ?_
              refine aw_goto (tgt := 31) dX7_pace_73 rfl ?_
              exact ih (p + 1) y M5 (by omega) (by omega) hc5 (by rw [hM5.2 _ (by omega)]; exact ha4) ((f2.trans f24).trans ⟨fun b h1 h2 => hM5.2 b (by omega), fun j _ _ _ _ _ => by rw [hM5.2 m (by omega)]⟩) hy
            refine aw_iload_n dX7_pace_59 rfl rfl ?_
            refine aw_icmp_ne (tgt := 66) dX7_pace_60 rfl (fun h60 => ?_) (fun h60 => ?_)
            · rw [if_neg (by omega)] at hx2
              exact go x (Or.inl ⟨hx1, hx2⟩)
            · rw [if_pos (by omega)] at hx2
              refine aw_iload dX7_pace_63 rfl ?_
              refine aw_istore_n dX7_pace_65 rfl (by decide) ?_
              exact go p (Or.inr ⟨p0, hx2⟩)
      exact loop 17 0 (-1) M1 (by omega) (by omega) hc1 ha1 f1 (Or.inl ⟨rfl, hV⟩)
    · exact no (fun q => if0 h17 q.2)
end AS
