/-! TreadRingModel: which grey one is next -/
set_option maxRecDepth 20000
def MoK (K : az_K) (m : Int) : Prop := MaK K m ∧ az_at K (m + 2) (101, 128) ∧ K.2 m 1 = some (m + 2)
theorem gl_in {S : hSt} (h : WS S) : ∀ a ∈ S.2.2, 0 ≤ a ∧ a < 128 := fun a ha => by
  have := ((h.2.2.2.2.2.1.2.2.2.1 a).mp ha).1.1
  exact ⟨this.1, this.2.1⟩
theorem HM_up {M : az_M} {m x v : Int} {S : hSt} (h : HM M m S) (hw : WS S) (hx : 0 ≤ x ∧ x < 384 ∨ 707 ≤ x ∧ x < 790) (h1 : x ≠ 726) (h2 : x ≠ 729) (h3 : x ≠ 739) : HM (az_up M (m + 1) x v) m (gu S.1 x v, S.2.1, S.2.2) := by
  obtain ⟨a, b, c1, c2, c3, c4⟩ := h
  have f : ∀ i, i ≠ x → az_up M (m + 1) x v (m + 1) i = M (m + 1) i := fun i hi => az_up_i _ _ _ _ hi
  have ho : ∀ i : Nat, i < S.2.2.length → 384 + S.2.2.getD i 0 ≠ x := by
    intro i hi
    have := gl_in hw _ (getD_mem hi)
    omega
  refine ⟨fun i i0 i1 i2 i3 => ?_, fun z z0 z1 => ?_, ?_, ?_, fun i hi => ?_, fun i j hij hj => ?_⟩
  · show _ = gu S.1 x v i
    unfold gu
    by_cases e : i = x
    · rw [if_pos e, e, az_up_s]
    · rw [if_neg e, f i e]; exact a i i0 i1 i2 i3
  · exact mRing_eq (b z z0 z1) (fun i i0 i1 => f i (by omega)) z0 z1 (rL_len (WR_of hw) (by omega))
  · rw [f _ (by omega)]; exact c1
  · show _ + eN S.2.1 ≤ 64 * (gu S.1 x v 729 + gu S.1 x v 726)
    rw [f _ (by omega), gu_n _ _ (by omega), gu_n _ _ (by omega)]; exact c2
  · rw [f _ (ho i hi), f _ (by omega)]; exact c3 i hi
  · have hj' : j < S.2.2.length := hj
    rw [f _ (ho i (by omega)), f _ (ho j hj')]; exact c4 i j hij hj
/-- whether one is taken ahead of another one -/
def isA (F g : Int → Int) (a b : Int) : Int :=
  if g 736 = 0 then (if F (384 + a) < F (384 + b) then 1 else 0)
  else if g 736 = 1 then (if F (384 + b) < F (384 + a) then 1 else 0)
  else if g 736 = 2 then (if pz g a < pz g b ∨ pz g a = pz g b ∧ F (384 + a) < F (384 + b) then 1 else 0)
  else (if a < b then 1 else 0)
theorem ord4 (g : Int → Int) (h : w_set g) : g 736 = 0 ∨ g 736 = 1 ∨ g 736 = 2 ∨ g 736 = 3 := by have := h.2.1; omega
theorem isA_01 (F g : Int → Int) (a b : Int) : isA F g a b = 0 ∨ isA F g a b = 1 := by
  unfold isA
  split
  · split <;> simp
  · split
    · split <;> simp
    · split
      · split <;> simp
      · split <;> simp
theorem isA_iff {F g : Int → Int} (h : w_set g) (a b : Int) : isA F g a b = 1 ↔ (g 736 = 0 ∧ F (384 + a) < F (384 + b)) ∨ (g 736 = 1 ∧ F (384 + b) < F (384 + a)) ∨ (g 736 = 2 ∧ (pz g a < pz g b ∨ pz g a = pz g b ∧ F (384 + a) < F (384 + b))) ∨ (g 736 = 3 ∧ a < b) := by
  unfold isA
  rcases ord4 g h with e | e | e | e <;> rw [e] <;> simp <;> omega
theorem isA_trans {F g : Int → Int} (h : w_set g) {a b c : Int} (h1 : isA F g a b = 1) (h2 : isA F g b c = 1) : isA F g a c = 1 := by
  rw [isA_iff h] at h1 h2 ⊢
  omega
theorem isA_asym {F g : Int → Int} (h : w_set g) {a b : Int} (h1 : isA F g a b = 1) (h2 : isA F g b a = 1) : False := by
  rw [isA_iff h] at h1 h2
  omega
theorem isA_total {F g : Int → Int} (h : w_set g) {a b : Int} (hne : a ≠ b) (hF : F (384 + a) ≠ F (384 + b)) (h1 : isA F g a b ≠ 1) : isA F g b a = 1 := by
  rw [Ne, isA_iff h] at h1
  rw [isA_iff h]
  have := ord4 g h
  omega
theorem sp_isAhead {K : az_K} {m : Int} (hK : MaK K m) (M : az_M) {g : Int → Int} (hp : w_pg g) (hs : w_set g) (hF : mAll (M (m + 1)) g) (a b : Int) (a0 : 0 ≤ a) (a1 : a < 128) (b0 : 0 ≤ b) (b1 : b < 128) (ha : 0 ≤ M (m + 1) (384 + a)) (hb : 0 ≤ M (m + 1) (384 + b)) (ha2 : M (m + 1) (384 + a) ≤ 2000000000) (hb2 : M (m + 1) (384 + b) ≤ 2000000000) : AM yX7_isAhead cX7_isAhead 4 (some .boolean) 2 0 0 [(1, m), (0, a), (0, b)] K M (qp K M (isA (M (m + 1)) g a b)) := by
  have hK0 := hK
  obtain ⟨km, k1, zz⟩ := hK
  refine am_of (by decide) (Nat.le_of_ble_eq_true rfl) (L := [(1, m), (0, a), (0, b), (9, 0)]) rfl ?_
  have v29 : M (m + 1) 736 = g 736 := hF 736 (by omega) (by omega) (by omega) (by omega)
  have sA : (if 0 ≤ a ∧ a < 128 then pz g a else 0) = pz g a := if_pos ⟨a0, a1⟩
  have sB : (if 0 ≤ b ∧ b < 128 then pz g b else 0) = pz g b := if_pos ⟨b0, b1⟩
  have hA := qp_c (sp_msizeAt hK0 M hp hF a) sA
  have hB := qp_c (sp_msizeAt hK0 M hp hF b) sB
  have hpa := pz_in hp a0 a1
  have hpb := pz_in hp b0 b1
  unfold isA
  rcases ord4 g hs with e | e | e | e
  · rw [e] at v29 ⊢
    refine aw_aload_n dX7_isAhead_0 rfl rfl ⟨by decide, by decide⟩ ?_
    refine aw_gzF 0 dX7_isAhead_1 fl_RX7_7 (by assumption) rfl rfl (by assumption) ?_
    refine aw_sipush dX7_isAhead_4 (by decide) ⟨by decide, by decide⟩ ?_
    refine aw_iload_n dX7_isAhead_7 rfl rfl ?_
    refine aw_iadd dX7_isAhead_8 (az_wr_id (by omega) (by omega)) ?_
    refine aw_iv dX7_isAhead_9 (by assumption) (by omega) (by omega) rfl ?_
    refine aw_aload_n dX7_isAhead_10 rfl rfl ⟨by decide, by decide⟩ ?_
    refine aw_gzF 0 dX7_isAhead_11 fl_RX7_7 (by assumption) rfl rfl (by assumption) ?_
    refine aw_sipush dX7_isAhead_14 (by decide) ⟨by decide, by decide⟩ ?_
    refine aw_iload_n dX7_isAhead_17 rfl rfl ?_
    refine aw_iadd dX7_isAhead_18 (az_wr_id (by omega) (by omega)) ?_
    refine aw_iv dX7_isAhead_19 (by assumption) (by omega) (by omega) rfl ?_
    refine aw_isub dX7_isAhead_20 (az_wr_id (by omega) (by omega)) ?_
    refine aw_istore_n dX7_isAhead_21 rfl (by decide) ?_
    refine aw_aload_n dX7_isAhead_22 rfl rfl ⟨by decide, by decide⟩ ?_
    refine aw_gzF 0 dX7_isAhead_23 fl_RX7_7 (by assumption) rfl rfl (by assumption) ?_
    refine aw_sipush dX7_isAhead_26 (by decide) ⟨by decide, by decide⟩ ?_
    refine aw_iv dX7_isAhead_29 (by assumption) (by omega) (by omega) v29 ?_
    refine aw_tsIn (tgt := 56) dX7_isAhead_30 (by omega) (by omega) rfl rfl ?_
    refine aw_iload_n dX7_isAhead_56 rfl rfl ?_
    refine aw_if_ge (tgt := 64) dX7_isAhead_57 rfl (fun h57 => ?_) (fun h57 => ?_)
    · refine aw_iconst dX7_isAhead_64 rfl ⟨by decide, by decide⟩ ?_
      exact aw_zret dX7_isAhead_65 (by omega) (by decide) (by decide) (qp_i (by simp; omega))
    · refine aw_iconst dX7_isAhead_60 rfl ⟨by decide, by decide⟩ ?_
      refine aw_goto (tgt := 65) dX7_isAhead_61 rfl ?_
      exact aw_zret dX7_isAhead_65 (by omega) (by decide) (by decide) (qp_i (by simp; omega))
  · rw [e] at v29 ⊢
    refine aw_aload_n dX7_isAhead_0 rfl rfl ⟨by decide, by decide⟩ ?_
    refine aw_gzF 0 dX7_isAhead_1 fl_RX7_7 (by assumption) rfl rfl (by assumption) ?_
    refine aw_sipush dX7_isAhead_4 (by decide) ⟨by decide, by decide⟩ ?_
    refine aw_iload_n dX7_isAhead_7 rfl rfl ?_
    refine aw_iadd dX7_isAhead_8 (az_wr_id (by omega) (by omega)) ?_
    refine aw_iv dX7_isAhead_9 (by assumption) (by omega) (by omega) rfl ?_
    refine aw_aload_n dX7_isAhead_10 rfl rfl ⟨by decide, by decide⟩ ?_
    refine aw_gzF 0 dX7_isAhead_11 fl_RX7_7 (by assumption) rfl rfl (by assumption) ?_
    refine aw_sipush dX7_isAhead_14 (by decide) ⟨by decide, by decide⟩ ?_
    refine aw_iload_n dX7_isAhead_17 rfl rfl ?_
    refine aw_iadd dX7_isAhead_18 (az_wr_id (by omega) (by omega)) ?_
    refine aw_iv dX7_isAhead_19 (by assumption) (by omega) (by omega) rfl ?_
    refine aw_isub dX7_isAhead_20 (az_wr_id (by omega) (by omega)) ?_
    refine aw_istore_n dX7_isAhead_21 rfl (by decide) ?_
    refine aw_aload_n dX7_isAhead_22 rfl rfl ⟨by decide, by decide⟩ ?_
    refine aw_gzF 0 dX7_isAhead_23 fl_RX7_7 (by assumption) rfl rfl (by assumption) ?_
    refine aw_sipush dX7_isAhead_26 (by decide) ⟨by decide, by decide⟩ ?_
    refine aw_iv dX7_isAhead_29 (by assumption) (by omega) (by omega) v29 ?_
    refine aw_tsIn (tgt := 66) dX7_isAhead_30 (by omega) (by omega) rfl rfl ?_
    refine aw_iload_n dX7_isAhead_66 rfl rfl ?_
    refine aw_if_le (tgt := 74) dX7_isAhead_67 rfl (fun h67 => ?_) (fun h67 => ?_)
    · refine aw_iconst dX7_isAhead_74 rfl ⟨by decide, by decide⟩ ?_
      exact aw_zret dX7_isAhead_75 (by omega) (by decide) (by decide) (qp_i (by simp; omega))
    · refine aw_iconst dX7_isAhead_70 rfl ⟨by decide, by decide⟩ ?_
      refine aw_goto (tgt := 75) dX7_isAhead_71 rfl ?_
      exact aw_zret dX7_isAhead_75 (by omega) (by decide) (by decide) (qp_i (by simp; omega))
  · rw [e] at v29 ⊢
    refine aw_aload_n dX7_isAhead_0 rfl rfl ⟨by decide, by decide⟩ ?_
    refine aw_gzF 0 dX7_isAhead_1 fl_RX7_7 (by assumption) rfl rfl (by assumption) ?_
    refine aw_sipush dX7_isAhead_4 (by decide) ⟨by decide, by decide⟩ ?_
    refine aw_iload_n dX7_isAhead_7 rfl rfl ?_
    refine aw_iadd dX7_isAhead_8 (az_wr_id (by omega) (by omega)) ?_
    refine aw_iv dX7_isAhead_9 (by assumption) (by omega) (by omega) rfl ?_
    refine aw_aload_n dX7_isAhead_10 rfl rfl ⟨by decide, by decide⟩ ?_
    refine aw_gzF 0 dX7_isAhead_11 fl_RX7_7 (by assumption) rfl rfl (by assumption) ?_
    refine aw_sipush dX7_isAhead_14 (by decide) ⟨by decide, by decide⟩ ?_
    refine aw_iload_n dX7_isAhead_17 rfl rfl ?_
    refine aw_iadd dX7_isAhead_18 (az_wr_id (by omega) (by omega)) ?_
    refine aw_iv dX7_isAhead_19 (by assumption) (by omega) (by omega) rfl ?_
    refine aw_isub dX7_isAhead_20 (az_wr_id (by omega) (by omega)) ?_
    refine aw_istore_n dX7_isAhead_21 rfl (by decide) ?_
    refine aw_aload_n dX7_isAhead_22 rfl rfl ⟨by decide, by decide⟩ ?_
    refine aw_gzF 0 dX7_isAhead_23 fl_RX7_7 (by assumption) rfl rfl (by assumption) ?_
    refine aw_sipush dX7_isAhead_26 (by decide) ⟨by decide, by decide⟩ ?_
    refine aw_iv dX7_isAhead_29 (by assumption) (by omega) (by omega) v29 ?_
    refine aw_tsIn (tgt := 76) dX7_isAhead_30 (by omega) (by omega) rfl rfl ?_
    refine aw_aload_n dX7_isAhead_76 rfl rfl ⟨by decide, by decide⟩ ?_
    refine aw_iload_n dX7_isAhead_77 rfl rfl ?_
    refine aw_cV1p dX7_isAhead_78 ml_RX7_98 (by assumption) (by decide) rfl rfl ⟨by decide, by decide, by decide, by decide⟩ (Nat.le_of_ble_eq_true rfl) (hA) ?_
    refine aw_aload_n dX7_isAhead_81 rfl rfl ⟨by decide, by decide⟩ ?_
    refine aw_iload_n dX7_isAhead_82 rfl rfl ?_
    refine aw_cV1p dX7_isAhead_83 ml_RX7_98 (by assumption) (by decide) rfl rfl ⟨by decide, by decide, by decide, by decide⟩ (Nat.le_of_ble_eq_true rfl) (hB) ?_
    refine aw_icmp_lt (tgt := 106) dX7_isAhead_86 rfl (fun h86 => ?_) (fun h86 => ?_)
    · refine aw_iconst dX7_isAhead_106 rfl ⟨by decide, by decide⟩ ?_
      refine aw_goto (tgt := 111) dX7_isAhead_107 rfl ?_
      exact aw_zret dX7_isAhead_111 (by omega) (by decide) (by decide) (qp_i (by simp; omega))
    · refine aw_aload_n dX7_isAhead_89 rfl rfl ⟨by decide, by decide⟩ ?_
      refine aw_iload_n dX7_isAhead_90 rfl rfl ?_
      refine aw_cV1p dX7_isAhead_91 ml_RX7_98 (by assumption) (by decide) rfl rfl ⟨by decide, by decide, by decide, by decide⟩ (Nat.le_of_ble_eq_true rfl) (hA) ?_
      refine aw_aload_n dX7_isAhead_94 rfl rfl ⟨by decide, by decide⟩ ?_
      refine aw_iload_n dX7_isAhead_95 rfl rfl ?_
      refine aw_cV1p dX7_isAhead_96 ml_RX7_98 (by assumption) (by decide) rfl rfl ⟨by decide, by decide, by decide, by decide⟩ (Nat.le_of_ble_eq_true rfl) (hB) ?_
      refine aw_icmp_ne (tgt := 110) dX7_isAhead_99 rfl (fun h99 => ?_) (fun h99 => ?_)
      · refine aw_iconst dX7_isAhead_110 rfl ⟨by decide, by decide⟩ ?_
        exact aw_zret dX7_isAhead_111 (by omega) (by decide) (by decide) (qp_i (by simp; omega))
      · refine aw_iload_n dX7_isAhead_102 rfl rfl ?_
        refine aw_if_ge (tgt := 110) dX7_isAhead_103 rfl (fun h103 => ?_) (fun h103 => ?_)
        · refine aw_iconst dX7_isAhead_110 rfl ⟨by decide, by decide⟩ ?_
          exact aw_zret dX7_isAhead_111 (by omega) (by decide) (by decide) (qp_i (by simp; omega))
        · refine aw_iconst dX7_isAhead_106 rfl ⟨by decide, by decide⟩ ?_
          refine aw_goto (tgt := 111) dX7_isAhead_107 rfl ?_
          exact aw_zret dX7_isAhead_111 (by omega) (by decide) (by decide) (qp_i (by simp; omega))
  · rw [e] at v29 ⊢
    refine aw_aload_n dX7_isAhead_0 rfl rfl ⟨by decide, by decide⟩ ?_
    refine aw_gzF 0 dX7_isAhead_1 fl_RX7_7 (by assumption) rfl rfl (by assumption) ?_
    refine aw_sipush dX7_isAhead_4 (by decide) ⟨by decide, by decide⟩ ?_
    refine aw_iload_n dX7_isAhead_7 rfl rfl ?_
    refine aw_iadd dX7_isAhead_8 (az_wr_id (by omega) (by omega)) ?_
    refine aw_iv dX7_isAhead_9 (by assumption) (by omega) (by omega) rfl ?_
    refine aw_aload_n dX7_isAhead_10 rfl rfl ⟨by decide, by decide⟩ ?_
    refine aw_gzF 0 dX7_isAhead_11 fl_RX7_7 (by assumption) rfl rfl (by assumption) ?_
    refine aw_sipush dX7_isAhead_14 (by decide) ⟨by decide, by decide⟩ ?_
    refine aw_iload_n dX7_isAhead_17 rfl rfl ?_
    refine aw_iadd dX7_isAhead_18 (az_wr_id (by omega) (by omega)) ?_
    refine aw_iv dX7_isAhead_19 (by assumption) (by omega) (by omega) rfl ?_
    refine aw_isub dX7_isAhead_20 (az_wr_id (by omega) (by omega)) ?_
    refine aw_istore_n dX7_isAhead_21 rfl (by decide) ?_
    refine aw_aload_n dX7_isAhead_22 rfl rfl ⟨by decide, by decide⟩ ?_
    refine aw_gzF 0 dX7_isAhead_23 fl_RX7_7 (by assumption) rfl rfl (by assumption) ?_
    refine aw_sipush dX7_isAhead_26 (by decide) ⟨by decide, by decide⟩ ?_
    refine aw_iv dX7_isAhead_29 (by assumption) (by omega) (by omega) v29 ?_
    refine aw_tsOut (tgt := 112) dX7_isAhead_30 (by omega) rfl ?_
    refine aw_iload_n dX7_isAhead_112 rfl rfl ?_
    refine aw_iload_n dX7_isAhead_113 rfl rfl ?_
    refine aw_icmp_ge (tgt := 121) dX7_isAhead_114 rfl (fun h114 => ?_) (fun h114 => ?_)
    · refine aw_iconst dX7_isAhead_121 rfl ⟨by decide, by decide⟩ ?_
      exact aw_zret dX7_isAhead_122 (by omega) (by decide) (by decide) (qp_i (by simp; omega))
    · refine aw_iconst dX7_isAhead_117 rfl ⟨by decide, by decide⟩ ?_
      refine aw_goto (tgt := 122) dX7_isAhead_118 rfl ?_
      exact aw_zret dX7_isAhead_122 (by omega) (by decide) (by decide) (qp_i (by simp; omega))
/-- the order of those that wait, by their places and by their addresses -/
theorem ahd_isA {F : Int → Int} {S : hSt} (hs : w_set S.1) (hW : mW F S) {i j : Nat} (hi : i < S.2.2.length) (hj : j < S.2.2.length) : ahd S.1 S.2.2 i j = isA F S.1 (S.2.2.getD i 0) (S.2.2.getD j 0) := by
  have hlt : F (384 + S.2.2.getD i 0) < F (384 + S.2.2.getD j 0) ↔ (i : Int) < j := by
    constructor
    · intro h
      apply Classical.byContradiction
      intro q
      by_cases e : i = j
      · rw [e] at h; omega
      · have := hW.2.2.2 j i (by omega) hi
        omega
    · intro h; exact hW.2.2.2 i j (by omega) hj
  have hgt : F (384 + S.2.2.getD j 0) < F (384 + S.2.2.getD i 0) ↔ (j : Int) < i := by
    constructor
    · intro h
      apply Classical.byContradiction
      intro q
      by_cases e : i = j
      · rw [e] at h; omega
      · have := hW.2.2.2 i j (by omega) hj
        omega
    · intro h; exact hW.2.2.2 j i (by omega) hi
  unfold ahd isA
  rw [Int.toNat_natCast, Int.toNat_natCast]
  generalize S.2.2.getD i 0 = A at hlt hgt ⊢
  generalize S.2.2.getD j 0 = B at hlt hgt ⊢
  rcases ord4 S.1 hs with e | e | e | e <;> rw [e] <;> simp [hlt, hgt]
theorem gl_ne {F : Int → Int} {S : hSt} (hW : mW F S) {i j : Nat} (hi : i < S.2.2.length) (hj : j < S.2.2.length) (h : i ≠ j) : F (384 + S.2.2.getD i 0) ≠ F (384 + S.2.2.getD j 0) := by
  by_cases e : i < j
  · have := hW.2.2.2 i j e hj; omega
  · have := hW.2.2.2 j i (by omega) hi; omega
theorem gl_idx {l : List Int} {x : Int} (h : x ∈ l) : ∃ i : Nat, i < l.length ∧ l.getD i 0 = x := by
  obtain ⟨i, hi, e⟩ := List.getElem_of_mem h
  refine ⟨i, hi, ?_⟩
  rw [List.getD_eq_getElem?_getD, List.getElem?_eq_getElem hi]
  exact e
theorem gl_nd {l : List Int} (hn : l.Nodup) {i j : Nat} (hi : i < l.length) (hj : j < l.length) (h : i ≠ j) : l.getD i 0 ≠ l.getD j 0 := by
  rw [List.getD_eq_getElem?_getD, List.getElem?_eq_getElem hi, List.getD_eq_getElem?_getD, List.getElem?_eq_getElem hj]
  intro e
  exact h ((List.getElem_inj hn).mp e)
/-- the one that is taken goes ahead of all others -/
theorem bs_best {F : Int → Int} {S : hSt} (h : WS S) (hW : mW F S) : ∀ n : Nat, 1 ≤ n → n ≤ S.2.2.length → ∀ j : Nat, j < n → (j : Int) ≠ bs S.1 S.2.2 n → isA F S.1 (S.2.2.getD (bs S.1 S.2.2 n).toNat 0) (S.2.2.getD j 0) = 1 := by
  have hs := h.2.2.2.2.2.2
  have hnd := h.2.2.2.2.2.1.2.2.1
  intro n
  induction n with
  | zero => intro q; omega
  | succ n ih =>
    intro _ hn j hj hjb
    by_cases n0 : n = 0
    · subst n0
      exfalso
      have : bs S.1 S.2.2 (0 + 1) = 0 := by show (if (0 : Nat) = 0 then (0 : Int) else _) = 0; rw [if_pos rfl]
      omega
    · have hbi := bs_in S.1 S.2.2 n (by omega)
      have hst : bs S.1 S.2.2 (n + 1) = if ahd S.1 S.2.2 n (bs S.1 S.2.2 n) = 1 then (n : Int) else bs S.1 S.2.2 n := by
        show (if n = 0 then 0 else if ahd S.1 S.2.2 n (bs S.1 S.2.2 n) = 1 then (n : Int) else bs S.1 S.2.2 n) = _
        rw [if_neg n0]
      obtain ⟨b, hb⟩ : ∃ b : Nat, (b : Int) = bs S.1 S.2.2 n := ⟨(bs S.1 S.2.2 n).toNat, Int.toNat_of_nonneg hbi.1⟩
      have ih' := ih (by omega) (by omega)
      rw [← hb] at hst ih' hbi
      rw [Int.toNat_natCast] at ih'
      have had := ahd_isA hs hW (i := n) (j := b) (by omega) (by omega)
      rw [hst] at hjb ⊢
      by_cases e : ahd S.1 S.2.2 n b = 1
      · rw [if_pos e] at hjb ⊢
        rw [Int.toNat_natCast]
        rw [had] at e
        by_cases q : j = b
        · rw [q]; exact e
        · exact isA_trans hs e (ih' j (by omega) (by omega))
      · rw [if_neg e] at hjb ⊢
        rw [Int.toNat_natCast]
        by_cases q : j = n
        · rw [q]
          rw [had] at e
          exact isA_total hs (gl_nd hnd (by omega) (by omega) (by omega)) (gl_ne hW (by omega) (by omega) (by omega)) e
        · exact ih' j (by omega) hjb
theorem sp_clearOut {K : az_K} {m : Int} (hK : MoK K m) (M : az_M) : AM yX7_clearOut cX7_clearOut 2 none 0 0 0 [(1, m)] K M (qv K (fun M' => (∀ j, 0 ≤ j → j < 128 → M' (m + 2) j = 0) ∧ ∀ b, b ≠ m + 2 → M' b = M b)) := by
  obtain ⟨⟨km, k1, zz⟩, k2, z1⟩ := hK
  refine am_of (by decide) (Nat.le_of_ble_eq_true rfl) (L := [(1, m), (9, 0)]) rfl ?_
  refine aw_iconst dX7_clearOut_0 rfl ⟨by decide, by decide⟩ ?_
  refine aw_istore_n dX7_clearOut_1 rfl (by decide) ?_
  have loop : ∀ (d i : Nat) (M1 : az_M), i + d = 128 → (∀ j, 0 ≤ j → j < (i : Int) → M1 (m + 2) j = 0) → (∀ b, b ≠ m + 2 → M1 b = M b) → AW az_P0 (az_Z (qv K (fun M' => (∀ j, 0 ≤ j → j < 128 → M' (m + 2) j = 0) ∧ ∀ b, b ≠ m + 2 → M' b = M b)) 0 0) (az_rm 0 0 0) yX7_clearOut cX7_clearOut 2 none 0 0 2 [(1, m), (0, (i : Int))] [] K M1 := by
    intro d
    induction d with
    | zero =>
      intro i M1 hi h1 h2
      refine aw_iload_n dX7_clearOut_2 rfl rfl ?_
      refine aw_sipush dX7_clearOut_3 (by decide) ⟨by decide, by decide⟩ ?_
      refine aw_icmp_ge (tgt := 22) dX7_clearOut_6 rfl (fun h6 => ?_) (fun h6 => absurd h6 (by omega))
      exact aw_vret dX7_clearOut_22 (by decide) (by decide) ⟨rfl, rfl, fun j j0 j1 => h1 j j0 (by omega), h2⟩
    | succ d ih =>
      intro i M1 hi h1 h2
      refine aw_iload_n dX7_clearOut_2 rfl rfl ?_
      refine aw_sipush dX7_clearOut_3 (by decide) ⟨by decide, by decide⟩ ?_
      refine aw_icmp_ge (tgt := 22) dX7_clearOut_6 rfl (fun h6 => absurd h6 (by omega)) (fun h6 => ?_)
      refine aw_aload_n dX7_clearOut_9 rfl rfl ⟨by decide, by decide⟩ ?_
      refine aw_gzF 1 dX7_clearOut_10 fl_RX7_13 (by assumption) rfl rfl (by assumption) ?_
      refine aw_iload_n dX7_clearOut_13 rfl rfl ?_
      refine aw_iconst dX7_clearOut_14 rfl ⟨by decide, by decide⟩ ?_
      refine aw_zast dX7_clearOut_15 (by assumption) (by omega) (by omega) (by omega) ?_
      refine aw_iinc dX7_clearOut_16 rfl (az_wr_id (by omega) (by omega)) (by decide) ?_
      refine aw_goto (tgt := 2) dX7_clearOut_19 rfl ?_
      refine ih (i + 1) _ (by omega) (fun j j0 j1 => ?_) (fun b hb => by rw [up_oth _ _ _ hb, h2 b hb])
      rw [up_row]
      show (if j = (i : Int) then 0 else M1 (m + 2) j) = 0
      by_cases e : j = (i : Int)
      · rw [if_pos e]
      · rw [if_neg e]; exact h1 j j0 (by omega)
  exact loop 128 0 M (by omega) (fun j j0 j1 => by omega) (fun _ _ => rfl)
/-- the best of those that wait and are not left out -/
def bstP (M : az_M) (m : Int) (S : hSt) (k z : Int) : Prop := (z = -1 ∧ ∀ b ∈ S.2.2, b < k → M (m + 2) b ≠ 0) ∨ (0 ≤ z ∧ z < k ∧ z ∈ S.2.2 ∧ M (m + 2) z = 0 ∧ ∀ b ∈ S.2.2, b < k → M (m + 2) b = 0 → b ≠ z → isA (M (m + 1)) S.1 z b = 1)
set_option maxHeartbeats 1000000 in
theorem sp_nextGrey {K : az_K} {m : Int} (hK : MoK K m) (M : az_M) {S : hSt} (hc : HM M m S) (hw : WS S) (hcy : S.1 729 ≤ 20000000) (hO : ∀ a, 0 ≤ a → a < 128 → S.1 a = 2 → a ∉ S.2.2 → M (m + 2) a ≠ 0) : AM yX7_nextGrey cX7_nextGrey 3 (some .int) 3 0 0 [(1, m)] K M (qi K (fun z M' => M' = M ∧ bstP M m S 128 z)) := by
  have hK0 := hK
  obtain ⟨hKa, k2, z1⟩ := hK
  have hKa0 := hKa
  obtain ⟨km, k1, zz⟩ := hKa
  refine am_of (by decide) (Nat.le_of_ble_eq_true rfl) (L := [(1, m), (9, 0), (9, 0)]) rfl ?_
  have hin := gl_in hw
  have hs := hw.2.2.2.2.2.2
  obtain ⟨hF, hR, hW⟩ := hc
  have r01 : S.1 726 = 0 ∨ S.1 726 = 1 := hw.2.2.2.2.2.1.1
  have hWb : ∀ a ∈ S.2.2, 0 ≤ M (m + 1) (384 + a) ∧ M (m + 1) (384 + a) ≤ 2000000000 := by
    intro a ha
    obtain ⟨i, hi, e⟩ := gl_idx ha
    have q := hW.2.2.1 i hi
    rw [e] at q
    have := hW.2.1
    have := eN_nn S.2.1
    omega
  have hWn : ∀ a ∈ S.2.2, ∀ b ∈ S.2.2, a ≠ b → M (m + 1) (384 + a) ≠ M (m + 1) (384 + b) := by
    intro a ha b hb hab
    obtain ⟨i, hi, e⟩ := gl_idx ha
    obtain ⟨j, hj, e'⟩ := gl_idx hb
    rw [← e, ← e']
    exact gl_ne hW hi hj (fun q => hab (by rw [← e, ← e', q]))
  refine aw_iconst dX7_nextGrey_0 rfl ⟨by decide, by decide⟩ ?_
  refine aw_istore_n dX7_nextGrey_1 rfl (by decide) ?_
  refine aw_iconst dX7_nextGrey_2 rfl ⟨by decide, by decide⟩ ?_
  refine aw_istore_n dX7_nextGrey_3 rfl (by decide) ?_
  have loop : ∀ (d k : Nat) (z : Int), k + d = 128 → bstP M m S k z → AW az_P0 (az_Z (qi K (fun z M' => M' = M ∧ bstP M m S 128 z)) 0 0) (az_rm 3 0 0) yX7_nextGrey cX7_nextGrey 3 (some .int) 0 0 4 [(1, m), (0, z), (0, (k : Int))] [] K M := by
    intro d
    induction d with
    | zero =>
      intro k z hk hz
      have : k = 128 := by omega
      subst this
      refine aw_iload_n dX7_nextGrey_4 rfl rfl ?_
      refine aw_sipush dX7_nextGrey_5 (by decide) ⟨by decide, by decide⟩ ?_
      refine aw_icmp_ge (tgt := 61) dX7_nextGrey_8 rfl (fun h8 => ?_) (fun h8 => absurd h8 (by omega))
      refine aw_iload_n dX7_nextGrey_61 rfl rfl ?_
      exact aw_iret dX7_nextGrey_62 (by decide) (by decide) ⟨_, rfl, rfl, rfl, hz⟩
    | succ d ih =>
      intro k z hk hz
      have skip : ((k : Int) ∈ S.2.2 → M (m + 2) k ≠ 0) → AW az_P0 (az_Z (qi K (fun z M' => M' = M ∧ bstP M m S 128 z)) 0 0) (az_rm 3 0 0) yX7_nextGrey cX7_nextGrey 3 (some .int) 0 0 55 [(1, m), (0, z), (0, (k : Int))] [] K M := by
        intro hno
        refine aw_iinc dX7_nextGrey_55 rfl (az_wr_id (by omega) (by omega)) (by decide) ?_
        refine aw_goto (tgt := 4) dX7_nextGrey_58 rfl ?_
        refine ih (k + 1) z (by omega) ?_
        rcases hz with ⟨q1, q2⟩ | ⟨q1, q2, q3, q4, q5⟩
        · refine Or.inl ⟨q1, fun b hb hbk => ?_⟩
          by_cases e : b = k
          · rw [e] at hb ⊢; exact hno hb
          · exact q2 b hb (by omega)
        · refine Or.inr ⟨q1, by omega, q3, q4, fun b hb hbk hb0 hbz => ?_⟩
          by_cases e : b = k
          · rw [e] at hb hb0; exact absurd hb0 (hno hb)
          · exact q5 b hb (by omega) hb0 hbz
      have hv : M (m + 1) (k : Int) = S.1 k := hF _ (by omega) (by omega) (by omega) (by omega)
      refine aw_iload_n dX7_nextGrey_4 rfl rfl ?_
      refine aw_sipush dX7_nextGrey_5 (by decide) ⟨by decide, by decide⟩ ?_
      refine aw_icmp_ge (tgt := 61) dX7_nextGrey_8 rfl (fun h8 => absurd h8 (by omega)) (fun h8 => ?_)
      refine aw_aload_n dX7_nextGrey_11 rfl rfl ⟨by decide, by decide⟩ ?_
      refine aw_iload_n dX7_nextGrey_12 rfl rfl ?_
      refine aw_cV1p dX7_nextGrey_13 ml_RX7_102 (by assumption) (by decide) rfl rfl ⟨by decide, by decide, by decide, by decide⟩ (Nat.le_of_ble_eq_true rfl) (sp_misSlot hKa0 M hw.1 hF (k : Int)) ?_
      refine aw_if_eq (tgt := 55) dX7_nextGrey_16 rfl (fun h16 => ?_) (fun h16 => ?_)
      · refine skip (fun hm => ?_)
        exact absurd ((hw.2.2.2.2.2.1.2.2.2.1 _).mp hm).1.1 (if0 h16)
      · refine aw_aload_n dX7_nextGrey_19 rfl rfl ⟨by decide, by decide⟩ ?_
        refine aw_iload_n dX7_nextGrey_20 rfl rfl ?_
        refine aw_cV1p dX7_nextGrey_21 ml_RX7_106 (by assumption) (by decide) rfl rfl ⟨by decide, by decide, by decide, by decide⟩ (Nat.le_of_ble_eq_true rfl) (qp_c (sp_colourOf hKa0 M (k : Int) (by omega) (by omega)) hv) ?_
        refine aw_iconst dX7_nextGrey_24 rfl ⟨by decide, by decide⟩ ?_
        refine aw_icmp_ne (tgt := 55) dX7_nextGrey_25 rfl (fun h25 => ?_) (fun h25 => ?_)
        · refine skip (fun hm => ?_)
          exact absurd ((hw.2.2.2.2.2.1.2.2.2.1 _).mp hm).2.1 h25
        · refine aw_aload_n dX7_nextGrey_28 rfl rfl ⟨by decide, by decide⟩ ?_
          refine aw_gzF 1 dX7_nextGrey_29 fl_RX7_13 (by assumption) rfl rfl (by assumption) ?_
          refine aw_iload_n dX7_nextGrey_32 rfl rfl ?_
          refine aw_zv dX7_nextGrey_33 (by assumption) (by omega) (by omega) rfl ?_
          refine aw_if_eq (tgt := 40) dX7_nextGrey_34 rfl (fun h34 => ?_) (fun h34 => ?_)
          · have hm : (k : Int) ∈ S.2.2 := by
              apply Classical.byContradiction
              intro q
              exact hO k (by omega) (by omega) h25 q h34
            refine aw_iload_n dX7_nextGrey_40 rfl rfl ?_
            refine aw_if_lt (tgt := 53) dX7_nextGrey_41 rfl (fun h41 => ?_) (fun h41 => ?_)
            · have hz1 : z = -1 ∧ ∀ b ∈ S.2.2, b < (k : Int) → M (m + 2) b ≠ 0 := by
                rcases hz with q | q
                · exact q
                · omega
              refine aw_iload_n dX7_nextGrey_53 rfl rfl ?_
              refine aw_istore_n dX7_nextGrey_54 rfl (by decide) ?_
              refine aw_iinc dX7_nextGrey_55 rfl (az_wr_id (by omega) (by omega)) (by decide) ?_
              refine aw_goto (tgt := 4) dX7_nextGrey_58 rfl ?_
              refine ih (k + 1) _ (by omega) (Or.inr ⟨by omega, by omega, hm, h34, fun b hb hbk hb0 hbz => ?_⟩)
              exact absurd hb0 (hz1.2 b hb (by omega))
            · have hz1 : 0 ≤ z ∧ z < k ∧ z ∈ S.2.2 ∧ M (m + 2) z = 0 ∧ ∀ b ∈ S.2.2, b < (k : Int) → M (m + 2) b = 0 → b ≠ z → isA (M (m + 1)) S.1 z b = 1 := by
                rcases hz with q | q
                · omega
                · exact q
              obtain ⟨y1, y2, y3, y4, y5⟩ := hz1
              have wk := hWb _ hm
              have wz := hWb _ y3
              have hah := sp_isAhead hKa0 M hw.1 hs hF k z (by omega) (by omega) y1 (by omega) wk.1 wz.1 wk.2 wz.2
              have h01 := isA_01 (M (m + 1)) S.1 k z
              refine aw_aload_n dX7_nextGrey_44 rfl rfl ⟨by decide, by decide⟩ ?_
              refine aw_iload_n dX7_nextGrey_45 rfl rfl ?_
              refine aw_iload_n dX7_nextGrey_46 rfl rfl ?_
              refine aw_cV2p dX7_nextGrey_47 ml_RX7_171 (by assumption) (by decide) rfl rfl ⟨by decide, by decide, by decide, by decide⟩ (Nat.le_of_ble_eq_true rfl) (hah) ?_
              refine aw_if_eq (tgt := 55) dX7_nextGrey_50 rfl (fun h50 => ?_) (fun h50 => ?_)
              · refine aw_iinc dX7_nextGrey_55 rfl (az_wr_id (by omega) (by omega)) (by decide) ?_
                refine aw_goto (tgt := 4) dX7_nextGrey_58 rfl ?_
                refine ih (k + 1) z (by omega) (Or.inr ⟨y1, by omega, y3, y4, fun b hb hbk hb0 hbz => ?_⟩)
                by_cases e : b = k
                · rw [e]
                  exact isA_total hs (by omega) (hWn _ hm _ y3 (by omega)) (by omega)
                · exact y5 b hb (by omega) hb0 hbz
              · refine aw_iload_n dX7_nextGrey_53 rfl rfl ?_
                refine aw_istore_n dX7_nextGrey_54 rfl (by decide) ?_
                refine aw_iinc dX7_nextGrey_55 rfl (az_wr_id (by omega) (by omega)) (by decide) ?_
                refine aw_goto (tgt := 4) dX7_nextGrey_58 rfl ?_
                refine ih (k + 1) _ (by omega) (Or.inr ⟨by omega, by omega, hm, h34, fun b hb hbk hb0 hbz => ?_⟩)
                by_cases e : b = z
                · rw [e]; omega
                · exact isA_trans hs (by omega) (y5 b hb (by omega) hb0 e)
          · refine aw_goto (tgt := 55) dX7_nextGrey_37 rfl ?_
            exact skip (fun _ => h34)
  exact loop 128 0 (-1) (by omega) (Or.inl ⟨rfl, fun b hb hbk => by have := hin b hb; omega⟩)
/-- with none left out it is the one that is taken -/
theorem next_take {M : az_M} {m : Int} {S : hSt} (h : WS S) (hc : HM M m S) (hz : ∀ j, 0 ≤ j → j < 128 → M (m + 2) j = 0) (hne : 0 < S.2.2.length) {z : Int} (hb : bstP M m S 128 z) : z = S.2.2.getD (bs S.1 S.2.2 S.2.2.length).toNat 0 := by
  have hin := gl_in h
  have hbi := bs_in S.1 S.2.2 S.2.2.length hne
  have hbm := getD_mem (l := S.2.2) (i := (bs S.1 S.2.2 S.2.2.length).toNat) (by omega)
  have hbb := hin _ hbm
  rcases hb with ⟨q1, q2⟩ | ⟨q1, q2, q3, q4, q5⟩
  · exact absurd (hz _ hbb.1 hbb.2) (q2 _ hbm (by omega))
  · apply Classical.byContradiction
    intro hn
    have h1 := q5 _ hbm (by omega) (hz _ hbb.1 hbb.2) (fun e => hn e.symm)
    obtain ⟨j, hj, e⟩ := gl_idx q3
    have hjb : (j : Int) ≠ bs S.1 S.2.2 S.2.2.length := by
      intro q
      apply hn
      rw [← e, ← q, Int.toNat_natCast]
    have h2 := bs_best h hc.2.2 S.2.2.length (by omega) (Nat.le_refl _) j hj hjb
    rw [e] at h2
    exact isA_asym h.2.2.2.2.2.2 h1 h2
