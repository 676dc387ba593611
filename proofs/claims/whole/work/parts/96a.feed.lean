/-! the tape is fed on both sides -/
set_option maxRecDepth 20000
def byt (v s : Int) : Int := az_and (az_shr v s) 255
theorem i32_byte (a : Int32) : 0 ≤ (a &&& 255).toInt ∧ (a &&& 255).toInt ≤ 255 := by
  have h1 : (a &&& 255).toBitVec = a.toBitVec &&& 255#32 := rfl
  have h2 : (a.toBitVec &&& 255#32).toNat ≤ 255 := by
    rw [BitVec.toNat_and]
    exact Nat.and_le_right
  have h3 : (a &&& 255).toInt = ((a.toBitVec &&& 255#32).toNat : Int) := by
    show (a.toBitVec &&& 255#32).toInt = _
    rw [BitVec.toInt_eq_toNat_of_lt]
    omega
  omega
theorem and_byte (v : Int) : 0 ≤ az_and v 255 ∧ az_and v 255 ≤ 255 := i32_byte (Int32.ofInt v)
theorem bv_sh (a : BitVec 32) (s : Nat) (hs : s ≤ 24) : (a.sshiftRight s) &&& 255#32 = (a >>> s) &&& 255#32 := by
  apply BitVec.eq_of_getLsbD_eq
  intro i hi
  rw [BitVec.getLsbD_and, BitVec.getLsbD_and, BitVec.getLsbD_sshiftRight, BitVec.getLsbD_ushiftRight]
  by_cases q : i < 8
  · rw [if_pos (by omega)]
    simp only [show decide (32 ≤ i) = false from decide_eq_false (by omega), Bool.not_false, Bool.true_and]
  · have : (255#32).getLsbD i = false := by
      have h : ∀ j : Fin 32, 8 ≤ j.val → (255#32).getLsbD j.val = false := by decide
      exact h ⟨i, hi⟩ (by show 8 ≤ i; omega)
    rw [this, Bool.and_false, Bool.and_false]
theorem byt_u (v s : Int) (hs : s = 0 ∨ s = 8 ∨ s = 16 ∨ s = 24) : az_and (az_ushr v s) 255 = byt v s := by
  unfold byt
  have ho : ∀ a : Int32, Int32.ofInt a.toInt = a := fun a => Int32.ofInt_toInt a
  unfold az_and
  congr 1
  unfold az_ushr az_shr
  rw [ho, ho]
  generalize Int32.ofInt v = a
  apply Int32.toBitVec_inj.mp
  rcases hs with e | e | e | e <;> subst e
  · exact (bv_sh a.toBitVec 0 (by omega)).symm
  · exact (bv_sh a.toBitVec 8 (by omega)).symm
  · exact (bv_sh a.toBitVec 16 (by omega)).symm
  · exact (bv_sh a.toBitVec 24 (by omega)).symm
theorem byt_in (v s : Int) : 0 ≤ byt v s ∧ byt v s ≤ 255 := and_byte _
def wsel (v1 v2 v3 v4 v5 k : Int) : Int := if k < 4 then v1 else if k < 8 then v2 else if k < 12 then v3 else if k < 16 then v4 else v5
def fdB (v1 v2 v3 v4 v5 k : Int) : Int := byt (wsel v1 v2 v3 v4 v5 k) (24 - 8 * (k % 4))
def fdP (M M' : az_M) (o f tp t : Int) (v1 v2 v3 v4 v5 : Int) (z : Int) : Prop := (t + 20 ≤ 400 → z = t + 20 ∧ M' o f = t + 20 ∧ (∀ i, i < t → M' tp i = M tp i) ∧ ∀ k, 0 ≤ k → k < 20 → M' tp (t + k) = fdB v1 v2 v3 v4 v5 k) ∧ (¬ t + 20 ≤ 400 → z = -1 ∧ M' = M) ∧ (∀ b, b ≠ o → b ≠ tp → M' b = M b) ∧ ∀ j, j ≠ f → M' o j = M o j
theorem and_3 {k : Int} (k0 : 0 ≤ k) (k1 : k < 20) : az_and k 3 = k % 4 := by
  have h : ∀ j : Fin 20, az_and (j.val : Int) 3 = (j.val : Int) % 4 := by decide
  have := h ⟨k.toNat, by omega⟩
  rw [show ((⟨k.toNat, by omega⟩ : Fin 20).val : Int) = k from Int.toNat_of_nonneg k0] at this
  exact this
section FD
variable {K : az_K} {m x : Int}
set_option maxHeartbeats 1000000 in
theorem sp_mfeed (hK : MdK K m) (M : az_M) {t : Int} (h11 : M m 11 = t) (t0 : 0 ≤ t) (t4 : t ≤ 400) (v1 v2 v3 v4 v5 : Int) : AM yX7_feed cX7_feed 8 (some .int) 0 0 0 [(1, m), (0, v1), (0, v2), (0, v3), (0, v4), (0, v5)] K M (qi K (fun z M' => fdP M M' m 11 (m + 8) t v1 v2 v3 v4 v5 z)) := by
  have hK0 := hK
  obtain ⟨hKo, k3, k4, k5, k6, k7, k8, k9, k10, k11, k12, k13, k14, k15, k16, k17, k18, k19, k20, k21, k22, k23, k24, k25, y3, y4, y5, y6, y7, y8, y9, y10, y11, y12, y13, y14, y15, y16, y17, y18, y19, y20, y21, y22, y23, y24, y25⟩ := hK
  have hKo0 := hKo
  obtain ⟨hKa, k2, y2⟩ := hKo
  have hKa0 := hKa
  obtain ⟨km, k1, y1⟩ := hKa
  refine am_of (by decide) (Nat.le_of_ble_eq_true rfl) (L := [(1, m), (0, v1), (0, v2), (0, v3), (0, v4), (0, v5), (9, 0), (9, 0)]) rfl ?_
  refine aw_aload_n dX7_feed_0 rfl rfl ⟨by decide, by decide⟩ ?_
  refine aw_gi 11 dX7_feed_1 fl_RX7_320 (by assumption) rfl rfl h11 ?_
  refine aw_bipush dX7_feed_4 (by decide) ⟨by decide, by decide⟩ ?_
  refine aw_iadd dX7_feed_6 (az_wr_id (by omega) (by omega)) ?_
  refine aw_sipush dX7_feed_7 (by decide) ⟨by decide, by decide⟩ ?_
  refine aw_icmp_le (tgt := 15) dX7_feed_10 rfl (fun h10 => ?_) (fun h10 => ?_)
  · refine aw_iconst dX7_feed_15 rfl ⟨by decide, by decide⟩ ?_
    refine aw_istore dX7_feed_16 (by decide) ?_
    have loop : ∀ (d : Nat) (k : Int) (M2 : az_M) (l7 : az_V), 0 ≤ k → k + d = 20 → (∀ i, i < t → M2 (m + 8) i = M (m + 8) i) → (∀ j, 0 ≤ j → j < k → M2 (m + 8) (t + j) = fdB v1 v2 v3 v4 v5 j) → (∀ b, b ≠ m + 8 → M2 b = M b) → AW az_P0 (az_Z (qi K (fun z M' => fdP M M' m 11 (m + 8) t v1 v2 v3 v4 v5 z)) 0 0) (az_rm 0 0 0) yX7_feed cX7_feed 8 (some .int) 0 0 18 [(1, m), (0, v1), (0, v2), (0, v3), (0, v4), (0, v5), (0, k), l7] [] K M2 := by
      intro d
      induction d with
      | zero =>
        intro k M2 l7 k0 k1 o1 o2 o3
        have hk : k = 20 := by omega
        subst hk
        have em : M2 m = M m := o3 _ (by omega)
        have v110 : M2 m 11 = t := by rw [em]; exact h11
        refine aw_iload dX7_feed_18 rfl ?_
        refine aw_bipush dX7_feed_20 (by decide) ⟨by decide, by decide⟩ ?_
        refine aw_icmp_ge (tgt := 108) dX7_feed_22 rfl (fun h22 => ?_) (fun h22 => absurd h22 (by omega))
        refine aw_aload_n dX7_feed_108 rfl rfl ⟨by decide, by decide⟩ ?_
        refine aw_dup dX7_feed_109 ?_
        refine aw_gi 11 dX7_feed_110 fl_RX7_320 (by assumption) rfl rfl v110 ?_
        refine aw_bipush dX7_feed_113 (by decide) ⟨by decide, by decide⟩ ?_
        refine aw_iadd dX7_feed_115 (az_wr_id (by omega) (by omega)) ?_
        refine aw_pi 11 dX7_feed_116 fl_RX7_320 (by assumption) rfl rfl ?_
        refine aw_aload_n dX7_feed_119 rfl rfl ⟨by decide, by decide⟩ ?_
        refine aw_gi 11 dX7_feed_120 fl_RX7_320 (by assumption) rfl rfl (az_up_s _ _ _ _) ?_
        refine aw_iret dX7_feed_123 (by decide) (by decide) ⟨_, rfl, rfl, fun _ => ⟨rfl, az_up_s _ _ _ _, fun i hi => ?_, fun k k0 k1 => ?_⟩, fun q => absurd h10 q, fun b b1 b2 => ?_, fun j hj => ?_⟩
        · rw [up_oth _ _ _ (by omega)]; exact o1 i hi
        · rw [up_oth _ _ _ (by omega)]; exact o2 k k0 k1
        · rw [up_oth _ _ _ b1]; exact o3 b b2
        · rw [az_up_i _ _ _ _ hj, em]
      | succ d ih =>
        intro k M2 l7 k0 k1 o1 o2 o3
        have em : M2 m = M m := o3 _ (by omega)
        have v78 : M2 m 11 = t := by rw [em]; exact h11
        have ha := and_3 k0 (by omega)
        have go : ∀ w, w = wsel v1 v2 v3 v4 v5 k → AW az_P0 (az_Z (qi K (fun z M' => fdP M M' m 11 (m + 8) t v1 v2 v3 v4 v5 z)) 0 0) (az_rm 0 0 0) yX7_feed cX7_feed 8 (some .int) 0 0 71 [(1, m), (0, v1), (0, v2), (0, v3), (0, v4), (0, v5), (0, k), l7] [(0, w)] K M2 := by
          intro w hw
          have hb : az_and (az_shr w (24 - 8 * (k % 4))) 255 = fdB v1 v2 v3 v4 v5 k := by rw [hw]; rfl
          refine aw_istore dX7_feed_71 (by decide) ?_
          refine aw_aload_n dX7_feed_73 rfl rfl ⟨by decide, by decide⟩ ?_
          refine aw_gzF 10 dX7_feed_74 fl_RX7_32 (by assumption) rfl rfl (by assumption) ?_
          refine aw_aload_n dX7_feed_77 rfl rfl ⟨by decide, by decide⟩ ?_
          refine aw_gi 11 dX7_feed_78 fl_RX7_320 (by assumption) rfl rfl v78 ?_
          refine aw_iload dX7_feed_81 rfl ?_
          refine aw_iadd dX7_feed_83 (az_wr_id (by omega) (by omega)) ?_
          refine aw_iload dX7_feed_84 rfl ?_
          refine aw_bipush dX7_feed_86 (by decide) ⟨by decide, by decide⟩ ?_
          refine aw_bipush dX7_feed_88 (by decide) ⟨by decide, by decide⟩ ?_
          refine aw_iload dX7_feed_90 rfl ?_
          refine aw_iconst dX7_feed_92 rfl ⟨by decide, by decide⟩ ?_
          refine aw_iand dX7_feed_93 ha ?_
          refine aw_imul dX7_feed_94 (az_wr_id (by omega) (by omega)) ?_
          refine aw_isub dX7_feed_95 (az_wr_id (by omega) (by omega)) ?_
          refine aw_ishr dX7_feed_96 rfl ?_
          refine aw_sipush dX7_feed_97 (by decide) ⟨by decide, by decide⟩ ?_
          refine aw_iand dX7_feed_100 hb ?_
          refine aw_iast dX7_feed_101 (by assumption) (by omega) (by omega) ?_
          refine aw_iinc dX7_feed_102 rfl (az_wr_id (by omega) (by omega)) (by decide) ?_
          refine aw_goto (tgt := 18) dX7_feed_105 rfl ?_
          refine ih (k + 1) _ _ (by omega) (by omega) (fun i hi => ?_) (fun j j0 j1 => ?_) (fun b hb' => ?_)
          · rw [az_up_i _ _ _ _ (by omega)]; exact o1 i hi
          · by_cases q : j = k
            · rw [q, az_up_s]
            · rw [az_up_i _ _ _ _ (by omega)]; exact o2 j j0 (by omega)
          · rw [up_oth _ _ _ hb']; exact o3 b hb'
        unfold wsel at go
        refine aw_iload dX7_feed_18 rfl ?_
        refine aw_bipush dX7_feed_20 (by decide) ⟨by decide, by decide⟩ ?_
        refine aw_icmp_ge (tgt := 108) dX7_feed_22 rfl (fun h22 => absurd h22 (by omega)) (fun h22 => ?_)
        refine aw_iload dX7_feed_25 rfl ?_
        refine aw_iconst dX7_feed_27 rfl ⟨by decide, by decide⟩ ?_
        refine aw_icmp_ge (tgt := 35) dX7_feed_28 rfl (fun h28 => ?_) (fun h28 => ?_)
        · rw [if_neg (by omega)] at go
          refine aw_iload dX7_feed_35 rfl ?_
          refine aw_bipush dX7_feed_37 (by decide) ⟨by decide, by decide⟩ ?_
          refine aw_icmp_ge (tgt := 46) dX7_feed_39 rfl (fun h39 => ?_) (fun h39 => ?_)
          · rw [if_neg (by omega)] at go
            refine aw_iload dX7_feed_46 rfl ?_
            refine aw_bipush dX7_feed_48 (by decide) ⟨by decide, by decide⟩ ?_
            refine aw_icmp_ge (tgt := 57) dX7_feed_50 rfl (fun h50 => ?_) (fun h50 => ?_)
            · rw [if_neg (by omega)] at go
              refine aw_iload dX7_feed_57 rfl ?_
              refine aw_bipush dX7_feed_59 (by decide) ⟨by decide, by decide⟩ ?_
              refine aw_icmp_ge (tgt := 69) dX7_feed_61 rfl (fun h61 => ?_) (fun h61 => ?_)
              · rw [if_neg (by omega)] at go
                refine aw_iload dX7_feed_69 rfl ?_
                exact go _ rfl
              · rw [if_pos (by omega)] at go
                refine aw_iload dX7_feed_64 rfl ?_
                refine aw_goto (tgt := 71) dX7_feed_66 rfl ?_
                exact go _ rfl
            · rw [if_pos (by omega)] at go
              refine aw_iload_n dX7_feed_53 rfl rfl ?_
              refine aw_goto (tgt := 71) dX7_feed_54 rfl ?_
              exact go _ rfl
          · rw [if_pos (by omega)] at go
            refine aw_iload_n dX7_feed_42 rfl rfl ?_
            refine aw_goto (tgt := 71) dX7_feed_43 rfl ?_
            exact go _ rfl
        · rw [if_pos (by omega)] at go
          refine aw_iload_n dX7_feed_31 rfl rfl ?_
          refine aw_goto (tgt := 71) dX7_feed_32 rfl ?_
          exact go _ rfl
    exact loop 20 0 M _ (by omega) (by omega) (fun _ _ => rfl) (fun j j0 j1 => by omega) (fun _ _ => rfl)
  · refine aw_iconst dX7_feed_13 rfl ⟨by decide, by decide⟩ ?_
    exact aw_iret dX7_feed_14 (by decide) (by decide) ⟨_, rfl, rfl, fun q => absurd q (by omega), fun _ => ⟨rfl, rfl⟩, fun _ _ _ => rfl, fun _ _ => rfl⟩
set_option maxHeartbeats 1000000 in
theorem sp_feedFour (hK : TrK K x) (M : az_M) {t : Int} (h10 : M x 10 = t) (t0 : 0 ≤ t) (t4 : t ≤ 396) (v : Int) : AM yX6_feedFour cX6_feedFour 3 none 0 0 0 [(1, x), (0, v)] K M (qv K (fun M' => M' x 10 = t + 4 ∧ (∀ i, i < t → M' (x + 23) i = M (x + 23) i) ∧ (∀ k, 0 ≤ k → k < 4 → M' (x + 23) (t + k) = byt v (24 - 8 * k)) ∧ (∀ b, b ≠ x → b ≠ x + 23 → M' b = M b) ∧ ∀ j, j ≠ 10 → M' x j = M x j)) := by
  have hK0 := hK
  obtain ⟨kx, k1, k2, k3, hT4, k19, hRe, k23, hRt, hS1, hS2, k45, hKp, hBx, y0, y4, y5, y6, y7, y8, y9, y11, y14, n12, n13, r0, r4, q0, q1, xin⟩ := hK
  refine am_of (by decide) (Nat.le_of_ble_eq_true rfl) (L := [(1, x), (0, v), (9, 0)]) rfl ?_
  refine aw_bipush dX6_feedFour_0 (by decide) ⟨by decide, by decide⟩ ?_
  refine aw_istore_n dX6_feedFour_2 rfl (by decide) ?_
  have loop : ∀ (d : Nat) (k s : Int) (M2 : az_M), 0 ≤ k → k + d = 4 → s = 24 - 8 * k → M2 x 10 = t + k → (∀ i, i < t → M2 (x + 23) i = M (x + 23) i) → (∀ j, 0 ≤ j → j < k → M2 (x + 23) (t + j) = byt v (24 - 8 * j)) → (∀ b, b ≠ x → b ≠ x + 23 → M2 b = M b) → (∀ j, j ≠ 10 → M2 x j = M x j) → AW az_P0 (az_Z (qv K (fun M' => M' x 10 = t + 4 ∧ (∀ i, i < t → M' (x + 23) i = M (x + 23) i) ∧ (∀ k, 0 ≤ k → k < 4 → M' (x + 23) (t + k) = byt v (24 - 8 * k)) ∧ (∀ b, b ≠ x → b ≠ x + 23 → M' b = M b) ∧ ∀ j, j ≠ 10 → M' x j = M x j)) 0 0) (az_rm 0 0 0) yX6_feedFour cX6_feedFour 3 none 0 0 3 [(1, x), (0, v), (0, s)] [] K M2 := by
    intro d
    induction d with
    | zero =>
      intro k s M2 k0 k1 hs h2 o1 o2 o3 o4
      have hk : k = 4 := by omega
      subst hk
      refine aw_iload_n dX6_feedFour_3 rfl rfl ?_
      refine aw_if_lt (tgt := 39) dX6_feedFour_4 rfl (fun h4 => ?_) (fun h4 => absurd h4 (by omega))
      exact aw_vret dX6_feedFour_39 (by decide) (by decide) ⟨rfl, rfl, h2, o1, o2, o3, o4⟩
    | succ d ih =>
      intro k s M2 k0 k1 hs h2 o1 o2 o3 o4
      have hb : az_and (az_ushr v s) 255 = byt v (24 - 8 * k) := by rw [byt_u v s (by omega), hs]
      have v25 : az_up M2 (x + 23) (t + k) (byt v (24 - 8 * k)) x 10 = t + k := by rw [up_oth _ _ _ (by omega)]; exact h2
      refine aw_iload_n dX6_feedFour_3 rfl rfl ?_
      refine aw_if_lt (tgt := 39) dX6_feedFour_4 rfl (fun h4 => absurd h4 (by omega)) (fun h4 => ?_)
      refine aw_aload_n dX6_feedFour_7 rfl rfl ⟨by decide, by decide⟩ ?_
      refine aw_gzF 9 dX6_feedFour_8 fl_RX6_48 (by assumption) rfl rfl (by assumption) ?_
      refine aw_aload_n dX6_feedFour_11 rfl rfl ⟨by decide, by decide⟩ ?_
      refine aw_gi 10 dX6_feedFour_12 fl_RX6_51 (by assumption) rfl rfl h2 ?_
      refine aw_iload_n dX6_feedFour_15 rfl rfl ?_
      refine aw_iload_n dX6_feedFour_16 rfl rfl ?_
      refine aw_iushr dX6_feedFour_17 rfl ?_
      refine aw_sipush dX6_feedFour_18 (by decide) ⟨by decide, by decide⟩ ?_
      refine aw_iand dX6_feedFour_21 hb ?_
      refine aw_iast dX6_feedFour_22 (by assumption) (by omega) (by omega) ?_
      refine aw_aload_n dX6_feedFour_23 rfl rfl ⟨by decide, by decide⟩ ?_
      refine aw_dup dX6_feedFour_24 ?_
      refine aw_gi 10 dX6_feedFour_25 fl_RX6_51 (by assumption) rfl rfl v25 ?_
      refine aw_iconst dX6_feedFour_28 rfl ⟨by decide, by decide⟩ ?_
      refine aw_iadd dX6_feedFour_29 (az_wr_id (by omega) (by omega)) ?_
      refine aw_pi 10 dX6_feedFour_30 fl_RX6_51 (by assumption) rfl rfl ?_
      refine aw_iinc dX6_feedFour_33 rfl (az_wr_id (by omega) (by omega)) (by decide) ?_
      refine aw_goto (tgt := 3) dX6_feedFour_36 rfl ?_
      refine ih (k + 1) _ _ (by omega) (by omega) (by omega) ?_ (fun i hi => ?_) (fun j j0 j1 => ?_) (fun b b1 b2 => ?_) (fun j hj => ?_)
      · rw [az_up_s]; omega
      · rw [up_oth _ _ _ (by omega), az_up_i _ _ _ _ (by omega)]; exact o1 i hi
      · rw [up_oth _ _ _ (by omega)]
        by_cases q : j = k
        · rw [q, az_up_s]
        · rw [az_up_i _ _ _ _ (by omega)]; exact o2 j j0 (by omega)
      · rw [up_oth _ _ _ b1, up_oth _ _ _ b2]; exact o3 b b1 b2
      · rw [az_up_i _ _ _ _ hj, up_oth _ _ _ (by omega)]; exact o4 j hj
  exact loop 4 0 24 M (by omega) (by omega) (by omega) (by omega) (fun _ _ => rfl) (fun j j0 j1 => by omega) (fun _ _ _ => rfl) (fun _ _ => rfl)
set_option maxHeartbeats 1000000 in
theorem sp_cfeed (hK : TrK K x) (M : az_M) {t : Int} (h1 : M x 10 = t) (t0 : 0 ≤ t) (t4 : t ≤ 400) (v1 v2 v3 v4 v5 : Int) : AM yX6_feed cX6_feed 6 (some .int) 1 0 0 [(1, x), (0, v1), (0, v2), (0, v3), (0, v4), (0, v5)] K M (qi K (fun z M' => fdP M M' x 10 (x + 23) t v1 v2 v3 v4 v5 z)) := by
  have hK0 := hK
  obtain ⟨kx, k1, k2, k3, hT4, k19, hRe, k23, hRt, hS1, hS2, k45, hKp, hBx, y0, y4, y5, y6, y7, y8, y9, y11, y14, n12, n13, r0, r4, q0, q1, xin⟩ := hK
  refine am_of (by decide) (Nat.le_of_ble_eq_true rfl) (L := [(1, x), (0, v1), (0, v2), (0, v3), (0, v4), (0, v5)]) rfl ?_
  refine aw_aload_n dX6_feed_0 rfl rfl ⟨by decide, by decide⟩ ?_
  refine aw_gi 10 dX6_feed_1 fl_RX6_51 (by assumption) rfl rfl h1 ?_
  refine aw_bipush dX6_feed_4 (by decide) ⟨by decide, by decide⟩ ?_
  refine aw_iadd dX6_feed_6 (az_wr_id (by omega) (by omega)) ?_
  refine aw_sipush dX6_feed_7 (by decide) ⟨by decide, by decide⟩ ?_
  refine aw_icmp_le (tgt := 15) dX6_feed_10 rfl (fun h10 => ?_) (fun h10 => ?_)
  · refine aw_aload_n dX6_feed_15 rfl rfl ⟨by decide, by decide⟩ ?_
    refine aw_iload_n dX6_feed_16 rfl rfl ?_
    refine aw_cV1v dX6_feed_17 ml_RX6_148 (by assumption) (by decide) rfl rfl ⟨by decide, by decide, by decide, by decide⟩ (Nat.le_of_ble_eq_true rfl) (sp_feedFour hK0 M h1 t0 (by omega) v1) (fun M1 hM1 => ?_)
    obtain ⟨a1, b1, c1, d1, e1⟩ := hM1
    refine aw_aload_n dX6_feed_20 rfl rfl ⟨by decide, by decide⟩ ?_
    refine aw_iload_n dX6_feed_21 rfl rfl ?_
    refine aw_cV1v dX6_feed_22 ml_RX6_148 (by assumption) (by decide) rfl rfl ⟨by decide, by decide, by decide, by decide⟩ (Nat.le_of_ble_eq_true rfl) (sp_feedFour hK0 M1 a1 (by omega) (by omega) v2) (fun M2 hM2 => ?_)
    obtain ⟨a2, b2, c2, d2, e2⟩ := hM2
    refine aw_aload_n dX6_feed_25 rfl rfl ⟨by decide, by decide⟩ ?_
    refine aw_iload_n dX6_feed_26 rfl rfl ?_
    refine aw_cV1v dX6_feed_27 ml_RX6_148 (by assumption) (by decide) rfl rfl ⟨by decide, by decide, by decide, by decide⟩ (Nat.le_of_ble_eq_true rfl) (sp_feedFour hK0 M2 a2 (by omega) (by omega) v3) (fun M3 hM3 => ?_)
    obtain ⟨a3, b3, c3, d3, e3⟩ := hM3
    refine aw_aload_n dX6_feed_30 rfl rfl ⟨by decide, by decide⟩ ?_
    refine aw_iload dX6_feed_31 rfl ?_
    refine aw_cV1v dX6_feed_33 ml_RX6_148 (by assumption) (by decide) rfl rfl ⟨by decide, by decide, by decide, by decide⟩ (Nat.le_of_ble_eq_true rfl) (sp_feedFour hK0 M3 a3 (by omega) (by omega) v4) (fun M4 hM4 => ?_)
    obtain ⟨a4, b4, c4, d4, e4⟩ := hM4
    refine aw_aload_n dX6_feed_36 rfl rfl ⟨by decide, by decide⟩ ?_
    refine aw_iload dX6_feed_37 rfl ?_
    refine aw_cV1v dX6_feed_39 ml_RX6_148 (by assumption) (by decide) rfl rfl ⟨by decide, by decide, by decide, by decide⟩ (Nat.le_of_ble_eq_true rfl) (sp_feedFour hK0 M4 a4 (by omega) (by omega) v5) (fun M5 hM5 => ?_)
    obtain ⟨a5, b5, c5, d5, e5⟩ := hM5
    refine aw_aload_n dX6_feed_42 rfl rfl ⟨by decide, by decide⟩ ?_
    refine aw_gi 10 dX6_feed_43 fl_RX6_51 (by assumption) rfl rfl a5 ?_
    refine aw_iret dX6_feed_46 (by decide) (by decide) ⟨_, rfl, rfl, fun _ => ⟨by omega, by omega, fun i hi => ?_, fun k k0 k1 => ?_⟩, fun q => absurd h10 q, fun b q1 q2 => ?_, fun j hj => ?_⟩
    · rw [b5 i (by omega), b4 i (by omega), b3 i (by omega), b2 i (by omega), b1 i (by omega)]
    · unfold fdB wsel
      by_cases q : k < 4
      · rw [if_pos q, b5 _ (by omega), b4 _ (by omega), b3 _ (by omega), b2 _ (by omega), c1 k k0 q, show k % 4 = k by omega]
      rw [if_neg q]
      by_cases q : k < 8
      · rw [if_pos q, b5 _ (by omega), b4 _ (by omega), b3 _ (by omega), show t + k = t + 4 + (k - 4) by omega, c2 (k - 4) (by omega) (by omega), show k % 4 = k - 4 by omega]
      rw [if_neg q]
      by_cases q : k < 12
      · rw [if_pos q, b5 _ (by omega), b4 _ (by omega), show t + k = t + 4 + 4 + (k - 8) by omega, c3 (k - 8) (by omega) (by omega), show k % 4 = k - 8 by omega]
      rw [if_neg q]
      by_cases q : k < 16
      · rw [if_pos q, b5 _ (by omega), show t + k = t + 4 + 4 + 4 + (k - 12) by omega, c4 (k - 12) (by omega) (by omega), show k % 4 = k - 12 by omega]
      rw [if_neg q, show t + k = t + 4 + 4 + 4 + 4 + (k - 16) by omega, c5 (k - 16) (by omega) (by omega), show k % 4 = k - 16 by omega]
    · rw [d5 b q1 q2, d4 b q1 q2, d3 b q1 q2, d2 b q1 q2, d1 b q1 q2]
    · rw [e5 j hj, e4 j hj, e3 j hj, e2 j hj, e1 j hj]
  · refine aw_iconst dX6_feed_13 rfl ⟨by decide, by decide⟩ ?_
    exact aw_iret dX6_feed_14 (by decide) (by decide) ⟨_, rfl, rfl, fun q => absurd q (by omega), fun _ => ⟨rfl, rfl⟩, fun _ _ _ => rfl, fun _ _ => rfl⟩
end FD
