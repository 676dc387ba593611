/-! Heap's questions -/
def ocN (g : Int → Int) (rg : Int → List Int) : Int := sumN (g 725).toNat (fun p => us rg p * g (707 + p))
theorem us_le {g : Int → Int} {rg : Int → List Int} (hw : WR g rg) {p : Int} (p0 : 0 ≤ p) (p1 : p < g 725) : 0 ≤ us rg p ∧ us rg p ≤ 576 := by
  refine ⟨us_nn _ _, ?_⟩
  have q1 := us_sum hw
  have q2 := obN_le hw
  have q3 : us rg p ≤ sumN (p + 1).toNat (us rg) := by
    rw [show (p + 1).toNat = p.toNat + 1 by omega]
    show us rg p ≤ sumN p.toNat (us rg) + us rg (p.toNat : Int)
    have := sumN_nn (f := us rg) (fun i => us_nn rg i) p.toNat
    rw [Int.toNat_of_nonneg p0]
    omega
  have q4 := sumN_mono (f := us rg) (fun i => us_nn rg i) (p + 1).toNat (g 725).toNat (by omega)
  omega
set_option maxRecDepth 20000 in
theorem sp_objectCells {K : az_K} {h : Int} (hK : HpK K h) (M : az_M) {S : hSt} (hc : HS M h S) (hw : WL S) : AM yX0_objectCells cX0_objectCells 3 (some .int) 0 0 0 [(1, h)] K M (qp K M (ocN S.1 S.2.1)) := by
  obtain ⟨hRg, kh, k6, k7, k8, k9, k10, k11, k12, k13, k14, z0, z1, z2, z3, z4, z5, z6, z7, z8, z9⟩ := hK
  refine am_of (by decide) (Nat.le_of_ble_eq_true rfl) (L := [(1, h), (9, 0), (9, 0)]) rfl ?_
  have hpg : M h 10 = S.1 725 := hc.2.2.2.2.2.2.2.2.2.2.1
  have p1 := hw.1.1.1
  have p8 := hw.1.1.2.1
  have hR := WR_of hw.1
  refine aw_iconst dX0_objectCells_0 rfl ⟨by decide, by decide⟩ ?_
  refine aw_istore_n dX0_objectCells_1 rfl (by decide) ?_
  refine aw_iconst dX0_objectCells_2 rfl ⟨by decide, by decide⟩ ?_
  refine aw_istore_n dX0_objectCells_3 rfl (by decide) ?_
  have loop : ∀ (k i : Nat), i + k = (S.1 725).toNat → AW az_P0 (az_Z (qp K M (ocN S.1 S.2.1)) 0 0) (az_rm 0 0 0) yX0_objectCells cX0_objectCells 3 (some .int) 0 0 4 [(1, h), (0, sumN i (fun p => us S.2.1 p * S.1 (707 + p))), (0, (i : Int))] [] K M := by
    intro k
    induction k with
    | zero =>
      intro i hi
      refine aw_iload_n dX0_objectCells_4 rfl rfl ?_
      refine aw_aload_n dX0_objectCells_5 rfl rfl ⟨by decide, by decide⟩ ?_
      refine aw_gi 10 dX0_objectCells_6 fl_RX0_58 (by assumption) rfl rfl hpg ?_
      refine aw_icmp_ge (tgt := 34) dX0_objectCells_9 rfl (fun h9 => ?_) (fun h9 => ?_)
      · refine aw_iload_n dX0_objectCells_34 rfl rfl ?_
        refine aw_iret dX0_objectCells_35 (by decide) (by decide) (qp_i ?_)
        unfold ocN
        rw [show i = (S.1 725).toNat by omega]
      · omega
    | succ k ih =>
      intro i hi
      have v18 := hc.2.2.2.2.1 i (by omega) (by omega)
      have v24 := hc.2.2.2.1 i (by omega) (by omega)
      have hu := us_le hR (p := (i : Int)) (by omega) (by omega)
      have hz := (hw.1.1.2.2 i (by omega) (by omega)).1
      have hpr : 0 ≤ us S.2.1 i * S.1 (707 + i) ∧ us S.2.1 i * S.1 (707 + i) ≤ 5000 := by
        rcases hz with e | e | e | e <;> rw [e] <;> omega
      have hsum := sumN_le (f := fun p => us S.2.1 p * S.1 (707 + p)) (c := 5000) i (fun j hj => by
        have hu := us_le hR (p := (j : Int)) (by omega) (by omega)
        rcases (hw.1.1.2.2 j (by omega) (by omega)).1 with e | e | e | e <;> rw [e] <;> omega)
      refine aw_iload_n dX0_objectCells_4 rfl rfl ?_
      refine aw_aload_n dX0_objectCells_5 rfl rfl ⟨by decide, by decide⟩ ?_
      refine aw_gi 10 dX0_objectCells_6 fl_RX0_58 (by assumption) rfl rfl hpg ?_
      refine aw_icmp_ge (tgt := 34) dX0_objectCells_9 rfl (fun h9 => ?_) (fun h9 => ?_)
      · omega
      · refine aw_iload_n dX0_objectCells_12 rfl rfl ?_
        refine aw_aload_n dX0_objectCells_13 rfl rfl ⟨by decide, by decide⟩ ?_
        refine aw_gzF 3 dX0_objectCells_14 fl_RX0_25 (by assumption) rfl rfl (by assumption) ?_
        refine aw_iload_n dX0_objectCells_17 rfl rfl ?_
        refine aw_iv dX0_objectCells_18 (by assumption) (by omega) (by omega) v18 ?_
        refine aw_aload_n dX0_objectCells_19 rfl rfl ⟨by decide, by decide⟩ ?_
        refine aw_gzF 2 dX0_objectCells_20 fl_RX0_22 (by assumption) rfl rfl (by assumption) ?_
        refine aw_iload_n dX0_objectCells_23 rfl rfl ?_
        refine aw_iv dX0_objectCells_24 (by assumption) (by omega) (by omega) v24 ?_
        refine aw_imul dX0_objectCells_25 (az_wr_id (by omega) (by omega)) ?_
        refine aw_iadd dX0_objectCells_26 (az_wr_id (by omega) (by omega)) ?_
        refine aw_istore_n dX0_objectCells_27 rfl (by decide) ?_
        refine aw_iinc dX0_objectCells_28 rfl (az_wr_id (by omega) (by omega)) (by decide) ?_
        refine aw_goto (tgt := 4) dX0_objectCells_31 rfl ?_
        exact ih (i + 1) (by omega)
  exact loop (S.1 725).toNat 0 (by omega)
set_option maxRecDepth 20000 in
theorem sp_toldCycles {K : az_K} {h : Int} (hK : HpK K h) (M : az_M) {S : hSt} (hc : HS M h S) : AM yX0_toldCycles cX0_toldCycles 1 (some .int) 1 0 0 [(1, h)] K M (qp K M (S.1 741)) := by
  obtain ⟨hRg, kh, k6, k7, k8, k9, k10, k11, k12, k13, k14, z0, z1, z2, z3, z4, z5, z6, z7, z8, z9⟩ := hK
  refine am_of (by decide) (Nat.le_of_ble_eq_true rfl) (L := [(1, h)]) rfl ?_
  have v5 : M (h + 13) 0 = S.1 729 := hc.2.2.2.2.2.2.2.2.1 0 (by omega) (by omega)
  have hl := hc.2.2.2.2.2.2.2.2.2.1.2.1
  refine aw_aload_n dX0_toldCycles_0 rfl rfl ⟨by decide, by decide⟩ ?_
  refine aw_gzF 8 dX0_toldCycles_1 fl_RX0_40 (by assumption) rfl rfl (by assumption) ?_
  refine aw_iconst dX0_toldCycles_4 rfl ⟨by decide, by decide⟩ ?_
  refine aw_iv dX0_toldCycles_5 (by assumption) (by omega) (by omega) v5 ?_
  refine aw_bipush dX0_toldCycles_6 (by decide) ⟨by decide, by decide⟩ ?_
  refine aw_mmin dX0_toldCycles_8 mm_RX0_160 ⟨by decide, by decide, by decide, by decide⟩ ?_
  exact aw_iret dX0_toldCycles_11 (by decide) (by decide) (qp_i (by rw [hl]))
set_option maxRecDepth 20000 in
theorem sp_toldPart {K : az_K} {h : Int} (hK : HpK K h) (M : az_M) {S : hSt} (hc : HS M h S) (hcy : S.1 729 ≤ 2000000000) (i w : Int) (i0 : 0 ≤ i) (i1 : i < S.1 741) (w0 : 0 ≤ w) (w1 : w < 3) : AM yX0_toldPart cX0_toldPart 3 (some .int) 0 0 0 [(1, h), (0, i), (0, w)] K M (qp K M (S.1 (742 + 3 * i + w))) := by
  obtain ⟨hRg, kh, k6, k7, k8, k9, k10, k11, k12, k13, k14, z0, z1, z2, z3, z4, z5, z6, z7, z8, z9⟩ := hK
  refine am_of (by decide) (Nat.le_of_ble_eq_true rfl) (L := [(1, h), (0, i), (0, w)]) rfl ?_
  have v9 : M (h + 13) 0 = S.1 729 := hc.2.2.2.2.2.2.2.2.1 0 (by omega) (by omega)
  obtain ⟨l1, l2, l3⟩ := hc.2.2.2.2.2.2.2.2.2.1
  have v21 := l3 i w i0 i1 w0 w1
  refine aw_aload_n dX0_toldPart_0 rfl rfl ⟨by decide, by decide⟩ ?_
  refine aw_gzF 9 dX0_toldPart_1 fl_RX0_43 (by assumption) rfl rfl (by assumption) ?_
  refine aw_aload_n dX0_toldPart_4 rfl rfl ⟨by decide, by decide⟩ ?_
  refine aw_gzF 8 dX0_toldPart_5 fl_RX0_40 (by assumption) rfl rfl (by assumption) ?_
  refine aw_iconst dX0_toldPart_8 rfl ⟨by decide, by decide⟩ ?_
  refine aw_iv dX0_toldPart_9 (by assumption) (by omega) (by omega) v9 ?_
  refine aw_iconst dX0_toldPart_10 rfl ⟨by decide, by decide⟩ ?_
  refine aw_isub dX0_toldPart_11 (az_wr_id (by omega) (by omega)) ?_
  refine aw_iload_n dX0_toldPart_12 rfl rfl ?_
  refine aw_isub dX0_toldPart_13 (az_wr_id (by omega) (by omega)) ?_
  refine aw_bipush dX0_toldPart_14 (by decide) ⟨by decide, by decide⟩ ?_
  refine aw_irem dX0_toldPart_16 (by omega) (by omega) ?_
  refine aw_iconst dX0_toldPart_17 rfl ⟨by decide, by decide⟩ ?_
  refine aw_imul dX0_toldPart_18 (az_wr_id (by omega) (by omega)) ?_
  refine aw_iload_n dX0_toldPart_19 rfl rfl ?_
  refine aw_iadd dX0_toldPart_20 (az_wr_id (by omega) (by omega)) ?_
  refine aw_iv dX0_toldPart_21 (by assumption) (by omega) (by omega) v21 ?_
  exact aw_iret dX0_toldPart_22 (by decide) (by decide) (qp_i rfl)
def nbN (g : Int → Int) (a : Int) : Int := sumN (g (128 + a)).toNat (fun f => if g (256 + a + 1 + f) ≠ -1 then 1 else 0)
set_option maxRecDepth 20000 in
theorem sp_namedBy {K : az_K} {h : Int} (hK : HpK K h) (M : az_M) {S : hSt} (hc : HS M h S) (hw : WL S) (a : Int) (ha : sl S.1 a) : AM yX0_namedBy cX0_namedBy 4 (some .int) 0 0 0 [(1, h), (0, a)] K M (qp K M (nbN S.1 a)) := by
  obtain ⟨hRg, kh, k6, k7, k8, k9, k10, k11, k12, k13, k14, z0, z1, z2, z3, z4, z5, z6, z7, z8, z9⟩ := hK
  refine am_of (by decide) (Nat.le_of_ble_eq_true rfl) (L := [(1, h), (0, a), (9, 0), (9, 0)]) rfl ?_
  have a0 := ha.1
  have a1 := ha.2.1
  obtain ⟨n, hn⟩ : ∃ n : Nat, n = (S.1 (128 + a)).toNat := ⟨_, rfl⟩
  have hfl := hw.1.2.2.2.1 a ha
  have hcel := hc.2.2.1 a ha
  have hpz := (sl_even hw.1.1 ha).2.2.1
  have hv : M (h + 6) a ≤ n ∧ (0 < n → M (h + 6) a = n ∧ S.1 a ≠ 0) ∧ n ≤ 7 ∧ a + n < 128 := by
    by_cases e : S.1 a = 0
    · have q1 := hfl.1 e
      have q2 := hcel.1 e
      omega
    · have q1 := hfl.2 e
      have q2 := (hcel.2 e).1
      have q3 := base_of hw.1.1 (f := S.1 (128 + a)) ha q1.1 q1.2
      omega
  refine aw_iconst dX0_namedBy_0 rfl ⟨by decide, by decide⟩ ?_
  refine aw_istore_n dX0_namedBy_1 rfl (by decide) ?_
  refine aw_iconst dX0_namedBy_2 rfl ⟨by decide, by decide⟩ ?_
  refine aw_istore_n dX0_namedBy_3 rfl (by decide) ?_
  have loop : ∀ (k i : Nat), i + k = n → AW az_P0 (az_Z (qp K M (nbN S.1 a)) 0 0) (az_rm 0 0 0) yX0_namedBy cX0_namedBy 4 (some .int) 0 0 4 [(1, h), (0, a), (0, sumN i (fun f => if S.1 (256 + a + 1 + f) ≠ -1 then 1 else 0)), (0, (i : Int))] [] K M := by
    intro k
    induction k with
    | zero =>
      intro i hi
      refine aw_iload_n dX0_namedBy_4 rfl rfl ?_
      refine aw_aload_n dX0_namedBy_5 rfl rfl ⟨by decide, by decide⟩ ?_
      refine aw_gzF 1 dX0_namedBy_6 fl_RX0_18 (by assumption) rfl rfl (by assumption) ?_
      refine aw_iload_n dX0_namedBy_9 rfl rfl ?_
      refine aw_iv dX0_namedBy_10 (by assumption) (by omega) (by omega) rfl ?_
      refine aw_icmp_ge (tgt := 37) dX0_namedBy_11 rfl (fun h11 => ?_) (fun h11 => ?_)
      · refine aw_iload_n dX0_namedBy_37 rfl rfl ?_
        refine aw_iret dX0_namedBy_38 (by decide) (by decide) (qp_i ?_)
        unfold nbN
        rw [← hn, show i = n by omega]
      · omega
    | succ k ih =>
      intro i hi
      have hpos := hv.2.1 (by omega)
      have v23 : M (h + 6) (a + 1 + (i : Int)) = S.1 (256 + a + 1 + i) := (hcel.2 hpos.2).2 i (by omega) (by omega)
      have hsum := sumN_le (f := fun f => if S.1 (256 + a + 1 + f) ≠ -1 then 1 else 0) (c := 1) i (fun j hj => by show 0 ≤ (if _ then (1 : Int) else 0) ∧ (if _ then (1 : Int) else 0) ≤ 1; split <;> omega)
      have hnx : sumN (i + 1) (fun f => if S.1 (256 + a + 1 + f) ≠ -1 then 1 else 0) = sumN i (fun f => if S.1 (256 + a + 1 + f) ≠ -1 then 1 else 0) + (if S.1 (256 + a + 1 + i) ≠ -1 then 1 else 0) := rfl
      have := ih (i + 1) (by omega)
      rw [hnx] at this
      refine aw_iload_n dX0_namedBy_4 rfl rfl ?_
      refine aw_aload_n dX0_namedBy_5 rfl rfl ⟨by decide, by decide⟩ ?_
      refine aw_gzF 1 dX0_namedBy_6 fl_RX0_18 (by assumption) rfl rfl (by assumption) ?_
      refine aw_iload_n dX0_namedBy_9 rfl rfl ?_
      refine aw_iv dX0_namedBy_10 (by assumption) (by omega) (by omega) rfl ?_
      refine aw_icmp_ge (tgt := 37) dX0_namedBy_11 rfl (fun h11 => ?_) (fun h11 => ?_)
      · omega
      · refine aw_aload_n dX0_namedBy_14 rfl rfl ⟨by decide, by decide⟩ ?_
        refine aw_gzF 1 dX0_namedBy_15 fl_RX0_18 (by assumption) rfl rfl (by assumption) ?_
        refine aw_iload_n dX0_namedBy_18 rfl rfl ?_
        refine aw_iconst dX0_namedBy_19 rfl ⟨by decide, by decide⟩ ?_
        refine aw_iadd dX0_namedBy_20 (az_wr_id (by omega) (by omega)) ?_
        refine aw_iload_n dX0_namedBy_21 rfl rfl ?_
        refine aw_iadd dX0_namedBy_22 (az_wr_id (by omega) (by omega)) ?_
        refine aw_iv dX0_namedBy_23 (by assumption) (by omega) (by omega) v23 ?_
        refine aw_iconst dX0_namedBy_24 rfl ⟨by decide, by decide⟩ ?_
        refine aw_icmp_eq (tgt := 31) dX0_namedBy_25 rfl (fun h25 => ?_) (fun h25 => ?_)
        · rw [if_neg (fun q => q h25), Int.add_zero] at this
          refine aw_iinc dX0_namedBy_31 rfl (az_wr_id (by omega) (by omega)) (by decide) ?_
          refine aw_goto (tgt := 4) dX0_namedBy_34 rfl ?_
          exact this
        · rw [if_pos h25] at this
          refine aw_iinc dX0_namedBy_28 rfl (az_wr_id (by omega) (by omega)) (by decide) ?_
          refine aw_iinc dX0_namedBy_31 rfl (az_wr_id (by omega) (by omega)) (by decide) ?_
          refine aw_goto (tgt := 4) dX0_namedBy_34 rfl ?_
          exact this
  exact loop n 0 (by omega)
def naN (c : Int → Int) (f : Int → Int) (col : Int) (n : Nat) : Int := sumN n (fun i => if cAt c (f i) = col then 1 else 0)
set_option maxRecDepth 20000 in
theorem sp_namesOf {K : az_K} {h : Int} (hK : HpK K h) (M : az_M) (hro : ∀ x, 0 ≤ x → x < 64 → 0 ≤ M (h + 4) x) (col nb fr to : Int) (nn n : Nat) (hnb : az_at K nb (100, nn)) (f0 : 0 ≤ fr) (hto : to = fr + n) (t1 : to ≤ nn) (hn1 : nn ≤ 1000) : AM yX0_namesOf cX0_namesOf 7 (some .int) 1 0 0 [(1, h), (0, col), (1, nb), (0, fr), (0, to)] K M (qp K M (naN (M (h + 4)) (fun i => M nb (fr + i)) col n)) := by
  have hK0 := hK
  obtain ⟨hRg, kh, k6, k7, k8, k9, k10, k11, k12, k13, k14, z0, z1, z2, z3, z4, z5, z6, z7, z8, z9⟩ := hK
  refine am_of (by decide) (Nat.le_of_ble_eq_true rfl) (L := [(1, h), (0, col), (1, nb), (0, fr), (0, to), (9, 0), (9, 0)]) rfl ?_
  refine aw_iconst dX0_namesOf_0 rfl ⟨by decide, by decide⟩ ?_
  refine aw_istore dX0_namesOf_1 (by decide) ?_
  refine aw_iload_n dX0_namesOf_3 rfl rfl ?_
  refine aw_istore dX0_namesOf_4 (by decide) ?_
  have loop : ∀ (k i : Nat) (x : Int), x = fr + i → i + k = n → AW az_P0 (az_Z (qp K M (naN (M (h + 4)) (fun i => M nb (fr + i)) col n)) 0 0) (az_rm 1 0 0) yX0_namesOf cX0_namesOf 7 (some .int) 0 0 6 [(1, h), (0, col), (1, nb), (0, fr), (0, to), (0, naN (M (h + 4)) (fun i => M nb (fr + i)) col i), (0, x)] [] K M := by
    intro k
    induction k with
    | zero =>
      intro i x hx hi
      refine aw_iload dX0_namesOf_6 rfl ?_
      refine aw_iload dX0_namesOf_8 rfl ?_
      refine aw_icmp_ge (tgt := 37) dX0_namesOf_10 rfl (fun h10 => ?_) (fun h10 => ?_)
      · refine aw_iload dX0_namesOf_37 rfl ?_
        exact aw_iret dX0_namesOf_39 (by decide) (by decide) (qp_i (by rw [show i = n by omega]))
      · omega
    | succ k ih =>
      intro i x hx hi
      have hsum := sumN_le (f := fun i => if cAt (M (h + 4)) (M nb (fr + i)) = col then 1 else 0) (c := 1) i (fun j hj => by show 0 ≤ (if _ then (1 : Int) else 0) ∧ (if _ then (1 : Int) else 0) ≤ 1; split <;> omega)
      replace hsum : 0 ≤ naN (M (h + 4)) (fun i => M nb (fr + i)) col i ∧ naN (M (h + 4)) (fun i => M nb (fr + i)) col i ≤ 1 * i := hsum
      have hnx : naN (M (h + 4)) (fun i => M nb (fr + i)) col (i + 1) = naN (M (h + 4)) (fun i => M nb (fr + i)) col i + (if cAt (M (h + 4)) (M nb x) = col then 1 else 0) := by rw [hx]; rfl
      have := ih (i + 1) (x + 1) (by omega) (by omega)
      rw [hnx] at this
      refine aw_iload dX0_namesOf_6 rfl ?_
      refine aw_iload dX0_namesOf_8 rfl ?_
      refine aw_icmp_ge (tgt := 37) dX0_namesOf_10 rfl (fun h10 => ?_) (fun h10 => ?_)
      · omega
      · refine aw_aload_n dX0_namesOf_13 rfl rfl ⟨by decide, by decide⟩ ?_
        refine aw_gzF 0 dX0_namesOf_14 fl_RX0_12 (by assumption) rfl rfl (by assumption) ?_
        refine aw_aload_n dX0_namesOf_17 rfl rfl ⟨by decide, by decide⟩ ?_
        refine aw_iload dX0_namesOf_18 rfl ?_
        refine aw_iv dX0_namesOf_20 (by assumption) (by omega) (by omega) rfl ?_
        refine aw_cV1p dX0_namesOf_21 ml_RX0_88 hRg.1 (by decide) rfl rfl ⟨by decide, by decide, by decide, by decide⟩ (Nat.le_of_ble_eq_true rfl) (sp_colourAt hRg M (M nb x) hro) ?_
        refine aw_iload_n dX0_namesOf_24 rfl rfl ?_
        refine aw_icmp_ne (tgt := 31) dX0_namesOf_25 rfl (fun h25 => ?_) (fun h25 => ?_)
        · rw [if_neg h25, Int.add_zero] at this
          refine aw_iinc dX0_namesOf_31 rfl (az_wr_id (by omega) (by omega)) (by decide) ?_
          refine aw_goto (tgt := 6) dX0_namesOf_34 rfl ?_
          exact this
        · rw [if_pos h25] at this
          refine aw_iinc dX0_namesOf_28 rfl (az_wr_id (by omega) (by omega)) (by decide) ?_
          refine aw_iinc dX0_namesOf_31 rfl (az_wr_id (by omega) (by omega)) (by decide) ?_
          refine aw_goto (tgt := 6) dX0_namesOf_34 rfl ?_
          exact this
  exact loop n 0 fr (by omega) (by omega)
theorem naN_ecru {M : az_M} {h : Int} {g : Int → Int} (hp : w_pg g) (hcl : w_col g) (hr : c_row M h g) {f f' : Int → Int} (n : Nat) (hf : ∀ i : Nat, i < n → nok g (f i) ∧ f i = f' i) : naN (M (h + 4)) f 1 n = sumN n (fun i => eI g (f' i)) := by
  unfold naN
  refine sumN_congr n (fun i hi => ?_)
  obtain ⟨q1, q2⟩ := hf i hi
  show (if cAt (M (h + 4)) (f i) = 1 then (1 : Int) else 0) = eI g (f' i)
  rw [← q2, cAt_nok hp hcl hr q1]
  unfold eI
  by_cases e : 0 ≤ f i
  · rw [if_pos e]
    by_cases e2 : g (f i) = 1
    · rw [if_pos e2, if_pos ⟨e, e2⟩]
    · rw [if_neg e2, if_neg (fun q => e2 q.2)]
  · rw [if_neg e, if_neg (by omega), if_neg (fun q => e q.1)]
theorem naN_free {M : az_M} {h : Int} {g : Int → Int} (hp : w_pg g) (hcl : w_col g) (hr : c_row M h g) {f : Int → Int} (n : Nat) (hf : ∀ i : Nat, i < n → nok g (f i)) : naN (M (h + 4)) f 0 n = 0 := by
  have : naN (M (h + 4)) f 0 n = sumN n (fun _ => 0) := by
    unfold naN
    refine sumN_congr n (fun i hi => ?_)
    have q1 := hf i hi
    show (if cAt (M (h + 4)) (f i) = 0 then (1 : Int) else 0) = 0
    rw [cAt_nok hp hcl hr q1, if_neg]
    rcases q1 with e | e
    · rw [if_neg (by omega)]; omega
    · rw [if_pos e.1.1]; exact e.2
  rw [this, sumN_zero]
/-- black ones that name one that may be garbage -/
def boI (g : Int → Int) (a : Int) : Int := if g a = 3 ∧ 0 < sumN (g (128 + a)).toNat (fun f => eI g (g (256 + a + 1 + f))) then 1 else 0
def boN (g : Int → Int) : Int := sumN 64 (fun n => boI g (2 * n))
theorem cAt_even {M : az_M} {h : Int} {g : Int → Int} (hp : w_pg g) (hcl : w_col g) (hr : c_row M h g) {a : Int} (a0 : 0 ≤ a) (a1 : a < 128) : (cAt (M (h + 4)) a = g a ∧ sl g a) ∨ (cAt (M (h + 4)) a = -1 ∧ g a = 0 ∧ ¬ sl g a) := by
  rcases sl_dec g a with s | s
  · exact Or.inl ⟨cAt_sl hp hcl hr s, s⟩
  · exact Or.inr ⟨cAt_no hr s, (hcl a a0 a1).2.2 s, s⟩
theorem boI_01 (g : Int → Int) (a : Int) : 0 ≤ boI g a ∧ boI g a ≤ 1 := by unfold boI; split <;> omega
set_option maxRecDepth 20000 in
theorem sp_blackOverEcru {K : az_K} {h : Int} (hK : HpK K h) (M : az_M) {S : hSt} (hc : HS M h S) (hw : WL S) : AM yX0_blackOverEcru cX0_blackOverEcru 3 (some .int) 2 0 0 [(1, h)] K M (qp K M (boN S.1)) := by
  have hK0 := hK
  obtain ⟨hRg, kh, k6, k7, k8, k9, k10, k11, k12, k13, k14, z0, z1, z2, z3, z4, z5, z6, z7, z8, z9⟩ := hK
  refine am_of (by decide) (Nat.le_of_ble_eq_true rfl) (L := [(1, h), (9, 0), (9, 0)]) rfl ?_
  refine aw_iconst dX0_blackOverEcru_0 rfl ⟨by decide, by decide⟩ ?_
  refine aw_istore_n dX0_blackOverEcru_1 rfl (by decide) ?_
  refine aw_iconst dX0_blackOverEcru_2 rfl ⟨by decide, by decide⟩ ?_
  refine aw_istore_n dX0_blackOverEcru_3 rfl (by decide) ?_
  have loop : ∀ (k i : Nat) (x : Int), x = 2 * i → i + k = 64 → AW az_P0 (az_Z (qp K M (boN S.1)) 0 0) (az_rm 2 0 0) yX0_blackOverEcru cX0_blackOverEcru 3 (some .int) 0 0 4 [(1, h), (0, sumN i (fun n => boI S.1 (2 * n))), (0, x)] [] K M := by
    intro k
    induction k with
    | zero =>
      intro i x hx hi
      refine aw_iload_n dX0_blackOverEcru_4 rfl rfl ?_
      refine aw_sipush dX0_blackOverEcru_5 (by decide) ⟨by decide, by decide⟩ ?_
      refine aw_icmp_ge (tgt := 57) dX0_blackOverEcru_8 rfl (fun h8 => ?_) (fun h8 => ?_)
      · refine aw_iload_n dX0_blackOverEcru_57 rfl rfl ?_
        refine aw_iret dX0_blackOverEcru_58 (by decide) (by decide) (qp_i ?_)
        unfold boN
        rw [show i = 64 by omega]
      · omega
    | succ k ih =>
      intro i x hx hi
      have hsum := sumN_le (f := fun n => boI S.1 (2 * n)) (c := 1) i (fun j _ => boI_01 S.1 (2 * j))
      have hnx : sumN (i + 1) (fun n => boI S.1 (2 * n)) = sumN i (fun n => boI S.1 (2 * n)) + boI S.1 x := by rw [hx]; rfl
      have nx := ih (i + 1) (x + 2) (by omega) (by omega)
      rw [hnx] at nx
      have hcat := cAt_even hw.1.1 hw.1.2.1 hc.2.1 (show 0 ≤ x by omega) (by omega)
      refine aw_iload_n dX0_blackOverEcru_4 rfl rfl ?_
      refine aw_sipush dX0_blackOverEcru_5 (by decide) ⟨by decide, by decide⟩ ?_
      refine aw_icmp_ge (tgt := 57) dX0_blackOverEcru_8 rfl (fun h8 => ?_) (fun h8 => ?_)
      · omega
      · refine aw_aload_n dX0_blackOverEcru_11 rfl rfl ⟨by decide, by decide⟩ ?_
        refine aw_gzF 0 dX0_blackOverEcru_12 fl_RX0_12 (by assumption) rfl rfl (by assumption) ?_
        refine aw_iload_n dX0_blackOverEcru_15 rfl rfl ?_
        refine aw_cV1p dX0_blackOverEcru_16 ml_RX0_88 hRg.1 (by decide) rfl rfl ⟨by decide, by decide, by decide, by decide⟩ (Nat.le_of_ble_eq_true rfl) (sp_colourAt hRg M x (HS_ro hc)) ?_
        refine aw_iconst dX0_blackOverEcru_19 rfl ⟨by decide, by decide⟩ ?_
        refine aw_icmp_ne (tgt := 51) dX0_blackOverEcru_20 rfl (fun h20 => ?_) (fun h20 => ?_)
        · have h0 : boI S.1 x = 0 := by
            unfold boI
            rw [if_neg]
            rintro ⟨q, -⟩
            rcases hcat with w | w <;> omega
          rw [h0, Int.add_zero] at nx
          refine aw_iinc dX0_blackOverEcru_51 rfl (az_wr_id (by omega) (by omega)) (by decide) ?_
          refine aw_goto (tgt := 4) dX0_blackOverEcru_54 rfl ?_
          exact nx
        · have hs : sl S.1 x ∧ S.1 x = 3 := by
            rcases hcat with w | w
            · exact ⟨w.2, by omega⟩
            · omega
          have hob : ob S.1 x := ⟨hs.1, by omega⟩
          have hfl := (hw.1.2.2.2.1 x hs.1).2 hob.2
          have hcel := (hc.2.2.1 x hs.1).2 hob.2
          have hb := base_of hw.1.1 (f := S.1 (128 + x)) hs.1 hfl.1 hfl.2
          have hnn : ((S.1 (128 + x)).toNat : Int) = S.1 (128 + x) := Int.toNat_of_nonneg hfl.1
          have hna := sp_namesOf hK0 M (HS_ro hc) 1 (h + 6) (x + 1) (x + 1 + S.1 (128 + x)) 128 (S.1 (128 + x)).toNat k6 (by omega) (by omega) (by omega) (by omega)
          have hev := naN_ecru (M := M) (h := h) hw.1.1 hw.1.2.1 hc.2.1 (f := fun i => M (h + 6) (x + 1 + i)) (f' := fun f => S.1 (256 + x + 1 + f)) (S.1 (128 + x)).toNat (fun j hj => by
            have e := hcel.2 j (by omega) (by omega)
            refine ⟨?_, e⟩
            show nok S.1 (M (h + 6) (x + 1 + j))
            rw [e]
            exact hw.1.2.2.2.2.1.2 x j hob (by omega) (by omega))
          rw [hev] at hna
          have hbo : boI S.1 x = if S.1 x = 3 ∧ 0 < sumN (S.1 (128 + x)).toNat (fun f => eI S.1 (S.1 (256 + x + 1 + f))) then 1 else 0 := rfl
          refine aw_aload_n dX0_blackOverEcru_23 rfl rfl ⟨by decide, by decide⟩ ?_
          refine aw_iconst dX0_blackOverEcru_24 rfl ⟨by decide, by decide⟩ ?_
          refine aw_aload_n dX0_blackOverEcru_25 rfl rfl ⟨by decide, by decide⟩ ?_
          refine aw_gzF 1 dX0_blackOverEcru_26 fl_RX0_18 (by assumption) rfl rfl (by assumption) ?_
          refine aw_iload_n dX0_blackOverEcru_29 rfl rfl ?_
          refine aw_iconst dX0_blackOverEcru_30 rfl ⟨by decide, by decide⟩ ?_
          refine aw_iadd dX0_blackOverEcru_31 (az_wr_id (by omega) (by omega)) ?_
          refine aw_iload_n dX0_blackOverEcru_32 rfl rfl ?_
          refine aw_iconst dX0_blackOverEcru_33 rfl ⟨by decide, by decide⟩ ?_
          refine aw_iadd dX0_blackOverEcru_34 (az_wr_id (by omega) (by omega)) ?_
          refine aw_aload_n dX0_blackOverEcru_35 rfl rfl ⟨by decide, by decide⟩ ?_
          refine aw_gzF 1 dX0_blackOverEcru_36 fl_RX0_18 (by assumption) rfl rfl (by assumption) ?_
          refine aw_iload_n dX0_blackOverEcru_39 rfl rfl ?_
          refine aw_iv dX0_blackOverEcru_40 (by assumption) (by omega) (by omega) hcel.1 ?_
          refine aw_iadd dX0_blackOverEcru_41 (az_wr_id (by omega) (by omega)) ?_
          refine aw_cV4p dX0_blackOverEcru_42 ml_RX0_165 (by assumption) (by decide) rfl rfl ⟨by decide, by decide, by decide, by decide⟩ (Nat.le_of_ble_eq_true rfl) (hna) ?_
          refine aw_if_le (tgt := 51) dX0_blackOverEcru_45 rfl (fun h45 => ?_) (fun h45 => ?_)
          · rw [hbo, if_neg (by omega), Int.add_zero] at nx
            refine aw_iinc dX0_blackOverEcru_51 rfl (az_wr_id (by omega) (by omega)) (by decide) ?_
            refine aw_goto (tgt := 4) dX0_blackOverEcru_54 rfl ?_
            exact nx
          · rw [hbo, if_pos ⟨hs.2, by omega⟩] at nx
            refine aw_iinc dX0_blackOverEcru_48 rfl (az_wr_id (by omega) (by omega)) (by decide) ?_
            refine aw_iinc dX0_blackOverEcru_51 rfl (az_wr_id (by omega) (by omega)) (by decide) ?_
            refine aw_goto (tgt := 4) dX0_blackOverEcru_54 rfl ?_
            exact nx
  exact loop 64 0 0 (by omega) (by omega)
set_option maxRecDepth 20000 in
theorem sp_namesOfFree {K : az_K} {h : Int} (hK : HpK K h) (M : az_M) {S : hSt} (hc : HS M h S) (hw : WL S) : AM yX0_namesOfFree cX0_namesOfFree 3 (some .int) 2 0 0 [(1, h)] K M (qp K M 0) := by
  have hK0 := hK
  obtain ⟨hRg, kh, k6, k7, k8, k9, k10, k11, k12, k13, k14, z0, z1, z2, z3, z4, z5, z6, z7, z8, z9⟩ := hK
  refine am_of (by decide) (Nat.le_of_ble_eq_true rfl) (L := [(1, h), (9, 0), (9, 0)]) rfl ?_
  have h0 := sp_namesOf hK0 M (HS_ro hc) 0 (h + 9) 0 6 6 6 k9 (by omega) (by omega) (by omega) (by omega)
  rw [naN_free hw.1.1 hw.1.2.1 hc.2.1 6 (fun i hi => by
    show nok S.1 (M (h + 9) (0 + i))
    rw [Int.zero_add, hc.2.2.2.2.2.1.1 i (by omega) (by omega)]
    exact nam_nok hw (by omega) (by omega))] at h0
  refine aw_aload_n dX0_namesOfFree_0 rfl rfl ⟨by decide, by decide⟩ ?_
  refine aw_iconst dX0_namesOfFree_1 rfl ⟨by decide, by decide⟩ ?_
  refine aw_aload_n dX0_namesOfFree_2 rfl rfl ⟨by decide, by decide⟩ ?_
  refine aw_gzF 4 dX0_namesOfFree_3 fl_RX0_28 (by assumption) rfl rfl (by assumption) ?_
  refine aw_iconst dX0_namesOfFree_6 rfl ⟨by decide, by decide⟩ ?_
  refine aw_bipush dX0_namesOfFree_7 (by decide) ⟨by decide, by decide⟩ ?_
  refine aw_cV4p dX0_namesOfFree_9 ml_RX0_165 (by assumption) (by decide) rfl rfl ⟨by decide, by decide, by decide, by decide⟩ (Nat.le_of_ble_eq_true rfl) (h0) ?_
  refine aw_istore_n dX0_namesOfFree_12 rfl (by decide) ?_
  refine aw_iconst dX0_namesOfFree_13 rfl ⟨by decide, by decide⟩ ?_
  refine aw_istore_n dX0_namesOfFree_14 rfl (by decide) ?_
  have loop : ∀ (k i : Nat) (x : Int), x = 2 * i → i + k = 64 → AW az_P0 (az_Z (qp K M 0) 0 0) (az_rm 2 0 0) yX0_namesOfFree cX0_namesOfFree 3 (some .int) 0 0 15 [(1, h), (0, 0), (0, x)] [] K M := by
    intro k
    induction k with
    | zero =>
      intro i x hx hi
      refine aw_iload_n dX0_namesOfFree_15 rfl rfl ?_
      refine aw_sipush dX0_namesOfFree_16 (by decide) ⟨by decide, by decide⟩ ?_
      refine aw_icmp_ge (tgt := 61) dX0_namesOfFree_19 rfl (fun h19 => ?_) (fun h19 => ?_)
      · refine aw_iload_n dX0_namesOfFree_61 rfl rfl ?_
        exact aw_iret dX0_namesOfFree_62 (by decide) (by decide) (qp_i rfl)
      · omega
    | succ k ih =>
      intro i x hx hi
      have nx := ih (i + 1) (x + 2) (by omega) (by omega)
      have hcat := cAt_even hw.1.1 hw.1.2.1 hc.2.1 (show 0 ≤ x by omega) (by omega)
      refine aw_iload_n dX0_namesOfFree_15 rfl rfl ?_
      refine aw_sipush dX0_namesOfFree_16 (by decide) ⟨by decide, by decide⟩ ?_
      refine aw_icmp_ge (tgt := 61) dX0_namesOfFree_19 rfl (fun h19 => ?_) (fun h19 => ?_)
      · omega
      · refine aw_aload_n dX0_namesOfFree_22 rfl rfl ⟨by decide, by decide⟩ ?_
        refine aw_iload_n dX0_namesOfFree_23 rfl rfl ?_
        refine aw_cV1p dX0_namesOfFree_24 ml_RX0_169 (by assumption) (by decide) rfl rfl ⟨by decide, by decide, by decide, by decide⟩ (Nat.le_of_ble_eq_true rfl) (sp_isObjectC hK0 M x (HS_ro hc)) ?_
        refine aw_if_eq (tgt := 55) dX0_namesOfFree_27 rfl (fun h27 => ?_) (fun h27 => ?_)
        · refine aw_iinc dX0_namesOfFree_55 rfl (az_wr_id (by omega) (by omega)) (by decide) ?_
          refine aw_goto (tgt := 15) dX0_namesOfFree_58 rfl ?_
          exact nx
        · have hp : 0 < cAt (M (h + 4)) x := by
            apply Classical.byContradiction
            intro q
            rw [if_neg q] at h27
            exact h27 rfl
          have hob : ob S.1 x := by
            rcases hcat with w | w
            · exact ⟨w.2, by omega⟩
            · omega
          have hfl := (hw.1.2.2.2.1 x hob.1).2 hob.2
          have hcel := (hc.2.2.1 x hob.1).2 hob.2
          have hb := base_of hw.1.1 (f := S.1 (128 + x)) hob.1 hfl.1 hfl.2
          have hnn : ((S.1 (128 + x)).toNat : Int) = S.1 (128 + x) := Int.toNat_of_nonneg hfl.1
          have hna := sp_namesOf hK0 M (HS_ro hc) 0 (h + 6) (x + 1) (x + 1 + S.1 (128 + x)) 128 (S.1 (128 + x)).toNat k6 (by omega) (by omega) (by omega) (by omega)
          rw [naN_free hw.1.1 hw.1.2.1 hc.2.1 (S.1 (128 + x)).toNat (fun j hj => by
            show nok S.1 (M (h + 6) (x + 1 + j))
            rw [hcel.2 j (by omega) (by omega)]
            exact hw.1.2.2.2.2.1.2 x j hob (by omega) (by omega))] at hna
          refine aw_iload_n dX0_namesOfFree_30 rfl rfl ?_
          refine aw_aload_n dX0_namesOfFree_31 rfl rfl ⟨by decide, by decide⟩ ?_
          refine aw_iconst dX0_namesOfFree_32 rfl ⟨by decide, by decide⟩ ?_
          refine aw_aload_n dX0_namesOfFree_33 rfl rfl ⟨by decide, by decide⟩ ?_
          refine aw_gzF 1 dX0_namesOfFree_34 fl_RX0_18 (by assumption) rfl rfl (by assumption) ?_
          refine aw_iload_n dX0_namesOfFree_37 rfl rfl ?_
          refine aw_iconst dX0_namesOfFree_38 rfl ⟨by decide, by decide⟩ ?_
          refine aw_iadd dX0_namesOfFree_39 (az_wr_id (by omega) (by omega)) ?_
          refine aw_iload_n dX0_namesOfFree_40 rfl rfl ?_
          refine aw_iconst dX0_namesOfFree_41 rfl ⟨by decide, by decide⟩ ?_
          refine aw_iadd dX0_namesOfFree_42 (az_wr_id (by omega) (by omega)) ?_
          refine aw_aload_n dX0_namesOfFree_43 rfl rfl ⟨by decide, by decide⟩ ?_
          refine aw_gzF 1 dX0_namesOfFree_44 fl_RX0_18 (by assumption) rfl rfl (by assumption) ?_
          refine aw_iload_n dX0_namesOfFree_47 rfl rfl ?_
          refine aw_iv dX0_namesOfFree_48 (by assumption) (by omega) (by omega) hcel.1 ?_
          refine aw_iadd dX0_namesOfFree_49 (az_wr_id (by omega) (by omega)) ?_
          refine aw_cV4p dX0_namesOfFree_50 ml_RX0_165 (by assumption) (by decide) rfl rfl ⟨by decide, by decide, by decide, by decide⟩ (Nat.le_of_ble_eq_true rfl) (hna) ?_
          refine aw_iadd dX0_namesOfFree_53 (az_wr_id (by omega) (by omega)) ?_
          refine aw_istore_n dX0_namesOfFree_54 rfl (by decide) ?_
          refine aw_iinc dX0_namesOfFree_55 rfl (az_wr_id (by omega) (by omega)) (by decide) ?_
          refine aw_goto (tgt := 15) dX0_namesOfFree_58 rfl ?_
          exact nx
  exact loop 64 0 0 (by omega) (by omega)
