/-! Heap.finish: the names, the telling -/
set_option maxRecDepth 20000 in
set_option maxHeartbeats 1000000 in
/-- from the loop over the objects on -/
theorem fin_names {K : az_K} {h : Int} (hK : HpK K h) {gA : Int → Int} {rgA : Int → List Int} {gl : List Int} {Z : List Frame → Array Value → State → az_E → State → Prop} {M1 : az_M} (hc : HC M1 h gA rgA gl) (hw : WR gA rgA) (hf : w_fld gA)
    (hnm : ∀ a f, ob gA a → 0 ≤ f → f < gA (128 + a) → M1 (h + 6) (a + 1 + f) = -1 ∨ sl gA (M1 (h + 6) (a + 1 + f))) (fd x3 x4 : Int) (x5 : az_V)
    (kk : ∀ M2 : az_M, M2 (h + 6) = cr gA (M1 (h + 6)) 64 → (M2 (h + 13) = fun j => if j = 3 then az_wr (M1 (h + 13) 3 + sumN 64 (fun n => if gA (2 * n) ≠ 0 then sumN (gA (128 + 2 * n)).toNat (fun f => dd (M1 (h + 6)) (M1 (h + 6) (2 * n + 1 + f))) else 0)) else M1 (h + 13) j) → (∀ b, b ≠ h + 6 → b ≠ h + 13 → M2 b = M1 b) →
      AW az_P0 Z (az_rm 1 0 0) yX0_finish cX0_finish 6 none 0 0 155 [(1, h), (0, fd), (0, 128), (0, x3), (0, x4), x5] [] K M2) :
    AW az_P0 Z (az_rm 1 0 0) yX0_finish cX0_finish 6 none 0 0 101 [(1, h), (0, fd), (0, 0), (0, x3), (0, x4), x5] [] K M1 := by
  have hK0 := hK
  obtain ⟨hRg, kh, k6, k7, k8, k9, k10, k11, k12, k13, k14, z0, z1, z2, z3, z4, z5, z6, z7, z8, z9⟩ := hK
  have hp := hw.1
  refine aw_rM (fun hM => ?_)
  have loop : ∀ (k m : Nat) (M2 : az_M) (x2 : Int), x2 = 2 * m → m ≤ 64 → 64 - m < k → M2 (h + 6) = cr gA (M1 (h + 6)) m → (M2 (h + 13) = fun j => if j = 3 then az_wr (M1 (h + 13) 3 + sumN m (fun n => if gA (2 * n) ≠ 0 then sumN (gA (128 + 2 * n)).toNat (fun f => dd (M1 (h + 6)) (M1 (h + 6) (2 * n + 1 + f))) else 0)) else M1 (h + 13) j) → (∀ b, b ≠ h + 6 → b ≠ h + 13 → M2 b = M1 b) →
      AW az_P0 Z (az_rm 1 0 0) yX0_finish cX0_finish 6 none 0 0 101 [(1, h), (0, fd), (0, x2), (0, x3), (0, x4), x5] [] K M2 := by
    intro k
    induction k with
    | zero => intro m M2 x2 _ _ hk; omega
    | succ k ih =>
      intro m M2 x2 hx hm hk e6 e13 eo
      refine aw_iload_n dX0_finish_101 rfl rfl ?_
      refine aw_sipush dX0_finish_102 (by decide) ⟨by decide, by decide⟩ ?_
      refine aw_icmp_ge (tgt := 155) dX0_finish_105 rfl (fun h105 => ?_) (fun h105 => ?_)
      · have h64 : m = 64 := by omega
        subst h64
        have hx2 : x2 = 128 := by omega
        subst hx2
        exact kk M2 e6 e13 eo
      · have hm64 : m < 64 := by omega
        have hro : ∀ x, 0 ≤ x → x < 64 → 0 ≤ M2 (h + 4) x := fun x a b => by rw [eo _ (by omega) (by omega)]; exact (hc.1.2.2 x a b).1
        have hcs : sl gA x2 → cAt (M2 (h + 4)) x2 = gA x2 := fun q => by rw [eo _ (by omega) (by omega)]; exact cAt_sl hp hw.2.1 hc.2.1 q
        have hcn : ¬ sl gA x2 → cAt (M2 (h + 4)) x2 = -1 := fun q => by rw [eo _ (by omega) (by omega)]; exact cAt_no hc.2.1 q
        have hcol := hw.2.1 x2 (by omega) (by omega)
        have hcrS : ∀ j, ¬ (0 ≤ j ∧ j < 128 ∧ lc gA j ∧ (j - j % pz gA j) / 2 = m) → cr gA (M1 (h + 6)) (m + 1 : Nat) j = cr gA (M1 (h + 6)) m j := by
          intro j hj
          unfold cr
          by_cases q : 0 ≤ j ∧ j < 128 ∧ lc gA j ∧ (j - j % pz gA j) / 2 < (m : Int) ∧ dd (M1 (h + 6)) (M1 (h + 6) j) = 1
          · rw [if_pos q, if_pos ⟨q.1, q.2.1, q.2.2.1, by omega, q.2.2.2.2⟩]
          · rw [if_neg q, if_neg]
            rintro ⟨r1, r2, r3, r4, r5⟩
            by_cases e : (j - j % pz gA j) / 2 = m
            · exact hj ⟨r1, r2, r3, e⟩
            · exact q ⟨r1, r2, r3, by omega, r5⟩
        have hbase : ∀ j, 0 ≤ j → j < 128 → lc gA j → (j - j % pz gA j) / 2 = m → j - j % pz gA j = x2 := by
          intro j j0 j1 hj e
          have := base_even hp j0 j1 hj.1
          omega
        refine aw_aload_n dX0_finish_108 rfl rfl ⟨by decide, by decide⟩ ?_
        refine aw_gzF 0 dX0_finish_109 fl_RX0_12 (by assumption) rfl rfl (by assumption) ?_
        refine aw_iload_n dX0_finish_112 rfl rfl ?_
        refine aw_cV1p dX0_finish_113 ml_RX0_88 hRg.1 (by decide) rfl rfl ⟨by decide, by decide, by decide, by decide⟩ (Nat.le_of_ble_eq_true rfl) (sp_colourAt hRg M2 x2 hro) ?_
        refine aw_if_le (tgt := 149) dX0_finish_116 rfl (fun h116 => ?_) (fun h116 => ?_)
        · have hg0 : gA x2 = 0 := by
            rcases sl_dec gA x2 with q | q
            · rw [hcs q] at h116; omega
            · exact hcol.2.2 q
          refine aw_iinc dX0_finish_149 rfl (az_wr_id (by omega) (by omega)) (by decide) ?_
          refine aw_goto (tgt := 101) dX0_finish_152 rfl ?_
          refine ih (m + 1) M2 _ (by omega) (by omega) (by omega) ?_ ?_ eo
          · rw [e6]
            funext j
            refine (hcrS j ?_).symm
            rintro ⟨j0, j1, j2, j3⟩
            have := hbase j j0 j1 j2 j3
            have j22 := j2.2.1
            rw [this, hg0] at j22
            exact j22 rfl
          · rw [e13]
            funext j
            by_cases e : j = 3
            · rw [if_pos e, if_pos e]
              show _ = az_wr (_ + (sumN m _ + (if gA (2 * (m : Int)) ≠ 0 then _ else 0)))
              rw [← hx, if_neg (by omega), Int.add_zero]
            · rw [if_neg e, if_neg e]
        · have hs : sl gA x2 := by
            rcases sl_dec gA x2 with q | q
            · exact q
            · rw [hcn q] at h116; omega
          have hob : ob gA x2 := ⟨hs, by rw [hcs hs] at h116; omega⟩
          have hfl := (hf x2 hs).2 hob.2
          have hcel := (hc.2.2.1 x2 hs).2 hob.2
          obtain ⟨e1, e2, e3, e4, e5⟩ := sl_even hp hs
          have hlast := base_of hp (f := gA (128 + x2)) hs (by omega) (by omega)
          have hva : M2 (h + 6) x2 = gA (128 + x2) := by rw [e6, cr_head hs]; exact hcel.1
          have hv3 : M2 (h + 13) 3 = az_wr (M1 (h + 13) 3 + sumN m (fun n => if gA (2 * n) ≠ 0 then sumN (gA (128 + 2 * n)).toNat (fun f => dd (M1 (h + 6)) (M1 (h + 6) (2 * n + 1 + f))) else 0)) := by rw [e13]; exact if_pos rfl
          -- the fields of this object as they stand
          have hfj : ∀ f, 0 ≤ f → f < gA (128 + x2) → lc gA (x2 + 1 + f) ∧ (x2 + 1 + f) - (x2 + 1 + f) % pz gA (x2 + 1 + f) = x2 ∧ x2 + 1 + f < 128 := by
            intro f f0 f1
            obtain ⟨q1, q2, q3⟩ := lc_obj hp (f := 1 + f) hs (by omega) (by omega)
            have q4 := base_of hp (f := 1 + f) hs (by omega) (by omega)
            rw [show x2 + 1 + f = x2 + (1 + f) by omega]
            refine ⟨?_, q2, by omega⟩
            unfold lc
            rw [q1] at q2 q3 ⊢
            rw [q2, q3]
            exact ⟨by omega, hob.2, by omega, by omega⟩
          have hcj : ∀ f, 0 ≤ f → f < gA (128 + x2) → M2 (h + 6) (x2 + 1 + f) = M1 (h + 6) (x2 + 1 + f) := by
            intro f f0 f1
            obtain ⟨q1, q2, q3⟩ := hfj f f0 f1
            rw [e6]
            unfold cr
            rw [if_neg]
            rintro ⟨-, -, -, r, -⟩
            omega
          have hsum : sumN (gA (128 + x2)).toNat (fun i => dd (M2 (h + 6)) (M2 (h + 6) (x2 + 1 + i))) = sumN (gA (128 + x2)).toNat (fun f => dd (M1 (h + 6)) (M1 (h + 6) (x2 + 1 + f))) := by
            refine sumN_congr _ (fun i hi => ?_)
            rw [hcj i (by omega) (by omega), e6, dd_cr (hnm x2 i hob (by omega) (by omega))]
          have hspf := sp_forget hK0 M2 (h + 6) (x2 + 1) (x2 + 1 + gA (128 + x2)) 128 (gA (128 + x2)).toNat k6 (by omega) (by omega) (by omega) (by omega) (fun j j0 j1 => by
            have q := hcj (j - (x2 + 1)) (by omega) (by omega)
            have q2 := hnm x2 (j - (x2 + 1)) hob (by omega) (by omega)
            rw [show x2 + 1 + (j - (x2 + 1)) = j by omega] at q q2
            rw [q]
            rcases q2 with q2 | q2
            · exact Or.inl q2
            · refine Or.inr ⟨q2.1, q2.2.1, fun _ => ?_⟩
              by_cases e : M1 (h + 6) j ≤ x2
              · exact Or.inl (by omega)
              · have := slot_apart hp q2 hs (by omega)
                exact Or.inr (by omega))
          refine aw_aload_n dX0_finish_119 rfl rfl ⟨by decide, by decide⟩ ?_
          refine aw_gzF 8 dX0_finish_120 fl_RX0_40 (by assumption) rfl rfl (by assumption) ?_
          refine aw_iconst dX0_finish_123 rfl ⟨by decide, by decide⟩ ?_
          refine aw_dup2 dX0_finish_124 ?_
          refine aw_iv dX0_finish_125 (by assumption) (by omega) (by omega) hv3 ?_
          refine aw_aload_n dX0_finish_126 rfl rfl ⟨by decide, by decide⟩ ?_
          refine aw_aload_n dX0_finish_127 rfl rfl ⟨by decide, by decide⟩ ?_
          refine aw_gzF 1 dX0_finish_128 fl_RX0_18 (by assumption) rfl rfl (by assumption) ?_
          refine aw_iload_n dX0_finish_131 rfl rfl ?_
          refine aw_iconst dX0_finish_132 rfl ⟨by decide, by decide⟩ ?_
          refine aw_iadd dX0_finish_133 (az_wr_id (by omega) (by omega)) ?_
          refine aw_iload_n dX0_finish_134 rfl rfl ?_
          refine aw_iconst dX0_finish_135 rfl ⟨by decide, by decide⟩ ?_
          refine aw_iadd dX0_finish_136 (az_wr_id (by omega) (by omega)) ?_
          refine aw_aload_n dX0_finish_137 rfl rfl ⟨by decide, by decide⟩ ?_
          refine aw_gzF 1 dX0_finish_138 fl_RX0_18 (by assumption) rfl rfl (by assumption) ?_
          refine aw_iload_n dX0_finish_141 rfl rfl ?_
          refine aw_iv dX0_finish_142 (by assumption) (by omega) (by omega) hva ?_
          refine aw_iadd dX0_finish_143 (az_wr_id (by omega) (by omega)) ?_
          refine aw_cV3i dX0_finish_144 ml_RX0_126 (by assumption) (by decide) rfl rfl ⟨by decide, by decide, by decide, by decide⟩ (Nat.le_of_ble_eq_true rfl) (hspf) (fun z M3 hz => ?_)
          refine aw_iadd dX0_finish_147 rfl ?_
          refine aw_iast dX0_finish_148 (by assumption) (by omega) (by omega) ?_
          obtain ⟨hz1, hz2⟩ := hz
          rw [hsum] at hz1
          refine aw_iinc dX0_finish_149 rfl (az_wr_id (by omega) (by omega)) (by decide) ?_
          refine aw_goto (tgt := 101) dX0_finish_152 rfl ?_
          refine ih (m + 1) _ _ (by omega) (by omega) (by omega) ?_ ?_ ?_
          · rw [up_oth _ _ _ (by omega), hz2]
            unfold fgt
            rw [if_pos rfl, e6]
            funext j
            by_cases e : x2 + 1 ≤ j ∧ j < x2 + 1 + gA (128 + x2)
            · have q := hfj (j - (x2 + 1)) (by omega) (by omega)
              have q2 := hnm x2 (j - (x2 + 1)) hob (by omega) (by omega)
              have q3 := hcj (j - (x2 + 1)) (by omega) (by omega)
              rw [show x2 + 1 + (j - (x2 + 1)) = j by omega] at q q2 q3
              rw [e6] at q3
              rw [q3, dd_cr q2]
              show _ = cr gA (M1 (h + 6)) (m + 1 : Nat) j
              unfold cr
              by_cases w : dd (M1 (h + 6)) (M1 (h + 6) j) = 1
              · rw [if_pos ⟨e.1, e.2, w⟩, if_pos ⟨by omega, by omega, q.1, by omega, w⟩]
              · rw [if_neg (fun z => w z.2.2), if_neg (fun z => w z.2.2.2.2)]
            · rw [if_neg (fun z => e ⟨z.1, z.2.1⟩)]
              refine (hcrS j ?_).symm
              rintro ⟨j0, j1, j2, j3⟩
              have q := hbase j j0 j1 j2 j3
              have q2 := j2.2.2.1
              have q3 := j2.2.2.2
              rw [q] at q3
              apply e
              omega
          · rw [up_row, hz2]
            unfold fgt
            rw [if_neg (by omega), e13]
            funext j
            by_cases e : j = 3
            · rw [if_pos e, if_pos e, az_wr_add]
              show _ = az_wr (_ + (sumN m _ + (if gA (2 * (m : Int)) ≠ 0 then _ else 0)))
              rw [← hx, if_pos hob.2, hz1, Int.add_assoc]
            · rw [if_neg e, if_neg e]
              exact if_neg e
          · intro b b1 b2
            rw [up_oth _ _ _ b2, hz2]
            unfold fgt
            rw [if_neg b1]
            exact eo b b1 b2
  refine loop 65 0 M1 0 rfl (by omega) (by omega) ?_ ?_ (fun _ _ _ => rfl)
  · funext j
    unfold cr
    rw [if_neg]
    rintro ⟨j0, j1, j2, j3, -⟩
    have := base_even hp j0 j1 j2.1
    omega
  · funext j
    by_cases e : j = 3
    · rw [if_pos e, e]
      show _ = az_wr (M1 (h + 13) 3 + 0)
      rw [Int.add_zero, az_wr_id (hM (h + 13) 3).1 (hM (h + 13) 3).2]
    · rw [if_neg e]
