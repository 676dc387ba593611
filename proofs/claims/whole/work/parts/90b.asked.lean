/-! (checked anew) TreadRingModel: what is reached, asked -/
set_option maxRecDepth 20000
def qn (st : rSt) : Prop := ∀ b, b ∉ st.1 → st.2 b = -1
theorem vis_qn {wo : Int} {st : rSt} (h : qn st) (a d : Int) : qn (vis wo st a d) := by
  unfold vis
  split
  · exact h
  · intro b hb
    have h1 : b ∉ st.1 := fun q => hb (List.mem_append_left _ q)
    have h2 : b ≠ a := fun q => hb (List.mem_append_right _ (by rw [q]; exact List.mem_cons_self))
    show gu st.2 a d b = -1
    rw [gu_n _ _ h2]
    exact h b h1
theorem fdV_qn {wo : Int} {g : Int → Int} {st : rSt} (h : qn st) (a d : Int) (n : Nat) : qn (fdV wo g a d n st) := by
  induction n with
  | zero => exact h
  | succ n ih => exact vis_qn ih _ _
theorem rtV_qn {wo : Int} {g : Int → Int} {st : rSt} (h : qn st) (lo : Int) (n : Nat) : qn (rtV wo g lo n st) := by
  induction n with
  | zero => exact h
  | succ n ih => exact vis_qn ih _ _
theorem foV_qn {wo : Int} {g : Int → Int} (k : Nat) : ∀ (i : Nat) (st : rSt), qn st → qn (foV wo g k i st) := by
  induction k with
  | zero => intro i st h; exact h
  | succ k ih =>
    intro i st h
    show qn (if i < st.1.length then foV wo g k (i + 1) (fdV wo g (st.1.getD i 0) (st.2 (st.1.getD i 0) + 1) (g (128 + st.1.getD i 0)).toNat st) else st)
    split
    · exact ih _ _ (fdV_qn h _ _ _)
    · exact h
theorem rea_qn (S : hSt) (lo : Int) (n : Nat) (wo : Int) : qn (rea S lo n wo) := foV_qn 65 0 _ (rtV_qn (fun _ _ => rfl) lo n)
section MQ
variable {K : az_K} {m : Int} {S : hSt} {M M' : az_M}
theorem MDh.ofQ {ch : hCh} {a u : Int} {bx : hCh} {bz : Int → Int} (h : MDh M m ch a u bx bz) (f : frQ M M' m) : MDh M' m ch a u bx bz := by
  obtain ⟨h1, h2, h3, h4, h5, h6⟩ := h
  have e : ∀ b, m + 6 ≤ b → M' b = M b := fun b hb => f.1 b (by omega) (by omega) (by omega) (by omega)
  refine ⟨HM_frQ h1 f, by rw [f.2 44 (by omega)]; exact h2, by rw [f.2 45 (by omega)]; exact h3, fun j j0 j1 => ?_, fun j j0 j1 => ?_, fun j j0 j1 => ?_⟩
  · rw [blk_fr (e _ (by omega))]; exact h4 j j0 j1
  · rw [blk_fr (e _ (by omega))]; exact h5 j j0 j1
  · rw [blk_fr (e _ (by omega)), e _ (by omega)]; exact h6 j j0 j1
theorem frX.ofQ (f : frQ M M' m) : frX M M' m := ⟨f.1 _ (by omega) (by omega) (by omega) (by omega), fun b h1 h2 => f.1 b (by omega) (by omega) (by omega) (by omega), f.2 _ (by omega), f.2 _ (by omega), f.2 _ (by omega), f.2 _ (by omega)⟩
theorem frO.ofQ (f : frQ M M' m) : frO M M' m := fun b hb => f.1 b (by omega) (by omega) (by omega) (by omega)
end MQ
section QR
variable {K : az_K} {m : Int} {S : hSt}
def phV (S : hSt) (r a : Int) : Int := if (0 ≤ r ∧ r < 6) ∧ obD S.1 a then (rea S r 1 (-1)).2 a else -1
set_option maxHeartbeats 1000000 in
theorem sp_mpath (hK : MdK K m) (M : az_M) (hc : HM M m S) (hw : WL S) (r a : Int) : AM yX7_path cX7_path 3 (some .int) 4 0 0 [(1, m), (0, r), (0, a)] K M (qi K (fun z M' => z = phV S r a ∧ frQ M M' m)) := by
  have hK0 := hK
  obtain ⟨hKo, k3, k4, k5, k6, k7, k8, k9, k10, k11, k12, k13, k14, k15, k16, k17, k18, k19, k20, k21, k22, k23, k24, k25, y3, y4, y5, y6, y7, y8, y9, y10, y11, y12, y13, y14, y15, y16, y17, y18, y19, y20, y21, y22, y23, y24, y25⟩ := hK
  have hKo0 := hKo
  obtain ⟨hKa, k2, y2⟩ := hKo
  have hKa0 := hKa
  obtain ⟨km, k1, y1⟩ := hKa
  refine am_of (by decide) (Nat.le_of_ble_eq_true rfl) (L := [(1, m), (0, r), (0, a)]) rfl ?_
  generalize hV : phV S r a = V
  unfold phV at hV
  have no : ¬ ((0 ≤ r ∧ r < 6) ∧ obD S.1 a) → AW az_P0 (az_Z (qi K (fun z M' => z = V ∧ frQ M M' m)) 0 0) (az_rm 4 0 0) yX7_path cX7_path 3 (some .int) 0 0 15 [(1, m), (0, r), (0, a)] [] K M := by
    intro h
    rw [if_neg h] at hV
    refine aw_iconst dX7_path_15 rfl ⟨by decide, by decide⟩ ?_
    exact aw_iret dX7_path_16 (by decide) (by decide) ⟨_, rfl, rfl, hV, frQ.refl M m⟩
  refine aw_iload_n dX7_path_0 rfl rfl ?_
  refine aw_cS1p dX7_path_1 ml_RX7_216 ⟨by decide, by decide, by decide, by decide⟩ (Nat.le_of_ble_eq_true rfl) (sp_misRoot K M r) ?_
  refine aw_if_eq (tgt := 15) dX7_path_4 rfl (fun h4 => ?_) (fun h4 => ?_)
  · exact no (fun q => if0 h4 (by omega))
  · have hr := if1 h4
    refine aw_aload_n dX7_path_7 rfl rfl ⟨by decide, by decide⟩ ?_
    refine aw_iload_n dX7_path_8 rfl rfl ?_
    refine aw_cV1p dX7_path_9 ml_RX7_109 (by assumption) (by decide) rfl rfl ⟨by decide, by decide, by decide, by decide⟩ (Nat.le_of_ble_eq_true rfl) (sp_misObject hKa0 M hw.1.1 hc.1 a) ?_
    refine aw_if_ne (tgt := 17) dX7_path_12 rfl (fun h12 => ?_) (fun h12 => ?_)
    · have ho : obD S.1 a := if1 h12
      rw [if_pos ⟨by omega, ho⟩] at hV
      have a0 := ho.1.1
      have a1 := ho.1.2.1
      have hre : rea S r 1 (-1) = foV (-1) S.1 65 0 (vis (-1) ([], fun _ => -1) (S.1 (715 + (r + ((0 : Nat) : Int)))) 0) := rfl
      have hqn := rea_qn S r 1 (-1)
      generalize rea S r 1 (-1) = R at hre hqn hV
      have hnk : nok S.1 (S.1 (715 + (r + ((0 : Nat) : Int)))) := nam_nok hw (by omega) (by omega)
      refine aw_aload_n dX7_path_17 rfl rfl ⟨by decide, by decide⟩ ?_
      refine aw_cV0v dX7_path_18 ml_RX7_262 (by assumption) (by decide) rfl rfl ⟨by decide, by decide, by decide, by decide⟩ (Nat.le_of_ble_eq_true rfl) (sp_clearReached hK0 M) (fun M1 hM1 => ?_)
      have v31 : M1 (m + 1) (715 + r) = S.1 (715 + (r + ((0 : Nat) : Int))) := by
        rw [show r + ((0 : Nat) : Int) = r by omega]
        exact (HM_frQ hc hM1.2).1 _ (by omega) (by omega) (by omega) (by omega)
      refine aw_aload_n dX7_path_21 rfl rfl ⟨by decide, by decide⟩ ?_
      refine aw_aload_n dX7_path_22 rfl rfl ⟨by decide, by decide⟩ ?_
      refine aw_gzF 0 dX7_path_23 fl_RX7_7 (by assumption) rfl rfl (by assumption) ?_
      refine aw_sipush dX7_path_26 (by decide) ⟨by decide, by decide⟩ ?_
      refine aw_iload_n dX7_path_29 rfl rfl ?_
      refine aw_iadd dX7_path_30 (az_wr_id (by omega) (by omega)) ?_
      refine aw_iv dX7_path_31 (by assumption) (by omega) (by omega) v31 ?_
      refine aw_iconst dX7_path_32 rfl ⟨by decide, by decide⟩ ?_
      refine aw_iconst dX7_path_33 rfl ⟨by decide, by decide⟩ ?_
      refine aw_cV3v dX7_path_34 ml_RX7_259 (by assumption) (by decide) rfl rfl ⟨by decide, by decide, by decide, by decide⟩ (Nat.le_of_ble_eq_true rfl) (sp_meet hK0 M1 hw.1.1 hM1.1 (qk_nil S.1 (-1) _) (by show ((0 : Nat) : Int) < 65; omega) (S.1 (715 + (r + ((0 : Nat) : Int)))) 0 hnk) (fun M2 hM2 => ?_)
      have f2 := hM1.2.trans hM2.2
      have hfo := sp_follow hK0 M2 (HM_frQ hc f2) hw hM2.1 (vis_ok (qk_nil S.1 (-1) _) hnk (by omega) (by omega))
      rw [← hre] at hfo
      refine aw_aload_n dX7_path_37 rfl rfl ⟨by decide, by decide⟩ ?_
      refine aw_iconst dX7_path_38 rfl ⟨by decide, by decide⟩ ?_
      refine aw_cV1v dX7_path_39 ml_RX7_265 (by assumption) (by decide) rfl rfl ⟨by decide, by decide, by decide, by decide⟩ (Nat.le_of_ble_eq_true rfl) (hfo) (fun M3 hM3 => ?_)
      have f3 := f2.trans hM3.2
      have v47 := hM3.1.2.2.1 a a0 a1
      refine aw_aload_n dX7_path_42 rfl rfl ⟨by decide, by decide⟩ ?_
      refine aw_gzF 2 dX7_path_43 fl_RX7_17 (by assumption) rfl rfl (by assumption) ?_
      refine aw_iload_n dX7_path_46 rfl rfl ?_
      refine aw_zv dX7_path_47 (by assumption) (by omega) (by omega) v47 ?_
      refine aw_if_eq (tgt := 60) dX7_path_48 rfl (fun h48 => ?_) (fun h48 => ?_)
      · refine aw_iconst dX7_path_60 rfl ⟨by decide, by decide⟩ ?_
        refine aw_iret dX7_path_61 (by decide) (by decide) ⟨_, rfl, rfl, ?_, f3⟩
        rw [← hV]
        exact (hqn a (if0 h48)).symm
      · have hm := if1 h48
        have v56 := hM3.1.2.2.2 a hm
        refine aw_aload_n dX7_path_51 rfl rfl ⟨by decide, by decide⟩ ?_
        refine aw_gzF 4 dX7_path_52 fl_RX7_23 (by assumption) rfl rfl (by assumption) ?_
        refine aw_iload_n dX7_path_55 rfl rfl ?_
        refine aw_iv dX7_path_56 (by assumption) (by omega) (by omega) v56 ?_
        refine aw_goto (tgt := 61) dX7_path_57 rfl ?_
        exact aw_iret dX7_path_61 (by decide) (by decide) ⟨_, rfl, rfl, hV, f3⟩
    · exact no (fun q => if0 h12 q.2)
def rtd (S : hSt) (a : Int) : Int := if obD S.1 a ∧ a ∈ (rea S 0 6 (-1)).1 then ((rea S 0 6 (-1)).1.length : Int) - ((rea S 0 6 a).1.length : Int) else -1
theorem rea_len {lo : Int} {n : Nat} (hw : WL S) (l0 : 0 ≤ lo) (l1 : lo + n ≤ 6) (wo : Int) : (rea S lo n wo).1.length ≤ 64 := qk_len hw.1.1 (rea_ok hw l0 l1 wo)
theorem sp_mretained (hK : MdK K m) (M : az_M) (hc : HM M m S) (hw : WL S) (a : Int) : AM yX7_retained cX7_retained 3 (some .int) 4 0 0 [(1, m), (0, a)] K M (qi K (fun z M' => z = rtd S a ∧ frQ M M' m)) := by
  have hK0 := hK
  obtain ⟨hKo, k3, k4, k5, k6, k7, k8, k9, k10, k11, k12, k13, k14, k15, k16, k17, k18, k19, k20, k21, k22, k23, k24, k25, y3, y4, y5, y6, y7, y8, y9, y10, y11, y12, y13, y14, y15, y16, y17, y18, y19, y20, y21, y22, y23, y24, y25⟩ := hK
  have hKo0 := hKo
  obtain ⟨hKa, k2, y2⟩ := hKo
  have hKa0 := hKa
  obtain ⟨km, k1, y1⟩ := hKa
  refine am_of (by decide) (Nat.le_of_ble_eq_true rfl) (L := [(1, m), (0, a), (9, 0)]) rfl ?_
  have l1 := rea_len hw (lo := 0) (n := 6) (by omega) (by omega) (-1)
  have l2 := rea_len hw (lo := 0) (n := 6) (by omega) (by omega) a
  generalize hV : rtd S a = V
  unfold rtd at hV
  refine aw_aload_n dX7_retained_0 rfl rfl ⟨by decide, by decide⟩ ?_
  refine aw_iload_n dX7_retained_1 rfl rfl ?_
  refine aw_cV1p dX7_retained_2 ml_RX7_109 (by assumption) (by decide) rfl rfl ⟨by decide, by decide, by decide, by decide⟩ (Nat.le_of_ble_eq_true rfl) (sp_misObject hKa0 M hw.1.1 hc.1 a) ?_
  refine aw_if_ne (tgt := 10) dX7_retained_5 rfl (fun h5 => ?_) (fun h5 => ?_)
  · have ho : obD S.1 a := if1 h5
    have a0 := ho.1.1
    have a1 := ho.1.2.1
    refine aw_aload_n dX7_retained_10 rfl rfl ⟨by decide, by decide⟩ ?_
    refine aw_iconst dX7_retained_11 rfl ⟨by decide, by decide⟩ ?_
    refine aw_cV1i dX7_retained_12 ml_RX7_268 (by assumption) (by decide) rfl rfl ⟨by decide, by decide, by decide, by decide⟩ (Nat.le_of_ble_eq_true rfl) (sp_reach hK0 M hc hw (-1)) (fun z1 M1 hz1 => ?_)
    refine aw_istore_n dX7_retained_15 rfl (by decide) ?_
    obtain ⟨e1, r1, f1⟩ := hz1
    subst e1
    have v21 := r1.2.2.1 a a0 a1
    refine aw_aload_n dX7_retained_16 rfl rfl ⟨by decide, by decide⟩ ?_
    refine aw_gzF 2 dX7_retained_17 fl_RX7_17 (by assumption) rfl rfl (by assumption) ?_
    refine aw_iload_n dX7_retained_20 rfl rfl ?_
    refine aw_zv dX7_retained_21 (by assumption) (by omega) (by omega) v21 ?_
    refine aw_if_eq (tgt := 35) dX7_retained_22 rfl (fun h22 => ?_) (fun h22 => ?_)
    · rw [if_neg (fun q => if0 h22 q.2)] at hV
      refine aw_iconst dX7_retained_35 rfl ⟨by decide, by decide⟩ ?_
      exact aw_iret dX7_retained_36 (by decide) (by decide) ⟨_, rfl, rfl, hV, f1⟩
    · rw [if_pos ⟨ho, if1 h22⟩] at hV
      refine aw_iload_n dX7_retained_25 rfl rfl ?_
      refine aw_aload_n dX7_retained_26 rfl rfl ⟨by decide, by decide⟩ ?_
      refine aw_iload_n dX7_retained_27 rfl rfl ?_
      refine aw_cV1i dX7_retained_28 ml_RX7_268 (by assumption) (by decide) rfl rfl ⟨by decide, by decide, by decide, by decide⟩ (Nat.le_of_ble_eq_true rfl) (sp_reach hK0 M1 (HM_frQ hc f1) hw a) (fun z2 M2 hz2 => ?_)
      obtain ⟨e2, r2, f2⟩ := hz2
      subst e2
      refine aw_isub dX7_retained_31 (az_wr_id (by omega) (by omega)) ?_
      refine aw_goto (tgt := 36) dX7_retained_32 rfl ?_
      exact aw_iret dX7_retained_36 (by decide) (by decide) ⟨_, rfl, rfl, hV, f1.trans f2⟩
  · rw [if_neg (fun q => if0 h5 q.1)] at hV
    refine aw_iconst dX7_retained_8 rfl ⟨by decide, by decide⟩ ?_
    exact aw_iret dX7_retained_9 (by decide) (by decide) ⟨_, rfl, rfl, hV, frQ.refl M m⟩
def lcN (S : hSt) (R : rSt) (n : Nat) : Int := sumN n (fun a => if a ∈ R.1 then pz S.1 a else 0)
def loN (S : hSt) (R : rSt) (n : Nat) : Int := sumN n (fun a => if obD S.1 a ∧ a ∉ R.1 ∧ S.1 726 = 1 ∧ S.1 a ≠ 1 then 1 else 0)
def lvV (S : hSt) (w : Int) : Int := if w = 0 then ((rea S 0 6 (-1)).1.length : Int) else if w = 1 then lcN S (rea S 0 6 (-1)) 128 else if w = 2 then obN S.2.1 - ((rea S 0 6 (-1)).1.length : Int) else if w = 3 then loN S (rea S 0 6 (-1)) 128 else -1
set_option maxHeartbeats 1000000 in
theorem sp_mlive (hK : MdK K m) (M : az_M) (hc : HM M m S) (hw : WL S) (w : Int) : AM yX7_live cX7_live 6 (some .int) 4 0 0 [(1, m), (0, w)] K M (qi K (fun z M' => z = lvV S w ∧ frQ M M' m)) := by
  have hK0 := hK
  obtain ⟨hKo, k3, k4, k5, k6, k7, k8, k9, k10, k11, k12, k13, k14, k15, k16, k17, k18, k19, k20, k21, k22, k23, k24, k25, y3, y4, y5, y6, y7, y8, y9, y10, y11, y12, y13, y14, y15, y16, y17, y18, y19, y20, y21, y22, y23, y24, y25⟩ := hK
  have hKo0 := hKo
  obtain ⟨hKa, k2, y2⟩ := hKo
  have hKa0 := hKa
  obtain ⟨km, k1, y1⟩ := hKa
  refine am_of (by decide) (Nat.le_of_ble_eq_true rfl) (L := [(1, m), (0, w), (9, 0), (9, 0), (9, 0), (9, 0)]) rfl ?_
  have l1 := rea_len hw (lo := 0) (n := 6) (by omega) (by omega) (-1)
  have hqk := rea_ok hw (lo := 0) (n := 6) (by omega) (by omega) (-1)
  have hon := obN_le (WR_of hw.1)
  generalize hV : lvV S w = V
  unfold lvV at hV
  refine aw_aload_n dX7_live_0 rfl rfl ⟨by decide, by decide⟩ ?_
  refine aw_iconst dX7_live_1 rfl ⟨by decide, by decide⟩ ?_
  refine aw_cV1i dX7_live_2 ml_RX7_268 (by assumption) (by decide) rfl rfl ⟨by decide, by decide, by decide, by decide⟩ (Nat.le_of_ble_eq_true rfl) (sp_reach hK0 M hc hw (-1)) (fun z1 M1 hz1 => ?_)
  refine aw_istore_n dX7_live_5 rfl (by decide) ?_
  obtain ⟨e1, r1, f1⟩ := hz1
  subst e1
  have hc1 := HM_frQ hc f1
  generalize rea S 0 6 (-1) = R at *
  have v34 : ∀ i : Nat, i < 128 → M1 (m + 1) (i : Int) = S.1 i := fun i hi => hc1.1 _ (by omega) (by omega) (by omega) (by omega)
  have hrun : (if M1 (m + 1) 726 = 1 then (1 : Int) else 0) = if S.1 726 = 1 then 1 else 0 := by rw [hc1.1 726 (by omega) (by omega) (by omega) (by omega)]
  have lc0 : ∀ i : Nat, 0 ≤ lcN S R i ∧ lcN S R i ≤ 8 * i := fun i => sumN_le i (fun j hj => by
    show 0 ≤ (if (j : Int) ∈ R.1 then pz S.1 j else 0) ∧ (if (j : Int) ∈ R.1 then pz S.1 j else 0) ≤ 8
    split
    · rename_i hm
      have := sl_even hw.1.1 (hqk.2 _ hm).1.1
      omega
    · omega)
  have lo0 : ∀ i : Nat, 0 ≤ loN S R i ∧ loN S R i ≤ 1 * i := fun i => sumN_le i (fun j hj => by
    show 0 ≤ (if _ then (1 : Int) else 0) ∧ (if _ then (1 : Int) else 0) ≤ 1
    split <;> omega)
  refine aw_iconst dX7_live_6 rfl ⟨by decide, by decide⟩ ?_
  refine aw_istore_n dX7_live_7 rfl (by decide) ?_
  refine aw_iconst dX7_live_8 rfl ⟨by decide, by decide⟩ ?_
  refine aw_istore dX7_live_9 (by decide) ?_
  refine aw_iconst dX7_live_11 rfl ⟨by decide, by decide⟩ ?_
  refine aw_istore dX7_live_12 (by decide) ?_
  have loop : ∀ (k i : Nat), i + k = 128 → AW az_P0 (az_Z (qi K (fun z M' => z = V ∧ frQ M M' m)) 0 0) (az_rm 4 0 0) yX7_live cX7_live 6 (some .int) 0 0 14 [(1, m), (0, w), (0, (R.1.length : Int)), (0, lcN S R i), (0, loN S R i), (0, (i : Int))] [] K M1 := by
    intro k
    induction k with
    | zero =>
      intro i hi
      have hi2 : i = 128 := by omega
      subst hi2
      have b1 := lc0 128
      have b2 := lo0 128
      refine aw_iload dX7_live_14 rfl ?_
      refine aw_sipush dX7_live_16 (by decide) ⟨by decide, by decide⟩ ?_
      refine aw_icmp_ge (tgt := 82) dX7_live_19 rfl (fun h19 => ?_) (fun h19 => absurd h19 (by omega))
      refine aw_iload_n dX7_live_82 rfl rfl ?_
      by_cases w0 : w = 0
      · subst w0
        refine aw_tsIn (tgt := 112) dX7_live_83 (by omega) (by omega) rfl rfl ?_
        refine aw_iload_n dX7_live_112 rfl rfl ?_
        exact aw_iret dX7_live_113 (by decide) (by decide) ⟨_, rfl, rfl, hV, f1⟩
      rw [if_neg w0] at hV
      by_cases w1 : w = 1
      · subst w1
        refine aw_tsIn (tgt := 114) dX7_live_83 (by omega) (by omega) rfl rfl ?_
        refine aw_iload_n dX7_live_114 rfl rfl ?_
        exact aw_iret dX7_live_115 (by decide) (by decide) ⟨_, rfl, rfl, hV, f1⟩
      rw [if_neg w1] at hV
      by_cases w2 : w = 2
      · subst w2
        refine aw_tsIn (tgt := 116) dX7_live_83 (by omega) (by omega) rfl rfl ?_
        refine aw_aload_n dX7_live_116 rfl rfl ⟨by decide, by decide⟩ ?_
        refine aw_cV0p dX7_live_117 ml_RX7_164 (by assumption) (by decide) rfl rfl ⟨by decide, by decide, by decide, by decide⟩ (Nat.le_of_ble_eq_true rfl) (sp_objectsNow hKa0 M1 (WR_of hw.1) hc1.1 hc1.2.1) ?_
        refine aw_iload_n dX7_live_120 rfl rfl ?_
        refine aw_isub dX7_live_121 (az_wr_id (by omega) (by omega)) ?_
        exact aw_iret dX7_live_122 (by decide) (by decide) ⟨_, rfl, rfl, hV, f1⟩
      rw [if_neg w2] at hV
      by_cases w3 : w = 3
      · subst w3
        refine aw_tsIn (tgt := 123) dX7_live_83 (by omega) (by omega) rfl rfl ?_
        refine aw_iload dX7_live_123 rfl ?_
        exact aw_iret dX7_live_125 (by decide) (by decide) ⟨_, rfl, rfl, hV, f1⟩
      rw [if_neg w3] at hV
      refine aw_tsOut (tgt := 126) dX7_live_83 (by omega) rfl ?_
      refine aw_iconst dX7_live_126 rfl ⟨by decide, by decide⟩ ?_
      exact aw_iret dX7_live_127 (by decide) (by decide) ⟨_, rfl, rfl, hV, f1⟩
    | succ k ih =>
      intro i hi
      have b1 := lc0 i
      have b2 := lo0 i
      have n1 : lcN S R (i + 1) = lcN S R i + (if (i : Int) ∈ R.1 then pz S.1 i else 0) := rfl
      have n2 : loN S R (i + 1) = loN S R i + (if obD S.1 i ∧ (i : Int) ∉ R.1 ∧ S.1 726 = 1 ∧ S.1 i ≠ 1 then 1 else 0) := rfl
      have hih := ih (i + 1) (by omega)
      rw [n1, n2] at hih
      refine aw_iload dX7_live_14 rfl ?_
      refine aw_sipush dX7_live_16 (by decide) ⟨by decide, by decide⟩ ?_
      refine aw_icmp_ge (tgt := 82) dX7_live_19 rfl (fun h19 => absurd h19 (by omega)) (fun h19 => ?_)
      refine aw_aload_n dX7_live_22 rfl rfl ⟨by decide, by decide⟩ ?_
      refine aw_iload dX7_live_23 rfl ?_
      refine aw_cV1p dX7_live_25 ml_RX7_109 (by assumption) (by decide) rfl rfl ⟨by decide, by decide, by decide, by decide⟩ (Nat.le_of_ble_eq_true rfl) (sp_misObject hKa0 M1 hw.1.1 hc1.1 (i : Int)) ?_
      refine aw_if_ne (tgt := 34) dX7_live_28 rfl (fun h28 => ?_) (fun h28 => ?_)
      · have ho : obD S.1 i := if1 h28
        have v40 := r1.2.2.1 (i : Int) (by omega) (by omega)
        refine aw_aload_n dX7_live_34 rfl rfl ⟨by decide, by decide⟩ ?_
        refine aw_gzF 2 dX7_live_35 fl_RX7_17 (by assumption) rfl rfl (by assumption) ?_
        refine aw_iload dX7_live_38 rfl ?_
        refine aw_zv dX7_live_40 (by assumption) (by omega) (by omega) v40 ?_
        refine aw_if_eq (tgt := 56) dX7_live_41 rfl (fun h41 => ?_) (fun h41 => ?_)
        · have hno := if0 h41
          rw [if_neg hno, Int.add_zero] at hih
          refine aw_aload_n dX7_live_56 rfl rfl ⟨by decide, by decide⟩ ?_
          refine aw_cV0p dX7_live_57 ml_RX7_181 (by assumption) (by decide) rfl rfl ⟨by decide, by decide, by decide, by decide⟩ (Nat.le_of_ble_eq_true rfl) (qp_c (sp_runs hKa0 M1) hrun) ?_
          refine aw_if_eq (tgt := 76) dX7_live_60 rfl (fun h60 => ?_) (fun h60 => ?_)
          · rw [if_neg (fun q => if0 h60 q.2.2.1), Int.add_zero] at hih
            refine aw_iinc dX7_live_76 rfl (az_wr_id (by omega) (by omega)) (by decide) ?_
            refine aw_goto (tgt := 14) dX7_live_79 rfl ?_
            exact hih
          · refine aw_aload_n dX7_live_63 rfl rfl ⟨by decide, by decide⟩ ?_
            refine aw_iload dX7_live_64 rfl ?_
            refine aw_cV1p dX7_live_66 ml_RX7_106 (by assumption) (by decide) rfl rfl ⟨by decide, by decide, by decide, by decide⟩ (Nat.le_of_ble_eq_true rfl) (qp_c (sp_colourOf hKa0 M1 (i : Int) (by omega) (by omega)) (v34 i (by omega))) ?_
            refine aw_iconst dX7_live_69 rfl ⟨by decide, by decide⟩ ?_
            refine aw_icmp_eq (tgt := 76) dX7_live_70 rfl (fun h70 => ?_) (fun h70 => ?_)
            · rw [if_neg (fun q => q.2.2.2 h70), Int.add_zero] at hih
              refine aw_iinc dX7_live_76 rfl (az_wr_id (by omega) (by omega)) (by decide) ?_
              refine aw_goto (tgt := 14) dX7_live_79 rfl ?_
              exact hih
            · rw [if_pos ⟨ho, hno, if1 h60, h70⟩] at hih
              refine aw_iinc dX7_live_73 rfl (az_wr_id (by omega) (by omega)) (by decide) ?_
              refine aw_iinc dX7_live_76 rfl (az_wr_id (by omega) (by omega)) (by decide) ?_
              refine aw_goto (tgt := 14) dX7_live_79 rfl ?_
              exact hih
        · have hm := if1 h41
          have hpz := sl_even hw.1.1 (hqk.2 _ hm).1.1
          rw [if_pos hm, if_neg (fun q => q.2.1 hm), Int.add_zero] at hih
          have h48 := qp_c (sp_msizeAt hKa0 M1 hw.1.1 hc1.1 (i : Int)) (if_pos (⟨by omega, by omega⟩ : 0 ≤ (i : Int) ∧ (i : Int) < 128))
          refine aw_iload_n dX7_live_44 rfl rfl ?_
          refine aw_aload_n dX7_live_45 rfl rfl ⟨by decide, by decide⟩ ?_
          refine aw_iload dX7_live_46 rfl ?_
          refine aw_cV1p dX7_live_48 ml_RX7_98 (by assumption) (by decide) rfl rfl ⟨by decide, by decide, by decide, by decide⟩ (Nat.le_of_ble_eq_true rfl) (h48) ?_
          refine aw_iadd dX7_live_51 (az_wr_id (by omega) (by omega)) ?_
          refine aw_istore_n dX7_live_52 rfl (by decide) ?_
          refine aw_goto (tgt := 76) dX7_live_53 rfl ?_
          refine aw_iinc dX7_live_76 rfl (az_wr_id (by omega) (by omega)) (by decide) ?_
          refine aw_goto (tgt := 14) dX7_live_79 rfl ?_
          exact hih
      · have ho := if0 h28
        rw [if_neg (fun q => ho ⟨(hqk.2 _ q).1.1, (hqk.2 _ q).1.2⟩), if_neg (fun q => ho q.1), Int.add_zero, Int.add_zero] at hih
        refine aw_goto (tgt := 76) dX7_live_31 rfl ?_
        refine aw_iinc dX7_live_76 rfl (az_wr_id (by omega) (by omega)) (by decide) ?_
        refine aw_goto (tgt := 14) dX7_live_79 rfl ?_
        exact hih
  exact loop 128 0 (by omega)
def slV (S : hSt) (a w : Int) : Int := if slD S.1 a then (if w = 0 then S.1 a else if w = 1 then pz S.1 a else if w = 2 then S.1 (128 + a) else if w = 3 then nbN S.1 a else if w = 4 then (if a = S.1 727 then S.1 728 else 0) else if w = 5 then (if a ∈ (rea S 0 6 (-1)).1 then 1 else 0) else -1) else -1
set_option maxHeartbeats 1000000 in
theorem sp_mslot (hK : MdK K m) (M : az_M) (hc : HM M m S) (hw : WL S) (a w : Int) : AM yX7_slot cX7_slot 3 (some .int) 3 0 0 [(1, m), (0, a), (0, w)] K M (qi K (fun z M' => z = slV S a w ∧ frQ M M' m)) := by
  have hK0 := hK
  obtain ⟨hKo, k3, k4, k5, k6, k7, k8, k9, k10, k11, k12, k13, k14, k15, k16, k17, k18, k19, k20, k21, k22, k23, k24, k25, y3, y4, y5, y6, y7, y8, y9, y10, y11, y12, y13, y14, y15, y16, y17, y18, y19, y20, y21, y22, y23, y24, y25⟩ := hK
  have hKo0 := hKo
  obtain ⟨hKa, k2, y2⟩ := hKo
  have hKa0 := hKa
  obtain ⟨km, k1, y1⟩ := hKa
  refine am_of (by decide) (Nat.le_of_ble_eq_true rfl) (L := [(1, m), (0, a), (0, w)]) rfl ?_
  generalize hV : slV S a w = V
  unfold slV at hV
  refine aw_aload_n dX7_slot_0 rfl rfl ⟨by decide, by decide⟩ ?_
  refine aw_iload_n dX7_slot_1 rfl rfl ?_
  refine aw_cV1p dX7_slot_2 ml_RX7_102 (by assumption) (by decide) rfl rfl ⟨by decide, by decide, by decide, by decide⟩ (Nat.le_of_ble_eq_true rfl) (sp_misSlot hKa0 M hw.1.1 hc.1 a) ?_
  refine aw_if_ne (tgt := 10) dX7_slot_5 rfl (fun h5 => ?_) (fun h5 => ?_)
  · have hs : slD S.1 a := if1 h5
    have a0 := hs.1
    have a1 := hs.2.1
    rw [if_pos hs] at hV
    refine aw_iload_n dX7_slot_10 rfl rfl ?_
    by_cases w0 : w = 0
    · subst w0
      have v50 : M (m + 1) a = S.1 a := hc.1 _ (by omega) (by omega) (by omega) (by omega)
      refine aw_tsIn (tgt := 48) dX7_slot_11 (by omega) (by omega) rfl rfl ?_
      refine aw_aload_n dX7_slot_48 rfl rfl ⟨by decide, by decide⟩ ?_
      refine aw_iload_n dX7_slot_49 rfl rfl ?_
      refine aw_cV1p dX7_slot_50 ml_RX7_106 (by assumption) (by decide) rfl rfl ⟨by decide, by decide, by decide, by decide⟩ (Nat.le_of_ble_eq_true rfl) (qp_c (sp_colourOf hKa0 M a (by omega) (by omega)) v50) ?_
      exact aw_iret dX7_slot_53 (by decide) (by decide) ⟨_, rfl, rfl, hV, frQ.refl M m⟩
    rw [if_neg w0] at hV
    by_cases w1 : w = 1
    · subst w1
      refine aw_tsIn (tgt := 54) dX7_slot_11 (by omega) (by omega) rfl rfl ?_
      refine aw_aload_n dX7_slot_54 rfl rfl ⟨by decide, by decide⟩ ?_
      refine aw_iload_n dX7_slot_55 rfl rfl ?_
      refine aw_cV1p dX7_slot_56 ml_RX7_98 (by assumption) (by decide) rfl rfl ⟨by decide, by decide, by decide, by decide⟩ (Nat.le_of_ble_eq_true rfl) (qp_c (sp_msizeAt hKa0 M hw.1.1 hc.1 a) (if_pos ⟨a0, a1⟩)) ?_
      exact aw_iret dX7_slot_59 (by decide) (by decide) ⟨_, rfl, rfl, hV, frQ.refl M m⟩
    rw [if_neg w1] at hV
    by_cases w2 : w = 2
    · subst w2
      have v69 : M (m + 1) (128 + a) = S.1 (128 + a) := hc.1 _ (by omega) (by omega) (by omega) (by omega)
      refine aw_tsIn (tgt := 60) dX7_slot_11 (by omega) (by omega) rfl rfl ?_
      refine aw_aload_n dX7_slot_60 rfl rfl ⟨by decide, by decide⟩ ?_
      refine aw_gzF 0 dX7_slot_61 fl_RX7_7 (by assumption) rfl rfl (by assumption) ?_
      refine aw_sipush dX7_slot_64 (by decide) ⟨by decide, by decide⟩ ?_
      refine aw_iload_n dX7_slot_67 rfl rfl ?_
      refine aw_iadd dX7_slot_68 (az_wr_id (by omega) (by omega)) ?_
      refine aw_iv dX7_slot_69 (by assumption) (by omega) (by omega) v69 ?_
      exact aw_iret dX7_slot_70 (by decide) (by decide) ⟨_, rfl, rfl, hV, frQ.refl M m⟩
    rw [if_neg w2] at hV
    by_cases w3 : w = 3
    · subst w3
      refine aw_tsIn (tgt := 71) dX7_slot_11 (by omega) (by omega) rfl rfl ?_
      refine aw_aload_n dX7_slot_71 rfl rfl ⟨by decide, by decide⟩ ?_
      refine aw_iload_n dX7_slot_72 rfl rfl ?_
      refine aw_cV1p dX7_slot_73 ml_RX7_271 (by assumption) (by decide) rfl rfl ⟨by decide, by decide, by decide, by decide⟩ (Nat.le_of_ble_eq_true rfl) (sp_mnamedBy hKa0 M hc hw a hs) ?_
      exact aw_iret dX7_slot_76 (by decide) (by decide) ⟨_, rfl, rfl, hV, frQ.refl M m⟩
    rw [if_neg w3] at hV
    by_cases w4 : w = 4
    · subst w4
      have v85 : M (m + 1) 727 = S.1 727 := hc.1 _ (by omega) (by omega) (by omega) (by omega)
      have v96 : M (m + 1) 728 = S.1 728 := hc.1 _ (by omega) (by omega) (by omega) (by omega)
      refine aw_tsIn (tgt := 77) dX7_slot_11 (by omega) (by omega) rfl rfl ?_
      rw [if_pos rfl] at hV
      refine aw_iload_n dX7_slot_77 rfl rfl ?_
      refine aw_aload_n dX7_slot_78 rfl rfl ⟨by decide, by decide⟩ ?_
      refine aw_gzF 0 dX7_slot_79 fl_RX7_7 (by assumption) rfl rfl (by assumption) ?_
      refine aw_sipush dX7_slot_82 (by decide) ⟨by decide, by decide⟩ ?_
      refine aw_iv dX7_slot_85 (by assumption) (by omega) (by omega) v85 ?_
      refine aw_icmp_ne (tgt := 100) dX7_slot_86 rfl (fun h86 => ?_) (fun h86 => ?_)
      · rw [if_neg h86] at hV
        refine aw_iconst dX7_slot_100 rfl ⟨by decide, by decide⟩ ?_
        exact aw_iret dX7_slot_101 (by decide) (by decide) ⟨_, rfl, rfl, hV, frQ.refl M m⟩
      · rw [if_pos (by omega)] at hV
        refine aw_aload_n dX7_slot_89 rfl rfl ⟨by decide, by decide⟩ ?_
        refine aw_gzF 0 dX7_slot_90 fl_RX7_7 (by assumption) rfl rfl (by assumption) ?_
        refine aw_sipush dX7_slot_93 (by decide) ⟨by decide, by decide⟩ ?_
        refine aw_iv dX7_slot_96 (by assumption) (by omega) (by omega) v96 ?_
        refine aw_goto (tgt := 101) dX7_slot_97 rfl ?_
        exact aw_iret dX7_slot_101 (by decide) (by decide) ⟨_, rfl, rfl, hV, frQ.refl M m⟩
    rw [if_neg w4] at hV
    by_cases w5 : w = 5
    · subst w5
      refine aw_tsIn (tgt := 102) dX7_slot_11 (by omega) (by omega) rfl rfl ?_
      rw [if_pos rfl] at hV
      have z123 : ∀ M1 : az_M, frQ M M1 m → (0 : Int) = V → AW az_P0 (az_Z (qi K (fun z M' => z = V ∧ frQ M M' m)) 0 0) (az_rm 3 0 0) yX7_slot cX7_slot 3 (some .int) 0 0 123 [(1, m), (0, a), (0, 5)] [] K M1 := by
        intro M1 f1 h0
        refine aw_iconst dX7_slot_123 rfl ⟨by decide, by decide⟩ ?_
        exact aw_iret dX7_slot_124 (by decide) (by decide) ⟨_, rfl, rfl, h0, f1⟩
      refine aw_aload_n dX7_slot_102 rfl rfl ⟨by decide, by decide⟩ ?_
      refine aw_iconst dX7_slot_103 rfl ⟨by decide, by decide⟩ ?_
      refine aw_cV1i dX7_slot_104 ml_RX7_268 (by assumption) (by decide) rfl rfl ⟨by decide, by decide, by decide, by decide⟩ (Nat.le_of_ble_eq_true rfl) (sp_reach hK0 M hc hw (-1)) (fun z1 M1 hz1 => ?_)
      obtain ⟨e1, r1, f1⟩ := hz1
      subst e1
      generalize rea S 0 6 (-1) = R at *
      have v115 := r1.2.2.1 a a0 a1
      refine aw_if_le (tgt := 123) dX7_slot_107 rfl (fun h107 => ?_) (fun h107 => ?_)
      · refine z123 M1 f1 ?_
        rw [if_neg] at hV
        · exact hV
        · intro q
          have := List.length_pos_of_mem q
          omega
      · refine aw_aload_n dX7_slot_110 rfl rfl ⟨by decide, by decide⟩ ?_
        refine aw_gzF 2 dX7_slot_111 fl_RX7_17 (by assumption) rfl rfl (by assumption) ?_
        refine aw_iload_n dX7_slot_114 rfl rfl ?_
        refine aw_zv dX7_slot_115 (by assumption) (by omega) (by omega) v115 ?_
        refine aw_if_eq (tgt := 123) dX7_slot_116 rfl (fun h116 => ?_) (fun h116 => ?_)
        · rw [if_neg (if0 h116)] at hV
          exact z123 M1 f1 hV
        · rw [if_pos (if1 h116)] at hV
          refine aw_iconst dX7_slot_119 rfl ⟨by decide, by decide⟩ ?_
          refine aw_goto (tgt := 124) dX7_slot_120 rfl ?_
          exact aw_iret dX7_slot_124 (by decide) (by decide) ⟨_, rfl, rfl, hV, f1⟩
    rw [if_neg w5] at hV
    refine aw_tsOut (tgt := 125) dX7_slot_11 (by omega) rfl ?_
    refine aw_iconst dX7_slot_125 rfl ⟨by decide, by decide⟩ ?_
    exact aw_iret dX7_slot_126 (by decide) (by decide) ⟨_, rfl, rfl, hV, frQ.refl M m⟩
  · rw [if_neg (if0 h5)] at hV
    refine aw_iconst dX7_slot_8 rfl ⟨by decide, by decide⟩ ?_
    exact aw_iret dX7_slot_9 (by decide) (by decide) ⟨_, rfl, rfl, hV, frQ.refl M m⟩
end QR
