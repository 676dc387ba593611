/-! TreadRingModel: beginAnew, open, and the acts -/
set_option maxRecDepth 20000
theorem WF_congrS {g g' : Int → Int} {rg : Int → List Int} {gl : List Int} (h : WF0 g rg gl) (hg : ∀ i, i < 729 → g' i = g i) (hst : w_set g') : WF0 g' rg gl := by
  obtain ⟨h1, h2, h3, h4, h5, h6, h7⟩ := h
  have hR := WR_congr (g' := g') ⟨h1, h2, h3⟩ (fun i hi => hg i (by omega))
  have hpz : ∀ b, 0 ≤ b → b < 128 → pz g' b = pz g b := fun b b0 b1 => hg _ (by omega)
  have hsl : ∀ b, sl g' b ↔ sl g b := by
    intro b
    unfold sl
    constructor
    · rintro ⟨w0, w1, w2⟩
      rw [hpz b w0 w1] at w2
      exact ⟨w0, w1, w2⟩
    · rintro ⟨w0, w1, w2⟩
      rw [hpz b w0 w1]
      exact ⟨w0, w1, w2⟩
  have hob : ∀ b, ob g' b ↔ ob g b := by
    intro b
    unfold ob
    rw [hsl]
    constructor
    · rintro ⟨w1, w2⟩
      have := w1.2.1
      rw [hg b (by omega)] at w2
      exact ⟨w1, w2⟩
    · rintro ⟨w1, w2⟩
      have := w1.2.1
      rw [hg b (by omega)]
      exact ⟨w1, w2⟩
  have hnok : ∀ v, nok g' v ↔ nok g v := fun v => by unfold nok; rw [hob]
  refine ⟨hR.1, hR.2.1, hR.2.2, w_fld_congr h4 (fun i hi => hg i (by omega)), ⟨fun x x0 x1 => ?_, fun a f ha f0 f1 => ?_⟩, ?_, ?_⟩
  · rw [hnok, hg x (by omega)]; exact h5.1 x x0 x1
  · have ha' := (hob a).mp ha
    have a1 := ha'.1.2.1
    rw [hg (128 + a) (by omega)] at f1
    have hfl := (h4 a ha'.1).2 ha'.2
    have hb := base_of h1 (f := f + 1) ha'.1 (by omega) (by omega)
    rw [hnok, hg _ (by omega)]
    exact h5.2 a f ha' f0 f1
  · unfold w_run
    obtain ⟨r1, r2, r3, r4, r5⟩ := h6
    rw [hg 726 (by omega), hg 727 (by omega), hg 728 (by omega)]
    refine ⟨r1, fun e => ?_, r3, fun a => ?_, ?_⟩
    · obtain ⟨s1, s2, s3, s4⟩ := r2 e
      refine ⟨s1, s2, s3, fun a a0 a1 => ?_⟩
      rw [hg a (by omega)]; exact s4 a a0 a1
    · rw [r4 a, hob]
      constructor
      · rintro ⟨q1, q2, q3⟩
        have := q1.1.2.1
        rw [hg a (by omega)]; exact ⟨q1, q2, q3⟩
      · rintro ⟨q1, q2, q3⟩
        have := q1.1.2.1
        rw [hg a (by omega)] at q2; exact ⟨q1, q2, q3⟩
    · rcases r5 with r5 | r5
      · exact Or.inl r5
      · refine Or.inr ?_
        have := r5.1.1.2.1
        rw [hob, hg (g 727) (by omega), hg (128 + g 727) (by omega)]
        exact r5
  · exact hst

theorem WL_setg {S : hSt} (h : WL S) {w v : Int} (w0 : 0 ≤ w) (w1 : w < 4) (v0 : 0 ≤ v) (v1 : v ≤ if w < 2 then 3 else 16) : WL (nameS S (735 + w) v) := by
  refine ⟨WF_congrS h.1 (fun i hi => gu_n _ _ (by omega)) ?_, ?_⟩
  · obtain ⟨s1, s2, s3, s4⟩ := h.1.2.2.2.2.2.2
    have hw : w = 0 ∨ w = 1 ∨ w = 2 ∨ w = 3 := by omega
    unfold w_set nameS gu
    rcases hw with rfl | rfl | rfl | rfl
    · simp only [if_pos (show (0 : Int) < 2 by omega)] at v1
      simp; omega
    · simp only [if_pos (show (1 : Int) < 2 by omega)] at v1
      simp; omega
    · simp only [if_neg (show ¬ (2 : Int) < 2 by omega)] at v1
      simp; omega
    · simp only [if_neg (show ¬ (3 : Int) < 2 by omega)] at v1
      simp; omega
  · unfold w_live
    show gu S.1 (735 + w) v 726 = 1 → S.2.2 ≠ [] ∨ gu S.1 (735 + w) v 727 ≠ -1
    rw [gu_n _ _ (by omega), gu_n _ _ (by omega)]
    exact h.2
theorem MT_clr {F : Int → Int} {n : Int} (h : ∀ i, 0 ≤ i → i < 790 → F i = clrG n i) : MT F (clrS n) := by
  refine ⟨fun i i0 i1 _ _ => h i i0 i1, fun z z0 z1 => ⟨?_, fun j hj => ?_⟩, ?_, ?_, fun i hi => ?_, fun i j _ hj => ?_⟩
  · rw [h _ (by omega) (by omega), clr_0 n (by omega)]
    rfl
  · exact absurd hj (Nat.not_lt_zero _)
  · rw [h _ (by omega) (by omega), clr_0 n (by omega)]; exact Int.le_refl _
  · rw [h _ (by omega) (by omega), clr_0 n (by omega)]
    show 0 + eN (fun _ => []) ≤ 64 * (clrG n 729 + clrG n 726)
    rw [clr_0 n (by omega), clr_0 n (by omega)]
    unfold eN
    simp
  · exact absurd hi (Nat.not_lt_zero _)
  · exact absurd hj (Nat.not_lt_zero _)
set_option maxHeartbeats 1000000 in
theorem sp_beginAnew {K : az_K} {m : Int} (hK : MaK K m) (M : az_M) (n : Int) : AM yX7_beginAnew cX7_beginAnew 3 none 0 0 0 [(1, m), (0, n)] K M (qv K (fun M' => HM M' m (clrS n) ∧ ∀ x, x ≠ m + 1 → M' x = M x)) := by
  obtain ⟨km, k1, y1⟩ := hK
  refine am_of (by decide) (Nat.le_of_ble_eq_true rfl) (L := [(1, m), (0, n), (9, 0)]) rfl ?_
  generalize hQ : (fun M' : az_M => HM M' m (clrS n) ∧ ∀ x, x ≠ m + 1 → M' x = M x) = Q
  refine aw_iconst dX7_beginAnew_0 rfl ⟨by decide, by decide⟩ ?_
  refine aw_istore_n dX7_beginAnew_1 rfl (by decide) ?_
  have last : ∀ (M2 : az_M) (v : az_V), (∀ i, 0 ≤ i → i < 790 → M2 (m + 1) i = if 715 ≤ i ∧ i < 725 then -1 else 0) → (∀ x, x ≠ m + 1 → M2 x = M x) → AW az_P0 (az_Z (qv K Q) 0 0) (az_rm 0 0 0) yX7_beginAnew cX7_beginAnew 3 none 0 0 71 [(1, m), (0, n), v] [] K M2 := by
    intro M2 v f2 o2
    refine aw_aload_n dX7_beginAnew_71 rfl rfl ⟨by decide, by decide⟩ ?_
    refine aw_gzF 0 dX7_beginAnew_72 fl_RX7_7 (by assumption) rfl rfl (by assumption) ?_
    refine aw_sipush dX7_beginAnew_75 (by decide) ⟨by decide, by decide⟩ ?_
    refine aw_iload_n dX7_beginAnew_78 rfl rfl ?_
    refine aw_iast dX7_beginAnew_79 (by assumption) (by omega) (by omega) ?_
    refine aw_aload_n dX7_beginAnew_80 rfl rfl ⟨by decide, by decide⟩ ?_
    refine aw_gzF 0 dX7_beginAnew_81 fl_RX7_7 (by assumption) rfl rfl (by assumption) ?_
    refine aw_sipush dX7_beginAnew_84 (by decide) ⟨by decide, by decide⟩ ?_
    refine aw_iconst dX7_beginAnew_87 rfl ⟨by decide, by decide⟩ ?_
    refine aw_iast dX7_beginAnew_88 (by assumption) (by omega) (by omega) ?_
    refine aw_aload_n dX7_beginAnew_89 rfl rfl ⟨by decide, by decide⟩ ?_
    refine aw_gzF 0 dX7_beginAnew_90 fl_RX7_7 (by assumption) rfl rfl (by assumption) ?_
    refine aw_sipush dX7_beginAnew_93 (by decide) ⟨by decide, by decide⟩ ?_
    refine aw_iconst dX7_beginAnew_96 rfl ⟨by decide, by decide⟩ ?_
    refine aw_iast dX7_beginAnew_97 (by assumption) (by omega) (by omega) ?_
    refine aw_aload_n dX7_beginAnew_98 rfl rfl ⟨by decide, by decide⟩ ?_
    refine aw_gzF 0 dX7_beginAnew_99 fl_RX7_7 (by assumption) rfl rfl (by assumption) ?_
    refine aw_sipush dX7_beginAnew_102 (by decide) ⟨by decide, by decide⟩ ?_
    refine aw_iconst dX7_beginAnew_105 rfl ⟨by decide, by decide⟩ ?_
    refine aw_iast dX7_beginAnew_106 (by assumption) (by omega) (by omega) ?_
    refine aw_vret dX7_beginAnew_107 (by decide) (by decide) ⟨rfl, rfl, ?_⟩
    rw [← hQ]
    refine ⟨MT_clr (fun i i0 i1 => ?_), fun x hx => by rw [up_oth _ _ _ hx, up_oth _ _ _ hx, up_oth _ _ _ hx, up_oth _ _ _ hx]; exact o2 x hx⟩
    rw [up_row, up_row, up_row, up_row]
    show (if i = 738 then 2 else if i = 737 then 2 else if i = 727 then -1 else if i = 725 then n else M2 (m + 1) i) = _
    rw [f2 i i0 i1]
    unfold clrG
    by_cases e1 : i = 738
    · rw [if_pos e1, if_neg (by omega), if_neg (by omega), if_pos (by omega)]
    · rw [if_neg e1]
      by_cases e2 : i = 737
      · rw [if_pos e2, if_neg (by omega), if_neg (by omega), if_pos (by omega)]
      · rw [if_neg e2]
        by_cases e3 : i = 727
        · rw [if_pos e3, if_pos (by omega)]
        · rw [if_neg e3]
          by_cases e4 : i = 725
          · rw [if_pos e4, if_neg (by omega), if_pos e4]
          · rw [if_neg e4]
            by_cases e5 : 715 ≤ i ∧ i < 725
            · rw [if_pos e5, if_pos (by omega)]
            · rw [if_neg e5, if_neg (by omega), if_neg (by omega), if_neg (by omega)]
  have loop3 : ∀ (d : Nat) (k : Int) (M2 : az_M), 0 ≤ k → k + d = 4 → (∀ i, 0 ≤ i → i < 790 → M2 (m + 1) i = if 715 ≤ i ∧ i < 721 + k then -1 else 0) → (∀ x, x ≠ m + 1 → M2 x = M x) → AW az_P0 (az_Z (qv K Q) 0 0) (az_rm 0 0 0) yX7_beginAnew cX7_beginAnew 3 none 0 0 49 [(1, m), (0, n), (0, k)] [] K M2 := by
    intro d
    induction d with
    | zero =>
      intro k M2 k0 k1 f2 o2
      have hk : k = 4 := by omega
      subst hk
      refine aw_iload_n dX7_beginAnew_49 rfl rfl ?_
      refine aw_iconst dX7_beginAnew_50 rfl ⟨by decide, by decide⟩ ?_
      refine aw_icmp_ge (tgt := 71) dX7_beginAnew_51 rfl (fun h51 => ?_) (fun h51 => absurd h51 (by omega))
      exact last M2 _ f2 o2
    | succ d ih =>
      intro k M2 k0 k1 f2 o2
      refine aw_iload_n dX7_beginAnew_49 rfl rfl ?_
      refine aw_iconst dX7_beginAnew_50 rfl ⟨by decide, by decide⟩ ?_
      refine aw_icmp_ge (tgt := 71) dX7_beginAnew_51 rfl (fun h51 => absurd h51 (by omega)) (fun h51 => ?_)
      refine aw_aload_n dX7_beginAnew_54 rfl rfl ⟨by decide, by decide⟩ ?_
      refine aw_gzF 0 dX7_beginAnew_55 fl_RX7_7 (by assumption) rfl rfl (by assumption) ?_
      refine aw_sipush dX7_beginAnew_58 (by decide) ⟨by decide, by decide⟩ ?_
      refine aw_iload_n dX7_beginAnew_61 rfl rfl ?_
      refine aw_iadd dX7_beginAnew_62 (az_wr_id (by omega) (by omega)) ?_
      refine aw_iconst dX7_beginAnew_63 rfl ⟨by decide, by decide⟩ ?_
      refine aw_iast dX7_beginAnew_64 (by assumption) (by omega) (by omega) ?_
      refine aw_iinc dX7_beginAnew_65 rfl (az_wr_id (by omega) (by omega)) (by decide) ?_
      refine aw_goto (tgt := 49) dX7_beginAnew_68 rfl ?_
      refine ih (k + 1) _ (by omega) (by omega) (fun i i0 i1 => ?_) (fun b hb => by rw [up_oth _ _ _ hb]; exact o2 b hb)
      rw [up_row]
      show (if i = 721 + k then -1 else M2 (m + 1) i) = _
      rw [f2 i i0 i1]
      by_cases e1 : i = 721 + k
      · rw [if_pos e1, if_pos (by omega)]
      · rw [if_neg e1]
        by_cases e2 : 715 ≤ i ∧ i < 721 + k
        · rw [if_pos e2, if_pos (by omega)]
        · rw [if_neg e2, if_neg (by omega)]
  have loop2 : ∀ (d : Nat) (k : Int) (M2 : az_M), 0 ≤ k → k + d = 6 → (∀ i, 0 ≤ i → i < 790 → M2 (m + 1) i = if 715 ≤ i ∧ i < 715 + k then -1 else 0) → (∀ x, x ≠ m + 1 → M2 x = M x) → AW az_P0 (az_Z (qv K Q) 0 0) (az_rm 0 0 0) yX7_beginAnew cX7_beginAnew 3 none 0 0 24 [(1, m), (0, n), (0, k)] [] K M2 := by
    intro d
    induction d with
    | zero =>
      intro k M2 k0 k1 f2 o2
      have hk : k = 6 := by omega
      subst hk
      refine aw_iload_n dX7_beginAnew_24 rfl rfl ?_
      refine aw_bipush dX7_beginAnew_25 (by decide) ⟨by decide, by decide⟩ ?_
      refine aw_icmp_ge (tgt := 47) dX7_beginAnew_27 rfl (fun h27 => ?_) (fun h27 => absurd h27 (by omega))
      refine aw_iconst dX7_beginAnew_47 rfl ⟨by decide, by decide⟩ ?_
      refine aw_istore_n dX7_beginAnew_48 rfl (by decide) ?_
      exact loop3 4 0 M2 (by omega) (by omega) f2 o2
    | succ d ih =>
      intro k M2 k0 k1 f2 o2
      refine aw_iload_n dX7_beginAnew_24 rfl rfl ?_
      refine aw_bipush dX7_beginAnew_25 (by decide) ⟨by decide, by decide⟩ ?_
      refine aw_icmp_ge (tgt := 47) dX7_beginAnew_27 rfl (fun h27 => absurd h27 (by omega)) (fun h27 => ?_)
      refine aw_aload_n dX7_beginAnew_30 rfl rfl ⟨by decide, by decide⟩ ?_
      refine aw_gzF 0 dX7_beginAnew_31 fl_RX7_7 (by assumption) rfl rfl (by assumption) ?_
      refine aw_sipush dX7_beginAnew_34 (by decide) ⟨by decide, by decide⟩ ?_
      refine aw_iload_n dX7_beginAnew_37 rfl rfl ?_
      refine aw_iadd dX7_beginAnew_38 (az_wr_id (by omega) (by omega)) ?_
      refine aw_iconst dX7_beginAnew_39 rfl ⟨by decide, by decide⟩ ?_
      refine aw_iast dX7_beginAnew_40 (by assumption) (by omega) (by omega) ?_
      refine aw_iinc dX7_beginAnew_41 rfl (az_wr_id (by omega) (by omega)) (by decide) ?_
      refine aw_goto (tgt := 24) dX7_beginAnew_44 rfl ?_
      refine ih (k + 1) _ (by omega) (by omega) (fun i i0 i1 => ?_) (fun b hb => by rw [up_oth _ _ _ hb]; exact o2 b hb)
      rw [up_row]
      show (if i = 715 + k then -1 else M2 (m + 1) i) = _
      rw [f2 i i0 i1]
      by_cases e1 : i = 715 + k
      · rw [if_pos e1, if_pos (by omega)]
      · rw [if_neg e1]
        by_cases e2 : 715 ≤ i ∧ i < 715 + k
        · rw [if_pos e2, if_pos (by omega)]
        · rw [if_neg e2, if_neg (by omega)]
  have loop : ∀ (d : Nat) (k : Int) (M2 : az_M), 0 ≤ k → k + d = 790 → (∀ i, 0 ≤ i → i < k → M2 (m + 1) i = 0) → (∀ x, x ≠ m + 1 → M2 x = M x) → AW az_P0 (az_Z (qv K Q) 0 0) (az_rm 0 0 0) yX7_beginAnew cX7_beginAnew 3 none 0 0 2 [(1, m), (0, n), (0, k)] [] K M2 := by
    intro d
    induction d with
    | zero =>
      intro k M2 k0 k1 f2 o2
      have hk : k = 790 := by omega
      subst hk
      refine aw_iload_n dX7_beginAnew_2 rfl rfl ?_
      refine aw_sipush dX7_beginAnew_3 (by decide) ⟨by decide, by decide⟩ ?_
      refine aw_icmp_ge (tgt := 22) dX7_beginAnew_6 rfl (fun h6 => ?_) (fun h6 => absurd h6 (by omega))
      refine aw_iconst dX7_beginAnew_22 rfl ⟨by decide, by decide⟩ ?_
      refine aw_istore_n dX7_beginAnew_23 rfl (by decide) ?_
      exact loop2 6 0 M2 (by omega) (by omega) (fun i i0 i1 => by rw [if_neg (by omega)]; exact f2 i i0 i1) o2
    | succ d ih =>
      intro k M2 k0 k1 f2 o2
      refine aw_iload_n dX7_beginAnew_2 rfl rfl ?_
      refine aw_sipush dX7_beginAnew_3 (by decide) ⟨by decide, by decide⟩ ?_
      refine aw_icmp_ge (tgt := 22) dX7_beginAnew_6 rfl (fun h6 => absurd h6 (by omega)) (fun h6 => ?_)
      refine aw_aload_n dX7_beginAnew_9 rfl rfl ⟨by decide, by decide⟩ ?_
      refine aw_gzF 0 dX7_beginAnew_10 fl_RX7_7 (by assumption) rfl rfl (by assumption) ?_
      refine aw_iload_n dX7_beginAnew_13 rfl rfl ?_
      refine aw_iconst dX7_beginAnew_14 rfl ⟨by decide, by decide⟩ ?_
      refine aw_iast dX7_beginAnew_15 (by assumption) (by omega) (by omega) ?_
      refine aw_iinc dX7_beginAnew_16 rfl (az_wr_id (by omega) (by omega)) (by decide) ?_
      refine aw_goto (tgt := 2) dX7_beginAnew_19 rfl ?_
      refine ih (k + 1) _ (by omega) (by omega) (fun i i0 i1 => ?_) (fun b hb => by rw [up_oth _ _ _ hb]; exact o2 b hb)
      rw [up_row]
      show (if i = k then 0 else M2 (m + 1) i) = _
      by_cases e1 : i = k
      · rw [if_pos e1]
      · rw [if_neg e1]; exact f2 i i0 (by omega)
  exact loop 790 0 M (by omega) (by omega) (fun i i0 i1 => by omega) (fun _ _ => rfl)
section AC
variable {K : az_K} {m : Int} {M M1 M2 : az_M} {ch : hCh} {a u : Int} {bx : hCh} {bz : Int → Int} {B : Int} {T : hSt}
theorem act_fin (h1 : MDh M1 m (keepC ch a) (nxA a) 0 bx bz ∧ frX M M1 m ∧ frO M M1 m) (hT : HM M2 m T) (hf : frM M1 M2 m) : MDh M2 m (chs (keepC ch a) (nxA a) T) (nxA a) 0 bx bz ∧ frX M M2 m ∧ frO M M2 m :=
  ⟨h1.1.cur hT hf, h1.2.1.trans (frX.ofM hf), h1.2.2.trans (frO.ofM hf)⟩
theorem act_HM (hg : GW ch a u bx bz B) (h1 : MDh M1 m (keepC ch a) (nxA a) 0 bx bz) : HM M1 m (ch a) := by
  have := h1.1
  rw [keepC_cur hg.1 (by have := hg.2.1; have := hg.2.2.1; omega)] at this
  exact this
/-- the end of an act: done, or refused -/
def rA (P : Prop) (z0 : Int) (zN : Int) (T : hSt) (ch : hCh) (a u : Int) (bx : hCh) (bz : Int → Int) (M : az_M) (m : Int) : Int → az_M → Prop := fun z M' =>
  (P → z = z0 ∧ MDh M' m (chs (keepC ch a) (nxA a) T) (nxA a) 0 bx bz) ∧ (¬ P → z = zN ∧ MDh M' m ch a u bx bz) ∧ frX M M' m ∧ frO M M' m
theorem rA.no {P : Prop} {z0 zN : Int} (hp : ¬ P) (hd : MDh M m ch a u bx bz) : rA P z0 zN T ch a u bx bz M m zN M := ⟨fun q => absurd q hp, fun _ => ⟨rfl, hd⟩, frX.refl M m, frO.refl M m⟩
theorem rA.yes {P : Prop} {z0 zN : Int} (hp : P) (h : MDh M1 m (chs (keepC ch a) (nxA a) T) (nxA a) 0 bx bz ∧ frX M M1 m ∧ frO M M1 m) : rA P z0 zN T ch a u bx bz M m z0 M1 := ⟨fun _ => ⟨rfl, h.1⟩, fun q => absurd hp q, h.2⟩
theorem sp_mopen (hK : MdK K m) (M : az_M) (hd : MDh M m ch a u bx bz) (n : Int) : AM yX7_open cX7_open 2 (some .boolean) 1 0 0 [(1, m), (0, n)] K M (qi K (fun z M' => tv z (1 ≤ n ∧ n ≤ 8) ∧ (1 ≤ n ∧ n ≤ 8 → MDh M' m (fun _ => clrS n) 0 0 bx bz) ∧ (¬ (1 ≤ n ∧ n ≤ 8) → MDh M' m ch a u bx bz) ∧ frX M M' m ∧ frO M M' m)) := by
  have hK0 := hK
  obtain ⟨hKo, k3, k4, k5, k6, k7, k8, k9, k10, k11, k12, k13, k14, k15, k16, k17, k18, k19, k20, k21, k22, k23, k24, k25, y3, y4, y5, y6, y7, y8, y9, y10, y11, y12, y13, y14, y15, y16, y17, y18, y19, y20, y21, y22, y23, y24, y25⟩ := hK
  have hKo0 := hKo
  obtain ⟨hKa, k2, y2⟩ := hKo
  have hKa0 := hKa
  obtain ⟨km, k1, y1⟩ := hKa
  refine am_of (by decide) (Nat.le_of_ble_eq_true rfl) (L := [(1, m), (0, n)]) rfl ?_
  refine aw_iload_n dX7_open_0 rfl rfl ?_
  refine aw_iconst dX7_open_1 rfl ⟨by decide, by decide⟩ ?_
  refine aw_bipush dX7_open_2 (by decide) ⟨by decide, by decide⟩ ?_
  refine aw_cS3p dX7_open_4 ml_RX7_94 ⟨by decide, by decide, by decide, by decide⟩ (Nat.le_of_ble_eq_true rfl) (sp_isIn K M n 1 8) ?_
  refine aw_if_ne (tgt := 12) dX7_open_7 rfl (fun h7 => ?_) (fun h7 => ?_)
  · have hn := if1 h7
    refine aw_aload_n dX7_open_12 rfl rfl ⟨by decide, by decide⟩ ?_
    refine aw_iload_n dX7_open_13 rfl rfl ?_
    refine aw_cV1v dX7_open_14 ml_RX7_90 (by assumption) (by decide) rfl rfl ⟨by decide, by decide, by decide, by decide⟩ (Nat.le_of_ble_eq_true rfl) (sp_beginAnew hKa0 M n) (fun M1 hM1 => ?_)
    refine aw_aload_n dX7_open_17 rfl rfl ⟨by decide, by decide⟩ ?_
    refine aw_iconst dX7_open_18 rfl ⟨by decide, by decide⟩ ?_
    refine aw_pi 44 dX7_open_19 fl_RX7_250 (by assumption) rfl rfl ?_
    refine aw_aload_n dX7_open_22 rfl rfl ⟨by decide, by decide⟩ ?_
    refine aw_iconst dX7_open_23 rfl ⟨by decide, by decide⟩ ?_
    refine aw_pi 45 dX7_open_24 fl_RX7_253 (by assumption) rfl rfl ?_
    refine aw_iconst dX7_open_27 rfl ⟨by decide, by decide⟩ ?_
    refine aw_zret dX7_open_28 (by omega) (by decide) (by decide) ⟨_, rfl, rfl, tv.t hn, fun _ => ?_, fun q => absurd hn q, ?_⟩
    · have eo : ∀ c, c ≠ m → az_up (az_up M1 m 44 0) m 45 0 c = M1 c := fun c hc => by rw [up_oth _ _ _ hc, up_oth _ _ _ hc]
      refine ⟨HM_fr hM1.1 (eo _ (by omega)), ?_, ?_, fun j j0 j1 => by omega, fun j j0 j1 => by omega, fun j j0 j1 => ?_⟩
      · rw [up_row, up_row]; rfl
      · rw [up_row]; rfl
      · rw [blk_fr (eo (m + 24) (by omega)), blk_fr (hM1.2 (m + 24) (by omega)), eo _ (by omega), hM1.2 _ (by omega)]
        exact hd.2.2.2.2.2 j j0 j1
    · have eo : ∀ c, c ≠ m → c ≠ m + 1 → az_up (az_up M1 m 44 0) m 45 0 c = M c := fun c hc h1 => by rw [up_oth _ _ _ hc, up_oth _ _ _ hc, hM1.2 c h1]
      have em : ∀ j, j ≠ 44 → j ≠ 45 → az_up (az_up M1 m 44 0) m 45 0 m j = M m j := fun j h1 h2 => by rw [az_up_i _ _ _ _ h2, az_up_i _ _ _ _ h1, hM1.2 m (by omega)]
      exact ⟨⟨eo _ (by omega) (by omega), fun b b1 b2 => eo b (by omega) (by omega), em _ (by omega) (by omega), em _ (by omega) (by omega), em _ (by omega) (by omega), em _ (by omega) (by omega)⟩, fun b hb => eo b (by omega) (by omega)⟩
  · have hn := if0 h7
    refine aw_iconst dX7_open_10 rfl ⟨by decide, by decide⟩ ?_
    exact aw_zret dX7_open_11 (by omega) (by decide) (by decide) ⟨_, rfl, rfl, tv.f hn, fun q => absurd q hn, fun _ => hd, frX.refl M m, frO.refl M m⟩
theorem sp_mmake (hK : MdK K m) (M : az_M) (hg : GW ch a u bx bz B) (hB : B ≤ 19990000) (hd : MDh M m ch a u bx bz) (r f : Int) : AM yX7_make cX7_make 3 (some .int) 10 0 0 [(1, m), (0, r), (0, f)] K M (qi K (rA ((0 ≤ r ∧ r < 6) ∧ 0 ≤ f ∧ f ≤ 7) (bldA (ch a) f) (-1) (bldS (ch a) r f) ch a u bx bz M m)) := by
  have hK0 := hK
  obtain ⟨hKo, k3, k4, k5, k6, k7, k8, k9, k10, k11, k12, k13, k14, k15, k16, k17, k18, k19, k20, k21, k22, k23, k24, k25, y3, y4, y5, y6, y7, y8, y9, y10, y11, y12, y13, y14, y15, y16, y17, y18, y19, y20, y21, y22, y23, y24, y25⟩ := hK
  have hKo0 := hKo
  obtain ⟨hKa, k2, y2⟩ := hKo
  have hKa0 := hKa
  obtain ⟨km, k1, y1⟩ := hKa
  refine am_of (by decide) (Nat.le_of_ble_eq_true rfl) (L := [(1, m), (0, r), (0, f)]) rfl ?_
  have hcu := hg.cur
  have c1 := hcu.2.1
  have c2 := hcu.2.2
  have no : ¬ ((0 ≤ r ∧ r < 6) ∧ 0 ≤ f ∧ f ≤ 7) → AW az_P0 (az_Z (qi K (rA ((0 ≤ r ∧ r < 6) ∧ 0 ≤ f ∧ f ≤ 7) (bldA (ch a) f) (-1) (bldS (ch a) r f) ch a u bx bz M m)) 0 0) (az_rm 10 0 0) yX7_make cX7_make 3 (some .int) 0 0 17 [(1, m), (0, r), (0, f)] [] K M := by
    intro h
    refine aw_iconst dX7_make_17 rfl ⟨by decide, by decide⟩ ?_
    exact aw_iret dX7_make_18 (by decide) (by decide) ⟨_, rfl, rfl, rA.no h hd⟩
  refine aw_iload_n dX7_make_0 rfl rfl ?_
  refine aw_cS1p dX7_make_1 ml_RX7_216 ⟨by decide, by decide, by decide, by decide⟩ (Nat.le_of_ble_eq_true rfl) (sp_misRoot K M r) ?_
  refine aw_if_eq (tgt := 17) dX7_make_4 rfl (fun h4 => ?_) (fun h4 => ?_)
  · exact no (fun q => if0 h4 (by omega))
  · have hr := if1 h4
    refine aw_iload_n dX7_make_7 rfl rfl ?_
    refine aw_iconst dX7_make_8 rfl ⟨by decide, by decide⟩ ?_
    refine aw_bipush dX7_make_9 (by decide) ⟨by decide, by decide⟩ ?_
    refine aw_cS3p dX7_make_11 ml_RX7_94 ⟨by decide, by decide, by decide, by decide⟩ (Nat.le_of_ble_eq_true rfl) (sp_isIn K M f 0 7) ?_
    refine aw_if_ne (tgt := 19) dX7_make_14 rfl (fun h14 => ?_) (fun h14 => ?_)
    · have hf := if1 h14
      refine aw_aload_n dX7_make_19 rfl rfl ⟨by decide, by decide⟩ ?_
      refine aw_cV0v dX7_make_20 ml_RX7_219 (by assumption) (by decide) rfl rfl ⟨by decide, by decide, by decide, by decide⟩ (Nat.le_of_ble_eq_true rfl) (sp_keepAct hK0 M hg hd) (fun M1 hM1 => ?_)
      refine aw_aload_n dX7_make_23 rfl rfl ⟨by decide, by decide⟩ ?_
      refine aw_iload_n dX7_make_24 rfl rfl ?_
      refine aw_iload_n dX7_make_25 rfl rfl ?_
      refine aw_cV2i dX7_make_26 ml_RX7_222 (by assumption) (by decide) rfl rfl ⟨by decide, by decide, by decide, by decide⟩ (Nat.le_of_ble_eq_true rfl) (sp_goMake hKo0 M1 (act_HM hg hM1.1) hcu.1 (by omega) c1 r f (by omega) (by omega) (by omega) (by omega)) (fun z M2 hM2 => ?_)
      obtain ⟨e1, e2, e3⟩ := hM2
      rw [e1]
      exact aw_iret dX7_make_29 (by decide) (by decide) ⟨_, rfl, rfl, rA.yes ⟨by omega, by omega⟩ (act_fin hM1 e2 e3)⟩
    · exact no (fun q => if0 h14 (by omega))
theorem sp_mload (hK : MdK K m) (M : az_M) (hg : GW ch a u bx bz B) (hB : B ≤ 19990000) (hd : MDh M m ch a u bx bz) (r o f : Int) : AM yX7_load cX7_load 4 (some .int) 6 0 0 [(1, m), (0, r), (0, o), (0, f)] K M (qi K (rA ((0 ≤ r ∧ r < 6) ∧ (0 ≤ o ∧ o < 6) ∧ hasF (ch a) ((ch a).1 (715 + o)) f) (fetV (ch a) o f) (-2) (fetS (ch a) r o f) ch a u bx bz M m)) := by
  have hK0 := hK
  obtain ⟨hKo, k3, k4, k5, k6, k7, k8, k9, k10, k11, k12, k13, k14, k15, k16, k17, k18, k19, k20, k21, k22, k23, k24, k25, y3, y4, y5, y6, y7, y8, y9, y10, y11, y12, y13, y14, y15, y16, y17, y18, y19, y20, y21, y22, y23, y24, y25⟩ := hK
  have hKo0 := hKo
  obtain ⟨hKa, k2, y2⟩ := hKo
  have hKa0 := hKa
  obtain ⟨km, k1, y1⟩ := hKa
  refine am_of (by decide) (Nat.le_of_ble_eq_true rfl) (L := [(1, m), (0, r), (0, o), (0, f)]) rfl ?_
  have hcu := hg.cur
  have c1 := hcu.2.1
  have c2 := hcu.2.2
  refine aw_aload_n dX7_load_0 rfl rfl ⟨by decide, by decide⟩ ?_
  refine aw_iload_n dX7_load_1 rfl rfl ?_
  refine aw_iload_n dX7_load_2 rfl rfl ?_
  refine aw_iload_n dX7_load_3 rfl rfl ?_
  refine aw_cV3i dX7_load_4 ml_RX7_228 (by assumption) (by decide) rfl rfl ⟨by decide, by decide, by decide, by decide⟩ (Nat.le_of_ble_eq_true rfl) (sp_canLoad hKa0 M hd.1 hcu.1 r o f) (fun y M0 hM0 => ?_)
  refine aw_if_ne (tgt := 13) dX7_load_7 rfl (fun h7 => ?_) (fun h7 => ?_)
  · obtain ⟨t1, rfl⟩ := hM0
    have hp := tv1 t1 h7
    refine aw_aload_n dX7_load_13 rfl rfl ⟨by decide, by decide⟩ ?_
    refine aw_cV0v dX7_load_14 ml_RX7_219 (by assumption) (by decide) rfl rfl ⟨by decide, by decide, by decide, by decide⟩ (Nat.le_of_ble_eq_true rfl) (sp_keepAct hK0 M0 hg hd) (fun M1 hM1 => ?_)
    refine aw_aload_n dX7_load_17 rfl rfl ⟨by decide, by decide⟩ ?_
    refine aw_iload_n dX7_load_18 rfl rfl ?_
    refine aw_iload_n dX7_load_19 rfl rfl ?_
    refine aw_iload_n dX7_load_20 rfl rfl ?_
    refine aw_cV3i dX7_load_21 ml_RX7_231 (by assumption) (by decide) rfl rfl ⟨by decide, by decide, by decide, by decide⟩ (Nat.le_of_ble_eq_true rfl) (sp_goLoad hKo0 M1 (act_HM hg hM1.1) hcu.1 (by omega) r o f (by omega) (by omega) (by omega) (by omega) hp.2.2) (fun z M2 hM2 => ?_)
    obtain ⟨e1, e2, e3⟩ := hM2
    rw [e1]
    exact aw_iret dX7_load_24 (by decide) (by decide) ⟨_, rfl, rfl, rA.yes hp (act_fin hM1 e2 e3)⟩
  · obtain ⟨t1, rfl⟩ := hM0
    refine aw_bipush dX7_load_10 (by decide) ⟨by decide, by decide⟩ ?_
    exact aw_iret dX7_load_12 (by decide) (by decide) ⟨_, rfl, rfl, rA.no (tv0 t1 h7) hd⟩
theorem sp_mstore (hK : MdK K m) (M : az_M) (hg : GW ch a u bx bz B) (hB : B ≤ 19990000) (hd : MDh M m ch a u bx bz) (r f o : Int) : AM yX7_store cX7_store 4 (some .boolean) 6 0 0 [(1, m), (0, r), (0, f), (0, o)] K M (qi K (rA ((0 ≤ r ∧ r < 6) ∧ (o = -1 ∨ 0 ≤ o ∧ o < 6) ∧ hasF (ch a) ((ch a).1 (715 + r)) f) 1 0 (putS (ch a) r f o) ch a u bx bz M m)) := by
  have hK0 := hK
  obtain ⟨hKo, k3, k4, k5, k6, k7, k8, k9, k10, k11, k12, k13, k14, k15, k16, k17, k18, k19, k20, k21, k22, k23, k24, k25, y3, y4, y5, y6, y7, y8, y9, y10, y11, y12, y13, y14, y15, y16, y17, y18, y19, y20, y21, y22, y23, y24, y25⟩ := hK
  have hKo0 := hKo
  obtain ⟨hKa, k2, y2⟩ := hKo
  have hKa0 := hKa
  obtain ⟨km, k1, y1⟩ := hKa
  refine am_of (by decide) (Nat.le_of_ble_eq_true rfl) (L := [(1, m), (0, r), (0, f), (0, o)]) rfl ?_
  have hcu := hg.cur
  have c1 := hcu.2.1
  have c2 := hcu.2.2
  refine aw_aload_n dX7_store_0 rfl rfl ⟨by decide, by decide⟩ ?_
  refine aw_iload_n dX7_store_1 rfl rfl ?_
  refine aw_iload_n dX7_store_2 rfl rfl ?_
  refine aw_iload_n dX7_store_3 rfl rfl ?_
  refine aw_cV3i dX7_store_4 ml_RX7_241 (by assumption) (by decide) rfl rfl ⟨by decide, by decide, by decide, by decide⟩ (Nat.le_of_ble_eq_true rfl) (sp_canStore hKa0 M hd.1 hcu.1 r f o) (fun y M0 hM0 => ?_)
  refine aw_if_ne (tgt := 12) dX7_store_7 rfl (fun h7 => ?_) (fun h7 => ?_)
  · obtain ⟨t1, rfl⟩ := hM0
    have hp := tv1 t1 h7
    refine aw_aload_n dX7_store_12 rfl rfl ⟨by decide, by decide⟩ ?_
    refine aw_cV0v dX7_store_13 ml_RX7_219 (by assumption) (by decide) rfl rfl ⟨by decide, by decide, by decide, by decide⟩ (Nat.le_of_ble_eq_true rfl) (sp_keepAct hK0 M0 hg hd) (fun M1 hM1 => ?_)
    refine aw_aload_n dX7_store_16 rfl rfl ⟨by decide, by decide⟩ ?_
    refine aw_iload_n dX7_store_17 rfl rfl ?_
    refine aw_iload_n dX7_store_18 rfl rfl ?_
    refine aw_iload_n dX7_store_19 rfl rfl ?_
    refine aw_cV3v dX7_store_20 ml_RX7_244 (by assumption) (by decide) rfl rfl ⟨by decide, by decide, by decide, by decide⟩ (Nat.le_of_ble_eq_true rfl) (sp_goStore hKo0 M1 (act_HM hg hM1.1) hcu.1 (by omega) r f o (by omega) (by omega) hp.2.1 hp.2.2) (fun M2 hM2 => ?_)
    refine aw_iconst dX7_store_23 rfl ⟨by decide, by decide⟩ ?_
    exact aw_zret dX7_store_24 (by omega) (by decide) (by decide) ⟨_, rfl, rfl, rA.yes hp (act_fin hM1 hM2.1 hM2.2)⟩
  · obtain ⟨t1, rfl⟩ := hM0
    refine aw_iconst dX7_store_10 rfl ⟨by decide, by decide⟩ ?_
    exact aw_zret dX7_store_11 (by omega) (by decide) (by decide) ⟨_, rfl, rfl, rA.no (tv0 t1 h7) hd⟩
theorem sp_mcopy (hK : MdK K m) (M : az_M) (hg : GW ch a u bx bz B) (hd : MDh M m ch a u bx bz) (r o : Int) : AM yX7_copy cX7_copy 3 (some .boolean) 3 0 0 [(1, m), (0, r), (0, o)] K M (qi K (rA ((0 ≤ r ∧ r < 6) ∧ (o = -1 ∨ 0 ≤ o ∧ o < 6)) 1 0 (nameS (ch a) (715 + r) (namV (ch a) o)) ch a u bx bz M m)) := by
  have hK0 := hK
  obtain ⟨hKo, k3, k4, k5, k6, k7, k8, k9, k10, k11, k12, k13, k14, k15, k16, k17, k18, k19, k20, k21, k22, k23, k24, k25, y3, y4, y5, y6, y7, y8, y9, y10, y11, y12, y13, y14, y15, y16, y17, y18, y19, y20, y21, y22, y23, y24, y25⟩ := hK
  have hKo0 := hKo
  obtain ⟨hKa, k2, y2⟩ := hKo
  have hKa0 := hKa
  obtain ⟨km, k1, y1⟩ := hKa
  refine am_of (by decide) (Nat.le_of_ble_eq_true rfl) (L := [(1, m), (0, r), (0, o)]) rfl ?_
  have hcu := hg.cur
  have no : ¬ ((0 ≤ r ∧ r < 6) ∧ (o = -1 ∨ 0 ≤ o ∧ o < 6)) → AW az_P0 (az_Z (qi K (rA ((0 ≤ r ∧ r < 6) ∧ (o = -1 ∨ 0 ≤ o ∧ o < 6)) 1 0 (nameS (ch a) (715 + r) (namV (ch a) o)) ch a u bx bz M m)) 0 0) (az_rm 3 0 0) yX7_copy cX7_copy 3 (some .boolean) 0 0 14 [(1, m), (0, r), (0, o)] [] K M := by
    intro h
    refine aw_iconst dX7_copy_14 rfl ⟨by decide, by decide⟩ ?_
    exact aw_zret dX7_copy_15 (by omega) (by decide) (by decide) ⟨_, rfl, rfl, rA.no h hd⟩
  refine aw_iload_n dX7_copy_0 rfl rfl ?_
  refine aw_cS1p dX7_copy_1 ml_RX7_216 ⟨by decide, by decide, by decide, by decide⟩ (Nat.le_of_ble_eq_true rfl) (sp_misRoot K M r) ?_
  refine aw_if_eq (tgt := 14) dX7_copy_4 rfl (fun h4 => ?_) (fun h4 => ?_)
  · exact no (fun q => if0 h4 (by omega))
  · have hr := if1 h4
    refine aw_iload_n dX7_copy_7 rfl rfl ?_
    refine aw_cS1p dX7_copy_8 ml_RX7_235 ⟨by decide, by decide, by decide, by decide⟩ (Nat.le_of_ble_eq_true rfl) (sp_misRootOrNone K M o) ?_
    refine aw_if_ne (tgt := 16) dX7_copy_11 rfl (fun h11 => ?_) (fun h11 => ?_)
    · have ho := if1 h11
      refine aw_aload_n dX7_copy_16 rfl rfl ⟨by decide, by decide⟩ ?_
      refine aw_cV0v dX7_copy_17 ml_RX7_219 (by assumption) (by decide) rfl rfl ⟨by decide, by decide, by decide, by decide⟩ (Nat.le_of_ble_eq_true rfl) (sp_keepAct hK0 M hg hd) (fun M1 hM1 => ?_)
      have hs := act_HM hg hM1.1
      refine aw_aload_n dX7_copy_20 rfl rfl ⟨by decide, by decide⟩ ?_
      refine aw_gzF 0 dX7_copy_21 fl_RX7_7 (by assumption) rfl rfl (by assumption) ?_
      refine aw_sipush dX7_copy_24 (by decide) ⟨by decide, by decide⟩ ?_
      refine aw_iload_n dX7_copy_27 rfl rfl ?_
      refine aw_iadd dX7_copy_28 (az_wr_id (by omega) (by omega)) ?_
      refine aw_aload_n dX7_copy_29 rfl rfl ⟨by decide, by decide⟩ ?_
      refine aw_iload_n dX7_copy_30 rfl rfl ?_
      refine aw_cV1p dX7_copy_31 ml_RX7_238 (by assumption) (by decide) rfl rfl ⟨by decide, by decide, by decide, by decide⟩ (Nat.le_of_ble_eq_true rfl) (sp_named hKa0 M1 hs o ho) ?_
      refine aw_iast dX7_copy_34 (by assumption) (by omega) (by omega) ?_
      refine aw_iconst dX7_copy_35 rfl ⟨by decide, by decide⟩ ?_
      exact aw_zret dX7_copy_36 (by omega) (by decide) (by decide) ⟨_, rfl, rfl, rA.yes ⟨by omega, ho⟩ (act_fin hM1 (HM_name hs hcu.1.1 (by omega)) (fun b hb _ => up_oth _ _ _ hb))⟩
    · exact no (fun q => if0 h11 q.2)
theorem sp_mweak (hK : MdK K m) (M : az_M) (hg : GW ch a u bx bz B) (hd : MDh M m ch a u bx bz) (w o : Int) : AM yX7_weak cX7_weak 3 (some .boolean) 3 0 0 [(1, m), (0, w), (0, o)] K M (qi K (rA ((0 ≤ w ∧ w < 4) ∧ (o = -1 ∨ 0 ≤ o ∧ o < 6)) 1 0 (nameS (ch a) (721 + w) (namV (ch a) o)) ch a u bx bz M m)) := by
  have hK0 := hK
  obtain ⟨hKo, k3, k4, k5, k6, k7, k8, k9, k10, k11, k12, k13, k14, k15, k16, k17, k18, k19, k20, k21, k22, k23, k24, k25, y3, y4, y5, y6, y7, y8, y9, y10, y11, y12, y13, y14, y15, y16, y17, y18, y19, y20, y21, y22, y23, y24, y25⟩ := hK
  have hKo0 := hKo
  obtain ⟨hKa, k2, y2⟩ := hKo
  have hKa0 := hKa
  obtain ⟨km, k1, y1⟩ := hKa
  refine am_of (by decide) (Nat.le_of_ble_eq_true rfl) (L := [(1, m), (0, w), (0, o)]) rfl ?_
  have hcu := hg.cur
  have no : ¬ ((0 ≤ w ∧ w < 4) ∧ (o = -1 ∨ 0 ≤ o ∧ o < 6)) → AW az_P0 (az_Z (qi K (rA ((0 ≤ w ∧ w < 4) ∧ (o = -1 ∨ 0 ≤ o ∧ o < 6)) 1 0 (nameS (ch a) (721 + w) (namV (ch a) o)) ch a u bx bz M m)) 0 0) (az_rm 3 0 0) yX7_weak cX7_weak 3 (some .boolean) 0 0 14 [(1, m), (0, w), (0, o)] [] K M := by
    intro h
    refine aw_iconst dX7_weak_14 rfl ⟨by decide, by decide⟩ ?_
    exact aw_zret dX7_weak_15 (by omega) (by decide) (by decide) ⟨_, rfl, rfl, rA.no h hd⟩
  refine aw_iload_n dX7_weak_0 rfl rfl ?_
  refine aw_cS1p dX7_weak_1 ml_RX7_247 ⟨by decide, by decide, by decide, by decide⟩ (Nat.le_of_ble_eq_true rfl) (sp_misWeak K M w) ?_
  refine aw_if_eq (tgt := 14) dX7_weak_4 rfl (fun h4 => ?_) (fun h4 => ?_)
  · exact no (fun q => if0 h4 (by omega))
  · have hr := if1 h4
    refine aw_iload_n dX7_weak_7 rfl rfl ?_
    refine aw_cS1p dX7_weak_8 ml_RX7_235 ⟨by decide, by decide, by decide, by decide⟩ (Nat.le_of_ble_eq_true rfl) (sp_misRootOrNone K M o) ?_
    refine aw_if_ne (tgt := 16) dX7_weak_11 rfl (fun h11 => ?_) (fun h11 => ?_)
    · have ho := if1 h11
      refine aw_aload_n dX7_weak_16 rfl rfl ⟨by decide, by decide⟩ ?_
      refine aw_cV0v dX7_weak_17 ml_RX7_219 (by assumption) (by decide) rfl rfl ⟨by decide, by decide, by decide, by decide⟩ (Nat.le_of_ble_eq_true rfl) (sp_keepAct hK0 M hg hd) (fun M1 hM1 => ?_)
      have hs := act_HM hg hM1.1
      refine aw_aload_n dX7_weak_20 rfl rfl ⟨by decide, by decide⟩ ?_
      refine aw_gzF 0 dX7_weak_21 fl_RX7_7 (by assumption) rfl rfl (by assumption) ?_
      refine aw_sipush dX7_weak_24 (by decide) ⟨by decide, by decide⟩ ?_
      refine aw_iload_n dX7_weak_27 rfl rfl ?_
      refine aw_iadd dX7_weak_28 (az_wr_id (by omega) (by omega)) ?_
      refine aw_aload_n dX7_weak_29 rfl rfl ⟨by decide, by decide⟩ ?_
      refine aw_iload_n dX7_weak_30 rfl rfl ?_
      refine aw_cV1p dX7_weak_31 ml_RX7_238 (by assumption) (by decide) rfl rfl ⟨by decide, by decide, by decide, by decide⟩ (Nat.le_of_ble_eq_true rfl) (sp_named hKa0 M1 hs o ho) ?_
      refine aw_iast dX7_weak_34 (by assumption) (by omega) (by omega) ?_
      refine aw_iconst dX7_weak_35 rfl ⟨by decide, by decide⟩ ?_
      exact aw_zret dX7_weak_36 (by omega) (by decide) (by decide) ⟨_, rfl, rfl, rA.yes ⟨by omega, ho⟩ (act_fin hM1 (HM_name hs hcu.1.1 (by omega)) (fun b hb _ => up_oth _ _ _ hb))⟩
    · exact no (fun q => if0 h11 q.2)
set_option maxHeartbeats 1000000 in
theorem sp_mstrong (hK : MdK K m) (M : az_M) (hg : GW ch a u bx bz B) (hB : B ≤ 19990000) (hd : MDh M m ch a u bx bz) (r w : Int) : AM yX7_strong cX7_strong 4 (some .int) 4 0 0 [(1, m), (0, r), (0, w)] K M (qi K (rA ((0 ≤ r ∧ r < 6) ∧ 0 ≤ w ∧ w < 4) ((ch a).1 (721 + w)) (-2) (strS (ch a) r w) ch a u bx bz M m)) := by
  have hK0 := hK
  obtain ⟨hKo, k3, k4, k5, k6, k7, k8, k9, k10, k11, k12, k13, k14, k15, k16, k17, k18, k19, k20, k21, k22, k23, k24, k25, y3, y4, y5, y6, y7, y8, y9, y10, y11, y12, y13, y14, y15, y16, y17, y18, y19, y20, y21, y22, y23, y24, y25⟩ := hK
  have hKo0 := hKo
  obtain ⟨hKa, k2, y2⟩ := hKo
  have hKa0 := hKa
  obtain ⟨km, k1, y1⟩ := hKa
  refine am_of (by decide) (Nat.le_of_ble_eq_true rfl) (L := [(1, m), (0, r), (0, w), (9, 0)]) rfl ?_
  have hcu := hg.cur
  have c1 := hcu.2.1
  have c2 := hcu.2.2
  generalize hQ : rA ((0 ≤ r ∧ r < 6) ∧ 0 ≤ w ∧ w < 4) ((ch a).1 (721 + w)) (-2) (strS (ch a) r w) ch a u bx bz M m = Q
  have no : ¬ ((0 ≤ r ∧ r < 6) ∧ 0 ≤ w ∧ w < 4) → AW az_P0 (az_Z (qi K Q) 0 0) (az_rm 4 0 0) yX7_strong cX7_strong 4 (some .int) 0 0 14 [(1, m), (0, r), (0, w), (9, 0)] [] K M := by
    intro h
    refine aw_bipush dX7_strong_14 (by decide) ⟨by decide, by decide⟩ ?_
    exact aw_iret dX7_strong_16 (by decide) (by decide) ⟨_, rfl, rfl, by rw [← hQ]; exact rA.no h hd⟩
  refine aw_iload_n dX7_strong_0 rfl rfl ?_
  refine aw_cS1p dX7_strong_1 ml_RX7_216 ⟨by decide, by decide, by decide, by decide⟩ (Nat.le_of_ble_eq_true rfl) (sp_misRoot K M r) ?_
  refine aw_if_eq (tgt := 14) dX7_strong_4 rfl (fun h4 => ?_) (fun h4 => ?_)
  · exact no (fun q => if0 h4 (by omega))
  · have hr := if1 h4
    refine aw_iload_n dX7_strong_7 rfl rfl ?_
    refine aw_cS1p dX7_strong_8 ml_RX7_247 ⟨by decide, by decide, by decide, by decide⟩ (Nat.le_of_ble_eq_true rfl) (sp_misWeak K M w) ?_
    refine aw_if_ne (tgt := 17) dX7_strong_11 rfl (fun h11 => ?_) (fun h11 => ?_)
    · have hw := if1 h11
      refine aw_aload_n dX7_strong_17 rfl rfl ⟨by decide, by decide⟩ ?_
      refine aw_cV0v dX7_strong_18 ml_RX7_219 (by assumption) (by decide) rfl rfl ⟨by decide, by decide, by decide, by decide⟩ (Nat.le_of_ble_eq_true rfl) (sp_keepAct hK0 M hg hd) (fun M1 hM1 => ?_)
      have hs := act_HM hg hM1.1
      generalize hS : ch a = S at *
      have i3 := nam_nok hcu.1 (x := 721 + w) (by omega) (by omega)
      have v30 : M1 (m + 1) (721 + w) = S.1 (721 + w) := hs.1 _ (by omega) (by omega) (by omega) (by omega)
      have hw1 := nameS_wl hcu.1 (x := 715 + r) (v := S.1 (721 + w)) (by omega) i3
      have hn : nok (nameS S (715 + r) (S.1 (721 + w))).1 (S.1 (721 + w)) := (nok_gu (by omega) (by omega)).mpr i3
      have h1 := HM_name (v := S.1 (721 + w)) hs hcu.1.1 (x := 715 + r) (by omega)
      have e7 : (nameS S (715 + r) (S.1 (721 + w))).1 729 = S.1 729 := gu_n _ _ (by omega)
      have e8 : (nameS S (715 + r) (S.1 (721 + w))).1 735 = S.1 735 := gu_n _ _ (by omega)
      have e9 : (nameS S (715 + r) (S.1 (721 + w))).1 726 = S.1 726 := gu_n _ _ (by omega)
      have hfe : strS S r w = if S.1 735 ≠ 3 then greyS (nameS S (715 + r) (S.1 (721 + w))) (S.1 (721 + w)) else nameS S (715 + r) (S.1 (721 + w)) := rfl
      have hset := hcu.1.1.2.2.2.2.2.2.1
      refine aw_aload_n dX7_strong_21 rfl rfl ⟨by decide, by decide⟩ ?_
      refine aw_gzF 0 dX7_strong_22 fl_RX7_7 (by assumption) rfl rfl (by assumption) ?_
      refine aw_sipush dX7_strong_25 (by decide) ⟨by decide, by decide⟩ ?_
      refine aw_iload_n dX7_strong_28 rfl rfl ?_
      refine aw_iadd dX7_strong_29 (az_wr_id (by omega) (by omega)) ?_
      refine aw_iv dX7_strong_30 (by assumption) (by omega) (by omega) v30 ?_
      refine aw_istore_n dX7_strong_31 rfl (by decide) ?_
      refine aw_aload_n dX7_strong_32 rfl rfl ⟨by decide, by decide⟩ ?_
      refine aw_gzF 0 dX7_strong_33 fl_RX7_7 (by assumption) rfl rfl (by assumption) ?_
      refine aw_sipush dX7_strong_36 (by decide) ⟨by decide, by decide⟩ ?_
      refine aw_iload_n dX7_strong_39 rfl rfl ?_
      refine aw_iadd dX7_strong_40 (az_wr_id (by omega) (by omega)) ?_
      refine aw_iload_n dX7_strong_41 rfl rfl ?_
      refine aw_iast dX7_strong_42 (by assumption) (by omega) (by omega) ?_
      have fo : frM M1 (az_up M1 (m + 1) (715 + r) (S.1 (721 + w))) m := fun b hb _ => up_oth _ _ _ hb
      generalize az_up M1 (m + 1) (715 + r) (S.1 (721 + w)) = M2 at h1 fo
      generalize hN : nameS S (715 + r) (S.1 (721 + w)) = N at *
      have v37 : M2 (m + 1) 726 = N.1 726 := h1.1 726 (by omega) (by omega) (by omega) (by omega)
      have v50 : M2 (m + 1) 735 = S.1 735 := (h1.1 735 (by omega) (by omega) (by omega) (by omega)).trans e8
      have hrs := sp_runs hKa0 M2
      rw [v37, e9] at hrs
      have fin : ∀ b : Int, b = 0 ∨ b = 1 → strS S r w = (if b = 1 then greyS N (S.1 (721 + w)) else N) → AW az_P0 (az_Z (qi K Q) 0 0) (az_rm 4 0 0) yX7_strong cX7_strong 4 (some .int) 0 0 69 [(1, m), (0, r), (0, w), (0, S.1 (721 + w))] [(0, b), (0, S.1 (721 + w)), (1, m)] K M2 := by
        intro b hb he
        have hg2 := sp_mgrey hKa0 M2 h1 hw1.1 (by omega) (S.1 (721 + w)) b hn hb
        rw [← he] at hg2
        refine aw_cV2v dX7_strong_69 ml_RX7_142 (by assumption) (by decide) rfl rfl ⟨by decide, by decide, by decide, by decide⟩ (Nat.le_of_ble_eq_true rfl) (hg2) (fun M3 hM3 => ?_)
        refine aw_iload_n dX7_strong_72 rfl rfl ?_
        exact aw_iret dX7_strong_73 (by decide) (by decide) ⟨_, rfl, rfl, by rw [← hQ]; exact rA.yes ⟨by omega, by omega, by omega⟩ (act_fin hM1 hM3.1 (fo.trans (frM.of hM3.2)))⟩
      refine aw_aload_n dX7_strong_43 rfl rfl ⟨by decide, by decide⟩ ?_
      refine aw_iload_n dX7_strong_44 rfl rfl ?_
      refine aw_aload_n dX7_strong_45 rfl rfl ⟨by decide, by decide⟩ ?_
      refine aw_cV0p dX7_strong_46 ml_RX7_181 (by assumption) (by decide) rfl rfl ⟨by decide, by decide, by decide, by decide⟩ (Nat.le_of_ble_eq_true rfl) (hrs) ?_
      refine aw_if_eq (tgt := 68) dX7_strong_49 rfl (fun h49 => ?_) (fun h49 => ?_)
      · have e1 : ¬ S.1 726 = 1 := if0 h49
        refine aw_iconst dX7_strong_68 rfl ⟨by decide, by decide⟩ ?_
        refine fin 0 (by omega) ?_
        rw [hfe, greyS_off hw1.1 (by rw [e9]; exact e1) hn]
        split <;> rfl
      · refine aw_aload_n dX7_strong_52 rfl rfl ⟨by decide, by decide⟩ ?_
        refine aw_gzF 0 dX7_strong_53 fl_RX7_7 (by assumption) rfl rfl (by assumption) ?_
        refine aw_sipush dX7_strong_56 (by decide) ⟨by decide, by decide⟩ ?_
        refine aw_iv dX7_strong_59 (by assumption) (by omega) (by omega) v50 ?_
        refine aw_iconst dX7_strong_60 rfl ⟨by decide, by decide⟩ ?_
        refine aw_icmp_gt (tgt := 68) dX7_strong_61 rfl (fun h61 => ?_) (fun h61 => ?_)
        · refine aw_iconst dX7_strong_68 rfl ⟨by decide, by decide⟩ ?_
          refine fin 0 (by omega) ?_
          rw [hfe, if_neg (by omega)]; rfl
        · refine aw_iconst dX7_strong_64 rfl ⟨by decide, by decide⟩ ?_
          refine aw_goto (tgt := 69) dX7_strong_65 rfl ?_
          refine fin 1 (by omega) ?_
          rw [hfe, if_pos (by omega)]; rfl
    · exact no (fun q => if0 h11 (by omega))
theorem sp_mstart (hK : MdK K m) (M : az_M) (hg : GW ch a u bx bz B) (hB : B ≤ 19990000) (hd : MDh M m ch a u bx bz) : AM yX7_start cX7_start 1 (some .boolean) 6 0 0 [(1, m)] K M (qi K (rA ((ch a).1 726 = 0) 1 0 (startS (ch a)) ch a u bx bz M m)) := by
  have hK0 := hK
  obtain ⟨hKo, k3, k4, k5, k6, k7, k8, k9, k10, k11, k12, k13, k14, k15, k16, k17, k18, k19, k20, k21, k22, k23, k24, k25, y3, y4, y5, y6, y7, y8, y9, y10, y11, y12, y13, y14, y15, y16, y17, y18, y19, y20, y21, y22, y23, y24, y25⟩ := hK
  have hKo0 := hKo
  obtain ⟨hKa, k2, y2⟩ := hKo
  have hKa0 := hKa
  obtain ⟨km, k1, y1⟩ := hKa
  refine am_of (by decide) (Nat.le_of_ble_eq_true rfl) (L := [(1, m)]) rfl ?_
  have hcu := hg.cur
  have c1 := hcu.2.1
  have c2 := hcu.2.2
  have h01 := run01 hcu.1
  have v1 : M (m + 1) 726 = (ch a).1 726 := hd.1.1 726 (by omega) (by omega) (by omega) (by omega)
  have hrs := sp_runs hKa0 M
  rw [v1] at hrs
  refine aw_aload_n dX7_start_0 rfl rfl ⟨by decide, by decide⟩ ?_
  refine aw_cV0p dX7_start_1 ml_RX7_181 (by assumption) (by decide) rfl rfl ⟨by decide, by decide, by decide, by decide⟩ (Nat.le_of_ble_eq_true rfl) (hrs) ?_
  refine aw_if_eq (tgt := 9) dX7_start_4 rfl (fun h4 => ?_) (fun h4 => ?_)
  · have e1 := if0 h4
    have e2 : (ch a).1 726 = 0 := by omega
    refine aw_aload_n dX7_start_9 rfl rfl ⟨by decide, by decide⟩ ?_
    refine aw_cV0v dX7_start_10 ml_RX7_219 (by assumption) (by decide) rfl rfl ⟨by decide, by decide, by decide, by decide⟩ (Nat.le_of_ble_eq_true rfl) (sp_keepAct hK0 M hg hd) (fun M1 hM1 => ?_)
    refine aw_aload_n dX7_start_13 rfl rfl ⟨by decide, by decide⟩ ?_
    refine aw_cV0v dX7_start_14 ml_RX7_207 (by assumption) (by decide) rfl rfl ⟨by decide, by decide, by decide, by decide⟩ (Nat.le_of_ble_eq_true rfl) (sp_goStart hKa0 M1 (act_HM hg hM1.1) hcu.1.1 e2 (by omega) c1) (fun M2 hM2 => ?_)
    refine aw_iconst dX7_start_17 rfl ⟨by decide, by decide⟩ ?_
    exact aw_zret dX7_start_18 (by omega) (by decide) (by decide) ⟨_, rfl, rfl, rA.yes e2 (act_fin hM1 hM2.1 (frM.of hM2.2))⟩
  · have e1 := if1 h4
    refine aw_iconst dX7_start_7 rfl ⟨by decide, by decide⟩ ?_
    exact aw_zret dX7_start_8 (by omega) (by decide) (by decide) ⟨_, rfl, rfl, rA.no (by omega) hd⟩
theorem sp_mwork (hK : MdK K m) (M : az_M) (hg : GW ch a u bx bz B) (hB : B ≤ 19990000) (hd : MDh M m ch a u bx bz) (n : Int) : AM yX7_work cX7_work 2 (some .int) 7 0 0 [(1, m), (0, n)] K M (qi K (rA ((ch a).1 726 = 1 ∧ 1 ≤ n ∧ n ≤ 500) (advN n.toNat (ch a) : Int) (-1) (advS n.toNat (ch a)) ch a u bx bz M m)) := by
  have hK0 := hK
  obtain ⟨hKo, k3, k4, k5, k6, k7, k8, k9, k10, k11, k12, k13, k14, k15, k16, k17, k18, k19, k20, k21, k22, k23, k24, k25, y3, y4, y5, y6, y7, y8, y9, y10, y11, y12, y13, y14, y15, y16, y17, y18, y19, y20, y21, y22, y23, y24, y25⟩ := hK
  have hKo0 := hKo
  obtain ⟨hKa, k2, y2⟩ := hKo
  have hKa0 := hKa
  obtain ⟨km, k1, y1⟩ := hKa
  refine am_of (by decide) (Nat.le_of_ble_eq_true rfl) (L := [(1, m), (0, n)]) rfl ?_
  have hcu := hg.cur
  have c1 := hcu.2.1
  have c2 := hcu.2.2
  have v1 : M (m + 1) 726 = (ch a).1 726 := hd.1.1 726 (by omega) (by omega) (by omega) (by omega)
  have hrs := sp_runs hKa0 M
  rw [v1] at hrs
  have no : ¬ ((ch a).1 726 = 1 ∧ 1 ≤ n ∧ n ≤ 500) → AW az_P0 (az_Z (qi K (rA ((ch a).1 726 = 1 ∧ 1 ≤ n ∧ n ≤ 500) (advN n.toNat (ch a) : Int) (-1) (advS n.toNat (ch a)) ch a u bx bz M m)) 0 0) (az_rm 7 0 0) yX7_work cX7_work 2 (some .int) 0 0 18 [(1, m), (0, n)] [] K M := by
    intro h
    refine aw_iconst dX7_work_18 rfl ⟨by decide, by decide⟩ ?_
    exact aw_iret dX7_work_19 (by decide) (by decide) ⟨_, rfl, rfl, rA.no h hd⟩
  refine aw_aload_n dX7_work_0 rfl rfl ⟨by decide, by decide⟩ ?_
  refine aw_cV0p dX7_work_1 ml_RX7_181 (by assumption) (by decide) rfl rfl ⟨by decide, by decide, by decide, by decide⟩ (Nat.le_of_ble_eq_true rfl) (hrs) ?_
  refine aw_if_eq (tgt := 18) dX7_work_4 rfl (fun h4 => ?_) (fun h4 => ?_)
  · exact no (fun q => if0 h4 q.1)
  · have e1 := if1 h4
    refine aw_iload_n dX7_work_7 rfl rfl ?_
    refine aw_iconst dX7_work_8 rfl ⟨by decide, by decide⟩ ?_
    refine aw_sipush dX7_work_9 (by decide) ⟨by decide, by decide⟩ ?_
    refine aw_cS3p dX7_work_12 ml_RX7_94 ⟨by decide, by decide, by decide, by decide⟩ (Nat.le_of_ble_eq_true rfl) (sp_isIn K M n 1 500) ?_
    refine aw_if_ne (tgt := 20) dX7_work_15 rfl (fun h15 => ?_) (fun h15 => ?_)
    · have e2 := if1 h15
      refine aw_aload_n dX7_work_20 rfl rfl ⟨by decide, by decide⟩ ?_
      refine aw_cV0v dX7_work_21 ml_RX7_219 (by assumption) (by decide) rfl rfl ⟨by decide, by decide, by decide, by decide⟩ (Nat.le_of_ble_eq_true rfl) (sp_keepAct hK0 M hg hd) (fun M1 hM1 => ?_)
      refine aw_aload_n dX7_work_24 rfl rfl ⟨by decide, by decide⟩ ?_
      refine aw_iload_n dX7_work_25 rfl rfl ?_
      refine aw_cV1i dX7_work_26 ml_RX7_189 (by assumption) (by decide) rfl rfl ⟨by decide, by decide, by decide, by decide⟩ (Nat.le_of_ble_eq_true rfl) (sp_goSteps hKo0 M1 (act_HM hg hM1.1) hcu.1 (by omega) c1 n (by omega) (by omega)) (fun z M2 hM2 => ?_)
      obtain ⟨g1, g2, g3⟩ := hM2
      rw [g1]
      exact aw_iret dX7_work_29 (by decide) (by decide) ⟨_, rfl, rfl, rA.yes ⟨e1, e2⟩ (act_fin hM1 g2 g3)⟩
    · exact no (fun q => if0 h15 q.2)
theorem sp_mturn (hK : MdK K m) (M : az_M) (hg : GW ch a u bx bz B) (hd : MDh M m ch a u bx bz) (w v : Int) : AM yX7_turn cX7_turn 4 (some .int) 1 0 0 [(1, m), (0, w), (0, v)] K M (qi K (rA ((0 ≤ w ∧ w < 4) ∧ (0 ≤ v ∧ v ≤ if w < 2 then 3 else 16) ∧ ¬ (w = 0 ∧ (ch a).1 726 = 1)) ((ch a).1 (735 + w)) (-1) (nameS (ch a) (735 + w) v) ch a u bx bz M m)) := by
  have hK0 := hK
  obtain ⟨hKo, k3, k4, k5, k6, k7, k8, k9, k10, k11, k12, k13, k14, k15, k16, k17, k18, k19, k20, k21, k22, k23, k24, k25, y3, y4, y5, y6, y7, y8, y9, y10, y11, y12, y13, y14, y15, y16, y17, y18, y19, y20, y21, y22, y23, y24, y25⟩ := hK
  have hKo0 := hKo
  obtain ⟨hKa, k2, y2⟩ := hKo
  have hKa0 := hKa
  obtain ⟨km, k1, y1⟩ := hKa
  refine am_of (by decide) (Nat.le_of_ble_eq_true rfl) (L := [(1, m), (0, w), (0, v), (9, 0)]) rfl ?_
  have hcu := hg.cur
  have v1 : M (m + 1) 726 = (ch a).1 726 := hd.1.1 726 (by omega) (by omega) (by omega) (by omega)
  have hrs := sp_runs hKa0 M
  rw [v1] at hrs
  generalize hQ : rA ((0 ≤ w ∧ w < 4) ∧ (0 ≤ v ∧ v ≤ if w < 2 then 3 else 16) ∧ ¬ (w = 0 ∧ (ch a).1 726 = 1)) ((ch a).1 (735 + w)) (-1) (nameS (ch a) (735 + w) v) ch a u bx bz M m = Q
  have no : ¬ ((0 ≤ w ∧ w < 4) ∧ (0 ≤ v ∧ v ≤ if w < 2 then 3 else 16) ∧ ¬ (w = 0 ∧ (ch a).1 726 = 1)) → AW az_P0 (az_Z (qi K Q) 0 0) (az_rm 1 0 0) yX7_turn cX7_turn 4 (some .int) 0 0 39 [(1, m), (0, w), (0, v), (9, 0)] [] K M := by
    intro h
    refine aw_iconst dX7_turn_39 rfl ⟨by decide, by decide⟩ ?_
    exact aw_iret dX7_turn_40 (by decide) (by decide) ⟨_, rfl, rfl, by rw [← hQ]; exact rA.no h hd⟩
  have yes : (0 ≤ w ∧ w < 4) ∧ (0 ≤ v ∧ v ≤ if w < 2 then 3 else 16) ∧ ¬ (w = 0 ∧ (ch a).1 726 = 1) → AW az_P0 (az_Z (qi K Q) 0 0) (az_rm 1 0 0) yX7_turn cX7_turn 4 (some .int) 0 0 41 [(1, m), (0, w), (0, v), (9, 0)] [] K M := by
    intro h
    have w0 := h.1.1
    have w1 := h.1.2
    refine aw_aload_n dX7_turn_41 rfl rfl ⟨by decide, by decide⟩ ?_
    refine aw_cV0v dX7_turn_42 ml_RX7_219 (by assumption) (by decide) rfl rfl ⟨by decide, by decide, by decide, by decide⟩ (Nat.le_of_ble_eq_true rfl) (sp_keepAct hK0 M hg hd) (fun M1 hM1 => ?_)
    have hs := act_HM hg hM1.1
    have v54 : M1 (m + 1) (735 + w) = (ch a).1 (735 + w) := hs.1 _ (by omega) (by omega) (by omega) (by omega)
    refine aw_aload_n dX7_turn_45 rfl rfl ⟨by decide, by decide⟩ ?_
    refine aw_gzF 0 dX7_turn_46 fl_RX7_7 (by assumption) rfl rfl (by assumption) ?_
    refine aw_sipush dX7_turn_49 (by decide) ⟨by decide, by decide⟩ ?_
    refine aw_iload_n dX7_turn_52 rfl rfl ?_
    refine aw_iadd dX7_turn_53 (az_wr_id (by omega) (by omega)) ?_
    refine aw_iv dX7_turn_54 (by assumption) (by omega) (by omega) v54 ?_
    refine aw_istore_n dX7_turn_55 rfl (by decide) ?_
    refine aw_aload_n dX7_turn_56 rfl rfl ⟨by decide, by decide⟩ ?_
    refine aw_gzF 0 dX7_turn_57 fl_RX7_7 (by assumption) rfl rfl (by assumption) ?_
    refine aw_sipush dX7_turn_60 (by decide) ⟨by decide, by decide⟩ ?_
    refine aw_iload_n dX7_turn_63 rfl rfl ?_
    refine aw_iadd dX7_turn_64 (az_wr_id (by omega) (by omega)) ?_
    refine aw_iload_n dX7_turn_65 rfl rfl ?_
    refine aw_iast dX7_turn_66 (by assumption) (by omega) (by omega) ?_
    refine aw_iload_n dX7_turn_67 rfl rfl ?_
    exact aw_iret dX7_turn_68 (by decide) (by decide) ⟨_, rfl, rfl, by rw [← hQ]; exact rA.yes h (act_fin hM1 (HM_up hs hcu.1.1 (by omega) (by omega) (by omega) (by omega)) (fun b hb _ => up_oth _ _ _ hb))⟩
  have mid : ∀ z : Int, z = (if w < 2 then 3 else 16) → 0 ≤ w ∧ w ≤ 3 → AW az_P0 (az_Z (qi K Q) 0 0) (az_rm 1 0 0) yX7_turn cX7_turn 4 (some .int) 0 0 22 [(1, m), (0, w), (0, v), (9, 0)] [(0, z), (0, 0), (0, v)] K M := by
    intro z hz hw
    refine aw_cS3p dX7_turn_22 ml_RX7_94 ⟨by decide, by decide, by decide, by decide⟩ (Nat.le_of_ble_eq_true rfl) (sp_isIn K M v 0 z) ?_
    refine aw_if_eq (tgt := 39) dX7_turn_25 rfl (fun h25 => ?_) (fun h25 => ?_)
    · exact no (fun q => if0 h25 (by rw [hz]; exact q.2.1))
    · have hv := if1 h25
      rw [hz] at hv
      refine aw_iload_n dX7_turn_28 rfl rfl ?_
      refine aw_if_ne (tgt := 41) dX7_turn_29 rfl (fun h29 => ?_) (fun h29 => ?_)
      · exact yes ⟨by omega, hv, fun q => h29 q.1⟩
      · refine aw_aload_n dX7_turn_32 rfl rfl ⟨by decide, by decide⟩ ?_
        refine aw_cV0p dX7_turn_33 ml_RX7_181 (by assumption) (by decide) rfl rfl ⟨by decide, by decide, by decide, by decide⟩ (Nat.le_of_ble_eq_true rfl) (hrs) ?_
        refine aw_if_eq (tgt := 41) dX7_turn_36 rfl (fun h36 => ?_) (fun h36 => ?_)
        · exact yes ⟨by omega, hv, fun q => if0 h36 q.2⟩
        · exact no (fun q => q.2.2 ⟨h29, if1 h36⟩)
  refine aw_iload_n dX7_turn_0 rfl rfl ?_
  refine aw_iconst dX7_turn_1 rfl ⟨by decide, by decide⟩ ?_
  refine aw_iconst dX7_turn_2 rfl ⟨by decide, by decide⟩ ?_
  refine aw_cS3p dX7_turn_3 ml_RX7_94 ⟨by decide, by decide, by decide, by decide⟩ (Nat.le_of_ble_eq_true rfl) (sp_isIn K M w 0 3) ?_
  refine aw_if_eq (tgt := 39) dX7_turn_6 rfl (fun h6 => ?_) (fun h6 => ?_)
  · exact no (fun q => if0 h6 (by omega))
  · have hw := if1 h6
    refine aw_iload_n dX7_turn_9 rfl rfl ?_
    refine aw_iconst dX7_turn_10 rfl ⟨by decide, by decide⟩ ?_
    refine aw_iload_n dX7_turn_11 rfl rfl ?_
    refine aw_iconst dX7_turn_12 rfl ⟨by decide, by decide⟩ ?_
    refine aw_icmp_ge (tgt := 20) dX7_turn_13 rfl (fun h13 => ?_) (fun h13 => ?_)
    · refine aw_bipush dX7_turn_20 (by decide) ⟨by decide, by decide⟩ ?_
      exact mid 16 (by rw [if_neg (by omega)]) hw
    · refine aw_iconst dX7_turn_16 rfl ⟨by decide, by decide⟩ ?_
      refine aw_goto (tgt := 22) dX7_turn_17 rfl ?_
      exact mid 3 (by rw [if_pos (by omega)]) hw
end AC
