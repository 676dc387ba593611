/-! counting; TreadRingModel's questions -/
set_option maxRecDepth 20000
theorem sumN_even {f : Int → Int} (h : ∀ n : Int, f (2 * n + 1) = 0) (k : Nat) : sumN (2 * k) f = sumN k (fun n => f (2 * n)) := by
  induction k with
  | zero => rfl
  | succ k ih =>
    rw [show 2 * (k + 1) = 2 * k + 1 + 1 by omega]
    show sumN (2 * k) f + f ((2 * k : Nat) : Int) + f ((2 * k + 1 : Nat) : Int) = sumN k (fun n => f (2 * n)) + f (2 * (k : Int))
    rw [ih, show ((2 * k + 1 : Nat) : Int) = 2 * (k : Int) + 1 by omega, h, show ((2 * k : Nat) : Int) = 2 * (k : Int) by omega]
    omega
theorem sumN_one (x c : Int) (n : Nat) (hx : 0 ≤ x) : sumN n (fun a => if a = x then c else 0) = if x < n then c else 0 := by
  induction n with
  | zero => rw [if_neg (by omega)]; rfl
  | succ n ih =>
    show sumN n (fun a => if a = x then c else 0) + (if (n : Int) = x then c else 0) = _
    rw [ih]
    by_cases e : (n : Int) = x
    · rw [if_pos e, if_neg (by omega), if_pos (by omega)]; omega
    · rw [if_neg e]
      by_cases e2 : x < n
      · rw [if_pos e2, if_pos (by omega)]; omega
      · rw [if_neg e2, if_neg (by omega)]; omega
/-- a sum over a list without doubles, place by place -/
theorem sumI_sumN (f : Int → Int) (n : Nat) : ∀ l : List Int, l.Nodup → (∀ x ∈ l, 0 ≤ x ∧ x < (n : Int)) → sumI l f = sumN n (fun a => if a ∈ l then f a else 0) := by
  intro l
  induction l with
  | nil => intro _ _; rw [show (fun a : Int => if a ∈ ([] : List Int) then f a else 0) = fun _ => 0 from by funext a; simp, sumN_zero]; rfl
  | cons x t ih =>
    intro hn hx
    obtain ⟨h1, h2⟩ := List.nodup_cons.mp hn
    have hx0 := hx x List.mem_cons_self
    show f x + sumI t f = _
    rw [ih h2 (fun y hy => hx y (List.mem_cons_of_mem _ hy))]
    have e : (fun a : Int => if a ∈ x :: t then f a else 0) = fun a => (if a = x then f x else 0) + (if a ∈ t then f a else 0) := by
      funext a
      by_cases q : a = x
      · subst q
        rw [if_pos List.mem_cons_self, if_pos rfl, if_neg h1]; omega
      · rw [if_neg q]
        by_cases q2 : a ∈ t
        · rw [if_pos (List.mem_cons_of_mem _ q2), if_pos q2]; omega
        · rw [if_neg (fun w => (List.mem_cons.mp w).elim q q2), if_neg q2]; omega
    rw [e, sumN_add, sumN_one x (f x) n hx0.1, if_pos hx0.2]
theorem sumI_len1 (l : List Int) : sumI l (fun _ => 1) = (l.length : Int) := by
  induction l with
  | nil => rfl
  | cons x t ih => show 1 + sumI t (fun _ => 1) = _; rw [ih, List.length_cons]; omega
section CN
variable {g : Int → Int} {rg : Int → List Int}
/-- of a row's nodes those in a page -/
theorem fl_sum (hw : WR g rg) {j p : Int} (j0 : 0 ≤ j) (j1 : j < 12) (p0 : 0 ≤ p) (p8 : p < 8) : fl rg j p = sumN 8 (fun c => if 8 * p + c ∈ rg j then 1 else 0) := by
  unfold fl
  have key : ∀ l : List Int, l.Nodup → (((l.filter (fun n => n / 8 == p)).length : Nat) : Int) = sumN 8 (fun c => if 8 * p + c ∈ l then 1 else 0) := by
    intro l
    induction l with
    | nil => intro _; rw [show (fun c : Int => if 8 * p + c ∈ ([] : List Int) then (1 : Int) else 0) = fun _ => 0 from by funext a; simp, sumN_zero]; rfl
    | cons x t ih =>
      intro hn
      obtain ⟨h1, h2⟩ := List.nodup_cons.mp hn
      have e : (fun c : Int => if 8 * p + c ∈ x :: t then (1 : Int) else 0) = fun c => (if c = x - 8 * p then 1 else 0) + (if 8 * p + c ∈ t then 1 else 0) := by
        funext c
        by_cases q : c = x - 8 * p
        · have q' : 8 * p + c = x := by omega
          rw [if_pos q, q', if_pos List.mem_cons_self, if_neg h1]; omega
        · rw [if_neg q]
          by_cases q2 : 8 * p + c ∈ t
          · rw [if_pos (List.mem_cons_of_mem _ q2), if_pos q2]; omega
          · rw [if_neg (fun w => (List.mem_cons.mp w).elim (fun w => q (by omega)) q2), if_neg q2]; omega
      rw [e, sumN_add, ← ih h2]
      by_cases q : x / 8 = p
      · rw [List.filter_cons_of_pos (by simpa using q), List.length_cons, sumN_one _ _ _ (by omega), if_pos (by omega)]; omega
      · rw [List.filter_cons_of_neg (by simpa using q)]
        by_cases q0 : 0 ≤ x - 8 * p
        · rw [sumN_one _ _ _ q0, if_neg (by omega)]; omega
        · have : sumN 8 (fun c => if c = x - 8 * p then (1 : Int) else 0) = sumN 8 (fun _ => 0) := sumN_congr 8 (fun i hi => by rw [if_neg (by omega)])
          rw [this, sumN_zero]; omega
  exact key _ (hw.2.2 j j0 j1).1
theorem mem_row (hw : WR g rg) {k n : Int} (k0 : 0 ≤ k) (k1 : k < 12) : n ∈ rg k ↔ 0 ≤ n ∧ n < 64 ∧ sl g (2 * n) ∧ kz g (2 * n) + g (2 * n) = k := (hw.2.2 k k0 k1).2 n
/-- a page's slots: those that are free and those that are not -/
theorem page_cnt (hw : WR g rg) {p : Int} (p0 : 0 ≤ p) (p8 : p < 8) (hz : g (707 + p) ≠ 0) : us rg p + fl rg (g (707 + p) / 4 * 4) p = 16 / g (707 + p) := by
  have hs0 := (hw.1.2.2 p p0 p8).1
  have hs : g (707 + p) = 2 ∨ g (707 + p) = 4 ∨ g (707 + p) = 8 := by omega
  obtain ⟨s, hsd⟩ : ∃ s, s = g (707 + p) := ⟨_, rfl⟩
  rw [← hsd] at hs ⊢
  have hpz : ∀ c : Int, 0 ≤ c → c < 8 → pz g (2 * (8 * p + c)) = s := fun c c0 c1 => by unfold pz; rw [show 2 * (8 * p + c) / 16 = p by omega, hsd]
  have hsl : ∀ c : Int, 0 ≤ c → c < 8 → (sl g (2 * (8 * p + c)) ↔ 2 * c % s = 0) := by
    intro c c0 c1
    unfold sl
    rw [hpz c c0 c1]
    constructor
    · rintro ⟨-, -, -, h⟩
      rcases hs with e | e | e <;> rw [e] at h ⊢ <;> omega
    · intro h
      refine ⟨by omega, by omega, by omega, ?_⟩
      rcases hs with e | e | e <;> rw [e] at h ⊢ <;> omega
  have h1 : us rg p = sumN 8 (fun c => sumI [1, 2, 3, 5, 6, 7, 9, 10, 11] (fun j => if 8 * p + c ∈ rg j then 1 else 0)) := by
    rw [sumN_sumI]
    unfold us
    refine sumI_congr _ (fun j hj => ?_)
    simp only [List.mem_cons, List.mem_nil_iff, or_false] at hj
    exact fl_sum hw (by omega) (by omega) p0 p8
  rw [h1, fl_sum hw (by omega) (by omega) p0 p8, ← sumN_add]
  have h2 : ∀ i : Nat, i < 8 → (sumI [1, 2, 3, 5, 6, 7, 9, 10, 11] (fun j => if 8 * p + (i : Int) ∈ rg j then 1 else 0) + if 8 * p + (i : Int) ∈ rg (s / 4 * 4) then 1 else 0) = if 2 * (i : Int) % s = 0 then (1 : Int) else 0 := by
    intro i hi
    have hkz : kz g (2 * (8 * p + (i : Int))) = s / 4 * 4 := by unfold kz; rw [hpz _ (by omega) (by omega)]
    have hm : ∀ k, 0 ≤ k → k < 12 → (8 * p + (i : Int) ∈ rg k ↔ 2 * (i : Int) % s = 0 ∧ s / 4 * 4 + g (2 * (8 * p + (i : Int))) = k) := by
      intro k k0 k1
      rw [mem_row hw k0 k1, hsl _ (by omega) (by omega), hkz]
      constructor
      · rintro ⟨-, -, a, b⟩; exact ⟨a, b⟩
      · rintro ⟨a, b⟩; exact ⟨by omega, by omega, a, b⟩
    have hcol := hw.2.1 (2 * (8 * p + (i : Int))) (by omega) (by omega)
    simp only [sumI]
    rw [show (if 8 * p + (i : Int) ∈ rg (s / 4 * 4) then (1 : Int) else 0) = if 2 * (i : Int) % s = 0 ∧ s / 4 * 4 + g (2 * (8 * p + (i : Int))) = s / 4 * 4 then 1 else 0 from by simp only [hm (s / 4 * 4) (by omega) (by omega)]]
    simp only [hm 1 (by omega) (by omega), hm 2 (by omega) (by omega), hm 3 (by omega) (by omega), hm 5 (by omega) (by omega), hm 6 (by omega) (by omega), hm 7 (by omega) (by omega), hm 9 (by omega) (by omega), hm 10 (by omega) (by omega), hm 11 (by omega) (by omega)]
    generalize g (2 * (8 * p + (i : Int))) = y at hcol ⊢
    by_cases e : 2 * (i : Int) % s = 0
    · rw [if_pos e]
      simp only [e, true_and]
      rcases hs with e2 | e2 | e2 <;> rw [e2] <;> omega
    · rw [if_neg e]
      simp only [e, false_and, if_false]
      rfl
  rw [sumN_congr (f' := fun i => if 2 * i % s = 0 then 1 else 0) 8 h2]
  rcases hs with e | e | e <;> rw [e] <;> rfl
theorem us_0 (hw : WR g rg) {p : Int} (p0 : 0 ≤ p) (p8 : p < 8) (hz : g (707 + p) = 0) : us rg p = 0 := by
  refine us_zero hw (fun a a0 a1 ha => (hw.2.1 a a0 a1).2.2 (fun q => q.2.2.1 ?_))
  unfold pz
  rw [ha]; exact hz
end CN
section QM
variable {K : az_K} {m : Int} {S : hSt}
theorem sp_mroot (hK : MaK K m) (M : az_M) (hc : HM M m S) (r : Int) : AM yX7_root cX7_root 2 (some .int) 2 0 0 [(1, m), (0, r)] K M (qp K M (if 0 ≤ r ∧ r < 6 then S.1 (715 + r) else -2)) := by
  obtain ⟨km, k1, y1⟩ := hK
  refine am_of (by decide) (Nat.le_of_ble_eq_true rfl) (L := [(1, m), (0, r)]) rfl ?_
  refine aw_iload_n dX7_root_0 rfl rfl ?_
  refine aw_cS1p dX7_root_1 ml_RX7_216 ⟨by decide, by decide, by decide, by decide⟩ (Nat.le_of_ble_eq_true rfl) (sp_misRoot K M r) ?_
  refine aw_if_eq (tgt := 20) dX7_root_4 rfl (fun h4 => ?_) (fun h4 => ?_)
  · have h := if0 h4
    refine aw_bipush dX7_root_20 (by decide) ⟨by decide, by decide⟩ ?_
    exact aw_iret dX7_root_22 (by decide) (by decide) (qp_i (by rw [if_neg (by omega)]))
  · have h := if1 h4
    have v : M (m + 1) (715 + r) = S.1 (715 + r) := hc.1 _ (by omega) (by omega) (by omega) (by omega)
    refine aw_aload_n dX7_root_7 rfl rfl ⟨by decide, by decide⟩ ?_
    refine aw_gzF 0 dX7_root_8 fl_RX7_7 (by assumption) rfl rfl (by assumption) ?_
    refine aw_sipush dX7_root_11 (by decide) ⟨by decide, by decide⟩ ?_
    refine aw_iload_n dX7_root_14 rfl rfl ?_
    refine aw_iadd dX7_root_15 (az_wr_id (by omega) (by omega)) ?_
    refine aw_iv dX7_root_16 (by assumption) (by omega) (by omega) v ?_
    refine aw_goto (tgt := 22) dX7_root_17 rfl ?_
    exact aw_iret dX7_root_22 (by decide) (by decide) (qp_i (by rw [if_pos (by omega)]))
theorem sp_mweakly (hK : MaK K m) (M : az_M) (hc : HM M m S) (r : Int) : AM yX7_weakly cX7_weakly 2 (some .int) 2 0 0 [(1, m), (0, r)] K M (qp K M (if 0 ≤ r ∧ r < 4 then S.1 (721 + r) else -2)) := by
  obtain ⟨km, k1, y1⟩ := hK
  refine am_of (by decide) (Nat.le_of_ble_eq_true rfl) (L := [(1, m), (0, r)]) rfl ?_
  refine aw_iload_n dX7_weakly_0 rfl rfl ?_
  refine aw_cS1p dX7_weakly_1 ml_RX7_247 ⟨by decide, by decide, by decide, by decide⟩ (Nat.le_of_ble_eq_true rfl) (sp_misWeak K M r) ?_
  refine aw_if_eq (tgt := 20) dX7_weakly_4 rfl (fun h4 => ?_) (fun h4 => ?_)
  · have h := if0 h4
    refine aw_bipush dX7_weakly_20 (by decide) ⟨by decide, by decide⟩ ?_
    exact aw_iret dX7_weakly_22 (by decide) (by decide) (qp_i (by rw [if_neg (by omega)]))
  · have h := if1 h4
    have v : M (m + 1) (721 + r) = S.1 (721 + r) := hc.1 _ (by omega) (by omega) (by omega) (by omega)
    refine aw_aload_n dX7_weakly_7 rfl rfl ⟨by decide, by decide⟩ ?_
    refine aw_gzF 0 dX7_weakly_8 fl_RX7_7 (by assumption) rfl rfl (by assumption) ?_
    refine aw_sipush dX7_weakly_11 (by decide) ⟨by decide, by decide⟩ ?_
    refine aw_iload_n dX7_weakly_14 rfl rfl ?_
    refine aw_iadd dX7_weakly_15 (az_wr_id (by omega) (by omega)) ?_
    refine aw_iv dX7_weakly_16 (by assumption) (by omega) (by omega) v ?_
    refine aw_goto (tgt := 22) dX7_weakly_17 rfl ?_
    exact aw_iret dX7_weakly_22 (by decide) (by decide) (qp_i (by rw [if_pos (by omega)]))
theorem sp_mtold (hK : MaK K m) (M : az_M) (hc : HM M m S) (h0 : 0 ≤ S.1 741) (h16 : S.1 741 ≤ 16) (i w : Int) : AM yX7_told cX7_told 3 (some .int) 1 0 0 [(1, m), (0, i), (0, w)] K M (qp K M (if (0 ≤ i ∧ i < S.1 741) ∧ 0 ≤ w ∧ w < 3 then S.1 (742 + 3 * i + w) else -1)) := by
  obtain ⟨km, k1, y1⟩ := hK
  refine am_of (by decide) (Nat.le_of_ble_eq_true rfl) (L := [(1, m), (0, i), (0, w)]) rfl ?_
  have v9 : M (m + 1) 741 = S.1 741 := hc.1 _ (by omega) (by omega) (by omega) (by omega)
  refine aw_iload_n dX7_told_0 rfl rfl ?_
  refine aw_iconst dX7_told_1 rfl ⟨by decide, by decide⟩ ?_
  refine aw_aload_n dX7_told_2 rfl rfl ⟨by decide, by decide⟩ ?_
  refine aw_gzF 0 dX7_told_3 fl_RX7_7 (by assumption) rfl rfl (by assumption) ?_
  refine aw_sipush dX7_told_6 (by decide) ⟨by decide, by decide⟩ ?_
  refine aw_iv dX7_told_9 (by assumption) (by omega) (by omega) v9 ?_
  refine aw_iconst dX7_told_10 rfl ⟨by decide, by decide⟩ ?_
  refine aw_isub dX7_told_11 (az_wr_id (by omega) (by omega)) ?_
  refine aw_cS3p dX7_told_12 ml_RX7_94 ⟨by decide, by decide, by decide, by decide⟩ (Nat.le_of_ble_eq_true rfl) (sp_isIn K M i 0 (S.1 741 - 1)) ?_
  refine aw_if_eq (tgt := 44) dX7_told_15 rfl (fun h15 => ?_) (fun h15 => ?_)
  · have h := if0 h15
    refine aw_iconst dX7_told_44 rfl ⟨by decide, by decide⟩ ?_
    exact aw_iret dX7_told_45 (by decide) (by decide) (qp_i (by rw [if_neg (by omega)]))
  · have h := if1 h15
    refine aw_iload_n dX7_told_18 rfl rfl ?_
    refine aw_iconst dX7_told_19 rfl ⟨by decide, by decide⟩ ?_
    refine aw_iconst dX7_told_20 rfl ⟨by decide, by decide⟩ ?_
    refine aw_cS3p dX7_told_21 ml_RX7_94 ⟨by decide, by decide, by decide, by decide⟩ (Nat.le_of_ble_eq_true rfl) (sp_isIn K M w 0 2) ?_
    refine aw_if_eq (tgt := 44) dX7_told_24 rfl (fun h24 => ?_) (fun h24 => ?_)
    · have h := if0 h24
      refine aw_iconst dX7_told_44 rfl ⟨by decide, by decide⟩ ?_
      exact aw_iret dX7_told_45 (by decide) (by decide) (qp_i (by rw [if_neg (by omega)]))
    · have h2 := if1 h24
      have v : M (m + 1) (742 + 3 * i + w) = S.1 (742 + 3 * i + w) := hc.1 _ (by omega) (by omega) (by omega) (by omega)
      refine aw_aload_n dX7_told_27 rfl rfl ⟨by decide, by decide⟩ ?_
      refine aw_gzF 0 dX7_told_28 fl_RX7_7 (by assumption) rfl rfl (by assumption) ?_
      refine aw_sipush dX7_told_31 (by decide) ⟨by decide, by decide⟩ ?_
      refine aw_iconst dX7_told_34 rfl ⟨by decide, by decide⟩ ?_
      refine aw_iload_n dX7_told_35 rfl rfl ?_
      refine aw_imul dX7_told_36 (az_wr_id (by omega) (by omega)) ?_
      refine aw_iadd dX7_told_37 (az_wr_id (by omega) (by omega)) ?_
      refine aw_iload_n dX7_told_38 rfl rfl ?_
      refine aw_iadd dX7_told_39 (az_wr_id (by omega) (by omega)) ?_
      refine aw_iv dX7_told_40 (by assumption) (by omega) (by omega) v ?_
      refine aw_goto (tgt := 45) dX7_told_41 rfl ?_
      exact aw_iret dX7_told_45 (by decide) (by decide) (qp_i (by rw [if_pos (by omega)]))
theorem sp_mfield (hK : MaK K m) (M : az_M) (hc : HM M m S) (hw : WL S) (a f : Int) : AM yX7_field cX7_field 3 (some .int) 5 0 0 [(1, m), (0, a), (0, f)] K M (qp K M (if obD S.1 a ∧ 0 ≤ f ∧ f < S.1 (128 + a) then S.1 (256 + a + 1 + f) else -2)) := by
  have hK0 := hK
  obtain ⟨km, k1, y1⟩ := hK
  refine am_of (by decide) (Nat.le_of_ble_eq_true rfl) (L := [(1, m), (0, a), (0, f)]) rfl ?_
  refine aw_aload_n dX7_field_0 rfl rfl ⟨by decide, by decide⟩ ?_
  refine aw_iload_n dX7_field_1 rfl rfl ?_
  refine aw_iload_n dX7_field_2 rfl rfl ?_
  refine aw_cV2p dX7_field_3 ml_RX7_225 (by assumption) (by decide) rfl rfl ⟨by decide, by decide, by decide, by decide⟩ (Nat.le_of_ble_eq_true rfl) (sp_hasField hK0 M hw.1 hc.1 a f) ?_
  refine aw_if_eq (tgt := 22) dX7_field_6 rfl (fun h6 => ?_) (fun h6 => ?_)
  · refine aw_bipush dX7_field_22 (by decide) ⟨by decide, by decide⟩ ?_
    exact aw_iret dX7_field_24 (by decide) (by decide) (qp_i (by rw [if_neg (if0 h6)]))
  · have h := if1 h6
    have ho : ob S.1 a := h.1
    have hfl := (hw.1.2.2.2.1 a ho.1).2 ho.2
    have hb := base_of hw.1.1 (f := f + 1) ho.1 (by omega) (by omega)
    have a0 := ho.1.1
    have a1 := ho.1.2.1
    have v : M (m + 1) (256 + a + 1 + f) = S.1 (256 + a + 1 + f) := hc.1 _ (by omega) (by omega) (by omega) (by omega)
    refine aw_aload_n dX7_field_9 rfl rfl ⟨by decide, by decide⟩ ?_
    refine aw_gzF 0 dX7_field_10 fl_RX7_7 (by assumption) rfl rfl (by assumption) ?_
    refine aw_iload_n dX7_field_13 rfl rfl ?_
    refine aw_iload_n dX7_field_14 rfl rfl ?_
    refine aw_cS2p dX7_field_15 ml_RX7_161 ⟨by decide, by decide, by decide, by decide⟩ (Nat.le_of_ble_eq_true rfl) (sp_fieldAt K M a f (by omega) (by omega) (by omega) (by omega)) ?_
    refine aw_iv dX7_field_18 (by assumption) (by omega) (by omega) v ?_
    refine aw_goto (tgt := 24) dX7_field_19 rfl ?_
    exact aw_iret dX7_field_24 (by decide) (by decide) (qp_i (by rw [if_pos h]))
/-- a slot's fields -/
theorem fld_in (hw : WL S) {a : Int} (ha : sl S.1 a) : 0 ≤ S.1 (128 + a) ∧ S.1 (128 + a) ≤ 7 ∧ a + S.1 (128 + a) < 128 ∧ (0 < S.1 (128 + a) → ob S.1 a) := by
  have hfl := hw.1.2.2.2.1 a ha
  have hpz := (sl_even hw.1.1 ha).2
  by_cases e : S.1 a = 0
  · have := hfl.1 e
    have := ha.2.1
    exact ⟨by omega, by omega, by omega, fun q => by omega⟩
  · have q1 := hfl.2 e
    have q3 := base_of hw.1.1 (f := S.1 (128 + a)) ha q1.1 q1.2
    exact ⟨by omega, by omega, by omega, fun _ => ⟨ha, e⟩⟩
theorem sp_mnamedBy (hK : MaK K m) (M : az_M) (hc : HM M m S) (hw : WL S) (a : Int) (ha : sl S.1 a) : AM yX7_namedBy cX7_namedBy 4 (some .int) 1 0 0 [(1, m), (0, a)] K M (qp K M (nbN S.1 a)) := by
  obtain ⟨km, k1, y1⟩ := hK
  refine am_of (by decide) (Nat.le_of_ble_eq_true rfl) (L := [(1, m), (0, a), (9, 0), (9, 0)]) rfl ?_
  obtain ⟨f0, f7, fa, fo⟩ := fld_in hw ha
  have a0 := ha.1
  have a1 := ha.2.1
  have v14 : M (m + 1) (128 + a) = S.1 (128 + a) := hc.1 _ (by omega) (by omega) (by omega) (by omega)
  obtain ⟨n, hn⟩ : ∃ n : Nat, (n : Int) = S.1 (128 + a) := ⟨(S.1 (128 + a)).toNat, by omega⟩
  have hnb : nbN S.1 a = sumN n (fun f => if S.1 (256 + a + 1 + f) ≠ -1 then 1 else 0) := by unfold nbN; rw [show (S.1 (128 + a)).toNat = n by omega]
  rw [hnb]
  refine aw_iconst dX7_namedBy_0 rfl ⟨by decide, by decide⟩ ?_
  refine aw_istore_n dX7_namedBy_1 rfl (by decide) ?_
  refine aw_iconst dX7_namedBy_2 rfl ⟨by decide, by decide⟩ ?_
  refine aw_istore_n dX7_namedBy_3 rfl (by decide) ?_
  have loop : ∀ (k i : Nat), i + k = n → AW az_P0 (az_Z (qp K M (sumN n (fun f => if S.1 (256 + a + 1 + f) ≠ -1 then 1 else 0))) 0 0) (az_rm 1 0 0) yX7_namedBy cX7_namedBy 4 (some .int) 0 0 4 [(1, m), (0, a), (0, sumN i (fun f => if S.1 (256 + a + 1 + f) ≠ -1 then 1 else 0)), (0, (i : Int))] [] K M := by
    intro k
    induction k with
    | zero =>
      intro i hi
      have hi2 : i = n := by omega
      subst hi2
      refine aw_iload_n dX7_namedBy_4 rfl rfl ?_
      refine aw_aload_n dX7_namedBy_5 rfl rfl ⟨by decide, by decide⟩ ?_
      refine aw_gzF 0 dX7_namedBy_6 fl_RX7_7 (by assumption) rfl rfl (by assumption) ?_
      refine aw_sipush dX7_namedBy_9 (by decide) ⟨by decide, by decide⟩ ?_
      refine aw_iload_n dX7_namedBy_12 rfl rfl ?_
      refine aw_iadd dX7_namedBy_13 (az_wr_id (by omega) (by omega)) ?_
      refine aw_iv dX7_namedBy_14 (by assumption) (by omega) (by omega) v14 ?_
      refine aw_icmp_ge (tgt := 45) dX7_namedBy_15 rfl (fun h15 => ?_) (fun h15 => absurd h15 (by omega))
      refine aw_iload_n dX7_namedBy_45 rfl rfl ?_
      exact aw_iret dX7_namedBy_46 (by decide) (by decide) (qp_i rfl)
    | succ k ih =>
      intro i hi
      have hob := fo (by omega)
      have hnk := hw.1.2.2.2.2.1.2 a i hob (by omega) (by omega)
      have v28 : M (m + 1) (256 + a + 1 + (i : Int)) = S.1 (256 + a + 1 + i) := hc.1 _ (by omega) (by omega) (by omega) (by omega)
      have hsum := sumN_le (f := fun f => if S.1 (256 + a + 1 + f) ≠ -1 then 1 else 0) (c := 1) i (fun j hj => by show 0 ≤ (if _ then (1 : Int) else 0) ∧ (if _ then (1 : Int) else 0) ≤ 1; split <;> omega)
      have hnx : sumN (i + 1) (fun f => if S.1 (256 + a + 1 + f) ≠ -1 then 1 else 0) = sumN i (fun f => if S.1 (256 + a + 1 + f) ≠ -1 then 1 else 0) + (if S.1 (256 + a + 1 + i) ≠ -1 then 1 else 0) := rfl
      have := ih (i + 1) (by omega)
      rw [hnx] at this
      refine aw_iload_n dX7_namedBy_4 rfl rfl ?_
      refine aw_aload_n dX7_namedBy_5 rfl rfl ⟨by decide, by decide⟩ ?_
      refine aw_gzF 0 dX7_namedBy_6 fl_RX7_7 (by assumption) rfl rfl (by assumption) ?_
      refine aw_sipush dX7_namedBy_9 (by decide) ⟨by decide, by decide⟩ ?_
      refine aw_iload_n dX7_namedBy_12 rfl rfl ?_
      refine aw_iadd dX7_namedBy_13 (az_wr_id (by omega) (by omega)) ?_
      refine aw_iv dX7_namedBy_14 (by assumption) (by omega) (by omega) v14 ?_
      refine aw_icmp_ge (tgt := 45) dX7_namedBy_15 rfl (fun h15 => absurd h15 (by omega)) (fun h15 => ?_)
      refine aw_iload_n dX7_namedBy_18 rfl rfl ?_
      refine aw_aload_n dX7_namedBy_19 rfl rfl ⟨by decide, by decide⟩ ?_
      refine aw_gzF 0 dX7_namedBy_20 fl_RX7_7 (by assumption) rfl rfl (by assumption) ?_
      refine aw_iload_n dX7_namedBy_23 rfl rfl ?_
      refine aw_iload_n dX7_namedBy_24 rfl rfl ?_
      refine aw_cS2p dX7_namedBy_25 ml_RX7_161 ⟨by decide, by decide, by decide, by decide⟩ (Nat.le_of_ble_eq_true rfl) (sp_fieldAt K M a i (by omega) (by omega) (by omega) (by omega)) ?_
      refine aw_iv dX7_namedBy_28 (by assumption) (by omega) (by omega) v28 ?_
      refine aw_if_lt (tgt := 36) dX7_namedBy_29 rfl (fun h29 => ?_) (fun h29 => ?_)
      · rw [if_neg (fun q => by rcases hnk with e | e; exact q e; have := e.1.1; omega)] at this
        refine aw_iconst dX7_namedBy_36 rfl ⟨by decide, by decide⟩ ?_
        refine aw_iadd dX7_namedBy_37 (az_wr_id (by omega) (by omega)) ?_
        refine aw_istore_n dX7_namedBy_38 rfl (by decide) ?_
        refine aw_iinc dX7_namedBy_39 rfl (az_wr_id (by omega) (by omega)) (by decide) ?_
        refine aw_goto (tgt := 4) dX7_namedBy_42 rfl ?_
        exact this
      · rw [if_pos (by omega)] at this
        refine aw_iconst dX7_namedBy_32 rfl ⟨by decide, by decide⟩ ?_
        refine aw_goto (tgt := 37) dX7_namedBy_33 rfl ?_
        refine aw_iadd dX7_namedBy_37 (az_wr_id (by omega) (by omega)) ?_
        refine aw_istore_n dX7_namedBy_38 rfl (by decide) ?_
        refine aw_iinc dX7_namedBy_39 rfl (az_wr_id (by omega) (by omega)) (by decide) ?_
        refine aw_goto (tgt := 4) dX7_namedBy_42 rfl ?_
        exact this
  exact loop n 0 (by omega)
theorem sp_misSize (K : az_K) (M : az_M) (s : Int) : AM yX7_isSize cX7_isSize 1 (some .boolean) 0 0 0 [(0, s)] K M (qp K M (if s = 2 ∨ s = 4 ∨ s = 8 then 1 else 0)) := by
  refine am_of (by decide) (Nat.le_of_ble_eq_true rfl) (L := [(0, s)]) rfl ?_
  refine aw_iload_n dX7_isSize_0 rfl rfl ?_
  refine aw_iconst dX7_isSize_1 rfl ⟨by decide, by decide⟩ ?_
  refine aw_icmp_eq (tgt := 16) dX7_isSize_2 rfl (fun h2 => ?_) (fun h2 => ?_)
  · refine aw_iconst dX7_isSize_16 rfl ⟨by decide, by decide⟩ ?_
    refine aw_goto (tgt := 21) dX7_isSize_17 rfl ?_
    exact aw_zret dX7_isSize_21 (by omega) (by decide) (by decide) (qp_i (by omega))
  · refine aw_iload_n dX7_isSize_5 rfl rfl ?_
    refine aw_iconst dX7_isSize_6 rfl ⟨by decide, by decide⟩ ?_
    refine aw_icmp_eq (tgt := 16) dX7_isSize_7 rfl (fun h7 => ?_) (fun h7 => ?_)
    · refine aw_iconst dX7_isSize_16 rfl ⟨by decide, by decide⟩ ?_
      refine aw_goto (tgt := 21) dX7_isSize_17 rfl ?_
      exact aw_zret dX7_isSize_21 (by omega) (by decide) (by decide) (qp_i (by omega))
    · refine aw_iload_n dX7_isSize_10 rfl rfl ?_
      refine aw_bipush dX7_isSize_11 (by decide) ⟨by decide, by decide⟩ ?_
      refine aw_icmp_ne (tgt := 20) dX7_isSize_13 rfl (fun h13 => ?_) (fun h13 => ?_)
      · refine aw_iconst dX7_isSize_20 rfl ⟨by decide, by decide⟩ ?_
        exact aw_zret dX7_isSize_21 (by omega) (by decide) (by decide) (qp_i (by omega))
      · refine aw_iconst dX7_isSize_16 rfl ⟨by decide, by decide⟩ ?_
        refine aw_goto (tgt := 21) dX7_isSize_17 rfl ?_
        exact aw_zret dX7_isSize_21 (by omega) (by decide) (by decide) (qp_i (by omega))
theorem rz_of {s : Int} (hs : s = 2 ∨ s = 4 ∨ s = 8) : ∃ z : Int, (if s = 2 then (0 : Int) else if s = 4 then 1 else 2) = z ∧ s / 4 * 4 = 4 * z ∧ 0 ≤ z ∧ z < 3 := by
  rcases hs with rfl | rfl | rfl
  · exact ⟨0, rfl, rfl, by omega, by omega⟩
  · exact ⟨1, rfl, rfl, by omega, by omega⟩
  · exact ⟨2, rfl, rfl, by omega, by omega⟩
theorem sp_mring (hK : MaK K m) (M : az_M) (hc : HM M m S) (hw : WL S) (s i : Int) : AM yX7_ring cX7_ring 3 (some .int) 1 0 0 [(1, m), (0, s), (0, i)] K M (qp K M (if (s = 2 ∨ s = 4 ∨ s = 8) ∧ 0 ≤ i then lk (catR S.2.1 (s / 4 * 4) 4) i else -1)) := by
  have hK0 := hK
  obtain ⟨km, k1, y1⟩ := hK
  refine am_of (by decide) (Nat.le_of_ble_eq_true rfl) (L := [(1, m), (0, s), (0, i)]) rfl ?_
  refine aw_iload_n dX7_ring_0 rfl rfl ?_
  refine aw_cS1p dX7_ring_1 ml_RX7_274 ⟨by decide, by decide, by decide, by decide⟩ (Nat.le_of_ble_eq_true rfl) (sp_misSize K M s) ?_
  refine aw_if_eq (tgt := 41) dX7_ring_4 rfl (fun h4 => ?_) (fun h4 => ?_)
  · have h := if0 h4
    refine aw_iconst dX7_ring_41 rfl ⟨by decide, by decide⟩ ?_
    exact aw_iret dX7_ring_42 (by decide) (by decide) (qp_i (by rw [if_neg (fun q => h q.1)]))
  · have hs := if1 h4
    obtain ⟨z, r1, r2, r3, r4⟩ := rz_of hs
    have hR := hc.2.1 z r3 r4
    have hl := rL_len (WR_of hw.1) (k := 4 * z) (by omega)
    have hml : (rL S.2.1 (4 * z)).length = (catR S.2.1 (4 * z) 4).length := by unfold rL; rw [List.length_map]
    rw [r2]
    refine aw_iload_n dX7_ring_7 rfl rfl ?_
    refine aw_iconst dX7_ring_8 rfl ⟨by decide, by decide⟩ ?_
    refine aw_aload_n dX7_ring_9 rfl rfl ⟨by decide, by decide⟩ ?_
    refine aw_iload_n dX7_ring_10 rfl rfl ?_
    refine aw_cS1p dX7_ring_11 ml_RX7_125 ⟨by decide, by decide, by decide, by decide⟩ (Nat.le_of_ble_eq_true rfl) (qp_c (sp_ringOf K M s) r1) ?_
    refine aw_cV1p dX7_ring_14 ml_RX7_116 (by assumption) (by decide) rfl rfl ⟨by decide, by decide, by decide, by decide⟩ (Nat.le_of_ble_eq_true rfl) (qp_c (sp_longOf hK0 M z r3 r4) hR.1) ?_
    refine aw_iconst dX7_ring_17 rfl ⟨by decide, by decide⟩ ?_
    refine aw_isub dX7_ring_18 (az_wr_id (by omega) (by omega)) ?_
    refine aw_cS3p dX7_ring_19 ml_RX7_94 ⟨by decide, by decide, by decide, by decide⟩ (Nat.le_of_ble_eq_true rfl) (sp_isIn K M i 0 (((rL S.2.1 (4 * z)).length : Int) - 1)) ?_
    refine aw_if_eq (tgt := 41) dX7_ring_22 rfl (fun h22 => ?_) (fun h22 => ?_)
    · have h := if0 h22
      refine aw_iconst dX7_ring_41 rfl ⟨by decide, by decide⟩ ?_
      refine aw_iret dX7_ring_42 (by decide) (by decide) (qp_i ?_)
      split
      · unfold lk
        rw [List.getElem?_eq_none (by omega)]
      · rfl
    · have h := if1 h22
      have v : M (m + 1) (512 + 64 * z + i) = (rL S.2.1 (4 * z)).getD i.toNat 0 := by
        have := hR.2 i.toNat (by omega)
        rw [Int.toNat_of_nonneg h.1] at this
        exact this
      refine aw_aload_n dX7_ring_25 rfl rfl ⟨by decide, by decide⟩ ?_
      refine aw_gzF 0 dX7_ring_26 fl_RX7_7 (by assumption) rfl rfl (by assumption) ?_
      refine aw_iload_n dX7_ring_29 rfl rfl ?_
      refine aw_cS1p dX7_ring_30 ml_RX7_125 ⟨by decide, by decide, by decide, by decide⟩ (Nat.le_of_ble_eq_true rfl) (qp_c (sp_ringOf K M s) r1) ?_
      refine aw_iload_n dX7_ring_33 rfl rfl ?_
      refine aw_cS2p dX7_ring_34 ml_RX7_112 ⟨by decide, by decide, by decide, by decide⟩ (Nat.le_of_ble_eq_true rfl) (sp_ringAt K M z i r3 r4 (by omega) (by omega)) ?_
      refine aw_iv dX7_ring_37 (by assumption) (by omega) (by omega) v ?_
      refine aw_goto (tgt := 42) dX7_ring_38 rfl ?_
      refine aw_iret dX7_ring_42 (by decide) (by decide) (qp_i ?_)
      rw [if_pos ⟨hs, h.1⟩]
      unfold lk rL
      rw [List.getD_eq_getElem?_getD, List.getElem?_map, List.getElem?_eq_getElem (by omega)]
      rfl
theorem sp_mmany (hK : MaK K m) (M : az_M) (hc : HM M m S) (hw : WL S) (s c : Int) : AM yX7_many cX7_many 3 (some .int) 2 0 0 [(1, m), (0, s), (0, c)] K M (qp K M (if (s = 2 ∨ s = 4 ∨ s = 8) ∧ 0 ≤ c ∧ c ≤ 3 then ((S.2.1 (s / 4 * 4 + c)).length : Int) else -1)) := by
  have hK0 := hK
  obtain ⟨km, k1, y1⟩ := hK
  refine am_of (by decide) (Nat.le_of_ble_eq_true rfl) (L := [(1, m), (0, s), (0, c)]) rfl ?_
  refine aw_iload_n dX7_many_0 rfl rfl ?_
  refine aw_cS1p dX7_many_1 ml_RX7_274 ⟨by decide, by decide, by decide, by decide⟩ (Nat.le_of_ble_eq_true rfl) (sp_misSize K M s) ?_
  refine aw_if_eq (tgt := 28) dX7_many_4 rfl (fun h4 => ?_) (fun h4 => ?_)
  · have h := if0 h4
    refine aw_iconst dX7_many_28 rfl ⟨by decide, by decide⟩ ?_
    exact aw_iret dX7_many_29 (by decide) (by decide) (qp_i (by rw [if_neg (fun q => h q.1)]))
  · have hs := if1 h4
    obtain ⟨z, r1, r2, r3, r4⟩ := rz_of hs
    refine aw_iload_n dX7_many_7 rfl rfl ?_
    refine aw_iconst dX7_many_8 rfl ⟨by decide, by decide⟩ ?_
    refine aw_iconst dX7_many_9 rfl ⟨by decide, by decide⟩ ?_
    refine aw_cS3p dX7_many_10 ml_RX7_94 ⟨by decide, by decide, by decide, by decide⟩ (Nat.le_of_ble_eq_true rfl) (sp_isIn K M c 0 3) ?_
    refine aw_if_eq (tgt := 28) dX7_many_13 rfl (fun h13 => ?_) (fun h13 => ?_)
    · have h := if0 h13
      refine aw_iconst dX7_many_28 rfl ⟨by decide, by decide⟩ ?_
      exact aw_iret dX7_many_29 (by decide) (by decide) (qp_i (by rw [if_neg (fun q => h q.2)]))
    · have h := if1 h13
      have hcnt := cnt_row (WR_of hw.1) hc.1 (k := 4 * z) (c := c) (by omega) h.1 h.2
      have hco := qp_c (sp_countOf hK0 M z c r3 r4 (rL S.2.1 (4 * z)) (hc.2.1 z r3 r4) (rL_len (WR_of hw.1) (by omega)) (rL_in (WR_of hw.1) (by omega))) hcnt
      refine aw_aload_n dX7_many_16 rfl rfl ⟨by decide, by decide⟩ ?_
      refine aw_iload_n dX7_many_17 rfl rfl ?_
      refine aw_cS1p dX7_many_18 ml_RX7_125 ⟨by decide, by decide, by decide, by decide⟩ (Nat.le_of_ble_eq_true rfl) (qp_c (sp_ringOf K M s) r1) ?_
      refine aw_iload_n dX7_many_21 rfl rfl ?_
      refine aw_cV2p dX7_many_22 ml_RX7_119 (by assumption) (by decide) rfl rfl ⟨by decide, by decide, by decide, by decide⟩ (Nat.le_of_ble_eq_true rfl) (hco) ?_
      refine aw_goto (tgt := 29) dX7_many_25 rfl ?_
      exact aw_iret dX7_many_29 (by decide) (by decide) (qp_i (by rw [if_pos ⟨hs, h⟩, r2]))
def pgV (S : hSt) (p w : Int) : Int := if w = 0 then S.1 (707 + p) else if S.1 (707 + p) = 0 then 0 else if w = 1 then 16 / S.1 (707 + p) - us S.2.1 p else us S.2.1 p
set_option maxHeartbeats 1000000 in
theorem sp_mpage (hK : MaK K m) (M : az_M) (hc : HM M m S) (hw : WL S) (p w : Int) : AM yX7_page cX7_page 6 (some .int) 1 0 0 [(1, m), (0, p), (0, w)] K M (qp K M (if (0 ≤ p ∧ p < S.1 725) ∧ 0 ≤ w ∧ w < 3 then pgV S p w else -1)) := by
  have hK0 := hK
  obtain ⟨km, k1, y1⟩ := hK
  refine am_of (by decide) (Nat.le_of_ble_eq_true rfl) (L := [(1, m), (0, p), (0, w), (9, 0), (9, 0), (9, 0)]) rfl ?_
  have v9 : M (m + 1) 725 = S.1 725 := hc.1 _ (by omega) (by omega) (by omega) (by omega)
  have hWR := WR_of hw.1
  have p8 := hw.1.1.2.1
  have p1 := hw.1.1.1
  generalize hV : (if (0 ≤ p ∧ p < S.1 725) ∧ 0 ≤ w ∧ w < 3 then pgV S p w else -1) = V
  have no : ¬ ((0 ≤ p ∧ p < S.1 725) ∧ 0 ≤ w ∧ w < 3) → AW az_P0 (az_Z (qp K M V) 0 0) (az_rm 1 0 0) yX7_page cX7_page 6 (some .int) 0 0 27 [(1, m), (0, p), (0, w), (9, 0), (9, 0), (9, 0)] [] K M := by
    intro h
    rw [if_neg h] at hV
    refine aw_iconst dX7_page_27 rfl ⟨by decide, by decide⟩ ?_
    exact aw_iret dX7_page_28 (by decide) (by decide) (qp_i hV)
  refine aw_iload_n dX7_page_0 rfl rfl ?_
  refine aw_iconst dX7_page_1 rfl ⟨by decide, by decide⟩ ?_
  refine aw_aload_n dX7_page_2 rfl rfl ⟨by decide, by decide⟩ ?_
  refine aw_gzF 0 dX7_page_3 fl_RX7_7 (by assumption) rfl rfl (by assumption) ?_
  refine aw_sipush dX7_page_6 (by decide) ⟨by decide, by decide⟩ ?_
  refine aw_iv dX7_page_9 (by assumption) (by omega) (by omega) v9 ?_
  refine aw_iconst dX7_page_10 rfl ⟨by decide, by decide⟩ ?_
  refine aw_isub dX7_page_11 (az_wr_id (by omega) (by omega)) ?_
  refine aw_cS3p dX7_page_12 ml_RX7_94 ⟨by decide, by decide, by decide, by decide⟩ (Nat.le_of_ble_eq_true rfl) (sp_isIn K M p 0 (S.1 725 - 1)) ?_
  refine aw_if_eq (tgt := 27) dX7_page_15 rfl (fun h15 => ?_) (fun h15 => ?_)
  · exact no (fun q => if0 h15 (by omega))
  · have hp := if1 h15
    refine aw_iload_n dX7_page_18 rfl rfl ?_
    refine aw_iconst dX7_page_19 rfl ⟨by decide, by decide⟩ ?_
    refine aw_iconst dX7_page_20 rfl ⟨by decide, by decide⟩ ?_
    refine aw_cS3p dX7_page_21 ml_RX7_94 ⟨by decide, by decide, by decide, by decide⟩ (Nat.le_of_ble_eq_true rfl) (sp_isIn K M w 0 2) ?_
    refine aw_if_ne (tgt := 29) dX7_page_24 rfl (fun h24 => ?_) (fun h24 => ?_)
    · have hww := if1 h24
      rw [if_pos ⟨by omega, by omega⟩] at hV
      have v38 : M (m + 1) (707 + p) = S.1 (707 + p) := hc.1 _ (by omega) (by omega) (by omega) (by omega)
      have hs0 := (hw.1.1.2.2 p hp.1 (by omega)).1
      unfold pgV at hV
      have e48 : ∀ x : Int, x = V → AW az_P0 (az_Z (qp K M V) 0 0) (az_rm 1 0 0) yX7_page cX7_page 6 (some .int) 0 0 48 [(1, m), (0, p), (0, w), (0, x), (9, 0), (9, 0)] [] K M := by
        intro x hx
        refine aw_iload_n dX7_page_48 rfl rfl ?_
        exact aw_iret dX7_page_49 (by decide) (by decide) (qp_i hx)
      refine aw_aload_n dX7_page_29 rfl rfl ⟨by decide, by decide⟩ ?_
      refine aw_gzF 0 dX7_page_30 fl_RX7_7 (by assumption) rfl rfl (by assumption) ?_
      refine aw_sipush dX7_page_33 (by decide) ⟨by decide, by decide⟩ ?_
      refine aw_iload_n dX7_page_36 rfl rfl ?_
      refine aw_iadd dX7_page_37 (az_wr_id (by omega) (by omega)) ?_
      refine aw_iv dX7_page_38 (by assumption) (by omega) (by omega) v38 ?_
      refine aw_istore_n dX7_page_39 rfl (by decide) ?_
      refine aw_iload_n dX7_page_40 rfl rfl ?_
      refine aw_if_eq (tgt := 48) dX7_page_41 rfl (fun h41 => ?_) (fun h41 => ?_)
      · exact e48 _ (by rw [if_pos h41] at hV; exact hV)
      · rw [if_neg h41] at hV
        refine aw_iload_n dX7_page_44 rfl rfl ?_
        refine aw_if_ne (tgt := 50) dX7_page_45 rfl (fun h45 => ?_) (fun h45 => ?_)
        · rw [if_neg h45] at hV
          have hcp := page_cnt hWR hp.1 (by omega) h45
          have hs : S.1 (707 + p) = 2 ∨ S.1 (707 + p) = 4 ∨ S.1 (707 + p) = 8 := by omega
          obtain ⟨s, hsd⟩ : ∃ s, s = S.1 (707 + p) := ⟨_, rfl⟩
          have hfl := fl_sum hWR (j := S.1 (707 + p) / 4 * 4) (by omega) (by omega) hp.1 (by omega)
          have hpz : ∀ n : Int, 8 * p ≤ n → n < 8 * p + 8 → pz S.1 (2 * n) = S.1 (707 + p) := fun n n0 n1 => by unfold pz; rw [show 2 * n / 16 = p by omega]
          rw [← hsd] at hV hcp hs hfl hpz ⊢
          have hmem : ∀ c : Int, 0 ≤ c → c < 8 → (8 * p + c ∈ S.2.1 (s / 4 * 4) ↔ 2 * c % s = 0 ∧ S.1 (2 * (8 * p + c)) = 0) := by
            intro c c0 c1
            rw [mem_row hWR (by omega) (by omega)]
            unfold kz sl
            rw [hpz _ (by omega) (by omega)]
            constructor
            · rintro ⟨-, -, ⟨-, -, -, b⟩, d⟩
              refine ⟨?_, by omega⟩
              rcases hs with e | e | e <;> rw [e] at b ⊢ <;> omega
            · rintro ⟨b, d⟩
              refine ⟨by omega, by omega, ⟨by omega, by omega, by omega, ?_⟩, by omega⟩
              rcases hs with e | e | e <;> rw [e] at b ⊢ <;> omega
          have hub := us_nn S.2.1 p
          refine aw_iconst dX7_page_50 rfl ⟨by decide, by decide⟩ ?_
          refine aw_istore dX7_page_51 (by decide) ?_
          refine aw_bipush dX7_page_53 (by decide) ⟨by decide, by decide⟩ ?_
          refine aw_iload_n dX7_page_55 rfl rfl ?_
          refine aw_imul dX7_page_56 (az_wr_id (by omega) (by omega)) ?_
          refine aw_istore dX7_page_57 (by decide) ?_
          have loop : ∀ (d c : Nat), c + d = 8 → 2 * (c : Int) % s = 0 → AW az_P0 (az_Z (qp K M V) 0 0) (az_rm 1 0 0) yX7_page cX7_page 6 (some .int) 0 0 59 [(1, m), (0, p), (0, w), (0, s), (0, sumN c (fun c => if 8 * p + c ∈ S.2.1 (s / 4 * 4) then 1 else 0)), (0, 2 * (8 * p + (c : Int)))] [] K M := by
            intro d
            induction d using Nat.strongRecOn with
            | ind d ih =>
              intro c hcd hc2
              by_cases hd : d = 0
              · have hc8 : c = 8 := by omega
                subst hc8
                rw [← hfl]
                have := fl_nn S.2.1 (s / 4 * 4) p
                refine aw_iload dX7_page_59 rfl ?_
                refine aw_bipush dX7_page_61 (by decide) ⟨by decide, by decide⟩ ?_
                refine aw_iload_n dX7_page_63 rfl rfl ?_
                refine aw_iconst dX7_page_64 rfl ⟨by decide, by decide⟩ ?_
                refine aw_iadd dX7_page_65 (az_wr_id (by omega) (by omega)) ?_
                refine aw_imul dX7_page_66 (az_wr_id (by omega) (by omega)) ?_
                refine aw_icmp_ge (tgt := 98) dX7_page_67 rfl (fun h67 => ?_) (fun h67 => absurd h67 (by omega))
                refine aw_iload_n dX7_page_98 rfl rfl ?_
                refine aw_iconst dX7_page_99 rfl ⟨by decide, by decide⟩ ?_
                refine aw_icmp_ne (tgt := 108) dX7_page_100 rfl (fun h100 => ?_) (fun h100 => ?_)
                · rw [if_neg h100] at hV
                  have : 16 / s ≤ 8 := by rcases hs with e | e | e <;> rw [e] <;> omega
                  refine aw_bipush dX7_page_108 (by decide) ⟨by decide, by decide⟩ ?_
                  refine aw_iload_n dX7_page_110 rfl rfl ?_
                  refine aw_idiv dX7_page_111 (by omega) (by omega) ?_
                  refine aw_iload dX7_page_112 rfl ?_
                  refine aw_isub dX7_page_114 (az_wr_id (by omega) (by omega)) ?_
                  exact aw_iret dX7_page_115 (by decide) (by decide) (qp_i (by omega))
                · rw [if_pos h100] at hV
                  refine aw_iload dX7_page_103 rfl ?_
                  refine aw_goto (tgt := 115) dX7_page_105 rfl ?_
                  exact aw_iret dX7_page_115 (by decide) (by decide) (qp_i (by omega))
              · have hv : M (m + 1) (2 * (8 * p + (c : Int))) = S.1 (2 * (8 * p + (c : Int))) := hc.1 _ (by omega) (by omega) (by omega) (by omega)
                have hsum := sumN_le (f := fun c => if 8 * p + c ∈ S.2.1 (s / 4 * 4) then 1 else 0) (c := 1) c (fun j hj => by show 0 ≤ (if _ then (1 : Int) else 0) ∧ (if _ then (1 : Int) else 0) ≤ 1; split <;> omega)
                have hch : c + (s / 2).toNat ≤ 8 := by rcases hs with e | e | e <;> rw [e] at hc2 ⊢ <;> simp <;> omega
                have hst : ∀ k : Nat, k < (s / 2).toNat → sumN (c + k + 1) (fun c => if 8 * p + c ∈ S.2.1 (s / 4 * 4) then (1 : Int) else 0) = sumN c (fun c => if 8 * p + c ∈ S.2.1 (s / 4 * 4) then 1 else 0) + (if S.1 (2 * (8 * p + (c : Int))) = 0 then 1 else 0) := by
                  intro k
                  induction k with
                  | zero =>
                    intro _
                    show sumN c _ + (if 8 * p + (c : Int) ∈ S.2.1 (s / 4 * 4) then (1 : Int) else 0) = _
                    simp only [hmem _ (show (0 : Int) ≤ (c : Int) by omega) (show (c : Int) < 8 by omega), hc2, true_and]
                  | succ k ih2 =>
                    intro hk
                    show sumN (c + k + 1) _ + (if 8 * p + ((c + k + 1 : Nat) : Int) ∈ S.2.1 (s / 4 * 4) then (1 : Int) else 0) = _
                    have hno : ¬ 8 * p + ((c + k + 1 : Nat) : Int) ∈ S.2.1 (s / 4 * 4) := by
                      intro hm
                      have h3 := ((hmem _ (by omega) (by omega)).mp hm).1
                      rcases hs with e | e | e <;> rw [e] at hc2 hk h3 <;> simp at hk <;> omega
                    rw [ih2 (by omega), if_neg hno, Int.add_zero]
                have hs2 : 0 < (s / 2).toNat := by rcases hs with e | e | e <;> rw [e] <;> simp
                have hst2 := hst ((s / 2).toNat - 1) (by omega)
                rw [show c + ((s / 2).toNat - 1) + 1 = c + (s / 2).toNat by omega] at hst2
                have hih := ih (d - (s / 2).toNat) (by omega) (c + (s / 2).toNat) (by omega) (by rcases hs with e | e | e <;> rw [e] at hc2 ⊢ <;> simp <;> omega)
                have ha : 2 * (8 * p + (c : Int)) + s = 2 * (8 * p + ((c + (s / 2).toNat : Nat) : Int)) := by rcases hs with e | e | e <;> rw [e] <;> simp <;> omega
                rw [← ha, hst2] at hih
                refine aw_iload dX7_page_59 rfl ?_
                refine aw_bipush dX7_page_61 (by decide) ⟨by decide, by decide⟩ ?_
                refine aw_iload_n dX7_page_63 rfl rfl ?_
                refine aw_iconst dX7_page_64 rfl ⟨by decide, by decide⟩ ?_
                refine aw_iadd dX7_page_65 (az_wr_id (by omega) (by omega)) ?_
                refine aw_imul dX7_page_66 (az_wr_id (by omega) (by omega)) ?_
                refine aw_icmp_ge (tgt := 98) dX7_page_67 rfl (fun h67 => absurd h67 (by omega)) (fun h67 => ?_)
                refine aw_iload dX7_page_70 rfl ?_
                refine aw_aload_n dX7_page_72 rfl rfl ⟨by decide, by decide⟩ ?_
                refine aw_iload dX7_page_73 rfl ?_
                refine aw_cV1p dX7_page_75 ml_RX7_106 (by assumption) (by decide) rfl rfl ⟨by decide, by decide, by decide, by decide⟩ (Nat.le_of_ble_eq_true rfl) (qp_c (sp_colourOf hK0 M (2 * (8 * p + (c : Int))) (by omega) (by omega)) hv) ?_
                refine aw_if_ne (tgt := 85) dX7_page_78 rfl (fun h78 => ?_) (fun h78 => ?_)
                · rw [if_neg h78] at hih
                  refine aw_iconst dX7_page_85 rfl ⟨by decide, by decide⟩ ?_
                  refine aw_iadd dX7_page_86 (az_wr_id (by omega) (by omega)) ?_
                  refine aw_istore dX7_page_87 (by decide) ?_
                  refine aw_iload dX7_page_89 rfl ?_
                  refine aw_iload_n dX7_page_91 rfl rfl ?_
                  refine aw_iadd dX7_page_92 (az_wr_id (by omega) (by omega)) ?_
                  refine aw_istore dX7_page_93 (by decide) ?_
                  refine aw_goto (tgt := 59) dX7_page_95 rfl ?_
                  exact hih
                · rw [if_pos h78] at hih
                  refine aw_iconst dX7_page_81 rfl ⟨by decide, by decide⟩ ?_
                  refine aw_goto (tgt := 86) dX7_page_82 rfl ?_
                  refine aw_iadd dX7_page_86 (az_wr_id (by omega) (by omega)) ?_
                  refine aw_istore dX7_page_87 (by decide) ?_
                  refine aw_iload dX7_page_89 rfl ?_
                  refine aw_iload_n dX7_page_91 rfl rfl ?_
                  refine aw_iadd dX7_page_92 (az_wr_id (by omega) (by omega)) ?_
                  refine aw_istore dX7_page_93 (by decide) ?_
                  refine aw_goto (tgt := 59) dX7_page_95 rfl ?_
                  exact hih
          have h0 := loop 8 0 (by omega) (by simp)
          rw [show 2 * (8 * p + ((0 : Nat) : Int)) = 16 * p by omega] at h0
          exact h0
        · exact e48 _ (by rw [if_pos h45] at hV; omega)
    · exact no (fun q => if0 h24 (by omega))
theorem sp_misFreed (hK : MaK K m) (M : az_M) (hc : HM M m S) (hw : WL S) (v : Int) (hv : nok S.1 v) : AM yX7_isFreed cX7_isFreed 2 (some .boolean) 4 0 0 [(1, m), (0, v)] K M (qp K M 0) := by
  have hK0 := hK
  obtain ⟨km, k1, y1⟩ := hK
  refine am_of (by decide) (Nat.le_of_ble_eq_true rfl) (L := [(1, m), (0, v)]) rfl ?_
  refine aw_iload_n dX7_isFreed_0 rfl rfl ?_
  refine aw_if_lt (tgt := 16) dX7_isFreed_1 rfl (fun h1 => ?_) (fun h1 => ?_)
  · refine aw_iconst dX7_isFreed_16 rfl ⟨by decide, by decide⟩ ?_
    exact aw_zret dX7_isFreed_17 (by omega) (by decide) (by decide) (qp_i rfl)
  · refine aw_aload_n dX7_isFreed_4 rfl rfl ⟨by decide, by decide⟩ ?_
    refine aw_iload_n dX7_isFreed_5 rfl rfl ?_
    refine aw_cV1p dX7_isFreed_6 ml_RX7_109 (by assumption) (by decide) rfl rfl ⟨by decide, by decide, by decide, by decide⟩ (Nat.le_of_ble_eq_true rfl) (sp_misObject hK0 M hw.1.1 hc.1 v) ?_
    refine aw_if_ne (tgt := 16) dX7_isFreed_9 rfl (fun h9 => ?_) (fun h9 => ?_)
    · refine aw_iconst dX7_isFreed_16 rfl ⟨by decide, by decide⟩ ?_
      exact aw_zret dX7_isFreed_17 (by omega) (by decide) (by decide) (qp_i rfl)
    · exfalso
      rcases hv with e | e
      · omega
      · exact if0 h9 e
end QM
