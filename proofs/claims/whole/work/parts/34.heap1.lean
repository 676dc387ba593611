/-! TreadRing$Heap: what its cells hold of a value -/
def HpK (K : az_K) (h : Int) : Prop := RgK K h ∧ az_at K h (0, 16) ∧ az_at K (h + 6) (100, 128) ∧ az_at K (h + 7) (100, 8) ∧ az_at K (h + 8) (100, 8) ∧ az_at K (h + 9) (100, 6) ∧ az_at K (h + 10) (100, 4) ∧ az_at K (h + 11) (100, 64) ∧ az_at K (h + 12) (100, 4) ∧ az_at K (h + 13) (100, 6) ∧ az_at K (h + 14) (100, 48) ∧
  K.2 h 0 = some (h + 1) ∧ K.2 h 1 = some (h + 6) ∧ K.2 h 2 = some (h + 7) ∧ K.2 h 3 = some (h + 8) ∧ K.2 h 4 = some (h + 9) ∧ K.2 h 5 = some (h + 10) ∧ K.2 h 6 = some (h + 11) ∧ K.2 h 7 = some (h + 12) ∧ K.2 h 8 = some (h + 13) ∧ K.2 h 9 = some (h + 14)
def sumI : List Int → (Int → Int) → Int
  | [], _ => 0
  | j :: t, f => f j + sumI t f
def fl (rg : Int → List Int) (j p : Int) : Int := (((rg j).filter (fun n => n / 8 == p)).length : Nat)
/-- how many of a page's slots are not free -/
def us (rg : Int → List Int) (p : Int) : Int := sumI [1, 2, 3, 5, 6, 7, 9, 10, 11] (fun j => fl rg j p)
theorem sumI_mv {f f' : Int → Int} {k0 k x y : Int} : ∀ J : List Int, J.Nodup → (∀ j ∈ J, f' j = f j - (if j = k0 then x else 0) + (if j = k then y else 0)) → sumI J f' = sumI J f - (if k0 ∈ J then x else 0) + (if k ∈ J then y else 0) := by
  intro J
  induction J with
  | nil => intro _ _; simp [sumI]
  | cons j t ih =>
    intro hn h
    obtain ⟨h1, h2⟩ := List.nodup_cons.mp hn
    have i1 := ih h2 (fun i hi => h i (List.mem_cons_of_mem _ hi))
    have i2 := h j List.mem_cons_self
    simp only [sumI, i1, i2, List.mem_cons]
    by_cases e1 : k0 = j
    · subst e1
      by_cases e2 : k = k0
      · subst e2; simp [h1]; omega
      · have e3 : ¬ k0 = k := fun e => e2 e.symm
        simp [h1, e2, e3]; omega
    · have e1' : ¬ j = k0 := fun e => e1 e.symm
      by_cases e2 : k = j
      · subst e2; simp [h1, e1, e1']; omega
      · have e3 : ¬ j = k := fun e => e2 e.symm
        simp [e1, e1', e2, e3]; omega
theorem filt_erase {n p : Int} {l : List Int} (hm : n ∈ l) : (((l.erase n).filter (fun n => n / 8 == p)).length : Int) = ((l.filter (fun n => n / 8 == p)).length : Int) - (if n / 8 = p then 1 else 0) := by
  induction l with
  | nil => cases hm
  | cons x t ih =>
    by_cases e : x = n
    · subst e
      rw [List.erase_cons_head, List.filter_cons]
      by_cases hp : x / 8 = p
      · simp [hp]
      · simp [hp]
    · have hm2 : n ∈ t := by
        rcases List.mem_cons.mp hm with h | h
        · exact absurd h.symm e
        · exact h
      rw [List.erase_cons_tail (by simpa using e), List.filter_cons, List.filter_cons]
      have := ih hm2
      by_cases hp : x / 8 = p
      · simp [hp]; omega
      · simp [hp]; omega
theorem fl_rmv {rg : Int → List Int} {n k0 k : Int} (front : Bool) (hm : n ∈ rg k0) (j p : Int) : fl (rmv rg n k0 k front) j p = fl rg j p - (if j = k0 then (if n / 8 = p then 1 else 0) else 0) + (if j = k then (if n / 8 = p then 1 else 0) else 0) := by
  unfold fl rmv
  have h1 : (((if j = k0 then (rg j).erase n else rg j).filter (fun n => n / 8 == p)).length : Int) = (((rg j).filter (fun n => n / 8 == p)).length : Int) - (if j = k0 then (if n / 8 = p then 1 else 0) else 0) := by
    by_cases e : j = k0
    · subst e
      rw [if_pos rfl, if_pos rfl]
      exact filt_erase hm
    · rw [if_neg e, if_neg e]; omega
  rw [← h1]
  by_cases e : j = k
  · rw [if_pos e, if_pos e]
    cases front
    · simp only [Bool.false_eq_true, if_false]
      rw [List.filter_append, List.length_append]
      by_cases hp : n / 8 = p
      · simp [hp]
      · simp [hp]
    · simp only [if_true]
      rw [List.filter_cons]
      by_cases hp : n / 8 = p
      · simp [hp]
      · simp [hp]
  · rw [if_neg e, if_neg e]; omega
theorem us_rmv {rg : Int → List Int} {n k0 k : Int} (front : Bool) (hm : n ∈ rg k0) (p : Int) : us (rmv rg n k0 k front) p = us rg p - (if k0 ∈ [1, 2, 3, 5, 6, 7, 9, 10, 11] then (if n / 8 = p then 1 else 0) else 0) + (if k ∈ [1, 2, 3, 5, 6, 7, 9, 10, 11] then (if n / 8 = p then 1 else 0) else 0) :=
  sumI_mv _ (by decide) (fun j _ => fl_rmv front hm j p)
def c_row (M : az_M) (h : Int) (g : Int → Int) : Prop := ∀ n, 0 ≤ n → n < 64 → (sl g (2 * n) → M (h + 4) n = kz g (2 * n) + g (2 * n)) ∧ (¬ sl g (2 * n) → M (h + 4) n = 12)
def c_cel (M : az_M) (h : Int) (g : Int → Int) : Prop := ∀ a, sl g a → (g a = 0 → M (h + 6) a = -1) ∧ (g a ≠ 0 → M (h + 6) a = g (128 + a) ∧ ∀ f, 0 ≤ f → f < g (128 + a) → M (h + 6) (a + 1 + f) = g (256 + a + 1 + f))
def c_siz (M : az_M) (h : Int) (g : Int → Int) : Prop := ∀ p, 0 ≤ p → p < 8 → M (h + 7) p = g (707 + p)
def c_use (M : az_M) (h : Int) (rg : Int → List Int) : Prop := ∀ p, 0 ≤ p → p < 8 → M (h + 8) p = us rg p
def c_nam (M : az_M) (h : Int) (g : Int → Int) : Prop := (∀ r, 0 ≤ r → r < 6 → M (h + 9) r = g (715 + r)) ∧ ∀ w, 0 ≤ w → w < 4 → M (h + 10) w = g (721 + w)
def c_gry (M : az_M) (h : Int) (gl : List Int) : Prop := M h 11 = (gl.length : Int) ∧ ∀ i : Nat, i < gl.length → M (h + 11) i = gl.getD i 0
def c_set (M : az_M) (h : Int) (g : Int → Int) : Prop := ∀ i, 0 ≤ i → i < 4 → M (h + 12) i = g (735 + i)
def c_tal (M : az_M) (h : Int) (g : Int → Int) : Prop := ∀ i, 0 ≤ i → i < 6 → M (h + 13) i = g (729 + i)
def c_log (M : az_M) (h : Int) (g : Int → Int) : Prop := 0 ≤ g 729 ∧ g 741 = min (g 729) 16 ∧ ∀ i w, 0 ≤ i → i < g 741 → 0 ≤ w → w < 3 → M (h + 14) ((g 729 - 1 - i) % 16 * 3 + w) = g (742 + 3 * i + w)
def c_sca (M : az_M) (h : Int) (g : Int → Int) : Prop := M h 10 = g 725 ∧ M h 12 = g 727 ∧ M h 13 = g 728 ∧ M h 14 = g 740 ∧ M h 15 = g 726
def HC (M : az_M) (h : Int) (g : Int → Int) (rg : Int → List Int) (gl : List Int) : Prop :=
  RR (M (h + 2)) (M (h + 3)) (M (h + 4)) (M (h + 5)) rg ∧ c_row M h g ∧ c_cel M h g ∧ c_siz M h g ∧ c_use M h rg ∧ c_nam M h g ∧ c_gry M h gl ∧ c_set M h g ∧ c_tal M h g ∧ c_log M h g ∧ c_sca M h g
theorem cAt_sl {M : az_M} {h : Int} {g : Int → Int} (hp : w_pg g) (hc : w_col g) (hr : c_row M h g) {a : Int} (hs : sl g a) : cAt (M (h + 4)) a = g a := by
  obtain ⟨e1, e2, e3, e4, e5⟩ := sl_even hp hs
  have h128 := hs.2.1
  have h0 := hs.1
  have h1 := (hr (a / 2) (by omega) (by omega)).1
  rw [show 2 * (a / 2) = a by omega] at h1
  have h2 := hc a h0 h128
  have hk : kz g a % 4 = 0 := by unfold kz; omega
  unfold cAt
  rw [h1 hs, if_pos ⟨h0, h128, e1, by omega⟩]
  omega
theorem cAt_no {M : az_M} {h : Int} {g : Int → Int} (hr : c_row M h g) {a : Int} (hs : ¬ sl g a) : cAt (M (h + 4)) a = -1 := by
  unfold cAt
  rw [if_neg]
  rintro ⟨h0, h1, h2, h3⟩
  have h4 := (hr (a / 2) (by omega) (by omega)).2
  rw [show 2 * (a / 2) = a by omega] at h4
  exact h3 (h4 hs)
theorem cAt_nok {M : az_M} {h : Int} {g : Int → Int} (hp : w_pg g) (hc : w_col g) (hr : c_row M h g) {a : Int} (ha : nok g a) : cAt (M (h + 4)) a = if 0 ≤ a then g a else -1 := by
  rcases ha with e | e
  · rw [e, if_neg (by omega)]
    exact cAt_no hr (fun q => by have := q.1; omega)
  · rw [if_pos e.1.1]
    exact cAt_sl hp hc hr e.1
set_option maxRecDepth 20000 in
theorem sp_rootOrNone {K : az_K} {h : Int} (hK : HpK K h) (M : az_M) (r : Int) (hr : r = -1 ∨ 0 ≤ r ∧ r < 6) : AM yX0_rootOrNone cX0_rootOrNone 2 (some .int) 0 0 0 [(1, h), (0, r)] K M (qp K M (if r = -1 then -1 else M (h + 9) r)) := by
  obtain ⟨-, kh, k6, k7, k8, k9, k10, k11, k12, k13, k14, z0, z1, z2, z3, z4, z5, z6, z7, z8, z9⟩ := hK
  refine am_of (by decide) (Nat.le_of_ble_eq_true rfl) (L := [(1, h), (0, r)]) rfl ?_
  refine aw_iload_n dX0_rootOrNone_0 rfl rfl ?_
  refine aw_iconst dX0_rootOrNone_1 rfl ⟨by decide, by decide⟩ ?_
  refine aw_icmp_ne (tgt := 9) dX0_rootOrNone_2 rfl (fun h2 => ?_) (fun h2 => ?_)
  · refine aw_aload_n dX0_rootOrNone_9 rfl rfl ⟨by decide, by decide⟩ ?_
    refine aw_gzF 4 dX0_rootOrNone_10 fl_RX0_28 (by assumption) rfl rfl (by assumption) ?_
    refine aw_iload_n dX0_rootOrNone_13 rfl rfl ?_
    refine aw_iv dX0_rootOrNone_14 (by assumption) (by omega) (by omega) rfl ?_
    exact aw_iret dX0_rootOrNone_15 (by decide) (by decide) (qp_i (by split <;> omega))
  · refine aw_iconst dX0_rootOrNone_5 rfl ⟨by decide, by decide⟩ ?_
    refine aw_goto (tgt := 15) dX0_rootOrNone_6 rfl ?_
    exact aw_iret dX0_rootOrNone_15 (by decide) (by decide) (qp_i (by split <;> omega))
set_option maxRecDepth 20000 in
theorem sp_sizeAtC {K : az_K} {h : Int} (hK : HpK K h) (M : az_M) (a : Int) (h0 : 0 ≤ a) (h1 : a < 128) : AM yX0_sizeAt cX0_sizeAt 2 (some .int) 0 0 0 [(1, h), (0, a)] K M (qp K M (M (h + 7) (a / 16))) := by
  obtain ⟨-, kh, k6, k7, k8, k9, k10, k11, k12, k13, k14, z0, z1, z2, z3, z4, z5, z6, z7, z8, z9⟩ := hK
  refine am_of (by decide) (Nat.le_of_ble_eq_true rfl) (L := [(1, h), (0, a)]) rfl ?_
  refine aw_aload_n dX0_sizeAt_0 rfl rfl ⟨by decide, by decide⟩ ?_
  refine aw_gzF 2 dX0_sizeAt_1 fl_RX0_22 (by assumption) rfl rfl (by assumption) ?_
  refine aw_iload_n dX0_sizeAt_4 rfl rfl ?_
  refine aw_bipush dX0_sizeAt_5 (by decide) ⟨by decide, by decide⟩ ?_
  refine aw_idiv dX0_sizeAt_7 (by omega) (by omega) ?_
  refine aw_iv dX0_sizeAt_8 (by assumption) (by omega) (by omega) rfl ?_
  exact aw_iret dX0_sizeAt_9 (by decide) (by decide) (qp_i rfl)
set_option maxRecDepth 20000 in
theorem sp_isObjectC {K : az_K} {h : Int} (hK : HpK K h) (M : az_M) (a : Int) (hro : ∀ x, 0 ≤ x → x < 64 → 0 ≤ M (h + 4) x) : AM yX0_isObject cX0_isObject 2 (some .boolean) 1 0 0 [(1, h), (0, a)] K M (qp K M (if 0 < cAt (M (h + 4)) a then 1 else 0)) := by
  obtain ⟨hRg, kh, k6, k7, k8, k9, k10, k11, k12, k13, k14, z0, z1, z2, z3, z4, z5, z6, z7, z8, z9⟩ := hK
  refine am_of (by decide) (Nat.le_of_ble_eq_true rfl) (L := [(1, h), (0, a)]) rfl ?_
  refine aw_aload_n dX0_isObject_0 rfl rfl ⟨by decide, by decide⟩ ?_
  refine aw_gzF 0 dX0_isObject_1 fl_RX0_12 (by assumption) rfl rfl (by assumption) ?_
  refine aw_iload_n dX0_isObject_4 rfl rfl ?_
  refine aw_cV1p dX0_isObject_5 ml_RX0_88 hRg.1 (by decide) rfl rfl ⟨by decide, by decide, by decide, by decide⟩ (Nat.le_of_ble_eq_true rfl) (sp_colourAt hRg M a hro) ?_
  refine aw_if_le (tgt := 15) dX0_isObject_8 rfl (fun h8 => ?_) (fun h8 => ?_)
  · refine aw_iconst dX0_isObject_15 rfl ⟨by decide, by decide⟩ ?_
    exact aw_zret dX0_isObject_16 (by omega) (by decide) (by decide) (qp_i (by split <;> omega))
  · refine aw_iconst dX0_isObject_11 rfl ⟨by decide, by decide⟩ ?_
    refine aw_goto (tgt := 16) dX0_isObject_12 rfl ?_
    exact aw_zret dX0_isObject_16 (by omega) (by decide) (by decide) (qp_i (by split <;> omega))
/-- the cell of a field -/
def fCell (M : az_M) (h a f : Int) : Int := if 0 < cAt (M (h + 4)) a ∧ 0 ≤ f ∧ f < M (h + 6) a then a + 1 + f else -1
theorem cAt_pos {ro : Int → Int} {a : Int} (h : 0 < cAt ro a) : 0 ≤ a ∧ a < 128 ∧ a % 2 = 0 := by
  unfold cAt at h
  split at h
  · rename_i q; exact ⟨q.1, q.2.1, q.2.2.1⟩
  · omega
set_option maxRecDepth 20000 in
theorem sp_fieldCell {K : az_K} {h : Int} (hK : HpK K h) (M : az_M) (a f : Int) (hro : ∀ x, 0 ≤ x → x < 64 → 0 ≤ M (h + 4) x) (hf : 0 < cAt (M (h + 4)) a → M (h + 6) a ≤ 8) : AM yX0_fieldCell cX0_fieldCell 3 (some .int) 1 0 0 [(1, h), (0, a), (0, f)] K M (qp K M (fCell M h a f)) := by
  obtain ⟨hRg, kh, k6, k7, k8, k9, k10, k11, k12, k13, k14, z0, z1, z2, z3, z4, z5, z6, z7, z8, z9⟩ := hK
  refine am_of (by decide) (Nat.le_of_ble_eq_true rfl) (L := [(1, h), (0, a), (0, f)]) rfl ?_
  refine aw_aload_n dX0_fieldCell_0 rfl rfl ⟨by decide, by decide⟩ ?_
  refine aw_gzF 0 dX0_fieldCell_1 fl_RX0_12 (by assumption) rfl rfl (by assumption) ?_
  refine aw_iload_n dX0_fieldCell_4 rfl rfl ?_
  refine aw_cV1p dX0_fieldCell_5 ml_RX0_88 hRg.1 (by decide) rfl rfl ⟨by decide, by decide, by decide, by decide⟩ (Nat.le_of_ble_eq_true rfl) (sp_colourAt hRg M a hro) ?_
  refine aw_if_le (tgt := 25) dX0_fieldCell_8 rfl (fun h8 => ?_) (fun h8 => ?_)
  · refine aw_iconst dX0_fieldCell_25 rfl ⟨by decide, by decide⟩ ?_
    exact aw_iret dX0_fieldCell_26 (by decide) (by decide) (qp_i (by unfold fCell; split <;> omega))
  · have ha := cAt_pos h8
    have hf8 := hf h8
    refine aw_iload_n dX0_fieldCell_11 rfl rfl ?_
    refine aw_if_lt (tgt := 25) dX0_fieldCell_12 rfl (fun h12 => ?_) (fun h12 => ?_)
    · refine aw_iconst dX0_fieldCell_25 rfl ⟨by decide, by decide⟩ ?_
      exact aw_iret dX0_fieldCell_26 (by decide) (by decide) (qp_i (by unfold fCell; split <;> omega))
    · refine aw_iload_n dX0_fieldCell_15 rfl rfl ?_
      refine aw_aload_n dX0_fieldCell_16 rfl rfl ⟨by decide, by decide⟩ ?_
      refine aw_gzF 1 dX0_fieldCell_17 fl_RX0_18 (by assumption) rfl rfl (by assumption) ?_
      refine aw_iload_n dX0_fieldCell_20 rfl rfl ?_
      refine aw_iv dX0_fieldCell_21 (by assumption) (by omega) (by omega) rfl ?_
      refine aw_icmp_lt (tgt := 27) dX0_fieldCell_22 rfl (fun h22 => ?_) (fun h22 => ?_)
      · refine aw_iload_n dX0_fieldCell_27 rfl rfl ?_
        refine aw_iconst dX0_fieldCell_28 rfl ⟨by decide, by decide⟩ ?_
        refine aw_iadd dX0_fieldCell_29 (az_wr_id (by omega) (by omega)) ?_
        refine aw_iload_n dX0_fieldCell_30 rfl rfl ?_
        refine aw_iadd dX0_fieldCell_31 (az_wr_id (by omega) (by omega)) ?_
        exact aw_iret dX0_fieldCell_32 (by decide) (by decide) (qp_i (by unfold fCell; split <;> omega))
      · refine aw_iconst dX0_fieldCell_25 rfl ⟨by decide, by decide⟩ ?_
        exact aw_iret dX0_fieldCell_26 (by decide) (by decide) (qp_i (by unfold fCell; split <;> omega))
set_option maxRecDepth 20000 in
theorem sp_fieldOfRoot {K : az_K} {h : Int} (hK : HpK K h) (M : az_M) (r f : Int) (r0 : 0 ≤ r) (r1 : r < 6) (hro : ∀ x, 0 ≤ x → x < 64 → 0 ≤ M (h + 4) x) (hf : 0 < cAt (M (h + 4)) (M (h + 9) r) → M (h + 6) (M (h + 9) r) ≤ 8) : AM yX0_fieldOfRoot cX0_fieldOfRoot 3 (some .int) 2 0 0 [(1, h), (0, r), (0, f)] K M (qp K M (fCell M h (M (h + 9) r) f)) := by
  have hK0 := hK
  obtain ⟨hRg, kh, k6, k7, k8, k9, k10, k11, k12, k13, k14, z0, z1, z2, z3, z4, z5, z6, z7, z8, z9⟩ := hK
  refine am_of (by decide) (Nat.le_of_ble_eq_true rfl) (L := [(1, h), (0, r), (0, f)]) rfl ?_
  refine aw_aload_n dX0_fieldOfRoot_0 rfl rfl ⟨by decide, by decide⟩ ?_
  refine aw_aload_n dX0_fieldOfRoot_1 rfl rfl ⟨by decide, by decide⟩ ?_
  refine aw_gzF 4 dX0_fieldOfRoot_2 fl_RX0_28 (by assumption) rfl rfl (by assumption) ?_
  refine aw_iload_n dX0_fieldOfRoot_5 rfl rfl ?_
  refine aw_iv dX0_fieldOfRoot_6 (by assumption) (by omega) (by omega) rfl ?_
  refine aw_iload_n dX0_fieldOfRoot_7 rfl rfl ?_
  refine aw_cV2p dX0_fieldOfRoot_8 ml_RX0_92 (by assumption) (by decide) rfl rfl ⟨by decide, by decide, by decide, by decide⟩ (Nat.le_of_ble_eq_true rfl) (sp_fieldCell hK0 M (M (h + 9) r) f hro hf) ?_
  exact aw_iret dX0_fieldOfRoot_11 (by decide) (by decide) (qp_i rfl)
