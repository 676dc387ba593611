/-! Rings.clear, Heap.clear; Rings.addressAt -/
theorem fill_in (M : az_M) {a i n v j : Int} (j0 : i ≤ j) (j1 : j < n) : az_fill M a i n v a j = v := by unfold az_fill; rw [if_pos ⟨rfl, j0, j1⟩]
theorem fill_oth (M : az_M) {a i n v x : Int} (h : x ≠ a) : az_fill M a i n v x = M x := by
  funext j
  unfold az_fill
  rw [if_neg (fun q => h q.1)]
def clrK (M' : az_M) (q : Int) : Prop := (∀ x, 0 ≤ x → x < 77 → M' (q + 2) x = x ∧ M' (q + 3) x = x) ∧ (∀ x, 0 ≤ x → x < 64 → M' (q + 4) x = 12) ∧ ∀ x, 0 ≤ x → x < 12 → M' (q + 5) x = 0
set_option maxRecDepth 20000 in
theorem sp_rclear {K : az_K} {q : Int} (hK : RgK K q) (M : az_M) : AM yX3_clear cX3_clear 2 none 1 0 0 [(1, q + 1)] K M (qv K (fun M' => clrK M' q ∧ ∀ b, b < q + 2 ∨ q + 5 < b → M' b = M b)) := by
  obtain ⟨k0, k1, k2, k3, k4, z0, z1, z2, z3⟩ := hK
  refine am_of (by decide) (Nat.le_of_ble_eq_true rfl) (L := [(1, q + 1), (9, 0)]) rfl ?_
  refine aw_iconst dX3_clear_0 rfl ⟨by decide, by decide⟩ ?_
  refine aw_istore_n dX3_clear_1 rfl (by decide) ?_
  have loop : ∀ (k i : Nat) (M1 : az_M), i + k = 77 → (∀ x, 0 ≤ x → x < (i : Int) → M1 (q + 2) x = x ∧ M1 (q + 3) x = x) → (∀ b, b < q + 2 ∨ q + 3 < b → M1 b = M b) → AW az_P0 (az_Z (qv K (fun M' => clrK M' q ∧ ∀ b, b < q + 2 ∨ q + 5 < b → M' b = M b)) 0 0) (az_rm 1 0 0) yX3_clear cX3_clear 2 none 0 0 2 [(1, q + 1), (0, (i : Int))] [] K M1 := by
    intro k
    induction k with
    | zero =>
      intro i M1 hi hx ho
      refine aw_iload_n dX3_clear_2 rfl rfl ?_
      refine aw_aload_n dX3_clear_3 rfl rfl ⟨by decide, by decide⟩ ?_
      refine aw_gzF 0 dX3_clear_4 fl_RX3_11 (by assumption) rfl rfl (by assumption) ?_
      refine aw_alen100 dX3_clear_7 (by assumption) ⟨by omega, by omega⟩ ?_
      refine aw_icmp_ge (tgt := 31) dX3_clear_8 rfl (fun h8 => ?_) (fun h8 => ?_)
      · refine aw_aload_n dX3_clear_31 rfl rfl ⟨by decide, by decide⟩ ?_
        refine aw_gzF 2 dX3_clear_32 fl_RX3_18 (by assumption) rfl rfl (by assumption) ?_
        refine aw_bipush dX3_clear_35 (by decide) ⟨by decide, by decide⟩ ?_
        refine aw_cS2v dX3_clear_37 ml_RX3_27 ⟨by decide, by decide, by decide, by decide⟩ (Nat.le_of_ble_eq_true rfl) (sp_fill2 k3 (by omega) 12 M1) (fun M2 hM2 => ?_)
        refine aw_aload_n dX3_clear_40 rfl rfl ⟨by decide, by decide⟩ ?_
        refine aw_gzF 3 dX3_clear_41 fl_RX3_21 (by assumption) rfl rfl (by assumption) ?_
        refine aw_iconst dX3_clear_44 rfl ⟨by decide, by decide⟩ ?_
        refine aw_cS2v dX3_clear_45 ml_RX3_27 ⟨by decide, by decide, by decide, by decide⟩ (Nat.le_of_ble_eq_true rfl) (sp_fill2 k4 (by omega) 0 M2) (fun M3 hM3 => ?_)
        refine aw_aload_n dX3_clear_48 rfl rfl ⟨by decide, by decide⟩ ?_
        refine aw_gzF 3 dX3_clear_49 fl_RX3_21 (by assumption) rfl rfl (by assumption) ?_
        refine aw_bipush dX3_clear_52 (by decide) ⟨by decide, by decide⟩ ?_
        refine aw_bipush dX3_clear_54 (by decide) ⟨by decide, by decide⟩ ?_
        refine aw_iast dX3_clear_56 (by assumption) (by omega) (by omega) ?_
        refine aw_vret dX3_clear_57 (by decide) (by decide) ⟨rfl, rfl, ⟨fun x x0 x1 => ?_, fun x x0 x1 => ?_, fun x x0 x1 => ?_⟩, fun b hb => ?_⟩
        · rw [up_oth _ _ _ (by omega), up_oth _ _ _ (by omega), hM3, fill_oth _ (by omega), fill_oth _ (by omega), hM2, fill_oth _ (by omega), fill_oth _ (by omega)]
          exact hx x x0 (by omega)
        · rw [up_oth _ _ _ (by omega), hM3, fill_oth _ (by omega), hM2, fill_in _ x0 (by omega)]
        · rw [az_up_i _ _ _ _ (by omega), hM3, fill_in _ x0 (by omega)]
        · rw [up_oth _ _ _ (by omega), hM3, fill_oth _ (by omega), hM2, fill_oth _ (by omega), ho b (by omega)]
      · omega
    | succ k ih =>
      intro i M1 hi hx ho
      refine aw_iload_n dX3_clear_2 rfl rfl ?_
      refine aw_aload_n dX3_clear_3 rfl rfl ⟨by decide, by decide⟩ ?_
      refine aw_gzF 0 dX3_clear_4 fl_RX3_11 (by assumption) rfl rfl (by assumption) ?_
      refine aw_alen100 dX3_clear_7 (by assumption) ⟨by omega, by omega⟩ ?_
      refine aw_icmp_ge (tgt := 31) dX3_clear_8 rfl (fun h8 => ?_) (fun h8 => ?_)
      · omega
      · refine aw_aload_n dX3_clear_11 rfl rfl ⟨by decide, by decide⟩ ?_
        refine aw_gzF 0 dX3_clear_12 fl_RX3_11 (by assumption) rfl rfl (by assumption) ?_
        refine aw_iload_n dX3_clear_15 rfl rfl ?_
        refine aw_iload_n dX3_clear_16 rfl rfl ?_
        refine aw_iast dX3_clear_17 (by assumption) (by omega) (by omega) ?_
        refine aw_aload_n dX3_clear_18 rfl rfl ⟨by decide, by decide⟩ ?_
        refine aw_gzF 1 dX3_clear_19 fl_RX3_15 (by assumption) rfl rfl (by assumption) ?_
        refine aw_iload_n dX3_clear_22 rfl rfl ?_
        refine aw_iload_n dX3_clear_23 rfl rfl ?_
        refine aw_iast dX3_clear_24 (by assumption) (by omega) (by omega) ?_
        refine aw_iinc dX3_clear_25 rfl (az_wr_id (by omega) (by omega)) (by decide) ?_
        refine aw_goto (tgt := 2) dX3_clear_28 rfl ?_
        refine ih (i + 1) _ (by omega) (fun x x0 x1 => ?_) (fun b hb => ?_)
        · rw [up_oth _ _ _ (show q + 2 ≠ q + 3 by omega), up_row, up_row, up_oth _ _ _ (show q + 3 ≠ q + 2 by omega)]
          show (if x = (i : Int) then (i : Int) else M1 (q + 2) x) = x ∧ (if x = (i : Int) then (i : Int) else M1 (q + 3) x) = x
          by_cases e : x = (i : Int)
          · rw [if_pos e, if_pos e]; exact ⟨e.symm, e.symm⟩
          · rw [if_neg e, if_neg e]; exact hx x x0 (by omega)
        · rw [up_oth _ _ _ (by omega), up_oth _ _ _ (by omega), ho b hb]
  exact loop 77 0 M (by omega) (fun x x0 x1 => by omega) (fun _ _ => rfl)
/-- a heap that is new -/
def clrG (n : Int) : Int → Int := fun i => if 715 ≤ i ∧ i < 725 ∨ i = 727 then -1 else if i = 725 then n else if i = 737 ∨ i = 738 then 2 else 0
def clrS (n : Int) : hSt := (clrG n, fun _ => [], [])
theorem clr_0 (n : Int) {i : Int} (h : i < 715 ∨ i = 726 ∨ 728 ≤ i ∧ i < 737 ∨ 739 ≤ i) : clrG n i = 0 := by
  unfold clrG
  rw [if_neg (by omega), if_neg (by omega), if_neg (by omega)]
theorem clr_n (n : Int) {i : Int} (h : 715 ≤ i ∧ i < 725 ∨ i = 727) : clrG n i = -1 := by
  unfold clrG
  rw [if_pos h]
theorem clr_sl (n a : Int) : ¬ sl (clrG n) a := by
  rintro ⟨h0, h1, h2, -⟩
  exact h2 (clr_0 n (by omega))
theorem clrS_wf {n : Int} (n0 : 1 ≤ n) (n8 : n ≤ 8) : WL (clrS n) := by
  have h725 : clrG n 725 = n := rfl
  refine ⟨⟨⟨by show 1 ≤ clrG n 725; omega, by show clrG n 725 ≤ 8; omega, fun p p0 p1 => ?_⟩, fun a a0 a1 => ?_, fun k k0 k1 => ⟨List.nodup_nil, fun m => ?_⟩, fun a ha => absurd ha (clr_sl n a), ⟨fun x x0 x1 => Or.inl (clr_n n (by omega)), fun a f ha => absurd ha.1 (clr_sl n a)⟩, ?_, ?_⟩, ?_⟩
  · show (clrG n (707 + p) = 0 ∨ _) ∧ (_ → clrG n (707 + p) = 0)
    have := clr_0 n (i := 707 + p) (by omega)
    exact ⟨Or.inl this, fun _ => this⟩
  · show 0 ≤ clrG n a ∧ clrG n a ≤ 3 ∧ (_ → clrG n a = 0)
    have := clr_0 n (i := a) (by omega)
    exact ⟨by omega, by omega, fun _ => this⟩
  · constructor
    · intro h; cases h
    · rintro ⟨-, -, h, -⟩; exact absurd h (clr_sl n _)
  · show w_run (clrG n) []
    refine ⟨Or.inl rfl, fun _ => ⟨rfl, rfl, rfl, fun a a0 a1 => ?_⟩, List.nodup_nil, fun a => ?_, Or.inl ⟨rfl, rfl⟩⟩
    · have := clr_0 n (i := a) (by omega)
      omega
    · constructor
      · intro h; cases h
      · rintro ⟨h, -⟩; exact absurd h.1 (clr_sl n _)
  · show w_set (clrG n)
    refine ⟨?_, ?_, ?_, ?_⟩
    · have : clrG n 735 = 0 := rfl
      omega
    · have : clrG n 736 = 0 := rfl
      omega
    · have : clrG n 737 = 2 := rfl
      omega
    · have : clrG n 738 = 2 := rfl
      omega
  · intro h
    have : clrG n 726 = 0 := rfl
    have h' : clrG n 726 = 1 := h
    omega
set_option maxRecDepth 20000 in
set_option maxHeartbeats 1000000 in
theorem sp_clear {K : az_K} {h : Int} (hK : HpK K h) (M : az_M) (n : Int) : AM yX0_clear cX0_clear 2 none 2 0 0 [(1, h), (0, n)] K M (qv K (fun M' => HS M' h (clrS n) ∧ frH M M' h)) := by
  have hK0 := hK
  obtain ⟨hRg, kh, k6, k7, k8, k9, k10, k11, k12, k13, k14, z0, z1, z2, z3, z4, z5, z6, z7, z8, z9⟩ := hK
  refine am_of (by decide) (Nat.le_of_ble_eq_true rfl) (L := [(1, h), (0, n)]) rfl ?_
  refine aw_aload_n dX0_clear_0 rfl rfl ⟨by decide, by decide⟩ ?_
  refine aw_gzF 0 dX0_clear_1 fl_RX0_12 (by assumption) rfl rfl (by assumption) ?_
  refine aw_cV0v dX0_clear_4 ml_RX0_50 hRg.1 (by decide) rfl rfl ⟨by decide, by decide, by decide, by decide⟩ (Nat.le_of_ble_eq_true rfl) (sp_rclear hRg M) (fun M1 hM1 => ?_)
  obtain ⟨⟨c1, c2, c3⟩, c4⟩ := hM1
  refine aw_aload_n dX0_clear_7 rfl rfl ⟨by decide, by decide⟩ ?_
  refine aw_gzF 1 dX0_clear_8 fl_RX0_18 (by assumption) rfl rfl (by assumption) ?_
  refine aw_iconst dX0_clear_11 rfl ⟨by decide, by decide⟩ ?_
  refine aw_cS2v dX0_clear_12 ml_RX0_52 ⟨by decide, by decide, by decide, by decide⟩ (Nat.le_of_ble_eq_true rfl) (sp_fill2 k6 (by omega) (-1) M1) (fun M2 hM2 => ?_)
  refine aw_aload_n dX0_clear_15 rfl rfl ⟨by decide, by decide⟩ ?_
  refine aw_gzF 2 dX0_clear_16 fl_RX0_22 (by assumption) rfl rfl (by assumption) ?_
  refine aw_iconst dX0_clear_19 rfl ⟨by decide, by decide⟩ ?_
  refine aw_cS2v dX0_clear_20 ml_RX0_52 ⟨by decide, by decide, by decide, by decide⟩ (Nat.le_of_ble_eq_true rfl) (sp_fill2 k7 (by omega) 0 M2) (fun M3 hM3 => ?_)
  refine aw_aload_n dX0_clear_23 rfl rfl ⟨by decide, by decide⟩ ?_
  refine aw_gzF 3 dX0_clear_24 fl_RX0_25 (by assumption) rfl rfl (by assumption) ?_
  refine aw_iconst dX0_clear_27 rfl ⟨by decide, by decide⟩ ?_
  refine aw_cS2v dX0_clear_28 ml_RX0_52 ⟨by decide, by decide, by decide, by decide⟩ (Nat.le_of_ble_eq_true rfl) (sp_fill2 k8 (by omega) 0 M3) (fun M4 hM4 => ?_)
  refine aw_aload_n dX0_clear_31 rfl rfl ⟨by decide, by decide⟩ ?_
  refine aw_gzF 4 dX0_clear_32 fl_RX0_28 (by assumption) rfl rfl (by assumption) ?_
  refine aw_iconst dX0_clear_35 rfl ⟨by decide, by decide⟩ ?_
  refine aw_cS2v dX0_clear_36 ml_RX0_52 ⟨by decide, by decide, by decide, by decide⟩ (Nat.le_of_ble_eq_true rfl) (sp_fill2 k9 (by omega) (-1) M4) (fun M5 hM5 => ?_)
  refine aw_aload_n dX0_clear_39 rfl rfl ⟨by decide, by decide⟩ ?_
  refine aw_gzF 5 dX0_clear_40 fl_RX0_31 (by assumption) rfl rfl (by assumption) ?_
  refine aw_iconst dX0_clear_43 rfl ⟨by decide, by decide⟩ ?_
  refine aw_cS2v dX0_clear_44 ml_RX0_52 ⟨by decide, by decide, by decide, by decide⟩ (Nat.le_of_ble_eq_true rfl) (sp_fill2 k10 (by omega) (-1) M5) (fun M6 hM6 => ?_)
  refine aw_aload_n dX0_clear_47 rfl rfl ⟨by decide, by decide⟩ ?_
  refine aw_gzF 8 dX0_clear_48 fl_RX0_40 (by assumption) rfl rfl (by assumption) ?_
  refine aw_iconst dX0_clear_51 rfl ⟨by decide, by decide⟩ ?_
  refine aw_cS2v dX0_clear_52 ml_RX0_52 ⟨by decide, by decide, by decide, by decide⟩ (Nat.le_of_ble_eq_true rfl) (sp_fill2 k13 (by omega) 0 M6) (fun M7 hM7 => ?_)
  refine aw_aload_n dX0_clear_55 rfl rfl ⟨by decide, by decide⟩ ?_
  refine aw_gzF 7 dX0_clear_56 fl_RX0_37 (by assumption) rfl rfl (by assumption) ?_
  refine aw_iconst dX0_clear_59 rfl ⟨by decide, by decide⟩ ?_
  refine aw_iconst dX0_clear_60 rfl ⟨by decide, by decide⟩ ?_
  refine aw_iast dX0_clear_61 (by assumption) (by omega) (by omega) ?_
  refine aw_aload_n dX0_clear_62 rfl rfl ⟨by decide, by decide⟩ ?_
  refine aw_gzF 7 dX0_clear_63 fl_RX0_37 (by assumption) rfl rfl (by assumption) ?_
  refine aw_iconst dX0_clear_66 rfl ⟨by decide, by decide⟩ ?_
  refine aw_iconst dX0_clear_67 rfl ⟨by decide, by decide⟩ ?_
  refine aw_iast dX0_clear_68 (by assumption) (by omega) (by omega) ?_
  refine aw_aload_n dX0_clear_69 rfl rfl ⟨by decide, by decide⟩ ?_
  refine aw_gzF 7 dX0_clear_70 fl_RX0_37 (by assumption) rfl rfl (by assumption) ?_
  refine aw_iconst dX0_clear_73 rfl ⟨by decide, by decide⟩ ?_
  refine aw_iconst dX0_clear_74 rfl ⟨by decide, by decide⟩ ?_
  refine aw_iast dX0_clear_75 (by assumption) (by omega) (by omega) ?_
  refine aw_aload_n dX0_clear_76 rfl rfl ⟨by decide, by decide⟩ ?_
  refine aw_gzF 7 dX0_clear_77 fl_RX0_37 (by assumption) rfl rfl (by assumption) ?_
  refine aw_iconst dX0_clear_80 rfl ⟨by decide, by decide⟩ ?_
  refine aw_iconst dX0_clear_81 rfl ⟨by decide, by decide⟩ ?_
  refine aw_iast dX0_clear_82 (by assumption) (by omega) (by omega) ?_
  generalize hM8 : az_up (az_up (az_up (az_up M7 (h + 12) 0 0) (h + 12) 1 0) (h + 12) 2 2) (h + 12) 3 2 = M8
  have o8 : ∀ b, b ≠ h + 12 → M8 b = M7 b := fun b hb => by rw [← hM8, up_oth _ _ _ hb, up_oth _ _ _ hb, up_oth _ _ _ hb, up_oth _ _ _ hb]
  have v12 : ∀ i, 0 ≤ i → i < 4 → M8 (h + 12) i = clrG n (735 + i) := by
    intro i i0 i1
    have hi : i = 0 ∨ i = 1 ∨ i = 2 ∨ i = 3 := by omega
    rw [← hM8]
    rcases hi with rfl | rfl | rfl | rfl
    · rw [az_up_i _ _ _ _ (by omega), az_up_i _ _ _ _ (by omega), az_up_i _ _ _ _ (by omega), az_up_s]; rfl
    · rw [az_up_i _ _ _ _ (by omega), az_up_i _ _ _ _ (by omega), az_up_s]; rfl
    · rw [az_up_i _ _ _ _ (by omega), az_up_s]; rfl
    · rw [az_up_s]; rfl
  have o7 : ∀ b, b < h + 6 ∨ h + 13 < b → M7 b = M1 b := fun b hb => by
    rw [hM7, fill_oth _ (by omega), hM6, fill_oth _ (by omega), hM5, fill_oth _ (by omega), hM4, fill_oth _ (by omega), hM3, fill_oth _ (by omega), hM2, fill_oth _ (by omega)]
  have v6 : ∀ x, 0 ≤ x → x < 128 → M7 (h + 6) x = -1 := fun x x0 x1 => by
    rw [hM7, fill_oth _ (by omega), hM6, fill_oth _ (by omega), hM5, fill_oth _ (by omega), hM4, fill_oth _ (by omega), hM3, fill_oth _ (by omega), hM2, fill_in _ x0 (by omega)]
  have v7 : ∀ x, 0 ≤ x → x < 8 → M7 (h + 7) x = 0 := fun x x0 x1 => by
    rw [hM7, fill_oth _ (by omega), hM6, fill_oth _ (by omega), hM5, fill_oth _ (by omega), hM4, fill_oth _ (by omega), hM3, fill_in _ x0 (by omega)]
  have v8 : ∀ x, 0 ≤ x → x < 8 → M7 (h + 8) x = 0 := fun x x0 x1 => by
    rw [hM7, fill_oth _ (by omega), hM6, fill_oth _ (by omega), hM5, fill_oth _ (by omega), hM4, fill_in _ x0 (by omega)]
  have v9 : ∀ x, 0 ≤ x → x < 6 → M7 (h + 9) x = -1 := fun x x0 x1 => by
    rw [hM7, fill_oth _ (by omega), hM6, fill_oth _ (by omega), hM5, fill_in _ x0 (by omega)]
  have v10 : ∀ x, 0 ≤ x → x < 4 → M7 (h + 10) x = -1 := fun x x0 x1 => by
    rw [hM7, fill_oth _ (by omega), hM6, fill_in _ x0 (by omega)]
  have v13 : ∀ x, 0 ≤ x → x < 6 → M7 (h + 13) x = 0 := fun x x0 x1 => by
    rw [hM7, fill_in _ x0 (by omega)]
  clear hM2 hM3 hM4 hM5 hM6 hM7 hM8
  refine aw_aload_n dX0_clear_83 rfl rfl ⟨by decide, by decide⟩ ?_
  refine aw_iload_n dX0_clear_84 rfl rfl ?_
  refine aw_pi 10 dX0_clear_85 fl_RX0_58 (by assumption) rfl rfl ?_
  refine aw_aload_n dX0_clear_88 rfl rfl ⟨by decide, by decide⟩ ?_
  refine aw_iconst dX0_clear_89 rfl ⟨by decide, by decide⟩ ?_
  refine aw_pi 11 dX0_clear_90 fl_RX0_62 (by assumption) rfl rfl ?_
  refine aw_aload_n dX0_clear_93 rfl rfl ⟨by decide, by decide⟩ ?_
  refine aw_iconst dX0_clear_94 rfl ⟨by decide, by decide⟩ ?_
  refine aw_pi 12 dX0_clear_95 fl_RX0_65 (by assumption) rfl rfl ?_
  refine aw_aload_n dX0_clear_98 rfl rfl ⟨by decide, by decide⟩ ?_
  refine aw_iconst dX0_clear_99 rfl ⟨by decide, by decide⟩ ?_
  refine aw_pi 13 dX0_clear_100 fl_RX0_68 (by assumption) rfl rfl ?_
  refine aw_aload_n dX0_clear_103 rfl rfl ⟨by decide, by decide⟩ ?_
  refine aw_iconst dX0_clear_104 rfl ⟨by decide, by decide⟩ ?_
  refine aw_pi 14 dX0_clear_105 fl_RX0_71 (by assumption) rfl rfl ?_
  refine aw_aload_n dX0_clear_108 rfl rfl ⟨by decide, by decide⟩ ?_
  refine aw_iconst dX0_clear_109 rfl ⟨by decide, by decide⟩ ?_
  refine aw_pz 15 dX0_clear_110 fl_RX0_74 (by assumption) rfl rfl (by omega) ?_
  generalize hM9 : az_up (az_up (az_up (az_up (az_up (az_up M8 h 10 n) h 11 0) h 12 (-1)) h 13 0) h 14 0) h 15 0 = M9
  have o9 : ∀ b, b ≠ h → M9 b = M8 b := fun b hb => by rw [← hM9, up_oth _ _ _ hb, up_oth _ _ _ hb, up_oth _ _ _ hb, up_oth _ _ _ hb, up_oth _ _ _ hb, up_oth _ _ _ hb]
  refine aw_vret dX0_clear_113 (by decide) (by decide) ⟨rfl, rfl, ?_, fun b hb => by rw [o9 b (by omega), o8 b (by omega), o7 b (by omega), c4 b (by omega)]⟩
  have r2 : M9 (h + 2) = M1 (h + 2) := by rw [o9 _ (by omega), o8 _ (by omega), o7 _ (by omega)]
  have r3 : M9 (h + 3) = M1 (h + 3) := by rw [o9 _ (by omega), o8 _ (by omega), o7 _ (by omega)]
  have r4 : M9 (h + 4) = M1 (h + 4) := by rw [o9 _ (by omega), o8 _ (by omega), o7 _ (by omega)]
  have r5 : M9 (h + 5) = M1 (h + 5) := by rw [o9 _ (by omega), o8 _ (by omega), o7 _ (by omega)]
  show HC M9 h (clrG n) (fun _ => []) []
  refine ⟨?_, ?_, fun a ha => absurd ha (clr_sl n a), ?_, ?_, ⟨?_, ?_⟩, ⟨?_, ?_⟩, ?_, ?_, ⟨?_, ?_, ?_⟩, ?_⟩
  · rw [r2, r3, r4, r5]
    refine ⟨fun x x0 x1 => ?_, fun k k0 k1 => ?_, fun x x0 x1 => ?_⟩
    · obtain ⟨q1, q2⟩ := c1 x x0 x1
      rw [q1, q2, q1]; exact ⟨⟨x0, x1⟩, ⟨x0, x1⟩, rfl, rfl⟩
    · refine ⟨(c1 (64 + k) (by omega) (by omega)).1, List.nodup_nil, c3 k k0 k1, fun x hx => by cases hx⟩
    · rw [c2 x x0 x1]; exact ⟨by omega, by omega, fun q => by omega⟩
  · intro m m0 m1
    rw [r4, c2 m m0 m1]
    exact ⟨fun q => absurd q (clr_sl n _), fun _ => rfl⟩
  · intro p p0 p1
    rw [o9 _ (by omega), o8 _ (by omega), v7 p p0 p1, clr_0 n (by omega)]
  · intro p p0 p1
    rw [o9 _ (by omega), o8 _ (by omega), v8 p p0 p1]; rfl
  · intro r r0 r1
    rw [o9 _ (by omega), o8 _ (by omega), v9 r r0 r1, clr_n n (by omega)]
  · intro w w0 w1
    rw [o9 _ (by omega), o8 _ (by omega), v10 w w0 w1, clr_n n (by omega)]
  · rw [← hM9, az_up_i _ _ _ _ (by omega), az_up_i _ _ _ _ (by omega), az_up_i _ _ _ _ (by omega), az_up_i _ _ _ _ (by omega), az_up_s]; rfl
  · intro i hi; exact absurd hi (Nat.not_lt_zero i)
  · intro i i0 i1
    rw [o9 _ (by omega)]; exact v12 i i0 i1
  · intro i i0 i1
    rw [o9 _ (by omega), o8 _ (by omega), v13 i i0 i1, clr_0 n (by omega)]
  · exact Int.le_refl _
  · rfl
  · intro i w i0 i1
    have : clrG n 741 = 0 := rfl
    omega
  · refine ⟨?_, ?_, ?_, ?_, ?_⟩ <;> rw [← hM9]
    · rw [az_up_i _ _ _ _ (by omega), az_up_i _ _ _ _ (by omega), az_up_i _ _ _ _ (by omega), az_up_i _ _ _ _ (by omega), az_up_i _ _ _ _ (by omega), az_up_s]; rfl
    · rw [az_up_i _ _ _ _ (by omega), az_up_i _ _ _ _ (by omega), az_up_i _ _ _ _ (by omega), az_up_s]; rfl
    · rw [az_up_i _ _ _ _ (by omega), az_up_i _ _ _ _ (by omega), az_up_s]; rfl
    · rw [az_up_i _ _ _ _ (by omega), az_up_s]; rfl
    · rw [az_up_s]; rfl
/-- the i-th of a ring -/
def lk (l : List Int) (i : Int) : Int := match l[i.toNat]? with
  | some n => 2 * n
  | none => -1
def catR (rg : Int → List Int) (k : Int) : Nat → List Int
  | 0 => []
  | m + 1 => rg (k + 3 - m) ++ catR rg k m
theorem lk_app (l1 l2 : List Int) {i : Int} (i0 : 0 ≤ i) : lk (l1 ++ l2) i = if i < l1.length then lk l1 i else lk l2 (i - l1.length) := by
  unfold lk
  by_cases e : i < l1.length
  · rw [if_pos e, List.getElem?_append_left (by omega)]
  · rw [if_neg e, List.getElem?_append_right (by omega), show i.toNat - l1.length = (i - l1.length).toNat by omega]
theorem lk_nil {i : Int} : lk [] i = -1 := rfl
theorem ch_nth {nx : Int → Int} {b : Int} : ∀ {l : List Int} {a : Int}, ch nx a l b → (∀ x t, l = x :: t → nx a = x) ∧ ∀ j : Nat, j + 1 < l.length → nx (l.getD j 0) = l.getD (j + 1) 0 := by
  intro l
  induction l with
  | nil => intro a _; exact ⟨fun x t h => by simp at h, fun j h => by simp at h⟩
  | cons x l ih =>
    intro a h
    refine ⟨fun y t e => ?_, fun j hj => ?_⟩
    · have : x = y := (List.cons.inj e).1
      rw [← this]; exact h.1
    · cases j with
      | zero =>
        cases l with
        | nil => simp at hj
        | cons z t => exact (ih h.2).1 z t rfl
      | succ j =>
        simp only [List.length_cons] at hj
        exact (ih h.2).2 j (by omega)
set_option maxRecDepth 20000 in
set_option maxHeartbeats 1000000 in
theorem sp_addressAt {K : az_K} {q : Int} (hK : RgK K q) (M : az_M) {rg : Int → List Int} (hR : RR (M (q + 2)) (M (q + 3)) (M (q + 4)) (M (q + 5)) rg) (hl : ∀ k, 0 ≤ k → k < 12 → (rg k).length ≤ 64) (s i : Int) (hs : s = 2 ∨ s = 4 ∨ s = 8) (i0 : 0 ≤ i) : AM yX3_addressAt cX3_addressAt 8 (some .int) 1 0 0 [(1, q + 1), (0, s), (0, i)] K M (qp K M (lk (catR rg (s / 4 * 4) 4) i)) := by
  have hK0 := hK
  obtain ⟨k0, k1, k2, k3, k4, z0, z1, z2, z3⟩ := hK
  refine am_of (by decide) (Nat.le_of_ble_eq_true rfl) (L := [(1, q + 1), (0, s), (0, i), (9, 0), (9, 0), (9, 0), (9, 0), (9, 0)]) rfl ?_
  generalize hV : lk (catR rg (s / 4 * 4) 4) i = V
  refine aw_rL (fun hrL => ?_)
  have hiin : -2147483648 ≤ i ∧ i ≤ 2147483647 := hrL (0, i) (by simp) rfl
  refine aw_iload_n dX3_addressAt_0 rfl rfl ?_
  refine aw_istore_n dX3_addressAt_1 rfl (by decide) ?_
  refine aw_iconst dX3_addressAt_2 rfl ⟨by decide, by decide⟩ ?_
  refine aw_istore dX3_addressAt_3 (by decide) ?_
  have loop : ∀ (m : Nat) (c lf : Int) (x5 x6 x7 : az_V), c = 4 - m → m ≤ 4 → 0 ≤ lf → lf ≤ i → lk (catR rg (s / 4 * 4) m) lf = V → AW az_P0 (az_Z (qp K M V) 0 0) (az_rm 1 0 0) yX3_addressAt cX3_addressAt 8 (some .int) 0 0 5 [(1, q + 1), (0, s), (0, i), (0, lf), (0, c), x5, x6, x7] [] K M := by
    intro m
    induction m with
    | zero =>
      intro c lf x5 x6 x7 hc hm l0 l1 hv
      refine aw_iload dX3_addressAt_5 rfl ?_
      refine aw_iconst dX3_addressAt_7 rfl ⟨by decide, by decide⟩ ?_
      refine aw_icmp_gt (tgt := 87) dX3_addressAt_8 rfl (fun h8 => ?_) (fun h8 => ?_)
      · refine aw_iconst dX3_addressAt_87 rfl ⟨by decide, by decide⟩ ?_
        exact aw_iret dX3_addressAt_88 (by decide) (by decide) (qp_i hv)
      · omega
    | succ m ih =>
      intro c lf x5 x6 x7 hc hm l0 l1 hv
      obtain ⟨k, hk⟩ : ∃ k, k = s / 4 * 4 + c := ⟨_, rfl⟩
      have hk0 : 0 ≤ k ∧ k < 12 := by omega
      obtain ⟨r1, r2, r3, r4⟩ := hR.2.1 k hk0.1 hk0.2
      have hlen := hl k hk0.1 hk0.2
      replace hv : lk (rg (s / 4 * 4 + 3 - m) ++ catR rg (s / 4 * 4) m) lf = V := hv
      rw [lk_app _ _ l0, show s / 4 * 4 + 3 - (m : Int) = k by omega] at hv
      refine aw_iload dX3_addressAt_5 rfl ?_
      refine aw_iconst dX3_addressAt_7 rfl ⟨by decide, by decide⟩ ?_
      refine aw_icmp_gt (tgt := 87) dX3_addressAt_8 rfl (fun h8 => absurd h8 (by omega)) (fun h8 => ?_)
      refine aw_iload_n dX3_addressAt_11 rfl rfl ?_
      refine aw_iload dX3_addressAt_12 rfl ?_
      refine aw_cS2p dX3_addressAt_14 ml_RX3_39 ⟨by decide, by decide, by decide, by decide⟩ (Nat.le_of_ble_eq_true rfl) (qp_c (sp_row K M s c (by omega) (by omega) (by omega) (by omega)) (show s / 4 * 4 + c = k by omega)) ?_
      refine aw_istore dX3_addressAt_17 (by decide) ?_
      refine aw_iload_n dX3_addressAt_19 rfl rfl ?_
      refine aw_aload_n dX3_addressAt_20 rfl rfl ⟨by decide, by decide⟩ ?_
      refine aw_gzF 3 dX3_addressAt_21 fl_RX3_21 (by assumption) rfl rfl (by assumption) ?_
      refine aw_iload dX3_addressAt_24 rfl ?_
      refine aw_iv dX3_addressAt_26 (by assumption) (by omega) (by omega) r3 ?_
      refine aw_icmp_ge (tgt := 71) dX3_addressAt_27 rfl (fun h27 => ?_) (fun h27 => ?_)
      · rw [if_neg (by omega)] at hv
        refine aw_iload_n dX3_addressAt_71 rfl rfl ?_
        refine aw_aload_n dX3_addressAt_72 rfl rfl ⟨by decide, by decide⟩ ?_
        refine aw_gzF 3 dX3_addressAt_73 fl_RX3_21 (by assumption) rfl rfl (by assumption) ?_
        refine aw_iload dX3_addressAt_76 rfl ?_
        refine aw_iv dX3_addressAt_78 (by assumption) (by omega) (by omega) r3 ?_
        refine aw_isub dX3_addressAt_79 (az_wr_id (by omega) (by omega)) ?_
        refine aw_istore_n dX3_addressAt_80 rfl (by decide) ?_
        refine aw_iinc dX3_addressAt_81 rfl (az_wr_id (by omega) (by omega)) (by decide) ?_
        refine aw_goto (tgt := 5) dX3_addressAt_84 rfl ?_
        exact ih _ _ _ _ _ (by omega) (by omega) (by omega) (by omega) hv
      · rw [if_pos (by omega)] at hv
        have hfst : M (q + 2) (64 + k) = (rg k).getD 0 0 := by
          cases hrg : rg k with
          | nil => rw [hrg] at h27; simp at h27; omega
          | cons x t => exact (ch_nth r1).1 x t hrg
        have hin : ∀ j : Nat, j < (rg k).length → 0 ≤ (rg k).getD j 0 ∧ (rg k).getD j 0 < 64 := fun j hj => by
          have := r4 _ (getD_mem hj)
          omega
        refine aw_aload_n dX3_addressAt_30 rfl rfl ⟨by decide, by decide⟩ ?_
        refine aw_gzF 0 dX3_addressAt_31 fl_RX3_11 (by assumption) rfl rfl (by assumption) ?_
        refine aw_bipush dX3_addressAt_34 (by decide) ⟨by decide, by decide⟩ ?_
        refine aw_iload dX3_addressAt_36 rfl ?_
        refine aw_iadd dX3_addressAt_38 (az_wr_id (by omega) (by omega)) ?_
        refine aw_iv dX3_addressAt_39 (by assumption) (by omega) (by omega) hfst ?_
        refine aw_istore dX3_addressAt_40 (by decide) ?_
        refine aw_iconst dX3_addressAt_42 rfl ⟨by decide, by decide⟩ ?_
        refine aw_istore dX3_addressAt_43 (by decide) ?_
        have loop2 : ∀ (d j : Nat), (j : Int) + d = lf → AW az_P0 (az_Z (qp K M V) 0 0) (az_rm 1 0 0) yX3_addressAt cX3_addressAt 8 (some .int) 0 0 45 [(1, q + 1), (0, s), (0, i), (0, lf), (0, c), (0, k), (0, (rg k).getD j 0), (0, (j : Int))] [] K M := by
          intro d
          induction d with
          | zero =>
            intro j hj
            have hjn := hin j (by omega)
            refine aw_iload dX3_addressAt_45 rfl ?_
            refine aw_iload_n dX3_addressAt_47 rfl rfl ?_
            refine aw_icmp_ge (tgt := 66) dX3_addressAt_48 rfl (fun h48 => ?_) (fun h48 => absurd h48 (by omega))
            refine aw_iconst dX3_addressAt_66 rfl ⟨by decide, by decide⟩ ?_
            refine aw_iload dX3_addressAt_67 rfl ?_
            refine aw_imul dX3_addressAt_69 (az_wr_id (by omega) (by omega)) ?_
            refine aw_iret dX3_addressAt_70 (by decide) (by decide) (qp_i ?_)
            rw [← hv]
            unfold lk
            rw [show lf.toNat = j by omega, List.getElem?_eq_getElem (by omega), List.getD_eq_getElem?_getD, List.getElem?_eq_getElem (by omega)]
            rfl
          | succ d ih2 =>
            intro j hj
            have hjn := hin j (by omega)
            have hnx := (ch_nth r1).2 j (by omega)
            refine aw_iload dX3_addressAt_45 rfl ?_
            refine aw_iload_n dX3_addressAt_47 rfl rfl ?_
            refine aw_icmp_ge (tgt := 66) dX3_addressAt_48 rfl (fun h48 => absurd h48 (by omega)) (fun h48 => ?_)
            refine aw_aload_n dX3_addressAt_51 rfl rfl ⟨by decide, by decide⟩ ?_
            refine aw_gzF 0 dX3_addressAt_52 fl_RX3_11 (by assumption) rfl rfl (by assumption) ?_
            refine aw_iload dX3_addressAt_55 rfl ?_
            refine aw_iv dX3_addressAt_57 (by assumption) (by omega) (by omega) hnx ?_
            refine aw_istore dX3_addressAt_58 (by decide) ?_
            refine aw_iinc dX3_addressAt_60 rfl (az_wr_id (by omega) (by omega)) (by decide) ?_
            refine aw_goto (tgt := 45) dX3_addressAt_63 rfl ?_
            exact ih2 (j + 1) (by omega)
        exact loop2 lf.toNat 0 (by omega)
  exact loop 4 0 i _ _ _ (by omega) (by omega) i0 (by omega) hV
