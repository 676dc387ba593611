/-! TreadRingModel: its rings as lists -/
def hop (F F' : Int → Int) (z : Int) : Prop := ∀ i, (i < 512 + 64 * z ∨ 576 + 64 * z ≤ i) → i ≠ 704 + z → F' i = F i
theorem erase_idx {L : List Int} : ∀ {i : Nat}, i < L.length → (∀ j, j < i → L.getD j 0 ≠ L.getD i 0) → L.eraseIdx i = L.erase (L.getD i 0) := by
  induction L with
  | nil => intro i h; simp at h
  | cons x t ih =>
    intro i hi hj
    cases i with
    | zero => simp
    | succ i =>
      have h0 := hj 0 (by omega)
      have hx : x ≠ t.getD i 0 := h0
      show x :: t.eraseIdx i = (x :: t).erase (t.getD i 0)
      rw [List.erase_cons_tail (by simpa using hx), ih (by simpa using hi) (fun j h => hj (j + 1) (by omega))]
theorem sp_takeOut {K : az_K} {m : Int} (hK : MaK K m) (M : az_M) (z a : Int) (z0 : 0 ≤ z) (z1 : z < 3) (L : List Int) (hL : mRing (M (m + 1)) z L) (h64 : L.length ≤ 64) (ha : a ∈ L) : AM yX7_takeOut cX7_takeOut 5 none 1 0 0 [(1, m), (0, z), (0, a)] K M (qv K (fun M' => mRing (M' (m + 1)) z (L.erase a) ∧ hop (M (m + 1)) (M' (m + 1)) z ∧ ∀ b, b ≠ m + 1 → M' b = M b)) := by
  have hK0 := hK
  obtain ⟨km, k1, zz⟩ := hK
  refine am_of (by decide) (Nat.le_of_ble_eq_true rfl) (L := [(1, m), (0, z), (0, a), (9, 0), (9, 0)]) rfl ?_
  obtain ⟨i0, hi0, hia, hib⟩ : ∃ i0 : Nat, i0 < L.length ∧ L.getD i0 0 = a ∧ ∀ j, j < i0 → L.getD j 0 ≠ a := by
    clear hL h64
    induction L with
    | nil => cases ha
    | cons x t ih =>
      by_cases e : x = a
      · exact ⟨0, by simp, e, fun j h => by omega⟩
      · have : a ∈ t := by
          rcases List.mem_cons.mp ha with h | h
          · exact absurd h.symm e
          · exact h
        obtain ⟨i, q1, q2, q3⟩ := ih this
        refine ⟨i + 1, by simpa using q1, q2, fun j h => ?_⟩
        cases j with
        | zero => exact e
        | succ j => exact q3 j (by omega)
  have hE : L.erase a = L.eraseIdx i0 := by rw [erase_idx hi0 (fun j h => by rw [hia]; exact hib j h), hia]
  rw [hE]
  obtain ⟨l1, l2⟩ := hL
  refine aw_iconst dX7_takeOut_0 rfl ⟨by decide, by decide⟩ ?_
  refine aw_istore_n dX7_takeOut_1 rfl (by decide) ?_
  have loop1 : ∀ (k i : Nat) (x4 : az_V), i + k = i0 → AW az_P0 (az_Z (qv K (fun M' => mRing (M' (m + 1)) z (L.eraseIdx i0) ∧ hop (M (m + 1)) (M' (m + 1)) z ∧ ∀ b, b ≠ m + 1 → M' b = M b)) 0 0) (az_rm 1 0 0) yX7_takeOut cX7_takeOut 5 none 0 0 2 [(1, m), (0, z), (0, a), (0, (i : Int)), x4] [] K M := by
    intro k
    induction k with
    | succ k ih =>
      intro i x4 hi
      have v11 := l2 i (by omega)
      have hne := hib i (by omega)
      refine aw_aload_n dX7_takeOut_2 rfl rfl ⟨by decide, by decide⟩ ?_
      refine aw_gzF 0 dX7_takeOut_3 fl_RX7_7 (by assumption) rfl rfl (by assumption) ?_
      refine aw_iload_n dX7_takeOut_6 rfl rfl ?_
      refine aw_iload_n dX7_takeOut_7 rfl rfl ?_
      refine aw_cS2p dX7_takeOut_8 ml_RX7_112 ⟨by decide, by decide, by decide, by decide⟩ (Nat.le_of_ble_eq_true rfl) (sp_ringAt K M z i z0 z1 (by omega) (by omega)) ?_
      refine aw_iv dX7_takeOut_11 (by assumption) (by omega) (by omega) v11 ?_
      refine aw_iload_n dX7_takeOut_12 rfl rfl ?_
      refine aw_icmp_eq (tgt := 22) dX7_takeOut_13 rfl (fun h13 => absurd h13 (by omega)) (fun h13 => ?_)
      refine aw_iinc dX7_takeOut_16 rfl (az_wr_id (by omega) (by omega)) (by decide) ?_
      refine aw_goto (tgt := 2) dX7_takeOut_19 rfl ?_
      exact ih (i + 1) _ (by omega)
    | zero =>
      intro i x4 hi
      have v11 := l2 i (by omega)
      have hii : i = i0 := by omega
      subst hii
      refine aw_aload_n dX7_takeOut_2 rfl rfl ⟨by decide, by decide⟩ ?_
      refine aw_gzF 0 dX7_takeOut_3 fl_RX7_7 (by assumption) rfl rfl (by assumption) ?_
      refine aw_iload_n dX7_takeOut_6 rfl rfl ?_
      refine aw_iload_n dX7_takeOut_7 rfl rfl ?_
      refine aw_cS2p dX7_takeOut_8 ml_RX7_112 ⟨by decide, by decide, by decide, by decide⟩ (Nat.le_of_ble_eq_true rfl) (sp_ringAt K M z i z0 z1 (by omega) (by omega)) ?_
      refine aw_iv dX7_takeOut_11 (by assumption) (by omega) (by omega) v11 ?_
      refine aw_iload_n dX7_takeOut_12 rfl rfl ?_
      refine aw_icmp_eq (tgt := 22) dX7_takeOut_13 rfl (fun h13 => ?_) (fun h13 => absurd h13 (by omega))
      refine aw_iload_n dX7_takeOut_22 rfl rfl ?_
      refine aw_istore dX7_takeOut_23 (by decide) ?_
      have loop2 : ∀ (k j : Nat) (M1 : az_M), j + 1 + k = L.length → i ≤ j → (∀ q : Int, M1 (m + 1) q = if 512 + 64 * z + i ≤ q ∧ q < 512 + 64 * z + j then M (m + 1) (q + 1) else M (m + 1) q) → (∀ b, b ≠ m + 1 → M1 b = M b) → AW az_P0 (az_Z (qv K (fun M' => mRing (M' (m + 1)) z (L.eraseIdx i) ∧ hop (M (m + 1)) (M' (m + 1)) z ∧ ∀ b, b ≠ m + 1 → M' b = M b)) 0 0) (az_rm 1 0 0) yX7_takeOut cX7_takeOut 5 none 0 0 25 [(1, m), (0, z), (0, a), (0, (i : Int)), (0, (j : Int))] [] K M1 := by
        intro k
        induction k with
        | zero =>
          intro j M1 hj hij hM ho
          have v31 : M1 (m + 1) (704 + z) = (L.length : Int) := by rw [hM, if_neg (by omega)]; exact l1
          refine aw_iload dX7_takeOut_25 rfl ?_
          refine aw_iconst dX7_takeOut_27 rfl ⟨by decide, by decide⟩ ?_
          refine aw_iadd dX7_takeOut_28 (az_wr_id (by omega) (by omega)) ?_
          refine aw_aload_n dX7_takeOut_29 rfl rfl ⟨by decide, by decide⟩ ?_
          refine aw_iload_n dX7_takeOut_30 rfl rfl ?_
          refine aw_cV1p dX7_takeOut_31 ml_RX7_116 (by assumption) (by decide) rfl rfl ⟨by decide, by decide, by decide, by decide⟩ (Nat.le_of_ble_eq_true rfl) (qp_c (sp_longOf hK0 M1 z z0 z1) v31) ?_
          refine aw_icmp_ge (tgt := 67) dX7_takeOut_34 rfl (fun h34 => ?_) (fun h34 => absurd h34 (by omega))
          refine aw_aload_n dX7_takeOut_67 rfl rfl ⟨by decide, by decide⟩ ?_
          refine aw_gzF 0 dX7_takeOut_68 fl_RX7_7 (by assumption) rfl rfl (by assumption) ?_
          refine aw_sipush dX7_takeOut_71 (by decide) ⟨by decide, by decide⟩ ?_
          refine aw_iload_n dX7_takeOut_74 rfl rfl ?_
          refine aw_iadd dX7_takeOut_75 (az_wr_id (by omega) (by omega)) ?_
          refine aw_dup2 dX7_takeOut_76 ?_
          refine aw_iv dX7_takeOut_77 (by assumption) (by omega) (by omega) v31 ?_
          refine aw_iconst dX7_takeOut_78 rfl ⟨by decide, by decide⟩ ?_
          refine aw_isub dX7_takeOut_79 (az_wr_id (by omega) (by omega)) ?_
          refine aw_iast dX7_takeOut_80 (by assumption) (by omega) (by omega) ?_
          have eL : (L.eraseIdx i).length = L.length - 1 := by rw [List.length_eraseIdx, if_pos hi0]
          refine aw_vret dX7_takeOut_81 (by decide) (by decide) ⟨rfl, rfl, ⟨?_, fun q hq => ?_⟩, fun q q1 q2 => ?_, fun b hb => ?_⟩
          · rw [az_up_s, eL]; omega
          · rw [eL] at hq
            rw [az_up_i _ _ _ _ (by omega), hM, getD_erase]
            by_cases e : q < i
            · rw [if_neg (by omega), if_pos e]; exact l2 q (by omega)
            · rw [if_pos (by omega), if_neg e]
              have := l2 (q + 1) (by omega)
              rw [← this]
              congr 1
              omega
          · rw [az_up_i _ _ _ _ q2, hM, if_neg (by omega)]
          · rw [up_oth _ _ _ hb, ho b hb]
        | succ k ih =>
          intro j M1 hj hij hM ho
          have v31 : M1 (m + 1) (704 + z) = (L.length : Int) := by rw [hM, if_neg (by omega)]; exact l1
          have v59 : M1 (m + 1) (512 + 64 * z + ((j : Int) + 1)) = M (m + 1) (512 + 64 * z + ((j : Int) + 1)) := by rw [hM, if_neg (by omega)]
          refine aw_iload dX7_takeOut_25 rfl ?_
          refine aw_iconst dX7_takeOut_27 rfl ⟨by decide, by decide⟩ ?_
          refine aw_iadd dX7_takeOut_28 (az_wr_id (by omega) (by omega)) ?_
          refine aw_aload_n dX7_takeOut_29 rfl rfl ⟨by decide, by decide⟩ ?_
          refine aw_iload_n dX7_takeOut_30 rfl rfl ?_
          refine aw_cV1p dX7_takeOut_31 ml_RX7_116 (by assumption) (by decide) rfl rfl ⟨by decide, by decide, by decide, by decide⟩ (Nat.le_of_ble_eq_true rfl) (qp_c (sp_longOf hK0 M1 z z0 z1) v31) ?_
          refine aw_icmp_ge (tgt := 67) dX7_takeOut_34 rfl (fun h34 => absurd h34 (by omega)) (fun h34 => ?_)
          refine aw_aload_n dX7_takeOut_37 rfl rfl ⟨by decide, by decide⟩ ?_
          refine aw_gzF 0 dX7_takeOut_38 fl_RX7_7 (by assumption) rfl rfl (by assumption) ?_
          refine aw_iload_n dX7_takeOut_41 rfl rfl ?_
          refine aw_iload dX7_takeOut_42 rfl ?_
          refine aw_cS2p dX7_takeOut_44 ml_RX7_112 ⟨by decide, by decide, by decide, by decide⟩ (Nat.le_of_ble_eq_true rfl) (sp_ringAt K M1 z j z0 z1 (by omega) (by omega)) ?_
          refine aw_aload_n dX7_takeOut_47 rfl rfl ⟨by decide, by decide⟩ ?_
          refine aw_gzF 0 dX7_takeOut_48 fl_RX7_7 (by assumption) rfl rfl (by assumption) ?_
          refine aw_iload_n dX7_takeOut_51 rfl rfl ?_
          refine aw_iload dX7_takeOut_52 rfl ?_
          refine aw_iconst dX7_takeOut_54 rfl ⟨by decide, by decide⟩ ?_
          refine aw_iadd dX7_takeOut_55 (az_wr_id (by omega) (by omega)) ?_
          refine aw_cS2p dX7_takeOut_56 ml_RX7_112 ⟨by decide, by decide, by decide, by decide⟩ (Nat.le_of_ble_eq_true rfl) (sp_ringAt K M1 z (j + 1) z0 z1 (by omega) (by omega)) ?_
          refine aw_iv dX7_takeOut_59 (by assumption) (by omega) (by omega) v59 ?_
          refine aw_iast dX7_takeOut_60 (by assumption) (by omega) (by omega) ?_
          refine aw_iinc dX7_takeOut_61 rfl (az_wr_id (by omega) (by omega)) (by decide) ?_
          refine aw_goto (tgt := 25) dX7_takeOut_64 rfl ?_
          refine ih (j + 1) _ (by omega) (by omega) (fun q => ?_) (fun b hb => by rw [up_oth _ _ _ hb, ho b hb])
          rw [up_row]
          show (if q = 512 + 64 * z + (j : Int) then _ else M1 (m + 1) q) = _
          by_cases e : q = 512 + 64 * z + (j : Int)
          · rw [if_pos e, if_pos (by omega), e]
            congr 1
            omega
          · rw [if_neg e, hM]
            by_cases e2 : 512 + 64 * z + (i : Int) ≤ q ∧ q < 512 + 64 * z + (j : Int)
            · rw [if_pos e2, if_pos (by omega)]
            · rw [if_neg e2, if_neg (by omega)]
      exact loop2 (L.length - 1 - i) i M (by omega) (by omega) (fun q => by rw [if_neg (by omega)]) (fun _ _ => rfl)
  exact loop1 i0 0 _ (by omega)
def ins (L : List Int) (i : Nat) (a : Int) : List Int := L.take i ++ a :: L.drop i
theorem ins_len (L : List Int) {i : Nat} (a : Int) (h : i ≤ L.length) : (ins L i a).length = L.length + 1 := by
  unfold ins
  rw [List.length_append, List.length_cons, List.length_take, List.length_drop]
  omega
theorem ins_getD (L : List Int) {i : Nat} (a : Int) (h : i ≤ L.length) (j : Nat) : (ins L i a).getD j 0 = if j < i then L.getD j 0 else if j = i then a else L.getD (j - 1) 0 := by
  unfold ins
  rw [List.getD_eq_getElem?_getD]
  by_cases e : j < i
  · rw [if_pos e, List.getElem?_append_left (by rw [List.length_take]; omega), List.getElem?_take_of_lt e, ← List.getD_eq_getElem?_getD]
  · rw [if_neg e, List.getElem?_append_right (by rw [List.length_take]; omega), List.length_take, Nat.min_eq_left h]
    by_cases e2 : j = i
    · rw [if_pos e2, e2, Nat.sub_self]; rfl
    · rw [if_neg e2, show j - i = (j - 1 - i) + 1 by omega, List.getElem?_cons_succ, List.getElem?_drop, show i + (j - 1 - i) = j - 1 by omega, ← List.getD_eq_getElem?_getD]
theorem sp_putIn {K : az_K} {m : Int} (hK : MaK K m) (M : az_M) (z a : Int) (i : Nat) (z0 : 0 ≤ z) (z1 : z < 3) (L : List Int) (hL : mRing (M (m + 1)) z L) (h64 : L.length < 64) (hi : i ≤ L.length) : AM yX7_putIn cX7_putIn 5 none 1 0 0 [(1, m), (0, z), (0, (i : Int)), (0, a)] K M (qv K (fun M' => mRing (M' (m + 1)) z (ins L i a) ∧ hop (M (m + 1)) (M' (m + 1)) z ∧ ∀ b, b ≠ m + 1 → M' b = M b)) := by
  have hK0 := hK
  obtain ⟨km, k1, zz⟩ := hK
  refine am_of (by decide) (Nat.le_of_ble_eq_true rfl) (L := [(1, m), (0, z), (0, (i : Int)), (0, a), (9, 0)]) rfl ?_
  obtain ⟨l1, l2⟩ := hL
  refine aw_aload_n dX7_putIn_0 rfl rfl ⟨by decide, by decide⟩ ?_
  refine aw_iload_n dX7_putIn_1 rfl rfl ?_
  refine aw_cV1p dX7_putIn_2 ml_RX7_116 (by assumption) (by decide) rfl rfl ⟨by decide, by decide, by decide, by decide⟩ (Nat.le_of_ble_eq_true rfl) (qp_c (sp_longOf hK0 M z z0 z1) l1) ?_
  refine aw_istore dX7_putIn_5 (by decide) ?_
  have loop : ∀ (k j : Nat) (M1 : az_M), i + k = j → j ≤ L.length → (∀ q : Int, M1 (m + 1) q = if 512 + 64 * z + j < q ∧ q ≤ 512 + 64 * z + L.length then M (m + 1) (q - 1) else M (m + 1) q) → (∀ b, b ≠ m + 1 → M1 b = M b) → AW az_P0 (az_Z (qv K (fun M' => mRing (M' (m + 1)) z (ins L i a) ∧ hop (M (m + 1)) (M' (m + 1)) z ∧ ∀ b, b ≠ m + 1 → M' b = M b)) 0 0) (az_rm 1 0 0) yX7_putIn cX7_putIn 5 none 0 0 7 [(1, m), (0, z), (0, (i : Int)), (0, a), (0, (j : Int))] [] K M1 := by
    intro k
    induction k with
    | zero =>
      intro j M1 hj hjl hM ho
      have hij : j = i := by omega
      subst hij
      refine aw_iload dX7_putIn_7 rfl ?_
      refine aw_iload_n dX7_putIn_9 rfl rfl ?_
      refine aw_icmp_le (tgt := 43) dX7_putIn_10 rfl (fun h10 => ?_) (fun h10 => absurd h10 (by omega))
      refine aw_aload_n dX7_putIn_43 rfl rfl ⟨by decide, by decide⟩ ?_
      refine aw_gzF 0 dX7_putIn_44 fl_RX7_7 (by assumption) rfl rfl (by assumption) ?_
      refine aw_iload_n dX7_putIn_47 rfl rfl ?_
      refine aw_iload_n dX7_putIn_48 rfl rfl ?_
      refine aw_cS2p dX7_putIn_49 ml_RX7_112 ⟨by decide, by decide, by decide, by decide⟩ (Nat.le_of_ble_eq_true rfl) (sp_ringAt K M1 z j z0 z1 (by omega) (by omega)) ?_
      refine aw_iload_n dX7_putIn_52 rfl rfl ?_
      refine aw_iast dX7_putIn_53 (by assumption) (by omega) (by omega) ?_
      have v64 : az_up M1 (m + 1) (512 + 64 * z + (j : Int)) a (m + 1) (704 + z) = (L.length : Int) := by rw [az_up_i _ _ _ _ (by omega), hM, if_neg (by omega)]; exact l1
      refine aw_aload_n dX7_putIn_54 rfl rfl ⟨by decide, by decide⟩ ?_
      refine aw_gzF 0 dX7_putIn_55 fl_RX7_7 (by assumption) rfl rfl (by assumption) ?_
      refine aw_sipush dX7_putIn_58 (by decide) ⟨by decide, by decide⟩ ?_
      refine aw_iload_n dX7_putIn_61 rfl rfl ?_
      refine aw_iadd dX7_putIn_62 (az_wr_id (by omega) (by omega)) ?_
      refine aw_dup2 dX7_putIn_63 ?_
      refine aw_iv dX7_putIn_64 (by assumption) (by omega) (by omega) v64 ?_
      refine aw_iconst dX7_putIn_65 rfl ⟨by decide, by decide⟩ ?_
      refine aw_iadd dX7_putIn_66 (az_wr_id (by omega) (by omega)) ?_
      refine aw_iast dX7_putIn_67 (by assumption) (by omega) (by omega) ?_
      refine aw_vret dX7_putIn_68 (by decide) (by decide) ⟨rfl, rfl, ⟨?_, fun q hq => ?_⟩, fun q q1 q2 => ?_, fun b hb => ?_⟩
      · rw [az_up_s, ins_len L a hi]; omega
      · rw [ins_len L a hi] at hq
        rw [az_up_i _ _ _ _ (by omega), ins_getD L a hi]
        by_cases e : q < j
        · rw [az_up_i _ _ _ _ (by omega), hM, if_neg (by omega), if_pos e]; exact l2 q (by omega)
        · rw [if_neg e]
          by_cases e2 : q = j
          · rw [if_pos e2, e2, az_up_s]
          · rw [if_neg e2, az_up_i _ _ _ _ (by omega), hM, if_pos (by omega)]
            have := l2 (q - 1) (by omega)
            rw [← this]
            congr 1
            omega
      · rw [az_up_i _ _ _ _ q2, az_up_i _ _ _ _ (by omega), hM, if_neg (by omega)]
      · rw [up_oth _ _ _ hb, up_oth _ _ _ hb, ho b hb]
    | succ k ih =>
      intro j M1 hj hjl hM ho
      have v35 : M1 (m + 1) (512 + 64 * z + ((j : Int) - 1)) = M (m + 1) (512 + 64 * z + ((j : Int) - 1)) := by rw [hM, if_neg (by omega)]
      refine aw_iload dX7_putIn_7 rfl ?_
      refine aw_iload_n dX7_putIn_9 rfl rfl ?_
      refine aw_icmp_le (tgt := 43) dX7_putIn_10 rfl (fun h10 => absurd h10 (by omega)) (fun h10 => ?_)
      refine aw_aload_n dX7_putIn_13 rfl rfl ⟨by decide, by decide⟩ ?_
      refine aw_gzF 0 dX7_putIn_14 fl_RX7_7 (by assumption) rfl rfl (by assumption) ?_
      refine aw_iload_n dX7_putIn_17 rfl rfl ?_
      refine aw_iload dX7_putIn_18 rfl ?_
      refine aw_cS2p dX7_putIn_20 ml_RX7_112 ⟨by decide, by decide, by decide, by decide⟩ (Nat.le_of_ble_eq_true rfl) (sp_ringAt K M1 z j z0 z1 (by omega) (by omega)) ?_
      refine aw_aload_n dX7_putIn_23 rfl rfl ⟨by decide, by decide⟩ ?_
      refine aw_gzF 0 dX7_putIn_24 fl_RX7_7 (by assumption) rfl rfl (by assumption) ?_
      refine aw_iload_n dX7_putIn_27 rfl rfl ?_
      refine aw_iload dX7_putIn_28 rfl ?_
      refine aw_iconst dX7_putIn_30 rfl ⟨by decide, by decide⟩ ?_
      refine aw_isub dX7_putIn_31 (az_wr_id (by omega) (by omega)) ?_
      refine aw_cS2p dX7_putIn_32 ml_RX7_112 ⟨by decide, by decide, by decide, by decide⟩ (Nat.le_of_ble_eq_true rfl) (sp_ringAt K M1 z (j - 1) z0 z1 (by omega) (by omega)) ?_
      refine aw_iv dX7_putIn_35 (by assumption) (by omega) (by omega) v35 ?_
      refine aw_iast dX7_putIn_36 (by assumption) (by omega) (by omega) ?_
      refine aw_iinc dX7_putIn_37 rfl (az_wr_id (by omega) (by omega)) (by decide) ?_
      refine aw_goto (tgt := 7) dX7_putIn_40 rfl ?_
      have hj1 : (j : Int) + -1 = ((j - 1 : Nat) : Int) := by omega
      rw [hj1]
      refine ih (j - 1) _ (by omega) (by omega) (fun q => ?_) (fun b hb => by rw [up_oth _ _ _ hb, ho b hb])
      rw [up_row]
      show (if q = 512 + 64 * z + (j : Int) then _ else M1 (m + 1) q) = _
      by_cases e : q = 512 + 64 * z + (j : Int)
      · rw [if_pos e, if_pos (by omega), e]
        congr 1
        omega
      · rw [if_neg e, hM]
        by_cases e2 : 512 + 64 * z + (j : Int) < q ∧ q ≤ 512 + 64 * z + L.length
        · rw [if_pos e2, if_pos (by omega)]
        · rw [if_neg e2, if_neg (by omega)]
  exact loop (L.length - i) L.length M (by omega) (by omega) (fun q => by rw [if_neg (by omega)]) (fun _ _ => rfl)
/-- how many are ahead of those of a colour; how many are of a colour -/
def plc (F : Int → Int) (L : List Int) (c : Int) : Nat := match L with
  | [] => 0
  | x :: t => if F x < c then plc F t c + 1 else 0
def cnt (F : Int → Int) (L : List Int) (c : Int) : Nat := match L with
  | [] => 0
  | x :: t => (if F x = c then 1 else 0) + cnt F t c
theorem getD_drop (L : List Int) (i : Nat) (h : i < L.length) : L.drop i = L.getD i 0 :: L.drop (i + 1) := by
  rw [List.drop_eq_getElem_cons h, List.getD_eq_getElem?_getD, List.getElem?_eq_getElem h]
  rfl
theorem plc_le (F : Int → Int) (L : List Int) (c : Int) : plc F L c ≤ L.length := by
  induction L with
  | nil => exact Nat.le_refl _
  | cons x t ih =>
    unfold plc
    rw [List.length_cons]
    split <;> omega
theorem sp_placeOf {K : az_K} {m : Int} (hK : MaK K m) (M : az_M) (z c : Int) (z0 : 0 ≤ z) (z1 : z < 3) (L : List Int) (hL : mRing (M (m + 1)) z L) (h64 : L.length ≤ 64) (hin : ∀ x ∈ L, 0 ≤ x ∧ x < 128) : AM yX7_placeOf cX7_placeOf 4 (some .int) 1 0 0 [(1, m), (0, z), (0, c)] K M (qp K M (plc (M (m + 1)) L c : Int)) := by
  have hK0 := hK
  obtain ⟨km, k1, zz⟩ := hK
  refine am_of (by decide) (Nat.le_of_ble_eq_true rfl) (L := [(1, m), (0, z), (0, c), (9, 0)]) rfl ?_
  obtain ⟨l1, l2⟩ := hL
  refine aw_iconst dX7_placeOf_0 rfl ⟨by decide, by decide⟩ ?_
  refine aw_istore_n dX7_placeOf_1 rfl (by decide) ?_
  have loop : ∀ (k i : Nat), i + k = L.length → i + plc (M (m + 1)) (L.drop i) c = plc (M (m + 1)) L c → AW az_P0 (az_Z (qp K M (plc (M (m + 1)) L c : Int)) 0 0) (az_rm 1 0 0) yX7_placeOf cX7_placeOf 4 (some .int) 0 0 2 [(1, m), (0, z), (0, c), (0, (i : Int))] [] K M := by
    intro k
    induction k with
    | zero =>
      intro i hi hp
      rw [List.drop_eq_nil_of_le (by omega)] at hp
      have hp0 : i + 0 = plc (M (m + 1)) L c := hp
      refine aw_iload_n dX7_placeOf_2 rfl rfl ?_
      refine aw_aload_n dX7_placeOf_3 rfl rfl ⟨by decide, by decide⟩ ?_
      refine aw_iload_n dX7_placeOf_4 rfl rfl ?_
      refine aw_cV1p dX7_placeOf_5 ml_RX7_116 (by assumption) (by decide) rfl rfl ⟨by decide, by decide, by decide, by decide⟩ (Nat.le_of_ble_eq_true rfl) (qp_c (sp_longOf hK0 M z z0 z1) l1) ?_
      refine aw_icmp_ge (tgt := 35) dX7_placeOf_8 rfl (fun h8 => ?_) (fun h8 => absurd h8 (by omega))
      refine aw_iload_n dX7_placeOf_35 rfl rfl ?_
      exact aw_iret dX7_placeOf_36 (by decide) (by decide) (qp_i (by omega))
    | succ k ih =>
      intro i hi hp
      rw [getD_drop L i (by omega)] at hp
      have hp0 : i + (if M (m + 1) (L.getD i 0) < c then plc (M (m + 1)) (L.drop (i + 1)) c + 1 else 0) = plc (M (m + 1)) L c := hp
      have hx := hin _ (getD_mem (l := L) (i := i) (by omega))
      have v21 := l2 i (by omega)
      refine aw_iload_n dX7_placeOf_2 rfl rfl ?_
      refine aw_aload_n dX7_placeOf_3 rfl rfl ⟨by decide, by decide⟩ ?_
      refine aw_iload_n dX7_placeOf_4 rfl rfl ?_
      refine aw_cV1p dX7_placeOf_5 ml_RX7_116 (by assumption) (by decide) rfl rfl ⟨by decide, by decide, by decide, by decide⟩ (Nat.le_of_ble_eq_true rfl) (qp_c (sp_longOf hK0 M z z0 z1) l1) ?_
      refine aw_icmp_ge (tgt := 35) dX7_placeOf_8 rfl (fun h8 => absurd h8 (by omega)) (fun h8 => ?_)
      refine aw_aload_n dX7_placeOf_11 rfl rfl ⟨by decide, by decide⟩ ?_
      refine aw_aload_n dX7_placeOf_12 rfl rfl ⟨by decide, by decide⟩ ?_
      refine aw_gzF 0 dX7_placeOf_13 fl_RX7_7 (by assumption) rfl rfl (by assumption) ?_
      refine aw_iload_n dX7_placeOf_16 rfl rfl ?_
      refine aw_iload_n dX7_placeOf_17 rfl rfl ?_
      refine aw_cS2p dX7_placeOf_18 ml_RX7_112 ⟨by decide, by decide, by decide, by decide⟩ (Nat.le_of_ble_eq_true rfl) (sp_ringAt K M z i z0 z1 (by omega) (by omega)) ?_
      refine aw_iv dX7_placeOf_21 (by assumption) (by omega) (by omega) v21 ?_
      refine aw_cV1p dX7_placeOf_22 ml_RX7_106 (by assumption) (by decide) rfl rfl ⟨by decide, by decide, by decide, by decide⟩ (Nat.le_of_ble_eq_true rfl) (sp_colourOf hK0 M (L.getD i 0) hx.1 (by omega)) ?_
      refine aw_iload_n dX7_placeOf_25 rfl rfl ?_
      refine aw_icmp_ge (tgt := 35) dX7_placeOf_26 rfl (fun h26 => ?_) (fun h26 => ?_)
      · rw [if_neg (by omega)] at hp0
        refine aw_iload_n dX7_placeOf_35 rfl rfl ?_
        exact aw_iret dX7_placeOf_36 (by decide) (by decide) (qp_i (by omega))
      · rw [if_pos (by omega)] at hp0
        refine aw_iinc dX7_placeOf_29 rfl (az_wr_id (by omega) (by omega)) (by decide) ?_
        refine aw_goto (tgt := 2) dX7_placeOf_32 rfl ?_
        exact ih (i + 1) (by omega) (by omega)
  exact loop L.length 0 (by omega) (by rw [List.drop_zero]; omega)
theorem cnt_le (F : Int → Int) (L : List Int) (c : Int) : cnt F L c ≤ L.length := by
  induction L with
  | nil => exact Nat.le_refl _
  | cons x t ih =>
    unfold cnt
    rw [List.length_cons]
    split <;> omega
theorem sp_countOf {K : az_K} {m : Int} (hK : MaK K m) (M : az_M) (z c : Int) (z0 : 0 ≤ z) (z1 : z < 3) (L : List Int) (hL : mRing (M (m + 1)) z L) (h64 : L.length ≤ 64) (hin : ∀ x ∈ L, 0 ≤ x ∧ x < 128) : AM yX7_countOf cX7_countOf 5 (some .int) 1 0 0 [(1, m), (0, z), (0, c)] K M (qp K M (cnt (M (m + 1)) L c : Int)) := by
  have hK0 := hK
  obtain ⟨km, k1, zz⟩ := hK
  refine am_of (by decide) (Nat.le_of_ble_eq_true rfl) (L := [(1, m), (0, z), (0, c), (9, 0), (9, 0)]) rfl ?_
  obtain ⟨l1, l2⟩ := hL
  have hcl := cnt_le (M (m + 1)) L c
  refine aw_iconst dX7_countOf_0 rfl ⟨by decide, by decide⟩ ?_
  refine aw_istore_n dX7_countOf_1 rfl (by decide) ?_
  refine aw_iconst dX7_countOf_2 rfl ⟨by decide, by decide⟩ ?_
  refine aw_istore dX7_countOf_3 (by decide) ?_
  have loop : ∀ (k i : Nat) (n : Int), i + k = L.length → 0 ≤ n → n + (cnt (M (m + 1)) (L.drop i) c : Int) = (cnt (M (m + 1)) L c : Int) → AW az_P0 (az_Z (qp K M (cnt (M (m + 1)) L c : Int)) 0 0) (az_rm 1 0 0) yX7_countOf cX7_countOf 5 (some .int) 0 0 5 [(1, m), (0, z), (0, c), (0, n), (0, (i : Int))] [] K M := by
    intro k
    induction k with
    | zero =>
      intro i n hi hn hp
      rw [List.drop_eq_nil_of_le (by omega)] at hp
      have hp0 : n + ((0 : Nat) : Int) = (cnt (M (m + 1)) L c : Int) := hp
      refine aw_iload dX7_countOf_5 rfl ?_
      refine aw_aload_n dX7_countOf_7 rfl rfl ⟨by decide, by decide⟩ ?_
      refine aw_iload_n dX7_countOf_8 rfl rfl ?_
      refine aw_cV1p dX7_countOf_9 ml_RX7_116 (by assumption) (by decide) rfl rfl ⟨by decide, by decide, by decide, by decide⟩ (Nat.le_of_ble_eq_true rfl) (qp_c (sp_longOf hK0 M z z0 z1) l1) ?_
      refine aw_icmp_ge (tgt := 48) dX7_countOf_12 rfl (fun h12 => ?_) (fun h12 => absurd h12 (by omega))
      refine aw_iload_n dX7_countOf_48 rfl rfl ?_
      exact aw_iret dX7_countOf_49 (by decide) (by decide) (qp_i (by omega))
    | succ k ih =>
      intro i n hi hn hp
      rw [getD_drop L i (by omega)] at hp
      have hp0 : n + (((if M (m + 1) (L.getD i 0) = c then 1 else 0) + cnt (M (m + 1)) (L.drop (i + 1)) c : Nat) : Int) = (cnt (M (m + 1)) L c : Int) := hp
      have hx := hin _ (getD_mem (l := L) (i := i) (by omega))
      have v27 := l2 i (by omega)
      refine aw_iload dX7_countOf_5 rfl ?_
      refine aw_aload_n dX7_countOf_7 rfl rfl ⟨by decide, by decide⟩ ?_
      refine aw_iload_n dX7_countOf_8 rfl rfl ?_
      refine aw_cV1p dX7_countOf_9 ml_RX7_116 (by assumption) (by decide) rfl rfl ⟨by decide, by decide, by decide, by decide⟩ (Nat.le_of_ble_eq_true rfl) (qp_c (sp_longOf hK0 M z z0 z1) l1) ?_
      refine aw_icmp_ge (tgt := 48) dX7_countOf_12 rfl (fun h12 => absurd h12 (by omega)) (fun h12 => ?_)
      refine aw_iload_n dX7_countOf_15 rfl rfl ?_
      refine aw_aload_n dX7_countOf_16 rfl rfl ⟨by decide, by decide⟩ ?_
      refine aw_aload_n dX7_countOf_17 rfl rfl ⟨by decide, by decide⟩ ?_
      refine aw_gzF 0 dX7_countOf_18 fl_RX7_7 (by assumption) rfl rfl (by assumption) ?_
      refine aw_iload_n dX7_countOf_21 rfl rfl ?_
      refine aw_iload dX7_countOf_22 rfl ?_
      refine aw_cS2p dX7_countOf_24 ml_RX7_112 ⟨by decide, by decide, by decide, by decide⟩ (Nat.le_of_ble_eq_true rfl) (sp_ringAt K M z i z0 z1 (by omega) (by omega)) ?_
      refine aw_iv dX7_countOf_27 (by assumption) (by omega) (by omega) v27 ?_
      refine aw_cV1p dX7_countOf_28 ml_RX7_106 (by assumption) (by decide) rfl rfl ⟨by decide, by decide, by decide, by decide⟩ (Nat.le_of_ble_eq_true rfl) (sp_colourOf hK0 M (L.getD i 0) hx.1 (by omega)) ?_
      refine aw_iload_n dX7_countOf_31 rfl rfl ?_
      refine aw_icmp_ne (tgt := 39) dX7_countOf_32 rfl (fun h32 => ?_) (fun h32 => ?_)
      · rw [if_neg h32] at hp0
        refine aw_iconst dX7_countOf_39 rfl ⟨by decide, by decide⟩ ?_
        refine aw_iadd dX7_countOf_40 (az_wr_id (by omega) (by omega)) ?_
        refine aw_istore_n dX7_countOf_41 rfl (by decide) ?_
        refine aw_iinc dX7_countOf_42 rfl (az_wr_id (by omega) (by omega)) (by decide) ?_
        refine aw_goto (tgt := 5) dX7_countOf_45 rfl ?_
        exact ih (i + 1) _ (by omega) (by omega) (by omega)
      · rw [if_pos h32] at hp0
        refine aw_iconst dX7_countOf_35 rfl ⟨by decide, by decide⟩ ?_
        refine aw_goto (tgt := 40) dX7_countOf_36 rfl ?_
        refine aw_iadd dX7_countOf_40 (az_wr_id (by omega) (by omega)) ?_
        refine aw_istore_n dX7_countOf_41 rfl (by decide) ?_
        refine aw_iinc dX7_countOf_42 rfl (az_wr_id (by omega) (by omega)) (by decide) ?_
        refine aw_goto (tgt := 5) dX7_countOf_45 rfl ?_
        exact ih (i + 1) _ (by omega) (by omega) (by omega)
  exact loop L.length 0 0 (by omega) (by omega) (by rw [List.drop_zero]; omega)
