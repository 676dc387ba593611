/-! the JDK's own rows, and the rings' small ones -/
/-- a row from i up to n holds v -/
def az_fill (M : az_M) (a i n v : Int) : az_M := fun b j => if b = a ∧ i ≤ j ∧ j < n then v else M b j
theorem az_fill_end (M : az_M) {a i n v : Int} (h : n ≤ i) : az_fill M a i n v = M := by
  funext b j
  unfold az_fill
  rw [if_neg (by omega)]
theorem az_fill_up (M : az_M) {a i n v : Int} (h : i < n) : az_fill (az_up M a i v) a (i + 1) n v = az_fill M a i n v := by
  funext b j
  unfold az_fill az_up
  by_cases hb : b = a
  · subst hb
    by_cases hj : j = i
    · subst hj
      rw [if_neg (by omega), if_pos ⟨rfl, rfl⟩, if_pos ⟨rfl, by omega, h⟩]
    · by_cases h2 : i ≤ j ∧ j < n
      · rw [if_pos ⟨rfl, by omega, h2.2⟩, if_pos ⟨rfl, h2⟩]
      · rw [if_neg (by omega), if_neg (by simp [hj]), if_neg (by omega)]
  · rw [if_neg (by simp [hb]), if_neg (by simp [hb]), if_neg (by simp [hb])]
set_option maxRecDepth 20000 in
theorem sp_fill2 {K : az_K} {a : Int} {n : Nat} (hK : az_at K a (100, n)) (hn : n ≤ 1000) (v : Int) (M : az_M) : AM yJ7_fill_53178 cJ7_fill_53178 4 none 0 0 0 [(1, a), (0, v)] K M (qv K (fun M' => M' = az_fill M a 0 n v)) := by
  refine am_of (by decide) (Nat.le_of_ble_eq_true rfl) (L := [(1, a), (0, v), (9, 0), (9, 0)]) rfl ?_
  refine aw_iconst dJ7_fill_53178_0 rfl ⟨by decide, by decide⟩ ?_
  refine aw_istore_n dJ7_fill_53178_1 rfl (by decide) ?_
  refine aw_aload_n dJ7_fill_53178_2 rfl rfl ⟨by decide, by decide⟩ ?_
  refine aw_alen100 dJ7_fill_53178_3 (by assumption) ⟨by omega, by omega⟩ ?_
  refine aw_istore_n dJ7_fill_53178_4 rfl (by decide) ?_
  have loop : ∀ (k : Nat) (i : Int) (M1 : az_M), 0 ≤ i → i ≤ n → (n - i).toNat < k → az_fill M1 a i n v = az_fill M a 0 n v → AW az_P0 (az_Z (qv K (fun M' => M' = az_fill M a 0 n v)) 0 0) (az_rm 0 0 0) yJ7_fill_53178 cJ7_fill_53178 4 none 0 0 5 [(1, a), (0, v), (0, i), (0, (n : Int))] [] K M1 := by
    intro k
    induction k with
    | zero => intro i M1 _ _ h; omega
    | succ k ih =>
      intro i M1 h0 h1 hk hM
      refine aw_iload_n dJ7_fill_53178_5 rfl rfl ?_
      refine aw_iload_n dJ7_fill_53178_6 rfl rfl ?_
      refine aw_icmp_ge (tgt := 20) dJ7_fill_53178_7 rfl (fun h7 => ?_) (fun h7 => ?_)
      · exact aw_vret dJ7_fill_53178_20 (by decide) (by decide) ⟨rfl, rfl, by rw [← hM, az_fill_end _ (by omega)]⟩
      · refine aw_aload_n dJ7_fill_53178_10 rfl rfl ⟨by decide, by decide⟩ ?_
        refine aw_iload_n dJ7_fill_53178_11 rfl rfl ?_
        refine aw_iload_n dJ7_fill_53178_12 rfl rfl ?_
        refine aw_iast dJ7_fill_53178_13 (by assumption) (by omega) (by omega) ?_
        refine aw_iinc dJ7_fill_53178_14 rfl (az_wr_id (by omega) (by omega)) (by decide) ?_
        refine aw_goto (tgt := 5) dJ7_fill_53178_17 rfl ?_
        exact ih (i + 1) _ (by omega) (by omega) (by omega) (by rw [az_fill_up _ h7]; exact hM)
  exact loop ((n : Int).toNat + 1) 0 M (by omega) (by omega) (by omega) rfl
set_option maxRecDepth 20000 in
theorem sp_row (K : az_K) (M : az_M) (s c : Int) (h0 : 0 ≤ s) (h1 : s ≤ 100) (h2 : 0 ≤ c) (h3 : c ≤ 100) : AM yX3_row cX3_row 2 (some .int) 0 0 0 [(0, s), (0, c)] K M (qp K M (s / 4 * 4 + c)) := by
  refine am_of (by decide) (Nat.le_of_ble_eq_true rfl) (L := [(0, s), (0, c)]) rfl ?_
  refine aw_iload_n dX3_row_0 rfl rfl ?_
  refine aw_iconst dX3_row_1 rfl ⟨by decide, by decide⟩ ?_
  refine aw_idiv dX3_row_2 (by omega) (by omega) ?_
  refine aw_iconst dX3_row_3 rfl ⟨by decide, by decide⟩ ?_
  refine aw_imul dX3_row_4 (az_wr_id (by omega) (by omega)) ?_
  refine aw_iload_n dX3_row_5 rfl rfl ?_
  refine aw_iadd dX3_row_6 (az_wr_id (by omega) (by omega)) ?_
  exact aw_iret dX3_row_7 (by decide) (by decide) ⟨rfl, rfl, rfl⟩
