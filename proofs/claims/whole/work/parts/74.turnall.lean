/-! TreadRingModel: turnAll, isEcru, lose, tell -/
set_option maxRecDepth 20000
def tC (g : Int → Int) (c t k : Int) : Int → Int := fun i => if 0 ≤ i ∧ i < 128 ∧ i < k ∧ g i = c then t else if t = 0 ∧ 128 ≤ i ∧ i < 256 ∧ i < 128 + k ∧ g (i - 128) = c then 0 else g i
def colA (g : Int → Int) (c : Int) (n : Nat) : Int := sumN n (fun a => if g a = c then 1 else 0)
theorem tC_hi (g : Int → Int) (c t k : Int) {i : Int} (h : 256 ≤ i) : tC g c t k i = g i := by unfold tC; rw [if_neg (by omega), if_neg (by omega)]
theorem tC_pg {g : Int → Int} (c t k : Int) (h : w_pg g) : w_pg (tC g c t k) := by
  refine ⟨by rw [tC_hi g c t k (by omega)]; exact h.1, by rw [tC_hi g c t k (by omega)]; exact h.2.1, fun p p0 p1 => ?_⟩
  rw [tC_hi g c t k (show (256 : Int) ≤ 725 by omega), tC_hi g c t k (by omega)]
  exact h.2.2 p p0 p1
theorem tC_sl (g : Int → Int) (c t k a : Int) : slD (tC g c t k) a ↔ sl g a := by
  unfold slD sl pz
  constructor
  · rintro ⟨q0, q1, q2⟩
    rw [tC_hi g c t k (by omega)] at q2
    exact ⟨q0, q1, q2⟩
  · rintro ⟨q0, q1, q2⟩
    rw [tC_hi g c t k (by omega)]
    exact ⟨q0, q1, q2⟩
theorem colA_in (g : Int → Int) (c : Int) (n : Nat) : 0 ≤ colA g c n ∧ colA g c n ≤ 1 * n := sumN_le n (fun j _ => by show 0 ≤ (if _ then (1 : Int) else 0) ∧ (if _ then (1 : Int) else 0) ≤ 1; split <;> omega)
set_option maxHeartbeats 1000000 in
theorem sp_turnAll {K : az_K} {m : Int} (hK : MaK K m) (M : az_M) {g : Int → Int} (hp : w_pg g) (hcl : w_col g) (hF : ∀ i, 0 ≤ i → i < 790 → i < 384 ∨ 707 ≤ i → i ≠ 739 → M (m + 1) i = g i) (c t : Int) (hc : c ≠ 0) (hct : c ≠ t) : AM yX7_turnAll cX7_turnAll 5 (some .int) 3 0 0 [(1, m), (0, c), (0, t)] K M (qi K (fun z M' => z = colA g c 128 ∧ mAll (M' (m + 1)) (tC g c t 128) ∧ (∀ i, 384 ≤ i ∧ i < 707 ∨ i = 739 → M' (m + 1) i = M (m + 1) i) ∧ ∀ b, b ≠ m + 1 → M' b = M b)) := by
  have hK0 := hK
  obtain ⟨km, k1, zz⟩ := hK
  refine am_of (by decide) (Nat.le_of_ble_eq_true rfl) (L := [(1, m), (0, c), (0, t), (9, 0), (9, 0)]) rfl ?_
  refine aw_iconst dX7_turnAll_0 rfl ⟨by decide, by decide⟩ ?_
  refine aw_istore_n dX7_turnAll_1 rfl (by decide) ?_
  refine aw_iconst dX7_turnAll_2 rfl ⟨by decide, by decide⟩ ?_
  refine aw_istore dX7_turnAll_3 (by decide) ?_
  have loop : ∀ (k i : Nat) (M1 : az_M), i + k = 128 → mAll (M1 (m + 1)) (tC g c t i) → (∀ i, 384 ≤ i ∧ i < 707 ∨ i = 739 → M1 (m + 1) i = M (m + 1) i) → (∀ b, b ≠ m + 1 → M1 b = M b) → AW az_P0 (az_Z (qi K (fun z M' => z = colA g c 128 ∧ mAll (M' (m + 1)) (tC g c t 128) ∧ (∀ i, 384 ≤ i ∧ i < 707 ∨ i = 739 → M' (m + 1) i = M (m + 1) i) ∧ ∀ b, b ≠ m + 1 → M' b = M b)) 0 0) (az_rm 3 0 0) yX7_turnAll cX7_turnAll 5 (some .int) 0 0 5 [(1, m), (0, c), (0, t), (0, colA g c i), (0, (i : Int))] [] K M1 := by
    intro k
    induction k with
    | zero =>
      intro i M1 hi h1 h2 h3
      have : i = 128 := by omega
      subst this
      refine aw_iload dX7_turnAll_5 rfl ?_
      refine aw_sipush dX7_turnAll_7 (by decide) ⟨by decide, by decide⟩ ?_
      refine aw_icmp_ge (tgt := 70) dX7_turnAll_10 rfl (fun h10 => ?_) (fun h10 => absurd h10 (by omega))
      refine aw_iload_n dX7_turnAll_70 rfl rfl ?_
      exact aw_iret dX7_turnAll_71 (by decide) (by decide) ⟨_, rfl, rfl, rfl, h1, h2, h3⟩
    | succ k ih =>
      intro i M1 hi h1 h2 h3
      have hci := colA_in g c i
      have hnx : colA g c (i + 1) = colA g c i + (if g i = c then 1 else 0) := rfl
      have same : ¬ g (i : Int) = c → AW az_P0 (az_Z (qi K (fun z M' => z = colA g c 128 ∧ mAll (M' (m + 1)) (tC g c t 128) ∧ (∀ i, 384 ≤ i ∧ i < 707 ∨ i = 739 → M' (m + 1) i = M (m + 1) i) ∧ ∀ b, b ≠ m + 1 → M' b = M b)) 0 0) (az_rm 3 0 0) yX7_turnAll cX7_turnAll 5 (some .int) 0 0 64 [(1, m), (0, c), (0, t), (0, colA g c i), (0, (i : Int))] [] K M1 := by
        intro hn
        refine aw_iinc dX7_turnAll_64 rfl (az_wr_id (by omega) (by omega)) (by decide) ?_
        refine aw_goto (tgt := 5) dX7_turnAll_67 rfl ?_
        have := ih (i + 1) M1 (by omega) ?_ h2 h3
        · rw [hnx, if_neg hn, Int.add_zero] at this
          exact this
        · intro j j0 j1 j2 j3
          rw [h1 j j0 j1 j2 j3]
          unfold tC
          by_cases e1 : 0 ≤ j ∧ j < 128 ∧ j < (i : Int) ∧ g j = c
          · rw [if_pos e1, if_pos ⟨e1.1, e1.2.1, by omega, e1.2.2.2⟩]
          · rw [if_neg e1]
            have e2 : ¬ (0 ≤ j ∧ j < 128 ∧ j < ((i + 1 : Nat) : Int) ∧ g j = c) := by
              rintro ⟨q0, q1, q2, q3⟩
              by_cases e : j = i
              · exact hn (by rw [← e]; exact q3)
              · exact e1 ⟨q0, q1, by omega, q3⟩
            rw [if_neg e2]
            by_cases e3 : t = 0 ∧ 128 ≤ j ∧ j < 256 ∧ j < 128 + (i : Int) ∧ g (j - 128) = c
            · rw [if_pos e3, if_pos ⟨e3.1, e3.2.1, e3.2.2.1, by omega, e3.2.2.2.2⟩]
            · rw [if_neg e3, if_neg]
              rintro ⟨q0, q1, q2, q3, q4⟩
              by_cases e : j = 128 + (i : Int)
              · exact hn (by rw [← q4]; congr 1; omega)
              · exact e3 ⟨q0, q1, q2, by omega, q4⟩
      have hcol := hcl (i : Int) (by omega) (by omega)
      have hci2 : tC g c t i (i : Int) = g i := by
        unfold tC
        rw [if_neg (by omega), if_neg (by omega)]
      refine aw_iload dX7_turnAll_5 rfl ?_
      refine aw_sipush dX7_turnAll_7 (by decide) ⟨by decide, by decide⟩ ?_
      refine aw_icmp_ge (tgt := 70) dX7_turnAll_10 rfl (fun h10 => absurd h10 (by omega)) (fun h10 => ?_)
      refine aw_aload_n dX7_turnAll_13 rfl rfl ⟨by decide, by decide⟩ ?_
      refine aw_iload dX7_turnAll_14 rfl ?_
      refine aw_cV1p dX7_turnAll_16 ml_RX7_102 (by assumption) (by decide) rfl rfl ⟨by decide, by decide, by decide, by decide⟩ (Nat.le_of_ble_eq_true rfl) (sp_misSlot hK0 M1 (tC_pg c t i hp) h1 (i : Int)) ?_
      refine aw_if_eq (tgt := 64) dX7_turnAll_19 rfl (fun h19 => ?_) (fun h19 => ?_)
      · refine same (fun q => ?_)
        have := hcol.2.2 (fun w => (if0 h19) ((tC_sl g c t i i).mpr w))
        omega
      · have v25 : M1 (m + 1) (i : Int) = g i := by rw [h1 _ (by omega) (by omega) (by omega) (by omega), hci2]
        refine aw_aload_n dX7_turnAll_22 rfl rfl ⟨by decide, by decide⟩ ?_
        refine aw_iload dX7_turnAll_23 rfl ?_
        refine aw_cV1p dX7_turnAll_25 ml_RX7_106 (by assumption) (by decide) rfl rfl ⟨by decide, by decide, by decide, by decide⟩ (Nat.le_of_ble_eq_true rfl) (qp_c (sp_colourOf hK0 M1 (i : Int) (by omega) (by omega)) v25) ?_
        refine aw_iload_n dX7_turnAll_28 rfl rfl ?_
        refine aw_icmp_eq (tgt := 35) dX7_turnAll_29 rfl (fun h29 => ?_) (fun h29 => ?_)
        · refine aw_aload_n dX7_turnAll_35 rfl rfl ⟨by decide, by decide⟩ ?_
          refine aw_gzF 0 dX7_turnAll_36 fl_RX7_7 (by assumption) rfl rfl (by assumption) ?_
          refine aw_iconst dX7_turnAll_39 rfl ⟨by decide, by decide⟩ ?_
          refine aw_iload dX7_turnAll_40 rfl ?_
          refine aw_iadd dX7_turnAll_42 (az_wr_id (by omega) (by omega)) ?_
          refine aw_iload_n dX7_turnAll_43 rfl rfl ?_
          refine aw_iast dX7_turnAll_44 (by assumption) (by omega) (by omega) ?_
          rw [Int.zero_add]
          have fin : ∀ M2, mAll (M2 (m + 1)) (tC g c t ((i + 1 : Nat) : Int)) → (∀ i, 384 ≤ i ∧ i < 707 ∨ i = 739 → M2 (m + 1) i = M (m + 1) i) → (∀ b, b ≠ m + 1 → M2 b = M b) → AW az_P0 (az_Z (qi K (fun z M' => z = colA g c 128 ∧ mAll (M' (m + 1)) (tC g c t 128) ∧ (∀ i, 384 ≤ i ∧ i < 707 ∨ i = 739 → M' (m + 1) i = M (m + 1) i) ∧ ∀ b, b ≠ m + 1 → M' b = M b)) 0 0) (az_rm 3 0 0) yX7_turnAll cX7_turnAll 5 (some .int) 0 0 61 [(1, m), (0, c), (0, t), (0, colA g c i), (0, (i : Int))] [] K M2 := by
            intro M2 w1 w2 w3
            refine aw_iinc dX7_turnAll_61 rfl (az_wr_id (by omega) (by omega)) (by decide) ?_
            refine aw_iinc dX7_turnAll_64 rfl (az_wr_id (by omega) (by omega)) (by decide) ?_
            refine aw_goto (tgt := 5) dX7_turnAll_67 rfl ?_
            have := ih (i + 1) M2 (by omega) w1 w2 w3
            rw [hnx, if_pos h29] at this
            exact this
          have hlow : ∀ j, 0 ≤ j → j < 790 → j < 384 ∨ 707 ≤ j → j ≠ 739 → j ≠ (i : Int) → (t = 0 → j ≠ 128 + (i : Int)) → M1 (m + 1) j = tC g c t ((i + 1 : Nat) : Int) j := by
            intro j j0 j1 j2 j3 e1 e2
            rw [h1 j j0 j1 j2 j3]
            unfold tC
            by_cases e3 : 0 ≤ j ∧ j < 128 ∧ j < (i : Int) ∧ g j = c
            · rw [if_pos e3, if_pos ⟨e3.1, e3.2.1, by omega, e3.2.2.2⟩]
            · have e5 : ¬ (0 ≤ j ∧ j < 128 ∧ j < ((i + 1 : Nat) : Int) ∧ g j = c) := fun q => e3 ⟨q.1, q.2.1, by omega, q.2.2.2⟩
              rw [if_neg e3, if_neg e5]
              by_cases e4 : t = 0 ∧ 128 ≤ j ∧ j < 256 ∧ j < 128 + (i : Int) ∧ g (j - 128) = c
              · rw [if_pos e4, if_pos ⟨e4.1, e4.2.1, e4.2.2.1, by omega, e4.2.2.2.2⟩]
              · rw [if_neg e4, if_neg (fun q => e4 ⟨q.1, q.2.1, q.2.2.1, by have := e2 q.1; omega, q.2.2.2.2⟩)]
          have hthis : tC g c t ((i + 1 : Nat) : Int) (i : Int) = t := by unfold tC; rw [if_pos ⟨by omega, by omega, by omega, h29⟩]
          refine aw_iload_n dX7_turnAll_45 rfl rfl ?_
          refine aw_if_ne (tgt := 61) dX7_turnAll_46 rfl (fun h46 => ?_) (fun h46 => ?_)
          · refine fin _ (fun j j0 j1 j2 j3 => ?_) (fun j hj => ?_) (fun b hb => by rw [up_oth _ _ _ hb, h3 b hb])
            · by_cases e : j = (i : Int)
              · rw [e, az_up_s, hthis]
              · rw [az_up_i _ _ _ _ e]; exact hlow j j0 j1 j2 j3 e (fun q => absurd q h46)
            · rw [az_up_i _ _ _ _ (by omega)]; exact h2 j hj
          · refine aw_aload_n dX7_turnAll_49 rfl rfl ⟨by decide, by decide⟩ ?_
            refine aw_gzF 0 dX7_turnAll_50 fl_RX7_7 (by assumption) rfl rfl (by assumption) ?_
            refine aw_sipush dX7_turnAll_53 (by decide) ⟨by decide, by decide⟩ ?_
            refine aw_iload dX7_turnAll_56 rfl ?_
            refine aw_iadd dX7_turnAll_58 (az_wr_id (by omega) (by omega)) ?_
            refine aw_iconst dX7_turnAll_59 rfl ⟨by decide, by decide⟩ ?_
            refine aw_iast dX7_turnAll_60 (by assumption) (by omega) (by omega) ?_
            refine fin _ (fun j j0 j1 j2 j3 => ?_) (fun j hj => ?_) (fun b hb => by rw [up_oth _ _ _ hb, up_oth _ _ _ hb, h3 b hb])
            · by_cases e : j = 128 + (i : Int)
              · rw [e, az_up_s]
                unfold tC
                rw [if_neg (by omega), if_pos ⟨h46, by omega, by omega, by omega, by rw [show 128 + (i : Int) - 128 = i by omega]; exact h29⟩]
              · rw [az_up_i _ _ _ _ e]
                by_cases e2 : j = (i : Int)
                · rw [e2, az_up_s, hthis]
                · rw [az_up_i _ _ _ _ e2]; exact hlow j j0 j1 j2 j3 e2 (fun _ => e)
            · rw [az_up_i _ _ _ _ (by omega), az_up_i _ _ _ _ (by omega)]; exact h2 j hj
        · refine aw_goto (tgt := 64) dX7_turnAll_32 rfl ?_
          exact same h29
  refine loop 128 0 M (by omega) (fun j j0 j1 j2 j3 => ?_) (fun _ _ => rfl) (fun _ _ => rfl)
  rw [hF j j0 j1 j2 j3]
  unfold tC
  rw [if_neg (by omega), if_neg (by omega)]
theorem sum_mem (N : Nat) : ∀ l : List Int, l.Nodup → (∀ n ∈ l, 0 ≤ n ∧ n < (N : Int)) → sumN N (fun n => if n ∈ l then 1 else 0) = (l.length : Int) := by
  intro l
  induction l with
  | nil =>
    intro _ _
    have : sumN N (fun n => if n ∈ ([] : List Int) then (1 : Int) else 0) = sumN N (fun _ => 0) := sumN_congr N (fun i _ => by show (if (i : Int) ∈ ([] : List Int) then (1 : Int) else 0) = 0; rw [if_neg (by simp)])
    rw [this, sumN_zero]; rfl
  | cons x t ih =>
    intro hn hin
    obtain ⟨h1, h2⟩ := List.nodup_cons.mp hn
    have hx := hin x List.mem_cons_self
    have e1 : sumN N (fun n => if n ∈ x :: t then (1 : Int) else 0) = sumN N (fun n => (if n ∈ t then (1 : Int) else 0) + (if n = x then 1 else 0)) := by
      refine sumN_congr N (fun i _ => ?_)
      show (if (i : Int) ∈ x :: t then (1 : Int) else 0) = (if (i : Int) ∈ t then 1 else 0) + (if (i : Int) = x then 1 else 0)
      by_cases e : (i : Int) = x
      · rw [if_pos (by rw [e]; exact List.mem_cons_self), if_neg (by rw [e]; exact h1), if_pos e]; rfl
      · rw [if_neg e]
        by_cases e2 : (i : Int) ∈ t
        · rw [if_pos (List.mem_cons_of_mem _ e2), if_pos e2]; rfl
        · rw [if_neg e2, if_neg]
          · rfl
          · intro q
            rcases List.mem_cons.mp q with q | q
            · exact e q
            · exact e2 q
    have e2 : ∀ k : Nat, sumN k (fun n => if n = x then (1 : Int) else 0) = if x < (k : Int) then 1 else 0 := by
      intro k
      induction k with
      | zero => rw [if_neg (by omega)]; rfl
      | succ k ihk =>
        show sumN k (fun n => if n = x then (1 : Int) else 0) + (if (k : Int) = x then 1 else 0) = _
        rw [ihk]
        by_cases q : x < (k : Int)
        · rw [if_pos q, if_neg (by omega), if_pos (by omega)]; rfl
        · rw [if_neg q]
          by_cases q2 : (k : Int) = x
          · rw [if_pos q2, if_pos (by omega)]; rfl
          · rw [if_neg q2, if_neg (by omega)]; rfl
    rw [e1, sumN_add, ih h2 (fun n h => hin n (List.mem_cons_of_mem _ h)), e2 N, if_pos hx.2, List.length_cons]
    omega
theorem sum_even (f : Int → Int) : ∀ n : Nat, (∀ j : Nat, j < n → f (2 * j + 1) = 0) → sumN (2 * n) f = sumN n (fun i => f (2 * i)) := by
  intro n
  induction n with
  | zero => intro _; rfl
  | succ n ih =>
    intro h
    show sumN (2 * n) f + f ((2 * n : Nat) : Int) + f ((2 * n + 1 : Nat) : Int) = sumN n (fun i => f (2 * i)) + f (2 * (n : Int))
    rw [ih (fun j hj => h j (by omega)), show ((2 * n : Nat) : Int) = 2 * (n : Int) by omega, show ((2 * n + 1 : Nat) : Int) = 2 * (n : Int) + 1 by omega, h n (by omega)]
    omega
/-- the slots of a colour, counted by their addresses -/
theorem colA_row {g : Int → Int} {rg : Int → List Int} (hw : WR g rg) {c : Int} (c0 : 1 ≤ c) (c3 : c ≤ 3) : colA g c 128 = colN rg c := by
  have hsl : ∀ a, 0 ≤ a → a < 128 → g a = c → sl g a := by
    intro a a0 a1 e
    rcases sl_dec g a with q | q
    · exact q
    · have := (hw.2.1 a a0 a1).2.2 q; omega
  have key : ∀ i : Nat, i < 64 → (if g (2 * (i : Int)) = c then (1 : Int) else 0) = (if (i : Int) ∈ rg c then 1 else 0) + (if (i : Int) ∈ rg (4 + c) then 1 else 0) + (if (i : Int) ∈ rg (8 + c) then 1 else 0) := by
    intro i hi
    have hm := fun (k : Int) (k0 : 0 ≤ k) (k1 : k < 12) => (hw.2.2 k k0 k1).2 (i : Int)
    by_cases e : g (2 * (i : Int)) = c
    · rw [if_pos e]
      have hs := hsl _ (by omega) (by omega) e
      obtain ⟨e1, e2, e3, e4, e5⟩ := sl_even hw.1 hs
      have hk : kz g (2 * (i : Int)) = 0 ∨ kz g (2 * (i : Int)) = 4 ∨ kz g (2 * (i : Int)) = 8 := by unfold kz at e4 e5 ⊢; omega
      rcases hk with q | q | q
      · rw [if_pos ((hm c (by omega) (by omega)).mpr ⟨by omega, by omega, hs, by omega⟩), if_neg (fun w => by have := (hm _ (by omega) (by omega)).mp w; omega), if_neg (fun w => by have := (hm _ (by omega) (by omega)).mp w; omega)]; rfl
      · rw [if_neg (fun w => by have := (hm _ (by omega) (by omega)).mp w; omega), if_pos ((hm (4 + c) (by omega) (by omega)).mpr ⟨by omega, by omega, hs, by omega⟩), if_neg (fun w => by have := (hm _ (by omega) (by omega)).mp w; omega)]; rfl
      · rw [if_neg (fun w => by have := (hm _ (by omega) (by omega)).mp w; omega), if_neg (fun w => by have := (hm _ (by omega) (by omega)).mp w; omega), if_pos ((hm (8 + c) (by omega) (by omega)).mpr ⟨by omega, by omega, hs, by omega⟩)]; rfl
    · rw [if_neg e]
      have no : ∀ k, 0 ≤ k → k < 12 → k % 4 = c % 4 → (i : Int) ∉ rg k := by
        intro k k0 k1 hk w
        have := WR_mem hw k0 k1 w
        omega
      rw [if_neg (no c (by omega) (by omega) (by omega)), if_neg (no (4 + c) (by omega) (by omega) (by omega)), if_neg (no (8 + c) (by omega) (by omega) (by omega))]; rfl
  have hs : ∀ k, 0 ≤ k → k < 12 → sumN 64 (fun n => if n ∈ rg k then (1 : Int) else 0) = ((rg k).length : Int) := fun k k0 k1 => sum_mem 64 (rg k) (hw.2.2 k k0 k1).1 (rows_in hw k0 k1)
  have hev : colA g c 128 = sumN 64 (fun i => if g (2 * i) = c then (1 : Int) else 0) := by
    have e : ∀ n : Nat, n ≤ 64 → sumN (2 * n) (fun a => if g a = c then (1 : Int) else 0) = sumN n (fun i => if g (2 * i) = c then (1 : Int) else 0) := by
      intro n
      induction n with
      | zero => intro _; rfl
      | succ n ih =>
        intro hn
        show sumN (2 * n) (fun a => if g a = c then (1 : Int) else 0) + (if g ((2 * n : Nat) : Int) = c then 1 else 0) + (if g ((2 * n + 1 : Nat) : Int) = c then 1 else 0) = sumN n (fun i => if g (2 * i) = c then (1 : Int) else 0) + (if g (2 * (n : Int)) = c then 1 else 0)
        have hno : ¬ g ((2 * n + 1 : Nat) : Int) = c := fun q => by
          have := (sl_even hw.1 (hsl _ (by omega) (by omega) q)).1
          omega
        rw [ih (by omega), if_neg hno, show ((2 * n : Nat) : Int) = 2 * (n : Int) by omega]
        omega
    exact e 64 (Nat.le_refl _)
  rw [hev, sumN_congr (f' := fun n => (if n ∈ rg c then (1 : Int) else 0) + (if n ∈ rg (4 + c) then 1 else 0) + (if n ∈ rg (8 + c) then 1 else 0)) 64 key]
  have := sumN_add (fun n => (if n ∈ rg c then (1 : Int) else 0) + (if n ∈ rg (4 + c) then 1 else 0)) (fun n => if n ∈ rg (8 + c) then 1 else 0) 64
  rw [this, sumN_add, hs c (by omega) (by omega), hs (4 + c) (by omega) (by omega), hs (8 + c) (by omega) (by omega)]
  rfl
theorem sp_isEcru {K : az_K} {m : Int} (hK : MaK K m) (M : az_M) (a : Int) (a1 : a < 790) : AM yX7_isEcru cX7_isEcru 2 (some .boolean) 1 0 0 [(1, m), (0, a)] K M (qp K M (if 0 ≤ a ∧ M (m + 1) a = 1 then 1 else 0)) := by
  have hK0 := hK
  obtain ⟨km, k1, zz⟩ := hK
  refine am_of (by decide) (Nat.le_of_ble_eq_true rfl) (L := [(1, m), (0, a)]) rfl ?_
  refine aw_iload_n dX7_isEcru_0 rfl rfl ?_
  refine aw_if_lt (tgt := 17) dX7_isEcru_1 rfl (fun h1 => ?_) (fun h1 => ?_)
  · refine aw_iconst dX7_isEcru_17 rfl ⟨by decide, by decide⟩ ?_
    exact aw_zret dX7_isEcru_18 (by omega) (by decide) (by decide) (qp_i (by rw [if_neg (by omega)]))
  · refine aw_aload_n dX7_isEcru_4 rfl rfl ⟨by decide, by decide⟩ ?_
    refine aw_iload_n dX7_isEcru_5 rfl rfl ?_
    refine aw_cV1p dX7_isEcru_6 ml_RX7_106 (by assumption) (by decide) rfl rfl ⟨by decide, by decide, by decide, by decide⟩ (Nat.le_of_ble_eq_true rfl) (sp_colourOf hK0 M a (by omega) (by omega)) ?_
    refine aw_iconst dX7_isEcru_9 rfl ⟨by decide, by decide⟩ ?_
    refine aw_icmp_ne (tgt := 17) dX7_isEcru_10 rfl (fun h10 => ?_) (fun h10 => ?_)
    · refine aw_iconst dX7_isEcru_17 rfl ⟨by decide, by decide⟩ ?_
      exact aw_zret dX7_isEcru_18 (by omega) (by decide) (by decide) (qp_i (by rw [if_neg (fun q => h10 q.2)]))
    · refine aw_iconst dX7_isEcru_13 rfl ⟨by decide, by decide⟩ ?_
      refine aw_goto (tgt := 18) dX7_isEcru_14 rfl ?_
      exact aw_zret dX7_isEcru_18 (by omega) (by decide) (by decide) (qp_i (by rw [if_pos ⟨by omega, h10⟩]))
theorem sp_lose {K : az_K} {m : Int} (hK : MaK K m) (M : az_M) (at_ ct e : Int) (a0 : 0 ≤ at_) (a1 : at_ < 790) (ct0 : 0 ≤ ct) (ct1 : ct < 790) (hne : at_ ≠ ct) (hv : M (m + 1) at_ < 128) (he : e = if 0 ≤ M (m + 1) at_ ∧ M (m + 1) (M (m + 1) at_) = 1 then 1 else 0) : AM yX7_lose cX7_lose 3 none 2 0 0 [(1, m), (0, at_), (0, ct)] K M (qv K (fun M' => (∀ i, M' (m + 1) i = if i = at_ ∧ e = 1 then -1 else if i = ct ∧ e = 1 then az_wr (M (m + 1) ct + 1) else M (m + 1) i) ∧ ∀ b, b ≠ m + 1 → M' b = M b)) := by
  have hK0 := hK
  obtain ⟨km, k1, zz⟩ := hK
  refine am_of (by decide) (Nat.le_of_ble_eq_true rfl) (L := [(1, m), (0, at_), (0, ct)]) rfl ?_
  refine aw_aload_n dX7_lose_0 rfl rfl ⟨by decide, by decide⟩ ?_
  refine aw_aload_n dX7_lose_1 rfl rfl ⟨by decide, by decide⟩ ?_
  refine aw_gzF 0 dX7_lose_2 fl_RX7_7 (by assumption) rfl rfl (by assumption) ?_
  refine aw_iload_n dX7_lose_5 rfl rfl ?_
  refine aw_iv dX7_lose_6 (by assumption) (by omega) (by omega) rfl ?_
  refine aw_cV1p dX7_lose_7 ml_RX7_158 (by assumption) (by decide) rfl rfl ⟨by decide, by decide, by decide, by decide⟩ (Nat.le_of_ble_eq_true rfl) (qp_c (sp_isEcru hK0 M (M (m + 1) at_) (by omega)) he.symm) ?_
  refine aw_if_ne (tgt := 14) dX7_lose_10 rfl (fun h10 => ?_) (fun h10 => ?_)
  · have e1 : e = 1 := by
      rw [he] at h10
      rw [he, if_pos (if1 h10)]
    have v27 : az_up M (m + 1) at_ (-1) (m + 1) ct = M (m + 1) ct := az_up_i _ _ _ _ (by omega)
    refine aw_aload_n dX7_lose_14 rfl rfl ⟨by decide, by decide⟩ ?_
    refine aw_gzF 0 dX7_lose_15 fl_RX7_7 (by assumption) rfl rfl (by assumption) ?_
    refine aw_iload_n dX7_lose_18 rfl rfl ?_
    refine aw_iconst dX7_lose_19 rfl ⟨by decide, by decide⟩ ?_
    refine aw_iast dX7_lose_20 (by assumption) (by omega) (by omega) ?_
    refine aw_aload_n dX7_lose_21 rfl rfl ⟨by decide, by decide⟩ ?_
    refine aw_gzF 0 dX7_lose_22 fl_RX7_7 (by assumption) rfl rfl (by assumption) ?_
    refine aw_iload_n dX7_lose_25 rfl rfl ?_
    refine aw_dup2 dX7_lose_26 ?_
    refine aw_iv dX7_lose_27 (by assumption) (by omega) (by omega) v27 ?_
    refine aw_iconst dX7_lose_28 rfl ⟨by decide, by decide⟩ ?_
    refine aw_iadd dX7_lose_29 rfl ?_
    refine aw_iast dX7_lose_30 (by assumption) (by omega) (by omega) ?_
    refine aw_vret dX7_lose_31 (by decide) (by decide) ⟨rfl, rfl, fun i => ?_, fun b hb => by rw [up_oth _ _ _ hb, up_oth _ _ _ hb]⟩
    by_cases q : i = ct
    · rw [if_neg (by omega), if_pos ⟨q, e1⟩, q, az_up_s]
    · rw [az_up_i _ _ _ _ q]
      by_cases q2 : i = at_
      · rw [if_pos ⟨q2, e1⟩, q2, az_up_s]
      · rw [az_up_i _ _ _ _ q2, if_neg (fun w => q2 w.1), if_neg (fun w => q w.1)]
  · refine aw_vret dX7_lose_13 (by decide) (by decide) ⟨rfl, rfl, fun i => ?_, fun _ _ => rfl⟩
    rw [if_neg (by omega), if_neg (by omega)]
def tellF (F : Int → Int) (s f l : Int) : Int → Int := fun i => if i = 742 then s else if i = 743 then f else if i = 744 then l else if 745 ≤ i ∧ i < 790 then F (i - 3) else if i = 741 then (if F 741 < 16 then F 741 + 1 else F 741) else F i
theorem sp_tell {K : az_K} {m : Int} (hK : MaK K m) (M : az_M) (s f l : Int) : AM yX7_tell cX7_tell 5 none 0 0 0 [(1, m), (0, s), (0, f), (0, l)] K M (qv K (fun M' => (∀ i, M' (m + 1) i = tellF (M (m + 1)) s f l i) ∧ ∀ b, b ≠ m + 1 → M' b = M b)) := by
  have hK0 := hK
  obtain ⟨km, k1, zz⟩ := hK
  refine am_of (by decide) (Nat.le_of_ble_eq_true rfl) (L := [(1, m), (0, s), (0, f), (0, l), (9, 0)]) rfl ?_
  refine aw_bipush dX7_tell_0 (by decide) ⟨by decide, by decide⟩ ?_
  refine aw_istore dX7_tell_2 (by decide) ?_
  have loop : ∀ (d : Nat) (k : Int) (M1 : az_M), k = 2 + d → d ≤ 45 → (∀ i, M1 (m + 1) i = if 742 + k < i ∧ i < 790 then M (m + 1) (i - 3) else M (m + 1) i) → (∀ b, b ≠ m + 1 → M1 b = M b) → AW az_P0 (az_Z (qv K (fun M' => (∀ i, M' (m + 1) i = tellF (M (m + 1)) s f l i) ∧ ∀ b, b ≠ m + 1 → M' b = M b)) 0 0) (az_rm 0 0 0) yX7_tell cX7_tell 5 none 0 0 4 [(1, m), (0, s), (0, f), (0, l), (0, k)] [] K M1 := by
    intro d
    induction d with
    | zero =>
      intro k M1 hk hd hM ho
      have hk2 : k = 2 := by omega
      subst hk2
      refine aw_iload dX7_tell_4 rfl ?_
      refine aw_iconst dX7_tell_6 rfl ⟨by decide, by decide⟩ ?_
      refine aw_icmp_lt (tgt := 40) dX7_tell_7 rfl (fun h7 => ?_) (fun h7 => absurd h7 (by omega))
      refine aw_aload_n dX7_tell_40 rfl rfl ⟨by decide, by decide⟩ ?_
      refine aw_gzF 0 dX7_tell_41 fl_RX7_7 (by assumption) rfl rfl (by assumption) ?_
      refine aw_sipush dX7_tell_44 (by decide) ⟨by decide, by decide⟩ ?_
      refine aw_iload_n dX7_tell_47 rfl rfl ?_
      refine aw_iast dX7_tell_48 (by assumption) (by omega) (by omega) ?_
      refine aw_aload_n dX7_tell_49 rfl rfl ⟨by decide, by decide⟩ ?_
      refine aw_gzF 0 dX7_tell_50 fl_RX7_7 (by assumption) rfl rfl (by assumption) ?_
      refine aw_sipush dX7_tell_53 (by decide) ⟨by decide, by decide⟩ ?_
      refine aw_iload_n dX7_tell_56 rfl rfl ?_
      refine aw_iast dX7_tell_57 (by assumption) (by omega) (by omega) ?_
      refine aw_aload_n dX7_tell_58 rfl rfl ⟨by decide, by decide⟩ ?_
      refine aw_gzF 0 dX7_tell_59 fl_RX7_7 (by assumption) rfl rfl (by assumption) ?_
      refine aw_sipush dX7_tell_62 (by decide) ⟨by decide, by decide⟩ ?_
      refine aw_iload_n dX7_tell_65 rfl rfl ?_
      refine aw_iast dX7_tell_66 (by assumption) (by omega) (by omega) ?_
      generalize hM2 : az_up (az_up (az_up M1 (m + 1) 742 s) (m + 1) 743 f) (m + 1) 744 l = M2
      have o2 : ∀ b, b ≠ m + 1 → M2 b = M b := fun b hb => by rw [← hM2, up_oth _ _ _ hb, up_oth _ _ _ hb, up_oth _ _ _ hb, ho b hb]
      have f2 : ∀ i, M2 (m + 1) i = if i = 744 then l else if i = 743 then f else if i = 742 then s else M1 (m + 1) i := by
        intro i
        rw [← hM2, up_row, up_row, up_row]
      have v74 : M2 (m + 1) 741 = M (m + 1) 741 := by rw [f2, if_neg (by omega), if_neg (by omega), if_neg (by omega), hM, if_neg (by omega)]
      have val : ∀ i, i ≠ 741 → M2 (m + 1) i = tellF (M (m + 1)) s f l i := by
        intro i hi
        rw [f2, hM]
        unfold tellF
        by_cases e4 : i = 744
        · rw [if_pos e4, if_neg (by omega), if_neg (by omega), if_pos e4]
        · rw [if_neg e4]
          by_cases e3 : i = 743
          · rw [if_pos e3, if_neg (by omega), if_pos e3]
          · rw [if_neg e3]
            by_cases e2 : i = 742
            · rw [if_pos e2, if_pos e2]
            · rw [if_neg e2, if_neg e2, if_neg e3, if_neg e4]
              by_cases e5 : 745 ≤ i ∧ i < 790
              · rw [if_pos (by omega), if_pos e5]
              · rw [if_neg (by omega), if_neg e5, if_neg hi]
      have v741 : tellF (M (m + 1)) s f l 741 = if M (m + 1) 741 < 16 then M (m + 1) 741 + 1 else M (m + 1) 741 := by
        unfold tellF
        rw [if_neg (by omega), if_neg (by omega), if_neg (by omega), if_neg (by omega), if_pos rfl]
      refine aw_rM (fun hr => ?_)
      have hin := hr (m + 1) 741
      rw [v74] at hin
      have hin1 := hin.1
      refine aw_aload_n dX7_tell_67 rfl rfl ⟨by decide, by decide⟩ ?_
      refine aw_gzF 0 dX7_tell_68 fl_RX7_7 (by assumption) rfl rfl (by assumption) ?_
      refine aw_sipush dX7_tell_71 (by decide) ⟨by decide, by decide⟩ ?_
      refine aw_iv dX7_tell_74 (by assumption) (by omega) (by omega) v74 ?_
      refine aw_bipush dX7_tell_75 (by decide) ⟨by decide, by decide⟩ ?_
      refine aw_icmp_ge (tgt := 92) dX7_tell_77 rfl (fun h77 => ?_) (fun h77 => ?_)
      · refine aw_vret dX7_tell_92 (by decide) (by decide) ⟨rfl, rfl, fun i => ?_, o2⟩
        by_cases e : i = 741
        · rw [e, v74, v741, if_neg (by omega)]
        · exact val i e
      · refine aw_aload_n dX7_tell_80 rfl rfl ⟨by decide, by decide⟩ ?_
        refine aw_gzF 0 dX7_tell_81 fl_RX7_7 (by assumption) rfl rfl (by assumption) ?_
        refine aw_sipush dX7_tell_84 (by decide) ⟨by decide, by decide⟩ ?_
        refine aw_dup2 dX7_tell_87 ?_
        refine aw_iv dX7_tell_88 (by assumption) (by omega) (by omega) v74 ?_
        refine aw_iconst dX7_tell_89 rfl ⟨by decide, by decide⟩ ?_
        refine aw_iadd dX7_tell_90 (az_wr_id (by omega) (by omega)) ?_
        refine aw_iast dX7_tell_91 (by assumption) (by omega) (by omega) ?_
        refine aw_vret dX7_tell_92 (by decide) (by decide) ⟨rfl, rfl, fun i => ?_, fun b hb => by rw [up_oth _ _ _ hb, o2 b hb]⟩
        by_cases e : i = 741
        · rw [e, az_up_s, v741, if_pos (by omega)]
        · rw [az_up_i _ _ _ _ e]; exact val i e
    | succ d ih =>
      intro k M1 hk hd hM ho
      have v32 : M1 (m + 1) (742 + k - 3) = M (m + 1) (742 + k - 3) := by rw [hM, if_neg (by omega)]
      refine aw_iload dX7_tell_4 rfl ?_
      refine aw_iconst dX7_tell_6 rfl ⟨by decide, by decide⟩ ?_
      refine aw_icmp_lt (tgt := 40) dX7_tell_7 rfl (fun h7 => absurd h7 (by omega)) (fun h7 => ?_)
      refine aw_aload_n dX7_tell_10 rfl rfl ⟨by decide, by decide⟩ ?_
      refine aw_gzF 0 dX7_tell_11 fl_RX7_7 (by assumption) rfl rfl (by assumption) ?_
      refine aw_sipush dX7_tell_14 (by decide) ⟨by decide, by decide⟩ ?_
      refine aw_iload dX7_tell_17 rfl ?_
      refine aw_iadd dX7_tell_19 (az_wr_id (by omega) (by omega)) ?_
      refine aw_aload_n dX7_tell_20 rfl rfl ⟨by decide, by decide⟩ ?_
      refine aw_gzF 0 dX7_tell_21 fl_RX7_7 (by assumption) rfl rfl (by assumption) ?_
      refine aw_sipush dX7_tell_24 (by decide) ⟨by decide, by decide⟩ ?_
      refine aw_iload dX7_tell_27 rfl ?_
      refine aw_iadd dX7_tell_29 (az_wr_id (by omega) (by omega)) ?_
      refine aw_iconst dX7_tell_30 rfl ⟨by decide, by decide⟩ ?_
      refine aw_isub dX7_tell_31 (az_wr_id (by omega) (by omega)) ?_
      refine aw_iv dX7_tell_32 (by assumption) (by omega) (by omega) v32 ?_
      refine aw_iast dX7_tell_33 (by assumption) (by omega) (by omega) ?_
      refine aw_iinc dX7_tell_34 rfl (az_wr_id (by omega) (by omega)) (by decide) ?_
      refine aw_goto (tgt := 4) dX7_tell_37 rfl ?_
      refine ih _ _ (by omega) (by omega) (fun i => ?_) (fun b hb => by rw [up_oth _ _ _ hb, ho b hb])
      rw [up_row]
      show (if i = 742 + k then _ else M1 (m + 1) i) = _
      by_cases e : i = 742 + k
      · rw [if_pos e, if_pos (by omega), e]
      · rw [if_neg e, hM]
        by_cases e2 : 742 + k < i ∧ i < 790
        · rw [if_pos e2, if_pos (by omega)]
        · rw [if_neg e2, if_neg (by omega)]
  exact loop 45 47 M (by omega) (by omega) (fun i => by rw [if_neg (by omega)]) (fun _ _ => rfl)
