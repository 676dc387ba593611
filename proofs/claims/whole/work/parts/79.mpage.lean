/-! TreadRingModel: pages -/
set_option maxRecDepth 20000
def nw (s p : Int) : Nat → List Int
  | 0 => []
  | c + 1 => if 2 * (c : Int) % s = 0 then nw s p c ++ [8 * p + c] else nw s p c
def er (s p : Int) (l : List Int) : Nat → List Int
  | 0 => l
  | c + 1 => if s ≠ 0 ∧ 2 * (c : Int) % s = 0 then (er s p l c).erase (8 * p + c) else er s p l c
section PG
variable {g : Int → Int} {rg : Int → List Int} {p s : Int}
theorem mod_pg {s0 : Int} (hs : s0 = 2 ∨ s0 = 4 ∨ s0 = 8) (p c : Int) : 2 * (8 * p + c) % s0 = 2 * c % s0 := by
  rcases hs with rfl | rfl | rfl <;> omega
theorem rzR_eq (hp : w_pg g) (p0 : 0 ≤ p) (p8 : p < 8) (hs : s = 2 ∨ s = 4 ∨ s = 8) (hne : g (707 + p) ≠ s) : ∀ c : Nat, c ≤ 8 → ∀ k, 0 ≤ k → k < 12 → rzR g rg p s c k = if k = s / 4 * 4 then rg k ++ nw s p c else if k = g (707 + p) / 4 * 4 then er (g (707 + p)) p (rg k) c else rg k := by
  have hs0 := (hp.2.2 p p0 p8).1
  intro c
  induction c with
  | zero =>
    intro _ k k0 k1
    show rg k = _
    by_cases e : k = s / 4 * 4
    · rw [if_pos e]; show rg k = rg k ++ []; rw [List.append_nil]
    · rw [if_neg e]
      by_cases e2 : k = g (707 + p) / 4 * 4
      · rw [if_pos e2]; rfl
      · rw [if_neg e2]
  | succ c ih =>
    intro hc k k0 k1
    have ih' := ih (by omega) k k0 k1
    have hpz : pz g (2 * (8 * p + (c : Int))) = g (707 + p) := by unfold pz; rw [show 2 * (8 * p + (c : Int)) / 16 = p by omega]
    have hO : rzO g (8 * p + c) = if g (707 + p) ≠ 0 ∧ 2 * (c : Int) % g (707 + p) = 0 then g (707 + p) / 4 * 4 else 12 := by
      unfold rzO kz
      rw [hpz]
      rcases hs0 with e | e | e | e
      · rw [e]; simp
      · rw [e, mod_pg (Or.inl rfl)]
      · rw [e, mod_pg (Or.inr (Or.inl rfl))]
      · rw [e, mod_pg (Or.inr (Or.inr rfl))]
    have hN : rzN s (8 * p + c) = if 2 * (c : Int) % s = 0 then s / 4 * 4 else 12 := by
      unfold rzN
      rw [mod_pg hs]
    show rmv (rzR g rg p s c) (8 * p + c) (rzO g (8 * p + c)) (rzN s (8 * p + c)) false k = _
    unfold rmv
    rw [ih', hO, hN]
    have hnw : nw s p (c + 1) = if 2 * (c : Int) % s = 0 then nw s p c ++ [8 * p + c] else nw s p c := rfl
    have her : er (g (707 + p)) p (rg k) (c + 1) = if g (707 + p) ≠ 0 ∧ 2 * (c : Int) % g (707 + p) = 0 then (er (g (707 + p)) p (rg k) c).erase (8 * p + c) else er (g (707 + p)) p (rg k) c := rfl
    rw [hnw, her]
    have hkk : s / 4 * 4 ≠ g (707 + p) / 4 * 4 ∨ g (707 + p) = 0 := by omega
    by_cases e : k = s / 4 * 4
    · have h12 : k ≠ 12 := by omega
      have n1 : ¬ k = (if g (707 + p) ≠ 0 ∧ 2 * (c : Int) % g (707 + p) = 0 then g (707 + p) / 4 * 4 else 12) := by
        split
        · omega
        · exact h12
      rw [if_pos e, if_pos e, if_neg n1]
      by_cases e3 : 2 * (c : Int) % s = 0
      · rw [if_pos e3, if_pos e, if_pos e3]
        simp only [Bool.false_eq_true, if_false, List.append_assoc]
      · rw [if_neg e3, if_neg h12, if_neg e3]
    · have n2 : ¬ k = (if 2 * (c : Int) % s = 0 then s / 4 * 4 else 12) := by
        split
        · exact e
        · omega
      rw [if_neg n2, if_neg e, if_neg e]
      by_cases e2 : k = g (707 + p) / 4 * 4
      · rw [if_pos e2, if_pos e2]
        by_cases e3 : g (707 + p) ≠ 0 ∧ 2 * (c : Int) % g (707 + p) = 0
        · rw [if_pos e3, if_pos e2, if_pos e3]
        · rw [if_neg e3, if_neg (by omega), if_neg e3]
      · rw [if_neg e2, if_neg e2]
        rw [if_neg]
        split
        · exact e2
        · omega
theorem nw_step (hs : s = 2 ∨ s = 4 ∨ s = 8) (t : Nat) : nw s p ((t + 1) * (s / 2).toNat) = nw s p (t * (s / 2).toNat) ++ [8 * p + ((t * (s / 2).toNat : Nat) : Int)] := by
  rcases hs with rfl | rfl | rfl
  · show nw 2 p ((t + 1) * 1) = nw 2 p (t * 1) ++ [8 * p + ((t * 1 : Nat) : Int)]
    rw [Nat.mul_one, Nat.mul_one]
    show (if 2 * (t : Int) % 2 = 0 then _ else _) = _
    rw [if_pos (by omega)]
  · show nw 4 p ((t + 1) * 2) = nw 4 p (t * 2) ++ [8 * p + ((t * 2 : Nat) : Int)]
    rw [show (t + 1) * 2 = t * 2 + 1 + 1 by omega]
    show (if 2 * ((t * 2 + 1 : Nat) : Int) % 4 = 0 then _ else (if 2 * ((t * 2 : Nat) : Int) % 4 = 0 then nw 4 p (t * 2) ++ [8 * p + ((t * 2 : Nat) : Int)] else _)) = _
    rw [if_neg (by omega), if_pos (by omega)]
  · show nw 8 p ((t + 1) * 4) = nw 8 p (t * 4) ++ [8 * p + ((t * 4 : Nat) : Int)]
    rw [show (t + 1) * 4 = t * 4 + 1 + 1 + 1 + 1 by omega]
    show (if 2 * ((t * 4 + 1 + 1 + 1 : Nat) : Int) % 8 = 0 then _ else (if 2 * ((t * 4 + 1 + 1 : Nat) : Int) % 8 = 0 then _ else (if 2 * ((t * 4 + 1 : Nat) : Int) % 8 = 0 then _ else (if 2 * ((t * 4 : Nat) : Int) % 8 = 0 then nw 8 p (t * 4) ++ [8 * p + ((t * 4 : Nat) : Int)] else _)))) = _
    rw [if_neg (by omega), if_neg (by omega), if_neg (by omega), if_pos (by omega)]
theorem er_step (hs : s = 2 ∨ s = 4 ∨ s = 8) (l : List Int) (t : Nat) : er s p l ((t + 1) * (s / 2).toNat) = (er s p l (t * (s / 2).toNat)).erase (8 * p + ((t * (s / 2).toNat : Nat) : Int)) := by
  rcases hs with rfl | rfl | rfl
  · show er 2 p l ((t + 1) * 1) = (er 2 p l (t * 1)).erase (8 * p + ((t * 1 : Nat) : Int))
    rw [Nat.mul_one, Nat.mul_one]
    show (if (2 : Int) ≠ 0 ∧ 2 * (t : Int) % 2 = 0 then _ else _) = _
    rw [if_pos (by omega)]
  · show er 4 p l ((t + 1) * 2) = (er 4 p l (t * 2)).erase (8 * p + ((t * 2 : Nat) : Int))
    rw [show (t + 1) * 2 = t * 2 + 1 + 1 by omega]
    show (if (4 : Int) ≠ 0 ∧ 2 * ((t * 2 + 1 : Nat) : Int) % 4 = 0 then _ else (if (4 : Int) ≠ 0 ∧ 2 * ((t * 2 : Nat) : Int) % 4 = 0 then (er 4 p l (t * 2)).erase (8 * p + ((t * 2 : Nat) : Int)) else _)) = _
    rw [if_neg (by omega), if_pos (by omega)]
  · show er 8 p l ((t + 1) * 4) = (er 8 p l (t * 4)).erase (8 * p + ((t * 4 : Nat) : Int))
    rw [show (t + 1) * 4 = t * 4 + 1 + 1 + 1 + 1 by omega]
    show (if (8 : Int) ≠ 0 ∧ 2 * ((t * 4 + 1 + 1 + 1 : Nat) : Int) % 8 = 0 then _ else (if (8 : Int) ≠ 0 ∧ 2 * ((t * 4 + 1 + 1 : Nat) : Int) % 8 = 0 then _ else (if (8 : Int) ≠ 0 ∧ 2 * ((t * 4 + 1 : Nat) : Int) % 8 = 0 then _ else (if (8 : Int) ≠ 0 ∧ 2 * ((t * 4 : Nat) : Int) % 8 = 0 then (er 8 p l (t * 4)).erase (8 * p + ((t * 4 : Nat) : Int)) else _)))) = _
    rw [if_neg (by omega), if_neg (by omega), if_neg (by omega), if_pos (by omega)]
theorem us_zero (hw : WR g rg) (hf : ∀ a, 0 ≤ a → a < 128 → a / 16 = p → g a = 0) : us rg p = 0 := by
  unfold us
  have key : ∀ j ∈ [1, 2, 3, 5, 6, 7, 9, 10, 11], fl rg j p = 0 := by
    intro j hj
    simp only [List.mem_cons, List.mem_nil_iff, or_false] at hj
    unfold fl
    have : (rg j).filter (fun n => n / 8 == p) = [] := by
      rw [List.filter_eq_nil_iff]
      intro n hn hq
      have w := WR_mem hw (k := j) (by omega) (by omega) hn
      have e : n / 8 = p := by simpa using hq
      have := hf (2 * n) (by omega) (by omega) (by omega)
      omega
    rw [this]; rfl
  rw [sumI_congr (f' := fun _ => 0) _ key]
  rfl
end PG
theorem sp_isPageFree {K : az_K} {m : Int} (hK : MaK K m) (M : az_M) {g : Int → Int} {rg : Int → List Int} (hw : WR g rg) (hF : mAll (M (m + 1)) g) (p : Int) (p0 : 0 ≤ p) (p8 : p < 8) (hz : g (707 + p) ≠ 0) : AM yX7_isPageFree cX7_isPageFree 4 (some .boolean) 1 0 0 [(1, m), (0, p)] K M (qp K M (if us rg p = 0 then 1 else 0)) := by
  have hK0 := hK
  obtain ⟨km, k1, zz⟩ := hK
  refine am_of (by decide) (Nat.le_of_ble_eq_true rfl) (L := [(1, m), (0, p), (9, 0), (9, 0)]) rfl ?_
  have v9 : M (m + 1) (707 + p) = g (707 + p) := hF _ (by omega) (by omega) (by omega) (by omega)
  have hs : g (707 + p) = 2 ∨ g (707 + p) = 4 ∨ g (707 + p) = 8 := by
    have := (hw.1.2.2 p p0 p8).1
    omega
  obtain ⟨s, hsd⟩ : ∃ s, s = g (707 + p) := ⟨_, rfl⟩
  rw [← hsd] at v9 hs
  refine aw_aload_n dX7_isPageFree_0 rfl rfl ⟨by decide, by decide⟩ ?_
  refine aw_gzF 0 dX7_isPageFree_1 fl_RX7_7 (by assumption) rfl rfl (by assumption) ?_
  refine aw_sipush dX7_isPageFree_4 (by decide) ⟨by decide, by decide⟩ ?_
  refine aw_iload_n dX7_isPageFree_7 rfl rfl ?_
  refine aw_iadd dX7_isPageFree_8 (az_wr_id (by omega) (by omega)) ?_
  refine aw_iv dX7_isPageFree_9 (by assumption) (by omega) (by omega) v9 ?_
  refine aw_istore_n dX7_isPageFree_10 rfl (by decide) ?_
  refine aw_bipush dX7_isPageFree_11 (by decide) ⟨by decide, by decide⟩ ?_
  refine aw_iload_n dX7_isPageFree_13 rfl rfl ?_
  refine aw_imul dX7_isPageFree_14 (az_wr_id (by omega) (by omega)) ?_
  refine aw_istore_n dX7_isPageFree_15 rfl (by decide) ?_
  have loop : ∀ (d : Nat) (a : Int), 16 * p ≤ a → a + 2 * d = 16 * p + 16 → a % s = 0 → (∀ b, 16 * p ≤ b → b < a → g b = 0) → AW az_P0 (az_Z (qp K M (if us rg p = 0 then 1 else 0)) 0 0) (az_rm 1 0 0) yX7_isPageFree cX7_isPageFree 4 (some .boolean) 0 0 16 [(1, m), (0, p), (0, s), (0, a)] [] K M := by
    intro d
    induction d using Nat.strongRecOn with
    | ind d ih =>
      intro a a0 a1 a2 hb
      by_cases hd : d = 0
      · subst hd
        refine aw_iload_n dX7_isPageFree_16 rfl rfl ?_
        refine aw_bipush dX7_isPageFree_17 (by decide) ⟨by decide, by decide⟩ ?_
        refine aw_iload_n dX7_isPageFree_19 rfl rfl ?_
        refine aw_iconst dX7_isPageFree_20 rfl ⟨by decide, by decide⟩ ?_
        refine aw_iadd dX7_isPageFree_21 (az_wr_id (by omega) (by omega)) ?_
        refine aw_imul dX7_isPageFree_22 (az_wr_id (by omega) (by omega)) ?_
        refine aw_icmp_ge (tgt := 43) dX7_isPageFree_23 rfl (fun h23 => ?_) (fun h23 => absurd h23 (by omega))
        refine aw_iconst dX7_isPageFree_43 rfl ⟨by decide, by decide⟩ ?_
        refine aw_zret dX7_isPageFree_44 (by omega) (by decide) (by decide) (qp_i ?_)
        rw [if_pos (us_zero hw (fun b b0 b1 b2 => hb b (by omega) (by omega)))]
      · have hv : M (m + 1) a = g a := hF a (by omega) (by omega) (by omega) (by omega)
        refine aw_iload_n dX7_isPageFree_16 rfl rfl ?_
        refine aw_bipush dX7_isPageFree_17 (by decide) ⟨by decide, by decide⟩ ?_
        refine aw_iload_n dX7_isPageFree_19 rfl rfl ?_
        refine aw_iconst dX7_isPageFree_20 rfl ⟨by decide, by decide⟩ ?_
        refine aw_iadd dX7_isPageFree_21 (az_wr_id (by omega) (by omega)) ?_
        refine aw_imul dX7_isPageFree_22 (az_wr_id (by omega) (by omega)) ?_
        refine aw_icmp_ge (tgt := 43) dX7_isPageFree_23 rfl (fun h23 => absurd h23 (by omega)) (fun h23 => ?_)
        refine aw_aload_n dX7_isPageFree_26 rfl rfl ⟨by decide, by decide⟩ ?_
        refine aw_iload_n dX7_isPageFree_27 rfl rfl ?_
        refine aw_cV1p dX7_isPageFree_28 ml_RX7_106 (by assumption) (by decide) rfl rfl ⟨by decide, by decide, by decide, by decide⟩ (Nat.le_of_ble_eq_true rfl) (qp_c (sp_colourOf hK0 M a (by omega) (by omega)) hv) ?_
        refine aw_if_eq (tgt := 36) dX7_isPageFree_31 rfl (fun h31 => ?_) (fun h31 => ?_)
        · refine aw_iload_n dX7_isPageFree_36 rfl rfl ?_
          refine aw_iload_n dX7_isPageFree_37 rfl rfl ?_
          refine aw_iadd dX7_isPageFree_38 (az_wr_id (by omega) (by omega)) ?_
          refine aw_istore_n dX7_isPageFree_39 rfl (by decide) ?_
          refine aw_goto (tgt := 16) dX7_isPageFree_40 rfl ?_
          refine ih (d - (s / 2).toNat) (by omega) (a + s) (by omega) (by rcases hs with e | e | e <;> rw [e] at a2 ⊢ <;> simp <;> omega) (by rcases hs with e | e | e <;> rw [e] at a2 ⊢ <;> omega) (fun b b0 b1 => ?_)
          by_cases q : b < a
          · exact hb b b0 q
          · by_cases q2 : b = a
            · rw [q2]; exact h31
            · have hb8 : b < 128 := by rcases hs with e | e | e <;> rw [e] at a2 b1 <;> omega
              refine (hw.2.1 b (by omega) hb8).2.2 (fun w => ?_)
              have hpz : pz g b = s := by unfold pz; rw [hsd, show b / 16 = p by rcases hs with e | e | e <;> rw [e] at a2 b1 <;> omega]
              have h3 := w.2.2.2
              rw [hpz] at h3
              rcases hs with e | e | e <;> rw [e] at a2 b1 h3 <;> omega
        · refine aw_iconst dX7_isPageFree_34 rfl ⟨by decide, by decide⟩ ?_
          refine aw_zret dX7_isPageFree_35 (by omega) (by decide) (by decide) (qp_i ?_)
          rw [if_neg]
          intro hu
          exact h31 (us_free hw p0 p8 hu a (by omega) (by omega) (by omega))
  exact loop 8 (16 * p) (by omega) (by omega) (by rcases hs with e | e | e <;> rw [e] <;> omega) (fun b b0 b1 => by omega)
