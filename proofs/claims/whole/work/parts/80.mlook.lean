/-! TreadRingModel: giveUp, takePage, look -/
set_option maxRecDepth 20000
def rLx (l : List Int) (rg : Int → List Int) (k : Int) : List Int := (l ++ (rg (k + 1) ++ (rg (k + 2) ++ rg (k + 3)))).map (fun n => 2 * n)
theorem rLx_eq (rg : Int → List Int) (k : Int) : rL rg k = rLx (rg k) rg k := by
  rw [rL_eq]
  unfold rLx
  rw [List.map_append, List.map_append, List.map_append]
section PL
variable {g : Int → Int} {rg : Int → List Int} {p s : Int}
theorem er_st (hs : s = 2 ∨ s = 4 ∨ s = 8) (l : List Int) (c : Nat) (hc : 2 * (c : Int) % s = 0) : er s p l (c + (s / 2).toNat) = (er s p l c).erase (8 * p + (c : Int)) := by
  rcases hs with rfl | rfl | rfl
  · show (if (2 : Int) ≠ 0 ∧ 2 * (c : Int) % 2 = 0 then _ else _) = _
    rw [if_pos (by omega)]
  · show (if (4 : Int) ≠ 0 ∧ 2 * ((c + 1 : Nat) : Int) % 4 = 0 then _ else (if (4 : Int) ≠ 0 ∧ 2 * (c : Int) % 4 = 0 then (er 4 p l c).erase (8 * p + (c : Int)) else _)) = _
    rw [if_neg (by omega), if_pos (by omega)]
  · show (if (8 : Int) ≠ 0 ∧ 2 * ((c + 1 + 1 + 1 : Nat) : Int) % 8 = 0 then _ else (if (8 : Int) ≠ 0 ∧ 2 * ((c + 1 + 1 : Nat) : Int) % 8 = 0 then _ else (if (8 : Int) ≠ 0 ∧ 2 * ((c + 1 : Nat) : Int) % 8 = 0 then _ else (if (8 : Int) ≠ 0 ∧ 2 * (c : Int) % 8 = 0 then (er 8 p l c).erase (8 * p + (c : Int)) else _)))) = _
    rw [if_neg (by omega), if_neg (by omega), if_neg (by omega), if_pos (by omega)]
theorem nw_st (hs : s = 2 ∨ s = 4 ∨ s = 8) (c : Nat) (hc : 2 * (c : Int) % s = 0) : nw s p (c + (s / 2).toNat) = nw s p c ++ [8 * p + (c : Int)] := by
  rcases hs with rfl | rfl | rfl
  · show (if 2 * (c : Int) % 2 = 0 then _ else _) = _
    rw [if_pos (by omega)]
  · show (if 2 * ((c + 1 : Nat) : Int) % 4 = 0 then _ else (if 2 * (c : Int) % 4 = 0 then nw 4 p c ++ [8 * p + (c : Int)] else _)) = _
    rw [if_neg (by omega), if_pos (by omega)]
  · show (if 2 * ((c + 1 + 1 + 1 : Nat) : Int) % 8 = 0 then _ else (if 2 * ((c + 1 + 1 : Nat) : Int) % 8 = 0 then _ else (if 2 * ((c + 1 : Nat) : Int) % 8 = 0 then _ else (if 2 * (c : Int) % 8 = 0 then nw 8 p c ++ [8 * p + (c : Int)] else _)))) = _
    rw [if_neg (by omega), if_neg (by omega), if_neg (by omega), if_pos (by omega)]
theorem nw_mono (s p : Int) (c e : Nat) : (nw s p c).length ≤ (nw s p (c + e)).length := by
  induction e with
  | zero => exact Nat.le_refl _
  | succ e ih =>
    refine Nat.le_trans ih ?_
    show _ ≤ (if 2 * ((c + e : Nat) : Int) % s = 0 then nw s p (c + e) ++ [8 * p + ((c + e : Nat) : Int)] else nw s p (c + e)).length
    split
    · rw [List.length_append]; omega
    · exact Nat.le_refl _
theorem nw_lt (c : Nat) (hc : 2 * (c : Int) % s = 0) (h8 : c < 8) : (nw s p c).length + 1 ≤ (nw s p 8).length := by
  have h := nw_mono s p (c + 1) (8 - (c + 1))
  rw [show c + 1 + (8 - (c + 1)) = 8 by omega] at h
  have e : nw s p (c + 1) = nw s p c ++ [8 * p + (c : Int)] := by
    show (if 2 * (c : Int) % s = 0 then _ else _) = _
    rw [if_pos hc]
  rw [e, List.length_append, List.length_singleton] at h
  exact h
theorem nw_mem (c : Nat) : ∀ n ∈ nw s p c, 8 * p ≤ n ∧ n < 8 * p + c := by
  induction c with
  | zero => intro n hn; cases hn
  | succ c ih =>
    intro n hn
    have hn2 : n ∈ if 2 * (c : Int) % s = 0 then nw s p c ++ [8 * p + (c : Int)] else nw s p c := hn
    split at hn2
    · rcases List.mem_append.mp hn2 with h | h
      · have := ih n h; omega
      · have := List.mem_singleton.mp h; omega
    · have := ih n hn2; omega
theorem er_mem (hl : rg 0 = rg 0) {l : List Int} (hn : l.Nodup) (c : Nat) : (er s p l c).Nodup ∧ ∀ n, n ∈ er s p l c ↔ n ∈ l ∧ ¬ (8 * p ≤ n ∧ n < 8 * p + c ∧ s ≠ 0 ∧ 2 * (n - 8 * p) % s = 0) := by
  induction c with
  | zero => exact ⟨hn, fun n => ⟨fun h => ⟨h, by omega⟩, fun h => h.1⟩⟩
  | succ c ih =>
    have he : er s p l (c + 1) = if s ≠ 0 ∧ 2 * (c : Int) % s = 0 then (er s p l c).erase (8 * p + c) else er s p l c := rfl
    rw [he]
    by_cases e : s ≠ 0 ∧ 2 * (c : Int) % s = 0
    · rw [if_pos e]
      refine ⟨ih.1.erase _, fun n => ?_⟩
      rw [ih.1.mem_erase_iff, ih.2]
      constructor
      · rintro ⟨a, b, d⟩
        refine ⟨b, fun q => d ⟨q.1, by omega, q.2.2⟩⟩
      · rintro ⟨b, d⟩
        refine ⟨fun q => d ⟨by omega, by omega, e.1, ?_⟩, b, fun q => d ⟨q.1, by omega, q.2.2⟩⟩
        rw [q, show 8 * p + (c : Int) - 8 * p = c by omega]; exact e.2
    · rw [if_neg e]
      refine ⟨ih.1, fun n => ?_⟩
      rw [ih.2]
      constructor
      · rintro ⟨b, d⟩
        refine ⟨b, fun q => ?_⟩
        by_cases h : n = 8 * p + c
        · refine e ⟨q.2.2.1, ?_⟩
          have := q.2.2.2
          rw [h, show 8 * p + (c : Int) - 8 * p = c by omega] at this
          exact this
        · exact d ⟨q.1, by omega, q.2.2⟩
      · rintro ⟨b, d⟩
        exact ⟨b, fun q => d ⟨q.1, by omega, q.2.2⟩⟩
theorem er_0 (l : List Int) (c : Nat) : er 0 p l c = l := by
  induction c with
  | zero => rfl
  | succ c ih =>
    show (if (0 : Int) ≠ 0 ∧ 2 * (c : Int) % 0 = 0 then _ else er 0 p l c) = l
    rw [if_neg (by omega), ih]
theorem rLx_erase (l : List Int) (k : Int) {n : Int} (h : n ∈ l) : (rLx l rg k).erase (2 * n) = rLx (l.erase n) rg k := by
  unfold rLx
  rw [erase_map, List.erase_append_left _ h]
theorem rLx_mem (l : List Int) (k : Int) {n : Int} (h : n ∈ l) : 2 * n ∈ rLx l rg k := List.mem_map.mpr ⟨n, List.mem_append_left _ h, rfl⟩
/-- the rings behind a page's change -/
theorem res_ring (hp : w_pg g) (p0 : 0 ≤ p) (p8 : p < 8) (hs : s = 2 ∨ s = 4 ∨ s = 8) (hne : g (707 + p) ≠ s) {z : Int} (z0 : 0 ≤ z) (z1 : z < 3) : rL (rzR g rg p s 8) (4 * z) = if 4 * z = s / 4 * 4 then rLx (rg (4 * z) ++ nw s p 8) rg (4 * z) else if 4 * z = g (707 + p) / 4 * 4 then rLx (er (g (707 + p)) p (rg (4 * z)) 8) rg (4 * z) else rL rg (4 * z) := by
  have h0 := rzR_eq (rg := rg) hp p0 p8 hs hne 8 (by omega) (4 * z) (by omega) (by omega)
  have h1 := rzR_eq (rg := rg) hp p0 p8 hs hne 8 (by omega) (4 * z + 1) (by omega) (by omega)
  have h2 := rzR_eq (rg := rg) hp p0 p8 hs hne 8 (by omega) (4 * z + 2) (by omega) (by omega)
  have h3 := rzR_eq (rg := rg) hp p0 p8 hs hne 8 (by omega) (4 * z + 3) (by omega) (by omega)
  rw [if_neg (by omega), if_neg (by omega)] at h1 h2 h3
  rw [rLx_eq (rzR g rg p s 8)]
  unfold rLx
  rw [h1, h2, h3, h0, rLx_eq]
  unfold rLx
  split
  · rfl
  · split <;> rfl
theorem eN_res (hp : w_pg g) (p0 : 0 ≤ p) (p8 : p < 8) (hs : s = 2 ∨ s = 4 ∨ s = 8) (hne : g (707 + p) ≠ s) : eN (rzR g rg p s 8) = eN rg := by
  unfold eN
  rw [rzR_eq (rg := rg) hp p0 p8 hs hne 8 (by omega) 1 (by omega) (by omega), rzR_eq (rg := rg) hp p0 p8 hs hne 8 (by omega) 5 (by omega) (by omega), rzR_eq (rg := rg) hp p0 p8 hs hne 8 (by omega) 9 (by omega) (by omega)]
  rw [if_neg (by omega), if_neg (by omega), if_neg (by omega), if_neg (by omega), if_neg (by omega), if_neg (by omega)]
end PL
theorem fp_no (q : Int → Bool) : ∀ (k : Nat) (i : Int), 0 ≤ i → fp q k i = -1 → ∀ j, i ≤ j → j < i + k → q j ≠ true := by
  intro k
  induction k with
  | zero => intro i _ _ j h1 h2; omega
  | succ k ih =>
    intro i i0 h j h1 h2 hq
    have h' : (if q i = true then i else fp q k (i + 1)) = -1 := h
    by_cases e : q i = true
    · rw [if_pos e] at h'; omega
    · rw [if_neg e] at h'
      by_cases hj : j = i
      · rw [hj] at hq; exact e hq
      · exact ih (i + 1) (by omega) h' j (by omega) (by omega) hq
theorem sp_giveUp {K : az_K} {m : Int} (hK : MaK K m) (M : az_M) {g : Int → Int} {rg : Int → List Int} (hw : WR g rg) (hF : mAll (M (m + 1)) g) (p : Int) (p0 : 0 ≤ p) (p8 : p < 8) (hs : g (707 + p) = 2 ∨ g (707 + p) = 4 ∨ g (707 + p) = 8) (hf : ∀ a, 0 ≤ a → a < 128 → a / 16 = p → g a = 0) (z : Int) (hz : g (707 + p) / 4 * 4 = 4 * z) (hR : mRing (M (m + 1)) z (rL rg (4 * z))) : AM yX7_giveUp cX7_giveUp 4 none 2 0 0 [(1, m), (0, p)] K M (qv K (fun M' => mRing (M' (m + 1)) z (rLx (er (g (707 + p)) p (rg (4 * z)) 8) rg (4 * z)) ∧ hop (M (m + 1)) (M' (m + 1)) z ∧ ∀ b, b ≠ m + 1 → M' b = M b)) := by
  have hK0 := hK
  obtain ⟨km, k1, zz⟩ := hK
  refine am_of (by decide) (Nat.le_of_ble_eq_true rfl) (L := [(1, m), (0, p), (9, 0), (9, 0)]) rfl ?_
  have v9 : M (m + 1) (707 + p) = g (707 + p) := hF _ (by omega) (by omega) (by omega) (by omega)
  have hpz : ∀ n : Int, 8 * p ≤ n → n < 8 * p + 8 → pz g (2 * n) = g (707 + p) := fun n n0 n1 => by unfold pz; rw [show 2 * n / 16 = p by omega]
  obtain ⟨s, hsd⟩ : ∃ s, s = g (707 + p) := ⟨_, rfl⟩
  rw [← hsd] at v9 hs hz hpz ⊢
  have zn0 : 0 ≤ z := by omega
  have zn3 : z < 3 := by omega
  have hkk : 4 * z = 0 ∨ 4 * z = 4 ∨ 4 * z = 8 := by omega
  have hlen := rL_len hw hkk
  have hnd := (hw.2.2 (4 * z) (by omega) (by omega)).1
  have hzr : (if s = 2 then (0 : Int) else if s = 4 then 1 else 2) = z := by
    rcases hs with e | e | e <;> rw [e] at hz ⊢ <;> simp <;> omega
  refine aw_aload_n dX7_giveUp_0 rfl rfl ⟨by decide, by decide⟩ ?_
  refine aw_gzF 0 dX7_giveUp_1 fl_RX7_7 (by assumption) rfl rfl (by assumption) ?_
  refine aw_sipush dX7_giveUp_4 (by decide) ⟨by decide, by decide⟩ ?_
  refine aw_iload_n dX7_giveUp_7 rfl rfl ?_
  refine aw_iadd dX7_giveUp_8 (az_wr_id (by omega) (by omega)) ?_
  refine aw_iv dX7_giveUp_9 (by assumption) (by omega) (by omega) v9 ?_
  refine aw_istore_n dX7_giveUp_10 rfl (by decide) ?_
  refine aw_bipush dX7_giveUp_11 (by decide) ⟨by decide, by decide⟩ ?_
  refine aw_iload_n dX7_giveUp_13 rfl rfl ?_
  refine aw_imul dX7_giveUp_14 (az_wr_id (by omega) (by omega)) ?_
  refine aw_istore_n dX7_giveUp_15 rfl (by decide) ?_
  have loop : ∀ (d c : Nat) (M1 : az_M), c + d = 8 → 2 * (c : Int) % s = 0 → mRing (M1 (m + 1)) z (rLx (er s p (rg (4 * z)) c) rg (4 * z)) → (rLx (er s p (rg (4 * z)) c) rg (4 * z)).length ≤ 64 → hop (M (m + 1)) (M1 (m + 1)) z → (∀ b, b ≠ m + 1 → M1 b = M b) → AW az_P0 (az_Z (qv K (fun M' => mRing (M' (m + 1)) z (rLx (er s p (rg (4 * z)) 8) rg (4 * z)) ∧ hop (M (m + 1)) (M' (m + 1)) z ∧ ∀ b, b ≠ m + 1 → M' b = M b)) 0 0) (az_rm 2 0 0) yX7_giveUp cX7_giveUp 4 none 0 0 16 [(1, m), (0, p), (0, s), (0, 2 * (8 * p + (c : Int)))] [] K M1 := by
    intro d
    induction d using Nat.strongRecOn with
    | ind d ih =>
      intro c M1 hcd hc hr hl hh ho
      by_cases hd : d = 0
      · have hc8 : c = 8 := by omega
        subst hc8
        refine aw_iload_n dX7_giveUp_16 rfl rfl ?_
        refine aw_bipush dX7_giveUp_17 (by decide) ⟨by decide, by decide⟩ ?_
        refine aw_iload_n dX7_giveUp_19 rfl rfl ?_
        refine aw_iconst dX7_giveUp_20 rfl ⟨by decide, by decide⟩ ?_
        refine aw_iadd dX7_giveUp_21 (az_wr_id (by omega) (by omega)) ?_
        refine aw_imul dX7_giveUp_22 (az_wr_id (by omega) (by omega)) ?_
        refine aw_icmp_ge (tgt := 42) dX7_giveUp_23 rfl (fun h23 => ?_) (fun h23 => absurd h23 (by omega))
        exact aw_vret dX7_giveUp_42 (by decide) (by decide) ⟨rfl, rfl, hr, hh, ho⟩
      · have hn : 8 * p + (c : Int) ∈ er s p (rg (4 * z)) c := by
          refine ((er_mem (rg := rg) rfl hnd c).2 _).mpr ⟨((hw.2.2 (4 * z) (by omega) (by omega)).2 _).mpr ⟨by omega, by omega, ?_, ?_⟩, by omega⟩
          · refine ⟨by omega, by omega, ?_, ?_⟩
            · rw [hpz _ (by omega) (by omega)]; omega
            · rw [hpz _ (by omega) (by omega)]
              rcases hs with e | e | e <;> rw [e] at hc ⊢ <;> omega
          · unfold kz
            rw [hpz _ (by omega) (by omega), hf _ (by omega) (by omega) (by omega)]
            omega
        have hm := rLx_mem (rg := rg) (er s p (rg (4 * z)) c) (4 * z) hn
        have hch : c + (s / 2).toNat ≤ 8 := by rcases hs with e | e | e <;> rw [e] at hc ⊢ <;> simp <;> omega
        have hlt := sp_takeOut hK0 M1 z (2 * (8 * p + (c : Int))) zn0 zn3 _ hr hl hm
        rw [rLx_erase _ _ hn, ← er_st hs _ c hc] at hlt
        refine aw_iload_n dX7_giveUp_16 rfl rfl ?_
        refine aw_bipush dX7_giveUp_17 (by decide) ⟨by decide, by decide⟩ ?_
        refine aw_iload_n dX7_giveUp_19 rfl rfl ?_
        refine aw_iconst dX7_giveUp_20 rfl ⟨by decide, by decide⟩ ?_
        refine aw_iadd dX7_giveUp_21 (az_wr_id (by omega) (by omega)) ?_
        refine aw_imul dX7_giveUp_22 (az_wr_id (by omega) (by omega)) ?_
        refine aw_icmp_ge (tgt := 42) dX7_giveUp_23 rfl (fun h23 => absurd h23 (by omega)) (fun h23 => ?_)
        refine aw_aload_n dX7_giveUp_26 rfl rfl ⟨by decide, by decide⟩ ?_
        refine aw_iload_n dX7_giveUp_27 rfl rfl ?_
        refine aw_cS1p dX7_giveUp_28 ml_RX7_125 ⟨by decide, by decide, by decide, by decide⟩ (Nat.le_of_ble_eq_true rfl) (qp_c (sp_ringOf K M1 s) hzr) ?_
        refine aw_iload_n dX7_giveUp_31 rfl rfl ?_
        refine aw_cV2v dX7_giveUp_32 ml_RX7_128 (by assumption) (by decide) rfl rfl ⟨by decide, by decide, by decide, by decide⟩ (Nat.le_of_ble_eq_true rfl) (hlt) (fun M2 hM2 => ?_)
        obtain ⟨t1, t2, t3⟩ := hM2
        refine aw_iload_n dX7_giveUp_35 rfl rfl ?_
        refine aw_iload_n dX7_giveUp_36 rfl rfl ?_
        refine aw_iadd dX7_giveUp_37 (az_wr_id (by omega) (by omega)) ?_
        refine aw_istore_n dX7_giveUp_38 rfl (by decide) ?_
        refine aw_goto (tgt := 16) dX7_giveUp_39 rfl ?_
        have hl2 : (rLx (er s p (rg (4 * z)) (c + (s / 2).toNat)) rg (4 * z)).length ≤ 64 := by
          rw [er_st hs _ c hc, ← rLx_erase _ _ hn, List.length_erase_of_mem hm]; omega
        have hih := ih (d - (s / 2).toNat) (by rcases hs with e | e | e <;> rw [e] <;> simp <;> omega) (c + (s / 2).toNat) M2 (by omega) (by rcases hs with e | e | e <;> rw [e] at hc ⊢ <;> simp <;> omega) t1 hl2 (fun i i0 i1 => (t2 i i0 i1).trans (hh i i0 i1)) (fun b hb => (t3 b hb).trans (ho b hb))
        have ha : 2 * (8 * p + (c : Int)) + s = 2 * (8 * p + ((c + (s / 2).toNat : Nat) : Int)) := by rcases hs with e | e | e <;> rw [e] <;> simp <;> omega
        rw [← ha] at hih
        exact hih
  have h0 := loop 8 0 M (by omega) (by simp) (by show mRing _ _ (rLx (rg (4 * z)) rg (4 * z)); rw [← rLx_eq]; exact hR) (by show (rLx (rg (4 * z)) rg (4 * z)).length ≤ 64; rw [← rLx_eq]; exact hlen) (fun _ _ _ => rfl) (fun _ _ => rfl)
  have ha : 2 * (8 * p + ((0 : Nat) : Int)) = 16 * p := by omega
  rw [ha] at h0
  exact h0
