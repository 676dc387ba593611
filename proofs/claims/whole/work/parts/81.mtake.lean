/-! TreadRingModel: takePage, look -/
set_option maxRecDepth 20000
theorem sp_takePage {K : az_K} {m : Int} (hK : MaK K m) (M : az_M) {g : Int → Int} {rg : Int → List Int} (hw : WR g rg) (hF : mAll (M (m + 1)) g) (p s : Int) (p0 : 0 ≤ p) (p8 : p < 8) (hs : s = 2 ∨ s = 4 ∨ s = 8) (hf : ∀ a, 0 ≤ a → a < 128 → a / 16 = p → g a = 0) (z : Int) (hz : s / 4 * 4 = 4 * z) (hR : mRing (M (m + 1)) z (rL rg (4 * z))) (hlen : (rLx (rg (4 * z) ++ nw s p 8) rg (4 * z)).length ≤ 64) : AM yX7_takePage cX7_takePage 5 none 2 0 0 [(1, m), (0, p), (0, s)] K M (qv K (fun M' => mAll (M' (m + 1)) (rzG g p s) ∧ mRing (M' (m + 1)) z (rLx (rg (4 * z) ++ nw s p 8) rg (4 * z)) ∧ (∀ i, 384 ≤ i → i < 707 → i < 512 + 64 * z ∨ 576 + 64 * z ≤ i → i ≠ 704 + z → M' (m + 1) i = M (m + 1) i) ∧ M' (m + 1) 739 = M (m + 1) 739 ∧ ∀ b, b ≠ m + 1 → M' b = M b)) := by
  have hK0 := hK
  obtain ⟨km, k1, zz⟩ := hK
  refine am_of (by decide) (Nat.le_of_ble_eq_true rfl) (L := [(1, m), (0, p), (0, s), (9, 0), (9, 0)]) rfl ?_
  have zn0 : 0 ≤ z := by omega
  have zn3 : z < 3 := by omega
  have hkk : 4 * z = 0 ∨ 4 * z = 4 ∨ 4 * z = 8 := by omega
  have hzr : (if s = 2 then (0 : Int) else if s = 4 then 1 else 2) = z := by
    rcases hs with e | e | e <;> rw [e] at hz ⊢ <;> simp <;> omega
  have hll : ∀ c : Nat, (rLx (rg (4 * z) ++ nw s p c) rg (4 * z)).length = (rg (4 * z)).length + (nw s p c).length + ((rg (4 * z + 1)).length + ((rg (4 * z + 2)).length + (rg (4 * z + 3)).length)) := by
    intro c
    unfold rLx
    rw [List.length_map, List.length_append, List.length_append, List.length_append, List.length_append]
  rw [hll] at hlen
  generalize hQ : (fun M' : az_M => mAll (M' (m + 1)) (rzG g p s) ∧ mRing (M' (m + 1)) z (rLx (rg (4 * z) ++ nw s p 8) rg (4 * z)) ∧ (∀ i, 384 ≤ i → i < 707 → i < 512 + 64 * z ∨ 576 + 64 * z ≤ i → i ≠ 704 + z → M' (m + 1) i = M (m + 1) i) ∧ M' (m + 1) 739 = M (m + 1) 739 ∧ ∀ b, b ≠ m + 1 → M' b = M b) = Q
  refine aw_aload_n dX7_takePage_0 rfl rfl ⟨by decide, by decide⟩ ?_
  refine aw_gzF 0 dX7_takePage_1 fl_RX7_7 (by assumption) rfl rfl (by assumption) ?_
  refine aw_sipush dX7_takePage_4 (by decide) ⟨by decide, by decide⟩ ?_
  refine aw_iload_n dX7_takePage_7 rfl rfl ?_
  refine aw_iadd dX7_takePage_8 (az_wr_id (by omega) (by omega)) ?_
  refine aw_iload_n dX7_takePage_9 rfl rfl ?_
  refine aw_iast dX7_takePage_10 (by assumption) (by omega) (by omega) ?_
  refine aw_iload_n dX7_takePage_11 rfl rfl ?_
  refine aw_cS1p dX7_takePage_12 ml_RX7_125 ⟨by decide, by decide, by decide, by decide⟩ (Nat.le_of_ble_eq_true rfl) (qp_c (sp_ringOf K (az_up M (m + 1) (707 + p) s) s) hzr) ?_
  refine aw_istore_n dX7_takePage_15 rfl (by decide) ?_
  refine aw_bipush dX7_takePage_16 (by decide) ⟨by decide, by decide⟩ ?_
  refine aw_iload_n dX7_takePage_18 rfl rfl ?_
  refine aw_imul dX7_takePage_19 (az_wr_id (by omega) (by omega)) ?_
  refine aw_istore dX7_takePage_20 (by decide) ?_
  have loop : ∀ (d c : Nat) (M1 : az_M), c + d = 8 → 2 * (c : Int) % s = 0 → (∀ i, 0 ≤ i → i < 790 → i < 384 ∨ 707 ≤ i → i ≠ 739 → M1 (m + 1) i = if i = 707 + p then s else if 128 + 16 * p ≤ i ∧ i < 128 + 2 * (8 * p + (c : Int)) ∧ (i - 128) % s = 0 then 0 else g i) → mRing (M1 (m + 1)) z (rLx (rg (4 * z) ++ nw s p c) rg (4 * z)) → (∀ i, 384 ≤ i → i < 707 → i < 512 + 64 * z ∨ 576 + 64 * z ≤ i → i ≠ 704 + z → M1 (m + 1) i = M (m + 1) i) → M1 (m + 1) 739 = M (m + 1) 739 → (∀ b, b ≠ m + 1 → M1 b = M b) → AW az_P0 (az_Z (qv K Q) 0 0) (az_rm 2 0 0) yX7_takePage cX7_takePage 5 none 0 0 22 [(1, m), (0, p), (0, s), (0, z), (0, 2 * (8 * p + (c : Int)))] [] K M1 := by
    intro d
    induction d using Nat.strongRecOn with
    | ind d ih =>
      intro c M1 hcd hc hA hr hh hst ho
      by_cases hd : d = 0
      · have hc8 : c = 8 := by omega
        subst hc8
        refine aw_iload dX7_takePage_22 rfl ?_
        refine aw_bipush dX7_takePage_24 (by decide) ⟨by decide, by decide⟩ ?_
        refine aw_iload_n dX7_takePage_26 rfl rfl ?_
        refine aw_iconst dX7_takePage_27 rfl ⟨by decide, by decide⟩ ?_
        refine aw_iadd dX7_takePage_28 (az_wr_id (by omega) (by omega)) ?_
        refine aw_imul dX7_takePage_29 (az_wr_id (by omega) (by omega)) ?_
        refine aw_icmp_ge (tgt := 77) dX7_takePage_30 rfl (fun h30 => ?_) (fun h30 => absurd h30 (by omega))
        refine aw_vret dX7_takePage_77 (by decide) (by decide) ⟨rfl, rfl, ?_⟩
        rw [← hQ]
        refine ⟨fun i i0 i1 i2 i3 => ?_, hr, hh, hst, ho⟩
        rw [hA i i0 i1 i2 i3]
        unfold rzG
        by_cases e : i = 707 + p
        · rw [if_pos e, if_pos e]
        · rw [if_neg e, if_neg e]
          by_cases e2 : 128 + 16 * p ≤ i ∧ i < 144 + 16 * p ∧ (i - 128) % s = 0
          · rw [if_pos e2, if_pos ⟨e2.1, by omega, e2.2.2⟩]
          · rw [if_neg e2, if_neg (fun q => e2 ⟨q.1, by omega, q.2.2⟩)]
      · have hcm : (2 * (8 * p + (c : Int))) % s = 0 := by rcases hs with e | e | e <;> rw [e] at hc ⊢ <;> omega
        have hch : c + (s / 2).toNat ≤ 8 := by rcases hs with e | e | e <;> rw [e] at hc ⊢ <;> simp <;> omega
        refine aw_iload dX7_takePage_22 rfl ?_
        refine aw_bipush dX7_takePage_24 (by decide) ⟨by decide, by decide⟩ ?_
        refine aw_iload_n dX7_takePage_26 rfl rfl ?_
        refine aw_iconst dX7_takePage_27 rfl ⟨by decide, by decide⟩ ?_
        refine aw_iadd dX7_takePage_28 (az_wr_id (by omega) (by omega)) ?_
        refine aw_imul dX7_takePage_29 (az_wr_id (by omega) (by omega)) ?_
        refine aw_icmp_ge (tgt := 77) dX7_takePage_30 rfl (fun h30 => absurd h30 (by omega)) (fun h30 => ?_)
        refine aw_aload_n dX7_takePage_33 rfl rfl ⟨by decide, by decide⟩ ?_
        refine aw_gzF 0 dX7_takePage_34 fl_RX7_7 (by assumption) rfl rfl (by assumption) ?_
        refine aw_iconst dX7_takePage_37 rfl ⟨by decide, by decide⟩ ?_
        refine aw_iload dX7_takePage_38 rfl ?_
        refine aw_iadd dX7_takePage_40 (az_wr_id (by omega) (by omega)) ?_
        refine aw_iconst dX7_takePage_41 rfl ⟨by decide, by decide⟩ ?_
        refine aw_iast dX7_takePage_42 (by assumption) (by omega) (by omega) ?_
        refine aw_aload_n dX7_takePage_43 rfl rfl ⟨by decide, by decide⟩ ?_
        refine aw_gzF 0 dX7_takePage_44 fl_RX7_7 (by assumption) rfl rfl (by assumption) ?_
        refine aw_sipush dX7_takePage_47 (by decide) ⟨by decide, by decide⟩ ?_
        refine aw_iload dX7_takePage_50 rfl ?_
        refine aw_iadd dX7_takePage_52 (az_wr_id (by omega) (by omega)) ?_
        refine aw_iconst dX7_takePage_53 rfl ⟨by decide, by decide⟩ ?_
        refine aw_iast dX7_takePage_54 (by assumption) (by omega) (by omega) ?_
        rw [Int.zero_add]
        generalize hM2 : az_up (az_up M1 (m + 1) (2 * (8 * p + (c : Int))) 0) (m + 1) (128 + 2 * (8 * p + (c : Int))) 0 = M2
        have f2 : ∀ i, M2 (m + 1) i = if i = 128 + 2 * (8 * p + (c : Int)) then 0 else if i = 2 * (8 * p + (c : Int)) then 0 else M1 (m + 1) i := by
          intro i
          rw [← hM2, up_row, up_row]
        have o2 : ∀ b, b ≠ m + 1 → M2 b = M1 b := fun b hb => by rw [← hM2, up_oth _ _ _ hb, up_oth _ _ _ hb]
        have hA2 : ∀ i, 0 ≤ i → i < 790 → i < 384 ∨ 707 ≤ i → i ≠ 739 → M2 (m + 1) i = if i = 707 + p then s else if 128 + 16 * p ≤ i ∧ i < 128 + 2 * (8 * p + (c : Int)) + s ∧ (i - 128) % s = 0 then 0 else g i := by
          intro i i0 i1 i2 i3
          rw [f2]
          by_cases e : i = 128 + 2 * (8 * p + (c : Int))
          · rw [if_pos e, if_neg (by omega), if_pos ⟨by omega, by omega, by rw [e, show 128 + 2 * (8 * p + (c : Int)) - 128 = 2 * (8 * p + (c : Int)) by omega]; exact hcm⟩]
          · rw [if_neg e]
            by_cases e2 : i = 2 * (8 * p + (c : Int))
            · rw [if_pos e2, if_neg (by omega), if_neg (by omega)]
              exact (hf i i0 (by omega) (by omega)).symm
            · rw [if_neg e2, hA i i0 i1 i2 i3]
              by_cases e3 : i = 707 + p
              · rw [if_pos e3, if_pos e3]
              · rw [if_neg e3, if_neg e3]
                by_cases e4 : 128 + 16 * p ≤ i ∧ i < 128 + 2 * (8 * p + (c : Int)) ∧ (i - 128) % s = 0
                · rw [if_pos e4, if_pos ⟨e4.1, by omega, e4.2.2⟩]
                · rw [if_neg e4, if_neg]
                  intro q
                  refine e4 ⟨q.1, ?_, q.2.2⟩
                  have q3 := q.2.2
                  have q2 := q.2.1
                  rcases hs with e5 | e5 | e5 <;> rw [e5] at q3 q2 hcm <;> omega
        have hr2 : mRing (M2 (m + 1)) z (rLx (rg (4 * z) ++ nw s p c) rg (4 * z)) := mRing_eq hr (fun i i0 i1 => by rw [f2, if_neg (by omega), if_neg (by omega)]) zn0 zn3 (by rw [hll]; have := nw_lt (p := p) c hc (by omega); omega)
        have hcol : ∀ x, 0 ≤ x → x < 128 → M2 (m + 1) x = g x := by
          intro x x0 x1
          rw [hA2 x x0 (by omega) (by omega) (by omega), if_neg (by omega), if_neg (by omega)]
        have hla : ∀ x ∈ (rg (4 * z) ++ nw s p c).map (fun n => 2 * n), M2 (m + 1) x < 1 ∧ 0 ≤ x ∧ x < 128 := by
          intro x hx
          rw [List.map_append] at hx
          rcases List.mem_append.mp hx with h | h
          · have q := rL_mem hw hkk (c := 0) (by omega) (by omega) (by rw [Int.add_zero]; exact h)
            rw [hcol x q.1 q.2.1]; omega
          · obtain ⟨n, hn, rfl⟩ := List.mem_map.mp h
            have q := nw_mem c n hn
            show M2 (m + 1) (2 * n) < 1 ∧ _
            rw [hcol _ (by omega) (by omega), hf _ (by omega) (by omega) (by omega)]
            exact ⟨by omega, by omega, by omega⟩
        have hlb : ∀ x ∈ (rg (4 * z + 1) ++ (rg (4 * z + 2) ++ rg (4 * z + 3))).map (fun n => 2 * n), ¬ M2 (m + 1) x < 1 ∧ 0 ≤ x ∧ x < 128 := by
          intro x hx
          rw [List.map_append, List.map_append] at hx
          simp only [List.mem_append] at hx
          rcases hx with h | h | h
          · have q := rL_mem hw hkk (c := 1) (by omega) (by omega) h
            rw [hcol x q.1 q.2.1]; omega
          · have q := rL_mem hw hkk (c := 2) (by omega) (by omega) h
            rw [hcol x q.1 q.2.1]; omega
          · have q := rL_mem hw hkk (c := 3) (by omega) (by omega) h
            rw [hcol x q.1 q.2.1]; omega
        obtain ⟨A, hAd⟩ : ∃ A, A = (rg (4 * z) ++ nw s p c).map (fun n => 2 * n) := ⟨_, rfl⟩
        obtain ⟨B, hBd⟩ : ∃ B, B = (rg (4 * z + 1) ++ (rg (4 * z + 2) ++ rg (4 * z + 3))).map (fun n => 2 * n) := ⟨_, rfl⟩
        have hAB : rLx (rg (4 * z) ++ nw s p c) rg (4 * z) = A ++ B := by unfold rLx; rw [List.map_append, hAd, hBd]
        rw [← hAd] at hla
        rw [← hBd] at hlb
        have hln := hll c
        have hnl := nw_lt (p := p) c hc (by omega)
        have hplc : plc (M2 (m + 1)) (A ++ B) 1 = A.length := by
          rw [plc_app _ _ (fun x hx => (hla x hx).1), plc_ge _ (fun x hx => (hlb x hx).1), Nat.add_zero]
        have hins : ins (A ++ B) A.length (2 * (8 * p + (c : Int))) = rLx (rg (4 * z) ++ nw s p (c + (s / 2).toNat)) rg (4 * z) := by
          unfold ins
          rw [List.take_left' rfl, List.drop_left' rfl, nw_st hs c hc]
          unfold rLx
          rw [← List.append_assoc (rg (4 * z)), List.append_assoc (rg (4 * z) ++ nw s p c), List.map_append, ← hAd, List.map_append, ← hBd]
          rfl
        rw [hAB] at hr2 hln
        have hp1 := sp_placeOf hK0 M2 z 1 zn0 zn3 (A ++ B) hr2 (by omega) (fun x hx => by
          rcases List.mem_append.mp hx with h | h
          · exact (hla x h).2
          · exact (hlb x h).2)
        rw [hplc] at hp1
        have hp2 := sp_putIn hK0 M2 z (2 * (8 * p + (c : Int))) A.length zn0 zn3 (A ++ B) hr2 (by omega) (by rw [List.length_append]; omega)
        rw [hins] at hp2
        refine aw_aload_n dX7_takePage_55 rfl rfl ⟨by decide, by decide⟩ ?_
        refine aw_iload_n dX7_takePage_56 rfl rfl ?_
        refine aw_aload_n dX7_takePage_57 rfl rfl ⟨by decide, by decide⟩ ?_
        refine aw_iload_n dX7_takePage_58 rfl rfl ?_
        refine aw_iconst dX7_takePage_59 rfl ⟨by decide, by decide⟩ ?_
        refine aw_cV2p dX7_takePage_60 ml_RX7_132 (by assumption) (by decide) rfl rfl ⟨by decide, by decide, by decide, by decide⟩ (Nat.le_of_ble_eq_true rfl) (hp1) ?_
        refine aw_iload dX7_takePage_63 rfl ?_
        refine aw_cV3v dX7_takePage_65 ml_RX7_135 (by assumption) (by decide) rfl rfl ⟨by decide, by decide, by decide, by decide⟩ (Nat.le_of_ble_eq_true rfl) (hp2) (fun M3 hM3 => ?_)
        obtain ⟨t1, t2, t3⟩ := hM3
        refine aw_iload dX7_takePage_68 rfl ?_
        refine aw_iload_n dX7_takePage_70 rfl rfl ?_
        refine aw_iadd dX7_takePage_71 (az_wr_id (by omega) (by omega)) ?_
        refine aw_istore dX7_takePage_72 (by decide) ?_
        refine aw_goto (tgt := 22) dX7_takePage_74 rfl ?_
        have ha : 2 * (8 * p + (c : Int)) + s = 2 * (8 * p + ((c + (s / 2).toNat : Nat) : Int)) := by rcases hs with e | e | e <;> rw [e] <;> simp <;> omega
        have hih := ih (d - (s / 2).toNat) (by rcases hs with e | e | e <;> rw [e] <;> simp <;> omega) (c + (s / 2).toNat) M3 (by omega) (by rcases hs with e | e | e <;> rw [e] at hc ⊢ <;> simp <;> omega) (fun i i0 i1 i2 i3 => by rw [t2 i (by omega) (by omega), hA2 i i0 i1 i2 i3, ← ha, Int.add_assoc]) t1 (fun i i0 i1 i2 i3 => by rw [t2 i i2 i3, f2, if_neg (by omega), if_neg (by omega)]; exact hh i i0 i1 i2 i3) (by rw [t2 739 (by omega) (by omega), f2, if_neg (by omega), if_neg (by omega)]; exact hst) (fun b hb => by rw [t3 b hb, o2 b hb]; exact ho b hb)
        rw [← ha] at hih
        exact hih
  have f1 : ∀ i, az_up M (m + 1) (707 + p) s (m + 1) i = if i = 707 + p then s else M (m + 1) i := fun i => by rw [up_row]
  have h0 := loop 8 0 (az_up M (m + 1) (707 + p) s) (by omega) (by simp) (fun i i0 i1 i2 i3 => by
      rw [f1]
      by_cases e : i = 707 + p
      · rw [if_pos e, if_pos e]
      · rw [if_neg e, if_neg e, if_neg (by omega)]; exact hF i i0 i1 i2 i3) (by
      show mRing _ _ (rLx (rg (4 * z) ++ []) rg (4 * z))
      rw [List.append_nil, ← rLx_eq]
      exact mRing_eq hR (fun i i0 i1 => by rw [f1, if_neg (by omega)]) zn0 zn3 (rL_len hw hkk)) (fun i i0 i1 i2 i3 => by rw [f1, if_neg (by omega)]) (by rw [f1, if_neg (by omega)]) (fun b hb => by rw [up_oth _ _ _ hb])
  have ha : 2 * (8 * p + ((0 : Nat) : Int)) = 16 * p := by omega
  rw [ha] at h0
  exact h0
/-- a page that takes another size, as the reference does it -/
theorem MT_res {F F' : Int → Int} {S : hSt} (h : MT F S) (hw : WS S) {p s z : Int} (p0 : 0 ≤ p) (p8 : p < S.1 725) (hs : s = 2 ∨ s = 4 ∨ s = 8) (hne : S.1 (707 + p) ≠ s) (hz : s / 4 * 4 = 4 * z) (t1 : mAll F' (rzG S.1 p s)) (t2 : mRing F' z (rLx (S.2.1 (4 * z) ++ nw s p 8) S.2.1 (4 * z)))
    (t3 : ∀ z', 0 ≤ z' → z' < 3 → z' ≠ z → mRing F' z' (if 4 * z' = S.1 (707 + p) / 4 * 4 then rLx (er (S.1 (707 + p)) p (S.2.1 (4 * z')) 8) S.2.1 (4 * z') else rL S.2.1 (4 * z'))) (t4 : ∀ i, 384 ≤ i → i < 512 → F' i = F i) (t5 : F' 739 = F 739) : MT F' (resS S p s) := by
  have hp := hw.1
  have p88 : p < 8 := by have := hp.2.1; omega
  obtain ⟨a, b, c1, c2, c3, c4⟩ := h
  refine ⟨t1, fun z' z0 z1 => ?_, ?_, ?_, fun i hi => ?_, fun i j hij hj => ?_⟩
  · show mRing F' z' (rL (rzR S.1 S.2.1 p s 8) (4 * z'))
    rw [res_ring hp p0 p88 hs hne z0 z1]
    by_cases e : z' = z
    · subst e
      rw [if_pos hz.symm]; exact t2
    · rw [if_neg (by omega)]; exact t3 z' z0 z1 e
  · rw [t5]; exact c1
  · show F' 739 + eN (rzR S.1 S.2.1 p s 8) ≤ 64 * (rzG S.1 p s 729 + rzG S.1 p s 726)
    rw [t5, eN_res hp p0 p88 hs hne, rzG_hi p0 (by omega) p88 (by omega), rzG_hi p0 (by omega) p88 (by omega)]
    exact c2
  · have hx := gl_in hw _ (getD_mem (l := S.2.2) (i := i) hi)
    show 0 ≤ F' (384 + S.2.2.getD i 0) ∧ F' (384 + S.2.2.getD i 0) ≤ F' 739
    rw [t4 _ (by omega) (by omega), t5]
    exact c3 i hi
  · have hj' : j < S.2.2.length := hj
    have hx := gl_in hw _ (getD_mem (l := S.2.2) (i := i) (by omega))
    have hy := gl_in hw _ (getD_mem (l := S.2.2) (i := j) hj)
    show F' (384 + S.2.2.getD i 0) < F' (384 + S.2.2.getD j 0)
    rw [t4 _ (by omega) (by omega), t4 _ (by omega) (by omega)]
    exact c4 i j hij hj
