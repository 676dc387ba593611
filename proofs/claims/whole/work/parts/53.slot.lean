/-! Heap.findPage, Heap.resize, Heap.findSlot -/
/-- the first of so many from i on -/
def fp (q : Int → Bool) : Nat → Int → Int
  | 0, _ => -1
  | k + 1, i => if q i = true then i else fp q k (i + 1)
theorem fp_in (q : Int → Bool) : ∀ (k : Nat) (i : Int), 0 ≤ i → fp q k i = -1 ∨ i ≤ fp q k i ∧ fp q k i < i + k ∧ q (fp q k i) = true := by
  intro k
  induction k with
  | zero => intro i _; exact Or.inl rfl
  | succ k ih =>
    intro i i0
    show (if q i = true then i else fp q k (i + 1)) = -1 ∨ i ≤ (if q i = true then i else fp q k (i + 1)) ∧ (if q i = true then i else fp q k (i + 1)) < i + ((k + 1 : Nat) : Int) ∧ q (if q i = true then i else fp q k (i + 1)) = true
    by_cases e : q i = true
    · rw [if_pos e]; exact Or.inr ⟨by omega, by omega, e⟩
    · rw [if_neg e]
      rcases ih (i + 1) (by omega) with w | w
      · exact Or.inl w
      · exact Or.inr ⟨by omega, by omega, w.2.2⟩
def pq1 (g : Int → Int) : Int → Bool := fun p => decide (g (707 + p) = 0)
def pq2 (g : Int → Int) (rg : Int → List Int) (s : Int) : Int → Bool := fun p => decide (g (707 + p) ≠ s ∧ us rg p = 0)
def pgF (g : Int → Int) (rg : Int → List Int) (s : Int) : Int := if fp (pq1 g) (g 725).toNat 0 = -1 then fp (pq2 g rg s) (g 725).toNat 0 else fp (pq1 g) (g 725).toNat 0
set_option maxRecDepth 20000 in
theorem sp_findPage {K : az_K} {h : Int} (hK : HpK K h) (M : az_M) {g : Int → Int} {rg : Int → List Int} (hp : w_pg g) (hsz : c_siz M h g) (hu : c_use M h rg) (hpg : M h 10 = g 725) (s : Int) : AM yX0_findPage cX0_findPage 3 (some .int) 0 0 0 [(1, h), (0, s)] K M (qp K M (pgF g rg s)) := by
  obtain ⟨hRg, kh, k6, k7, k8, k9, k10, k11, k12, k13, k14, z0, z1, z2, z3, z4, z5, z6, z7, z8, z9⟩ := hK
  refine am_of (by decide) (Nat.le_of_ble_eq_true rfl) (L := [(1, h), (0, s), (9, 0)]) rfl ?_
  generalize hV : pgF g rg s = V
  unfold pgF at hV
  have p1 := hp.1
  have p8 := hp.2.1
  refine aw_iconst dX0_findPage_0 rfl ⟨by decide, by decide⟩ ?_
  refine aw_istore_n dX0_findPage_1 rfl (by decide) ?_
  have loop2 : ∀ (k : Nat) (i : Int), 0 ≤ i → i + k = g 725 → fp (pq2 g rg s) k i = V → AW az_P0 (az_Z (qp K M V) 0 0) (az_rm 0 0 0) yX0_findPage cX0_findPage 3 (some .int) 0 0 29 [(1, h), (0, s), (0, i)] [] K M := by
    intro k
    induction k with
    | zero =>
      intro i i0 i1 hv
      refine aw_iload_n dX0_findPage_29 rfl rfl ?_
      refine aw_aload_n dX0_findPage_30 rfl rfl ⟨by decide, by decide⟩ ?_
      refine aw_gi 10 dX0_findPage_31 fl_RX0_58 (by assumption) rfl rfl hpg ?_
      refine aw_icmp_ge (tgt := 64) dX0_findPage_34 rfl (fun h34 => ?_) (fun h34 => ?_)
      · refine aw_iconst dX0_findPage_64 rfl ⟨by decide, by decide⟩ ?_
        exact aw_iret dX0_findPage_65 (by decide) (by decide) (qp_i hv)
      · omega
    | succ k ih =>
      intro i i0 i1 hv
      have v42 := hsz i (by omega) (by omega)
      have v52 := hu i (by omega) (by omega)
      have hv2 : (if pq2 g rg s i = true then i else fp (pq2 g rg s) k (i + 1)) = V := hv
      have hd : pq2 g rg s i = true ↔ (g (707 + i) ≠ s ∧ us rg i = 0) := by unfold pq2; exact decide_eq_true_iff
      refine aw_iload_n dX0_findPage_29 rfl rfl ?_
      refine aw_aload_n dX0_findPage_30 rfl rfl ⟨by decide, by decide⟩ ?_
      refine aw_gi 10 dX0_findPage_31 fl_RX0_58 (by assumption) rfl rfl hpg ?_
      refine aw_icmp_ge (tgt := 64) dX0_findPage_34 rfl (fun h34 => ?_) (fun h34 => ?_)
      · omega
      · refine aw_aload_n dX0_findPage_37 rfl rfl ⟨by decide, by decide⟩ ?_
        refine aw_gzF 2 dX0_findPage_38 fl_RX0_22 (by assumption) rfl rfl (by assumption) ?_
        refine aw_iload_n dX0_findPage_41 rfl rfl ?_
        refine aw_iv dX0_findPage_42 (by assumption) (by omega) (by omega) v42 ?_
        refine aw_iload_n dX0_findPage_43 rfl rfl ?_
        refine aw_icmp_eq (tgt := 58) dX0_findPage_44 rfl (fun h44 => ?_) (fun h44 => ?_)
        · refine aw_iinc dX0_findPage_58 rfl (az_wr_id (by omega) (by omega)) (by decide) ?_
          refine aw_goto (tgt := 29) dX0_findPage_61 rfl ?_
          exact ih (i + 1) (by omega) (by omega) (by rw [if_neg (fun w => (hd.mp w).1 h44)] at hv2; exact hv2)
        · refine aw_aload_n dX0_findPage_47 rfl rfl ⟨by decide, by decide⟩ ?_
          refine aw_gzF 3 dX0_findPage_48 fl_RX0_25 (by assumption) rfl rfl (by assumption) ?_
          refine aw_iload_n dX0_findPage_51 rfl rfl ?_
          refine aw_iv dX0_findPage_52 (by assumption) (by omega) (by omega) v52 ?_
          refine aw_if_ne (tgt := 58) dX0_findPage_53 rfl (fun h53 => ?_) (fun h53 => ?_)
          · refine aw_iinc dX0_findPage_58 rfl (az_wr_id (by omega) (by omega)) (by decide) ?_
            refine aw_goto (tgt := 29) dX0_findPage_61 rfl ?_
            exact ih (i + 1) (by omega) (by omega) (by rw [if_neg (fun w => h53 (hd.mp w).2)] at hv2; exact hv2)
          · refine aw_iload_n dX0_findPage_56 rfl rfl ?_
            exact aw_iret dX0_findPage_57 (by decide) (by decide) (qp_i (by rw [if_pos (hd.mpr ⟨h44, h53⟩)] at hv2; exact hv2))
  have loop1 : ∀ (k : Nat) (i : Int), 0 ≤ i → i + k = g 725 → fp (pq1 g) (g 725).toNat 0 = fp (pq1 g) k i → AW az_P0 (az_Z (qp K M V) 0 0) (az_rm 0 0 0) yX0_findPage cX0_findPage 3 (some .int) 0 0 2 [(1, h), (0, s), (0, i)] [] K M := by
    intro k
    induction k with
    | zero =>
      intro i i0 i1 hv
      have hv' : fp (pq1 g) (g 725).toNat 0 = -1 := hv
      rw [if_pos hv'] at hV
      refine aw_iload_n dX0_findPage_2 rfl rfl ?_
      refine aw_aload_n dX0_findPage_3 rfl rfl ⟨by decide, by decide⟩ ?_
      refine aw_gi 10 dX0_findPage_4 fl_RX0_58 (by assumption) rfl rfl hpg ?_
      refine aw_icmp_ge (tgt := 27) dX0_findPage_7 rfl (fun h7 => ?_) (fun h7 => ?_)
      · refine aw_iconst dX0_findPage_27 rfl ⟨by decide, by decide⟩ ?_
        refine aw_istore_n dX0_findPage_28 rfl (by decide) ?_
        exact loop2 (g 725).toNat 0 (by omega) (by omega) hV
      · omega
    | succ k ih =>
      intro i i0 i1 hv
      have v15 := hsz i (by omega) (by omega)
      replace hv : fp (pq1 g) (g 725).toNat 0 = if pq1 g i = true then i else fp (pq1 g) k (i + 1) := hv
      have hd : pq1 g i = true ↔ g (707 + i) = 0 := by unfold pq1; exact decide_eq_true_iff
      refine aw_iload_n dX0_findPage_2 rfl rfl ?_
      refine aw_aload_n dX0_findPage_3 rfl rfl ⟨by decide, by decide⟩ ?_
      refine aw_gi 10 dX0_findPage_4 fl_RX0_58 (by assumption) rfl rfl hpg ?_
      refine aw_icmp_ge (tgt := 27) dX0_findPage_7 rfl (fun h7 => ?_) (fun h7 => ?_)
      · omega
      · refine aw_aload_n dX0_findPage_10 rfl rfl ⟨by decide, by decide⟩ ?_
        refine aw_gzF 2 dX0_findPage_11 fl_RX0_22 (by assumption) rfl rfl (by assumption) ?_
        refine aw_iload_n dX0_findPage_14 rfl rfl ?_
        refine aw_iv dX0_findPage_15 (by assumption) (by omega) (by omega) v15 ?_
        refine aw_if_ne (tgt := 21) dX0_findPage_16 rfl (fun h16 => ?_) (fun h16 => ?_)
        · refine aw_iinc dX0_findPage_21 rfl (az_wr_id (by omega) (by omega)) (by decide) ?_
          refine aw_goto (tgt := 2) dX0_findPage_24 rfl ?_
          exact ih (i + 1) (by omega) (by omega) (by rw [if_neg (fun w => h16 (hd.mp w))] at hv; exact hv)
        · refine aw_iload_n dX0_findPage_19 rfl rfl ?_
          refine aw_iret dX0_findPage_20 (by decide) (by decide) (qp_i ?_)
          rw [if_pos (hd.mpr h16)] at hv
          rw [hv, if_neg (by omega)] at hV
          exact hV
  exact loop1 (g 725).toNat 0 (by omega) (by omega) rfl
theorem and_sz {s c : Int} (hs : s = 2 ∨ s = 4 ∨ s = 8) (c0 : 0 ≤ c) (c1 : c < 8) : az_and (2 * c) (s - 1) = 2 * c % s := by
  have hc : c = 0 ∨ c = 1 ∨ c = 2 ∨ c = 3 ∨ c = 4 ∨ c = 5 ∨ c = 6 ∨ c = 7 := by omega
  rcases hs with rfl | rfl | rfl <;> rcases hc with rfl | rfl | rfl | rfl | rfl | rfl | rfl | rfl <;> rfl
set_option maxRecDepth 20000 in
set_option maxHeartbeats 1000000 in
theorem sp_resize {K : az_K} {h : Int} (hK : HpK K h) (M : az_M) {g : Int → Int} {rg : Int → List Int} {gl : List Int} (hc : HC M h g rg gl) (hw : WF0 g rg gl) (p s : Int) (p0 : 0 ≤ p) (p8 : p < g 725) (hs : s = 2 ∨ s = 4 ∨ s = 8) (hne : pz g (16 * p) ≠ s) (hfree : ∀ a, 0 ≤ a → a < 128 → a / 16 = p → g a = 0) : AM yX0_resize cX0_resize 6 none 1 0 0 [(1, h), (0, p), (0, s)] K M (qv K (fun M' => HS M' h (resS (g, rg, gl) p s) ∧ frH M M' h)) := by
  obtain ⟨hRg, kh, k6, k7, k8, k9, k10, k11, k12, k13, k14, z0, z1, z2, z3, z4, z5, z6, z7, z8, z9⟩ := hK
  refine am_of (by decide) (Nat.le_of_ble_eq_true rfl) (L := [(1, h), (0, p), (0, s), (9, 0), (9, 0), (9, 0)]) rfl ?_
  have hp8 : p < 8 := by have := hw.1.2.1; omega
  refine aw_aload_n dX0_resize_0 rfl rfl ⟨by decide, by decide⟩ ?_
  refine aw_gzF 2 dX0_resize_1 fl_RX0_22 (by assumption) rfl rfl (by assumption) ?_
  refine aw_iload_n dX0_resize_4 rfl rfl ?_
  refine aw_iload_n dX0_resize_5 rfl rfl ?_
  refine aw_iast dX0_resize_6 (by assumption) (by omega) (by omega) ?_
  refine aw_iconst dX0_resize_7 rfl ⟨by decide, by decide⟩ ?_
  refine aw_istore_n dX0_resize_8 rfl (by decide) ?_
  have loop : ∀ (k c : Nat) (M1 : az_M) (x4 x5 : az_V) (x3 : Int), x3 = 2 * c → c + k = 8 → RR (M1 (h + 2)) (M1 (h + 3)) (M1 (h + 4)) (M1 (h + 5)) (rzR g rg p s c) →
      (M1 (h + 4) = fun x => if 8 * p ≤ x ∧ x < 8 * p + c then rzN s x else M (h + 4) x) → (M1 (h + 6) = fun a => if 16 * p ≤ a ∧ a < 16 * p + 2 * c ∧ a % 2 = 0 then -1 else M (h + 6) a) → (M1 (h + 7) = fun q => if q = p then s else M (h + 7) q) → (∀ b, b < h + 2 ∨ h + 7 < b → M1 b = M b) →
      AW az_P0 (az_Z (qv K (fun M' => HS M' h (resS (g, rg, gl) p s) ∧ frH M M' h)) 0 0) (az_rm 1 0 0) yX0_resize cX0_resize 6 none 0 0 9 [(1, h), (0, p), (0, s), (0, x3), x4, x5] [] K M1 := by
    intro k
    induction k with
    | zero =>
      intro c M1 x4 x5 x3 hx hc8 hR h4 h6 h7 ho
      have : c = 8 := by omega
      subst this
      refine aw_iload_n dX0_resize_9 rfl rfl ?_
      refine aw_bipush dX0_resize_10 (by decide) ⟨by decide, by decide⟩ ?_
      refine aw_icmp_ge (tgt := 77) dX0_resize_12 rfl (fun h12 => ?_) (fun h12 => ?_)
      · refine aw_vret dX0_resize_77 (by decide) (by decide) ⟨rfl, rfl, ?_, fun b hb => ho b (by omega)⟩
        obtain ⟨q1, q2, q3, q4, q5, q6, q7, q8, q9, q10, q11⟩ := hc
        have hsl := rzG_sl (g := g) p0 hp8 hs
        have hi : ∀ i, 256 ≤ i → i ≠ 707 + p → rzG g p s i = g i := fun i i1 i2 => rzG_hi p0 i1 hp8 i2
        show HC M1 h (rzG g p s) (rzR g rg p s 8) gl
        refine ⟨hR, ?_, ?_, ?_, ?_, ?_, ?_, ?_, ?_, ?_, ?_⟩
        · intro n n0 n1
          rw [hsl, h4, rzG_lo p0 (by omega) hp8]
          show (_ → (if 8 * p ≤ n ∧ n < 8 * p + ((8 : Nat) : Int) then rzN s n else M (h + 4) n) = _) ∧ (_ → (if 8 * p ≤ n ∧ n < 8 * p + ((8 : Nat) : Int) then rzN s n else M (h + 4) n) = 12)
          unfold kz
          rw [rzG_pz p0 hp8 (by omega) (by omega)]
          by_cases e : 8 * p ≤ n ∧ n < 8 * p + ((8 : Nat) : Int)
          · rw [if_pos e, if_pos (by omega), hfree (2 * n) (by omega) (by omega) (by omega)]
            unfold rzN
            constructor
            · rintro ⟨-, -, q | q⟩
              · rw [if_pos q.2]; omega
              · omega
            · intro q
              rw [if_neg]
              intro w
              exact q ⟨by omega, by omega, Or.inl ⟨by omega, w⟩⟩
          · rw [if_neg e, if_neg (by omega)]
            have := q2 n n0 n1
            constructor
            · rintro ⟨-, -, q | q⟩
              · omega
              · exact this.1 q.2
            · intro q
              exact this.2 (fun w => q ⟨by omega, by omega, Or.inr ⟨by omega, w⟩⟩)
        · intro a ha
          obtain ⟨a0, a1, q⟩ := (hsl a).mp ha
          rw [h6, rzG_lo p0 a1 hp8, rzG_fl p0 hp8 a0 a1]
          rcases q with ⟨e, q⟩ | ⟨e, q⟩
          · rw [hfree a a0 a1 e]
            have a2 : a % 2 = 0 := by rcases hs with rfl | rfl | rfl <;> omega
            refine ⟨fun _ => ?_, fun w => absurd rfl w⟩
            exact if_pos ⟨by omega, by omega, by omega⟩
          · rw [if_neg (fun w => e w.1)]
            have := q3 a q
            have hoff : ∀ x, x / 16 = a / 16 → (if 16 * p ≤ x ∧ x < 16 * p + 2 * ((8 : Nat) : Int) ∧ x % 2 = 0 then -1 else M (h + 6) x) = M (h + 6) x := fun x hx => if_neg (by omega)
            refine ⟨fun w => (hoff a rfl).trans (this.1 w), fun w => ⟨(hoff a rfl).trans (this.2 w).1, fun f f0 f1 => ?_⟩⟩
            have hfl := (hw.2.2.2.1 a q).2 w
            have hb := base_of hw.1 (f := f + 1) q (by omega) (by omega)
            rw [hi _ (by omega) (by omega)]
            exact (hoff (a + 1 + f) (by omega)).trans ((this.2 w).2 f f0 f1)
        · intro q w0 w1
          rw [h7]
          show (if q = p then s else M (h + 7) q) = _
          by_cases e : q = p
          · rw [if_pos e, e]; unfold rzG; rw [if_pos rfl]
          · rw [if_neg e, hi _ (by omega) (by omega)]; exact q4 q w0 w1
        · intro q w0 w1
          rw [ho _ (by omega), rz_us g rg p s q hs 8]; exact q5 q w0 w1
        · exact c_nam_c q6 (ho _ (by omega)) (ho _ (by omega)) (fun i _ _ => hi i (by omega) (by omega))
        · exact c_gry_c q7 (ho _ (by omega)) (by rw [ho _ (by omega)])
        · exact c_set_c q8 (ho _ (by omega)) (fun i _ _ => hi i (by omega) (by omega))
        · exact c_tal_c q9 (ho _ (by omega)) (fun i _ _ => hi i (by omega) (by omega))
        · exact c_log_c q10 (ho _ (by omega)) (fun i _ => hi i (by omega) (by omega))
        · exact c_sca_c q11 (fun j _ => by rw [ho _ (by omega)]) (fun i _ => hi i (by omega) (by omega))
      · omega
    | succ k ih =>
      intro c M1 x4 x5 x3 hx hc8 hR h4 h6 h7 ho
      have v19 : az_and x3 (s - 1) = 2 * (c : Int) % s := by rw [hx]; exact and_sz hs (by omega) (by omega)
      have hro : M1 (h + 4) (8 * p + c) = rzO g (8 * p + c) := by
        rw [h4]
        show (if 8 * p ≤ 8 * p + (c : Int) ∧ 8 * p + (c : Int) < 8 * p + c then _ else _) = _
        rw [if_neg (by omega)]
        have := hc.2.1 (8 * p + c) (by omega) (by omega)
        unfold rzO
        split
        · rename_i e
          rw [this.1 ⟨by omega, by omega, e.1, e.2⟩, hfree _ (by omega) (by omega) (by omega)]
          omega
        · rename_i e
          exact this.2 (fun w => e ⟨w.2.2.1, w.2.2.2⟩)
      have next : ∀ (x4 : Int) (kk : Int), kk = rzN s (8 * p + c) → AW az_P0 (az_Z (qv K (fun M' => HS M' h (resS (g, rg, gl) p s) ∧ frH M M' h)) 0 0) (az_rm 1 0 0) yX0_resize cX0_resize 6 none 0 0 59 [(1, h), (0, p), (0, s), (0, x3), (0, x4), (0, p * 16 + x3)] [(0, kk), (0, p * 16 + x3), (1, h + 1)] K M1 := by
        intro x4 kk hkk
        have hk12 : 0 ≤ kk ∧ kk ≤ 12 := by rw [hkk]; unfold rzN; split <;> omega
        have hmv := sp_move hRg M1 hR (p * 16 + x3) kk 0 (by omega) (by omega) (by omega) (by omega) (Or.inl rfl)
        refine aw_iconst dX0_resize_59 rfl ⟨by decide, by decide⟩ ?_
        refine aw_cV3v dX0_resize_60 ml_RX0_105 hRg.1 (by decide) rfl rfl ⟨by decide, by decide, by decide, by decide⟩ (Nat.le_of_ble_eq_true rfl) (hmv) (fun M2 hM2 => ?_)
        obtain ⟨m1, m2, m3⟩ := hM2
        rw [show (p * 16 + x3) / 2 = 8 * p + c by omega, hro, hkk] at m1
        rw [show (p * 16 + x3) / 2 = 8 * p + c by omega, hkk] at m2
        refine aw_aload_n dX0_resize_63 rfl rfl ⟨by decide, by decide⟩ ?_
        refine aw_gzF 1 dX0_resize_64 fl_RX0_18 (by assumption) rfl rfl (by assumption) ?_
        refine aw_iload dX0_resize_67 rfl ?_
        refine aw_iconst dX0_resize_69 rfl ⟨by decide, by decide⟩ ?_
        refine aw_iast dX0_resize_70 (by assumption) (by omega) (by omega) ?_
        refine aw_iinc dX0_resize_71 rfl (az_wr_id (by omega) (by omega)) (by decide) ?_
        refine aw_goto (tgt := 9) dX0_resize_74 rfl ?_
        refine ih (c + 1) _ _ _ _ (by omega) (by omega) ?_ ?_ ?_ ?_ ?_
        · rw [up_oth _ _ _ (by omega), up_oth _ _ _ (by omega), up_oth _ _ _ (by omega), up_oth _ _ _ (by omega)]
          have m1' : RR (M2 (h + 2)) (M2 (h + 3)) (M2 (h + 4)) (M2 (h + 5)) (rmv (rzR g rg p s c) (8 * p + c) (rzO g (8 * p + c)) (rzN s (8 * p + c)) false) := by simpa using m1
          exact m1'
        · rw [up_oth _ _ _ (by omega), m2, h4]
          funext x
          by_cases e : x = 8 * p + c
          · rw [if_pos e, if_pos ⟨by omega, by omega⟩, e]
          · rw [if_neg e]
            by_cases e2 : 8 * p ≤ x ∧ x < 8 * p + (c : Int)
            · rw [if_pos ⟨e2.1, by omega⟩]; exact if_pos e2
            · rw [if_neg (by omega)]; exact if_neg e2
        · rw [up_row, m3 _ (by omega), h6]
          funext x
          by_cases e : x = p * 16 + x3
          · rw [if_pos e, if_pos ⟨by omega, by omega, by omega⟩]
          · rw [if_neg e]
            by_cases e2 : 16 * p ≤ x ∧ x < 16 * p + 2 * (c : Int) ∧ x % 2 = 0
            · rw [if_pos ⟨e2.1, by omega, e2.2.2⟩]; exact if_pos e2
            · rw [if_neg (by omega)]; exact if_neg e2
        · rw [up_oth _ _ _ (by omega), m3 _ (by omega), h7]
        · intro b hb
          rw [up_oth _ _ _ (by omega), m3 b (by omega), ho b hb]
      have hmod : 2 * (8 * p + (c : Int)) % s = 2 * (c : Int) % s := by
        rcases hs with rfl | rfl | rfl <;> omega
      refine aw_iload_n dX0_resize_9 rfl rfl ?_
      refine aw_bipush dX0_resize_10 (by decide) ⟨by decide, by decide⟩ ?_
      refine aw_icmp_ge (tgt := 77) dX0_resize_12 rfl (fun h12 => ?_) (fun h12 => ?_)
      · omega
      · refine aw_iload_n dX0_resize_15 rfl rfl ?_
        refine aw_iload_n dX0_resize_16 rfl rfl ?_
        refine aw_iconst dX0_resize_17 rfl ⟨by decide, by decide⟩ ?_
        refine aw_isub dX0_resize_18 (az_wr_id (by omega) (by omega)) ?_
        refine aw_iand dX0_resize_19 v19 ?_
        refine aw_if_ne (tgt := 27) dX0_resize_20 rfl (fun h20 => ?_) (fun h20 => ?_)
        · have hN : (12 : Int) = rzN s (8 * p + c) := by unfold rzN; rw [if_neg (by omega)]
          refine aw_iconst dX0_resize_27 rfl ⟨by decide, by decide⟩ ?_
          refine aw_istore dX0_resize_28 (by decide) ?_
          refine aw_iload_n dX0_resize_30 rfl rfl ?_
          refine aw_bipush dX0_resize_31 (by decide) ⟨by decide, by decide⟩ ?_
          refine aw_imul dX0_resize_33 (az_wr_id (by omega) (by omega)) ?_
          refine aw_iload_n dX0_resize_34 rfl rfl ?_
          refine aw_iadd dX0_resize_35 (az_wr_id (by omega) (by omega)) ?_
          refine aw_istore dX0_resize_36 (by decide) ?_
          refine aw_aload_n dX0_resize_38 rfl rfl ⟨by decide, by decide⟩ ?_
          refine aw_gzF 0 dX0_resize_39 fl_RX0_12 (by assumption) rfl rfl (by assumption) ?_
          refine aw_iload dX0_resize_42 rfl ?_
          refine aw_iload dX0_resize_44 rfl ?_
          refine aw_if_eq (tgt := 57) dX0_resize_46 rfl (fun h46 => ?_) (fun h46 => absurd h46 (by omega))
          refine aw_bipush dX0_resize_57 (by decide) ⟨by decide, by decide⟩ ?_
          exact next _ _ hN
        · have hN : s / 4 * 4 + 0 = rzN s (8 * p + c) := by unfold rzN; rw [if_pos (by omega)]; omega
          refine aw_iconst dX0_resize_23 rfl ⟨by decide, by decide⟩ ?_
          refine aw_goto (tgt := 28) dX0_resize_24 rfl ?_
          refine aw_istore dX0_resize_28 (by decide) ?_
          refine aw_iload_n dX0_resize_30 rfl rfl ?_
          refine aw_bipush dX0_resize_31 (by decide) ⟨by decide, by decide⟩ ?_
          refine aw_imul dX0_resize_33 (az_wr_id (by omega) (by omega)) ?_
          refine aw_iload_n dX0_resize_34 rfl rfl ?_
          refine aw_iadd dX0_resize_35 (az_wr_id (by omega) (by omega)) ?_
          refine aw_istore dX0_resize_36 (by decide) ?_
          refine aw_aload_n dX0_resize_38 rfl rfl ⟨by decide, by decide⟩ ?_
          refine aw_gzF 0 dX0_resize_39 fl_RX0_12 (by assumption) rfl rfl (by assumption) ?_
          refine aw_iload dX0_resize_42 rfl ?_
          refine aw_iload dX0_resize_44 rfl ?_
          refine aw_if_eq (tgt := 57) dX0_resize_46 rfl (fun h46 => absurd h46 (by omega)) (fun h46 => ?_)
          refine aw_iload_n dX0_resize_49 rfl rfl ?_
          refine aw_iconst dX0_resize_50 rfl ⟨by decide, by decide⟩ ?_
          refine aw_cS2p dX0_resize_51 ml_RX0_96 ⟨by decide, by decide, by decide, by decide⟩ (Nat.le_of_ble_eq_true rfl) (sp_row K M1 s 0 (by omega) (by omega) (by omega) (by omega)) ?_
          refine aw_goto (tgt := 59) dX0_resize_54 rfl ?_
          exact next _ _ hN
  refine loop 8 0 _ _ _ 0 (by omega) (by omega) ?_ ?_ ?_ ?_ ?_
  · rw [up_oth _ _ _ (by omega), up_oth _ _ _ (by omega), up_oth _ _ _ (by omega), up_oth _ _ _ (by omega)]
    exact hc.1
  · rw [up_oth _ _ _ (by omega)]
    funext x
    rw [if_neg (by omega)]
  · rw [up_oth _ _ _ (by omega)]
    funext x
    rw [if_neg (by omega)]
  · rw [up_row]
  · intro b hb
    rw [up_oth _ _ _ (by omega)]

theorem us_free {g : Int → Int} {rg : Int → List Int} (hw : WR g rg) {p : Int} (p0 : 0 ≤ p) (p8 : p < 8) (hu : us rg p = 0) : ∀ a, 0 ≤ a → a < 128 → a / 16 = p → g a = 0 := by
  intro a a0 a1 hp
  apply Classical.byContradiction
  intro hn
  have hc := hw.2.1 a a0 a1
  have hs : sl g a := by
    rcases sl_dec g a with q | q
    · exact q
    · exact absurd (hc.2.2 q) hn
  obtain ⟨e1, e2, e3, e4, e5⟩ := sl_even hw.1 hs
  have hk : kz g a = 0 ∨ kz g a = 4 ∨ kz g a = 8 := by unfold kz at e4 e5 ⊢; omega
  have hm : a / 2 ∈ rg (kz g a + g a) := ((hw.2.2 _ (by omega) (by omega)).2 (a / 2)).mpr ⟨by omega, by omega, by rw [show 2 * (a / 2) = a by omega]; exact ⟨hs, rfl⟩⟩
  have hf : 0 < fl rg (kz g a + g a) p := by
    unfold fl
    have : a / 2 ∈ (rg (kz g a + g a)).filter (fun n => n / 8 == p) := List.mem_filter.mpr ⟨hm, by simp; omega⟩
    have := List.length_pos_of_mem this
    omega
  have key : ∀ J : List Int, (kz g a + g a) ∈ J → 0 < sumI J (fun j => fl rg j p) := by
    intro J
    induction J with
    | nil => intro h; cases h
    | cons j t ih =>
      intro h
      have h1 := fl_nn rg j p
      have h2 : 0 ≤ sumI t (fun j => fl rg j p) := by
        clear ih h
        induction t with
        | nil => exact Int.le_refl _
        | cons j t ih => have := fl_nn rg j p; simp only [sumI]; omega
      rcases List.mem_cons.mp h with h | h
      · simp only [sumI]; rw [h] at hf; omega
      · have := ih h; simp only [sumI]; omega
  have := key [1, 2, 3, 5, 6, 7, 9, 10, 11] (by simp; omega)
  unfold us at hu
  omega
/-- the first free slot of a size, in a page that may come to be of this size -/
def hd2 (l : List Int) : Int := match l with
  | [] => -1
  | n :: _ => 2 * n
def adr (S : hSt) (s : Int) : Int := hd2 (S.2.1 (s / 4 * 4))
def fsS (S : hSt) (s : Int) : hSt := if S.2.1 (s / 4 * 4) = [] then (if pgF S.1 S.2.1 s = -1 then S else resS S (pgF S.1 S.2.1 s) s) else S
theorem pgF_in {g : Int → Int} {rg : Int → List Int} (hw : WR g rg) {s : Int} (hs : s = 2 ∨ s = 4 ∨ s = 8) (h : pgF g rg s ≠ -1) : 0 ≤ pgF g rg s ∧ pgF g rg s < g 725 ∧ pz g (16 * pgF g rg s) ≠ s ∧ ∀ a, 0 ≤ a → a < 128 → a / 16 = pgF g rg s → g a = 0 := by
  have p1 := hw.1.1
  have p8 := hw.1.2.1
  generalize hp : pgF g rg s = p at h
  have hpz : 0 ≤ p → pz g (16 * p) = g (707 + p) := fun q => by unfold pz; rw [show 16 * p / 16 = p by omega]
  unfold pgF at hp
  by_cases e : fp (pq1 g) (g 725).toNat 0 = -1
  · rw [if_pos e] at hp
    rcases fp_in (pq2 g rg s) (g 725).toNat 0 (by omega) with w | w
    · omega
    · rw [hp] at w
      have hd : g (707 + p) ≠ s ∧ us rg p = 0 := decide_eq_true_iff.mp w.2.2
      exact ⟨w.1, by omega, by rw [hpz w.1]; exact hd.1, us_free hw w.1 (by omega) hd.2⟩
  · rw [if_neg e] at hp
    rcases fp_in (pq1 g) (g 725).toNat 0 (by omega) with w | w
    · exact absurd w e
    · rw [hp] at w
      have hd : g (707 + p) = 0 := decide_eq_true_iff.mp w.2.2
      refine ⟨w.1, by omega, by rw [hpz w.1, hd]; omega, fun a a0 a1 ha => ?_⟩
      refine (hw.2.1 a a0 a1).2.2 (fun q => q.2.2.1 ?_)
      unfold pz
      rw [ha]; exact hd
theorem fsS_wf {S : hSt} (h : WL S) {s : Int} (hs : s = 2 ∨ s = 4 ∨ s = 8) : WL (fsS S s) ∧ (∀ x, 715 ≤ x → (fsS S s).1 x = S.1 x) ∧ (∀ a, ob (fsS S s).1 a ↔ ob S.1 a) ∧ (fsS S s).2.2 = S.2.2 := by
  unfold fsS
  split
  · split
    · exact ⟨h, fun _ _ => rfl, fun _ => Iff.rfl, rfl⟩
    · rename_i e1 e2
      obtain ⟨q1, q2, q3, q4⟩ := pgF_in (WR_of h.1) hs e2
      have p8 := h.1.1.2.1
      have hi : ∀ x, 715 ≤ x → (resS S (pgF S.1 S.2.1 s) s).1 x = S.1 x := fun x hx => rzG_hi q1 (by omega) (by omega) (by omega)
      obtain ⟨w1, w2⟩ := resS_wf (gl := S.2.2) h.1 q1 q2 hs q3 q4
      refine ⟨⟨w1, ?_⟩, hi, w2, rfl⟩
      unfold w_live
      rw [hi 726 (by omega), hi 727 (by omega)]
      exact h.2
  · exact ⟨h, fun _ _ => rfl, fun _ => Iff.rfl, rfl⟩
theorem res_row {S : hSt} (h : WS S) {s : Int} (hs : s = 2 ∨ s = 4 ∨ s = 8) (he : pgF S.1 S.2.1 s ≠ -1) : (resS S (pgF S.1 S.2.1 s) s).2.1 (s / 4 * 4) ≠ [] := by
  obtain ⟨q1, q2, q3, q4⟩ := pgF_in (WR_of h) hs he
  have p8 := h.1.2.1
  intro e
  have := ((rzR_mem (g := S.1) (rg := S.2.1) h.1 h.2.2.1 q1 (by omega) hs q3 q4 8 (by omega) (s / 4 * 4) (by omega) (by omega)).2 (8 * pgF S.1 S.2.1 s)).mpr (Or.inr ⟨by omega, by omega, by unfold rzN; rw [if_pos (by rcases hs with rfl | rfl | rfl <;> omega)]⟩)
  have e2 : rzR S.1 S.2.1 (pgF S.1 S.2.1 s) s 8 (s / 4 * 4) = [] := e
  rw [e2] at this
  cases this
theorem hd2_in {g : Int → Int} {rg : Int → List Int} (hw : WR g rg) {k : Int} (k0 : 0 ≤ k) (k1 : k < 12) : hd2 (rg k) = -1 ∧ rg k = [] ∨ ∃ n l, rg k = n :: l ∧ hd2 (rg k) = 2 * n ∧ 0 ≤ n ∧ n < 64 ∧ sl g (2 * n) ∧ kz g (2 * n) = k / 4 * 4 ∧ g (2 * n) = k % 4 := by
  cases h : rg k with
  | nil => exact Or.inl ⟨rfl, rfl⟩
  | cons n l => exact Or.inr ⟨n, l, rfl, rfl, WR_mem hw k0 k1 (by rw [h]; exact List.mem_cons_self)⟩
theorem fs_none {S : hSt} (h : WS S) {s : Int} (hs : s = 2 ∨ s = 4 ∨ s = 8) (hn : adr (fsS S s) s = -1) : fsS S s = S := by
  unfold fsS at hn ⊢
  split
  · rename_i e
    rw [if_pos e] at hn
    split
    · rfl
    · rename_i e2
      rw [if_neg e2] at hn
      exfalso
      obtain ⟨q1, q2, q3, q4⟩ := pgF_in (WR_of h) hs e2
      have w := (resS_wf (gl := S.2.2) h q1 q2 hs q3 q4).1
      rcases hd2_in (WR_of w) (k := s / 4 * 4) (by omega) (by omega) with q | ⟨n, l, z1, z2, z3, -⟩
      · exact res_row h hs e2 q.2
      · have : hd2 (rzR S.1 S.2.1 (pgF S.1 S.2.1 s) s 8 (s / 4 * 4)) = -1 := hn
        omega
  · rfl
set_option maxRecDepth 20000 in
set_option maxHeartbeats 1000000 in
theorem sp_findSlot {K : az_K} {h : Int} (hK : HpK K h) (M : az_M) {S : hSt} (hc : HS M h S) (hw : WL S) (s : Int) (hs : s = 2 ∨ s = 4 ∨ s = 8) : AM yX0_findSlot cX0_findSlot 4 (some .int) 2 0 0 [(1, h), (0, s)] K M (qi K (fun z M' => z = adr (fsS S s) s ∧ HS M' h (fsS S s) ∧ frH M M' h)) := by
  have hK0 := hK
  obtain ⟨hRg, kh, k6, k7, k8, k9, k10, k11, k12, k13, k14, z0, z1, z2, z3, z4, z5, z6, z7, z8, z9⟩ := hK
  refine am_of (by decide) (Nat.le_of_ble_eq_true rfl) (L := [(1, h), (0, s), (9, 0), (9, 0)]) rfl ?_
  have hcnt : M (h + 5) (s / 4 * 4) = ((S.2.1 (s / 4 * 4)).length : Int) := (hc.1.2.1 (s / 4 * 4) (by omega) (by omega)).2.2.1
  obtain ⟨fw, -⟩ := fsS_wf hw hs
  have last : ∀ (M2 : az_M) (x : az_V), HS M2 h (fsS S s) → frH M M2 h → adr (fsS S s) s ≠ -1 → AW az_P0 (az_Z (qi K (fun z M' => z = adr (fsS S s) s ∧ HS M' h (fsS S s) ∧ frH M M' h)) 0 0) (az_rm 2 0 0) yX0_findSlot cX0_findSlot 4 (some .int) 0 0 36 [(1, h), (0, s), (0, s / 4 * 4), x] [] K M2 := by
    intro M2 x hs2 hf2 hne
    rcases hd2_in (WR_of fw.1) (k := s / 4 * 4) (by omega) (by omega) with q | ⟨n, l, q1, q2, q3, q4, -⟩
    · exact absurd q.1 hne
    · have hfi := RR_first hs2.1 (k := s / 4 * 4) (by omega) (by omega) q1
      refine aw_aload_n dX0_findSlot_36 rfl rfl ⟨by decide, by decide⟩ ?_
      refine aw_gzF 0 dX0_findSlot_37 fl_RX0_12 (by assumption) rfl rfl (by assumption) ?_
      refine aw_iload_n dX0_findSlot_40 rfl rfl ?_
      refine aw_cV1p dX0_findSlot_41 ml_RX0_102 hRg.1 (by decide) rfl rfl ⟨by decide, by decide, by decide, by decide⟩ (Nat.le_of_ble_eq_true rfl) (qp_c (sp_first hRg M2 (s / 4 * 4) (by omega) (by omega) (by omega) (by omega)) (show 2 * M2 (h + 2) (64 + s / 4 * 4) = 2 * n by rw [hfi])) ?_
      exact aw_iret dX0_findSlot_44 (by decide) (by decide) ⟨_, rfl, rfl, q2.symm, hs2, hf2⟩
  refine aw_iload_n dX0_findSlot_0 rfl rfl ?_
  refine aw_iconst dX0_findSlot_1 rfl ⟨by decide, by decide⟩ ?_
  refine aw_cS2p dX0_findSlot_2 ml_RX0_96 ⟨by decide, by decide, by decide, by decide⟩ (Nat.le_of_ble_eq_true rfl) (qp_c (sp_row K M s 0 (by omega) (by omega) (by omega) (by omega)) (show s / 4 * 4 + 0 = s / 4 * 4 by omega)) ?_
  refine aw_istore_n dX0_findSlot_5 rfl (by decide) ?_
  refine aw_aload_n dX0_findSlot_6 rfl rfl ⟨by decide, by decide⟩ ?_
  refine aw_gzF 0 dX0_findSlot_7 fl_RX0_12 (by assumption) rfl rfl (by assumption) ?_
  refine aw_iload_n dX0_findSlot_10 rfl rfl ?_
  refine aw_cV1p dX0_findSlot_11 ml_RX0_99 hRg.1 (by decide) rfl rfl ⟨by decide, by decide, by decide, by decide⟩ (Nat.le_of_ble_eq_true rfl) (qp_c (sp_count hRg M (s / 4 * 4) (by omega) (by omega)) hcnt) ?_
  refine aw_if_ne (tgt := 36) dX0_findSlot_14 rfl (fun h14 => ?_) (fun h14 => ?_)
  · have hne : S.2.1 (s / 4 * 4) ≠ [] := fun e => h14 (by rw [e]; rfl)
    have hfe : fsS S s = S := by unfold fsS; rw [if_neg hne]
    refine last M _ (by rw [hfe]; exact hc) (frH.refl M h) ?_
    rw [hfe]
    rcases hd2_in (WR_of hw.1) (k := s / 4 * 4) (by omega) (by omega) with q | ⟨n, l, q1, q2, q3, q4, -⟩
    · exact absurd q.2 hne
    · have : adr S s = 2 * n := q2
      omega
  · have hnil : S.2.1 (s / 4 * 4) = [] := List.length_eq_zero_iff.mp (by omega)
    refine aw_aload_n dX0_findSlot_17 rfl rfl ⟨by decide, by decide⟩ ?_
    refine aw_iload_n dX0_findSlot_18 rfl rfl ?_
    refine aw_cV1p dX0_findSlot_19 ml_RX0_147 (by assumption) (by decide) rfl rfl ⟨by decide, by decide, by decide, by decide⟩ (Nat.le_of_ble_eq_true rfl) (sp_findPage hK0 M hw.1.1 hc.2.2.2.1 hc.2.2.2.2.1 hc.2.2.2.2.2.2.2.2.2.2.1 s) ?_
    refine aw_istore_n dX0_findSlot_22 rfl (by decide) ?_
    refine aw_iload_n dX0_findSlot_23 rfl rfl ?_
    refine aw_iconst dX0_findSlot_24 rfl ⟨by decide, by decide⟩ ?_
    refine aw_icmp_ne (tgt := 30) dX0_findSlot_25 rfl (fun h25 => ?_) (fun h25 => ?_)
    · obtain ⟨q1, q2, q3, q4⟩ := pgF_in (WR_of hw.1) hs h25
      have hfe : fsS S s = resS S (pgF S.1 S.2.1 s) s := by unfold fsS; rw [if_pos hnil, if_neg h25]
      refine aw_aload_n dX0_findSlot_30 rfl rfl ⟨by decide, by decide⟩ ?_
      refine aw_iload_n dX0_findSlot_31 rfl rfl ?_
      refine aw_iload_n dX0_findSlot_32 rfl rfl ?_
      refine aw_cV2v dX0_findSlot_33 ml_RX0_150 (by assumption) (by decide) rfl rfl ⟨by decide, by decide, by decide, by decide⟩ (Nat.le_of_ble_eq_true rfl) (sp_resize hK0 M hc hw.1 (pgF S.1 S.2.1 s) s q1 q2 hs q3 q4) (fun M2 hM2 => ?_)
      refine last M2 _ (by rw [hfe]; exact hM2.1) hM2.2 ?_
      rw [hfe]
      intro e
      have hr := res_row hw.1 hs h25
      rw [← hfe] at hr e
      rcases hd2_in (WR_of fw.1) (k := s / 4 * 4) (by omega) (by omega) with q | ⟨n, l, q1, q2, q3, q4, -⟩
      · exact hr q.2
      · have : adr (fsS S s) s = 2 * n := q2
        omega
    · have hfe : fsS S s = S := by unfold fsS; rw [if_pos hnil, if_pos h25]
      refine aw_iconst dX0_findSlot_28 rfl ⟨by decide, by decide⟩ ?_
      refine aw_iret dX0_findSlot_29 (by decide) (by decide) ⟨_, rfl, rfl, ?_, by rw [hfe]; exact hc, frH.refl M h⟩
      rw [hfe]
      unfold adr
      rw [hnil]; rfl
