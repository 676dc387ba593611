/-! Arrays.fill from a place to another; an object is placed -/
set_option maxRecDepth 20000 in
theorem sp_range (K : az_K) (M : az_M) (n i j : Int) (h0 : 0 ≤ i) (h1 : i ≤ j) (h2 : j ≤ n) : AM yJ7_rangeCheck_23922 cJ7_rangeCheck_23922 3 none 0 0 0 [(0, n), (0, i), (0, j)] K M (qv K (fun M' => M' = M)) := by
  refine am_of (by decide) (Nat.le_of_ble_eq_true rfl) (L := [(0, n), (0, i), (0, j)]) rfl ?_
  refine aw_iload_n dJ7_rangeCheck_23922_0 rfl rfl ?_
  refine aw_iload_n dJ7_rangeCheck_23922_1 rfl rfl ?_
  refine aw_icmp_le (tgt := 46) dJ7_rangeCheck_23922_2 rfl (fun h2 => ?_) (fun h2 => absurd h2 (by omega))
  refine aw_iload_n dJ7_rangeCheck_23922_46 rfl rfl ?_
  refine aw_if_ge (tgt := 59) dJ7_rangeCheck_23922_47 rfl (fun h47 => ?_) (fun h47 => absurd h47 (by omega))
  refine aw_iload_n dJ7_rangeCheck_23922_59 rfl rfl ?_
  refine aw_iload_n dJ7_rangeCheck_23922_60 rfl rfl ?_
  refine aw_icmp_le (tgt := 73) dJ7_rangeCheck_23922_61 rfl (fun h61 => ?_) (fun h61 => absurd h61 (by omega))
  exact aw_vret dJ7_rangeCheck_23922_73 (by decide) (by decide) ⟨rfl, rfl, rfl⟩
set_option maxRecDepth 20000 in
theorem sp_fill4 {K : az_K} {a : Int} {n : Nat} (hK : az_at K a (100, n)) (hn : n ≤ 1000) (i0 t v : Int) (h0 : 0 ≤ i0) (h1 : i0 ≤ t) (h2 : t ≤ n) (M : az_M) : AM yJ7_fill_fda19 cJ7_fill_fda19 5 none 1 0 0 [(1, a), (0, i0), (0, t), (0, v)] K M (qv K (fun M' => M' = az_fill M a i0 t v)) := by
  refine am_of (by decide) (Nat.le_of_ble_eq_true rfl) (L := [(1, a), (0, i0), (0, t), (0, v), (9, 0)]) rfl ?_
  refine aw_aload_n dJ7_fill_fda19_0 rfl rfl ⟨by decide, by decide⟩ ?_
  refine aw_alen100 dJ7_fill_fda19_1 (by assumption) ⟨by omega, by omega⟩ ?_
  refine aw_iload_n dJ7_fill_fda19_2 rfl rfl ?_
  refine aw_iload_n dJ7_fill_fda19_3 rfl rfl ?_
  refine aw_cS3v dJ7_fill_fda19_4 ml_RJ7_13 ⟨by decide, by decide, by decide, by decide⟩ (Nat.le_of_ble_eq_true rfl) (sp_range K M n i0 t h0 h1 h2) (fun M0 hM0 => ?_)
  refine aw_iload_n dJ7_fill_fda19_7 rfl rfl ?_
  refine aw_istore dJ7_fill_fda19_8 (by decide) ?_
  subst hM0
  have loop : ∀ (k : Nat) (i : Int) (M1 : az_M), i0 ≤ i → i ≤ t → (t - i).toNat < k → az_fill M1 a i t v = az_fill M0 a i0 t v → AW az_P0 (az_Z (qv K (fun M' => M' = az_fill M0 a i0 t v)) 0 0) (az_rm 1 0 0) yJ7_fill_fda19 cJ7_fill_fda19 5 none 0 0 10 [(1, a), (0, i0), (0, t), (0, v), (0, i)] [] K M1 := by
    intro k
    induction k with
    | zero => intro i M1 _ _ h; omega
    | succ k ih =>
      intro i M1 q0 q1 hk hM
      refine aw_iload dJ7_fill_fda19_10 rfl ?_
      refine aw_iload_n dJ7_fill_fda19_12 rfl rfl ?_
      refine aw_icmp_ge (tgt := 27) dJ7_fill_fda19_13 rfl (fun h13 => ?_) (fun h13 => ?_)
      · refine aw_vret dJ7_fill_fda19_27 (by decide) (by decide) ⟨rfl, rfl, ?_⟩
        rw [← hM, az_fill_end _ h13]
      · refine aw_aload_n dJ7_fill_fda19_16 rfl rfl ⟨by decide, by decide⟩ ?_
        refine aw_iload dJ7_fill_fda19_17 rfl ?_
        refine aw_iload_n dJ7_fill_fda19_19 rfl rfl ?_
        refine aw_iast dJ7_fill_fda19_20 (by assumption) (by omega) (by omega) ?_
        refine aw_iinc dJ7_fill_fda19_21 rfl (az_wr_id (by omega) (by omega)) (by decide) ?_
        refine aw_goto (tgt := 10) dJ7_fill_fda19_24 rfl ?_
        exact ih (i + 1) _ (by omega) (by omega) (by omega) (by rw [az_fill_up _ h13, hM])
  exact loop _ i0 M0 (by omega) (by omega) (Nat.lt_succ_self _) rfl
def szF (f : Int) : Int := if f < 2 then 2 else if f < 4 then 4 else 8
def plG (g : Int → Int) (a f r : Int) : Int → Int := fun i => if i = a then 3 else if i = 128 + a then f else if 257 + a ≤ i ∧ i < 257 + a + f then -1 else if i = 715 + r then a else if i = 733 then az_wr (g 733 + 1) else g i
def plS (S : hSt) (s f r : Int) : hSt := (plG S.1 (adr S s) f r, rmv S.2.1 (adr S s / 2) (s / 4 * 4) (s / 4 * 4 + 3) false, S.2.2)
section PL
variable {g : Int → Int} {rg : Int → List Int} {a f r : Int}
theorem pl_lo (a0 : 0 ≤ a) (f0 : 0 ≤ f) (r0 : 0 ≤ r) {i : Int} (h : i < 128) : plG g a f r i = if i = a then 3 else g i := by
  unfold plG
  by_cases e : i = a
  · rw [if_pos e, if_pos e]
  · rw [if_neg e, if_neg e, if_neg (by omega), if_neg (by omega), if_neg (by omega), if_neg (by omega)]
theorem pl_fl (a0 : 0 ≤ a) (a1 : a < 128) (f0 : 0 ≤ f) (r0 : 0 ≤ r) {b : Int} (h0 : 0 ≤ b) (h1 : b < 128) : plG g a f r (128 + b) = if b = a then f else g (128 + b) := by
  unfold plG
  by_cases e : b = a
  · rw [if_neg (by omega), if_pos (by omega), if_pos e]
  · rw [if_neg (by omega), if_neg (by omega), if_neg (by omega), if_neg (by omega), if_neg (by omega), if_neg e]
theorem pl_ce (a0 : 0 ≤ a) (a1 : a < 128) (f0 : 0 ≤ f) (r0 : 0 ≤ r) {i : Int} (h0 : 256 ≤ i) (h1 : i < 384) : plG g a f r i = if 257 + a ≤ i ∧ i < 257 + a + f then -1 else g i := by
  unfold plG
  rw [if_neg (by omega), if_neg (by omega)]
  by_cases e : 257 + a ≤ i ∧ i < 257 + a + f
  · rw [if_pos e, if_pos e]
  · rw [if_neg e, if_neg e, if_neg (by omega), if_neg (by omega)]
theorem pl_na (a0 : 0 ≤ a) (af : a + f < 128) (f0 : 0 ≤ f) (r0 : 0 ≤ r) (r1 : r < 6) {i : Int} (h0 : 384 ≤ i) (h1 : i ≠ 733) : plG g a f r i = if i = 715 + r then a else g i := by
  unfold plG
  rw [if_neg (by omega), if_neg (by omega), if_neg (by omega)]
  by_cases e : i = 715 + r
  · rw [if_pos e, if_pos e]
  · rw [if_neg e, if_neg e, if_neg h1]
theorem pl_md (a0 : 0 ≤ a) (af : a + f < 128) (f0 : 0 ≤ f) (r0 : 0 ≤ r) (r1 : r < 6) : plG g a f r 733 = az_wr (g 733 + 1) := by
  unfold plG
  rw [if_neg (by omega), if_neg (by omega), if_neg (by omega), if_neg (by omega), if_pos rfl]
theorem pl_pz (a0 : 0 ≤ a) (af : a + f < 128) (f0 : 0 ≤ f) (r0 : 0 ≤ r) (r1 : r < 6) {b : Int} (h0 : 0 ≤ b) (h1 : b < 128) : pz (plG g a f r) b = pz g b := by
  unfold pz
  rw [pl_na a0 af f0 r0 r1 (by omega) (by omega), if_neg (by omega)]
theorem pl_sl (a0 : 0 ≤ a) (af : a + f < 128) (f0 : 0 ≤ f) (r0 : 0 ≤ r) (r1 : r < 6) (b : Int) : sl (plG g a f r) b ↔ sl g b := by
  unfold sl
  constructor
  · rintro ⟨q0, q1, q2⟩
    rw [pl_pz a0 af f0 r0 r1 q0 q1] at q2
    exact ⟨q0, q1, q2⟩
  · rintro ⟨q0, q1, q2⟩
    rw [pl_pz a0 af f0 r0 r1 q0 q1]
    exact ⟨q0, q1, q2⟩
theorem pl_wf {gl : List Int} (h : WF0 g rg gl) (ha : sl g a) (hc : g a = 0) (f0 : 0 ≤ f) (f1 : f < pz g a) (r0 : 0 ≤ r) (r1 : r < 6) : WF0 (plG g a f r) (rmv rg (a / 2) (kz g a) (kz g a + 3) false) gl := by
  have a0 := ha.1
  have a1 := ha.2.1
  obtain ⟨h1, h2, h3, h4, h5, h6, h7⟩ := h
  have hb0 := base_of h1 (f := f) ha f0 f1
  have af : a + f < 128 := hb0.2.2
  have hlo : ∀ i, i < 128 → plG g a f r i = if i = a then 3 else g i := fun i hi => pl_lo a0 f0 r0 hi
  have hsl := pl_sl (g := g) a0 af f0 r0 r1
  have hpz : ∀ b, 0 ≤ b → b < 128 → pz (plG g a f r) b = pz g b := fun b b0 b1 => pl_pz a0 af f0 r0 r1 b0 b1
  have hna : ∀ i, 384 ≤ i → i ≠ 733 → i ≠ 715 + r → plG g a f r i = g i := fun i i0 i1 i2 => by rw [pl_na a0 af f0 r0 r1 i0 i1, if_neg i2]
  have hob : ∀ b, ob (plG g a f r) b ↔ ob g b ∨ b = a := by
    intro b
    unfold ob
    rw [hsl]
    constructor
    · rintro ⟨q1, q2⟩
      rw [hlo b q1.2.1] at q2
      by_cases e : b = a
      · exact Or.inr e
      · rw [if_neg e] at q2; exact Or.inl ⟨q1, q2⟩
    · rintro (⟨q1, q2⟩ | e)
      · rw [hlo b q1.2.1]
        refine ⟨q1, ?_⟩
        split
        · omega
        · exact q2
      · rw [e, hlo a a1, if_pos rfl]; exact ⟨ha, by omega⟩
  have hnok : ∀ v, nok g v → nok (plG g a f r) v := by
    intro v hv
    rcases hv with e | e
    · exact Or.inl e
    · exact Or.inr ((hob v).mpr (Or.inl e))
  have hR := row_gu (front := false) (c := 3) h1 h3 ha (by omega) (by omega) (by omega) (by omega) (by omega)
  rw [hc, Int.add_zero] at hR
  have hR2 := WR_congr (g' := plG g a f r) (rg := rmv rg (a / 2) (kz g a) (kz g a + 3) false) ⟨gu_w_pg (by omega) h1, gu_w_col ha (by omega) (by omega) h2, hR⟩
  refine ⟨⟨?_, ?_, fun p p0 p1 => ?_⟩, fun b b0 b1 => ?_, fun k k0 k1 => ⟨(hR k k0 k1).1, fun n => ?_⟩, fun b hb => ?_, ⟨fun x x0 x1 => ?_, fun b e hb e0 e1 => ?_⟩, ?_, ?_⟩
  · rw [hna 725 (by omega) (by omega) (by omega)]; exact h1.1
  · rw [hna 725 (by omega) (by omega) (by omega)]; exact h1.2.1
  · rw [hna 725 (by omega) (by omega) (by omega), hna _ (by omega) (by omega) (by omega)]; exact h1.2.2 p p0 p1
  · rw [hsl, hlo b b1]
    have := h2 b b0 b1
    by_cases e : b = a
    · rw [if_pos e, e]; exact ⟨by omega, by omega, fun q => absurd ha q⟩
    · rw [if_neg e]; exact this
  · rw [(hR k k0 k1).2 n, hsl, gu_sl (by omega)]
    unfold kz
    constructor
    · rintro ⟨q0, q1, q2, q3⟩
      rw [gu_pz (by omega) _ (by omega)] at q3
      rw [hpz _ (by omega) (by omega), hlo _ (by omega)]
      exact ⟨q0, q1, q2, q3⟩
    · rintro ⟨q0, q1, q2, q3⟩
      rw [hpz _ (by omega) (by omega), hlo _ (by omega)] at q3
      rw [gu_pz (by omega) _ (by omega)]
      exact ⟨q0, q1, q2, q3⟩
  · have hb' := (hsl b).mp hb
    have b0 := hb'.1
    have b1 := hb'.2.1
    rw [hlo b b1, pl_fl a0 a1 f0 r0 b0 b1, hpz b b0 b1]
    by_cases e : b = a
    · rw [if_pos e, if_pos e, e]; exact ⟨fun q => by omega, fun _ => ⟨f0, f1⟩⟩
    · rw [if_neg e, if_neg e]; exact h4 b hb'
  · rw [pl_na a0 af f0 r0 r1 (by omega) (by omega)]
    split
    · exact Or.inr ((hob a).mpr (Or.inr rfl))
    · exact hnok _ (h5.1 x x0 x1)
  · have hbs : sl g b := (hsl b).mp hb.1
    have b0 := hbs.1
    have b1 := hbs.2.1
    rw [pl_fl a0 a1 f0 r0 b0 b1] at e1
    by_cases q : b = a
    · rw [if_pos q] at e1
      rw [pl_ce a0 a1 f0 r0 (by omega) (by omega), if_pos (by omega)]
      exact Or.inl rfl
    · rw [if_neg q] at e1
      have hob' : ob g b := by
        rcases (hob b).mp hb with w | w
        · exact w
        · exact absurd w q
      have hfl := (h4 b hbs).2 hob'.2
      have hbb := base_of h1 (f := e + 1) hbs (by omega) (by omega)
      have hap : b + pz g b ≤ a ∨ a + pz g a ≤ b := by
        by_cases w : b < a
        · exact Or.inl (slot_apart h1 ha hbs w)
        · exact Or.inr (slot_apart h1 hbs ha (by omega))
      rw [pl_ce a0 a1 f0 r0 (by omega) (by omega), if_neg (by omega)]
      exact hnok _ (h5.2 b e hob' e0 e1)
  · unfold w_run
    obtain ⟨r1', r2, r3, r4, r5⟩ := h6
    rw [hna 726 (by omega) (by omega) (by omega), hna 727 (by omega) (by omega) (by omega), hna 728 (by omega) (by omega) (by omega)]
    refine ⟨r1', fun e => ?_, r3, fun b => ?_, ?_⟩
    · obtain ⟨s1, s2, s3, s4⟩ := r2 e
      refine ⟨s1, s2, s3, fun b b0 b1 => ?_⟩
      rw [hlo b b1]
      have := s4 b b0 b1
      split <;> omega
    · rw [r4 b, hob]
      constructor
      · rintro ⟨q1, q2, q3⟩
        refine ⟨Or.inl q1, ?_, q3⟩
        rw [hlo b q1.1.2.1, if_neg (fun e => by rw [e] at q2; omega)]; exact q2
      · rintro ⟨q1, q2, q3⟩
        rcases q1 with q1 | q1
        · rw [hlo b q1.1.2.1] at q2
          split at q2
          · omega
          · exact ⟨q1, q2, q3⟩
        · rw [q1, hlo a a1, if_pos rfl] at q2; omega
    · rcases r5 with r5 | r5
      · exact Or.inl r5
      · refine Or.inr ?_
        have q0 := r5.1.1.1
        have q1 := r5.1.1.2.1
        have hne : g 727 ≠ a := fun e => by have := r5.2.1; rw [e] at this; omega
        rw [hlo _ q1, pl_fl a0 a1 f0 r0 q0 q1, if_neg hne, if_neg hne]
        exact ⟨(hob _).mpr (Or.inl r5.1), r5.2⟩
  · unfold w_set
    rw [hna 735 (by omega) (by omega) (by omega), hna 736 (by omega) (by omega) (by omega), hna 737 (by omega) (by omega) (by omega), hna 738 (by omega) (by omega) (by omega)]
    exact h7
theorem HC_place {M M' : az_M} {h : Int} {gl : List Int} (hc : HC M h g rg gl) (hw : WF0 g rg gl) (ha : sl g a) (hca : g a = 0) (f0 : 0 ≤ f) (f1 : f < pz g a) (r0 : 0 ≤ r) (r1 : r < 6)
    (hR : RR (M' (h + 2)) (M' (h + 3)) (M' (h + 4)) (M' (h + 5)) (rmv rg (a / 2) (kz g a) (kz g a + 3) false)) (h4 : M' (h + 4) = fun x => if x = a / 2 then kz g a + 3 else M (h + 4) x)
    (h6 : M' (h + 6) = fun x => if a + 1 ≤ x ∧ x < a + 1 + f then -1 else if x = a then f else M (h + 6) x) (h8 : M' (h + 8) = fun p => if p = a / 16 then M (h + 8) p + 1 else M (h + 8) p)
    (h9 : M' (h + 9) = fun x => if x = r then a else M (h + 9) x) (h13 : M' (h + 13) = fun x => if x = 4 then az_wr (g 733 + 1) else M (h + 13) x)
    (ho : ∀ b, b < h + 2 ∨ h + 6 < b → b ≠ h + 8 → b ≠ h + 9 → b ≠ h + 13 → M' b = M b) : HC M' h (plG g a f r) (rmv rg (a / 2) (kz g a) (kz g a + 3) false) gl := by
  have a0 := ha.1
  have a1 := ha.2.1
  obtain ⟨e1, e2, e3, e4, e5⟩ := sl_even hw.1 ha
  have hb0 := base_of hw.1 (f := f) ha f0 f1
  have af : a + f < 128 := hb0.2.2
  have hlo : ∀ i, i < 128 → plG g a f r i = if i = a then 3 else g i := fun i hi => pl_lo a0 f0 r0 hi
  have hsl := pl_sl (g := g) a0 af f0 r0 r1
  have hpz : ∀ b, 0 ≤ b → b < 128 → pz (plG g a f r) b = pz g b := fun b b0 b1 => pl_pz a0 af f0 r0 r1 b0 b1
  have hna : ∀ i, 384 ≤ i → i ≠ 733 → i ≠ 715 + r → plG g a f r i = g i := fun i i0 i1 i2 => by rw [pl_na a0 af f0 r0 r1 i0 i1, if_neg i2]
  obtain ⟨q1, q2, q3, q4, q5, q6, q7, q8, q9, q10, q11⟩ := hc
  refine ⟨hR, ?_, ?_, ?_, ?_, ?_, ?_, ?_, ?_, ?_, ?_⟩
  · intro n n0 n1
    unfold kz
    rw [hsl, h4, hpz _ (by omega) (by omega), hlo _ (by omega)]
    show (_ → (if n = a / 2 then kz g a + 3 else _) = _) ∧ (_ → (if n = a / 2 then kz g a + 3 else _) = _)
    by_cases e : n = a / 2
    · rw [if_pos e, if_pos (by omega), show 2 * n = a by omega]
      exact ⟨fun _ => rfl, fun q => absurd ha q⟩
    · rw [if_neg e, if_neg (by omega)]
      exact q2 n n0 n1
  · intro b hb
    have hbs := (hsl b).mp hb
    have b0 := hbs.1
    have b1 := hbs.2.1
    rw [hlo b b1, pl_fl a0 a1 f0 r0 b0 b1, h6]
    by_cases e : b = a
    · rw [if_pos e, if_pos e, e]
      refine ⟨fun q => by omega, fun _ => ⟨?_, fun x x0 x1 => ?_⟩⟩
      · show (if a + 1 ≤ a ∧ a < a + 1 + f then -1 else if a = a then f else M (h + 6) a) = f
        rw [if_neg (by omega), if_pos rfl]
      · show (if a + 1 ≤ a + 1 + x ∧ a + 1 + x < a + 1 + f then -1 else if a + 1 + x = a then f else M (h + 6) (a + 1 + x)) = _
        rw [if_pos (by omega), pl_ce a0 a1 f0 r0 (by omega) (by omega), if_pos (by omega)]
    · rw [if_neg e, if_neg e]
      have hap : b + pz g b ≤ a ∨ a + pz g a ≤ b := by
        by_cases w : b < a
        · exact Or.inl (slot_apart hw.1 ha hbs w)
        · exact Or.inr (slot_apart hw.1 hbs ha (by omega))
      have hpb := (sl_even hw.1 hbs).2.1
      have hoff : ∀ x, b ≤ x → x < b + pz g b → (if a + 1 ≤ x ∧ x < a + 1 + f then -1 else if x = a then f else M (h + 6) x) = M (h + 6) x := fun x x0 x1 => by rw [if_neg (by omega), if_neg (by omega)]
      have := q3 b hbs
      refine ⟨fun q => (hoff b (by omega) (by omega)).trans (this.1 q), fun q => ?_⟩
      have hfl := (hw.2.2.2.1 b hbs).2 q
      refine ⟨(hoff b (by omega) (by omega)).trans (this.2 q).1, fun x x0 x1 => ?_⟩
      have hbb := base_of hw.1 (f := x + 1) hbs (by omega) (by omega)
      rw [pl_ce a0 a1 f0 r0 (by omega) (by omega), if_neg (by omega)]
      exact (hoff _ (by omega) (by omega)).trans ((this.2 q).2 x x0 x1)
  · intro p p0 p1
    rw [ho _ (by omega) (by omega) (by omega) (by omega), hna _ (by omega) (by omega) (by omega)]; exact q4 p p0 p1
  · intro p p0 p1
    rw [h8]
    show (if p = a / 16 then M (h + 8) p + 1 else M (h + 8) p) = _
    have hm : a / 2 ∈ rg (kz g a) := ((hw.2.2.1 _ (by omega) (by omega)).2 (a / 2)).mpr ⟨by omega, by omega, by rw [show 2 * (a / 2) = a by omega]; exact ⟨ha, by omega⟩⟩
    rw [us_rmv false hm p, q5 p p0 p1]
    have hk : kz g a = 0 ∨ kz g a = 4 ∨ kz g a = 8 := by unfold kz at e4 e5 ⊢; omega
    have hd : a / 2 / 8 = p ↔ p = a / 16 := by omega
    rcases hk with e | e | e <;> rw [e] <;> simp [hd] <;> split <;> omega
  · refine ⟨fun x x0 x1 => ?_, fun w w0 w1 => ?_⟩
    · rw [h9, pl_na a0 af f0 r0 r1 (by omega) (by omega)]
      show (if x = r then a else M (h + 9) x) = _
      by_cases e : x = r
      · rw [if_pos e, if_pos (by omega)]
      · rw [if_neg e, if_neg (by omega)]; exact q6.1 x x0 x1
    · rw [ho _ (by omega) (by omega) (by omega) (by omega), hna _ (by omega) (by omega) (by omega)]; exact q6.2 w w0 w1
  · exact c_gry_c q7 (ho _ (by omega) (by omega) (by omega) (by omega)) (by rw [ho h (by omega) (by omega) (by omega) (by omega)])
  · exact c_set_c q8 (ho _ (by omega) (by omega) (by omega) (by omega)) (fun i _ _ => hna i (by omega) (by omega) (by omega))
  · intro i i0 i1
    rw [h13]
    show (if i = 4 then az_wr (g 733 + 1) else M (h + 13) i) = _
    by_cases e : i = 4
    · rw [if_pos e, e]
      exact (pl_md a0 af f0 r0 r1).symm
    · rw [if_neg e, hna _ (by omega) (by omega) (by omega)]; exact q9 i i0 i1
  · exact c_log_c q10 (ho _ (by omega) (by omega) (by omega) (by omega)) (fun i _ => hna i (by omega) (by omega) (by omega))
  · exact c_sca_c q11 (fun j _ => by rw [ho h (by omega) (by omega) (by omega) (by omega)]) (fun i _ => hna i (by omega) (by omega) (by omega))
end PL
