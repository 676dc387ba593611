/-! Heap.forget; a slot that comes free -/
/-- a name of one whose first cell says that it is free -/
def dd (c : Int → Int) (v : Int) : Int := if v ≠ -1 ∧ c v = -1 then 1 else 0
theorem dd_01 (c : Int → Int) (v : Int) : dd c v = 0 ∨ dd c v = 1 := by unfold dd; split <;> simp
def fgt (M : az_M) (h nb fr to : Int) : az_M := fun b => if b = nb then (fun j => if fr ≤ j ∧ j < to ∧ dd (M (h + 6)) (M nb j) = 1 then -1 else M nb j) else M b
set_option maxRecDepth 20000 in
set_option maxHeartbeats 1000000 in
theorem sp_forget {K : az_K} {h : Int} (hK : HpK K h) (M : az_M) (nb fr to : Int) (nn n : Nat) (hnb : az_at K nb (100, nn)) (f0 : 0 ≤ fr) (hto : to = fr + n) (t1 : to ≤ nn) (hn1 : nn ≤ 1000)
    (hnm : ∀ j, fr ≤ j → j < to → M nb j = -1 ∨ 0 ≤ M nb j ∧ M nb j < 128 ∧ (nb = h + 6 → M nb j < fr ∨ to ≤ M nb j)) : AM yX0_forget cX0_forget 6 (some .int) 0 0 0 [(1, h), (1, nb), (0, fr), (0, to)] K M (qi K (fun z M' => z = sumN n (fun i => dd (M (h + 6)) (M nb (fr + i))) ∧ M' = fgt M h nb fr to)) := by
  obtain ⟨hRg, kh, k6, k7, k8, k9, k10, k11, k12, k13, k14, z0, z1, z2, z3, z4, z5, z6, z7, z8, z9⟩ := hK
  refine am_of (by decide) (Nat.le_of_ble_eq_true rfl) (L := [(1, h), (1, nb), (0, fr), (0, to), (9, 0), (9, 0)]) rfl ?_
  refine aw_iconst dX0_forget_0 rfl ⟨by decide, by decide⟩ ?_
  refine aw_istore dX0_forget_1 (by decide) ?_
  refine aw_iload_n dX0_forget_3 rfl rfl ?_
  refine aw_istore dX0_forget_4 (by decide) ?_
  have loop : ∀ (k i : Nat) (M1 : az_M) (x y : Int), x = sumN i (fun i => dd (M (h + 6)) (M nb (fr + i))) → y = fr + i → i ≤ n → n - i < k → M1 = fgt M h nb fr (fr + i) → AW az_P0 (az_Z (qi K (fun z M' => z = sumN n (fun i => dd (M (h + 6)) (M nb (fr + i))) ∧ M' = fgt M h nb fr to)) 0 0) (az_rm 0 0 0) yX0_forget cX0_forget 6 (some .int) 0 0 6 [(1, h), (1, nb), (0, fr), (0, to), (0, x), (0, y)] [] K M1 := by
    intro k
    induction k with
    | zero => intro i M1 x y _ _ _ hk; omega
    | succ k ih =>
      intro i M1 x y hx hy hi hk hM
      refine aw_iload dX0_forget_6 rfl ?_
      refine aw_iload_n dX0_forget_8 rfl rfl ?_
      refine aw_icmp_ge (tgt := 47) dX0_forget_9 rfl (fun h9 => ?_) (fun h9 => ?_)
      · have e : i = n := by omega
        refine aw_iload dX0_forget_47 rfl ?_
        exact aw_iret dX0_forget_49 (by decide) (by decide) ⟨x, rfl, rfl, by rw [hx, e], by rw [hM, e, hto]⟩
      · have hin : i < n := by omega
        have hv : M1 nb y = M nb y := by
          rw [hM]
          unfold fgt
          rw [if_pos rfl, if_neg (by omega)]
        have hcell : ∀ v, v = -1 ∨ 0 ≤ v ∧ v < 128 ∧ (nb = h + 6 → v < fr ∨ to ≤ v) → v ≠ -1 → M1 (h + 6) v = M (h + 6) v := by
          intro v hv1 hv2
          rw [hM]
          unfold fgt
          by_cases e : h + 6 = nb
          · rw [if_pos e]
            have hv3 : v < fr ∨ to ≤ v := by
              rcases hv1 with q | q
              · exact absurd q hv2
              · exact q.2.2 e.symm
            rw [if_neg (by omega), ← e]
          · rw [if_neg e]
        have hy1 := hnm y (by omega) (by omega)
        have hsb := sumN_le (c := 1) i (f := fun i => dd (M (h + 6)) (M nb (fr + i))) (fun j _ => by have := dd_01 (M (h + 6)) (M nb (fr + (j : Int))); show 0 ≤ dd _ _ ∧ dd _ _ ≤ 1; omega)
        have hss : sumN (i + 1) (fun i => dd (M (h + 6)) (M nb (fr + i))) = x + dd (M (h + 6)) (M nb y) := by rw [hx, hy]; rfl
        have hkeep : dd (M (h + 6)) (M nb y) = 0 → M1 = fgt M h nb fr (fr + (i + 1 : Nat)) := by
          intro e
          rw [hM]
          funext b
          unfold fgt
          by_cases eb : b = nb
          · rw [if_pos eb, if_pos eb]
            funext j
            by_cases ej : j = y
            · rw [if_neg (by omega), if_neg (by rw [ej]; omega)]
            · by_cases q : fr ≤ j ∧ j < fr + (i : Int) ∧ dd (M (h + 6)) (M nb j) = 1
              · rw [if_pos q, if_pos ⟨q.1, by omega, q.2.2⟩]
              · rw [if_neg q, if_neg (fun w => q ⟨w.1, by omega, w.2.2⟩)]
          · rw [if_neg eb, if_neg eb]
        refine aw_aload_n dX0_forget_12 rfl rfl ⟨by decide, by decide⟩ ?_
        refine aw_iload dX0_forget_13 rfl ?_
        refine aw_iv dX0_forget_15 (by assumption) (by omega) (by omega) hv ?_
        refine aw_iconst dX0_forget_16 rfl ⟨by decide, by decide⟩ ?_
        refine aw_icmp_eq (tgt := 41) dX0_forget_17 rfl (fun h17 => ?_) (fun h17 => ?_)
        · have e0 : dd (M (h + 6)) (M nb y) = 0 := by unfold dd; rw [if_neg (by omega)]
          refine aw_iinc dX0_forget_41 rfl (az_wr_id (by omega) (by omega)) (by decide) ?_
          refine aw_goto (tgt := 6) dX0_forget_44 rfl ?_
          exact ih (i + 1) _ _ _ (by rw [hss, e0]; omega) (by omega) (by omega) (by omega) (hkeep e0)
        · have hc2 := hcell (M nb y) hy1 h17
          refine aw_aload_n dX0_forget_20 rfl rfl ⟨by decide, by decide⟩ ?_
          refine aw_gzF 1 dX0_forget_21 fl_RX0_18 (by assumption) rfl rfl (by assumption) ?_
          refine aw_aload_n dX0_forget_24 rfl rfl ⟨by decide, by decide⟩ ?_
          refine aw_iload dX0_forget_25 rfl ?_
          refine aw_iv dX0_forget_27 (by assumption) (by omega) (by omega) hv ?_
          refine aw_iv dX0_forget_28 (by assumption) (by omega) (by omega) hc2 ?_
          refine aw_iconst dX0_forget_29 rfl ⟨by decide, by decide⟩ ?_
          refine aw_icmp_ne (tgt := 41) dX0_forget_30 rfl (fun h30 => ?_) (fun h30 => ?_)
          · have e0 : dd (M (h + 6)) (M nb y) = 0 := by unfold dd; rw [if_neg (by omega)]
            refine aw_iinc dX0_forget_41 rfl (az_wr_id (by omega) (by omega)) (by decide) ?_
            refine aw_goto (tgt := 6) dX0_forget_44 rfl ?_
            exact ih (i + 1) _ _ _ (by rw [hss, e0]; omega) (by omega) (by omega) (by omega) (hkeep e0)
          · have e1 : dd (M (h + 6)) (M nb y) = 1 := by unfold dd; rw [if_pos ⟨h17, h30⟩]
            refine aw_aload_n dX0_forget_33 rfl rfl ⟨by decide, by decide⟩ ?_
            refine aw_iload dX0_forget_34 rfl ?_
            refine aw_iconst dX0_forget_36 rfl ⟨by decide, by decide⟩ ?_
            refine aw_iast dX0_forget_37 (by assumption) (by omega) (by omega) ?_
            refine aw_iinc dX0_forget_38 rfl (az_wr_id (by omega) (by omega)) (by decide) ?_
            refine aw_iinc dX0_forget_41 rfl (az_wr_id (by omega) (by omega)) (by decide) ?_
            refine aw_goto (tgt := 6) dX0_forget_44 rfl ?_
            refine ih (i + 1) _ _ _ (by rw [hss, e1]) (by omega) (by omega) (by omega) ?_
            rw [hM]
            funext b
            by_cases eb : b = nb
            · subst eb
              rw [up_row]
              unfold fgt
              simp only [if_true]
              funext j
              by_cases ej : j = y
              · rw [if_pos ej, if_pos ⟨by omega, by omega, by rw [ej]; exact e1⟩]
              · rw [if_neg ej]
                by_cases q : fr ≤ j ∧ j < fr + (i : Int) ∧ dd (M (h + 6)) (M b j) = 1
                · rw [if_pos q, if_pos ⟨q.1, by omega, q.2.2⟩]
                · rw [if_neg q, if_neg (fun w => q ⟨w.1, by omega, w.2.2⟩)]
            · rw [up_oth _ _ _ eb]
              unfold fgt
              rw [if_neg eb, if_neg eb]
  refine loop (n + 1) 0 M 0 fr rfl (by omega) (by omega) (by omega) ?_
  funext b
  unfold fgt
  by_cases eb : b = nb
  · rw [if_pos eb, eb]
    funext j
    rw [if_neg (by omega)]
  · rw [if_neg eb]
/-- an ecru one comes free -/
def fr1 (g : Int → Int) (a : Int) : Int → Int := gu (gu g a 0) (128 + a) 0
theorem fr1_big (g : Int → Int) {a x : Int} (h0 : 0 ≤ a) (h1 : a < 128) (hx : 256 ≤ x) : fr1 g a x = g x := by
  unfold fr1
  rw [gu_n _ _ (by omega), gu_n _ _ (by omega)]
theorem fr1_pz (g : Int → Int) {a b : Int} (h0 : 0 ≤ a) (h1 : a < 128) (hb : 0 ≤ b) : pz (fr1 g a) b = pz g b := fr1_big g h0 h1 (by omega)
theorem fr1_sl (g : Int → Int) {a : Int} (h0 : 0 ≤ a) (h1 : a < 128) (b : Int) : sl (fr1 g a) b ↔ sl g b := by
  unfold sl
  constructor
  · rintro ⟨q0, q1, q2⟩
    rw [fr1_pz g h0 h1 q0] at q2
    exact ⟨q0, q1, q2⟩
  · rintro ⟨q0, q1, q2⟩
    rw [fr1_pz g h0 h1 q0]
    exact ⟨q0, q1, q2⟩
theorem fr1_lo (g : Int → Int) {a b : Int} (h0 : 0 ≤ a) (hb : b < 128) : fr1 g a b = if b = a then 0 else g b := by
  unfold fr1
  rw [gu_n _ _ (by omega)]
  rfl
theorem WR_fr1 {g : Int → Int} {rg : Int → List Int} (h : WR g rg) {a : Int} (ha : sl g a) (hne : g a ≠ 0) : WR (fr1 g a) (rmv rg (a / 2) (kz g a + g a) (kz g a) false) := by
  have h1 := WR_mv h false ha (Int.le_refl 0) (by omega) hne
  rw [Int.add_zero] at h1
  obtain ⟨q1, q2, q3⟩ := h1
  have ha0 := ha.1
  have ha1 := ha.2.1
  have hsl : ∀ b, sl (fr1 g a) b ↔ sl (gu g a 0) b := fun b => (fr1_sl g ha0 ha1 b).trans (gu_sl (by omega) b).symm
  have hlo : ∀ b, b < 128 → fr1 g a b = gu g a 0 b := fun b hb => by unfold fr1; exact gu_n _ _ (by omega)
  refine ⟨gu_w_pg (by omega) q1, fun b b0 b1 => ?_, fun k k0 k1 => ⟨(q3 k k0 k1).1, fun n => ?_⟩⟩
  · rw [hsl, hlo b b1]
    exact q2 b b0 b1
  · rw [(q3 k k0 k1).2 n, hsl]
    have hk : ∀ n, 0 ≤ n → kz (fr1 g a) (2 * n) = kz (gu g a 0) (2 * n) := by
      intro n n0
      unfold kz
      rw [fr1_pz g ha0 ha1 (by omega), gu_pz (by omega) _ (by omega)]
    constructor
    · rintro ⟨w1, w2, w3, w4⟩
      exact ⟨w1, w2, w3, by rw [hk n w1, hlo _ (by omega)]; exact w4⟩
    · rintro ⟨w1, w2, w3, w4⟩
      exact ⟨w1, w2, w3, by rw [hk n w1, hlo _ (by omega)] at w4; exact w4⟩
theorem HC_free {M M' : az_M} {h a : Int} {g : Int → Int} {rg : Int → List Int} {gl : List Int} (hc : HC M h g rg gl) (hw : WR g rg) (ha : ob g a)
    (hR : RR (M' (h + 2)) (M' (h + 3)) (M' (h + 4)) (M' (h + 5)) (rmv rg (a / 2) (kz g a + g a) (kz g a) false)) (h4 : M' (h + 4) = fun x => if x = a / 2 then kz g a else M (h + 4) x)
    (h6 : M' (h + 6) = fun j => if j = a then -1 else M (h + 6) j) (h8 : M' (h + 8) = fun j => if j = a / 16 then M (h + 8) j - 1 else M (h + 8) j) (hfs : ∀ b, ob g b → b + g (128 + b) < a ∨ a ≤ b)
    (ho : ∀ b, b < h + 2 ∨ h + 5 < b → b ≠ h + 6 → b ≠ h + 8 → M' b = M b) : HC M' h (fr1 g a) (rmv rg (a / 2) (kz g a + g a) (kz g a) false) gl := by
  obtain ⟨q1, q2, q3, q4, q5, q6, q7, q8, q9, q10, q11⟩ := hc
  have ha1 := ha.1.2.1
  have ha0 := ha.1.1
  have hac := hw.2.1 a ha0 ha1
  have hne := ha.2
  obtain ⟨e1, e2, e3, e4, e5⟩ := sl_even hw.1 ha.1
  have hbig : ∀ x, 256 ≤ x → fr1 g a x = g x := fun x hx => fr1_big g ha0 ha1 hx
  have hkz : ∀ b, 0 ≤ b → kz (fr1 g a) b = kz g b := fun b hb => by unfold kz; rw [fr1_pz g ha0 ha1 hb]
  refine ⟨hR, ?_, ?_, ?_, ?_, ?_, ?_, ?_, ?_, ?_, ?_⟩
  · intro n n0 n1
    rw [fr1_sl g ha0 ha1, h4, hkz _ (by omega), fr1_lo g ha0 (by omega)]
    show (_ → (if n = a / 2 then _ else _) = _) ∧ (_ → (if n = a / 2 then _ else _) = _)
    by_cases e : n = a / 2
    · rw [if_pos e, show 2 * n = a by omega, if_pos rfl]
      exact ⟨fun _ => by omega, fun q => absurd ha.1 q⟩
    · rw [if_neg e, if_neg (show 2 * n ≠ a by omega)]
      exact q2 n n0 n1
  · intro b hb
    rw [fr1_sl g ha0 ha1] at hb
    have hb0 := hb.1
    have hb1 := hb.2.1
    have hq3 := q3 b hb
    rw [h6, fr1_lo g ha0 hb1]
    by_cases e : b = a
    · subst e
      simp
    · rw [if_neg e]
      have h128 : fr1 g a (128 + b) = g (128 + b) := by unfold fr1; rw [gu_n _ _ (by omega), gu_n _ _ (by omega)]
      show (_ → (if b = a then _ else _) = _) ∧ (_ → (if b = a then _ else _) = _ ∧ _)
      rw [if_neg e, h128]
      refine ⟨hq3.1, fun q => ⟨(hq3.2 q).1, fun f f0 f1 => ?_⟩⟩
      rw [hbig _ (by omega)]
      show (if b + 1 + f = a then _ else _) = _
      have := hfs b ⟨hb, q⟩
      rw [if_neg (by omega)]
      exact (hq3.2 q).2 f f0 f1
  · intro p p0 p1
    rw [ho (h + 7) (by omega) (by omega) (by omega), hbig _ (by omega)]
    exact q4 p p0 p1
  · intro p p0 p1
    rw [h8]
    show (if p = a / 16 then _ else _) = _
    have hm : a / 2 ∈ rg (kz g a + g a) := ((hw.2.2 _ (by omega) (by omega)).2 (a / 2)).mpr ⟨by omega, by omega, by rw [show 2 * (a / 2) = a by omega]; exact ⟨ha.1, rfl⟩⟩
    rw [us_rmv false hm p, q5 p p0 p1]
    have hk : kz g a = 0 ∨ kz g a = 4 ∨ kz g a = 8 := by unfold kz at e4 e5 ⊢; omega
    have hga : g a = 1 ∨ g a = 2 ∨ g a = 3 := by omega
    have h28 : a / 2 / 8 = a / 16 := by omega
    rw [h28]
    by_cases e : p = a / 16
    · rw [if_pos e]
      have e' : a / 16 = p := e.symm
      rcases hk with e | e | e <;> rcases hga with e'' | e'' | e'' <;> rw [e, e''] <;> simp [e']
    · rw [if_neg e]
      have e' : ¬ a / 16 = p := fun q => e q.symm
      simp [e']
  · refine ⟨fun r r0 r1 => ?_, fun w w0 w1 => ?_⟩
    · rw [ho (h + 9) (by omega) (by omega) (by omega), hbig _ (by omega)]
      exact q6.1 r r0 r1
    · rw [ho (h + 10) (by omega) (by omega) (by omega), hbig _ (by omega)]
      exact q6.2 w w0 w1
  · unfold c_gry
    rw [ho h (by omega) (by omega) (by omega), ho (h + 11) (by omega) (by omega) (by omega)]
    exact q7
  · intro i i0 i1
    rw [ho (h + 12) (by omega) (by omega) (by omega), hbig _ (by omega)]
    exact q8 i i0 i1
  · intro i i0 i1
    rw [ho (h + 13) (by omega) (by omega) (by omega), hbig _ (by omega)]
    exact q9 i i0 i1
  · unfold c_log
    rw [ho (h + 14) (by omega) (by omega) (by omega), hbig 729 (by omega), hbig 741 (by omega)]
    refine ⟨q10.1, q10.2.1, fun i w i0 i1 w0 w1 => ?_⟩
    rw [hbig _ (by omega)]
    exact q10.2.2 i w i0 i1 w0 w1
  · unfold c_sca
    rw [ho h (by omega) (by omega) (by omega), hbig 725 (by omega), hbig 727 (by omega), hbig 728 (by omega), hbig 740 (by omega), hbig 726 (by omega)]
    exact q11
