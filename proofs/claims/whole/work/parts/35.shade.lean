/-! Heap.shade -/
abbrev hSt : Type := (Int → Int) × (Int → List Int) × List Int
def HS (M : az_M) (h : Int) (S : hSt) : Prop := HC M h S.1 S.2.1 S.2.2
def WS (S : hSt) : Prop := WF0 S.1 S.2.1 S.2.2
theorem HS_ro {M : az_M} {h : Int} {S : hSt} (hc : HS M h S) : ∀ x, 0 ≤ x → x < 64 → 0 ≤ M (h + 4) x := fun x h0 h1 => (hc.1.2.2 x h0 h1).1
theorem gl_len {S : hSt} (hw : WS S) : S.2.2.length ≤ 64 := by
  have hr := hw.2.2.2.2.2.1
  have hp := hw.1
  have h1 : (S.2.2.map (fun a => a / 2)).Nodup := by
    have : ∀ l : List Int, l.Nodup → (∀ a ∈ l, a % 2 = 0) → (l.map (fun a => a / 2)).Nodup := by
      intro l
      induction l with
      | nil => intro _ _; simp
      | cons x t ih =>
        intro hn he
        obtain ⟨n1, n2⟩ := List.nodup_cons.mp hn
        rw [List.map_cons]
        refine List.nodup_cons.mpr ⟨fun hm => ?_, ih n2 (fun a ha => he a (List.mem_cons_of_mem _ ha))⟩
        obtain ⟨y, hy, e⟩ := List.mem_map.mp hm
        have e1 := he y (List.mem_cons_of_mem _ hy)
        have e2 := he x List.mem_cons_self
        have : y = x := by omega
        exact n1 (by rw [← this]; exact hy)
    exact this _ hr.2.2.1 (fun a ha => (sl_even hp ((hr.2.2.2.1 a).mp ha).1.1).1)
  have h2 := nodup_le 64 _ h1 (fun x hx => by
    obtain ⟨a, ha, rfl⟩ := List.mem_map.mp hx
    have := ((hr.2.2.2.1 a).mp ha).1.1
    have h0 := this.1
    have h9 := this.2.1
    omega)
  rw [List.length_map] at h2
  exact h2
theorem getD_app_l {l : List Int} {a : Int} {i : Nat} (h : i < l.length) : (l ++ [a]).getD i 0 = l.getD i 0 := by
  rw [List.getD_eq_getElem?_getD, List.getD_eq_getElem?_getD, List.getElem?_append_left h]
theorem getD_app_r {l : List Int} {a : Int} : (l ++ [a]).getD l.length 0 = a := by
  rw [List.getD_eq_getElem?_getD, List.getElem?_append_right (Nat.le_refl _)]
  simp
/-- the cells behind a grey one more -/
theorem HC_grey {M M' : az_M} {h a : Int} {g : Int → Int} {rg : Int → List Int} {gl : List Int} (hc : HC M h g rg gl) (hw : WF0 g rg gl) (ha : ob g a) (h1 : g a = 1)
    (hR : RR (M' (h + 2)) (M' (h + 3)) (M' (h + 4)) (M' (h + 5)) (rmv rg (a / 2) (kz g a + 1) (kz g a + 2) true)) (h4 : M' (h + 4) = fun x => if x = a / 2 then kz g a + 2 else M (h + 4) x)
    (hg : M' (h + 11) = fun j => if j = (gl.length : Int) then a else M (h + 11) j) (hwt : M' h = fun j => if j = 11 then (gl.length : Int) + 1 else M h j)
    (ho : ∀ b, b ≠ h → b < h + 2 ∨ h + 5 < b → b ≠ h + 11 → M' b = M b) : HC M' h (gu g a 2) (rmv rg (a / 2) (kz g a + 1) (kz g a + 2) true) (gl ++ [a]) := by
  obtain ⟨c1, c2, c3, c4, c5, c6, c7, c8, c9, c10, c11⟩ := hc
  have ha1 := ha.1.2.1
  have ha0 := ha.1.1
  obtain ⟨e1, e2, e3, e4, e5⟩ := sl_even hw.1 ha.1
  have hbig : ∀ x, 128 ≤ x → gu g a 2 x = g x := fun x hx => gu_n _ _ (by omega)
  have hkz : ∀ b, 0 ≤ b → kz (gu g a 2) b = kz g b := fun b hb => by unfold kz; rw [gu_pz (by omega) b hb]
  refine ⟨hR, ?_, ?_, ?_, ?_, ?_, ?_, ?_, ?_, ?_, ?_⟩
  · intro n n0 n1
    rw [gu_sl (by omega), h4, hkz _ (by omega)]
    show (_ → (if n = a / 2 then _ else _) = _) ∧ (_ → (if n = a / 2 then _ else _) = _)
    by_cases e : n = a / 2
    · rw [if_pos e, show 2 * n = a by omega, gu_s]
      exact ⟨fun _ => rfl, fun q => absurd ha.1 q⟩
    · rw [if_neg e, gu_n _ _ (show 2 * n ≠ a by omega)]
      exact c2 n n0 n1
  · intro b hb
    rw [gu_sl (by omega)] at hb
    have hb0 := hb.1
    have hb1 := hb.2.1
    have := c3 b hb
    rw [ho (h + 6) (by omega) (by omega) (by omega), hbig (128 + b) (by omega)]
    by_cases e : b = a
    · subst e
      rw [gu_s]
      refine ⟨fun q => by omega, fun _ => ?_⟩
      obtain ⟨q1, q2⟩ := this.2 ha.2
      exact ⟨q1, fun f f0 f1 => by rw [hbig _ (by omega)]; exact q2 f f0 f1⟩
    · rw [gu_n _ _ e]
      exact ⟨this.1, fun q => ⟨(this.2 q).1, fun f f0 f1 => by rw [hbig _ (by omega)]; exact (this.2 q).2 f f0 f1⟩⟩
  · intro p p0 p1
    rw [ho (h + 7) (by omega) (by omega) (by omega), hbig _ (by omega)]
    exact c4 p p0 p1
  · intro p p0 p1
    rw [ho (h + 8) (by omega) (by omega) (by omega), c5 p p0 p1]
    have hm : a / 2 ∈ rg (kz g a + 1) := ((hw.2.2.1 _ (by omega) (by omega)).2 (a / 2)).mpr ⟨by omega, by omega, by rw [show 2 * (a / 2) = a by omega]; exact ⟨ha.1, by omega⟩⟩
    rw [us_rmv true hm p]
    have hk : kz g a = 0 ∨ kz g a = 4 ∨ kz g a = 8 := by unfold kz at e4 e5 ⊢; omega
    rcases hk with e | e | e <;> rw [e] <;> simp
  · refine ⟨fun r r0 r1 => ?_, fun w w0 w1 => ?_⟩
    · rw [ho (h + 9) (by omega) (by omega) (by omega), hbig _ (by omega)]
      exact c6.1 r r0 r1
    · rw [ho (h + 10) (by omega) (by omega) (by omega), hbig _ (by omega)]
      exact c6.2 w w0 w1
  · refine ⟨by rw [hwt, List.length_append]; simp, fun i hi => ?_⟩
    rw [hg]
    show (if (i : Int) = (gl.length : Int) then a else M (h + 11) i) = _
    rw [List.length_append, List.length_singleton] at hi
    by_cases e : i = gl.length
    · rw [if_pos (by omega), e, getD_app_r]
    · rw [if_neg (by omega), getD_app_l (by omega)]
      exact c7.2 i (by omega)
  · intro i i0 i1
    rw [ho (h + 12) (by omega) (by omega) (by omega), hbig _ (by omega)]
    exact c8 i i0 i1
  · intro i i0 i1
    rw [ho (h + 13) (by omega) (by omega) (by omega), hbig _ (by omega)]
    exact c9 i i0 i1
  · unfold c_log
    rw [ho (h + 14) (by omega) (by omega) (by omega), hbig 729 (by omega), hbig 741 (by omega)]
    refine ⟨c10.1, c10.2.1, fun i w i0 i1 w0 w1 => ?_⟩
    rw [hbig _ (by omega)]
    exact c10.2.2 i w i0 i1 w0 w1
  · unfold c_sca
    rw [hwt, hbig 725 (by omega), hbig 727 (by omega), hbig 728 (by omega), hbig 740 (by omega), hbig 726 (by omega)]
    unfold c_sca at c11
    simpa using c11
/-- what a shading leaves as it was -/
def frS (M M' : az_M) (h : Int) : Prop := (∀ b, b ≠ h → b < h + 2 ∨ h + 5 < b → b ≠ h + 11 → M' b = M b) ∧ ∀ j, j ≠ 11 → M' h j = M h j
theorem frS.refl (M : az_M) (h : Int) : frS M M h := ⟨fun _ _ _ _ => rfl, fun _ _ => rfl⟩
set_option maxRecDepth 20000 in
set_option maxHeartbeats 1000000 in
theorem sp_shade {K : az_K} {h : Int} (hK : HpK K h) (M : az_M) {S : hSt} (hc : HS M h S) (hw : WS S) (nb fr to : Int) (nn n : Nat) (hnb : az_at K nb (100, nn)) (hnr : nb ≠ h ∧ (nb < h + 2 ∨ h + 5 < nb) ∧ nb ≠ h + 11) (f0 : 0 ≤ fr) (hto : to = fr + n) (t1 : to ≤ nn) (hn1 : nn ≤ 1000)
    (hnm : ∀ i : Nat, i < n → nok S.1 (M nb (fr + i))) : AM yX0_shade cX0_shade 6 none 1 0 0 [(1, h), (1, nb), (0, fr), (0, to)] K M (qv K (fun M' => HS M' h (greyF S (fun i => M nb (fr + i)) n) ∧ frS M M' h)) := by
  have hK0 := hK
  obtain ⟨hRg, kh, k6, k7, k8, k9, k10, k11, k12, k13, k14, z0, z1, z2, z3, z4, z5, z6, z7, z8, z9⟩ := hK
  refine am_of (by decide) (Nat.le_of_ble_eq_true rfl) (L := [(1, h), (1, nb), (0, fr), (0, to), (9, 0), (9, 0)]) rfl ?_
  have hGF := fun (i : Nat) (hi : i ≤ n) => greyF_ok (f := fun i => M nb (fr + i)) hw i (fun j hj => hnm j (by omega))
  refine aw_iload_n dX0_shade_0 rfl rfl ?_
  refine aw_istore dX0_shade_1 (by decide) ?_
  have loop : ∀ (k i : Nat) (M1 : az_M) (x5 : az_V) (x4 : Int), x4 = fr + i → n - i < k → i ≤ n → HS M1 h (greyF S (fun i => M nb (fr + i)) i) → frS M M1 h → AW az_P0 (az_Z (qv K (fun M' => HS M' h (greyF S (fun i => M nb (fr + i)) n) ∧ frS M M' h)) 0 0) (az_rm 1 0 0) yX0_shade cX0_shade 6 none 0 0 3 [(1, h), (1, nb), (0, fr), (0, to), (0, x4), x5] [] K M1 := by
    intro k
    induction k with
    | zero => intro i M1 x5 x4 _ hk; omega
    | succ k ih =>
      intro i M1 x5 x4 hx4 hk hi hs hf
      refine aw_iload dX0_shade_3 rfl ?_
      refine aw_iload_n dX0_shade_5 rfl rfl ?_
      refine aw_icmp_ge (tgt := 75) dX0_shade_6 rfl (fun h6 => ?_) (fun h6 => ?_)
      · have : i = n := by omega
        subst this
        exact aw_vret dX0_shade_75 (by decide) (by decide) ⟨rfl, rfl, hs, hf⟩
      · have hin : i < n := by omega
        have hv : M1 nb x4 = M nb (fr + i) := by rw [hx4, hf.1 nb hnr.1 hnr.2.1 hnr.2.2]
        obtain ⟨a, ha⟩ : ∃ a, a = M nb (fr + i) := ⟨_, rfl⟩
        rw [← ha] at hv
        obtain ⟨w1, w2, w3⟩ := hGF i (by omega)
        generalize hSi : greyF S (fun i => M nb (fr + i)) i = Si at hs w1 w2 w3
        have hstep : greyF S (fun i => M nb (fr + i)) (i + 1) = greyS Si a := by
          show greyS (greyF S (fun i => M nb (fr + i)) i) (M nb (fr + i)) = _
          rw [hSi, ← ha]
        have hnok : nok Si.1 a := by
          have := hnm i hin
          rw [← ha] at this
          rcases this with e | e
          · exact Or.inl e
          · exact Or.inr ((w2 a).mpr e)
        have hcat := cAt_nok w1.1 w1.2.1 hs.2.1 hnok
        have ha128 : a < 128 := by
          rcases hnok with e | e
          · omega
          · exact e.1.2.1
        refine aw_aload_n dX0_shade_9 rfl rfl ⟨by decide, by decide⟩ ?_
        refine aw_iload dX0_shade_10 rfl ?_
        refine aw_iv dX0_shade_12 (by assumption) (by omega) (by omega) hv ?_
        refine aw_istore dX0_shade_13 (by decide) ?_
        refine aw_aload_n dX0_shade_15 rfl rfl ⟨by decide, by decide⟩ ?_
        refine aw_gzF 0 dX0_shade_16 fl_RX0_12 (by assumption) rfl rfl (by assumption) ?_
        refine aw_iload dX0_shade_19 rfl ?_
        refine aw_cV1p dX0_shade_21 ml_RX0_88 hRg.1 (by decide) rfl rfl ⟨by decide, by decide, by decide, by decide⟩ (Nat.le_of_ble_eq_true rfl) (sp_colourAt hRg M1 a (HS_ro hs)) ?_
        refine aw_iconst dX0_shade_24 rfl ⟨by decide, by decide⟩ ?_
        refine aw_icmp_ne (tgt := 69) dX0_shade_25 rfl (fun h25 => ?_) (fun h25 => ?_)
        · rw [hcat] at h25
          refine aw_iinc dX0_shade_69 rfl (az_wr_id (by omega) (by omega)) (by decide) ?_
          refine aw_goto (tgt := 3) dX0_shade_72 rfl ?_
          refine ih (i + 1) M1 _ _ (by omega) (by omega) (by omega) ?_ hf
          rw [hstep]
          unfold greyS
          rw [if_neg]
          · exact hs
          · rintro ⟨q1, q2⟩
            rw [if_pos q1] at h25
            exact h25 q2
        · rw [hcat] at h25
          have hc1 : 0 ≤ a ∧ Si.1 a = 1 := by
            by_cases q : 0 ≤ a
            · rw [if_pos q] at h25; exact ⟨q, h25⟩
            · rw [if_neg q] at h25; omega
          have hob : ob Si.1 a := by
            rcases hnok with e | e
            · omega
            · exact e
          obtain ⟨e1, e2, e3, e4, e5⟩ := sl_even w1.1 hob.1
          have hsz : M1 (h + 7) (a / 16) = pz Si.1 a := hs.2.2.2.1 (a / 16) (by omega) (by omega)
          have hkz : pz Si.1 a / 4 * 4 = kz Si.1 a := rfl
          have hro : M1 (h + 4) (a / 2) = kz Si.1 a + 1 := by
            have := (hs.2.1 (a / 2) (by omega) (by omega)).1
            rw [show 2 * (a / 2) = a by omega, hc1.2] at this
            exact this hob.1
          have hlen := gl_len (S := Si) w1
          have hlen1 : Si.2.2.length < 64 := by
            have := gl_len (S := greyS Si a) (greyS_wf (g := Si.1) (rg := Si.2.1) (gl := Si.2.2) w1 hnok)
            unfold greyS at this
            rw [if_pos hc1] at this
            have h9 : (Si.2.2 ++ [a]).length ≤ 64 := this
            rw [List.length_append, List.length_singleton] at h9
            omega
          have hwt : M1 h 11 = (Si.2.2.length : Int) := hs.2.2.2.2.2.2.1.1
          have hspm := fun (kk : Int) (hkk : kk = kz Si.1 a + 2) => sp_move hRg M1 hs.1 a kk 1 (by omega) (by omega) (by omega) (by omega) (Or.inr rfl)
          have hrow : M1 (h + 7) (a / 16) / 4 * 4 + 2 = kz Si.1 a + 2 := by rw [hsz, hkz]
          refine aw_aload_n dX0_shade_28 rfl rfl ⟨by decide, by decide⟩ ?_
          refine aw_gzF 0 dX0_shade_29 fl_RX0_12 (by assumption) rfl rfl (by assumption) ?_
          refine aw_iload dX0_shade_32 rfl ?_
          refine aw_aload_n dX0_shade_34 rfl rfl ⟨by decide, by decide⟩ ?_
          refine aw_iload dX0_shade_35 rfl ?_
          refine aw_cV1p dX0_shade_37 ml_RX0_116 (by assumption) (by decide) rfl rfl ⟨by decide, by decide, by decide, by decide⟩ (Nat.le_of_ble_eq_true rfl) (sp_sizeAtC hK0 M1 a (by omega) (by omega)) ?_
          refine aw_iconst dX0_shade_40 rfl ⟨by decide, by decide⟩ ?_
          refine aw_cS2p dX0_shade_41 ml_RX0_96 ⟨by decide, by decide, by decide, by decide⟩ (Nat.le_of_ble_eq_true rfl) (sp_row K M1 _ 2 (by omega) (by omega) (by omega) (by omega)) ?_
          refine aw_iconst dX0_shade_44 rfl ⟨by decide, by decide⟩ ?_
          refine aw_cV3v dX0_shade_45 ml_RX0_105 hRg.1 (by decide) rfl rfl ⟨by decide, by decide, by decide, by decide⟩ (Nat.le_of_ble_eq_true rfl) (hspm _ hrow) (fun M2 hM2 => ?_)
          rw [hrow, hro] at hM2
          simp only [decide_true] at hM2
          obtain ⟨m1, m2, m3⟩ := hM2
          have hwt2 : M2 h 11 = (Si.2.2.length : Int) := by rw [m3 h (by omega)]; exact hwt
          refine aw_aload_n dX0_shade_48 rfl rfl ⟨by decide, by decide⟩ ?_
          refine aw_gzF 6 dX0_shade_49 fl_RX0_34 (by assumption) rfl rfl (by assumption) ?_
          refine aw_aload_n dX0_shade_52 rfl rfl ⟨by decide, by decide⟩ ?_
          refine aw_gi 11 dX0_shade_53 fl_RX0_62 (by assumption) rfl rfl hwt2 ?_
          refine aw_iload dX0_shade_56 rfl ?_
          refine aw_iast dX0_shade_58 (by assumption) (by omega) (by omega) ?_
          have hwt3 : az_up M2 (h + 11) (Si.2.2.length : Int) a h 11 = (Si.2.2.length : Int) := by rw [az_up_a _ _ _ _ (by omega)]; exact hwt2
          refine aw_aload_n dX0_shade_59 rfl rfl ⟨by decide, by decide⟩ ?_
          refine aw_dup dX0_shade_60 ?_
          refine aw_gi 11 dX0_shade_61 fl_RX0_62 (by assumption) rfl rfl hwt3 ?_
          refine aw_iconst dX0_shade_64 rfl ⟨by decide, by decide⟩ ?_
          refine aw_iadd dX0_shade_65 (az_wr_id (by omega) (by omega)) ?_
          refine aw_pi 11 dX0_shade_66 fl_RX0_62 (by assumption) rfl rfl ?_
          refine aw_iinc dX0_shade_69 rfl (az_wr_id (by omega) (by omega)) (by decide) ?_
          refine aw_goto (tgt := 3) dX0_shade_72 rfl ?_
          refine ih (i + 1) _ _ _ (by omega) (by omega) (by omega) ?_ ?_
          · rw [hstep]
            unfold greyS
            rw [if_pos hc1]
            refine HC_grey hs w1 hob hc1.2 ?_ ?_ ?_ ?_ ?_
            · rw [up_oth _ _ _ (by omega), up_oth _ _ _ (by omega), up_oth _ _ _ (by omega), up_oth _ _ _ (by omega), up_oth _ _ _ (by omega), up_oth _ _ _ (by omega), up_oth _ _ _ (by omega), up_oth _ _ _ (by omega)]
              exact m1
            · rw [up_oth _ _ _ (by omega), up_oth _ _ _ (by omega), m2]
            · rw [up_oth _ _ _ (by omega), up_row, m3 _ (by omega)]
            · rw [up_row, up_oth _ _ _ (by omega), m3 _ (by omega)]
            · intro b b1 b2 b3
              rw [up_oth _ _ _ b1, up_oth _ _ _ b3, m3 b (by omega)]
          · refine ⟨fun b b1 b2 b3 => ?_, fun j hj => ?_⟩
            · rw [up_oth _ _ _ b1, up_oth _ _ _ b3, m3 b (by omega)]
              exact hf.1 b b1 b2 b3
            · rw [az_up_i _ _ _ _ hj, az_up_a _ _ _ _ (by omega), m3 h (by omega)]
              exact hf.2 j hj
  exact loop (n + 1) 0 M (9, 0) fr (by omega) (by omega) (by omega) hc (frS.refl M h)
