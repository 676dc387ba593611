/-! TreadRingModel runs a program -/
set_option maxRecDepth 20000
def FR (M : az_M) (m : Int) : fRs → Prop
  | [] => True
  | f :: fr => M (m + 20) (fr.length : Int) = f.1 ∧ M (m + 21) (fr.length : Int) = f.2.1 ∧ M (m + 22) (fr.length : Int) = f.2.2 ∧ FR M m fr
theorem FR.keep {M M' : az_M} {m : Int} : ∀ fr : fRs, FR M m fr → (∀ k, 0 ≤ k → k < (fr.length : Int) → M' (m + 20) k = M (m + 20) k ∧ M' (m + 21) k = M (m + 21) k ∧ M' (m + 22) k = M (m + 22) k) → FR M' m fr := by
  intro fr
  induction fr with
  | nil => intro _ _; trivial
  | cons f fr ih =>
    rintro ⟨h1, h2, h3, h4⟩ hk
    have hl : ((f :: fr).length : Int) = (fr.length : Int) + 1 := by rw [List.length_cons]; omega
    obtain ⟨a, b, c⟩ := hk (fr.length : Int) (by omega) (by omega)
    exact ⟨a.trans h1, b.trans h2, c.trans h3, ih h4 (fun k k0 k1 => hk k k0 (by omega))⟩
theorem FR.fr {M M' : az_M} {m : Int} {fr : fRs} (h : FR M m fr) (e : ∀ b, m + 20 ≤ b → b ≤ m + 22 → M' b = M b) : FR M' m fr := FR.keep fr h (fun k _ _ => ⟨by rw [e _ (by omega) (by omega)], by rw [e _ (by omega) (by omega)], by rw [e _ (by omega) (by omega)]⟩)
/-- what the blocks touch -/
def frK (M M' : az_M) (m : Int) : Prop := (∀ b, b ≠ m → b < m + 20 ∨ m + 22 < b → M' b = M b) ∧ ∀ j, j ≠ 39 → j ≠ 40 → M' m j = M m j
theorem frK.refl (M : az_M) (m : Int) : frK M M m := ⟨fun _ _ _ => rfl, fun _ _ _ => rfl⟩
theorem frK.trans {M M1 M2 : az_M} {m : Int} (p : frK M M1 m) (q : frK M1 M2 m) : frK M M2 m := ⟨fun b h1 h2 => (q.1 b h1 h2).trans (p.1 b h1 h2), fun j h1 h2 => (q.2 j h1 h2).trans (p.2 j h1 h2)⟩
theorem frT.ofK {M M' : az_M} {m : Int} (f : frK M M' m) : frT M M' m := ⟨⟨fun b h1 h2 => f.1 b (by omega) (by omega), fun j _ _ _ h3 h4 => f.2 j h3 h4⟩, f.1 _ (by omega) (by omega)⟩
/-- where one is in the program -/
def PS (M : az_M) (m : Int) (it : Int → Int → Int) (n : Int) (fr : fRs) (i : Int) : Prop := FR M m fr ∧ FV it n fr ∧ M m 39 = i ∧ M m 40 = (fr.length : Int) ∧ ts fr ≤ i ∧ i ≤ eo n fr
section LB
variable {K : az_K} {m : Int} {it : Int → Int → Int} {n : Int}
set_option maxHeartbeats 1000000 in
theorem sp_leaveBlocks (hK : MdK K m) (hN : NP it n) (M : az_M) (fr : fRs) (i : Int) (hp : PS M m it n fr i) : AM yX7_leaveBlocks cX7_leaveBlocks 1 none 0 0 0 [(1, m)] K M (qv K (fun M' => ∃ fr' i', PS M' m it n fr' i' ∧ (∀ st, den it n fr' i' st = den it n fr i st) ∧ mden it n fr' i' ≤ mden it n fr i ∧ (fr' = [] ∨ i' < eo n fr') ∧ frK M M' m)) := by
  have hK0 := hK
  obtain ⟨hKo, k3, k4, k5, k6, k7, k8, k9, k10, k11, k12, k13, k14, k15, k16, k17, k18, k19, k20, k21, k22, k23, k24, k25, y3, y4, y5, y6, y7, y8, y9, y10, y11, y12, y13, y14, y15, y16, y17, y18, y19, y20, y21, y22, y23, y24, y25⟩ := hK
  have hKo0 := hKo
  obtain ⟨hKa, k2, y2⟩ := hKo
  have hKa0 := hKa
  obtain ⟨km, k1, y1⟩ := hKa
  refine am_of (by decide) (Nat.le_of_ble_eq_true rfl) (L := [(1, m)]) rfl ?_
  generalize hQ : (fun M' : az_M => ∃ fr' i', PS M' m it n fr' i' ∧ (∀ st, den it n fr' i' st = den it n fr i st) ∧ mden it n fr' i' ≤ mden it n fr i ∧ (fr' = [] ∨ i' < eo n fr') ∧ frK M M' m) = Q
  have loop : ∀ (d : Nat) (fr1 : fRs) (i1 : Int) (M1 : az_M), aw_ fr1 ≤ d → PS M1 m it n fr1 i1 → (∀ st, den it n fr1 i1 st = den it n fr i st) → mden it n fr1 i1 ≤ mden it n fr i → frK M M1 m → AW az_P0 (az_Z (qv K Q) 0 0) (az_rm 0 0 0) yX7_leaveBlocks cX7_leaveBlocks 1 none 0 0 0 [(1, m)] [] K M1 := by
    intro d
    induction d with
    | zero =>
      intro fr1 i1 M1 hd hp1 hden hm hf
      cases fr1 with
      | nil =>
        have v1 : M1 m 40 = 0 := hp1.2.2.2.1
        refine aw_aload_n dX7_leaveBlocks_0 rfl rfl ⟨by decide, by decide⟩ ?_
        refine aw_gi 40 dX7_leaveBlocks_1 fl_RX7_436 (by assumption) rfl rfl v1 ?_
        refine aw_if_le (tgt := 85) dX7_leaveBlocks_4 rfl (fun h4 => ?_) (fun h4 => absurd h4 (by omega))
        refine aw_vret dX7_leaveBlocks_85 (by decide) (by decide) ⟨rfl, rfl, ?_⟩
        rw [← hQ]
        exact ⟨[], i1, hp1, hden, hm, Or.inl rfl, hf⟩
      | cons f fr2 =>
        exfalso
        have : f.2.2.toNat + 1 + aw_ fr2 ≤ 0 := hd
        omega
    | succ d ih =>
      intro fr1 i1 M1 hd hp1 hden hm hf
      cases fr1 with
      | nil =>
        have v1 : M1 m 40 = 0 := hp1.2.2.2.1
        refine aw_aload_n dX7_leaveBlocks_0 rfl rfl ⟨by decide, by decide⟩ ?_
        refine aw_gi 40 dX7_leaveBlocks_1 fl_RX7_436 (by assumption) rfl rfl v1 ?_
        refine aw_if_le (tgt := 85) dX7_leaveBlocks_4 rfl (fun h4 => ?_) (fun h4 => absurd h4 (by omega))
        refine aw_vret dX7_leaveBlocks_85 (by decide) (by decide) ⟨rfl, rfl, ?_⟩
        rw [← hQ]
        exact ⟨[], i1, hp1, hden, hm, Or.inl rfl, hf⟩
      | cons f fr2 =>
        have hd' : f.2.2.toNat + 1 + aw_ fr2 ≤ d + 1 := hd
        obtain ⟨⟨r1, r2, r3, r4⟩, hv, e39, e40, t0, t1⟩ := hp1
        have hv0 := hv
        have hl4 := (FV.rg hN hv).2.2
        obtain ⟨o1, o2, o3⟩ := FV.out hN hv
        obtain ⟨⟨b, b1, b2, b3, b4, b5, b6⟩, hv2⟩ := hv
        have hlc : ((f :: fr2).length : Int) = (fr2.length : Int) + 1 := by rw [List.length_cons]; omega
        have hll : fr2.length + 1 ≤ 4 := by rw [List.length_cons] at hl4; exact hl4
        have v1 : M1 m 40 = (fr2.length : Int) + 1 := e40.trans hlc
        have t1' : i1 ≤ f.2.1 := t1
        have hL : az_wr ((fr2.length : Int) + 1 - 1) = (fr2.length : Int) := by rw [az_wr_id (by omega) (by omega)]; omega
        refine aw_aload_n dX7_leaveBlocks_0 rfl rfl ⟨by decide, by decide⟩ ?_
        refine aw_gi 40 dX7_leaveBlocks_1 fl_RX7_436 (by assumption) rfl rfl v1 ?_
        refine aw_if_le (tgt := 85) dX7_leaveBlocks_4 rfl (fun h4 => absurd h4 (by omega)) (fun h4 => ?_)
        refine aw_aload_n dX7_leaveBlocks_7 rfl rfl ⟨by decide, by decide⟩ ?_
        refine aw_gi 39 dX7_leaveBlocks_8 fl_RX7_439 (by assumption) rfl rfl e39 ?_
        refine aw_aload_n dX7_leaveBlocks_11 rfl rfl ⟨by decide, by decide⟩ ?_
        refine aw_gzF 37 dX7_leaveBlocks_12 fl_RX7_75 (by assumption) rfl rfl (by assumption) ?_
        refine aw_aload_n dX7_leaveBlocks_15 rfl rfl ⟨by decide, by decide⟩ ?_
        refine aw_gi 40 dX7_leaveBlocks_16 fl_RX7_436 (by assumption) rfl rfl v1 ?_
        refine aw_iconst dX7_leaveBlocks_19 rfl ⟨by decide, by decide⟩ ?_
        refine aw_isub dX7_leaveBlocks_20 hL ?_
        refine aw_iv dX7_leaveBlocks_21 (by assumption) (by omega) (by omega) r2 ?_
        refine aw_icmp_ne (tgt := 85) dX7_leaveBlocks_22 rfl (fun h22 => ?_) (fun h22 => ?_)
        · refine aw_vret dX7_leaveBlocks_85 (by decide) (by decide) ⟨rfl, rfl, ?_⟩
          rw [← hQ]
          exact ⟨f :: fr2, i1, ⟨⟨r1, r2, r3, r4⟩, hv0, e39, e40, t0, t1⟩, hden, hm, Or.inr (by show i1 < f.2.1; omega), hf⟩
        · have hi1 : i1 = f.2.1 := h22
          have hden1 : ∀ st, den it n (f :: fr2) i1 st = den it n fr2 f.2.1 (itr f.2.2.toNat (ex it f.1 f.2.1) st) := fun st => by
            show den it n fr2 f.2.1 (itr f.2.2.toNat (ex it f.1 f.2.1) (ex it i1 f.2.1 st)) = _
            rw [ex_stop (fun q => by omega)]
          have hm1 : mden it n (f :: fr2) i1 = f.2.2.toNat * cst it f.1 f.2.1 + mden it n fr2 f.2.1 := by
            show cst it i1 f.2.1 + f.2.2.toNat * cst it f.1 f.2.1 + mden it n fr2 f.2.1 = _
            rw [cst_0 (by omega)]; omega
          refine aw_aload_n dX7_leaveBlocks_25 rfl rfl ⟨by decide, by decide⟩ ?_
          refine aw_gzF 38 dX7_leaveBlocks_26 fl_RX7_78 (by assumption) rfl rfl (by assumption) ?_
          refine aw_aload_n dX7_leaveBlocks_29 rfl rfl ⟨by decide, by decide⟩ ?_
          refine aw_gi 40 dX7_leaveBlocks_30 fl_RX7_436 (by assumption) rfl rfl v1 ?_
          refine aw_iconst dX7_leaveBlocks_33 rfl ⟨by decide, by decide⟩ ?_
          refine aw_isub dX7_leaveBlocks_34 hL ?_
          refine aw_iv dX7_leaveBlocks_35 (by assumption) (by omega) (by omega) r3 ?_
          refine aw_if_ne (tgt := 52) dX7_leaveBlocks_36 rfl (fun h36 => ?_) (fun h36 => ?_)
          · -- once more
            have hwr : az_wr (f.2.2 - 1) = f.2.2 - 1 := az_wr_id (by omega) (by omega)
            have v69 : az_up M1 (m + 22) (fr2.length : Int) (f.2.2 - 1) m 40 = (fr2.length : Int) + 1 := by rw [up_oth _ _ _ (by omega)]; exact v1
            have v78 : az_up M1 (m + 22) (fr2.length : Int) (f.2.2 - 1) (m + 20) (fr2.length : Int) = f.1 := by rw [up_oth _ _ _ (by omega)]; exact r1
            refine aw_aload_n dX7_leaveBlocks_52 rfl rfl ⟨by decide, by decide⟩ ?_
            refine aw_gzF 38 dX7_leaveBlocks_53 fl_RX7_78 (by assumption) rfl rfl (by assumption) ?_
            refine aw_aload_n dX7_leaveBlocks_56 rfl rfl ⟨by decide, by decide⟩ ?_
            refine aw_gi 40 dX7_leaveBlocks_57 fl_RX7_436 (by assumption) rfl rfl v1 ?_
            refine aw_iconst dX7_leaveBlocks_60 rfl ⟨by decide, by decide⟩ ?_
            refine aw_isub dX7_leaveBlocks_61 hL ?_
            refine aw_dup2 dX7_leaveBlocks_62 ?_
            refine aw_iv dX7_leaveBlocks_63 (by assumption) (by omega) (by omega) r3 ?_
            refine aw_iconst dX7_leaveBlocks_64 rfl ⟨by decide, by decide⟩ ?_
            refine aw_isub dX7_leaveBlocks_65 (az_wr_id (by omega) (by omega)) ?_
            refine aw_iast dX7_leaveBlocks_66 (by assumption) (by omega) (by omega) ?_
            refine aw_aload_n dX7_leaveBlocks_67 rfl rfl ⟨by decide, by decide⟩ ?_
            refine aw_aload_n dX7_leaveBlocks_68 rfl rfl ⟨by decide, by decide⟩ ?_
            refine aw_gzF 36 dX7_leaveBlocks_69 fl_RX7_72 (by assumption) rfl rfl (by assumption) ?_
            refine aw_aload_n dX7_leaveBlocks_72 rfl rfl ⟨by decide, by decide⟩ ?_
            refine aw_gi 40 dX7_leaveBlocks_73 fl_RX7_436 (by assumption) rfl rfl v69 ?_
            refine aw_iconst dX7_leaveBlocks_76 rfl ⟨by decide, by decide⟩ ?_
            refine aw_isub dX7_leaveBlocks_77 hL ?_
            refine aw_iv dX7_leaveBlocks_78 (by assumption) (by omega) (by omega) v78 ?_
            refine aw_pi 39 dX7_leaveBlocks_79 fl_RX7_439 (by assumption) rfl rfl ?_
            refine aw_goto (tgt := 0) dX7_leaveBlocks_82 rfl ?_
            have e20 : ∀ b', b' ≠ m → b' ≠ m + 22 → az_up (az_up M1 (m + 22) (fr2.length : Int) (f.2.2 - 1)) m 39 f.1 b' = M1 b' := fun b' p q => by rw [up_oth _ _ _ p, up_oth _ _ _ q]
            refine ih ((f.1, f.2.1, f.2.2 - 1) :: fr2) f.1 _ ?_ ⟨⟨?_, ?_, ?_, ?_⟩, ⟨⟨b, b1, b2, b3, b4, b5, ?_, ?_⟩, hv2⟩, az_up_s _ _ _ _, ?_, Int.le_refl _, o3⟩ (fun st => ?_) ?_ (hf.trans ⟨fun b' p q => e20 b' p (by omega), fun j p q => by rw [az_up_i _ _ _ _ p, up_oth _ _ _ (by omega)]⟩)
            · show (f.2.2 - 1).toNat + 1 + aw_ fr2 ≤ d
              omega
            · rw [e20 _ (by omega) (by omega)]; exact r1
            · rw [e20 _ (by omega) (by omega)]; exact r2
            · rw [up_oth _ _ _ (by omega), az_up_s]
            · refine FR.keep fr2 r4 (fun k k0 k1 => ⟨by rw [e20 _ (by omega) (by omega)], by rw [e20 _ (by omega) (by omega)], ?_⟩)
              rw [up_oth _ _ _ (by omega), az_up_i _ _ _ _ (by omega)]
            · show 0 ≤ f.2.2 - 1
              omega
            · show f.2.2 - 1 ≤ 8
              omega
            · rw [az_up_i _ _ _ _ (by omega), up_oth _ _ _ (by omega), v1, List.length_cons]; omega
            · rw [← hden st, hden1 st]
              obtain ⟨q, hq⟩ : ∃ q : Nat, f.2.2.toNat = q + 1 := ⟨f.2.2.toNat - 1, by omega⟩
              show den it n fr2 f.2.1 (itr (f.2.2 - 1).toNat (ex it f.1 f.2.1) (ex it f.1 f.2.1 st)) = _
              rw [hq, show (f.2.2 - 1).toNat = q by omega]
              rfl
            · refine Nat.le_trans (Nat.le_of_eq ?_) hm
              rw [hm1]
              obtain ⟨q, hq⟩ : ∃ q : Nat, f.2.2.toNat = q + 1 := ⟨f.2.2.toNat - 1, by omega⟩
              show cst it f.1 f.2.1 + (f.2.2 - 1).toNat * cst it f.1 f.2.1 + mden it n fr2 f.2.1 = _
              rw [hq, show (f.2.2 - 1).toNat = q by omega, Nat.succ_mul]
              omega
          · -- out of it
            refine aw_aload_n dX7_leaveBlocks_39 rfl rfl ⟨by decide, by decide⟩ ?_
            refine aw_dup dX7_leaveBlocks_40 ?_
            refine aw_gi 40 dX7_leaveBlocks_41 fl_RX7_436 (by assumption) rfl rfl v1 ?_
            refine aw_iconst dX7_leaveBlocks_44 rfl ⟨by decide, by decide⟩ ?_
            refine aw_isub dX7_leaveBlocks_45 hL ?_
            refine aw_pi 40 dX7_leaveBlocks_46 fl_RX7_436 (by assumption) rfl rfl ?_
            refine aw_goto (tgt := 0) dX7_leaveBlocks_49 rfl ?_
            refine ih fr2 i1 _ (by omega) ⟨FR.fr r4 (fun b' p q => up_oth _ _ _ (by omega)), hv2, by rw [az_up_i _ _ _ _ (by omega)]; exact e39, az_up_s _ _ _ _, by omega, by omega⟩ (fun st => ?_) ?_ (hf.trans ⟨fun b' p q => up_oth _ _ _ p, fun j p q => az_up_i _ _ _ _ q⟩)
            · rw [← hden st, hden1 st, h36, hi1]; rfl
            · refine Nat.le_trans (Nat.le_of_eq ?_) hm
              rw [hm1, h36, hi1]
              show mden it n fr2 f.2.1 = 0 * cst it f.1 f.2.1 + mden it n fr2 f.2.1
              omega
  exact loop (aw_ fr) fr i M (Nat.le_refl _) hp (fun _ => rfl) (Nat.le_refl _) (frK.refl M m)
set_option maxHeartbeats 1000000 in
theorem sp_enter (hK : MdK K m) (hN : NP it n) (M : az_M) (fr : fRs) (i : Int) (hp : PS M m it n fr i) (hi : i < eo n fr) (he : M (m + 18) i = it i 4) (hn : n ≤ 40) (w : Int) (w0 : 1 ≤ w) (w1 : w ≤ 9) : AM yX7_enter cX7_enter 2 none 0 0 0 [(1, m), (0, w)] K M (qv K (fun M' => PS M' m it n ((i + 1, it i 4, w - 1) :: fr) (i + 1) ∧ frK M M' m)) := by
  have hK0 := hK
  obtain ⟨hKo, k3, k4, k5, k6, k7, k8, k9, k10, k11, k12, k13, k14, k15, k16, k17, k18, k19, k20, k21, k22, k23, k24, k25, y3, y4, y5, y6, y7, y8, y9, y10, y11, y12, y13, y14, y15, y16, y17, y18, y19, y20, y21, y22, y23, y24, y25⟩ := hK
  have hKo0 := hKo
  obtain ⟨hKa, k2, y2⟩ := hKo
  have hKa0 := hKa
  obtain ⟨km, k1, y1⟩ := hKa
  refine am_of (by decide) (Nat.le_of_ble_eq_true rfl) (L := [(1, m), (0, w)]) rfl ?_
  obtain ⟨r, hv, e39, e40, t0, t1⟩ := hp
  obtain ⟨hrg, hdep, hl4⟩ := FV.rg hN hv
  have i0 : 0 ≤ i := by have := hrg.1; omega
  have in_ : i < n := by have := hrg.2.1; omega
  have hd := hdep i t0 hi
  obtain ⟨a1, a2, a3, a4, a5⟩ := hN i i0 in_
  generalize hL : (fr.length : Int) = l at *
  have l0 : 0 ≤ l := by omega
  have v9 := e39
  have v20 : az_up M (m + 20) l (i + 1) m 40 = l := by rw [up_oth _ _ _ (by omega)]; exact e40
  have v28 : az_up M (m + 20) l (i + 1) m 39 = i := by rw [up_oth _ _ _ (by omega)]; exact e39
  have v31 : az_up M (m + 20) l (i + 1) (m + 18) i = it i 4 := by rw [up_oth _ _ _ (by omega)]; exact he
  have v38 : az_up (az_up M (m + 20) l (i + 1)) (m + 21) l (it i 4) m 40 = l := by rw [up_oth _ _ _ (by omega)]; exact v20
  have v47 : az_up (az_up (az_up M (m + 20) l (i + 1)) (m + 21) l (it i 4)) (m + 22) l (w - 1) m 40 = l := by rw [up_oth _ _ _ (by omega)]; exact v38
  have v57 : az_up (az_up (az_up (az_up M (m + 20) l (i + 1)) (m + 21) l (it i 4)) (m + 22) l (w - 1)) m 40 (l + 1) m 39 = i := by rw [az_up_i _ _ _ _ (by omega), up_oth _ _ _ (by omega), up_oth _ _ _ (by omega)]; exact v28
  refine aw_aload_n dX7_enter_0 rfl rfl ⟨by decide, by decide⟩ ?_
  refine aw_gzF 36 dX7_enter_1 fl_RX7_72 (by assumption) rfl rfl (by assumption) ?_
  refine aw_aload_n dX7_enter_4 rfl rfl ⟨by decide, by decide⟩ ?_
  refine aw_gi 40 dX7_enter_5 fl_RX7_436 (by assumption) rfl rfl e40 ?_
  refine aw_aload_n dX7_enter_8 rfl rfl ⟨by decide, by decide⟩ ?_
  refine aw_gi 39 dX7_enter_9 fl_RX7_439 (by assumption) rfl rfl v9 ?_
  refine aw_iconst dX7_enter_12 rfl ⟨by decide, by decide⟩ ?_
  refine aw_iadd dX7_enter_13 (az_wr_id (by omega) (by omega)) ?_
  refine aw_iast dX7_enter_14 (by assumption) (by omega) (by omega) ?_
  refine aw_aload_n dX7_enter_15 rfl rfl ⟨by decide, by decide⟩ ?_
  refine aw_gzF 37 dX7_enter_16 fl_RX7_75 (by assumption) rfl rfl (by assumption) ?_
  refine aw_aload_n dX7_enter_19 rfl rfl ⟨by decide, by decide⟩ ?_
  refine aw_gi 40 dX7_enter_20 fl_RX7_436 (by assumption) rfl rfl v20 ?_
  refine aw_aload_n dX7_enter_23 rfl rfl ⟨by decide, by decide⟩ ?_
  refine aw_gzF 21 dX7_enter_24 fl_RX7_62 (by assumption) rfl rfl (by assumption) ?_
  refine aw_aload_n dX7_enter_27 rfl rfl ⟨by decide, by decide⟩ ?_
  refine aw_gi 39 dX7_enter_28 fl_RX7_439 (by assumption) rfl rfl v28 ?_
  refine aw_iv dX7_enter_31 (by assumption) (by omega) (by omega) v31 ?_
  refine aw_iast dX7_enter_32 (by assumption) (by omega) (by omega) ?_
  refine aw_aload_n dX7_enter_33 rfl rfl ⟨by decide, by decide⟩ ?_
  refine aw_gzF 38 dX7_enter_34 fl_RX7_78 (by assumption) rfl rfl (by assumption) ?_
  refine aw_aload_n dX7_enter_37 rfl rfl ⟨by decide, by decide⟩ ?_
  refine aw_gi 40 dX7_enter_38 fl_RX7_436 (by assumption) rfl rfl v38 ?_
  refine aw_iload_n dX7_enter_41 rfl rfl ?_
  refine aw_iconst dX7_enter_42 rfl ⟨by decide, by decide⟩ ?_
  refine aw_isub dX7_enter_43 (az_wr_id (by omega) (by omega)) ?_
  refine aw_iast dX7_enter_44 (by assumption) (by omega) (by omega) ?_
  refine aw_aload_n dX7_enter_45 rfl rfl ⟨by decide, by decide⟩ ?_
  refine aw_dup dX7_enter_46 ?_
  refine aw_gi 40 dX7_enter_47 fl_RX7_436 (by assumption) rfl rfl v47 ?_
  refine aw_iconst dX7_enter_50 rfl ⟨by decide, by decide⟩ ?_
  refine aw_iadd dX7_enter_51 (az_wr_id (by omega) (by omega)) ?_
  refine aw_pi 40 dX7_enter_52 fl_RX7_436 (by assumption) rfl rfl ?_
  refine aw_aload_n dX7_enter_55 rfl rfl ⟨by decide, by decide⟩ ?_
  refine aw_dup dX7_enter_56 ?_
  refine aw_gi 39 dX7_enter_57 fl_RX7_439 (by assumption) rfl rfl v57 ?_
  refine aw_iconst dX7_enter_60 rfl ⟨by decide, by decide⟩ ?_
  refine aw_iadd dX7_enter_61 (az_wr_id (by omega) (by omega)) ?_
  refine aw_pi 39 dX7_enter_62 fl_RX7_439 (by assumption) rfl rfl ?_
  refine aw_vret dX7_enter_65 (by decide) (by decide) ⟨rfl, rfl, ⟨⟨?_, ?_, ?_, ?_⟩, ⟨⟨i, ⟨i0, in_⟩, ⟨t0, hi⟩, rfl, rfl, by omega, by show 0 ≤ w - 1; omega, by show w - 1 ≤ 8; omega⟩, hv⟩, az_up_s _ _ _ _, ?_, by show i + 1 ≤ i + 1; omega, by show i + 1 ≤ it i 4; omega⟩, fun b p q => ?_, fun j p q => ?_⟩
  · rw [hL, up_oth _ _ _ (by omega), up_oth _ _ _ (by omega), up_oth _ _ _ (by omega), up_oth _ _ _ (by omega), az_up_s]
  · rw [hL, up_oth _ _ _ (by omega), up_oth _ _ _ (by omega), up_oth _ _ _ (by omega), az_up_s]
  · rw [hL, up_oth _ _ _ (by omega), up_oth _ _ _ (by omega), az_up_s]
  · refine FR.keep fr r (fun k k0 k1 => ?_)
    have hk : k ≠ l := by omega
    refine ⟨?_, ?_, ?_⟩
    · rw [up_oth _ _ _ (by omega), up_oth _ _ _ (by omega), up_oth _ _ _ (by omega), up_oth _ _ _ (by omega), az_up_i _ _ _ _ hk]
    · rw [up_oth _ _ _ (by omega), up_oth _ _ _ (by omega), up_oth _ _ _ (by omega), az_up_i _ _ _ _ hk, up_oth _ _ _ (by omega)]
    · rw [up_oth _ _ _ (by omega), up_oth _ _ _ (by omega), az_up_i _ _ _ _ hk, up_oth _ _ _ (by omega), up_oth _ _ _ (by omega)]
  · rw [az_up_i _ _ _ _ (by omega), az_up_s, List.length_cons]; omega
  · rw [up_oth _ _ _ p, up_oth _ _ _ p, up_oth _ _ _ (by omega), up_oth _ _ _ (by omega), up_oth _ _ _ (by omega)]
  · rw [az_up_i _ _ _ _ p, az_up_i _ _ _ _ q, up_oth _ _ _ (by omega), up_oth _ _ _ (by omega), up_oth _ _ _ (by omega)]
/-- the program that there is -/
def PGm (M : az_M) (m : Int) (it : Int → Int → Int) (n : Int) : Prop := M m 23 = n ∧ (0 ≤ n ∧ n ≤ 40) ∧ ∀ i, 0 ≤ i → i < n → refI M (m + 14) it i
theorem PGm.fr {M M' : az_M} (h : PGm M m it n) (e : M' m 23 = M m 23) (o : ∀ b, m + 14 ≤ b → b ≤ m + 18 → M' b = M b) : PGm M' m it n := by
  refine ⟨e.trans h.1, h.2.1, fun i i0 i1 => ?_⟩
  have := h.2.2 i i0 i1
  unfold refI at this ⊢
  rw [o _ (by omega) (by omega), o _ (by omega) (by omega), o _ (by omega) (by omega), o _ (by omega) (by omega), o _ (by omega) (by omega)]
  exact this
theorem PGm.frT {M M' : az_M} (h : PGm M m it n) (f : frU M M' m) : PGm M' m it n := h.fr (f.2 _ (by omega) (by omega) (by omega) (by omega) (by omega)) (fun b h1 h2 => f.1 b (by omega) (by omega))
end LB
section GO
variable {K : az_K} {m : Int} {it : Int → Int → Int} {n : Int} {S : hSt}
set_option maxHeartbeats 1000000 in
theorem sp_canGo (hK : MdK K m) (M : az_M) (hc : HM M m S) (hw : WL S) (hg : PGm M m it n) (i : Int) (i0 : 0 ≤ i) (i1 : i < n) (h39 : M m 39 = i) (ho : okI (it i 0) (it i 1) (it i 2) (it i 3)) (hk : it i 0 < 5) : AM yX7_canGo cX7_canGo 1 (some .boolean) 6 0 0 [(1, m)] K M (qi K (fun z M' => tv z (canI it i S) ∧ M' = M)) := by
  have hK0 := hK
  obtain ⟨hKo, k3, k4, k5, k6, k7, k8, k9, k10, k11, k12, k13, k14, k15, k16, k17, k18, k19, k20, k21, k22, k23, k24, k25, y3, y4, y5, y6, y7, y8, y9, y10, y11, y12, y13, y14, y15, y16, y17, y18, y19, y20, y21, y22, y23, y24, y25⟩ := hK
  have hKo0 := hKo
  obtain ⟨hKa, k2, y2⟩ := hKo
  have hKa0 := hKa
  obtain ⟨km, k1, y1⟩ := hKa
  refine am_of (by decide) (Nat.le_of_ble_eq_true rfl) (L := [(1, m)]) rfl ?_
  obtain ⟨g1, g2, g3⟩ := hg
  obtain ⟨⟨p1, p2, p3, p4, p5, p6⟩, p7⟩ := g3 i i0 i1
  rw [show m + 14 + 1 = m + 15 by omega] at p2
  rw [show m + 14 + 2 = m + 16 by omega] at p3 p4
  rw [show m + 14 + 3 = m + 17 by omega] at p5 p6
  by_cases k2 : it i 0 = 2
  · have e14 : M (m + 14) i = 3 := by rw [p1, k2]; rfl
    have e15 : M (m + 15) i = it i 1 := by rw [p2, if_neg (by omega)]
    have e16 : M (m + 16) i = it i 2 := p4 (Or.inr k2)
    have e17 : M (m + 17) i = it i 3 := p5 k2
    refine aw_aload_n dX7_canGo_0 rfl rfl ⟨by decide, by decide⟩ ?_
    refine aw_gzF 17 dX7_canGo_1 fl_RX7_50 (by assumption) rfl rfl (by assumption) ?_
    refine aw_aload_n dX7_canGo_4 rfl rfl ⟨by decide, by decide⟩ ?_
    refine aw_gi 39 dX7_canGo_5 fl_RX7_439 (by assumption) rfl rfl h39 ?_
    refine aw_iv dX7_canGo_8 (by assumption) (by omega) (by omega) e14 ?_
    refine aw_tsIn (tgt := 36) dX7_canGo_9 (by omega) (by omega) rfl rfl ?_
    refine aw_aload_n dX7_canGo_36 rfl rfl ⟨by decide, by decide⟩ ?_
    refine aw_aload_n dX7_canGo_37 rfl rfl ⟨by decide, by decide⟩ ?_
    refine aw_gzF 18 dX7_canGo_38 fl_RX7_53 (by assumption) rfl rfl (by assumption) ?_
    refine aw_aload_n dX7_canGo_41 rfl rfl ⟨by decide, by decide⟩ ?_
    refine aw_gi 39 dX7_canGo_42 fl_RX7_439 (by assumption) rfl rfl h39 ?_
    refine aw_iv dX7_canGo_45 (by assumption) (by omega) (by omega) e15 ?_
    refine aw_aload_n dX7_canGo_46 rfl rfl ⟨by decide, by decide⟩ ?_
    refine aw_gzF 19 dX7_canGo_47 fl_RX7_56 (by assumption) rfl rfl (by assumption) ?_
    refine aw_aload_n dX7_canGo_50 rfl rfl ⟨by decide, by decide⟩ ?_
    refine aw_gi 39 dX7_canGo_51 fl_RX7_439 (by assumption) rfl rfl h39 ?_
    refine aw_iv dX7_canGo_54 (by assumption) (by omega) (by omega) e16 ?_
    refine aw_aload_n dX7_canGo_55 rfl rfl ⟨by decide, by decide⟩ ?_
    refine aw_gzF 20 dX7_canGo_56 fl_RX7_59 (by assumption) rfl rfl (by assumption) ?_
    refine aw_aload_n dX7_canGo_59 rfl rfl ⟨by decide, by decide⟩ ?_
    refine aw_gi 39 dX7_canGo_60 fl_RX7_439 (by assumption) rfl rfl h39 ?_
    refine aw_iv dX7_canGo_63 (by assumption) (by omega) (by omega) e17 ?_
    refine aw_cV3i dX7_canGo_64 ml_RX7_228 (by assumption) (by decide) rfl rfl ⟨by decide, by decide, by decide, by decide⟩ (Nat.le_of_ble_eq_true rfl) (sp_canLoad hKa0 M hc hw (it i 1) (it i 2) (it i 3)) (fun zc Mc hzc => ?_)
    obtain ⟨tc, eM⟩ := hzc
    subst eM
    refine aw_zret dX7_canGo_67 (tv01 tc) (by decide) (by decide) ⟨_, rfl, rfl, ?_, rfl⟩
    rcases tc with ⟨e, q⟩ | ⟨e, q⟩
    · exact Or.inl ⟨e, fun _ => q.2.2, fun w => by omega⟩
    · exact Or.inr ⟨e, fun w => q ⟨by omega, by omega, w.1 k2⟩⟩
  by_cases k3 : it i 0 = 3
  · have e15 : M (m + 15) i = it i 1 := by rw [p2, if_neg (by omega)]
    have e16 : M (m + 16) i = it i 3 := p3 (Or.inr k3)
    have fin : ∀ z : Int, tv z ((0 ≤ it i 1 ∧ it i 1 < 6) ∧ (it i 2 = -1 ∨ 0 ≤ it i 2 ∧ it i 2 < 6) ∧ hasF S (S.1 (715 + it i 1)) (it i 3)) → tv z (canI it i S) := by
      intro z tc
      rcases tc with ⟨e, q⟩ | ⟨e, q⟩
      · exact Or.inl ⟨e, fun w => by omega, fun _ => q.2.2⟩
      · exact Or.inr ⟨e, fun w => q ⟨by omega, by omega, w.2 k3⟩⟩
    by_cases o1 : it i 2 = -1
    · have e14 : M (m + 14) i = 5 := by rw [p1, k3, o1]; rfl
      have hcs := sp_canStore hKa0 M hc hw (it i 1) (it i 3) (it i 2)
      rw [o1] at hcs fin
      refine aw_aload_n dX7_canGo_0 rfl rfl ⟨by decide, by decide⟩ ?_
      refine aw_gzF 17 dX7_canGo_1 fl_RX7_50 (by assumption) rfl rfl (by assumption) ?_
      refine aw_aload_n dX7_canGo_4 rfl rfl ⟨by decide, by decide⟩ ?_
      refine aw_gi 39 dX7_canGo_5 fl_RX7_439 (by assumption) rfl rfl h39 ?_
      refine aw_iv dX7_canGo_8 (by assumption) (by omega) (by omega) e14 ?_
      refine aw_tsIn (tgt := 100) dX7_canGo_9 (by omega) (by omega) rfl rfl ?_
      refine aw_aload_n dX7_canGo_100 rfl rfl ⟨by decide, by decide⟩ ?_
      refine aw_aload_n dX7_canGo_101 rfl rfl ⟨by decide, by decide⟩ ?_
      refine aw_gzF 18 dX7_canGo_102 fl_RX7_53 (by assumption) rfl rfl (by assumption) ?_
      refine aw_aload_n dX7_canGo_105 rfl rfl ⟨by decide, by decide⟩ ?_
      refine aw_gi 39 dX7_canGo_106 fl_RX7_439 (by assumption) rfl rfl h39 ?_
      refine aw_iv dX7_canGo_109 (by assumption) (by omega) (by omega) e15 ?_
      refine aw_aload_n dX7_canGo_110 rfl rfl ⟨by decide, by decide⟩ ?_
      refine aw_gzF 19 dX7_canGo_111 fl_RX7_56 (by assumption) rfl rfl (by assumption) ?_
      refine aw_aload_n dX7_canGo_114 rfl rfl ⟨by decide, by decide⟩ ?_
      refine aw_gi 39 dX7_canGo_115 fl_RX7_439 (by assumption) rfl rfl h39 ?_
      refine aw_iv dX7_canGo_118 (by assumption) (by omega) (by omega) e16 ?_
      refine aw_iconst dX7_canGo_119 rfl ⟨by decide, by decide⟩ ?_
      refine aw_cV3i dX7_canGo_120 ml_RX7_241 (by assumption) (by decide) rfl rfl ⟨by decide, by decide, by decide, by decide⟩ (Nat.le_of_ble_eq_true rfl) (hcs) (fun zc Mc hzc => ?_)
      obtain ⟨tc, eM⟩ := hzc
      subst eM
      exact aw_zret dX7_canGo_123 (tv01 tc) (by decide) (by decide) ⟨_, rfl, rfl, fin _ tc, rfl⟩
    · have e14 : M (m + 14) i = 4 := by rw [p1, k3]; show (if it i 2 = -1 then (5 : Int) else 4) = 4; rw [if_neg o1]
      have e17 : M (m + 17) i = it i 2 := p6 ⟨k3, o1⟩
      refine aw_aload_n dX7_canGo_0 rfl rfl ⟨by decide, by decide⟩ ?_
      refine aw_gzF 17 dX7_canGo_1 fl_RX7_50 (by assumption) rfl rfl (by assumption) ?_
      refine aw_aload_n dX7_canGo_4 rfl rfl ⟨by decide, by decide⟩ ?_
      refine aw_gi 39 dX7_canGo_5 fl_RX7_439 (by assumption) rfl rfl h39 ?_
      refine aw_iv dX7_canGo_8 (by assumption) (by omega) (by omega) e14 ?_
      refine aw_tsIn (tgt := 68) dX7_canGo_9 (by omega) (by omega) rfl rfl ?_
      refine aw_aload_n dX7_canGo_68 rfl rfl ⟨by decide, by decide⟩ ?_
      refine aw_aload_n dX7_canGo_69 rfl rfl ⟨by decide, by decide⟩ ?_
      refine aw_gzF 18 dX7_canGo_70 fl_RX7_53 (by assumption) rfl rfl (by assumption) ?_
      refine aw_aload_n dX7_canGo_73 rfl rfl ⟨by decide, by decide⟩ ?_
      refine aw_gi 39 dX7_canGo_74 fl_RX7_439 (by assumption) rfl rfl h39 ?_
      refine aw_iv dX7_canGo_77 (by assumption) (by omega) (by omega) e15 ?_
      refine aw_aload_n dX7_canGo_78 rfl rfl ⟨by decide, by decide⟩ ?_
      refine aw_gzF 19 dX7_canGo_79 fl_RX7_56 (by assumption) rfl rfl (by assumption) ?_
      refine aw_aload_n dX7_canGo_82 rfl rfl ⟨by decide, by decide⟩ ?_
      refine aw_gi 39 dX7_canGo_83 fl_RX7_439 (by assumption) rfl rfl h39 ?_
      refine aw_iv dX7_canGo_86 (by assumption) (by omega) (by omega) e16 ?_
      refine aw_aload_n dX7_canGo_87 rfl rfl ⟨by decide, by decide⟩ ?_
      refine aw_gzF 20 dX7_canGo_88 fl_RX7_59 (by assumption) rfl rfl (by assumption) ?_
      refine aw_aload_n dX7_canGo_91 rfl rfl ⟨by decide, by decide⟩ ?_
      refine aw_gi 39 dX7_canGo_92 fl_RX7_439 (by assumption) rfl rfl h39 ?_
      refine aw_iv dX7_canGo_95 (by assumption) (by omega) (by omega) e17 ?_
      refine aw_cV3i dX7_canGo_96 ml_RX7_241 (by assumption) (by decide) rfl rfl ⟨by decide, by decide, by decide, by decide⟩ (Nat.le_of_ble_eq_true rfl) (sp_canStore hKa0 M hc hw (it i 1) (it i 3) (it i 2)) (fun zc Mc hzc => ?_)
      obtain ⟨tc, eM⟩ := hzc
      subst eM
      exact aw_zret dX7_canGo_99 (tv01 tc) (by decide) (by decide) ⟨_, rfl, rfl, fin _ tc, rfl⟩
  have hcan : canI it i S := ⟨fun q => absurd q k2, fun q => absurd q k3⟩
  have e14 : M (m + 14) i = opc (it i 0) (it i 2) := p1
  have hop : opc (it i 0) (it i 2) < 3 ∨ 5 < opc (it i 0) (it i 2) := by
    unfold opc
    rw [if_neg k2, if_neg k3]
    split
    · omega
    · split
      · split <;> omega
      · omega
  refine aw_aload_n dX7_canGo_0 rfl rfl ⟨by decide, by decide⟩ ?_
  refine aw_gzF 17 dX7_canGo_1 fl_RX7_50 (by assumption) rfl rfl (by assumption) ?_
  refine aw_aload_n dX7_canGo_4 rfl rfl ⟨by decide, by decide⟩ ?_
  refine aw_gi 39 dX7_canGo_5 fl_RX7_439 (by assumption) rfl rfl h39 ?_
  refine aw_iv dX7_canGo_8 (by assumption) (by omega) (by omega) e14 ?_
  refine aw_tsOut (tgt := 124) dX7_canGo_9 hop rfl ?_
  refine aw_iconst dX7_canGo_124 rfl ⟨by decide, by decide⟩ ?_
  exact aw_zret dX7_canGo_125 (by omega) (by decide) (by decide) ⟨_, rfl, rfl, tv.t hcan, rfl⟩
def frD (M M' : az_M) (m : Int) : Prop := (∀ b, b ≠ m → b ≠ m + 1 → b ≠ m + 2 → M' b = M b) ∧ ∀ j, j ≠ 9 → M' m j = M m j
theorem frT.ofD {M M' : az_M} (f : frD M M' m) : frT M M' m := ⟨⟨fun b h1 h2 => f.1 b (by omega) (by omega) (by omega), fun j _ _ h9 _ _ => f.2 j h9⟩, f.1 _ (by omega) (by omega) (by omega)⟩
set_option maxHeartbeats 1000000 in
theorem sp_doGo (hK : MdK K m) (M : az_M) (hc : HM M m S) (hw : WL S) (hcy : S.1 729 ≤ 19998000) (hcz : 0 ≤ S.1 729) (hg : PGm M m it n) (i : Int) (i0 : 0 ≤ i) (i1 : i < n) (h39 : M m 39 = i) (ho : okI (it i 0) (it i 1) (it i 2) (it i 3)) (hk : it i 0 < 5) (hcan : canI it i S) : AM yX7_doGo cX7_doGo 3 none 10 0 0 [(1, m)] K M (qv K (fun M' => HM M' m (doI it i S) ∧ (it i 0 = 0 → M' m 9 = bldA S (it i 3)) ∧ frD M M' m)) := by
  have hK0 := hK
  obtain ⟨hKo, k3, k4, k5, k6, k7, k8, k9, k10, k11, k12, k13, k14, k15, k16, k17, k18, k19, k20, k21, k22, k23, k24, k25, y3, y4, y5, y6, y7, y8, y9, y10, y11, y12, y13, y14, y15, y16, y17, y18, y19, y20, y21, y22, y23, y24, y25⟩ := hK
  have hKo0 := hKo
  obtain ⟨hKa, k2, y2⟩ := hKo
  have hKa0 := hKa
  obtain ⟨km, k1, y1⟩ := hKa
  refine am_of (by decide) (Nat.le_of_ble_eq_true rfl) (L := [(1, m), (9, 0), (9, 0)]) rfl ?_
  obtain ⟨g1, g2, g3⟩ := hg
  obtain ⟨⟨p1, p2, p3, p4, p5, p6⟩, p7⟩ := g3 i i0 i1
  rw [show m + 14 + 1 = m + 15 by omega] at p2
  rw [show m + 14 + 2 = m + 16 by omega] at p3 p4
  rw [show m + 14 + 3 = m + 17 by omega] at p5 p6
  generalize hG : doI it i S = G
  unfold doI at hG
  have fin : ∀ (M5 : az_M) (L1 L2 : az_V), HM M5 m G → (it i 0 = 0 → M5 m 9 = bldA S (it i 3)) → frD M M5 m → AW az_P0 (az_Z (qv K (fun M' => HM M' m G ∧ (it i 0 = 0 → M' m 9 = bldA S (it i 3)) ∧ frD M M' m)) 0 0) (az_rm 10 0 0) yX7_doGo cX7_doGo 3 none 0 0 177 [(1, m), L1, L2] [] K M5 := fun M5 L1 L2 a b c => aw_vret dX7_doGo_177 (by decide) (by decide) ⟨rfl, rfl, a, b, c⟩
  have fM : ∀ M5 : az_M, frM M M5 m → frD M M5 m := fun M5 f => ⟨fun b _ h1 h2 => f b h1 h2, fun j _ => by rw [f m (by omega) (by omega)]⟩
  have fC : ∀ (M5 : az_M) (v : Int), frM M M5 m → frD M (az_up M5 m 9 v) m := fun M5 v f => ⟨fun b h0 h1 h2 => by rw [up_oth _ _ _ h0]; exact f b h1 h2, fun j hj => by rw [az_up_i _ _ _ _ hj, f m (by omega) (by omega)]⟩
  have fN : ∀ (x v : Int), frM M (az_up M (m + 1) x v) m := fun x v b h1 _ => up_oth _ _ _ h1
  by_cases k0 : it i 0 = 0
  · rw [if_pos k0] at hG
    have e14 : M (m + 14) i = 0 := by rw [p1, k0]; rfl
    have e15 : M (m + 15) i = it i 1 := by rw [p2, if_neg (by omega)]
    have e16 : M (m + 16) i = it i 3 := p3 (Or.inl k0)
    refine aw_aload_n dX7_doGo_0 rfl rfl ⟨by decide, by decide⟩ ?_
    refine aw_gzF 18 dX7_doGo_1 fl_RX7_53 (by assumption) rfl rfl (by assumption) ?_
    refine aw_aload_n dX7_doGo_4 rfl rfl ⟨by decide, by decide⟩ ?_
    refine aw_gi 39 dX7_doGo_5 fl_RX7_439 (by assumption) rfl rfl h39 ?_
    refine aw_iv dX7_doGo_8 (by assumption) (by omega) (by omega) e15 ?_
    refine aw_istore_n dX7_doGo_9 rfl (by decide) ?_
    refine aw_aload_n dX7_doGo_10 rfl rfl ⟨by decide, by decide⟩ ?_
    refine aw_gzF 19 dX7_doGo_11 fl_RX7_56 (by assumption) rfl rfl (by assumption) ?_
    refine aw_aload_n dX7_doGo_14 rfl rfl ⟨by decide, by decide⟩ ?_
    refine aw_gi 39 dX7_doGo_15 fl_RX7_439 (by assumption) rfl rfl h39 ?_
    refine aw_iv dX7_doGo_18 (by assumption) (by omega) (by omega) e16 ?_
    refine aw_istore_n dX7_doGo_19 rfl (by decide) ?_
    refine aw_aload_n dX7_doGo_20 rfl rfl ⟨by decide, by decide⟩ ?_
    refine aw_gzF 17 dX7_doGo_21 fl_RX7_50 (by assumption) rfl rfl (by assumption) ?_
    refine aw_aload_n dX7_doGo_24 rfl rfl ⟨by decide, by decide⟩ ?_
    refine aw_gi 39 dX7_doGo_25 fl_RX7_439 (by assumption) rfl rfl h39 ?_
    refine aw_iv dX7_doGo_28 (by assumption) (by omega) (by omega) e14 ?_
    refine aw_tsIn (tgt := 68) dX7_doGo_29 (by omega) (by omega) rfl rfl ?_
    refine aw_aload_n dX7_doGo_68 rfl rfl ⟨by decide, by decide⟩ ?_
    refine aw_aload_n dX7_doGo_69 rfl rfl ⟨by decide, by decide⟩ ?_
    refine aw_iload_n dX7_doGo_70 rfl rfl ?_
    refine aw_iload_n dX7_doGo_71 rfl rfl ?_
    refine aw_cV2i dX7_doGo_72 ml_RX7_222 (by assumption) (by decide) rfl rfl ⟨by decide, by decide, by decide, by decide⟩ (Nat.le_of_ble_eq_true rfl) (sp_goMake hKo0 M hc hw (by omega) hcz (it i 1) (it i 3) (by omega) (by omega) (by omega) (by omega)) (fun z5 M5 hM5 => ?_)
    obtain ⟨e5, h5, f5⟩ := hM5
    refine aw_pi 9 dX7_doGo_75 fl_RX7_308 (by assumption) rfl rfl ?_
    refine aw_goto (tgt := 177) dX7_doGo_78 rfl ?_
    exact fin _ _ _ (HM_fr (by rw [← hG]; exact h5) (up_oth _ _ _ (by omega))) (fun _ => by rw [az_up_s]; exact e5) (fC M5 z5 f5)
  rw [if_neg k0] at hG
  by_cases k1 : it i 0 = 1
  · rw [if_pos k1] at hG
    have e15 : M (m + 15) i = it i 1 := by rw [p2, if_neg (by omega)]
    by_cases o1 : it i 2 = -1
    · have e14 : M (m + 14) i = 1 := by rw [p1, k1, o1]; rfl
      have hnv : namV S (it i 2) = -1 := by unfold namV; rw [if_pos o1]
      rw [hnv] at hG
      refine aw_aload_n dX7_doGo_0 rfl rfl ⟨by decide, by decide⟩ ?_
      refine aw_gzF 18 dX7_doGo_1 fl_RX7_53 (by assumption) rfl rfl (by assumption) ?_
      refine aw_aload_n dX7_doGo_4 rfl rfl ⟨by decide, by decide⟩ ?_
      refine aw_gi 39 dX7_doGo_5 fl_RX7_439 (by assumption) rfl rfl h39 ?_
      refine aw_iv dX7_doGo_8 (by assumption) (by omega) (by omega) e15 ?_
      refine aw_istore_n dX7_doGo_9 rfl (by decide) ?_
      refine aw_aload_n dX7_doGo_10 rfl rfl ⟨by decide, by decide⟩ ?_
      refine aw_gzF 19 dX7_doGo_11 fl_RX7_56 (by assumption) rfl rfl (by assumption) ?_
      refine aw_aload_n dX7_doGo_14 rfl rfl ⟨by decide, by decide⟩ ?_
      refine aw_gi 39 dX7_doGo_15 fl_RX7_439 (by assumption) rfl rfl h39 ?_
      refine aw_iv dX7_doGo_18 (by assumption) (by omega) (by omega) rfl ?_
      refine aw_istore_n dX7_doGo_19 rfl (by decide) ?_
      refine aw_aload_n dX7_doGo_20 rfl rfl ⟨by decide, by decide⟩ ?_
      refine aw_gzF 17 dX7_doGo_21 fl_RX7_50 (by assumption) rfl rfl (by assumption) ?_
      refine aw_aload_n dX7_doGo_24 rfl rfl ⟨by decide, by decide⟩ ?_
      refine aw_gi 39 dX7_doGo_25 fl_RX7_439 (by assumption) rfl rfl h39 ?_
      refine aw_iv dX7_doGo_28 (by assumption) (by omega) (by omega) e14 ?_
      refine aw_tsIn (tgt := 81) dX7_doGo_29 (by omega) (by omega) rfl rfl ?_
      refine aw_aload_n dX7_doGo_81 rfl rfl ⟨by decide, by decide⟩ ?_
      refine aw_gzF 0 dX7_doGo_82 fl_RX7_7 (by assumption) rfl rfl (by assumption) ?_
      refine aw_sipush dX7_doGo_85 (by decide) ⟨by decide, by decide⟩ ?_
      refine aw_iload_n dX7_doGo_88 rfl rfl ?_
      refine aw_iadd dX7_doGo_89 (az_wr_id (by omega) (by omega)) ?_
      refine aw_iconst dX7_doGo_90 rfl ⟨by decide, by decide⟩ ?_
      refine aw_iast dX7_doGo_91 (by assumption) (by omega) (by omega) ?_
      refine aw_goto (tgt := 177) dX7_doGo_92 rfl ?_
      exact fin _ _ _ (by rw [← hG]; exact HM_name hc hw.1 (by omega)) (fun q => absurd q k0) (fM _ (fN _ _))
    · have e14 : M (m + 14) i = 2 := by rw [p1, k1]; show (if it i 2 = -1 then (1 : Int) else 2) = 2; rw [if_neg o1]
      have e16 : M (m + 16) i = it i 2 := p4 (Or.inl ⟨k1, o1⟩)
      have hnv : namV S (it i 2) = S.1 (715 + it i 2) := by unfold namV; rw [if_neg o1]
      rw [hnv] at hG
      have v113 : M (m + 1) (715 + it i 2) = S.1 (715 + it i 2) := hc.1 _ (by omega) (by omega) (by omega) (by omega)
      refine aw_aload_n dX7_doGo_0 rfl rfl ⟨by decide, by decide⟩ ?_
      refine aw_gzF 18 dX7_doGo_1 fl_RX7_53 (by assumption) rfl rfl (by assumption) ?_
      refine aw_aload_n dX7_doGo_4 rfl rfl ⟨by decide, by decide⟩ ?_
      refine aw_gi 39 dX7_doGo_5 fl_RX7_439 (by assumption) rfl rfl h39 ?_
      refine aw_iv dX7_doGo_8 (by assumption) (by omega) (by omega) e15 ?_
      refine aw_istore_n dX7_doGo_9 rfl (by decide) ?_
      refine aw_aload_n dX7_doGo_10 rfl rfl ⟨by decide, by decide⟩ ?_
      refine aw_gzF 19 dX7_doGo_11 fl_RX7_56 (by assumption) rfl rfl (by assumption) ?_
      refine aw_aload_n dX7_doGo_14 rfl rfl ⟨by decide, by decide⟩ ?_
      refine aw_gi 39 dX7_doGo_15 fl_RX7_439 (by assumption) rfl rfl h39 ?_
      refine aw_iv dX7_doGo_18 (by assumption) (by omega) (by omega) e16 ?_
      refine aw_istore_n dX7_doGo_19 rfl (by decide) ?_
      refine aw_aload_n dX7_doGo_20 rfl rfl ⟨by decide, by decide⟩ ?_
      refine aw_gzF 17 dX7_doGo_21 fl_RX7_50 (by assumption) rfl rfl (by assumption) ?_
      refine aw_aload_n dX7_doGo_24 rfl rfl ⟨by decide, by decide⟩ ?_
      refine aw_gi 39 dX7_doGo_25 fl_RX7_439 (by assumption) rfl rfl h39 ?_
      refine aw_iv dX7_doGo_28 (by assumption) (by omega) (by omega) e14 ?_
      refine aw_tsIn (tgt := 95) dX7_doGo_29 (by omega) (by omega) rfl rfl ?_
      refine aw_aload_n dX7_doGo_95 rfl rfl ⟨by decide, by decide⟩ ?_
      refine aw_gzF 0 dX7_doGo_96 fl_RX7_7 (by assumption) rfl rfl (by assumption) ?_
      refine aw_sipush dX7_doGo_99 (by decide) ⟨by decide, by decide⟩ ?_
      refine aw_iload_n dX7_doGo_102 rfl rfl ?_
      refine aw_iadd dX7_doGo_103 (az_wr_id (by omega) (by omega)) ?_
      refine aw_aload_n dX7_doGo_104 rfl rfl ⟨by decide, by decide⟩ ?_
      refine aw_gzF 0 dX7_doGo_105 fl_RX7_7 (by assumption) rfl rfl (by assumption) ?_
      refine aw_sipush dX7_doGo_108 (by decide) ⟨by decide, by decide⟩ ?_
      refine aw_iload_n dX7_doGo_111 rfl rfl ?_
      refine aw_iadd dX7_doGo_112 (az_wr_id (by omega) (by omega)) ?_
      refine aw_iv dX7_doGo_113 (by assumption) (by omega) (by omega) v113 ?_
      refine aw_iast dX7_doGo_114 (by assumption) (by omega) (by omega) ?_
      refine aw_goto (tgt := 177) dX7_doGo_115 rfl ?_
      exact fin _ _ _ (by rw [← hG]; exact HM_name hc hw.1 (by omega)) (fun q => absurd q k0) (fM _ (fN _ _))
  rw [if_neg k1] at hG
  by_cases k2 : it i 0 = 2
  · rw [if_pos k2] at hG
    have e14 : M (m + 14) i = 3 := by rw [p1, k2]; rfl
    have e15 : M (m + 15) i = it i 1 := by rw [p2, if_neg (by omega)]
    have e16 : M (m + 16) i = it i 2 := p4 (Or.inr k2)
    have e17 : M (m + 17) i = it i 3 := p5 k2
    refine aw_aload_n dX7_doGo_0 rfl rfl ⟨by decide, by decide⟩ ?_
    refine aw_gzF 18 dX7_doGo_1 fl_RX7_53 (by assumption) rfl rfl (by assumption) ?_
    refine aw_aload_n dX7_doGo_4 rfl rfl ⟨by decide, by decide⟩ ?_
    refine aw_gi 39 dX7_doGo_5 fl_RX7_439 (by assumption) rfl rfl h39 ?_
    refine aw_iv dX7_doGo_8 (by assumption) (by omega) (by omega) e15 ?_
    refine aw_istore_n dX7_doGo_9 rfl (by decide) ?_
    refine aw_aload_n dX7_doGo_10 rfl rfl ⟨by decide, by decide⟩ ?_
    refine aw_gzF 19 dX7_doGo_11 fl_RX7_56 (by assumption) rfl rfl (by assumption) ?_
    refine aw_aload_n dX7_doGo_14 rfl rfl ⟨by decide, by decide⟩ ?_
    refine aw_gi 39 dX7_doGo_15 fl_RX7_439 (by assumption) rfl rfl h39 ?_
    refine aw_iv dX7_doGo_18 (by assumption) (by omega) (by omega) e16 ?_
    refine aw_istore_n dX7_doGo_19 rfl (by decide) ?_
    refine aw_aload_n dX7_doGo_20 rfl rfl ⟨by decide, by decide⟩ ?_
    refine aw_gzF 17 dX7_doGo_21 fl_RX7_50 (by assumption) rfl rfl (by assumption) ?_
    refine aw_aload_n dX7_doGo_24 rfl rfl ⟨by decide, by decide⟩ ?_
    refine aw_gi 39 dX7_doGo_25 fl_RX7_439 (by assumption) rfl rfl h39 ?_
    refine aw_iv dX7_doGo_28 (by assumption) (by omega) (by omega) e14 ?_
    refine aw_tsIn (tgt := 118) dX7_doGo_29 (by omega) (by omega) rfl rfl ?_
    refine aw_aload_n dX7_doGo_118 rfl rfl ⟨by decide, by decide⟩ ?_
    refine aw_aload_n dX7_doGo_119 rfl rfl ⟨by decide, by decide⟩ ?_
    refine aw_iload_n dX7_doGo_120 rfl rfl ?_
    refine aw_iload_n dX7_doGo_121 rfl rfl ?_
    refine aw_aload_n dX7_doGo_122 rfl rfl ⟨by decide, by decide⟩ ?_
    refine aw_gzF 20 dX7_doGo_123 fl_RX7_59 (by assumption) rfl rfl (by assumption) ?_
    refine aw_aload_n dX7_doGo_126 rfl rfl ⟨by decide, by decide⟩ ?_
    refine aw_gi 39 dX7_doGo_127 fl_RX7_439 (by assumption) rfl rfl h39 ?_
    refine aw_iv dX7_doGo_130 (by assumption) (by omega) (by omega) e17 ?_
    refine aw_cV3i dX7_doGo_131 ml_RX7_231 (by assumption) (by decide) rfl rfl ⟨by decide, by decide, by decide, by decide⟩ (Nat.le_of_ble_eq_true rfl) (sp_goLoad hKo0 M hc hw (by omega) (it i 1) (it i 2) (it i 3) (by omega) (by omega) (by omega) (by omega) (hcan.1 k2)) (fun z5 M5 hM5 => ?_)
    obtain ⟨e5, h5, f5⟩ := hM5
    refine aw_pi 9 dX7_doGo_134 fl_RX7_308 (by assumption) rfl rfl ?_
    refine aw_goto (tgt := 177) dX7_doGo_137 rfl ?_
    exact fin _ _ _ (HM_fr (by rw [← hG]; exact h5) (up_oth _ _ _ (by omega))) (fun q => absurd q k0) (fC M5 z5 f5)
  rw [if_neg k2] at hG
  by_cases k3 : it i 0 = 3
  · rw [if_pos k3] at hG
    have e15 : M (m + 15) i = it i 1 := by rw [p2, if_neg (by omega)]
    have e16 : M (m + 16) i = it i 3 := p3 (Or.inr k3)
    have hst := sp_goStore hKo0 M hc hw (by omega) (it i 1) (it i 3) (it i 2) (by omega) (by omega) (by omega) (hcan.2 k3)
    by_cases o1 : it i 2 = -1
    · have e14 : M (m + 14) i = 5 := by rw [p1, k3, o1]; rfl
      rw [o1] at hst hG
      refine aw_aload_n dX7_doGo_0 rfl rfl ⟨by decide, by decide⟩ ?_
      refine aw_gzF 18 dX7_doGo_1 fl_RX7_53 (by assumption) rfl rfl (by assumption) ?_
      refine aw_aload_n dX7_doGo_4 rfl rfl ⟨by decide, by decide⟩ ?_
      refine aw_gi 39 dX7_doGo_5 fl_RX7_439 (by assumption) rfl rfl h39 ?_
      refine aw_iv dX7_doGo_8 (by assumption) (by omega) (by omega) e15 ?_
      refine aw_istore_n dX7_doGo_9 rfl (by decide) ?_
      refine aw_aload_n dX7_doGo_10 rfl rfl ⟨by decide, by decide⟩ ?_
      refine aw_gzF 19 dX7_doGo_11 fl_RX7_56 (by assumption) rfl rfl (by assumption) ?_
      refine aw_aload_n dX7_doGo_14 rfl rfl ⟨by decide, by decide⟩ ?_
      refine aw_gi 39 dX7_doGo_15 fl_RX7_439 (by assumption) rfl rfl h39 ?_
      refine aw_iv dX7_doGo_18 (by assumption) (by omega) (by omega) e16 ?_
      refine aw_istore_n dX7_doGo_19 rfl (by decide) ?_
      refine aw_aload_n dX7_doGo_20 rfl rfl ⟨by decide, by decide⟩ ?_
      refine aw_gzF 17 dX7_doGo_21 fl_RX7_50 (by assumption) rfl rfl (by assumption) ?_
      refine aw_aload_n dX7_doGo_24 rfl rfl ⟨by decide, by decide⟩ ?_
      refine aw_gi 39 dX7_doGo_25 fl_RX7_439 (by assumption) rfl rfl h39 ?_
      refine aw_iv dX7_doGo_28 (by assumption) (by omega) (by omega) e14 ?_
      refine aw_tsIn (tgt := 158) dX7_doGo_29 (by omega) (by omega) rfl rfl ?_
      refine aw_aload_n dX7_doGo_158 rfl rfl ⟨by decide, by decide⟩ ?_
      refine aw_iload_n dX7_doGo_159 rfl rfl ?_
      refine aw_iload_n dX7_doGo_160 rfl rfl ?_
      refine aw_iconst dX7_doGo_161 rfl ⟨by decide, by decide⟩ ?_
      refine aw_cV3v dX7_doGo_162 ml_RX7_244 (by assumption) (by decide) rfl rfl ⟨by decide, by decide, by decide, by decide⟩ (Nat.le_of_ble_eq_true rfl) (hst) (fun M5 hM5 => ?_)
      refine aw_goto (tgt := 177) dX7_doGo_165 rfl ?_
      exact fin _ _ _ (by rw [← hG]; exact hM5.1) (fun q => absurd q k0) (fM _ hM5.2)
    · have e14 : M (m + 14) i = 4 := by rw [p1, k3]; show (if it i 2 = -1 then (5 : Int) else 4) = 4; rw [if_neg o1]
      have e17 : M (m + 17) i = it i 2 := p6 ⟨k3, o1⟩
      refine aw_aload_n dX7_doGo_0 rfl rfl ⟨by decide, by decide⟩ ?_
      refine aw_gzF 18 dX7_doGo_1 fl_RX7_53 (by assumption) rfl rfl (by assumption) ?_
      refine aw_aload_n dX7_doGo_4 rfl rfl ⟨by decide, by decide⟩ ?_
      refine aw_gi 39 dX7_doGo_5 fl_RX7_439 (by assumption) rfl rfl h39 ?_
      refine aw_iv dX7_doGo_8 (by assumption) (by omega) (by omega) e15 ?_
      refine aw_istore_n dX7_doGo_9 rfl (by decide) ?_
      refine aw_aload_n dX7_doGo_10 rfl rfl ⟨by decide, by decide⟩ ?_
      refine aw_gzF 19 dX7_doGo_11 fl_RX7_56 (by assumption) rfl rfl (by assumption) ?_
      refine aw_aload_n dX7_doGo_14 rfl rfl ⟨by decide, by decide⟩ ?_
      refine aw_gi 39 dX7_doGo_15 fl_RX7_439 (by assumption) rfl rfl h39 ?_
      refine aw_iv dX7_doGo_18 (by assumption) (by omega) (by omega) e16 ?_
      refine aw_istore_n dX7_doGo_19 rfl (by decide) ?_
      refine aw_aload_n dX7_doGo_20 rfl rfl ⟨by decide, by decide⟩ ?_
      refine aw_gzF 17 dX7_doGo_21 fl_RX7_50 (by assumption) rfl rfl (by assumption) ?_
      refine aw_aload_n dX7_doGo_24 rfl rfl ⟨by decide, by decide⟩ ?_
      refine aw_gi 39 dX7_doGo_25 fl_RX7_439 (by assumption) rfl rfl h39 ?_
      refine aw_iv dX7_doGo_28 (by assumption) (by omega) (by omega) e14 ?_
      refine aw_tsIn (tgt := 140) dX7_doGo_29 (by omega) (by omega) rfl rfl ?_
      refine aw_aload_n dX7_doGo_140 rfl rfl ⟨by decide, by decide⟩ ?_
      refine aw_iload_n dX7_doGo_141 rfl rfl ?_
      refine aw_iload_n dX7_doGo_142 rfl rfl ?_
      refine aw_aload_n dX7_doGo_143 rfl rfl ⟨by decide, by decide⟩ ?_
      refine aw_gzF 20 dX7_doGo_144 fl_RX7_59 (by assumption) rfl rfl (by assumption) ?_
      refine aw_aload_n dX7_doGo_147 rfl rfl ⟨by decide, by decide⟩ ?_
      refine aw_gi 39 dX7_doGo_148 fl_RX7_439 (by assumption) rfl rfl h39 ?_
      refine aw_iv dX7_doGo_151 (by assumption) (by omega) (by omega) e17 ?_
      refine aw_cV3v dX7_doGo_152 ml_RX7_244 (by assumption) (by decide) rfl rfl ⟨by decide, by decide, by decide, by decide⟩ (Nat.le_of_ble_eq_true rfl) (hst) (fun M5 hM5 => ?_)
      refine aw_goto (tgt := 177) dX7_doGo_155 rfl ?_
      exact fin _ _ _ (by rw [← hG]; exact hM5.1) (fun q => absurd q k0) (fM _ hM5.2)
  rw [if_neg k3] at hG
  have k4 : it i 0 = 4 := by omega
  have e14 : M (m + 14) i = 6 := by rw [p1, k4]; rfl
  have e15 : M (m + 15) i = it i 3 := by rw [p2, if_pos (Or.inl k4)]
  refine aw_aload_n dX7_doGo_0 rfl rfl ⟨by decide, by decide⟩ ?_
  refine aw_gzF 18 dX7_doGo_1 fl_RX7_53 (by assumption) rfl rfl (by assumption) ?_
  refine aw_aload_n dX7_doGo_4 rfl rfl ⟨by decide, by decide⟩ ?_
  refine aw_gi 39 dX7_doGo_5 fl_RX7_439 (by assumption) rfl rfl h39 ?_
  refine aw_iv dX7_doGo_8 (by assumption) (by omega) (by omega) e15 ?_
  refine aw_istore_n dX7_doGo_9 rfl (by decide) ?_
  refine aw_aload_n dX7_doGo_10 rfl rfl ⟨by decide, by decide⟩ ?_
  refine aw_gzF 19 dX7_doGo_11 fl_RX7_56 (by assumption) rfl rfl (by assumption) ?_
  refine aw_aload_n dX7_doGo_14 rfl rfl ⟨by decide, by decide⟩ ?_
  refine aw_gi 39 dX7_doGo_15 fl_RX7_439 (by assumption) rfl rfl h39 ?_
  refine aw_iv dX7_doGo_18 (by assumption) (by omega) (by omega) rfl ?_
  refine aw_istore_n dX7_doGo_19 rfl (by decide) ?_
  refine aw_aload_n dX7_doGo_20 rfl rfl ⟨by decide, by decide⟩ ?_
  refine aw_gzF 17 dX7_doGo_21 fl_RX7_50 (by assumption) rfl rfl (by assumption) ?_
  refine aw_aload_n dX7_doGo_24 rfl rfl ⟨by decide, by decide⟩ ?_
  refine aw_gi 39 dX7_doGo_25 fl_RX7_439 (by assumption) rfl rfl h39 ?_
  refine aw_iv dX7_doGo_28 (by assumption) (by omega) (by omega) e14 ?_
  refine aw_tsOut (tgt := 168) dX7_doGo_29 (by omega) rfl ?_
  refine aw_aload_n dX7_doGo_168 rfl rfl ⟨by decide, by decide⟩ ?_
  refine aw_aload_n dX7_doGo_169 rfl rfl ⟨by decide, by decide⟩ ?_
  refine aw_iload_n dX7_doGo_170 rfl rfl ?_
  refine aw_cV1i dX7_doGo_171 ml_RX7_189 (by assumption) (by decide) rfl rfl ⟨by decide, by decide, by decide, by decide⟩ (Nat.le_of_ble_eq_true rfl) (sp_goSteps hKo0 M hc hw (by omega) hcz (it i 3) (by omega) (by omega)) (fun z5 M5 hM5 => ?_)
  obtain ⟨e5, h5, f5⟩ := hM5
  refine aw_pi 9 dX7_doGo_174 fl_RX7_308 (by assumption) rfl rfl ?_
  exact fin _ _ _ (HM_fr (by rw [← hG]; exact h5) (up_oth _ _ _ (by omega))) (fun q => absurd q k0) (fC M5 z5 f5)
end GO
