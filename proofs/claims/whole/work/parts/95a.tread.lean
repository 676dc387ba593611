/-! TreadRing: where all lies, its heaps by their time -/
set_option maxRecDepth 20000
def qrp (K : az_K) (M : az_M) (z : Int) : Option az_V → az_K → az_M → Prop := fun r K' M' => r = some (1, z) ∧ K' = K ∧ M' = M
section AR
variable {P : az_E → State → Array Value → Prop} {Z : List Frame → Array Value → State → az_E → State → Prop} {R : Room} {y : MethodName} {cc : ByteArray} {nL : Nat} {ret : Option FieldType} {cs sl pc : Nat} {L S : List az_V} {K : az_K} {M : az_M}
theorem aw_cV0q {y' : MethodName} {cc' : ByteArray} {nL' : Nat} {ret' : Option FieldType} {d' idx : Nat} {a : Int} {ci nn : Nat} {q : vw_C} {z : Int} (hd : decode cc pc = .ok (.invokevirtual idx, 3)) (hm : az_MV y.cls idx y' cc' nL' ret' 0) (hK : az_at K a (ci, nn)) (h8 : ci < 8) (hc : vwCl[ci]? = some q) (hq : q.1 = y'.cls) (hrm : d' + 1 ≤ R.frames ∧ 8 + (nL' + 11) + 40 * d' ≤ R.locals ∧ cs + 0 ≤ R.cells ∧ sl + 0 ≤ R.slots) (hS8 : S.length ≤ 8) (hA : AM y' cc' nL' ret' d' 0 0 [(1, a)] K M (qrp K M z))
    (kk : AW P Z R y cc nL ret cs sl (pc + 3) L ((1, z) :: S) K M) : AW P Z R y cc nL ret cs sl pc L ((1, a) :: S) K M := aw_callV (As := []) hd hm rfl hK h8 hc hq hrm hS8 hA (fun r K' M' h => by obtain ⟨rfl, rfl, rfl⟩ := h; exact kk)
end AR
def TrK (K : az_K) (x : Int) : Prop := az_at K x (6, 15) ∧ az_at K (x + 1) (102, 21) ∧ az_at K (x + 2) (102, 2) ∧ az_at K (x + 3) (101, 2) ∧ HpK K (x + 4) ∧ az_at K (x + 19) (100, 6) ∧ ReK K (x + 20) ∧ az_at K (x + 23) (100, 400) ∧ RtK K (x + 24) (x + 23) ∧ ScK K (x + 33) ∧ ScK K (x + 39) ∧ az_at K (x + 45) (4, 4) ∧
  (∀ i, 0 ≤ i → i < 21 → HpK K (x + 46 + 15 * i) ∧ K.2 (x + 1) i = some (x + 46 + 15 * i)) ∧ (∀ j, 0 ≤ j → j < 2 → HpK K (x + 361 + 15 * j) ∧ K.2 (x + 2) j = some (x + 361 + 15 * j)) ∧
  K.2 x 0 = some (x + 1) ∧ K.2 x 4 = some (x + 2) ∧ K.2 x 5 = some (x + 3) ∧ K.2 x 6 = some (x + 4) ∧ K.2 x 7 = some (x + 19) ∧ K.2 x 8 = some (x + 20) ∧ K.2 x 9 = some (x + 23) ∧ K.2 x 11 = some (x + 24) ∧ K.2 x 14 = some (x + 45) ∧
  K.2 x 12 = none ∧ K.2 x 13 = none ∧ K.2 (x + 24) 0 = none ∧ K.2 (x + 24) 4 = none ∧ K.2 (x + 45) 0 = none ∧ K.2 (x + 45) 1 = none ∧ (0 ≤ x ∧ x ≤ 1000000)
/-- the heaps of the class by their time: the cu-th place holds what is now -/
def TRh (M : az_M) (x : Int) (ch : hCh) (a u : Int) (bx : hCh) (bz : Int → Int) (cu : Int) : Prop := M x 1 = cu ∧ (0 ≤ cu ∧ cu < 21) ∧ M x 2 = a ∧ M x 3 = u ∧ (∀ t, 0 ≤ t → t ≤ a + u → HS M (x + 46 + 15 * ((cu - a + t) % 21)) (ch t)) ∧ ∀ j, 0 ≤ j → j < 2 → M (x + 3) j = bz j ∧ (bz j = 1 → HS M (x + 361 + 15 * j) (bx j))
def frA (M M' : az_M) (x : Int) : Prop := (∀ b, b ≠ x → b < x + 46 ∨ x + 360 < b → M' b = M b) ∧ ∀ j, j ≠ 1 → j ≠ 2 → j ≠ 3 → M' x j = M x j
theorem frA.refl (M : az_M) (x : Int) : frA M M x := ⟨fun _ _ _ => rfl, fun _ _ _ _ => rfl⟩
theorem frA.trans {M M1 M2 : az_M} {x : Int} (p : frA M M1 x) (q : frA M1 M2 x) : frA M M2 x := ⟨fun b h1 h2 => (q.1 b h1 h2).trans (p.1 b h1 h2), fun j a b c => (q.2 j a b c).trans (p.2 j a b c)⟩
/-- what a question may touch -/
def frY (M M' : az_M) (x : Int) : Prop := ∀ b, b < x + 4 ∨ x + 22 < b → b ≠ x + 45 → M' b = M b
theorem frY.refl (M : az_M) (x : Int) : frY M M x := fun _ _ _ => rfl
theorem frY.trans {M M1 M2 : az_M} {x : Int} (p : frY M M1 x) (q : frY M1 M2 x) : frY M M2 x := fun b h1 h2 => (q b h1 h2).trans (p b h1 h2)
section TH
variable {K : az_K} {x : Int} {M M' : az_M} {ch : hCh} {a u : Int} {bx : hCh} {bz : Int → Int} {B cu : Int} {T : hSt}
theorem sp_heap (hK : TrK K x) (M : az_M) (hcu : M x 1 = cu) (c0 : 0 ≤ cu) (c1 : cu < 21) : AM yX6_heap cX6_heap 1 (some (.object "TreadRing$Heap")) 0 0 0 [(1, x)] K M (qrp K M (x + 46 + 15 * cu)) := by
  have hK0 := hK
  obtain ⟨kx, k1, k2, k3, hT4, k19, hRe, k23, hRt, hS1, hS2, k45, hKp, hBx, y0, y4, y5, y6, y7, y8, y9, y11, y14, n12, n13, r0, r4, q0, q1, xin⟩ := hK
  refine am_of (by decide) (Nat.le_of_ble_eq_true rfl) (L := [(1, x)]) rfl ?_
  refine aw_fz (fun hz => ?_)
  have v8 := (hz (x + 1) cu _ (hKp cu c0 c1).2).1
  refine aw_aload_n dX6_heap_0 rfl rfl ⟨by decide, by decide⟩ ?_
  refine aw_gzF 0 dX6_heap_1 fl_RX6_11 (by assumption) rfl rfl (by assumption) ?_
  refine aw_aload_n dX6_heap_4 rfl rfl ⟨by decide, by decide⟩ ?_
  refine aw_gi 1 dX6_heap_5 fl_RX6_15 (by assumption) rfl rfl hcu ?_
  refine aw_qv dX6_heap_8 (by assumption) (by omega) (by omega) v8 ?_
  exact aw_aret dX6_heap_9 (show (1 : Nat) ≠ 0 by decide) (by decide) (by decide) ⟨rfl, rfl, rfl⟩
theorem TRh.hs (hg : GW ch a u bx bz B) (h : TRh M x ch a u bx bz cu) : HS M (x + 46 + 15 * cu) (ch a) := by
  have h1 := hg.1
  have h2 := hg.2.1
  have := h.2.2.2.2.1 a h1 (by omega)
  rw [show (cu - a + a) % 21 = cu by have := h.2.1; omega] at this
  exact this
/-- the heap that there is -/
theorem TRh.now (hK : TrK K x) (hg : GW ch a u bx bz B) (ht : TRh M x ch a u bx bz cu) : ∃ h, h = x + 46 + 15 * cu ∧ HpK K h ∧ HS M h (ch a) ∧ AM yX6_heap cX6_heap 1 (some (.object "TreadRing$Heap")) 0 0 0 [(1, x)] K M (qrp K M h) ∧ x + 46 ≤ h ∧ h + 14 ≤ x + 360 := by
  have hc := ht.2.1
  have hH := hK.2.2.2.2.2.2.2.2.2.2.2.2.1 cu hc.1 hc.2
  exact ⟨_, rfl, hH.1, ht.hs hg, sp_heap hK M ht.1 hc.1 hc.2, by omega, by omega⟩
theorem TRh.ofY (ht : TRh M x ch a u bx bz cu) (f : frY M M' x) : TRh M' x ch a u bx bz cu := by
  obtain ⟨h1, h2, h3, h4, h5, h6⟩ := ht
  have ex : M' x = M x := f _ (by omega) (by omega)
  refine ⟨by rw [ex]; exact h1, h2, by rw [ex]; exact h3, by rw [ex]; exact h4, fun t t0 t1 => HS_fr (h5 t t0 t1) (fun b b0 b1 => f b (by omega) (by omega)), fun j j0 j1 => ⟨by rw [f _ (by omega) (by omega)]; exact (h6 j j0 j1).1, fun q => HS_fr ((h6 j j0 j1).2 q) (fun b b0 b1 => f b (by omega) (by omega))⟩⟩
/-- the heap that there is becomes another one -/
theorem TRh.cur (hg : GW ch a u bx bz B) (ht : TRh M x ch a u bx bz cu) (hT : HS M' (x + 46 + 15 * cu) T) (f : frH M M' (x + 46 + 15 * cu)) : TRh M' x (chs ch a T) a u bx bz cu ∧ frA M M' x := by
  obtain ⟨h1, h2, h3, h4, h5, h6⟩ := ht
  obtain ⟨g1, g2, g3, -, -⟩ := hg
  have ex : M' x = M x := f _ (by omega)
  refine ⟨⟨by rw [ex]; exact h1, h2, by rw [ex]; exact h3, by rw [ex]; exact h4, fun t t0 t1 => ?_, fun j j0 j1 => ⟨by rw [f _ (by omega)]; exact (h6 j j0 j1).1, fun q => HS_fr ((h6 j j0 j1).2 q) (fun b b0 b1 => f b (by omega))⟩⟩, fun b b0 b1 => f b (by omega), fun j _ _ _ => by rw [ex]⟩
  by_cases e : t = a
  · rw [e, chs_s, show (cu - a + a) % 21 = cu by omega]; exact hT
  · rw [chs_n _ _ e]
    have hne : (cu - a + t) % 21 ≠ cu := by omega
    exact HS_fr (h5 t t0 t1) (fun b b0 b1 => f b (by omega))
def nx1_ (cu : Int) : Int := (cu + 1) % 21
set_option maxHeartbeats 1000000 in
theorem sp_act (hK : TrK K x) (M : az_M) (hg : GW ch a u bx bz B) (ht : TRh M x ch a u bx bz cu) : AM yX6_act cX6_act 2 (some (.object "TreadRing$Heap")) 3 0 0 [(1, x)] K M (qr K (fun z M' => z = x + 46 + 15 * nx1_ cu ∧ TRh M' x (keepC ch a) (nxA a) 0 bx bz (nx1_ cu) ∧ frA M M' x)) := by
  have hK0 := hK
  obtain ⟨kx, k1, k2, k3, hT4, k19, hRe, k23, hRt, hS1, hS2, k45, hKp, hBx, y0, y4, y5, y6, y7, y8, y9, y11, y14, n12, n13, r0, r4, q0, q1, xin⟩ := hK
  refine am_of (by decide) (Nat.le_of_ble_eq_true rfl) (L := [(1, x), (9, 0)]) rfl ?_
  refine aw_fz (fun hz => ?_)
  have hc := ht.hs hg
  have hwl := hg.cur.1
  obtain ⟨h1, h2, h3, h4, h5, h6⟩ := id ht
  obtain ⟨g1, g2, g3, -, -⟩ := id hg
  obtain ⟨c', hc'⟩ : ∃ c', c' = nx1_ cu := ⟨_, rfl⟩
  have hce : c' = (cu + 1) % 21 := hc'
  rw [← hc']
  have v8 := (hz (x + 1) cu _ (hKp cu h2.1 h2.2).2).1
  have v8' := (hz (x + 1) c' _ (hKp c' (by omega) (by omega)).2).1
  have hne : x + 46 + 15 * c' + 14 < x + 46 + 15 * cu ∨ x + 46 + 15 * cu + 14 < x + 46 + 15 * c' := by omega
  have v31 : az_up M x 1 c' x 1 = c' := az_up_s _ _ _ _
  have v34 : az_up M x 1 c' (x + 1) c' = x + 46 + 15 * c' := by rw [up_oth _ _ _ (by omega)]; exact v8'
  have hc1 : HS (az_up M x 1 c') (x + 46 + 15 * cu) (ch a) := HS_fr hc (fun b b0 b1 => up_oth _ _ _ (by omega))
  have hbe := sp_become (hKp c' (by omega) (by omega)).1 (hKp cu h2.1 h2.2).1 hne (az_up M x 1 c') hc1 hwl.1
  have khh := (hKp c' (by omega) (by omega)).1.2.1
  refine aw_aload_n dX6_act_0 rfl rfl ⟨by decide, by decide⟩ ?_
  refine aw_gzF 0 dX6_act_1 fl_RX6_11 (by assumption) rfl rfl (by assumption) ?_
  refine aw_aload_n dX6_act_4 rfl rfl ⟨by decide, by decide⟩ ?_
  refine aw_gi 1 dX6_act_5 fl_RX6_15 (by assumption) rfl rfl h1 ?_
  refine aw_qv dX6_act_8 (by assumption) (by omega) (by omega) v8 ?_
  refine aw_astore_n dX6_act_9 rfl (by decide) (by decide) ?_
  refine aw_aload_n dX6_act_10 rfl rfl ⟨by decide, by decide⟩ ?_
  refine aw_aload_n dX6_act_11 rfl rfl ⟨by decide, by decide⟩ ?_
  refine aw_gi 1 dX6_act_12 fl_RX6_15 (by assumption) rfl rfl h1 ?_
  refine aw_iconst dX6_act_15 rfl ⟨by decide, by decide⟩ ?_
  refine aw_iadd dX6_act_16 (az_wr_id (by omega) (by omega)) ?_
  refine aw_aload_n dX6_act_17 rfl rfl ⟨by decide, by decide⟩ ?_
  refine aw_gzF 0 dX6_act_18 fl_RX6_11 (by assumption) rfl rfl (by assumption) ?_
  refine aw_alen102 dX6_act_21 k1 ⟨by decide, by decide⟩ ?_
  refine aw_irem dX6_act_22 (by omega) (by omega) ?_
  rw [show (cu + 1) % ((21 : Nat) : Int) = c' from hce.symm]
  refine aw_pi 1 dX6_act_23 fl_RX6_15 (by assumption) rfl rfl ?_
  refine aw_aload_n dX6_act_26 rfl rfl ⟨by decide, by decide⟩ ?_
  refine aw_gzF 0 dX6_act_27 fl_RX6_11 (by assumption) rfl rfl (by assumption) ?_
  refine aw_aload_n dX6_act_30 rfl rfl ⟨by decide, by decide⟩ ?_
  refine aw_gi 1 dX6_act_31 fl_RX6_15 (by assumption) rfl rfl v31 ?_
  refine aw_qv dX6_act_34 (by assumption) (by omega) (by omega) v34 ?_
  refine aw_aload_n dX6_act_35 rfl rfl ⟨by decide, by decide⟩ ?_
  refine aw_cV1v dX6_act_36 ml_RX6_198 (by assumption) (by decide) rfl rfl ⟨by decide, by decide, by decide, by decide⟩ (Nat.le_of_ble_eq_true rfl) (hbe) (fun M2 hM2 => ?_)
  obtain ⟨t2, f2⟩ := hM2
  have e2 : M2 x = az_up M x 1 c' x := f2 _ (by omega)
  have v41 : M2 x 2 = a := by rw [e2, az_up_i _ _ _ _ (by omega)]; exact h3
  refine aw_aload_n dX6_act_39 rfl rfl ⟨by decide, by decide⟩ ?_
  refine aw_aload_n dX6_act_40 rfl rfl ⟨by decide, by decide⟩ ?_
  refine aw_gi 2 dX6_act_41 fl_RX6_19 (by assumption) rfl rfl v41 ?_
  refine aw_iconst dX6_act_44 rfl ⟨by decide, by decide⟩ ?_
  refine aw_iadd dX6_act_45 (az_wr_id (by omega) (by omega)) ?_
  refine aw_bipush dX6_act_46 (by decide) ⟨by decide, by decide⟩ ?_
  refine aw_mmin dX6_act_48 mm_RX6_292 ⟨by decide, Nat.le_of_ble_eq_true rfl, by decide, by decide⟩ ?_
  refine aw_pi 2 dX6_act_51 fl_RX6_19 (by assumption) rfl rfl ?_
  refine aw_aload_n dX6_act_54 rfl rfl ⟨by decide, by decide⟩ ?_
  refine aw_iconst dX6_act_55 rfl ⟨by decide, by decide⟩ ?_
  refine aw_pi 3 dX6_act_56 fl_RX6_22 (by assumption) rfl rfl ?_
  have e3 : ∀ b, b ≠ x → az_up (az_up M2 x 2 (min (a + 1) 20)) x 3 0 b = M2 b := fun b hb => by rw [up_oth _ _ _ hb, up_oth _ _ _ hb]
  have e31 : az_up (az_up M2 x 2 (min (a + 1) 20)) x 3 0 x 1 = c' := by rw [az_up_i _ _ _ _ (by omega), az_up_i _ _ _ _ (by omega), e2]; exact v31
  have e32 : az_up (az_up M2 x 2 (min (a + 1) 20)) x 3 0 x 2 = min (a + 1) 20 := by rw [az_up_i _ _ _ _ (by omega), az_up_s]
  have e33 : az_up (az_up M2 x 2 (min (a + 1) 20)) x 3 0 x 3 = 0 := az_up_s _ _ _ _
  have e3j : ∀ j, j ≠ 1 → j ≠ 2 → j ≠ 3 → az_up (az_up M2 x 2 (min (a + 1) 20)) x 3 0 x j = M x j := fun j a b c => by rw [az_up_i _ _ _ _ c, az_up_i _ _ _ _ b, e2, az_up_i _ _ _ _ a]
  generalize az_up (az_up M2 x 2 (min (a + 1) 20)) x 3 0 = M3 at e3 e31 e32 e33 e3j ⊢
  have v67 : M3 (x + 1) c' = x + 46 + 15 * c' := by rw [e3 _ (by omega), f2 _ (by omega)]; exact v34
  refine aw_aload_n dX6_act_59 rfl rfl ⟨by decide, by decide⟩ ?_
  refine aw_gzF 0 dX6_act_60 fl_RX6_11 (by assumption) rfl rfl (by assumption) ?_
  refine aw_aload_n dX6_act_63 rfl rfl ⟨by decide, by decide⟩ ?_
  refine aw_gi 1 dX6_act_64 fl_RX6_15 (by assumption) rfl rfl e31 ?_
  refine aw_qv dX6_act_67 (by assumption) (by omega) (by omega) v67 ?_
  have ho : ∀ b, b ≠ x → b < x + 46 + 15 * c' ∨ x + 46 + 15 * c' + 14 < b → M3 b = M b := fun b p q => by rw [e3 b p, f2 b q, up_oth _ _ _ p]
  refine aw_aret dX6_act_68 (show (1 : Nat) ≠ 0 by decide) (by decide) (by decide) ⟨_, rfl, rfl, rfl, ⟨e31, by omega, ?_, e33, fun t t0 t1 => ?_, fun j j0 j1 => ⟨by rw [ho _ (by omega) (by omega)]; exact (h6 j j0 j1).1, fun q => HS_fr ((h6 j j0 j1).2 q) (fun b b0 b1 => ho b (by omega) (by omega))⟩⟩, fun b p q => ho b p (by omega), e3j⟩
  · rw [e32]
    unfold nxA
    split <;> omega
  · unfold nxA at t1
    unfold keepC nxA
    by_cases q : a < 20
    · rw [if_pos q] at t1
      rw [if_pos q, if_pos q]
      by_cases e : t = a + 1
      · rw [if_pos e, e, show (c' - (a + 1) + (a + 1)) % 21 = c' by omega]
        exact HS_fr t2 (fun b b0 b1 => e3 b (by omega))
      · rw [if_neg e, show (c' - (a + 1) + t) % 21 = (cu - a + t) % 21 by omega]
        have hnn : (cu - a + t) % 21 ≠ c' := by omega
        exact HS_fr (h5 t t0 (by omega)) (fun b b0 b1 => ho b (by omega) (by omega))
    · rw [if_neg q] at t1
      rw [if_neg q, if_neg q]
      by_cases e : t = 20
      · rw [if_pos e, e, show (c' - 20 + 20) % 21 = c' by omega]
        have ha : a = 20 := by omega
        rw [ha] at t2
        exact HS_fr t2 (fun b b0 b1 => e3 b (by omega))
      · rw [if_neg e, show (c' - 20 + t) % 21 = (cu - a + (t + 1)) % 21 by omega]
        have hnn : (cu - a + (t + 1)) % 21 ≠ c' := by omega
        exact HS_fr (h5 (t + 1) (by omega) (by omega)) (fun b b0 b1 => ho b (by omega) (by omega))
theorem sp_forgetActs (hK : TrK K x) (M : az_M) : AM yX6_forgetActs cX6_forgetActs 1 none 0 0 0 [(1, x)] K M (qv K (fun M' => M' x 2 = 0 ∧ M' x 3 = 0 ∧ (∀ b, b ≠ x → M' b = M b) ∧ ∀ j, j ≠ 2 → j ≠ 3 → M' x j = M x j)) := by
  have hK0 := hK
  obtain ⟨kx, k1, k2, k3, hT4, k19, hRe, k23, hRt, hS1, hS2, k45, hKp, hBx, y0, y4, y5, y6, y7, y8, y9, y11, y14, n12, n13, r0, r4, q0, q1, xin⟩ := hK
  refine am_of (by decide) (Nat.le_of_ble_eq_true rfl) (L := [(1, x)]) rfl ?_
  refine aw_aload_n dX6_forgetActs_0 rfl rfl ⟨by decide, by decide⟩ ?_
  refine aw_iconst dX6_forgetActs_1 rfl ⟨by decide, by decide⟩ ?_
  refine aw_pi 2 dX6_forgetActs_2 fl_RX6_19 (by assumption) rfl rfl ?_
  refine aw_aload_n dX6_forgetActs_5 rfl rfl ⟨by decide, by decide⟩ ?_
  refine aw_iconst dX6_forgetActs_6 rfl ⟨by decide, by decide⟩ ?_
  refine aw_pi 3 dX6_forgetActs_7 fl_RX6_22 (by assumption) rfl rfl ?_
  exact aw_vret dX6_forgetActs_10 (by decide) (by decide) ⟨rfl, rfl, by rw [az_up_i _ _ _ _ (by omega), az_up_s], az_up_s _ _ _ _, fun b hb => by rw [up_oth _ _ _ hb, up_oth _ _ _ hb], fun j p q => by rw [az_up_i _ _ _ _ q, az_up_i _ _ _ _ p]⟩
end TH
section IS
theorem sp_cisRoot (K : az_K) (M : az_M) (v : Int) : AM yX6_isRoot cX6_isRoot 1 (some .boolean) 0 0 0 [(0, v)] K M (qp K M (if 0 ≤ v ∧ v < 6 then 1 else 0)) := by
  refine am_of (by decide) (Nat.le_of_ble_eq_true rfl) (L := [(0, v)]) rfl ?_
  refine aw_iload_n dX6_isRoot_0 rfl rfl ?_
  refine aw_if_lt (tgt := 14) dX6_isRoot_1 rfl (fun h1 => ?_) (fun h1 => ?_)
  · refine aw_iconst dX6_isRoot_14 rfl ⟨by decide, by decide⟩ ?_
    exact aw_zret dX6_isRoot_15 (by omega) (by decide) (by decide) (qp_i (by omega))
  · refine aw_iload_n dX6_isRoot_4 rfl rfl ?_
    refine aw_bipush dX6_isRoot_5 (by decide) ⟨by decide, by decide⟩ ?_
    refine aw_icmp_ge (tgt := 14) dX6_isRoot_7 rfl (fun h7 => ?_) (fun h7 => ?_)
    · refine aw_iconst dX6_isRoot_14 rfl ⟨by decide, by decide⟩ ?_
      exact aw_zret dX6_isRoot_15 (by omega) (by decide) (by decide) (qp_i (by omega))
    · refine aw_iconst dX6_isRoot_10 rfl ⟨by decide, by decide⟩ ?_
      refine aw_goto (tgt := 15) dX6_isRoot_11 rfl ?_
      exact aw_zret dX6_isRoot_15 (by omega) (by decide) (by decide) (qp_i (by omega))
theorem sp_cisRootOrNone (K : az_K) (M : az_M) (v : Int) : AM yX6_isRootOrNone cX6_isRootOrNone 1 (some .boolean) 1 0 0 [(0, v)] K M (qp K M (if v = -1 ∨ 0 ≤ v ∧ v < 6 then 1 else 0)) := by
  refine am_of (by decide) (Nat.le_of_ble_eq_true rfl) (L := [(0, v)]) rfl ?_
  refine aw_iload_n dX6_isRootOrNone_0 rfl rfl ?_
  refine aw_iconst dX6_isRootOrNone_1 rfl ⟨by decide, by decide⟩ ?_
  refine aw_icmp_eq (tgt := 12) dX6_isRootOrNone_2 rfl (fun h2 => ?_) (fun h2 => ?_)
  · refine aw_iconst dX6_isRootOrNone_12 rfl ⟨by decide, by decide⟩ ?_
    refine aw_goto (tgt := 17) dX6_isRootOrNone_13 rfl ?_
    exact aw_zret dX6_isRootOrNone_17 (by omega) (by decide) (by decide) (qp_i (by omega))
  · refine aw_iload_n dX6_isRootOrNone_5 rfl rfl ?_
    refine aw_cS1p dX6_isRootOrNone_6 ml_RX6_91 ⟨by decide, by decide, by decide, by decide⟩ (Nat.le_of_ble_eq_true rfl) (sp_cisRoot K M v) ?_
    refine aw_if_eq (tgt := 16) dX6_isRootOrNone_9 rfl (fun h9 => ?_) (fun h9 => ?_)
    · refine aw_iconst dX6_isRootOrNone_16 rfl ⟨by decide, by decide⟩ ?_
      exact aw_zret dX6_isRootOrNone_17 (by omega) (by decide) (by decide) (qp_i (by omega))
    · refine aw_iconst dX6_isRootOrNone_12 rfl ⟨by decide, by decide⟩ ?_
      refine aw_goto (tgt := 17) dX6_isRootOrNone_13 rfl ?_
      exact aw_zret dX6_isRootOrNone_17 (by omega) (by decide) (by decide) (qp_i (by omega))
theorem sp_cisWeak (K : az_K) (M : az_M) (v : Int) : AM yX6_isWeak cX6_isWeak 1 (some .boolean) 0 0 0 [(0, v)] K M (qp K M (if 0 ≤ v ∧ v < 4 then 1 else 0)) := by
  refine am_of (by decide) (Nat.le_of_ble_eq_true rfl) (L := [(0, v)]) rfl ?_
  refine aw_iload_n dX6_isWeak_0 rfl rfl ?_
  refine aw_if_lt (tgt := 13) dX6_isWeak_1 rfl (fun h1 => ?_) (fun h1 => ?_)
  · refine aw_iconst dX6_isWeak_13 rfl ⟨by decide, by decide⟩ ?_
    exact aw_zret dX6_isWeak_14 (by omega) (by decide) (by decide) (qp_i (by omega))
  · refine aw_iload_n dX6_isWeak_4 rfl rfl ?_
    refine aw_iconst dX6_isWeak_5 rfl ⟨by decide, by decide⟩ ?_
    refine aw_icmp_ge (tgt := 13) dX6_isWeak_6 rfl (fun h6 => ?_) (fun h6 => ?_)
    · refine aw_iconst dX6_isWeak_13 rfl ⟨by decide, by decide⟩ ?_
      exact aw_zret dX6_isWeak_14 (by omega) (by decide) (by decide) (qp_i (by omega))
    · refine aw_iconst dX6_isWeak_9 rfl ⟨by decide, by decide⟩ ?_
      refine aw_goto (tgt := 14) dX6_isWeak_10 rfl ?_
      exact aw_zret dX6_isWeak_14 (by omega) (by decide) (by decide) (qp_i (by omega))
theorem sp_cisFieldCount (K : az_K) (M : az_M) (v : Int) : AM yX6_isFieldCount cX6_isFieldCount 1 (some .boolean) 0 0 0 [(0, v)] K M (qp K M (if 0 ≤ v ∧ v ≤ 7 then 1 else 0)) := by
  refine am_of (by decide) (Nat.le_of_ble_eq_true rfl) (L := [(0, v)]) rfl ?_
  refine aw_iload_n dX6_isFieldCount_0 rfl rfl ?_
  refine aw_if_lt (tgt := 14) dX6_isFieldCount_1 rfl (fun h1 => ?_) (fun h1 => ?_)
  · refine aw_iconst dX6_isFieldCount_14 rfl ⟨by decide, by decide⟩ ?_
    exact aw_zret dX6_isFieldCount_15 (by omega) (by decide) (by decide) (qp_i (by omega))
  · refine aw_iload_n dX6_isFieldCount_4 rfl rfl ?_
    refine aw_bipush dX6_isFieldCount_5 (by decide) ⟨by decide, by decide⟩ ?_
    refine aw_icmp_gt (tgt := 14) dX6_isFieldCount_7 rfl (fun h7 => ?_) (fun h7 => ?_)
    · refine aw_iconst dX6_isFieldCount_14 rfl ⟨by decide, by decide⟩ ?_
      exact aw_zret dX6_isFieldCount_15 (by omega) (by decide) (by decide) (qp_i (by omega))
    · refine aw_iconst dX6_isFieldCount_10 rfl ⟨by decide, by decide⟩ ?_
      refine aw_goto (tgt := 15) dX6_isFieldCount_11 rfl ?_
      exact aw_zret dX6_isFieldCount_15 (by omega) (by decide) (by decide) (qp_i (by omega))
theorem sp_cisSize (K : az_K) (M : az_M) (s : Int) : AM yX6_isSize cX6_isSize 1 (some .boolean) 0 0 0 [(0, s)] K M (qp K M (if s = 2 ∨ s = 4 ∨ s = 8 then 1 else 0)) := by
  refine am_of (by decide) (Nat.le_of_ble_eq_true rfl) (L := [(0, s)]) rfl ?_
  refine aw_iload_n dX6_isSize_0 rfl rfl ?_
  refine aw_iconst dX6_isSize_1 rfl ⟨by decide, by decide⟩ ?_
  refine aw_icmp_eq (tgt := 16) dX6_isSize_2 rfl (fun h2 => ?_) (fun h2 => ?_)
  · refine aw_iconst dX6_isSize_16 rfl ⟨by decide, by decide⟩ ?_
    refine aw_goto (tgt := 21) dX6_isSize_17 rfl ?_
    exact aw_zret dX6_isSize_21 (by omega) (by decide) (by decide) (qp_i (by omega))
  · refine aw_iload_n dX6_isSize_5 rfl rfl ?_
    refine aw_iconst dX6_isSize_6 rfl ⟨by decide, by decide⟩ ?_
    refine aw_icmp_eq (tgt := 16) dX6_isSize_7 rfl (fun h7 => ?_) (fun h7 => ?_)
    · refine aw_iconst dX6_isSize_16 rfl ⟨by decide, by decide⟩ ?_
      refine aw_goto (tgt := 21) dX6_isSize_17 rfl ?_
      exact aw_zret dX6_isSize_21 (by omega) (by decide) (by decide) (qp_i (by omega))
    · refine aw_iload_n dX6_isSize_10 rfl rfl ?_
      refine aw_bipush dX6_isSize_11 (by decide) ⟨by decide, by decide⟩ ?_
      refine aw_icmp_ne (tgt := 20) dX6_isSize_13 rfl (fun h13 => ?_) (fun h13 => ?_)
      · refine aw_iconst dX6_isSize_20 rfl ⟨by decide, by decide⟩ ?_
        exact aw_zret dX6_isSize_21 (by omega) (by decide) (by decide) (qp_i (by omega))
      · refine aw_iconst dX6_isSize_16 rfl ⟨by decide, by decide⟩ ?_
        refine aw_goto (tgt := 21) dX6_isSize_17 rfl ?_
        exact aw_zret dX6_isSize_21 (by omega) (by decide) (by decide) (qp_i (by omega))
end IS
section AX
variable {K : az_K} {x : Int} {ch : hCh} {a u : Int} {bx : hCh} {bz : Int → Int} {B cu : Int} {T : hSt}
/-- an act's end, in the class -/
def rC (P : Prop) (z0 : Int) (zN : Int) (T : hSt) (ch : hCh) (a u : Int) (bx : hCh) (bz : Int → Int) (cu : Int) (M : az_M) (x : Int) : Int → az_M → Prop := fun z M' => (P → z = z0 ∧ TRh M' x (chs (keepC ch a) (nxA a) T) (nxA a) 0 bx bz (nx1_ cu)) ∧ (¬ P → z = zN ∧ TRh M' x ch a u bx bz cu) ∧ frA M M' x
theorem rC.no {M : az_M} {P : Prop} {z0 zN : Int} (hp : ¬ P) (ht : TRh M x ch a u bx bz cu) : rC P z0 zN T ch a u bx bz cu M x zN M := ⟨fun q => absurd q hp, fun _ => ⟨rfl, ht⟩, frA.refl M x⟩
theorem rC.yes {M M1 M2 : az_M} {P : Prop} {z0 zN : Int} (hp : P) (hg : GW ch a u bx bz B) (h1 : TRh M1 x (keepC ch a) (nxA a) 0 bx bz (nx1_ cu) ∧ frA M M1 x) (hT : HS M2 (x + 46 + 15 * nx1_ cu) T) (f : frH M1 M2 (x + 46 + 15 * nx1_ cu)) : rC P z0 zN T ch a u bx bz cu M x z0 M2 := by
  obtain ⟨c1, c2⟩ := TRh.cur hg.keep h1.1 hT f
  exact ⟨fun _ => ⟨rfl, c1⟩, fun q => absurd hp q, h1.2.trans c2⟩
theorem act_hs {M1 : az_M} (hg : GW ch a u bx bz B) (h1 : TRh M1 x (keepC ch a) (nxA a) 0 bx bz (nx1_ cu)) : HS M1 (x + 46 + 15 * nx1_ cu) (ch a) := by
  have := h1.hs hg.keep
  rw [keepC_cur hg.1 (by have := hg.2.1; have := hg.2.2.1; omega)] at this
  exact this
theorem nx1_in (hc : 0 ≤ cu ∧ cu < 21) : 0 ≤ nx1_ cu ∧ nx1_ cu < 21 := by unfold nx1_; omega
set_option maxHeartbeats 1000000 in
theorem sp_cmake (hK : TrK K x) (M : az_M) (hg : GW ch a u bx bz B) (hB : B ≤ 19990000) (ht : TRh M x ch a u bx bz cu) (r f : Int) : AM yX6_make cX6_make 3 (some .int) 4 0 0 [(1, x), (0, r), (0, f)] K M (qi K (rC ((0 ≤ r ∧ r < 6) ∧ 0 ≤ f ∧ f ≤ 7) (bldA (ch a) f) (-1) (bldS (ch a) r f) ch a u bx bz cu M x)) := by
  have hK0 := hK
  obtain ⟨kx, k1, k2, k3, hT4, k19, hRe, k23, hRt, hS1, hS2, k45, hKp, hBx, y0, y4, y5, y6, y7, y8, y9, y11, y14, n12, n13, r0, r4, q0, q1, xin⟩ := hK
  refine am_of (by decide) (Nat.le_of_ble_eq_true rfl) (L := [(1, x), (0, r), (0, f)]) rfl ?_
  obtain ⟨w1, w2, w3⟩ := hg.cur
  have hcn := nx1_in ht.2.1
  have no : ¬ ((0 ≤ r ∧ r < 6) ∧ 0 ≤ f ∧ f ≤ 7) → AW az_P0 (az_Z (qi K (rC ((0 ≤ r ∧ r < 6) ∧ 0 ≤ f ∧ f ≤ 7) (bldA (ch a) f) (-1) (bldS (ch a) r f) ch a u bx bz cu M x)) 0 0) (az_rm 4 0 0) yX6_make cX6_make 3 (some .int) 0 0 14 [(1, x), (0, r), (0, f)] [] K M := by
    intro q
    refine aw_iconst dX6_make_14 rfl ⟨by decide, by decide⟩ ?_
    exact aw_iret dX6_make_15 (by decide) (by decide) ⟨_, rfl, rfl, rC.no q ht⟩
  refine aw_iload_n dX6_make_0 rfl rfl ?_
  refine aw_cS1p dX6_make_1 ml_RX6_91 ⟨by decide, by decide, by decide, by decide⟩ (Nat.le_of_ble_eq_true rfl) (sp_cisRoot K M r) ?_
  refine aw_if_eq (tgt := 14) dX6_make_4 rfl (fun h4 => ?_) (fun h4 => ?_)
  · exact no (fun q => if0 h4 q.1)
  · refine aw_iload_n dX6_make_7 rfl rfl ?_
    refine aw_cS1p dX6_make_8 ml_RX6_95 ⟨by decide, by decide, by decide, by decide⟩ (Nat.le_of_ble_eq_true rfl) (sp_cisFieldCount K M f) ?_
    refine aw_if_ne (tgt := 16) dX6_make_11 rfl (fun h11 => ?_) (fun h11 => ?_)
    · have hr := if1 h4
      have hf := if1 h11
      refine aw_aload_n dX6_make_16 rfl rfl ⟨by decide, by decide⟩ ?_
      refine aw_cV0r dX6_make_17 ml_RX6_98 (by assumption) (by decide) rfl rfl ⟨by decide, by decide, by decide, by decide⟩ (Nat.le_of_ble_eq_true rfl) (sp_act hK0 M hg ht) (fun z1 M1 hz1 => ?_)
      obtain ⟨e1, t1⟩ := hz1
      subst e1
      have hH := (hKp (nx1_ cu) hcn.1 hcn.2).1
      have hc1 := act_hs hg t1.1
      have kh := hH.2.1
      refine aw_iload_n dX6_make_20 rfl rfl ?_
      refine aw_iload_n dX6_make_21 rfl rfl ?_
      refine aw_cV2i dX6_make_22 ml_RX6_101 (by assumption) (by decide) rfl rfl ⟨by decide, by decide, by decide, by decide⟩ (Nat.le_of_ble_eq_true rfl) (sp_build hH M1 hc1 w1 (by omega) r f hr.1 hr.2 hf.1 hf.2) (fun z2 M2 hz2 => ?_)
      obtain ⟨e2, t2, f2⟩ := hz2
      subst e2
      exact aw_iret dX6_make_25 (by decide) (by decide) ⟨_, rfl, rfl, rC.yes ⟨hr, hf⟩ hg t1 t2 f2⟩
    · exact no (fun q => if0 h11 q.2)
theorem has_obF {S : hSt} (hw : WL S) {v f : Int} (hv : nok S.1 v) : (ob S.1 v ∧ 0 ≤ f ∧ f < S.1 (128 + v)) ↔ hasF S v f := by
  refine ⟨fun q => ⟨q.1.1.1, q.2⟩, fun q => ⟨?_, q.2⟩⟩
  rcases hv with e | e
  · have := q.1; omega
  · exact e
theorem fOR {M : az_M} {h : Int} {S : hSt} (hc : HS M h S) (hw : WL S) {r f : Int} (r0 : 0 ≤ r) (r1 : r < 6) : (hasF S (S.1 (715 + r)) f → fCell M h (M (h + 9) r) f ≠ -1) ∧ (¬ hasF S (S.1 (715 + r)) f → fCell M h (M (h + 9) r) f = -1) ∧ (0 < cAt (M (h + 4)) (M (h + 9) r) → M (h + 6) (M (h + 9) r) ≤ 8) := by
  have e9 : M (h + 9) r = S.1 (715 + r) := hc.2.2.2.2.2.1.1 r r0 r1
  rw [e9]
  obtain ⟨a, b, c⟩ := fCell_ok hc hw.1 (S.1 (715 + r)) f
  have hn := nam_nok hw (x := 715 + r) (by omega) (by omega)
  refine ⟨fun q => ?_, fun q => b (fun w => q ((has_obF hw hn).mp w)), c⟩
  rw [a ((has_obF hw hn).mpr q)]
  have := q.1
  have := q.2.1
  omega
set_option maxHeartbeats 1000000 in
theorem sp_cload (hK : TrK K x) (M : az_M) (hg : GW ch a u bx bz B) (ht : TRh M x ch a u bx bz cu) (r o f : Int) : AM yX6_load cX6_load 4 (some .int) 4 0 0 [(1, x), (0, r), (0, o), (0, f)] K M (qi K (rC ((0 ≤ r ∧ r < 6) ∧ (0 ≤ o ∧ o < 6) ∧ hasF (ch a) ((ch a).1 (715 + o)) f) (fetV (ch a) o f) (-2) (fetS (ch a) r o f) ch a u bx bz cu M x)) := by
  obtain ⟨h, hh, hH, hc, hhp, hb1, hb2⟩ := ht.now hK hg
  have hK0 := hK
  obtain ⟨kx, k1, k2, k3, hT4, k19, hRe, k23, hRt, hS1, hS2, k45, hKp, hBx, y0, y4, y5, y6, y7, y8, y9, y11, y14, n12, n13, r0, r4, q0, q1, xin⟩ := hK
  refine am_of (by decide) (Nat.le_of_ble_eq_true rfl) (L := [(1, x), (0, r), (0, o), (0, f)]) rfl ?_
  obtain ⟨w1, w2, w3⟩ := hg.cur
  have hcn := nx1_in ht.2.1
  have kh := hH.2.1
  generalize hP : ((0 ≤ r ∧ r < 6) ∧ (0 ≤ o ∧ o < 6) ∧ hasF (ch a) ((ch a).1 (715 + o)) f) = P
  have no : ¬ P → AW az_P0 (az_Z (qi K (rC P (fetV (ch a) o f) (-2) (fetS (ch a) r o f) ch a u bx bz cu M x)) 0 0) (az_rm 4 0 0) yX6_load cX6_load 4 (some .int) 0 0 27 [(1, x), (0, r), (0, o), (0, f)] [] K M := by
    intro q
    refine aw_bipush dX6_load_27 (by decide) ⟨by decide, by decide⟩ ?_
    exact aw_iret dX6_load_29 (by decide) (by decide) ⟨_, rfl, rfl, rC.no q ht⟩
  refine aw_iload_n dX6_load_0 rfl rfl ?_
  refine aw_cS1p dX6_load_1 ml_RX6_91 ⟨by decide, by decide, by decide, by decide⟩ (Nat.le_of_ble_eq_true rfl) (sp_cisRoot K M r) ?_
  refine aw_if_eq (tgt := 27) dX6_load_4 rfl (fun h4 => ?_) (fun h4 => ?_)
  · exact no (fun q => by rw [← hP] at q; exact if0 h4 q.1)
  · refine aw_iload_n dX6_load_7 rfl rfl ?_
    refine aw_cS1p dX6_load_8 ml_RX6_91 ⟨by decide, by decide, by decide, by decide⟩ (Nat.le_of_ble_eq_true rfl) (sp_cisRoot K M o) ?_
    refine aw_if_eq (tgt := 27) dX6_load_11 rfl (fun h11 => ?_) (fun h11 => ?_)
    · exact no (fun q => by rw [← hP] at q; exact if0 h11 q.2.1)
    · have hr := if1 h4
      have ho := if1 h11
      obtain ⟨fa, fb, fc⟩ := fOR hc w1 (f := f) ho.1 ho.2
      refine aw_aload_n dX6_load_14 rfl rfl ⟨by decide, by decide⟩ ?_
      refine aw_cV0q dX6_load_15 ml_RX6_80 (by assumption) (by decide) rfl rfl ⟨by decide, by decide, by decide, by decide⟩ (Nat.le_of_ble_eq_true rfl) (hhp) ?_
      refine aw_iload_n dX6_load_18 rfl rfl ?_
      refine aw_iload_n dX6_load_19 rfl rfl ?_
      refine aw_cV2p dX6_load_20 ml_RX6_105 (by assumption) (by decide) rfl rfl ⟨by decide, by decide, by decide, by decide⟩ (Nat.le_of_ble_eq_true rfl) (sp_fieldOfRoot hH M o f ho.1 ho.2 (HS_ro hc) fc) ?_
      refine aw_iconst dX6_load_23 rfl ⟨by decide, by decide⟩ ?_
      refine aw_icmp_ne (tgt := 30) dX6_load_24 rfl (fun h24 => ?_) (fun h24 => ?_)
      · have hf : hasF (ch a) ((ch a).1 (715 + o)) f := Classical.byContradiction (fun q => h24 (fb q))
        refine aw_aload_n dX6_load_30 rfl rfl ⟨by decide, by decide⟩ ?_
        refine aw_cV0r dX6_load_31 ml_RX6_98 (by assumption) (by decide) rfl rfl ⟨by decide, by decide, by decide, by decide⟩ (Nat.le_of_ble_eq_true rfl) (sp_act hK0 M hg ht) (fun z1 M1 hz1 => ?_)
        obtain ⟨e1, t1⟩ := hz1
        subst e1
        have hH1 := (hKp (nx1_ cu) hcn.1 hcn.2).1
        have hc1 := act_hs hg t1.1
        have kh1 := hH1.2.1
        refine aw_iload_n dX6_load_34 rfl rfl ?_
        refine aw_iload_n dX6_load_35 rfl rfl ?_
        refine aw_iload_n dX6_load_36 rfl rfl ?_
        refine aw_cV3i dX6_load_37 ml_RX6_108 (by assumption) (by decide) rfl rfl ⟨by decide, by decide, by decide, by decide⟩ (Nat.le_of_ble_eq_true rfl) (sp_fetch hH1 M1 hc1 w1 r o f hr.1 hr.2 ho.1 ho.2) (fun z2 M2 hz2 => ?_)
        obtain ⟨ey, -, f2⟩ := hz2
        obtain ⟨e2, t2⟩ := ey hf
        subst e2
        exact aw_iret dX6_load_40 (by decide) (by decide) ⟨_, rfl, rfl, rC.yes (by rw [← hP]; exact ⟨hr, ho, hf⟩) hg t1 t2 f2⟩
      · exact no (fun q => by rw [← hP] at q; exact fa q.2.2 h24)
set_option maxHeartbeats 1000000 in
theorem sp_cstore (hK : TrK K x) (M : az_M) (hg : GW ch a u bx bz B) (ht : TRh M x ch a u bx bz cu) (r f o : Int) : AM yX6_store cX6_store 4 (some .boolean) 4 0 0 [(1, x), (0, r), (0, f), (0, o)] K M (qi K (rC ((0 ≤ r ∧ r < 6) ∧ (o = -1 ∨ 0 ≤ o ∧ o < 6) ∧ hasF (ch a) ((ch a).1 (715 + r)) f) 1 0 (putS (ch a) r f o) ch a u bx bz cu M x)) := by
  obtain ⟨h, hh, hH, hc, hhp, hb1, hb2⟩ := ht.now hK hg
  have hK0 := hK
  obtain ⟨kx, k1, k2, k3, hT4, k19, hRe, k23, hRt, hS1, hS2, k45, hKp, hBx, y0, y4, y5, y6, y7, y8, y9, y11, y14, n12, n13, r0, r4, q0, q1, xin⟩ := hK
  refine am_of (by decide) (Nat.le_of_ble_eq_true rfl) (L := [(1, x), (0, r), (0, f), (0, o)]) rfl ?_
  obtain ⟨w1, w2, w3⟩ := hg.cur
  have hcn := nx1_in ht.2.1
  have kh := hH.2.1
  generalize hP : ((0 ≤ r ∧ r < 6) ∧ (o = -1 ∨ 0 ≤ o ∧ o < 6) ∧ hasF (ch a) ((ch a).1 (715 + r)) f) = P
  have no : ¬ P → AW az_P0 (az_Z (qi K (rC P 1 0 (putS (ch a) r f o) ch a u bx bz cu M x)) 0 0) (az_rm 4 0 0) yX6_store cX6_store 4 (some .boolean) 0 0 27 [(1, x), (0, r), (0, f), (0, o)] [] K M := by
    intro q
    refine aw_iconst dX6_store_27 rfl ⟨by decide, by decide⟩ ?_
    exact aw_zret dX6_store_28 (by omega) (by decide) (by decide) ⟨_, rfl, rfl, rC.no q ht⟩
  refine aw_iload_n dX6_store_0 rfl rfl ?_
  refine aw_cS1p dX6_store_1 ml_RX6_91 ⟨by decide, by decide, by decide, by decide⟩ (Nat.le_of_ble_eq_true rfl) (sp_cisRoot K M r) ?_
  refine aw_if_eq (tgt := 27) dX6_store_4 rfl (fun h4 => ?_) (fun h4 => ?_)
  · exact no (fun q => by rw [← hP] at q; exact if0 h4 q.1)
  · refine aw_iload_n dX6_store_7 rfl rfl ?_
    refine aw_cS1p dX6_store_8 ml_RX6_112 ⟨by decide, by decide, by decide, by decide⟩ (Nat.le_of_ble_eq_true rfl) (sp_cisRootOrNone K M o) ?_
    refine aw_if_eq (tgt := 27) dX6_store_11 rfl (fun h11 => ?_) (fun h11 => ?_)
    · exact no (fun q => by rw [← hP] at q; exact if0 h11 q.2.1)
    · have hr := if1 h4
      have ho := if1 h11
      obtain ⟨fa, fb, fc⟩ := fOR hc w1 (f := f) hr.1 hr.2
      refine aw_aload_n dX6_store_14 rfl rfl ⟨by decide, by decide⟩ ?_
      refine aw_cV0q dX6_store_15 ml_RX6_80 (by assumption) (by decide) rfl rfl ⟨by decide, by decide, by decide, by decide⟩ (Nat.le_of_ble_eq_true rfl) (hhp) ?_
      refine aw_iload_n dX6_store_18 rfl rfl ?_
      refine aw_iload_n dX6_store_19 rfl rfl ?_
      refine aw_cV2p dX6_store_20 ml_RX6_105 (by assumption) (by decide) rfl rfl ⟨by decide, by decide, by decide, by decide⟩ (Nat.le_of_ble_eq_true rfl) (sp_fieldOfRoot hH M r f hr.1 hr.2 (HS_ro hc) fc) ?_
      refine aw_iconst dX6_store_23 rfl ⟨by decide, by decide⟩ ?_
      refine aw_icmp_ne (tgt := 29) dX6_store_24 rfl (fun h24 => ?_) (fun h24 => ?_)
      · have hf : hasF (ch a) ((ch a).1 (715 + r)) f := Classical.byContradiction (fun q => h24 (fb q))
        refine aw_aload_n dX6_store_29 rfl rfl ⟨by decide, by decide⟩ ?_
        refine aw_cV0r dX6_store_30 ml_RX6_98 (by assumption) (by decide) rfl rfl ⟨by decide, by decide, by decide, by decide⟩ (Nat.le_of_ble_eq_true rfl) (sp_act hK0 M hg ht) (fun z1 M1 hz1 => ?_)
        obtain ⟨e1, t1⟩ := hz1
        subst e1
        have hH1 := (hKp (nx1_ cu) hcn.1 hcn.2).1
        have hc1 := act_hs hg t1.1
        have kh1 := hH1.2.1
        refine aw_iload_n dX6_store_33 rfl rfl ?_
        refine aw_iload_n dX6_store_34 rfl rfl ?_
        refine aw_iload_n dX6_store_35 rfl rfl ?_
        refine aw_cV3i dX6_store_36 ml_RX6_115 (by assumption) (by decide) rfl rfl ⟨by decide, by decide, by decide, by decide⟩ (Nat.le_of_ble_eq_true rfl) (sp_put hH1 M1 hc1 w1 r f o hr.1 hr.2 ho) (fun z2 M2 hz2 => ?_)
        refine aw_pop dX6_store_39 ?_
        refine aw_iconst dX6_store_40 rfl ⟨by decide, by decide⟩ ?_
        obtain ⟨ey, -, f2⟩ := hz2
        obtain ⟨e2, t2⟩ := ey hf
        exact aw_zret dX6_store_41 (by omega) (by decide) (by decide) ⟨_, rfl, rfl, rC.yes (by rw [← hP]; exact ⟨hr, ho, hf⟩) hg t1 t2 f2⟩
      · exact no (fun q => by rw [← hP] at q; exact fa q.2.2 h24)
end AX
