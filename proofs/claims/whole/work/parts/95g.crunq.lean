/-! TreadRing: programs are read, run, and asked about -/
set_option maxRecDepth 20000
/-- the program that there is, and where the next one is read to -/
def PC (M : az_M) (x sc sp : Int) (it : Int → Int → Int) (n : Int) : Prop := M x 12 = sc ∧ M x 13 = sp ∧ (sc = x + 33 ∧ sp = x + 39 ∨ sc = x + 39 ∧ sp = x + 33) ∧ PGc M sc it n
def frB (M M' : az_M) (x : Int) : Prop := (∀ b, b ≠ x → b ≠ x + 45 → b < x + 46 ∨ x + 360 < b → M' b = M b) ∧ ∀ j, j ≠ 1 → j ≠ 2 → j ≠ 3 → M' x j = M x j
def frPg (M M' : az_M) (x : Int) : Prop := (∀ b, b ≠ x → b < x + 24 ∨ x + 44 < b → M' b = M b) ∧ ∀ j, j ≠ 10 → j ≠ 12 → j ≠ 13 → M' x j = M x j
section PG
variable {K : az_K} {x : Int} {M M' : az_M} {ch : hCh} {a u : Int} {bx : hCh} {bz : Int → Int} {B cu : Int} {sc sp : Int} {it : Int → Int → Int} {n : Int}
theorem frB.ofA (f : frA M M' x) : frB M M' x := ⟨fun b h1 _ h3 => f.1 b h1 h3, f.2⟩
theorem frB.refl (M : az_M) (x : Int) : frB M M x := ⟨fun _ _ _ _ => rfl, fun _ _ _ _ => rfl⟩
theorem frB.trans {M1 : az_M} (p : frB M M1 x) (q : frB M1 M' x) : frB M M' x := ⟨fun b h1 h2 h3 => (q.1 b h1 h2 h3).trans (p.1 b h1 h2 h3), fun j a b c => (q.2 j a b c).trans (p.2 j a b c)⟩
theorem PC.k (hK : TrK K x) (h : PC M x sc sp it n) : ScK K sc ∧ ScK K sp := by
  have hK0 := hK
  obtain ⟨kx, k1, k2, k3, hT4, k19, hRe, k23, hRt, hS1, hS2, k45, hKp, hBx, y0, y4, y5, y6, y7, y8, y9, y11, y14, n12, n13, r0, r4, q0, q1, xin⟩ := hK
  rcases h.2.2.1 with ⟨e, e'⟩ | ⟨e, e'⟩
  · rw [e, e']; exact ⟨hS1, hS2⟩
  · rw [e, e']; exact ⟨hS2, hS1⟩
theorem PC.ofY (h : PC M x sc sp it n) (f : frY M M' x) : PC M' x sc sp it n := by
  have hb := h.2.2.1
  have ex : M' x = M x := f _ (by omega) (by omega)
  exact ⟨by rw [ex]; exact h.1, by rw [ex]; exact h.2.1, hb, h.2.2.2.fr (fun b b0 b1 => f b (by omega) (by omega))⟩
theorem PC.ofB (h : PC M x sc sp it n) (f : frB M M' x) : PC M' x sc sp it n := by
  have hb := h.2.2.1
  exact ⟨(f.2 _ (by omega) (by omega) (by omega)).trans h.1, (f.2 _ (by omega) (by omega) (by omega)).trans h.2.1, hb, h.2.2.2.fr (fun b b0 b1 => f.1 b (by omega) (by omega) (by omega))⟩
def cpgP (M M' : az_M) (x sc sp : Int) (it : Int → Int → Int) (n : Int) (X : pTx) (z : Int) : Prop := (∀ e, pPrg X = .inl e → z = -1 ∧ M' (x + 24) 7 = e.1 ∧ M' (x + 24) 8 = e.2 ∧ PC M' x sc sp it n) ∧
  (∀ t, pPrg X = .inr t → z = t.2.2.1 ∧ M' (x + 24) 7 = 0 ∧ M' (x + 24) 8 = -1 ∧ PC M' x sp sc t.2.2.2.1 t.2.2.1) ∧ M' x 10 = 0 ∧ frPg M M' x
set_option maxHeartbeats 1000000 in
theorem sp_cprogram {X : pTx} (hK : TrK K x) (M : az_M) (h10 : M x 10 = X.2) (hX : 0 ≤ X.2 ∧ X.2 ≤ 400 ∧ ∀ i, 0 ≤ i → i < X.2 → M (x + 23) i = X.1 i ∧ 0 ≤ X.1 i ∧ X.1 i ≤ 255) (hp : PC M x sc sp it n) : AM yX6_program cX6_program 3 (some .int) 10 0 0 [(1, x)] K M (qi K (fun z M' => cpgP M M' x sc sp it n X z)) := by
  have hsk := hp.k hK
  have hK0 := hK
  obtain ⟨kx, k1, k2, k3, hT4, k19, hRe, k23, hRt, hS1, hS2, k45, hKp, hBx, y0, y4, y5, y6, y7, y8, y9, y11, y14, n12, n13, r0, r4, q0, q1, xin⟩ := hK
  have kr := hRt.1
  have ksc := hsk.1.1
  have ksp := hsk.2.1
  have hb := hp.2.2.1
  refine am_of (by decide) (Nat.le_of_ble_eq_true rfl) (L := [(1, x), (9, 0), (9, 0)]) rfl ?_
  refine aw_aload_n dX6_program_0 rfl rfl ⟨by decide, by decide⟩ ?_
  refine aw_gi 10 dX6_program_1 fl_RX6_51 (by assumption) rfl rfl h10 ?_
  refine aw_istore_n dX6_program_4 rfl (by decide) ?_
  refine aw_aload_n dX6_program_5 rfl rfl ⟨by decide, by decide⟩ ?_
  refine aw_iconst dX6_program_6 rfl ⟨by decide, by decide⟩ ?_
  refine aw_pi 10 dX6_program_7 fl_RX6_51 (by assumption) rfl rfl ?_
  have e1 : ∀ b, b ≠ x → az_up M x 10 0 b = M b := fun b hb => up_oth _ _ _ hb
  have e1j : ∀ j, j ≠ 10 → az_up M x 10 0 x j = M x j := fun j hj => az_up_i _ _ _ _ hj
  have e10 : az_up M x 10 0 x 10 = 0 := az_up_s _ _ _ _
  generalize az_up M x 10 0 = M1 at e1 e1j e10 ⊢
  have u20 : M1 x 13 = sp := (e1j _ (by omega)).trans hp.2.1
  have hrd := sp_read (X := X) (K := K) (rd := x + 24) (tp := x + 23) (sc := sp) ⟨hRt, hsk.2, by omega, by omega⟩ M1 hX.1 hX.2.1 (fun i i0 i1 => by rw [e1 _ (by omega)]; exact hX.2.2 i i0 i1) r0 r4 ⟨by omega, by omega⟩ ⟨by omega, by omega⟩
  refine aw_aload_n dX6_program_10 rfl rfl ⟨by decide, by decide⟩ ?_
  refine aw_gzF 11 dX6_program_11 fl_RX6_57 (by assumption) rfl rfl (by assumption) ?_
  refine aw_aload_n dX6_program_14 rfl rfl ⟨by decide, by decide⟩ ?_
  refine aw_gzF 9 dX6_program_15 fl_RX6_48 (by assumption) rfl rfl (by assumption) ?_
  refine aw_iload_n dX6_program_18 rfl rfl ?_
  refine aw_aload_n dX6_program_19 rfl rfl ⟨by decide, by decide⟩ ?_
  refine aw_gr 13 dX6_program_20 fl_RX6_68 (by assumption) rfl rfl u20 ?_
  refine aw_cV3v dX6_program_23 ml_RX6_151 (by assumption) (by decide) rfl rfl ⟨by decide, by decide, by decide, by decide⟩ (Nat.le_of_ble_eq_true rfl) (hrd) (fun M2 hM2 => ?_)
  obtain ⟨a2, b2, f2⟩ := hM2
  have ex2 : M2 x = M1 x := f2 _ (by omega) (by omega) (by omega)
  rcases hr : pPrg X with e | t
  · obtain ⟨r1, r2, r3⟩ := a2 e hr
    refine aw_aload_n dX6_program_26 rfl rfl ⟨by decide, by decide⟩ ?_
    refine aw_gzF 11 dX6_program_27 fl_RX6_57 (by assumption) rfl rfl (by assumption) ?_
    refine aw_gi 7 dX6_program_30 fl_RX6_155 (by assumption) rfl rfl r1 ?_
    refine aw_if_eq (tgt := 38) dX6_program_33 rfl (fun h33 => absurd h33 (by omega)) (fun h33 => ?_)
    refine aw_iconst dX6_program_36 rfl ⟨by decide, by decide⟩ ?_
    refine aw_iret dX6_program_37 (by decide) (by decide) ⟨_, rfl, rfl, fun e' q => ?_, fun t q => (by rw [hr] at q; cases q), by rw [ex2]; exact e10, fun b b1 b2 => ?_, fun j j1 j2 j3 => by rw [ex2, e1j j j1]⟩
    · rw [hr] at q
      cases q
      exact ⟨rfl, r1, r2, by rw [ex2, e1j _ (by omega)]; exact hp.1, by rw [ex2, e1j _ (by omega)]; exact hp.2.1, hb, hp.2.2.2.fr (fun b b0 b1 => by rw [f2 b (by omega) (by omega) (by omega), e1 b (by omega)])⟩
    · rw [f2 b (by omega) (by omega) (by omega), e1 b (by omega)]
  · obtain ⟨r1, r2, r3⟩ := b2 t hr
    have u39 : M2 x 12 = sc := by rw [ex2, e1j _ (by omega)]; exact hp.1
    have u45 : M2 x 13 = sp := by rw [ex2]; exact u20
    refine aw_aload_n dX6_program_26 rfl rfl ⟨by decide, by decide⟩ ?_
    refine aw_gzF 11 dX6_program_27 fl_RX6_57 (by assumption) rfl rfl (by assumption) ?_
    refine aw_gi 7 dX6_program_30 fl_RX6_155 (by assumption) rfl rfl r1 ?_
    refine aw_if_eq (tgt := 38) dX6_program_33 rfl (fun h33 => ?_) (fun h33 => absurd h33 (by omega))
    refine aw_aload_n dX6_program_38 rfl rfl ⟨by decide, by decide⟩ ?_
    refine aw_gr 12 dX6_program_39 fl_RX6_64 (by assumption) rfl rfl u39 ?_
    refine aw_astore_n dX6_program_42 rfl (by decide) (by decide) ?_
    refine aw_aload_n dX6_program_43 rfl rfl ⟨by decide, by decide⟩ ?_
    refine aw_aload_n dX6_program_44 rfl rfl ⟨by decide, by decide⟩ ?_
    refine aw_gr 13 dX6_program_45 fl_RX6_68 (by assumption) rfl rfl u45 ?_
    refine aw_pr 12 dX6_program_48 fl_RX6_64 (by assumption) rfl rfl ⟨by omega, by omega⟩ (by assumption) ?_
    refine aw_aload_n dX6_program_51 rfl rfl ⟨by decide, by decide⟩ ?_
    refine aw_aload_n dX6_program_52 rfl rfl ⟨by decide, by decide⟩ ?_
    refine aw_pr 13 dX6_program_53 fl_RX6_68 (by assumption) rfl rfl ⟨by omega, by omega⟩ (by assumption) ?_
    have g1 : ∀ b, b ≠ x → az_up (az_up M2 x 12 sp) x 13 sc b = M2 b := fun b hb => by rw [up_oth _ _ _ hb, up_oth _ _ _ hb]
    have g12 : az_up (az_up M2 x 12 sp) x 13 sc x 12 = sp := by rw [az_up_i _ _ _ _ (by omega), az_up_s]
    have g13 : az_up (az_up M2 x 12 sp) x 13 sc x 13 = sc := az_up_s _ _ _ _
    have gj : ∀ j, j ≠ 12 → j ≠ 13 → az_up (az_up M2 x 12 sp) x 13 sc x j = M2 x j := fun j j1 j2 => by rw [az_up_i _ _ _ _ j2, az_up_i _ _ _ _ j1]
    generalize az_up (az_up M2 x 12 sp) x 13 sc = M3 at g1 g12 g13 gj ⊢
    have hpg : PGc M3 sp t.2.2.2.1 t.2.2.1 := r3.fr (fun b b0 b1 => g1 b (by omega))
    refine aw_aload_n dX6_program_56 rfl rfl ⟨by decide, by decide⟩ ?_
    refine aw_gr 12 dX6_program_57 fl_RX6_64 (by assumption) rfl rfl g12 ?_
    refine aw_gi 5 dX6_program_60 fl_RX6_158 (by assumption) rfl rfl hpg.1 ?_
    refine aw_iret dX6_program_63 (by decide) (by decide) ⟨_, rfl, rfl, fun e' q => (by rw [hr] at q; cases q), fun t' q => ?_, by rw [gj _ (by omega) (by omega), ex2]; exact e10, fun b b1 b2 => ?_, fun j j1 j2 j3 => by rw [gj j j2 j3, ex2, e1j j j1]⟩
    · rw [hr] at q
      cases q
      exact ⟨rfl, by rw [g1 _ (by omega)]; exact r1, by rw [g1 _ (by omega)]; exact r2, g12, g13, by omega, hpg⟩
    · rw [g1 b b1, f2 b (by omega) (by omega) (by omega), e1 b (by omega)]
def rC2 (P : Prop) (z0 : Int) (zN : Int) (T : hSt) (ch : hCh) (a u : Int) (bx : hCh) (bz : Int → Int) (cu : Int) (M : az_M) (x : Int) : Int → az_M → Prop := fun z M' => (P → z = z0 ∧ TRh M' x (chs (keepC ch a) (nxA a) T) (nxA a) 0 bx bz (nx1_ cu)) ∧ (¬ P → z = zN ∧ TRh M' x ch a u bx bz cu) ∧ frB M M' x
set_option maxHeartbeats 1000000 in
theorem sp_crun (hK : TrK K x) (hN : NP it n) (M : az_M) (hg : GW ch a u bx bz B) (hB : B ≤ 19990000) (ht : TRh M x ch a u bx bz cu) (hp : PC M x sc sp it n) : AM yX6_run cX6_run 1 (some .int) 10 0 0 [(1, x)] K M (qi K (rC2 (n ≠ 0) (rn0 it n (ch a)).2.1 (-1) (rn0 it n (ch a)).1 ch a u bx bz cu M x)) := by
  have hsk := (hp.k hK).1
  have hK0 := hK
  obtain ⟨kx, k1, k2, k3, hT4, k19, hRe, k23, hRt, hS1, hS2, k45, hKp, hBx, y0, y4, y5, y6, y7, y8, y9, y11, y14, n12, n13, r0, r4, q0, q1, xin⟩ := hK
  have ksc := hsk.1
  have hb := hp.2.2.1
  obtain ⟨w1, w2, w3⟩ := hg.cur
  have hcn := nx1_in ht.2.1
  refine am_of (by decide) (Nat.le_of_ble_eq_true rfl) (L := [(1, x)]) rfl ?_
  refine aw_aload_n dX6_run_0 rfl rfl ⟨by decide, by decide⟩ ?_
  refine aw_gr 12 dX6_run_1 fl_RX6_64 (by assumption) rfl rfl hp.1 ?_
  refine aw_gi 5 dX6_run_4 fl_RX6_158 (by assumption) rfl rfl hp.2.2.2.1 ?_
  refine aw_if_ne (tgt := 12) dX6_run_7 rfl (fun h7 => ?_) (fun h7 => ?_)
  · refine aw_aload_n dX6_run_12 rfl rfl ⟨by decide, by decide⟩ ?_
    refine aw_gzF 14 dX6_run_13 fl_RX6_76 (by assumption) rfl rfl (by assumption) ?_
    refine aw_aload_n dX6_run_16 rfl rfl ⟨by decide, by decide⟩ ?_
    refine aw_cV0r dX6_run_17 ml_RX6_98 (by assumption) (by decide) rfl rfl ⟨by decide, by decide, by decide, by decide⟩ (Nat.le_of_ble_eq_true rfl) (sp_act hK0 M hg ht) (fun z1 M1 hz1 => ?_)
    obtain ⟨e1, t1⟩ := hz1
    subst e1
    have hH := (hKp (nx1_ cu) hcn.1 hcn.2).1
    have hc1 := act_hs hg t1.1
    have kh := hH.2.1
    have p1 := hp.ofB (frB.ofA t1.2)
    obtain ⟨h', hh'⟩ : ∃ h', h' = x + 46 + 15 * nx1_ cu := ⟨_, rfl⟩
    rw [← hh'] at hH hc1 kh ⊢
    refine aw_aload_n dX6_run_20 rfl rfl ⟨by decide, by decide⟩ ?_
    refine aw_gr 12 dX6_run_21 fl_RX6_64 (by assumption) rfl rfl p1.1 ?_
    refine aw_cV2v dX6_run_24 ml_RX6_164 (by assumption) (by decide) rfl rfl ⟨by decide, by decide, by decide, by decide⟩ (Nat.le_of_ble_eq_true rfl) (sp_prepare M1 (x + 45) h' sc k45 ⟨by omega, by omega⟩ ⟨by omega, by omega⟩ q0 q1) (fun M2 hM2 => ?_)
    obtain ⟨c0, c1, c2, c3, c4⟩ := hM2
    have y12 : frY M1 M2 x := fun b _ h2 => c4 b h2
    have p2 := p1.ofY y12
    have hc2 : HS M2 h' (ch a) := HS_fr hc1 (fun b b0 b1 => c4 b (by omega))
    have hRW : RW ((ch a).1 729) ((ch a), 0, 0) := ⟨w1, by omega, by show (ch a).1 729 ≤ (ch a).1 729 + 5 * 0; omega, by show (0 : Int) ≤ 0 ∧ (0 : Int) ≤ 300; omega, Or.inl rfl, fun _ => by show (0 : Int) < 300; omega⟩
    have hgo := sp_goT4 (K := K) (h := h') (rn := x + 45) (sc := sc) (c := (ch a).1 729) ⟨k45, hH, hsk, by omega, by omega, by omega⟩ hN (by omega) 0 n ((ch a), 0, 0) M2 ⟨Int.le_refl _, Int.le_refl _, fun j j0 j1 => (hN j j0 j1).2.2.1.2⟩ (fun j j0 j1 => (hN j j0 j1).2.1.1) ⟨hc2, p2.2.2.2, c0, c1, c2, c3⟩ hRW
    refine aw_aload_n dX6_run_27 rfl rfl ⟨by decide, by decide⟩ ?_
    refine aw_gzF 14 dX6_run_28 fl_RX6_76 (by assumption) rfl rfl (by assumption) ?_
    refine aw_iconst dX6_run_31 rfl ⟨by decide, by decide⟩ ?_
    refine aw_aload_n dX6_run_32 rfl rfl ⟨by decide, by decide⟩ ?_
    refine aw_gr 12 dX6_run_33 fl_RX6_64 (by assumption) rfl rfl p2.1 ?_
    refine aw_gi 5 dX6_run_36 fl_RX6_158 (by assumption) rfl rfl p2.2.2.2.1 ?_
    refine aw_iconst dX6_run_39 rfl ⟨by decide, by decide⟩ ?_
    refine aw_cV3v dX6_run_40 ml_RX6_167 (by assumption) (by decide) rfl rfl ⟨by decide, by decide, by decide, by decide⟩ (Nat.le_of_ble_eq_true rfl) (hgo) (fun M3 hM3 => ?_)
    obtain ⟨⟨s1, s2, s3, s4, s5, s6⟩, f3⟩ := hM3
    have ht2 := t1.1.ofY y12
    have hcs := TRh.cur (M' := fun b => if b = x + 45 then M2 b else M3 b) hg.keep ht2 (T := (rn0 it n (ch a)).1) (by rw [← hh']; exact HS_fr s1 (fun b b0 b1 => if_neg (by omega))) (fun b hb' => by
      show (if b = x + 45 then M2 b else M3 b) = M2 b
      by_cases q : b = x + 45
      · rw [if_pos q]
      · rw [if_neg q]; exact f3.1 b (by omega) q)
    have ht3 := hcs.1.ofY (M' := M3) (fun b _ h2 => by
      show M3 b = if b = x + 45 then M2 b else M3 b
      rw [if_neg h2])
    refine aw_aload_n dX6_run_43 rfl rfl ⟨by decide, by decide⟩ ?_
    refine aw_gzF 14 dX6_run_44 fl_RX6_76 (by assumption) rfl rfl (by assumption) ?_
    refine aw_gi 2 dX6_run_47 fl_RX6_171 (by assumption) rfl rfl s5 ?_
    refine aw_iret dX6_run_50 (by decide) (by decide) ⟨_, rfl, rfl, fun _ => ⟨rfl, ht3⟩, fun q => absurd h7 q, (frB.ofA t1.2).trans ⟨fun b b1 b2 b3 => ?_, fun j j1 j2 j3 => ?_⟩⟩
    · rw [f3.1 b (by omega) b2, c4 b b2]
    · rw [f3.1 x (by omega) (by omega), c4 x (by omega)]
  · refine aw_iconst dX6_run_10 rfl ⟨by decide, by decide⟩ ?_
    exact aw_iret dX6_run_11 (by decide) (by decide) ⟨_, rfl, rfl, fun q => absurd h7 q, fun _ => ⟨rfl, ht⟩, frB.refl M x⟩
set_option maxHeartbeats 1000000 in
theorem sp_runApart (hK : TrK K x) (hN : NP it n) (M : az_M) (hg : GW ch a u bx bz B) (hB : B ≤ 19990000) (ht : TRh M x ch a u bx bz cu) (hp : PC M x sc sp it n) (br pa : Int) (b0 : 0 ≤ br ∧ br ≤ 3) (p0 : 0 ≤ pa ∧ pa ≤ 16) : AM yX6_runApart cX6_runApart 3 none 10 0 0 [(1, x), (0, br), (0, pa)] K M (qv K (fun M' => TS M' x (apS (ch a) br).1 (rn0 it n (nameS (apS (ch a) br) 737 pa)).1 ∧ M' (x + 45) 2 = (rn0 it n (nameS (apS (ch a) br) 737 pa)).2.1 ∧ frY M M' x)) := by
  have hsk := (hp.k hK).1
  have hK0 := hK
  obtain ⟨kx, k1, k2, k3, hT4, k19, hRe, k23, hRt, hS1, hS2, k45, hKp, hBx, y0, y4, y5, y6, y7, y8, y9, y11, y14, n12, n13, r0, r4, q0, q1, xin⟩ := hK
  have ksc := hsk.1
  have hb := hp.2.2.1
  have hT40 := hT4
  obtain ⟨hRg, kT, k6, k7, k8, k9, k10, k11, k12, k13, k14, z0, z1, z2, z3, z4, z5, z6, z7, z8, z9⟩ := hT4
  obtain ⟨w1, w2, w3⟩ := hg.cur
  obtain ⟨w0, c0, c1⟩ := apS_wf w1 b0.1 b0.2
  have w4 : WL (nameS (apS (ch a) br) 737 pa) := WL_setg w0 (w := 2) (by omega) (by omega) p0.1 (by rw [if_neg (by omega)]; omega)
  have e729 : (nameS (apS (ch a) br) 737 pa).1 729 = (apS (ch a) br).1 729 := nameS_n _ _ (by omega)
  refine am_of (by decide) (Nat.le_of_ble_eq_true rfl) (L := [(1, x), (0, br), (0, pa)]) rfl ?_
  refine aw_aload_n dX6_runApart_0 rfl rfl ⟨by decide, by decide⟩ ?_
  refine aw_iload_n dX6_runApart_1 rfl rfl ?_
  refine aw_cV1v dX6_runApart_2 ml_RX6_277 (by assumption) (by decide) rfl rfl ⟨by decide, by decide, by decide, by decide⟩ (Nat.le_of_ble_eq_true rfl) (sp_cbeginApart hK0 M hg hB ht br) (fun M1 hM1 => ?_)
  obtain ⟨t1, f1⟩ := hM1
  have t2 : HS (az_up M1 (x + 4 + 12) 2 pa) (x + 4) (nameS (apS (ch a) br) 737 pa) := HC_setg (r := 2) t1.1 w0.1.1 w0.1.2.2.2.1 (by omega) (by omega)
  have f2 : frH M1 (az_up M1 (x + 4 + 12) 2 pa) (x + 4) := fun c hc => up_oth _ _ _ (by omega)
  refine aw_aload_n dX6_runApart_5 rfl rfl ⟨by decide, by decide⟩ ?_
  refine aw_gzF 6 dX6_runApart_6 fl_RX6_33 (by assumption) rfl rfl (by assumption) ?_
  refine aw_gzF 7 dX6_runApart_9 fl_RX6_145 (by assumption) rfl rfl (by assumption) ?_
  refine aw_iconst dX6_runApart_12 rfl ⟨by decide, by decide⟩ ?_
  refine aw_iload_n dX6_runApart_13 rfl rfl ?_
  refine aw_iast dX6_runApart_14 (by assumption) (by omega) (by omega) ?_
  have tt2 := t1.ofH t2 f2
  generalize az_up M1 (x + 4 + 12) 2 pa = M2 at t2 f2 tt2 ⊢
  generalize nameS (apS (ch a) br) 737 pa = T at t2 tt2 w4 e729 ⊢
  have p2 := hp.ofY (f1.trans (frY.ofH f2))
  refine aw_aload_n dX6_runApart_15 rfl rfl ⟨by decide, by decide⟩ ?_
  refine aw_gzF 14 dX6_runApart_16 fl_RX6_76 (by assumption) rfl rfl (by assumption) ?_
  refine aw_aload_n dX6_runApart_19 rfl rfl ⟨by decide, by decide⟩ ?_
  refine aw_gzF 6 dX6_runApart_20 fl_RX6_33 (by assumption) rfl rfl (by assumption) ?_
  refine aw_aload_n dX6_runApart_23 rfl rfl ⟨by decide, by decide⟩ ?_
  refine aw_gr 12 dX6_runApart_24 fl_RX6_64 (by assumption) rfl rfl p2.1 ?_
  refine aw_cV2v dX6_runApart_27 ml_RX6_164 (by assumption) (by decide) rfl rfl ⟨by decide, by decide, by decide, by decide⟩ (Nat.le_of_ble_eq_true rfl) (sp_prepare M2 (x + 45) (x + 4) sc k45 ⟨by omega, by omega⟩ ⟨by omega, by omega⟩ q0 q1) (fun M3 hM3 => ?_)
  obtain ⟨d0, d1, d2, d3, d4⟩ := hM3
  have y23 : frY M2 M3 x := fun b _ h2 => d4 b h2
  have p3 := p2.ofY y23
  have t3 : HS M3 (x + 4) T := HS_fr t2 (fun b b0 b1 => d4 b (by omega))
  have hRW : RW (T.1 729) (T, 0, 0) := ⟨w4, by show 0 ≤ T.1 729; omega, by show T.1 729 ≤ T.1 729 + 5 * 0; omega, by show (0 : Int) ≤ 0 ∧ (0 : Int) ≤ 300; omega, Or.inl rfl, fun _ => by show (0 : Int) < 300; omega⟩
  have hgo := sp_goT4 (K := K) (h := x + 4) (rn := x + 45) (sc := sc) (c := T.1 729) ⟨k45, hT40, hsk, by omega, by omega, by omega⟩ hN (by omega) 0 n (T, 0, 0) M3 ⟨Int.le_refl _, Int.le_refl _, fun j j0 j1 => (hN j j0 j1).2.2.1.2⟩ (fun j j0 j1 => (hN j j0 j1).2.1.1) ⟨t3, p3.2.2.2, d0, d1, d2, d3⟩ hRW
  refine aw_aload_n dX6_runApart_30 rfl rfl ⟨by decide, by decide⟩ ?_
  refine aw_gzF 14 dX6_runApart_31 fl_RX6_76 (by assumption) rfl rfl (by assumption) ?_
  refine aw_iconst dX6_runApart_34 rfl ⟨by decide, by decide⟩ ?_
  refine aw_aload_n dX6_runApart_35 rfl rfl ⟨by decide, by decide⟩ ?_
  refine aw_gr 12 dX6_runApart_36 fl_RX6_64 (by assumption) rfl rfl p3.1 ?_
  refine aw_gi 5 dX6_runApart_39 fl_RX6_158 (by assumption) rfl rfl p3.2.2.2.1 ?_
  refine aw_iconst dX6_runApart_42 rfl ⟨by decide, by decide⟩ ?_
  refine aw_cV3v dX6_runApart_43 ml_RX6_167 (by assumption) (by decide) rfl rfl ⟨by decide, by decide, by decide, by decide⟩ (Nat.le_of_ble_eq_true rfl) (hgo) (fun M4 hM4 => ?_)
  obtain ⟨⟨s1, s2, s3, s4, s5, s6⟩, f4⟩ := hM4
  refine aw_vret dX6_runApart_46 (by decide) (by decide) ⟨rfl, rfl, ⟨s1, fun i i0 i1 => ?_⟩, s5, (f1.trans (frY.ofH f2)).trans (y23.trans (fun b h1 h2 => f4.1 b (by omega) h2))⟩
  rw [f4.1 _ (by omega) (by omega), d4 _ (by omega)]
  exact tt2.2 i i0 i1
theorem ap_same {S : hSt} (h : WL S) (b : Int) : nameS (apS S b) 737 (S.1 737) = apS S b := by
  unfold nameS
  rw [← ap_737 h b, gu_same]
set_option maxHeartbeats 1000000 in
theorem sp_crunBy (hK : TrK K x) (hN : NP it n) (M : az_M) (hg : GW ch a u bx bz B) (hB : B ≤ 19990000) (ht : TRh M x ch a u bx bz cu) (hp : PC M x sc sp it n) (br w : Int) : AM yX6_runBy cX6_runBy 3 (some .int) 11 0 0 [(1, x), (0, br), (0, w)] K M (qi K (fun z M' => z = rbV it n (ch a) br w ∧ frY M M' x)) := by
  obtain ⟨h, hh, hH, hc, hhp, hb1, hb2⟩ := ht.now hK hg
  have hsk := (hp.k hK).1
  have hK0 := hK
  obtain ⟨kx, k1, k2, k3, hT4, k19, hRe, k23, hRt, hS1, hS2, k45, hKp, hBx, y0, y4, y5, y6, y7, y8, y9, y11, y14, n12, n13, r0, r4, q0, q1, xin⟩ := hK
  have ksc := hsk.1
  have hRe0 := hRe
  have kre := hRe.1
  have kT := hT4.2.1
  obtain ⟨-, kh, e6, e7, e8, e9, e10, e11, e12, e13, e14, i0, i1, i2, i3, i4, i5, i6, i7, i8, i9⟩ := id hH
  obtain ⟨w1, w2, w3⟩ := hg.cur
  refine am_of (by decide) (Nat.le_of_ble_eq_true rfl) (L := [(1, x), (0, br), (0, w)]) rfl ?_
  generalize hV : rbV it n (ch a) br w = V
  unfold rbV at hV
  have no : ¬ (n ≠ 0 ∧ (0 ≤ br ∧ br ≤ 3) ∧ 0 ≤ w ∧ w ≤ 6) → AW az_P0 (az_Z (qi K (fun z M' => z = V ∧ frY M M' x)) 0 0) (az_rm 11 0 0) yX6_runBy cX6_runBy 3 (some .int) 0 0 29 [(1, x), (0, br), (0, w)] [] K M := by
    intro q
    rw [if_neg q] at hV
    refine aw_iconst dX6_runBy_29 rfl ⟨by decide, by decide⟩ ?_
    exact aw_iret dX6_runBy_30 (by decide) (by decide) ⟨_, rfl, rfl, hV, frY.refl M x⟩
  refine aw_iload_n dX6_runBy_0 rfl rfl ?_
  refine aw_if_lt (tgt := 29) dX6_runBy_1 rfl (fun h1 => ?_) (fun h1 => ?_)
  · exact no (by omega)
  · refine aw_iload_n dX6_runBy_4 rfl rfl ?_
    refine aw_iconst dX6_runBy_5 rfl ⟨by decide, by decide⟩ ?_
    refine aw_icmp_gt (tgt := 29) dX6_runBy_6 rfl (fun h6 => ?_) (fun h6 => ?_)
    · exact no (by omega)
    · refine aw_iload_n dX6_runBy_9 rfl rfl ?_
      refine aw_if_lt (tgt := 29) dX6_runBy_10 rfl (fun h10 => ?_) (fun h10 => ?_)
      · exact no (by omega)
      · refine aw_iload_n dX6_runBy_13 rfl rfl ?_
        refine aw_bipush dX6_runBy_14 (by decide) ⟨by decide, by decide⟩ ?_
        refine aw_icmp_gt (tgt := 29) dX6_runBy_16 rfl (fun h16 => ?_) (fun h16 => ?_)
        · exact no (by omega)
        · refine aw_aload_n dX6_runBy_19 rfl rfl ⟨by decide, by decide⟩ ?_
          refine aw_gr 12 dX6_runBy_20 fl_RX6_64 (by assumption) rfl rfl hp.1 ?_
          refine aw_gi 5 dX6_runBy_23 fl_RX6_158 (by assumption) rfl rfl hp.2.2.2.1 ?_
          refine aw_if_ne (tgt := 31) dX6_runBy_26 rfl (fun h26 => ?_) (fun h26 => ?_)
          · rw [if_pos ⟨h26, by omega, by omega⟩] at hV
            have v41 : M (h + 12) 2 = (ch a).1 737 := hc.2.2.2.2.2.2.2.1 2 (by omega) (by omega)
            have hpa : 0 ≤ (ch a).1 737 ∧ (ch a).1 737 ≤ 16 := by have := w1.1.2.2.2.2.2.2.2.2; omega
            have hra := sp_runApart hK0 hN M hg hB ht hp br ((ch a).1 737) (by omega) hpa
            rw [ap_same w1] at hra
            have wG := (rn0_RW (n := n) hN (apS_wf w1 (b := br) (by omega) (by omega)).1 (by have := (apS_wf w1 (b := br) (by omega) (by omega)).2; omega)).1
            unfold apV at hV
            generalize rn0 it n (apS (ch a) br) = R at hra hV wG
            refine aw_aload_n dX6_runBy_31 rfl rfl ⟨by decide, by decide⟩ ?_
            refine aw_iload_n dX6_runBy_32 rfl rfl ?_
            refine aw_aload_n dX6_runBy_33 rfl rfl ⟨by decide, by decide⟩ ?_
            refine aw_cV0q dX6_runBy_34 ml_RX6_80 (by assumption) (by decide) rfl rfl ⟨by decide, by decide, by decide, by decide⟩ (Nat.le_of_ble_eq_true rfl) (hhp) ?_
            refine aw_gzF 7 dX6_runBy_37 fl_RX6_145 (by assumption) rfl rfl (by assumption) ?_
            refine aw_iconst dX6_runBy_40 rfl ⟨by decide, by decide⟩ ?_
            refine aw_iv dX6_runBy_41 (by assumption) (by omega) (by omega) v41 ?_
            refine aw_cV2v dX6_runBy_42 ml_RX6_174 (by assumption) (by decide) rfl rfl ⟨by decide, by decide, by decide, by decide⟩ (Nat.le_of_ble_eq_true rfl) (hra) (fun M1 hM1 => ?_)
            obtain ⟨t1, d1, f1⟩ := hM1
            refine aw_iload_n dX6_runBy_45 rfl rfl ?_
            by_cases q : w = 0
            · subst q
              rw [if_pos rfl] at hV
              refine aw_tsIn (tgt := 84) dX6_runBy_46 (by omega) (by omega) rfl rfl ?_
              refine aw_aload_n dX6_runBy_84 rfl rfl ⟨by decide, by decide⟩ ?_
              refine aw_gzF 14 dX6_runBy_85 fl_RX6_76 (by assumption) rfl rfl (by assumption) ?_
              refine aw_gi 2 dX6_runBy_88 fl_RX6_171 (by assumption) rfl rfl d1 ?_
              exact aw_iret dX6_runBy_91 (by decide) (by decide) ⟨_, rfl, rfl, hV, f1⟩
            rw [if_neg q] at hV
            unfold atV at hV
            by_cases q : w = 1
            · subst q
              rw [if_pos rfl] at hV
              refine aw_tsIn (tgt := 92) dX6_runBy_46 (by omega) (by omega) rfl rfl ?_
              refine aw_aload_n dX6_runBy_92 rfl rfl ⟨by decide, by decide⟩ ?_
              refine aw_iconst dX6_runBy_93 rfl ⟨by decide, by decide⟩ ?_
              refine aw_cV1p dX6_runBy_94 ml_RX6_178 (by assumption) (by decide) rfl rfl ⟨by decide, by decide, by decide, by decide⟩ (Nat.le_of_ble_eq_true rfl) (sp_onTrial hK0 M1 t1 1 (by omega) (by omega)) ?_
              exact aw_iret dX6_runBy_97 (by decide) (by decide) ⟨_, rfl, rfl, hV, f1⟩
            rw [if_neg q] at hV
            by_cases q : w = 2
            · subst q
              rw [if_pos rfl] at hV
              refine aw_tsIn (tgt := 98) dX6_runBy_46 (by omega) (by omega) rfl rfl ?_
              refine aw_aload_n dX6_runBy_98 rfl rfl ⟨by decide, by decide⟩ ?_
              refine aw_iconst dX6_runBy_99 rfl ⟨by decide, by decide⟩ ?_
              refine aw_cV1p dX6_runBy_100 ml_RX6_178 (by assumption) (by decide) rfl rfl ⟨by decide, by decide, by decide, by decide⟩ (Nat.le_of_ble_eq_true rfl) (sp_onTrial hK0 M1 t1 3 (by omega) (by omega)) ?_
              exact aw_iret dX6_runBy_103 (by decide) (by decide) ⟨_, rfl, rfl, hV, f1⟩
            rw [if_neg q] at hV
            by_cases q : w = 3
            · subst q
              rw [if_pos rfl] at hV
              refine aw_tsIn (tgt := 104) dX6_runBy_46 (by omega) (by omega) rfl rfl ?_
              refine aw_aload_n dX6_runBy_104 rfl rfl ⟨by decide, by decide⟩ ?_
              refine aw_iconst dX6_runBy_105 rfl ⟨by decide, by decide⟩ ?_
              refine aw_cV1p dX6_runBy_106 ml_RX6_178 (by assumption) (by decide) rfl rfl ⟨by decide, by decide, by decide, by decide⟩ (Nat.le_of_ble_eq_true rfl) (sp_onTrial hK0 M1 t1 2 (by omega) (by omega)) ?_
              exact aw_iret dX6_runBy_109 (by decide) (by decide) ⟨_, rfl, rfl, hV, f1⟩
            rw [if_neg q] at hV
            by_cases q : w = 4
            · subst q
              rw [if_pos rfl] at hV
              refine aw_tsIn (tgt := 110) dX6_runBy_46 (by omega) (by omega) rfl rfl ?_
              refine aw_aload_n dX6_runBy_110 rfl rfl ⟨by decide, by decide⟩ ?_
              refine aw_iconst dX6_runBy_111 rfl ⟨by decide, by decide⟩ ?_
              refine aw_cV1p dX6_runBy_112 ml_RX6_178 (by assumption) (by decide) rfl rfl ⟨by decide, by decide, by decide, by decide⟩ (Nat.le_of_ble_eq_true rfl) (sp_onTrial hK0 M1 t1 0 (by omega) (by omega)) ?_
              exact aw_iret dX6_runBy_115 (by decide) (by decide) ⟨_, rfl, rfl, hV, f1⟩
            rw [if_neg q] at hV
            by_cases q : w = 5
            · subst q
              rw [if_pos rfl] at hV
              refine aw_tsIn (tgt := 116) dX6_runBy_46 (by omega) (by omega) rfl rfl ?_
              refine aw_aload_n dX6_runBy_116 rfl rfl ⟨by decide, by decide⟩ ?_
              refine aw_gzF 6 dX6_runBy_117 fl_RX6_33 (by assumption) rfl rfl (by assumption) ?_
              refine aw_cV0p dX6_runBy_120 ml_RX6_181 (by assumption) (by decide) rfl rfl ⟨by decide, by decide, by decide, by decide⟩ (Nat.le_of_ble_eq_true rfl) (sp_objects hT4 M1 (WR_of wG.1) t1.1.2.2.2.2.1 t1.1.2.2.2.2.2.2.2.2.2.2.1) ?_
              exact aw_iret dX6_runBy_123 (by decide) (by decide) ⟨_, rfl, rfl, hV, f1⟩
            rw [if_neg q] at hV
            refine aw_tsOut (tgt := 124) dX6_runBy_46 (by omega) rfl ?_
            have hsp := sp_spread hRe0 hT4 (Or.inr (by omega)) M1 t1.1 wG 0 6 (by omega) (by omega) (-1) (Or.inl rfl)
            rw [show (0 : Int) + ((6 : Nat) : Int) = 6 from rfl] at hsp
            generalize rea R.1 0 6 (-1) = R2 at *
            refine aw_aload_n dX6_runBy_124 rfl rfl ⟨by decide, by decide⟩ ?_
            refine aw_gzF 8 dX6_runBy_125 fl_RX6_44 (by assumption) rfl rfl (by assumption) ?_
            refine aw_aload_n dX6_runBy_128 rfl rfl ⟨by decide, by decide⟩ ?_
            refine aw_gzF 6 dX6_runBy_129 fl_RX6_33 (by assumption) rfl rfl (by assumption) ?_
            refine aw_iconst dX6_runBy_132 rfl ⟨by decide, by decide⟩ ?_
            refine aw_bipush dX6_runBy_133 (by decide) ⟨by decide, by decide⟩ ?_
            refine aw_iconst dX6_runBy_135 rfl ⟨by decide, by decide⟩ ?_
            refine aw_cV4v dX6_runBy_136 ml_RX6_185 (by assumption) (by decide) rfl rfl ⟨by decide, by decide, by decide, by decide⟩ (Nat.le_of_ble_eq_true rfl) (hsp) (fun M2 hM2 => ?_)
            refine aw_aload_n dX6_runBy_139 rfl rfl ⟨by decide, by decide⟩ ?_
            refine aw_gzF 8 dX6_runBy_140 fl_RX6_44 (by assumption) rfl rfl (by assumption) ?_
            refine aw_gi 2 dX6_runBy_143 fl_RX6_189 (by assumption) rfl rfl hM2.1.1 ?_
            exact aw_iret dX6_runBy_146 (by decide) (by decide) ⟨_, rfl, rfl, hV, f1.trans (fun b b0 b1 => hM2.2.1 b (by omega))⟩
          · exact no (fun q => q.1 h26)
def chG (it : Int → Int → Int) (n : Int) (S : hSt) : Nat → Int × Int
  | 0 => (-1, 0)
  | k + 1 => chB it n S k
theorem chB_0 (it : Int → Int → Int) (n : Int) (S : hSt) : ∀ k, 0 ≤ (chB it n S k).1 := by
  intro k
  induction k with
  | zero => exact Int.le_refl 0
  | succ k ih =>
    unfold chB
    by_cases q : apV it n S (k + 1) 1 < (chB it n S k).2
    · rw [if_pos q]; show (0 : Int) ≤ (k : Int) + 1; omega
    · rw [if_neg q]; exact ih
theorem chG_s (it : Int → Int → Int) (n : Int) (S : hSt) (k : Nat) : chG it n S (k + 1) = if (chG it n S k).1 = -1 ∨ apV it n S k 1 < (chG it n S k).2 then ((k : Int), apV it n S k 1) else chG it n S k := by
  cases k with
  | zero => rw [if_pos (Or.inl (show (chG it n S 0).1 = -1 from rfl))]; rfl
  | succ k =>
    show chB it n S (k + 1) = if (chB it n S k).1 = -1 ∨ apV it n S ((k + 1 : Nat) : Int) 1 < (chB it n S k).2 then (((k + 1 : Nat) : Int), apV it n S ((k + 1 : Nat) : Int) 1) else chB it n S k
    have h0 := chB_0 it n S k
    have e : ((k + 1 : Nat) : Int) = (k : Int) + 1 := by omega
    rw [e]
    have hs : chB it n S (k + 1) = if apV it n S (k + 1) 1 < (chB it n S k).2 then ((k : Int) + 1, apV it n S (k + 1) 1) else chB it n S k := rfl
    rw [hs]
    by_cases q : apV it n S (k + 1) 1 < (chB it n S k).2
    · rw [if_pos q, if_pos (Or.inr q)]
    · rw [if_neg q, if_neg (by omega)]
theorem apV_1 (it : Int → Int → Int) (n : Int) (S : hSt) (b : Int) : az_wr ((rn0 it n (apS S b)).1.1 (729 + 1) - (apS S b).1 (729 + 1)) = apV it n S b 1 := by
  unfold apV atV
  rw [if_neg (by omega), if_pos rfl]
  rfl
set_option maxHeartbeats 1000000 in
theorem sp_ccheapest (hK : TrK K x) (hN : NP it n) (M : az_M) (hg : GW ch a u bx bz B) (hB : B ≤ 19990000) (ht : TRh M x ch a u bx bz cu) (hp : PC M x sc sp it n) (w : Int) : AM yX6_cheapest cX6_cheapest 6 (some .int) 11 0 0 [(1, x), (0, w)] K M (qi K (fun z M' => z = chV it n (ch a) w ∧ frY M M' x)) := by
  have hsk := (hp.k hK).1
  have hK0 := hK
  obtain ⟨kx, k1, k2, k3, hT4, k19, hRe, k23, hRt, hS1, hS2, k45, hKp, hBx, y0, y4, y5, y6, y7, y8, y9, y11, y14, n12, n13, r0, r4, q0, q1, xin⟩ := hK
  have ksc := hsk.1
  obtain ⟨w1, w2, w3⟩ := hg.cur
  have hpa : 0 ≤ (ch a).1 737 ∧ (ch a).1 737 ≤ 16 := by have := w1.1.2.2.2.2.2.2.2.2; omega
  refine am_of (by decide) (Nat.le_of_ble_eq_true rfl) (L := [(1, x), (0, w), (9, 0), (9, 0), (9, 0), (9, 0)]) rfl ?_
  generalize hV : chV it n (ch a) w = V
  unfold chV at hV
  have no : ¬ (n ≠ 0 ∧ 0 ≤ w ∧ w ≤ 1) → AW az_P0 (az_Z (qi K (fun z M' => z = V ∧ frY M M' x)) 0 0) (az_rm 11 0 0) yX6_cheapest cX6_cheapest 6 (some .int) 0 0 19 [(1, x), (0, w), (9, 0), (9, 0), (9, 0), (9, 0)] [] K M := by
    intro q
    rw [if_neg q] at hV
    refine aw_iconst dX6_cheapest_19 rfl ⟨by decide, by decide⟩ ?_
    exact aw_iret dX6_cheapest_20 (by decide) (by decide) ⟨_, rfl, rfl, hV, frY.refl M x⟩
  refine aw_iload_n dX6_cheapest_0 rfl rfl ?_
  refine aw_if_lt (tgt := 19) dX6_cheapest_1 rfl (fun h1 => ?_) (fun h1 => ?_)
  · exact no (by omega)
  · refine aw_iload_n dX6_cheapest_4 rfl rfl ?_
    refine aw_iconst dX6_cheapest_5 rfl ⟨by decide, by decide⟩ ?_
    refine aw_icmp_gt (tgt := 19) dX6_cheapest_6 rfl (fun h6 => ?_) (fun h6 => ?_)
    · exact no (by omega)
    · refine aw_aload_n dX6_cheapest_9 rfl rfl ⟨by decide, by decide⟩ ?_
      refine aw_gr 12 dX6_cheapest_10 fl_RX6_64 (by assumption) rfl rfl hp.1 ?_
      refine aw_gi 5 dX6_cheapest_13 fl_RX6_158 (by assumption) rfl rfl hp.2.2.2.1 ?_
      refine aw_if_ne (tgt := 21) dX6_cheapest_16 rfl (fun h16 => ?_) (fun h16 => ?_)
      · rw [if_pos ⟨h16, by omega, by omega⟩] at hV
        refine aw_iconst dX6_cheapest_21 rfl ⟨by decide, by decide⟩ ?_
        refine aw_istore_n dX6_cheapest_22 rfl (by decide) ?_
        refine aw_iconst dX6_cheapest_23 rfl ⟨by decide, by decide⟩ ?_
        refine aw_istore_n dX6_cheapest_24 rfl (by decide) ?_
        refine aw_iconst dX6_cheapest_25 rfl ⟨by decide, by decide⟩ ?_
        refine aw_istore dX6_cheapest_26 (by decide) ?_
        have loop : ∀ (d k : Nat) (M2 : az_M) (v5 : az_V), k + d = 3 → frY M M2 x → AW az_P0 (az_Z (qi K (fun z M' => z = V ∧ frY M M' x)) 0 0) (az_rm 11 0 0) yX6_cheapest cX6_cheapest 6 (some .int) 0 0 28 [(1, x), (0, w), (0, (chG it n (ch a) k).1), (0, (chG it n (ch a) k).2), (0, (k : Int)), v5] [] K M2 := by
          intro d
          induction d with
          | zero =>
            intro k M2 v5 hk f2
            have hk2 : k = 3 := by omega
            subst hk2
            replace hV : (if w = 0 then (chG it n (ch a) 3).1 else (chG it n (ch a) 3).2) = V := hV
            refine aw_iload dX6_cheapest_28 rfl ?_
            refine aw_iconst dX6_cheapest_30 rfl ⟨by decide, by decide⟩ ?_
            refine aw_icmp_gt (tgt := 79) dX6_cheapest_31 rfl (fun h31 => ?_) (fun h31 => absurd h31 (by omega))
            refine aw_iload_n dX6_cheapest_79 rfl rfl ?_
            refine aw_if_ne (tgt := 87) dX6_cheapest_80 rfl (fun h80 => ?_) (fun h80 => ?_)
            · rw [if_neg h80] at hV
              refine aw_iload_n dX6_cheapest_87 rfl rfl ?_
              exact aw_iret dX6_cheapest_88 (by decide) (by decide) ⟨_, rfl, rfl, hV, f2⟩
            · rw [if_pos (by omega)] at hV
              refine aw_iload_n dX6_cheapest_83 rfl rfl ?_
              refine aw_goto (tgt := 88) dX6_cheapest_84 rfl ?_
              exact aw_iret dX6_cheapest_88 (by decide) (by decide) ⟨_, rfl, rfl, hV, f2⟩
          | succ d ih =>
            intro k M2 v5 hk f2
            have hst := chG_s it n (ch a) k
            obtain ⟨h, hh, hH, hc, hhp, hb1, hb2⟩ := (ht.ofY f2).now hK0 hg
            obtain ⟨-, kh, e6, e7, e8, e9, e10, e11, e12, e13, e14, i0, i1, i2, i3, i4, i5, i6, i7, i8, i9⟩ := id hH
            have v45 : M2 (h + 12) 2 = (ch a).1 737 := hc.2.2.2.2.2.2.2.1 2 (by omega) (by omega)
            have hra := sp_runApart hK0 hN M2 hg hB (ht.ofY f2) (hp.ofY f2) (k : Int) ((ch a).1 737) (by omega) hpa
            rw [ap_same w1] at hra
            refine aw_iload dX6_cheapest_28 rfl ?_
            refine aw_iconst dX6_cheapest_30 rfl ⟨by decide, by decide⟩ ?_
            refine aw_icmp_gt (tgt := 79) dX6_cheapest_31 rfl (fun h31 => absurd h31 (by omega)) (fun h31 => ?_)
            refine aw_aload_n dX6_cheapest_34 rfl rfl ⟨by decide, by decide⟩ ?_
            refine aw_iload dX6_cheapest_35 rfl ?_
            refine aw_aload_n dX6_cheapest_37 rfl rfl ⟨by decide, by decide⟩ ?_
            refine aw_cV0q dX6_cheapest_38 ml_RX6_80 (by assumption) (by decide) rfl rfl ⟨by decide, by decide, by decide, by decide⟩ (Nat.le_of_ble_eq_true rfl) (hhp) ?_
            refine aw_gzF 7 dX6_cheapest_41 fl_RX6_145 (by assumption) rfl rfl (by assumption) ?_
            refine aw_iconst dX6_cheapest_44 rfl ⟨by decide, by decide⟩ ?_
            refine aw_iv dX6_cheapest_45 (by assumption) (by omega) (by omega) v45 ?_
            refine aw_cV2v dX6_cheapest_46 ml_RX6_174 (by assumption) (by decide) rfl rfl ⟨by decide, by decide, by decide, by decide⟩ (Nat.le_of_ble_eq_true rfl) (hra) (fun M3 hM3 => ?_)
            obtain ⟨t3, -, f3⟩ := hM3
            refine aw_aload_n dX6_cheapest_49 rfl rfl ⟨by decide, by decide⟩ ?_
            refine aw_iconst dX6_cheapest_50 rfl ⟨by decide, by decide⟩ ?_
            refine aw_cV1p dX6_cheapest_51 ml_RX6_178 (by assumption) (by decide) rfl rfl ⟨by decide, by decide, by decide, by decide⟩ (Nat.le_of_ble_eq_true rfl) (qp_c (sp_onTrial hK0 M3 t3 1 (by omega) (by omega)) (apV_1 it n (ch a) k)) ?_
            refine aw_istore dX6_cheapest_54 (by decide) ?_
            have yes : ((chG it n (ch a) k).1 = -1 ∨ apV it n (ch a) k 1 < (chG it n (ch a) k).2) → AW az_P0 (az_Z (qi K (fun z M' => z = V ∧ frY M M' x)) 0 0) (az_rm 11 0 0) yX6_cheapest cX6_cheapest 6 (some .int) 0 0 67 [(1, x), (0, w), (0, (chG it n (ch a) k).1), (0, (chG it n (ch a) k).2), (0, (k : Int)), (0, apV it n (ch a) k 1)] [] K M3 := by
              intro q
              rw [if_pos q] at hst
              refine aw_iload dX6_cheapest_67 rfl ?_
              refine aw_istore_n dX6_cheapest_69 rfl (by decide) ?_
              refine aw_iload dX6_cheapest_70 rfl ?_
              refine aw_istore_n dX6_cheapest_72 rfl (by decide) ?_
              refine aw_iinc dX6_cheapest_73 rfl (az_wr_id (by omega) (by omega)) (by decide) ?_
              refine aw_goto (tgt := 28) dX6_cheapest_76 rfl ?_
              have := ih (k + 1) M3 (0, apV it n (ch a) k 1) (by omega) (f2.trans f3)
              rw [hst] at this
              exact this
            refine aw_iload_n dX6_cheapest_56 rfl rfl ?_
            refine aw_iconst dX6_cheapest_57 rfl ⟨by decide, by decide⟩ ?_
            refine aw_icmp_eq (tgt := 67) dX6_cheapest_58 rfl (fun h58 => ?_) (fun h58 => ?_)
            · exact yes (Or.inl h58)
            · refine aw_iload dX6_cheapest_61 rfl ?_
              refine aw_iload_n dX6_cheapest_63 rfl rfl ?_
              refine aw_icmp_ge (tgt := 73) dX6_cheapest_64 rfl (fun h64 => ?_) (fun h64 => ?_)
              · rw [if_neg (by omega)] at hst
                refine aw_iinc dX6_cheapest_73 rfl (az_wr_id (by omega) (by omega)) (by decide) ?_
                refine aw_goto (tgt := 28) dX6_cheapest_76 rfl ?_
                have := ih (k + 1) M3 (0, apV it n (ch a) k 1) (by omega) (f2.trans f3)
                rw [hst] at this
                exact this
              · exact yes (Or.inr (by omega))
        exact loop 3 0 M _ (by omega) (frY.refl M x)
      · exact no (fun q => q.1 h16)
set_option maxHeartbeats 1000000 in
theorem sp_csuits (hK : TrK K x) (hN : NP it n) (M : az_M) (hg : GW ch a u bx bz B) (hB : B ≤ 19990000) (ht : TRh M x ch a u bx bz cu) (hp : PC M x sc sp it n) : AM yX6_suits cX6_suits 2 (some .int) 11 0 0 [(1, x)] K M (qi K (fun z M' => z = suV it n (ch a) ∧ frY M M' x)) := by
  have hsk := (hp.k hK).1
  have hK0 := hK
  obtain ⟨kx, k1, k2, k3, hT4, k19, hRe, k23, hRt, hS1, hS2, k45, hKp, hBx, y0, y4, y5, y6, y7, y8, y9, y11, y14, n12, n13, r0, r4, q0, q1, xin⟩ := hK
  have ksc := hsk.1
  obtain ⟨w1, w2, w3⟩ := hg.cur
  have hbr := w1.1.2.2.2.2.2.2.1
  refine am_of (by decide) (Nat.le_of_ble_eq_true rfl) (L := [(1, x), (9, 0)]) rfl ?_
  generalize hV : suV it n (ch a) = V
  unfold suV at hV
  refine aw_aload_n dX6_suits_0 rfl rfl ⟨by decide, by decide⟩ ?_
  refine aw_gr 12 dX6_suits_1 fl_RX6_64 (by assumption) rfl rfl hp.1 ?_
  refine aw_gi 5 dX6_suits_4 fl_RX6_158 (by assumption) rfl rfl hp.2.2.2.1 ?_
  refine aw_if_ne (tgt := 12) dX6_suits_7 rfl (fun h7 => ?_) (fun h7 => ?_)
  · rw [if_pos h7] at hV
    refine aw_iconst dX6_suits_12 rfl ⟨by decide, by decide⟩ ?_
    refine aw_istore_n dX6_suits_13 rfl (by decide) ?_
    have loop : ∀ (d : Nat) (p : Int) (M2 : az_M), 0 ≤ p → p + d = 17 → frY M M2 x → suL it n (ch a) d p = V → AW az_P0 (az_Z (qi K (fun z M' => z = V ∧ frY M M' x)) 0 0) (az_rm 11 0 0) yX6_suits cX6_suits 2 (some .int) 0 0 14 [(1, x), (0, p)] [] K M2 := by
      intro d
      induction d with
      | zero =>
        intro p M2 p0 p1 f2 hx
        refine aw_iload_n dX6_suits_14 rfl rfl ?_
        refine aw_bipush dX6_suits_15 (by decide) ⟨by decide, by decide⟩ ?_
        refine aw_icmp_gt (tgt := 50) dX6_suits_17 rfl (fun h17 => ?_) (fun h17 => absurd h17 (by omega))
        refine aw_iconst dX6_suits_50 rfl ⟨by decide, by decide⟩ ?_
        exact aw_iret dX6_suits_51 (by decide) (by decide) ⟨_, rfl, rfl, hx, f2⟩
      | succ d ih =>
        intro p M2 p0 p1 f2 hx
        replace hx : (if az_wr ((rn0 it n (nameS (apS (ch a) ((ch a).1 735)) 737 p)).1.1 (729 + 2) - (apS (ch a) ((ch a).1 735)).1 (729 + 2)) = 0 then p else suL it n (ch a) d (p + 1)) = V := hx
        obtain ⟨h, hh, hH, hc, hhp, hb1, hb2⟩ := (ht.ofY f2).now hK0 hg
        obtain ⟨-, kh, e6, e7, e8, e9, e10, e11, e12, e13, e14, i0, i1, i2, i3, i4, i5, i6, i7, i8, i9⟩ := id hH
        have v29 : M2 (h + 12) 0 = (ch a).1 735 := hc.2.2.2.2.2.2.2.1 0 (by omega) (by omega)
        have hra := sp_runApart hK0 hN M2 hg hB (ht.ofY f2) (hp.ofY f2) ((ch a).1 735) p hbr (by omega)
        generalize rn0 it n (nameS (apS (ch a) ((ch a).1 735)) 737 p) = R at hra hx
        refine aw_iload_n dX6_suits_14 rfl rfl ?_
        refine aw_bipush dX6_suits_15 (by decide) ⟨by decide, by decide⟩ ?_
        refine aw_icmp_gt (tgt := 50) dX6_suits_17 rfl (fun h17 => absurd h17 (by omega)) (fun h17 => ?_)
        refine aw_aload_n dX6_suits_20 rfl rfl ⟨by decide, by decide⟩ ?_
        refine aw_aload_n dX6_suits_21 rfl rfl ⟨by decide, by decide⟩ ?_
        refine aw_cV0q dX6_suits_22 ml_RX6_80 (by assumption) (by decide) rfl rfl ⟨by decide, by decide, by decide, by decide⟩ (Nat.le_of_ble_eq_true rfl) (hhp) ?_
        refine aw_gzF 7 dX6_suits_25 fl_RX6_145 (by assumption) rfl rfl (by assumption) ?_
        refine aw_iconst dX6_suits_28 rfl ⟨by decide, by decide⟩ ?_
        refine aw_iv dX6_suits_29 (by assumption) (by omega) (by omega) v29 ?_
        refine aw_iload_n dX6_suits_30 rfl rfl ?_
        refine aw_cV2v dX6_suits_31 ml_RX6_174 (by assumption) (by decide) rfl rfl ⟨by decide, by decide, by decide, by decide⟩ (Nat.le_of_ble_eq_true rfl) (hra) (fun M3 hM3 => ?_)
        obtain ⟨t3, -, f3⟩ := hM3
        refine aw_aload_n dX6_suits_34 rfl rfl ⟨by decide, by decide⟩ ?_
        refine aw_iconst dX6_suits_35 rfl ⟨by decide, by decide⟩ ?_
        refine aw_cV1p dX6_suits_36 ml_RX6_178 (by assumption) (by decide) rfl rfl ⟨by decide, by decide, by decide, by decide⟩ (Nat.le_of_ble_eq_true rfl) (sp_onTrial hK0 M3 t3 2 (by omega) (by omega)) ?_
        refine aw_if_ne (tgt := 44) dX6_suits_39 rfl (fun h39 => ?_) (fun h39 => ?_)
        · rw [if_neg h39] at hx
          refine aw_iinc dX6_suits_44 rfl (az_wr_id (by omega) (by omega)) (by decide) ?_
          refine aw_goto (tgt := 14) dX6_suits_47 rfl ?_
          exact ih (p + 1) M3 (by omega) (by omega) (f2.trans f3) hx
        · rw [if_pos (by omega)] at hx
          refine aw_iload_n dX6_suits_42 rfl rfl ?_
          exact aw_iret dX6_suits_43 (by decide) (by decide) ⟨_, rfl, rfl, hx, f2.trans f3⟩
    exact loop 17 0 M (by omega) (by omega) (frY.refl M x) hV
  · rw [if_neg (fun q => q h7)] at hV
    refine aw_iconst dX6_suits_10 rfl ⟨by decide, by decide⟩ ?_
    exact aw_iret dX6_suits_11 (by decide) (by decide) ⟨_, rfl, rfl, hV, frY.refl M x⟩
end PG
