/-! TreadRing's constructor -/
set_option maxRecDepth 20000
def St (K : az_K) (M : az_M) (x : Int) (g : Int → Int) (n : Int) : Prop := (K.1.length : Int) = n ∧ az_at K x (6, 15) ∧ (∀ i, K.2 x i = none) ∧ (∀ a i, n ≤ a → K.2 a i = none) ∧ M x = g
def Go (K K' : az_K) (M M' : az_M) (x n : Int) : Prop := (∀ a q, az_at K a q → az_at K' a q) ∧ (∀ a i, a < n → K'.2 a i = K.2 a i) ∧ ∀ b, b ≠ x → b ≠ x + 1 → b ≠ x + 2 → b < n → M' b = M b
theorem Go.refl (K : az_K) (M : az_M) (x n : Int) : Go K K M M x n := ⟨fun _ _ h => h, fun _ _ _ => rfl, fun _ _ _ _ _ => rfl⟩
theorem Go.trans {K K1 K2 : az_K} {M M1 M2 : az_M} {x n n' : Int} (p : Go K K1 M M1 x n) (q : Go K1 K2 M1 M2 x n') (h : n ≤ n') : Go K K2 M M2 x n := ⟨fun a r w => q.1 a r (p.1 a r w), fun a i w => (q.2.1 a i (by omega)).trans (p.2.1 a i w), fun b b1 b2 b3 b4 => (q.2.2 b b1 b2 b3 (by omega)).trans (p.2.2 b b1 b2 b3 b4)⟩
theorem HpK.mv {K K' : az_K} {h : Int} (H : HpK K h) (m : ∀ a q, az_at K a q → az_at K' a q) (e : ∀ a i, h ≤ a → a ≤ h + 14 → K'.2 a i = K.2 a i) : HpK K' h := by
  obtain ⟨⟨r1, r2, r3, r4, r5, r6, r7, r8, r9⟩, k0, k6, k7, k8, k9, k10, k11, k12, k13, k14, z0, z1, z2, z3, z4, z5, z6, z7, z8, z9⟩ := H
  exact ⟨⟨m _ _ r1, m _ _ r2, m _ _ r3, m _ _ r4, m _ _ r5, (e _ _ (by omega) (by omega)).trans r6, (e _ _ (by omega) (by omega)).trans r7, (e _ _ (by omega) (by omega)).trans r8, (e _ _ (by omega) (by omega)).trans r9⟩, m _ _ k0, m _ _ k6, m _ _ k7, m _ _ k8, m _ _ k9, m _ _ k10, m _ _ k11, m _ _ k12, m _ _ k13, m _ _ k14, (e _ _ (by omega) (by omega)).trans z0, (e _ _ (by omega) (by omega)).trans z1, (e _ _ (by omega) (by omega)).trans z2, (e _ _ (by omega) (by omega)).trans z3, (e _ _ (by omega) (by omega)).trans z4, (e _ _ (by omega) (by omega)).trans z5, (e _ _ (by omega) (by omega)).trans z6, (e _ _ (by omega) (by omega)).trans z7, (e _ _ (by omega) (by omega)).trans z8, (e _ _ (by omega) (by omega)).trans z9⟩
theorem ScK.mv {K K' : az_K} {s : Int} (H : ScK K s) (m : ∀ a q, az_at K a q → az_at K' a q) (e : ∀ i, K'.2 s i = K.2 s i) : ScK K' s := by
  obtain ⟨r0, r1, r2, r3, r4, r5, z0, z1, z2, z3, z4⟩ := H
  exact ⟨m _ _ r0, m _ _ r1, m _ _ r2, m _ _ r3, m _ _ r4, m _ _ r5, (e _).trans z0, (e _).trans z1, (e _).trans z2, (e _).trans z3, (e _).trans z4⟩
theorem ReK.mv {K K' : az_K} {s : Int} (H : ReK K s) (m : ∀ a q, az_at K a q → az_at K' a q) (e : ∀ i, K'.2 s i = K.2 s i) : ReK K' s := by
  obtain ⟨r0, r1, r2, z0, z1⟩ := H
  exact ⟨m _ _ r0, m _ _ r1, m _ _ r2, (e _).trans z0, (e _).trans z1⟩
section S6
variable {K K' : az_K} {M M' : az_M} {x c c' n' f : Int} {g z d : Int → Int} {q : Nat × Nat}
theorem st_arr (hs : St K M x g c) (h : x < c) (e : c' = c + 1) (q : Nat × Nat) (z : Int → Int) (f : Int) : St (K.1 ++ [q], K.2) (az_up (az_nw M c z) x f c) x (gu g f c) c' ∧ Go K (K.1 ++ [q], K.2) M (az_up (az_nw M c z) x f c) x c ∧ az_at (K.1 ++ [q], K.2) c q ∧ az_up (az_nw M c z) x f c c = z := by
  obtain ⟨h1, h2, h3, h4, h5⟩ := hs
  refine ⟨⟨len_c (k := 1) h1 rfl (by omega), at_o h2, h3, fun a i w => h4 a i (by omega), ?_⟩, ⟨fun a r w => at_o w, fun _ _ _ => rfl, fun b b1 _ _ b4 => ?_⟩, at_n h1, ?_⟩
  · rw [up_g, if_pos rfl, nw_n _ _ (by omega), h5]
  · rw [up_oth _ _ _ b1, nw_n _ _ (by omega)]
  · rw [up_oth _ _ _ (by omega), nw_s]
theorem st_sub (hs : St K M x g c) : Fr (K.1 ++ [q], K.2) c := Fr.sub (o := x) hs.1 (fun a i w => hs.2.2.2.1 a i w)
theorem st_x (hs : St K M x g c) (h : x < c) (hw : NW (K.1 ++ [q], K.2) K' (az_nw M c d) M' c n') : az_at K' x (6, 15) ∧ ∀ i, K'.2 x i = none := ⟨hw.2.1 _ _ (at_o hs.2.1), fun i => (hw.2.2.1 x i h).trans (hs.2.2.1 i)⟩
theorem st_obj (hs : St K M x g c) (h : x < c) (hn : c < n') (hw : NW (K.1 ++ [q], K.2) K' (az_nw M c d) M' c n') (f : Int) : St K' (az_up M' x f c) x (gu g f c) n' ∧ Go K K' M (az_up M' x f c) x c ∧ (∀ b, b ≠ x → az_up M' x f c b = M' b) ∧ az_at K' c q := by
  have hx := st_x hs h hw
  obtain ⟨h1, h2, h3, h4, h5⟩ := hs
  obtain ⟨w1, w2, w3, w4, w5⟩ := hw
  refine ⟨⟨w1, hx.1, hx.2, w4, ?_⟩, ⟨fun a r w => w2 a r (at_o w), fun a i w => w3 a i w, fun b b1 _ _ b4 => ?_⟩, fun b hb => up_oth _ _ _ hb, w2 _ _ (at_n h1)⟩
  · rw [up_g, if_pos rfl, w5 x h, nw_n _ _ (by omega), h5]
  · rw [up_oth _ _ _ b1, w5 b b4, nw_n _ _ (by omega)]
theorem st_u (hs : St K M x g c) (f v : Int) : St K (az_up M x f v) x (gu g f v) c ∧ Go K K M (az_up M x f v) x c := ⟨⟨hs.1, hs.2.1, hs.2.2.1, hs.2.2.2.1, by rw [up_g, if_pos rfl, hs.2.2.2.2]⟩, fun _ _ h => h, fun _ _ _ => rfl, fun b b1 _ _ _ => up_oth _ _ _ b1⟩
theorem st_put (hs : St K M x g c) (h : x + 2 < c) (hn : c < n') (hw : NW (K.1 ++ [q], K.2) K' (az_nw M c d) M' c n') {o i : Int} (ho : o = x + 1 ∨ o = x + 2) : St K' (az_up M' o i c) x g n' ∧ Go K K' M (az_up M' o i c) x c ∧ (∀ b, b ≠ o → az_up M' o i c b = M' b) ∧ (∀ b, b < c → M' b = M b) := by
  have hx := st_x hs (by omega) hw
  obtain ⟨h1, h2, h3, h4, h5⟩ := hs
  obtain ⟨w1, w2, w3, w4, w5⟩ := hw
  have hb : ∀ b, b < c → M' b = M b := fun b w => by rw [w5 b w, nw_n _ _ (by omega)]
  refine ⟨⟨w1, hx.1, hx.2, w4, ?_⟩, ⟨fun a r w => w2 a r (at_o w), fun a i w => w3 a i w, fun b b1 b2 b3 b4 => ?_⟩, fun b w => up_oth _ _ _ w, hb⟩
  · rw [up_oth _ _ _ (by omega), hb x (by omega), h5]
  · rw [up_oth _ _ _ (by omega), hb b b4]
end S6
section NQ
variable {P : az_E → State → Array Value → Prop} {Z : List Frame → Array Value → State → az_E → State → Prop} {R : Room} {y : MethodName} {cc : ByteArray} {nL : Nat} {ret : Option FieldType} {cs sl pc : Nat} {L S : List az_V} {K : az_K} {M : az_M} {c : Int} {n index : Nat}
theorem aw_nQ0 (hd : decode cc pc = .ok (.anewarray index, 3)) (hn : n ≤ 100000) (ha : Cond.classLink y.cls index "TreadRing$Heap" ∈ az_TB) (hL : (K.1.length : Int) = c) (hc1 : cs + 1 ≤ R.cells) (hs1 : sl + n ≤ R.slots) (k : AW P Z R y cc nL ret (cs + 1) (sl + n) (pc + 3) L ((1, c) :: S) (K.1 ++ [(102, n)], K.2) (az_nw M c (fun _ => -1))) : AW P Z R y cc nL ret cs sl pc L ((0, (n : Int)) :: S) K M := by
  subst hL
  exact aw_newQ hd hn ha hc1 hs1 k
end NQ
set_option maxHeartbeats 8000000 in
theorem sp_cinit {K : az_K} {x : Int} {bx : hCh} (hf : Fr K x) (ho : az_at K x (6, 15)) (xi : 0 ≤ x ∧ x ≤ 1000000) (xj : x ≤ 800000) (M : az_M) (hd : M x = az_d0 6) : AM yX6_init cX6_init 2 none 4 390 13909 [(1, x)] K M (fun r K' M' => r = none ∧ NW K K' M M' x (x + 391) ∧ TrK K' x ∧ TRh M' x (fun _ => clrS 8) 0 0 bx (fun _ => 0) 0 ∧ (∀ it, PC M' x (x + 33) (x + 39) it 0) ∧ M' x 10 = 0 ∧ M' (x + 24) 7 = 0 ∧ M' (x + 24) 8 = -1) := by
  have s0 : St K M x (M x) (x + 1) := ⟨hf.1, ho, fun i => hf.2 x i (by omega), fun a i w => hf.2 a i (by omega), rfl⟩
  refine am_of (by decide) (Nat.le_of_ble_eq_true rfl) (L := [(1, x), (9, 0)]) rfl ?_
  refine aw_aload_n dX6_init_0 rfl rfl ⟨by decide, by decide⟩ ?_
  refine aw_objInit dX6_init_1 oi_RX6 (by omega) ⟨by decide, by decide⟩ ?_
  refine aw_aload_n dX6_init_4 rfl rfl ⟨by decide, by decide⟩ ?_
  refine aw_bipush dX6_init_5 (by decide) ⟨by decide, by decide⟩ ?_
  refine aw_nQ0 (c := x + 1) (n := 21) dX6_init_7 (by decide) cl_RX6_9 s0.1 (Nat.le_of_ble_eq_true rfl) (Nat.le_of_ble_eq_true rfl) ?_
  refine aw_prF 0 dX6_init_10 fl_RX6_11 ff_RX6_11 rfl (at_o s0.2.1) rfl rfl ⟨by omega, by omega⟩ (s0.2.2.1 _) ?_
  have n1 : ∀ i, (K.1 ++ [((102 : Nat), (21 : Nat))], K.2).2 (x + 1) i = none := fun i => hf.2 _ i (by omega)
  have q1 := st_arr (c' := x + 2) s0 (by omega) (by omega) (102, 21) (fun _ => -1) 0
  generalize (K.1 ++ [(102, 21)], K.2) = K1 at q1 n1 ⊢
  generalize az_up (az_nw M (x + 1) (fun _ => -1)) x 0 (x + 1) = M1 at q1 ⊢
  obtain ⟨s1, g1, a1, v1⟩ := q1
  refine aw_aload_n dX6_init_13 rfl rfl ⟨by decide, by decide⟩ ?_
  refine aw_iconst dX6_init_14 rfl ⟨by decide, by decide⟩ ?_
  refine aw_pi 1 dX6_init_15 fl_RX6_15 s1.2.1 rfl rfl ?_
  have q2 := st_u s1 1 0
  generalize az_up M1 x 1 0 = M2 at q2 ⊢
  obtain ⟨s2, g2⟩ := q2
  refine aw_aload_n dX6_init_18 rfl rfl ⟨by decide, by decide⟩ ?_
  refine aw_iconst dX6_init_19 rfl ⟨by decide, by decide⟩ ?_
  refine aw_pi 2 dX6_init_20 fl_RX6_19 s2.2.1 rfl rfl ?_
  have q3 := st_u s2 2 0
  generalize az_up M2 x 2 0 = M3 at q3 ⊢
  obtain ⟨s3, g3⟩ := q3
  refine aw_aload_n dX6_init_23 rfl rfl ⟨by decide, by decide⟩ ?_
  refine aw_iconst dX6_init_24 rfl ⟨by decide, by decide⟩ ?_
  refine aw_pi 3 dX6_init_25 fl_RX6_22 s3.2.1 rfl rfl ?_
  have q4 := st_u s3 3 0
  generalize az_up M3 x 3 0 = M4 at q4 ⊢
  obtain ⟨s4, g4⟩ := q4
  refine aw_aload_n dX6_init_28 rfl rfl ⟨by decide, by decide⟩ ?_
  refine aw_iconst dX6_init_29 rfl ⟨by decide, by decide⟩ ?_
  refine aw_nQ0 (c := x + 2) (n := 2) dX6_init_30 (by decide) cl_RX6_9 s4.1 (Nat.le_of_ble_eq_true rfl) (Nat.le_of_ble_eq_true rfl) ?_
  refine aw_prF 4 dX6_init_33 fl_RX6_25 ff_RX6_25 rfl (at_o s4.2.1) rfl rfl ⟨by omega, by omega⟩ (s4.2.2.1 _) ?_
  have n5 : ∀ i, (K1.1 ++ [((102 : Nat), (2 : Nat))], K1.2).2 (x + 2) i = none := fun i => s4.2.2.2.1 _ i (by omega)
  have q5 := st_arr (c' := x + 3) s4 (by omega) (by omega) (102, 2) (fun _ => -1) 4
  generalize (K1.1 ++ [(102, 2)], K1.2) = K5 at q5 n5 ⊢
  generalize az_up (az_nw M4 (x + 2) (fun _ => -1)) x 4 (x + 2) = M5 at q5 ⊢
  obtain ⟨s5, g5, a5, v5⟩ := q5
  refine aw_aload_n dX6_init_36 rfl rfl ⟨by decide, by decide⟩ ?_
  refine aw_iconst dX6_init_37 rfl ⟨by decide, by decide⟩ ?_
  refine aw_nZ0 (c := x + 3) (n := 2) dX6_init_38 (by decide) s5.1 (Nat.le_of_ble_eq_true rfl) (Nat.le_of_ble_eq_true rfl) ?_
  refine aw_prF 5 dX6_init_40 fl_RX6_28 ff_RX6_28 rfl (at_o s5.2.1) rfl rfl ⟨by omega, by omega⟩ (s5.2.2.1 _) ?_
  have q6 := st_arr (c' := x + 4) s5 (by omega) (by omega) (101, 2) (fun _ => 0) 5
  generalize (K5.1 ++ [(101, 2)], K5.2) = K6 at q6 ⊢
  generalize az_up (az_nw M5 (x + 3) (fun _ => 0)) x 5 (x + 3) = M6 at q6 ⊢
  obtain ⟨s6, g6, a6, v6⟩ := q6
  refine aw_aload_n dX6_init_43 rfl rfl ⟨by decide, by decide⟩ ?_
  refine aw_nO (c := x + 4) dX6_init_44 nc_RX6_9 (show az_nf 0 = 16 from rfl) s6.1 (by decide) (by decide) ?_
  refine aw_dup dX6_init_47 ?_
  refine aw_cI0 dX6_init_48 ml_RX6_32 (by omega) ⟨by decide, by decide, by decide, by decide⟩ (Nat.le_of_ble_eq_true rfl) (sp_hinit (h := x + 4) (st_sub s6) (at_n s6.1) (by omega) _) (fun K7 N7 w7 => ?_)
  obtain ⟨w7, hH7, -⟩ := w7
  rw [show x + 4 + 15 = x + 19 by omega] at w7
  have x7 := st_x s6 (by omega) w7
  refine aw_prF 6 dX6_init_51 fl_RX6_33 ff_RX6_33 rfl x7.1 rfl rfl ⟨by omega, by omega⟩ (x7.2 _) ?_
  have q7 := st_obj s6 (by omega) (by omega) w7 6
  generalize az_up N7 x 6 (x + 4) = M7 at q7 ⊢
  obtain ⟨s7, g7, e7, a7⟩ := q7
  refine aw_aload_n dX6_init_54 rfl rfl ⟨by decide, by decide⟩ ?_
  refine aw_bipush dX6_init_55 (by decide) ⟨by decide, by decide⟩ ?_
  refine aw_nI0 (c := x + 19) (n := 6) dX6_init_57 (by decide) s7.1 (Nat.le_of_ble_eq_true rfl) (Nat.le_of_ble_eq_true rfl) ?_
  refine aw_prF 7 dX6_init_59 fl_RX6_37 ff_RX6_37 rfl (at_o s7.2.1) rfl rfl ⟨by omega, by omega⟩ (s7.2.2.1 _) ?_
  have q8 := st_arr (c' := x + 20) s7 (by omega) (by omega) (100, 6) (fun _ => 0) 7
  generalize (K7.1 ++ [(100, 6)], K7.2) = K8 at q8 ⊢
  generalize az_up (az_nw M7 (x + 19) (fun _ => 0)) x 7 (x + 19) = M8 at q8 ⊢
  obtain ⟨s8, g8, a8, v8⟩ := q8
  refine aw_aload_n dX6_init_62 rfl rfl ⟨by decide, by decide⟩ ?_
  refine aw_nO (c := x + 20) dX6_init_63 nc_RX6_41 (show az_nf 1 = 3 from rfl) s8.1 (by decide) (by decide) ?_
  refine aw_dup dX6_init_66 ?_
  refine aw_cI0 dX6_init_67 ml_RX6_43 (by omega) ⟨by decide, by decide, by decide, by decide⟩ (Nat.le_of_ble_eq_true rfl) (sp_reinit (q := x + 20) (st_sub s8) (at_n s8.1) (by omega) _) (fun K9 N9 w9 => ?_)
  obtain ⟨w9, hH9⟩ := w9
  rw [show x + 20 + 3 = x + 23 by omega] at w9
  have x9 := st_x s8 (by omega) w9
  refine aw_prF 8 dX6_init_70 fl_RX6_44 ff_RX6_44 rfl x9.1 rfl rfl ⟨by omega, by omega⟩ (x9.2 _) ?_
  have q9 := st_obj s8 (by omega) (by omega) w9 8
  generalize az_up N9 x 8 (x + 20) = M9 at q9 ⊢
  obtain ⟨s9, g9, e9, a9⟩ := q9
  refine aw_aload_n dX6_init_73 rfl rfl ⟨by decide, by decide⟩ ?_
  refine aw_sipush dX6_init_74 (by decide) ⟨by decide, by decide⟩ ?_
  refine aw_nI0 (c := x + 23) (n := 400) dX6_init_77 (by decide) s9.1 (Nat.le_of_ble_eq_true rfl) (Nat.le_of_ble_eq_true rfl) ?_
  refine aw_prF 9 dX6_init_79 fl_RX6_48 ff_RX6_48 rfl (at_o s9.2.1) rfl rfl ⟨by omega, by omega⟩ (s9.2.2.1 _) ?_
  have q10 := st_arr (c' := x + 24) s9 (by omega) (by omega) (100, 400) (fun _ => 0) 9
  generalize (K9.1 ++ [(100, 400)], K9.2) = K10 at q10 ⊢
  generalize az_up (az_nw M9 (x + 23) (fun _ => 0)) x 9 (x + 23) = M10 at q10 ⊢
  obtain ⟨s10, g10, a10, v10⟩ := q10
  refine aw_aload_n dX6_init_82 rfl rfl ⟨by decide, by decide⟩ ?_
  refine aw_iconst dX6_init_83 rfl ⟨by decide, by decide⟩ ?_
  refine aw_pi 10 dX6_init_84 fl_RX6_51 s10.2.1 rfl rfl ?_
  have q11 := st_u s10 10 0
  generalize az_up M10 x 10 0 = M11 at q11 ⊢
  obtain ⟨s11, g11⟩ := q11
  refine aw_aload_n dX6_init_87 rfl rfl ⟨by decide, by decide⟩ ?_
  refine aw_nO (c := x + 24) dX6_init_88 nc_RX6_54 (show az_nf 2 = 9 from rfl) s11.1 (by decide) (by decide) ?_
  refine aw_dup dX6_init_91 ?_
  refine aw_cI0 dX6_init_92 ml_RX6_56 (by omega) ⟨by decide, by decide, by decide, by decide⟩ (Nat.le_of_ble_eq_true rfl) (sp_dinit (rd := x + 24) (st_sub s11) (at_n s11.1) (by omega) _) (fun K12 N12 w12 => ?_)
  obtain ⟨w12, hH12, hf7, hf8⟩ := w12
  rw [show x + 24 + 9 = x + 33 by omega] at w12
  have x12 := st_x s11 (by omega) w12
  refine aw_prF 11 dX6_init_95 fl_RX6_57 ff_RX6_57 rfl x12.1 rfl rfl ⟨by omega, by omega⟩ (x12.2 _) ?_
  have q12 := st_obj s11 (by omega) (by omega) w12 11
  generalize az_up N12 x 11 (x + 24) = M12 at q12 ⊢
  obtain ⟨s12, g12, e12, a12⟩ := q12
  refine aw_aload_n dX6_init_98 rfl rfl ⟨by decide, by decide⟩ ?_
  refine aw_nO (c := x + 33) dX6_init_99 nc_RX6_61 (show az_nf 5 = 6 from rfl) s12.1 (by decide) (by decide) ?_
  refine aw_dup dX6_init_102 ?_
  refine aw_cI0 dX6_init_103 ml_RX6_63 (by omega) ⟨by decide, by decide, by decide, by decide⟩ (Nat.le_of_ble_eq_true rfl) (sp_sinit (s := x + 33) (st_sub s12) (at_n s12.1) (by omega) _) (fun K13 N13 w13 => ?_)
  obtain ⟨w13, hH13, hf13⟩ := w13
  rw [show x + 33 + 6 = x + 39 by omega] at w13
  have x13 := st_x s12 (by omega) w13
  refine aw_pr 12 dX6_init_106 fl_RX6_64 x13.1 rfl rfl ⟨by omega, by omega⟩ (x13.2 _) ?_
  have q13 := st_obj s12 (by omega) (by omega) w13 12
  generalize az_up N13 x 12 (x + 33) = M13 at q13 ⊢
  obtain ⟨s13, g13, e13, a13⟩ := q13
  refine aw_aload_n dX6_init_109 rfl rfl ⟨by decide, by decide⟩ ?_
  refine aw_nO (c := x + 39) dX6_init_110 nc_RX6_61 (show az_nf 5 = 6 from rfl) s13.1 (by decide) (by decide) ?_
  refine aw_dup dX6_init_113 ?_
  refine aw_cI0 dX6_init_114 ml_RX6_63 (by omega) ⟨by decide, by decide, by decide, by decide⟩ (Nat.le_of_ble_eq_true rfl) (sp_sinit (s := x + 39) (st_sub s13) (at_n s13.1) (by omega) _) (fun K14 N14 w14 => ?_)
  obtain ⟨w14, hH14, -⟩ := w14
  rw [show x + 39 + 6 = x + 45 by omega] at w14
  have x14 := st_x s13 (by omega) w14
  refine aw_pr 13 dX6_init_117 fl_RX6_68 x14.1 rfl rfl ⟨by omega, by omega⟩ (x14.2 _) ?_
  have q14 := st_obj s13 (by omega) (by omega) w14 13
  generalize az_up N14 x 13 (x + 39) = M14 at q14 ⊢
  obtain ⟨s14, g14, e14, a14⟩ := q14
  refine aw_aload_n dX6_init_120 rfl rfl ⟨by decide, by decide⟩ ?_
  refine aw_nO (c := x + 45) dX6_init_121 nc_RX6_71 (show az_nf 4 = 4 from rfl) s14.1 (by decide) (by decide) ?_
  have u126 : az_nw M14 (x + 45) (az_d0 4) x 6 = x + 4 := by rw [nw_n _ _ (by omega), s14.2.2.2.2]; rfl
  have u130 : az_nw M14 (x + 45) (az_d0 4) x 12 = x + 33 := by rw [nw_n _ _ (by omega), s14.2.2.2.2]; rfl
  refine aw_dup dX6_init_124 ?_
  refine aw_aload_n dX6_init_125 rfl rfl ⟨by decide, by decide⟩ ?_
  refine aw_grF 6 dX6_init_126 fl_RX6_33 (at_o s14.2.1) rfl rfl u126 ?_
  refine aw_aload_n dX6_init_129 rfl rfl ⟨by decide, by decide⟩ ?_
  refine aw_gr 12 dX6_init_130 fl_RX6_64 (at_o s14.2.1) rfl rfl u130 ?_
  refine aw_callI (ret' := none) (As := [(1, x + 4), (1, x + 33)]) dX6_init_133 ml_RX6_73 rfl (by omega) ⟨by decide, by decide, by decide, by decide⟩ (Nat.le_of_ble_eq_true rfl) (sp_winit (rn := x + 45) (at_n s14.1) ⟨by omega, by omega⟩ ⟨by omega, by omega⟩ (s14.2.2.2.1 _ _ (by omega)) (s14.2.2.2.1 _ _ (by omega)) _) (fun r K15 N15 w15 => ?_)
  obtain ⟨hr15, hk15, w15⟩ := w15
  subst hr15
  replace w15 : NW (K14.1 ++ [(4, 4)], K14.2) K15 (az_nw M14 (x + 45) (az_d0 4)) N15 (x + 45) (x + 46) := by
    subst hk15
    exact ⟨len_c (k := 1) s14.1 rfl (by omega), fun _ _ h => h, fun _ _ _ => rfl, fun a i w => s14.2.2.2.1 a i (by omega), fun b w => w15 b (by omega)⟩
  have r0 : ∀ i, K15.2 (x + 45) i = none := fun i => by rw [hk15]; exact s14.2.2.2.1 _ _ (by omega)
  have x15 := st_x s14 (by omega) w15
  show AW _ _ _ _ _ _ _ _ _ _ _ [(1, x + 45), (1, x)] _ _
  refine aw_prF 14 dX6_init_136 fl_RX6_76 ff_RX6_76 rfl x15.1 rfl rfl ⟨by omega, by omega⟩ (x15.2 _) ?_
  refine aw_iconst dX6_init_139 rfl ⟨by decide, by decide⟩ ?_
  refine aw_istore_n dX6_init_140 rfl (by decide) ?_
  have q15 := st_obj s14 (by omega) (by omega) w15 14
  generalize az_up N15 x 14 (x + 45) = M15 at q15 ⊢
  obtain ⟨s15, g15, e15, a15⟩ := q15
  have G15 := Go.refl K15 M15 x (x + 46)
  have G14 := g15.trans G15 (by omega)
  have G13 := g14.trans G14 (by omega)
  have G12 := g13.trans G13 (by omega)
  have G11 := g12.trans G12 (by omega)
  have G10 := g11.trans G11 (by omega)
  have G9 := g10.trans G10 (by omega)
  have G8 := g9.trans G9 (by omega)
  have G7 := g8.trans G8 (by omega)
  have G6 := g7.trans G7 (by omega)
  have G5 := g6.trans G6 (by omega)
  have G4 := g5.trans G5 (by omega)
  have G3 := g4.trans G4 (by omega)
  have G2 := g3.trans G3 (by omega)
  have G1 := g2.trans G2 (by omega)
  have G0 := g1.trans G1 (by omega)
  generalize hg : gu (gu (gu (gu (gu (gu (gu (gu (gu (gu (gu (gu (gu (gu (gu (M x) 0 (x + 1)) 1 0) 2 0) 3 0) 4 (x + 2)) 5 (x + 3)) 6 (x + 4)) 7 (x + 19)) 8 (x + 20)) 9 (x + 23)) 10 0) 11 (x + 24)) 12 (x + 33)) 13 (x + 39)) 14 (x + 45) = g at s15
  have na1 : ∀ i, K15.2 (x + 1) i = none := fun i => (G1.2.1 _ i (by omega)).trans (n1 i)
  have na2 : ∀ i, K15.2 (x + 2) i = none := fun i => (G5.2.1 _ i (by omega)).trans (n5 i)
  have fin : ∀ (cs sl : Nat) (K2 : az_K) (M2 : az_M) (k : Int), cs ≤ 390 → sl ≤ 13909 → St K2 M2 x g (x + 391) → Go K15 K2 M15 M2 x (x + 46) → (∀ j, 0 ≤ j → j < 21 → HpK K2 (x + 46 + 15 * j) ∧ HS M2 (x + 46 + 15 * j) (clrS 8) ∧ M2 (x + 1) j = x + 46 + 15 * j) → (∀ j, 0 ≤ j → j < 2 → HpK K2 (x + 361 + 15 * j) ∧ HS M2 (x + 361 + 15 * j) (clrS 8) ∧ M2 (x + 2) j = x + 361 + 15 * j) → AW az_P0 (az_Z (fun r K' M' => r = none ∧ NW K K' M M' x (x + 391) ∧ TrK K' x ∧ TRh M' x (fun _ => clrS 8) 0 0 bx (fun _ => 0) 0 ∧ (∀ it, PC M' x (x + 33) (x + 39) it 0) ∧ M' x 10 = 0 ∧ M' (x + 24) 7 = 0 ∧ M' (x + 24) 8 = -1) 390 13909) (az_rm 4 390 13909) yX6_init cX6_init 2 none cs sl 195 [(1, x), (0, k)] [] K2 M2 := by
    intro cs sl K2 M2 k hcs hsl hs hgo h1 h2
    have hx : ∀ i v, g i = v → M2 x i = v := fun i v w => by rw [hs.2.2.2.2]; exact w
    have kk1 := (G1.trans hgo (by omega)).1 _ _ a1
    have kk2 := (G5.trans hgo (by omega)).1 _ _ a5
    refine aw_fz (fun hz => ?_)
    refine aw_freeze (fz_ok hz hs.2.1 (by decide) (F := [0, 4, 5, 6, 7, 8, 9, 11, 14]) (by decide)) ?_
    refine aw_fz (fun hz => ?_)
    refine aw_freeze (fz_ok hz (K := (K2.1, fz K2.2 M2 x [0, 4, 5, 6, 7, 8, 9, 11, 14])) (o := x + 1) (ci := 102) (nn := 21) kk1 (by decide) (F := [0, 1, 2, 3, 4, 5, 6, 7, 8, 9, 10, 11, 12, 13, 14, 15, 16, 17, 18, 19, 20]) (fun i _ w => absurd w (by decide))) ?_
    refine aw_fz (fun hz => ?_)
    refine aw_freeze (fz_ok hz (K := (K2.1, fz (fz K2.2 M2 x [0, 4, 5, 6, 7, 8, 9, 11, 14]) M2 (x + 1) [0, 1, 2, 3, 4, 5, 6, 7, 8, 9, 10, 11, 12, 13, 14, 15, 16, 17, 18, 19, 20])) (o := x + 2) (ci := 102) (nn := 2) kk2 (by decide) (F := [0, 1]) (fun i _ w => absurd w (by decide))) ?_
    obtain ⟨G, hG⟩ : ∃ G, G = fz (fz (fz K2.2 M2 x [0, 4, 5, 6, 7, 8, 9, 11, 14]) M2 (x + 1) [0, 1, 2, 3, 4, 5, 6, 7, 8, 9, 10, 11, 12, 13, 14, 15, 16, 17, 18, 19, 20]) M2 (x + 2) [0, 1] := ⟨_, rfl⟩
    have zo : ∀ a i, a ≠ x → a ≠ x + 1 → a ≠ x + 2 → G a i = K2.2 a i := fun a i w1 w2 w3 => by rw [hG, fz_n w3, fz_n w2, fz_n w1]
    have z0 : ∀ i v, i ∈ ([0, 4, 5, 6, 7, 8, 9, 11, 14] : List Int) → g i = v → G x i = some v := fun i v w1 w2 => by rw [hG, fz_n (by omega), fz_n (by omega)]; exact fz_s w1 (hx i v w2)
    have z0n : ∀ i, i ∉ ([0, 4, 5, 6, 7, 8, 9, 11, 14] : List Int) → G x i = none := fun i w => by rw [hG, fz_n (by omega), fz_n (by omega)]; exact fz_z w
    have z1 : ∀ i, 0 ≤ i → i < 21 → G (x + 1) i = some (x + 46 + 15 * i) := fun i i0 i1 => by
      rw [hG, fz_n (by omega)]
      refine fz_s ?_ (h1 i i0 i1).2.2
      have hm : ∀ j : Fin 21, ((j.val : Nat) : Int) ∈ ([0, 1, 2, 3, 4, 5, 6, 7, 8, 9, 10, 11, 12, 13, 14, 15, 16, 17, 18, 19, 20] : List Int) := by decide
      have := hm ⟨i.toNat, by omega⟩
      rw [show (((⟨i.toNat, by omega⟩ : Fin 21).val : Nat) : Int) = i from Int.toNat_of_nonneg i0] at this
      exact this
    have z2 : ∀ i, 0 ≤ i → i < 2 → G (x + 2) i = some (x + 361 + 15 * i) := fun i i0 i1 => by
      rw [hG]
      refine fz_s ?_ (h2 i i0 i1).2.2
      have : i = 0 ∨ i = 1 := by omega
      rcases this with e | e <;> subst e <;> decide
    rw [← hG]
    have mv : ∀ a q, az_at K2 a q → az_at (K2.1, G) a q := fun a q w => w
    have rd := hH12
    have g12' := G12.trans hgo (by omega)
    refine aw_vret dX6_init_195 hcs hsl ⟨rfl, ⟨hs.1, fun a q w => (G0.trans hgo (by omega)).1 _ _ w, fun a i w => (zo a i (by omega) (by omega) (by omega)).trans ((G0.trans hgo (by omega)).2.1 a i (by omega)), fun a i w => (zo a i (by omega) (by omega) (by omega)).trans (hs.2.2.2.1 a i w), fun b w => (G0.trans hgo (by omega)).2.2 b (by omega) (by omega) (by omega) (by omega)⟩, ⟨hs.2.1, kk1, kk2, (G6.trans hgo (by omega)).1 _ _ a6, ?_, (G8.trans hgo (by omega)).1 _ _ a8, ?_, (G10.trans hgo (by omega)).1 _ _ a10, ?_, ?_, ?_, hgo.1 _ _ a15, fun i i0 i1 => ⟨(h1 i i0 i1).1.mv mv (fun a j a0 a1 => zo a j (by omega) (by omega) (by omega)), z1 i i0 i1⟩, fun i i0 i1 => ⟨(h2 i i0 i1).1.mv mv (fun a j a0 a1 => zo a j (by omega) (by omega) (by omega)), z2 i i0 i1⟩, z0 _ _ (by decide) (by rw [← hg]; rfl), z0 _ _ (by decide) (by rw [← hg]; rfl), z0 _ _ (by decide) (by rw [← hg]; rfl), z0 _ _ (by decide) (by rw [← hg]; rfl), z0 _ _ (by decide) (by rw [← hg]; rfl), z0 _ _ (by decide) (by rw [← hg]; rfl), z0 _ _ (by decide) (by rw [← hg]; rfl), z0 _ _ (by decide) (by rw [← hg]; rfl), z0 _ _ (by decide) (by rw [← hg]; rfl), z0n _ (by decide), z0n _ (by decide), ?_, ?_, ?_, ?_, xi⟩, ?_, fun it => ?_, hx _ _ (by rw [← hg]; rfl), ?_, ?_⟩
    · exact hH7.mv (G7.trans hgo (by omega)).1 (fun a i a0 a1 => (zo a i (by omega) (by omega) (by omega)).trans ((G7.trans hgo (by omega)).2.1 a i (by omega)))
    · exact hH9.mv (G9.trans hgo (by omega)).1 (fun i => (zo _ i (by omega) (by omega) (by omega)).trans ((G9.trans hgo (by omega)).2.1 _ i (by omega)))
    · exact ⟨g12'.1 _ _ rd.1, g12'.1 _ _ rd.2.1, (G10.trans hgo (by omega)).1 _ _ a10, (zo _ _ (by omega) (by omega) (by omega)).trans ((g12'.2.1 _ _ (by omega)).trans rd.2.2.1), by omega⟩
    · exact hH13.mv (G13.trans hgo (by omega)).1 (fun i => (zo _ i (by omega) (by omega) (by omega)).trans ((G13.trans hgo (by omega)).2.1 _ i (by omega)))
    · exact hH14.mv (G14.trans hgo (by omega)).1 (fun i => (zo _ i (by omega) (by omega) (by omega)).trans ((G14.trans hgo (by omega)).2.1 _ i (by omega)))
    · exact (zo _ _ (by omega) (by omega) (by omega)).trans ((g12'.2.1 _ _ (by omega)).trans rd.2.2.2.1)
    · exact (zo _ _ (by omega) (by omega) (by omega)).trans ((g12'.2.1 _ _ (by omega)).trans rd.2.2.2.2)
    · exact (zo _ _ (by omega) (by omega) (by omega)).trans ((hgo.2.1 _ _ (by omega)).trans (r0 _))
    · exact (zo _ _ (by omega) (by omega) (by omega)).trans ((hgo.2.1 _ _ (by omega)).trans (r0 _))
    · refine ⟨hx _ _ (by rw [← hg]; rfl), by omega, hx _ _ (by rw [← hg]; rfl), hx _ _ (by rw [← hg]; rfl), fun t t0 t1 => ?_, fun j j0 j1 => ⟨?_, fun w => absurd w (show ¬ (0 : Int) = 1 by decide)⟩⟩
      · have ht : t = 0 := by omega
        subst ht
        exact (h1 0 (by omega) (by omega)).2.1
      · rw [(G6.trans hgo (by omega)).2.2 _ (by omega) (by omega) (by omega) (by omega), v6]
    · refine ⟨hx _ _ (by rw [← hg]; rfl), hx _ _ (by rw [← hg]; rfl), Or.inl ⟨rfl, rfl⟩, ?_, by omega, fun i i0 i1 => by omega⟩
      rw [(G13.trans hgo (by omega)).2.2 _ (by omega) (by omega) (by omega) (by omega), e13 _ (by omega)]
      exact hf13
    · rw [g12'.2.2 _ (by omega) (by omega) (by omega) (by omega), e12 _ (by omega)]
      exact hf7
    · rw [g12'.2.2 _ (by omega) (by omega) (by omega) (by omega), e12 _ (by omega)]
      exact hf8
  have loop2 : ∀ (d k cs sl : Nat) (K2 : az_K) (M2 : az_M), k + d = 2 → cs = 360 + 15 * k → sl = 12855 + 527 * k → St K2 M2 x g (x + 361 + 15 * (k : Int)) → Go K15 K2 M15 M2 x (x + 46) → (∀ j, 0 ≤ j → j < (k : Int) → HpK K2 (x + 361 + 15 * j) ∧ HS M2 (x + 361 + 15 * j) (clrS 8) ∧ M2 (x + 2) j = x + 361 + 15 * j) → (∀ j, 0 ≤ j → j < 21 → HpK K2 (x + 46 + 15 * j) ∧ HS M2 (x + 46 + 15 * j) (clrS 8) ∧ M2 (x + 1) j = x + 46 + 15 * j) → AW az_P0 (az_Z (fun r K' M' => r = none ∧ NW K K' M M' x (x + 391) ∧ TrK K' x ∧ TRh M' x (fun _ => clrS 8) 0 0 bx (fun _ => 0) 0 ∧ (∀ it, PC M' x (x + 33) (x + 39) it 0) ∧ M' x 10 = 0 ∧ M' (x + 24) 7 = 0 ∧ M' (x + 24) 8 = -1) 390 13909) (az_rm 4 390 13909) yX6_init cX6_init 2 none cs sl 171 [(1, x), (0, (k : Int))] [] K2 M2 := by
    intro d
    induction d with
    | zero =>
      intro k cs sl K2 M2 hk hcs hsl hs hgo hh h1
      have hk2 : k = 2 := by omega
      subst hk2
      refine aw_iload_n dX6_init_171 rfl rfl ?_
      refine aw_iconst dX6_init_172 rfl ⟨by decide, by decide⟩ ?_
      refine aw_icmp_ge (tgt := 195) dX6_init_173 rfl (fun h173 => ?_) (fun h173 => absurd h173 (by omega))
      exact fin cs sl K2 M2 _ (by omega) (by omega) (by rw [show x + 391 = x + 361 + 15 * ((2 : Nat) : Int) by omega]; exact hs) hgo h1 hh
    | succ d ih =>
      intro k cs sl K2 M2 hk hcs hsl hs hgo hh h1
      have ux : M2 x 4 = x + 2 := by rw [hs.2.2.2.2, ← hg]; rfl
      have ka : az_at K2 (x + 2) (102, 2) := (G5.trans hgo (by omega)).1 _ _ a5
      have kn : ∀ i, K2.2 (x + 2) i = none := fun i => (hgo.2.1 _ i (by omega)).trans (na2 i)
      refine aw_iload_n dX6_init_171 rfl rfl ?_
      refine aw_iconst dX6_init_172 rfl ⟨by decide, by decide⟩ ?_
      refine aw_icmp_ge (tgt := 195) dX6_init_173 rfl (fun h173 => absurd h173 (by omega)) (fun h173 => ?_)
      refine aw_aload_n dX6_init_176 rfl rfl ⟨by decide, by decide⟩ ?_
      refine aw_grF 4 dX6_init_177 fl_RX6_25 hs.2.1 rfl rfl ux ?_
      refine aw_iload_n dX6_init_180 rfl rfl ?_
      refine aw_nO (c := x + 361 + 15 * (k : Int)) dX6_init_181 nc_RX6_9 (show az_nf 0 = 16 from rfl) hs.1 (by show cs + 1 ≤ 390; omega) (by show sl + 16 ≤ 13909; omega) ?_
      refine aw_dup dX6_init_184 ?_
      refine aw_cI0 dX6_init_185 ml_RX6_32 (by omega) ⟨by decide, by decide, by show cs + 1 + 14 ≤ 390; omega, by show sl + 16 + 511 ≤ 13909; omega⟩ (Nat.le_of_ble_eq_true rfl) (sp_hinit (h := x + 361 + 15 * (k : Int)) (st_sub hs) (at_n hs.1) (by omega) _) (fun K3 M3 w3 => ?_)
      obtain ⟨w3, hH3, hS3⟩ := w3
      have ka3 := w3.2.1 _ _ (at_o ka)
      have kn3 : ∀ i, K3.2 (x + 2) i = none := fun i => (w3.2.2.1 _ i (by omega)).trans (kn i)
      have q3 := st_put (o := x + 2) (i := (k : Int)) hs (by omega) (by omega) w3 (by omega)
      refine aw_aast dX6_init_188 ka3 hH3.2.1 (by omega) (by omega) ⟨by omega, by omega⟩ (kn3 _) ?_
      have es : ∀ j, j ≠ (k : Int) → az_up M3 (x + 2) k (x + 361 + 15 * (k : Int)) (x + 2) j = M3 (x + 2) j := fun j w => az_up_i _ _ _ _ w
      have ek : az_up M3 (x + 2) k (x + 361 + 15 * (k : Int)) (x + 2) k = x + 361 + 15 * (k : Int) := az_up_s _ _ _ _
      generalize az_up M3 (x + 2) k (x + 361 + 15 * (k : Int)) = M4 at q3 es ek ⊢
      obtain ⟨s4, g4, o4, b4⟩ := q3
      have hb4 : ∀ b, b < x + 361 + 15 * (k : Int) → b ≠ x + 2 → M4 b = M2 b := fun b w1 w2 => (o4 b w2).trans (b4 b w1)
      refine aw_iinc dX6_init_189 rfl (az_wr_id (by omega) (by omega)) (by decide) ?_
      refine aw_goto (tgt := 171) dX6_init_192 rfl ?_
      refine ih (k + 1) _ _ K3 M4 (by omega) (by omega) (by omega) (by rw [show x + 361 + 15 * ((k + 1 : Nat) : Int) = x + 361 + 15 * (k : Int) + 15 by omega]; exact s4) (hgo.trans g4 (by omega)) (fun j j0 j1 => ?_) (fun j j0 j1 => by obtain ⟨p1, p2, p3⟩ := h1 j j0 j1; exact ⟨p1.mv g4.1 (fun a i a0 a1 => g4.2.1 a i (by omega)), HS_fr p2 (fun b b0 b1 => hb4 b (by omega) (by omega)), by rw [hb4 _ (by omega) (by omega)]; exact p3⟩)
      by_cases q : j = (k : Int)
      · rw [q]
        exact ⟨hH3, HS_fr hS3 (fun b b0 b1 => o4 b (by omega)), ek⟩
      · obtain ⟨p1, p2, p3⟩ := hh j j0 (by omega)
        exact ⟨p1.mv g4.1 (fun a i a0 a1 => g4.2.1 a i (by omega)), HS_fr p2 (fun b b0 b1 => hb4 b (by omega) (by omega)), by rw [es j q, b4 _ (by omega)]; exact p3⟩
  have loop1 : ∀ (d k cs sl : Nat) (K2 : az_K) (M2 : az_M), k + d = 21 → cs = 45 + 15 * k → sl = 1788 + 527 * k → St K2 M2 x g (x + 46 + 15 * (k : Int)) → Go K15 K2 M15 M2 x (x + 46) → (∀ j, 0 ≤ j → j < (k : Int) → HpK K2 (x + 46 + 15 * j) ∧ HS M2 (x + 46 + 15 * j) (clrS 8) ∧ M2 (x + 1) j = x + 46 + 15 * j) →  AW az_P0 (az_Z (fun r K' M' => r = none ∧ NW K K' M M' x (x + 391) ∧ TrK K' x ∧ TRh M' x (fun _ => clrS 8) 0 0 bx (fun _ => 0) 0 ∧ (∀ it, PC M' x (x + 33) (x + 39) it 0) ∧ M' x 10 = 0 ∧ M' (x + 24) 7 = 0 ∧ M' (x + 24) 8 = -1) 390 13909) (az_rm 4 390 13909) yX6_init cX6_init 2 none cs sl 141 [(1, x), (0, (k : Int))] [] K2 M2 := by
    intro d
    induction d with
    | zero =>
      intro k cs sl K2 M2 hk hcs hsl hs hgo hh
      have hk2 : k = 21 := by omega
      subst hk2
      have ux : M2 x 0 = x + 1 := by rw [hs.2.2.2.2, ← hg]; rfl
      have ka : az_at K2 (x + 1) (102, 21) := (G1.trans hgo (by omega)).1 _ _ a1
      refine aw_iload_n dX6_init_141 rfl rfl ?_
      refine aw_aload_n dX6_init_142 rfl rfl ⟨by decide, by decide⟩ ?_
      refine aw_grF 0 dX6_init_143 fl_RX6_11 hs.2.1 rfl rfl ux ?_
      refine aw_alen102 dX6_init_146 ka ⟨by decide, by decide⟩ ?_
      refine aw_icmp_ge (tgt := 169) dX6_init_147 rfl (fun h147 => ?_) (fun h147 => absurd h147 (by omega))
      refine aw_iconst dX6_init_169 rfl ⟨by decide, by decide⟩ ?_
      refine aw_istore_n dX6_init_170 rfl (by decide) ?_
      exact loop2 2 0 cs sl K2 M2 (by omega) (by omega) (by omega) (by rw [show x + 361 + 15 * ((0 : Nat) : Int) = x + 46 + 15 * ((21 : Nat) : Int) by omega]; exact hs) hgo (fun j j0 j1 => by omega) hh
    | succ d ih =>
      intro k cs sl K2 M2 hk hcs hsl hs hgo hh
      have ux : M2 x 0 = x + 1 := by rw [hs.2.2.2.2, ← hg]; rfl
      have ka : az_at K2 (x + 1) (102, 21) := (G1.trans hgo (by omega)).1 _ _ a1
      have kn : ∀ i, K2.2 (x + 1) i = none := fun i => (hgo.2.1 _ i (by omega)).trans (na1 i)
      refine aw_iload_n dX6_init_141 rfl rfl ?_
      refine aw_aload_n dX6_init_142 rfl rfl ⟨by decide, by decide⟩ ?_
      refine aw_grF 0 dX6_init_143 fl_RX6_11 hs.2.1 rfl rfl ux ?_
      refine aw_alen102 dX6_init_146 ka ⟨by decide, by decide⟩ ?_
      refine aw_icmp_ge (tgt := 169) dX6_init_147 rfl (fun h147 => absurd h147 (by omega)) (fun h147 => ?_)
      refine aw_aload_n dX6_init_150 rfl rfl ⟨by decide, by decide⟩ ?_
      refine aw_grF 0 dX6_init_151 fl_RX6_11 hs.2.1 rfl rfl ux ?_
      refine aw_iload_n dX6_init_154 rfl rfl ?_
      refine aw_nO (c := x + 46 + 15 * (k : Int)) dX6_init_155 nc_RX6_9 (show az_nf 0 = 16 from rfl) hs.1 (by show cs + 1 ≤ 390; omega) (by show sl + 16 ≤ 13909; omega) ?_
      refine aw_dup dX6_init_158 ?_
      refine aw_cI0 dX6_init_159 ml_RX6_32 (by omega) ⟨by decide, by decide, by show cs + 1 + 14 ≤ 390; omega, by show sl + 16 + 511 ≤ 13909; omega⟩ (Nat.le_of_ble_eq_true rfl) (sp_hinit (h := x + 46 + 15 * (k : Int)) (st_sub hs) (at_n hs.1) (by omega) _) (fun K3 M3 w3 => ?_)
      obtain ⟨w3, hH3, hS3⟩ := w3
      have ka3 := w3.2.1 _ _ (at_o ka)
      have kn3 : ∀ i, K3.2 (x + 1) i = none := fun i => (w3.2.2.1 _ i (by omega)).trans (kn i)
      have q3 := st_put (o := x + 1) (i := (k : Int)) hs (by omega) (by omega) w3 (by omega)
      refine aw_aast dX6_init_162 ka3 hH3.2.1 (by omega) (by omega) ⟨by omega, by omega⟩ (kn3 _) ?_
      have es : ∀ j, j ≠ (k : Int) → az_up M3 (x + 1) k (x + 46 + 15 * (k : Int)) (x + 1) j = M3 (x + 1) j := fun j w => az_up_i _ _ _ _ w
      have ek : az_up M3 (x + 1) k (x + 46 + 15 * (k : Int)) (x + 1) k = x + 46 + 15 * (k : Int) := az_up_s _ _ _ _
      generalize az_up M3 (x + 1) k (x + 46 + 15 * (k : Int)) = M4 at q3 es ek ⊢
      obtain ⟨s4, g4, o4, b4⟩ := q3
      have hb4 : ∀ b, b < x + 46 + 15 * (k : Int) → b ≠ x + 1 → M4 b = M2 b := fun b w1 w2 => (o4 b w2).trans (b4 b w1)
      refine aw_iinc dX6_init_163 rfl (az_wr_id (by omega) (by omega)) (by decide) ?_
      refine aw_goto (tgt := 141) dX6_init_166 rfl ?_
      refine ih (k + 1) _ _ K3 M4 (by omega) (by omega) (by omega) (by rw [show x + 46 + 15 * ((k + 1 : Nat) : Int) = x + 46 + 15 * (k : Int) + 15 by omega]; exact s4) (hgo.trans g4 (by omega)) (fun j j0 j1 => ?_)
      by_cases q : j = (k : Int)
      · rw [q]
        exact ⟨hH3, HS_fr hS3 (fun b b0 b1 => o4 b (by omega)), ek⟩
      · obtain ⟨p1, p2, p3⟩ := hh j j0 (by omega)
        exact ⟨p1.mv g4.1 (fun a i a0 a1 => g4.2.1 a i (by omega)), HS_fr p2 (fun b b0 b1 => hb4 b (by omega) (by omega)), by rw [es j q, b4 _ (by omega)]; exact p3⟩
  exact loop1 21 0 _ _ K15 M15 (by omega) rfl rfl (by rw [show x + 46 + 15 * ((0 : Nat) : Int) = x + 46 by omega]; exact s15) (Go.refl _ _ _ _) (fun j j0 j1 => by omega)
