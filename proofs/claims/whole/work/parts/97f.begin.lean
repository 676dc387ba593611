/-! the law, from its entry -/
set_option maxRecDepth 20000
theorem TrK.mv {K K' : az_K} {x : Int} (H : TrK K x) (mo : ∀ a q, az_at K a q → az_at K' a q) (e : ∀ a i, a < x + 391 → K'.2 a i = K.2 a i) : TrK K' x := by
  obtain ⟨kx, k1, k2, k3, hT4, k19, hRe, k23, hRt, hS1, hS2, k45, hKp, hBx, y0, y4, y5, y6, y7, y8, y9, y11, y14, n12, n13, r0, r4, q0, q1, xin⟩ := H
  refine ⟨mo _ _ kx, mo _ _ k1, mo _ _ k2, mo _ _ k3, hT4.mv mo (fun a i _ _ => e a i (by omega)), mo _ _ k19, hRe.mv mo (fun i => e _ i (by omega)), mo _ _ k23, ?_, hS1.mv mo (fun i => e _ i (by omega)), hS2.mv mo (fun i => e _ i (by omega)), mo _ _ k45, fun i i0 i1 => ⟨(hKp i i0 i1).1.mv mo (fun a j _ _ => e a j (by omega)), (e _ _ (by omega)).trans (hKp i i0 i1).2⟩, fun i i0 i1 => ⟨(hBx i i0 i1).1.mv mo (fun a j _ _ => e a j (by omega)), (e _ _ (by omega)).trans (hBx i i0 i1).2⟩, (e _ _ (by omega)).trans y0, (e _ _ (by omega)).trans y4, (e _ _ (by omega)).trans y5, (e _ _ (by omega)).trans y6, (e _ _ (by omega)).trans y7, (e _ _ (by omega)).trans y8, (e _ _ (by omega)).trans y9, (e _ _ (by omega)).trans y11, (e _ _ (by omega)).trans y14, (e _ _ (by omega)).trans n12, (e _ _ (by omega)).trans n13, (e _ _ (by omega)).trans r0, (e _ _ (by omega)).trans r4, (e _ _ (by omega)).trans q0, (e _ _ (by omega)).trans q1, xin⟩
  obtain ⟨t1, t2, t3, t4, t5⟩ := hRt
  exact ⟨mo _ _ t1, mo _ _ t2, mo _ _ t3, (e _ _ (by omega)).trans t4, t5⟩
set_option maxHeartbeats 2000000 in
theorem law_begin {Lx : Nat} {xs : Nat → Int32} (hLx : Lx ≤ 3072) : AW (az_PX Lx xs) (fun below args s _ => lw_Z below args s) room_1 yL_law cL_law 4 ret 0 0 0 [(5, 0), (9, 0), (9, 0), (9, 0)] [] ([], fun _ _ => none) (fun _ _ => 0) := by
  obtain ⟨x, hx⟩ : ∃ x : Int, x = 0 := ⟨0, rfl⟩
  have hL0 : (((([], fun _ _ => none) : az_K).1.length : Nat) : Int) = x := by rw [hx]; rfl
  refine aw_nO (c := x) dL_law_0 nc_RL_7 (show az_nf 6 = 15 from rfl) hL0 (Nat.le_of_ble_eq_true rfl) (Nat.le_of_ble_eq_true rfl) ?_
  refine aw_dup dL_law_3 ?_
  refine aw_cI0 dL_law_4 ml_RL_9 (by omega) ⟨Nat.le_of_ble_eq_true rfl, Nat.le_of_ble_eq_true rfl, Nat.le_of_ble_eq_true rfl, Nat.le_of_ble_eq_true rfl⟩ (Nat.le_of_ble_eq_true rfl) (sp_cinit (x := x) (bx := fun _ => clrS 8) (Fr.sub (o := x) hL0 (fun a i w => rfl)) (at_n hL0) (by omega) (by omega) _ (nw_s _ _ _)) (fun K1 M1 h1 => ?_)
  obtain ⟨n1, hT1, hR1, hP1, t1, f7, f8⟩ := h1
  refine aw_astore_n dL_law_7 rfl (by decide) (by decide) ?_
  refine aw_nO (c := x + 391) dL_law_8 nc_RL_10 (show az_nf 7 = 46 from rfl) n1.1 (Nat.le_of_ble_eq_true rfl) (Nat.le_of_ble_eq_true rfl) ?_
  refine aw_dup dL_law_11 ?_
  refine aw_cI0 dL_law_12 ml_RL_12 (by omega) ⟨Nat.le_of_ble_eq_true rfl, Nat.le_of_ble_eq_true rfl, Nat.le_of_ble_eq_true rfl, Nat.le_of_ble_eq_true rfl⟩ (Nat.le_of_ble_eq_true rfl) (sp_minit (m := x + 391) (Fr.sub (o := x) n1.1 (fun a i w => n1.2.2.2.1 a i w)) (at_n n1.1) (by omega) _ (nw_s _ _ _)) (fun K2 M2 h2 => ?_)
  obtain ⟨n2, hD, hM, hz, m11, m23, m30, m31, m44, m45⟩ := h2
  obtain ⟨m, hm⟩ : ∃ m, m = x + 391 := ⟨_, rfl⟩
  rw [← hm] at hD hM hz m11 m23 m30 m31 m44 m45 ⊢
  have eb : ∀ b, b < x + 391 → M2 b = M1 b := fun b w => by rw [n2.2.2.2.2 b w, nw_n _ _ (by omega)]
  have hK : TrK K2 x := hT1.mv (fun a q w => n2.2.1 a q (at_o w)) (fun a i w => n2.2.2.1 a i w)
  have hI : IV x m M2 0 := by
    have hp := hP1 (fun _ _ => 0)
    have e729 : (clrS 8).1 729 = 0 := clr_0 8 (i := 729) (by omega)
    refine ⟨fun _ => clrS 8, 0, 0, fun _ => clrS 8, fun _ => 0, 0, fun _ _ => 0, 0, x + 33, x + 39, 0, ⟨by omega, by omega, by omega, fun i _ _ => ⟨clrS_wf (by omega) (by omega), by show 0 ≤ (clrS 8).1 729; omega, by show (clrS 8).1 729 ≤ 0; omega⟩, fun j _ _ => ⟨Or.inl rfl, fun w => absurd w (show ¬ (0 : Int) = 1 by decide)⟩⟩, hR1.fr eb, ⟨hM, m44, m45, fun j j0 j1 => by omega, fun j j0 j1 => by omega, fun j j0 j1 => ⟨by rw [hz _ (by omega) (by omega)], fun w => absurd w (show ¬ (0 : Int) = 1 by decide)⟩⟩, ⟨by rw [eb x (by omega)]; exact hp.1, by rw [eb x (by omega)]; exact hp.2.1, hp.2.2.1, hp.2.2.2.fr (fun b b0 b1 => eb b (by omega))⟩, ⟨m23, by omega, fun i i0 i1 => by omega⟩, fun i i0 i1 => by omega, by rw [eb x (by omega)]; exact t1, m11, by omega, fun i i0 i1 => by omega, by rw [m30, eb _ (by omega), f7], by rw [m31, eb _ (by omega), f8]⟩
  refine aw_astore_n dL_law_15 rfl (by decide) (by decide) ?_
  refine aw_iconst dL_law_16 rfl ⟨by decide, by decide⟩ ?_
  refine aw_istore_n dL_law_17 rfl (by decide) ?_
  exact law_loop hLx hK hD hm 512 0 0 M2 (by omega) (by omega) (by omega) hI
