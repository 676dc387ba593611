/-! TreadRingModel: game -/
set_option maxRecDepth 20000
def dr (x : Int) : Int := (137 * x + 71) % 10007
def dr4 (x : Int) : Int := dr (dr (dr (dr x)))
theorem dr_in {x : Int} (h : 0 ≤ x) : 0 ≤ dr x ∧ dr x < 10007 := by unfold dr; omega
def gmA (S : hSt) (k r s f : Int) : hSt :=
  if k < 3 then bldS S r f
  else if k = 3 then (if 0 ≤ S.1 (715 + s) ∧ 0 ≤ f ∧ f < S.1 (128 + S.1 (715 + s)) then fetS S r s f else S)
  else if k < 6 then (if 0 ≤ S.1 (715 + r) ∧ 0 ≤ f ∧ f < S.1 (128 + S.1 (715 + r)) then putS S r f s else S)
  else nameS S (715 + r) (if k = 6 then S.1 (715 + s) else -1)
def gm1 (x : Int) (S : hSt) : hSt := gmA S (dr x % 8) (dr (dr x) % 6) (dr (dr (dr x)) % 6) (dr (dr (dr (dr x))) % 6)
def gmS : Nat → Int → hSt → hSt
  | 0, _, S => S
  | n + 1, x, S => gmS n (dr4 x) (gm1 x S)
theorem gmA_wf {S : hSt} (h : WL S) {k r s f : Int} (r0 : 0 ≤ r) (r1 : r < 6) (s0 : 0 ≤ s) (s1 : s < 6) (f0 : 0 ≤ f) (f1 : f < 6) : WL (gmA S k r s f) ∧ S.1 729 ≤ (gmA S k r s f).1 729 ∧ (gmA S k r s f).1 729 ≤ S.1 729 + 5 := by
  unfold gmA
  split
  · exact bldS_wf h f0 (by omega) r0 r1
  · split
    · split
      · rename_i q
        have := fetS_wl h r0 r1 s0 s1 (f := f) q
        exact ⟨this.1, by omega, by omega⟩
      · exact ⟨h, by omega, by omega⟩
    · split
      · split
        · rename_i q
          have := putS_wl h r0 r1 (o := s) (Or.inr ⟨s0, s1⟩) (f := f) q
          exact ⟨this.1, by omega, by omega⟩
        · exact ⟨h, by omega, by omega⟩
      · have e : (nameS S (715 + r) (if k = 6 then S.1 (715 + s) else -1)).1 729 = S.1 729 := nameS_n S _ (by omega)
        refine ⟨nameS_wl h (by omega) ?_, by omega, by omega⟩
        split
        · exact nam_nok h (by omega) (by omega)
        · exact Or.inl rfl
theorem gm1_wf {S : hSt} (h : WL S) {x : Int} (x0 : 0 ≤ x) : WL (gm1 x S) ∧ S.1 729 ≤ (gm1 x S).1 729 ∧ (gm1 x S).1 729 ≤ S.1 729 + 5 := by
  have := dr_in x0
  have := dr_in this.1
  have := dr_in this.1
  have := dr_in this.1
  exact gmA_wf h (by omega) (by omega) (by omega) (by omega) (by omega) (by omega)
/-- the cycle goes to its end, another barrier holds -/
def apS (S : hSt) (b : Int) : hSt := nameS (advS TE S) 735 b
theorem apS_wf {S : hSt} (h : WL S) {b : Int} (b0 : 0 ≤ b) (b3 : b ≤ 3) : WL (apS S b) ∧ S.1 729 ≤ (apS S b).1 729 ∧ (apS S b).1 729 ≤ S.1 729 + 1 := by
  have e : (apS S b).1 729 = (advS TE S).1 729 := nameS_n _ _ (by omega)
  have := (adv_cy h TE).2
  exact ⟨WL_setg (advS_wf h TE) (w := 0) (by omega) (by omega) b0 (by rw [if_pos (by omega)]; exact b3), by omega, by omega⟩
section GA
variable {K : az_K} {m : Int} {S : hSt}
theorem sp_mbeginApart (hK : MdK K m) (M : az_M) (hc : HM M m S) (hw : WL S) (hcy : S.1 729 ≤ 19999000) (hcz : 0 ≤ S.1 729) (b : Int) : AM yX7_beginApart cX7_beginApart 2 none 7 0 0 [(1, m), (0, b)] K M (qv K (fun M' => HM M' m (apS S b) ∧ (∀ i, 0 ≤ i → i < 790 → M' (m + 7) i = M' (m + 1) i) ∧ frT M M' m)) := by
  have hK0 := hK
  obtain ⟨hKo, k3, k4, k5, k6, k7, k8, k9, k10, k11, k12, k13, k14, k15, k16, k17, k18, k19, k20, k21, k22, k23, k24, k25, y3, y4, y5, y6, y7, y8, y9, y10, y11, y12, y13, y14, y15, y16, y17, y18, y19, y20, y21, y22, y23, y24, y25⟩ := hK
  have hKo0 := hKo
  obtain ⟨hKa, k2, y2⟩ := hKo
  have hKa0 := hKa
  obtain ⟨km, k1, y1⟩ := hKa
  refine am_of (by decide) (Nat.le_of_ble_eq_true rfl) (L := [(1, m), (0, b)]) rfl ?_
  refine aw_aload_n dX7_beginApart_0 rfl rfl ⟨by decide, by decide⟩ ?_
  refine aw_ldc dX7_beginApart_1 kc_RX7_188 ⟨by decide, by decide⟩ ?_
  refine aw_cV1i dX7_beginApart_3 ml_RX7_189 (by assumption) (by decide) rfl rfl ⟨by decide, by decide, by decide, by decide⟩ (Nat.le_of_ble_eq_true rfl) (sp_goSteps hKo0 M hc hw (by omega) hcz 1000000 (by omega) (by omega)) (fun z1 M1 hz1 => ?_)
  obtain ⟨-, hc1, f1⟩ := hz1
  replace hc1 : HM M1 m (advS TE S) := hc1
  have hc2 : HM (az_up M1 (m + 1) 735 b) m (apS S b) := HM_up hc1 (advS_wf hw TE).1 (by omega) (by omega) (by omega) (by omega)
  have g1 : frT M1 (az_up M1 (m + 1) 735 b) m := frT.of1 (fun x hx => up_oth _ _ _ hx)
  generalize hM2 : az_up M1 (m + 1) 735 b = M2 at hc2 g1
  refine aw_pop dX7_beginApart_6 ?_
  refine aw_aload_n dX7_beginApart_7 rfl rfl ⟨by decide, by decide⟩ ?_
  refine aw_gzF 0 dX7_beginApart_8 fl_RX7_7 (by assumption) rfl rfl (by assumption) ?_
  refine aw_sipush dX7_beginApart_11 (by decide) ⟨by decide, by decide⟩ ?_
  refine aw_iload_n dX7_beginApart_14 rfl rfl ?_
  refine aw_iast dX7_beginApart_15 (by assumption) (by omega) (by omega) ?_
  rw [hM2]
  refine aw_aload_n dX7_beginApart_16 rfl rfl ⟨by decide, by decide⟩ ?_
  refine aw_cV0v dX7_beginApart_17 ml_RX7_292 (by assumption) (by decide) rfl rfl ⟨by decide, by decide, by decide, by decide⟩ (Nat.le_of_ble_eq_true rfl) (sp_putBase hK0 M2) (fun M3 hM3 => ?_)
  have e1 : M3 (m + 1) = M2 (m + 1) := hM3.2 _ (by omega)
  exact aw_vret dX7_beginApart_20 (by decide) (by decide) ⟨rfl, rfl, HM_fr hc2 e1, fun i i0 i1 => by rw [e1]; exact hM3.1 i i0 i1, (frT.ofM f1).trans (g1.trans ⟨⟨fun b h1 h2 => hM3.2 b (by omega), fun j _ _ _ _ _ => by rw [hM3.2 m (by omega)]⟩, hM3.2 _ (by omega)⟩)⟩
theorem sp_draw (hK : MdK K m) (M : az_M) (x n : Int) (hx : M m 8 = x) (x0 : 0 ≤ x) (x1 : x < 10007) (n0 : 0 < n) (n1 : n ≤ 100) : AM yX7_draw cX7_draw 2 (some .int) 0 0 0 [(1, m), (0, n)] K M (qi K (fun z M' => z = dr x % n ∧ M' = az_up M m 8 (dr x))) := by
  have hK0 := hK
  obtain ⟨hKo, k3, k4, k5, k6, k7, k8, k9, k10, k11, k12, k13, k14, k15, k16, k17, k18, k19, k20, k21, k22, k23, k24, k25, y3, y4, y5, y6, y7, y8, y9, y10, y11, y12, y13, y14, y15, y16, y17, y18, y19, y20, y21, y22, y23, y24, y25⟩ := hK
  have hKo0 := hKo
  obtain ⟨hKa, k2, y2⟩ := hKo
  have hKa0 := hKa
  obtain ⟨km, k1, y1⟩ := hKa
  refine am_of (by decide) (Nat.le_of_ble_eq_true rfl) (L := [(1, m), (0, n)]) rfl ?_
  have hd := dr_in x0
  have v20 : az_up M m 8 ((137 * x + 71) % 10007) m 8 = dr x := az_up_s _ _ _ _
  refine aw_aload_n dX7_draw_0 rfl rfl ⟨by decide, by decide⟩ ?_
  refine aw_sipush dX7_draw_1 (by decide) ⟨by decide, by decide⟩ ?_
  refine aw_aload_n dX7_draw_4 rfl rfl ⟨by decide, by decide⟩ ?_
  refine aw_gi 8 dX7_draw_5 fl_RX7_302 (by assumption) rfl rfl hx ?_
  refine aw_imul dX7_draw_8 (az_wr_id (by omega) (by omega)) ?_
  refine aw_bipush dX7_draw_9 (by decide) ⟨by decide, by decide⟩ ?_
  refine aw_iadd dX7_draw_11 (az_wr_id (by omega) (by omega)) ?_
  refine aw_sipush dX7_draw_12 (by decide) ⟨by decide, by decide⟩ ?_
  refine aw_irem dX7_draw_15 (by omega) (by omega) ?_
  refine aw_pi 8 dX7_draw_16 fl_RX7_302 (by assumption) rfl rfl ?_
  refine aw_aload_n dX7_draw_19 rfl rfl ⟨by decide, by decide⟩ ?_
  refine aw_gi 8 dX7_draw_20 fl_RX7_302 (by assumption) rfl rfl v20 ?_
  refine aw_iload_n dX7_draw_23 rfl rfl ?_
  refine aw_irem dX7_draw_24 (by omega) (by omega) ?_
  exact aw_iret dX7_draw_25 (by decide) (by decide) ⟨_, rfl, rfl, rfl, rfl⟩
set_option maxHeartbeats 1000000 in
theorem sp_goOnce (hK : MdK K m) (M : az_M) (hc : HM M m S) (hw : WL S) (hcy : S.1 729 ≤ 19998000) (hcz : 0 ≤ S.1 729) (x : Int) (hx : M m 8 = x) (x0 : 0 ≤ x) (x1 : x < 10007) : AM yX7_goOnce cX7_goOnce 5 none 10 0 0 [(1, m)] K M (qv K (fun M' => HM M' m (gm1 x S) ∧ M' m 8 = dr4 x ∧ M' (m + 7) = M (m + 7) ∧ frT M M' m)) := by
  have hK0 := hK
  obtain ⟨hKo, k3, k4, k5, k6, k7, k8, k9, k10, k11, k12, k13, k14, k15, k16, k17, k18, k19, k20, k21, k22, k23, k24, k25, y3, y4, y5, y6, y7, y8, y9, y10, y11, y12, y13, y14, y15, y16, y17, y18, y19, y20, y21, y22, y23, y24, y25⟩ := hK
  have hKo0 := hKo
  obtain ⟨hKa, k2, y2⟩ := hKo
  have hKa0 := hKa
  obtain ⟨km, k1, y1⟩ := hKa
  refine am_of (by decide) (Nat.le_of_ble_eq_true rfl) (L := [(1, m), (9, 0), (9, 0), (9, 0), (9, 0)]) rfl ?_
  have d1 := dr_in x0
  have d2 := dr_in d1.1
  have d3 := dr_in d2.1
  have d4 := dr_in d3.1
  have hgm : gm1 x S = gmA S (dr x % 8) (dr (dr x) % 6) (dr (dr (dr x)) % 6) (dr (dr (dr (dr x))) % 6) := rfl
  have hd4 : dr4 x = dr (dr (dr (dr x))) := rfl
  rw [hgm, hd4]
  refine aw_aload_n dX7_goOnce_0 rfl rfl ⟨by decide, by decide⟩ ?_
  refine aw_bipush dX7_goOnce_1 (by decide) ⟨by decide, by decide⟩ ?_
  refine aw_cV1i dX7_goOnce_3 ml_RX7_305 (by assumption) (by decide) rfl rfl ⟨by decide, by decide, by decide, by decide⟩ (Nat.le_of_ble_eq_true rfl) (sp_draw hK0 M x 8 hx x0 x1 (by omega) (by omega)) (fun z1 M1 hz1 => ?_)
  refine aw_istore_n dX7_goOnce_6 rfl (by decide) ?_
  obtain ⟨e1, hM1⟩ := hz1
  have x1' : M1 m 8 = dr x := by rw [hM1, az_up_s]
  refine aw_aload_n dX7_goOnce_7 rfl rfl ⟨by decide, by decide⟩ ?_
  refine aw_bipush dX7_goOnce_8 (by decide) ⟨by decide, by decide⟩ ?_
  refine aw_cV1i dX7_goOnce_10 ml_RX7_305 (by assumption) (by decide) rfl rfl ⟨by decide, by decide, by decide, by decide⟩ (Nat.le_of_ble_eq_true rfl) (sp_draw hK0 M1 (dr x) 6 x1' d1.1 d1.2 (by omega) (by omega)) (fun z2 M2 hz2 => ?_)
  refine aw_istore_n dX7_goOnce_13 rfl (by decide) ?_
  obtain ⟨e2, hM2⟩ := hz2
  have x2' : M2 m 8 = dr (dr x) := by rw [hM2, az_up_s]
  refine aw_aload_n dX7_goOnce_14 rfl rfl ⟨by decide, by decide⟩ ?_
  refine aw_bipush dX7_goOnce_15 (by decide) ⟨by decide, by decide⟩ ?_
  refine aw_cV1i dX7_goOnce_17 ml_RX7_305 (by assumption) (by decide) rfl rfl ⟨by decide, by decide, by decide, by decide⟩ (Nat.le_of_ble_eq_true rfl) (sp_draw hK0 M2 (dr (dr x)) 6 x2' d2.1 d2.2 (by omega) (by omega)) (fun z3 M3 hz3 => ?_)
  refine aw_istore_n dX7_goOnce_20 rfl (by decide) ?_
  obtain ⟨e3, hM3⟩ := hz3
  have x3' : M3 m 8 = dr (dr (dr x)) := by rw [hM3, az_up_s]
  refine aw_aload_n dX7_goOnce_21 rfl rfl ⟨by decide, by decide⟩ ?_
  refine aw_bipush dX7_goOnce_22 (by decide) ⟨by decide, by decide⟩ ?_
  refine aw_cV1i dX7_goOnce_24 ml_RX7_305 (by assumption) (by decide) rfl rfl ⟨by decide, by decide, by decide, by decide⟩ (Nat.le_of_ble_eq_true rfl) (sp_draw hK0 M3 (dr (dr (dr x))) 6 x3' d3.1 d3.2 (by omega) (by omega)) (fun z4 M4 hz4 => ?_)
  refine aw_istore dX7_goOnce_27 (by decide) ?_
  obtain ⟨e4, hM4⟩ := hz4
  have x4' : M4 m 8 = dr (dr (dr (dr x))) := by rw [hM4, az_up_s]
  have fo : ∀ b, b ≠ m → M4 b = M b := fun b hb => by rw [hM4, up_oth _ _ _ hb, hM3, up_oth _ _ _ hb, hM2, up_oth _ _ _ hb, hM1, up_oth _ _ _ hb]
  have fj : ∀ j, j ≠ 8 → M4 m j = M m j := fun j hj => by rw [hM4, az_up_i _ _ _ _ hj, hM3, az_up_i _ _ _ _ hj, hM2, az_up_i _ _ _ _ hj, hM1, az_up_i _ _ _ _ hj]
  have f4 : frT M M4 m := ⟨⟨fun b h1 h2 => fo b (by omega), fun j _ h8 _ _ _ => fj j h8⟩, fo _ (by omega)⟩
  have hc4 : HM M4 m S := HM_fr hc (fo _ (by omega))
  have e7 : M4 (m + 7) = M (m + 7) := fo _ (by omega)
  rw [← e1, ← e2, ← e3, ← e4]
  have k0 : 0 ≤ z1 ∧ z1 < 8 := by omega
  have r0 : 0 ≤ z2 ∧ z2 < 6 := by omega
  have s0 : 0 ≤ z3 ∧ z3 < 6 := by omega
  have f0 : 0 ≤ z4 ∧ z4 < 6 := by omega
  generalize hX : dr (dr (dr (dr x))) = X at x4' ⊢
  clear e1 e2 e3 e4 hM1 hM2 hM3 hM4 x1' x2' x3' hgm hd4
  generalize hG : gmA S z1 z2 z3 z4 = G
  unfold gmA at hG
  have fin : ∀ M5 : az_M, HM M5 m G → M5 m 8 = X → M5 (m + 7) = M (m + 7) → frT M M5 m → AW az_P0 (az_Z (qv K (fun M' => HM M' m G ∧ M' m 8 = X ∧ M' (m + 7) = M (m + 7) ∧ frT M M' m)) 0 0) (az_rm 10 0 0) yX7_goOnce cX7_goOnce 5 none 0 0 145 [(1, m), (0, z1), (0, z2), (0, z3), (0, z4)] [] K M5 := fun M5 a b c d => aw_vret dX7_goOnce_145 (by decide) (by decide) ⟨rfl, rfl, a, b, c, d⟩
  have came : ∀ (M5 : az_M) (v : Int), HM M5 m G → frM M4 M5 m → HM (az_up M5 m 9 v) m G ∧ az_up M5 m 9 v m 8 = X ∧ az_up M5 m 9 v (m + 7) = M (m + 7) ∧ frT M (az_up M5 m 9 v) m := by
    intro M5 v h5 g5
    refine ⟨HM_fr h5 (up_oth _ _ _ (by omega)), by rw [az_up_i _ _ _ _ (by omega), g5 m (by omega) (by omega)]; exact x4', by rw [up_oth _ _ _ (by omega), g5 _ (by omega) (by omega)]; exact e7, f4.trans ((frT.ofM g5).trans ⟨⟨fun b h1 h2 => up_oth _ _ _ (by omega), fun j _ _ h9 _ _ => az_up_i _ _ _ _ h9⟩, up_oth _ _ _ (by omega)⟩)⟩
  have no : S = G → AW az_P0 (az_Z (qv K (fun M' => HM M' m G ∧ M' m 8 = X ∧ M' (m + 7) = M (m + 7) ∧ frT M M' m)) 0 0) (az_rm 10 0 0) yX7_goOnce cX7_goOnce 5 none 0 0 145 [(1, m), (0, z1), (0, z2), (0, z3), (0, z4)] [] K M4 := fun h => fin M4 (h ▸ hc4) x4' e7 f4
  refine aw_iload_n dX7_goOnce_29 rfl rfl ?_
  refine aw_iconst dX7_goOnce_30 rfl ⟨by decide, by decide⟩ ?_
  refine aw_icmp_ge (tgt := 48) dX7_goOnce_31 rfl (fun h31 => ?_) (fun h31 => ?_)
  · rw [if_neg (by omega)] at hG
    have p79 : ¬ z1 = 3 → AW az_P0 (az_Z (qv K (fun M' => HM M' m G ∧ M' m 8 = X ∧ M' (m + 7) = M (m + 7) ∧ frT M M' m)) 0 0) (az_rm 10 0 0) yX7_goOnce cX7_goOnce 5 none 0 0 79 [(1, m), (0, z1), (0, z2), (0, z3), (0, z4)] [] K M4 := by
      intro h3
      rw [if_neg h3] at hG
      have p110 : ¬ z1 < 6 → AW az_P0 (az_Z (qv K (fun M' => HM M' m G ∧ M' m 8 = X ∧ M' (m + 7) = M (m + 7) ∧ frT M M' m)) 0 0) (az_rm 10 0 0) yX7_goOnce cX7_goOnce 5 none 0 0 110 [(1, m), (0, z1), (0, z2), (0, z3), (0, z4)] [] K M4 := by
        intro h6
        rw [if_neg h6] at hG
        have st : ∀ v : Int, v = (if z1 = 6 then S.1 (715 + z3) else -1) → AW az_P0 (az_Z (qv K (fun M' => HM M' m G ∧ M' m 8 = X ∧ M' (m + 7) = M (m + 7) ∧ frT M M' m)) 0 0) (az_rm 10 0 0) yX7_goOnce cX7_goOnce 5 none 0 0 144 [(1, m), (0, z1), (0, z2), (0, z3), (0, z4)] [(0, v), (0, 715 + z2), (1, m + 1)] K M4 := by
          intro v hv
          rw [← hv] at hG
          refine aw_iast dX7_goOnce_144 (by assumption) (by omega) (by omega) ?_
          refine fin _ ?_ (by rw [up_oth _ _ _ (by omega)]; exact x4') (by rw [up_oth _ _ _ (by omega)]; exact e7) (f4.trans (frT.of1 (fun x hx => up_oth _ _ _ hx)))
          rw [← hG]
          exact HM_name hc4 hw.1 (by omega)
        have v139 : M4 (m + 1) (715 + z3) = S.1 (715 + z3) := hc4.1 _ (by omega) (by omega) (by omega) (by omega)
        refine aw_iload_n dX7_goOnce_110 rfl rfl ?_
        refine aw_iconst dX7_goOnce_111 rfl ⟨by decide, by decide⟩ ?_
        refine aw_icmp_le (tgt := 145) dX7_goOnce_112 rfl (fun h112 => absurd h112 (by omega)) (fun h112 => ?_)
        refine aw_aload_n dX7_goOnce_115 rfl rfl ⟨by decide, by decide⟩ ?_
        refine aw_gzF 0 dX7_goOnce_116 fl_RX7_7 (by assumption) rfl rfl (by assumption) ?_
        refine aw_sipush dX7_goOnce_119 (by decide) ⟨by decide, by decide⟩ ?_
        refine aw_iload_n dX7_goOnce_122 rfl rfl ?_
        refine aw_iadd dX7_goOnce_123 (az_wr_id (by omega) (by omega)) ?_
        refine aw_iload_n dX7_goOnce_124 rfl rfl ?_
        refine aw_bipush dX7_goOnce_125 (by decide) ⟨by decide, by decide⟩ ?_
        refine aw_icmp_ne (tgt := 143) dX7_goOnce_127 rfl (fun h127 => ?_) (fun h127 => ?_)
        · refine aw_iconst dX7_goOnce_143 rfl ⟨by decide, by decide⟩ ?_
          exact st _ (by rw [if_neg h127])
        · refine aw_aload_n dX7_goOnce_130 rfl rfl ⟨by decide, by decide⟩ ?_
          refine aw_gzF 0 dX7_goOnce_131 fl_RX7_7 (by assumption) rfl rfl (by assumption) ?_
          refine aw_sipush dX7_goOnce_134 (by decide) ⟨by decide, by decide⟩ ?_
          refine aw_iload_n dX7_goOnce_137 rfl rfl ?_
          refine aw_iadd dX7_goOnce_138 (az_wr_id (by omega) (by omega)) ?_
          refine aw_iv dX7_goOnce_139 (by assumption) (by omega) (by omega) v139 ?_
          refine aw_goto (tgt := 144) dX7_goOnce_140 rfl ?_
          exact st _ (by rw [if_pos (by omega)])
      refine aw_iload_n dX7_goOnce_79 rfl rfl ?_
      refine aw_iconst dX7_goOnce_80 rfl ⟨by decide, by decide⟩ ?_
      refine aw_iconst dX7_goOnce_81 rfl ⟨by decide, by decide⟩ ?_
      refine aw_cS3p dX7_goOnce_82 ml_RX7_94 ⟨by decide, by decide, by decide, by decide⟩ (Nat.le_of_ble_eq_true rfl) (sp_isIn K M4 z1 4 5) ?_
      refine aw_if_eq (tgt := 110) dX7_goOnce_85 rfl (fun h85 => ?_) (fun h85 => ?_)
      · exact p110 (fun q => if0 h85 (by omega))
      · have h45 := if1 h85
        rw [if_pos (by omega)] at hG
        refine aw_aload_n dX7_goOnce_88 rfl rfl ⟨by decide, by decide⟩ ?_
        refine aw_iload_n dX7_goOnce_89 rfl rfl ?_
        refine aw_iload dX7_goOnce_90 rfl ?_
        refine aw_iload_n dX7_goOnce_92 rfl rfl ?_
        refine aw_cV3i dX7_goOnce_93 ml_RX7_241 (by assumption) (by decide) rfl rfl ⟨by decide, by decide, by decide, by decide⟩ (Nat.le_of_ble_eq_true rfl) (sp_canStore hKa0 M4 hc4 hw z2 z4 z3) (fun zc Mc hzc => ?_)
        obtain ⟨tc, eM⟩ := hzc
        subst eM
        have t01 := tv01 tc
        refine aw_if_eq (tgt := 110) dX7_goOnce_96 rfl (fun h96 => ?_) (fun h96 => ?_)
        · have hn := tv0 tc h96
          unfold hasF at hn
          rw [if_neg (fun q => hn ⟨r0, Or.inr s0, q⟩)] at hG
          refine aw_iload_n dX7_goOnce_110 rfl rfl ?_
          refine aw_iconst dX7_goOnce_111 rfl ⟨by decide, by decide⟩ ?_
          refine aw_icmp_le (tgt := 145) dX7_goOnce_112 rfl (fun h112 => ?_) (fun h112 => absurd h112 (by omega))
          -- RETURN dX7_goOnce_145
          exact no hG
        · have hh := tv1 tc h96
          have hhf := hh.2.2
          unfold hasF at hhf
          rw [if_pos hhf] at hG
          refine aw_aload_n dX7_goOnce_99 rfl rfl ⟨by decide, by decide⟩ ?_
          refine aw_iload_n dX7_goOnce_100 rfl rfl ?_
          refine aw_iload dX7_goOnce_101 rfl ?_
          refine aw_iload_n dX7_goOnce_103 rfl rfl ?_
          refine aw_cV3v dX7_goOnce_104 ml_RX7_244 (by assumption) (by decide) rfl rfl ⟨by decide, by decide, by decide, by decide⟩ (Nat.le_of_ble_eq_true rfl) (sp_goStore hKo0 Mc hc4 hw (by omega) z2 z4 z3 r0.1 r0.2 (Or.inr s0) hh.2.2) (fun M5 hM5 => ?_)
          refine aw_goto (tgt := 145) dX7_goOnce_107 rfl ?_
          refine fin M5 (by rw [← hG]; exact hM5.1) (by rw [hM5.2 m (by omega) (by omega)]; exact x4') (by rw [hM5.2 _ (by omega) (by omega)]; exact e7) (f4.trans (frT.ofM hM5.2))
    refine aw_iload_n dX7_goOnce_48 rfl rfl ?_
    refine aw_iconst dX7_goOnce_49 rfl ⟨by decide, by decide⟩ ?_
    refine aw_icmp_ne (tgt := 79) dX7_goOnce_50 rfl (fun h50 => ?_) (fun h50 => ?_)
    · exact p79 h50
    · refine aw_aload_n dX7_goOnce_53 rfl rfl ⟨by decide, by decide⟩ ?_
      refine aw_iload_n dX7_goOnce_54 rfl rfl ?_
      refine aw_iload_n dX7_goOnce_55 rfl rfl ?_
      refine aw_iload dX7_goOnce_56 rfl ?_
      refine aw_cV3i dX7_goOnce_58 ml_RX7_228 (by assumption) (by decide) rfl rfl ⟨by decide, by decide, by decide, by decide⟩ (Nat.le_of_ble_eq_true rfl) (sp_canLoad hKa0 M4 hc4 hw z2 z3 z4) (fun zc Mc hzc => ?_)
      obtain ⟨tc, eM⟩ := hzc
      subst eM
      have t01 := tv01 tc
      rw [if_pos (by omega)] at hG
      refine aw_if_eq (tgt := 79) dX7_goOnce_61 rfl (fun h61 => ?_) (fun h61 => ?_)
      · have hn := tv0 tc h61
        unfold hasF at hn
        rw [if_neg (fun q => hn ⟨r0, s0, q⟩)] at hG
        refine aw_iload_n dX7_goOnce_79 rfl rfl ?_
        refine aw_iconst dX7_goOnce_80 rfl ⟨by decide, by decide⟩ ?_
        refine aw_iconst dX7_goOnce_81 rfl ⟨by decide, by decide⟩ ?_
        refine aw_cS3p dX7_goOnce_82 ml_RX7_94 ⟨by decide, by decide, by decide, by decide⟩ (Nat.le_of_ble_eq_true rfl) (qp_c (z := 0) (sp_isIn K Mc z1 4 5) (if_neg (by omega))) ?_
        refine aw_if_eq (tgt := 110) dX7_goOnce_85 rfl (fun h85 => ?_) (fun h85 => absurd h85 (by omega))
        refine aw_iload_n dX7_goOnce_110 rfl rfl ?_
        refine aw_iconst dX7_goOnce_111 rfl ⟨by decide, by decide⟩ ?_
        refine aw_icmp_le (tgt := 145) dX7_goOnce_112 rfl (fun h112 => ?_) (fun h112 => absurd h112 (by omega))
        -- RETURN dX7_goOnce_145
        exact no hG
      · have hh := tv1 tc h61
        have hhf := hh.2.2
        unfold hasF at hhf
        rw [if_pos hhf] at hG
        refine aw_aload_n dX7_goOnce_64 rfl rfl ⟨by decide, by decide⟩ ?_
        refine aw_aload_n dX7_goOnce_65 rfl rfl ⟨by decide, by decide⟩ ?_
        refine aw_iload_n dX7_goOnce_66 rfl rfl ?_
        refine aw_iload_n dX7_goOnce_67 rfl rfl ?_
        refine aw_iload dX7_goOnce_68 rfl ?_
        refine aw_cV3i dX7_goOnce_70 ml_RX7_231 (by assumption) (by decide) rfl rfl ⟨by decide, by decide, by decide, by decide⟩ (Nat.le_of_ble_eq_true rfl) (sp_goLoad hKo0 Mc hc4 hw (by omega) z2 z3 z4 r0.1 r0.2 s0.1 s0.2 hh.2.2) (fun z5 M5 hM5 => ?_)
        have hca := came M5 z5 (by rw [← hG]; exact hM5.2.1) hM5.2.2
        refine aw_pi 9 dX7_goOnce_73 fl_RX7_308 (by assumption) rfl rfl ?_
        refine aw_goto (tgt := 145) dX7_goOnce_76 rfl ?_
        exact fin _ hca.1 hca.2.1 hca.2.2.1 hca.2.2.2
  · rw [if_pos (by omega)] at hG
    refine aw_aload_n dX7_goOnce_34 rfl rfl ⟨by decide, by decide⟩ ?_
    refine aw_aload_n dX7_goOnce_35 rfl rfl ⟨by decide, by decide⟩ ?_
    refine aw_iload_n dX7_goOnce_36 rfl rfl ?_
    refine aw_iload dX7_goOnce_37 rfl ?_
    refine aw_cV2i dX7_goOnce_39 ml_RX7_222 (by assumption) (by decide) rfl rfl ⟨by decide, by decide, by decide, by decide⟩ (Nat.le_of_ble_eq_true rfl) (sp_goMake hKo0 M4 hc4 hw (by omega) hcz z2 z4 r0.1 r0.2 f0.1 (by omega)) (fun z5 M5 hM5 => ?_)
    have hca := came M5 z5 (by rw [← hG]; exact hM5.2.1) hM5.2.2
    refine aw_pi 9 dX7_goOnce_42 fl_RX7_308 (by assumption) rfl rfl ?_
    refine aw_goto (tgt := 145) dX7_goOnce_45 rfl ?_
    exact fin _ hca.1 hca.2.1 hca.2.2.1 hca.2.2.2
def gtV (b : Int → Int) (T : hSt) (w : Int) : Int := if w = 0 then az_wr (T.1 730 - b 730) else if w = 1 then az_wr (T.1 732 - b 732) else if w = 2 then az_wr (T.1 731 - b 731) else if w = 3 then az_wr (T.1 729 - b 729) else if w = 4 then az_wr (T.1 733 - b 733) else obN T.2.1
theorem sp_gameTells (hK : MdK K m) (M : az_M) (hc : HM M m S) (hw : WL S) (b : Int → Int) (hb : ∀ i, 729 ≤ i → i ≤ 733 → M (m + 7) i = b i) (w : Int) (w0 : 0 ≤ w) (w5 : w ≤ 5) : AM yX7_gameTells cX7_gameTells 2 (some .int) 4 0 0 [(1, m), (0, w)] K M (qp K M (gtV b S w)) := by
  have hK0 := hK
  obtain ⟨hKo, k3, k4, k5, k6, k7, k8, k9, k10, k11, k12, k13, k14, k15, k16, k17, k18, k19, k20, k21, k22, k23, k24, k25, y3, y4, y5, y6, y7, y8, y9, y10, y11, y12, y13, y14, y15, y16, y17, y18, y19, y20, y21, y22, y23, y24, y25⟩ := hK
  have hKo0 := hKo
  obtain ⟨hKa, k2, y2⟩ := hKo
  have hKa0 := hKa
  obtain ⟨km, k1, y1⟩ := hKa
  refine am_of (by decide) (Nat.le_of_ble_eq_true rfl) (L := [(1, m), (0, w)]) rfl ?_
  have si : ∀ i, 729 ≤ i → i ≤ 733 → AM yX7_since cX7_since 2 (some .int) 0 0 0 [(1, m), (0, i)] K M (qp K M (az_wr (S.1 i - b i))) := fun i i0 i1 => qp_c (sp_since hK0 M i (by omega) (by omega)) (by rw [hb i i0 i1, hc.1 i (by omega) (by omega) (by omega) (by omega)])
  generalize hV : gtV b S w = V
  unfold gtV at hV
  refine aw_iload_n dX7_gameTells_0 rfl rfl ?_
  by_cases q0 : w = 0
  · subst q0
    refine aw_tsIn (tgt := 36) dX7_gameTells_1 (by omega) (by omega) rfl rfl ?_
    refine aw_aload_n dX7_gameTells_36 rfl rfl ⟨by decide, by decide⟩ ?_
    refine aw_sipush dX7_gameTells_37 (by decide) ⟨by decide, by decide⟩ ?_
    refine aw_cV1p dX7_gameTells_40 ml_RX7_295 (by assumption) (by decide) rfl rfl ⟨by decide, by decide, by decide, by decide⟩ (Nat.le_of_ble_eq_true rfl) (si 730 (by omega) (by omega)) ?_
    exact aw_iret dX7_gameTells_43 (by decide) (by decide) (qp_i hV)
  rw [if_neg q0] at hV
  by_cases q1 : w = 1
  · subst q1
    refine aw_tsIn (tgt := 44) dX7_gameTells_1 (by omega) (by omega) rfl rfl ?_
    refine aw_aload_n dX7_gameTells_44 rfl rfl ⟨by decide, by decide⟩ ?_
    refine aw_sipush dX7_gameTells_45 (by decide) ⟨by decide, by decide⟩ ?_
    refine aw_cV1p dX7_gameTells_48 ml_RX7_295 (by assumption) (by decide) rfl rfl ⟨by decide, by decide, by decide, by decide⟩ (Nat.le_of_ble_eq_true rfl) (si 732 (by omega) (by omega)) ?_
    exact aw_iret dX7_gameTells_51 (by decide) (by decide) (qp_i hV)
  rw [if_neg q1] at hV
  by_cases q2 : w = 2
  · subst q2
    refine aw_tsIn (tgt := 52) dX7_gameTells_1 (by omega) (by omega) rfl rfl ?_
    refine aw_aload_n dX7_gameTells_52 rfl rfl ⟨by decide, by decide⟩ ?_
    refine aw_sipush dX7_gameTells_53 (by decide) ⟨by decide, by decide⟩ ?_
    refine aw_cV1p dX7_gameTells_56 ml_RX7_295 (by assumption) (by decide) rfl rfl ⟨by decide, by decide, by decide, by decide⟩ (Nat.le_of_ble_eq_true rfl) (si 731 (by omega) (by omega)) ?_
    exact aw_iret dX7_gameTells_59 (by decide) (by decide) (qp_i hV)
  rw [if_neg q2] at hV
  by_cases q3 : w = 3
  · subst q3
    refine aw_tsIn (tgt := 60) dX7_gameTells_1 (by omega) (by omega) rfl rfl ?_
    refine aw_aload_n dX7_gameTells_60 rfl rfl ⟨by decide, by decide⟩ ?_
    refine aw_sipush dX7_gameTells_61 (by decide) ⟨by decide, by decide⟩ ?_
    refine aw_cV1p dX7_gameTells_64 ml_RX7_295 (by assumption) (by decide) rfl rfl ⟨by decide, by decide, by decide, by decide⟩ (Nat.le_of_ble_eq_true rfl) (si 729 (by omega) (by omega)) ?_
    exact aw_iret dX7_gameTells_67 (by decide) (by decide) (qp_i hV)
  rw [if_neg q3] at hV
  by_cases q4 : w = 4
  · subst q4
    refine aw_tsIn (tgt := 68) dX7_gameTells_1 (by omega) (by omega) rfl rfl ?_
    refine aw_aload_n dX7_gameTells_68 rfl rfl ⟨by decide, by decide⟩ ?_
    refine aw_sipush dX7_gameTells_69 (by decide) ⟨by decide, by decide⟩ ?_
    refine aw_cV1p dX7_gameTells_72 ml_RX7_295 (by assumption) (by decide) rfl rfl ⟨by decide, by decide, by decide, by decide⟩ (Nat.le_of_ble_eq_true rfl) (si 733 (by omega) (by omega)) ?_
    exact aw_iret dX7_gameTells_75 (by decide) (by decide) (qp_i hV)
  rw [if_neg q4] at hV
  refine aw_tsOut (tgt := 76) dX7_gameTells_1 (by omega) rfl ?_
  refine aw_aload_n dX7_gameTells_76 rfl rfl ⟨by decide, by decide⟩ ?_
  refine aw_cV0p dX7_gameTells_77 ml_RX7_164 (by assumption) (by decide) rfl rfl ⟨by decide, by decide, by decide, by decide⟩ (Nat.le_of_ble_eq_true rfl) (sp_objectsNow hKa0 M (WR_of hw.1) hc.1 hc.2.1) ?_
  exact aw_iret dX7_gameTells_80 (by decide) (by decide) (qp_i hV)
def gaV (S : hSt) (b x n w : Int) : Int := if (0 ≤ b ∧ b ≤ 3) ∧ (0 ≤ x ∧ x ≤ 9999) ∧ (1 ≤ n ∧ n ≤ 200) ∧ 0 ≤ w ∧ w ≤ 5 then gtV (apS S b).1 (gmS n.toNat x (apS S b)) w else -1
set_option maxHeartbeats 1000000 in
theorem sp_mgame (hK : MdK K m) (M : az_M) (hc : HM M m S) (hw : WL S) (hcy : S.1 729 ≤ 19996000) (hcz : 0 ≤ S.1 729) (b x n w : Int) : AM yX7_game cX7_game 6 (some .int) 11 0 0 [(1, m), (0, b), (0, x), (0, n), (0, w)] K M (qi K (fun z M' => z = gaV S b x n w ∧ HM M' m S ∧ frU M M' m)) := by
  have hK0 := hK
  obtain ⟨hKo, k3, k4, k5, k6, k7, k8, k9, k10, k11, k12, k13, k14, k15, k16, k17, k18, k19, k20, k21, k22, k23, k24, k25, y3, y4, y5, y6, y7, y8, y9, y10, y11, y12, y13, y14, y15, y16, y17, y18, y19, y20, y21, y22, y23, y24, y25⟩ := hK
  have hKo0 := hKo
  obtain ⟨hKa, k2, y2⟩ := hKo
  have hKa0 := hKa
  obtain ⟨km, k1, y1⟩ := hKa
  refine am_of (by decide) (Nat.le_of_ble_eq_true rfl) (L := [(1, m), (0, b), (0, x), (0, n), (0, w), (9, 0)]) rfl ?_
  generalize hV : gaV S b x n w = V
  unfold gaV at hV
  have no : ¬ ((0 ≤ b ∧ b ≤ 3) ∧ (0 ≤ x ∧ x ≤ 9999) ∧ (1 ≤ n ∧ n ≤ 200) ∧ 0 ≤ w ∧ w ≤ 5) → AW az_P0 (az_Z (qi K (fun z M' => z = V ∧ HM M' m S ∧ frU M M' m)) 0 0) (az_rm 11 0 0) yX7_game cX7_game 6 (some .int) 0 0 41 [(1, m), (0, b), (0, x), (0, n), (0, w), (9, 0)] [] K M := by
    intro h
    rw [if_neg h] at hV
    refine aw_iconst dX7_game_41 rfl ⟨by decide, by decide⟩ ?_
    exact aw_iret dX7_game_42 (by decide) (by decide) ⟨_, rfl, rfl, hV, hc, frU.refl M m⟩
  refine aw_iload_n dX7_game_0 rfl rfl ?_
  refine aw_iconst dX7_game_1 rfl ⟨by decide, by decide⟩ ?_
  refine aw_iconst dX7_game_2 rfl ⟨by decide, by decide⟩ ?_
  refine aw_cS3p dX7_game_3 ml_RX7_94 ⟨by decide, by decide, by decide, by decide⟩ (Nat.le_of_ble_eq_true rfl) (sp_isIn K M b 0 3) ?_
  refine aw_if_eq (tgt := 41) dX7_game_6 rfl (fun h6 => ?_) (fun h6 => ?_)
  · exact no (fun q => if0 h6 q.1)
  · refine aw_iload_n dX7_game_9 rfl rfl ?_
    refine aw_iconst dX7_game_10 rfl ⟨by decide, by decide⟩ ?_
    refine aw_sipush dX7_game_11 (by decide) ⟨by decide, by decide⟩ ?_
    refine aw_cS3p dX7_game_14 ml_RX7_94 ⟨by decide, by decide, by decide, by decide⟩ (Nat.le_of_ble_eq_true rfl) (sp_isIn K M x 0 9999) ?_
    refine aw_if_eq (tgt := 41) dX7_game_17 rfl (fun h17 => ?_) (fun h17 => ?_)
    · exact no (fun q => if0 h17 q.2.1)
    · refine aw_iload_n dX7_game_20 rfl rfl ?_
      refine aw_iconst dX7_game_21 rfl ⟨by decide, by decide⟩ ?_
      refine aw_sipush dX7_game_22 (by decide) ⟨by decide, by decide⟩ ?_
      refine aw_cS3p dX7_game_25 ml_RX7_94 ⟨by decide, by decide, by decide, by decide⟩ (Nat.le_of_ble_eq_true rfl) (sp_isIn K M n 1 200) ?_
      refine aw_if_eq (tgt := 41) dX7_game_28 rfl (fun h28 => ?_) (fun h28 => ?_)
      · exact no (fun q => if0 h28 q.2.2.1)
      · refine aw_iload dX7_game_31 rfl ?_
        refine aw_iconst dX7_game_33 rfl ⟨by decide, by decide⟩ ?_
        refine aw_iconst dX7_game_34 rfl ⟨by decide, by decide⟩ ?_
        refine aw_cS3p dX7_game_35 ml_RX7_94 ⟨by decide, by decide, by decide, by decide⟩ (Nat.le_of_ble_eq_true rfl) (sp_isIn K M w 0 5) ?_
        refine aw_if_ne (tgt := 43) dX7_game_38 rfl (fun h38 => ?_) (fun h38 => ?_)
        · have hb := if1 h6
          have hx := if1 h17
          have hn := if1 h28
          have hw5 := if1 h38
          rw [if_pos ⟨hb, hx, hn, hw5⟩] at hV
          obtain ⟨N, hN⟩ : ∃ N : Nat, (N : Int) = n := ⟨n.toNat, by omega⟩
          subst hN
          rw [Int.toNat_natCast] at hV
          obtain ⟨w0, c0, c1⟩ := apS_wf hw hb.1 hb.2
          refine aw_aload_n dX7_game_43 rfl rfl ⟨by decide, by decide⟩ ?_
          refine aw_cV0v dX7_game_44 ml_RX7_283 (by assumption) (by decide) rfl rfl ⟨by decide, by decide, by decide, by decide⟩ (Nat.le_of_ble_eq_true rfl) (sp_putAside hK0 M) (fun M1 hM1 => ?_)
          have hc1 : HM M1 m S := HM_fr hc (hM1.2 _ (by omega))
          have ha1 : MT (M1 (m + 6)) S := MT_congr hc hw.1 hM1.1
          have f1 : frU M M1 m := ⟨fun b h1 h2 => hM1.2 b (by omega), fun j _ _ _ _ _ => by rw [hM1.2 m (by omega)]⟩
          refine aw_aload_n dX7_game_47 rfl rfl ⟨by decide, by decide⟩ ?_
          refine aw_iload_n dX7_game_48 rfl rfl ?_
          refine aw_cV1v dX7_game_49 ml_RX7_311 (by assumption) (by decide) rfl rfl ⟨by decide, by decide, by decide, by decide⟩ (Nat.le_of_ble_eq_true rfl) (sp_mbeginApart hK0 M1 hc1 hw (by omega) hcz b) (fun M2 hM2 => ?_)
          obtain ⟨hc2, hb2, f2⟩ := hM2
          have hbase : ∀ i, 729 ≤ i → i ≤ 733 → M2 (m + 7) i = (apS S b).1 i := fun i i0 i1 => by rw [hb2 i (by omega) (by omega)]; exact hc2.1 _ (by omega) (by omega) (by omega) (by omega)
          refine aw_aload_n dX7_game_52 rfl rfl ⟨by decide, by decide⟩ ?_
          refine aw_iload_n dX7_game_53 rfl rfl ?_
          refine aw_pi 8 dX7_game_54 fl_RX7_302 (by assumption) rfl rfl ?_
          refine aw_iconst dX7_game_57 rfl ⟨by decide, by decide⟩ ?_
          refine aw_istore dX7_game_58 (by decide) ?_
          have loop : ∀ (d k : Nat) (y : Int) (T : hSt) (M3 : az_M), k + d = N → HM M3 m T → WL T → 0 ≤ T.1 729 → T.1 729 + 5 * d ≤ 19997900 → M3 m 8 = y → 0 ≤ y → y < 10007 → (∀ i, 729 ≤ i → i ≤ 733 → M3 (m + 7) i = (apS S b).1 i) → frT M1 M3 m → gmS d y T = gmS N x (apS S b) → AW az_P0 (az_Z (qi K (fun z M' => z = V ∧ HM M' m S ∧ frU M M' m)) 0 0) (az_rm 11 0 0) yX7_game cX7_game 6 (some .int) 0 0 60 [(1, m), (0, b), (0, x), (0, (N : Int)), (0, w), (0, (k : Int))] [] K M3 := by
            intro d
            induction d with
            | zero =>
              intro k y T M3 hk hT wT t0 t1 h8 y0 y1 hb3 f3 hg
              replace hg : T = gmS N x (apS S b) := hg
              rw [← hg] at hV
              refine aw_iload dX7_game_60 rfl ?_
              refine aw_iload_n dX7_game_62 rfl rfl ?_
              refine aw_icmp_ge (tgt := 76) dX7_game_63 rfl (fun h63 => ?_) (fun h63 => absurd h63 (by omega))
              refine aw_aload_n dX7_game_76 rfl rfl ⟨by decide, by decide⟩ ?_
              refine aw_iload dX7_game_77 rfl ?_
              refine aw_cV1p dX7_game_79 ml_RX7_317 (by assumption) (by decide) rfl rfl ⟨by decide, by decide, by decide, by decide⟩ (Nat.le_of_ble_eq_true rfl) (sp_gameTells hK0 M3 hT wT (apS S b).1 hb3 w hw5.1 hw5.2) ?_
              refine aw_istore dX7_game_82 (by decide) ?_
              refine aw_aload_n dX7_game_84 rfl rfl ⟨by decide, by decide⟩ ?_
              refine aw_cV0v dX7_game_85 ml_RX7_289 (by assumption) (by decide) rfl rfl ⟨by decide, by decide, by decide, by decide⟩ (Nat.le_of_ble_eq_true rfl) (sp_bringBack hK0 M3) (fun M4 hM4 => ?_)
              have hc4 : HM M4 m S := HM_back (by rw [f3.2]; exact ha1) hw hM4.1
              refine aw_iload dX7_game_88 rfl ?_
              exact aw_iret dX7_game_90 (by decide) (by decide) ⟨_, rfl, rfl, hV, hc4, (f1.trans f3.1).trans ⟨fun b h1 h2 => hM4.2 b (by omega), fun j _ _ _ _ _ => by rw [hM4.2 m (by omega)]⟩⟩
            | succ d ih =>
              intro k y T M3 hk hT wT t0 t1 h8 y0 y1 hb3 f3 hg
              obtain ⟨g1, g2, g3⟩ := gm1_wf wT y0
              have d1 := dr_in y0
              have d2 := dr_in d1.1
              have d3 := dr_in d2.1
              have d4 := dr_in d3.1
              refine aw_iload dX7_game_60 rfl ?_
              refine aw_iload_n dX7_game_62 rfl rfl ?_
              refine aw_icmp_ge (tgt := 76) dX7_game_63 rfl (fun h63 => absurd h63 (by omega)) (fun h63 => ?_)
              refine aw_aload_n dX7_game_66 rfl rfl ⟨by decide, by decide⟩ ?_
              refine aw_cV0v dX7_game_67 ml_RX7_314 (by assumption) (by decide) rfl rfl ⟨by decide, by decide, by decide, by decide⟩ (Nat.le_of_ble_eq_true rfl) (sp_goOnce hK0 M3 hT wT (by omega) t0 y h8 y0 y1) (fun M4 hM4 => ?_)
              obtain ⟨a1, a2, a3, a4⟩ := hM4
              refine aw_iinc dX7_game_70 rfl (az_wr_id (by omega) (by omega)) (by decide) ?_
              refine aw_goto (tgt := 60) dX7_game_73 rfl ?_
              exact ih (k + 1) (dr4 y) (gm1 y T) M4 (by omega) a1 g1 (by omega) (by omega) a2 d4.1 d4.2 (fun i i0 i1 => by rw [a3]; exact hb3 i i0 i1) (f3.trans a4) hg
          refine loop N 0 x (apS S b) _ (by omega) (HM_fr hc2 (up_oth _ _ _ (by omega))) w0 (by omega) (by omega) (az_up_s _ _ _ _) hx.1 (by omega) (fun i i0 i1 => by rw [up_oth _ _ _ (by omega)]; exact hbase i i0 i1) (f2.trans ⟨⟨fun b h1 h2 => up_oth _ _ _ (by omega), fun j _ h8 _ _ _ => az_up_i _ _ _ _ h8⟩, up_oth _ _ _ (by omega)⟩) rfl
        · exact no (fun q => if0 h38 q.2.2.2)
end GA
