/-! the constructors -/
set_option maxRecDepth 20000
section NO
variable {P : az_E → State → Array Value → Prop} {Z : List Frame → Array Value → State → az_E → State → Prop} {R : Room} {y : MethodName} {cc : ByteArray} {nL : Nat} {ret : Option FieldType} {cs sl pc : Nat} {L S : List az_V} {K : az_K} {M : az_M} {B l l' : List (Nat × Nat)} {G : Int → Int → Option Int} {c : Int}
theorem aw_nO {index ci nn : Nat} (hd : decode cc pc = .ok (.new index, 3)) (hf : az_NC y.cls index ci) (hnn : az_nf ci = nn) (hL : (K.1.length : Int) = c) (hc1 : cs + 1 ≤ R.cells) (hs1 : sl + nn ≤ R.slots) (k : AW P Z R y cc nL ret (cs + 1) (sl + nn) (pc + 3) L ((1, c) :: S) (K.1 ++ [(ci, nn)], K.2) (az_nw M c (az_d0 ci))) : AW P Z R y cc nL ret cs sl pc L S K M := by
  subst hL hnn
  exact aw_new hd hf hc1 hs1 k
theorem aw_cI0 {y' : MethodName} {cc' : ByteArray} {nL' : Nat} {d' mc' ms' idx : Nat} {f : az_K → az_M → Prop} {a : Int} (hd : decode cc pc = .ok (.invokespecial idx, 3)) (hm : az_MI y.cls idx y' cc' nL' 0) (ha : 0 ≤ a) (hrm : d' + 1 ≤ R.frames ∧ 8 + (nL' + 11) + 40 * d' ≤ R.locals ∧ cs + mc' ≤ R.cells ∧ sl + ms' ≤ R.slots) (hS8 : S.length ≤ 8) (hA : AM y' cc' nL' none d' mc' ms' [(1, a)] K M (fun r K' M' => r = none ∧ f K' M'))
    (kk : ∀ K' M', f K' M' → AW P Z R y cc nL ret (cs + mc') (sl + ms') (pc + 3) L S K' M') : AW P Z R y cc nL ret cs sl pc L ((1, a) :: S) K M := aw_callI (ret' := none) (As := []) hd hm rfl ha hrm hS8 hA (fun r K' M' h => by obtain ⟨e, h⟩ := h; subst e; exact kk K' M' h)
end NO
theorem nw_s (M : az_M) (a : Int) (g : Int → Int) : az_nw M a g a = g := if_pos rfl
theorem nw_n (M : az_M) {a b : Int} (g : Int → Int) (h : b ≠ a) : az_nw M a g b = M b := if_neg h
theorem Fr.sub {K : az_K} {o c : Int} {q : Nat × Nat} (hL : (K.1.length : Int) = c) (hn : ∀ a i, c ≤ a → K.2 a i = none) : Fr (K.1 ++ [q], K.2) c := by
  refine ⟨?_, hn⟩
  show ((K.1 ++ [q]).length : Int) = c + 1
  rw [List.length_append, ← hL]
  show ((K.1.length + 1 : Nat) : Int) = _
  omega
theorem at_n {K : az_K} {c : Int} {q : Nat × Nat} {G : Int → Int → Option Int} (hL : (K.1.length : Int) = c) : az_at (K.1 ++ [q], G) c q := at_c (i := 0) hL (by omega) rfl
section IN
variable {K : az_K}
set_option maxHeartbeats 1000000 in
theorem sp_rinit {q : Int} (hf : Fr K (q + 1)) (ho : az_at K (q + 1) (3, 4)) (q0 : -1 ≤ q ∧ q ≤ 1000000) (M : az_M) : AM yX3_init cX3_init 1 none 2 4 231 [(1, q + 1)] K M (fun r K' M' => r = none ∧ NW K K' M M' (q + 1) (q + 6) ∧ RgK K' q ∧ clrK M' q) := by
  obtain ⟨hL, hn⟩ := hf
  replace hL : (K.1.length : Int) = q + 2 := by omega
  refine am_of (by decide) (Nat.le_of_ble_eq_true rfl) (L := [(1, q + 1)]) rfl ?_
  refine aw_aload_n dX3_init_0 rfl rfl ⟨by decide, by decide⟩ ?_
  refine aw_objInit dX3_init_1 oi_RX3 (by omega) ⟨by decide, by decide⟩ ?_
  refine aw_aload_n dX3_init_4 rfl rfl ⟨by decide, by decide⟩ ?_
  refine aw_bipush dX3_init_5 (by decide) ⟨by decide, by decide⟩ ?_
  refine aw_nI0 (c := q + 2) (n := 77) dX3_init_7 (by decide) hL (Nat.le_of_ble_eq_true rfl) (Nat.le_of_ble_eq_true rfl) ?_
  refine aw_prF 0 dX3_init_9 fl_RX3_11 ff_RX3_11 rfl (at_o ho) rfl rfl ⟨by omega, by omega⟩ (hn _ _ (by omega)) ?_
  rw [mk_1 (lo' := q + 3) (by omega) (by omega)]
  refine aw_aload_n dX3_init_12 rfl rfl ⟨by decide, by decide⟩ ?_
  refine aw_bipush dX3_init_13 (by decide) ⟨by decide, by decide⟩ ?_
  refine aw_nI (c := q + 3) (n := 77) (l' := [(100, 77), (100, 77)]) dX3_init_15 (by decide) (len_c (k := 1) hL rfl (by omega)) rfl (Nat.le_of_ble_eq_true rfl) (Nat.le_of_ble_eq_true rfl) ?_
  refine aw_prF 1 dX3_init_17 fl_RX3_15 ff_RX3_15 rfl (at_o ho) rfl rfl ⟨by omega, by omega⟩ (hn _ _ (by omega)) ?_
  rw [mk_s (hi' := q + 4) (by omega) (by omega) (by omega)]
  refine aw_aload_n dX3_init_20 rfl rfl ⟨by decide, by decide⟩ ?_
  refine aw_bipush dX3_init_21 (by decide) ⟨by decide, by decide⟩ ?_
  refine aw_nI (c := q + 4) (n := 64) (l' := [(100, 77), (100, 77), (100, 64)]) dX3_init_23 (by decide) (len_c (k := 2) hL rfl (by omega)) rfl (Nat.le_of_ble_eq_true rfl) (Nat.le_of_ble_eq_true rfl) ?_
  refine aw_prF 2 dX3_init_25 fl_RX3_18 ff_RX3_18 rfl (at_o ho) rfl rfl ⟨by omega, by omega⟩ (hn _ _ (by omega)) ?_
  rw [mk_s (hi' := q + 5) (by omega) (by omega) (by omega)]
  refine aw_aload_n dX3_init_28 rfl rfl ⟨by decide, by decide⟩ ?_
  refine aw_bipush dX3_init_29 (by decide) ⟨by decide, by decide⟩ ?_
  refine aw_nI (c := q + 5) (n := 13) (l' := [(100, 77), (100, 77), (100, 64), (100, 13)]) dX3_init_31 (by decide) (len_c (k := 3) hL rfl (by omega)) rfl (Nat.le_of_ble_eq_true rfl) (Nat.le_of_ble_eq_true rfl) ?_
  refine aw_prF 3 dX3_init_33 fl_RX3_21 ff_RX3_21 rfl (at_o ho) rfl rfl ⟨by omega, by omega⟩ (hn _ _ (by omega)) ?_
  rw [mk_s (hi' := q + 6) (by omega) (by omega) (by omega)]
  generalize hg : gu (gu (gu (gu (M (q + 1)) 0 (q + 2)) 1 (q + 3)) 2 (q + 4)) 3 (q + 5) = g
  refine aw_fz (fun hz => ?_)
  refine aw_freeze (fz_ok hz (at_o ho) (by decide) (F := [0, 1, 2, 3]) (by decide)) ?_
  have hv : ∀ i v, g i = v → mk M (q + 1) g (q + 2) (q + 6) (q + 1) i = v := fun i v h => by rw [mk_o]; exact h
  have hR : RgK (K.1 ++ [(100, 77), (100, 77), (100, 64), (100, 13)], fz K.2 (mk M (q + 1) g (q + 2) (q + 6)) (q + 1) [0, 1, 2, 3]) q := ⟨at_o ho, at_c (i := 0) hL (by omega) rfl, at_c (i := 1) hL (by omega) rfl, at_c (i := 2) hL (by omega) rfl, at_c (i := 3) hL (by omega) rfl, fz_s (by decide) (hv _ _ (by rw [← hg]; rfl)), fz_s (by decide) (hv _ _ (by rw [← hg]; rfl)), fz_s (by decide) (hv _ _ (by rw [← hg]; rfl)), fz_s (by decide) (hv _ _ (by rw [← hg]; rfl))⟩
  refine aw_aload_n dX3_init_36 rfl rfl ⟨by decide, by decide⟩ ?_
  refine aw_cV0v dX3_init_37 ml_RX3_24 hR.1 (by decide) rfl rfl ⟨by decide, by decide, by decide, by decide⟩ (Nat.le_of_ble_eq_true rfl) (sp_rclear hR _) (fun M2 hM2 => ?_)
  refine aw_vret dX3_init_40 (by decide) (by decide) ⟨rfl, ⟨len_c (k := 4) hL rfl (by omega), fun a q h => at_o h, fun a i h => fz_n (by omega), fun a i h => ?_, fun b h => ?_⟩, hR, hM2.1⟩
  · exact (fz_n (by omega)).trans (hn a i (by omega))
  · rw [hM2.2 b (by omega), mk_b (by omega) (by omega)]
set_option maxHeartbeats 2000000 in
theorem sp_hinit {h : Int} (hf : Fr K h) (ho : az_at K h (0, 16)) (h0 : 0 ≤ h ∧ h ≤ 1000000) (M : az_M) : AM yX0_init cX0_init 1 none 3 14 511 [(1, h)] K M (fun r K' M' => r = none ∧ NW K K' M M' h (h + 15) ∧ HpK K' h ∧ HS M' h (clrS 8)) := by
  obtain ⟨hL, hn⟩ := hf
  refine am_of (by decide) (Nat.le_of_ble_eq_true rfl) (L := [(1, h)]) rfl ?_
  refine aw_aload_n dX0_init_0 rfl rfl ⟨by decide, by decide⟩ ?_
  refine aw_objInit dX0_init_1 oi_RX0 (by omega) ⟨by decide, by decide⟩ ?_
  refine aw_aload_n dX0_init_4 rfl rfl ⟨by decide, by decide⟩ ?_
  refine aw_nO (c := h + 1) dX0_init_5 nc_RX0_9 (show az_nf 3 = 4 from rfl) hL (by decide) (by decide) ?_
  refine aw_dup dX0_init_8 ?_
  refine aw_cI0 dX0_init_9 ml_RX0_11 (by omega) ⟨by decide, by decide, by decide, by decide⟩ (Nat.le_of_ble_eq_true rfl) (sp_rinit (q := h) (Fr.sub (o := h) hL (fun a i w => hn a i (by omega))) (at_n hL) (by omega) _) (fun K1 M1 hK1 => ?_)
  obtain ⟨⟨hL1, mo, ol, nn, ob⟩, hRg, -⟩ := hK1
  have ho1 : az_at K1 h (0, 16) := mo _ _ (at_o ho)
  have hn1 : ∀ i, K1.2 h i = none := fun i => (ol h i (by omega)).trans (hn h i (by omega))
  refine aw_prF 0 dX0_init_12 fl_RX0_12 ff_RX0_12 rfl ho1 rfl rfl ⟨by omega, by omega⟩ (hn1 _) ?_
  have e2 : ∀ b, b < h → az_up M1 h 0 (h + 1) b = M b := fun b w => by rw [up_oth _ _ _ (by omega), ob b (by omega), nw_n _ _ (by omega)]
  have e20 : az_up M1 h 0 (h + 1) h 0 = h + 1 := az_up_s _ _ _ _
  generalize az_up M1 h 0 (h + 1) = M2 at e2 e20 ⊢
  refine aw_aload_n dX0_init_15 rfl rfl ⟨by decide, by decide⟩ ?_
  refine aw_sipush dX0_init_16 (by decide) ⟨by decide, by decide⟩ ?_
  refine aw_nI0 (c := h + 6) (n := 128) dX0_init_19 (by decide) hL1 (Nat.le_of_ble_eq_true rfl) (Nat.le_of_ble_eq_true rfl) ?_
  refine aw_prF 1 dX0_init_21 fl_RX0_18 ff_RX0_18 rfl (at_o ho1) rfl rfl ⟨by omega, by omega⟩ (hn1 _) ?_
  rw [mk_1 (lo' := h + 7) (by omega) (by omega)]
  refine aw_aload_n dX0_init_24 rfl rfl ⟨by decide, by decide⟩ ?_
  refine aw_bipush dX0_init_25 (by decide) ⟨by decide, by decide⟩ ?_
  refine aw_nI (c := h + 7) (n := 8) (l' := [(100, 128), (100, 8)]) dX0_init_27 (by decide) (len_c (k := 1) hL1 rfl (by omega)) rfl (Nat.le_of_ble_eq_true rfl) (Nat.le_of_ble_eq_true rfl) ?_
  refine aw_prF 2 dX0_init_29 fl_RX0_22 ff_RX0_22 rfl (at_o ho1) rfl rfl ⟨by omega, by omega⟩ (hn1 _) ?_
  rw [mk_s (hi' := h + 8) (by omega) (by omega) (by omega)]
  refine aw_aload_n dX0_init_32 rfl rfl ⟨by decide, by decide⟩ ?_
  refine aw_bipush dX0_init_33 (by decide) ⟨by decide, by decide⟩ ?_
  refine aw_nI (c := h + 8) (n := 8) (l' := [(100, 128), (100, 8), (100, 8)]) dX0_init_35 (by decide) (len_c (k := 2) hL1 rfl (by omega)) rfl (Nat.le_of_ble_eq_true rfl) (Nat.le_of_ble_eq_true rfl) ?_
  refine aw_prF 3 dX0_init_37 fl_RX0_25 ff_RX0_25 rfl (at_o ho1) rfl rfl ⟨by omega, by omega⟩ (hn1 _) ?_
  rw [mk_s (hi' := h + 9) (by omega) (by omega) (by omega)]
  refine aw_aload_n dX0_init_40 rfl rfl ⟨by decide, by decide⟩ ?_
  refine aw_bipush dX0_init_41 (by decide) ⟨by decide, by decide⟩ ?_
  refine aw_nI (c := h + 9) (n := 6) (l' := [(100, 128), (100, 8), (100, 8), (100, 6)]) dX0_init_43 (by decide) (len_c (k := 3) hL1 rfl (by omega)) rfl (Nat.le_of_ble_eq_true rfl) (Nat.le_of_ble_eq_true rfl) ?_
  refine aw_prF 4 dX0_init_45 fl_RX0_28 ff_RX0_28 rfl (at_o ho1) rfl rfl ⟨by omega, by omega⟩ (hn1 _) ?_
  rw [mk_s (hi' := h + 10) (by omega) (by omega) (by omega)]
  refine aw_aload_n dX0_init_48 rfl rfl ⟨by decide, by decide⟩ ?_
  refine aw_iconst dX0_init_49 rfl ⟨by decide, by decide⟩ ?_
  refine aw_nI (c := h + 10) (n := 4) (l' := [(100, 128), (100, 8), (100, 8), (100, 6), (100, 4)]) dX0_init_50 (by decide) (len_c (k := 4) hL1 rfl (by omega)) rfl (Nat.le_of_ble_eq_true rfl) (Nat.le_of_ble_eq_true rfl) ?_
  refine aw_prF 5 dX0_init_52 fl_RX0_31 ff_RX0_31 rfl (at_o ho1) rfl rfl ⟨by omega, by omega⟩ (hn1 _) ?_
  rw [mk_s (hi' := h + 11) (by omega) (by omega) (by omega)]
  refine aw_aload_n dX0_init_55 rfl rfl ⟨by decide, by decide⟩ ?_
  refine aw_bipush dX0_init_56 (by decide) ⟨by decide, by decide⟩ ?_
  refine aw_nI (c := h + 11) (n := 64) (l' := [(100, 128), (100, 8), (100, 8), (100, 6), (100, 4), (100, 64)]) dX0_init_58 (by decide) (len_c (k := 5) hL1 rfl (by omega)) rfl (Nat.le_of_ble_eq_true rfl) (Nat.le_of_ble_eq_true rfl) ?_
  refine aw_prF 6 dX0_init_60 fl_RX0_34 ff_RX0_34 rfl (at_o ho1) rfl rfl ⟨by omega, by omega⟩ (hn1 _) ?_
  rw [mk_s (hi' := h + 12) (by omega) (by omega) (by omega)]
  refine aw_aload_n dX0_init_63 rfl rfl ⟨by decide, by decide⟩ ?_
  refine aw_iconst dX0_init_64 rfl ⟨by decide, by decide⟩ ?_
  refine aw_nI (c := h + 12) (n := 4) (l' := [(100, 128), (100, 8), (100, 8), (100, 6), (100, 4), (100, 64), (100, 4)]) dX0_init_65 (by decide) (len_c (k := 6) hL1 rfl (by omega)) rfl (Nat.le_of_ble_eq_true rfl) (Nat.le_of_ble_eq_true rfl) ?_
  refine aw_prF 7 dX0_init_67 fl_RX0_37 ff_RX0_37 rfl (at_o ho1) rfl rfl ⟨by omega, by omega⟩ (hn1 _) ?_
  rw [mk_s (hi' := h + 13) (by omega) (by omega) (by omega)]
  refine aw_aload_n dX0_init_70 rfl rfl ⟨by decide, by decide⟩ ?_
  refine aw_bipush dX0_init_71 (by decide) ⟨by decide, by decide⟩ ?_
  refine aw_nI (c := h + 13) (n := 6) (l' := [(100, 128), (100, 8), (100, 8), (100, 6), (100, 4), (100, 64), (100, 4), (100, 6)]) dX0_init_73 (by decide) (len_c (k := 7) hL1 rfl (by omega)) rfl (Nat.le_of_ble_eq_true rfl) (Nat.le_of_ble_eq_true rfl) ?_
  refine aw_prF 8 dX0_init_75 fl_RX0_40 ff_RX0_40 rfl (at_o ho1) rfl rfl ⟨by omega, by omega⟩ (hn1 _) ?_
  rw [mk_s (hi' := h + 14) (by omega) (by omega) (by omega)]
  refine aw_aload_n dX0_init_78 rfl rfl ⟨by decide, by decide⟩ ?_
  refine aw_bipush dX0_init_79 (by decide) ⟨by decide, by decide⟩ ?_
  refine aw_nI (c := h + 14) (n := 48) (l' := [(100, 128), (100, 8), (100, 8), (100, 6), (100, 4), (100, 64), (100, 4), (100, 6), (100, 48)]) dX0_init_81 (by decide) (len_c (k := 8) hL1 rfl (by omega)) rfl (Nat.le_of_ble_eq_true rfl) (Nat.le_of_ble_eq_true rfl) ?_
  refine aw_prF 9 dX0_init_83 fl_RX0_43 ff_RX0_43 rfl (at_o ho1) rfl rfl ⟨by omega, by omega⟩ (hn1 _) ?_
  rw [mk_s (hi' := h + 15) (by omega) (by omega) (by omega)]
  generalize hg : gu (gu (gu (gu (gu (gu (gu (gu (gu (M2 h) 1 (h + 6)) 2 (h + 7)) 3 (h + 8)) 4 (h + 9)) 5 (h + 10)) 6 (h + 11)) 7 (h + 12)) 8 (h + 13)) 9 (h + 14) = g
  refine aw_fz (fun hz => ?_)
  refine aw_freeze (fz_ok hz (at_o ho1) (by decide) (F := [0, 1, 2, 3, 4, 5, 6, 7, 8, 9]) (by decide)) ?_
  have hv : ∀ i v, g i = v → mk M2 h g (h + 6) (h + 15) h i = v := fun i v w => by rw [mk_o]; exact w
  obtain ⟨r1, r2, r3, r4, r5, r6, r7, r8, r9⟩ := hRg
  have hH : HpK (K1.1 ++ [(100, 128), (100, 8), (100, 8), (100, 6), (100, 4), (100, 64), (100, 4), (100, 6), (100, 48)], fz K1.2 (mk M2 h g (h + 6) (h + 15)) h [0, 1, 2, 3, 4, 5, 6, 7, 8, 9]) h := ⟨⟨at_o r1, at_o r2, at_o r3, at_o r4, at_o r5, (fz_n (by omega)).trans r6, (fz_n (by omega)).trans r7, (fz_n (by omega)).trans r8, (fz_n (by omega)).trans r9⟩, at_o ho1, at_c (i := 0) hL1 (by omega) rfl, at_c (i := 1) hL1 (by omega) rfl, at_c (i := 2) hL1 (by omega) rfl, at_c (i := 3) hL1 (by omega) rfl, at_c (i := 4) hL1 (by omega) rfl, at_c (i := 5) hL1 (by omega) rfl, at_c (i := 6) hL1 (by omega) rfl, at_c (i := 7) hL1 (by omega) rfl, at_c (i := 8) hL1 (by omega) rfl, fz_s (by decide) (hv _ _ (by rw [← hg]; exact e20)), fz_s (by decide) (hv _ _ (by rw [← hg]; rfl)), fz_s (by decide) (hv _ _ (by rw [← hg]; rfl)), fz_s (by decide) (hv _ _ (by rw [← hg]; rfl)), fz_s (by decide) (hv _ _ (by rw [← hg]; rfl)), fz_s (by decide) (hv _ _ (by rw [← hg]; rfl)), fz_s (by decide) (hv _ _ (by rw [← hg]; rfl)), fz_s (by decide) (hv _ _ (by rw [← hg]; rfl)), fz_s (by decide) (hv _ _ (by rw [← hg]; rfl)), fz_s (by decide) (hv _ _ (by rw [← hg]; rfl))⟩
  refine aw_aload_n dX0_init_86 rfl rfl ⟨by decide, by decide⟩ ?_
  refine aw_bipush dX0_init_87 (by decide) ⟨by decide, by decide⟩ ?_
  refine aw_cV1v dX0_init_89 ml_RX0_46 hH.2.1 (by decide) rfl rfl ⟨by decide, by decide, by decide, by decide⟩ (Nat.le_of_ble_eq_true rfl) (sp_clear hH _ 8) (fun M3 hM3 => ?_)
  refine aw_vret dX0_init_92 (by decide) (by decide) ⟨rfl, ⟨len_c (k := 9) hL1 rfl (by omega), fun a q w => at_o (mo a q (at_o w)), fun a i w => (fz_n (by omega)).trans (ol a i (by omega)), fun a i w => (fz_n (by omega)).trans (nn a i (by omega)), fun b w => ?_⟩, hH, hM3.1⟩
  rw [hM3.2 b (by omega), mk_b (by omega) (by omega)]
  exact e2 b w
set_option maxHeartbeats 1000000 in
theorem sp_reinit {q : Int} (hf : Fr K q) (ho : az_at K q (1, 3)) (q0 : 0 ≤ q ∧ q ≤ 1000000) (M : az_M) : AM yX1_init cX1_init 1 none 1 2 192 [(1, q)] K M (fun r K' M' => r = none ∧ NW K K' M M' q (q + 3) ∧ ReK K' q) := by
  obtain ⟨hL, hn⟩ := hf
  refine am_of (by decide) (Nat.le_of_ble_eq_true rfl) (L := [(1, q)]) rfl ?_
  refine aw_aload_n dX1_init_0 rfl rfl ⟨by decide, by decide⟩ ?_
  refine aw_objInit dX1_init_1 oi_RX1 (by omega) ⟨by decide, by decide⟩ ?_
  refine aw_aload_n dX1_init_4 rfl rfl ⟨by decide, by decide⟩ ?_
  refine aw_sipush dX1_init_5 (by decide) ⟨by decide, by decide⟩ ?_
  refine aw_nI0 (c := q + 1) (n := 128) dX1_init_8 (by decide) hL (Nat.le_of_ble_eq_true rfl) (Nat.le_of_ble_eq_true rfl) ?_
  refine aw_prF 0 dX1_init_10 fl_RX1_9 ff_RX1_9 rfl (at_o ho) rfl rfl ⟨by omega, by omega⟩ (hn _ _ (by omega)) ?_
  rw [mk_1 (lo' := q + 2) (by omega) (by omega)]
  refine aw_aload_n dX1_init_13 rfl rfl ⟨by decide, by decide⟩ ?_
  refine aw_bipush dX1_init_14 (by decide) ⟨by decide, by decide⟩ ?_
  refine aw_nI (c := q + 2) (n := 64) (l' := [(100, 128), (100, 64)]) dX1_init_16 (by decide) (len_c (k := 1) hL rfl (by omega)) rfl (Nat.le_of_ble_eq_true rfl) (Nat.le_of_ble_eq_true rfl) ?_
  refine aw_prF 1 dX1_init_18 fl_RX1_15 ff_RX1_15 rfl (at_o ho) rfl rfl ⟨by omega, by omega⟩ (hn _ _ (by omega)) ?_
  rw [mk_s (hi' := q + 3) (by omega) (by omega) (by omega)]
  refine aw_aload_n dX1_init_21 rfl rfl ⟨by decide, by decide⟩ ?_
  refine aw_iconst dX1_init_22 rfl ⟨by decide, by decide⟩ ?_
  refine aw_pi 2 dX1_init_23 fl_RX1_18 (at_o ho) rfl rfl ?_
  rw [mk_u]
  generalize hg : gu (gu (gu (M q) 0 (q + 1)) 1 (q + 2)) 2 0 = g
  refine aw_fz (fun hz => ?_)
  refine aw_freeze (fz_ok hz (at_o ho) (by decide) (F := [0, 1]) (by decide)) ?_
  have hv : ∀ i v, g i = v → mk M q g (q + 1) (q + 3) q i = v := fun i v h => by rw [mk_o]; exact h
  refine aw_vret dX1_init_26 (by decide) (by decide) ⟨rfl, ⟨len_c (k := 2) hL rfl (by omega), fun a q h => at_o h, fun a i h => fz_n (by omega), fun a i h => ?_, fun b h => ?_⟩, at_o ho, at_c (i := 0) hL (by omega) rfl, at_c (i := 1) hL (by omega) rfl, fz_s (by decide) (hv _ _ (by rw [← hg]; rfl)), fz_s (by decide) (hv _ _ (by rw [← hg]; rfl))⟩
  · exact (fz_n (by omega)).trans (hn a i (by omega))
  · rw [mk_b (by omega) (by omega)]
set_option maxHeartbeats 1000000 in
theorem sp_sinit {s : Int} (hf : Fr K s) (ho : az_at K s (5, 6)) (s0 : 0 ≤ s ∧ s ≤ 1000000) (M : az_M) : AM yX5_init cX5_init 1 none 1 5 200 [(1, s)] K M (fun r K' M' => r = none ∧ NW K K' M M' s (s + 6) ∧ ScK K' s ∧ M' s 5 = 0) := by
  obtain ⟨hL, hn⟩ := hf
  refine am_of (by decide) (Nat.le_of_ble_eq_true rfl) (L := [(1, s)]) rfl ?_
  refine aw_aload_n dX5_init_0 rfl rfl ⟨by decide, by decide⟩ ?_
  refine aw_objInit dX5_init_1 oi_RX5 (by omega) ⟨by decide, by decide⟩ ?_
  refine aw_aload_n dX5_init_4 rfl rfl ⟨by decide, by decide⟩ ?_
  refine aw_bipush dX5_init_5 (by decide) ⟨by decide, by decide⟩ ?_
  refine aw_nI0 (c := s + 1) (n := 40) dX5_init_7 (by decide) hL (Nat.le_of_ble_eq_true rfl) (Nat.le_of_ble_eq_true rfl) ?_
  refine aw_prF 0 dX5_init_9 fl_RX5_9 ff_RX5_9 rfl (at_o ho) rfl rfl ⟨by omega, by omega⟩ (hn _ _ (by omega)) ?_
  rw [mk_1 (lo' := s + 2) (by omega) (by omega)]
  refine aw_aload_n dX5_init_12 rfl rfl ⟨by decide, by decide⟩ ?_
  refine aw_bipush dX5_init_13 (by decide) ⟨by decide, by decide⟩ ?_
  refine aw_nI (c := s + 2) (n := 40) (l' := [(100, 40), (100, 40)]) dX5_init_15 (by decide) (len_c (k := 1) hL rfl (by omega)) rfl (Nat.le_of_ble_eq_true rfl) (Nat.le_of_ble_eq_true rfl) ?_
  refine aw_prF 1 dX5_init_17 fl_RX5_15 ff_RX5_15 rfl (at_o ho) rfl rfl ⟨by omega, by omega⟩ (hn _ _ (by omega)) ?_
  rw [mk_s (hi' := s + 3) (by omega) (by omega) (by omega)]
  refine aw_aload_n dX5_init_20 rfl rfl ⟨by decide, by decide⟩ ?_
  refine aw_bipush dX5_init_21 (by decide) ⟨by decide, by decide⟩ ?_
  refine aw_nI (c := s + 3) (n := 40) (l' := [(100, 40), (100, 40), (100, 40)]) dX5_init_23 (by decide) (len_c (k := 2) hL rfl (by omega)) rfl (Nat.le_of_ble_eq_true rfl) (Nat.le_of_ble_eq_true rfl) ?_
  refine aw_prF 2 dX5_init_25 fl_RX5_18 ff_RX5_18 rfl (at_o ho) rfl rfl ⟨by omega, by omega⟩ (hn _ _ (by omega)) ?_
  rw [mk_s (hi' := s + 4) (by omega) (by omega) (by omega)]
  refine aw_aload_n dX5_init_28 rfl rfl ⟨by decide, by decide⟩ ?_
  refine aw_bipush dX5_init_29 (by decide) ⟨by decide, by decide⟩ ?_
  refine aw_nI (c := s + 4) (n := 40) (l' := [(100, 40), (100, 40), (100, 40), (100, 40)]) dX5_init_31 (by decide) (len_c (k := 3) hL rfl (by omega)) rfl (Nat.le_of_ble_eq_true rfl) (Nat.le_of_ble_eq_true rfl) ?_
  refine aw_prF 3 dX5_init_33 fl_RX5_21 ff_RX5_21 rfl (at_o ho) rfl rfl ⟨by omega, by omega⟩ (hn _ _ (by omega)) ?_
  rw [mk_s (hi' := s + 5) (by omega) (by omega) (by omega)]
  refine aw_aload_n dX5_init_36 rfl rfl ⟨by decide, by decide⟩ ?_
  refine aw_bipush dX5_init_37 (by decide) ⟨by decide, by decide⟩ ?_
  refine aw_nI (c := s + 5) (n := 40) (l' := [(100, 40), (100, 40), (100, 40), (100, 40), (100, 40)]) dX5_init_39 (by decide) (len_c (k := 4) hL rfl (by omega)) rfl (Nat.le_of_ble_eq_true rfl) (Nat.le_of_ble_eq_true rfl) ?_
  refine aw_prF 4 dX5_init_41 fl_RX5_24 ff_RX5_24 rfl (at_o ho) rfl rfl ⟨by omega, by omega⟩ (hn _ _ (by omega)) ?_
  rw [mk_s (hi' := s + 6) (by omega) (by omega) (by omega)]
  refine aw_aload_n dX5_init_44 rfl rfl ⟨by decide, by decide⟩ ?_
  refine aw_iconst dX5_init_45 rfl ⟨by decide, by decide⟩ ?_
  refine aw_pi 5 dX5_init_46 fl_RX5_27 (at_o ho) rfl rfl ?_
  rw [mk_u]
  generalize hg : gu (gu (gu (gu (gu (gu (M s) 0 (s + 1)) 1 (s + 2)) 2 (s + 3)) 3 (s + 4)) 4 (s + 5)) 5 0 = g
  refine aw_fz (fun hz => ?_)
  refine aw_freeze (fz_ok hz (at_o ho) (by decide) (F := [0, 1, 2, 3, 4]) (by decide)) ?_
  have hv : ∀ i v, g i = v → mk M s g (s + 1) (s + 6) s i = v := fun i v h => by rw [mk_o]; exact h
  refine aw_vret dX5_init_49 (by decide) (by decide) ⟨rfl, ⟨len_c (k := 5) hL rfl (by omega), fun a q h => at_o h, fun a i h => fz_n (by omega), fun a i h => ?_, fun b h => ?_⟩, ⟨at_o ho, at_c (i := 0) hL (by omega) rfl, at_c (i := 1) hL (by omega) rfl, at_c (i := 2) hL (by omega) rfl, at_c (i := 3) hL (by omega) rfl, at_c (i := 4) hL (by omega) rfl, fz_s (by decide) (hv _ _ (by rw [← hg]; rfl)), fz_s (by decide) (hv _ _ (by rw [← hg]; rfl)), fz_s (by decide) (hv _ _ (by rw [← hg]; rfl)), fz_s (by decide) (hv _ _ (by rw [← hg]; rfl)), fz_s (by decide) (hv _ _ (by rw [← hg]; rfl))⟩, hv _ _ (by rw [← hg]; rfl)⟩
  · exact (fz_n (by omega)).trans (hn a i (by omega))
  · rw [mk_b (by omega) (by omega)]
set_option maxHeartbeats 2000000 in
theorem sp_dinit {rd : Int} (hf : Fr K rd) (ho : az_at K rd (2, 9)) (r0 : 0 ≤ rd ∧ rd ≤ 900000) (M : az_M) : AM yX2_init cX2_init 1 none 2 8 210 [(1, rd)] K M (fun r K' M' => r = none ∧ NW K K' M M' rd (rd + 9) ∧ (az_at K' rd (2, 9) ∧ az_at K' (rd + 8) (100, 4) ∧ K'.2 rd 5 = some (rd + 8) ∧ K'.2 rd 0 = none ∧ K'.2 rd 4 = none) ∧ M' rd 7 = 0 ∧ M' rd 8 = -1) := by
  obtain ⟨hL, hn⟩ := hf
  refine am_of (by decide) (Nat.le_of_ble_eq_true rfl) (L := [(1, rd)]) rfl ?_
  refine aw_aload_n dX2_init_0 rfl rfl ⟨by decide, by decide⟩ ?_
  refine aw_objInit dX2_init_1 oi_RX2 (by omega) ⟨by decide, by decide⟩ ?_
  refine aw_aload_n dX2_init_4 rfl rfl ⟨by decide, by decide⟩ ?_
  refine aw_iconst dX2_init_5 rfl ⟨by decide, by decide⟩ ?_
  refine aw_nI0 (c := rd + 1) (n := 0) dX2_init_6 (by decide) hL (Nat.le_of_ble_eq_true rfl) (Nat.le_of_ble_eq_true rfl) ?_
  refine aw_pr 0 dX2_init_8 fl_RX2_9 (at_o ho) rfl rfl ⟨by omega, by omega⟩ (hn _ _ (by omega)) ?_
  rw [mk_1 (lo' := rd + 2) (by omega) (by omega)]
  refine aw_aload_n dX2_init_11 rfl rfl ⟨by decide, by decide⟩ ?_
  refine aw_iconst dX2_init_12 rfl ⟨by decide, by decide⟩ ?_
  refine aw_pi 1 dX2_init_13 fl_RX2_15 (at_o ho) rfl rfl ?_
  refine aw_aload_n dX2_init_16 rfl rfl ⟨by decide, by decide⟩ ?_
  refine aw_iconst dX2_init_17 rfl ⟨by decide, by decide⟩ ?_
  refine aw_pi 2 dX2_init_18 fl_RX2_19 (at_o ho) rfl rfl ?_
  refine aw_aload_n dX2_init_21 rfl rfl ⟨by decide, by decide⟩ ?_
  refine aw_iconst dX2_init_22 rfl ⟨by decide, by decide⟩ ?_
  refine aw_pi 3 dX2_init_23 fl_RX2_22 (at_o ho) rfl rfl ?_
  refine aw_aload_n dX2_init_26 rfl rfl ⟨by decide, by decide⟩ ?_
  rw [mk_u, mk_u, mk_u]
  have hL' : ((K.1 ++ [(100, 0)]).length : Int) = rd + 2 := len_c (k := 1) hL rfl (by omega)
  refine aw_nO (c := rd + 2) dX2_init_27 nc_RX2_25 (show az_nf 5 = 6 from rfl) hL' (by decide) (by decide) ?_
  refine aw_dup dX2_init_30 ?_
  refine aw_cI0 dX2_init_31 ml_RX2_27 (by omega) ⟨by decide, by decide, by decide, by decide⟩ (Nat.le_of_ble_eq_true rfl) (sp_sinit (s := rd + 2) (Fr.sub (K := (K.1 ++ [(100, 0)], K.2)) (o := rd) hL' (fun a i w => hn a i (by omega))) (at_n (K := (K.1 ++ [(100, 0)], K.2)) hL') (by omega) _) (fun K1 M1 hK1 => ?_)
  obtain ⟨⟨hL1, mo, ol, nn, ob⟩, -, -⟩ := hK1
  have ho1 : az_at K1 rd (2, 9) := mo _ _ (at_o (K := (K.1 ++ [(100, 0)], K.2)) (at_o ho))
  have hn1 : ∀ i, K1.2 rd i = none := fun i => (ol rd i (by omega)).trans (hn rd i (by omega))
  refine aw_pr 4 dX2_init_34 fl_RX2_28 ho1 rfl rfl ⟨by omega, by omega⟩ (hn1 _) ?_
  have e2 : ∀ b, b < rd → az_up M1 rd 4 (rd + 2) b = M b := fun b w => by rw [up_oth _ _ _ (by omega), ob b (by omega), nw_n _ _ (by omega), mk_b (by omega) (by omega)]
  generalize az_up M1 rd 4 (rd + 2) = M2 at e2 ⊢
  refine aw_aload_n dX2_init_37 rfl rfl ⟨by decide, by decide⟩ ?_
  refine aw_iconst dX2_init_38 rfl ⟨by decide, by decide⟩ ?_
  refine aw_nI0 (c := rd + 8) (n := 4) dX2_init_39 (by decide) (hL1.trans (by omega)) (Nat.le_of_ble_eq_true rfl) (Nat.le_of_ble_eq_true rfl) ?_
  refine aw_prF 5 dX2_init_41 fl_RX2_32 ff_RX2_32 rfl (at_o ho1) rfl rfl ⟨by omega, by omega⟩ (hn1 _) ?_
  rw [mk_1 (lo' := rd + 9) (by omega) (by omega)]
  refine aw_aload_n dX2_init_44 rfl rfl ⟨by decide, by decide⟩ ?_
  refine aw_iconst dX2_init_45 rfl ⟨by decide, by decide⟩ ?_
  refine aw_pi 6 dX2_init_46 fl_RX2_35 (at_o ho1) rfl rfl ?_
  refine aw_aload_n dX2_init_49 rfl rfl ⟨by decide, by decide⟩ ?_
  refine aw_iconst dX2_init_50 rfl ⟨by decide, by decide⟩ ?_
  refine aw_pi 7 dX2_init_51 fl_RX2_38 (at_o ho1) rfl rfl ?_
  refine aw_aload_n dX2_init_54 rfl rfl ⟨by decide, by decide⟩ ?_
  refine aw_iconst dX2_init_55 rfl ⟨by decide, by decide⟩ ?_
  refine aw_pi 8 dX2_init_56 fl_RX2_41 (at_o ho1) rfl rfl ?_
  rw [mk_u, mk_u, mk_u]
  generalize hg : gu (gu (gu (gu (M2 rd) 5 (rd + 8)) 6 0) 7 0) 8 (-1) = g
  refine aw_fz (fun hz => ?_)
  refine aw_freeze (fz_ok hz (at_o ho1) (by decide) (F := [5]) (by decide)) ?_
  have hv : ∀ i v, g i = v → mk M2 rd g (rd + 8) (rd + 9) rd i = v := fun i v h => by rw [mk_o]; exact h
  refine aw_vret dX2_init_59 (by decide) (by decide) ⟨rfl, ⟨len_c (k := 1) hL1 rfl (by omega), fun a q w => at_o (mo a q (at_o (K := (K.1 ++ [(100, 0)], K.2)) (at_o w))), fun a i w => (fz_n (by omega)).trans (ol a i (by omega)), fun a i w => (fz_n (by omega)).trans (nn a i (by omega)), fun b w => ?_⟩, ⟨at_o ho1, at_c (i := 0) hL1 (by omega) rfl, fz_s (by decide) (hv _ _ (by rw [← hg]; rfl)), fz_z (by decide), fz_z (by decide)⟩, hv _ _ (by rw [← hg]; rfl), hv _ _ (by rw [← hg]; rfl)⟩
  rw [mk_b (by omega) (by omega)]
  exact e2 b w
theorem sp_winit {rn h sc : Int} (ho : az_at K rn (4, 4)) (h0 : az_in h) (s0 : az_in sc) (z0 : K.2 rn 0 = none) (z1 : K.2 rn 1 = none) (M : az_M) : AM yX4_init cX4_init 3 none 1 0 0 [(1, rn), (1, h), (1, sc)] K M (qv K (fun M' => ∀ b, b ≠ rn → M' b = M b)) := by
  have r0 := ho.1
  refine am_of (by decide) (Nat.le_of_ble_eq_true rfl) (L := [(1, rn), (1, h), (1, sc)]) rfl ?_
  refine aw_aload_n dX4_init_0 rfl rfl ⟨by decide, by decide⟩ ?_
  refine aw_objInit dX4_init_1 oi_RX4 (by omega) ⟨by decide, by decide⟩ ?_
  refine aw_aload_n dX4_init_4 rfl rfl ⟨by decide, by decide⟩ ?_
  refine aw_iconst dX4_init_5 rfl ⟨by decide, by decide⟩ ?_
  refine aw_pi 2 dX4_init_6 fl_RX4_9 (by assumption) rfl rfl ?_
  refine aw_aload_n dX4_init_9 rfl rfl ⟨by decide, by decide⟩ ?_
  refine aw_iconst dX4_init_10 rfl ⟨by decide, by decide⟩ ?_
  refine aw_pz 3 dX4_init_11 fl_RX4_15 (by assumption) rfl rfl (by omega) ?_
  refine aw_aload_n dX4_init_14 rfl rfl ⟨by decide, by decide⟩ ?_
  refine aw_aload_n dX4_init_15 rfl rfl ⟨by decide, by decide⟩ ?_
  refine aw_pr 0 dX4_init_16 fl_RX4_19 (by assumption) rfl rfl h0 z0 ?_
  refine aw_aload_n dX4_init_19 rfl rfl ⟨by decide, by decide⟩ ?_
  refine aw_aload_n dX4_init_20 rfl rfl ⟨by decide, by decide⟩ ?_
  refine aw_pr 1 dX4_init_21 fl_RX4_23 (by assumption) rfl rfl s0 z1 ?_
  exact aw_vret dX4_init_24 (by decide) (by decide) ⟨rfl, rfl, fun b hb => by rw [up_oth _ _ _ hb, up_oth _ _ _ hb, up_oth _ _ _ hb, up_oth _ _ _ hb]⟩
set_option maxHeartbeats 4000000 in
theorem sp_minit {m : Int} (hf : Fr K m) (ho : az_at K m (7, 46)) (m0 : 0 ≤ m ∧ m ≤ 1000000) (M : az_M) (hd : M m = az_d0 7) : AM yX7_init cX7_init 1 none 1 25 21884 [(1, m)] K M (fun r K' M' => r = none ∧ NW K K' M M' m (m + 26) ∧ MdK K' m ∧ HM M' m (clrS 8) ∧ (∀ b, m + 1 < b → b < m + 26 → M' b = fun _ => 0) ∧ M' m 11 = 0 ∧ M' m 23 = 0 ∧ M' m 30 = 0 ∧ M' m 31 = -1 ∧ M' m 44 = 0 ∧ M' m 45 = 0) := by
  obtain ⟨hL, hn⟩ := hf
  refine am_of (by decide) (Nat.le_of_ble_eq_true rfl) (L := [(1, m)]) rfl ?_
  refine aw_aload_n dX7_init_0 rfl rfl ⟨by decide, by decide⟩ ?_
  refine aw_objInit dX7_init_1 oi_RX7 (by omega) ⟨by decide, by decide⟩ ?_
  refine aw_aload_n dX7_init_4 rfl rfl ⟨by decide, by decide⟩ ?_
  refine aw_sipush dX7_init_5 (by decide) ⟨by decide, by decide⟩ ?_
  refine aw_nI0 (c := m + 1) (n := 790) dX7_init_8 (by decide) hL (Nat.le_of_ble_eq_true rfl) (Nat.le_of_ble_eq_true rfl) ?_
  refine aw_prF 0 dX7_init_10 fl_RX7_7 ff_RX7_7 rfl (at_o ho) rfl rfl ⟨by omega, by omega⟩ (hn _ _ (by omega)) ?_
  rw [mk_1 (lo' := m + 2) (by omega) (by omega)]
  refine aw_aload_n dX7_init_13 rfl rfl ⟨by decide, by decide⟩ ?_
  refine aw_sipush dX7_init_14 (by decide) ⟨by decide, by decide⟩ ?_
  refine aw_nZ (c := m + 2) (n := 128) (l' := [(100, 790), (101, 128)]) dX7_init_17 (by decide) (len_c (k := 1) hL rfl (by omega)) rfl (Nat.le_of_ble_eq_true rfl) (Nat.le_of_ble_eq_true rfl) ?_
  refine aw_prF 1 dX7_init_19 fl_RX7_13 ff_RX7_13 rfl (at_o ho) rfl rfl ⟨by omega, by omega⟩ (hn _ _ (by omega)) ?_
  rw [mk_s (hi' := m + 3) (by omega) (by omega) (by omega)]
  refine aw_aload_n dX7_init_22 rfl rfl ⟨by decide, by decide⟩ ?_
  refine aw_sipush dX7_init_23 (by decide) ⟨by decide, by decide⟩ ?_
  refine aw_nZ (c := m + 3) (n := 128) (l' := [(100, 790), (101, 128), (101, 128)]) dX7_init_26 (by decide) (len_c (k := 2) hL rfl (by omega)) rfl (Nat.le_of_ble_eq_true rfl) (Nat.le_of_ble_eq_true rfl) ?_
  refine aw_prF 2 dX7_init_28 fl_RX7_17 ff_RX7_17 rfl (at_o ho) rfl rfl ⟨by omega, by omega⟩ (hn _ _ (by omega)) ?_
  rw [mk_s (hi' := m + 4) (by omega) (by omega) (by omega)]
  refine aw_aload_n dX7_init_31 rfl rfl ⟨by decide, by decide⟩ ?_
  refine aw_sipush dX7_init_32 (by decide) ⟨by decide, by decide⟩ ?_
  refine aw_nI (c := m + 4) (n := 128) (l' := [(100, 790), (101, 128), (101, 128), (100, 128)]) dX7_init_35 (by decide) (len_c (k := 3) hL rfl (by omega)) rfl (Nat.le_of_ble_eq_true rfl) (Nat.le_of_ble_eq_true rfl) ?_
  refine aw_prF 3 dX7_init_37 fl_RX7_20 ff_RX7_20 rfl (at_o ho) rfl rfl ⟨by omega, by omega⟩ (hn _ _ (by omega)) ?_
  rw [mk_s (hi' := m + 5) (by omega) (by omega) (by omega)]
  refine aw_aload_n dX7_init_40 rfl rfl ⟨by decide, by decide⟩ ?_
  refine aw_sipush dX7_init_41 (by decide) ⟨by decide, by decide⟩ ?_
  refine aw_nI (c := m + 5) (n := 128) (l' := [(100, 790), (101, 128), (101, 128), (100, 128), (100, 128)]) dX7_init_44 (by decide) (len_c (k := 4) hL rfl (by omega)) rfl (Nat.le_of_ble_eq_true rfl) (Nat.le_of_ble_eq_true rfl) ?_
  refine aw_prF 4 dX7_init_46 fl_RX7_23 ff_RX7_23 rfl (at_o ho) rfl rfl ⟨by omega, by omega⟩ (hn _ _ (by omega)) ?_
  rw [mk_s (hi' := m + 6) (by omega) (by omega) (by omega)]
  refine aw_aload_n dX7_init_49 rfl rfl ⟨by decide, by decide⟩ ?_
  refine aw_sipush dX7_init_50 (by decide) ⟨by decide, by decide⟩ ?_
  refine aw_nI (c := m + 6) (n := 790) (l' := [(100, 790), (101, 128), (101, 128), (100, 128), (100, 128), (100, 790)]) dX7_init_53 (by decide) (len_c (k := 5) hL rfl (by omega)) rfl (Nat.le_of_ble_eq_true rfl) (Nat.le_of_ble_eq_true rfl) ?_
  refine aw_prF 6 dX7_init_55 fl_RX7_26 ff_RX7_26 rfl (at_o ho) rfl rfl ⟨by omega, by omega⟩ (hn _ _ (by omega)) ?_
  rw [mk_s (hi' := m + 7) (by omega) (by omega) (by omega)]
  refine aw_aload_n dX7_init_58 rfl rfl ⟨by decide, by decide⟩ ?_
  refine aw_sipush dX7_init_59 (by decide) ⟨by decide, by decide⟩ ?_
  refine aw_nI (c := m + 7) (n := 790) (l' := [(100, 790), (101, 128), (101, 128), (100, 128), (100, 128), (100, 790), (100, 790)]) dX7_init_62 (by decide) (len_c (k := 6) hL rfl (by omega)) rfl (Nat.le_of_ble_eq_true rfl) (Nat.le_of_ble_eq_true rfl) ?_
  refine aw_prF 7 dX7_init_64 fl_RX7_29 ff_RX7_29 rfl (at_o ho) rfl rfl ⟨by omega, by omega⟩ (hn _ _ (by omega)) ?_
  rw [mk_s (hi' := m + 8) (by omega) (by omega) (by omega)]
  refine aw_aload_n dX7_init_67 rfl rfl ⟨by decide, by decide⟩ ?_
  refine aw_sipush dX7_init_68 (by decide) ⟨by decide, by decide⟩ ?_
  refine aw_nI (c := m + 8) (n := 400) (l' := [(100, 790), (101, 128), (101, 128), (100, 128), (100, 128), (100, 790), (100, 790), (100, 400)]) dX7_init_71 (by decide) (len_c (k := 7) hL rfl (by omega)) rfl (Nat.le_of_ble_eq_true rfl) (Nat.le_of_ble_eq_true rfl) ?_
  refine aw_prF 10 dX7_init_73 fl_RX7_32 ff_RX7_32 rfl (at_o ho) rfl rfl ⟨by omega, by omega⟩ (hn _ _ (by omega)) ?_
  rw [mk_s (hi' := m + 9) (by omega) (by omega) (by omega)]
  refine aw_aload_n dX7_init_76 rfl rfl ⟨by decide, by decide⟩ ?_
  refine aw_bipush dX7_init_77 (by decide) ⟨by decide, by decide⟩ ?_
  refine aw_nI (c := m + 9) (n := 41) (l' := [(100, 790), (101, 128), (101, 128), (100, 128), (100, 128), (100, 790), (100, 790), (100, 400), (100, 41)]) dX7_init_79 (by decide) (len_c (k := 8) hL rfl (by omega)) rfl (Nat.le_of_ble_eq_true rfl) (Nat.le_of_ble_eq_true rfl) ?_
  refine aw_prF 12 dX7_init_81 fl_RX7_35 ff_RX7_35 rfl (at_o ho) rfl rfl ⟨by omega, by omega⟩ (hn _ _ (by omega)) ?_
  rw [mk_s (hi' := m + 10) (by omega) (by omega) (by omega)]
  refine aw_aload_n dX7_init_84 rfl rfl ⟨by decide, by decide⟩ ?_
  refine aw_bipush dX7_init_85 (by decide) ⟨by decide, by decide⟩ ?_
  refine aw_nI (c := m + 10) (n := 41) (l' := [(100, 790), (101, 128), (101, 128), (100, 128), (100, 128), (100, 790), (100, 790), (100, 400), (100, 41), (100, 41)]) dX7_init_87 (by decide) (len_c (k := 9) hL rfl (by omega)) rfl (Nat.le_of_ble_eq_true rfl) (Nat.le_of_ble_eq_true rfl) ?_
  refine aw_prF 13 dX7_init_89 fl_RX7_38 ff_RX7_38 rfl (at_o ho) rfl rfl ⟨by omega, by omega⟩ (hn _ _ (by omega)) ?_
  rw [mk_s (hi' := m + 11) (by omega) (by omega) (by omega)]
  refine aw_aload_n dX7_init_92 rfl rfl ⟨by decide, by decide⟩ ?_
  refine aw_bipush dX7_init_93 (by decide) ⟨by decide, by decide⟩ ?_
  refine aw_nI (c := m + 11) (n := 41) (l' := [(100, 790), (101, 128), (101, 128), (100, 128), (100, 128), (100, 790), (100, 790), (100, 400), (100, 41), (100, 41), (100, 41)]) dX7_init_95 (by decide) (len_c (k := 10) hL rfl (by omega)) rfl (Nat.le_of_ble_eq_true rfl) (Nat.le_of_ble_eq_true rfl) ?_
  refine aw_prF 14 dX7_init_97 fl_RX7_41 ff_RX7_41 rfl (at_o ho) rfl rfl ⟨by omega, by omega⟩ (hn _ _ (by omega)) ?_
  rw [mk_s (hi' := m + 12) (by omega) (by omega) (by omega)]
  refine aw_aload_n dX7_init_100 rfl rfl ⟨by decide, by decide⟩ ?_
  refine aw_bipush dX7_init_101 (by decide) ⟨by decide, by decide⟩ ?_
  refine aw_nI (c := m + 12) (n := 41) (l' := [(100, 790), (101, 128), (101, 128), (100, 128), (100, 128), (100, 790), (100, 790), (100, 400), (100, 41), (100, 41), (100, 41), (100, 41)]) dX7_init_103 (by decide) (len_c (k := 11) hL rfl (by omega)) rfl (Nat.le_of_ble_eq_true rfl) (Nat.le_of_ble_eq_true rfl) ?_
  refine aw_prF 15 dX7_init_105 fl_RX7_44 ff_RX7_44 rfl (at_o ho) rfl rfl ⟨by omega, by omega⟩ (hn _ _ (by omega)) ?_
  rw [mk_s (hi' := m + 13) (by omega) (by omega) (by omega)]
  refine aw_aload_n dX7_init_108 rfl rfl ⟨by decide, by decide⟩ ?_
  refine aw_bipush dX7_init_109 (by decide) ⟨by decide, by decide⟩ ?_
  refine aw_nI (c := m + 13) (n := 41) (l' := [(100, 790), (101, 128), (101, 128), (100, 128), (100, 128), (100, 790), (100, 790), (100, 400), (100, 41), (100, 41), (100, 41), (100, 41), (100, 41)]) dX7_init_111 (by decide) (len_c (k := 12) hL rfl (by omega)) rfl (Nat.le_of_ble_eq_true rfl) (Nat.le_of_ble_eq_true rfl) ?_
  refine aw_prF 16 dX7_init_113 fl_RX7_47 ff_RX7_47 rfl (at_o ho) rfl rfl ⟨by omega, by omega⟩ (hn _ _ (by omega)) ?_
  rw [mk_s (hi' := m + 14) (by omega) (by omega) (by omega)]
  refine aw_aload_n dX7_init_116 rfl rfl ⟨by decide, by decide⟩ ?_
  refine aw_bipush dX7_init_117 (by decide) ⟨by decide, by decide⟩ ?_
  refine aw_nI (c := m + 14) (n := 41) (l' := [(100, 790), (101, 128), (101, 128), (100, 128), (100, 128), (100, 790), (100, 790), (100, 400), (100, 41), (100, 41), (100, 41), (100, 41), (100, 41), (100, 41)]) dX7_init_119 (by decide) (len_c (k := 13) hL rfl (by omega)) rfl (Nat.le_of_ble_eq_true rfl) (Nat.le_of_ble_eq_true rfl) ?_
  refine aw_prF 17 dX7_init_121 fl_RX7_50 ff_RX7_50 rfl (at_o ho) rfl rfl ⟨by omega, by omega⟩ (hn _ _ (by omega)) ?_
  rw [mk_s (hi' := m + 15) (by omega) (by omega) (by omega)]
  refine aw_aload_n dX7_init_124 rfl rfl ⟨by decide, by decide⟩ ?_
  refine aw_bipush dX7_init_125 (by decide) ⟨by decide, by decide⟩ ?_
  refine aw_nI (c := m + 15) (n := 41) (l' := [(100, 790), (101, 128), (101, 128), (100, 128), (100, 128), (100, 790), (100, 790), (100, 400), (100, 41), (100, 41), (100, 41), (100, 41), (100, 41), (100, 41), (100, 41)]) dX7_init_127 (by decide) (len_c (k := 14) hL rfl (by omega)) rfl (Nat.le_of_ble_eq_true rfl) (Nat.le_of_ble_eq_true rfl) ?_
  refine aw_prF 18 dX7_init_129 fl_RX7_53 ff_RX7_53 rfl (at_o ho) rfl rfl ⟨by omega, by omega⟩ (hn _ _ (by omega)) ?_
  rw [mk_s (hi' := m + 16) (by omega) (by omega) (by omega)]
  refine aw_aload_n dX7_init_132 rfl rfl ⟨by decide, by decide⟩ ?_
  refine aw_bipush dX7_init_133 (by decide) ⟨by decide, by decide⟩ ?_
  refine aw_nI (c := m + 16) (n := 41) (l' := [(100, 790), (101, 128), (101, 128), (100, 128), (100, 128), (100, 790), (100, 790), (100, 400), (100, 41), (100, 41), (100, 41), (100, 41), (100, 41), (100, 41), (100, 41), (100, 41)]) dX7_init_135 (by decide) (len_c (k := 15) hL rfl (by omega)) rfl (Nat.le_of_ble_eq_true rfl) (Nat.le_of_ble_eq_true rfl) ?_
  refine aw_prF 19 dX7_init_137 fl_RX7_56 ff_RX7_56 rfl (at_o ho) rfl rfl ⟨by omega, by omega⟩ (hn _ _ (by omega)) ?_
  rw [mk_s (hi' := m + 17) (by omega) (by omega) (by omega)]
  refine aw_aload_n dX7_init_140 rfl rfl ⟨by decide, by decide⟩ ?_
  refine aw_bipush dX7_init_141 (by decide) ⟨by decide, by decide⟩ ?_
  refine aw_nI (c := m + 17) (n := 41) (l' := [(100, 790), (101, 128), (101, 128), (100, 128), (100, 128), (100, 790), (100, 790), (100, 400), (100, 41), (100, 41), (100, 41), (100, 41), (100, 41), (100, 41), (100, 41), (100, 41), (100, 41)]) dX7_init_143 (by decide) (len_c (k := 16) hL rfl (by omega)) rfl (Nat.le_of_ble_eq_true rfl) (Nat.le_of_ble_eq_true rfl) ?_
  refine aw_prF 20 dX7_init_145 fl_RX7_59 ff_RX7_59 rfl (at_o ho) rfl rfl ⟨by omega, by omega⟩ (hn _ _ (by omega)) ?_
  rw [mk_s (hi' := m + 18) (by omega) (by omega) (by omega)]
  refine aw_aload_n dX7_init_148 rfl rfl ⟨by decide, by decide⟩ ?_
  refine aw_bipush dX7_init_149 (by decide) ⟨by decide, by decide⟩ ?_
  refine aw_nI (c := m + 18) (n := 41) (l' := [(100, 790), (101, 128), (101, 128), (100, 128), (100, 128), (100, 790), (100, 790), (100, 400), (100, 41), (100, 41), (100, 41), (100, 41), (100, 41), (100, 41), (100, 41), (100, 41), (100, 41), (100, 41)]) dX7_init_151 (by decide) (len_c (k := 17) hL rfl (by omega)) rfl (Nat.le_of_ble_eq_true rfl) (Nat.le_of_ble_eq_true rfl) ?_
  refine aw_prF 21 dX7_init_153 fl_RX7_62 ff_RX7_62 rfl (at_o ho) rfl rfl ⟨by omega, by omega⟩ (hn _ _ (by omega)) ?_
  rw [mk_s (hi' := m + 19) (by omega) (by omega) (by omega)]
  refine aw_aload_n dX7_init_156 rfl rfl ⟨by decide, by decide⟩ ?_
  refine aw_iconst dX7_init_157 rfl ⟨by decide, by decide⟩ ?_
  refine aw_pi 31 dX7_init_158 fl_RX7_65 (at_o ho) rfl rfl ?_
  rw [mk_u]
  refine aw_aload_n dX7_init_161 rfl rfl ⟨by decide, by decide⟩ ?_
  refine aw_iconst dX7_init_162 rfl ⟨by decide, by decide⟩ ?_
  refine aw_nI (c := m + 19) (n := 5) (l' := [(100, 790), (101, 128), (101, 128), (100, 128), (100, 128), (100, 790), (100, 790), (100, 400), (100, 41), (100, 41), (100, 41), (100, 41), (100, 41), (100, 41), (100, 41), (100, 41), (100, 41), (100, 41), (100, 5)]) dX7_init_163 (by decide) (len_c (k := 18) hL rfl (by omega)) rfl (Nat.le_of_ble_eq_true rfl) (Nat.le_of_ble_eq_true rfl) ?_
  refine aw_prF 35 dX7_init_165 fl_RX7_69 ff_RX7_69 rfl (at_o ho) rfl rfl ⟨by omega, by omega⟩ (hn _ _ (by omega)) ?_
  rw [mk_s (hi' := m + 20) (by omega) (by omega) (by omega)]
  refine aw_aload_n dX7_init_168 rfl rfl ⟨by decide, by decide⟩ ?_
  refine aw_iconst dX7_init_169 rfl ⟨by decide, by decide⟩ ?_
  refine aw_nI (c := m + 20) (n := 5) (l' := [(100, 790), (101, 128), (101, 128), (100, 128), (100, 128), (100, 790), (100, 790), (100, 400), (100, 41), (100, 41), (100, 41), (100, 41), (100, 41), (100, 41), (100, 41), (100, 41), (100, 41), (100, 41), (100, 5), (100, 5)]) dX7_init_170 (by decide) (len_c (k := 19) hL rfl (by omega)) rfl (Nat.le_of_ble_eq_true rfl) (Nat.le_of_ble_eq_true rfl) ?_
  refine aw_prF 36 dX7_init_172 fl_RX7_72 ff_RX7_72 rfl (at_o ho) rfl rfl ⟨by omega, by omega⟩ (hn _ _ (by omega)) ?_
  rw [mk_s (hi' := m + 21) (by omega) (by omega) (by omega)]
  refine aw_aload_n dX7_init_175 rfl rfl ⟨by decide, by decide⟩ ?_
  refine aw_iconst dX7_init_176 rfl ⟨by decide, by decide⟩ ?_
  refine aw_nI (c := m + 21) (n := 5) (l' := [(100, 790), (101, 128), (101, 128), (100, 128), (100, 128), (100, 790), (100, 790), (100, 400), (100, 41), (100, 41), (100, 41), (100, 41), (100, 41), (100, 41), (100, 41), (100, 41), (100, 41), (100, 41), (100, 5), (100, 5), (100, 5)]) dX7_init_177 (by decide) (len_c (k := 20) hL rfl (by omega)) rfl (Nat.le_of_ble_eq_true rfl) (Nat.le_of_ble_eq_true rfl) ?_
  refine aw_prF 37 dX7_init_179 fl_RX7_75 ff_RX7_75 rfl (at_o ho) rfl rfl ⟨by omega, by omega⟩ (hn _ _ (by omega)) ?_
  rw [mk_s (hi' := m + 22) (by omega) (by omega) (by omega)]
  refine aw_aload_n dX7_init_182 rfl rfl ⟨by decide, by decide⟩ ?_
  refine aw_iconst dX7_init_183 rfl ⟨by decide, by decide⟩ ?_
  refine aw_nI (c := m + 22) (n := 5) (l' := [(100, 790), (101, 128), (101, 128), (100, 128), (100, 128), (100, 790), (100, 790), (100, 400), (100, 41), (100, 41), (100, 41), (100, 41), (100, 41), (100, 41), (100, 41), (100, 41), (100, 41), (100, 41), (100, 5), (100, 5), (100, 5), (100, 5)]) dX7_init_184 (by decide) (len_c (k := 21) hL rfl (by omega)) rfl (Nat.le_of_ble_eq_true rfl) (Nat.le_of_ble_eq_true rfl) ?_
  refine aw_prF 38 dX7_init_186 fl_RX7_78 ff_RX7_78 rfl (at_o ho) rfl rfl ⟨by omega, by omega⟩ (hn _ _ (by omega)) ?_
  rw [mk_s (hi' := m + 23) (by omega) (by omega) (by omega)]
  refine aw_aload_n dX7_init_189 rfl rfl ⟨by decide, by decide⟩ ?_
  refine aw_sipush dX7_init_190 (by decide) ⟨by decide, by decide⟩ ?_
  refine aw_nI (c := m + 23) (n := 16590) (l' := [(100, 790), (101, 128), (101, 128), (100, 128), (100, 128), (100, 790), (100, 790), (100, 400), (100, 41), (100, 41), (100, 41), (100, 41), (100, 41), (100, 41), (100, 41), (100, 41), (100, 41), (100, 41), (100, 5), (100, 5), (100, 5), (100, 5), (100, 16590)]) dX7_init_193 (by decide) (len_c (k := 22) hL rfl (by omega)) rfl (Nat.le_of_ble_eq_true rfl) (Nat.le_of_ble_eq_true rfl) ?_
  refine aw_prF 41 dX7_init_195 fl_RX7_81 ff_RX7_81 rfl (at_o ho) rfl rfl ⟨by omega, by omega⟩ (hn _ _ (by omega)) ?_
  rw [mk_s (hi' := m + 24) (by omega) (by omega) (by omega)]
  refine aw_aload_n dX7_init_198 rfl rfl ⟨by decide, by decide⟩ ?_
  refine aw_sipush dX7_init_199 (by decide) ⟨by decide, by decide⟩ ?_
  refine aw_nI (c := m + 24) (n := 1580) (l' := [(100, 790), (101, 128), (101, 128), (100, 128), (100, 128), (100, 790), (100, 790), (100, 400), (100, 41), (100, 41), (100, 41), (100, 41), (100, 41), (100, 41), (100, 41), (100, 41), (100, 41), (100, 41), (100, 5), (100, 5), (100, 5), (100, 5), (100, 16590), (100, 1580)]) dX7_init_202 (by decide) (len_c (k := 23) hL rfl (by omega)) rfl (Nat.le_of_ble_eq_true rfl) (Nat.le_of_ble_eq_true rfl) ?_
  refine aw_prF 42 dX7_init_204 fl_RX7_84 ff_RX7_84 rfl (at_o ho) rfl rfl ⟨by omega, by omega⟩ (hn _ _ (by omega)) ?_
  rw [mk_s (hi' := m + 25) (by omega) (by omega) (by omega)]
  refine aw_aload_n dX7_init_207 rfl rfl ⟨by decide, by decide⟩ ?_
  refine aw_iconst dX7_init_208 rfl ⟨by decide, by decide⟩ ?_
  refine aw_nZ (c := m + 25) (n := 2) (l' := [(100, 790), (101, 128), (101, 128), (100, 128), (100, 128), (100, 790), (100, 790), (100, 400), (100, 41), (100, 41), (100, 41), (100, 41), (100, 41), (100, 41), (100, 41), (100, 41), (100, 41), (100, 41), (100, 5), (100, 5), (100, 5), (100, 5), (100, 16590), (100, 1580), (101, 2)]) dX7_init_209 (by decide) (len_c (k := 24) hL rfl (by omega)) rfl (Nat.le_of_ble_eq_true rfl) (Nat.le_of_ble_eq_true rfl) ?_
  refine aw_prF 43 dX7_init_211 fl_RX7_87 ff_RX7_87 rfl (at_o ho) rfl rfl ⟨by omega, by omega⟩ (hn _ _ (by omega)) ?_
  rw [mk_s (hi' := m + 26) (by omega) (by omega) (by omega)]
  generalize hg : gu (gu (gu (gu (gu (gu (gu (gu (gu (gu (gu (gu (gu (gu (gu (gu (gu (gu (gu (gu (gu (gu (gu (gu (gu (gu (M m) 0 (m + 1)) 1 (m + 2)) 2 (m + 3)) 3 (m + 4)) 4 (m + 5)) 6 (m + 6)) 7 (m + 7)) 10 (m + 8)) 12 (m + 9)) 13 (m + 10)) 14 (m + 11)) 15 (m + 12)) 16 (m + 13)) 17 (m + 14)) 18 (m + 15)) 19 (m + 16)) 20 (m + 17)) 21 (m + 18)) 31 (-1)) 35 (m + 19)) 36 (m + 20)) 37 (m + 21)) 38 (m + 22)) 41 (m + 23)) 42 (m + 24)) 43 (m + 25) = g
  refine aw_fz (fun hz => ?_)
  refine aw_freeze (fz_ok hz (at_o ho) (by decide) (F := [0, 1, 2, 3, 4, 6, 7, 10, 12, 13, 14, 15, 16, 17, 18, 19, 20, 21, 35, 36, 37, 38, 41, 42, 43]) (by decide)) ?_
  have hv : ∀ i v, g i = v → mk M m g (m + 1) (m + 26) m i = v := fun i v h => by rw [mk_o]; exact h
  have hR : MdK (K.1 ++ [(100, 790), (101, 128), (101, 128), (100, 128), (100, 128), (100, 790), (100, 790), (100, 400), (100, 41), (100, 41), (100, 41), (100, 41), (100, 41), (100, 41), (100, 41), (100, 41), (100, 41), (100, 41), (100, 5), (100, 5), (100, 5), (100, 5), (100, 16590), (100, 1580), (101, 2)], fz K.2 (mk M m g (m + 1) (m + 26)) m [0, 1, 2, 3, 4, 6, 7, 10, 12, 13, 14, 15, 16, 17, 18, 19, 20, 21, 35, 36, 37, 38, 41, 42, 43]) m := ⟨⟨⟨at_o ho, at_c (i := 0) hL (by omega) rfl, fz_s (by decide) (hv _ _ (by rw [← hg]; rfl))⟩, at_c (i := 1) hL (by omega) rfl, fz_s (by decide) (hv _ _ (by rw [← hg]; rfl))⟩, at_c (i := 2) hL (by omega) rfl, at_c (i := 3) hL (by omega) rfl, at_c (i := 4) hL (by omega) rfl, at_c (i := 5) hL (by omega) rfl, at_c (i := 6) hL (by omega) rfl, at_c (i := 7) hL (by omega) rfl, at_c (i := 8) hL (by omega) rfl, at_c (i := 9) hL (by omega) rfl, at_c (i := 10) hL (by omega) rfl, at_c (i := 11) hL (by omega) rfl, at_c (i := 12) hL (by omega) rfl, at_c (i := 13) hL (by omega) rfl, at_c (i := 14) hL (by omega) rfl, at_c (i := 15) hL (by omega) rfl, at_c (i := 16) hL (by omega) rfl, at_c (i := 17) hL (by omega) rfl, at_c (i := 18) hL (by omega) rfl, at_c (i := 19) hL (by omega) rfl, at_c (i := 20) hL (by omega) rfl, at_c (i := 21) hL (by omega) rfl, at_c (i := 22) hL (by omega) rfl, at_c (i := 23) hL (by omega) rfl, at_c (i := 24) hL (by omega) rfl, fz_s (by decide) (hv _ _ (by rw [← hg]; rfl)), fz_s (by decide) (hv _ _ (by rw [← hg]; rfl)), fz_s (by decide) (hv _ _ (by rw [← hg]; rfl)), fz_s (by decide) (hv _ _ (by rw [← hg]; rfl)), fz_s (by decide) (hv _ _ (by rw [← hg]; rfl)), fz_s (by decide) (hv _ _ (by rw [← hg]; rfl)), fz_s (by decide) (hv _ _ (by rw [← hg]; rfl)), fz_s (by decide) (hv _ _ (by rw [← hg]; rfl)), fz_s (by decide) (hv _ _ (by rw [← hg]; rfl)), fz_s (by decide) (hv _ _ (by rw [← hg]; rfl)), fz_s (by decide) (hv _ _ (by rw [← hg]; rfl)), fz_s (by decide) (hv _ _ (by rw [← hg]; rfl)), fz_s (by decide) (hv _ _ (by rw [← hg]; rfl)), fz_s (by decide) (hv _ _ (by rw [← hg]; rfl)), fz_s (by decide) (hv _ _ (by rw [← hg]; rfl)), fz_s (by decide) (hv _ _ (by rw [← hg]; rfl)), fz_s (by decide) (hv _ _ (by rw [← hg]; rfl)), fz_s (by decide) (hv _ _ (by rw [← hg]; rfl)), fz_s (by decide) (hv _ _ (by rw [← hg]; rfl)), fz_s (by decide) (hv _ _ (by rw [← hg]; rfl)), fz_s (by decide) (hv _ _ (by rw [← hg]; rfl)), fz_s (by decide) (hv _ _ (by rw [← hg]; rfl)), fz_s (by decide) (hv _ _ (by rw [← hg]; rfl))⟩
  refine aw_aload_n dX7_init_214 rfl rfl ⟨by decide, by decide⟩ ?_
  refine aw_bipush dX7_init_215 (by decide) ⟨by decide, by decide⟩ ?_
  refine aw_cV1v dX7_init_217 ml_RX7_90 (at_o ho) (by decide) rfl rfl ⟨by decide, by decide, by decide, by decide⟩ (Nat.le_of_ble_eq_true rfl) (sp_beginAnew hR.1.1 _ 8) (fun M2 hM2 => ?_)
  have hv2 : ∀ i v, g i = v → M2 m i = v := fun i v h => by rw [hM2.2 _ (by omega)]; exact hv i v h
  have hd0 : ∀ i : Int, az_rf 7 i.toNat ≠ 1 → M m i = 0 := fun i h => by rw [hd]; exact if_neg h
  refine aw_vret dX7_init_220 (Nat.le_of_ble_eq_true rfl) (Nat.le_of_ble_eq_true rfl) ⟨rfl, ⟨len_c (k := 25) hL rfl (by omega), fun a q h => at_o h, fun a i h => fz_n (by omega), fun a i h => ?_, fun b h => ?_⟩, hR, hM2.1, fun b b0 b1 => ?_, hv2 _ _ ?_, hv2 _ _ ?_, hv2 _ _ ?_, hv2 _ _ ?_, hv2 _ _ ?_, hv2 _ _ ?_⟩
  · exact (fz_n (by omega)).trans (hn a i (by omega))
  · rw [hM2.2 b (by omega), mk_b (by omega) (by omega)]
  · rw [hM2.2 b (by omega), mk_z (by omega) (by omega) (by omega)]
  · rw [← hg]; exact hd0 11 (by decide)
  · rw [← hg]; exact hd0 23 (by decide)
  · rw [← hg]; exact hd0 30 (by decide)
  · rw [← hg]; rfl
  · rw [← hg]; exact hd0 44 (by decide)
  · rw [← hg]; exact hd0 45 (by decide)
end IN
