/-! Rings.clear, Heap.clear, Rings.become, Heap.become -/
theorem RR_congr {nx pv ro ct nx' pv' ro' ct' : Int → Int} {rg : Int → List Int} (h : RR nx pv ro ct rg) (h1 : ∀ x, 0 ≤ x → x < 77 → nx' x = nx x) (h2 : ∀ x, 0 ≤ x → x < 77 → pv' x = pv x) (h3 : ∀ x, 0 ≤ x → x < 64 → ro' x = ro x) (h4 : ∀ x, 0 ≤ x → x < 13 → ct' x = ct x) : RR nx' pv' ro' ct' rg := by
  obtain ⟨a, b, c⟩ := h
  refine ⟨fun x x0 x1 => ?_, fun k k0 k1 => ?_, fun x x0 x1 => ?_⟩
  · obtain ⟨q1, q2, q3, q4⟩ := a x x0 x1
    rw [h1 x x0 x1, h2 x x0 x1, h2 _ q1.1 q1.2, h1 _ q2.1 q2.2]
    exact ⟨q1, q2, q3, q4⟩
  · obtain ⟨q1, q2, q3, q4⟩ := b k k0 k1
    refine ⟨ch_congr (fun x hx => ?_) q1, q2, by rw [h4 k (by omega) (by omega)]; exact q3, fun x hx => ?_⟩
    · rcases hx with e | e
      · exact h1 x (by omega) (by omega)
      · have := q4 x e; exact h1 x (by omega) (by omega)
    · have := q4 x hx
      rw [h3 x this.1 this.2.1]; exact this
  · rw [h3 x x0 x1]; exact c x x0 x1
theorem HC_copy {M M' : az_M} {h h' : Int} {g : Int → Int} {rg : Int → List Int} {gl : List Int} (hc : HC M h g rg gl) (hw : WF0 g rg gl) (hlen : gl.length ≤ 64)
    (e2 : ∀ x, 0 ≤ x → x < 77 → M' (h' + 2) x = M (h + 2) x) (e3 : ∀ x, 0 ≤ x → x < 77 → M' (h' + 3) x = M (h + 3) x) (e4 : ∀ x, 0 ≤ x → x < 64 → M' (h' + 4) x = M (h + 4) x) (e5 : ∀ x, 0 ≤ x → x < 13 → M' (h' + 5) x = M (h + 5) x)
    (e6 : ∀ x, 0 ≤ x → x < 128 → M' (h' + 6) x = M (h + 6) x) (e7 : ∀ x, 0 ≤ x → x < 8 → M' (h' + 7) x = M (h + 7) x) (e8 : ∀ x, 0 ≤ x → x < 8 → M' (h' + 8) x = M (h + 8) x) (e9 : ∀ x, 0 ≤ x → x < 6 → M' (h' + 9) x = M (h + 9) x) (e10 : ∀ x, 0 ≤ x → x < 4 → M' (h' + 10) x = M (h + 10) x)
    (e11 : ∀ x, 0 ≤ x → x < 64 → M' (h' + 11) x = M (h + 11) x) (e12 : ∀ x, 0 ≤ x → x < 4 → M' (h' + 12) x = M (h + 12) x) (e13 : ∀ x, 0 ≤ x → x < 6 → M' (h' + 13) x = M (h + 13) x) (e14 : ∀ x, 0 ≤ x → x < 48 → M' (h' + 14) x = M (h + 14) x) (e0 : ∀ x, 10 ≤ x → x ≤ 15 → M' h' x = M h x) : HC M' h' g rg gl := by
  obtain ⟨q1, q2, q3, q4, q5, q6, q7, q8, q9, q10, q11⟩ := hc
  refine ⟨RR_congr q1 e2 e3 e4 e5, ?_, ?_, ?_, ?_, ?_, ?_, ?_, ?_, ?_, ?_⟩
  · intro n n0 n1
    rw [e4 n n0 n1]; exact q2 n n0 n1
  · intro a ha
    have a0 := ha.1
    have a1 := ha.2.1
    rw [e6 a a0 a1]
    have := q3 a ha
    refine ⟨this.1, fun q => ⟨(this.2 q).1, fun f f0 f1 => ?_⟩⟩
    have hfl := (hw.2.2.2.1 a ha).2 q
    have hb := base_of hw.1 (f := f + 1) ha (by omega) (by omega)
    rw [e6 _ (by omega) (by omega)]
    exact (this.2 q).2 f f0 f1
  · intro p p0 p1
    rw [e7 p p0 p1]; exact q4 p p0 p1
  · intro p p0 p1
    rw [e8 p p0 p1]; exact q5 p p0 p1
  · refine ⟨fun r r0 r1 => by rw [e9 r r0 r1]; exact q6.1 r r0 r1, fun w w0 w1 => by rw [e10 w w0 w1]; exact q6.2 w w0 w1⟩
  · refine ⟨by rw [e0 11 (by omega) (by omega)]; exact q7.1, fun i hi => by rw [e11 i (by omega) (by omega)]; exact q7.2 i hi⟩
  · intro i i0 i1
    rw [e12 i i0 i1]; exact q8 i i0 i1
  · intro i i0 i1
    rw [e13 i i0 i1]; exact q9 i i0 i1
  · refine ⟨q10.1, q10.2.1, fun i w i0 i1 w0 w1 => ?_⟩
    rw [e14 _ (by omega) (by omega)]; exact q10.2.2 i w i0 i1 w0 w1
  · unfold c_sca
    rw [e0 10 (by omega) (by omega), e0 12 (by omega) (by omega), e0 13 (by omega) (by omega), e0 14 (by omega) (by omega), e0 15 (by omega) (by omega)]
    exact q11
theorem HS_fr {M M' : az_M} {h : Int} {S : hSt} (hc : HS M h S) (ho : ∀ b, h ≤ b → b ≤ h + 14 → M' b = M b) : HS M' h S := by
  unfold HS HC c_row c_cel c_siz c_use c_nam c_gry c_set c_tal c_log c_sca
  rw [ho h (by omega) (by omega), ho (h + 2) (by omega) (by omega), ho (h + 3) (by omega) (by omega), ho (h + 4) (by omega) (by omega), ho (h + 5) (by omega) (by omega), ho (h + 6) (by omega) (by omega), ho (h + 7) (by omega) (by omega), ho (h + 8) (by omega) (by omega), ho (h + 9) (by omega) (by omega), ho (h + 10) (by omega) (by omega), ho (h + 11) (by omega) (by omega), ho (h + 12) (by omega) (by omega), ho (h + 13) (by omega) (by omega), ho (h + 14) (by omega) (by omega)]
  exact hc
theorem cp_in (M : az_M) {a b n j : Int} (j0 : 0 ≤ j) (j1 : j < n) : az_cp M a b n b j = M a j := by unfold az_cp; rw [if_pos ⟨rfl, j0, j1⟩]
theorem cp_oth (M : az_M) {a b n x : Int} (h : x ≠ b) : az_cp M a b n x = M x := by
  funext j
  unfold az_cp
  rw [if_neg (fun q => h q.1)]
set_option maxRecDepth 20000 in
theorem sp_rbecome {K : az_K} {q o : Int} (hK : RgK K q) (hK' : RgK K o) (hne : q + 5 < o ∨ o + 5 < q) (M : az_M) : AM yX3_become cX3_become 2 none 1 0 0 [(1, q + 1), (1, o + 1)] K M (qv K (fun M' => (∀ x, 0 ≤ x → x < 77 → M' (q + 2) x = M (o + 2) x) ∧ (∀ x, 0 ≤ x → x < 77 → M' (q + 3) x = M (o + 3) x) ∧ (∀ x, 0 ≤ x → x < 64 → M' (q + 4) x = M (o + 4) x) ∧ (∀ x, 0 ≤ x → x < 13 → M' (q + 5) x = M (o + 5) x) ∧ ∀ b, b < q + 2 ∨ q + 5 < b → M' b = M b)) := by
  obtain ⟨k0, k1, k2, k3, k4, z0, z1, z2, z3⟩ := hK
  obtain ⟨k0', k1', k2', k3', k4', z0', z1', z2', z3'⟩ := hK'
  refine am_of (by decide) (Nat.le_of_ble_eq_true rfl) (L := [(1, q + 1), (1, o + 1)]) rfl ?_
  refine aw_aload_n dX3_become_0 rfl rfl ⟨by decide, by decide⟩ ?_
  refine aw_gzF 0 dX3_become_1 fl_RX3_11 (by assumption) rfl rfl (by assumption) ?_
  refine aw_iconst dX3_become_4 rfl ⟨by decide, by decide⟩ ?_
  refine aw_aload_n dX3_become_5 rfl rfl ⟨by decide, by decide⟩ ?_
  refine aw_gzF 0 dX3_become_6 fl_RX3_11 (by assumption) rfl rfl (by assumption) ?_
  refine aw_iconst dX3_become_9 rfl ⟨by decide, by decide⟩ ?_
  refine aw_aload_n dX3_become_10 rfl rfl ⟨by decide, by decide⟩ ?_
  refine aw_gzF 0 dX3_become_11 fl_RX3_11 (by assumption) rfl rfl (by assumption) ?_
  refine aw_alen100 dX3_become_14 (by assumption) ⟨by omega, by omega⟩ ?_
  refine aw_copy dX3_become_15 cp_RX3_33 (by assumption) (by assumption) (by decide) (by decide) ⟨by decide, by decide⟩ ?_
  refine aw_aload_n dX3_become_18 rfl rfl ⟨by decide, by decide⟩ ?_
  refine aw_gzF 1 dX3_become_19 fl_RX3_15 (by assumption) rfl rfl (by assumption) ?_
  refine aw_iconst dX3_become_22 rfl ⟨by decide, by decide⟩ ?_
  refine aw_aload_n dX3_become_23 rfl rfl ⟨by decide, by decide⟩ ?_
  refine aw_gzF 1 dX3_become_24 fl_RX3_15 (by assumption) rfl rfl (by assumption) ?_
  refine aw_iconst dX3_become_27 rfl ⟨by decide, by decide⟩ ?_
  refine aw_aload_n dX3_become_28 rfl rfl ⟨by decide, by decide⟩ ?_
  refine aw_gzF 1 dX3_become_29 fl_RX3_15 (by assumption) rfl rfl (by assumption) ?_
  refine aw_alen100 dX3_become_32 (by assumption) ⟨by omega, by omega⟩ ?_
  refine aw_copy dX3_become_33 cp_RX3_33 (by assumption) (by assumption) (by decide) (by decide) ⟨by decide, by decide⟩ ?_
  refine aw_aload_n dX3_become_36 rfl rfl ⟨by decide, by decide⟩ ?_
  refine aw_gzF 2 dX3_become_37 fl_RX3_18 (by assumption) rfl rfl (by assumption) ?_
  refine aw_iconst dX3_become_40 rfl ⟨by decide, by decide⟩ ?_
  refine aw_aload_n dX3_become_41 rfl rfl ⟨by decide, by decide⟩ ?_
  refine aw_gzF 2 dX3_become_42 fl_RX3_18 (by assumption) rfl rfl (by assumption) ?_
  refine aw_iconst dX3_become_45 rfl ⟨by decide, by decide⟩ ?_
  refine aw_aload_n dX3_become_46 rfl rfl ⟨by decide, by decide⟩ ?_
  refine aw_gzF 2 dX3_become_47 fl_RX3_18 (by assumption) rfl rfl (by assumption) ?_
  refine aw_alen100 dX3_become_50 (by assumption) ⟨by omega, by omega⟩ ?_
  refine aw_copy dX3_become_51 cp_RX3_33 (by assumption) (by assumption) (by decide) (by decide) ⟨by decide, by decide⟩ ?_
  refine aw_aload_n dX3_become_54 rfl rfl ⟨by decide, by decide⟩ ?_
  refine aw_gzF 3 dX3_become_55 fl_RX3_21 (by assumption) rfl rfl (by assumption) ?_
  refine aw_iconst dX3_become_58 rfl ⟨by decide, by decide⟩ ?_
  refine aw_aload_n dX3_become_59 rfl rfl ⟨by decide, by decide⟩ ?_
  refine aw_gzF 3 dX3_become_60 fl_RX3_21 (by assumption) rfl rfl (by assumption) ?_
  refine aw_iconst dX3_become_63 rfl ⟨by decide, by decide⟩ ?_
  refine aw_aload_n dX3_become_64 rfl rfl ⟨by decide, by decide⟩ ?_
  refine aw_gzF 3 dX3_become_65 fl_RX3_21 (by assumption) rfl rfl (by assumption) ?_
  refine aw_alen100 dX3_become_68 (by assumption) ⟨by omega, by omega⟩ ?_
  refine aw_copy dX3_become_69 cp_RX3_33 (by assumption) (by assumption) (by decide) (by decide) ⟨by decide, by decide⟩ ?_
  refine aw_vret dX3_become_72 (by decide) (by decide) ⟨rfl, rfl, ?_, ?_, ?_, ?_, ?_⟩
  · intro x x0 x1
    rw [cp_oth _ (by omega), cp_oth _ (by omega), cp_oth _ (by omega), cp_in _ x0 (by omega)]
  · intro x x0 x1
    rw [cp_oth _ (by omega), cp_oth _ (by omega), cp_in _ x0 (by omega), cp_oth _ (by omega)]
  · intro x x0 x1
    rw [cp_oth _ (by omega), cp_in _ x0 (by omega), cp_oth _ (by omega), cp_oth _ (by omega)]
  · intro x x0 x1
    rw [cp_in _ x0 (by omega), cp_oth _ (by omega), cp_oth _ (by omega), cp_oth _ (by omega)]
  · intro b hb
    rw [cp_oth _ (by omega), cp_oth _ (by omega), cp_oth _ (by omega), cp_oth _ (by omega)]
set_option maxRecDepth 20000 in
set_option maxHeartbeats 1000000 in
theorem sp_become {K : az_K} {h o : Int} (hK : HpK K h) (hK' : HpK K o) (hne : h + 14 < o ∨ o + 14 < h) (M : az_M) {S : hSt} (hc : HS M o S) (hw : WS S) : AM yX0_become cX0_become 2 none 2 0 0 [(1, h), (1, o)] K M (qv K (fun M' => HS M' h S ∧ frH M M' h)) := by
  have hK0 := hK
  obtain ⟨hRg, kh, k6, k7, k8, k9, k10, k11, k12, k13, k14, z0, z1, z2, z3, z4, z5, z6, z7, z8, z9⟩ := hK
  obtain ⟨hRg', kh', k6', k7', k8', k9', k10', k11', k12', k13', k14', z0', z1', z2', z3', z4', z5', z6', z7', z8', z9'⟩ := hK'
  refine am_of (by decide) (Nat.le_of_ble_eq_true rfl) (L := [(1, h), (1, o)]) rfl ?_
  refine aw_aload_n dX0_become_0 rfl rfl ⟨by decide, by decide⟩ ?_
  refine aw_gzF 0 dX0_become_1 fl_RX0_12 (by assumption) rfl rfl (by assumption) ?_
  refine aw_aload_n dX0_become_4 rfl rfl ⟨by decide, by decide⟩ ?_
  refine aw_gzF 0 dX0_become_5 fl_RX0_12 (by assumption) rfl rfl (by assumption) ?_
  refine aw_cV1v dX0_become_8 ml_RX0_78 hRg.1 (by decide) rfl rfl ⟨by decide, by decide, by decide, by decide⟩ (Nat.le_of_ble_eq_true rfl) (sp_rbecome hRg hRg' (by omega) M) (fun M1 hM1 => ?_)
  obtain ⟨m2, m3, m4, m5, m9⟩ := hM1
  refine aw_aload_n dX0_become_11 rfl rfl ⟨by decide, by decide⟩ ?_
  refine aw_gzF 1 dX0_become_12 fl_RX0_18 (by assumption) rfl rfl (by assumption) ?_
  refine aw_iconst dX0_become_15 rfl ⟨by decide, by decide⟩ ?_
  refine aw_aload_n dX0_become_16 rfl rfl ⟨by decide, by decide⟩ ?_
  refine aw_gzF 1 dX0_become_17 fl_RX0_18 (by assumption) rfl rfl (by assumption) ?_
  refine aw_iconst dX0_become_20 rfl ⟨by decide, by decide⟩ ?_
  refine aw_aload_n dX0_become_21 rfl rfl ⟨by decide, by decide⟩ ?_
  refine aw_gzF 1 dX0_become_22 fl_RX0_18 (by assumption) rfl rfl (by assumption) ?_
  refine aw_alen100 dX0_become_25 (by assumption) ⟨by omega, by omega⟩ ?_
  refine aw_copy dX0_become_26 cp_RX0_82 (by assumption) (by assumption) (by decide) (by decide) ⟨by decide, by decide⟩ ?_
  refine aw_aload_n dX0_become_29 rfl rfl ⟨by decide, by decide⟩ ?_
  refine aw_gzF 2 dX0_become_30 fl_RX0_22 (by assumption) rfl rfl (by assumption) ?_
  refine aw_iconst dX0_become_33 rfl ⟨by decide, by decide⟩ ?_
  refine aw_aload_n dX0_become_34 rfl rfl ⟨by decide, by decide⟩ ?_
  refine aw_gzF 2 dX0_become_35 fl_RX0_22 (by assumption) rfl rfl (by assumption) ?_
  refine aw_iconst dX0_become_38 rfl ⟨by decide, by decide⟩ ?_
  refine aw_aload_n dX0_become_39 rfl rfl ⟨by decide, by decide⟩ ?_
  refine aw_gzF 2 dX0_become_40 fl_RX0_22 (by assumption) rfl rfl (by assumption) ?_
  refine aw_alen100 dX0_become_43 (by assumption) ⟨by omega, by omega⟩ ?_
  refine aw_copy dX0_become_44 cp_RX0_82 (by assumption) (by assumption) (by decide) (by decide) ⟨by decide, by decide⟩ ?_
  refine aw_aload_n dX0_become_47 rfl rfl ⟨by decide, by decide⟩ ?_
  refine aw_gzF 3 dX0_become_48 fl_RX0_25 (by assumption) rfl rfl (by assumption) ?_
  refine aw_iconst dX0_become_51 rfl ⟨by decide, by decide⟩ ?_
  refine aw_aload_n dX0_become_52 rfl rfl ⟨by decide, by decide⟩ ?_
  refine aw_gzF 3 dX0_become_53 fl_RX0_25 (by assumption) rfl rfl (by assumption) ?_
  refine aw_iconst dX0_become_56 rfl ⟨by decide, by decide⟩ ?_
  refine aw_aload_n dX0_become_57 rfl rfl ⟨by decide, by decide⟩ ?_
  refine aw_gzF 3 dX0_become_58 fl_RX0_25 (by assumption) rfl rfl (by assumption) ?_
  refine aw_alen100 dX0_become_61 (by assumption) ⟨by omega, by omega⟩ ?_
  refine aw_copy dX0_become_62 cp_RX0_82 (by assumption) (by assumption) (by decide) (by decide) ⟨by decide, by decide⟩ ?_
  refine aw_aload_n dX0_become_65 rfl rfl ⟨by decide, by decide⟩ ?_
  refine aw_gzF 4 dX0_become_66 fl_RX0_28 (by assumption) rfl rfl (by assumption) ?_
  refine aw_iconst dX0_become_69 rfl ⟨by decide, by decide⟩ ?_
  refine aw_aload_n dX0_become_70 rfl rfl ⟨by decide, by decide⟩ ?_
  refine aw_gzF 4 dX0_become_71 fl_RX0_28 (by assumption) rfl rfl (by assumption) ?_
  refine aw_iconst dX0_become_74 rfl ⟨by decide, by decide⟩ ?_
  refine aw_aload_n dX0_become_75 rfl rfl ⟨by decide, by decide⟩ ?_
  refine aw_gzF 4 dX0_become_76 fl_RX0_28 (by assumption) rfl rfl (by assumption) ?_
  refine aw_alen100 dX0_become_79 (by assumption) ⟨by omega, by omega⟩ ?_
  refine aw_copy dX0_become_80 cp_RX0_82 (by assumption) (by assumption) (by decide) (by decide) ⟨by decide, by decide⟩ ?_
  refine aw_aload_n dX0_become_83 rfl rfl ⟨by decide, by decide⟩ ?_
  refine aw_gzF 5 dX0_become_84 fl_RX0_31 (by assumption) rfl rfl (by assumption) ?_
  refine aw_iconst dX0_become_87 rfl ⟨by decide, by decide⟩ ?_
  refine aw_aload_n dX0_become_88 rfl rfl ⟨by decide, by decide⟩ ?_
  refine aw_gzF 5 dX0_become_89 fl_RX0_31 (by assumption) rfl rfl (by assumption) ?_
  refine aw_iconst dX0_become_92 rfl ⟨by decide, by decide⟩ ?_
  refine aw_aload_n dX0_become_93 rfl rfl ⟨by decide, by decide⟩ ?_
  refine aw_gzF 5 dX0_become_94 fl_RX0_31 (by assumption) rfl rfl (by assumption) ?_
  refine aw_alen100 dX0_become_97 (by assumption) ⟨by omega, by omega⟩ ?_
  refine aw_copy dX0_become_98 cp_RX0_82 (by assumption) (by assumption) (by decide) (by decide) ⟨by decide, by decide⟩ ?_
  refine aw_aload_n dX0_become_101 rfl rfl ⟨by decide, by decide⟩ ?_
  refine aw_gzF 6 dX0_become_102 fl_RX0_34 (by assumption) rfl rfl (by assumption) ?_
  refine aw_iconst dX0_become_105 rfl ⟨by decide, by decide⟩ ?_
  refine aw_aload_n dX0_become_106 rfl rfl ⟨by decide, by decide⟩ ?_
  refine aw_gzF 6 dX0_become_107 fl_RX0_34 (by assumption) rfl rfl (by assumption) ?_
  refine aw_iconst dX0_become_110 rfl ⟨by decide, by decide⟩ ?_
  refine aw_aload_n dX0_become_111 rfl rfl ⟨by decide, by decide⟩ ?_
  refine aw_gzF 6 dX0_become_112 fl_RX0_34 (by assumption) rfl rfl (by assumption) ?_
  refine aw_alen100 dX0_become_115 (by assumption) ⟨by omega, by omega⟩ ?_
  refine aw_copy dX0_become_116 cp_RX0_82 (by assumption) (by assumption) (by decide) (by decide) ⟨by decide, by decide⟩ ?_
  refine aw_aload_n dX0_become_119 rfl rfl ⟨by decide, by decide⟩ ?_
  refine aw_gzF 7 dX0_become_120 fl_RX0_37 (by assumption) rfl rfl (by assumption) ?_
  refine aw_iconst dX0_become_123 rfl ⟨by decide, by decide⟩ ?_
  refine aw_aload_n dX0_become_124 rfl rfl ⟨by decide, by decide⟩ ?_
  refine aw_gzF 7 dX0_become_125 fl_RX0_37 (by assumption) rfl rfl (by assumption) ?_
  refine aw_iconst dX0_become_128 rfl ⟨by decide, by decide⟩ ?_
  refine aw_aload_n dX0_become_129 rfl rfl ⟨by decide, by decide⟩ ?_
  refine aw_gzF 7 dX0_become_130 fl_RX0_37 (by assumption) rfl rfl (by assumption) ?_
  refine aw_alen100 dX0_become_133 (by assumption) ⟨by omega, by omega⟩ ?_
  refine aw_copy dX0_become_134 cp_RX0_82 (by assumption) (by assumption) (by decide) (by decide) ⟨by decide, by decide⟩ ?_
  refine aw_aload_n dX0_become_137 rfl rfl ⟨by decide, by decide⟩ ?_
  refine aw_gzF 8 dX0_become_138 fl_RX0_40 (by assumption) rfl rfl (by assumption) ?_
  refine aw_iconst dX0_become_141 rfl ⟨by decide, by decide⟩ ?_
  refine aw_aload_n dX0_become_142 rfl rfl ⟨by decide, by decide⟩ ?_
  refine aw_gzF 8 dX0_become_143 fl_RX0_40 (by assumption) rfl rfl (by assumption) ?_
  refine aw_iconst dX0_become_146 rfl ⟨by decide, by decide⟩ ?_
  refine aw_aload_n dX0_become_147 rfl rfl ⟨by decide, by decide⟩ ?_
  refine aw_gzF 8 dX0_become_148 fl_RX0_40 (by assumption) rfl rfl (by assumption) ?_
  refine aw_alen100 dX0_become_151 (by assumption) ⟨by omega, by omega⟩ ?_
  refine aw_copy dX0_become_152 cp_RX0_82 (by assumption) (by assumption) (by decide) (by decide) ⟨by decide, by decide⟩ ?_
  refine aw_aload_n dX0_become_155 rfl rfl ⟨by decide, by decide⟩ ?_
  refine aw_gzF 9 dX0_become_156 fl_RX0_43 (by assumption) rfl rfl (by assumption) ?_
  refine aw_iconst dX0_become_159 rfl ⟨by decide, by decide⟩ ?_
  refine aw_aload_n dX0_become_160 rfl rfl ⟨by decide, by decide⟩ ?_
  refine aw_gzF 9 dX0_become_161 fl_RX0_43 (by assumption) rfl rfl (by assumption) ?_
  refine aw_iconst dX0_become_164 rfl ⟨by decide, by decide⟩ ?_
  refine aw_aload_n dX0_become_165 rfl rfl ⟨by decide, by decide⟩ ?_
  refine aw_gzF 9 dX0_become_166 fl_RX0_43 (by assumption) rfl rfl (by assumption) ?_
  refine aw_alen100 dX0_become_169 (by assumption) ⟨by omega, by omega⟩ ?_
  refine aw_copy dX0_become_170 cp_RX0_82 (by assumption) (by assumption) (by decide) (by decide) ⟨by decide, by decide⟩ ?_
  generalize hM2 : az_cp (az_cp (az_cp (az_cp (az_cp (az_cp (az_cp (az_cp (az_cp M1 (o + 6) (h + 6) _) (o + 7) (h + 7) _) (o + 8) (h + 8) _) (o + 9) (h + 9) _) (o + 10) (h + 10) _) (o + 11) (h + 11) _) (o + 12) (h + 12) _) (o + 13) (h + 13) _) (o + 14) (h + 14) _ = M2
  have o2 : ∀ b, b < h + 6 ∨ h + 14 < b → M2 b = M1 b := by
    intro b hb
    rw [← hM2, cp_oth _ (by omega), cp_oth _ (by omega), cp_oth _ (by omega), cp_oth _ (by omega), cp_oth _ (by omega), cp_oth _ (by omega), cp_oth _ (by omega), cp_oth _ (by omega), cp_oth _ (by omega)]
  have n6 : ∀ x, 0 ≤ x → x < 128 → M2 (h + 6) x = M (o + 6) x := by
    intro x x0 x1
    rw [← hM2, cp_oth _ (by omega), cp_oth _ (by omega), cp_oth _ (by omega), cp_oth _ (by omega), cp_oth _ (by omega), cp_oth _ (by omega), cp_oth _ (by omega), cp_oth _ (by omega), cp_in _ x0 (by omega), m9 _ (by omega)]
  have n7 : ∀ x, 0 ≤ x → x < 8 → M2 (h + 7) x = M (o + 7) x := by
    intro x x0 x1
    rw [← hM2, cp_oth _ (by omega), cp_oth _ (by omega), cp_oth _ (by omega), cp_oth _ (by omega), cp_oth _ (by omega), cp_oth _ (by omega), cp_oth _ (by omega), cp_in _ x0 (by omega), cp_oth _ (by omega), m9 _ (by omega)]
  have n8 : ∀ x, 0 ≤ x → x < 8 → M2 (h + 8) x = M (o + 8) x := by
    intro x x0 x1
    rw [← hM2, cp_oth _ (by omega), cp_oth _ (by omega), cp_oth _ (by omega), cp_oth _ (by omega), cp_oth _ (by omega), cp_oth _ (by omega), cp_in _ x0 (by omega), cp_oth _ (by omega), cp_oth _ (by omega), m9 _ (by omega)]
  have n9 : ∀ x, 0 ≤ x → x < 6 → M2 (h + 9) x = M (o + 9) x := by
    intro x x0 x1
    rw [← hM2, cp_oth _ (by omega), cp_oth _ (by omega), cp_oth _ (by omega), cp_oth _ (by omega), cp_oth _ (by omega), cp_in _ x0 (by omega), cp_oth _ (by omega), cp_oth _ (by omega), cp_oth _ (by omega), m9 _ (by omega)]
  have n10 : ∀ x, 0 ≤ x → x < 4 → M2 (h + 10) x = M (o + 10) x := by
    intro x x0 x1
    rw [← hM2, cp_oth _ (by omega), cp_oth _ (by omega), cp_oth _ (by omega), cp_oth _ (by omega), cp_in _ x0 (by omega), cp_oth _ (by omega), cp_oth _ (by omega), cp_oth _ (by omega), cp_oth _ (by omega), m9 _ (by omega)]
  have n11 : ∀ x, 0 ≤ x → x < 64 → M2 (h + 11) x = M (o + 11) x := by
    intro x x0 x1
    rw [← hM2, cp_oth _ (by omega), cp_oth _ (by omega), cp_oth _ (by omega), cp_in _ x0 (by omega), cp_oth _ (by omega), cp_oth _ (by omega), cp_oth _ (by omega), cp_oth _ (by omega), cp_oth _ (by omega), m9 _ (by omega)]
  have n12 : ∀ x, 0 ≤ x → x < 4 → M2 (h + 12) x = M (o + 12) x := by
    intro x x0 x1
    rw [← hM2, cp_oth _ (by omega), cp_oth _ (by omega), cp_in _ x0 (by omega), cp_oth _ (by omega), cp_oth _ (by omega), cp_oth _ (by omega), cp_oth _ (by omega), cp_oth _ (by omega), cp_oth _ (by omega), m9 _ (by omega)]
  have n13 : ∀ x, 0 ≤ x → x < 6 → M2 (h + 13) x = M (o + 13) x := by
    intro x x0 x1
    rw [← hM2, cp_oth _ (by omega), cp_in _ x0 (by omega), cp_oth _ (by omega), cp_oth _ (by omega), cp_oth _ (by omega), cp_oth _ (by omega), cp_oth _ (by omega), cp_oth _ (by omega), cp_oth _ (by omega), m9 _ (by omega)]
  have n14 : ∀ x, 0 ≤ x → x < 48 → M2 (h + 14) x = M (o + 14) x := by
    intro x x0 x1
    rw [← hM2, cp_in _ x0 (by omega), cp_oth _ (by omega), cp_oth _ (by omega), cp_oth _ (by omega), cp_oth _ (by omega), cp_oth _ (by omega), cp_oth _ (by omega), cp_oth _ (by omega), cp_oth _ (by omega), m9 _ (by omega)]
  have mo : M2 o = M o := by rw [o2 _ (by omega), m9 _ (by omega)]
  clear hM2
  have sc := hc.2.2.2.2.2.2.2.2.2.2
  have w15 : M o 15 = 0 ∨ M o 15 = 1 := by rw [sc.2.2.2.2]; exact hw.2.2.2.2.2.1.1
  have up : ∀ (M3 : az_M) (i v : Int) (j : Int), az_up M3 h i v o j = M3 o j := fun M3 i v j => by rw [up_oth _ _ _ (by omega)]
  refine aw_aload_n dX0_become_173 rfl rfl ⟨by decide, by decide⟩ ?_
  refine aw_aload_n dX0_become_174 rfl rfl ⟨by decide, by decide⟩ ?_
  refine aw_gi 10 dX0_become_175 fl_RX0_58 (by assumption) rfl rfl (by rw [mo]) ?_
  refine aw_pi 10 dX0_become_178 fl_RX0_58 (by assumption) rfl rfl ?_
  refine aw_aload_n dX0_become_181 rfl rfl ⟨by decide, by decide⟩ ?_
  refine aw_aload_n dX0_become_182 rfl rfl ⟨by decide, by decide⟩ ?_
  refine aw_gi 11 dX0_become_183 fl_RX0_62 (by assumption) rfl rfl (by rw [up, mo]) ?_
  refine aw_pi 11 dX0_become_186 fl_RX0_62 (by assumption) rfl rfl ?_
  refine aw_aload_n dX0_become_189 rfl rfl ⟨by decide, by decide⟩ ?_
  refine aw_aload_n dX0_become_190 rfl rfl ⟨by decide, by decide⟩ ?_
  refine aw_gi 12 dX0_become_191 fl_RX0_65 (by assumption) rfl rfl (by rw [up, up, mo]) ?_
  refine aw_pi 12 dX0_become_194 fl_RX0_65 (by assumption) rfl rfl ?_
  refine aw_aload_n dX0_become_197 rfl rfl ⟨by decide, by decide⟩ ?_
  refine aw_aload_n dX0_become_198 rfl rfl ⟨by decide, by decide⟩ ?_
  refine aw_gi 13 dX0_become_199 fl_RX0_68 (by assumption) rfl rfl (by rw [up, up, up, mo]) ?_
  refine aw_pi 13 dX0_become_202 fl_RX0_68 (by assumption) rfl rfl ?_
  refine aw_aload_n dX0_become_205 rfl rfl ⟨by decide, by decide⟩ ?_
  refine aw_aload_n dX0_become_206 rfl rfl ⟨by decide, by decide⟩ ?_
  refine aw_gi 14 dX0_become_207 fl_RX0_71 (by assumption) rfl rfl (by rw [up, up, up, up, mo]) ?_
  refine aw_pi 14 dX0_become_210 fl_RX0_71 (by assumption) rfl rfl ?_
  refine aw_aload_n dX0_become_213 rfl rfl ⟨by decide, by decide⟩ ?_
  refine aw_aload_n dX0_become_214 rfl rfl ⟨by decide, by decide⟩ ?_
  refine aw_gi 15 dX0_become_215 fl_RX0_74 (by assumption) rfl rfl (by rw [up, up, up, up, up, mo]) ?_
  refine aw_pz 15 dX0_become_218 fl_RX0_74 (by assumption) rfl rfl (by omega) ?_
  generalize hM3 : az_up (az_up (az_up (az_up (az_up (az_up M2 h 10 (M o 10)) h 11 (M o 11)) h 12 (M o 12)) h 13 (M o 13)) h 14 (M o 14)) h 15 (M o 15) = M3
  have o3 : ∀ b, b ≠ h → M3 b = M2 b := fun b hb => by rw [← hM3, up_oth _ _ _ hb, up_oth _ _ _ hb, up_oth _ _ _ hb, up_oth _ _ _ hb, up_oth _ _ _ hb, up_oth _ _ _ hb]
  refine aw_vret dX0_become_221 (by decide) (by decide) ⟨rfl, rfl, ?_, fun b hb => by rw [o3 b (by omega), o2 b (by omega), m9 b (by omega)]⟩
  refine HC_copy hc hw (gl_len hw) (fun x x0 x1 => ?_) (fun x x0 x1 => ?_) (fun x x0 x1 => ?_) (fun x x0 x1 => ?_) (fun x x0 x1 => ?_) (fun x x0 x1 => ?_) (fun x x0 x1 => ?_) (fun x x0 x1 => ?_) (fun x x0 x1 => ?_) (fun x x0 x1 => ?_) (fun x x0 x1 => ?_) (fun x x0 x1 => ?_) (fun x x0 x1 => ?_) (fun x x0 x1 => ?_)
  · rw [o3 _ (by omega), o2 _ (by omega), m2 x x0 x1]
  · rw [o3 _ (by omega), o2 _ (by omega), m3 x x0 x1]
  · rw [o3 _ (by omega), o2 _ (by omega), m4 x x0 x1]
  · rw [o3 _ (by omega), o2 _ (by omega), m5 x x0 x1]
  · rw [o3 _ (by omega), n6 x x0 x1]
  · rw [o3 _ (by omega), n7 x x0 x1]
  · rw [o3 _ (by omega), n8 x x0 x1]
  · rw [o3 _ (by omega), n9 x x0 x1]
  · rw [o3 _ (by omega), n10 x x0 x1]
  · rw [o3 _ (by omega), n11 x x0 x1]
  · rw [o3 _ (by omega), n12 x x0 x1]
  · rw [o3 _ (by omega), n13 x x0 x1]
  · rw [o3 _ (by omega), n14 x x0 x1]
  · have hx : x = 10 ∨ x = 11 ∨ x = 12 ∨ x = 13 ∨ x = 14 ∨ x = 15 := by omega
    rw [← hM3]
    rcases hx with rfl | rfl | rfl | rfl | rfl | rfl
    · rw [az_up_i _ _ _ _ (by omega), az_up_i _ _ _ _ (by omega), az_up_i _ _ _ _ (by omega), az_up_i _ _ _ _ (by omega), az_up_i _ _ _ _ (by omega), az_up_s]
    · rw [az_up_i _ _ _ _ (by omega), az_up_i _ _ _ _ (by omega), az_up_i _ _ _ _ (by omega), az_up_i _ _ _ _ (by omega), az_up_s]
    · rw [az_up_i _ _ _ _ (by omega), az_up_i _ _ _ _ (by omega), az_up_i _ _ _ _ (by omega), az_up_s]
    · rw [az_up_i _ _ _ _ (by omega), az_up_i _ _ _ _ (by omega), az_up_s]
    · rw [az_up_i _ _ _ _ (by omega), az_up_s]
    · rw [az_up_s]
