/-! Runner: a program goes over a heap; Script.add -/
set_option maxRecDepth 20000
def ScK (K : az_K) (s : Int) : Prop := az_at K s (5, 6) ∧ az_at K (s + 1) (100, 40) ∧ az_at K (s + 2) (100, 40) ∧ az_at K (s + 3) (100, 40) ∧ az_at K (s + 4) (100, 40) ∧ az_at K (s + 5) (100, 40) ∧ K.2 s 0 = some (s + 1) ∧ K.2 s 1 = some (s + 2) ∧ K.2 s 2 = some (s + 3) ∧ K.2 s 3 = some (s + 4) ∧ K.2 s 4 = some (s + 5)
/-- an item as the class keeps it -/
def clsI (M : az_M) (s : Int) (it : Int → Int → Int) (i : Int) : Prop := M (s + 1) i = it i 0 ∧ M (s + 2) i = it i 1 ∧ M (s + 3) i = it i 2 ∧ M (s + 4) i = it i 3 ∧ M (s + 5) i = it i 4
def PGc (M : az_M) (s : Int) (it : Int → Int → Int) (n : Int) : Prop := M s 5 = n ∧ (0 ≤ n ∧ n ≤ 40) ∧ ∀ i, 0 ≤ i → i < n → clsI M s it i
theorem PGc.fr {M M' : az_M} {s n : Int} {it : Int → Int → Int} (h : PGc M s it n) (o : ∀ b, s ≤ b → b ≤ s + 5 → M' b = M b) : PGc M' s it n := by
  refine ⟨by rw [o s (by omega) (by omega)]; exact h.1, h.2.1, fun i i0 i1 => ?_⟩
  have := h.2.2 i i0 i1
  unfold clsI at this ⊢
  rw [o _ (by omega) (by omega), o _ (by omega) (by omega), o _ (by omega) (by omega), o _ (by omega) (by omega), o _ (by omega) (by omega)]
  exact this
/-- where the runner, its heap and its script lie -/
def RnK (K : az_K) (h rn sc : Int) : Prop := az_at K rn (4, 4) ∧ HpK K h ∧ ScK K sc ∧ (rn < h ∨ h + 14 < rn) ∧ (sc + 5 < h ∨ h + 14 < sc) ∧ (rn < sc ∨ sc + 5 < rn)
def CS (M : az_M) (h rn sc : Int) (it : Int → Int → Int) (n : Int) (st : rSx) : Prop := HS M h st.1 ∧ PGc M sc it n ∧ M rn 0 = h ∧ M rn 1 = sc ∧ M rn 2 = st.2.1 ∧ M rn 3 = st.2.2
def frW (M M' : az_M) (h rn : Int) : Prop := (∀ b, b < h ∨ h + 14 < b → b ≠ rn → M' b = M b) ∧ M' rn 0 = M rn 0 ∧ M' rn 1 = M rn 1
theorem frW.refl (M : az_M) (h rn : Int) : frW M M h rn := ⟨fun _ _ _ => rfl, rfl, rfl⟩
theorem frW.trans {M M1 M2 : az_M} {h rn : Int} (p : frW M M1 h rn) (q : frW M1 M2 h rn) : frW M M2 h rn := ⟨fun b h1 h2 => (q.1 b h1 h2).trans (p.1 b h1 h2), q.2.1.trans p.2.1, q.2.2.trans p.2.2⟩
section CG
variable {K : az_K} {h rn sc : Int} {it : Int → Int → Int} {n : Int} {st : rSx}
set_option maxHeartbeats 2000000 in
theorem sp_go (hK : RnK K h rn sc) (M : az_M) (hs : CS M h rn sc it n st) (hw : WL st.1) (hcy : st.1.1 729 ≤ 1999000000) (hst : st.2.2 = 0) (hg0 : 0 ≤ st.2.1) (hg3 : st.2.1 < 300) (i : Int) (i0 : 0 ≤ i) (i1 : i < n) (ho : okI (it i 0) (it i 1) (it i 2) (it i 3)) (hk : it i 0 < 5) : AM yX4_go cX4_go 6 none 4 0 0 [(1, rn), (0, i)] K M (qv K (fun M' => CS M' h rn sc it n (go1 it i st) ∧ frW M M' h rn)) := by
  obtain ⟨kr, hH, hSc, d1, d2, d3⟩ := hK
  have hH0 := hH
  obtain ⟨s0, s1, s2, s3, s4, s5, x0, x1, x2, x3, x4⟩ := hSc
  obtain ⟨hRg, kh, k6, k7, k8, k9, k10, k11, k12, k13, k14, z0, z1, z2, z3, z4, z5, z6, z7, z8, z9⟩ := hH
  refine am_of (by decide) (Nat.le_of_ble_eq_true rfl) (L := [(1, rn), (0, i), (9, 0), (9, 0), (9, 0), (9, 0)]) rfl ?_
  obtain ⟨c1, c2, c3, c4, c5, c6⟩ := hs
  have n40 := c2.2.1
  obtain ⟨p0, p1, p2, p3, p4⟩ := c2.2.2 i i0 i1
  generalize hG : go1 it i st = G
  unfold go1 at hG
  have tail : ∀ (M1 : az_M) (T : hSt) (sp : Int), sp = 0 ∨ sp = 1 → HS M1 h T → frW M M1 h rn → M1 rn 2 = st.2.1 → M1 rn 3 = sp → (T, st.2.1 + 1, if sp = 1 ∨ 300 ≤ st.2.1 + 1 then 1 else 0) = G → AW az_P0 (az_Z (qv K (fun M' => CS M' h rn sc it n G ∧ frW M M' h rn)) 0 0) (az_rm 4 0 0) yX4_go cX4_go 6 none 0 0 190 [(1, rn), (0, i), (0, it i 1), (0, it i 2), (0, it i 3), (0, 0)] [] K M1 := by
    intro M1 T sp hsp t1 f1 t2 t3 hGe
    have f2 : frW M (az_up M1 rn 2 (st.2.1 + 1)) h rn := f1.trans ⟨fun b h1 h2 => up_oth _ _ _ h2, az_up_i _ _ _ _ (by omega), az_up_i _ _ _ _ (by omega)⟩
    have t1' : HS (az_up M1 rn 2 (st.2.1 + 1)) h T := HS_fr t1 (fun b b0 b1 => up_oth _ _ _ (by omega))
    have v201 : az_up M1 rn 2 (st.2.1 + 1) rn 2 = st.2.1 + 1 := az_up_s _ _ _ _
    have v3 : az_up M1 rn 2 (st.2.1 + 1) rn 3 = sp := by rw [az_up_i _ _ _ _ (by omega)]; exact t3
    refine aw_aload_n dX4_go_190 rfl rfl ⟨by decide, by decide⟩ ?_
    refine aw_dup dX4_go_191 ?_
    refine aw_gi 2 dX4_go_192 fl_RX4_9 (by assumption) rfl rfl t2 ?_
    refine aw_iconst dX4_go_195 rfl ⟨by decide, by decide⟩ ?_
    refine aw_iadd dX4_go_196 (az_wr_id (by omega) (by omega)) ?_
    refine aw_pi 2 dX4_go_197 fl_RX4_9 (by assumption) rfl rfl ?_
    generalize az_up M1 rn 2 (st.2.1 + 1) = M2 at f2 t1' v201 v3 ⊢
    have g2 : PGc M2 sc it n := c2.fr (fun b b0 b1 => f2.1 b (by omega) (by omega))
    refine aw_aload_n dX4_go_200 rfl rfl ⟨by decide, by decide⟩ ?_
    refine aw_gi 2 dX4_go_201 fl_RX4_9 (by assumption) rfl rfl v201 ?_
    refine aw_sipush dX4_go_204 (by decide) ⟨by decide, by decide⟩ ?_
    refine aw_icmp_lt (tgt := 215) dX4_go_207 rfl (fun h207 => ?_) (fun h207 => ?_)
    · refine aw_vret dX4_go_215 (by decide) (by decide) ⟨rfl, rfl, ?_, f2⟩
      rw [← hGe]
      refine ⟨t1', g2, f2.2.1.trans c3, f2.2.2.trans c4, v201, v3.trans ?_⟩
      show sp = if sp = 1 ∨ 300 ≤ st.2.1 + 1 then (1 : Int) else 0
      rcases hsp with e | e
      · rw [if_neg (by omega)]; exact e
      · rw [if_pos (Or.inl e)]; exact e
    · refine aw_aload_n dX4_go_210 rfl rfl ⟨by decide, by decide⟩ ?_
      refine aw_iconst dX4_go_211 rfl ⟨by decide, by decide⟩ ?_
      refine aw_pz 3 dX4_go_212 fl_RX4_15 (by assumption) rfl rfl (by omega) ?_
      refine aw_vret dX4_go_215 (by decide) (by decide) ⟨rfl, rfl, ?_, f2.trans ⟨fun b h1 h2 => up_oth _ _ _ h2, az_up_i _ _ _ _ (by omega), az_up_i _ _ _ _ (by omega)⟩⟩
      rw [← hGe]
      refine ⟨HS_fr t1' (fun b b0 b1 => up_oth _ _ _ (by omega)), g2.fr (fun b b0 b1 => up_oth _ _ _ (by omega)), (az_up_i _ _ _ _ (by omega)).trans (f2.2.1.trans c3), (az_up_i _ _ _ _ (by omega)).trans (f2.2.2.trans c4), (az_up_i _ _ _ _ (by omega)).trans v201, (az_up_s _ _ _ _).trans ?_⟩
      show (1 : Int) = if sp = 1 ∨ 300 ≤ st.2.1 + 1 then (1 : Int) else 0
      rw [if_pos (Or.inr (by omega))]
  have refd : (st.1, st.2.1, 1) = G → ∀ M1 : az_M, HS M1 h st.1 → frW M M1 h rn → M1 rn 2 = st.2.1 → AW az_P0 (az_Z (qv K (fun M' => CS M' h rn sc it n G ∧ frW M M' h rn)) 0 0) (az_rm 4 0 0) yX4_go cX4_go 6 none 0 0 179 [(1, rn), (0, i), (0, it i 1), (0, it i 2), (0, it i 3), (0, 1)] [] K M1 := by
    intro hGe M1 t1 f1 t2
    refine aw_iload dX4_go_179 rfl ?_
    refine aw_if_eq (tgt := 190) dX4_go_181 rfl (fun h181 => absurd h181 (by omega)) (fun h181 => ?_)
    refine aw_aload_n dX4_go_184 rfl rfl ⟨by decide, by decide⟩ ?_
    refine aw_iconst dX4_go_185 rfl ⟨by decide, by decide⟩ ?_
    refine aw_pz 3 dX4_go_186 fl_RX4_15 (by assumption) rfl rfl (by omega) ?_
    refine aw_vret dX4_go_189 (by decide) (by decide) ⟨rfl, rfl, ?_, f1.trans ⟨fun b h1 h2 => up_oth _ _ _ h2, az_up_i _ _ _ _ (by omega), az_up_i _ _ _ _ (by omega)⟩⟩
    rw [← hGe]
    exact ⟨HS_fr t1 (fun b b0 b1 => up_oth _ _ _ (by omega)), c2.fr (fun b b0 b1 => by rw [up_oth _ _ _ (by omega)]; exact f1.1 b (by omega) (by omega)), (az_up_i _ _ _ _ (by omega)).trans (f1.2.1.trans c3), (az_up_i _ _ _ _ (by omega)).trans (f1.2.2.trans c4), (az_up_i _ _ _ _ (by omega)).trans t2, az_up_s _ _ _ _⟩
  have ofH : ∀ M1 : az_M, frH M M1 h → frW M M1 h rn ∧ M1 rn 2 = st.2.1 ∧ M1 rn 3 = 0 := fun M1 f => ⟨⟨fun b h1 _ => f b h1, by rw [f rn d1], by rw [f rn d1]⟩, by rw [f rn d1]; exact c5, by rw [f rn d1]; exact c6.trans hst⟩
  refine aw_aload_n dX4_go_0 rfl rfl ⟨by decide, by decide⟩ ?_
  refine aw_gr 1 dX4_go_1 fl_RX4_23 (by assumption) rfl rfl c4 ?_
  refine aw_gzF 1 dX4_go_4 fl_RX4_48 (by assumption) rfl rfl (by assumption) ?_
  refine aw_iload_n dX4_go_7 rfl rfl ?_
  refine aw_iv dX4_go_8 (by assumption) (by omega) (by omega) p1 ?_
  refine aw_istore_n dX4_go_9 rfl (by decide) ?_
  refine aw_aload_n dX4_go_10 rfl rfl ⟨by decide, by decide⟩ ?_
  refine aw_gr 1 dX4_go_11 fl_RX4_23 (by assumption) rfl rfl c4 ?_
  refine aw_gzF 2 dX4_go_14 fl_RX4_59 (by assumption) rfl rfl (by assumption) ?_
  refine aw_iload_n dX4_go_17 rfl rfl ?_
  refine aw_iv dX4_go_18 (by assumption) (by omega) (by omega) p2 ?_
  refine aw_istore_n dX4_go_19 rfl (by decide) ?_
  refine aw_aload_n dX4_go_20 rfl rfl ⟨by decide, by decide⟩ ?_
  refine aw_gr 1 dX4_go_21 fl_RX4_23 (by assumption) rfl rfl c4 ?_
  refine aw_gzF 3 dX4_go_24 fl_RX4_33 (by assumption) rfl rfl (by assumption) ?_
  refine aw_iload_n dX4_go_27 rfl rfl ?_
  refine aw_iv dX4_go_28 (by assumption) (by omega) (by omega) p3 ?_
  refine aw_istore dX4_go_29 (by decide) ?_
  refine aw_iconst dX4_go_31 rfl ⟨by decide, by decide⟩ ?_
  refine aw_istore dX4_go_32 (by decide) ?_
  refine aw_aload_n dX4_go_34 rfl rfl ⟨by decide, by decide⟩ ?_
  refine aw_gr 1 dX4_go_35 fl_RX4_23 (by assumption) rfl rfl c4 ?_
  refine aw_gzF 0 dX4_go_38 fl_RX4_27 (by assumption) rfl rfl (by assumption) ?_
  refine aw_iload_n dX4_go_41 rfl rfl ?_
  refine aw_iv dX4_go_42 (by assumption) (by omega) (by omega) p0 ?_
  by_cases q0 : it i 0 = 0
  · have hcan : canI it i st.1 := ⟨fun w => by omega, fun w => by omega⟩
    rw [if_neg (fun w => w hcan)] at hG
    have hdo : doI it i st.1 = bldS st.1 (it i 1) (it i 3) := by unfold doI; rw [if_pos q0]
    rw [hdo] at hG
    rw [q0]
    refine aw_tsIn (tgt := 72) dX4_go_43 (by omega) (by omega) rfl rfl ?_
    refine aw_aload_n dX4_go_72 rfl rfl ⟨by decide, by decide⟩ ?_
    refine aw_aload_n dX4_go_73 rfl rfl ⟨by decide, by decide⟩ ?_
    refine aw_gr 0 dX4_go_74 fl_RX4_19 (by assumption) rfl rfl c3 ?_
    refine aw_iload_n dX4_go_77 rfl rfl ?_
    refine aw_iload dX4_go_78 rfl ?_
    refine aw_cV2i dX4_go_80 ml_RX4_62 (by assumption) (by decide) rfl rfl ⟨by decide, by decide, by decide, by decide⟩ (Nat.le_of_ble_eq_true rfl) (sp_build hH0 M c1 hw (by omega) (it i 1) (it i 3) (by omega) (by omega) (by omega) (by omega)) (fun zb M1 hz1 => ?_)
    obtain ⟨eb, t1, fH⟩ := hz1
    obtain ⟨f1, t2, t3⟩ := ofH M1 fH
    have put : ∀ sp : Int, (sp = 1 ∧ bldA st.1 (it i 3) = -2 ∨ sp = 0 ∧ bldA st.1 (it i 3) ≠ -2) → AW az_P0 (az_Z (qv K (fun M' => CS M' h rn sc it n G ∧ frW M M' h rn)) 0 0) (az_rm 4 0 0) yX4_go cX4_go 6 none 0 0 93 [(1, rn), (0, i), (0, it i 1), (0, it i 2), (0, it i 3), (0, 0)] [(0, sp), (1, rn)] K M1 := by
      intro sp hsp
      refine aw_pz 3 dX4_go_93 fl_RX4_15 (by assumption) rfl rfl (by omega) ?_
      refine aw_goto (tgt := 179) dX4_go_96 rfl ?_
      refine aw_iload dX4_go_179 rfl ?_
      refine aw_if_eq (tgt := 190) dX4_go_181 rfl (fun h181 => ?_) (fun h181 => absurd h181 (by omega))
      refine tail _ (bldS st.1 (it i 1) (it i 3)) sp (by omega) (HS_fr t1 (fun b b0 b1 => up_oth _ _ _ (by omega))) (f1.trans ⟨fun b h1 h2 => up_oth _ _ _ h2, az_up_i _ _ _ _ (by omega), az_up_i _ _ _ _ (by omega)⟩) ((az_up_i _ _ _ _ (by omega)).trans t2) (az_up_s _ _ _ _) ?_
      rw [← hG]
      congr 2
      by_cases w : sp = 1 ∨ 300 ≤ st.2.1 + 1
      · rw [if_pos w, if_pos]
        rcases w with w | w
        · exact Or.inl ⟨q0, by omega⟩
        · exact Or.inr w
      · rw [if_neg w, if_neg]
        rintro (w2 | w2)
        · exact w (Or.inl (by omega))
        · exact w (Or.inr w2)
    refine aw_bipush dX4_go_83 (by decide) ⟨by decide, by decide⟩ ?_
    refine aw_icmp_ne (tgt := 92) dX4_go_85 rfl (fun h85 => ?_) (fun h85 => ?_)
    · refine aw_iconst dX4_go_92 rfl ⟨by decide, by decide⟩ ?_
      exact put 0 (Or.inr ⟨rfl, by omega⟩)
    · refine aw_iconst dX4_go_88 rfl ⟨by decide, by decide⟩ ?_
      refine aw_goto (tgt := 93) dX4_go_89 rfl ?_
      exact put 1 (Or.inl ⟨rfl, by omega⟩)
  have hgo : ∀ (M1 : az_M) (T : hSt), canI it i st.1 → doI it i st.1 = T → HS M1 h T → frW M M1 h rn ∧ M1 rn 2 = st.2.1 ∧ M1 rn 3 = 0 → AW az_P0 (az_Z (qv K (fun M' => CS M' h rn sc it n G ∧ frW M M' h rn)) 0 0) (az_rm 4 0 0) yX4_go cX4_go 6 none 0 0 179 [(1, rn), (0, i), (0, it i 1), (0, it i 2), (0, it i 3), (0, 0)] [] K M1 := by
    intro M1 T hcan hT t1 ⟨f1, t2, t3⟩
    rw [if_neg (fun w => w hcan), hT] at hG
    refine aw_iload dX4_go_179 rfl ?_
    refine aw_if_eq (tgt := 190) dX4_go_181 rfl (fun h181 => ?_) (fun h181 => absurd h181 (by omega))
    refine tail M1 T 0 (Or.inl rfl) t1 f1 t2 t3 ?_
    rw [← hG]
    congr 2
    by_cases w : 300 ≤ st.2.1 + 1
    · rw [if_pos (Or.inr w), if_pos (Or.inr w)]
    · rw [if_neg (by omega), if_neg (fun w2 => w2.elim (fun w3 => q0 w3.1) w)]
  by_cases q1 : it i 0 = 1
  · have hnv : (if it i 2 = -1 then -1 else M (h + 9) (it i 2)) = namV st.1 (it i 2) := by
      unfold namV
      by_cases w : it i 2 = -1
      · rw [if_pos w, if_pos w]
      · rw [if_neg w, if_neg w]; exact c1.2.2.2.2.2.1.1 _ (by omega) (by omega)
    have hT : doI it i st.1 = nameS st.1 (715 + it i 1) (namV st.1 (it i 2)) := by unfold doI; rw [if_neg q0, if_pos q1]
    rw [q1]
    refine aw_tsIn (tgt := 99) dX4_go_43 (by omega) (by omega) rfl rfl ?_
    refine aw_aload_n dX4_go_99 rfl rfl ⟨by decide, by decide⟩ ?_
    refine aw_gr 0 dX4_go_100 fl_RX4_19 (by assumption) rfl rfl c3 ?_
    refine aw_gzF 4 dX4_go_103 fl_RX4_43 (by assumption) rfl rfl (by assumption) ?_
    refine aw_iload_n dX4_go_106 rfl rfl ?_
    refine aw_aload_n dX4_go_107 rfl rfl ⟨by decide, by decide⟩ ?_
    refine aw_gr 0 dX4_go_108 fl_RX4_19 (by assumption) rfl rfl c3 ?_
    refine aw_iload_n dX4_go_111 rfl rfl ?_
    refine aw_cV1p dX4_go_112 ml_RX4_65 (by assumption) (by decide) rfl rfl ⟨by decide, by decide, by decide, by decide⟩ (Nat.le_of_ble_eq_true rfl) (qp_c (sp_rootOrNone hH0 M (it i 2) (by omega)) hnv) ?_
    refine aw_iast dX4_go_115 (by assumption) (by omega) (by omega) ?_
    refine aw_goto (tgt := 179) dX4_go_116 rfl ?_
    exact hgo _ _ ⟨fun w => by omega, fun w => by omega⟩ hT (HC_root c1 hw.1.1 hw.1.2.2.2.1 (by omega) (by omega)) (ofH _ (fun b hb => up_oth _ _ _ (by omega)))
  by_cases q2 : it i 0 = 2
  · rw [q2]
    refine aw_tsIn (tgt := 119) dX4_go_43 (by omega) (by omega) rfl rfl ?_
    refine aw_aload_n dX4_go_119 rfl rfl ⟨by decide, by decide⟩ ?_
    refine aw_gr 0 dX4_go_120 fl_RX4_19 (by assumption) rfl rfl c3 ?_
    refine aw_iload_n dX4_go_123 rfl rfl ?_
    refine aw_iload_n dX4_go_124 rfl rfl ?_
    refine aw_iload dX4_go_125 rfl ?_
    refine aw_cV3i dX4_go_127 ml_RX4_69 (by assumption) (by decide) rfl rfl ⟨by decide, by decide, by decide, by decide⟩ (Nat.le_of_ble_eq_true rfl) (sp_fetch hH0 M c1 hw (it i 1) (it i 2) (it i 3) (by omega) (by omega) (by omega) (by omega)) (fun zb M1 hz1 => ?_)
    obtain ⟨ey, en, fH⟩ := hz1
    by_cases hf : hasF st.1 (st.1.1 (715 + it i 2)) (it i 3)
    · obtain ⟨eb, t1⟩ := ey hf
      have hcan : canI it i st.1 := ⟨fun _ => hf, fun w => by omega⟩
      have hnk := (fetS_wl hw (r := it i 1) (o := it i 2) (f := it i 3) (by omega) (by omega) (by omega) (by omega) hf).2.1
      have hne : zb ≠ -2 := by
        rcases hnk with w | w
        · omega
        · have := w.1.1; omega
      have hT : doI it i st.1 = fetS st.1 (it i 1) (it i 2) (it i 3) := by unfold doI; rw [if_neg q0, if_neg q1, if_pos q2]
      refine aw_bipush dX4_go_130 (by decide) ⟨by decide, by decide⟩ ?_
      refine aw_icmp_ne (tgt := 139) dX4_go_132 rfl (fun h132 => ?_) (fun h132 => absurd h132 (by omega))
      refine aw_iconst dX4_go_139 rfl ⟨by decide, by decide⟩ ?_
      refine aw_istore dX4_go_140 (by decide) ?_
      refine aw_goto (tgt := 179) dX4_go_142 rfl ?_
      exact hgo M1 _ hcan hT t1 (ofH M1 fH)
    · obtain ⟨eb, t1⟩ := en hf
      have hcan : ¬ canI it i st.1 := fun w => hf (w.1 q2)
      rw [if_pos hcan] at hG
      obtain ⟨f1, t2, t3⟩ := ofH M1 fH
      refine aw_bipush dX4_go_130 (by decide) ⟨by decide, by decide⟩ ?_
      refine aw_icmp_ne (tgt := 139) dX4_go_132 rfl (fun h132 => absurd h132 (by omega)) (fun h132 => ?_)
      refine aw_iconst dX4_go_135 rfl ⟨by decide, by decide⟩ ?_
      refine aw_goto (tgt := 140) dX4_go_136 rfl ?_
      refine aw_istore dX4_go_140 (by decide) ?_
      refine aw_goto (tgt := 179) dX4_go_142 rfl ?_
      exact refd hG M1 t1 f1 t2
  by_cases q3 : it i 0 = 3
  · rw [q3]
    refine aw_tsIn (tgt := 145) dX4_go_43 (by omega) (by omega) rfl rfl ?_
    refine aw_aload_n dX4_go_145 rfl rfl ⟨by decide, by decide⟩ ?_
    refine aw_gr 0 dX4_go_146 fl_RX4_19 (by assumption) rfl rfl c3 ?_
    refine aw_iload_n dX4_go_149 rfl rfl ?_
    refine aw_iload dX4_go_150 rfl ?_
    refine aw_iload_n dX4_go_152 rfl rfl ?_
    refine aw_cV3i dX4_go_153 ml_RX4_73 (by assumption) (by decide) rfl rfl ⟨by decide, by decide, by decide, by decide⟩ (Nat.le_of_ble_eq_true rfl) (sp_put hH0 M c1 hw (it i 1) (it i 3) (it i 2) (by omega) (by omega) (by omega)) (fun zb M1 hz1 => ?_)
    obtain ⟨ey, en, fH⟩ := hz1
    by_cases hf : hasF st.1 (st.1.1 (715 + it i 1)) (it i 3)
    · obtain ⟨eb, t1⟩ := ey hf
      have hcan : canI it i st.1 := ⟨fun w => by omega, fun _ => hf⟩
      have hT : doI it i st.1 = putS st.1 (it i 1) (it i 3) (it i 2) := by unfold doI; rw [if_neg q0, if_neg q1, if_neg q2, if_pos q3]
      refine aw_if_ne (tgt := 163) dX4_go_156 rfl (fun h156 => ?_) (fun h156 => absurd h156 (by omega))
      refine aw_iconst dX4_go_163 rfl ⟨by decide, by decide⟩ ?_
      refine aw_istore dX4_go_164 (by decide) ?_
      refine aw_goto (tgt := 179) dX4_go_166 rfl ?_
      exact hgo M1 _ hcan hT t1 (ofH M1 fH)
    · obtain ⟨eb, t1⟩ := en hf
      have hcan : ¬ canI it i st.1 := fun w => hf (w.2 q3)
      rw [if_pos hcan] at hG
      obtain ⟨f1, t2, t3⟩ := ofH M1 fH
      refine aw_if_ne (tgt := 163) dX4_go_156 rfl (fun h156 => absurd h156 (by omega)) (fun h156 => ?_)
      refine aw_iconst dX4_go_159 rfl ⟨by decide, by decide⟩ ?_
      refine aw_goto (tgt := 164) dX4_go_160 rfl ?_
      refine aw_istore dX4_go_164 (by decide) ?_
      refine aw_goto (tgt := 179) dX4_go_166 rfl ?_
      exact refd hG M1 t1 f1 t2
  have q4 : it i 0 = 4 := by omega
  have hT : doI it i st.1 = advS (it i 3).toNat st.1 := by unfold doI; rw [if_neg q0, if_neg q1, if_neg q2, if_neg q3]
  rw [q4]
  refine aw_tsOut (tgt := 169) dX4_go_43 (by omega) rfl ?_
  refine aw_aload_n dX4_go_169 rfl rfl ⟨by decide, by decide⟩ ?_
  refine aw_gr 0 dX4_go_170 fl_RX4_19 (by assumption) rfl rfl c3 ?_
  refine aw_iload dX4_go_173 rfl ?_
  refine aw_cV1i dX4_go_175 ml_RX4_77 (by assumption) (by decide) rfl rfl ⟨by decide, by decide, by decide, by decide⟩ (Nat.le_of_ble_eq_true rfl) (sp_advance hH0 M c1 hw (by omega) (it i 3) (by omega) (by omega)) (fun zb M1 hz1 => ?_)
  refine aw_pop dX4_go_178 ?_
  exact hgo M1 _ ⟨fun w => by omega, fun w => by omega⟩ hT hz1.2.1 (ofH M1 hz1.2.2)
theorem sp_prepare (M : az_M) (rn h sc : Int) (kr : az_at K rn (4, 4)) (h0 : az_in h) (s0 : az_in sc) (z0 : K.2 rn 0 = none) (z1 : K.2 rn 1 = none) : AM yX4_prepare cX4_prepare 3 none 0 0 0 [(1, rn), (1, h), (1, sc)] K M (qv K (fun M' => M' rn 0 = h ∧ M' rn 1 = sc ∧ M' rn 2 = 0 ∧ M' rn 3 = 0 ∧ ∀ b, b ≠ rn → M' b = M b)) := by
  refine am_of (by decide) (Nat.le_of_ble_eq_true rfl) (L := [(1, rn), (1, h), (1, sc)]) rfl ?_
  refine aw_aload_n dX4_prepare_0 rfl rfl ⟨by decide, by decide⟩ ?_
  refine aw_aload_n dX4_prepare_1 rfl rfl ⟨by decide, by decide⟩ ?_
  refine aw_pr 0 dX4_prepare_2 fl_RX4_19 (by assumption) rfl rfl h0 z0 ?_
  refine aw_aload_n dX4_prepare_5 rfl rfl ⟨by decide, by decide⟩ ?_
  refine aw_aload_n dX4_prepare_6 rfl rfl ⟨by decide, by decide⟩ ?_
  refine aw_pr 1 dX4_prepare_7 fl_RX4_23 (by assumption) rfl rfl s0 z1 ?_
  refine aw_aload_n dX4_prepare_10 rfl rfl ⟨by decide, by decide⟩ ?_
  refine aw_iconst dX4_prepare_11 rfl ⟨by decide, by decide⟩ ?_
  refine aw_pi 2 dX4_prepare_12 fl_RX4_9 (by assumption) rfl rfl ?_
  refine aw_aload_n dX4_prepare_15 rfl rfl ⟨by decide, by decide⟩ ?_
  refine aw_iconst dX4_prepare_16 rfl ⟨by decide, by decide⟩ ?_
  refine aw_pz 3 dX4_prepare_17 fl_RX4_15 (by assumption) rfl rfl (by omega) ?_
  refine aw_vret dX4_prepare_20 (by decide) (by decide) ⟨rfl, rfl, ?_, ?_, ?_, ?_, fun b hb => ?_⟩
  · rw [az_up_i _ _ _ _ (by omega), az_up_i _ _ _ _ (by omega), az_up_i _ _ _ _ (by omega), az_up_s]
  · rw [az_up_i _ _ _ _ (by omega), az_up_i _ _ _ _ (by omega), az_up_s]
  · rw [az_up_i _ _ _ _ (by omega), az_up_s]
  · rw [az_up_s]
  · rw [up_oth _ _ _ hb, up_oth _ _ _ hb, up_oth _ _ _ hb, up_oth _ _ _ hb]
end CG
section GT0
variable {K : az_K} {h rn sc : Int} {it : Int → Int → Int} {n : Int} {c : Int}
set_option maxHeartbeats 2000000 in
theorem sp_goT0 (hK : RnK K h rn sc) (hN : NP it n) (hc : c ≤ 1998990000) (lo hi : Int) (st0 : rSx) (M : az_M) (hr : RG it n lo hi) (hdp : ∀ j, lo ≤ j → j < hi → 4 ≤ it j 5) (hs : CS M h rn sc it n st0) (hw : RW c st0) : AM yX4_goThrough cX4_goThrough 7 none 5 0 0 [(1, rn), (0, lo), (0, hi), (0, 4)] K M (qv K (fun M' => CS M' h rn sc it n (ex it lo hi st0) ∧ frW M M' h rn)) := by
  have hK0 := hK
  obtain ⟨kr, hH, hSc, d1, d2, d3⟩ := hK
  obtain ⟨s0, s1, s2, s3, s4, s5, x0, x1', x2, x3, x4⟩ := hSc
  obtain ⟨hRg, kh, k6, k7, k8, k9, k10, k11, k12, k13, k14, z0, z1, z2, z3, z4, z5, z6, z7, z8, z9⟩ := hH
  refine am_of (by decide) (Nat.le_of_ble_eq_true rfl) (L := [(1, rn), (0, lo), (0, hi), (0, 4), (9, 0), (9, 0), (9, 0)]) rfl ?_
  generalize hR : ex it lo hi st0 = R
  refine aw_iload_n dX4_goThrough_0 rfl rfl ?_
  refine aw_iconst dX4_goThrough_1 rfl ⟨by decide, by decide⟩ ?_
  refine aw_icmp_le (tgt := 6) dX4_goThrough_2 rfl (fun h2 => ?_) (fun h2 => absurd h2 (by omega))
  refine aw_iload_n dX4_goThrough_6 rfl rfl ?_
  refine aw_istore dX4_goThrough_7 (by decide) ?_
  have loop : ∀ (d : Nat) (i : Int) (st : rSx) (M1 : az_M) (v5 v6 : az_V), hi - i ≤ d → lo ≤ i → RG it n i hi → CS M1 h rn sc it n st → RW c st → frW M M1 h rn → ex it i hi st = R → AW az_P0 (az_Z (qv K (fun M' => CS M' h rn sc it n R ∧ frW M M' h rn)) 0 0) (az_rm 5 0 0) yX4_goThrough cX4_goThrough 7 none 0 0 9 [(1, rn), (0, lo), (0, hi), (0, 4), (0, i), v5, v6] [] K M1 := by
    intro d
    induction d with
    | zero =>
      intro i st M1 v5 v6 hd hlo hri hs1 hw1 f1 hx
      rw [ex_stop (fun w => by omega)] at hx
      subst hx
      refine aw_iload dX4_goThrough_9 rfl ?_
      refine aw_iload_n dX4_goThrough_11 rfl rfl ?_
      refine aw_icmp_ge (tgt := 198) dX4_goThrough_12 rfl (fun h12 => ?_) (fun h12 => absurd h12 (by omega))
      exact aw_vret dX4_goThrough_198 (by decide) (by decide) ⟨rfl, rfl, hs1, f1⟩
    | succ d ih =>
      intro i st M1 v5 v6 hd hlo hri hs1 hw1 f1 hx
      have hs1' := hs1
      obtain ⟨c1, c2, c3, c4, c5, c6⟩ := hs1
      obtain ⟨w1, w2, w3, w4, w5, w6⟩ := id hw1
      refine aw_iload dX4_goThrough_9 rfl ?_
      refine aw_iload_n dX4_goThrough_11 rfl rfl ?_
      refine aw_icmp_ge (tgt := 198) dX4_goThrough_12 rfl (fun h12 => ?_) (fun h12 => ?_)
      · rw [ex_stop (fun w => by omega)] at hx
        subst hx
        exact aw_vret dX4_goThrough_198 (by decide) (by decide) ⟨rfl, rfl, hs1', f1⟩
      · refine aw_aload_n dX4_goThrough_15 rfl rfl ⟨by decide, by decide⟩ ?_
        refine aw_gi 3 dX4_goThrough_16 fl_RX4_15 (by assumption) rfl rfl c6 ?_
        refine aw_if_ne (tgt := 198) dX4_goThrough_19 rfl (fun h19 => ?_) (fun h19 => ?_)
        · rw [ex_stop (fun w => h19 w.2)] at hx
          subst hx
          exact aw_vret dX4_goThrough_198 (by decide) (by decide) ⟨rfl, rfl, hs1', f1⟩
        · have hlt : i < hi := by omega
          rw [ex_step hN hri hlt h19] at hx
          obtain ⟨r1, r2, r3, r4⟩ := hri.inn hN hlt
          have i0 := hri.1
          have in_ : i < n := by have := hri.2.1; omega
          have n40 := c2.2.1
          obtain ⟨a1, a2, a3, a4, a5⟩ := hN i i0 in_
          obtain ⟨p0, p1, p2, p3, p4⟩ := c2.2.2 i i0 in_
          have hdi := hdp i hlo hlt
          have w6' := w6 h19
          have next : ∀ (st2 : rSx) (M2 : az_M) (u5 u6 : az_V), CS M2 h rn sc it n st2 → RW c st2 → frW M M2 h rn → ex it (it i 4) hi st2 = R → AW az_P0 (az_Z (qv K (fun M' => CS M' h rn sc it n R ∧ frW M M' h rn)) 0 0) (az_rm 5 0 0) yX4_goThrough cX4_goThrough 7 none 0 0 176 [(1, rn), (0, lo), (0, hi), (0, 4), (0, i), u5, u6] [] K M2 := by
            intro st2 M2 u5 u6 hs2 hw2 f2 hx2
            have e4 : M2 (sc + 5) i = it i 4 := (hs2.2.1.2.2 i i0 in_).2.2.2.2
            refine aw_iload dX4_goThrough_176 rfl ?_
            refine aw_iconst dX4_goThrough_178 rfl ⟨by decide, by decide⟩ ?_
            refine aw_iadd dX4_goThrough_179 (az_wr_id (by omega) (by omega)) ?_
            refine aw_aload_n dX4_goThrough_180 rfl rfl ⟨by decide, by decide⟩ ?_
            refine aw_gr 1 dX4_goThrough_181 fl_RX4_23 (by assumption) rfl rfl hs2.2.2.2.1 ?_
            refine aw_gzF 4 dX4_goThrough_184 fl_RX4_36 (by assumption) rfl rfl (by assumption) ?_
            refine aw_iload dX4_goThrough_187 rfl ?_
            refine aw_iv dX4_goThrough_189 (by assumption) (by omega) (by omega) e4 ?_
            refine aw_mmax dX4_goThrough_190 mm_RX4_53 ⟨by decide, by decide, by decide, by decide⟩ ?_
            rw [show max (i + 1) (it i 4) = it i 4 by omega]
            refine aw_istore dX4_goThrough_193 (by decide) ?_
            refine aw_goto (tgt := 9) dX4_goThrough_195 rfl ?_
            exact ih (it i 4) st2 M2 _ _ (by omega) (by omega) r2 hs2 hw2 f2 hx2
          exfalso
          omega
  exact loop (hi - lo).toNat lo st0 M _ _ (by omega) (by omega) hr hs hw (frW.refl M h rn) hR
end GT0
section GT1
variable {K : az_K} {h rn sc : Int} {it : Int → Int → Int} {n : Int} {c : Int}
set_option maxHeartbeats 2000000 in
theorem sp_goT1 (hK : RnK K h rn sc) (hN : NP it n) (hc : c ≤ 1998990000) (lo hi : Int) (st0 : rSx) (M : az_M) (hr : RG it n lo hi) (hdp : ∀ j, lo ≤ j → j < hi → 3 ≤ it j 5) (hs : CS M h rn sc it n st0) (hw : RW c st0) : AM yX4_goThrough cX4_goThrough 7 none 6 0 0 [(1, rn), (0, lo), (0, hi), (0, 3)] K M (qv K (fun M' => CS M' h rn sc it n (ex it lo hi st0) ∧ frW M M' h rn)) := by
  have hK0 := hK
  obtain ⟨kr, hH, hSc, d1, d2, d3⟩ := hK
  obtain ⟨s0, s1, s2, s3, s4, s5, x0, x1', x2, x3, x4⟩ := hSc
  obtain ⟨hRg, kh, k6, k7, k8, k9, k10, k11, k12, k13, k14, z0, z1, z2, z3, z4, z5, z6, z7, z8, z9⟩ := hH
  refine am_of (by decide) (Nat.le_of_ble_eq_true rfl) (L := [(1, rn), (0, lo), (0, hi), (0, 3), (9, 0), (9, 0), (9, 0)]) rfl ?_
  generalize hR : ex it lo hi st0 = R
  refine aw_iload_n dX4_goThrough_0 rfl rfl ?_
  refine aw_iconst dX4_goThrough_1 rfl ⟨by decide, by decide⟩ ?_
  refine aw_icmp_le (tgt := 6) dX4_goThrough_2 rfl (fun h2 => ?_) (fun h2 => absurd h2 (by omega))
  refine aw_iload_n dX4_goThrough_6 rfl rfl ?_
  refine aw_istore dX4_goThrough_7 (by decide) ?_
  have loop : ∀ (d : Nat) (i : Int) (st : rSx) (M1 : az_M) (v5 v6 : az_V), hi - i ≤ d → lo ≤ i → RG it n i hi → CS M1 h rn sc it n st → RW c st → frW M M1 h rn → ex it i hi st = R → AW az_P0 (az_Z (qv K (fun M' => CS M' h rn sc it n R ∧ frW M M' h rn)) 0 0) (az_rm 6 0 0) yX4_goThrough cX4_goThrough 7 none 0 0 9 [(1, rn), (0, lo), (0, hi), (0, 3), (0, i), v5, v6] [] K M1 := by
    intro d
    induction d with
    | zero =>
      intro i st M1 v5 v6 hd hlo hri hs1 hw1 f1 hx
      rw [ex_stop (fun w => by omega)] at hx
      subst hx
      refine aw_iload dX4_goThrough_9 rfl ?_
      refine aw_iload_n dX4_goThrough_11 rfl rfl ?_
      refine aw_icmp_ge (tgt := 198) dX4_goThrough_12 rfl (fun h12 => ?_) (fun h12 => absurd h12 (by omega))
      exact aw_vret dX4_goThrough_198 (by decide) (by decide) ⟨rfl, rfl, hs1, f1⟩
    | succ d ih =>
      intro i st M1 v5 v6 hd hlo hri hs1 hw1 f1 hx
      have hs1' := hs1
      obtain ⟨c1, c2, c3, c4, c5, c6⟩ := hs1
      obtain ⟨w1, w2, w3, w4, w5, w6⟩ := id hw1
      refine aw_iload dX4_goThrough_9 rfl ?_
      refine aw_iload_n dX4_goThrough_11 rfl rfl ?_
      refine aw_icmp_ge (tgt := 198) dX4_goThrough_12 rfl (fun h12 => ?_) (fun h12 => ?_)
      · rw [ex_stop (fun w => by omega)] at hx
        subst hx
        exact aw_vret dX4_goThrough_198 (by decide) (by decide) ⟨rfl, rfl, hs1', f1⟩
      · refine aw_aload_n dX4_goThrough_15 rfl rfl ⟨by decide, by decide⟩ ?_
        refine aw_gi 3 dX4_goThrough_16 fl_RX4_15 (by assumption) rfl rfl c6 ?_
        refine aw_if_ne (tgt := 198) dX4_goThrough_19 rfl (fun h19 => ?_) (fun h19 => ?_)
        · rw [ex_stop (fun w => h19 w.2)] at hx
          subst hx
          exact aw_vret dX4_goThrough_198 (by decide) (by decide) ⟨rfl, rfl, hs1', f1⟩
        · have hlt : i < hi := by omega
          rw [ex_step hN hri hlt h19] at hx
          obtain ⟨r1, r2, r3, r4⟩ := hri.inn hN hlt
          have i0 := hri.1
          have in_ : i < n := by have := hri.2.1; omega
          have n40 := c2.2.1
          obtain ⟨a1, a2, a3, a4, a5⟩ := hN i i0 in_
          obtain ⟨p0, p1, p2, p3, p4⟩ := c2.2.2 i i0 in_
          have hdi := hdp i hlo hlt
          have w6' := w6 h19
          have next : ∀ (st2 : rSx) (M2 : az_M) (u5 u6 : az_V), CS M2 h rn sc it n st2 → RW c st2 → frW M M2 h rn → ex it (it i 4) hi st2 = R → AW az_P0 (az_Z (qv K (fun M' => CS M' h rn sc it n R ∧ frW M M' h rn)) 0 0) (az_rm 6 0 0) yX4_goThrough cX4_goThrough 7 none 0 0 176 [(1, rn), (0, lo), (0, hi), (0, 3), (0, i), u5, u6] [] K M2 := by
            intro st2 M2 u5 u6 hs2 hw2 f2 hx2
            have e4 : M2 (sc + 5) i = it i 4 := (hs2.2.1.2.2 i i0 in_).2.2.2.2
            refine aw_iload dX4_goThrough_176 rfl ?_
            refine aw_iconst dX4_goThrough_178 rfl ⟨by decide, by decide⟩ ?_
            refine aw_iadd dX4_goThrough_179 (az_wr_id (by omega) (by omega)) ?_
            refine aw_aload_n dX4_goThrough_180 rfl rfl ⟨by decide, by decide⟩ ?_
            refine aw_gr 1 dX4_goThrough_181 fl_RX4_23 (by assumption) rfl rfl hs2.2.2.2.1 ?_
            refine aw_gzF 4 dX4_goThrough_184 fl_RX4_36 (by assumption) rfl rfl (by assumption) ?_
            refine aw_iload dX4_goThrough_187 rfl ?_
            refine aw_iv dX4_goThrough_189 (by assumption) (by omega) (by omega) e4 ?_
            refine aw_mmax dX4_goThrough_190 mm_RX4_53 ⟨by decide, by decide, by decide, by decide⟩ ?_
            rw [show max (i + 1) (it i 4) = it i 4 by omega]
            refine aw_istore dX4_goThrough_193 (by decide) ?_
            refine aw_goto (tgt := 9) dX4_goThrough_195 rfl ?_
            exact ih (it i 4) st2 M2 _ _ (by omega) (by omega) r2 hs2 hw2 f2 hx2
          have hin : ∀ j, i + 1 ≤ j → j < it i 4 → 4 ≤ it j 5 := fun j j0 j1 => by have := (a5 j (by omega) j1).2; omega
          unfold x1 at hx
          by_cases q5 : it i 0 = 5
          · rw [if_pos q5] at hx
            have v31 : M1 (sc + 1) i = 5 := p0.trans q5
            obtain ⟨U, hU⟩ : ∃ U : Nat, (it i 3).toNat = U := ⟨_, rfl⟩
            rw [hU] at hx
            refine aw_aload_n dX4_goThrough_22 rfl rfl ⟨by decide, by decide⟩ ?_
            refine aw_gr 1 dX4_goThrough_23 fl_RX4_23 (by assumption) rfl rfl c4 ?_
            refine aw_gzF 0 dX4_goThrough_26 fl_RX4_27 (by assumption) rfl rfl (by assumption) ?_
            refine aw_iload dX4_goThrough_29 rfl ?_
            refine aw_iv dX4_goThrough_31 (by assumption) (by omega) (by omega) v31 ?_
            refine aw_iconst dX4_goThrough_32 rfl ⟨by decide, by decide⟩ ?_
            refine aw_icmp_ne (tgt := 109) dX4_goThrough_33 rfl (fun h33 => absurd h33 (by omega)) (fun h33 => ?_)
            refine aw_iconst dX4_goThrough_36 rfl ⟨by decide, by decide⟩ ?_
            refine aw_istore dX4_goThrough_37 (by decide) ?_
            refine aw_iconst dX4_goThrough_39 rfl ⟨by decide, by decide⟩ ?_
            refine aw_istore dX4_goThrough_40 (by decide) ?_
            have rounds : ∀ (g k : Nat) (sk : rSx) (M2 : az_M) (ga : Int), k + g = U → CS M2 h rn sc it n sk → RW c sk → frW M M2 h rn → ex it (it i 4) hi (itr g (ex it (i + 1) (it i 4)) sk) = R → (ga = sk.2.1 → sk.2.2 = 0 → ex it (i + 1) (it i 4) sk = sk) → AW az_P0 (az_Z (qv K (fun M' => CS M' h rn sc it n R ∧ frW M M' h rn)) 0 0) (az_rm 6 0 0) yX4_goThrough cX4_goThrough 7 none 0 0 42 [(1, rn), (0, lo), (0, hi), (0, 3), (0, i), (0, ga), (0, (k : Int))] [] K M2 := by
              intro g
              induction g with
              | zero =>
                intro k sk M2 ga hk hs2 hw2 f2 hx2 hga
                have e3 : M2 (sc + 4) i = it i 3 := (hs2.2.1.2.2 i i0 in_).2.2.2.1
                refine aw_iload dX4_goThrough_42 rfl ?_
                refine aw_aload_n dX4_goThrough_44 rfl rfl ⟨by decide, by decide⟩ ?_
                refine aw_gr 1 dX4_goThrough_45 fl_RX4_23 (by assumption) rfl rfl hs2.2.2.2.1 ?_
                refine aw_gzF 3 dX4_goThrough_48 fl_RX4_33 (by assumption) rfl rfl (by assumption) ?_
                refine aw_iload dX4_goThrough_51 rfl ?_
                refine aw_iv dX4_goThrough_53 (by assumption) (by omega) (by omega) e3 ?_
                refine aw_icmp_ge (tgt := 106) dX4_goThrough_54 rfl (fun h54 => ?_) (fun h54 => absurd h54 (by omega))
                refine aw_goto (tgt := 176) dX4_goThrough_106 rfl ?_
                exact next sk M2 _ _ hs2 hw2 f2 hx2
              | succ g ihg =>
                intro k sk M2 ga hk hs2 hw2 f2 hx2 hga
                have e3 : M2 (sc + 4) i = it i 3 := (hs2.2.1.2.2 i i0 in_).2.2.2.1
                have e4 : M2 (sc + 5) i = it i 4 := (hs2.2.1.2.2 i i0 in_).2.2.2.2
                refine aw_iload dX4_goThrough_42 rfl ?_
                refine aw_aload_n dX4_goThrough_44 rfl rfl ⟨by decide, by decide⟩ ?_
                refine aw_gr 1 dX4_goThrough_45 fl_RX4_23 (by assumption) rfl rfl hs2.2.2.2.1 ?_
                refine aw_gzF 3 dX4_goThrough_48 fl_RX4_33 (by assumption) rfl rfl (by assumption) ?_
                refine aw_iload dX4_goThrough_51 rfl ?_
                refine aw_iv dX4_goThrough_53 (by assumption) (by omega) (by omega) e3 ?_
                refine aw_icmp_ge (tgt := 106) dX4_goThrough_54 rfl (fun h54 => absurd h54 (by omega)) (fun h54 => ?_)
                refine aw_aload_n dX4_goThrough_57 rfl rfl ⟨by decide, by decide⟩ ?_
                refine aw_gi 3 dX4_goThrough_58 fl_RX4_15 (by assumption) rfl rfl hs2.2.2.2.2.2 ?_
                refine aw_if_ne (tgt := 106) dX4_goThrough_61 rfl (fun h61 => ?_) (fun h61 => ?_)
                · rw [itr_sto (ex_sto _ _) _ sk h61] at hx2
                  refine aw_goto (tgt := 176) dX4_goThrough_106 rfl ?_
                  exact next sk M2 _ _ hs2 hw2 f2 hx2
                · refine aw_aload_n dX4_goThrough_64 rfl rfl ⟨by decide, by decide⟩ ?_
                  refine aw_gi 2 dX4_goThrough_65 fl_RX4_9 (by assumption) rfl rfl hs2.2.2.2.2.1 ?_
                  refine aw_iload dX4_goThrough_68 rfl ?_
                  refine aw_icmp_eq (tgt := 106) dX4_goThrough_70 rfl (fun h70 => ?_) (fun h70 => ?_)
                  · rw [itr_fix (hga h70.symm h61)] at hx2
                    refine aw_goto (tgt := 176) dX4_goThrough_106 rfl ?_
                    exact next sk M2 _ _ hs2 hw2 f2 hx2
                  · refine aw_aload_n dX4_goThrough_73 rfl rfl ⟨by decide, by decide⟩ ?_
                    refine aw_gi 2 dX4_goThrough_74 fl_RX4_9 (by assumption) rfl rfl hs2.2.2.2.2.1 ?_
                    refine aw_istore dX4_goThrough_77 (by decide) ?_
                    refine aw_aload_n dX4_goThrough_79 rfl rfl ⟨by decide, by decide⟩ ?_
                    refine aw_iload dX4_goThrough_80 rfl ?_
                    refine aw_iconst dX4_goThrough_82 rfl ⟨by decide, by decide⟩ ?_
                    refine aw_iadd dX4_goThrough_83 (az_wr_id (by omega) (by omega)) ?_
                    refine aw_aload_n dX4_goThrough_84 rfl rfl ⟨by decide, by decide⟩ ?_
                    refine aw_gr 1 dX4_goThrough_85 fl_RX4_23 (by assumption) rfl rfl hs2.2.2.2.1 ?_
                    refine aw_gzF 4 dX4_goThrough_88 fl_RX4_36 (by assumption) rfl rfl (by assumption) ?_
                    refine aw_iload dX4_goThrough_91 rfl ?_
                    refine aw_iv dX4_goThrough_93 (by assumption) (by omega) (by omega) e4 ?_
                    refine aw_iload_n dX4_goThrough_94 rfl rfl ?_
                    refine aw_iconst dX4_goThrough_95 rfl ⟨by decide, by decide⟩ ?_
                    refine aw_iadd dX4_goThrough_96 (az_wr_id (by omega) (by omega)) ?_
                    refine aw_cV3v dX4_goThrough_97 ml_RX4_39 (by assumption) (by decide) rfl rfl ⟨by decide, by decide, by decide, by decide⟩ (Nat.le_of_ble_eq_true rfl) (sp_goT0 hK0 hN hc (i + 1) (it i 4) sk M2 r1 hin hs2 hw2) (fun M3 hM3 => ?_)
                    obtain ⟨hs3, f3⟩ := hM3
                    have hm := ex_mon (it := it) (i + 1) (it i 4) sk
                    refine aw_iinc dX4_goThrough_100 rfl (az_wr_id (by omega) (by omega)) (by decide) ?_
                    refine aw_goto (tgt := 42) dX4_goThrough_103 rfl ?_
                    refine ihg (k + 1) _ M3 sk.2.1 (by omega) hs3 (ex_RW hN r1 hw2) (f2.trans f3) hx2 (fun e z => ?_)
                    have := hm.2 e.symm z
                    rw [this]; exact this
            refine rounds U 0 st M1 (-1) (by omega) hs1' hw1 f1 hx (fun e => by omega)
          rw [if_neg q5] at hx
          by_cases q6 : it i 0 = 6
          · rw [if_pos q6] at hx
            have v31 : M1 (sc + 1) i = 6 := p0.trans q6
            have v141 : M1 (h + 9) (it i 1) = st.1.1 (715 + it i 1) := c1.2.2.2.2.2.1.1 _ (by omega) (by omega)
            have hnk := nam_nok w1 (x := 715 + it i 1) (by omega) (by omega)
            refine aw_aload_n dX4_goThrough_22 rfl rfl ⟨by decide, by decide⟩ ?_
            refine aw_gr 1 dX4_goThrough_23 fl_RX4_23 (by assumption) rfl rfl c4 ?_
            refine aw_gzF 0 dX4_goThrough_26 fl_RX4_27 (by assumption) rfl rfl (by assumption) ?_
            refine aw_iload dX4_goThrough_29 rfl ?_
            refine aw_iv dX4_goThrough_31 (by assumption) (by omega) (by omega) v31 ?_
            refine aw_iconst dX4_goThrough_32 rfl ⟨by decide, by decide⟩ ?_
            refine aw_icmp_ne (tgt := 109) dX4_goThrough_33 rfl (fun h33 => ?_) (fun h33 => absurd h33 (by omega))
            refine aw_aload_n dX4_goThrough_109 rfl rfl ⟨by decide, by decide⟩ ?_
            refine aw_gr 1 dX4_goThrough_110 fl_RX4_23 (by assumption) rfl rfl c4 ?_
            refine aw_gzF 0 dX4_goThrough_113 fl_RX4_27 (by assumption) rfl rfl (by assumption) ?_
            refine aw_iload dX4_goThrough_116 rfl ?_
            refine aw_iv dX4_goThrough_118 (by assumption) (by omega) (by omega) v31 ?_
            refine aw_bipush dX4_goThrough_119 (by decide) ⟨by decide, by decide⟩ ?_
            refine aw_icmp_ne (tgt := 170) dX4_goThrough_121 rfl (fun h121 => absurd h121 (by omega)) (fun h121 => ?_)
            refine aw_aload_n dX4_goThrough_124 rfl rfl ⟨by decide, by decide⟩ ?_
            refine aw_gr 0 dX4_goThrough_125 fl_RX4_19 (by assumption) rfl rfl c3 ?_
            refine aw_gzF 4 dX4_goThrough_128 fl_RX4_43 (by assumption) rfl rfl (by assumption) ?_
            refine aw_aload_n dX4_goThrough_131 rfl rfl ⟨by decide, by decide⟩ ?_
            refine aw_gr 1 dX4_goThrough_132 fl_RX4_23 (by assumption) rfl rfl c4 ?_
            refine aw_gzF 1 dX4_goThrough_135 fl_RX4_48 (by assumption) rfl rfl (by assumption) ?_
            refine aw_iload dX4_goThrough_138 rfl ?_
            refine aw_iv dX4_goThrough_140 (by assumption) (by omega) (by omega) p1 ?_
            refine aw_iv dX4_goThrough_141 (by assumption) (by omega) (by omega) v141 ?_
            refine aw_iconst dX4_goThrough_142 rfl ⟨by decide, by decide⟩ ?_
            refine aw_icmp_eq (tgt := 176) dX4_goThrough_143 rfl (fun h143 => ?_) (fun h143 => ?_)
            · rw [if_neg (by omega)] at hx
              exact next st M1 _ _ hs1' hw1 f1 hx
            · have h00 : 0 ≤ st.1.1 (715 + it i 1) := by
                rcases hnk with w | w
                · omega
                · exact w.1.1
              rw [if_pos h00] at hx
              refine aw_aload_n dX4_goThrough_146 rfl rfl ⟨by decide, by decide⟩ ?_
              refine aw_iload dX4_goThrough_147 rfl ?_
              refine aw_iconst dX4_goThrough_149 rfl ⟨by decide, by decide⟩ ?_
              refine aw_iadd dX4_goThrough_150 (az_wr_id (by omega) (by omega)) ?_
              refine aw_aload_n dX4_goThrough_151 rfl rfl ⟨by decide, by decide⟩ ?_
              refine aw_gr 1 dX4_goThrough_152 fl_RX4_23 (by assumption) rfl rfl c4 ?_
              refine aw_gzF 4 dX4_goThrough_155 fl_RX4_36 (by assumption) rfl rfl (by assumption) ?_
              refine aw_iload dX4_goThrough_158 rfl ?_
              refine aw_iv dX4_goThrough_160 (by assumption) (by omega) (by omega) p4 ?_
              refine aw_iload_n dX4_goThrough_161 rfl rfl ?_
              refine aw_iconst dX4_goThrough_162 rfl ⟨by decide, by decide⟩ ?_
              refine aw_iadd dX4_goThrough_163 (az_wr_id (by omega) (by omega)) ?_
              refine aw_cV3v dX4_goThrough_164 ml_RX4_39 (by assumption) (by decide) rfl rfl ⟨by decide, by decide, by decide, by decide⟩ (Nat.le_of_ble_eq_true rfl) (sp_goT0 hK0 hN hc (i + 1) (it i 4) st M1 r1 hin hs1' hw1) (fun M3 hM3 => ?_)
              refine aw_goto (tgt := 176) dX4_goThrough_167 rfl ?_
              exact next _ M3 _ _ hM3.1 (ex_RW hN r1 hw1) (f1.trans hM3.2) hx
          rw [if_neg q6] at hx
          have k4 : it i 0 < 5 := by omega
          refine aw_aload_n dX4_goThrough_22 rfl rfl ⟨by decide, by decide⟩ ?_
          refine aw_gr 1 dX4_goThrough_23 fl_RX4_23 (by assumption) rfl rfl c4 ?_
          refine aw_gzF 0 dX4_goThrough_26 fl_RX4_27 (by assumption) rfl rfl (by assumption) ?_
          refine aw_iload dX4_goThrough_29 rfl ?_
          refine aw_iv dX4_goThrough_31 (by assumption) (by omega) (by omega) p0 ?_
          refine aw_iconst dX4_goThrough_32 rfl ⟨by decide, by decide⟩ ?_
          refine aw_icmp_ne (tgt := 109) dX4_goThrough_33 rfl (fun h33 => ?_) (fun h33 => absurd h33 (by omega))
          refine aw_aload_n dX4_goThrough_109 rfl rfl ⟨by decide, by decide⟩ ?_
          refine aw_gr 1 dX4_goThrough_110 fl_RX4_23 (by assumption) rfl rfl c4 ?_
          refine aw_gzF 0 dX4_goThrough_113 fl_RX4_27 (by assumption) rfl rfl (by assumption) ?_
          refine aw_iload dX4_goThrough_116 rfl ?_
          refine aw_iv dX4_goThrough_118 (by assumption) (by omega) (by omega) p0 ?_
          refine aw_bipush dX4_goThrough_119 (by decide) ⟨by decide, by decide⟩ ?_
          refine aw_icmp_ne (tgt := 170) dX4_goThrough_121 rfl (fun h121 => ?_) (fun h121 => absurd h121 (by omega))
          refine aw_aload_n dX4_goThrough_170 rfl rfl ⟨by decide, by decide⟩ ?_
          refine aw_iload dX4_goThrough_171 rfl ?_
          refine aw_cV1v dX4_goThrough_173 ml_RX4_49 (by assumption) (by decide) rfl rfl ⟨by decide, by decide, by decide, by decide⟩ (Nat.le_of_ble_eq_true rfl) (sp_go hK0 M1 hs1' w1 (by omega) h19 w4.1 w6' i i0 in_ a1 k4) (fun M3 hM3 => ?_)
          exact next _ M3 _ _ hM3.1 (go1_RW hw1 h19 a1 k4) (f1.trans hM3.2) hx
  exact loop (hi - lo).toNat lo st0 M _ _ (by omega) (by omega) hr hs hw (frW.refl M h rn) hR
end GT1
section GT2
variable {K : az_K} {h rn sc : Int} {it : Int → Int → Int} {n : Int} {c : Int}
set_option maxHeartbeats 2000000 in
theorem sp_goT2 (hK : RnK K h rn sc) (hN : NP it n) (hc : c ≤ 1998990000) (lo hi : Int) (st0 : rSx) (M : az_M) (hr : RG it n lo hi) (hdp : ∀ j, lo ≤ j → j < hi → 2 ≤ it j 5) (hs : CS M h rn sc it n st0) (hw : RW c st0) : AM yX4_goThrough cX4_goThrough 7 none 7 0 0 [(1, rn), (0, lo), (0, hi), (0, 2)] K M (qv K (fun M' => CS M' h rn sc it n (ex it lo hi st0) ∧ frW M M' h rn)) := by
  have hK0 := hK
  obtain ⟨kr, hH, hSc, d1, d2, d3⟩ := hK
  obtain ⟨s0, s1, s2, s3, s4, s5, x0, x1', x2, x3, x4⟩ := hSc
  obtain ⟨hRg, kh, k6, k7, k8, k9, k10, k11, k12, k13, k14, z0, z1, z2, z3, z4, z5, z6, z7, z8, z9⟩ := hH
  refine am_of (by decide) (Nat.le_of_ble_eq_true rfl) (L := [(1, rn), (0, lo), (0, hi), (0, 2), (9, 0), (9, 0), (9, 0)]) rfl ?_
  generalize hR : ex it lo hi st0 = R
  refine aw_iload_n dX4_goThrough_0 rfl rfl ?_
  refine aw_iconst dX4_goThrough_1 rfl ⟨by decide, by decide⟩ ?_
  refine aw_icmp_le (tgt := 6) dX4_goThrough_2 rfl (fun h2 => ?_) (fun h2 => absurd h2 (by omega))
  refine aw_iload_n dX4_goThrough_6 rfl rfl ?_
  refine aw_istore dX4_goThrough_7 (by decide) ?_
  have loop : ∀ (d : Nat) (i : Int) (st : rSx) (M1 : az_M) (v5 v6 : az_V), hi - i ≤ d → lo ≤ i → RG it n i hi → CS M1 h rn sc it n st → RW c st → frW M M1 h rn → ex it i hi st = R → AW az_P0 (az_Z (qv K (fun M' => CS M' h rn sc it n R ∧ frW M M' h rn)) 0 0) (az_rm 7 0 0) yX4_goThrough cX4_goThrough 7 none 0 0 9 [(1, rn), (0, lo), (0, hi), (0, 2), (0, i), v5, v6] [] K M1 := by
    intro d
    induction d with
    | zero =>
      intro i st M1 v5 v6 hd hlo hri hs1 hw1 f1 hx
      rw [ex_stop (fun w => by omega)] at hx
      subst hx
      refine aw_iload dX4_goThrough_9 rfl ?_
      refine aw_iload_n dX4_goThrough_11 rfl rfl ?_
      refine aw_icmp_ge (tgt := 198) dX4_goThrough_12 rfl (fun h12 => ?_) (fun h12 => absurd h12 (by omega))
      exact aw_vret dX4_goThrough_198 (by decide) (by decide) ⟨rfl, rfl, hs1, f1⟩
    | succ d ih =>
      intro i st M1 v5 v6 hd hlo hri hs1 hw1 f1 hx
      have hs1' := hs1
      obtain ⟨c1, c2, c3, c4, c5, c6⟩ := hs1
      obtain ⟨w1, w2, w3, w4, w5, w6⟩ := id hw1
      refine aw_iload dX4_goThrough_9 rfl ?_
      refine aw_iload_n dX4_goThrough_11 rfl rfl ?_
      refine aw_icmp_ge (tgt := 198) dX4_goThrough_12 rfl (fun h12 => ?_) (fun h12 => ?_)
      · rw [ex_stop (fun w => by omega)] at hx
        subst hx
        exact aw_vret dX4_goThrough_198 (by decide) (by decide) ⟨rfl, rfl, hs1', f1⟩
      · refine aw_aload_n dX4_goThrough_15 rfl rfl ⟨by decide, by decide⟩ ?_
        refine aw_gi 3 dX4_goThrough_16 fl_RX4_15 (by assumption) rfl rfl c6 ?_
        refine aw_if_ne (tgt := 198) dX4_goThrough_19 rfl (fun h19 => ?_) (fun h19 => ?_)
        · rw [ex_stop (fun w => h19 w.2)] at hx
          subst hx
          exact aw_vret dX4_goThrough_198 (by decide) (by decide) ⟨rfl, rfl, hs1', f1⟩
        · have hlt : i < hi := by omega
          rw [ex_step hN hri hlt h19] at hx
          obtain ⟨r1, r2, r3, r4⟩ := hri.inn hN hlt
          have i0 := hri.1
          have in_ : i < n := by have := hri.2.1; omega
          have n40 := c2.2.1
          obtain ⟨a1, a2, a3, a4, a5⟩ := hN i i0 in_
          obtain ⟨p0, p1, p2, p3, p4⟩ := c2.2.2 i i0 in_
          have hdi := hdp i hlo hlt
          have w6' := w6 h19
          have next : ∀ (st2 : rSx) (M2 : az_M) (u5 u6 : az_V), CS M2 h rn sc it n st2 → RW c st2 → frW M M2 h rn → ex it (it i 4) hi st2 = R → AW az_P0 (az_Z (qv K (fun M' => CS M' h rn sc it n R ∧ frW M M' h rn)) 0 0) (az_rm 7 0 0) yX4_goThrough cX4_goThrough 7 none 0 0 176 [(1, rn), (0, lo), (0, hi), (0, 2), (0, i), u5, u6] [] K M2 := by
            intro st2 M2 u5 u6 hs2 hw2 f2 hx2
            have e4 : M2 (sc + 5) i = it i 4 := (hs2.2.1.2.2 i i0 in_).2.2.2.2
            refine aw_iload dX4_goThrough_176 rfl ?_
            refine aw_iconst dX4_goThrough_178 rfl ⟨by decide, by decide⟩ ?_
            refine aw_iadd dX4_goThrough_179 (az_wr_id (by omega) (by omega)) ?_
            refine aw_aload_n dX4_goThrough_180 rfl rfl ⟨by decide, by decide⟩ ?_
            refine aw_gr 1 dX4_goThrough_181 fl_RX4_23 (by assumption) rfl rfl hs2.2.2.2.1 ?_
            refine aw_gzF 4 dX4_goThrough_184 fl_RX4_36 (by assumption) rfl rfl (by assumption) ?_
            refine aw_iload dX4_goThrough_187 rfl ?_
            refine aw_iv dX4_goThrough_189 (by assumption) (by omega) (by omega) e4 ?_
            refine aw_mmax dX4_goThrough_190 mm_RX4_53 ⟨by decide, by decide, by decide, by decide⟩ ?_
            rw [show max (i + 1) (it i 4) = it i 4 by omega]
            refine aw_istore dX4_goThrough_193 (by decide) ?_
            refine aw_goto (tgt := 9) dX4_goThrough_195 rfl ?_
            exact ih (it i 4) st2 M2 _ _ (by omega) (by omega) r2 hs2 hw2 f2 hx2
          have hin : ∀ j, i + 1 ≤ j → j < it i 4 → 3 ≤ it j 5 := fun j j0 j1 => by have := (a5 j (by omega) j1).2; omega
          unfold x1 at hx
          by_cases q5 : it i 0 = 5
          · rw [if_pos q5] at hx
            have v31 : M1 (sc + 1) i = 5 := p0.trans q5
            obtain ⟨U, hU⟩ : ∃ U : Nat, (it i 3).toNat = U := ⟨_, rfl⟩
            rw [hU] at hx
            refine aw_aload_n dX4_goThrough_22 rfl rfl ⟨by decide, by decide⟩ ?_
            refine aw_gr 1 dX4_goThrough_23 fl_RX4_23 (by assumption) rfl rfl c4 ?_
            refine aw_gzF 0 dX4_goThrough_26 fl_RX4_27 (by assumption) rfl rfl (by assumption) ?_
            refine aw_iload dX4_goThrough_29 rfl ?_
            refine aw_iv dX4_goThrough_31 (by assumption) (by omega) (by omega) v31 ?_
            refine aw_iconst dX4_goThrough_32 rfl ⟨by decide, by decide⟩ ?_
            refine aw_icmp_ne (tgt := 109) dX4_goThrough_33 rfl (fun h33 => absurd h33 (by omega)) (fun h33 => ?_)
            refine aw_iconst dX4_goThrough_36 rfl ⟨by decide, by decide⟩ ?_
            refine aw_istore dX4_goThrough_37 (by decide) ?_
            refine aw_iconst dX4_goThrough_39 rfl ⟨by decide, by decide⟩ ?_
            refine aw_istore dX4_goThrough_40 (by decide) ?_
            have rounds : ∀ (g k : Nat) (sk : rSx) (M2 : az_M) (ga : Int), k + g = U → CS M2 h rn sc it n sk → RW c sk → frW M M2 h rn → ex it (it i 4) hi (itr g (ex it (i + 1) (it i 4)) sk) = R → (ga = sk.2.1 → sk.2.2 = 0 → ex it (i + 1) (it i 4) sk = sk) → AW az_P0 (az_Z (qv K (fun M' => CS M' h rn sc it n R ∧ frW M M' h rn)) 0 0) (az_rm 7 0 0) yX4_goThrough cX4_goThrough 7 none 0 0 42 [(1, rn), (0, lo), (0, hi), (0, 2), (0, i), (0, ga), (0, (k : Int))] [] K M2 := by
              intro g
              induction g with
              | zero =>
                intro k sk M2 ga hk hs2 hw2 f2 hx2 hga
                have e3 : M2 (sc + 4) i = it i 3 := (hs2.2.1.2.2 i i0 in_).2.2.2.1
                refine aw_iload dX4_goThrough_42 rfl ?_
                refine aw_aload_n dX4_goThrough_44 rfl rfl ⟨by decide, by decide⟩ ?_
                refine aw_gr 1 dX4_goThrough_45 fl_RX4_23 (by assumption) rfl rfl hs2.2.2.2.1 ?_
                refine aw_gzF 3 dX4_goThrough_48 fl_RX4_33 (by assumption) rfl rfl (by assumption) ?_
                refine aw_iload dX4_goThrough_51 rfl ?_
                refine aw_iv dX4_goThrough_53 (by assumption) (by omega) (by omega) e3 ?_
                refine aw_icmp_ge (tgt := 106) dX4_goThrough_54 rfl (fun h54 => ?_) (fun h54 => absurd h54 (by omega))
                refine aw_goto (tgt := 176) dX4_goThrough_106 rfl ?_
                exact next sk M2 _ _ hs2 hw2 f2 hx2
              | succ g ihg =>
                intro k sk M2 ga hk hs2 hw2 f2 hx2 hga
                have e3 : M2 (sc + 4) i = it i 3 := (hs2.2.1.2.2 i i0 in_).2.2.2.1
                have e4 : M2 (sc + 5) i = it i 4 := (hs2.2.1.2.2 i i0 in_).2.2.2.2
                refine aw_iload dX4_goThrough_42 rfl ?_
                refine aw_aload_n dX4_goThrough_44 rfl rfl ⟨by decide, by decide⟩ ?_
                refine aw_gr 1 dX4_goThrough_45 fl_RX4_23 (by assumption) rfl rfl hs2.2.2.2.1 ?_
                refine aw_gzF 3 dX4_goThrough_48 fl_RX4_33 (by assumption) rfl rfl (by assumption) ?_
                refine aw_iload dX4_goThrough_51 rfl ?_
                refine aw_iv dX4_goThrough_53 (by assumption) (by omega) (by omega) e3 ?_
                refine aw_icmp_ge (tgt := 106) dX4_goThrough_54 rfl (fun h54 => absurd h54 (by omega)) (fun h54 => ?_)
                refine aw_aload_n dX4_goThrough_57 rfl rfl ⟨by decide, by decide⟩ ?_
                refine aw_gi 3 dX4_goThrough_58 fl_RX4_15 (by assumption) rfl rfl hs2.2.2.2.2.2 ?_
                refine aw_if_ne (tgt := 106) dX4_goThrough_61 rfl (fun h61 => ?_) (fun h61 => ?_)
                · rw [itr_sto (ex_sto _ _) _ sk h61] at hx2
                  refine aw_goto (tgt := 176) dX4_goThrough_106 rfl ?_
                  exact next sk M2 _ _ hs2 hw2 f2 hx2
                · refine aw_aload_n dX4_goThrough_64 rfl rfl ⟨by decide, by decide⟩ ?_
                  refine aw_gi 2 dX4_goThrough_65 fl_RX4_9 (by assumption) rfl rfl hs2.2.2.2.2.1 ?_
                  refine aw_iload dX4_goThrough_68 rfl ?_
                  refine aw_icmp_eq (tgt := 106) dX4_goThrough_70 rfl (fun h70 => ?_) (fun h70 => ?_)
                  · rw [itr_fix (hga h70.symm h61)] at hx2
                    refine aw_goto (tgt := 176) dX4_goThrough_106 rfl ?_
                    exact next sk M2 _ _ hs2 hw2 f2 hx2
                  · refine aw_aload_n dX4_goThrough_73 rfl rfl ⟨by decide, by decide⟩ ?_
                    refine aw_gi 2 dX4_goThrough_74 fl_RX4_9 (by assumption) rfl rfl hs2.2.2.2.2.1 ?_
                    refine aw_istore dX4_goThrough_77 (by decide) ?_
                    refine aw_aload_n dX4_goThrough_79 rfl rfl ⟨by decide, by decide⟩ ?_
                    refine aw_iload dX4_goThrough_80 rfl ?_
                    refine aw_iconst dX4_goThrough_82 rfl ⟨by decide, by decide⟩ ?_
                    refine aw_iadd dX4_goThrough_83 (az_wr_id (by omega) (by omega)) ?_
                    refine aw_aload_n dX4_goThrough_84 rfl rfl ⟨by decide, by decide⟩ ?_
                    refine aw_gr 1 dX4_goThrough_85 fl_RX4_23 (by assumption) rfl rfl hs2.2.2.2.1 ?_
                    refine aw_gzF 4 dX4_goThrough_88 fl_RX4_36 (by assumption) rfl rfl (by assumption) ?_
                    refine aw_iload dX4_goThrough_91 rfl ?_
                    refine aw_iv dX4_goThrough_93 (by assumption) (by omega) (by omega) e4 ?_
                    refine aw_iload_n dX4_goThrough_94 rfl rfl ?_
                    refine aw_iconst dX4_goThrough_95 rfl ⟨by decide, by decide⟩ ?_
                    refine aw_iadd dX4_goThrough_96 (az_wr_id (by omega) (by omega)) ?_
                    refine aw_cV3v dX4_goThrough_97 ml_RX4_39 (by assumption) (by decide) rfl rfl ⟨by decide, by decide, by decide, by decide⟩ (Nat.le_of_ble_eq_true rfl) (sp_goT1 hK0 hN hc (i + 1) (it i 4) sk M2 r1 hin hs2 hw2) (fun M3 hM3 => ?_)
                    obtain ⟨hs3, f3⟩ := hM3
                    have hm := ex_mon (it := it) (i + 1) (it i 4) sk
                    refine aw_iinc dX4_goThrough_100 rfl (az_wr_id (by omega) (by omega)) (by decide) ?_
                    refine aw_goto (tgt := 42) dX4_goThrough_103 rfl ?_
                    refine ihg (k + 1) _ M3 sk.2.1 (by omega) hs3 (ex_RW hN r1 hw2) (f2.trans f3) hx2 (fun e z => ?_)
                    have := hm.2 e.symm z
                    rw [this]; exact this
            refine rounds U 0 st M1 (-1) (by omega) hs1' hw1 f1 hx (fun e => by omega)
          rw [if_neg q5] at hx
          by_cases q6 : it i 0 = 6
          · rw [if_pos q6] at hx
            have v31 : M1 (sc + 1) i = 6 := p0.trans q6
            have v141 : M1 (h + 9) (it i 1) = st.1.1 (715 + it i 1) := c1.2.2.2.2.2.1.1 _ (by omega) (by omega)
            have hnk := nam_nok w1 (x := 715 + it i 1) (by omega) (by omega)
            refine aw_aload_n dX4_goThrough_22 rfl rfl ⟨by decide, by decide⟩ ?_
            refine aw_gr 1 dX4_goThrough_23 fl_RX4_23 (by assumption) rfl rfl c4 ?_
            refine aw_gzF 0 dX4_goThrough_26 fl_RX4_27 (by assumption) rfl rfl (by assumption) ?_
            refine aw_iload dX4_goThrough_29 rfl ?_
            refine aw_iv dX4_goThrough_31 (by assumption) (by omega) (by omega) v31 ?_
            refine aw_iconst dX4_goThrough_32 rfl ⟨by decide, by decide⟩ ?_
            refine aw_icmp_ne (tgt := 109) dX4_goThrough_33 rfl (fun h33 => ?_) (fun h33 => absurd h33 (by omega))
            refine aw_aload_n dX4_goThrough_109 rfl rfl ⟨by decide, by decide⟩ ?_
            refine aw_gr 1 dX4_goThrough_110 fl_RX4_23 (by assumption) rfl rfl c4 ?_
            refine aw_gzF 0 dX4_goThrough_113 fl_RX4_27 (by assumption) rfl rfl (by assumption) ?_
            refine aw_iload dX4_goThrough_116 rfl ?_
            refine aw_iv dX4_goThrough_118 (by assumption) (by omega) (by omega) v31 ?_
            refine aw_bipush dX4_goThrough_119 (by decide) ⟨by decide, by decide⟩ ?_
            refine aw_icmp_ne (tgt := 170) dX4_goThrough_121 rfl (fun h121 => absurd h121 (by omega)) (fun h121 => ?_)
            refine aw_aload_n dX4_goThrough_124 rfl rfl ⟨by decide, by decide⟩ ?_
            refine aw_gr 0 dX4_goThrough_125 fl_RX4_19 (by assumption) rfl rfl c3 ?_
            refine aw_gzF 4 dX4_goThrough_128 fl_RX4_43 (by assumption) rfl rfl (by assumption) ?_
            refine aw_aload_n dX4_goThrough_131 rfl rfl ⟨by decide, by decide⟩ ?_
            refine aw_gr 1 dX4_goThrough_132 fl_RX4_23 (by assumption) rfl rfl c4 ?_
            refine aw_gzF 1 dX4_goThrough_135 fl_RX4_48 (by assumption) rfl rfl (by assumption) ?_
            refine aw_iload dX4_goThrough_138 rfl ?_
            refine aw_iv dX4_goThrough_140 (by assumption) (by omega) (by omega) p1 ?_
            refine aw_iv dX4_goThrough_141 (by assumption) (by omega) (by omega) v141 ?_
            refine aw_iconst dX4_goThrough_142 rfl ⟨by decide, by decide⟩ ?_
            refine aw_icmp_eq (tgt := 176) dX4_goThrough_143 rfl (fun h143 => ?_) (fun h143 => ?_)
            · rw [if_neg (by omega)] at hx
              exact next st M1 _ _ hs1' hw1 f1 hx
            · have h00 : 0 ≤ st.1.1 (715 + it i 1) := by
                rcases hnk with w | w
                · omega
                · exact w.1.1
              rw [if_pos h00] at hx
              refine aw_aload_n dX4_goThrough_146 rfl rfl ⟨by decide, by decide⟩ ?_
              refine aw_iload dX4_goThrough_147 rfl ?_
              refine aw_iconst dX4_goThrough_149 rfl ⟨by decide, by decide⟩ ?_
              refine aw_iadd dX4_goThrough_150 (az_wr_id (by omega) (by omega)) ?_
              refine aw_aload_n dX4_goThrough_151 rfl rfl ⟨by decide, by decide⟩ ?_
              refine aw_gr 1 dX4_goThrough_152 fl_RX4_23 (by assumption) rfl rfl c4 ?_
              refine aw_gzF 4 dX4_goThrough_155 fl_RX4_36 (by assumption) rfl rfl (by assumption) ?_
              refine aw_iload dX4_goThrough_158 rfl ?_
              refine aw_iv dX4_goThrough_160 (by assumption) (by omega) (by omega) p4 ?_
              refine aw_iload_n dX4_goThrough_161 rfl rfl ?_
              refine aw_iconst dX4_goThrough_162 rfl ⟨by decide, by decide⟩ ?_
              refine aw_iadd dX4_goThrough_163 (az_wr_id (by omega) (by omega)) ?_
              refine aw_cV3v dX4_goThrough_164 ml_RX4_39 (by assumption) (by decide) rfl rfl ⟨by decide, by decide, by decide, by decide⟩ (Nat.le_of_ble_eq_true rfl) (sp_goT1 hK0 hN hc (i + 1) (it i 4) st M1 r1 hin hs1' hw1) (fun M3 hM3 => ?_)
              refine aw_goto (tgt := 176) dX4_goThrough_167 rfl ?_
              exact next _ M3 _ _ hM3.1 (ex_RW hN r1 hw1) (f1.trans hM3.2) hx
          rw [if_neg q6] at hx
          have k4 : it i 0 < 5 := by omega
          refine aw_aload_n dX4_goThrough_22 rfl rfl ⟨by decide, by decide⟩ ?_
          refine aw_gr 1 dX4_goThrough_23 fl_RX4_23 (by assumption) rfl rfl c4 ?_
          refine aw_gzF 0 dX4_goThrough_26 fl_RX4_27 (by assumption) rfl rfl (by assumption) ?_
          refine aw_iload dX4_goThrough_29 rfl ?_
          refine aw_iv dX4_goThrough_31 (by assumption) (by omega) (by omega) p0 ?_
          refine aw_iconst dX4_goThrough_32 rfl ⟨by decide, by decide⟩ ?_
          refine aw_icmp_ne (tgt := 109) dX4_goThrough_33 rfl (fun h33 => ?_) (fun h33 => absurd h33 (by omega))
          refine aw_aload_n dX4_goThrough_109 rfl rfl ⟨by decide, by decide⟩ ?_
          refine aw_gr 1 dX4_goThrough_110 fl_RX4_23 (by assumption) rfl rfl c4 ?_
          refine aw_gzF 0 dX4_goThrough_113 fl_RX4_27 (by assumption) rfl rfl (by assumption) ?_
          refine aw_iload dX4_goThrough_116 rfl ?_
          refine aw_iv dX4_goThrough_118 (by assumption) (by omega) (by omega) p0 ?_
          refine aw_bipush dX4_goThrough_119 (by decide) ⟨by decide, by decide⟩ ?_
          refine aw_icmp_ne (tgt := 170) dX4_goThrough_121 rfl (fun h121 => ?_) (fun h121 => absurd h121 (by omega))
          refine aw_aload_n dX4_goThrough_170 rfl rfl ⟨by decide, by decide⟩ ?_
          refine aw_iload dX4_goThrough_171 rfl ?_
          refine aw_cV1v dX4_goThrough_173 ml_RX4_49 (by assumption) (by decide) rfl rfl ⟨by decide, by decide, by decide, by decide⟩ (Nat.le_of_ble_eq_true rfl) (sp_go hK0 M1 hs1' w1 (by omega) h19 w4.1 w6' i i0 in_ a1 k4) (fun M3 hM3 => ?_)
          exact next _ M3 _ _ hM3.1 (go1_RW hw1 h19 a1 k4) (f1.trans hM3.2) hx
  exact loop (hi - lo).toNat lo st0 M _ _ (by omega) (by omega) hr hs hw (frW.refl M h rn) hR
end GT2
section GT3
variable {K : az_K} {h rn sc : Int} {it : Int → Int → Int} {n : Int} {c : Int}
set_option maxHeartbeats 2000000 in
theorem sp_goT3 (hK : RnK K h rn sc) (hN : NP it n) (hc : c ≤ 1998990000) (lo hi : Int) (st0 : rSx) (M : az_M) (hr : RG it n lo hi) (hdp : ∀ j, lo ≤ j → j < hi → 1 ≤ it j 5) (hs : CS M h rn sc it n st0) (hw : RW c st0) : AM yX4_goThrough cX4_goThrough 7 none 8 0 0 [(1, rn), (0, lo), (0, hi), (0, 1)] K M (qv K (fun M' => CS M' h rn sc it n (ex it lo hi st0) ∧ frW M M' h rn)) := by
  have hK0 := hK
  obtain ⟨kr, hH, hSc, d1, d2, d3⟩ := hK
  obtain ⟨s0, s1, s2, s3, s4, s5, x0, x1', x2, x3, x4⟩ := hSc
  obtain ⟨hRg, kh, k6, k7, k8, k9, k10, k11, k12, k13, k14, z0, z1, z2, z3, z4, z5, z6, z7, z8, z9⟩ := hH
  refine am_of (by decide) (Nat.le_of_ble_eq_true rfl) (L := [(1, rn), (0, lo), (0, hi), (0, 1), (9, 0), (9, 0), (9, 0)]) rfl ?_
  generalize hR : ex it lo hi st0 = R
  refine aw_iload_n dX4_goThrough_0 rfl rfl ?_
  refine aw_iconst dX4_goThrough_1 rfl ⟨by decide, by decide⟩ ?_
  refine aw_icmp_le (tgt := 6) dX4_goThrough_2 rfl (fun h2 => ?_) (fun h2 => absurd h2 (by omega))
  refine aw_iload_n dX4_goThrough_6 rfl rfl ?_
  refine aw_istore dX4_goThrough_7 (by decide) ?_
  have loop : ∀ (d : Nat) (i : Int) (st : rSx) (M1 : az_M) (v5 v6 : az_V), hi - i ≤ d → lo ≤ i → RG it n i hi → CS M1 h rn sc it n st → RW c st → frW M M1 h rn → ex it i hi st = R → AW az_P0 (az_Z (qv K (fun M' => CS M' h rn sc it n R ∧ frW M M' h rn)) 0 0) (az_rm 8 0 0) yX4_goThrough cX4_goThrough 7 none 0 0 9 [(1, rn), (0, lo), (0, hi), (0, 1), (0, i), v5, v6] [] K M1 := by
    intro d
    induction d with
    | zero =>
      intro i st M1 v5 v6 hd hlo hri hs1 hw1 f1 hx
      rw [ex_stop (fun w => by omega)] at hx
      subst hx
      refine aw_iload dX4_goThrough_9 rfl ?_
      refine aw_iload_n dX4_goThrough_11 rfl rfl ?_
      refine aw_icmp_ge (tgt := 198) dX4_goThrough_12 rfl (fun h12 => ?_) (fun h12 => absurd h12 (by omega))
      exact aw_vret dX4_goThrough_198 (by decide) (by decide) ⟨rfl, rfl, hs1, f1⟩
    | succ d ih =>
      intro i st M1 v5 v6 hd hlo hri hs1 hw1 f1 hx
      have hs1' := hs1
      obtain ⟨c1, c2, c3, c4, c5, c6⟩ := hs1
      obtain ⟨w1, w2, w3, w4, w5, w6⟩ := id hw1
      refine aw_iload dX4_goThrough_9 rfl ?_
      refine aw_iload_n dX4_goThrough_11 rfl rfl ?_
      refine aw_icmp_ge (tgt := 198) dX4_goThrough_12 rfl (fun h12 => ?_) (fun h12 => ?_)
      · rw [ex_stop (fun w => by omega)] at hx
        subst hx
        exact aw_vret dX4_goThrough_198 (by decide) (by decide) ⟨rfl, rfl, hs1', f1⟩
      · refine aw_aload_n dX4_goThrough_15 rfl rfl ⟨by decide, by decide⟩ ?_
        refine aw_gi 3 dX4_goThrough_16 fl_RX4_15 (by assumption) rfl rfl c6 ?_
        refine aw_if_ne (tgt := 198) dX4_goThrough_19 rfl (fun h19 => ?_) (fun h19 => ?_)
        · rw [ex_stop (fun w => h19 w.2)] at hx
          subst hx
          exact aw_vret dX4_goThrough_198 (by decide) (by decide) ⟨rfl, rfl, hs1', f1⟩
        · have hlt : i < hi := by omega
          rw [ex_step hN hri hlt h19] at hx
          obtain ⟨r1, r2, r3, r4⟩ := hri.inn hN hlt
          have i0 := hri.1
          have in_ : i < n := by have := hri.2.1; omega
          have n40 := c2.2.1
          obtain ⟨a1, a2, a3, a4, a5⟩ := hN i i0 in_
          obtain ⟨p0, p1, p2, p3, p4⟩ := c2.2.2 i i0 in_
          have hdi := hdp i hlo hlt
          have w6' := w6 h19
          have next : ∀ (st2 : rSx) (M2 : az_M) (u5 u6 : az_V), CS M2 h rn sc it n st2 → RW c st2 → frW M M2 h rn → ex it (it i 4) hi st2 = R → AW az_P0 (az_Z (qv K (fun M' => CS M' h rn sc it n R ∧ frW M M' h rn)) 0 0) (az_rm 8 0 0) yX4_goThrough cX4_goThrough 7 none 0 0 176 [(1, rn), (0, lo), (0, hi), (0, 1), (0, i), u5, u6] [] K M2 := by
            intro st2 M2 u5 u6 hs2 hw2 f2 hx2
            have e4 : M2 (sc + 5) i = it i 4 := (hs2.2.1.2.2 i i0 in_).2.2.2.2
            refine aw_iload dX4_goThrough_176 rfl ?_
            refine aw_iconst dX4_goThrough_178 rfl ⟨by decide, by decide⟩ ?_
            refine aw_iadd dX4_goThrough_179 (az_wr_id (by omega) (by omega)) ?_
            refine aw_aload_n dX4_goThrough_180 rfl rfl ⟨by decide, by decide⟩ ?_
            refine aw_gr 1 dX4_goThrough_181 fl_RX4_23 (by assumption) rfl rfl hs2.2.2.2.1 ?_
            refine aw_gzF 4 dX4_goThrough_184 fl_RX4_36 (by assumption) rfl rfl (by assumption) ?_
            refine aw_iload dX4_goThrough_187 rfl ?_
            refine aw_iv dX4_goThrough_189 (by assumption) (by omega) (by omega) e4 ?_
            refine aw_mmax dX4_goThrough_190 mm_RX4_53 ⟨by decide, by decide, by decide, by decide⟩ ?_
            rw [show max (i + 1) (it i 4) = it i 4 by omega]
            refine aw_istore dX4_goThrough_193 (by decide) ?_
            refine aw_goto (tgt := 9) dX4_goThrough_195 rfl ?_
            exact ih (it i 4) st2 M2 _ _ (by omega) (by omega) r2 hs2 hw2 f2 hx2
          have hin : ∀ j, i + 1 ≤ j → j < it i 4 → 2 ≤ it j 5 := fun j j0 j1 => by have := (a5 j (by omega) j1).2; omega
          unfold x1 at hx
          by_cases q5 : it i 0 = 5
          · rw [if_pos q5] at hx
            have v31 : M1 (sc + 1) i = 5 := p0.trans q5
            obtain ⟨U, hU⟩ : ∃ U : Nat, (it i 3).toNat = U := ⟨_, rfl⟩
            rw [hU] at hx
            refine aw_aload_n dX4_goThrough_22 rfl rfl ⟨by decide, by decide⟩ ?_
            refine aw_gr 1 dX4_goThrough_23 fl_RX4_23 (by assumption) rfl rfl c4 ?_
            refine aw_gzF 0 dX4_goThrough_26 fl_RX4_27 (by assumption) rfl rfl (by assumption) ?_
            refine aw_iload dX4_goThrough_29 rfl ?_
            refine aw_iv dX4_goThrough_31 (by assumption) (by omega) (by omega) v31 ?_
            refine aw_iconst dX4_goThrough_32 rfl ⟨by decide, by decide⟩ ?_
            refine aw_icmp_ne (tgt := 109) dX4_goThrough_33 rfl (fun h33 => absurd h33 (by omega)) (fun h33 => ?_)
            refine aw_iconst dX4_goThrough_36 rfl ⟨by decide, by decide⟩ ?_
            refine aw_istore dX4_goThrough_37 (by decide) ?_
            refine aw_iconst dX4_goThrough_39 rfl ⟨by decide, by decide⟩ ?_
            refine aw_istore dX4_goThrough_40 (by decide) ?_
            have rounds : ∀ (g k : Nat) (sk : rSx) (M2 : az_M) (ga : Int), k + g = U → CS M2 h rn sc it n sk → RW c sk → frW M M2 h rn → ex it (it i 4) hi (itr g (ex it (i + 1) (it i 4)) sk) = R → (ga = sk.2.1 → sk.2.2 = 0 → ex it (i + 1) (it i 4) sk = sk) → AW az_P0 (az_Z (qv K (fun M' => CS M' h rn sc it n R ∧ frW M M' h rn)) 0 0) (az_rm 8 0 0) yX4_goThrough cX4_goThrough 7 none 0 0 42 [(1, rn), (0, lo), (0, hi), (0, 1), (0, i), (0, ga), (0, (k : Int))] [] K M2 := by
              intro g
              induction g with
              | zero =>
                intro k sk M2 ga hk hs2 hw2 f2 hx2 hga
                have e3 : M2 (sc + 4) i = it i 3 := (hs2.2.1.2.2 i i0 in_).2.2.2.1
                refine aw_iload dX4_goThrough_42 rfl ?_
                refine aw_aload_n dX4_goThrough_44 rfl rfl ⟨by decide, by decide⟩ ?_
                refine aw_gr 1 dX4_goThrough_45 fl_RX4_23 (by assumption) rfl rfl hs2.2.2.2.1 ?_
                refine aw_gzF 3 dX4_goThrough_48 fl_RX4_33 (by assumption) rfl rfl (by assumption) ?_
                refine aw_iload dX4_goThrough_51 rfl ?_
                refine aw_iv dX4_goThrough_53 (by assumption) (by omega) (by omega) e3 ?_
                refine aw_icmp_ge (tgt := 106) dX4_goThrough_54 rfl (fun h54 => ?_) (fun h54 => absurd h54 (by omega))
                refine aw_goto (tgt := 176) dX4_goThrough_106 rfl ?_
                exact next sk M2 _ _ hs2 hw2 f2 hx2
              | succ g ihg =>
                intro k sk M2 ga hk hs2 hw2 f2 hx2 hga
                have e3 : M2 (sc + 4) i = it i 3 := (hs2.2.1.2.2 i i0 in_).2.2.2.1
                have e4 : M2 (sc + 5) i = it i 4 := (hs2.2.1.2.2 i i0 in_).2.2.2.2
                refine aw_iload dX4_goThrough_42 rfl ?_
                refine aw_aload_n dX4_goThrough_44 rfl rfl ⟨by decide, by decide⟩ ?_
                refine aw_gr 1 dX4_goThrough_45 fl_RX4_23 (by assumption) rfl rfl hs2.2.2.2.1 ?_
                refine aw_gzF 3 dX4_goThrough_48 fl_RX4_33 (by assumption) rfl rfl (by assumption) ?_
                refine aw_iload dX4_goThrough_51 rfl ?_
                refine aw_iv dX4_goThrough_53 (by assumption) (by omega) (by omega) e3 ?_
                refine aw_icmp_ge (tgt := 106) dX4_goThrough_54 rfl (fun h54 => absurd h54 (by omega)) (fun h54 => ?_)
                refine aw_aload_n dX4_goThrough_57 rfl rfl ⟨by decide, by decide⟩ ?_
                refine aw_gi 3 dX4_goThrough_58 fl_RX4_15 (by assumption) rfl rfl hs2.2.2.2.2.2 ?_
                refine aw_if_ne (tgt := 106) dX4_goThrough_61 rfl (fun h61 => ?_) (fun h61 => ?_)
                · rw [itr_sto (ex_sto _ _) _ sk h61] at hx2
                  refine aw_goto (tgt := 176) dX4_goThrough_106 rfl ?_
                  exact next sk M2 _ _ hs2 hw2 f2 hx2
                · refine aw_aload_n dX4_goThrough_64 rfl rfl ⟨by decide, by decide⟩ ?_
                  refine aw_gi 2 dX4_goThrough_65 fl_RX4_9 (by assumption) rfl rfl hs2.2.2.2.2.1 ?_
                  refine aw_iload dX4_goThrough_68 rfl ?_
                  refine aw_icmp_eq (tgt := 106) dX4_goThrough_70 rfl (fun h70 => ?_) (fun h70 => ?_)
                  · rw [itr_fix (hga h70.symm h61)] at hx2
                    refine aw_goto (tgt := 176) dX4_goThrough_106 rfl ?_
                    exact next sk M2 _ _ hs2 hw2 f2 hx2
                  · refine aw_aload_n dX4_goThrough_73 rfl rfl ⟨by decide, by decide⟩ ?_
                    refine aw_gi 2 dX4_goThrough_74 fl_RX4_9 (by assumption) rfl rfl hs2.2.2.2.2.1 ?_
                    refine aw_istore dX4_goThrough_77 (by decide) ?_
                    refine aw_aload_n dX4_goThrough_79 rfl rfl ⟨by decide, by decide⟩ ?_
                    refine aw_iload dX4_goThrough_80 rfl ?_
                    refine aw_iconst dX4_goThrough_82 rfl ⟨by decide, by decide⟩ ?_
                    refine aw_iadd dX4_goThrough_83 (az_wr_id (by omega) (by omega)) ?_
                    refine aw_aload_n dX4_goThrough_84 rfl rfl ⟨by decide, by decide⟩ ?_
                    refine aw_gr 1 dX4_goThrough_85 fl_RX4_23 (by assumption) rfl rfl hs2.2.2.2.1 ?_
                    refine aw_gzF 4 dX4_goThrough_88 fl_RX4_36 (by assumption) rfl rfl (by assumption) ?_
                    refine aw_iload dX4_goThrough_91 rfl ?_
                    refine aw_iv dX4_goThrough_93 (by assumption) (by omega) (by omega) e4 ?_
                    refine aw_iload_n dX4_goThrough_94 rfl rfl ?_
                    refine aw_iconst dX4_goThrough_95 rfl ⟨by decide, by decide⟩ ?_
                    refine aw_iadd dX4_goThrough_96 (az_wr_id (by omega) (by omega)) ?_
                    refine aw_cV3v dX4_goThrough_97 ml_RX4_39 (by assumption) (by decide) rfl rfl ⟨by decide, by decide, by decide, by decide⟩ (Nat.le_of_ble_eq_true rfl) (sp_goT2 hK0 hN hc (i + 1) (it i 4) sk M2 r1 hin hs2 hw2) (fun M3 hM3 => ?_)
                    obtain ⟨hs3, f3⟩ := hM3
                    have hm := ex_mon (it := it) (i + 1) (it i 4) sk
                    refine aw_iinc dX4_goThrough_100 rfl (az_wr_id (by omega) (by omega)) (by decide) ?_
                    refine aw_goto (tgt := 42) dX4_goThrough_103 rfl ?_
                    refine ihg (k + 1) _ M3 sk.2.1 (by omega) hs3 (ex_RW hN r1 hw2) (f2.trans f3) hx2 (fun e z => ?_)
                    have := hm.2 e.symm z
                    rw [this]; exact this
            refine rounds U 0 st M1 (-1) (by omega) hs1' hw1 f1 hx (fun e => by omega)
          rw [if_neg q5] at hx
          by_cases q6 : it i 0 = 6
          · rw [if_pos q6] at hx
            have v31 : M1 (sc + 1) i = 6 := p0.trans q6
            have v141 : M1 (h + 9) (it i 1) = st.1.1 (715 + it i 1) := c1.2.2.2.2.2.1.1 _ (by omega) (by omega)
            have hnk := nam_nok w1 (x := 715 + it i 1) (by omega) (by omega)
            refine aw_aload_n dX4_goThrough_22 rfl rfl ⟨by decide, by decide⟩ ?_
            refine aw_gr 1 dX4_goThrough_23 fl_RX4_23 (by assumption) rfl rfl c4 ?_
            refine aw_gzF 0 dX4_goThrough_26 fl_RX4_27 (by assumption) rfl rfl (by assumption) ?_
            refine aw_iload dX4_goThrough_29 rfl ?_
            refine aw_iv dX4_goThrough_31 (by assumption) (by omega) (by omega) v31 ?_
            refine aw_iconst dX4_goThrough_32 rfl ⟨by decide, by decide⟩ ?_
            refine aw_icmp_ne (tgt := 109) dX4_goThrough_33 rfl (fun h33 => ?_) (fun h33 => absurd h33 (by omega))
            refine aw_aload_n dX4_goThrough_109 rfl rfl ⟨by decide, by decide⟩ ?_
            refine aw_gr 1 dX4_goThrough_110 fl_RX4_23 (by assumption) rfl rfl c4 ?_
            refine aw_gzF 0 dX4_goThrough_113 fl_RX4_27 (by assumption) rfl rfl (by assumption) ?_
            refine aw_iload dX4_goThrough_116 rfl ?_
            refine aw_iv dX4_goThrough_118 (by assumption) (by omega) (by omega) v31 ?_
            refine aw_bipush dX4_goThrough_119 (by decide) ⟨by decide, by decide⟩ ?_
            refine aw_icmp_ne (tgt := 170) dX4_goThrough_121 rfl (fun h121 => absurd h121 (by omega)) (fun h121 => ?_)
            refine aw_aload_n dX4_goThrough_124 rfl rfl ⟨by decide, by decide⟩ ?_
            refine aw_gr 0 dX4_goThrough_125 fl_RX4_19 (by assumption) rfl rfl c3 ?_
            refine aw_gzF 4 dX4_goThrough_128 fl_RX4_43 (by assumption) rfl rfl (by assumption) ?_
            refine aw_aload_n dX4_goThrough_131 rfl rfl ⟨by decide, by decide⟩ ?_
            refine aw_gr 1 dX4_goThrough_132 fl_RX4_23 (by assumption) rfl rfl c4 ?_
            refine aw_gzF 1 dX4_goThrough_135 fl_RX4_48 (by assumption) rfl rfl (by assumption) ?_
            refine aw_iload dX4_goThrough_138 rfl ?_
            refine aw_iv dX4_goThrough_140 (by assumption) (by omega) (by omega) p1 ?_
            refine aw_iv dX4_goThrough_141 (by assumption) (by omega) (by omega) v141 ?_
            refine aw_iconst dX4_goThrough_142 rfl ⟨by decide, by decide⟩ ?_
            refine aw_icmp_eq (tgt := 176) dX4_goThrough_143 rfl (fun h143 => ?_) (fun h143 => ?_)
            · rw [if_neg (by omega)] at hx
              exact next st M1 _ _ hs1' hw1 f1 hx
            · have h00 : 0 ≤ st.1.1 (715 + it i 1) := by
                rcases hnk with w | w
                · omega
                · exact w.1.1
              rw [if_pos h00] at hx
              refine aw_aload_n dX4_goThrough_146 rfl rfl ⟨by decide, by decide⟩ ?_
              refine aw_iload dX4_goThrough_147 rfl ?_
              refine aw_iconst dX4_goThrough_149 rfl ⟨by decide, by decide⟩ ?_
              refine aw_iadd dX4_goThrough_150 (az_wr_id (by omega) (by omega)) ?_
              refine aw_aload_n dX4_goThrough_151 rfl rfl ⟨by decide, by decide⟩ ?_
              refine aw_gr 1 dX4_goThrough_152 fl_RX4_23 (by assumption) rfl rfl c4 ?_
              refine aw_gzF 4 dX4_goThrough_155 fl_RX4_36 (by assumption) rfl rfl (by assumption) ?_
              refine aw_iload dX4_goThrough_158 rfl ?_
              refine aw_iv dX4_goThrough_160 (by assumption) (by omega) (by omega) p4 ?_
              refine aw_iload_n dX4_goThrough_161 rfl rfl ?_
              refine aw_iconst dX4_goThrough_162 rfl ⟨by decide, by decide⟩ ?_
              refine aw_iadd dX4_goThrough_163 (az_wr_id (by omega) (by omega)) ?_
              refine aw_cV3v dX4_goThrough_164 ml_RX4_39 (by assumption) (by decide) rfl rfl ⟨by decide, by decide, by decide, by decide⟩ (Nat.le_of_ble_eq_true rfl) (sp_goT2 hK0 hN hc (i + 1) (it i 4) st M1 r1 hin hs1' hw1) (fun M3 hM3 => ?_)
              refine aw_goto (tgt := 176) dX4_goThrough_167 rfl ?_
              exact next _ M3 _ _ hM3.1 (ex_RW hN r1 hw1) (f1.trans hM3.2) hx
          rw [if_neg q6] at hx
          have k4 : it i 0 < 5 := by omega
          refine aw_aload_n dX4_goThrough_22 rfl rfl ⟨by decide, by decide⟩ ?_
          refine aw_gr 1 dX4_goThrough_23 fl_RX4_23 (by assumption) rfl rfl c4 ?_
          refine aw_gzF 0 dX4_goThrough_26 fl_RX4_27 (by assumption) rfl rfl (by assumption) ?_
          refine aw_iload dX4_goThrough_29 rfl ?_
          refine aw_iv dX4_goThrough_31 (by assumption) (by omega) (by omega) p0 ?_
          refine aw_iconst dX4_goThrough_32 rfl ⟨by decide, by decide⟩ ?_
          refine aw_icmp_ne (tgt := 109) dX4_goThrough_33 rfl (fun h33 => ?_) (fun h33 => absurd h33 (by omega))
          refine aw_aload_n dX4_goThrough_109 rfl rfl ⟨by decide, by decide⟩ ?_
          refine aw_gr 1 dX4_goThrough_110 fl_RX4_23 (by assumption) rfl rfl c4 ?_
          refine aw_gzF 0 dX4_goThrough_113 fl_RX4_27 (by assumption) rfl rfl (by assumption) ?_
          refine aw_iload dX4_goThrough_116 rfl ?_
          refine aw_iv dX4_goThrough_118 (by assumption) (by omega) (by omega) p0 ?_
          refine aw_bipush dX4_goThrough_119 (by decide) ⟨by decide, by decide⟩ ?_
          refine aw_icmp_ne (tgt := 170) dX4_goThrough_121 rfl (fun h121 => ?_) (fun h121 => absurd h121 (by omega))
          refine aw_aload_n dX4_goThrough_170 rfl rfl ⟨by decide, by decide⟩ ?_
          refine aw_iload dX4_goThrough_171 rfl ?_
          refine aw_cV1v dX4_goThrough_173 ml_RX4_49 (by assumption) (by decide) rfl rfl ⟨by decide, by decide, by decide, by decide⟩ (Nat.le_of_ble_eq_true rfl) (sp_go hK0 M1 hs1' w1 (by omega) h19 w4.1 w6' i i0 in_ a1 k4) (fun M3 hM3 => ?_)
          exact next _ M3 _ _ hM3.1 (go1_RW hw1 h19 a1 k4) (f1.trans hM3.2) hx
  exact loop (hi - lo).toNat lo st0 M _ _ (by omega) (by omega) hr hs hw (frW.refl M h rn) hR
end GT3
section GT4
variable {K : az_K} {h rn sc : Int} {it : Int → Int → Int} {n : Int} {c : Int}
set_option maxHeartbeats 2000000 in
theorem sp_goT4 (hK : RnK K h rn sc) (hN : NP it n) (hc : c ≤ 1998990000) (lo hi : Int) (st0 : rSx) (M : az_M) (hr : RG it n lo hi) (hdp : ∀ j, lo ≤ j → j < hi → 0 ≤ it j 5) (hs : CS M h rn sc it n st0) (hw : RW c st0) : AM yX4_goThrough cX4_goThrough 7 none 9 0 0 [(1, rn), (0, lo), (0, hi), (0, 0)] K M (qv K (fun M' => CS M' h rn sc it n (ex it lo hi st0) ∧ frW M M' h rn)) := by
  have hK0 := hK
  obtain ⟨kr, hH, hSc, d1, d2, d3⟩ := hK
  obtain ⟨s0, s1, s2, s3, s4, s5, x0, x1', x2, x3, x4⟩ := hSc
  obtain ⟨hRg, kh, k6, k7, k8, k9, k10, k11, k12, k13, k14, z0, z1, z2, z3, z4, z5, z6, z7, z8, z9⟩ := hH
  refine am_of (by decide) (Nat.le_of_ble_eq_true rfl) (L := [(1, rn), (0, lo), (0, hi), (0, 0), (9, 0), (9, 0), (9, 0)]) rfl ?_
  generalize hR : ex it lo hi st0 = R
  refine aw_iload_n dX4_goThrough_0 rfl rfl ?_
  refine aw_iconst dX4_goThrough_1 rfl ⟨by decide, by decide⟩ ?_
  refine aw_icmp_le (tgt := 6) dX4_goThrough_2 rfl (fun h2 => ?_) (fun h2 => absurd h2 (by omega))
  refine aw_iload_n dX4_goThrough_6 rfl rfl ?_
  refine aw_istore dX4_goThrough_7 (by decide) ?_
  have loop : ∀ (d : Nat) (i : Int) (st : rSx) (M1 : az_M) (v5 v6 : az_V), hi - i ≤ d → lo ≤ i → RG it n i hi → CS M1 h rn sc it n st → RW c st → frW M M1 h rn → ex it i hi st = R → AW az_P0 (az_Z (qv K (fun M' => CS M' h rn sc it n R ∧ frW M M' h rn)) 0 0) (az_rm 9 0 0) yX4_goThrough cX4_goThrough 7 none 0 0 9 [(1, rn), (0, lo), (0, hi), (0, 0), (0, i), v5, v6] [] K M1 := by
    intro d
    induction d with
    | zero =>
      intro i st M1 v5 v6 hd hlo hri hs1 hw1 f1 hx
      rw [ex_stop (fun w => by omega)] at hx
      subst hx
      refine aw_iload dX4_goThrough_9 rfl ?_
      refine aw_iload_n dX4_goThrough_11 rfl rfl ?_
      refine aw_icmp_ge (tgt := 198) dX4_goThrough_12 rfl (fun h12 => ?_) (fun h12 => absurd h12 (by omega))
      exact aw_vret dX4_goThrough_198 (by decide) (by decide) ⟨rfl, rfl, hs1, f1⟩
    | succ d ih =>
      intro i st M1 v5 v6 hd hlo hri hs1 hw1 f1 hx
      have hs1' := hs1
      obtain ⟨c1, c2, c3, c4, c5, c6⟩ := hs1
      obtain ⟨w1, w2, w3, w4, w5, w6⟩ := id hw1
      refine aw_iload dX4_goThrough_9 rfl ?_
      refine aw_iload_n dX4_goThrough_11 rfl rfl ?_
      refine aw_icmp_ge (tgt := 198) dX4_goThrough_12 rfl (fun h12 => ?_) (fun h12 => ?_)
      · rw [ex_stop (fun w => by omega)] at hx
        subst hx
        exact aw_vret dX4_goThrough_198 (by decide) (by decide) ⟨rfl, rfl, hs1', f1⟩
      · refine aw_aload_n dX4_goThrough_15 rfl rfl ⟨by decide, by decide⟩ ?_
        refine aw_gi 3 dX4_goThrough_16 fl_RX4_15 (by assumption) rfl rfl c6 ?_
        refine aw_if_ne (tgt := 198) dX4_goThrough_19 rfl (fun h19 => ?_) (fun h19 => ?_)
        · rw [ex_stop (fun w => h19 w.2)] at hx
          subst hx
          exact aw_vret dX4_goThrough_198 (by decide) (by decide) ⟨rfl, rfl, hs1', f1⟩
        · have hlt : i < hi := by omega
          rw [ex_step hN hri hlt h19] at hx
          obtain ⟨r1, r2, r3, r4⟩ := hri.inn hN hlt
          have i0 := hri.1
          have in_ : i < n := by have := hri.2.1; omega
          have n40 := c2.2.1
          obtain ⟨a1, a2, a3, a4, a5⟩ := hN i i0 in_
          obtain ⟨p0, p1, p2, p3, p4⟩ := c2.2.2 i i0 in_
          have hdi := hdp i hlo hlt
          have w6' := w6 h19
          have next : ∀ (st2 : rSx) (M2 : az_M) (u5 u6 : az_V), CS M2 h rn sc it n st2 → RW c st2 → frW M M2 h rn → ex it (it i 4) hi st2 = R → AW az_P0 (az_Z (qv K (fun M' => CS M' h rn sc it n R ∧ frW M M' h rn)) 0 0) (az_rm 9 0 0) yX4_goThrough cX4_goThrough 7 none 0 0 176 [(1, rn), (0, lo), (0, hi), (0, 0), (0, i), u5, u6] [] K M2 := by
            intro st2 M2 u5 u6 hs2 hw2 f2 hx2
            have e4 : M2 (sc + 5) i = it i 4 := (hs2.2.1.2.2 i i0 in_).2.2.2.2
            refine aw_iload dX4_goThrough_176 rfl ?_
            refine aw_iconst dX4_goThrough_178 rfl ⟨by decide, by decide⟩ ?_
            refine aw_iadd dX4_goThrough_179 (az_wr_id (by omega) (by omega)) ?_
            refine aw_aload_n dX4_goThrough_180 rfl rfl ⟨by decide, by decide⟩ ?_
            refine aw_gr 1 dX4_goThrough_181 fl_RX4_23 (by assumption) rfl rfl hs2.2.2.2.1 ?_
            refine aw_gzF 4 dX4_goThrough_184 fl_RX4_36 (by assumption) rfl rfl (by assumption) ?_
            refine aw_iload dX4_goThrough_187 rfl ?_
            refine aw_iv dX4_goThrough_189 (by assumption) (by omega) (by omega) e4 ?_
            refine aw_mmax dX4_goThrough_190 mm_RX4_53 ⟨by decide, by decide, by decide, by decide⟩ ?_
            rw [show max (i + 1) (it i 4) = it i 4 by omega]
            refine aw_istore dX4_goThrough_193 (by decide) ?_
            refine aw_goto (tgt := 9) dX4_goThrough_195 rfl ?_
            exact ih (it i 4) st2 M2 _ _ (by omega) (by omega) r2 hs2 hw2 f2 hx2
          have hin : ∀ j, i + 1 ≤ j → j < it i 4 → 1 ≤ it j 5 := fun j j0 j1 => by have := (a5 j (by omega) j1).2; omega
          unfold x1 at hx
          by_cases q5 : it i 0 = 5
          · rw [if_pos q5] at hx
            have v31 : M1 (sc + 1) i = 5 := p0.trans q5
            obtain ⟨U, hU⟩ : ∃ U : Nat, (it i 3).toNat = U := ⟨_, rfl⟩
            rw [hU] at hx
            refine aw_aload_n dX4_goThrough_22 rfl rfl ⟨by decide, by decide⟩ ?_
            refine aw_gr 1 dX4_goThrough_23 fl_RX4_23 (by assumption) rfl rfl c4 ?_
            refine aw_gzF 0 dX4_goThrough_26 fl_RX4_27 (by assumption) rfl rfl (by assumption) ?_
            refine aw_iload dX4_goThrough_29 rfl ?_
            refine aw_iv dX4_goThrough_31 (by assumption) (by omega) (by omega) v31 ?_
            refine aw_iconst dX4_goThrough_32 rfl ⟨by decide, by decide⟩ ?_
            refine aw_icmp_ne (tgt := 109) dX4_goThrough_33 rfl (fun h33 => absurd h33 (by omega)) (fun h33 => ?_)
            refine aw_iconst dX4_goThrough_36 rfl ⟨by decide, by decide⟩ ?_
            refine aw_istore dX4_goThrough_37 (by decide) ?_
            refine aw_iconst dX4_goThrough_39 rfl ⟨by decide, by decide⟩ ?_
            refine aw_istore dX4_goThrough_40 (by decide) ?_
            have rounds : ∀ (g k : Nat) (sk : rSx) (M2 : az_M) (ga : Int), k + g = U → CS M2 h rn sc it n sk → RW c sk → frW M M2 h rn → ex it (it i 4) hi (itr g (ex it (i + 1) (it i 4)) sk) = R → (ga = sk.2.1 → sk.2.2 = 0 → ex it (i + 1) (it i 4) sk = sk) → AW az_P0 (az_Z (qv K (fun M' => CS M' h rn sc it n R ∧ frW M M' h rn)) 0 0) (az_rm 9 0 0) yX4_goThrough cX4_goThrough 7 none 0 0 42 [(1, rn), (0, lo), (0, hi), (0, 0), (0, i), (0, ga), (0, (k : Int))] [] K M2 := by
              intro g
              induction g with
              | zero =>
                intro k sk M2 ga hk hs2 hw2 f2 hx2 hga
                have e3 : M2 (sc + 4) i = it i 3 := (hs2.2.1.2.2 i i0 in_).2.2.2.1
                refine aw_iload dX4_goThrough_42 rfl ?_
                refine aw_aload_n dX4_goThrough_44 rfl rfl ⟨by decide, by decide⟩ ?_
                refine aw_gr 1 dX4_goThrough_45 fl_RX4_23 (by assumption) rfl rfl hs2.2.2.2.1 ?_
                refine aw_gzF 3 dX4_goThrough_48 fl_RX4_33 (by assumption) rfl rfl (by assumption) ?_
                refine aw_iload dX4_goThrough_51 rfl ?_
                refine aw_iv dX4_goThrough_53 (by assumption) (by omega) (by omega) e3 ?_
                refine aw_icmp_ge (tgt := 106) dX4_goThrough_54 rfl (fun h54 => ?_) (fun h54 => absurd h54 (by omega))
                refine aw_goto (tgt := 176) dX4_goThrough_106 rfl ?_
                exact next sk M2 _ _ hs2 hw2 f2 hx2
              | succ g ihg =>
                intro k sk M2 ga hk hs2 hw2 f2 hx2 hga
                have e3 : M2 (sc + 4) i = it i 3 := (hs2.2.1.2.2 i i0 in_).2.2.2.1
                have e4 : M2 (sc + 5) i = it i 4 := (hs2.2.1.2.2 i i0 in_).2.2.2.2
                refine aw_iload dX4_goThrough_42 rfl ?_
                refine aw_aload_n dX4_goThrough_44 rfl rfl ⟨by decide, by decide⟩ ?_
                refine aw_gr 1 dX4_goThrough_45 fl_RX4_23 (by assumption) rfl rfl hs2.2.2.2.1 ?_
                refine aw_gzF 3 dX4_goThrough_48 fl_RX4_33 (by assumption) rfl rfl (by assumption) ?_
                refine aw_iload dX4_goThrough_51 rfl ?_
                refine aw_iv dX4_goThrough_53 (by assumption) (by omega) (by omega) e3 ?_
                refine aw_icmp_ge (tgt := 106) dX4_goThrough_54 rfl (fun h54 => absurd h54 (by omega)) (fun h54 => ?_)
                refine aw_aload_n dX4_goThrough_57 rfl rfl ⟨by decide, by decide⟩ ?_
                refine aw_gi 3 dX4_goThrough_58 fl_RX4_15 (by assumption) rfl rfl hs2.2.2.2.2.2 ?_
                refine aw_if_ne (tgt := 106) dX4_goThrough_61 rfl (fun h61 => ?_) (fun h61 => ?_)
                · rw [itr_sto (ex_sto _ _) _ sk h61] at hx2
                  refine aw_goto (tgt := 176) dX4_goThrough_106 rfl ?_
                  exact next sk M2 _ _ hs2 hw2 f2 hx2
                · refine aw_aload_n dX4_goThrough_64 rfl rfl ⟨by decide, by decide⟩ ?_
                  refine aw_gi 2 dX4_goThrough_65 fl_RX4_9 (by assumption) rfl rfl hs2.2.2.2.2.1 ?_
                  refine aw_iload dX4_goThrough_68 rfl ?_
                  refine aw_icmp_eq (tgt := 106) dX4_goThrough_70 rfl (fun h70 => ?_) (fun h70 => ?_)
                  · rw [itr_fix (hga h70.symm h61)] at hx2
                    refine aw_goto (tgt := 176) dX4_goThrough_106 rfl ?_
                    exact next sk M2 _ _ hs2 hw2 f2 hx2
                  · refine aw_aload_n dX4_goThrough_73 rfl rfl ⟨by decide, by decide⟩ ?_
                    refine aw_gi 2 dX4_goThrough_74 fl_RX4_9 (by assumption) rfl rfl hs2.2.2.2.2.1 ?_
                    refine aw_istore dX4_goThrough_77 (by decide) ?_
                    refine aw_aload_n dX4_goThrough_79 rfl rfl ⟨by decide, by decide⟩ ?_
                    refine aw_iload dX4_goThrough_80 rfl ?_
                    refine aw_iconst dX4_goThrough_82 rfl ⟨by decide, by decide⟩ ?_
                    refine aw_iadd dX4_goThrough_83 (az_wr_id (by omega) (by omega)) ?_
                    refine aw_aload_n dX4_goThrough_84 rfl rfl ⟨by decide, by decide⟩ ?_
                    refine aw_gr 1 dX4_goThrough_85 fl_RX4_23 (by assumption) rfl rfl hs2.2.2.2.1 ?_
                    refine aw_gzF 4 dX4_goThrough_88 fl_RX4_36 (by assumption) rfl rfl (by assumption) ?_
                    refine aw_iload dX4_goThrough_91 rfl ?_
                    refine aw_iv dX4_goThrough_93 (by assumption) (by omega) (by omega) e4 ?_
                    refine aw_iload_n dX4_goThrough_94 rfl rfl ?_
                    refine aw_iconst dX4_goThrough_95 rfl ⟨by decide, by decide⟩ ?_
                    refine aw_iadd dX4_goThrough_96 (az_wr_id (by omega) (by omega)) ?_
                    refine aw_cV3v dX4_goThrough_97 ml_RX4_39 (by assumption) (by decide) rfl rfl ⟨by decide, by decide, by decide, by decide⟩ (Nat.le_of_ble_eq_true rfl) (sp_goT3 hK0 hN hc (i + 1) (it i 4) sk M2 r1 hin hs2 hw2) (fun M3 hM3 => ?_)
                    obtain ⟨hs3, f3⟩ := hM3
                    have hm := ex_mon (it := it) (i + 1) (it i 4) sk
                    refine aw_iinc dX4_goThrough_100 rfl (az_wr_id (by omega) (by omega)) (by decide) ?_
                    refine aw_goto (tgt := 42) dX4_goThrough_103 rfl ?_
                    refine ihg (k + 1) _ M3 sk.2.1 (by omega) hs3 (ex_RW hN r1 hw2) (f2.trans f3) hx2 (fun e z => ?_)
                    have := hm.2 e.symm z
                    rw [this]; exact this
            refine rounds U 0 st M1 (-1) (by omega) hs1' hw1 f1 hx (fun e => by omega)
          rw [if_neg q5] at hx
          by_cases q6 : it i 0 = 6
          · rw [if_pos q6] at hx
            have v31 : M1 (sc + 1) i = 6 := p0.trans q6
            have v141 : M1 (h + 9) (it i 1) = st.1.1 (715 + it i 1) := c1.2.2.2.2.2.1.1 _ (by omega) (by omega)
            have hnk := nam_nok w1 (x := 715 + it i 1) (by omega) (by omega)
            refine aw_aload_n dX4_goThrough_22 rfl rfl ⟨by decide, by decide⟩ ?_
            refine aw_gr 1 dX4_goThrough_23 fl_RX4_23 (by assumption) rfl rfl c4 ?_
            refine aw_gzF 0 dX4_goThrough_26 fl_RX4_27 (by assumption) rfl rfl (by assumption) ?_
            refine aw_iload dX4_goThrough_29 rfl ?_
            refine aw_iv dX4_goThrough_31 (by assumption) (by omega) (by omega) v31 ?_
            refine aw_iconst dX4_goThrough_32 rfl ⟨by decide, by decide⟩ ?_
            refine aw_icmp_ne (tgt := 109) dX4_goThrough_33 rfl (fun h33 => ?_) (fun h33 => absurd h33 (by omega))
            refine aw_aload_n dX4_goThrough_109 rfl rfl ⟨by decide, by decide⟩ ?_
            refine aw_gr 1 dX4_goThrough_110 fl_RX4_23 (by assumption) rfl rfl c4 ?_
            refine aw_gzF 0 dX4_goThrough_113 fl_RX4_27 (by assumption) rfl rfl (by assumption) ?_
            refine aw_iload dX4_goThrough_116 rfl ?_
            refine aw_iv dX4_goThrough_118 (by assumption) (by omega) (by omega) v31 ?_
            refine aw_bipush dX4_goThrough_119 (by decide) ⟨by decide, by decide⟩ ?_
            refine aw_icmp_ne (tgt := 170) dX4_goThrough_121 rfl (fun h121 => absurd h121 (by omega)) (fun h121 => ?_)
            refine aw_aload_n dX4_goThrough_124 rfl rfl ⟨by decide, by decide⟩ ?_
            refine aw_gr 0 dX4_goThrough_125 fl_RX4_19 (by assumption) rfl rfl c3 ?_
            refine aw_gzF 4 dX4_goThrough_128 fl_RX4_43 (by assumption) rfl rfl (by assumption) ?_
            refine aw_aload_n dX4_goThrough_131 rfl rfl ⟨by decide, by decide⟩ ?_
            refine aw_gr 1 dX4_goThrough_132 fl_RX4_23 (by assumption) rfl rfl c4 ?_
            refine aw_gzF 1 dX4_goThrough_135 fl_RX4_48 (by assumption) rfl rfl (by assumption) ?_
            refine aw_iload dX4_goThrough_138 rfl ?_
            refine aw_iv dX4_goThrough_140 (by assumption) (by omega) (by omega) p1 ?_
            refine aw_iv dX4_goThrough_141 (by assumption) (by omega) (by omega) v141 ?_
            refine aw_iconst dX4_goThrough_142 rfl ⟨by decide, by decide⟩ ?_
            refine aw_icmp_eq (tgt := 176) dX4_goThrough_143 rfl (fun h143 => ?_) (fun h143 => ?_)
            · rw [if_neg (by omega)] at hx
              exact next st M1 _ _ hs1' hw1 f1 hx
            · have h00 : 0 ≤ st.1.1 (715 + it i 1) := by
                rcases hnk with w | w
                · omega
                · exact w.1.1
              rw [if_pos h00] at hx
              refine aw_aload_n dX4_goThrough_146 rfl rfl ⟨by decide, by decide⟩ ?_
              refine aw_iload dX4_goThrough_147 rfl ?_
              refine aw_iconst dX4_goThrough_149 rfl ⟨by decide, by decide⟩ ?_
              refine aw_iadd dX4_goThrough_150 (az_wr_id (by omega) (by omega)) ?_
              refine aw_aload_n dX4_goThrough_151 rfl rfl ⟨by decide, by decide⟩ ?_
              refine aw_gr 1 dX4_goThrough_152 fl_RX4_23 (by assumption) rfl rfl c4 ?_
              refine aw_gzF 4 dX4_goThrough_155 fl_RX4_36 (by assumption) rfl rfl (by assumption) ?_
              refine aw_iload dX4_goThrough_158 rfl ?_
              refine aw_iv dX4_goThrough_160 (by assumption) (by omega) (by omega) p4 ?_
              refine aw_iload_n dX4_goThrough_161 rfl rfl ?_
              refine aw_iconst dX4_goThrough_162 rfl ⟨by decide, by decide⟩ ?_
              refine aw_iadd dX4_goThrough_163 (az_wr_id (by omega) (by omega)) ?_
              refine aw_cV3v dX4_goThrough_164 ml_RX4_39 (by assumption) (by decide) rfl rfl ⟨by decide, by decide, by decide, by decide⟩ (Nat.le_of_ble_eq_true rfl) (sp_goT3 hK0 hN hc (i + 1) (it i 4) st M1 r1 hin hs1' hw1) (fun M3 hM3 => ?_)
              refine aw_goto (tgt := 176) dX4_goThrough_167 rfl ?_
              exact next _ M3 _ _ hM3.1 (ex_RW hN r1 hw1) (f1.trans hM3.2) hx
          rw [if_neg q6] at hx
          have k4 : it i 0 < 5 := by omega
          refine aw_aload_n dX4_goThrough_22 rfl rfl ⟨by decide, by decide⟩ ?_
          refine aw_gr 1 dX4_goThrough_23 fl_RX4_23 (by assumption) rfl rfl c4 ?_
          refine aw_gzF 0 dX4_goThrough_26 fl_RX4_27 (by assumption) rfl rfl (by assumption) ?_
          refine aw_iload dX4_goThrough_29 rfl ?_
          refine aw_iv dX4_goThrough_31 (by assumption) (by omega) (by omega) p0 ?_
          refine aw_iconst dX4_goThrough_32 rfl ⟨by decide, by decide⟩ ?_
          refine aw_icmp_ne (tgt := 109) dX4_goThrough_33 rfl (fun h33 => ?_) (fun h33 => absurd h33 (by omega))
          refine aw_aload_n dX4_goThrough_109 rfl rfl ⟨by decide, by decide⟩ ?_
          refine aw_gr 1 dX4_goThrough_110 fl_RX4_23 (by assumption) rfl rfl c4 ?_
          refine aw_gzF 0 dX4_goThrough_113 fl_RX4_27 (by assumption) rfl rfl (by assumption) ?_
          refine aw_iload dX4_goThrough_116 rfl ?_
          refine aw_iv dX4_goThrough_118 (by assumption) (by omega) (by omega) p0 ?_
          refine aw_bipush dX4_goThrough_119 (by decide) ⟨by decide, by decide⟩ ?_
          refine aw_icmp_ne (tgt := 170) dX4_goThrough_121 rfl (fun h121 => ?_) (fun h121 => absurd h121 (by omega))
          refine aw_aload_n dX4_goThrough_170 rfl rfl ⟨by decide, by decide⟩ ?_
          refine aw_iload dX4_goThrough_171 rfl ?_
          refine aw_cV1v dX4_goThrough_173 ml_RX4_49 (by assumption) (by decide) rfl rfl ⟨by decide, by decide, by decide, by decide⟩ (Nat.le_of_ble_eq_true rfl) (sp_go hK0 M1 hs1' w1 (by omega) h19 w4.1 w6' i i0 in_ a1 k4) (fun M3 hM3 => ?_)
          exact next _ M3 _ _ hM3.1 (go1_RW hw1 h19 a1 k4) (f1.trans hM3.2) hx
  exact loop (hi - lo).toNat lo st0 M _ _ (by omega) (by omega) hr hs hw (frW.refl M h rn) hR
end GT4
