/-! TreadRingModel: what it keeps of its acts -/
set_option maxRecDepth 20000
def MdK (K : az_K) (m : Int) : Prop := MoK K m ∧ az_at K (m + 3) (101, 128) ∧ az_at K (m + 4) (100, 128) ∧ az_at K (m + 5) (100, 128) ∧ az_at K (m + 6) (100, 790) ∧ az_at K (m + 7) (100, 790) ∧ az_at K (m + 8) (100, 400) ∧
  az_at K (m + 9) (100, 41) ∧ az_at K (m + 10) (100, 41) ∧ az_at K (m + 11) (100, 41) ∧ az_at K (m + 12) (100, 41) ∧ az_at K (m + 13) (100, 41) ∧ az_at K (m + 14) (100, 41) ∧ az_at K (m + 15) (100, 41) ∧ az_at K (m + 16) (100, 41) ∧ az_at K (m + 17) (100, 41) ∧ az_at K (m + 18) (100, 41) ∧
  az_at K (m + 19) (100, 5) ∧ az_at K (m + 20) (100, 5) ∧ az_at K (m + 21) (100, 5) ∧ az_at K (m + 22) (100, 5) ∧ az_at K (m + 23) (100, 16590) ∧ az_at K (m + 24) (100, 1580) ∧ az_at K (m + 25) (101, 2) ∧
  K.2 m 2 = some (m + 3) ∧ K.2 m 3 = some (m + 4) ∧ K.2 m 4 = some (m + 5) ∧ K.2 m 6 = some (m + 6) ∧ K.2 m 7 = some (m + 7) ∧ K.2 m 10 = some (m + 8) ∧
  K.2 m 12 = some (m + 9) ∧ K.2 m 13 = some (m + 10) ∧ K.2 m 14 = some (m + 11) ∧ K.2 m 15 = some (m + 12) ∧ K.2 m 16 = some (m + 13) ∧ K.2 m 17 = some (m + 14) ∧ K.2 m 18 = some (m + 15) ∧ K.2 m 19 = some (m + 16) ∧ K.2 m 20 = some (m + 17) ∧ K.2 m 21 = some (m + 18) ∧
  K.2 m 35 = some (m + 19) ∧ K.2 m 36 = some (m + 20) ∧ K.2 m 37 = some (m + 21) ∧ K.2 m 38 = some (m + 22) ∧ K.2 m 41 = some (m + 23) ∧ K.2 m 42 = some (m + 24) ∧ K.2 m 43 = some (m + 25)
/-- the states by their time: a of them can be taken back, u done again; the a-th is now -/
abbrev hCh : Type := Int → hSt
def keepC (ch : hCh) (a : Int) : hCh := fun t => if a < 20 then (if t = a + 1 then ch a else ch t) else (if t = 20 then ch 20 else ch (t + 1))
def nxA (a : Int) : Int := if a < 20 then a + 1 else 20
def chs (ch : hCh) (a : Int) (T : hSt) : hCh := fun t => if t = a then T else ch t
theorem chs_s (ch : hCh) (a : Int) (T : hSt) : chs ch a T a = T := if_pos rfl
theorem chs_n (ch : hCh) {a t : Int} (T : hSt) (h : t ≠ a) : chs ch a T t = ch t := if_neg h
theorem chs_cur (ch : hCh) (a : Int) : chs ch a (ch a) = ch := by
  funext t
  unfold chs
  split
  · rename_i e; rw [e]
  · rfl
theorem keepC_cur {ch : hCh} {a : Int} (a0 : 0 ≤ a) (a1 : a ≤ 20) : keepC ch a (nxA a) = ch a := by
  unfold keepC nxA
  by_cases e : a < 20
  · rw [if_pos e, if_pos e, if_pos rfl]
  · rw [if_neg e, if_neg e, if_pos rfl, show a = 20 by omega]
def gok (B : Int) (T : hSt) : Prop := WL T ∧ 0 ≤ T.1 729 ∧ T.1 729 ≤ B
def GW (ch : hCh) (a u : Int) (bx : hCh) (bz : Int → Int) (B : Int) : Prop := 0 ≤ a ∧ 0 ≤ u ∧ a + u ≤ 20 ∧ (∀ t, 0 ≤ t → t ≤ a + u → gok B (ch t)) ∧ ∀ j, 0 ≤ j → j < 2 → (bz j = 0 ∨ bz j = 1) ∧ (bz j = 1 → gok B (bx j))
theorem gok.mono {B B' : Int} {T : hSt} (h : gok B T) (hb : B ≤ B') : gok B' T := ⟨h.1, h.2.1, by have := h.2.2; omega⟩
theorem GW.mono {ch : hCh} {a u : Int} {bx : hCh} {bz : Int → Int} {B B' : Int} (h : GW ch a u bx bz B) (hb : B ≤ B') : GW ch a u bx bz B' := by
  obtain ⟨h1, h2, h3, h4, h5⟩ := h
  exact ⟨h1, h2, h3, fun t t0 t1 => (h4 t t0 t1).mono hb, fun j j0 j1 => ⟨(h5 j j0 j1).1, fun q => ((h5 j j0 j1).2 q).mono hb⟩⟩
theorem GW.cur {ch : hCh} {a u : Int} {bx : hCh} {bz : Int → Int} {B : Int} (h : GW ch a u bx bz B) : gok B (ch a) := h.2.2.2.1 a h.1 (by have := h.2.1; omega)
theorem GW.keep {ch : hCh} {a u : Int} {bx : hCh} {bz : Int → Int} {B : Int} (h : GW ch a u bx bz B) : GW (keepC ch a) (nxA a) 0 bx bz B := by
  obtain ⟨h1, h2, h3, h4, h5⟩ := h
  refine ⟨?_, by omega, ?_, fun t t0 t1 => ?_, h5⟩
  · unfold nxA; split <;> omega
  · unfold nxA; split <;> omega
  · unfold nxA at t1
    unfold keepC
    split
    · rename_i e
      rw [if_pos e] at t1
      split
      · exact h4 a h1 (by omega)
      · exact h4 t t0 (by omega)
    · rename_i e
      rw [if_neg e] at t1
      split
      · exact h4 20 (by omega) (by omega)
      · exact h4 (t + 1) (by omega) (by omega)
theorem GW.chs {ch : hCh} {a u : Int} {bx : hCh} {bz : Int → Int} {B : Int} {T : hSt} (h : GW ch a u bx bz B) (hT : gok B T) : GW (chs ch a T) a u bx bz B := by
  obtain ⟨h1, h2, h3, h4, h5⟩ := h
  refine ⟨h1, h2, h3, fun t t0 t1 => ?_, h5⟩
  show gok B (if t = a then T else ch t)
  split
  · exact hT
  · exact h4 t t0 t1
theorem MT_congr {F F' : Int → Int} {S : hSt} (h : MT F S) (hw : WS S) (he : ∀ i, 0 ≤ i → i < 790 → F' i = F i) : MT F' S := by
  obtain ⟨a, b, c1, c2, c3, c4⟩ := h
  have hx : ∀ i : Nat, i < S.2.2.length → F' (384 + S.2.2.getD i 0) = F (384 + S.2.2.getD i 0) := fun i hi => by
    have := gl_in hw _ (getD_mem (l := S.2.2) (i := i) hi)
    exact he _ (by omega) (by omega)
  refine ⟨fun i i0 i1 i2 i3 => by rw [he i i0 i1]; exact a i i0 i1 i2 i3, fun z z0 z1 => mRing_eq (b z z0 z1) (fun i i0 i1 => he i (by omega) (by omega)) z0 z1 (rL_len (WR_of hw) (by omega)), ?_, ?_, fun i hi => ?_, fun i j hij hj => ?_⟩
  · rw [he _ (by omega) (by omega)]; exact c1
  · rw [he _ (by omega) (by omega)]; exact c2
  · rw [hx i hi, he 739 (by omega) (by omega)]; exact c3 i hi
  · rw [hx i (by omega), hx j hj]; exact c4 i j hij hj
def blk (M : az_M) (c j : Int) : Int → Int := fun i => M c (790 * j + i)
/-- what the reference holds of its states -/
def MDh (M : az_M) (m : Int) (ch : hCh) (a u : Int) (bx : hCh) (bz : Int → Int) : Prop :=
  HM M m (ch a) ∧ M m 44 = a ∧ M m 45 = u ∧ (∀ j, 0 ≤ j → j < a → MT (blk M (m + 23) j) (ch j)) ∧ (∀ j, a ≤ j → j < a + u → MT (blk M (m + 23) j) (ch (j + 1))) ∧
  ∀ j, 0 ≤ j → j < 2 → M (m + 25) j = bz j ∧ (bz j = 1 → MT (blk M (m + 24) j) (bx j))
/-- what else it keeps: tape, program, fault stay; nothing else is touched -/
def frX (M M' : az_M) (m : Int) : Prop := M' (m + 8) = M (m + 8) ∧ (∀ b, m + 14 ≤ b → b ≤ m + 18 → M' b = M b) ∧ M' m 11 = M m 11 ∧ M' m 23 = M m 23 ∧ M' m 30 = M m 30 ∧ M' m 31 = M m 31
def frO (M M' : az_M) (m : Int) : Prop := ∀ b, b < m ∨ m + 25 < b → M' b = M b
theorem frX.refl (M : az_M) (m : Int) : frX M M m := ⟨rfl, fun _ _ _ => rfl, rfl, rfl, rfl, rfl⟩
theorem frO.refl (M : az_M) (m : Int) : frO M M m := fun _ _ => rfl
theorem frX.trans {M M1 M2 : az_M} {m : Int} (p : frX M M1 m) (q : frX M1 M2 m) : frX M M2 m := ⟨q.1.trans p.1, fun b h1 h2 => (q.2.1 b h1 h2).trans (p.2.1 b h1 h2), q.2.2.1.trans p.2.2.1, q.2.2.2.1.trans p.2.2.2.1, q.2.2.2.2.1.trans p.2.2.2.2.1, q.2.2.2.2.2.trans p.2.2.2.2.2⟩
theorem frO.trans {M M1 M2 : az_M} {m : Int} (p : frO M M1 m) (q : frO M1 M2 m) : frO M M2 m := fun b h => (q b h).trans (p b h)
theorem frX.ofM {M M' : az_M} {m : Int} (h : frM M M' m) : frX M M' m := ⟨h _ (by omega) (by omega), fun b h1 h2 => h b (by omega) (by omega), by rw [h m (by omega) (by omega)], by rw [h m (by omega) (by omega)], by rw [h m (by omega) (by omega)], by rw [h m (by omega) (by omega)]⟩
theorem frO.ofM {M M' : az_M} {m : Int} (h : frM M M' m) : frO M M' m := fun b hb => h b (by omega) (by omega)
/-- the state now is another one -/
theorem MDh.cur {M M' : az_M} {m : Int} {ch : hCh} {a u : Int} {bx : hCh} {bz : Int → Int} {T : hSt} (h : MDh M m ch a u bx bz) (hT : HM M' m T) (hf : frM M M' m) : MDh M' m (chs ch a T) a u bx bz := by
  obtain ⟨h1, h2, h3, h4, h5, h6⟩ := h
  have e : ∀ b, b ≠ m + 1 → b ≠ m + 2 → ∀ j, blk M' b j = blk M b j := fun b b1 b2 j => by unfold blk; rw [hf b b1 b2]
  refine ⟨by rw [chs_s]; exact hT, by rw [hf m (by omega) (by omega)]; exact h2, by rw [hf m (by omega) (by omega)]; exact h3, fun j j0 j1 => ?_, fun j j0 j1 => ?_, fun j j0 j1 => ?_⟩
  · rw [e _ (by omega) (by omega), chs_n _ _ (by omega)]; exact h4 j j0 j1
  · rw [e _ (by omega) (by omega), chs_n _ _ (by omega)]; exact h5 j j0 j1
  · rw [e _ (by omega) (by omega), hf _ (by omega) (by omega)]; exact h6 j j0 j1
set_option maxHeartbeats 1000000 in
theorem sp_keepAct {K : az_K} {m : Int} (hK : MdK K m) (M : az_M) {ch : hCh} {a u : Int} {bx : hCh} {bz : Int → Int} {B : Int} (hg : GW ch a u bx bz B) (hd : MDh M m ch a u bx bz) : AM yX7_keepAct cX7_keepAct 2 none 0 0 0 [(1, m)] K M (qv K (fun M' => MDh M' m (keepC ch a) (nxA a) 0 bx bz ∧ frX M M' m ∧ frO M M' m)) := by
  have hK0 := hK
  obtain ⟨hKo, k3, k4, k5, k6, k7, k8, k9, k10, k11, k12, k13, k14, k15, k16, k17, k18, k19, k20, k21, k22, k23, k24, k25, y3, y4, y5, y6, y7, y8, y9, y10, y11, y12, y13, y14, y15, y16, y17, y18, y19, y20, y21, y22, y23, y24, y25⟩ := hK
  have hKo0 := hKo
  obtain ⟨hKa, k2, y2⟩ := hKo
  have hKa0 := hKa
  obtain ⟨km, k1, y1⟩ := hKa
  obtain ⟨a0, u0, au, hgo, hgb⟩ := hg
  obtain ⟨d1, d2, d3, d4, d5, d6⟩ := hd
  refine am_of (by decide) (Nat.le_of_ble_eq_true rfl) (L := [(1, m), (9, 0)]) rfl ?_
  generalize hQ : (fun M' : az_M => MDh M' m (keepC ch a) (nxA a) 0 bx bz ∧ frX M M' m ∧ frO M M' m) = Q
  -- the second stretch: over the shifted rows
  have fin : ∀ (M1 : az_M) (c : Int) (v : az_V), 0 ≤ c → c < 20 → c = nxA a - 1 → M1 m 44 = c → (∀ j, j ≠ 44 → M1 m j = M m j) → (∀ b, b ≠ m → b ≠ m + 23 → M1 b = M b) → (∀ j, 0 ≤ j → j < c → MT (blk M1 (m + 23) j) (keepC ch a j)) → AW az_P0 (az_Z (qv K Q) 0 0) (az_rm 0 0 0) yX7_keepAct cX7_keepAct 2 none 0 0 50 [(1, m), v] [] K M1 := by
    intro M1 c v c0 c1 hca e44 em eo hb
    refine aw_iconst dX7_keepAct_50 rfl ⟨by decide, by decide⟩ ?_
    refine aw_istore_n dX7_keepAct_51 rfl (by decide) ?_
    have loop : ∀ (d : Nat) (k : Int) (M2 : az_M), 0 ≤ k → k + d = 790 → (∀ i, M2 (m + 23) i = if 790 * c ≤ i ∧ i < 790 * c + k then M (m + 1) (i - 790 * c) else M1 (m + 23) i) → (∀ b, b ≠ m + 23 → M2 b = M1 b) → AW az_P0 (az_Z (qv K Q) 0 0) (az_rm 0 0 0) yX7_keepAct cX7_keepAct 2 none 0 0 52 [(1, m), (0, k)] [] K M2 := by
      intro d
      induction d with
      | zero =>
        intro k M2 k0 k1 f2 o2
        have hk : k = 790 := by omega
        subst hk
        have v88 : M2 m 44 = c := by rw [o2 _ (by omega)]; exact e44
        refine aw_iload_n dX7_keepAct_52 rfl rfl ?_
        refine aw_sipush dX7_keepAct_53 (by decide) ⟨by decide, by decide⟩ ?_
        refine aw_icmp_ge (tgt := 86) dX7_keepAct_56 rfl (fun h56 => ?_) (fun h56 => absurd h56 (by omega))
        refine aw_aload_n dX7_keepAct_86 rfl rfl ⟨by decide, by decide⟩ ?_
        refine aw_dup dX7_keepAct_87 ?_
        refine aw_gi 44 dX7_keepAct_88 fl_RX7_250 (by assumption) rfl rfl v88 ?_
        refine aw_iconst dX7_keepAct_91 rfl ⟨by decide, by decide⟩ ?_
        refine aw_iadd dX7_keepAct_92 (az_wr_id (by omega) (by omega)) ?_
        refine aw_pi 44 dX7_keepAct_93 fl_RX7_250 (by assumption) rfl rfl ?_
        refine aw_aload_n dX7_keepAct_96 rfl rfl ⟨by decide, by decide⟩ ?_
        refine aw_iconst dX7_keepAct_97 rfl ⟨by decide, by decide⟩ ?_
        refine aw_pi 45 dX7_keepAct_98 fl_RX7_253 (by assumption) rfl rfl ?_
        refine aw_vret dX7_keepAct_101 (by decide) (by decide) ⟨rfl, rfl, ?_⟩
        have em3 : ∀ j, az_up (az_up M2 m 44 (c + 1)) m 45 0 m j = if j = 45 then 0 else if j = 44 then c + 1 else M m j := by
          intro j
          rw [up_row, up_row]
          show (if j = 45 then 0 else if j = 44 then c + 1 else M2 m j) = _
          by_cases e1 : j = 45
          · rw [if_pos e1, if_pos e1]
          · rw [if_neg e1, if_neg e1]
            by_cases e2 : j = 44
            · rw [if_pos e2, if_pos e2]
            · rw [if_neg e2, if_neg e2, o2 _ (by omega), em j e2]
        have eo3 : ∀ b, b ≠ m → b ≠ m + 23 → az_up (az_up M2 m 44 (c + 1)) m 45 0 b = M b := fun b b1 b2 => by rw [up_oth _ _ _ b1, up_oth _ _ _ b1, o2 b b2, eo b b1 b2]
        have e23 : az_up (az_up M2 m 44 (c + 1)) m 45 0 (m + 23) = M2 (m + 23) := by rw [up_oth _ _ _ (by omega), up_oth _ _ _ (by omega)]
        generalize az_up (az_up M2 m 44 (c + 1)) m 45 0 = M3 at em3 eo3 e23
        rw [← hQ]
        refine ⟨⟨?_, ?_, ?_, fun j j0 j1 => ?_, fun j j0 j1 => by omega, fun j j0 j1 => ?_⟩, ⟨eo3 _ (by omega) (by omega), fun b b1 b2 => eo3 b (by omega) (by omega), ?_, ?_, ?_, ?_⟩, fun b hb => eo3 b (by omega) (by omega)⟩
        · rw [keepC_cur a0 (by omega)]
          exact HM_fr d1 (eo3 _ (by omega) (by omega))
        · rw [em3, if_neg (by omega), if_pos rfl]; omega
        · rw [em3, if_pos rfl]
        · by_cases e : j = c
          · subst e
            have hcc : keepC ch a j = ch a := by
              unfold keepC
              unfold nxA at hca
              by_cases e2 : a < 20
              · rw [if_pos e2] at hca ⊢
                rw [if_neg (by omega), show j = a by omega]
              · rw [if_neg e2] at hca ⊢
                rw [if_neg (by omega), show j + 1 = a by omega]
            rw [hcc]
            refine MT_congr d1 (hgo a a0 (by omega)).1.1 (fun i i0 i1 => ?_)
            show M3 (m + 23) (790 * j + i) = _
            rw [e23, f2, if_pos (by omega), show 790 * j + i - 790 * j = i by omega]
          · have hw := (GW.keep ⟨a0, u0, au, hgo, hgb⟩).2.2.2.1 j j0 (by omega)
            refine MT_congr (hb j j0 (by omega)) hw.1.1 (fun i i0 i1 => ?_)
            show M3 (m + 23) (790 * j + i) = M1 (m + 23) (790 * j + i)
            rw [e23, f2, if_neg (by omega)]
        · have : blk M3 (m + 24) j = blk M (m + 24) j := by unfold blk; rw [eo3 _ (by omega) (by omega)]
          rw [this, eo3 _ (by omega) (by omega)]
          exact d6 j j0 j1
        · rw [em3, if_neg (by omega), if_neg (by omega)]
        · rw [em3, if_neg (by omega), if_neg (by omega)]
        · rw [em3, if_neg (by omega), if_neg (by omega)]
        · rw [em3, if_neg (by omega), if_neg (by omega)]
      | succ d ih =>
        intro k M2 k0 k1 f2 o2
        have v67 : M2 m 44 = c := by rw [o2 _ (by omega)]; exact e44
        have v78 : M2 (m + 1) k = M (m + 1) k := by rw [o2 _ (by omega), eo _ (by omega) (by omega)]
        refine aw_iload_n dX7_keepAct_52 rfl rfl ?_
        refine aw_sipush dX7_keepAct_53 (by decide) ⟨by decide, by decide⟩ ?_
        refine aw_icmp_ge (tgt := 86) dX7_keepAct_56 rfl (fun h56 => absurd h56 (by omega)) (fun h56 => ?_)
        refine aw_aload_n dX7_keepAct_59 rfl rfl ⟨by decide, by decide⟩ ?_
        refine aw_gzF 41 dX7_keepAct_60 fl_RX7_81 (by assumption) rfl rfl (by assumption) ?_
        refine aw_sipush dX7_keepAct_63 (by decide) ⟨by decide, by decide⟩ ?_
        refine aw_aload_n dX7_keepAct_66 rfl rfl ⟨by decide, by decide⟩ ?_
        refine aw_gi 44 dX7_keepAct_67 fl_RX7_250 (by assumption) rfl rfl v67 ?_
        refine aw_imul dX7_keepAct_70 (az_wr_id (by omega) (by omega)) ?_
        refine aw_iload_n dX7_keepAct_71 rfl rfl ?_
        refine aw_iadd dX7_keepAct_72 (az_wr_id (by omega) (by omega)) ?_
        refine aw_aload_n dX7_keepAct_73 rfl rfl ⟨by decide, by decide⟩ ?_
        refine aw_gzF 0 dX7_keepAct_74 fl_RX7_7 (by assumption) rfl rfl (by assumption) ?_
        refine aw_iload_n dX7_keepAct_77 rfl rfl ?_
        refine aw_iv dX7_keepAct_78 (by assumption) (by omega) (by omega) v78 ?_
        refine aw_iast dX7_keepAct_79 (by assumption) (by omega) (by omega) ?_
        refine aw_iinc dX7_keepAct_80 rfl (az_wr_id (by omega) (by omega)) (by decide) ?_
        refine aw_goto (tgt := 52) dX7_keepAct_83 rfl ?_
        refine ih (k + 1) _ (by omega) (by omega) (fun i => ?_) (fun b hb => by rw [up_oth _ _ _ hb]; exact o2 b hb)
        rw [up_row]
        show (if i = 790 * c + k then M (m + 1) k else M2 (m + 23) i) = _
        rw [f2]
        by_cases e1 : i = 790 * c + k
        · rw [if_pos e1, if_pos (by omega), show i - 790 * c = k by omega]
        · rw [if_neg e1]
          by_cases e2 : 790 * c ≤ i ∧ i < 790 * c + k
          · rw [if_pos e2, if_pos (by omega)]
          · rw [if_neg e2, if_neg (by omega)]
    exact loop 790 0 M1 (by omega) (by omega) (fun i => by rw [if_neg (by omega)]) (fun _ _ => rfl)
  refine aw_aload_n dX7_keepAct_0 rfl rfl ⟨by decide, by decide⟩ ?_
  refine aw_gi 44 dX7_keepAct_1 fl_RX7_250 (by assumption) rfl rfl d2 ?_
  refine aw_bipush dX7_keepAct_4 (by decide) ⟨by decide, by decide⟩ ?_
  refine aw_icmp_ne (tgt := 50) dX7_keepAct_6 rfl (fun h6 => ?_) (fun h6 => ?_)
  · have ha : a < 20 := by omega
    refine fin M a _ a0 ha (by unfold nxA; rw [if_pos ha]; omega) d2 (fun _ _ => rfl) (fun _ _ _ => rfl) (fun j j0 j1 => ?_)
    have : keepC ch a j = ch j := by unfold keepC; rw [if_pos ha, if_neg (by omega)]
    rw [this]; exact d4 j j0 j1
  · have ha : a = 20 := by omega
    have hu : u = 0 := by omega
    refine aw_iconst dX7_keepAct_9 rfl ⟨by decide, by decide⟩ ?_
    refine aw_istore_n dX7_keepAct_10 rfl (by decide) ?_
    have loop : ∀ (d : Nat) (k : Int) (M2 : az_M), 0 ≤ k → k + d = 15800 → (∀ i, M2 (m + 23) i = if 0 ≤ i ∧ i < k then M (m + 23) (i + 790) else M (m + 23) i) → (∀ b, b ≠ m + 23 → M2 b = M b) → AW az_P0 (az_Z (qv K Q) 0 0) (az_rm 0 0 0) yX7_keepAct cX7_keepAct 2 none 0 0 11 [(1, m), (0, k)] [] K M2 := by
      intro d
      induction d with
      | zero =>
        intro k M2 k0 k1 f2 o2
        have v42 : M2 m 44 = a := by rw [o2 _ (by omega)]; exact d2
        refine aw_iload_n dX7_keepAct_11 rfl rfl ?_
        refine aw_sipush dX7_keepAct_12 (by decide) ⟨by decide, by decide⟩ ?_
        refine aw_icmp_ge (tgt := 40) dX7_keepAct_15 rfl (fun h15 => ?_) (fun h15 => absurd h15 (by omega))
        refine aw_aload_n dX7_keepAct_40 rfl rfl ⟨by decide, by decide⟩ ?_
        refine aw_dup dX7_keepAct_41 ?_
        refine aw_gi 44 dX7_keepAct_42 fl_RX7_250 (by assumption) rfl rfl v42 ?_
        refine aw_iconst dX7_keepAct_45 rfl ⟨by decide, by decide⟩ ?_
        refine aw_isub dX7_keepAct_46 (az_wr_id (by omega) (by omega)) ?_
        refine aw_pi 44 dX7_keepAct_47 fl_RX7_250 (by assumption) rfl rfl ?_
        refine fin _ (a - 1) _ (by omega) (by omega) (by unfold nxA; rw [if_neg (by omega)]; omega) (az_up_s _ _ _ _) (fun j hj => by rw [az_up_i _ _ _ _ hj, o2 _ (by omega)]) (fun b b1 b2 => by rw [up_oth _ _ _ b1, o2 b b2]) (fun j j0 j1 => ?_)
        have hcc : keepC ch a j = ch (j + 1) := by unfold keepC; rw [if_neg (by omega), if_neg (by omega)]
        rw [hcc]
        refine MT_congr (d4 (j + 1) (by omega) (by omega)) (hgo (j + 1) (by omega) (by omega)).1.1 (fun i i0 i1 => ?_)
        show az_up M2 m 44 (a - 1) (m + 23) (790 * j + i) = M (m + 23) (790 * (j + 1) + i)
        rw [up_oth _ _ _ (by omega), f2, if_pos (by omega), show 790 * j + i + 790 = 790 * (j + 1) + i by omega]
      | succ d ih =>
        intro k M2 k0 k1 f2 o2
        have v32 : M2 (m + 23) (k + 790) = M (m + 23) (k + 790) := by rw [f2, if_neg (by omega)]
        refine aw_iload_n dX7_keepAct_11 rfl rfl ?_
        refine aw_sipush dX7_keepAct_12 (by decide) ⟨by decide, by decide⟩ ?_
        refine aw_icmp_ge (tgt := 40) dX7_keepAct_15 rfl (fun h15 => absurd h15 (by omega)) (fun h15 => ?_)
        refine aw_aload_n dX7_keepAct_18 rfl rfl ⟨by decide, by decide⟩ ?_
        refine aw_gzF 41 dX7_keepAct_19 fl_RX7_81 (by assumption) rfl rfl (by assumption) ?_
        refine aw_iload_n dX7_keepAct_22 rfl rfl ?_
        refine aw_aload_n dX7_keepAct_23 rfl rfl ⟨by decide, by decide⟩ ?_
        refine aw_gzF 41 dX7_keepAct_24 fl_RX7_81 (by assumption) rfl rfl (by assumption) ?_
        refine aw_iload_n dX7_keepAct_27 rfl rfl ?_
        refine aw_sipush dX7_keepAct_28 (by decide) ⟨by decide, by decide⟩ ?_
        refine aw_iadd dX7_keepAct_31 (az_wr_id (by omega) (by omega)) ?_
        refine aw_iv dX7_keepAct_32 (by assumption) (by omega) (by omega) v32 ?_
        refine aw_iast dX7_keepAct_33 (by assumption) (by omega) (by omega) ?_
        refine aw_iinc dX7_keepAct_34 rfl (az_wr_id (by omega) (by omega)) (by decide) ?_
        refine aw_goto (tgt := 11) dX7_keepAct_37 rfl ?_
        refine ih (k + 1) _ (by omega) (by omega) (fun i => ?_) (fun b hb => by rw [up_oth _ _ _ hb]; exact o2 b hb)
        rw [up_row]
        show (if i = k then M (m + 23) (k + 790) else M2 (m + 23) i) = _
        rw [f2]
        by_cases e1 : i = k
        · rw [if_pos e1, if_pos (by omega), e1]
        · rw [if_neg e1]
          by_cases e2 : 0 ≤ i ∧ i < k
          · rw [if_pos e2, if_pos (by omega)]
          · rw [if_neg e2, if_neg (by omega)]
    exact loop 15800 0 M (by omega) (by omega) (fun i => by rw [if_neg (by omega)]) (fun _ _ => rfl)
