/-! Heap.begin -/
def blk1 (S : hSt) (k : Int) : hSt := (Tg S.1 1 (S.2.1 (k + 3)), Tr S.2.1 (k + 3) (k + 1) (S.2.1 (k + 3)) [], S.2.2)
def blkS (S : hSt) : hSt := blk1 (blk1 (blk1 S 0) 4) 8
def startG (g : Int → Int) : Int → Int := gu (gu g 726 1) 740 (g 730)
def startM (S : hSt) : hSt := greyF (blkS (startG S.1, S.2.1, S.2.2)) (fun i => S.1 (715 + i)) 6
def startS (S : hSt) : hSt := if (startM S).2.2.length = 0 then endS (startM S) else startM S
set_option maxRecDepth 20000 in
set_option maxHeartbeats 1000000 in
theorem beg_row {K : az_K} {h : Int} (hK : HpK K h) {g : Int → Int} {rg : Int → List Int} {gl : List Int} {Z : List Frame → Array Value → State → az_E → State → Prop} (k s : Int) (hks : k = 0 ∧ s = 2 ∨ k = 4 ∧ s = 4 ∨ k = 8 ∧ s = 8) :
    ∀ (l2 l1 : List Int) (M1 : az_M) (lf : Int), HC M1 h (Tg g 1 l1) (Tr rg (k + 3) (k + 1) l1 l2) gl → WR (Tg g 1 l1) (Tr rg (k + 3) (k + 1) l1 l2) → lf = l2.length → l2.length ≤ 1000 →
    (∀ (M2 : az_M), HC M2 h (Tg g 1 (l1 ++ l2)) (Tr rg (k + 3) (k + 1) (l1 ++ l2) []) gl → WR (Tg g 1 (l1 ++ l2)) (Tr rg (k + 3) (k + 1) (l1 ++ l2) []) → frR M1 M2 h → AW az_P0 Z (az_rm 2 0 0) yX0_begin cX0_begin 4 none 0 0 69 [(1, h), (0, s), (0, k + 3), (0, 0)] [] K M2) →
    AW az_P0 Z (az_rm 2 0 0) yX0_begin cX0_begin 4 none 0 0 38 [(1, h), (0, s), (0, k + 3), (0, lf)] [] K M1 := by
  have hK0 := hK
  obtain ⟨hRg, kh, k6, k7, k8, k9, k10, k11, k12, k13, k14, z0, z1, z2, z3, z4, z5, z6, z7, z8, z9⟩ := hK
  intro l2
  induction l2 with
  | nil =>
    intro l1 M1 lf hc hw hlf f1 kk
    have hlf0 : lf = 0 := hlf
    subst hlf0
    refine aw_iload_n dX0_begin_38 rfl rfl ?_
    refine aw_if_le (tgt := 69) dX0_begin_39 rfl (fun h39 => ?_) (fun h39 => ?_)
    · have := kk M1
      rw [List.append_nil] at this
      exact this hc hw (fun _ _ => rfl)
    · omega
  | cons n t ih =>
    intro l1 M1 lf hc hw hlf f1 kk
    rw [List.length_cons] at hlf f1
    have hk0 : 0 ≤ k + 3 ∧ k + 3 < 12 ∧ (k + 3) / 4 * 4 = k ∧ (k + 3) % 4 = 3 ∧ s / 4 * 4 = k := by omega
    have hmem : n ∈ Tr rg (k + 3) (k + 1) l1 (n :: t) (k + 3) := by unfold Tr; rw [if_pos rfl]; exact List.mem_cons_self
    obtain ⟨n0, n1, nsl, nkz, nc⟩ := WR_mem hw hk0.1 hk0.2.1 hmem
    rw [hk0.2.2.1] at nkz
    rw [hk0.2.2.2.1] at nc
    have nob : ob (Tg g 1 l1) (2 * n) := ⟨nsl, by omega⟩
    have hfi := RR_first hc.1 hk0.1 hk0.2.1 (show Tr rg (k + 3) (k + 1) l1 (n :: t) (k + 3) = n :: t by unfold Tr; rw [if_pos rfl])
    have hro : M1 (h + 4) n = k + 3 := by
      have := (hc.2.1 n n0 n1).1 nsl
      omega
    refine aw_iload_n dX0_begin_38 rfl rfl ?_
    refine aw_if_le (tgt := 69) dX0_begin_39 rfl (fun h39 => ?_) (fun h39 => ?_)
    · omega
    · refine aw_aload_n dX0_begin_42 rfl rfl ⟨by decide, by decide⟩ ?_
      refine aw_gzF 0 dX0_begin_43 fl_RX0_12 (by assumption) rfl rfl (by assumption) ?_
      refine aw_aload_n dX0_begin_46 rfl rfl ⟨by decide, by decide⟩ ?_
      refine aw_gzF 0 dX0_begin_47 fl_RX0_12 (by assumption) rfl rfl (by assumption) ?_
      refine aw_iload_n dX0_begin_50 rfl rfl ?_
      refine aw_cV1p dX0_begin_51 ml_RX0_102 hRg.1 (by decide) rfl rfl ⟨by decide, by decide, by decide, by decide⟩ (Nat.le_of_ble_eq_true rfl) (qp_c (sp_first hRg M1 (k + 3) (by omega) (by omega) (by omega) (by omega)) (by rw [hfi])) ?_
      refine aw_iload_n dX0_begin_54 rfl rfl ?_
      refine aw_iconst dX0_begin_55 rfl ⟨by decide, by decide⟩ ?_
      refine aw_cS2p dX0_begin_56 ml_RX0_96 ⟨by decide, by decide, by decide, by decide⟩ (Nat.le_of_ble_eq_true rfl) (qp_c (sp_row K M1 s 1 (by omega) (by omega) (by omega) (by omega)) (show s / 4 * 4 + 1 = k + 1 by omega)) ?_
      refine aw_iconst dX0_begin_59 rfl ⟨by decide, by decide⟩ ?_
      refine aw_cV3v dX0_begin_60 ml_RX0_105 hRg.1 (by decide) rfl rfl ⟨by decide, by decide, by decide, by decide⟩ (Nat.le_of_ble_eq_true rfl) (sp_move hRg M1 hc.1 (2 * n) (k + 1) 0 (by omega) (by omega) (by omega) (by omega) (Or.inl rfl)) (fun M2 hM2 => ?_)
      obtain ⟨m1, m2, m3⟩ := hM2
      rw [show 2 * n / 2 = n by omega] at m1 m2
      rw [hro] at m1
      have hHC := HC_mv (M' := M2) (front := false) (c := 1) hc hw.1 hw.2.1 hw.2.2 nob (by omega) (by omega) (by rw [show 2 * n / 2 = n by omega, nkz, nc]; simpa using m1) (by rw [show 2 * n / 2 = n by omega, nkz]; exact m2) m3
      have hW3 := WR_mv hw (c := 1) false nsl (by omega) (by omega) (by omega)
      rw [show 2 * n / 2 = n by omega, nkz, nc, Tr_step rg (by omega) l1 t n, Tg_step] at hHC hW3
      refine aw_iinc dX0_begin_63 rfl (az_wr_id (by omega) (by omega)) (by decide) ?_
      refine aw_goto (tgt := 38) dX0_begin_66 rfl ?_
      refine ih (l1 ++ [n]) M2 _ hHC hW3 (by omega) (by omega) (fun M4 g1 g2 g4 => ?_)
      rw [List.append_assoc, List.singleton_append] at g1 g2
      exact kk M4 g1 g2 (fun b hb => (g4 b hb).trans (m3 b hb))
theorem Tg_at (g : Int → Int) {l : List Int} (hl : ∀ n ∈ l, 0 ≤ n ∧ n < 64) {x : Int} (h : 128 ≤ x) : Tg g 1 l x = g x := by
  unfold Tg
  rw [if_neg]
  rintro ⟨q1, q2⟩
  have := hl _ q2
  omega
section BA
variable {g : Int → Int} {rg : Int → List Int} {gl : List Int}
theorem blkS_rg (S : hSt) : (blkS S).1 = Tg (Tg (Tg S.1 1 (S.2.1 3)) 1 (S.2.1 7)) 1 (S.2.1 11) ∧ (blkS S).2.1 = Tr (Tr (Tr S.2.1 3 1 (S.2.1 3) []) 7 5 (S.2.1 7) []) 11 9 (S.2.1 11) [] ∧ (blkS S).2.2 = S.2.2 := by
  refine ⟨?_, ?_, rfl⟩
  · unfold blkS blk1
    simp [Tr]
  · unfold blkS blk1
    simp [Tr]
theorem blk_at (h : WR g rg) {a : Int} (h0 : 0 ≤ a) (h1 : a < 128) : Tg (Tg (Tg g 1 (rg 3)) 1 (rg 7)) 1 (rg 11) a = if g a = 3 then 1 else g a := by
  have hm : ∀ k, (k = 3 ∨ k = 7 ∨ k = 11) → (a % 2 = 0 ∧ a / 2 ∈ rg k → g a = 3) := by
    intro k hk hq
    have := WR_mem h (k := k) (by omega) (by omega) hq.2
    rw [show 2 * (a / 2) = a by omega] at this
    omega
  unfold Tg
  by_cases e : g a = 3
  · rw [if_pos e]
    have hs : sl g a := by
      rcases sl_dec g a with q | q
      · exact q
      · have := (h.2.1 a h0 h1).2.2 q; omega
    obtain ⟨e1, e2, e3, e4, e5⟩ := sl_even h.1 hs
    have hk : kz g a = 0 ∨ kz g a = 4 ∨ kz g a = 8 := by unfold kz at e4 e5 ⊢; omega
    have hin : ∀ k, kz g a + 3 = k → a / 2 ∈ rg k := by
      intro k hk
      refine ((h.2.2 k (by omega) (by omega)).2 (a / 2)).mpr ⟨by omega, by omega, ?_⟩
      rw [show 2 * (a / 2) = a by omega]
      exact ⟨hs, by omega⟩
    by_cases z9 : a % 2 = 0 ∧ a / 2 ∈ rg 11
    · rw [if_pos z9]
    · rw [if_neg z9]
      by_cases z5 : a % 2 = 0 ∧ a / 2 ∈ rg 7
      · rw [if_pos z5]
      · rw [if_neg z5]
        rcases hk with q | q | q
        · rw [if_pos ⟨e1, hin 3 (by omega)⟩]
        · exact absurd ⟨e1, hin 7 (by omega)⟩ z5
        · exact absurd ⟨e1, hin 11 (by omega)⟩ z9
  · rw [if_neg e, if_neg (fun q => e (hm 11 (by omega) q)), if_neg (fun q => e (hm 7 (by omega) q)), if_neg (fun q => e (hm 3 (by omega) q))]
theorem blk_big (h : WR g rg) {x : Int} (hx : 128 ≤ x) : Tg (Tg (Tg g 1 (rg 3)) 1 (rg 7)) 1 (rg 11) x = g x := by
  rw [Tg_at _ (rows_in h (k := 11) (by omega) (by omega)) hx, Tg_at _ (rows_in h (k := 7) (by omega) (by omega)) hx, Tg_at _ (rows_in h (k := 3) (by omega) (by omega)) hx]
/-- what holds behind the turning of the black ones -/
theorem blkS_wf (h : WF0 g rg gl) (hn : g 726 = 0) (hw2 : WR (blkS (startG g, rg, gl)).1 (blkS (startG g, rg, gl)).2.1) : WF0 (blkS (startG g, rg, gl)).1 (blkS (startG g, rg, gl)).2.1 (blkS (startG g, rg, gl)).2.2 := by
  obtain ⟨h1, h2, h3, h4, h5, h6, h7⟩ := h
  have hR : WR g rg := ⟨h1, h2, h3⟩
  have glo : ∀ i, i ≠ 726 → i ≠ 740 → startG g i = g i := fun i a b => by unfold startG; rw [gu_n _ _ b, gu_n _ _ a]
  have hR1 : WR (startG g) rg := WR_congr hR (fun i hi => glo i (by omega) (by omega))
  have e1 := (blkS_rg (startG g, rg, gl)).1
  have hcol : ∀ a, 0 ≤ a → a < 128 → (blkS (startG g, rg, gl)).1 a = if g a = 3 then 1 else g a := by
    intro a a0 a1
    rw [e1]
    show Tg (Tg (Tg (startG g) 1 (rg 3)) 1 (rg 7)) 1 (rg 11) a = _
    rw [blk_at hR1 a0 a1, glo a (by omega) (by omega)]
  have hbig : ∀ x, 128 ≤ x → x ≠ 726 → x ≠ 740 → (blkS (startG g, rg, gl)).1 x = g x := by
    intro x hx a b
    rw [e1]
    show Tg (Tg (Tg (startG g) 1 (rg 3)) 1 (rg 7)) 1 (rg 11) x = _
    rw [blk_big hR1 hx, glo x a b]
  have h726 : (blkS (startG g, rg, gl)).1 726 = 1 := by
    rw [e1]
    show Tg (Tg (Tg (startG g) 1 (rg 3)) 1 (rg 7)) 1 (rg 11) 726 = _
    rw [blk_big hR1 (by omega)]
    unfold startG
    rw [gu_n _ _ (by omega), gu_s]
  have e3 : (blkS (startG g, rg, gl)).2.2 = gl := rfl
  rw [e3]
  generalize (blkS (startG g, rg, gl)).1 = g2 at hcol hbig h726 hw2
  have hpz : ∀ b, 0 ≤ b → b < 128 → pz g2 b = pz g b := fun b b0 b1 => hbig _ (by omega) (by omega) (by omega)
  have hsl : ∀ b, sl g2 b ↔ sl g b := by
    intro b
    unfold sl
    constructor
    · rintro ⟨w0, w1, w2⟩
      rw [hpz b w0 w1] at w2
      exact ⟨w0, w1, w2⟩
    · rintro ⟨w0, w1, w2⟩
      rw [hpz b w0 w1]
      exact ⟨w0, w1, w2⟩
  have hob : ∀ b, ob g2 b ↔ ob g b := by
    intro b
    unfold ob
    rw [hsl]
    constructor
    · rintro ⟨w1, w2⟩
      rw [hcol b w1.1 w1.2.1] at w2
      refine ⟨w1, fun e => w2 ?_⟩
      rw [if_neg (by omega)]; exact e
    · rintro ⟨w1, w2⟩
      refine ⟨w1, ?_⟩
      rw [hcol b w1.1 w1.2.1]
      split <;> omega
  have hnok : ∀ v, nok g2 v ↔ nok g v := fun v => by unfold nok; rw [hob]
  obtain ⟨r1, r2, r3, r4, r5⟩ := h6
  obtain ⟨s1, s2, s3, s4⟩ := r2 hn
  refine ⟨hw2.1, hw2.2.1, hw2.2.2, ?_, ⟨fun x x0 x1 => ?_, fun a f ha f0 f1 => ?_⟩, ⟨Or.inr h726, fun e => by omega, r3, fun a => ?_, ?_⟩, ?_⟩
  · intro a ha
    rw [hsl] at ha
    have a1 := ha.2.1
    have a0 := ha.1
    rw [hpz a a0 a1, hbig (128 + a) (by omega) (by omega) (by omega), hcol a a0 a1]
    have := h4 a ha
    by_cases e : g a = 3
    · rw [if_pos e]
      exact ⟨fun q => by omega, fun _ => this.2 (by omega)⟩
    · rw [if_neg e]; exact this
  · rw [hnok, hbig x (by omega) (by omega) (by omega)]
    exact h5.1 x x0 x1
  · have ha' := (hob a).mp ha
    have a0 := ha'.1.1
    have a1 := ha'.1.2.1
    rw [hbig (128 + a) (by omega) (by omega) (by omega)] at f1
    have hfl := (h4 a ha'.1).2 ha'.2
    have hb := base_of h1 (f := f + 1) ha'.1 (by omega) (by omega)
    rw [hnok, hbig _ (by omega) (by omega) (by omega)]
    exact h5.2 a f ha' f0 f1
  · rw [s1]
    constructor
    · intro q; cases q
    · rintro ⟨q1, q2, -⟩
      have q3 := s4 a q1.1.1 q1.1.2.1
      rw [hcol a q1.1.1 q1.1.2.1] at q2
      split at q2 <;> omega
  · rw [hbig 727 (by omega) (by omega) (by omega), hbig 728 (by omega) (by omega) (by omega)]
    exact Or.inl ⟨s2, s3⟩
  · unfold w_set
    rw [hbig 735 (by omega) (by omega) (by omega), hbig 736 (by omega) (by omega) (by omega), hbig 737 (by omega) (by omega) (by omega), hbig 738 (by omega) (by omega) (by omega)]
    exact h7
end BA
