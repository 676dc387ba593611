/-! Heap.finish: the ecru ones come free -/
theorem qp_c {y : MethodName} {cc : ByteArray} {nL : Nat} {ret : Option FieldType} {d mc ms : Nat} {av : List az_V} {K : az_K} {M : az_M} {x z : Int} (h : AM y cc nL ret d mc ms av K M (qp K M x)) (e : x = z) : AM y cc nL ret d mc ms av K M (qp K M z) := e ▸ h
def Fg (g : Int → Int) (l : List Int) : Int → Int := fun i => if i % 2 = 0 ∧ (i / 2 ∈ l ∨ (i - 128) / 2 ∈ l) then 0 else g i
theorem Fg_step (g : Int → Int) (l : List Int) (n : Int) : fr1 (Fg g l) (2 * n) = Fg g (l ++ [n]) := by
  funext i
  unfold fr1 gu Fg
  by_cases e1 : i = 128 + 2 * n
  · rw [if_pos e1, if_pos ⟨by omega, Or.inr (by rw [show (i - 128) / 2 = n by omega]; simp)⟩]
  · rw [if_neg e1]
    by_cases e2 : i = 2 * n
    · rw [if_pos e2, if_pos ⟨by omega, Or.inl (by rw [show i / 2 = n by omega]; simp)⟩]
    · rw [if_neg e2]
      by_cases h : i % 2 = 0 ∧ (i / 2 ∈ l ∨ (i - 128) / 2 ∈ l)
      · rw [if_pos h, if_pos ⟨h.1, h.2.elim (fun q => Or.inl (List.mem_append_left _ q)) (fun q => Or.inr (List.mem_append_left _ q))⟩]
      · rw [if_neg h, if_neg]
        rintro ⟨h1, h2 | h2⟩
        · rcases List.mem_append.mp h2 with h2 | h2
          · exact h ⟨h1, Or.inl h2⟩
          · rw [List.mem_singleton] at h2; omega
        · rcases List.mem_append.mp h2 with h2 | h2
          · exact h ⟨h1, Or.inr h2⟩
          · rw [List.mem_singleton] at h2; omega
theorem Fg_nil (g : Int → Int) : Fg g [] = g := by
  funext i
  unfold Fg
  simp
theorem slot_apart {g : Int → Int} (hp : w_pg g) {a b : Int} (ha : sl g a) (hb : sl g b) (h : b < a) : b + pz g b ≤ a := by
  obtain ⟨a0, a1, a2, a3⟩ := ha
  obtain ⟨b0, b1, b2, b3⟩ := hb
  have hb4 := pz_in hp b0 b1
  have ha4 := pz_in hp a0 a1
  by_cases e : a / 16 = b / 16
  · have : pz g a = pz g b := by unfold pz; rw [e]
    rw [this] at a3
    rcases hb4 with q | q | q | q
    · exact absurd q b2
    · rw [q] at a3 b3 ⊢; omega
    · rw [q] at a3 b3 ⊢; omega
    · rw [q] at a3 b3 ⊢; omega
  · rcases hb4 with q | q | q | q
    · exact absurd q b2
    · rw [q] at b3 ⊢; omega
    · rw [q] at b3 ⊢; omega
    · rw [q] at b3 ⊢; omega
theorem w_fld_fr1 {g : Int → Int} (h : w_fld g) {a : Int} (ha : sl g a) : w_fld (fr1 g a) := by
  have a0 := ha.1
  have a1 := ha.2.1
  intro b hb
  rw [fr1_sl g a0 a1] at hb
  have b0 := hb.1
  have b1 := hb.2.1
  rw [fr1_lo g a0 b1, fr1_pz g a0 a1 b0]
  by_cases e : b = a
  · subst e
    rw [if_pos rfl]
    exact ⟨fun _ => by unfold fr1; rw [gu_s], fun q => absurd rfl q⟩
  · rw [if_neg e]
    have h128 : fr1 g a (128 + b) = g (128 + b) := by unfold fr1; rw [gu_n _ _ (by omega), gu_n _ _ (by omega)]
    rw [h128]
    exact h b hb
/-- what the freeing leaves as it was -/
def frF (M M' : az_M) (h : Int) : Prop := ∀ b, b < h + 2 ∨ h + 5 < b → b ≠ h + 6 → b ≠ h + 8 → M' b = M b
theorem frF.refl (M : az_M) (h : Int) : frF M M h := fun _ _ _ _ => rfl
theorem frF.trans {M M1 M2 : az_M} {h : Int} (a : frF M M1 h) (b : frF M1 M2 h) : frF M M2 h := fun x h1 h2 h3 => (b x h1 h2 h3).trans (a x h1 h2 h3)
set_option maxRecDepth 20000 in
set_option maxHeartbeats 1000000 in
theorem fin_row {K : az_K} {h : Int} (hK : HpK K h) {g : Int → Int} {rg : Int → List Int} {gl : List Int} {Z : List Frame → Array Value → State → az_E → State → Prop} (k s : Int) (hks : k = 0 ∧ s = 2 ∨ k = 4 ∧ s = 4 ∨ k = 8 ∧ s = 8) :
    ∀ (l2 l1 : List Int) (M1 : az_M) (fd lf : Int) (x5 : az_V), HC M1 h (Fg g l1) (Tr rg (k + 1) k l1 l2) gl → WR (Fg g l1) (Tr rg (k + 1) k l1 l2) → w_fld (Fg g l1) → lf = l2.length → 0 ≤ fd → fd + l2.length ≤ 1000 →
    (∀ (M2 : az_M) (x5' : az_V), HC M2 h (Fg g (l1 ++ l2)) (Tr rg (k + 1) k (l1 ++ l2) []) gl → WR (Fg g (l1 ++ l2)) (Tr rg (k + 1) k (l1 ++ l2) []) → w_fld (Fg g (l1 ++ l2)) → frF M1 M2 h → AW az_P0 Z (az_rm 1 0 0) yX0_finish cX0_finish 6 none 0 0 92 [(1, h), (0, fd + l2.length), (0, s), (0, k + 1), (0, 0), x5'] [] K M2) →
    AW az_P0 Z (az_rm 1 0 0) yX0_finish cX0_finish 6 none 0 0 31 [(1, h), (0, fd), (0, s), (0, k + 1), (0, lf), x5] [] K M1 := by
  have hK0 := hK
  obtain ⟨hRg, kh, k6, k7, k8, k9, k10, k11, k12, k13, k14, z0, z1, z2, z3, z4, z5, z6, z7, z8, z9⟩ := hK
  intro l2
  induction l2 with
  | nil =>
    intro l1 M1 fd lf x5 hc hw hf hlf f0 f1 kk
    have hlf0 : lf = 0 := hlf
    subst hlf0
    refine aw_iload dX0_finish_31 rfl ?_
    refine aw_if_le (tgt := 92) dX0_finish_33 rfl (fun h33 => ?_) (fun h33 => ?_)
    · have := kk M1 x5
      rw [List.append_nil] at this
      have h2 := this hc hw hf (frF.refl M1 h)
      simp only [List.length_nil] at h2
      rw [show fd + ((0 : Nat) : Int) = fd by omega] at h2
      exact h2
    · omega
  | cons n t ih =>
    intro l1 M1 fd lf x5 hc hw hf hlf f0 f1 kk
    rw [List.length_cons] at hlf f1
    have hk0 : 0 ≤ k + 1 ∧ k + 1 < 12 ∧ (k + 1) / 4 * 4 = k ∧ (k + 1) % 4 = 1 ∧ s / 4 * 4 = k := by omega
    have hmem : n ∈ Tr rg (k + 1) k l1 (n :: t) (k + 1) := by unfold Tr; rw [if_pos rfl]; exact List.mem_cons_self
    obtain ⟨n0, n1, nsl, nkz, nc⟩ := WR_mem hw hk0.1 hk0.2.1 hmem
    rw [hk0.2.2.1] at nkz
    rw [hk0.2.2.2.1] at nc
    have nob : ob (Fg g l1) (2 * n) := ⟨nsl, by omega⟩
    have hfi := RR_first hc.1 hk0.1 hk0.2.1 (show Tr rg (k + 1) k l1 (n :: t) (k + 1) = n :: t by unfold Tr; rw [if_pos rfl])
    have hro : M1 (h + 4) n = k + 1 := by
      have := (hc.2.1 n n0 n1).1 nsl
      omega
    have hus := hc.2.2.2.2.1 (2 * n / 16) (by omega) (by omega)
    have hun := us_nn (Tr rg (k + 1) k l1 (n :: t)) (2 * n / 16)
    refine aw_iload dX0_finish_31 rfl ?_
    refine aw_if_le (tgt := 92) dX0_finish_33 rfl (fun h33 => ?_) (fun h33 => ?_)
    · omega
    · refine aw_aload_n dX0_finish_36 rfl rfl ⟨by decide, by decide⟩ ?_
      refine aw_gzF 0 dX0_finish_37 fl_RX0_12 (by assumption) rfl rfl (by assumption) ?_
      refine aw_iload_n dX0_finish_40 rfl rfl ?_
      refine aw_cV1p dX0_finish_41 ml_RX0_102 hRg.1 (by decide) rfl rfl ⟨by decide, by decide, by decide, by decide⟩ (Nat.le_of_ble_eq_true rfl) (qp_c (sp_first hRg M1 (k + 1) (by omega) (by omega) (by omega) (by omega)) (by rw [hfi])) ?_
      refine aw_istore dX0_finish_44 (by decide) ?_
      refine aw_aload_n dX0_finish_46 rfl rfl ⟨by decide, by decide⟩ ?_
      refine aw_gzF 0 dX0_finish_47 fl_RX0_12 (by assumption) rfl rfl (by assumption) ?_
      refine aw_iload dX0_finish_50 rfl ?_
      refine aw_iload_n dX0_finish_52 rfl rfl ?_
      refine aw_iconst dX0_finish_53 rfl ⟨by decide, by decide⟩ ?_
      refine aw_cS2p dX0_finish_54 ml_RX0_96 ⟨by decide, by decide, by decide, by decide⟩ (Nat.le_of_ble_eq_true rfl) (qp_c (sp_row K M1 s 0 (by omega) (by omega) (by omega) (by omega)) (show s / 4 * 4 + 0 = k by omega)) ?_
      refine aw_iconst dX0_finish_57 rfl ⟨by decide, by decide⟩ ?_
      refine aw_cV3v dX0_finish_58 ml_RX0_105 hRg.1 (by decide) rfl rfl ⟨by decide, by decide, by decide, by decide⟩ (Nat.le_of_ble_eq_true rfl) (sp_move hRg M1 hc.1 (2 * n) k 0 (by omega) (by omega) (by omega) (by omega) (Or.inl rfl)) (fun M2 hM2 => ?_)
      obtain ⟨m1, m2, m3⟩ := hM2
      rw [show 2 * n / 2 = n by omega] at m1 m2
      rw [hro] at m1
      refine aw_aload_n dX0_finish_61 rfl rfl ⟨by decide, by decide⟩ ?_
      refine aw_gzF 1 dX0_finish_62 fl_RX0_18 (by assumption) rfl rfl (by assumption) ?_
      refine aw_iload dX0_finish_65 rfl ?_
      refine aw_iconst dX0_finish_67 rfl ⟨by decide, by decide⟩ ?_
      refine aw_iast dX0_finish_68 (by assumption) (by omega) (by omega) ?_
      refine aw_rM (fun hM => ?_)
      have hu1 : az_up M2 (h + 6) (2 * n) (-1) (h + 8) (2 * n / 16) = M1 (h + 8) (2 * n / 16) := by rw [up_oth _ _ _ (by omega), m3 _ (by omega)]
      have hin := hM (h + 8) (2 * n / 16)
      rw [hu1] at hin
      have hin2 := hin.2
      refine aw_aload_n dX0_finish_69 rfl rfl ⟨by decide, by decide⟩ ?_
      refine aw_gzF 3 dX0_finish_70 fl_RX0_25 (by assumption) rfl rfl (by assumption) ?_
      refine aw_iload dX0_finish_73 rfl ?_
      refine aw_bipush dX0_finish_75 (by decide) ⟨by decide, by decide⟩ ?_
      refine aw_idiv dX0_finish_77 (by omega) (by omega) ?_
      refine aw_dup2 dX0_finish_78 ?_
      refine aw_iv dX0_finish_79 (by assumption) (by omega) (by omega) hu1 ?_
      refine aw_iconst dX0_finish_80 rfl ⟨by decide, by decide⟩ ?_
      refine aw_isub dX0_finish_81 (az_wr_id (by omega) (by omega)) ?_
      refine aw_iast dX0_finish_82 (by assumption) (by omega) (by omega) ?_
      refine aw_iinc dX0_finish_83 rfl (az_wr_id (by omega) (by omega)) (by decide) ?_
      refine aw_iinc dX0_finish_86 rfl (az_wr_id (by omega) (by omega)) (by decide) ?_
      refine aw_goto (tgt := 31) dX0_finish_89 rfl ?_
      generalize hM3 : az_up (az_up M2 (h + 6) (2 * n) (-1)) (h + 8) (2 * n / 16) (M1 (h + 8) (2 * n / 16) - 1) = M3
      have hgn : Fg g l1 (2 * n) = 1 := nc
      have hR3 : rmv (Tr rg (k + 1) k l1 (n :: t)) n (k + 1) k false = Tr rg (k + 1) k (l1 ++ [n]) t := Tr_step rg (by omega) l1 t n
      have hHC : HC M3 h (fr1 (Fg g l1) (2 * n)) (rmv (Tr rg (k + 1) k l1 (n :: t)) (2 * n / 2) (kz (Fg g l1) (2 * n) + Fg g l1 (2 * n)) (kz (Fg g l1) (2 * n)) false) gl := by
        refine HC_free hc hw nob ?_ ?_ ?_ ?_ ?_ ?_
        · rw [show 2 * n / 2 = n by omega, nkz, hgn, ← hM3, up_oth _ _ _ (by omega), up_oth _ _ _ (by omega), up_oth _ _ _ (by omega), up_oth _ _ _ (by omega), up_oth _ _ _ (by omega), up_oth _ _ _ (by omega), up_oth _ _ _ (by omega), up_oth _ _ _ (by omega)]
          simpa using m1
        · rw [show 2 * n / 2 = n by omega, nkz, ← hM3, up_oth _ _ _ (by omega), up_oth _ _ _ (by omega), m2]
        · rw [← hM3, up_oth _ _ _ (by omega), up_row, m3 _ (by omega)]
        · rw [← hM3, up_row, up_oth _ _ _ (by omega), m3 _ (by omega)]
          funext j
          by_cases e : j = 2 * n / 16
          · rw [if_pos e, if_pos e, e]
          · rw [if_neg e, if_neg e]
        · intro b hb
          by_cases e : 2 * n ≤ b
          · exact Or.inr e
          · refine Or.inl ?_
            have q1 := slot_apart hw.1 nsl hb.1 (by omega)
            have q2 := (hf b hb.1).2 hb.2
            omega
        · intro b b1 b2 b3
          rw [← hM3, up_oth _ _ _ b3, up_oth _ _ _ b2, m3 b b1]
      have hW3 := WR_fr1 hw nsl (by omega)
      rw [show 2 * n / 2 = n by omega, nkz, hgn, hR3, Fg_step] at hHC
      rw [show 2 * n / 2 = n by omega, nkz, hgn, hR3, Fg_step] at hW3
      have hf3 := w_fld_fr1 hf nsl
      rw [Fg_step] at hf3
      refine ih (l1 ++ [n]) M3 (fd + 1) _ _ hHC hW3 hf3 (by omega) (by omega) (by omega) (fun M4 x5' g1 g2 g3 g4 => ?_)
      rw [List.append_assoc, List.singleton_append] at g1 g2 g3
      have := kk M4 x5' g1 g2 g3 (frF.trans (fun b b1 b2 b3 => by rw [← hM3, up_oth _ _ _ b3, up_oth _ _ _ b2, m3 b b1]) g4)
      rw [List.length_cons] at this
      rw [show fd + 1 + (t.length : Int) = fd + ((t.length + 1 : Nat) : Int) by omega]
      exact this
