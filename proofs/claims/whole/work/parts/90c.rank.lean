/-! TreadRingModel: grey(i): the ranks of those that wait -/
set_option maxRecDepth 20000
theorem sumN_pt {f f' : Int → Int} : ∀ n : Nat, (∀ i : Nat, i < n → f i ≤ f' i) → sumN n f ≤ sumN n f' := by
  intro n
  induction n with
  | zero => intro _; exact Int.le_refl _
  | succ n ih =>
    intro h
    show sumN n f + f n ≤ sumN n f' + f' n
    have h1 := h n (by omega)
    have h2 := ih (fun i hi => h i (by omega))
    omega
theorem sumN_lt {f f' : Int → Int} : ∀ n : Nat, (∀ i : Nat, i < n → f i ≤ f' i) → (∃ j : Nat, j < n ∧ f j < f' j) → sumN n f < sumN n f' := by
  intro n
  induction n with
  | zero => rintro - ⟨j, hj, -⟩; omega
  | succ n ih =>
    rintro hle ⟨j, hj, hlt⟩
    show sumN n f + f n < sumN n f' + f' n
    have h1 := hle n (by omega)
    by_cases e : j = n
    · subst e
      have : sumN j f ≤ sumN j f' := sumN_pt j (fun i hi => hle i (by omega))
      omega
    · have := ih (fun i hi => hle i (by omega)) ⟨j, by omega, hlt⟩
      omega
def rk (S : hSt) (k : Nat) : Int := rkN S.1 S.2.2 k S.2.2.length
def cj (S : hSt) (j : Int) : Int := sumN S.2.2.length (fun o => if rk S o.toNat < j then 1 else 0)
section GR
variable {F : Int → Int} {S : hSt}
theorem ah_tr (h : WS S) (hW : mW F S) {i j k : Nat} (hi : i < S.2.2.length) (hj : j < S.2.2.length) (hk : k < S.2.2.length) (h1 : ahd S.1 S.2.2 i j = 1) (h2 : ahd S.1 S.2.2 j k = 1) : ahd S.1 S.2.2 i k = 1 := by
  rw [ahd_isA h.2.2.2.2.2.2 hW hi hj] at h1
  rw [ahd_isA h.2.2.2.2.2.2 hW hj hk] at h2
  rw [ahd_isA h.2.2.2.2.2.2 hW hi hk]
  exact isA_trans h.2.2.2.2.2.2 h1 h2
theorem ah_as (h : WS S) (hW : mW F S) {i j : Nat} (hi : i < S.2.2.length) (hj : j < S.2.2.length) (h1 : ahd S.1 S.2.2 i j = 1) : ahd S.1 S.2.2 j i = 0 := by
  rcases ahd_01 S.1 S.2.2 j i with e | e
  · exact e
  · rw [ahd_isA h.2.2.2.2.2.2 hW hi hj] at h1
    rw [ahd_isA h.2.2.2.2.2.2 hW hj hi] at e
    exact absurd e (fun e => isA_asym h.2.2.2.2.2.2 h1 e)
theorem ah_ir (h : WS S) (hW : mW F S) {i : Nat} (hi : i < S.2.2.length) : ahd S.1 S.2.2 i i = 0 := by
  rcases ahd_01 S.1 S.2.2 i i with e | e
  · exact e
  · exact ah_as h hW hi hi e
theorem ah_tot (h : WS S) (hW : mW F S) {i j : Nat} (hi : i < S.2.2.length) (hj : j < S.2.2.length) (hne : i ≠ j) (h1 : ¬ ahd S.1 S.2.2 i j = 1) : ahd S.1 S.2.2 j i = 1 := by
  rw [ahd_isA h.2.2.2.2.2.2 hW hi hj] at h1
  rw [ahd_isA h.2.2.2.2.2.2 hW hj hi]
  exact isA_total h.2.2.2.2.2.2 (gl_nd h.2.2.2.2.2.1.2.2.1 hi hj hne) (gl_ne hW hi hj hne) h1
theorem rk_lt (h : WS S) (hW : mW F S) {i j : Nat} (hi : i < S.2.2.length) (hj : j < S.2.2.length) (h1 : ahd S.1 S.2.2 i j = 1) : rk S i < rk S j := by
  refine sumN_lt _ (fun o ho => ?_) ⟨i, hi, ?_⟩
  · show ahd S.1 S.2.2 o i ≤ ahd S.1 S.2.2 o j
    have a1 := ahd_01 S.1 S.2.2 o i
    have a2 := ahd_01 S.1 S.2.2 o j
    by_cases e : ahd S.1 S.2.2 o i = 1
    · rw [ah_tr h hW ho hi hj e h1]; omega
    · omega
  · show ahd S.1 S.2.2 i i < ahd S.1 S.2.2 i j
    rw [ah_ir h hW hi, h1]; omega
theorem rk_inj (h : WS S) (hW : mW F S) {i j : Nat} (hi : i < S.2.2.length) (hj : j < S.2.2.length) (hne : i ≠ j) : rk S i ≠ rk S j := by
  by_cases e : ahd S.1 S.2.2 i j = 1
  · have := rk_lt h hW hi hj e; omega
  · have := rk_lt h hW hj hi (ah_tot h hW hi hj hne e); omega
theorem rk_next (h : WS S) (hW : mW F S) {j : Int} {k : Nat} (hk : k < S.2.2.length) (h1 : j ≤ rk S k) (h2 : ∀ o : Nat, o < S.2.2.length → j ≤ rk S o → o ≠ k → ahd S.1 S.2.2 k o = 1) : rk S k = cj S j := by
  refine sumN_congr _ (fun o ho => ?_)
  show ahd S.1 S.2.2 o k = if rk S ((o : Int)).toNat < j then 1 else 0
  rw [Int.toNat_natCast]
  by_cases e : rk S o < j
  · rw [if_pos e]
    have hne : o ≠ k := fun q => by rw [q] at e; omega
    apply Classical.byContradiction
    intro q
    have := rk_lt h hW hk ho (ah_tot h hW ho hk hne q)
    omega
  · rw [if_neg e]
    by_cases q : o = k
    · rw [q]; exact ah_ir h hW hk
    · exact ah_as h hW hk ho (h2 o ho (by omega) q)
theorem cj_succ (h : WS S) (hW : mW F S) {j : Int} {k : Nat} (hk : k < S.2.2.length) (e : rk S k = j) : cj S (j + 1) = cj S j + 1 := by
  have h1 : sumN S.2.2.length (fun o => if o = (k : Int) then 1 else 0) = 1 := by rw [sumN_one k 1 S.2.2.length (by omega), if_pos (by omega)]
  have key : cj S (j + 1) = sumN S.2.2.length (fun o => (fun o : Int => if rk S o.toNat < j then (1 : Int) else 0) o + (fun o : Int => if o = (k : Int) then (1 : Int) else 0) o) := by
    refine sumN_congr _ (fun o ho => ?_)
    show (if rk S ((o : Int)).toNat < j + 1 then (1 : Int) else 0) = (if rk S ((o : Int)).toNat < j then (1 : Int) else 0) + (if (o : Int) = (k : Int) then (1 : Int) else 0)
    rw [Int.toNat_natCast]
    by_cases q : o = k
    · subst q
      rw [if_pos (by omega), if_neg (by omega), if_pos rfl]; rfl
    · have := rk_inj h hW ho hk q
      rw [if_neg (show ¬ (o : Int) = (k : Int) by omega)]
      by_cases r : rk S o < j
      · rw [if_pos (by omega), if_pos r]; rfl
      · rw [if_neg (by omega), if_neg r]; rfl
  rw [key, sumN_add, h1]
  rfl
theorem gyL_at (h : WS S) (hW : mW F S) {r : Int} {k : Nat} (hk : k < S.2.2.length) (e : rk S k = r) : ∀ (d i : Nat), i + d = S.2.2.length → i ≤ k → gyL S.1 S.2.2 r d i = S.2.2.getD k 0 := by
  intro d
  induction d with
  | zero => intro i h1 h2; omega
  | succ d ih =>
    intro i h1 h2
    show (if rk S i = r then S.2.2.getD ((i : Int)).toNat 0 else gyL S.1 S.2.2 r d ((i : Int) + 1)) = _
    by_cases q : i = k
    · subst q
      rw [if_pos e, Int.toNat_natCast]
    · rw [if_neg (fun z => rk_inj h hW (by omega) hk q (z.trans e.symm))]
      exact ih (i + 1) (by omega) (by omega)
theorem gyL_no {r : Int} (hno : ∀ k : Nat, k < S.2.2.length → rk S k ≠ r) : ∀ (d i : Nat), i + d = S.2.2.length → gyL S.1 S.2.2 r d i = -1 := by
  intro d
  induction d with
  | zero => intro i h1; rfl
  | succ d ih =>
    intro i h1
    show (if rk S i = r then S.2.2.getD ((i : Int)).toNat 0 else gyL S.1 S.2.2 r d ((i : Int) + 1)) = _
    rw [if_neg (hno i (by omega))]
    exact ih (i + 1) (by omega)
end GR
/-- after so many: the one of this rank, or none is left -/
def GI (M : az_M) (m : Int) (S : hSt) (j z : Int) : Prop := (z = -1 ∧ ∀ o : Nat, o < S.2.2.length → rk S o < j) ∨ (∃ k : Nat, k < S.2.2.length ∧ z = S.2.2.getD k 0 ∧ rk S k = j ∧ cj S j = j ∧ ∀ o : Nat, o < S.2.2.length → (M (m + 2) (S.2.2.getD o 0) ≠ 0 ↔ rk S o < j))
section GM
variable {K : az_K} {m : Int} {S : hSt}
theorem GI_of {M : az_M} (h : WS S) (hW : mW (M (m + 1)) S) {j z : Int} (hb : bstP M m S 128 z) (hf : ∀ o : Nat, o < S.2.2.length → (M (m + 2) (S.2.2.getD o 0) ≠ 0 ↔ rk S o < j)) (hj : cj S j = j) : GI M m S j z := by
  have hin := gl_in h
  rcases hb with ⟨q1, q2⟩ | ⟨q1, q2, q3, q4, q5⟩
  · refine Or.inl ⟨q1, fun o ho => ?_⟩
    have hm := getD_mem (l := S.2.2) (i := o) ho
    exact (hf o ho).mp (q2 _ hm (by have := hin _ hm; omega))
  · obtain ⟨k, hk, e⟩ := gl_idx q3
    have hrk : j ≤ rk S k := by
      apply Classical.byContradiction
      intro q
      exact (hf k hk).mpr (by omega) (by rw [e]; exact q4)
    have := rk_next h hW hk hrk (fun o ho h1 h2 => by
      have hm := getD_mem (l := S.2.2) (i := o) ho
      rw [ahd_isA h.2.2.2.2.2.2 hW hk ho, e]
      refine q5 _ hm (by have := hin _ hm; omega) (Classical.byContradiction (fun q => ?_)) (fun q => gl_nd h.2.2.2.2.2.1.2.2.1 ho hk h2 (q.trans e.symm))
      have := (hf o ho).mp q
      omega)
    exact Or.inr ⟨k, hk, e.symm, by omega, hj, hf⟩
theorem GI_step {M : az_M} (h : WS S) (hW : mW (M (m + 1)) S) {j : Int} {k : Nat} (hk : k < S.2.2.length) (e : rk S k = j) (hj : cj S j = j) (hf : ∀ o : Nat, o < S.2.2.length → (M (m + 2) (S.2.2.getD o 0) ≠ 0 ↔ rk S o < j)) : (∀ o : Nat, o < S.2.2.length → (az_up M (m + 2) (S.2.2.getD k 0) 1 (m + 2) (S.2.2.getD o 0) ≠ 0 ↔ rk S o < j + 1)) ∧ cj S (j + 1) = j + 1 := by
  refine ⟨fun o ho => ?_, by rw [cj_succ h hW hk e, hj]⟩
  by_cases q : o = k
  · subst q
    rw [az_up_s]
    exact ⟨fun _ => by omega, fun _ => by omega⟩
  · rw [az_up_i _ _ _ _ (gl_nd h.2.2.2.2.2.1.2.2.1 ho hk q), hf o ho]
    have := rk_inj h hW ho hk q
    omega
theorem cj_0 (S : hSt) : cj S 0 = 0 := by
  unfold cj
  rw [show sumN S.2.2.length (fun o => if rk S o.toNat < 0 then (1 : Int) else 0) = sumN S.2.2.length (fun _ => 0) from sumN_congr _ (fun o ho => if_neg (by have := (rk_in S.1 S.2.2 (((o : Int)).toNat : Int) S.2.2.length).1; show ¬ rkN S.1 S.2.2 _ _ < 0; omega)), sumN_zero]
set_option maxHeartbeats 1000000 in
theorem sp_mgreyAt (hK : MoK K m) (M : az_M) (hc : HM M m S) (hw : WL S) (hcy : S.1 729 ≤ 20000000) (i : Int) : AM yX7_grey_ cX7_grey_ 4 (some .int) 4 0 0 [(1, m), (0, i)] K M (qi K (fun z M' => z = (if i < 0 then -1 else gyA S i) ∧ ∀ b, b ≠ m + 2 → M' b = M b)) := by
  have hK0 := hK
  obtain ⟨hKa, k2, z1⟩ := hK
  have hKa0 := hKa
  obtain ⟨km, k1, zz⟩ := hKa
  refine am_of (by decide) (Nat.le_of_ble_eq_true rfl) (L := [(1, m), (0, i), (9, 0), (9, 0)]) rfl ?_
  refine aw_rL (fun hrL => ?_)
  have hiin : -2147483648 ≤ i ∧ i ≤ 2147483647 := hrL (0, i) (by simp) rfl
  have hin := gl_in hw.1
  have hri := run_in hw.1
  generalize hV : (if i < 0 then -1 else gyA S i) = V
  have hG : ∀ (M2 : az_M), (∀ b, b ≠ m + 2 → M2 b = M b) → HM M2 m S := fun M2 f => HM_fr hc (f _ (by omega))
  have hgr : ∀ a, 0 ≤ a → a < 128 → S.1 a = 2 → a ∉ S.2.2 → a = S.1 727 := by
    intro a a0 a1 h2 hn
    apply Classical.byContradiction
    intro q
    have hs : sl S.1 a := Classical.byContradiction (fun z => by have := (hw.1.2.1 a a0 a1).2.2 z; omega)
    exact hn ((hw.1.2.2.2.2.2.1.2.2.2.1 a).mpr ⟨⟨hs, by omega⟩, h2, q⟩)
  have fin : ∀ (z k : Int) (M2 : az_M), (0 ≤ i → z = V) → (∀ b, b ≠ m + 2 → M2 b = M b) → AW az_P0 (az_Z (qi K (fun z M' => z = V ∧ ∀ b, b ≠ m + 2 → M' b = M b)) 0 0) (az_rm 4 0 0) yX7_grey_ cX7_grey_ 4 (some .int) 0 0 60 [(1, m), (0, i), (0, z), (0, k)] [] K M2 := by
    intro z k M2 hz f
    refine aw_iload_n dX7_grey__60 rfl rfl ?_
    refine aw_if_ge (tgt := 68) dX7_grey__61 rfl (fun h61 => ?_) (fun h61 => ?_)
    · refine aw_iload_n dX7_grey__68 rfl rfl ?_
      exact aw_iret dX7_grey__69 (by decide) (by decide) ⟨_, rfl, rfl, hz (by omega), f⟩
    · rw [if_pos (by omega)] at hV
      refine aw_iconst dX7_grey__64 rfl ⟨by decide, by decide⟩ ?_
      refine aw_goto (tgt := 69) dX7_grey__65 rfl ?_
      exact aw_iret dX7_grey__69 (by decide) (by decide) ⟨_, rfl, rfl, hV, f⟩
  -- the value by rank
  have hval : ∀ (M2 : az_M) (j z : Int), (∀ b, b ≠ m + 2 → M2 b = M b) → GI M2 m S j z → 0 ≤ i → ¬ (S.1 727 ≠ -1 ∧ i = 0) → (j = (if S.1 727 = -1 then i else i - 1) ∨ z = -1 ∧ j ≤ (if S.1 727 = -1 then i else i - 1)) → z = V := by
    intro M2 j z f hg i0 hn hj
    have hWW := (hG M2 f).2.2
    rw [if_neg (by omega)] at hV
    unfold gyA at hV
    rw [if_neg hn] at hV
    generalize (if S.1 727 = -1 then i else i - 1) = r at hV hj
    rcases hg with ⟨q1, q2⟩ | ⟨k, hk, e1, e2, -, -⟩
    · have hno : gyL S.1 S.2.2 r S.2.2.length 0 = -1 := gyL_no (S := S) (r := r) (fun k hk => by have := q2 k hk; omega) S.2.2.length 0 (by omega)
      rw [hno] at hV
      omega
    · rcases hj with hj | hj
      · have hat : gyL S.1 S.2.2 r S.2.2.length 0 = S.2.2.getD k 0 := gyL_at hw.1 hWW hk (e2.trans hj) S.2.2.length 0 (by omega) (by omega)
        rw [hat] at hV
        omega
      · have := hin _ (getD_mem (l := S.2.2) (i := k) hk)
        omega
  have loop : ∀ (d k : Nat) (z : Int) (M2 : az_M), (0 ≤ i → (k : Int) ≤ i) → i ≤ (k : Int) + d → (∀ b, b ≠ m + 2 → M2 b = M b) →
      ((S.1 727 ≠ -1 ∧ k = 0 ∧ z = S.1 727 ∧ ∀ j, 0 ≤ j → j < 128 → M2 (m + 2) j = 0) ∨ ((S.1 727 ≠ -1 → 1 ≤ k ∧ M2 (m + 2) (S.1 727) ≠ 0) ∧ GI M2 m S (if S.1 727 = -1 then (k : Int) else (k : Int) - 1) z)) → AW az_P0 (az_Z (qi K (fun z M' => z = V ∧ ∀ b, b ≠ m + 2 → M' b = M b)) 0 0) (az_rm 4 0 0) yX7_grey_ cX7_grey_ 4 (some .int) 0 0 33 [(1, m), (0, i), (0, z), (0, (k : Int))] [] K M2 := by
    intro d
    induction d with
    | zero =>
      intro k z M2 hki hid f inv
      refine aw_iload_n dX7_grey__33 rfl rfl ?_
      refine aw_iload_n dX7_grey__34 rfl rfl ?_
      refine aw_icmp_ge (tgt := 60) dX7_grey__35 rfl (fun h35 => ?_) (fun h35 => absurd h35 (by omega))
      refine fin z k M2 (fun i0 => ?_) f
      have hk := hki i0
      rcases inv with ⟨q1, q2, q3, q4⟩ | ⟨q1, q2⟩
      · rw [if_neg (by omega)] at hV
        unfold gyA at hV
        rw [if_pos ⟨q1, by omega⟩] at hV
        omega
      · refine hval M2 _ z f q2 i0 (fun q => by have := q1 q.1; omega) (Or.inl ?_)
        rw [show (k : Int) = i by omega]
    | succ d ih =>
      intro k z M2 hki hid f inv
      refine aw_iload_n dX7_grey__33 rfl rfl ?_
      refine aw_iload_n dX7_grey__34 rfl rfl ?_
      refine aw_icmp_ge (tgt := 60) dX7_grey__35 rfl (fun h35 => ?_) (fun h35 => ?_)
      · refine fin z k M2 (fun i0 => ?_) f
        have hk := hki i0
        rcases inv with ⟨q1, q2, q3, q4⟩ | ⟨q1, q2⟩
        · rw [if_neg (by omega)] at hV
          unfold gyA at hV
          rw [if_pos ⟨q1, by omega⟩] at hV
          omega
        · refine hval M2 _ z f q2 i0 (fun q => by have := q1 q.1; omega) (Or.inl ?_)
          rw [show (k : Int) = i by omega]
      · refine aw_iload_n dX7_grey__38 rfl rfl ?_
        refine aw_if_lt (tgt := 60) dX7_grey__39 rfl (fun h39 => ?_) (fun h39 => ?_)
        · refine fin z k M2 (fun i0 => ?_) f
          rcases inv with ⟨q1, q2, q3, q4⟩ | ⟨q1, q2⟩
          · rcases hri with ⟨e, -⟩ | ⟨-, e, -⟩
            · exact absurd e q1
            · have := e.1.1; omega
          · have hz : z = -1 := by
              rcases q2 with ⟨e, -⟩ | ⟨kk, hk, e, -⟩
              · exact e
              · have := hin _ (getD_mem (l := S.2.2) (i := kk) hk); omega
            refine hval M2 _ z f q2 i0 (fun q => by have := q1 q.1; omega) (Or.inr ⟨hz, ?_⟩)
            split <;> omega
        · have hz128 : z < 128 := by
            rcases inv with ⟨q1, q2, q3, q4⟩ | ⟨q1, q2⟩
            · rcases hri with ⟨e, -⟩ | ⟨-, e, -⟩
              · exact absurd e q1
              · have := e.1.2.1; omega
            · rcases q2 with ⟨e, -⟩ | ⟨kk, hk, e, -⟩
              · omega
              · have := hin _ (getD_mem (l := S.2.2) (i := kk) hk); omega
          have f3 : ∀ b, b ≠ m + 2 → az_up M2 (m + 2) z 1 b = M b := fun b hb => (up_oth _ _ _ hb).trans (f b hb)
          have hO : ∀ a, 0 ≤ a → a < 128 → S.1 a = 2 → a ∉ S.2.2 → az_up M2 (m + 2) z 1 (m + 2) a ≠ 0 := by
            intro a a0 a1 h2 hn
            have ha := hgr a a0 a1 h2 hn
            by_cases q : a = z
            · rw [q, az_up_s]; omega
            · rw [az_up_i _ _ _ _ q]
              rcases inv with ⟨q1, q2, q3, q4⟩ | ⟨q1, q2⟩
              · exact absurd (ha.trans q3.symm) q
              · rw [ha]; exact (q1 (by omega)).2
          have hng := sp_nextGrey hK0 (az_up M2 (m + 2) z 1) (hG _ f3) hw.1 hcy hO
          refine aw_aload_n dX7_grey__42 rfl rfl ⟨by decide, by decide⟩ ?_
          refine aw_gzF 1 dX7_grey__43 fl_RX7_13 (by assumption) rfl rfl (by assumption) ?_
          refine aw_iload_n dX7_grey__46 rfl rfl ?_
          refine aw_iconst dX7_grey__47 rfl ⟨by decide, by decide⟩ ?_
          refine aw_zast dX7_grey__48 (by assumption) (by omega) (by omega) (by omega) ?_
          refine aw_aload_n dX7_grey__49 rfl rfl ⟨by decide, by decide⟩ ?_
          refine aw_cV0i dX7_grey__50 ml_RX7_178 (by assumption) (by decide) rfl rfl ⟨by decide, by decide, by decide, by decide⟩ (Nat.le_of_ble_eq_true rfl) (hng) (fun z2 M3 hz2 => ?_)
          obtain ⟨e3, hb⟩ := hz2
          subst e3
          refine aw_istore_n dX7_grey__53 rfl (by decide) ?_
          refine aw_iinc dX7_grey__54 rfl (az_wr_id (by omega) (by omega)) (by decide) ?_
          refine aw_goto (tgt := 33) dX7_grey__57 rfl ?_
          refine ih (k + 1) z2 _ (fun i0 => by omega) (by omega) f3 (Or.inr ⟨fun h7 => ⟨by omega, ?_⟩, ?_⟩)
          · rcases inv with ⟨q1, q2, q3, q4⟩ | ⟨q1, q2⟩
            · rw [← q3, az_up_s]; omega
            · by_cases q : S.1 727 = z
              · rw [q, az_up_s]; omega
              · rw [az_up_i _ _ _ _ q]; exact (q1 h7).2
          · rcases inv with ⟨q1, q2, q3, q4⟩ | ⟨q1, q2⟩
            · rw [if_neg q1, show (((k + 1 : Nat) : Int)) - 1 = 0 by omega]
              refine GI_of hw.1 (hG _ f3).2.2 hb (fun o ho => ?_) (cj_0 S)
              have hm := getD_mem (l := S.2.2) (i := o) ho
              have hne : S.2.2.getD o 0 ≠ z := fun q => ((hw.1.2.2.2.2.2.1.2.2.2.1 _).mp hm).2.2 (q.trans q3)
              rw [az_up_i _ _ _ _ hne, q4 _ (hin _ hm).1 (hin _ hm).2]
              have := (rk_in S.1 S.2.2 (o : Int) S.2.2.length).1
              refine ⟨fun q => absurd rfl q, fun q => ?_⟩
              have q' : rkN S.1 S.2.2 (o : Int) S.2.2.length < 0 := q
              omega
            · rcases q2 with ⟨e, -⟩ | ⟨kk, hk, e, e2, e3, e4⟩
              · omega
              · subst e
                have hst := GI_step hw.1 (hG M2 f).2.2 hk e2 e3 e4
                rw [show (if S.1 727 = -1 then (((k + 1 : Nat) : Int)) else (((k + 1 : Nat) : Int)) - 1) = (if S.1 727 = -1 then (k : Int) else (k : Int) - 1) + 1 by split <;> omega]
                exact GI_of hw.1 (hG _ f3).2.2 hb hst.1 hst.2
  refine aw_aload_n dX7_grey__0 rfl rfl ⟨by decide, by decide⟩ ?_
  refine aw_cV0v dX7_grey__1 ml_RX7_175 (by assumption) (by decide) rfl rfl ⟨by decide, by decide, by decide, by decide⟩ (Nat.le_of_ble_eq_true rfl) (sp_clearOut hK0 M) (fun M1 hM1 => ?_)
  obtain ⟨o1, f1⟩ := hM1
  have v11 : M1 (m + 1) 727 = S.1 727 := (hG M1 f1).1 _ (by omega) (by omega) (by omega) (by omega)
  refine aw_aload_n dX7_grey__4 rfl rfl ⟨by decide, by decide⟩ ?_
  refine aw_gzF 0 dX7_grey__5 fl_RX7_7 (by assumption) rfl rfl (by assumption) ?_
  refine aw_sipush dX7_grey__8 (by decide) ⟨by decide, by decide⟩ ?_
  refine aw_iv dX7_grey__11 (by assumption) (by omega) (by omega) v11 ?_
  refine aw_if_ge (tgt := 22) dX7_grey__12 rfl (fun h12 => ?_) (fun h12 => ?_)
  · refine aw_aload_n dX7_grey__22 rfl rfl ⟨by decide, by decide⟩ ?_
    refine aw_gzF 0 dX7_grey__23 fl_RX7_7 (by assumption) rfl rfl (by assumption) ?_
    refine aw_sipush dX7_grey__26 (by decide) ⟨by decide, by decide⟩ ?_
    refine aw_iv dX7_grey__29 (by assumption) (by omega) (by omega) v11 ?_
    refine aw_istore_n dX7_grey__30 rfl (by decide) ?_
    refine aw_iconst dX7_grey__31 rfl ⟨by decide, by decide⟩ ?_
    refine aw_istore_n dX7_grey__32 rfl (by decide) ?_
    refine loop i.toNat 0 _ M1 (fun _ => by omega) (by omega) f1 (Or.inl ⟨by omega, rfl, rfl, o1⟩)
  · have h7 : S.1 727 = -1 := by
      rcases hri with ⟨e, -⟩ | ⟨-, e, -⟩
      · exact e
      · have := e.1.1; omega
    have hng := sp_nextGrey hK0 M1 (hG M1 f1) hw.1 hcy (fun a a0 a1 h2 hn => by have := hgr a a0 a1 h2 hn; omega)
    refine aw_aload_n dX7_grey__15 rfl rfl ⟨by decide, by decide⟩ ?_
    refine aw_cV0i dX7_grey__16 ml_RX7_178 (by assumption) (by decide) rfl rfl ⟨by decide, by decide, by decide, by decide⟩ (Nat.le_of_ble_eq_true rfl) (hng) (fun z2 M3 hz2 => ?_)
    refine aw_goto (tgt := 30) dX7_grey__19 rfl ?_
    obtain ⟨e3, hb⟩ := hz2
    subst e3
    refine aw_istore_n dX7_grey__30 rfl (by decide) ?_
    refine aw_iconst dX7_grey__31 rfl ⟨by decide, by decide⟩ ?_
    refine aw_istore_n dX7_grey__32 rfl (by decide) ?_
    refine loop i.toNat 0 _ _ (fun _ => by omega) (by omega) f1 (Or.inr ⟨fun q => absurd h7 q, ?_⟩)
    rw [if_pos h7]
    refine GI_of hw.1 (hG _ f1).2.2 hb (fun o ho => ?_) (cj_0 S)
    have hm := getD_mem (l := S.2.2) (i := o) ho
    rw [o1 _ (hin _ hm).1 (hin _ hm).2]
    have := (rk_in S.1 S.2.2 (o : Int) S.2.2.length).1
    refine ⟨fun q => absurd rfl q, fun q => ?_⟩
    have q' : rkN S.1 S.2.2 (o : Int) S.2.2.length < 0 := q
    omega
end GM
