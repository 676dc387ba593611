/-! a text's tokens as values -/
set_option maxRecDepth 20000
abbrev pTx : Type := (Int → Int) × Int
def skp (X : pTx) : Nat → Int → Int
  | 0, p => p
  | d + 1, p => if p < X.2 ∧ (X.1 p = 32 ∨ X.1 p = 10) then skp X d (p + 1) else p
def rn (X : pTx) (lo hi : Int) : Nat → Int → Int
  | 0, p => p
  | d + 1, p => if p < X.2 ∧ lo ≤ X.1 p ∧ X.1 p ≤ hi then rn X lo hi d (p + 1) else p
def tkA (X : pTx) (q : Int) : Int := skp X (X.2 - q).toNat q
def tkE (X : pTx) (p : Int) : Int := if X.2 ≤ p then p else if 97 ≤ X.1 p ∧ X.1 p ≤ 122 then rn X 97 122 (X.2 - p).toNat p else if 48 ≤ X.1 p ∧ X.1 p ≤ 57 then rn X 48 57 (X.2 - p).toNat p else p + 1
abbrev sgn (c : Int) : Prop := c = 61 ∨ c = 46 ∨ c = 59 ∨ c = 123 ∨ c = 125
def tok (X : pTx) (p : Int) : Int := if X.2 ≤ p then 0 else if 97 ≤ X.1 p ∧ X.1 p ≤ 122 then 2 else if 48 ≤ X.1 p ∧ X.1 p ≤ 57 then 3 else if sgn (X.1 p) then 4 else 1
def wv (X : pTx) (p : Int) : Nat → Int
  | 0 => 0
  | n + 1 => 32 * wv X p n + X.1 (p + n) - 96
def nv (X : pTx) (p : Int) : Nat → Int
  | 0 => 0
  | n + 1 => 10 * nv X p n + X.1 (p + n) - 48
def wx (X : pTx) (p : Int) (n : Nat) : Int := if n ≤ 5 then wv X p n else 0
def nx_ (X : pTx) (p : Int) (n : Nat) : Int := if n ≤ 3 then nv X p n else 1000
def wd (X : pTx) (p : Int) : Int := wx X p (tkE X p - p).toNat
def nm (X : pTx) (p : Int) : Int := nx_ X p (tkE X p - p).toNat
section TX
variable {X : pTx}
theorem skp_in : ∀ (d : Nat) (p : Int), p ≤ X.2 → p ≤ skp X d p ∧ skp X d p ≤ X.2 := by
  intro d
  induction d with
  | zero => intro p h; exact ⟨Int.le_refl _, h⟩
  | succ d ih =>
    intro p h
    show p ≤ (if p < X.2 ∧ (X.1 p = 32 ∨ X.1 p = 10) then skp X d (p + 1) else p) ∧ (if p < X.2 ∧ (X.1 p = 32 ∨ X.1 p = 10) then skp X d (p + 1) else p) ≤ X.2
    split
    · rename_i q
      have := ih (p + 1) (by omega)
      omega
    · omega
theorem rn_in (lo hi : Int) : ∀ (d : Nat) (p : Int), p ≤ X.2 → p ≤ rn X lo hi d p ∧ rn X lo hi d p ≤ X.2 := by
  intro d
  induction d with
  | zero => intro p h; exact ⟨Int.le_refl _, h⟩
  | succ d ih =>
    intro p h
    show p ≤ (if p < X.2 ∧ lo ≤ X.1 p ∧ X.1 p ≤ hi then rn X lo hi d (p + 1) else p) ∧ (if p < X.2 ∧ lo ≤ X.1 p ∧ X.1 p ≤ hi then rn X lo hi d (p + 1) else p) ≤ X.2
    split
    · rename_i q
      have := ih (p + 1) (by omega)
      omega
    · omega
theorem rn_all (lo hi : Int) : ∀ (d : Nat) (p : Int), ∀ i, p ≤ i → i < rn X lo hi d p → lo ≤ X.1 i ∧ X.1 i ≤ hi := by
  intro d
  induction d with
  | zero => intro p i h1 h2; have : i < p := h2; omega
  | succ d ih =>
    intro p i h1 h2
    replace h2 : i < (if p < X.2 ∧ lo ≤ X.1 p ∧ X.1 p ≤ hi then rn X lo hi d (p + 1) else p) := h2
    split at h2
    · rename_i q
      by_cases e : i = p
      · rw [e]; exact q.2
      · exact ih (p + 1) i (by omega) h2
    · omega
theorem rn_step {lo hi p : Int} {d : Nat} (h : p + (d + 1 : Nat) = X.2) (hp : lo ≤ X.1 p ∧ X.1 p ≤ hi) : rn X lo hi (d + 1) p = rn X lo hi d (p + 1) := by
  show (if p < X.2 ∧ lo ≤ X.1 p ∧ X.1 p ≤ hi then rn X lo hi d (p + 1) else p) = _
  rw [if_pos ⟨by omega, hp⟩]
theorem rn_stop {lo hi p : Int} {d : Nat} (hp : ¬ (p < X.2 ∧ lo ≤ X.1 p ∧ X.1 p ≤ hi)) : rn X lo hi d p = p := by
  cases d with
  | zero => rfl
  | succ d =>
    show (if p < X.2 ∧ lo ≤ X.1 p ∧ X.1 p ≤ hi then rn X lo hi d (p + 1) else p) = _
    rw [if_neg hp]
theorem skp_step {p : Int} {d : Nat} (h : p < X.2 ∧ (X.1 p = 32 ∨ X.1 p = 10)) : skp X (d + 1) p = skp X d (p + 1) := by
  show (if p < X.2 ∧ (X.1 p = 32 ∨ X.1 p = 10) then skp X d (p + 1) else p) = _
  rw [if_pos h]
theorem skp_stop {p : Int} {d : Nat} (h : ¬ (p < X.2 ∧ (X.1 p = 32 ∨ X.1 p = 10))) : skp X d p = p := by
  cases d with
  | zero => rfl
  | succ d =>
    show (if p < X.2 ∧ (X.1 p = 32 ∨ X.1 p = 10) then skp X d (p + 1) else p) = _
    rw [if_neg h]
theorem tkA_in {q : Int} (h : q ≤ X.2) : q ≤ tkA X q ∧ tkA X q ≤ X.2 := skp_in _ q h
theorem tkE_in {p : Int} (h : p ≤ X.2) : p ≤ tkE X p ∧ tkE X p ≤ X.2 ∧ (p < X.2 → p < tkE X p) := by
  unfold tkE
  split
  · omega
  · rename_i q
    obtain ⟨d, hd⟩ : ∃ d : Nat, (X.2 - p).toNat = d + 1 := ⟨(X.2 - p).toNat - 1, by omega⟩
    split
    · rename_i r
      rw [hd, rn_step (by omega) r]
      have := rn_in (X := X) 97 122 d (p + 1) (by omega)
      omega
    · split
      · rename_i r
        rw [hd, rn_step (by omega) r]
        have := rn_in (X := X) 48 57 d (p + 1) (by omega)
        omega
      · omega
theorem tok_in (X : pTx) (p : Int) : 0 ≤ tok X p ∧ tok X p ≤ 4 := by
  unfold tok
  split
  · omega
  · split
    · omega
    · split
      · omega
      · split <;> omega
theorem tok0 {p : Int} : tok X p = 0 ↔ X.2 ≤ p := by
  unfold tok
  by_cases h : X.2 ≤ p
  · rw [if_pos h]; exact ⟨fun _ => h, fun _ => rfl⟩
  · rw [if_neg h]
    refine ⟨fun q => ?_, fun q => absurd q h⟩
    split at q
    · omega
    · split at q
      · omega
      · split at q <;> omega
theorem tok2 {p : Int} : tok X p = 2 ↔ p < X.2 ∧ 97 ≤ X.1 p ∧ X.1 p ≤ 122 := by
  unfold tok
  by_cases h : X.2 ≤ p
  · rw [if_pos h]; omega
  · rw [if_neg h]
    by_cases r : 97 ≤ X.1 p ∧ X.1 p ≤ 122
    · rw [if_pos r]; omega
    · rw [if_neg r]
      refine ⟨fun q => ?_, fun q => absurd q.2 r⟩
      split at q
      · omega
      · split at q <;> omega
theorem tok3 {p : Int} : tok X p = 3 ↔ p < X.2 ∧ 48 ≤ X.1 p ∧ X.1 p ≤ 57 := by
  unfold tok
  by_cases h : X.2 ≤ p
  · rw [if_pos h]; omega
  · rw [if_neg h]
    by_cases r : 97 ≤ X.1 p ∧ X.1 p ≤ 122
    · rw [if_pos r]; omega
    · rw [if_neg r]
      by_cases t : 48 ≤ X.1 p ∧ X.1 p ≤ 57
      · rw [if_pos t]; omega
      · rw [if_neg t]
        refine ⟨fun q => ?_, fun q => absurd q.2 t⟩
        split at q <;> omega
theorem tok4 {p : Int} : tok X p = 4 ↔ p < X.2 ∧ sgn (X.1 p) := by
  unfold tok
  by_cases h : X.2 ≤ p
  · rw [if_pos h]; omega
  · rw [if_neg h]
    by_cases r : 97 ≤ X.1 p ∧ X.1 p ≤ 122
    · rw [if_pos r]; omega
    · rw [if_neg r]
      by_cases t : 48 ≤ X.1 p ∧ X.1 p ≤ 57
      · rw [if_pos t]; omega
      · rw [if_neg t]
        by_cases s : sgn (X.1 p)
        · rw [if_pos s]; exact ⟨fun _ => ⟨by omega, s⟩, fun _ => rfl⟩
        · rw [if_neg s]; exact ⟨fun q => by omega, fun q => absurd q.2 s⟩
def wB : Nat → Int
  | 0 => 0
  | n + 1 => 32 * wB n + 26
theorem wv_in {p : Int} : ∀ n : Nat, (∀ i : Nat, i < n → 97 ≤ X.1 (p + i) ∧ X.1 (p + i) ≤ 122) → 0 ≤ wv X p n ∧ wv X p n ≤ wB n := by
  intro n
  induction n with
  | zero => intro _; exact ⟨Int.le_refl _, Int.le_refl _⟩
  | succ n ih =>
    intro h
    have h1 := ih (fun i hi => h i (by omega))
    have h2 := h n (by omega)
    show 0 ≤ 32 * wv X p n + X.1 (p + n) - 96 ∧ 32 * wv X p n + X.1 (p + n) - 96 ≤ 32 * wB n + 26
    omega
theorem wB_in {n : Nat} (h : n ≤ 5) : wB n ≤ 28142426 := by
  have h0 : n = 0 ∨ n = 1 ∨ n = 2 ∨ n = 3 ∨ n = 4 ∨ n = 5 := by omega
  rcases h0 with rfl | rfl | rfl | rfl | rfl | rfl <;> decide
def nB : Nat → Int
  | 0 => 0
  | n + 1 => 10 * nB n + 9
theorem nv_in {p : Int} : ∀ n : Nat, (∀ i : Nat, i < n → 48 ≤ X.1 (p + i) ∧ X.1 (p + i) ≤ 57) → 0 ≤ nv X p n ∧ nv X p n ≤ nB n := by
  intro n
  induction n with
  | zero => intro _; exact ⟨Int.le_refl _, Int.le_refl _⟩
  | succ n ih =>
    intro h
    have h1 := ih (fun i hi => h i (by omega))
    have h2 := h n (by omega)
    show 0 ≤ 10 * nv X p n + X.1 (p + n) - 48 ∧ 10 * nv X p n + X.1 (p + n) - 48 ≤ 10 * nB n + 9
    omega
theorem nB_in {n : Nat} (h : n ≤ 3) : nB n ≤ 999 := by
  have h0 : n = 0 ∨ n = 1 ∨ n = 2 ∨ n = 3 := by omega
  rcases h0 with rfl | rfl | rfl | rfl <;> decide
theorem wx_in {p : Int} {n : Nat} (h : ∀ i : Nat, i < n → 97 ≤ X.1 (p + i) ∧ X.1 (p + i) ≤ 122) : 0 ≤ wx X p n ∧ wx X p n ≤ 28142426 := by
  unfold wx
  split
  · rename_i q
    have := wv_in n h
    have := wB_in q
    omega
  · omega
theorem nx_in {p : Int} {n : Nat} (h : ∀ i : Nat, i < n → 48 ≤ X.1 (p + i) ∧ X.1 (p + i) ≤ 57) : 0 ≤ nx_ X p n ∧ nx_ X p n ≤ 1000 := by
  unfold nx_
  split
  · rename_i q
    have := nv_in n h
    have := nB_in q
    omega
  · omega
end TX
/-- what the reference holds of the text -/
def PB (M : az_M) (m : Int) (X : pTx) : Prop := M m 24 = X.2 ∧ 0 ≤ X.2 ∧ X.2 ≤ 400 ∧ ∀ i, 0 ≤ i → i < X.2 → M (m + 8) i = X.1 i ∧ 0 ≤ X.1 i ∧ X.1 i ≤ 255
def PT (M : az_M) (m : Int) (X : pTx) (p : Int) : Prop := (0 ≤ p ∧ p ≤ X.2) ∧ M m 25 = p ∧ M m 26 = tkE X p ∧ M m 27 = tok X p ∧ (tok X p = 2 → M m 28 = wd X p) ∧ (tok X p = 3 → M m 29 = nm X p)
def frN (M M' : az_M) (m : Int) : Prop := (∀ b, b ≠ m → M' b = M b) ∧ ∀ j, j < 25 ∨ 29 < j → M' m j = M m j
theorem frN.refl (M : az_M) (m : Int) : frN M M m := ⟨fun _ _ => rfl, fun _ _ => rfl⟩
theorem frN.trans {M M1 M2 : az_M} {m : Int} (p : frN M M1 m) (q : frN M1 M2 m) : frN M M2 m := ⟨fun b h => (q.1 b h).trans (p.1 b h), fun j h => (q.2 j h).trans (p.2 j h)⟩
theorem PB.fr {M M' : az_M} {m : Int} {X : pTx} (h : PB M m X) (e : M' m 24 = M m 24) (e8 : M' (m + 8) = M (m + 8)) : PB M' m X := ⟨e.trans h.1, h.2.1, h.2.2.1, by rw [e8]; exact h.2.2.2⟩
theorem PB.frN {M M' : az_M} {m : Int} {X : pTx} (h : PB M m X) (f : frN M M' m) : PB M' m X := h.fr (f.2 _ (by omega)) (f.1 _ (by omega))
section SC
variable {K : az_K} {m : Int} {X : pTx}
theorem sp_byteAt (hK : MdK K m) (M : az_M) (hb : PB M m X) (k : Int) (k0 : 0 ≤ k) : AM yX7_byteAt cX7_byteAt 2 (some .int) 0 0 0 [(1, m), (0, k)] K M (qp K M (if k < X.2 then X.1 k else 0)) := by
  have hK0 := hK
  obtain ⟨hKo, k3, k4, k5, k6, k7, k8, k9, k10, k11, k12, k13, k14, k15, k16, k17, k18, k19, k20, k21, k22, k23, k24, k25, y3, y4, y5, y6, y7, y8, y9, y10, y11, y12, y13, y14, y15, y16, y17, y18, y19, y20, y21, y22, y23, y24, y25⟩ := hK
  have hKo0 := hKo
  obtain ⟨hKa, k2, y2⟩ := hKo
  have hKa0 := hKa
  obtain ⟨km, k1, y1⟩ := hKa
  refine am_of (by decide) (Nat.le_of_ble_eq_true rfl) (L := [(1, m), (0, k)]) rfl ?_
  obtain ⟨b1, b2, b3, b4⟩ := hb
  refine aw_iload_n dX7_byteAt_0 rfl rfl ?_
  refine aw_aload_n dX7_byteAt_1 rfl rfl ⟨by decide, by decide⟩ ?_
  refine aw_gi 24 dX7_byteAt_2 fl_RX7_323 (by assumption) rfl rfl b1 ?_
  refine aw_icmp_ge (tgt := 17) dX7_byteAt_5 rfl (fun h5 => ?_) (fun h5 => ?_)
  · rw [if_neg (by omega)]
    refine aw_iconst dX7_byteAt_17 rfl ⟨by decide, by decide⟩ ?_
    exact aw_iret dX7_byteAt_18 (by decide) (by decide) (qp_i rfl)
  · rw [if_pos (by omega)]
    have v13 := (b4 k k0 (by omega)).1
    refine aw_aload_n dX7_byteAt_8 rfl rfl ⟨by decide, by decide⟩ ?_
    refine aw_gzF 10 dX7_byteAt_9 fl_RX7_32 (by assumption) rfl rfl (by assumption) ?_
    refine aw_iload_n dX7_byteAt_12 rfl rfl ?_
    refine aw_iv dX7_byteAt_13 (by assumption) (by omega) (by omega) v13 ?_
    refine aw_goto (tgt := 18) dX7_byteAt_14 rfl ?_
    exact aw_iret dX7_byteAt_18 (by decide) (by decide) (qp_i rfl)
theorem sp_misLetter (K : az_K) (M : az_M) (c : Int) : AM yX7_isLetter cX7_isLetter 1 (some .boolean) 0 0 0 [(0, c)] K M (qp K M (if 97 ≤ c ∧ c ≤ 122 then 1 else 0)) := by
  refine am_of (by decide) (Nat.le_of_ble_eq_true rfl) (L := [(0, c)]) rfl ?_
  refine aw_iload_n dX7_isLetter_0 rfl rfl ?_
  refine aw_bipush dX7_isLetter_1 (by decide) ⟨by decide, by decide⟩ ?_
  refine aw_icmp_lt (tgt := 16) dX7_isLetter_3 rfl (fun h3 => ?_) (fun h3 => ?_)
  · refine aw_iconst dX7_isLetter_16 rfl ⟨by decide, by decide⟩ ?_
    exact aw_zret dX7_isLetter_17 (by omega) (by decide) (by decide) (qp_i (by omega))
  · refine aw_iload_n dX7_isLetter_6 rfl rfl ?_
    refine aw_bipush dX7_isLetter_7 (by decide) ⟨by decide, by decide⟩ ?_
    refine aw_icmp_gt (tgt := 16) dX7_isLetter_9 rfl (fun h9 => ?_) (fun h9 => ?_)
    · refine aw_iconst dX7_isLetter_16 rfl ⟨by decide, by decide⟩ ?_
      exact aw_zret dX7_isLetter_17 (by omega) (by decide) (by decide) (qp_i (by omega))
    · refine aw_iconst dX7_isLetter_12 rfl ⟨by decide, by decide⟩ ?_
      refine aw_goto (tgt := 17) dX7_isLetter_13 rfl ?_
      exact aw_zret dX7_isLetter_17 (by omega) (by decide) (by decide) (qp_i (by omega))
theorem sp_misDigit (K : az_K) (M : az_M) (c : Int) : AM yX7_isDigit cX7_isDigit 1 (some .boolean) 0 0 0 [(0, c)] K M (qp K M (if 48 ≤ c ∧ c ≤ 57 then 1 else 0)) := by
  refine am_of (by decide) (Nat.le_of_ble_eq_true rfl) (L := [(0, c)]) rfl ?_
  refine aw_iload_n dX7_isDigit_0 rfl rfl ?_
  refine aw_bipush dX7_isDigit_1 (by decide) ⟨by decide, by decide⟩ ?_
  refine aw_icmp_lt (tgt := 16) dX7_isDigit_3 rfl (fun h3 => ?_) (fun h3 => ?_)
  · refine aw_iconst dX7_isDigit_16 rfl ⟨by decide, by decide⟩ ?_
    exact aw_zret dX7_isDigit_17 (by omega) (by decide) (by decide) (qp_i (by omega))
  · refine aw_iload_n dX7_isDigit_6 rfl rfl ?_
    refine aw_bipush dX7_isDigit_7 (by decide) ⟨by decide, by decide⟩ ?_
    refine aw_icmp_gt (tgt := 16) dX7_isDigit_9 rfl (fun h9 => ?_) (fun h9 => ?_)
    · refine aw_iconst dX7_isDigit_16 rfl ⟨by decide, by decide⟩ ?_
      exact aw_zret dX7_isDigit_17 (by omega) (by decide) (by decide) (qp_i (by omega))
    · refine aw_iconst dX7_isDigit_12 rfl ⟨by decide, by decide⟩ ?_
      refine aw_goto (tgt := 17) dX7_isDigit_13 rfl ?_
      exact aw_zret dX7_isDigit_17 (by omega) (by decide) (by decide) (qp_i (by omega))
theorem sp_misSign (K : az_K) (M : az_M) (c : Int) : AM yX7_isSign cX7_isSign 1 (some .boolean) 0 0 0 [(0, c)] K M (qp K M (if sgn c then 1 else 0)) := by
  refine am_of (by decide) (Nat.le_of_ble_eq_true rfl) (L := [(0, c)]) rfl ?_
  refine aw_iload_n dX7_isSign_0 rfl rfl ?_
  refine aw_bipush dX7_isSign_1 (by decide) ⟨by decide, by decide⟩ ?_
  refine aw_icmp_eq (tgt := 30) dX7_isSign_3 rfl (fun h3 => ?_) (fun h3 => ?_)
  · refine aw_iconst dX7_isSign_30 rfl ⟨by decide, by decide⟩ ?_
    refine aw_goto (tgt := 35) dX7_isSign_31 rfl ?_
    exact aw_zret dX7_isSign_35 (by omega) (by decide) (by decide) (qp_i (by unfold sgn; omega))
  · refine aw_iload_n dX7_isSign_6 rfl rfl ?_
    refine aw_bipush dX7_isSign_7 (by decide) ⟨by decide, by decide⟩ ?_
    refine aw_icmp_eq (tgt := 30) dX7_isSign_9 rfl (fun h9 => ?_) (fun h9 => ?_)
    · refine aw_iconst dX7_isSign_30 rfl ⟨by decide, by decide⟩ ?_
      refine aw_goto (tgt := 35) dX7_isSign_31 rfl ?_
      exact aw_zret dX7_isSign_35 (by omega) (by decide) (by decide) (qp_i (by unfold sgn; omega))
    · refine aw_iload_n dX7_isSign_12 rfl rfl ?_
      refine aw_bipush dX7_isSign_13 (by decide) ⟨by decide, by decide⟩ ?_
      refine aw_icmp_eq (tgt := 30) dX7_isSign_15 rfl (fun h15 => ?_) (fun h15 => ?_)
      · refine aw_iconst dX7_isSign_30 rfl ⟨by decide, by decide⟩ ?_
        refine aw_goto (tgt := 35) dX7_isSign_31 rfl ?_
        exact aw_zret dX7_isSign_35 (by omega) (by decide) (by decide) (qp_i (by unfold sgn; omega))
      · refine aw_iload_n dX7_isSign_18 rfl rfl ?_
        refine aw_bipush dX7_isSign_19 (by decide) ⟨by decide, by decide⟩ ?_
        refine aw_icmp_eq (tgt := 30) dX7_isSign_21 rfl (fun h21 => ?_) (fun h21 => ?_)
        · refine aw_iconst dX7_isSign_30 rfl ⟨by decide, by decide⟩ ?_
          refine aw_goto (tgt := 35) dX7_isSign_31 rfl ?_
          exact aw_zret dX7_isSign_35 (by omega) (by decide) (by decide) (qp_i (by unfold sgn; omega))
        · refine aw_iload_n dX7_isSign_24 rfl rfl ?_
          refine aw_bipush dX7_isSign_25 (by decide) ⟨by decide, by decide⟩ ?_
          refine aw_icmp_ne (tgt := 34) dX7_isSign_27 rfl (fun h27 => ?_) (fun h27 => ?_)
          · refine aw_iconst dX7_isSign_34 rfl ⟨by decide, by decide⟩ ?_
            exact aw_zret dX7_isSign_35 (by omega) (by decide) (by decide) (qp_i (by unfold sgn; omega))
          · refine aw_iconst dX7_isSign_30 rfl ⟨by decide, by decide⟩ ?_
            refine aw_goto (tgt := 35) dX7_isSign_31 rfl ?_
            exact aw_zret dX7_isSign_35 (by omega) (by decide) (by decide) (qp_i (by unfold sgn; omega))
theorem sp_misBlank (hK : MdK K m) (M : az_M) (hb : PB M m X) (k : Int) (k0 : 0 ≤ k) : AM yX7_isBlank cX7_isBlank 2 (some .boolean) 0 0 0 [(1, m), (0, k)] K M (qp K M (if k < X.2 ∧ (X.1 k = 32 ∨ X.1 k = 10) then 1 else 0)) := by
  have hK0 := hK
  obtain ⟨hKo, k3, k4, k5, k6, k7, k8, k9, k10, k11, k12, k13, k14, k15, k16, k17, k18, k19, k20, k21, k22, k23, k24, k25, y3, y4, y5, y6, y7, y8, y9, y10, y11, y12, y13, y14, y15, y16, y17, y18, y19, y20, y21, y22, y23, y24, y25⟩ := hK
  have hKo0 := hKo
  obtain ⟨hKa, k2, y2⟩ := hKo
  have hKa0 := hKa
  obtain ⟨km, k1, y1⟩ := hKa
  refine am_of (by decide) (Nat.le_of_ble_eq_true rfl) (L := [(1, m), (0, k)]) rfl ?_
  obtain ⟨b1, b2, b3, b4⟩ := hb
  refine aw_iload_n dX7_isBlank_0 rfl rfl ?_
  refine aw_aload_n dX7_isBlank_1 rfl rfl ⟨by decide, by decide⟩ ?_
  refine aw_gi 24 dX7_isBlank_2 fl_RX7_323 (by assumption) rfl rfl b1 ?_
  refine aw_icmp_ge (tgt := 34) dX7_isBlank_5 rfl (fun h5 => ?_) (fun h5 => ?_)
  · rw [if_neg (by omega)]
    refine aw_iconst dX7_isBlank_34 rfl ⟨by decide, by decide⟩ ?_
    exact aw_zret dX7_isBlank_35 (by omega) (by decide) (by decide) (qp_i rfl)
  · have v13 := (b4 k k0 (by omega)).1
    refine aw_aload_n dX7_isBlank_8 rfl rfl ⟨by decide, by decide⟩ ?_
    refine aw_gzF 10 dX7_isBlank_9 fl_RX7_32 (by assumption) rfl rfl (by assumption) ?_
    refine aw_iload_n dX7_isBlank_12 rfl rfl ?_
    refine aw_iv dX7_isBlank_13 (by assumption) (by omega) (by omega) v13 ?_
    refine aw_bipush dX7_isBlank_14 (by decide) ⟨by decide, by decide⟩ ?_
    refine aw_icmp_eq (tgt := 30) dX7_isBlank_16 rfl (fun h16 => ?_) (fun h16 => ?_)
    · rw [if_pos ⟨by omega, Or.inl h16⟩]
      refine aw_iconst dX7_isBlank_30 rfl ⟨by decide, by decide⟩ ?_
      refine aw_goto (tgt := 35) dX7_isBlank_31 rfl ?_
      exact aw_zret dX7_isBlank_35 (by omega) (by decide) (by decide) (qp_i rfl)
    · refine aw_aload_n dX7_isBlank_19 rfl rfl ⟨by decide, by decide⟩ ?_
      refine aw_gzF 10 dX7_isBlank_20 fl_RX7_32 (by assumption) rfl rfl (by assumption) ?_
      refine aw_iload_n dX7_isBlank_23 rfl rfl ?_
      refine aw_iv dX7_isBlank_24 (by assumption) (by omega) (by omega) v13 ?_
      refine aw_bipush dX7_isBlank_25 (by decide) ⟨by decide, by decide⟩ ?_
      refine aw_icmp_ne (tgt := 34) dX7_isBlank_27 rfl (fun h27 => ?_) (fun h27 => ?_)
      · rw [if_neg (by omega)]
        refine aw_iconst dX7_isBlank_34 rfl ⟨by decide, by decide⟩ ?_
        exact aw_zret dX7_isBlank_35 (by omega) (by decide) (by decide) (qp_i rfl)
      · rw [if_pos ⟨by omega, Or.inr (by omega)⟩]
        refine aw_iconst dX7_isBlank_30 rfl ⟨by decide, by decide⟩ ?_
        refine aw_goto (tgt := 35) dX7_isBlank_31 rfl ?_
        exact aw_zret dX7_isBlank_35 (by omega) (by decide) (by decide) (qp_i rfl)
set_option maxHeartbeats 1000000 in
theorem sp_scanWord (hK : MdK K m) (M : az_M) (hb : PB M m X) (p : Int) (hp : M m 25 = p) (p0 : 0 ≤ p) (p1 : p ≤ X.2) : AM yX7_scanWord cX7_scanWord 1 none 1 0 0 [(1, m)] K M (qv K (fun M' => M' m 27 = 2 ∧ M' m 26 = rn X 97 122 (X.2 - p).toNat p ∧ M' m 28 = wx X p (rn X 97 122 (X.2 - p).toNat p - p).toNat ∧ (∀ b, b ≠ m → M' b = M b) ∧ ∀ j, j ≠ 26 → j ≠ 27 → j ≠ 28 → M' m j = M m j)) := by
  have hK0 := hK
  obtain ⟨hKo, k3, k4, k5, k6, k7, k8, k9, k10, k11, k12, k13, k14, k15, k16, k17, k18, k19, k20, k21, k22, k23, k24, k25, y3, y4, y5, y6, y7, y8, y9, y10, y11, y12, y13, y14, y15, y16, y17, y18, y19, y20, y21, y22, y23, y24, y25⟩ := hK
  have hKo0 := hKo
  obtain ⟨hKa, k2, y2⟩ := hKo
  have hKa0 := hKa
  obtain ⟨km, k1, y1⟩ := hKa
  refine am_of (by decide) (Nat.le_of_ble_eq_true rfl) (L := [(1, m)]) rfl ?_
  have hb2 := hb.2.1
  have hb3 := hb.2.2.1
  have hall := rn_all (X := X) 97 122 (X.2 - p).toNat p
  generalize hE : rn X 97 122 (X.2 - p).toNat p = E at hall ⊢
  have v12 : az_up (az_up M m 27 2) m 28 0 m 25 = p := by rw [az_up_i _ _ _ _ (by omega), az_up_i _ _ _ _ (by omega)]; exact hp
  refine aw_aload_n dX7_scanWord_0 rfl rfl ⟨by decide, by decide⟩ ?_
  refine aw_iconst dX7_scanWord_1 rfl ⟨by decide, by decide⟩ ?_
  refine aw_pi 27 dX7_scanWord_2 fl_RX7_335 (by assumption) rfl rfl ?_
  refine aw_aload_n dX7_scanWord_5 rfl rfl ⟨by decide, by decide⟩ ?_
  refine aw_iconst dX7_scanWord_6 rfl ⟨by decide, by decide⟩ ?_
  refine aw_pi 28 dX7_scanWord_7 fl_RX7_356 (by assumption) rfl rfl ?_
  refine aw_aload_n dX7_scanWord_10 rfl rfl ⟨by decide, by decide⟩ ?_
  refine aw_aload_n dX7_scanWord_11 rfl rfl ⟨by decide, by decide⟩ ?_
  refine aw_gi 25 dX7_scanWord_12 fl_RX7_329 (by assumption) rfl rfl v12 ?_
  refine aw_pi 26 dX7_scanWord_15 fl_RX7_326 (by assumption) rfl rfl ?_
  have loop : ∀ (d n : Nat) (M2 : az_M), p + n + d = X.2 → rn X 97 122 d (p + n) = E → (∀ i : Nat, i < n → 97 ≤ X.1 (p + i) ∧ X.1 (p + i) ≤ 122) → M2 m 26 = p + n → M2 m 27 = 2 → M2 m 28 = wx X p n → (∀ b, b ≠ m → M2 b = M b) → (∀ j, j ≠ 26 → j ≠ 27 → j ≠ 28 → M2 m j = M m j) → AW az_P0 (az_Z (qv K (fun M' => M' m 27 = 2 ∧ M' m 26 = E ∧ M' m 28 = wx X p (E - p).toNat ∧ (∀ b, b ≠ m → M' b = M b) ∧ ∀ j, j ≠ 26 → j ≠ 27 → j ≠ 28 → M' m j = M m j)) 0 0) (az_rm 1 0 0) yX7_scanWord cX7_scanWord 1 none 0 0 18 [(1, m)] [] K M2 := by
    intro d
    induction d with
    | zero =>
      intro n M2 hd hr hl e26 e27 e28 fo fj
      replace hr : p + (n : Int) = E := hr
      have hb' : PB M2 m X := hb.fr (fj _ (by omega) (by omega) (by omega)) (fo _ (by omega))
      have v25 : M2 m 25 = p := (fj 25 (by omega) (by omega) (by omega)).trans hp
      have hwx : M2 m 28 = wx X p (E - p).toNat := by rw [e28, show (E - p).toNat = n by omega]
      refine aw_aload_n dX7_scanWord_18 rfl rfl ⟨by decide, by decide⟩ ?_
      refine aw_aload_n dX7_scanWord_19 rfl rfl ⟨by decide, by decide⟩ ?_
      refine aw_gi 26 dX7_scanWord_20 fl_RX7_326 (by assumption) rfl rfl e26 ?_
      refine aw_cV1p dX7_scanWord_23 ml_RX7_338 (by assumption) (by decide) rfl rfl ⟨by decide, by decide, by decide, by decide⟩ (Nat.le_of_ble_eq_true rfl) (qp_c (z := 0) (sp_byteAt hK0 M2 hb' (p + n) (by omega)) (if_neg (by omega))) ?_
      refine aw_cS1p dX7_scanWord_26 ml_RX7_341 ⟨by decide, by decide, by decide, by decide⟩ (Nat.le_of_ble_eq_true rfl) (qp_c (z := 0) (sp_misLetter K M2 0) (by decide)) ?_
      refine aw_if_eq (tgt := 85) dX7_scanWord_29 rfl (fun h29 => ?_) (fun h29 => absurd h29 (by omega))
      refine aw_aload_n dX7_scanWord_85 rfl rfl ⟨by decide, by decide⟩ ?_
      refine aw_gi 26 dX7_scanWord_86 fl_RX7_326 (by assumption) rfl rfl e26 ?_
      refine aw_aload_n dX7_scanWord_89 rfl rfl ⟨by decide, by decide⟩ ?_
      refine aw_gi 25 dX7_scanWord_90 fl_RX7_329 (by assumption) rfl rfl v25 ?_
      refine aw_isub dX7_scanWord_93 (az_wr_id (by omega) (by omega)) ?_
      refine aw_iconst dX7_scanWord_94 rfl ⟨by decide, by decide⟩ ?_
      refine aw_icmp_le (tgt := 103) dX7_scanWord_95 rfl (fun h95 => ?_) (fun h95 => ?_)
      · exact aw_vret dX7_scanWord_103 (by decide) (by decide) ⟨rfl, rfl, e27, by omega, hwx, fo, fj⟩
      · refine aw_aload_n dX7_scanWord_98 rfl rfl ⟨by decide, by decide⟩ ?_
        refine aw_iconst dX7_scanWord_99 rfl ⟨by decide, by decide⟩ ?_
        refine aw_pi 28 dX7_scanWord_100 fl_RX7_356 (by assumption) rfl rfl ?_
        refine aw_vret dX7_scanWord_103 (by decide) (by decide) ⟨rfl, rfl, by rw [az_up_i _ _ _ _ (by omega)]; exact e27, by rw [az_up_i _ _ _ _ (by omega)]; omega, ?_, fun b hb => by rw [up_oth _ _ _ hb]; exact fo b hb, fun j j1 j2 j3 => by rw [az_up_i _ _ _ _ j3]; exact fj j j1 j2 j3⟩
        rw [az_up_s]
        unfold wx
        rw [if_neg (by omega)]
    | succ d ih =>
      intro n M2 hd hr hl e26 e27 e28 fo fj
      have hb' : PB M2 m X := hb.fr (fj _ (by omega) (by omega) (by omega)) (fo _ (by omega))
      have v25 : M2 m 25 = p := (fj 25 (by omega) (by omega) (by omega)).trans hp
      have hby := qp_c (sp_byteAt hK0 M2 hb' (p + n) (by omega)) (if_pos (show p + (n : Int) < X.2 by omega))
      have hbb := (hb.2.2.2 (p + n) (by omega) (by omega)).2
      refine aw_aload_n dX7_scanWord_18 rfl rfl ⟨by decide, by decide⟩ ?_
      refine aw_aload_n dX7_scanWord_19 rfl rfl ⟨by decide, by decide⟩ ?_
      refine aw_gi 26 dX7_scanWord_20 fl_RX7_326 (by assumption) rfl rfl e26 ?_
      refine aw_cV1p dX7_scanWord_23 ml_RX7_338 (by assumption) (by decide) rfl rfl ⟨by decide, by decide, by decide, by decide⟩ (Nat.le_of_ble_eq_true rfl) (hby) ?_
      refine aw_cS1p dX7_scanWord_26 ml_RX7_341 ⟨by decide, by decide, by decide, by decide⟩ (Nat.le_of_ble_eq_true rfl) (sp_misLetter K M2 (X.1 (p + n))) ?_
      refine aw_if_eq (tgt := 85) dX7_scanWord_29 rfl (fun h29 => ?_) (fun h29 => ?_)
      · have hno := if0 h29
        rw [rn_stop (fun q => hno q.2)] at hr
        have hwx : M2 m 28 = wx X p (E - p).toNat := by rw [e28, show (E - p).toNat = n by omega]
        refine aw_aload_n dX7_scanWord_85 rfl rfl ⟨by decide, by decide⟩ ?_
        refine aw_gi 26 dX7_scanWord_86 fl_RX7_326 (by assumption) rfl rfl e26 ?_
        refine aw_aload_n dX7_scanWord_89 rfl rfl ⟨by decide, by decide⟩ ?_
        refine aw_gi 25 dX7_scanWord_90 fl_RX7_329 (by assumption) rfl rfl v25 ?_
        refine aw_isub dX7_scanWord_93 (az_wr_id (by omega) (by omega)) ?_
        refine aw_iconst dX7_scanWord_94 rfl ⟨by decide, by decide⟩ ?_
        refine aw_icmp_le (tgt := 103) dX7_scanWord_95 rfl (fun h95 => ?_) (fun h95 => ?_)
        · exact aw_vret dX7_scanWord_103 (by decide) (by decide) ⟨rfl, rfl, e27, by omega, hwx, fo, fj⟩
        · refine aw_aload_n dX7_scanWord_98 rfl rfl ⟨by decide, by decide⟩ ?_
          refine aw_iconst dX7_scanWord_99 rfl ⟨by decide, by decide⟩ ?_
          refine aw_pi 28 dX7_scanWord_100 fl_RX7_356 (by assumption) rfl rfl ?_
          refine aw_vret dX7_scanWord_103 (by decide) (by decide) ⟨rfl, rfl, by rw [az_up_i _ _ _ _ (by omega)]; exact e27, by rw [az_up_i _ _ _ _ (by omega)]; omega, ?_, fun b hb => by rw [up_oth _ _ _ hb]; exact fo b hb, fun j j1 j2 j3 => by rw [az_up_i _ _ _ _ j3]; exact fj j j1 j2 j3⟩
          rw [az_up_s]
          unfold wx
          rw [if_neg (by omega)]
      · have hl1 := if1 h29
        rw [rn_step (by omega) hl1] at hr
        have hl' : ∀ i : Nat, i < n + 1 → 97 ≤ X.1 (p + i) ∧ X.1 (p + i) ≤ 122 := fun i hi => by
          by_cases e : i = n
          · rw [e]; exact hl1
          · exact hl i (by omega)
        have hwi := wx_in hl
        have go : ∀ w : Int, w = wx X p (n + 1) → AW az_P0 (az_Z (qv K (fun M' => M' m 27 = 2 ∧ M' m 26 = E ∧ M' m 28 = wx X p (E - p).toNat ∧ (∀ b, b ≠ m → M' b = M b) ∧ ∀ j, j ≠ 26 → j ≠ 27 → j ≠ 28 → M' m j = M m j)) 0 0) (az_rm 1 0 0) yX7_scanWord cX7_scanWord 1 none 0 0 69 [(1, m)] [(0, w), (1, m)] K M2 := by
          intro w hw
          have v74 : az_up M2 m 28 w m 26 = p + n := by rw [az_up_i _ _ _ _ (by omega)]; exact e26
          refine aw_pi 28 dX7_scanWord_69 fl_RX7_356 (by assumption) rfl rfl ?_
          refine aw_aload_n dX7_scanWord_72 rfl rfl ⟨by decide, by decide⟩ ?_
          refine aw_dup dX7_scanWord_73 ?_
          refine aw_gi 26 dX7_scanWord_74 fl_RX7_326 (by assumption) rfl rfl v74 ?_
          refine aw_iconst dX7_scanWord_77 rfl ⟨by decide, by decide⟩ ?_
          refine aw_iadd dX7_scanWord_78 (az_wr_id (by omega) (by omega)) ?_
          refine aw_pi 26 dX7_scanWord_79 fl_RX7_326 (by assumption) rfl rfl ?_
          refine aw_goto (tgt := 18) dX7_scanWord_82 rfl ?_
          refine ih (n + 1) _ (by omega) (by rw [show p + ((n + 1 : Nat) : Int) = p + n + 1 by omega]; exact hr) hl' (by rw [az_up_s]; omega) (by rw [az_up_i _ _ _ _ (by omega), az_up_i _ _ _ _ (by omega)]; exact e27) (by rw [az_up_i _ _ _ _ (by omega), az_up_s]; exact hw) (fun b hb => by rw [up_oth _ _ _ hb, up_oth _ _ _ hb]; exact fo b hb) (fun j j1 j2 j3 => by rw [az_up_i _ _ _ _ j1, az_up_i _ _ _ _ j3]; exact fj j j1 j2 j3)
        refine aw_aload_n dX7_scanWord_32 rfl rfl ⟨by decide, by decide⟩ ?_
        refine aw_aload_n dX7_scanWord_33 rfl rfl ⟨by decide, by decide⟩ ?_
        refine aw_gi 26 dX7_scanWord_34 fl_RX7_326 (by assumption) rfl rfl e26 ?_
        refine aw_aload_n dX7_scanWord_37 rfl rfl ⟨by decide, by decide⟩ ?_
        refine aw_gi 25 dX7_scanWord_38 fl_RX7_329 (by assumption) rfl rfl v25 ?_
        refine aw_isub dX7_scanWord_41 (az_wr_id (by omega) (by omega)) ?_
        refine aw_iconst dX7_scanWord_42 rfl ⟨by decide, by decide⟩ ?_
        refine aw_icmp_ge (tgt := 68) dX7_scanWord_43 rfl (fun h43 => ?_) (fun h43 => ?_)
        · refine aw_iconst dX7_scanWord_68 rfl ⟨by decide, by decide⟩ ?_
          refine go 0 ?_
          unfold wx
          rw [if_neg (by omega)]
        · refine aw_bipush dX7_scanWord_46 (by decide) ⟨by decide, by decide⟩ ?_
          refine aw_aload_n dX7_scanWord_48 rfl rfl ⟨by decide, by decide⟩ ?_
          refine aw_gi 28 dX7_scanWord_49 fl_RX7_356 (by assumption) rfl rfl e28 ?_
          refine aw_imul dX7_scanWord_52 (az_wr_id (by omega) (by omega)) ?_
          refine aw_aload_n dX7_scanWord_53 rfl rfl ⟨by decide, by decide⟩ ?_
          refine aw_aload_n dX7_scanWord_54 rfl rfl ⟨by decide, by decide⟩ ?_
          refine aw_gi 26 dX7_scanWord_55 fl_RX7_326 (by assumption) rfl rfl e26 ?_
          refine aw_cV1p dX7_scanWord_58 ml_RX7_338 (by assumption) (by decide) rfl rfl ⟨by decide, by decide, by decide, by decide⟩ (Nat.le_of_ble_eq_true rfl) (hby) ?_
          refine aw_iadd dX7_scanWord_61 (az_wr_id (by omega) (by omega)) ?_
          refine aw_bipush dX7_scanWord_62 (by decide) ⟨by decide, by decide⟩ ?_
          refine aw_isub dX7_scanWord_64 (az_wr_id (by omega) (by omega)) ?_
          refine aw_goto (tgt := 69) dX7_scanWord_65 rfl ?_
          refine go _ ?_
          unfold wx
          rw [if_pos (by omega), if_pos (by omega)]
          rfl
  refine loop (X.2 - p).toNat 0 _ (by omega) (by rw [show p + ((0 : Nat) : Int) = p by omega]; exact hE) (fun i hi => absurd hi (Nat.not_lt_zero _)) (by rw [az_up_s]; omega) (by rw [az_up_i _ _ _ _ (by omega), az_up_i _ _ _ _ (by omega), az_up_s]) (by rw [az_up_i _ _ _ _ (by omega), az_up_s]; rfl) (fun b hb => by rw [up_oth _ _ _ hb, up_oth _ _ _ hb, up_oth _ _ _ hb]) (fun j j1 j2 j3 => by rw [az_up_i _ _ _ _ j1, az_up_i _ _ _ _ j3, az_up_i _ _ _ _ j2])
set_option maxHeartbeats 1000000 in
theorem sp_scanNumber (hK : MdK K m) (M : az_M) (hb : PB M m X) (p : Int) (hp : M m 25 = p) (p0 : 0 ≤ p) (p1 : p ≤ X.2) : AM yX7_scanNumber cX7_scanNumber 1 none 1 0 0 [(1, m)] K M (qv K (fun M' => M' m 27 = 3 ∧ M' m 26 = rn X 48 57 (X.2 - p).toNat p ∧ M' m 29 = nx_ X p (rn X 48 57 (X.2 - p).toNat p - p).toNat ∧ (∀ b, b ≠ m → M' b = M b) ∧ ∀ j, j ≠ 26 → j ≠ 27 → j ≠ 29 → M' m j = M m j)) := by
  have hK0 := hK
  obtain ⟨hKo, k3, k4, k5, k6, k7, k8, k9, k10, k11, k12, k13, k14, k15, k16, k17, k18, k19, k20, k21, k22, k23, k24, k25, y3, y4, y5, y6, y7, y8, y9, y10, y11, y12, y13, y14, y15, y16, y17, y18, y19, y20, y21, y22, y23, y24, y25⟩ := hK
  have hKo0 := hKo
  obtain ⟨hKa, k2, y2⟩ := hKo
  have hKa0 := hKa
  obtain ⟨km, k1, y1⟩ := hKa
  refine am_of (by decide) (Nat.le_of_ble_eq_true rfl) (L := [(1, m)]) rfl ?_
  have hb2 := hb.2.1
  have hb3 := hb.2.2.1
  generalize hE : rn X 48 57 (X.2 - p).toNat p = E
  have v12 : az_up (az_up M m 27 3) m 29 0 m 25 = p := by rw [az_up_i _ _ _ _ (by omega), az_up_i _ _ _ _ (by omega)]; exact hp
  refine aw_aload_n dX7_scanNumber_0 rfl rfl ⟨by decide, by decide⟩ ?_
  refine aw_iconst dX7_scanNumber_1 rfl ⟨by decide, by decide⟩ ?_
  refine aw_pi 27 dX7_scanNumber_2 fl_RX7_335 (by assumption) rfl rfl ?_
  refine aw_aload_n dX7_scanNumber_5 rfl rfl ⟨by decide, by decide⟩ ?_
  refine aw_iconst dX7_scanNumber_6 rfl ⟨by decide, by decide⟩ ?_
  refine aw_pi 29 dX7_scanNumber_7 fl_RX7_359 (by assumption) rfl rfl ?_
  refine aw_aload_n dX7_scanNumber_10 rfl rfl ⟨by decide, by decide⟩ ?_
  refine aw_aload_n dX7_scanNumber_11 rfl rfl ⟨by decide, by decide⟩ ?_
  refine aw_gi 25 dX7_scanNumber_12 fl_RX7_329 (by assumption) rfl rfl v12 ?_
  refine aw_pi 26 dX7_scanNumber_15 fl_RX7_326 (by assumption) rfl rfl ?_
  have loop : ∀ (d n : Nat) (M2 : az_M), p + n + d = X.2 → rn X 48 57 d (p + n) = E → (∀ i : Nat, i < n → 48 ≤ X.1 (p + i) ∧ X.1 (p + i) ≤ 57) → M2 m 26 = p + n → M2 m 27 = 3 → M2 m 29 = nx_ X p n → (∀ b, b ≠ m → M2 b = M b) → (∀ j, j ≠ 26 → j ≠ 27 → j ≠ 29 → M2 m j = M m j) → AW az_P0 (az_Z (qv K (fun M' => M' m 27 = 3 ∧ M' m 26 = E ∧ M' m 29 = nx_ X p (E - p).toNat ∧ (∀ b, b ≠ m → M' b = M b) ∧ ∀ j, j ≠ 26 → j ≠ 27 → j ≠ 29 → M' m j = M m j)) 0 0) (az_rm 1 0 0) yX7_scanNumber cX7_scanNumber 1 none 0 0 18 [(1, m)] [] K M2 := by
    intro d
    induction d with
    | zero =>
      intro n M2 hd hr hl e26 e27 e29 fo fj
      replace hr : p + (n : Int) = E := hr
      have hb' : PB M2 m X := hb.fr (fj _ (by omega) (by omega) (by omega)) (fo _ (by omega))
      have hwx : M2 m 29 = nx_ X p (E - p).toNat := by rw [e29, show (E - p).toNat = n by omega]
      refine aw_aload_n dX7_scanNumber_18 rfl rfl ⟨by decide, by decide⟩ ?_
      refine aw_aload_n dX7_scanNumber_19 rfl rfl ⟨by decide, by decide⟩ ?_
      refine aw_gi 26 dX7_scanNumber_20 fl_RX7_326 (by assumption) rfl rfl e26 ?_
      refine aw_cV1p dX7_scanNumber_23 ml_RX7_338 (by assumption) (by decide) rfl rfl ⟨by decide, by decide, by decide, by decide⟩ (Nat.le_of_ble_eq_true rfl) (qp_c (z := 0) (sp_byteAt hK0 M2 hb' (p + n) (by omega)) (if_neg (by omega))) ?_
      refine aw_cS1p dX7_scanNumber_26 ml_RX7_347 ⟨by decide, by decide, by decide, by decide⟩ (Nat.le_of_ble_eq_true rfl) (qp_c (z := 0) (sp_misDigit K M2 0) (by decide)) ?_
      refine aw_if_eq (tgt := 87) dX7_scanNumber_29 rfl (fun h29 => ?_) (fun h29 => absurd h29 (by omega))
      exact aw_vret dX7_scanNumber_87 (by decide) (by decide) ⟨rfl, rfl, e27, by omega, hwx, fo, fj⟩
    | succ d ih =>
      intro n M2 hd hr hl e26 e27 e29 fo fj
      have hb' : PB M2 m X := hb.fr (fj _ (by omega) (by omega) (by omega)) (fo _ (by omega))
      have v25 : M2 m 25 = p := (fj 25 (by omega) (by omega) (by omega)).trans hp
      have hby := qp_c (sp_byteAt hK0 M2 hb' (p + n) (by omega)) (if_pos (show p + (n : Int) < X.2 by omega))
      have hbb := (hb.2.2.2 (p + n) (by omega) (by omega)).2
      refine aw_aload_n dX7_scanNumber_18 rfl rfl ⟨by decide, by decide⟩ ?_
      refine aw_aload_n dX7_scanNumber_19 rfl rfl ⟨by decide, by decide⟩ ?_
      refine aw_gi 26 dX7_scanNumber_20 fl_RX7_326 (by assumption) rfl rfl e26 ?_
      refine aw_cV1p dX7_scanNumber_23 ml_RX7_338 (by assumption) (by decide) rfl rfl ⟨by decide, by decide, by decide, by decide⟩ (Nat.le_of_ble_eq_true rfl) (hby) ?_
      refine aw_cS1p dX7_scanNumber_26 ml_RX7_347 ⟨by decide, by decide, by decide, by decide⟩ (Nat.le_of_ble_eq_true rfl) (sp_misDigit K M2 (X.1 (p + n))) ?_
      refine aw_if_eq (tgt := 87) dX7_scanNumber_29 rfl (fun h29 => ?_) (fun h29 => ?_)
      · have hno := if0 h29
        rw [rn_stop (fun q => hno q.2)] at hr
        have hwx : M2 m 29 = nx_ X p (E - p).toNat := by rw [e29, show (E - p).toNat = n by omega]
        exact aw_vret dX7_scanNumber_87 (by decide) (by decide) ⟨rfl, rfl, e27, by omega, hwx, fo, fj⟩
      · have hl1 := if1 h29
        rw [rn_step (by omega) hl1] at hr
        have hl' : ∀ i : Nat, i < n + 1 → 48 ≤ X.1 (p + i) ∧ X.1 (p + i) ≤ 57 := fun i hi => by
          by_cases e : i = n
          · rw [e]; exact hl1
          · exact hl i (by omega)
        have hwi := nx_in hl
        have go : ∀ w : Int, w = nx_ X p (n + 1) → AW az_P0 (az_Z (qv K (fun M' => M' m 27 = 3 ∧ M' m 26 = E ∧ M' m 29 = nx_ X p (E - p).toNat ∧ (∀ b, b ≠ m → M' b = M b) ∧ ∀ j, j ≠ 26 → j ≠ 27 → j ≠ 29 → M' m j = M m j)) 0 0) (az_rm 1 0 0) yX7_scanNumber cX7_scanNumber 1 none 0 0 71 [(1, m)] [(0, w), (1, m)] K M2 := by
          intro w hw
          have v76 : az_up M2 m 29 w m 26 = p + n := by rw [az_up_i _ _ _ _ (by omega)]; exact e26
          refine aw_pi 29 dX7_scanNumber_71 fl_RX7_359 (by assumption) rfl rfl ?_
          refine aw_aload_n dX7_scanNumber_74 rfl rfl ⟨by decide, by decide⟩ ?_
          refine aw_dup dX7_scanNumber_75 ?_
          refine aw_gi 26 dX7_scanNumber_76 fl_RX7_326 (by assumption) rfl rfl v76 ?_
          refine aw_iconst dX7_scanNumber_79 rfl ⟨by decide, by decide⟩ ?_
          refine aw_iadd dX7_scanNumber_80 (az_wr_id (by omega) (by omega)) ?_
          refine aw_pi 26 dX7_scanNumber_81 fl_RX7_326 (by assumption) rfl rfl ?_
          refine aw_goto (tgt := 18) dX7_scanNumber_84 rfl ?_
          refine ih (n + 1) _ (by omega) (by rw [show p + ((n + 1 : Nat) : Int) = p + n + 1 by omega]; exact hr) hl' (by rw [az_up_s]; omega) (by rw [az_up_i _ _ _ _ (by omega), az_up_i _ _ _ _ (by omega)]; exact e27) (by rw [az_up_i _ _ _ _ (by omega), az_up_s]; exact hw) (fun b hb => by rw [up_oth _ _ _ hb, up_oth _ _ _ hb]; exact fo b hb) (fun j j1 j2 j3 => by rw [az_up_i _ _ _ _ j1, az_up_i _ _ _ _ j3]; exact fj j j1 j2 j3)
        refine aw_aload_n dX7_scanNumber_32 rfl rfl ⟨by decide, by decide⟩ ?_
        refine aw_aload_n dX7_scanNumber_33 rfl rfl ⟨by decide, by decide⟩ ?_
        refine aw_gi 26 dX7_scanNumber_34 fl_RX7_326 (by assumption) rfl rfl e26 ?_
        refine aw_aload_n dX7_scanNumber_37 rfl rfl ⟨by decide, by decide⟩ ?_
        refine aw_gi 25 dX7_scanNumber_38 fl_RX7_329 (by assumption) rfl rfl v25 ?_
        refine aw_isub dX7_scanNumber_41 (az_wr_id (by omega) (by omega)) ?_
        refine aw_iconst dX7_scanNumber_42 rfl ⟨by decide, by decide⟩ ?_
        refine aw_icmp_ge (tgt := 68) dX7_scanNumber_43 rfl (fun h43 => ?_) (fun h43 => ?_)
        · refine aw_sipush dX7_scanNumber_68 (by decide) ⟨by decide, by decide⟩ ?_
          refine go 1000 ?_
          unfold nx_
          rw [if_neg (by omega)]
        · refine aw_bipush dX7_scanNumber_46 (by decide) ⟨by decide, by decide⟩ ?_
          refine aw_aload_n dX7_scanNumber_48 rfl rfl ⟨by decide, by decide⟩ ?_
          refine aw_gi 29 dX7_scanNumber_49 fl_RX7_359 (by assumption) rfl rfl e29 ?_
          refine aw_imul dX7_scanNumber_52 (az_wr_id (by omega) (by omega)) ?_
          refine aw_aload_n dX7_scanNumber_53 rfl rfl ⟨by decide, by decide⟩ ?_
          refine aw_aload_n dX7_scanNumber_54 rfl rfl ⟨by decide, by decide⟩ ?_
          refine aw_gi 26 dX7_scanNumber_55 fl_RX7_326 (by assumption) rfl rfl e26 ?_
          refine aw_cV1p dX7_scanNumber_58 ml_RX7_338 (by assumption) (by decide) rfl rfl ⟨by decide, by decide, by decide, by decide⟩ (Nat.le_of_ble_eq_true rfl) (hby) ?_
          refine aw_iadd dX7_scanNumber_61 (az_wr_id (by omega) (by omega)) ?_
          refine aw_bipush dX7_scanNumber_62 (by decide) ⟨by decide, by decide⟩ ?_
          refine aw_isub dX7_scanNumber_64 (az_wr_id (by omega) (by omega)) ?_
          refine aw_goto (tgt := 71) dX7_scanNumber_65 rfl ?_
          refine go _ ?_
          unfold nx_
          rw [if_pos (by omega), if_pos (by omega)]
          rfl
  refine loop (X.2 - p).toNat 0 _ (by omega) (by rw [show p + ((0 : Nat) : Int) = p by omega]; exact hE) (fun i hi => absurd hi (Nat.not_lt_zero _)) (by rw [az_up_s]; omega) (by rw [az_up_i _ _ _ _ (by omega), az_up_i _ _ _ _ (by omega), az_up_s]) (by rw [az_up_i _ _ _ _ (by omega), az_up_s]; rfl) (fun b hb => by rw [up_oth _ _ _ hb, up_oth _ _ _ hb, up_oth _ _ _ hb]) (fun j j1 j2 j3 => by rw [az_up_i _ _ _ _ j1, az_up_i _ _ _ _ j3, az_up_i _ _ _ _ j2])
set_option maxHeartbeats 1000000 in
theorem sp_scan (hK : MdK K m) (M : az_M) (hb : PB M m X) (q : Int) (hq : M m 26 = q) (q0 : 0 ≤ q) (q1 : q ≤ X.2) : AM yX7_scan cX7_scan 1 none 2 0 0 [(1, m)] K M (qv K (fun M' => PT M' m X (tkA X q) ∧ frN M M' m)) := by
  have hK0 := hK
  obtain ⟨hKo, k3, k4, k5, k6, k7, k8, k9, k10, k11, k12, k13, k14, k15, k16, k17, k18, k19, k20, k21, k22, k23, k24, k25, y3, y4, y5, y6, y7, y8, y9, y10, y11, y12, y13, y14, y15, y16, y17, y18, y19, y20, y21, y22, y23, y24, y25⟩ := hK
  have hKo0 := hKo
  obtain ⟨hKa, k2, y2⟩ := hKo
  have hKa0 := hKa
  obtain ⟨km, k1, y1⟩ := hKa
  refine am_of (by decide) (Nat.le_of_ble_eq_true rfl) (L := [(1, m)]) rfl ?_
  have hb2 := hb.2.1
  have hb3 := hb.2.2.1
  have hin := tkA_in (X := X) q1
  generalize hR : tkA X q = R at hin ⊢
  unfold tkA at hR
  have hei := tkE_in (X := X) hin.2
  refine aw_aload_n dX7_scan_0 rfl rfl ⟨by decide, by decide⟩ ?_
  refine aw_aload_n dX7_scan_1 rfl rfl ⟨by decide, by decide⟩ ?_
  refine aw_gi 26 dX7_scan_2 fl_RX7_326 (by assumption) rfl rfl hq ?_
  refine aw_pi 25 dX7_scan_5 fl_RX7_329 (by assumption) rfl rfl ?_
  have rest : ∀ M2 : az_M, M2 m 25 = R → frN M M2 m → AW az_P0 (az_Z (qv K (fun M' => PT M' m X R ∧ frN M M' m)) 0 0) (az_rm 2 0 0) yX7_scan cX7_scan 1 none 0 0 32 [(1, m)] [] K M2 := by
    intro M2 e25 f2
    have hf3 : frN M (az_up M2 m 26 (R + 1)) m := f2.trans ⟨fun b hb => up_oth _ _ _ hb, fun j hj => az_up_i _ _ _ _ (by omega)⟩
    have e25' : az_up M2 m 26 (R + 1) m 25 = R := by rw [az_up_i _ _ _ _ (by omega)]; exact e25
    have e26' : az_up M2 m 26 (R + 1) m 26 = R + 1 := az_up_s _ _ _ _
    refine aw_aload_n dX7_scan_32 rfl rfl ⟨by decide, by decide⟩ ?_
    refine aw_aload_n dX7_scan_33 rfl rfl ⟨by decide, by decide⟩ ?_
    refine aw_gi 25 dX7_scan_34 fl_RX7_329 (by assumption) rfl rfl e25 ?_
    refine aw_iconst dX7_scan_37 rfl ⟨by decide, by decide⟩ ?_
    refine aw_iadd dX7_scan_38 (az_wr_id (by omega) (by omega)) ?_
    refine aw_pi 26 dX7_scan_39 fl_RX7_326 (by assumption) rfl rfl ?_
    generalize az_up M2 m 26 (R + 1) = M3 at hf3 e25' e26' ⊢
    have hb3' : PB M3 m X := hb.frN hf3
    refine aw_aload_n dX7_scan_42 rfl rfl ⟨by decide, by decide⟩ ?_
    refine aw_gi 25 dX7_scan_43 fl_RX7_329 (by assumption) rfl rfl e25' ?_
    refine aw_aload_n dX7_scan_46 rfl rfl ⟨by decide, by decide⟩ ?_
    refine aw_gi 24 dX7_scan_47 fl_RX7_323 (by assumption) rfl rfl hb3'.1 ?_
    refine aw_icmp_lt (tgt := 69) dX7_scan_50 rfl (fun h50 => ?_) (fun h50 => ?_)
    · have hlt : R < X.2 := by omega
      have hby := qp_c (sp_byteAt hK0 M3 hb3' R (by omega)) (if_pos hlt)
      have hE : tkE X R = if 97 ≤ X.1 R ∧ X.1 R ≤ 122 then rn X 97 122 (X.2 - R).toNat R else if 48 ≤ X.1 R ∧ X.1 R ≤ 57 then rn X 48 57 (X.2 - R).toNat R else R + 1 := by
        unfold tkE
        rw [if_neg (by omega)]
      have hTk : tok X R = if 97 ≤ X.1 R ∧ X.1 R ≤ 122 then 2 else if 48 ≤ X.1 R ∧ X.1 R ≤ 57 then 3 else if sgn (X.1 R) then 4 else 1 := by
        unfold tok
        rw [if_neg (by omega)]
      have hwd : wd X R = wx X R (tkE X R - R).toNat := rfl
      have hnm : nm X R = nx_ X R (tkE X R - R).toNat := rfl
      refine aw_aload_n dX7_scan_69 rfl rfl ⟨by decide, by decide⟩ ?_
      refine aw_aload_n dX7_scan_70 rfl rfl ⟨by decide, by decide⟩ ?_
      refine aw_gi 25 dX7_scan_71 fl_RX7_329 (by assumption) rfl rfl e25' ?_
      refine aw_cV1p dX7_scan_74 ml_RX7_338 (by assumption) (by decide) rfl rfl ⟨by decide, by decide, by decide, by decide⟩ (Nat.le_of_ble_eq_true rfl) (hby) ?_
      refine aw_cS1p dX7_scan_77 ml_RX7_341 ⟨by decide, by decide, by decide, by decide⟩ (Nat.le_of_ble_eq_true rfl) (sp_misLetter K M3 (X.1 R)) ?_
      refine aw_if_eq (tgt := 90) dX7_scan_80 rfl (fun h80 => ?_) (fun h80 => ?_)
      · have hnl := if0 h80
        rw [if_neg hnl] at hE hTk
        refine aw_aload_n dX7_scan_90 rfl rfl ⟨by decide, by decide⟩ ?_
        refine aw_aload_n dX7_scan_91 rfl rfl ⟨by decide, by decide⟩ ?_
        refine aw_gi 25 dX7_scan_92 fl_RX7_329 (by assumption) rfl rfl e25' ?_
        refine aw_cV1p dX7_scan_95 ml_RX7_338 (by assumption) (by decide) rfl rfl ⟨by decide, by decide, by decide, by decide⟩ (Nat.le_of_ble_eq_true rfl) (hby) ?_
        refine aw_cS1p dX7_scan_98 ml_RX7_347 ⟨by decide, by decide, by decide, by decide⟩ (Nat.le_of_ble_eq_true rfl) (sp_misDigit K M3 (X.1 R)) ?_
        refine aw_if_eq (tgt := 111) dX7_scan_101 rfl (fun h101 => ?_) (fun h101 => ?_)
        · have hnd := if0 h101
          rw [if_neg hnd] at hE hTk
          have fin : ∀ t : Int, t = tok X R → AW az_P0 (az_Z (qv K (fun M' => PT M' m X R ∧ frN M M' m)) 0 0) (az_rm 2 0 0) yX7_scan cX7_scan 1 none 0 0 131 [(1, m)] [(0, t), (1, m)] K M3 := by
            intro t ht
            have ht2 : tok X R = 4 ∨ tok X R = 1 := by
              rw [hTk]
              by_cases s : sgn (X.1 R)
              · rw [if_pos s]; exact Or.inl rfl
              · rw [if_neg s]; exact Or.inr rfl
            refine aw_pi 27 dX7_scan_131 fl_RX7_335 (by assumption) rfl rfl ?_
            exact aw_vret dX7_scan_134 (by decide) (by decide) ⟨rfl, rfl, ⟨⟨by omega, by omega⟩, by rw [az_up_i _ _ _ _ (by omega)]; exact e25', by rw [az_up_i _ _ _ _ (by omega), e26', hE], by rw [az_up_s]; exact ht, fun q => by omega, fun q => by omega⟩, hf3.trans ⟨fun b hb => up_oth _ _ _ hb, fun j hj => az_up_i _ _ _ _ (by omega)⟩⟩
          refine aw_aload_n dX7_scan_111 rfl rfl ⟨by decide, by decide⟩ ?_
          refine aw_aload_n dX7_scan_112 rfl rfl ⟨by decide, by decide⟩ ?_
          refine aw_aload_n dX7_scan_113 rfl rfl ⟨by decide, by decide⟩ ?_
          refine aw_gi 25 dX7_scan_114 fl_RX7_329 (by assumption) rfl rfl e25' ?_
          refine aw_cV1p dX7_scan_117 ml_RX7_338 (by assumption) (by decide) rfl rfl ⟨by decide, by decide, by decide, by decide⟩ (Nat.le_of_ble_eq_true rfl) (hby) ?_
          refine aw_cS1p dX7_scan_120 ml_RX7_353 ⟨by decide, by decide, by decide, by decide⟩ (Nat.le_of_ble_eq_true rfl) (sp_misSign K M3 (X.1 R)) ?_
          refine aw_if_eq (tgt := 130) dX7_scan_123 rfl (fun h123 => ?_) (fun h123 => ?_)
          · have hns := if0 h123
            rw [if_neg hns] at hTk
            refine aw_iconst dX7_scan_130 rfl ⟨by decide, by decide⟩ ?_
            exact fin 1 hTk.symm
          · have hs := if1 h123
            rw [if_pos hs] at hTk
            refine aw_iconst dX7_scan_126 rfl ⟨by decide, by decide⟩ ?_
            refine aw_goto (tgt := 131) dX7_scan_127 rfl ?_
            exact fin 4 hTk.symm
        · have hd := if1 h101
          rw [if_pos hd] at hE hTk
          refine aw_aload_n dX7_scan_104 rfl rfl ⟨by decide, by decide⟩ ?_
          refine aw_cV0v dX7_scan_105 ml_RX7_350 (by assumption) (by decide) rfl rfl ⟨by decide, by decide, by decide, by decide⟩ (Nat.le_of_ble_eq_true rfl) (sp_scanNumber hK0 M3 hb3' R e25' (by omega) (by omega)) (fun M4 hM4 => ?_)
          obtain ⟨a1, a2, a3, a4, a5⟩ := hM4
          refine aw_goto (tgt := 134) dX7_scan_108 rfl ?_
          exact aw_vret dX7_scan_134 (by decide) (by decide) ⟨rfl, rfl, ⟨⟨by omega, by omega⟩, by rw [a5 _ (by omega) (by omega) (by omega)]; exact e25', by rw [a2, hE], by rw [a1, hTk], fun q => by omega, fun _ => by rw [a3, hnm, hE]⟩, hf3.trans ⟨a4, fun j hj => a5 j (by omega) (by omega) (by omega)⟩⟩
      · have hl := if1 h80
        rw [if_pos hl] at hE hTk
        refine aw_aload_n dX7_scan_83 rfl rfl ⟨by decide, by decide⟩ ?_
        refine aw_cV0v dX7_scan_84 ml_RX7_344 (by assumption) (by decide) rfl rfl ⟨by decide, by decide, by decide, by decide⟩ (Nat.le_of_ble_eq_true rfl) (sp_scanWord hK0 M3 hb3' R e25' (by omega) (by omega)) (fun M4 hM4 => ?_)
        obtain ⟨a1, a2, a3, a4, a5⟩ := hM4
        refine aw_goto (tgt := 134) dX7_scan_87 rfl ?_
        exact aw_vret dX7_scan_134 (by decide) (by decide) ⟨rfl, rfl, ⟨⟨by omega, by omega⟩, by rw [a5 _ (by omega) (by omega) (by omega)]; exact e25', by rw [a2, hE], by rw [a1, hTk], fun _ => by rw [a3, hwd, hE], fun q => by omega⟩, hf3.trans ⟨a4, fun j hj => a5 j (by omega) (by omega) (by omega)⟩⟩
    · have hge : X.2 ≤ R := by omega
      have hE : tkE X R = R := by unfold tkE; rw [if_pos hge]
      have hTk : tok X R = 0 := tok0.mpr hge
      refine aw_aload_n dX7_scan_53 rfl rfl ⟨by decide, by decide⟩ ?_
      refine aw_aload_n dX7_scan_54 rfl rfl ⟨by decide, by decide⟩ ?_
      refine aw_gi 25 dX7_scan_55 fl_RX7_329 (by assumption) rfl rfl e25' ?_
      refine aw_pi 26 dX7_scan_58 fl_RX7_326 (by assumption) rfl rfl ?_
      refine aw_aload_n dX7_scan_61 rfl rfl ⟨by decide, by decide⟩ ?_
      refine aw_iconst dX7_scan_62 rfl ⟨by decide, by decide⟩ ?_
      refine aw_pi 27 dX7_scan_63 fl_RX7_335 (by assumption) rfl rfl ?_
      refine aw_goto (tgt := 134) dX7_scan_66 rfl ?_
      refine aw_vret dX7_scan_134 (by decide) (by decide) ⟨rfl, rfl, ⟨⟨by omega, by omega⟩, by rw [az_up_i _ _ _ _ (by omega), az_up_i _ _ _ _ (by omega)]; exact e25', by rw [az_up_i _ _ _ _ (by omega), az_up_s, hE], by rw [az_up_s, hTk], fun q => by omega, fun q => by omega⟩, hf3.trans ⟨fun b hb => by rw [up_oth _ _ _ hb, up_oth _ _ _ hb], fun j hj => by rw [az_up_i _ _ _ _ (by omega), az_up_i _ _ _ _ (by omega)]⟩⟩
  have loop : ∀ (d : Nat) (r : Int) (M2 : az_M), 0 ≤ r → r + d = X.2 → skp X d r = R → M2 m 25 = r → frN M M2 m → AW az_P0 (az_Z (qv K (fun M' => PT M' m X R ∧ frN M M' m)) 0 0) (az_rm 2 0 0) yX7_scan cX7_scan 1 none 0 0 8 [(1, m)] [] K M2 := by
    intro d
    induction d with
    | zero =>
      intro r M2 r0 hd hs e25 f2
      replace hs : r = R := hs
      subst hs
      refine aw_aload_n dX7_scan_8 rfl rfl ⟨by decide, by decide⟩ ?_
      refine aw_aload_n dX7_scan_9 rfl rfl ⟨by decide, by decide⟩ ?_
      refine aw_gi 25 dX7_scan_10 fl_RX7_329 (by assumption) rfl rfl e25 ?_
      refine aw_cV1p dX7_scan_13 ml_RX7_332 (by assumption) (by decide) rfl rfl ⟨by decide, by decide, by decide, by decide⟩ (Nat.le_of_ble_eq_true rfl) (qp_c (z := 0) (sp_misBlank hK0 M2 (hb.frN f2) r r0) (if_neg (by omega))) ?_
      refine aw_if_eq (tgt := 32) dX7_scan_16 rfl (fun h16 => ?_) (fun h16 => absurd h16 (by omega))
      exact rest M2 e25 f2
    | succ d ih =>
      intro r M2 r0 hd hs e25 f2
      refine aw_aload_n dX7_scan_8 rfl rfl ⟨by decide, by decide⟩ ?_
      refine aw_aload_n dX7_scan_9 rfl rfl ⟨by decide, by decide⟩ ?_
      refine aw_gi 25 dX7_scan_10 fl_RX7_329 (by assumption) rfl rfl e25 ?_
      refine aw_cV1p dX7_scan_13 ml_RX7_332 (by assumption) (by decide) rfl rfl ⟨by decide, by decide, by decide, by decide⟩ (Nat.le_of_ble_eq_true rfl) (sp_misBlank hK0 M2 (hb.frN f2) r r0) ?_
      refine aw_if_eq (tgt := 32) dX7_scan_16 rfl (fun h16 => ?_) (fun h16 => ?_)
      · have hno := if0 h16
        rw [skp_stop hno] at hs
        subst hs
        exact rest M2 e25 f2
      · have hbl := if1 h16
        rw [skp_step hbl] at hs
        refine aw_aload_n dX7_scan_19 rfl rfl ⟨by decide, by decide⟩ ?_
        refine aw_dup dX7_scan_20 ?_
        refine aw_gi 25 dX7_scan_21 fl_RX7_329 (by assumption) rfl rfl e25 ?_
        refine aw_iconst dX7_scan_24 rfl ⟨by decide, by decide⟩ ?_
        refine aw_iadd dX7_scan_25 (az_wr_id (by omega) (by omega)) ?_
        refine aw_pi 25 dX7_scan_26 fl_RX7_329 (by assumption) rfl rfl ?_
        refine aw_goto (tgt := 8) dX7_scan_29 rfl ?_
        exact ih (r + 1) _ (by omega) (by omega) hs (az_up_s _ _ _ _) (f2.trans ⟨fun b hb => up_oth _ _ _ hb, fun j hj => az_up_i _ _ _ _ (by omega)⟩)
  exact loop (X.2 - q).toNat q _ q0 (by omega) hR (az_up_s _ _ _ _) ⟨fun b hb => up_oth _ _ _ hb, fun j hj => az_up_i _ _ _ _ (by omega)⟩
end SC
