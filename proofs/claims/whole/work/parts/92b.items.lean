/-! a program's items as values; TreadRingModel reads them -/
set_option maxRecDepth 20000
abbrev pSt : Type := Int × Int × Int × (Int → Int → Int) × (Int → Int)
abbrev pE : Type := Int × Int
def adv (X : pTx) (s : pSt) : pSt := (tkA X (tkE X s.1), s.2)
abbrev isS (X : pTx) (c : Int) (s : pSt) : Prop := s.1 < X.2 ∧ X.1 s.1 = c
abbrev isW (X : pTx) (w : Int) (s : pSt) : Prop := tok X s.1 = 2 ∧ wd X s.1 = w
abbrev isR (X : pTx) (s : pSt) : Prop := tok X s.1 = 2 ∧ 1 ≤ wd X s.1 ∧ wd X s.1 ≤ 6
def bd {A B : Type} (x : Sum pE A) (f : A → Sum pE B) : Sum pE B := match x with
  | .inl e => .inl e
  | .inr a => f a
def itU (it : Int → Int → Int) (n k r o u d : Int) : Int → Int → Int := fun i j => if i = n then (if j = 0 then k else if j = 1 then r else if j = 2 then o else if j = 3 then u else if j = 4 then n + 1 else d) else it i j
def addD (s : pSt) (k r o u d : Int) : pSt := (s.1, s.2.1, s.2.2.1 + 1, itU s.2.2.2.1 s.2.2.1 k r o u d, s.2.2.2.2)
def addI (s : pSt) (k r o u : Int) : pSt := addD s k r o u s.2.1
def opb (s : pSt) : pSt := (s.1, s.2.1 + 1, s.2.2.1, s.2.2.2.1, fun j => if j = s.2.1 then s.2.2.1 else s.2.2.2.2 j)
def opn (s : pSt) (k r u : Int) : pSt := addD (opb s) k r (-1) u s.2.1
def pSg (X : pTx) (c : Int) (s : pSt) : Sum pE pSt := if isS X c s then .inr (adv X s) else .inl (1, s.1)
def pNm (X : pTx) (lo hi : Int) (s : pSt) : Sum pE (Int × pSt) := if tok X s.1 ≠ 3 then .inl (1, s.1) else if ¬ (lo ≤ nm X s.1 ∧ nm X s.1 ≤ hi) then .inl (2, s.1) else .inr (nm X s.1, adv X s)
def pRt (X : pTx) (s : pSt) : Sum pE (Int × pSt) := if isR X s then .inr (wd X s.1 - 1, adv X s) else .inl (1, s.1)
def pRn (X : pTx) (s : pSt) : Sum pE (Int × pSt) := if isW X 474565 s then .inr (-1, adv X s) else if isR X s then .inr (wd X s.1 - 1, adv X s) else .inl (1, s.1)
def pStp (X : pTx) (s : pSt) : Sum pE pSt := bd (pNm X 1 99 (adv X s)) fun a => bd (pSg X 59 a.2) fun t => .inr (addI t 4 (-1) (-1) a.1)
def pTim (X : pTx) (s : pSt) : Sum pE pSt := bd (pNm X 2 9 (adv X s)) fun a => bd (pSg X 123 a.2) fun t => .inr (opn t 5 (-1) a.1)
def pIfs (X : pTx) (s : pSt) : Sum pE pSt := bd (pRt X (adv X s)) fun a => bd (pSg X 123 a.2) fun t => .inr (opn t 6 a.1 0)
def pSto (X : pTx) (r : Int) (s : pSt) : Sum pE pSt := bd (pNm X 0 6 s) fun a => bd (pSg X 61 a.2) fun t => bd (pRn X t) fun b => .inr (addI b.2 3 r b.1 a.1)
def pNmg (X : pTx) (r : Int) (s : pSt) : Sum pE pSt := if isW X 14519 s then bd (pNm X 0 7 (adv X s)) (fun a => .inr (addI a.2 0 r (-1) a.1)) else bd (pRn X s) fun b => if b.1 ≠ -1 ∧ isS X 46 b.2 then bd (pNm X 0 6 (adv X b.2)) (fun a => .inr (addI a.2 2 r b.1 a.1)) else .inr (addI b.2 1 r b.1 0)
def pDe1 (X : pTx) (r : Int) (s : pSt) : Sum pE pSt := if isS X 46 s then pSto X r (adv X s) else bd (pSg X 61 s) (pNmg X r)
def pDee (X : pTx) (s : pSt) : Sum pE pSt := bd (pDe1 X (wd X s.1 - 1) (adv X s)) (pSg X 59)
abbrev beg (X : pTx) (s : pSt) : Prop := isR X s ∨ isW X 643248 s ∨ isW X 21279923 s ∨ isW X 294 s
def pItm (X : pTx) (s : pSt) : Sum pE pSt := if ¬ beg X s then .inl (1, s.1) else if 3 < s.2.1 ∨ s.2.2.1 = 40 then .inl (3, s.1) else if isW X 643248 s then pStp X s else if isW X 21279923 s then pTim X s else if isW X 294 s then pIfs X s else pDee X s
def cls (s : pSt) : pSt := (s.1, s.2.1 - 1, s.2.2.1, fun i j => if i = s.2.2.2.2 (s.2.1 - 1) ∧ j = 4 then s.2.2.1 else s.2.2.2.1 i j, s.2.2.2.2)
def pAll (X : pTx) : Nat → pSt → Sum pE pSt
  | 0, s => .inr s
  | d + 1, s => if tok X s.1 = 0 then .inr s else if isS X 125 s ∧ 0 < s.2.1 then pAll X d (adv X (cls s)) else bd (pItm X s) (pAll X d)
def pPrg (X : pTx) : Sum pE pSt := bd (pAll X 400 (tkA X 0, 0, 0, fun _ _ => 0, fun _ => 0)) fun s => if 0 < s.2.1 then .inl (1, s.1) else .inr s
section PR
variable {X : pTx} {s t : pSt} {c lo hi : Int} {e : pE} {a : Int × pSt}
theorem pSg_r (h : pSg X c s = .inr t) : t = adv X s ∧ isS X c s := by
  unfold pSg at h
  split at h
  · rename_i q; cases h; exact ⟨rfl, q⟩
  · cases h
theorem pSg_l (h : pSg X c s = .inl e) : e = (1, s.1) ∧ ¬ isS X c s := by
  unfold pSg at h
  split at h
  · cases h
  · rename_i q; cases h; exact ⟨rfl, q⟩
theorem pNm_r (h : pNm X lo hi s = .inr a) : a = (nm X s.1, adv X s) ∧ tok X s.1 = 3 ∧ lo ≤ nm X s.1 ∧ nm X s.1 ≤ hi := by
  unfold pNm at h
  split at h
  · cases h
  · rename_i q
    split at h
    · cases h
    · rename_i r
      cases h
      exact ⟨rfl, Classical.byContradiction q, Classical.byContradiction r⟩
theorem pNm_l (h : pNm X lo hi s = .inl e) : tok X s.1 ≠ 3 ∧ e = (1, s.1) ∨ tok X s.1 = 3 ∧ ¬ (lo ≤ nm X s.1 ∧ nm X s.1 ≤ hi) ∧ e = (2, s.1) := by
  unfold pNm at h
  split at h
  · rename_i q; cases h; exact Or.inl ⟨q, rfl⟩
  · rename_i q
    split at h
    · rename_i r; cases h; exact Or.inr ⟨Classical.byContradiction q, r, rfl⟩
    · cases h
theorem pRt_r (h : pRt X s = .inr a) : a = (wd X s.1 - 1, adv X s) ∧ isR X s := by
  unfold pRt at h
  split at h
  · rename_i q; cases h; exact ⟨rfl, q⟩
  · cases h
theorem pRt_l (h : pRt X s = .inl e) : e = (1, s.1) ∧ ¬ isR X s := by
  unfold pRt at h
  split at h
  · cases h
  · rename_i q; cases h; exact ⟨rfl, q⟩
theorem pRn_r (h : pRn X s = .inr a) : a.2 = adv X s ∧ (isW X 474565 s ∧ a.1 = -1 ∨ ¬ isW X 474565 s ∧ isR X s ∧ a.1 = wd X s.1 - 1) := by
  unfold pRn at h
  split at h
  · rename_i q; cases h; exact ⟨rfl, Or.inl ⟨q, rfl⟩⟩
  · rename_i q
    split at h
    · rename_i r; cases h; exact ⟨rfl, Or.inr ⟨q, r, rfl⟩⟩
    · cases h
theorem pRn_l (h : pRn X s = .inl e) : e = (1, s.1) ∧ ¬ isW X 474565 s ∧ ¬ isR X s := by
  unfold pRn at h
  split at h
  · cases h
  · rename_i q
    split at h
    · cases h
    · rename_i r; cases h; exact ⟨rfl, q, r⟩
end PR
def opc (k o : Int) : Int := if k = 0 then 0 else if k = 1 then (if o = -1 then 1 else 2) else if k = 2 then 3 else if k = 3 then (if o = -1 then 5 else 4) else k + 2
abbrev rowP (k r o u w a b c : Int) : Prop := w = opc k o ∧ a = (if k = 4 ∨ k = 5 then u else r) ∧ (k = 0 ∨ k = 3 → b = u) ∧ (k = 1 ∧ o ≠ -1 ∨ k = 2 → b = o) ∧ (k = 2 → c = u) ∧ (k = 3 ∧ o ≠ -1 → c = o)
/-- an item as the reference keeps it, in rows from c on -/
def refI (M : az_M) (c : Int) (it : Int → Int → Int) (i : Int) : Prop := rowP (it i 0) (it i 1) (it i 2) (it i 3) (M c i) (M (c + 1) i) (M (c + 2) i) (M (c + 3) i) ∧ M (c + 4) i = it i 4
def PL (M : az_M) (m : Int) (X : pTx) (s : pSt) : Prop := PB M m X ∧ PT M m X s.1 ∧ M m 32 = 0 ∧ M m 34 = s.2.1 ∧ M m 22 = s.2.2.1 ∧ (∀ i, 0 ≤ i → i < s.2.2.1 → refI M (m + 9) s.2.2.2.1 i) ∧ (∀ k, 0 ≤ k → k < s.2.1 → M (m + 19) k = s.2.2.2.2 k) ∧ (0 ≤ s.2.1 ∧ s.2.1 ≤ 4 ∧ M m 33 = -1) ∧ 0 ≤ s.2.2.1 ∧ s.2.2.1 ≤ 40
def PD (M : az_M) (m : Int) (X : pTx) (e : pE) (n : Int) : Prop := PB M m X ∧ M m 32 = e.1 ∧ 0 < e.1 ∧ M m 33 = e.2 ∧ M m 22 = n ∧ 0 ≤ n
def frP (M M' : az_M) (m : Int) : Prop := (∀ b, b ≠ m → b < m + 9 ∨ m + 13 < b → b ≠ m + 19 → M' b = M b) ∧ ∀ j, j ≠ 22 → j < 25 ∨ 29 < j → j ≠ 32 → j ≠ 33 → j ≠ 34 → M' m j = M m j
theorem frP.refl (M : az_M) (m : Int) : frP M M m := ⟨fun _ _ _ _ => rfl, fun _ _ _ _ _ _ => rfl⟩
theorem frP.trans {M M1 M2 : az_M} {m : Int} (p : frP M M1 m) (q : frP M1 M2 m) : frP M M2 m := ⟨fun b h1 h2 h3 => (q.1 b h1 h2 h3).trans (p.1 b h1 h2 h3), fun j h1 h2 h3 h4 h5 => (q.2 j h1 h2 h3 h4 h5).trans (p.2 j h1 h2 h3 h4 h5)⟩
theorem frP.ofN {M M' : az_M} {m : Int} (f : frN M M' m) : frP M M' m := ⟨fun b h1 _ _ => f.1 b h1, fun j _ h2 _ _ _ => f.2 j h2⟩
theorem PL.adv {M M' : az_M} {m : Int} {X : pTx} {s : pSt} (h : PL M m X s) (ht : PT M' m X (tkA X (tkE X s.1))) (f : frN M M' m) : PL M' m X (adv X s) := by
  obtain ⟨h1, h2, h3, h4, h5, h6, h7, h8, h9⟩ := h
  have e : ∀ b, m + 9 ≤ b → M' b = M b := fun b hb => f.1 b (by omega)
  refine ⟨h1.frN f, ht, (f.2 _ (by omega)).trans h3, (f.2 _ (by omega)).trans h4, (f.2 _ (by omega)).trans h5, fun i i0 i1 => ?_, fun k k0 k1 => ?_, ⟨h8.1, h8.2.1, (f.2 _ (by omega)).trans h8.2.2⟩, h9⟩
  · have := h6 i i0 i1
    unfold refI at this ⊢
    rw [e _ (by omega), e _ (by omega), e _ (by omega), e _ (by omega), e _ (by omega)]
    exact this
  · rw [e _ (by omega)]; exact h7 k k0 k1
def PO (M M' : az_M) (m : Int) (X : pTx) (r : Sum pE pSt) : Prop := (∀ e, r = .inl e → ∃ n, n ≤ 40 ∧ PD M' m X e n) ∧ (∀ t, r = .inr t → PL M' m X t) ∧ frP M M' m
theorem PO.l {M M' : az_M} {m : Int} {X : pTx} {e : pE} {n : Int} {r : Sum pE pSt} (h : r = .inl e) (hn : n ≤ 40) (hd : PD M' m X e n) (f : frP M M' m) : PO M M' m X r := ⟨fun e' q => (by rw [h] at q; cases q; exact ⟨n, hn, hd⟩), fun t q => (by rw [h] at q; cases q), f⟩
theorem PO.r {M M' : az_M} {m : Int} {X : pTx} {t : pSt} {r : Sum pE pSt} (h : r = .inr t) (hd : PL M' m X t) (f : frP M M' m) : PO M M' m X r := ⟨fun e' q => (by rw [h] at q; cases q), fun t' q => (by rw [h] at q; cases q; exact hd), f⟩
section RD
variable {K : az_K} {m : Int} {X : pTx} {s : pSt} {e : pE} {n : Int}
theorem sp_scanP (hK : MdK K m) (M : az_M) (hl : PL M m X s) : AM yX7_scan cX7_scan 1 none 2 0 0 [(1, m)] K M (qv K (fun M' => PT M' m X (tkA X (tkE X s.1)) ∧ frN M M' m)) := by
  have hp := hl.2.1
  have hi := tkE_in (X := X) hp.1.2
  exact sp_scan hK M hl.1 (tkE X s.1) hp.2.2.1 (by have := hp.1.1; omega) hi.2.1
theorem PD.of {M M' : az_M} (hb : PB M m X) (e1 : M' m 24 = M m 24) (e8 : M' (m + 8) = M (m + 8)) (h1 : M' m 32 = e.1) (h2 : 0 < e.1) (h3 : M' m 33 = e.2) (h4 : M' m 22 = n) (h5 : 0 ≤ n) : PD M' m X e n := ⟨hb.fr e1 e8, h1, h2, h3, h4, h5⟩
theorem sp_fail (hK : MdK K m) (M : az_M) (hl : PL M m X s) (k : Int) (k0 : 0 < k) : AM yX7_fail cX7_fail 2 none 0 0 0 [(1, m), (0, k)] K M (qv K (fun M' => PD M' m X (k, s.1) s.2.2.1 ∧ frP M M' m)) := by
  have hK0 := hK
  obtain ⟨hKo, k3, k4, k5, k6, k7, k8, k9, k10, k11, k12, k13, k14, k15, k16, k17, k18, k19, k20, k21, k22, k23, k24, k25, y3, y4, y5, y6, y7, y8, y9, y10, y11, y12, y13, y14, y15, y16, y17, y18, y19, y20, y21, y22, y23, y24, y25⟩ := hK
  have hKo0 := hKo
  obtain ⟨hKa, k2, y2⟩ := hKo
  have hKa0 := hKa
  obtain ⟨km, k1, y1⟩ := hKa
  refine am_of (by decide) (Nat.le_of_ble_eq_true rfl) (L := [(1, m), (0, k)]) rfl ?_
  obtain ⟨h1, h2, h3, h4, h5, h6, h7, h8, h9⟩ := hl
  have v15 : az_up M m 32 k m 25 = s.1 := by rw [az_up_i _ _ _ _ (by omega)]; exact h2.2.1
  refine aw_aload_n dX7_fail_0 rfl rfl ⟨by decide, by decide⟩ ?_
  refine aw_gi 32 dX7_fail_1 fl_RX7_362 (by assumption) rfl rfl h3 ?_
  refine aw_if_le (tgt := 8) dX7_fail_4 rfl (fun h4 => ?_) (fun h4 => absurd h4 (by omega))
  refine aw_aload_n dX7_fail_8 rfl rfl ⟨by decide, by decide⟩ ?_
  refine aw_iload_n dX7_fail_9 rfl rfl ?_
  refine aw_pi 32 dX7_fail_10 fl_RX7_362 (by assumption) rfl rfl ?_
  refine aw_aload_n dX7_fail_13 rfl rfl ⟨by decide, by decide⟩ ?_
  refine aw_aload_n dX7_fail_14 rfl rfl ⟨by decide, by decide⟩ ?_
  refine aw_gi 25 dX7_fail_15 fl_RX7_329 (by assumption) rfl rfl v15 ?_
  refine aw_pi 33 dX7_fail_18 fl_RX7_365 (by assumption) rfl rfl ?_
  refine aw_vret dX7_fail_21 (by decide) (by decide) ⟨rfl, rfl, PD.of h1 ?_ ?_ ?_ k0 ?_ ?_ h9.1, fun b b1 b2 b3 => ?_, fun j j1 j2 j3 j4 j5 => ?_⟩
  · rw [az_up_i _ _ _ _ (by omega), az_up_i _ _ _ _ (by omega)]
  · rw [up_oth _ _ _ (by omega), up_oth _ _ _ (by omega)]
  · rw [az_up_i _ _ _ _ (by omega), az_up_s]
  · rw [az_up_s]
  · rw [az_up_i _ _ _ _ (by omega), az_up_i _ _ _ _ (by omega)]; exact h5
  · rw [up_oth _ _ _ b1, up_oth _ _ _ b1]
  · rw [az_up_i _ _ _ _ j4, az_up_i _ _ _ _ j3]
theorem sp_failD (hK : MdK K m) (M : az_M) (hd : PD M m X e n) (k : Int) : AM yX7_fail cX7_fail 2 none 0 0 0 [(1, m), (0, k)] K M (qv K (fun M' => M' = M)) := by
  have hK0 := hK
  obtain ⟨hKo, k3, k4, k5, k6, k7, k8, k9, k10, k11, k12, k13, k14, k15, k16, k17, k18, k19, k20, k21, k22, k23, k24, k25, y3, y4, y5, y6, y7, y8, y9, y10, y11, y12, y13, y14, y15, y16, y17, y18, y19, y20, y21, y22, y23, y24, y25⟩ := hK
  have hKo0 := hKo
  obtain ⟨hKa, k2, y2⟩ := hKo
  have hKa0 := hKa
  obtain ⟨km, k1, y1⟩ := hKa
  refine am_of (by decide) (Nat.le_of_ble_eq_true rfl) (L := [(1, m), (0, k)]) rfl ?_
  have h0 := hd.2.2.1
  refine aw_aload_n dX7_fail_0 rfl rfl ⟨by decide, by decide⟩ ?_
  refine aw_gi 32 dX7_fail_1 fl_RX7_362 (by assumption) rfl rfl hd.2.1 ?_
  refine aw_if_le (tgt := 8) dX7_fail_4 rfl (fun h4 => absurd h4 (by omega)) (fun h4 => ?_)
  exact aw_vret dX7_fail_7 (by decide) (by decide) ⟨rfl, rfl, rfl⟩
theorem sp_isAt (hK : MdK K m) (M : az_M) (hl : PL M m X s) (c : Int) (hc : sgn c) : AM yX7_isAt cX7_isAt 2 (some .boolean) 1 0 0 [(1, m), (0, c)] K M (qp K M (if isS X c s then 1 else 0)) := by
  have hK0 := hK
  obtain ⟨hKo, k3, k4, k5, k6, k7, k8, k9, k10, k11, k12, k13, k14, k15, k16, k17, k18, k19, k20, k21, k22, k23, k24, k25, y3, y4, y5, y6, y7, y8, y9, y10, y11, y12, y13, y14, y15, y16, y17, y18, y19, y20, y21, y22, y23, y24, y25⟩ := hK
  have hKo0 := hKo
  obtain ⟨hKa, k2, y2⟩ := hKo
  have hKa0 := hKa
  obtain ⟨km, k1, y1⟩ := hKa
  refine am_of (by decide) (Nat.le_of_ble_eq_true rfl) (L := [(1, m), (0, c)]) rfl ?_
  obtain ⟨h1, h2, h3, h4, h5, h6, h7, h8, h9⟩ := hl
  obtain ⟨p0, p1⟩ := h2.1
  have no : ¬ isS X c s → AW az_P0 (az_Z (qp K M (if isS X c s then 1 else 0)) 0 0) (az_rm 1 0 0) yX7_isAt cX7_isAt 2 (some .boolean) 0 0 31 [(1, m), (0, c)] [] K M := by
    intro h
    rw [if_neg h]
    refine aw_iconst dX7_isAt_31 rfl ⟨by decide, by decide⟩ ?_
    exact aw_zret dX7_isAt_32 (by omega) (by decide) (by decide) (qp_i rfl)
  refine aw_aload_n dX7_isAt_0 rfl rfl ⟨by decide, by decide⟩ ?_
  refine aw_gi 32 dX7_isAt_1 fl_RX7_362 (by assumption) rfl rfl h3 ?_
  refine aw_if_ne (tgt := 31) dX7_isAt_4 rfl (fun h4 => absurd h4 (by omega)) (fun h4 => ?_)
  refine aw_aload_n dX7_isAt_7 rfl rfl ⟨by decide, by decide⟩ ?_
  refine aw_gi 27 dX7_isAt_8 fl_RX7_335 (by assumption) rfl rfl h2.2.2.2.1 ?_
  refine aw_iconst dX7_isAt_11 rfl ⟨by decide, by decide⟩ ?_
  refine aw_icmp_ne (tgt := 31) dX7_isAt_12 rfl (fun h12 => ?_) (fun h12 => ?_)
  · refine no (fun q => h12 (tok4.mpr ⟨q.1, ?_⟩))
    rw [q.2]; exact hc
  · have ht := tok4.mp h12
    have hby := qp_c (sp_byteAt hK0 M h1 s.1 p0) (if_pos ht.1)
    refine aw_aload_n dX7_isAt_15 rfl rfl ⟨by decide, by decide⟩ ?_
    refine aw_aload_n dX7_isAt_16 rfl rfl ⟨by decide, by decide⟩ ?_
    refine aw_gi 25 dX7_isAt_17 fl_RX7_329 (by assumption) rfl rfl h2.2.1 ?_
    refine aw_cV1p dX7_isAt_20 ml_RX7_338 (by assumption) (by decide) rfl rfl ⟨by decide, by decide, by decide, by decide⟩ (Nat.le_of_ble_eq_true rfl) (hby) ?_
    refine aw_iload_n dX7_isAt_23 rfl rfl ?_
    refine aw_icmp_ne (tgt := 31) dX7_isAt_24 rfl (fun h24 => ?_) (fun h24 => ?_)
    · exact no (fun q => h24 q.2)
    · rw [if_pos ⟨ht.1, h24⟩]
      refine aw_iconst dX7_isAt_27 rfl ⟨by decide, by decide⟩ ?_
      refine aw_goto (tgt := 32) dX7_isAt_28 rfl ?_
      exact aw_zret dX7_isAt_32 (by omega) (by decide) (by decide) (qp_i rfl)
theorem sp_isAtD (hK : MdK K m) (M : az_M) (hd : PD M m X e n) (c : Int) : AM yX7_isAt cX7_isAt 2 (some .boolean) 1 0 0 [(1, m), (0, c)] K M (qp K M 0) := by
  have hK0 := hK
  obtain ⟨hKo, k3, k4, k5, k6, k7, k8, k9, k10, k11, k12, k13, k14, k15, k16, k17, k18, k19, k20, k21, k22, k23, k24, k25, y3, y4, y5, y6, y7, y8, y9, y10, y11, y12, y13, y14, y15, y16, y17, y18, y19, y20, y21, y22, y23, y24, y25⟩ := hK
  have hKo0 := hKo
  obtain ⟨hKa, k2, y2⟩ := hKo
  have hKa0 := hKa
  obtain ⟨km, k1, y1⟩ := hKa
  refine am_of (by decide) (Nat.le_of_ble_eq_true rfl) (L := [(1, m), (0, c)]) rfl ?_
  have h0 := hd.2.2.1
  refine aw_aload_n dX7_isAt_0 rfl rfl ⟨by decide, by decide⟩ ?_
  refine aw_gi 32 dX7_isAt_1 fl_RX7_362 (by assumption) rfl rfl hd.2.1 ?_
  refine aw_if_ne (tgt := 31) dX7_isAt_4 rfl (fun h4 => ?_) (fun h4 => absurd h4 (by omega))
  refine aw_iconst dX7_isAt_31 rfl ⟨by decide, by decide⟩ ?_
  exact aw_zret dX7_isAt_32 (by omega) (by decide) (by decide) (qp_i rfl)
theorem sp_isWord (hK : MdK K m) (M : az_M) (hl : PL M m X s) (w : Int) : AM yX7_isWord cX7_isWord 2 (some .boolean) 0 0 0 [(1, m), (0, w)] K M (qp K M (if isW X w s then 1 else 0)) := by
  have hK0 := hK
  obtain ⟨hKo, k3, k4, k5, k6, k7, k8, k9, k10, k11, k12, k13, k14, k15, k16, k17, k18, k19, k20, k21, k22, k23, k24, k25, y3, y4, y5, y6, y7, y8, y9, y10, y11, y12, y13, y14, y15, y16, y17, y18, y19, y20, y21, y22, y23, y24, y25⟩ := hK
  have hKo0 := hKo
  obtain ⟨hKa, k2, y2⟩ := hKo
  have hKa0 := hKa
  obtain ⟨km, k1, y1⟩ := hKa
  refine am_of (by decide) (Nat.le_of_ble_eq_true rfl) (L := [(1, m), (0, w)]) rfl ?_
  obtain ⟨h1, h2, h3, h4, h5, h6, h7, h8, h9⟩ := hl
  have no : ¬ isW X w s → AW az_P0 (az_Z (qp K M (if isW X w s then 1 else 0)) 0 0) (az_rm 0 0 0) yX7_isWord cX7_isWord 2 (some .boolean) 0 0 27 [(1, m), (0, w)] [] K M := by
    intro h
    rw [if_neg h]
    refine aw_iconst dX7_isWord_27 rfl ⟨by decide, by decide⟩ ?_
    exact aw_zret dX7_isWord_28 (by omega) (by decide) (by decide) (qp_i rfl)
  refine aw_aload_n dX7_isWord_0 rfl rfl ⟨by decide, by decide⟩ ?_
  refine aw_gi 32 dX7_isWord_1 fl_RX7_362 (by assumption) rfl rfl h3 ?_
  refine aw_if_ne (tgt := 27) dX7_isWord_4 rfl (fun h4 => absurd h4 (by omega)) (fun h4 => ?_)
  refine aw_aload_n dX7_isWord_7 rfl rfl ⟨by decide, by decide⟩ ?_
  refine aw_gi 27 dX7_isWord_8 fl_RX7_335 (by assumption) rfl rfl h2.2.2.2.1 ?_
  refine aw_iconst dX7_isWord_11 rfl ⟨by decide, by decide⟩ ?_
  refine aw_icmp_ne (tgt := 27) dX7_isWord_12 rfl (fun h12 => ?_) (fun h12 => ?_)
  · exact no (fun q => h12 q.1)
  · refine aw_aload_n dX7_isWord_15 rfl rfl ⟨by decide, by decide⟩ ?_
    refine aw_gi 28 dX7_isWord_16 fl_RX7_356 (by assumption) rfl rfl (h2.2.2.2.2.1 h12) ?_
    refine aw_iload_n dX7_isWord_19 rfl rfl ?_
    refine aw_icmp_ne (tgt := 27) dX7_isWord_20 rfl (fun h20 => ?_) (fun h20 => ?_)
    · exact no (fun q => h20 q.2)
    · rw [if_pos ⟨h12, h20⟩]
      refine aw_iconst dX7_isWord_23 rfl ⟨by decide, by decide⟩ ?_
      refine aw_goto (tgt := 28) dX7_isWord_24 rfl ?_
      exact aw_zret dX7_isWord_28 (by omega) (by decide) (by decide) (qp_i rfl)
theorem sp_isWordD (hK : MdK K m) (M : az_M) (hd : PD M m X e n) (w : Int) : AM yX7_isWord cX7_isWord 2 (some .boolean) 0 0 0 [(1, m), (0, w)] K M (qp K M 0) := by
  have hK0 := hK
  obtain ⟨hKo, k3, k4, k5, k6, k7, k8, k9, k10, k11, k12, k13, k14, k15, k16, k17, k18, k19, k20, k21, k22, k23, k24, k25, y3, y4, y5, y6, y7, y8, y9, y10, y11, y12, y13, y14, y15, y16, y17, y18, y19, y20, y21, y22, y23, y24, y25⟩ := hK
  have hKo0 := hKo
  obtain ⟨hKa, k2, y2⟩ := hKo
  have hKa0 := hKa
  obtain ⟨km, k1, y1⟩ := hKa
  refine am_of (by decide) (Nat.le_of_ble_eq_true rfl) (L := [(1, m), (0, w)]) rfl ?_
  have h0 := hd.2.2.1
  refine aw_aload_n dX7_isWord_0 rfl rfl ⟨by decide, by decide⟩ ?_
  refine aw_gi 32 dX7_isWord_1 fl_RX7_362 (by assumption) rfl rfl hd.2.1 ?_
  refine aw_if_ne (tgt := 27) dX7_isWord_4 rfl (fun h4 => ?_) (fun h4 => absurd h4 (by omega))
  refine aw_iconst dX7_isWord_27 rfl ⟨by decide, by decide⟩ ?_
  exact aw_zret dX7_isWord_28 (by omega) (by decide) (by decide) (qp_i rfl)
theorem sp_isLetterHere (hK : MdK K m) (M : az_M) (hl : PL M m X s) : AM yX7_isLetterHere cX7_isLetterHere 1 (some .boolean) 1 0 0 [(1, m)] K M (qp K M (if isR X s then 1 else 0)) := by
  have hK0 := hK
  obtain ⟨hKo, k3, k4, k5, k6, k7, k8, k9, k10, k11, k12, k13, k14, k15, k16, k17, k18, k19, k20, k21, k22, k23, k24, k25, y3, y4, y5, y6, y7, y8, y9, y10, y11, y12, y13, y14, y15, y16, y17, y18, y19, y20, y21, y22, y23, y24, y25⟩ := hK
  have hKo0 := hKo
  obtain ⟨hKa, k2, y2⟩ := hKo
  have hKa0 := hKa
  obtain ⟨km, k1, y1⟩ := hKa
  refine am_of (by decide) (Nat.le_of_ble_eq_true rfl) (L := [(1, m)]) rfl ?_
  obtain ⟨h1, h2, h3, h4, h5, h6, h7, h8, h9⟩ := hl
  have no : ¬ isR X s → AW az_P0 (az_Z (qp K M (if isR X s then 1 else 0)) 0 0) (az_rm 1 0 0) yX7_isLetterHere cX7_isLetterHere 1 (some .boolean) 0 0 32 [(1, m)] [] K M := by
    intro h
    rw [if_neg h]
    refine aw_iconst dX7_isLetterHere_32 rfl ⟨by decide, by decide⟩ ?_
    exact aw_zret dX7_isLetterHere_33 (by omega) (by decide) (by decide) (qp_i rfl)
  refine aw_aload_n dX7_isLetterHere_0 rfl rfl ⟨by decide, by decide⟩ ?_
  refine aw_gi 32 dX7_isLetterHere_1 fl_RX7_362 (by assumption) rfl rfl h3 ?_
  refine aw_if_ne (tgt := 32) dX7_isLetterHere_4 rfl (fun h4 => absurd h4 (by omega)) (fun h4 => ?_)
  refine aw_aload_n dX7_isLetterHere_7 rfl rfl ⟨by decide, by decide⟩ ?_
  refine aw_gi 27 dX7_isLetterHere_8 fl_RX7_335 (by assumption) rfl rfl h2.2.2.2.1 ?_
  refine aw_iconst dX7_isLetterHere_11 rfl ⟨by decide, by decide⟩ ?_
  refine aw_icmp_ne (tgt := 32) dX7_isLetterHere_12 rfl (fun h12 => ?_) (fun h12 => ?_)
  · exact no (fun q => h12 q.1)
  · refine aw_aload_n dX7_isLetterHere_15 rfl rfl ⟨by decide, by decide⟩ ?_
    refine aw_gi 28 dX7_isLetterHere_16 fl_RX7_356 (by assumption) rfl rfl (h2.2.2.2.2.1 h12) ?_
    refine aw_iconst dX7_isLetterHere_19 rfl ⟨by decide, by decide⟩ ?_
    refine aw_bipush dX7_isLetterHere_20 (by decide) ⟨by decide, by decide⟩ ?_
    refine aw_cS3p dX7_isLetterHere_22 ml_RX7_94 ⟨by decide, by decide, by decide, by decide⟩ (Nat.le_of_ble_eq_true rfl) (sp_isIn K M (wd X s.1) 1 6) ?_
    refine aw_if_eq (tgt := 32) dX7_isLetterHere_25 rfl (fun h25 => ?_) (fun h25 => ?_)
    · exact no (fun q => if0 h25 q.2)
    · rw [if_pos ⟨h12, if1 h25⟩]
      refine aw_iconst dX7_isLetterHere_28 rfl ⟨by decide, by decide⟩ ?_
      refine aw_goto (tgt := 33) dX7_isLetterHere_29 rfl ?_
      exact aw_zret dX7_isLetterHere_33 (by omega) (by decide) (by decide) (qp_i rfl)
theorem sp_isLetterHereD (hK : MdK K m) (M : az_M) (hd : PD M m X e n) : AM yX7_isLetterHere cX7_isLetterHere 1 (some .boolean) 1 0 0 [(1, m)] K M (qp K M 0) := by
  have hK0 := hK
  obtain ⟨hKo, k3, k4, k5, k6, k7, k8, k9, k10, k11, k12, k13, k14, k15, k16, k17, k18, k19, k20, k21, k22, k23, k24, k25, y3, y4, y5, y6, y7, y8, y9, y10, y11, y12, y13, y14, y15, y16, y17, y18, y19, y20, y21, y22, y23, y24, y25⟩ := hK
  have hKo0 := hKo
  obtain ⟨hKa, k2, y2⟩ := hKo
  have hKa0 := hKa
  obtain ⟨km, k1, y1⟩ := hKa
  refine am_of (by decide) (Nat.le_of_ble_eq_true rfl) (L := [(1, m)]) rfl ?_
  have h0 := hd.2.2.1
  refine aw_aload_n dX7_isLetterHere_0 rfl rfl ⟨by decide, by decide⟩ ?_
  refine aw_gi 32 dX7_isLetterHere_1 fl_RX7_362 (by assumption) rfl rfl hd.2.1 ?_
  refine aw_if_ne (tgt := 32) dX7_isLetterHere_4 rfl (fun h4 => ?_) (fun h4 => absurd h4 (by omega))
  refine aw_iconst dX7_isLetterHere_32 rfl ⟨by decide, by decide⟩ ?_
  exact aw_zret dX7_isLetterHere_33 (by omega) (by decide) (by decide) (qp_i rfl)
theorem sp_need (hK : MdK K m) (M : az_M) (hl : PL M m X s) (c : Int) (hc : sgn c) : AM yX7_need cX7_need 2 none 3 0 0 [(1, m), (0, c)] K M (qv K (fun M' => (∀ e, pSg X c s = .inl e → PD M' m X e s.2.2.1) ∧ (∀ t, pSg X c s = .inr t → PL M' m X t) ∧ frP M M' m)) := by
  have hK0 := hK
  obtain ⟨hKo, k3, k4, k5, k6, k7, k8, k9, k10, k11, k12, k13, k14, k15, k16, k17, k18, k19, k20, k21, k22, k23, k24, k25, y3, y4, y5, y6, y7, y8, y9, y10, y11, y12, y13, y14, y15, y16, y17, y18, y19, y20, y21, y22, y23, y24, y25⟩ := hK
  have hKo0 := hKo
  obtain ⟨hKa, k2, y2⟩ := hKo
  have hKa0 := hKa
  obtain ⟨km, k1, y1⟩ := hKa
  refine am_of (by decide) (Nat.le_of_ble_eq_true rfl) (L := [(1, m), (0, c)]) rfl ?_
  refine aw_aload_n dX7_need_0 rfl rfl ⟨by decide, by decide⟩ ?_
  refine aw_iload_n dX7_need_1 rfl rfl ?_
  refine aw_cV1p dX7_need_2 ml_RX7_368 (by assumption) (by decide) rfl rfl ⟨by decide, by decide, by decide, by decide⟩ (Nat.le_of_ble_eq_true rfl) (sp_isAt hK0 M hl c hc) ?_
  refine aw_if_eq (tgt := 15) dX7_need_5 rfl (fun h5 => ?_) (fun h5 => ?_)
  · have hn := if0 h5
    refine aw_aload_n dX7_need_15 rfl rfl ⟨by decide, by decide⟩ ?_
    refine aw_iconst dX7_need_16 rfl ⟨by decide, by decide⟩ ?_
    refine aw_cV1v dX7_need_17 ml_RX7_374 (by assumption) (by decide) rfl rfl ⟨by decide, by decide, by decide, by decide⟩ (Nat.le_of_ble_eq_true rfl) (sp_fail hK0 M hl 1 (by omega)) (fun M1 hM1 => ?_)
    refine aw_vret dX7_need_20 (by decide) (by decide) ⟨rfl, rfl, fun e q => ?_, fun t q => absurd (pSg_r q).2 hn, hM1.2⟩
    rw [(pSg_l q).1]; exact hM1.1
  · have hs := if1 h5
    refine aw_aload_n dX7_need_8 rfl rfl ⟨by decide, by decide⟩ ?_
    refine aw_cV0v dX7_need_9 ml_RX7_371 (by assumption) (by decide) rfl rfl ⟨by decide, by decide, by decide, by decide⟩ (Nat.le_of_ble_eq_true rfl) (sp_scanP hK0 M hl) (fun M1 hM1 => ?_)
    refine aw_goto (tgt := 20) dX7_need_12 rfl ?_
    refine aw_vret dX7_need_20 (by decide) (by decide) ⟨rfl, rfl, fun e q => absurd hs (pSg_l q).2, fun t q => ?_, frP.ofN hM1.2⟩
    rw [(pSg_r q).1]; exact hl.adv hM1.1 hM1.2
theorem sp_needD (hK : MdK K m) (M : az_M) (hd : PD M m X e n) (c : Int) : AM yX7_need cX7_need 2 none 3 0 0 [(1, m), (0, c)] K M (qv K (fun M' => M' = M)) := by
  have hK0 := hK
  obtain ⟨hKo, k3, k4, k5, k6, k7, k8, k9, k10, k11, k12, k13, k14, k15, k16, k17, k18, k19, k20, k21, k22, k23, k24, k25, y3, y4, y5, y6, y7, y8, y9, y10, y11, y12, y13, y14, y15, y16, y17, y18, y19, y20, y21, y22, y23, y24, y25⟩ := hK
  have hKo0 := hKo
  obtain ⟨hKa, k2, y2⟩ := hKo
  have hKa0 := hKa
  obtain ⟨km, k1, y1⟩ := hKa
  refine am_of (by decide) (Nat.le_of_ble_eq_true rfl) (L := [(1, m), (0, c)]) rfl ?_
  refine aw_aload_n dX7_need_0 rfl rfl ⟨by decide, by decide⟩ ?_
  refine aw_iload_n dX7_need_1 rfl rfl ?_
  refine aw_cV1p dX7_need_2 ml_RX7_368 (by assumption) (by decide) rfl rfl ⟨by decide, by decide, by decide, by decide⟩ (Nat.le_of_ble_eq_true rfl) (sp_isAtD hK0 M hd c) ?_
  refine aw_if_eq (tgt := 15) dX7_need_5 rfl (fun h5 => ?_) (fun h5 => absurd h5 (by omega))
  refine aw_aload_n dX7_need_15 rfl rfl ⟨by decide, by decide⟩ ?_
  refine aw_iconst dX7_need_16 rfl ⟨by decide, by decide⟩ ?_
  refine aw_cV1v dX7_need_17 ml_RX7_374 (by assumption) (by decide) rfl rfl ⟨by decide, by decide, by decide, by decide⟩ (Nat.le_of_ble_eq_true rfl) (sp_failD hK0 M hd 1) (fun M1 hM1 => ?_)
  subst hM1
  exact aw_vret dX7_need_20 (by decide) (by decide) ⟨rfl, rfl, rfl⟩
set_option maxHeartbeats 1000000 in
theorem sp_numeral (hK : MdK K m) (M : az_M) (hl : PL M m X s) (lo hi : Int) : AM yX7_numeral cX7_numeral 4 (some .int) 3 0 0 [(1, m), (0, lo), (0, hi)] K M (qi K (fun z M' => (∀ e, pNm X lo hi s = .inl e → PD M' m X e s.2.2.1) ∧ (∀ a, pNm X lo hi s = .inr a → z = a.1 ∧ PL M' m X a.2) ∧ frP M M' m)) := by
  have hK0 := hK
  obtain ⟨hKo, k3, k4, k5, k6, k7, k8, k9, k10, k11, k12, k13, k14, k15, k16, k17, k18, k19, k20, k21, k22, k23, k24, k25, y3, y4, y5, y6, y7, y8, y9, y10, y11, y12, y13, y14, y15, y16, y17, y18, y19, y20, y21, y22, y23, y24, y25⟩ := hK
  have hKo0 := hKo
  obtain ⟨hKa, k2, y2⟩ := hKo
  have hKa0 := hKa
  obtain ⟨km, k1, y1⟩ := hKa
  refine am_of (by decide) (Nat.le_of_ble_eq_true rfl) (L := [(1, m), (0, lo), (0, hi), (9, 0)]) rfl ?_
  have h2 := hl.2.1
  have h3 := hl.2.2.1
  have dead : ∀ (M1 : az_M) (e : pE), PD M1 m X e s.2.2.1 → frP M M1 m → pNm X lo hi s = .inl e → AW az_P0 (az_Z (qi K (fun z M' => (∀ e, pNm X lo hi s = .inl e → PD M' m X e s.2.2.1) ∧ (∀ a, pNm X lo hi s = .inr a → z = a.1 ∧ PL M' m X a.2) ∧ frP M M' m)) 0 0) (az_rm 3 0 0) yX7_numeral cX7_numeral 4 (some .int) 0 0 33 [(1, m), (0, lo), (0, hi), (9, 0)] [] K M1 := by
    intro M1 e hd f1 hq
    have h0 := hd.2.2.1
    refine aw_aload_n dX7_numeral_33 rfl rfl ⟨by decide, by decide⟩ ?_
    refine aw_gi 29 dX7_numeral_34 fl_RX7_359 (by assumption) rfl rfl rfl ?_
    refine aw_istore_n dX7_numeral_37 rfl (by decide) ?_
    refine aw_aload_n dX7_numeral_38 rfl rfl ⟨by decide, by decide⟩ ?_
    refine aw_gi 32 dX7_numeral_39 fl_RX7_362 (by assumption) rfl rfl hd.2.1 ?_
    refine aw_if_ne (tgt := 49) dX7_numeral_42 rfl (fun h42 => ?_) (fun h42 => absurd h42 (by omega))
    refine aw_iload_n dX7_numeral_49 rfl rfl ?_
    exact aw_iret dX7_numeral_50 (by decide) (by decide) ⟨_, rfl, rfl, fun e' q => (by rw [hq] at q; cases q; exact hd), fun a q => (by rw [hq] at q; cases q), f1⟩
  refine aw_aload_n dX7_numeral_0 rfl rfl ⟨by decide, by decide⟩ ?_
  refine aw_gi 27 dX7_numeral_1 fl_RX7_335 (by assumption) rfl rfl h2.2.2.2.1 ?_
  refine aw_iconst dX7_numeral_4 rfl ⟨by decide, by decide⟩ ?_
  refine aw_icmp_eq (tgt := 16) dX7_numeral_5 rfl (fun h5 => ?_) (fun h5 => ?_)
  · have hnm := h2.2.2.2.2.2 h5
    have hnn : ∀ a, pNm X lo hi s = .inl a → ¬ (lo ≤ nm X s.1 ∧ nm X s.1 ≤ hi) ∧ a = (2, s.1) := fun a q => by
      rcases pNm_l q with ⟨r, -⟩ | ⟨-, r1, r2⟩
      · exact absurd h5 r
      · exact ⟨r1, r2⟩
    refine aw_aload_n dX7_numeral_16 rfl rfl ⟨by decide, by decide⟩ ?_
    refine aw_gi 29 dX7_numeral_17 fl_RX7_359 (by assumption) rfl rfl hnm ?_
    refine aw_iload_n dX7_numeral_20 rfl rfl ?_
    refine aw_iload_n dX7_numeral_21 rfl rfl ?_
    refine aw_cS3p dX7_numeral_22 ml_RX7_94 ⟨by decide, by decide, by decide, by decide⟩ (Nat.le_of_ble_eq_true rfl) (sp_isIn K M (nm X s.1) lo hi) ?_
    refine aw_if_ne (tgt := 33) dX7_numeral_25 rfl (fun h25 => ?_) (fun h25 => ?_)
    · have hin := if1 h25
      refine aw_aload_n dX7_numeral_33 rfl rfl ⟨by decide, by decide⟩ ?_
      refine aw_gi 29 dX7_numeral_34 fl_RX7_359 (by assumption) rfl rfl hnm ?_
      refine aw_istore_n dX7_numeral_37 rfl (by decide) ?_
      refine aw_aload_n dX7_numeral_38 rfl rfl ⟨by decide, by decide⟩ ?_
      refine aw_gi 32 dX7_numeral_39 fl_RX7_362 (by assumption) rfl rfl h3 ?_
      refine aw_if_ne (tgt := 49) dX7_numeral_42 rfl (fun h42 => absurd h42 (by omega)) (fun h42 => ?_)
      refine aw_aload_n dX7_numeral_45 rfl rfl ⟨by decide, by decide⟩ ?_
      refine aw_cV0v dX7_numeral_46 ml_RX7_371 (by assumption) (by decide) rfl rfl ⟨by decide, by decide, by decide, by decide⟩ (Nat.le_of_ble_eq_true rfl) (sp_scanP hK0 M hl) (fun M1 hM1 => ?_)
      refine aw_iload_n dX7_numeral_49 rfl rfl ?_
      refine aw_iret dX7_numeral_50 (by decide) (by decide) ⟨_, rfl, rfl, fun e q => absurd hin (hnn e q).1, fun a q => ?_, frP.ofN hM1.2⟩
      rw [(pNm_r q).1]
      exact ⟨rfl, hl.adv hM1.1 hM1.2⟩
    · have hno := if0 h25
      refine aw_aload_n dX7_numeral_28 rfl rfl ⟨by decide, by decide⟩ ?_
      refine aw_iconst dX7_numeral_29 rfl ⟨by decide, by decide⟩ ?_
      refine aw_cV1v dX7_numeral_30 ml_RX7_374 (by assumption) (by decide) rfl rfl ⟨by decide, by decide, by decide, by decide⟩ (Nat.le_of_ble_eq_true rfl) (sp_fail hK0 M hl 2 (by omega)) (fun M1 hM1 => ?_)
      refine dead M1 _ hM1.1 hM1.2 ?_
      unfold pNm
      rw [if_neg (fun q => q h5), if_pos hno]
  · refine aw_aload_n dX7_numeral_8 rfl rfl ⟨by decide, by decide⟩ ?_
    refine aw_iconst dX7_numeral_9 rfl ⟨by decide, by decide⟩ ?_
    refine aw_cV1v dX7_numeral_10 ml_RX7_374 (by assumption) (by decide) rfl rfl ⟨by decide, by decide, by decide, by decide⟩ (Nat.le_of_ble_eq_true rfl) (sp_fail hK0 M hl 1 (by omega)) (fun M1 hM1 => ?_)
    refine aw_goto (tgt := 33) dX7_numeral_13 rfl ?_
    refine dead M1 _ hM1.1 hM1.2 ?_
    unfold pNm
    rw [if_pos h5]
theorem sp_numeralD (hK : MdK K m) (M : az_M) (hd : PD M m X e n) (lo hi : Int) : AM yX7_numeral cX7_numeral 4 (some .int) 3 0 0 [(1, m), (0, lo), (0, hi)] K M (qi K (fun z M' => M' = M)) := by
  have hK0 := hK
  obtain ⟨hKo, k3, k4, k5, k6, k7, k8, k9, k10, k11, k12, k13, k14, k15, k16, k17, k18, k19, k20, k21, k22, k23, k24, k25, y3, y4, y5, y6, y7, y8, y9, y10, y11, y12, y13, y14, y15, y16, y17, y18, y19, y20, y21, y22, y23, y24, y25⟩ := hK
  have hKo0 := hKo
  obtain ⟨hKa, k2, y2⟩ := hKo
  have hKa0 := hKa
  obtain ⟨km, k1, y1⟩ := hKa
  refine am_of (by decide) (Nat.le_of_ble_eq_true rfl) (L := [(1, m), (0, lo), (0, hi), (9, 0)]) rfl ?_
  have h0 := hd.2.2.1
  have fin : AW az_P0 (az_Z (qi K (fun z M' => M' = M)) 0 0) (az_rm 3 0 0) yX7_numeral cX7_numeral 4 (some .int) 0 0 33 [(1, m), (0, lo), (0, hi), (9, 0)] [] K M := by
    refine aw_aload_n dX7_numeral_33 rfl rfl ⟨by decide, by decide⟩ ?_
    refine aw_gi 29 dX7_numeral_34 fl_RX7_359 (by assumption) rfl rfl rfl ?_
    refine aw_istore_n dX7_numeral_37 rfl (by decide) ?_
    refine aw_aload_n dX7_numeral_38 rfl rfl ⟨by decide, by decide⟩ ?_
    refine aw_gi 32 dX7_numeral_39 fl_RX7_362 (by assumption) rfl rfl hd.2.1 ?_
    refine aw_if_ne (tgt := 49) dX7_numeral_42 rfl (fun h42 => ?_) (fun h42 => absurd h42 (by omega))
    refine aw_iload_n dX7_numeral_49 rfl rfl ?_
    exact aw_iret dX7_numeral_50 (by decide) (by decide) ⟨_, rfl, rfl, rfl⟩
  refine aw_aload_n dX7_numeral_0 rfl rfl ⟨by decide, by decide⟩ ?_
  refine aw_gi 27 dX7_numeral_1 fl_RX7_335 (by assumption) rfl rfl rfl ?_
  refine aw_iconst dX7_numeral_4 rfl ⟨by decide, by decide⟩ ?_
  refine aw_icmp_eq (tgt := 16) dX7_numeral_5 rfl (fun h5 => ?_) (fun h5 => ?_)
  · refine aw_aload_n dX7_numeral_16 rfl rfl ⟨by decide, by decide⟩ ?_
    refine aw_gi 29 dX7_numeral_17 fl_RX7_359 (by assumption) rfl rfl rfl ?_
    refine aw_iload_n dX7_numeral_20 rfl rfl ?_
    refine aw_iload_n dX7_numeral_21 rfl rfl ?_
    refine aw_cS3p dX7_numeral_22 ml_RX7_94 ⟨by decide, by decide, by decide, by decide⟩ (Nat.le_of_ble_eq_true rfl) (sp_isIn K M (M m 29) lo hi) ?_
    refine aw_if_ne (tgt := 33) dX7_numeral_25 rfl (fun h25 => ?_) (fun h25 => ?_)
    · exact fin
    · refine aw_aload_n dX7_numeral_28 rfl rfl ⟨by decide, by decide⟩ ?_
      refine aw_iconst dX7_numeral_29 rfl ⟨by decide, by decide⟩ ?_
      refine aw_cV1v dX7_numeral_30 ml_RX7_374 (by assumption) (by decide) rfl rfl ⟨by decide, by decide, by decide, by decide⟩ (Nat.le_of_ble_eq_true rfl) (sp_failD hK0 M hd 2) (fun M1 hM1 => ?_)
      subst hM1
      exact fin
  · refine aw_aload_n dX7_numeral_8 rfl rfl ⟨by decide, by decide⟩ ?_
    refine aw_iconst dX7_numeral_9 rfl ⟨by decide, by decide⟩ ?_
    refine aw_cV1v dX7_numeral_10 ml_RX7_374 (by assumption) (by decide) rfl rfl ⟨by decide, by decide, by decide, by decide⟩ (Nat.le_of_ble_eq_true rfl) (sp_failD hK0 M hd 1) (fun M1 hM1 => ?_)
    subst hM1
    refine aw_goto (tgt := 33) dX7_numeral_13 rfl ?_
    exact fin
set_option maxHeartbeats 1000000 in
theorem sp_letter (hK : MdK K m) (M : az_M) (hl : PL M m X s) : AM yX7_letter cX7_letter 2 (some .int) 3 0 0 [(1, m)] K M (qi K (fun z M' => (∀ e, pRt X s = .inl e → PD M' m X e s.2.2.1) ∧ (∀ a, pRt X s = .inr a → z = a.1 ∧ PL M' m X a.2) ∧ frP M M' m)) := by
  have hK0 := hK
  obtain ⟨hKo, k3, k4, k5, k6, k7, k8, k9, k10, k11, k12, k13, k14, k15, k16, k17, k18, k19, k20, k21, k22, k23, k24, k25, y3, y4, y5, y6, y7, y8, y9, y10, y11, y12, y13, y14, y15, y16, y17, y18, y19, y20, y21, y22, y23, y24, y25⟩ := hK
  have hKo0 := hKo
  obtain ⟨hKa, k2, y2⟩ := hKo
  have hKa0 := hKa
  obtain ⟨km, k1, y1⟩ := hKa
  refine am_of (by decide) (Nat.le_of_ble_eq_true rfl) (L := [(1, m), (9, 0)]) rfl ?_
  have h2 := hl.2.1
  have h3 := hl.2.2.1
  refine aw_aload_n dX7_letter_0 rfl rfl ⟨by decide, by decide⟩ ?_
  refine aw_cV0p dX7_letter_1 ml_RX7_377 (by assumption) (by decide) rfl rfl ⟨by decide, by decide, by decide, by decide⟩ (Nat.le_of_ble_eq_true rfl) (sp_isLetterHere hK0 M hl) ?_
  refine aw_if_ne (tgt := 12) dX7_letter_4 rfl (fun h4 => ?_) (fun h4 => ?_)
  · have hr := if1 h4
    refine aw_aload_n dX7_letter_12 rfl rfl ⟨by decide, by decide⟩ ?_
    refine aw_gi 28 dX7_letter_13 fl_RX7_356 (by assumption) rfl rfl (h2.2.2.2.2.1 hr.1) ?_
    refine aw_iconst dX7_letter_16 rfl ⟨by decide, by decide⟩ ?_
    refine aw_isub dX7_letter_17 (az_wr_id (by omega) (by omega)) ?_
    refine aw_istore_n dX7_letter_18 rfl (by decide) ?_
    refine aw_aload_n dX7_letter_19 rfl rfl ⟨by decide, by decide⟩ ?_
    refine aw_gi 32 dX7_letter_20 fl_RX7_362 (by assumption) rfl rfl h3 ?_
    refine aw_if_ne (tgt := 30) dX7_letter_23 rfl (fun h23 => absurd h23 (by omega)) (fun h23 => ?_)
    refine aw_aload_n dX7_letter_26 rfl rfl ⟨by decide, by decide⟩ ?_
    refine aw_cV0v dX7_letter_27 ml_RX7_371 (by assumption) (by decide) rfl rfl ⟨by decide, by decide, by decide, by decide⟩ (Nat.le_of_ble_eq_true rfl) (sp_scanP hK0 M hl) (fun M1 hM1 => ?_)
    refine aw_iload_n dX7_letter_30 rfl rfl ?_
    refine aw_iret dX7_letter_31 (by decide) (by decide) ⟨_, rfl, rfl, fun e q => absurd hr (pRt_l q).2, fun a q => ?_, frP.ofN hM1.2⟩
    rw [(pRt_r q).1]
    exact ⟨rfl, hl.adv hM1.1 hM1.2⟩
  · have hr := if0 h4
    refine aw_aload_n dX7_letter_7 rfl rfl ⟨by decide, by decide⟩ ?_
    refine aw_iconst dX7_letter_8 rfl ⟨by decide, by decide⟩ ?_
    refine aw_cV1v dX7_letter_9 ml_RX7_374 (by assumption) (by decide) rfl rfl ⟨by decide, by decide, by decide, by decide⟩ (Nat.le_of_ble_eq_true rfl) (sp_fail hK0 M hl 1 (by omega)) (fun M1 hM1 => ?_)
    have h0 := hM1.1.2.1
    refine aw_aload_n dX7_letter_12 rfl rfl ⟨by decide, by decide⟩ ?_
    refine aw_gi 28 dX7_letter_13 fl_RX7_356 (by assumption) rfl rfl rfl ?_
    refine aw_iconst dX7_letter_16 rfl ⟨by decide, by decide⟩ ?_
    refine aw_isub dX7_letter_17 rfl ?_
    refine aw_istore_n dX7_letter_18 rfl (by decide) ?_
    refine aw_aload_n dX7_letter_19 rfl rfl ⟨by decide, by decide⟩ ?_
    refine aw_gi 32 dX7_letter_20 fl_RX7_362 (by assumption) rfl rfl h0 ?_
    refine aw_if_ne (tgt := 30) dX7_letter_23 rfl (fun h23 => ?_) (fun h23 => absurd h23 (by omega))
    refine aw_iload_n dX7_letter_30 rfl rfl ?_
    refine aw_iret dX7_letter_31 (by decide) (by decide) ⟨_, rfl, rfl, fun e q => ?_, fun a q => absurd (pRt_r q).2 hr, hM1.2⟩
    rw [(pRt_l q).1]; exact hM1.1
theorem sp_letterD (hK : MdK K m) (M : az_M) (hd : PD M m X e n) : AM yX7_letter cX7_letter 2 (some .int) 3 0 0 [(1, m)] K M (qi K (fun z M' => M' = M)) := by
  have hK0 := hK
  obtain ⟨hKo, k3, k4, k5, k6, k7, k8, k9, k10, k11, k12, k13, k14, k15, k16, k17, k18, k19, k20, k21, k22, k23, k24, k25, y3, y4, y5, y6, y7, y8, y9, y10, y11, y12, y13, y14, y15, y16, y17, y18, y19, y20, y21, y22, y23, y24, y25⟩ := hK
  have hKo0 := hKo
  obtain ⟨hKa, k2, y2⟩ := hKo
  have hKa0 := hKa
  obtain ⟨km, k1, y1⟩ := hKa
  refine am_of (by decide) (Nat.le_of_ble_eq_true rfl) (L := [(1, m), (9, 0)]) rfl ?_
  have h0 := hd.2.2.1
  refine aw_aload_n dX7_letter_0 rfl rfl ⟨by decide, by decide⟩ ?_
  refine aw_cV0p dX7_letter_1 ml_RX7_377 (by assumption) (by decide) rfl rfl ⟨by decide, by decide, by decide, by decide⟩ (Nat.le_of_ble_eq_true rfl) (sp_isLetterHereD hK0 M hd) ?_
  refine aw_if_ne (tgt := 12) dX7_letter_4 rfl (fun h4 => absurd h4 (by omega)) (fun h4 => ?_)
  refine aw_aload_n dX7_letter_7 rfl rfl ⟨by decide, by decide⟩ ?_
  refine aw_iconst dX7_letter_8 rfl ⟨by decide, by decide⟩ ?_
  refine aw_cV1v dX7_letter_9 ml_RX7_374 (by assumption) (by decide) rfl rfl ⟨by decide, by decide, by decide, by decide⟩ (Nat.le_of_ble_eq_true rfl) (sp_failD hK0 M hd 1) (fun M1 hM1 => ?_)
  subst hM1
  refine aw_aload_n dX7_letter_12 rfl rfl ⟨by decide, by decide⟩ ?_
  refine aw_gi 28 dX7_letter_13 fl_RX7_356 (by assumption) rfl rfl rfl ?_
  refine aw_iconst dX7_letter_16 rfl ⟨by decide, by decide⟩ ?_
  refine aw_isub dX7_letter_17 rfl ?_
  refine aw_istore_n dX7_letter_18 rfl (by decide) ?_
  refine aw_aload_n dX7_letter_19 rfl rfl ⟨by decide, by decide⟩ ?_
  refine aw_gi 32 dX7_letter_20 fl_RX7_362 (by assumption) rfl rfl hd.2.1 ?_
  refine aw_if_ne (tgt := 30) dX7_letter_23 rfl (fun h23 => ?_) (fun h23 => absurd h23 (by omega))
  refine aw_iload_n dX7_letter_30 rfl rfl ?_
  exact aw_iret dX7_letter_31 (by decide) (by decide) ⟨_, rfl, rfl, rfl⟩
def rwU (F : Int → Int) (n v : Int) : Int → Int := fun i => if i = n then v else F i
def layP (M M' : az_M) (m n w a b c : Int) : Prop := M' (m + 9) = rwU (M (m + 9)) n w ∧ M' (m + 10) = rwU (M (m + 10)) n a ∧ M' (m + 11) = rwU (M (m + 11)) n b ∧ M' (m + 12) = rwU (M (m + 12)) n c ∧ M' (m + 13) = rwU (M (m + 13)) n (n + 1) ∧ (∀ x, x ≠ m → x < m + 9 ∨ m + 13 < x → M' x = M x) ∧ M' m = rwU (M m) 22 (n + 1)
set_option maxHeartbeats 1000000 in
theorem sp_lay (hK : MdK K m) (M : az_M) (n : Int) (hn : M m 22 = n) (n0 : 0 ≤ n) (n1 : n ≤ 40) (w a b c : Int) : AM yX7_lay cX7_lay 5 none 0 0 0 [(1, m), (0, w), (0, a), (0, b), (0, c)] K M (qv K (fun M' => layP M M' m n w a b c)) := by
  have hK0 := hK
  obtain ⟨hKo, k3, k4, k5, k6, k7, k8, k9, k10, k11, k12, k13, k14, k15, k16, k17, k18, k19, k20, k21, k22, k23, k24, k25, y3, y4, y5, y6, y7, y8, y9, y10, y11, y12, y13, y14, y15, y16, y17, y18, y19, y20, y21, y22, y23, y24, y25⟩ := hK
  have hKo0 := hKo
  obtain ⟨hKa, k2, y2⟩ := hKo
  have hKa0 := hKa
  obtain ⟨km, k1, y1⟩ := hKa
  refine am_of (by decide) (Nat.le_of_ble_eq_true rfl) (L := [(1, m), (0, w), (0, a), (0, b), (0, c)]) rfl ?_
  have v15 : az_up M (m + 9) n w m 22 = n := by rw [up_oth _ _ _ (by omega)]; exact hn
  have v25 : az_up (az_up M (m + 9) n w) (m + 10) n a m 22 = n := by rw [up_oth _ _ _ (by omega)]; exact v15
  have v35 : az_up (az_up (az_up M (m + 9) n w) (m + 10) n a) (m + 11) n b m 22 = n := by rw [up_oth _ _ _ (by omega)]; exact v25
  have v43 : az_up (az_up (az_up (az_up M (m + 9) n w) (m + 10) n a) (m + 11) n b) (m + 12) n c m 22 = n := by rw [up_oth _ _ _ (by omega)]; exact v35
  have v56 : az_up (az_up (az_up (az_up (az_up M (m + 9) n w) (m + 10) n a) (m + 11) n b) (m + 12) n c) m 22 (n + 1) m 22 = n + 1 := az_up_s _ _ _ _
  refine aw_aload_n dX7_lay_0 rfl rfl ⟨by decide, by decide⟩ ?_
  refine aw_gzF 12 dX7_lay_1 fl_RX7_35 (by assumption) rfl rfl (by assumption) ?_
  refine aw_aload_n dX7_lay_4 rfl rfl ⟨by decide, by decide⟩ ?_
  refine aw_gi 22 dX7_lay_5 fl_RX7_380 (by assumption) rfl rfl hn ?_
  refine aw_iload_n dX7_lay_8 rfl rfl ?_
  refine aw_iast dX7_lay_9 (by assumption) (by omega) (by omega) ?_
  refine aw_aload_n dX7_lay_10 rfl rfl ⟨by decide, by decide⟩ ?_
  refine aw_gzF 13 dX7_lay_11 fl_RX7_38 (by assumption) rfl rfl (by assumption) ?_
  refine aw_aload_n dX7_lay_14 rfl rfl ⟨by decide, by decide⟩ ?_
  refine aw_gi 22 dX7_lay_15 fl_RX7_380 (by assumption) rfl rfl v15 ?_
  refine aw_iload_n dX7_lay_18 rfl rfl ?_
  refine aw_iast dX7_lay_19 (by assumption) (by omega) (by omega) ?_
  refine aw_aload_n dX7_lay_20 rfl rfl ⟨by decide, by decide⟩ ?_
  refine aw_gzF 14 dX7_lay_21 fl_RX7_41 (by assumption) rfl rfl (by assumption) ?_
  refine aw_aload_n dX7_lay_24 rfl rfl ⟨by decide, by decide⟩ ?_
  refine aw_gi 22 dX7_lay_25 fl_RX7_380 (by assumption) rfl rfl v25 ?_
  refine aw_iload_n dX7_lay_28 rfl rfl ?_
  refine aw_iast dX7_lay_29 (by assumption) (by omega) (by omega) ?_
  refine aw_aload_n dX7_lay_30 rfl rfl ⟨by decide, by decide⟩ ?_
  refine aw_gzF 15 dX7_lay_31 fl_RX7_44 (by assumption) rfl rfl (by assumption) ?_
  refine aw_aload_n dX7_lay_34 rfl rfl ⟨by decide, by decide⟩ ?_
  refine aw_gi 22 dX7_lay_35 fl_RX7_380 (by assumption) rfl rfl v35 ?_
  refine aw_iload dX7_lay_38 rfl ?_
  refine aw_iast dX7_lay_40 (by assumption) (by omega) (by omega) ?_
  refine aw_aload_n dX7_lay_41 rfl rfl ⟨by decide, by decide⟩ ?_
  refine aw_dup dX7_lay_42 ?_
  refine aw_gi 22 dX7_lay_43 fl_RX7_380 (by assumption) rfl rfl v43 ?_
  refine aw_iconst dX7_lay_46 rfl ⟨by decide, by decide⟩ ?_
  refine aw_iadd dX7_lay_47 (az_wr_id (by omega) (by omega)) ?_
  refine aw_pi 22 dX7_lay_48 fl_RX7_380 (by assumption) rfl rfl ?_
  refine aw_aload_n dX7_lay_51 rfl rfl ⟨by decide, by decide⟩ ?_
  refine aw_gzF 16 dX7_lay_52 fl_RX7_47 (by assumption) rfl rfl (by assumption) ?_
  refine aw_aload_n dX7_lay_55 rfl rfl ⟨by decide, by decide⟩ ?_
  refine aw_gi 22 dX7_lay_56 fl_RX7_380 (by assumption) rfl rfl v56 ?_
  refine aw_iconst dX7_lay_59 rfl ⟨by decide, by decide⟩ ?_
  refine aw_isub dX7_lay_60 (show az_wr (n + 1 - 1) = n by rw [az_wr_id (by omega) (by omega)]; omega) ?_
  refine aw_aload_n dX7_lay_61 rfl rfl ⟨by decide, by decide⟩ ?_
  refine aw_gi 22 dX7_lay_62 fl_RX7_380 (by assumption) rfl rfl v56 ?_
  refine aw_iast dX7_lay_65 (by assumption) (by omega) (by omega) ?_
  refine aw_vret dX7_lay_66 (by decide) (by decide) ⟨rfl, rfl, ?_, ?_, ?_, ?_, ?_, fun x x0 x1 => ?_, ?_⟩
  · rw [up_oth _ _ _ (by omega), up_oth _ _ _ (by omega), up_oth _ _ _ (by omega), up_oth _ _ _ (by omega), up_oth _ _ _ (by omega), up_row]; rfl
  · rw [up_oth _ _ _ (by omega), up_oth _ _ _ (by omega), up_oth _ _ _ (by omega), up_oth _ _ _ (by omega), up_row, up_oth _ _ _ (by omega)]; rfl
  · rw [up_oth _ _ _ (by omega), up_oth _ _ _ (by omega), up_oth _ _ _ (by omega), up_row, up_oth _ _ _ (by omega), up_oth _ _ _ (by omega)]; rfl
  · rw [up_oth _ _ _ (by omega), up_oth _ _ _ (by omega), up_row, up_oth _ _ _ (by omega), up_oth _ _ _ (by omega), up_oth _ _ _ (by omega)]; rfl
  · rw [up_row, up_oth _ _ _ (by omega), up_oth _ _ _ (by omega), up_oth _ _ _ (by omega), up_oth _ _ _ (by omega), up_oth _ _ _ (by omega)]; rfl
  · rw [up_oth _ _ _ (by omega), up_oth _ _ _ x0, up_oth _ _ _ (by omega), up_oth _ _ _ (by omega), up_oth _ _ _ (by omega), up_oth _ _ _ (by omega)]
  · rw [up_oth _ _ _ (by omega), up_row, up_oth _ _ _ (by omega), up_oth _ _ _ (by omega), up_oth _ _ _ (by omega), up_oth _ _ _ (by omega)]; rfl
theorem rwU_s (F : Int → Int) (n v : Int) : rwU F n v n = v := if_pos rfl
theorem rwU_n (F : Int → Int) {n i : Int} (v : Int) (h : i ≠ n) : rwU F n v i = F i := if_neg h
theorem frP.lay {M M' : az_M} {w a b c : Int} (h : layP M M' m n w a b c) : frP M M' m := ⟨fun x x1 x2 _ => h.2.2.2.2.2.1 x x1 x2, fun j j1 _ _ _ _ => by rw [h.2.2.2.2.2.2, rwU_n _ _ j1]⟩
theorem PD.lay {M M' : az_M} {w a b c : Int} (hd : PD M m X e n) (h : layP M M' m n w a b c) : PD M' m X e (n + 1) := by
  obtain ⟨h1, h2, h3, h4, h5, h6⟩ := hd
  obtain ⟨-, -, -, -, -, l6, l7⟩ := h
  refine ⟨h1.fr (by rw [l7, rwU_n _ _ (by omega)]) (l6 _ (by omega) (by omega)), ?_, h3, ?_, ?_, by omega⟩
  · rw [l7, rwU_n _ _ (by omega)]; exact h2
  · rw [l7, rwU_n _ _ (by omega)]; exact h4
  · rw [l7, rwU_s]
theorem PL.lay {M M' : az_M} {w a b c k r o u d : Int} (hl : PL M m X s) (hn : s.2.2.1 ≤ 39) (h : layP M M' m s.2.2.1 w a b c) (hr : rowP k r o u w a b c) : PL M' m X (addD s k r o u d) := by
  obtain ⟨h1, h2, h3, h4, h5, h6, h7, h8, h9⟩ := hl
  obtain ⟨l1, l2, l3, l4, l5, l6, l7⟩ := h
  have e : ∀ j, j ≠ 22 → M' m j = M m j := fun j hj => by rw [l7, rwU_n _ _ hj]
  refine ⟨h1.fr (e _ (by omega)) (l6 _ (by omega) (by omega)), ⟨h2.1, by rw [e _ (by omega)]; exact h2.2.1, by rw [e _ (by omega)]; exact h2.2.2.1, by rw [e _ (by omega)]; exact h2.2.2.2.1, fun q => by rw [e _ (by omega)]; exact h2.2.2.2.2.1 q, fun q => by rw [e _ (by omega)]; exact h2.2.2.2.2.2 q⟩, by rw [e _ (by omega)]; exact h3, by rw [e _ (by omega)]; exact h4, by rw [l7, rwU_s]; rfl, fun i i0 i1 => ?_, fun k k0 k1 => by rw [l6 _ (by omega) (by omega)]; exact h7 k k0 k1, ⟨h8.1, h8.2.1, (e _ (by omega)).trans h8.2.2⟩, ?_⟩
  · have i1' : i < s.2.2.1 + 1 := i1
    unfold refI
    rw [l1, show m + 9 + 1 = m + 10 by omega, l2, show m + 9 + 2 = m + 11 by omega, l3, show m + 9 + 3 = m + 12 by omega, l4, show m + 9 + 4 = m + 13 by omega, l5]
    by_cases q : i = s.2.2.1
    · subst q
      simp only [rwU_s]
      have f0 : (addD s k r o u d).2.2.2.1 s.2.2.1 0 = k := by show itU _ _ _ _ _ _ _ _ _ = _; unfold itU; simp
      have f1 : (addD s k r o u d).2.2.2.1 s.2.2.1 1 = r := by show itU _ _ _ _ _ _ _ _ _ = _; unfold itU; simp
      have f2 : (addD s k r o u d).2.2.2.1 s.2.2.1 2 = o := by show itU _ _ _ _ _ _ _ _ _ = _; unfold itU; simp
      have f3 : (addD s k r o u d).2.2.2.1 s.2.2.1 3 = u := by show itU _ _ _ _ _ _ _ _ _ = _; unfold itU; simp
      have f4 : (addD s k r o u d).2.2.2.1 s.2.2.1 4 = s.2.2.1 + 1 := by show itU _ _ _ _ _ _ _ _ _ = _; unfold itU; simp
      rw [f0, f1, f2, f3, f4]
      exact ⟨hr, rfl⟩
    · have hi := h6 i i0 (by omega)
      unfold refI at hi
      rw [show m + 9 + 1 = m + 10 by omega, show m + 9 + 2 = m + 11 by omega, show m + 9 + 3 = m + 12 by omega, show m + 9 + 4 = m + 13 by omega] at hi
      rw [rwU_n _ _ q, rwU_n _ _ q, rwU_n _ _ q, rwU_n _ _ q, rwU_n _ _ q]
      have f : ∀ j, (addD s k r o u d).2.2.2.1 i j = s.2.2.2.1 i j := fun j => by show itU _ _ _ _ _ _ _ _ _ = _; unfold itU; rw [if_neg q]
      rw [f, f, f, f, f]
      exact hi
  · show 0 ≤ s.2.2.1 + 1 ∧ s.2.2.1 + 1 ≤ 40
    omega
end RD
