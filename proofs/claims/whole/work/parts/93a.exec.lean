/-! a program run, as a value -/
set_option maxRecDepth 20000
/-- the heap, how many goes, whether it has stopped -/
abbrev rSx : Type := hSt × Int × Int
abbrev canI (it : Int → Int → Int) (i : Int) (S : hSt) : Prop := (it i 0 = 2 → 0 ≤ S.1 (715 + it i 2) ∧ 0 ≤ it i 3 ∧ it i 3 < S.1 (128 + S.1 (715 + it i 2))) ∧ (it i 0 = 3 → 0 ≤ S.1 (715 + it i 1) ∧ 0 ≤ it i 3 ∧ it i 3 < S.1 (128 + S.1 (715 + it i 1)))
def doI (it : Int → Int → Int) (i : Int) (S : hSt) : hSt := if it i 0 = 0 then bldS S (it i 1) (it i 3) else if it i 0 = 1 then nameS S (715 + it i 1) (namV S (it i 2)) else if it i 0 = 2 then fetS S (it i 1) (it i 2) (it i 3) else if it i 0 = 3 then putS S (it i 1) (it i 3) (it i 2) else advS (it i 3).toNat S
def go1 (it : Int → Int → Int) (i : Int) (st : rSx) : rSx := if ¬ canI it i st.1 then (st.1, st.2.1, 1) else (doI it i st.1, st.2.1 + 1, if it i 0 = 0 ∧ bldA st.1 (it i 3) = -2 ∨ 300 ≤ st.2.1 + 1 then 1 else 0)
def itr : Nat → (rSx → rSx) → rSx → rSx
  | 0, _, st => st
  | k + 1, f, st => itr k f (f st)
def x1 (it : Int → Int → Int) (ex : Int → Int → rSx → rSx) (lo : Int) (st : rSx) : rSx := if it lo 0 = 5 then itr (it lo 3).toNat (ex (lo + 1) (it lo 4)) st else if it lo 0 = 6 then (if 0 ≤ st.1.1 (715 + it lo 1) then ex (lo + 1) (it lo 4) st else st) else go1 it lo st
def exB (it : Int → Int → Int) : Nat → Int → Int → rSx → rSx
  | 0, _, _, st => st
  | F + 1, lo, hi, st => if lo < hi ∧ st.2.2 = 0 then exB it F (it lo 4) hi (x1 it (exB it F) lo st) else st
def ex (it : Int → Int → Int) (lo hi : Int) (st : rSx) : rSx := exB it (hi - lo).toNat lo hi st
/-- a stretch of items that stand one behind another -/
def RG (it : Int → Int → Int) (n lo hi : Int) : Prop := 0 ≤ lo ∧ hi ≤ n ∧ ∀ j, lo ≤ j → j < hi → it j 4 ≤ hi
section EX
variable {it : Int → Int → Int} {n : Int}
theorem RG.inn (hN : NP it n) {lo hi : Int} (h : RG it n lo hi) (hl : lo < hi) : RG it n (lo + 1) (it lo 4) ∧ RG it n (it lo 4) hi ∧ lo < it lo 4 ∧ it lo 4 ≤ hi := by
  obtain ⟨h1, h2, h3⟩ := h
  obtain ⟨a, b, c, d, e⟩ := hN lo h1 (by omega)
  have := h3 lo (by omega) hl
  exact ⟨⟨by omega, by omega, fun j j0 j1 => (e j (by omega) j1).1⟩, ⟨by omega, h2, fun j j0 j1 => h3 j (by omega) j1⟩, by omega, this⟩
theorem itr_congr {f g : rSx → rSx} (h : ∀ st, f st = g st) (k : Nat) (st : rSx) : itr k f st = itr k g st := by rw [show f = g from funext h]
theorem exB_fuel (hN : NP it n) : ∀ (F F' : Nat) (lo hi : Int) (st : rSx), RG it n lo hi → hi - lo ≤ F → hi - lo ≤ F' → exB it F lo hi st = exB it F' lo hi st := by
  intro F
  induction F with
  | zero =>
    intro F' lo hi st hr h1 h2
    cases F' with
    | zero => rfl
    | succ F' =>
      show st = if lo < hi ∧ st.2.2 = 0 then exB it F' (it lo 4) hi (x1 it (exB it F') lo st) else st
      rw [if_neg (by omega)]
  | succ F ih =>
    intro F' lo hi st hr h1 h2
    cases F' with
    | zero =>
      show (if lo < hi ∧ st.2.2 = 0 then exB it F (it lo 4) hi (x1 it (exB it F) lo st) else st) = st
      rw [if_neg (by omega)]
    | succ F' =>
      show (if lo < hi ∧ st.2.2 = 0 then exB it F (it lo 4) hi (x1 it (exB it F) lo st) else st) = (if lo < hi ∧ st.2.2 = 0 then exB it F' (it lo 4) hi (x1 it (exB it F') lo st) else st)
      by_cases c : lo < hi ∧ st.2.2 = 0
      · rw [if_pos c, if_pos c]
        obtain ⟨r1, r2, r3, r4⟩ := hr.inn hN c.1
        have e : ∀ st, exB it F (lo + 1) (it lo 4) st = exB it F' (lo + 1) (it lo 4) st := fun st => ih F' _ _ st r1 (by omega) (by omega)
        have ex : x1 it (exB it F) lo st = x1 it (exB it F') lo st := by
          unfold x1
          rw [itr_congr e, e]
        rw [ex]
        exact ih F' _ _ _ r2 (by omega) (by omega)
      · rw [if_neg c, if_neg c]
theorem ex_stop {lo hi : Int} {st : rSx} (h : ¬ (lo < hi ∧ st.2.2 = 0)) : ex it lo hi st = st := by
  unfold ex
  cases (hi - lo).toNat with
  | zero => rfl
  | succ F =>
    show (if lo < hi ∧ st.2.2 = 0 then exB it F (it lo 4) hi (x1 it (exB it F) lo st) else st) = st
    rw [if_neg h]
theorem ex_step (hN : NP it n) {lo hi : Int} {st : rSx} (hr : RG it n lo hi) (h : lo < hi) (hs : st.2.2 = 0) : ex it lo hi st = ex it (it lo 4) hi (x1 it (ex it) lo st) := by
  obtain ⟨r1, r2, r3, r4⟩ := hr.inn hN h
  obtain ⟨F, hF⟩ : ∃ F : Nat, (hi - lo).toNat = F + 1 := ⟨(hi - lo).toNat - 1, by omega⟩
  unfold ex
  rw [hF]
  show (if lo < hi ∧ st.2.2 = 0 then exB it F (it lo 4) hi (x1 it (exB it F) lo st) else st) = _
  rw [if_pos ⟨h, hs⟩]
  have e : ∀ st, exB it F (lo + 1) (it lo 4) st = ex it (lo + 1) (it lo 4) st := fun st => exB_fuel hN _ _ _ _ st r1 (by omega) (by omega)
  have ex' : x1 it (exB it F) lo st = x1 it (ex it) lo st := by
    unfold x1
    rw [itr_congr e, e]
  rw [ex']
  exact exB_fuel hN _ _ _ _ _ r2 (by omega) (by omega)
/-- what holds of a run -/
def RW (c : Int) (st : rSx) : Prop := WL st.1 ∧ 0 ≤ st.1.1 729 ∧ st.1.1 729 ≤ c + 5 * st.2.1 ∧ (0 ≤ st.2.1 ∧ st.2.1 ≤ 300) ∧ (st.2.2 = 0 ∨ st.2.2 = 1) ∧ (st.2.2 = 0 → st.2.1 < 300)
theorem doI_wf {i : Int} {S : hSt} (hw : WL S) (ho : okI (it i 0) (it i 1) (it i 2) (it i 3)) (hk : it i 0 < 5) (hc : canI it i S) : WL (doI it i S) ∧ S.1 729 ≤ (doI it i S).1 729 ∧ (doI it i S).1 729 ≤ S.1 729 + 5 := by
  unfold doI
  by_cases k0 : it i 0 = 0
  · rw [if_pos k0]
    exact bldS_wf hw (by omega) (by omega) (by omega) (by omega)
  rw [if_neg k0]
  by_cases k1 : it i 0 = 1
  · rw [if_pos k1]
    have e : (nameS S (715 + it i 1) (namV S (it i 2))).1 729 = S.1 729 := nameS_n S _ (by omega)
    exact ⟨nameS_wl hw (by omega) (namV_nok hw (by omega)), by omega, by omega⟩
  rw [if_neg k1]
  by_cases k2 : it i 0 = 2
  · rw [if_pos k2]
    have := fetS_wl hw (r := it i 1) (o := it i 2) (f := it i 3) (by omega) (by omega) (by omega) (by omega) (hc.1 k2)
    exact ⟨this.1, by omega, by omega⟩
  rw [if_neg k2]
  by_cases k3 : it i 0 = 3
  · rw [if_pos k3]
    have := putS_wl hw (r := it i 1) (o := it i 2) (f := it i 3) (by omega) (by omega) (by omega) (hc.2 k3)
    exact ⟨this.1, by omega, by omega⟩
  rw [if_neg k3]
  have := (adv_cy hw (it i 3).toNat).2
  exact ⟨advS_wf hw _, by omega, by omega⟩
theorem go1_RW {i c : Int} {st : rSx} (h : RW c st) (hs : st.2.2 = 0) (ho : okI (it i 0) (it i 1) (it i 2) (it i 3)) (hk : it i 0 < 5) : RW c (go1 it i st) := by
  obtain ⟨h1, h2, h3, h4, h5, h6⟩ := h
  have h6' := h6 hs
  unfold go1
  by_cases hc : canI it i st.1
  · rw [if_neg (fun q => q hc)]
    obtain ⟨w1, w2, w3⟩ := doI_wf h1 ho hk hc
    refine ⟨w1, ?_, ?_, ?_, ?_, ?_⟩
    · show 0 ≤ (doI it i st.1).1 729
      omega
    · show (doI it i st.1).1 729 ≤ c + 5 * (st.2.1 + 1)
      omega
    · show 0 ≤ st.2.1 + 1 ∧ st.2.1 + 1 ≤ 300
      omega
    · show (if it i 0 = 0 ∧ bldA st.1 (it i 3) = -2 ∨ 300 ≤ st.2.1 + 1 then (1 : Int) else 0) = 0 ∨ (if it i 0 = 0 ∧ bldA st.1 (it i 3) = -2 ∨ 300 ≤ st.2.1 + 1 then (1 : Int) else 0) = 1
      split <;> omega
    · show (if it i 0 = 0 ∧ bldA st.1 (it i 3) = -2 ∨ 300 ≤ st.2.1 + 1 then (1 : Int) else 0) = 0 → st.2.1 + 1 < 300
      split <;> omega
  · rw [if_pos hc]
    exact ⟨h1, h2, h3, h4, Or.inr rfl, fun q => by have : (1 : Int) = 0 := q; omega⟩
theorem itr_RW {c : Int} {f : rSx → rSx} (hf : ∀ st, RW c st → RW c (f st)) : ∀ (k : Nat) (st : rSx), RW c st → RW c (itr k f st) := by
  intro k
  induction k with
  | zero => intro st h; exact h
  | succ k ih => intro st h; exact ih _ (hf st h)
theorem exB_RW (hN : NP it n) {c : Int} : ∀ (F : Nat) (lo hi : Int) (st : rSx), RG it n lo hi → RW c st → RW c (exB it F lo hi st) := by
  intro F
  induction F with
  | zero => intro lo hi st _ h; exact h
  | succ F ih =>
    intro lo hi st hr h
    show RW c (if lo < hi ∧ st.2.2 = 0 then exB it F (it lo 4) hi (x1 it (exB it F) lo st) else st)
    by_cases q : lo < hi ∧ st.2.2 = 0
    · rw [if_pos q]
      obtain ⟨r1, r2, r3, r4⟩ := hr.inn hN q.1
      have ho := hN lo hr.1 (by have := hr.2.1; omega)
      refine ih _ _ _ r2 ?_
      unfold x1
      by_cases k5 : it lo 0 = 5
      · rw [if_pos k5]
        exact itr_RW (fun st h => ih _ _ st r1 h) _ _ h
      · rw [if_neg k5]
        by_cases k6 : it lo 0 = 6
        · rw [if_pos k6]
          split
          · exact ih _ _ _ r1 h
          · exact h
        · rw [if_neg k6]
          exact go1_RW h q.2 ho.1 (by have := ho.1; omega)
    · rw [if_neg q]; exact h
theorem ex_RW (hN : NP it n) {c lo hi : Int} {st : rSx} (hr : RG it n lo hi) (h : RW c st) : RW c (ex it lo hi st) := exB_RW hN _ lo hi st hr h
/-- goes are counted up; without one nothing has changed -/
def mon (st st' : rSx) : Prop := st.2.1 ≤ st'.2.1 ∧ (st'.2.1 = st.2.1 → st'.2.2 = 0 → st' = st)
theorem mon.refl (st : rSx) : mon st st := ⟨Int.le_refl _, fun _ _ => rfl⟩
theorem mon.trans' {a b d : rSx} (h1 : mon a b) (h2 : mon b d) (hs : d.2.2 = 0 → b.2.2 = 0) : mon a d := by
  refine ⟨Int.le_trans h1.1 h2.1, fun e z => ?_⟩
  have e1 : d.2.1 = b.2.1 := by have := h1.1; have := h2.1; omega
  have := h2.2 e1 z
  rw [this]
  exact h1.2 (by omega) (hs z)
theorem go1_mon (i : Int) (st : rSx) : mon st (go1 it i st) := by
  unfold go1
  by_cases hc : canI it i st.1
  · rw [if_neg (fun q => q hc)]
    refine ⟨by show st.2.1 ≤ st.2.1 + 1; omega, fun q => ?_⟩
    have : st.2.1 + 1 = st.2.1 := q
    omega
  · rw [if_pos hc]
    refine ⟨by show st.2.1 ≤ st.2.1; omega, fun _ q => ?_⟩
    have : (1 : Int) = 0 := q
    omega
/-- one that has stopped goes no further -/
def sto (f : rSx → rSx) : Prop := ∀ st, st.2.2 ≠ 0 → f st = st
theorem itr_sto {f : rSx → rSx} (h : sto f) : ∀ (k : Nat), sto (itr k f) := by
  intro k
  induction k with
  | zero => intro st _; rfl
  | succ k ih =>
    intro st hs
    show itr k f (f st) = st
    rw [h st hs]; exact ih st hs
theorem exB_sto (F : Nat) (lo hi : Int) : sto (exB it F lo hi) := by
  intro st hs
  cases F with
  | zero => rfl
  | succ F =>
    show (if lo < hi ∧ st.2.2 = 0 then exB it F (it lo 4) hi (x1 it (exB it F) lo st) else st) = st
    rw [if_neg (fun q => hs q.2)]
theorem ex_sto (lo hi : Int) : sto (ex it lo hi) := exB_sto _ lo hi
theorem itr_mon {f : rSx → rSx} (hf : ∀ st, mon st (f st)) (hs : sto f) : ∀ (k : Nat) (st : rSx), mon st (itr k f st) := by
  intro k
  induction k with
  | zero => intro st; exact mon.refl st
  | succ k ih =>
    intro st
    refine (hf st).trans' (ih (f st)) (fun z => Classical.byContradiction (fun q => ?_))
    have z' : (itr k f (f st)).2.2 = 0 := z
    rw [itr_sto hs k (f st) q] at z'
    exact q z'
theorem exB_mon : ∀ (F : Nat) (lo hi : Int) (st : rSx), mon st (exB it F lo hi st) := by
  intro F
  induction F with
  | zero => intro lo hi st; exact mon.refl st
  | succ F ih =>
    intro lo hi st
    show mon st (if lo < hi ∧ st.2.2 = 0 then exB it F (it lo 4) hi (x1 it (exB it F) lo st) else st)
    split
    · have h1 : mon st (x1 it (exB it F) lo st) := by
        unfold x1
        split
        · exact itr_mon (fun st => ih _ _ st) (exB_sto F _ _) _ st
        · split
          · split
            · exact ih _ _ st
            · exact mon.refl st
          · exact go1_mon lo st
      refine h1.trans' (ih _ _ _) (fun z => Classical.byContradiction (fun q => ?_))
      rw [exB_sto F _ _ _ q] at z
      exact q z
    · exact mon.refl st
theorem ex_mon (lo hi : Int) (st : rSx) : mon st (ex it lo hi st) := exB_mon _ lo hi st
/-- a round that changes nothing can be left out, and those behind it -/
theorem itr_fix {f : rSx → rSx} {st : rSx} (h : f st = st) : ∀ k : Nat, itr k f st = st := by
  intro k
  induction k with
  | zero => rfl
  | succ k ih => show itr k f (f st) = st; rw [h]; exact ih
theorem itr_succ (f : rSx → rSx) : ∀ (k : Nat) (st : rSx), itr (k + 1) f st = f (itr k f st) := by
  intro k
  induction k with
  | zero => intro st; rfl
  | succ k ih => intro st; show itr (k + 1) f (f st) = f (itr k f (f st)); rw [ih]
-- how long it can take
def cB (it : Int → Int → Int) : Nat → Int → Int → Nat
  | 0, _, _ => 0
  | F + 1, lo, hi => if lo < hi then 1 + (if it lo 0 = 5 then (it lo 3).toNat * cB it F (lo + 1) (it lo 4) else if it lo 0 = 6 then cB it F (lo + 1) (it lo 4) else 0) + cB it F (it lo 4) hi else 0
def cst (it : Int → Int → Int) (lo hi : Int) : Nat := cB it (hi - lo).toNat lo hi
theorem cB_fuel (hN : NP it n) : ∀ (F F' : Nat) (lo hi : Int), RG it n lo hi → hi - lo ≤ F → hi - lo ≤ F' → cB it F lo hi = cB it F' lo hi := by
  intro F
  induction F with
  | zero =>
    intro F' lo hi hr h1 h2
    cases F' with
    | zero => rfl
    | succ F' =>
      show 0 = if lo < hi then _ else 0
      rw [if_neg (by omega)]
  | succ F ih =>
    intro F' lo hi hr h1 h2
    cases F' with
    | zero =>
      show (if lo < hi then _ else 0) = 0
      rw [if_neg (by omega)]
    | succ F' =>
      show (if lo < hi then 1 + (if it lo 0 = 5 then (it lo 3).toNat * cB it F (lo + 1) (it lo 4) else if it lo 0 = 6 then cB it F (lo + 1) (it lo 4) else 0) + cB it F (it lo 4) hi else 0) = (if lo < hi then 1 + (if it lo 0 = 5 then (it lo 3).toNat * cB it F' (lo + 1) (it lo 4) else if it lo 0 = 6 then cB it F' (lo + 1) (it lo 4) else 0) + cB it F' (it lo 4) hi else 0)
      by_cases c : lo < hi
      · obtain ⟨r1, r2, r3, r4⟩ := hr.inn hN c
        rw [if_pos c, if_pos c, ih F' _ _ r1 (by omega) (by omega), ih F' _ _ r2 (by omega) (by omega)]
      · rw [if_neg c, if_neg c]
theorem cst_step (hN : NP it n) {lo hi : Int} (hr : RG it n lo hi) (h : lo < hi) : cst it lo hi = 1 + (if it lo 0 = 5 then (it lo 3).toNat * cst it (lo + 1) (it lo 4) else if it lo 0 = 6 then cst it (lo + 1) (it lo 4) else 0) + cst it (it lo 4) hi := by
  obtain ⟨r1, r2, r3, r4⟩ := hr.inn hN h
  obtain ⟨F, hF⟩ : ∃ F : Nat, (hi - lo).toNat = F + 1 := ⟨(hi - lo).toNat - 1, by omega⟩
  have e1 : cB it F (lo + 1) (it lo 4) = cst it (lo + 1) (it lo 4) := cB_fuel hN _ _ _ _ r1 (by omega) (by omega)
  have e2 : cB it F (it lo 4) hi = cst it (it lo 4) hi := cB_fuel hN _ _ _ _ r2 (by omega) (by omega)
  rw [← e1, ← e2]
  unfold cst
  rw [hF]
  show (if lo < hi then 1 + (if it lo 0 = 5 then (it lo 3).toNat * cB it F (lo + 1) (it lo 4) else if it lo 0 = 6 then cB it F (lo + 1) (it lo 4) else 0) + cB it F (it lo 4) hi else 0) = _
  rw [if_pos h]
theorem cst_0 {lo hi : Int} (h : hi ≤ lo) : cst it lo hi = 0 := by
  unfold cst
  rw [show (hi - lo).toNat = 0 by omega]
  rfl
end EX
-- the blocks that one is in: where a round begins, where it ends, how many rounds are still due
abbrev fRs : Type := List (Int × Int × Int)
def ts (fr : fRs) : Int := match fr with
  | [] => 0
  | f :: _ => f.1
def eo (n : Int) (fr : fRs) : Int := match fr with
  | [] => n
  | f :: _ => f.2.1
def den (it : Int → Int → Int) (n : Int) : fRs → Int → rSx → rSx
  | [], i, st => ex it i n st
  | f :: fr, i, st => den it n fr f.2.1 (itr f.2.2.toNat (ex it f.1 f.2.1) (ex it i f.2.1 st))
def mden (it : Int → Int → Int) (n : Int) : fRs → Int → Nat
  | [], i => cst it i n
  | f :: fr, i => cst it i f.2.1 + f.2.2.toNat * cst it f.1 f.2.1 + mden it n fr f.2.1
def FV (it : Int → Int → Int) (n : Int) : fRs → Prop
  | [] => True
  | f :: fr => (∃ b, (0 ≤ b ∧ b < n) ∧ (ts fr ≤ b ∧ b < eo n fr) ∧ f.1 = b + 1 ∧ f.2.1 = it b 4 ∧ (fr.length : Int) ≤ it b 5 ∧ 0 ≤ f.2.2 ∧ f.2.2 ≤ 8) ∧ FV it n fr
def aw_ (fr : fRs) : Nat := match fr with
  | [] => 0
  | f :: fr => f.2.2.toNat + 1 + aw_ fr
section DE
variable {it : Int → Int → Int} {n : Int}
theorem den_sto : ∀ (fr : fRs) (i : Int), sto (den it n fr i) := by
  intro fr
  induction fr with
  | nil => intro i; exact ex_sto _ _
  | cons f fr ih =>
    intro i st hs
    show den it n fr f.2.1 (itr f.2.2.toNat (ex it f.1 f.2.1) (ex it i f.2.1 st)) = st
    rw [ex_sto _ _ st hs, itr_sto (ex_sto _ _) _ st hs]
    exact ih _ st hs
/-- where one is: a stretch, and how deep -/
theorem FV.rg (hN : NP it n) {fr : fRs} (h : FV it n fr) : RG it n (ts fr) (eo n fr) ∧ (∀ j, ts fr ≤ j → j < eo n fr → (fr.length : Int) ≤ it j 5) ∧ fr.length ≤ 4 := by
  cases fr with
  | nil => exact ⟨⟨Int.le_refl _, Int.le_refl _, fun j j0 j1 => by have : j < n := j1; have j0' : 0 ≤ j := j0; exact (hN j j0' this).2.2.1.2⟩, fun j j0 j1 => by have : j < n := j1; have j0' : 0 ≤ j := j0; exact (hN j j0' this).2.1.1, by show 0 ≤ 4; omega⟩
  | cons f fr =>
    obtain ⟨⟨b, b1, b2, b3, b4, b5, b6⟩, -⟩ := h
    obtain ⟨a1, a2, a3, a4, a5⟩ := hN b b1.1 b1.2
    refine ⟨⟨?_, ?_, fun j j0 j1 => ?_⟩, fun j j0 j1 => ?_, ?_⟩
    · show 0 ≤ f.1
      omega
    · show f.2.1 ≤ n
      omega
    · have j0' : f.1 ≤ j := j0
      have j1' : j < f.2.1 := j1
      show it j 4 ≤ f.2.1
      rw [b4] at j1' ⊢
      exact (a5 j (by omega) j1').1
    · have j0' : f.1 ≤ j := j0
      have j1' : j < f.2.1 := j1
      rw [b4] at j1'
      have := (a5 j (by omega) j1').2
      rw [List.length_cons]
      omega
    · rw [List.length_cons]
      omega
theorem FV.out (hN : NP it n) {f : Int × Int × Int} {fr : fRs} (h : FV it n (f :: fr)) : ts fr ≤ f.2.1 ∧ f.2.1 ≤ eo n fr ∧ f.1 ≤ f.2.1 := by
  obtain ⟨⟨b, b1, b2, b3, b4, b5, b6⟩, h2⟩ := h
  have hr := (FV.rg hN h2).1
  obtain ⟨a1, a2, a3, a4, a5⟩ := hN b b1.1 b1.2
  have := hr.2.2 b b2.1 b2.2
  omega
end DE
