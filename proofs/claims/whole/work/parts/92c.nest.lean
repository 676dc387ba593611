/-! a program's items: how they stand in one another -/
set_option maxRecDepth 20000
abbrev okI (k r o u : Int) : Prop := (k = 0 ∧ (0 ≤ r ∧ r < 6) ∧ 0 ≤ u ∧ u ≤ 7) ∨ (k = 1 ∧ (0 ≤ r ∧ r < 6) ∧ (o = -1 ∨ 0 ≤ o ∧ o < 6)) ∨ (k = 2 ∧ (0 ≤ r ∧ r < 6) ∧ (0 ≤ o ∧ o < 6) ∧ 0 ≤ u ∧ u ≤ 6) ∨ (k = 3 ∧ (0 ≤ r ∧ r < 6) ∧ (o = -1 ∨ 0 ≤ o ∧ o < 6) ∧ 0 ≤ u ∧ u ≤ 6) ∨ (k = 4 ∧ 1 ≤ u ∧ u ≤ 99) ∨ (k = 5 ∧ 2 ≤ u ∧ u ≤ 9) ∨ (k = 6 ∧ 0 ≤ r ∧ r < 6)
/-- the items of a whole program -/
def NP (it : Int → Int → Int) (n : Int) : Prop := ∀ i, 0 ≤ i → i < n → okI (it i 0) (it i 1) (it i 2) (it i 3) ∧ (0 ≤ it i 5 ∧ it i 5 ≤ 3) ∧ (i < it i 4 ∧ it i 4 ≤ n) ∧ (it i 0 < 5 → it i 4 = i + 1) ∧ ∀ j, i < j → j < it i 4 → it j 4 ≤ it i 4 ∧ it i 5 < it j 5
/-- the items so far: some blocks are open -/
def NQ (dp n : Int) (it : Int → Int → Int) (op : Int → Int) : Prop := (0 ≤ dp ∧ dp ≤ 4) ∧ (0 ≤ n ∧ n ≤ 40) ∧ (∀ k, 0 ≤ k → k < dp → (0 ≤ op k ∧ op k < n) ∧ it (op k) 5 = k ∧ 5 ≤ it (op k) 0 ∧ ∀ j, op k < j → j < n → k < it j 5) ∧
  ∀ i, 0 ≤ i → i < n → okI (it i 0) (it i 1) (it i 2) (it i 3) ∧ (0 ≤ it i 5 ∧ it i 5 ≤ 3) ∧ ((∀ k, 0 ≤ k → k < dp → op k ≠ i) → (i < it i 4 ∧ it i 4 ≤ n) ∧ (it i 0 < 5 → it i 4 = i + 1) ∧ (∀ k, 0 ≤ k → k < dp → i < op k → it i 4 ≤ op k) ∧ ∀ j, i < j → j < it i 4 → it j 4 ≤ it i 4 ∧ it i 5 < it j 5)
def NI (s : pSt) : Prop := NQ s.2.1 s.2.2.1 s.2.2.2.1 s.2.2.2.2
theorem NQ.allc {n : Int} {it : Int → Int → Int} {op : Int → Int} (h : NQ 0 n it op) : NP it n := fun i i0 i1 => by
  obtain ⟨-, -, -, h4⟩ := h
  obtain ⟨a, b, c⟩ := h4 i i0 i1
  obtain ⟨c1, c2, -, c4⟩ := c (fun k k0 k1 => by omega)
  exact ⟨a, b, c1, c2, c4⟩
theorem NQ.nil (it : Int → Int → Int) (op : Int → Int) : NQ 0 0 it op := ⟨by omega, by omega, fun k k0 k1 => by omega, fun i i0 i1 => by omega⟩
section IT
variable (it : Int → Int → Int) (n k r o u d : Int)
theorem itU_0 : itU it n k r o u d n 0 = k := by unfold itU; simp
theorem itU_1 : itU it n k r o u d n 1 = r := by unfold itU; simp
theorem itU_2 : itU it n k r o u d n 2 = o := by unfold itU; simp
theorem itU_3 : itU it n k r o u d n 3 = u := by unfold itU; simp
theorem itU_4 : itU it n k r o u d n 4 = n + 1 := by unfold itU; simp
theorem itU_5 : itU it n k r o u d n 5 = d := by unfold itU; simp
theorem itU_n {i : Int} (h : i ≠ n) (j : Int) : itU it n k r o u d i j = it i j := by unfold itU; rw [if_neg h]
end IT
theorem NQ.add {dp n : Int} {it : Int → Int → Int} {op : Int → Int} (h : NQ dp n it op) (hd : dp ≤ 3) (hn : n ≤ 39) {k r o u : Int} (hk : k < 5) (ho : okI k r o u) : NQ dp (n + 1) (itU it n k r o u dp) op := by
  obtain ⟨h1, h2, h3, h4⟩ := h
  refine ⟨h1, by omega, fun q q0 q1 => ?_, fun i i0 i1 => ?_⟩
  · obtain ⟨a, b, c, e⟩ := h3 q q0 q1
    have hne : op q ≠ n := by omega
    refine ⟨by omega, by rw [itU_n _ _ _ _ _ _ _ hne]; exact b, by rw [itU_n _ _ _ _ _ _ _ hne]; exact c, fun j j0 j1 => ?_⟩
    by_cases e1 : j = n
    · rw [e1, itU_5]; exact q1
    · rw [itU_n _ _ _ _ _ _ _ e1]; exact e j j0 (by omega)
  · by_cases e1 : i = n
    · subst e1
      rw [itU_0, itU_1, itU_2, itU_3, itU_4, itU_5]
      refine ⟨ho, by omega, fun _ => ⟨by omega, fun _ => rfl, fun q q0 q1 q2 => ?_, fun j j0 j1 => by omega⟩⟩
      have := (h3 q q0 q1).1
      omega
    · obtain ⟨a, b, c⟩ := h4 i i0 (by omega)
      have e2 : ∀ j, itU it n k r o u dp i j = it i j := itU_n _ _ _ _ _ _ _ e1
      rw [e2, e2, e2, e2, e2, e2]
      refine ⟨a, b, fun q => ?_⟩
      obtain ⟨c1, c2, c3, c4⟩ := c q
      refine ⟨by omega, c2, c3, fun j j0 j1 => ?_⟩
      have e3 : j ≠ n := by omega
      rw [itU_n _ _ _ _ _ _ _ e3, itU_n _ _ _ _ _ _ _ e3]
      exact c4 j j0 j1
theorem NQ.opn {dp n : Int} {it : Int → Int → Int} {op : Int → Int} (h : NQ dp n it op) (hd : dp ≤ 3) (hn : n ≤ 39) {k r o u : Int} (hk : 5 ≤ k) (ho : okI k r o u) : NQ (dp + 1) (n + 1) (itU it n k r o u dp) (fun j => if j = dp then n else op j) := by
  obtain ⟨h1, h2, h3, h4⟩ := h
  refine ⟨by omega, by omega, fun q q0 q1 => ?_, fun i i0 i1 => ?_⟩
  · show (0 ≤ (if q = dp then n else op q) ∧ (if q = dp then n else op q) < n + 1) ∧ itU it n k r o u dp (if q = dp then n else op q) 5 = q ∧ 5 ≤ itU it n k r o u dp (if q = dp then n else op q) 0 ∧ ∀ j, (if q = dp then n else op q) < j → j < n + 1 → q < itU it n k r o u dp j 5
    by_cases e : q = dp
    · subst e
      rw [if_pos rfl, itU_5, itU_0]
      exact ⟨by omega, rfl, hk, fun j j0 j1 => by omega⟩
    · rw [if_neg e]
      obtain ⟨a, b, c, e'⟩ := h3 q q0 (by omega)
      have hne : op q ≠ n := by omega
      refine ⟨by omega, by rw [itU_n _ _ _ _ _ _ _ hne]; exact b, by rw [itU_n _ _ _ _ _ _ _ hne]; exact c, fun j j0 j1 => ?_⟩
      by_cases e1 : j = n
      · rw [e1, itU_5]; omega
      · rw [itU_n _ _ _ _ _ _ _ e1]; exact e' j j0 (by omega)
  · by_cases e1 : i = n
    · subst e1
      rw [itU_0, itU_1, itU_2, itU_3, itU_4, itU_5]
      refine ⟨ho, by omega, fun q => ?_⟩
      have := q dp (by omega) (by omega)
      exact absurd (if_pos rfl) this
    · obtain ⟨a, b, c⟩ := h4 i i0 (by omega)
      have e2 : ∀ j, itU it n k r o u dp i j = it i j := itU_n _ _ _ _ _ _ _ e1
      rw [e2, e2, e2, e2, e2, e2]
      refine ⟨a, b, fun q => ?_⟩
      obtain ⟨c1, c2, c3, c4⟩ := c (fun z z0 z1 => by
        have := q z z0 (by omega)
        have e : (if z = dp then n else op z) = op z := if_neg (by omega)
        exact fun w => this (e.trans w))
      refine ⟨by omega, c2, fun z z0 z1 z2 => ?_, fun j j0 j1 => ?_⟩
      · show it i 4 ≤ (if z = dp then n else op z)
        have z2' : i < (if z = dp then n else op z) := z2
        by_cases e : z = dp
        · rw [if_pos e]; omega
        · rw [if_neg e] at z2' ⊢
          exact c3 z z0 (by omega) z2'
      · have e3 : j ≠ n := by omega
        rw [itU_n _ _ _ _ _ _ _ e3, itU_n _ _ _ _ _ _ _ e3]
        exact c4 j j0 j1
theorem NQ.cls {dp n : Int} {it : Int → Int → Int} {op : Int → Int} (h : NQ dp n it op) (hd : 0 < dp) : NQ (dp - 1) n (fun i j => if i = op (dp - 1) ∧ j = 4 then n else it i j) op ∧ 0 ≤ op (dp - 1) ∧ op (dp - 1) < n := by
  obtain ⟨h1, h2, h3, h4⟩ := h
  obtain ⟨b1, b2, b3, b4⟩ := h3 (dp - 1) (by omega) (by omega)
  have hlt : ∀ k, 0 ≤ k → k < dp - 1 → op k < op (dp - 1) := by
    intro k k0 k1
    obtain ⟨a1, a2, a3, a4⟩ := h3 k k0 (by omega)
    apply Classical.byContradiction
    intro q
    by_cases e : op k = op (dp - 1)
    · rw [e] at a2; omega
    · have := b4 (op k) (by omega) (by omega)
      omega
  have he : ∀ i j, j ≠ 4 → (fun i j => if i = op (dp - 1) ∧ j = 4 then n else it i j) i j = it i j := fun i j hj => if_neg (fun q => hj q.2)
  have hi : ∀ i j, i ≠ op (dp - 1) → (fun i j => if i = op (dp - 1) ∧ j = 4 then n else it i j) i j = it i j := fun i j hj => if_neg (fun q => hj q.1)
  have hb : (fun i j => if i = op (dp - 1) ∧ j = 4 then n else it i j) (op (dp - 1)) 4 = n := if_pos ⟨rfl, rfl⟩
  generalize hg : (fun i j => if i = op (dp - 1) ∧ j = 4 then n else it i j) = g at he hi hb
  refine ⟨⟨by omega, h2, fun k k0 k1 => ?_, fun i i0 i1 => ?_⟩, b1⟩
  · obtain ⟨a1, a2, a3, a4⟩ := h3 k k0 (by omega)
    refine ⟨a1, by rw [he _ _ (by omega)]; exact a2, by rw [he _ _ (by omega)]; exact a3, fun j j0 j1 => by rw [he _ _ (by omega)]; exact a4 j j0 j1⟩
  · obtain ⟨a, b, c⟩ := h4 i i0 i1
    rw [he _ 0 (by omega), he _ 1 (by omega), he _ 2 (by omega), he _ 3 (by omega), he _ 5 (by omega)]
    refine ⟨a, b, fun q => ?_⟩
    by_cases e : i = op (dp - 1)
    · subst e
      rw [hb]
      refine ⟨by omega, fun z => by omega, fun k k0 k1 k2 => ?_, fun j j0 j1 => ?_⟩
      · have := hlt k k0 k1; omega
      · rw [he _ 5 (by omega), hi _ _ (by omega)]
        have hj := (h4 j (by omega) j1).2.2 (fun k k0 k1 w => by
          by_cases e : k = dp - 1
          · rw [e] at w; omega
          · have := hlt k k0 (by omega); omega)
        have := b4 j j0 j1
        omega
    · rw [hi _ _ e]
      obtain ⟨c1, c2, c3, c4⟩ := c (fun k k0 k1 w => by
        by_cases e2 : k = dp - 1
        · rw [e2] at w; exact e w.symm
        · exact q k k0 (by omega) w)
      refine ⟨c1, c2, fun k k0 k1 k2 => c3 k k0 (by omega) k2, fun j j0 j1 => ?_⟩
      rw [he _ 5 (by omega)]
      have hne : j ≠ op (dp - 1) := fun w => by
        have := c3 (dp - 1) (by omega) (by omega) (by omega)
        omega
      rw [hi _ _ hne]
      exact c4 j j0 j1
