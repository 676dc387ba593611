/-! circles of nodes: pure -/
def ch (nx : Int → Int) : Int → List Int → Int → Prop
  | a, [], b => nx a = b
  | a, x :: l, b => nx a = x ∧ ch nx x l b
theorem ch_congr {nx nx' : Int → Int} {b : Int} {l : List Int} : ∀ {a : Int}, (∀ x, x = a ∨ x ∈ l → nx' x = nx x) → ch nx a l b → ch nx' a l b := by
  induction l with
  | nil =>
    intro a h hc
    show nx' a = b
    rw [h a (Or.inl rfl)]
    exact hc
  | cons x l ih =>
    intro a h hc
    refine ⟨by rw [h a (Or.inl rfl)]; exact hc.1, ih (fun z hz => h z ?_) hc.2⟩
    rcases hz with hz | hz
    · exact Or.inr (by rw [hz]; exact List.mem_cons_self)
    · exact Or.inr (List.mem_cons_of_mem _ hz)
theorem ch_app {nx : Int → Int} {x b : Int} {l1 l2 : List Int} : ∀ {a : Int}, ch nx a (l1 ++ x :: l2) b ↔ ch nx a l1 x ∧ ch nx x l2 b := by
  induction l1 with
  | nil => intro a; exact Iff.rfl
  | cons z l ih =>
    intro a
    show (nx a = z ∧ ch nx z (l ++ x :: l2) b) ↔ (nx a = z ∧ ch nx z l x) ∧ ch nx x l2 b
    rw [ih, and_assoc]
theorem ch_not {nx : Int → Int} {b n : Int} {l : List Int} : ∀ {a : Int}, ch nx a l b → n ∉ l → n ≠ b → ∀ z, z = a ∨ z ∈ l → nx z ≠ n := by
  induction l with
  | nil =>
    intro a hc _ hb z hz
    rcases hz with hz | hz
    · rw [hz, show nx a = b from hc]; exact fun e => hb e.symm
    · cases hz
  | cons x l ih =>
    intro a hc hn hb z hz
    have hx : n ≠ x := fun e => hn (by rw [e]; exact List.mem_cons_self)
    have hl : n ∉ l := fun e => hn (List.mem_cons_of_mem _ e)
    rcases hz with hz | hz
    · rw [hz, hc.1]; exact fun e => hx e.symm
    · rcases List.mem_cons.mp hz with hz | hz
      · exact ih hc.2 hl hb z (Or.inl hz)
      · exact ih hc.2 hl hb z (Or.inr hz)
/-- next and previous are inverse -/
def inv2 (nx pv : Int → Int) : Prop := ∀ x, 0 ≤ x → x < 77 → (0 ≤ nx x ∧ nx x < 77) ∧ (0 ≤ pv x ∧ pv x < 77) ∧ pv (nx x) = x ∧ nx (pv x) = x
def nx1 (nx pv : Int → Int) (n : Int) : Int → Int := fun x => if x = pv n then nx n else nx x
def pv1 (nx pv : Int → Int) (n : Int) : Int → Int := fun x => if x = nx n then pv n else pv x
def nx2 (nx pv : Int → Int) (n lf : Int) : Int → Int := fun x => if x = n then nx1 nx pv n lf else if x = lf then n else nx1 nx pv n x
def pv2 (nx pv : Int → Int) (n lf : Int) : Int → Int := fun x => if x = nx1 nx pv n lf then n else if x = n then lf else pv1 nx pv n x
theorem inv1 {nx pv : Int → Int} {n : Int} (h : inv2 nx pv) (h0 : 0 ≤ n) (h1 : n < 77) : ∀ x, 0 ≤ x → x < 77 → x ≠ n →
    (0 ≤ nx1 nx pv n x ∧ nx1 nx pv n x < 77 ∧ nx1 nx pv n x ≠ n) ∧ (0 ≤ pv1 nx pv n x ∧ pv1 nx pv n x < 77 ∧ pv1 nx pv n x ≠ n) ∧ pv1 nx pv n (nx1 nx pv n x) = x ∧ nx1 nx pv n (pv1 nx pv n x) = x := by
  intro x hx0 hx1 hxn
  obtain ⟨⟨a1, a2⟩, ⟨a3, a4⟩, a5, a6⟩ := h n h0 h1
  obtain ⟨⟨b1, b2⟩, ⟨b3, b4⟩, b5, b6⟩ := h x hx0 hx1
  have hqn : x = pv n → nx n ≠ n := fun e e2 => hxn (by rw [e, ← e2, a5, e2])
  have hpn : x = nx n → pv n ≠ n := fun e e2 => hxn (by rw [e, ← e2, a6, e2])
  have hnx : x ≠ pv n → nx x ≠ n := fun e e2 => e (by rw [← e2, b5])
  have hpx : x ≠ nx n → pv x ≠ n := fun e e2 => e (by rw [← e2, b6])
  have hnq : x ≠ pv n → nx x ≠ nx n := fun e e2 => hxn (by rw [← b5, e2, a5])
  have hpq : x ≠ nx n → pv x ≠ pv n := fun e e2 => hxn (by rw [← b6, e2, a6])
  refine ⟨?_, ?_, ?_, ?_⟩
  · unfold nx1
    by_cases e : x = pv n
    · rw [if_pos e]; exact ⟨a1, a2, hqn e⟩
    · rw [if_neg e]; exact ⟨b1, b2, hnx e⟩
  · unfold pv1
    by_cases e : x = nx n
    · rw [if_pos e]; exact ⟨a3, a4, hpn e⟩
    · rw [if_neg e]; exact ⟨b3, b4, hpx e⟩
  · unfold pv1 nx1
    by_cases e : x = pv n
    · rw [if_pos e, if_pos rfl, e]
    · rw [if_neg e, if_neg (hnq e), b5]
  · unfold pv1 nx1
    by_cases e : x = nx n
    · rw [if_pos e, if_pos rfl, e]
    · rw [if_neg e, if_neg (hpq e), b6]
theorem inv_move {nx pv : Int → Int} {n lf : Int} (h : inv2 nx pv) (h0 : 0 ≤ n) (h1 : n < 77) (l0 : 0 ≤ lf) (l1 : lf < 77) (hln : lf ≠ n) : inv2 (nx2 nx pv n lf) (pv2 nx pv n lf) := by
  obtain ⟨⟨r1, r2, r3⟩, -, r5, -⟩ := inv1 h h0 h1 lf l0 l1 hln
  intro x hx0 hx1
  unfold nx2 pv2
  by_cases exn : x = n
  · subst exn
    have hnr : ¬ x = nx1 nx pv x lf := fun e => r3 e.symm
    simp only [if_true, hnr, if_false, hln]
    exact ⟨⟨r1, r2⟩, ⟨l0, l1⟩, trivial, trivial⟩
  · obtain ⟨⟨c1, c2, c3⟩, ⟨c4, c5, c6⟩, c7, c8⟩ := inv1 h h0 h1 x hx0 hx1 exn
    refine ⟨?_, ?_, ?_, ?_⟩
    · rw [if_neg exn]
      by_cases e : x = lf
      · rw [if_pos e]; exact ⟨h0, h1⟩
      · rw [if_neg e]; exact ⟨c1, c2⟩
    · by_cases e : x = nx1 nx pv n lf
      · rw [if_pos e]; exact ⟨h0, h1⟩
      · rw [if_neg e, if_neg exn]; exact ⟨c4, c5⟩
    · rw [if_neg exn]
      by_cases e : x = lf
      · rw [if_pos e, if_neg (fun e2 => r3 e2.symm), if_pos rfl, e]
      · have hw : nx1 nx pv n x ≠ nx1 nx pv n lf := fun e2 => e (by rw [← c7, e2, r5])
        rw [if_neg e, if_neg hw, if_neg c3, c7]
    · by_cases e : x = nx1 nx pv n lf
      · rw [if_pos e, if_pos rfl, e]
      · have hw : pv1 nx pv n x ≠ lf := fun e2 => e (by rw [← e2, c8])
        rw [if_neg e, if_neg exn, if_neg c6, if_neg hw, c8]
theorem ch_red {nx pv : Int → Int} {n : Int} (hp : pv (nx n) = n) (hi : ∀ z, nx z = n → pv n = z) {l : List Int} : ∀ {a : Int}, n ∉ l → ch nx a l n → nx (pv n) = n → ch (nx1 nx pv n) a l (nx n) := by
  induction l with
  | nil =>
    intro a _ hc _
    have : pv n = a := hi a hc
    show nx1 nx pv n a = nx n
    unfold nx1
    rw [if_pos this.symm]
  | cons x l ih =>
    intro a hn hc hpn
    have hx : x ≠ n := fun e => hn (by rw [e]; exact List.mem_cons_self)
    refine ⟨?_, ih (fun e => hn (List.mem_cons_of_mem _ e)) hc.2 hpn⟩
    unfold nx1
    rw [if_neg, hc.1]
    intro e
    rw [← e, hc.1] at hpn
    exact hx hpn
theorem ch_un_other {nx pv : Int → Int} {n a b : Int} {l : List Int} (hpn : nx (pv n) = n) (hc : ch nx a l b) (hn : n ∉ l) (hb : n ≠ b) : ch (nx1 nx pv n) a l b := by
  refine ch_congr (fun x hx => ?_) hc
  unfold nx1
  rw [if_neg]
  intro e
  exact ch_not hc hn hb x hx (by rw [e]; exact hpn)
theorem ch_un_in {nx pv : Int → Int} {n a b : Int} {l1 l2 : List Int} (hi : ∀ z, nx z = n → pv n = z) (hp : pv (nx n) = n) (hpn : nx (pv n) = n) (hc : ch nx a (l1 ++ n :: l2) b) (h1 : n ∉ l1) (h2 : n ∉ l2) (hb : n ≠ b) : ch (nx1 nx pv n) a (l1 ++ l2) b := by
  obtain ⟨c1, c2⟩ := ch_app.mp hc
  have r := ch_red hp hi h1 c1 hpn
  cases l2 with
  | nil =>
    rw [List.append_nil]
    rw [show nx n = b from c2] at r
    exact r
  | cons y t =>
    rw [c2.1] at r
    exact ch_app.mpr ⟨r, ch_un_other hpn c2.2 (fun e => h2 (List.mem_cons_of_mem _ e)) hb⟩
theorem nodup_le : ∀ (n : Nat) (l : List Int), l.Nodup → (∀ x ∈ l, 0 ≤ x ∧ x < (n : Int)) → l.length ≤ n := by
  intro n
  induction n with
  | zero =>
    intro l _ h
    cases l with
    | nil => exact Nat.le_refl _
    | cons x t =>
      have := h x List.mem_cons_self
      omega
  | succ n ih =>
    intro l hn h
    have h1 : (l.erase (n : Int)).length ≤ n := by
      refine ih _ (hn.erase _) (fun x hx => ?_)
      have h2 := (hn.mem_erase_iff).mp hx
      have h3 := h x h2.2
      have h4 : x ≠ (n : Int) := h2.1
      omega
    rw [List.length_erase] at h1
    split at h1 <;> omega
theorem ch_front {f f' : Int → Int} {a n b : Int} {l : List Int} (hc : ch f a l b) (h1 : f' a = n) (h2 : f' n = f a) (h3 : ∀ x, x ∈ l → f' x = f x) : ch f' a (n :: l) b := by
  refine ⟨h1, ?_⟩
  cases l with
  | nil => show f' n = b; rw [h2]; exact hc
  | cons y t =>
    refine ⟨by rw [h2]; exact hc.1, ch_congr (fun x hx => h3 x ?_) hc.2⟩
    rcases hx with hx | hx
    · rw [hx]; exact List.mem_cons_self
    · exact List.mem_cons_of_mem _ hx
theorem ch_back {f f' : Int → Int} {n b lf : Int} (hn : f' n = b) {l : List Int} : ∀ {a : Int}, ch f a l b → (∀ x, x = a ∨ x ∈ l → (f x = b → x = lf) ∧ (x = lf → f' x = n) ∧ (x ≠ lf → f' x = f x)) → f lf = b → b ∉ l → ch f' a (l ++ [n]) b := by
  induction l with
  | nil =>
    intro a hc h _ _
    have := h a (Or.inl rfl)
    exact ⟨this.2.1 (this.1 hc), hn⟩
  | cons x l ih =>
    intro a hc h hlf hb
    have hx : x ≠ b := fun e => hb (by rw [e]; exact List.mem_cons_self)
    have ha := h a (Or.inl rfl)
    refine ⟨?_, ih hc.2 (fun z hz => h z ?_) hlf (fun e => hb (List.mem_cons_of_mem _ e))⟩
    · rw [ha.2.2 (fun e => hx (by rw [← hc.1, e]; exact hlf))]
      exact hc.1
    · rcases hz with hz | hz
      · exact Or.inr (by rw [hz]; exact List.mem_cons_self)
      · exact Or.inr (List.mem_cons_of_mem _ hz)
/-- the rows of a ring: what next, previous, the row of each node and the counts hold -/
def RR (nx pv ro ct : Int → Int) (rg : Int → List Int) : Prop :=
  inv2 nx pv ∧ (∀ k, 0 ≤ k → k < 12 → ch nx (64 + k) (rg k) (64 + k) ∧ (rg k).Nodup ∧ ct k = ((rg k).length : Int) ∧ ∀ x ∈ rg k, 0 ≤ x ∧ x < 64 ∧ ro x = k) ∧
  ∀ x, 0 ≤ x → x < 64 → 0 ≤ ro x ∧ ro x ≤ 12 ∧ (ro x < 12 → x ∈ rg (ro x))
def rmv (rg : Int → List Int) (n k0 k : Int) (front : Bool) : Int → List Int := fun j =>
  if j = k then (if front then n :: (if j = k0 then (rg j).erase n else rg j) else (if j = k0 then (rg j).erase n else rg j) ++ [n]) else (if j = k0 then (rg j).erase n else rg j)
theorem erase_split {n : Int} {l : List Int} (h : n ∈ l) (hn : l.Nodup) : ∃ l1 l2, l = l1 ++ n :: l2 ∧ n ∉ l1 ∧ n ∉ l2 ∧ l.erase n = l1 ++ l2 := by
  induction l with
  | nil => cases h
  | cons x t ih =>
    obtain ⟨hx, ht⟩ := List.nodup_cons.mp hn
    by_cases e : x = n
    · subst e
      exact ⟨[], t, rfl, List.not_mem_nil, hx, by rw [List.erase_cons_head]; rfl⟩
    · have hm : n ∈ t := by
        rcases List.mem_cons.mp h with h | h
        · exact absurd h.symm e
        · exact h
      obtain ⟨l1, l2, e1, e2, e3, e4⟩ := ih hm ht
      refine ⟨x :: l1, l2, by rw [e1]; rfl, ?_, e3, ?_⟩
      · intro h2
        rcases List.mem_cons.mp h2 with h2 | h2
        · exact e h2.symm
        · exact e2 h2
      · rw [List.erase_cons_tail (by simpa using e), e4]
        rfl
/-- the lists behind the unlinking of n -/
theorem RR_un {nx pv ro ct : Int → Int} {rg : Int → List Int} (h : RR nx pv ro ct rg) {n : Int} (n0 : 0 ≤ n) (n1 : n < 64) : ∀ k, 0 ≤ k → k < 12 →
    ch (nx1 nx pv n) (64 + k) (if k = ro n then (rg k).erase n else rg k) (64 + k) ∧ (if k = ro n then (rg k).erase n else rg k).Nodup ∧ n ∉ (if k = ro n then (rg k).erase n else rg k) ∧ ∀ x ∈ (if k = ro n then (rg k).erase n else rg k), 0 ≤ x ∧ x < 64 ∧ ro x = k := by
  intro k k0 k1
  obtain ⟨hI, hR, hM⟩ := h
  obtain ⟨c1, c2, -, c4⟩ := hR k k0 k1
  obtain ⟨-, -, i3, i4⟩ := hI n n0 (by omega)
  have hi : ∀ z, z = 64 + k ∨ z ∈ rg k → nx z = n → pv n = z := by
    intro z hz e
    have hz2 : 0 ≤ z ∧ z < 77 := by
      rcases hz with hz | hz
      · omega
      · have := c4 z hz; omega
    rw [← e]
    exact (hI z hz2.1 hz2.2).2.2.1
  by_cases e : k = ro n
  · simp only [e, if_true]
    rw [← e]
    have hm : n ∈ rg k := by
      have := (hM n n0 n1).2.2 (by omega)
      rw [← e] at this
      exact this
    obtain ⟨l1, l2, e1, e2, e3, e4⟩ := erase_split hm c2
    refine ⟨?_, c2.erase _, ?_, fun x hx => c4 x (List.mem_of_mem_erase hx)⟩
    · rw [e4]
      rw [e1] at c1
      obtain ⟨d1, d2⟩ := ch_app.mp c1
      have hz : ∀ z, nx z = n → pv n = z → pv n = z := fun _ _ h => h
      -- the only place that leads to n is pv n
      have r : ch (nx1 nx pv n) (64 + k) l1 (nx n) := by
        clear hz
        revert d1
        have : ∀ (l : List Int) (a : Int), (∀ z, z = a ∨ z ∈ l → nx z = n → pv n = z) → n ∉ l → ch nx a l n → ch (nx1 nx pv n) a l (nx n) := by
          intro l
          induction l with
          | nil =>
            intro a ha _ hc
            show nx1 nx pv n a = nx n
            unfold nx1
            rw [if_pos (ha a (Or.inl rfl) hc).symm]
          | cons x l ih =>
            intro a ha hn hc
            have hx : x ≠ n := fun e => hn (by rw [e]; exact List.mem_cons_self)
            refine ⟨?_, ih x (fun z hz => ha z (Or.inr (by rcases hz with hz | hz
                                                           · rw [hz]; exact List.mem_cons_self
                                                           · exact List.mem_cons_of_mem _ hz))) (fun e => hn (List.mem_cons_of_mem _ e)) hc.2⟩
            unfold nx1
            rw [if_neg, hc.1]
            intro e
            rw [← e, hc.1] at i4
            exact hx i4
        intro d1
        refine this l1 (64 + k) (fun z hz => hi z ?_) e2 d1
        rcases hz with hz | hz
        · exact Or.inl hz
        · exact Or.inr (by rw [e1]; exact List.mem_append_left _ hz)
      cases l2 with
      | nil =>
        rw [List.append_nil]
        rw [show nx n = 64 + k from d2] at r
        exact r
      | cons y t =>
        rw [d2.1] at r
        exact ch_app.mpr ⟨r, ch_un_other i4 d2.2 (fun e => e3 (List.mem_cons_of_mem _ e)) (by omega)⟩
    · rw [e4]
      intro h2
      rcases List.mem_append.mp h2 with h2 | h2
      · exact e2 h2
      · exact e3 h2
  · simp only [e, if_false]
    have hn : n ∉ rg k := fun h2 => e (c4 n h2).2.2.symm
    exact ⟨ch_un_other i4 c1 hn (by omega), c2, hn, c4⟩
theorem RR_move {nx pv ro ct ct' : Int → Int} {rg : Int → List Int} (h : RR nx pv ro ct rg) {n k lf : Int} (n0 : 0 ≤ n) (n1 : n < 64) (k0 : 0 ≤ k) (k1 : k ≤ 12) (front : Bool) (hlf : lf = if front then 64 + k else pv1 nx pv n (64 + k))
    (hct : ∀ j, 0 ≤ j → j < 12 → ct' j = ct j - (if j = ro n then 1 else 0) + (if j = k then 1 else 0)) : RR (nx2 nx pv n lf) (pv2 nx pv n lf) (fun x => if x = n then k else ro x) ct' (rmv rg n (ro n) k front) := by
  have hun := RR_un h n0 n1
  obtain ⟨hI, hR, hM⟩ := h
  obtain ⟨-, ⟨p1, p2, p3⟩, -, p5⟩ := inv1 hI n0 (by omega) (64 + k) (by omega) (by omega) (by omega)
  have hl : 0 ≤ lf ∧ lf < 77 ∧ lf ≠ n := by
    rw [hlf]
    cases front
    · exact ⟨p1, p2, p3⟩
    · simp only [if_true]; omega
  have hmem : ∀ j, 0 ≤ j → j < 12 → ∀ x, x ∈ rg j → x ≠ n → x ∈ (if j = ro n then (rg j).erase n else rg j) := by
    intro j j0 j1 x hx hxn
    split
    · exact ((hR j j0 j1).2.1.mem_erase_iff).mpr ⟨hxn, hx⟩
    · exact hx
  refine ⟨inv_move hI n0 (by omega) hl.1 hl.2.1 hl.2.2, fun j j0 j1 => ?_, fun x x0 x1 => ?_⟩
  · obtain ⟨c1, c2, c3, c4⟩ := hun j j0 j1
    have hlen : ct' j = ((if j = ro n then (rg j).erase n else rg j).length : Int) + (if j = k then 1 else 0) := by
      rw [hct j j0 j1, (hR j j0 j1).2.2.1]
      by_cases e : j = ro n
      · rw [if_pos e, if_pos e]
        have hm : n ∈ rg j := by
          have := (hM n n0 n1).2.2 (by omega)
          rw [← e] at this
          exact this
        have h1 := List.length_erase_of_mem hm
        have h2 : 0 < (rg j).length := List.length_pos_of_mem hm
        omega
      · rw [if_neg e, if_neg e]
        omega
    generalize hL : (if j = ro n then (rg j).erase n else rg j) = l at c1 c2 c3 c4 hlen
    have hrm : rmv rg n (ro n) k front j = if j = k then (if front then n :: l else l ++ [n]) else l := by
      unfold rmv
      rw [hL]
    rw [hrm]
    have hro : ∀ x, x ∈ l → 0 ≤ x ∧ x < 64 ∧ (if x = n then k else ro x) = j := by
      intro x hx
      obtain ⟨q1, q2, q3⟩ := c4 x hx
      rw [if_neg (fun e => c3 (by rw [← e]; exact hx))]
      exact ⟨q1, q2, q3⟩
    have hn2 : ∀ x, x = 64 + j ∨ x ∈ l → x ≠ n := by
      intro x hx
      rcases hx with hx | hx
      · omega
      · exact fun e => c3 (by rw [← e]; exact hx)
    by_cases ejk : j = k
    · subst ejk
      simp only [if_true] at hlen ⊢
      cases front
      · simp only [Bool.false_eq_true, if_false] at hlf ⊢
        refine ⟨?_, ?_, ?_, ?_⟩
        · refine ch_back (f := nx1 nx pv n) (lf := lf) ?_ c1 (fun x hx => ⟨fun e => ?_, fun e => ?_, fun e => ?_⟩) (by rw [hlf]; exact p5) (fun e => by have := c4 _ e; omega)
          · unfold nx2
            rw [if_pos rfl, hlf]
            exact p5
          · have hx2 : 0 ≤ x ∧ x < 77 := by
              rcases hx with hx | hx
              · omega
              · have := c4 x hx; omega
            rw [hlf, ← e]
            exact (inv1 hI n0 (by omega) x hx2.1 hx2.2 (hn2 x hx)).2.2.1.symm
          · unfold nx2
            rw [if_neg (hn2 x hx), if_pos e]
          · unfold nx2
            rw [if_neg (hn2 x hx), if_neg e]
        · refine List.nodup_append.mpr ⟨c2, by simp, fun a ha b hb => ?_⟩
          rw [List.mem_singleton.mp hb]
          exact fun e => c3 (by rw [← e]; exact ha)
        · rw [hlen, List.length_append]
          simp
        · intro x hx
          rcases List.mem_append.mp hx with hx | hx
          · exact hro x hx
          · rw [List.mem_singleton.mp hx, if_pos rfl]
            exact ⟨n0, n1, rfl⟩
      · simp only [if_true] at hlf ⊢
        refine ⟨?_, List.nodup_cons.mpr ⟨c3, c2⟩, ?_, ?_⟩
        · refine ch_front c1 ?_ ?_ (fun x hx => ?_)
          · unfold nx2
            rw [if_neg (by omega), if_pos hlf.symm]
          · unfold nx2
            rw [if_pos rfl, hlf]
          · unfold nx2
            have := c4 x hx
            rw [if_neg (hn2 x (Or.inr hx)), if_neg (by omega)]
        · rw [hlen, List.length_cons]
          omega
        · intro x hx
          rcases List.mem_cons.mp hx with hx | hx
          · rw [hx, if_pos rfl]
            exact ⟨n0, n1, rfl⟩
          · exact hro x hx
    · rw [if_neg ejk] at hlen ⊢
      refine ⟨ch_congr (fun x hx => ?_) c1, c2, by rw [hlen]; omega, hro⟩
      unfold nx2
      rw [if_neg (hn2 x hx), if_neg]
      intro e
      have hb : 64 + k ∉ l := fun e2 => by have := c4 _ e2; omega
      have hnn := ch_not c1 hb (show 64 + k ≠ 64 + j by omega) x hx
      rw [e, hlf] at hnn
      cases front
      · exact hnn p5
      · simp only [if_true] at hlf
        rcases hx with hx | hx
        · omega
        · have := c4 x hx; omega
  · show 0 ≤ (if x = n then k else ro x) ∧ (if x = n then k else ro x) ≤ 12 ∧ ((if x = n then k else ro x) < 12 → x ∈ rmv rg n (ro n) k front (if x = n then k else ro x))
    by_cases e : x = n
    · rw [if_pos e]
      refine ⟨k0, k1, fun _ => ?_⟩
      unfold rmv
      rw [if_pos rfl, e]
      cases front
      · simp
      · simp
    · rw [if_neg e]
      obtain ⟨q1, q2, q3⟩ := hM x x0 x1
      refine ⟨q1, q2, fun q4 => ?_⟩
      have hm := hmem (ro x) q1 q4 x (q3 q4) e
      unfold rmv
      split
      · cases front
        · exact List.mem_append_left _ hm
        · exact List.mem_cons_of_mem _ hm
      · exact hm
