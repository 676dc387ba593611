/-! TreadRingModel: colours that change -/
theorem rL_eq (rg : Int → List Int) (k : Int) : rL rg k = (rg k).map (fun n => 2 * n) ++ ((rg (k + 1)).map (fun n => 2 * n) ++ ((rg (k + 2)).map (fun n => 2 * n) ++ (rg (k + 3)).map (fun n => 2 * n))) := by
  unfold rL catR catR catR catR catR
  rw [List.append_nil, List.map_append, List.map_append, List.map_append, show k + 3 - ((3 : Nat) : Int) = k by omega, show k + 3 - ((2 : Nat) : Int) = k + 1 by omega, show k + 3 - ((1 : Nat) : Int) = k + 2 by omega, show k + 3 - ((0 : Nat) : Int) = k + 3 by omega]
theorem cnt_app (F : Int → Int) (l1 l2 : List Int) (c : Int) : cnt F (l1 ++ l2) c = cnt F l1 c + cnt F l2 c := by
  induction l1 with
  | nil => simp [cnt]
  | cons x t ih => simp only [List.cons_append, cnt, ih]; omega
theorem cnt_const (F : Int → Int) {l : List Int} {d : Int} (c : Int) (h : ∀ x ∈ l, F x = d) : cnt F l c = if d = c then l.length else 0 := by
  induction l with
  | nil => simp [cnt]
  | cons x t ih =>
    simp only [cnt, ih (fun y hy => h y (List.mem_cons_of_mem _ hy)), h x List.mem_cons_self, List.length_cons]
    split <;> omega
theorem plc_app (F : Int → Int) {l1 : List Int} (l2 : List Int) {c : Int} (h : ∀ x ∈ l1, F x < c) : plc F (l1 ++ l2) c = l1.length + plc F l2 c := by
  induction l1 with
  | nil => simp
  | cons x t ih =>
    simp only [List.cons_append, plc, h x List.mem_cons_self, if_true, ih (fun y hy => h y (List.mem_cons_of_mem _ hy)), List.length_cons]
    omega
theorem plc_ge (F : Int → Int) {l : List Int} {c : Int} (h : ∀ x ∈ l, ¬ F x < c) : plc F l c = 0 := by
  cases l with
  | nil => rfl
  | cons x t => simp only [plc, h x List.mem_cons_self, if_false]
theorem erase_map (l : List Int) (n : Int) : (l.map (fun n => 2 * n)).erase (2 * n) = (l.erase n).map (fun n => 2 * n) := by
  induction l with
  | nil => rfl
  | cons x t ih =>
    by_cases e : x = n
    · subst e; simp
    · rw [List.map_cons, List.erase_cons_tail (by simp; omega), List.erase_cons_tail (by simpa using e), List.map_cons, ih]
section MG
variable {g : Int → Int} {rg : Int → List Int}
theorem rL_mem (hw : WR g rg) {k : Int} (hk : k = 0 ∨ k = 4 ∨ k = 8) {c x : Int} (c0 : 0 ≤ c) (c3 : c ≤ 3) (hx : x ∈ (rg (k + c)).map (fun n => 2 * n)) : 0 ≤ x ∧ x < 128 ∧ x % 2 = 0 ∧ g x = c ∧ sl g x ∧ kz g x = k := by
  obtain ⟨n, hn, rfl⟩ := List.mem_map.mp hx
  have := WR_mem hw (k := k + c) (by omega) (by omega) hn
  exact ⟨by omega, by omega, by omega, by omega, this.2.2.1, by omega⟩
theorem rL_in (hw : WR g rg) {k : Int} (hk : k = 0 ∨ k = 4 ∨ k = 8) : ∀ x ∈ rL rg k, 0 ≤ x ∧ x < 128 := by
  intro x hx
  rw [rL_eq] at hx
  simp only [List.mem_append] at hx
  rcases hx with h | h | h | h
  · have := rL_mem hw hk (c := 0) (by omega) (by omega) (by rw [Int.add_zero]; exact h); omega
  · have := rL_mem hw hk (c := 1) (by omega) (by omega) h; omega
  · have := rL_mem hw hk (c := 2) (by omega) (by omega) h; omega
  · have := rL_mem hw hk (c := 3) (by omega) (by omega) h; omega
theorem map2_nodup {l : List Int} (h : l.Nodup) : (l.map (fun n => 2 * n)).Nodup := by
  induction l with
  | nil => simp
  | cons x t ih =>
    obtain ⟨h1, h2⟩ := List.nodup_cons.mp h
    rw [List.map_cons]
    refine List.nodup_cons.mpr ⟨fun hm => ?_, ih h2⟩
    obtain ⟨y, hy, e⟩ := List.mem_map.mp hm
    have : y = x := by omega
    exact h1 (by rw [← this]; exact hy)
theorem rW_nodup (hw : WR g rg) {k : Int} (hk : k = 0 ∨ k = 4 ∨ k = 8) : (rg k ++ (rg (k + 1) ++ (rg (k + 2) ++ rg (k + 3)))).Nodup := by
  have h0 := hw.2.2 k (by omega) (by omega)
  have h1 := hw.2.2 (k + 1) (by omega) (by omega)
  have h2 := hw.2.2 (k + 2) (by omega) (by omega)
  have h3 := hw.2.2 (k + 3) (by omega) (by omega)
  have ne : ∀ {i j : Int}, 0 ≤ i → i < 12 → 0 ≤ j → j < 12 → i ≠ j → ∀ x ∈ rg i, ∀ y ∈ rg j, x ≠ y := by
    intro i j i0 i1 j0 j1 hij x hx y hy e
    subst e
    have := ((hw.2.2 i i0 i1).2 x).mp hx
    have := ((hw.2.2 j j0 j1).2 x).mp hy
    omega
  refine List.nodup_append.mpr ⟨h0.1, List.nodup_append.mpr ⟨h1.1, List.nodup_append.mpr ⟨h2.1, h3.1, ne (by omega) (by omega) (by omega) (by omega) (by omega)⟩, ?_⟩, ?_⟩
  · intro x hx y hy
    rcases List.mem_append.mp hy with h | h
    · exact ne (by omega) (by omega) (by omega) (by omega) (by omega) x hx y h
    · exact ne (by omega) (by omega) (by omega) (by omega) (by omega) x hx y h
  · intro x hx y hy
    rcases List.mem_append.mp hy with h | h
    · exact ne (by omega) (by omega) (by omega) (by omega) (by omega) x hx y h
    · rcases List.mem_append.mp h with h | h
      · exact ne (by omega) (by omega) (by omega) (by omega) (by omega) x hx y h
      · exact ne (by omega) (by omega) (by omega) (by omega) (by omega) x hx y h
theorem rL_len (hw : WR g rg) {k : Int} (hk : k = 0 ∨ k = 4 ∨ k = 8) : (rL rg k).length ≤ 64 := by
  have h1 := nodup_le 64 _ (rW_nodup hw hk) (fun x hx => by
    simp only [List.mem_append] at hx
    rcases hx with h | h | h | h
    · have := rows_in hw (k := k) (by omega) (by omega) x h; exact this
    · have := rows_in hw (k := k + 1) (by omega) (by omega) x h; exact this
    · have := rows_in hw (k := k + 2) (by omega) (by omega) x h; exact this
    · have := rows_in hw (k := k + 3) (by omega) (by omega) x h; exact this)
  rw [rL_eq, ← List.map_append, ← List.map_append, ← List.map_append, List.length_map]
  exact h1
/-- how many are of a colour -/
theorem cnt_row (hw : WR g rg) {F : Int → Int} (hF : mAll F g) {k c : Int} (hk : k = 0 ∨ k = 4 ∨ k = 8) (c0 : 0 ≤ c) (c3 : c ≤ 3) : (cnt F (rL rg k) c : Int) = ((rg (k + c)).length : Int) := by
  have hv : ∀ d, 0 ≤ d → d ≤ 3 → ∀ x ∈ (rg (k + d)).map (fun n => 2 * n), F x = d := by
    intro d d0 d3 x hx
    obtain ⟨q1, q2, q3, q4, -⟩ := rL_mem hw hk d0 d3 hx
    rw [hF x q1 (by omega) (by omega) (by omega)]; exact q4
  have h0 := cnt_const F c (hv 0 (by omega) (by omega))
  rw [Int.add_zero] at h0
  rw [rL_eq, cnt_app, cnt_app, cnt_app, h0, cnt_const F c (hv 1 (by omega) (by omega)), cnt_const F c (hv 2 (by omega) (by omega)), cnt_const F c (hv 3 (by omega) (by omega))]
  simp only [List.length_map]
  have hc : c = 0 ∨ c = 1 ∨ c = 2 ∨ c = 3 := by omega
  rcases hc with rfl | rfl | rfl | rfl <;> simp
/-- a move to the front of the next row, in the ring -/
theorem ring_mv (hw : WR g rg) {a k c : Int} (hk : k = 0 ∨ k = 4 ∨ k = 8) (hc : c = 1 ∨ c = 2) (ha : sl g a) (hka : kz g a = k) (hca : g a = c) {F : Int → Int} (hF : ∀ x, 0 ≤ x → x < 128 → F x = if x = a then c + 1 else g x) :
    a ∈ rL rg k ∧ ins ((rL rg k).erase a) (plc F ((rL rg k).erase a) (c + 1)) a = rL (rmv rg (a / 2) (k + c) (k + (c + 1)) true) k := by
  obtain ⟨e1, e2, e3, e4, e5⟩ := sl_even hw.1 ha
  have a0 := ha.1
  have a1 := ha.2.1
  obtain ⟨n, hn⟩ : ∃ n, n = a / 2 := ⟨_, rfl⟩
  have han : a = 2 * n := by omega
  have hm : n ∈ rg (k + c) := ((hw.2.2 _ (by omega) (by omega)).2 n).mpr ⟨by omega, by omega, by rw [← han]; exact ⟨ha, by omega⟩⟩
  have hnot : ∀ d, 0 ≤ d → d ≤ 3 → d ≠ c → n ∉ rg (k + d) := by
    intro d d0 d3 hd hmm
    have := ((hw.2.2 (k + d) (by omega) (by omega)).2 n).mp hmm
    rw [← han] at this
    omega
  have hFn : ∀ d, 0 ≤ d → d ≤ 3 → ∀ x ∈ (rg (k + d)).map (fun n => 2 * n), x ≠ a → F x = d := by
    intro d d0 d3 x hx hxa
    obtain ⟨q1, q2, q3, q4, -⟩ := rL_mem hw hk d0 d3 hx
    rw [hF x q1 q2, if_neg hxa]; exact q4
  have hmem : a ∈ (rg (k + c)).map (fun n => 2 * n) := List.mem_map.mpr ⟨n, hm, by omega⟩
  have hnm : ∀ d, 0 ≤ d → d ≤ 3 → d ≠ c → a ∉ (rg (k + d)).map (fun n => 2 * n) := by
    intro d d0 d3 hd hmm
    obtain ⟨y, hy, e⟩ := List.mem_map.mp hmm
    have : y = n := by omega
    exact hnot d d0 d3 hd (by rw [← this]; exact hy)
  have h0 := hnm 0 (by omega) (by omega) (by omega)
  rw [Int.add_zero] at h0
  have hF0 := hFn 0 (by omega) (by omega)
  rw [Int.add_zero] at hF0
  rw [← hn]
  rcases hc with rfl | rfl
  · have hE : (rL rg k).erase a = (rg k).map (fun n => 2 * n) ++ (((rg (k + 1)).erase n).map (fun n => 2 * n) ++ ((rg (k + 2)).map (fun n => 2 * n) ++ (rg (k + 3)).map (fun n => 2 * n))) := by
      rw [rL_eq, List.erase_append_right _ h0, List.erase_append_left _ hmem, han, erase_map]
    refine ⟨by rw [rL_eq]; exact List.mem_append_right _ (List.mem_append_left _ hmem), ?_⟩
    have hed : ∀ x ∈ ((rg (k + 1)).erase n).map (fun n => 2 * n), F x < 1 + 1 := by
      intro x hx
      obtain ⟨y, hy, e⟩ := List.mem_map.mp hx
      have hy2 := ((hw.2.2 (k + 1) (by omega) (by omega)).1.mem_erase_iff).mp hy
      have := hFn 1 (by omega) (by omega) x (List.mem_map.mpr ⟨y, hy2.2, e⟩) (by omega)
      omega
    have hp : plc F ((rL rg k).erase a) (1 + 1) = ((rg k).map (fun n => 2 * n) ++ ((rg (k + 1)).erase n).map (fun n => 2 * n)).length := by
      rw [hE, ← List.append_assoc, plc_app F _ (fun x hx => ?_), plc_ge F (fun x hx => ?_), Nat.add_zero]
      · rcases List.mem_append.mp hx with h | h
        · have := hFn 2 (by omega) (by omega) x h (fun e => hnm 2 (by omega) (by omega) (by omega) (by rw [← e]; exact h)); omega
        · have := hFn 3 (by omega) (by omega) x h (fun e => hnm 3 (by omega) (by omega) (by omega) (by rw [← e]; exact h)); omega
      · rcases List.mem_append.mp hx with h | h
        · have := hF0 x h (fun e => h0 (by rw [← e]; exact h)); omega
        · exact hed x h
    rw [hp, hE, ← List.append_assoc]
    unfold ins
    rw [List.take_left' rfl, List.drop_left' rfl, rL_eq]
    unfold rmv
    have t0 : ¬ k = k + (1 + 1) := by omega
    have t1 : ¬ k = k + 1 := by omega
    have t2 : ¬ k + 1 = k + (1 + 1) := by omega
    have t3 : k + 2 = k + (1 + 1) := by omega
    have t4 : ¬ k + 2 = k + 1 := by omega
    have t5 : ¬ k + 3 = k + (1 + 1) := by omega
    have t6 : ¬ k + 3 = k + 1 := by omega
    simp only [t0, t1, t2, t3, t4, t5, t6, if_true, if_false, List.map_cons, List.append_assoc, List.cons_append, han]
    rw [if_neg (by omega)]
  · have hE : (rL rg k).erase a = (rg k).map (fun n => 2 * n) ++ ((rg (k + 1)).map (fun n => 2 * n) ++ (((rg (k + 2)).erase n).map (fun n => 2 * n) ++ (rg (k + 3)).map (fun n => 2 * n))) := by
      rw [rL_eq, List.erase_append_right _ h0, List.erase_append_right _ (hnm 1 (by omega) (by omega) (by omega)), List.erase_append_left _ hmem, han, erase_map]
    refine ⟨by rw [rL_eq]; exact List.mem_append_right _ (List.mem_append_right _ (List.mem_append_left _ hmem)), ?_⟩
    have hed : ∀ x ∈ ((rg (k + 2)).erase n).map (fun n => 2 * n), F x < 2 + 1 := by
      intro x hx
      obtain ⟨y, hy, e⟩ := List.mem_map.mp hx
      have hy2 := ((hw.2.2 (k + 2) (by omega) (by omega)).1.mem_erase_iff).mp hy
      have := hFn 2 (by omega) (by omega) x (List.mem_map.mpr ⟨y, hy2.2, e⟩) (by omega)
      omega
    have hp : plc F ((rL rg k).erase a) (2 + 1) = ((rg k).map (fun n => 2 * n) ++ ((rg (k + 1)).map (fun n => 2 * n) ++ ((rg (k + 2)).erase n).map (fun n => 2 * n))).length := by
      rw [hE, show (rg k).map (fun n => 2 * n) ++ ((rg (k + 1)).map (fun n => 2 * n) ++ (((rg (k + 2)).erase n).map (fun n => 2 * n) ++ (rg (k + 3)).map (fun n => 2 * n))) = ((rg k).map (fun n => 2 * n) ++ ((rg (k + 1)).map (fun n => 2 * n) ++ ((rg (k + 2)).erase n).map (fun n => 2 * n))) ++ (rg (k + 3)).map (fun n => 2 * n) by simp only [List.append_assoc]]
      rw [plc_app F _ (fun x hx => ?_), plc_ge F (fun x hx => ?_), Nat.add_zero]
      · have := hFn 3 (by omega) (by omega) x hx (fun e => hnm 3 (by omega) (by omega) (by omega) (by rw [← e]; exact hx)); omega
      · rcases List.mem_append.mp hx with h | h
        · have := hF0 x h (fun e => h0 (by rw [← e]; exact h)); omega
        · rcases List.mem_append.mp h with h | h
          · have := hFn 1 (by omega) (by omega) x h (fun e => hnm 1 (by omega) (by omega) (by omega) (by rw [← e]; exact h)); omega
          · exact hed x h
    rw [hp, hE, show (rg k).map (fun n => 2 * n) ++ ((rg (k + 1)).map (fun n => 2 * n) ++ (((rg (k + 2)).erase n).map (fun n => 2 * n) ++ (rg (k + 3)).map (fun n => 2 * n))) = ((rg k).map (fun n => 2 * n) ++ ((rg (k + 1)).map (fun n => 2 * n) ++ ((rg (k + 2)).erase n).map (fun n => 2 * n))) ++ (rg (k + 3)).map (fun n => 2 * n) by simp only [List.append_assoc]]
    unfold ins
    rw [List.take_left' rfl, List.drop_left' rfl, rL_eq]
    unfold rmv
    have t0 : ¬ k = k + (2 + 1) := by omega
    have t1 : ¬ k = k + 2 := by omega
    have t2 : ¬ k + 1 = k + (2 + 1) := by omega
    have t3 : ¬ k + 1 = k + 2 := by omega
    have t4 : ¬ k + 2 = k + (2 + 1) := by omega
    have t5 : k + 3 = k + (2 + 1) := by omega
    have t6 : ¬ k + 3 = k + 2 := by omega
    simp only [t0, t1, t2, t3, t4, t5, t6, if_true, if_false, List.map_cons, List.append_assoc, List.cons_append, han]
    rw [if_neg (by omega)]
end MG

/-! what the reference's numbers hold of a value -/
def mW (F : Int → Int) (S : hSt) : Prop := 0 ≤ F 739 ∧ F 739 + eN S.2.1 ≤ 64 * (S.1 729 + S.1 726) ∧ (∀ i : Nat, i < S.2.2.length → 0 ≤ F (384 + S.2.2.getD i 0) ∧ F (384 + S.2.2.getD i 0) ≤ F 739) ∧ ∀ i j : Nat, i < j → j < S.2.2.length → F (384 + S.2.2.getD i 0) < F (384 + S.2.2.getD j 0)
def MT (F : Int → Int) (S : hSt) : Prop := mAll F S.1 ∧ mRg F S.2.1 ∧ mW F S
def HM (M : az_M) (m : Int) (S : hSt) : Prop := MT (M (m + 1)) S
theorem mRing_hop {F F' : Int → Int} {z z' : Int} {L : List Int} (h : mRing F z' L) (hh : hop F F' z) (hz : z' ≠ z) (z0 : 0 ≤ z') (z1 : z' < 3) (q0 : 0 ≤ z) (q1 : z < 3) (hl : L.length ≤ 64) : mRing F' z' L := by
  refine ⟨by rw [hh _ (by omega) (by omega)]; exact h.1, fun j hj => ?_⟩
  rw [hh _ (by omega) (by omega)]; exact h.2 j hj
theorem mRing_eq {F F' : Int → Int} {z : Int} {L : List Int} (h : mRing F z L) (he : ∀ i, 512 ≤ i → i < 707 → F' i = F i) (z0 : 0 ≤ z) (z1 : z < 3) (hl : L.length ≤ 64) : mRing F' z L := by
  refine ⟨by rw [he _ (by omega) (by omega)]; exact h.1, fun j hj => ?_⟩
  rw [he _ (by omega) (by omega)]; exact h.2 j hj
theorem rL_rmv (rg : Int → List Int) {n k0 k : Int} (front : Bool) {k' : Int} (h0 : k0 < k' ∨ k' + 3 < k0) (h1 : k < k' ∨ k' + 3 < k) : rL (rmv rg n k0 k front) k' = rL rg k' := by
  rw [rL_eq, rL_eq]
  have h : ∀ c, 0 ≤ c → c ≤ 3 → rmv rg n k0 k front (k' + c) = rg (k' + c) := fun c c0 c3 => by unfold rmv; rw [if_neg (by omega), if_neg (by omega)]
  have h00 := h 0 (by omega) (by omega)
  rw [Int.add_zero] at h00
  rw [h00, h 1 (by omega) (by omega), h 2 (by omega) (by omega), h 3 (by omega) (by omega)]
theorem sp_becomes {K : az_K} {m : Int} (hK : MaK K m) (M : az_M) {g : Int → Int} {rg : Int → List Int} (hw : WR g rg) (hF : mAll (M (m + 1)) g) (hR : mRg (M (m + 1)) rg) (a c : Int) (ha : sl g a) (hc : c = 1 ∨ c = 2) (hca : g a = c) : AM yX7_becomes cX7_becomes 4 none 2 0 0 [(1, m), (0, a), (0, c + 1)] K M (qv K (fun M' => mAll (M' (m + 1)) (gu g a (c + 1)) ∧ mRg (M' (m + 1)) (rmv rg (a / 2) (kz g a + c) (kz g a + (c + 1)) true) ∧ (∀ i, 384 ≤ i ∧ i < 512 ∨ i = 739 → M' (m + 1) i = M (m + 1) i) ∧ ∀ b, b ≠ m + 1 → M' b = M b)) := by
  have hK0 := hK
  obtain ⟨km, k1, zz⟩ := hK
  refine am_of (by decide) (Nat.le_of_ble_eq_true rfl) (L := [(1, m), (0, a), (0, c + 1), (9, 0)]) rfl ?_
  have a0 := ha.1
  have a1 := ha.2.1
  obtain ⟨e1, e2, e3, e4, e5⟩ := sl_even hw.1 ha
  have hpz := pz_in hw.1 a0 a1
  have hsz : (if 0 ≤ a ∧ a < 128 then pz g a else 0) = pz g a := if_pos ⟨a0, a1⟩
  obtain ⟨z, hz⟩ : ∃ z, z = if pz g a = 2 then (0 : Int) else if pz g a = 4 then 1 else 2 := ⟨_, rfl⟩
  have hzk : kz g a = 4 * z ∧ 0 ≤ z ∧ z < 3 := by
    unfold kz
    rcases hpz with e | e | e | e
    · exact absurd e ha.2.2.1
    · rw [e] at hz ⊢; simp at hz; omega
    · rw [e] at hz ⊢; simp at hz; omega
    · rw [e] at hz ⊢; simp at hz; omega
  obtain ⟨hk4, zn0, zn3⟩ := hzk
  have hkk : 4 * z = 0 ∨ 4 * z = 4 ∨ 4 * z = 8 := by omega
  have hLz := hR z zn0 zn3
  have hlen := rL_len hw hkk
  rw [hk4]
  have hmv0 := ring_mv hw (F := fun x => if x = a then c + 1 else g x) hkk hc ha hk4 hca (fun x x0 x1 => rfl)
  have hro : (if pz g a = 2 then (0 : Int) else if pz g a = 4 then 1 else 2) = z := hz.symm
  refine aw_aload_n dX7_becomes_0 rfl rfl ⟨by decide, by decide⟩ ?_
  refine aw_iload_n dX7_becomes_1 rfl rfl ?_
  refine aw_cV1p dX7_becomes_2 ml_RX7_98 (by assumption) (by decide) rfl rfl ⟨by decide, by decide, by decide, by decide⟩ (Nat.le_of_ble_eq_true rfl) (qp_c (sp_msizeAt hK0 M hw.1 hF a) hsz) ?_
  refine aw_cS1p dX7_becomes_5 ml_RX7_125 ⟨by decide, by decide, by decide, by decide⟩ (Nat.le_of_ble_eq_true rfl) (qp_c (sp_ringOf K M (pz g a)) hro) ?_
  refine aw_istore_n dX7_becomes_8 rfl (by decide) ?_
  refine aw_aload_n dX7_becomes_9 rfl rfl ⟨by decide, by decide⟩ ?_
  refine aw_iload_n dX7_becomes_10 rfl rfl ?_
  refine aw_iload_n dX7_becomes_11 rfl rfl ?_
  refine aw_cV2v dX7_becomes_12 ml_RX7_128 (by assumption) (by decide) rfl rfl ⟨by decide, by decide, by decide, by decide⟩ (Nat.le_of_ble_eq_true rfl) (sp_takeOut hK0 M z a zn0 zn3 (rL rg (4 * z)) hLz hlen hmv0.1) (fun M1 hM1 => ?_)
  obtain ⟨t1, t2, t3⟩ := hM1
  refine aw_aload_n dX7_becomes_15 rfl rfl ⟨by decide, by decide⟩ ?_
  refine aw_gzF 0 dX7_becomes_16 fl_RX7_7 (by assumption) rfl rfl (by assumption) ?_
  refine aw_iconst dX7_becomes_19 rfl ⟨by decide, by decide⟩ ?_
  refine aw_iload_n dX7_becomes_20 rfl rfl ?_
  refine aw_iadd dX7_becomes_21 (az_wr_id (by omega) (by omega)) ?_
  refine aw_iload_n dX7_becomes_22 rfl rfl ?_
  refine aw_iast dX7_becomes_23 (by assumption) (by omega) (by omega) ?_
  rw [Int.zero_add]
  generalize hM2 : az_up M1 (m + 1) a (c + 1) = M2
  have f2 : M2 (m + 1) = fun i => if i = a then c + 1 else M1 (m + 1) i := by rw [← hM2, up_row]
  have o2 : ∀ b, b ≠ m + 1 → M2 b = M1 b := fun b hb => by rw [← hM2, up_oth _ _ _ hb]
  have hel : ((rL rg (4 * z)).erase a).length < 64 := by
    have := List.length_erase_of_mem hmv0.1
    have := List.length_pos_of_mem hmv0.1
    omega
  have t1' : mRing (M2 (m + 1)) z ((rL rg (4 * z)).erase a) := mRing_eq t1 (fun i i0 i1 => by rw [f2]; exact if_neg (by omega)) zn0 zn3 (by omega)
  have hF2 : ∀ x, 0 ≤ x → x < 128 → M2 (m + 1) x = if x = a then c + 1 else g x := by
    intro x x0 x1
    rw [f2]
    show (if x = a then c + 1 else M1 (m + 1) x) = _
    by_cases e : x = a
    · rw [if_pos e, if_pos e]
    · rw [if_neg e, if_neg e, t2 x (by omega) (by omega), hF x x0 (by omega) (by omega) (by omega)]
  have hmv := ring_mv hw (F := M2 (m + 1)) hkk hc ha hk4 hca hF2
  have hin : ∀ x ∈ (rL rg (4 * z)).erase a, 0 ≤ x ∧ x < 128 := fun x hx => rL_in hw hkk x (List.mem_of_mem_erase hx)
  refine aw_aload_n dX7_becomes_24 rfl rfl ⟨by decide, by decide⟩ ?_
  refine aw_iload_n dX7_becomes_25 rfl rfl ?_
  refine aw_aload_n dX7_becomes_26 rfl rfl ⟨by decide, by decide⟩ ?_
  refine aw_iload_n dX7_becomes_27 rfl rfl ?_
  refine aw_iload_n dX7_becomes_28 rfl rfl ?_
  refine aw_cV2p dX7_becomes_29 ml_RX7_132 (by assumption) (by decide) rfl rfl ⟨by decide, by decide, by decide, by decide⟩ (Nat.le_of_ble_eq_true rfl) (sp_placeOf hK0 M2 z (c + 1) zn0 zn3 ((rL rg (4 * z)).erase a) t1' (by omega) hin) ?_
  refine aw_iload_n dX7_becomes_32 rfl rfl ?_
  refine aw_cV3v dX7_becomes_33 ml_RX7_135 (by assumption) (by decide) rfl rfl ⟨by decide, by decide, by decide, by decide⟩ (Nat.le_of_ble_eq_true rfl) (sp_putIn hK0 M2 z a (plc (M2 (m + 1)) ((rL rg (4 * z)).erase a) (c + 1)) zn0 zn3 ((rL rg (4 * z)).erase a) t1' hel (plc_le _ _ _)) (fun M3 hM3 => ?_)
  obtain ⟨u1, u2, u3⟩ := hM3
  rw [hmv.2] at u1
  refine aw_vret dX7_becomes_36 (by decide) (by decide) ⟨rfl, rfl, ?_, ?_, ?_, ?_⟩
  · intro i i0 i1 i2 i3
    rw [u2 i (by omega) (by omega), f2]
    show (if i = a then c + 1 else M1 (m + 1) i) = if i = a then c + 1 else g i
    by_cases e : i = a
    · rw [if_pos e, if_pos e]
    · rw [if_neg e, if_neg e, t2 i (by omega) (by omega), hF i i0 i1 i2 i3]
  · intro z' z0' z1'
    by_cases e : z' = z
    · subst e; exact u1
    · rw [rL_rmv rg true (by omega) (by omega)]
      have hk' : 4 * z' = 0 ∨ 4 * z' = 4 ∨ 4 * z' = 8 := by omega
      have hl' := rL_len hw hk'
      have q1 := mRing_hop (hR z' z0' z1') t2 e z0' z1' zn0 zn3 hl'
      have q2 : mRing (M2 (m + 1)) z' (rL rg (4 * z')) := mRing_eq q1 (fun i i0 i1 => by rw [f2]; exact if_neg (by omega)) z0' z1' hl'
      exact mRing_hop q2 u2 e z0' z1' zn0 zn3 hl'
  · intro i hi
    rw [u2 i (by omega) (by omega), f2]
    show (if i = a then c + 1 else M1 (m + 1) i) = _
    rw [if_neg (by omega), t2 i (by omega) (by omega)]
  · intro b hb
    rw [u3 b hb, o2 b hb, t3 b hb]
