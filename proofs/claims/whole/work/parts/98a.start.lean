/-! the machine at the law's entry is the small machine, with nothing made -/
set_option maxRecDepth 100000
theorem tmem {w : Cond} {i : Nat} (h : tables_1[i]? = some w) : w ∈ lw_tbl := List.mem_append_right _ (List.mem_of_getElem? h)
theorem l5 {P : Nat → Prop} (h0 : P 0) (h1 : P 1) (h2 : P 2) (h3 : P 3) (h4 : P 4) : ∀ i, i < 5 → P i := by
  intro i hi
  match i, hi with
  | 0, _ => exact h0
  | 1, _ => exact h1
  | 2, _ => exact h2
  | 3, _ => exact h3
  | 4, _ => exact h4
  | k + 5, h => exact absurd h (by omega)
def rdT (i : Nat) : Term := .string "TreadRing$Reader" (az_si.getD i 0)
set_option maxHeartbeats 4000000 in
theorem ent_S {s : State} {args : Array Value} (hs : ∀ w ∈ flatC (Jvm.Cond.and given_1 narrow_1), w.before args s = true) {A : Nat → Prop} (hA : ∀ a : Nat, a < s.heap.size → ¬ A a) : ∃ adK adV : Nat → Nat, vk_S 5 az_len az_byt adK adV A s s.heap ∧ ∀ i : Nat, i < 5 → (rdT i).eval args s none [] s = some (.ref (adK i)) := by
  refine vk_Sof (tm := rdT) ?_ ?_ ?_ ?_ ?_ ?_ ?_ hA
  · exact l5 (by decide) (by decide) (by decide) (by decide) (by decide)
  · exact l5 (hs _ (by decide +kernel)) (hs _ (by decide +kernel)) (hs _ (by decide +kernel)) (hs _ (by decide +kernel)) (hs _ (by decide +kernel))
  · exact l5 (hs _ (by decide +kernel)) (hs _ (by decide +kernel)) (hs _ (by decide +kernel)) (hs _ (by decide +kernel)) (hs _ (by decide +kernel))
  · exact l5 (hs _ (by decide +kernel)) (hs _ (by decide +kernel)) (hs _ (by decide +kernel)) (hs _ (by decide +kernel)) (hs _ (by decide +kernel))
  · exact l5 (hs _ (by decide +kernel)) (hs _ (by decide +kernel)) (hs _ (by decide +kernel)) (hs _ (by decide +kernel)) (hs _ (by decide +kernel))
  · refine l5 ?_ ?_ ?_ ?_ ?_
    · intro j hj
      match j, hj with
      | 0, _ => exact hs _ (by decide +kernel)
      | 1, _ => exact hs _ (by decide +kernel)
      | 2, _ => exact hs _ (by decide +kernel)
      | 3, _ => exact hs _ (by decide +kernel)
      | k + 4, h => exact absurd h (Nat.not_lt.mpr (Nat.le_add_left 4 k))
    · intro j hj
      match j, hj with
      | 0, _ => exact hs _ (by decide +kernel)
      | 1, _ => exact hs _ (by decide +kernel)
      | 2, _ => exact hs _ (by decide +kernel)
      | 3, _ => exact hs _ (by decide +kernel)
      | 4, _ => exact hs _ (by decide +kernel)
      | k + 5, h => exact absurd h (Nat.not_lt.mpr (Nat.le_add_left 5 k))
    · intro j hj
      match j, hj with
      | 0, _ => exact hs _ (by decide +kernel)
      | 1, _ => exact hs _ (by decide +kernel)
      | k + 2, h => exact absurd h (Nat.not_lt.mpr (Nat.le_add_left 2 k))
    · intro j hj
      match j, hj with
      | 0, _ => exact hs _ (by decide +kernel)
      | 1, _ => exact hs _ (by decide +kernel)
      | 2, _ => exact hs _ (by decide +kernel)
      | 3, _ => exact hs _ (by decide +kernel)
      | k + 4, h => exact absurd h (Nat.not_lt.mpr (Nat.le_add_left 4 k))
    · intro j hj
      match j, hj with
      | 0, _ => exact hs _ (by decide +kernel)
      | 1, _ => exact hs _ (by decide +kernel)
      | 2, _ => exact hs _ (by decide +kernel)
      | k + 3, h => exact absurd h (Nat.not_lt.mpr (Nat.le_add_left 3 k))
  · have key : ∀ i, i < 5 → ∀ j, j < 5 → i ≠ j → (Cond.not (Cond.eq (rdT i) (rdT j))).before args s = true ∨ (Cond.not (Cond.eq (rdT j) (rdT i))).before args s = true := by
      refine l5 ?_ ?_ ?_ ?_ ?_
      · refine l5 ?_ ?_ ?_ ?_ ?_
        · exact fun h => absurd rfl h
        · exact fun _ => Or.inl (hs _ (by decide +kernel))
        · exact fun _ => Or.inl (hs _ (by decide +kernel))
        · exact fun _ => Or.inl (hs _ (by decide +kernel))
        · exact fun _ => Or.inl (hs _ (by decide +kernel))
      · refine l5 ?_ ?_ ?_ ?_ ?_
        · exact fun _ => Or.inr (hs _ (by decide +kernel))
        · exact fun h => absurd rfl h
        · exact fun _ => Or.inl (hs _ (by decide +kernel))
        · exact fun _ => Or.inl (hs _ (by decide +kernel))
        · exact fun _ => Or.inl (hs _ (by decide +kernel))
      · refine l5 ?_ ?_ ?_ ?_ ?_
        · exact fun _ => Or.inr (hs _ (by decide +kernel))
        · exact fun _ => Or.inr (hs _ (by decide +kernel))
        · exact fun h => absurd rfl h
        · exact fun _ => Or.inl (hs _ (by decide +kernel))
        · exact fun _ => Or.inl (hs _ (by decide +kernel))
      · refine l5 ?_ ?_ ?_ ?_ ?_
        · exact fun _ => Or.inr (hs _ (by decide +kernel))
        · exact fun _ => Or.inr (hs _ (by decide +kernel))
        · exact fun _ => Or.inr (hs _ (by decide +kernel))
        · exact fun h => absurd rfl h
        · exact fun _ => Or.inl (hs _ (by decide +kernel))
      · refine l5 ?_ ?_ ?_ ?_ ?_
        · exact fun _ => Or.inr (hs _ (by decide +kernel))
        · exact fun _ => Or.inr (hs _ (by decide +kernel))
        · exact fun _ => Or.inr (hs _ (by decide +kernel))
        · exact fun _ => Or.inr (hs _ (by decide +kernel))
        · exact fun h => absurd rfl h
    exact fun i j hi hj h => key i hi j hj h
set_option maxHeartbeats 4000000 in
theorem ent_K {s : State} {args : Array Value} (hTB : ∀ w ∈ az_TB, w.before args s = true) (hts : ∀ w ∈ lw_tbl, w.before args s = true) : ∃ (D : va_G) (t : ClassId × ClassId × ClassId), va_K D vwCl [(t.1, .int), (t.2.1, .boolean), (t.2.2, .object "TreadRing$Heap")] s := by
  have one : ∀ {own : String} {idx ci : Nat}, az_NC own idx ci → ∃ d : ClassId × (Nat → Nat), ∀ q : vw_C, vwCl[ci]? = some q → u_Kn s q.1 q.2.1 q.2.2 d.1 d.2 := by
    intro own idx ci h
    obtain ⟨C, T, N, h1, h2, h3, h4, h5, h6, h7, h8, h9⟩ := h
    obtain ⟨cC, iS, hk⟩ := u_known (C := C) (T := T) (N := N) hTB h4 (hTB _ h7)
    exact ⟨(cC, iS), fun q hq => by rw [h1] at hq; cases hq; exact hk⟩
  have kn : ∀ k : Nat, ∃ d : ClassId × (Nat → Nat), ∀ q : vw_C, vwCl[k]? = some q → u_Kn s q.1 q.2.1 q.2.2 d.1 d.2 := by
    intro k
    match k with
    | 0 => exact one nc_RX6_9
    | 1 => exact one nc_RX6_41
    | 2 => exact one nc_RX6_54
    | 3 => exact one nc_RX0_9
    | 4 => exact one nc_RX6_71
    | 5 => exact one nc_RX6_61
    | 6 => exact one nc_RL_7
    | 7 => exact one nc_RL_10
    | k + 8 => exact ⟨Classical.choose (one nc_RX6_9), fun q hq => by rw [List.getElem?_eq_none (show vwCl.length ≤ k + 8 from Nat.le_add_left 8 k)] at hq; cases hq⟩
  obtain ⟨d, hd⟩ := Classical.axiomOfChoice kn
  obtain ⟨cI, kI, pI, i1, i2, i3⟩ := Cond.arrayClass_spec (hTB _ ac_int)
  obtain ⟨cZ, kZ, pZ, z1, z2, z3⟩ := Cond.arrayClass_spec (hTB _ ac_boolean)
  obtain ⟨pQ, cQ, kQ, j1, j2, j3, j4, j5⟩ := Cond.arrayOver_spec (hts _ (tmem (w := .arrayOver (.object "TreadRing$Heap")) (i := 25) (by decide +kernel)))
  refine ⟨(fun k => (d k).1, fun k => (d k).2), (cI, cZ, cQ), fun c q hq => hd c q hq, fun k q hq => ?_⟩
  match k, hq with
  | 0, hq => cases hq; exact ⟨fun n z => ⟨fun k h => (by cases h), kI, i2, pI, i3⟩, i1⟩
  | 1, hq => cases hq; exact ⟨fun n z => ⟨fun k h => (by cases h), kZ, z2, pZ, z3⟩, z1⟩
  | 2, hq => cases hq; exact ⟨fun n z => ⟨fun k h => (by cases h), kQ, j3, pQ, j4⟩, kQ, pQ, j3, j4, j1, j5⟩
  | k + 3, hq => cases hq
set_option maxHeartbeats 4000000 in
/-- THE LAW, from its entry -/
theorem whole_start {p : Program} {e : Env} {s : State} {m : MethodId} {below : List Frame} {meth : Method} {c : Code} (l : Launch) (hflags : l.flags = flags0) {b L : Nat} {xs : Nat → Int32} (hL : L ≤ 3072) (C0 : lw_At p s m meth c b L xs) : W p l e room_1 s m #[Value.ref b] below meth c s.heap [] 0 0 (lw_Z below #[Value.ref b] s) (entryFrame m ([Value.ref b] : List Value).toArray 4) := by
  obtain ⟨hx, hb, hr, hml, hown, hts, hX, hbl, hlocks, hgv, hnm⟩ := id C0
  have hTB : ∀ w ∈ az_TB, w.before #[Value.ref b] s = true := fun w hw => hts w (List.mem_filter.mp hw).1
  have hs := flat_of_before _ hgv
  have hA : ∀ a : Nat, a < s.heap.size → ¬ (fun q : Nat => s.heap.size ≤ q) a := fun a h => Nat.not_le.mpr h
  obtain ⟨D, tt, hK⟩ := ent_K hTB hts
  obtain ⟨adK, adV, hS, hSk⟩ := ent_S hs hA
  have hR : ∀ i : Nat, i < 5 → vk_R "TreadRing$Reader" (az_si.getD i 0) (az_st.getD i "") (adK i) s := by
    have q := fun i hi => hSk i hi
    refine l5 ?_ ?_ ?_ ?_ ?_
    · exact vk_R.of (hts _ (tmem (i := 524) (by decide +kernel))) (q 0 (by omega))
    · exact vk_R.of (hts _ (tmem (i := 577) (by decide +kernel))) (q 1 (by omega))
    · exact vk_R.of (hts _ (tmem (i := 578) (by decide +kernel))) (q 2 (by omega))
    · exact vk_R.of (hts _ (tmem (i := 595) (by decide +kernel))) (q 3 (by omega))
    · exact vk_R.of (hts _ (tmem (i := 604) (by decide +kernel))) (q 4 (by omega))
  have hZ := va_Zof (C := "java/lang/String") (n := "COMPACT_STRINGS") (d := "Z") (v := .int 1) (hts _ (tmem (i := 538) (by decide +kernel))) (hTB _ tb136) (va_eqt (hs _ (by decide +kernel))) hA
  have hP := va_Zqof (C := "jdk/internal/util/Preconditions") (n := "SIOOBE_FORMATTER") (d := "Ljava/util/function/BiFunction;") (hts _ (tmem (i := 554) (by decide +kernel))) (hTB _ tb138) (hs _ (by decide +kernel)) hA
  obtain ⟨fo, hfo⟩ : ∃ fo : Option Nat, va_Z "jdk/internal/util/Preconditions" "SIOOBE_FORMATTER" "Ljava/util/function/BiFunction;" (va_rf fo) (fun q : Nat => s.heap.size ≤ q) s s.heap := by
    rcases hP with h | ⟨t, h⟩
    · exact ⟨none, h⟩
    · exact ⟨some t, h⟩
  have hN : ∀ w ∈ az_NW, va_Nw w s := by
    intro w hw
    have hm : w ∈ lw_tbl := List.mem_append_right _ (List.mem_filter.mp hw).1
    rcases az_nest hw with ⟨a, i, b, n, d, h, rfl⟩ | ⟨a, i, x, h, rfl⟩
    · exact va_Nw.of rfl (hts _ hm)
    · exact va_Nw.of rfl (hts _ hm)
  have hO : va_AO "TreadRing$Heap" s := va_AO.of (hts _ (tmem (i := 25) (by decide +kernel)))
  have hl := lv_entry ([.ref b]) (n := 4) (Nat.le_of_ble_eq_true rfl)
  rw [lg_entry_eq]
  generalize (lg_sl ([.ref b]) ++ List.replicate (4 - (lg_sl ([.ref b])).length) Slot.unset).toArray = ls at hl ⊢
  have hl : lv_has ls 4 [(0, .ref b)] := hl
  refine law_begin hL p l e s m #[Value.ref b] below meth c (s.heap.size, D, tt, adK, adV, fo, b) s.heap [] ls ⟨⟨hx, hb, hr, hml, hown, hTB, hlocks, hnm⟩, ⟨hK, hN, hR, hS, hZ, hfo, hO⟩, ⟨fun k q h => (by cases h), ⟨fun i j p q h => (by cases h), fun k q h => (by cases h)⟩, rfl, fun a i c h => (by cases h), fun a i => az_in0⟩, va_S.rf, Nat.le_refl _, ⟨hX, hbl, hbl, rfl, Nat.le_refl _⟩, ⟨hl.1, hl.2.1, ?_⟩, ?_, fun v hv => by cases hv⟩
  · intro i v hv h9
    match i, hv with
    | 0, hv => cases hv; exact hl.2.2 (0, .ref b) List.mem_cons_self
    | 1, hv => cases hv; exact absurd rfl h9
    | 2, hv => cases hv; exact absurd rfl h9
    | 3, hv => cases hv; exact absurd rfl h9
    | k + 4, hv => cases hv
  · intro v hv h0
    rcases List.mem_cons.mp hv with rfl | hv
    · exact absurd h0 (by decide)
    rcases List.mem_cons.mp hv with rfl | hv
    · exact absurd h0 (by decide)
    rcases List.mem_cons.mp hv with rfl | hv
    · exact absurd h0 (by decide)
    rcases List.mem_cons.mp hv with rfl | hv
    · exact absurd h0 (by decide)
    cases hv
