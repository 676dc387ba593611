/-! class and reference, call by call -/
set_option maxRecDepth 20000
def CM (M : az_M) (x m : Int) (it : Int → Int → Int) (n sc sp t : Int) : Prop := PC M x sc sp it n ∧ PGm M m it n ∧ NP it n ∧ M x 10 = t ∧ M m 11 = t ∧ (0 ≤ t ∧ t ≤ 400) ∧ (∀ i, 0 ≤ i → i < t → M (x + 23) i = M (m + 8) i ∧ 0 ≤ M (m + 8) i ∧ M (m + 8) i ≤ 255) ∧ M m 30 = M (x + 24) 7 ∧ M m 31 = M (x + 24) 8
def IV (x m : Int) (M : az_M) (B : Int) : Prop := ∃ (ch : hCh) (a u : Int) (bx : hCh) (bz : Int → Int) (cu : Int) (it : Int → Int → Int) (n sc sp t : Int), GW ch a u bx bz B ∧ TRh M x ch a u bx bz cu ∧ MDh M m ch a u bx bz ∧ CM M x m it n sc sp t
def PR (y1 : MethodName) (c1 : ByteArray) (n1 : Nat) (r1 : Option FieldType) (d1 : Nat) (y2 : MethodName) (c2 : ByteArray) (n2 : Nat) (r2 : Option FieldType) (d2 : Nat) (As : List az_V) (K : az_K) (x m : Int) (M : az_M) (B : Int) : Prop :=
  ∃ Q1, AM y1 c1 n1 r1 d1 0 0 ((1, x) :: As) K M Q1 ∧ ∀ r K' M1, Q1 r K' M1 → ∃ z1, r = some (0, z1) ∧ K' = K ∧ ∃ Q2, AM y2 c2 n2 r2 d2 0 0 ((1, m) :: As) K M1 Q2 ∧ ∀ r K' M2, Q2 r K' M2 → r = some (0, z1) ∧ K' = K ∧ IV x m M2 (B + 1505)
def cX (M M' : az_M) (x : Int) : Prop := (∀ j, j = 10 ∨ j = 12 ∨ j = 13 → M' x j = M x j) ∧ (∀ b, b = x + 23 ∨ b = x + 24 ∨ x + 33 ≤ b ∧ b ≤ x + 44 → M' b = M b) ∧ ∀ b, x + 390 < b → M' b = M b
section PA
variable {K : az_K} {x m : Int} {M M1 M2 M' : az_M} {ch : hCh} {a u : Int} {bx : hCh} {bz : Int → Int} {B cu : Int} {it : Int → Int → Int} {n sc sp t : Int}
theorem cX.refl (M : az_M) (x : Int) : cX M M x := ⟨fun _ _ => rfl, fun _ _ => rfl, fun _ _ => rfl⟩
theorem cX.ofA (f : frA M M' x) : cX M M' x := ⟨fun j h => f.2 j (by omega) (by omega) (by omega), fun b h => f.1 b (by omega) (by omega), fun b h => f.1 b (by omega) (by omega)⟩
theorem cX.ofB (f : frB M M' x) : cX M M' x := ⟨fun j h => f.2 j (by omega) (by omega) (by omega), fun b h => f.1 b (by omega) (by omega) (by omega), fun b h => f.1 b (by omega) (by omega) (by omega)⟩
theorem cX.ofY (f : frY M M' x) : cX M M' x := ⟨fun j h => by rw [f x (by omega) (by omega)], fun b h => f b (by omega) (by omega), fun b h => f b (by omega) (by omega)⟩
theorem cX.ofI (f : frI M M' x) : cX M M' x := ⟨fun j h => by rw [f x (by omega) (by omega)], fun b h => f b (by omega) (by omega), fun b h => f b (by omega) (by omega)⟩
theorem MDh.fr (h : MDh M m ch a u bx bz) (e : ∀ b, m ≤ b → b ≤ m + 25 → M' b = M b) : MDh M' m ch a u bx bz := by
  obtain ⟨h1, h2, h3, h4, h5, h6⟩ := h
  have eb : ∀ c j, m ≤ c → c ≤ m + 25 → blk M' c j = blk M c j := fun c j c0 c1 => by unfold blk; rw [e c c0 c1]
  refine ⟨HM_fr h1 (e _ (by omega) (by omega)), by rw [e m (by omega) (by omega)]; exact h2, by rw [e m (by omega) (by omega)]; exact h3, fun j j0 j1 => by rw [eb _ _ (by omega) (by omega)]; exact h4 j j0 j1, fun j j0 j1 => by rw [eb _ _ (by omega) (by omega)]; exact h5 j j0 j1, fun j j0 j1 => ⟨by rw [e _ (by omega) (by omega)]; exact (h6 j j0 j1).1, fun q => by rw [eb _ _ (by omega) (by omega)]; exact (h6 j j0 j1).2 q⟩⟩
theorem TRh.fr (h : TRh M x ch a u bx bz cu) (e : ∀ b, b < x + 391 → M' b = M b) : TRh M' x ch a u bx bz cu := by
  obtain ⟨h1, h2, h3, h4, h5, h6⟩ := h
  have ex : M' x = M x := e _ (by omega)
  exact ⟨by rw [ex]; exact h1, h2, by rw [ex]; exact h3, by rw [ex]; exact h4, fun t t0 t1 => HS_fr (h5 t t0 t1) (fun b b0 b1 => e b (by omega)), fun j j0 j1 => ⟨by rw [e _ (by omega)]; exact (h6 j j0 j1).1, fun q => HS_fr ((h6 j j0 j1).2 q) (fun b b0 b1 => e b (by omega))⟩⟩
theorem MDh.c (hm : m = x + 391) (h : MDh M m ch a u bx bz) (f : cX M M' x) : MDh M' m ch a u bx bz := h.fr (fun b b0 b1 => f.2.2 b (by omega))
theorem TRh.o (hm : m = x + 391) (h : TRh M x ch a u bx bz cu) (f : frO M M' m) : TRh M' x ch a u bx bz cu := h.fr (fun b b0 => f b (by omega))
theorem frX.c (hm : m = x + 391) (f : cX M M' x) : frX M M' m := ⟨f.2.2 _ (by omega), fun b _ _ => f.2.2 b (by omega), by rw [f.2.2 m (by omega)], by rw [f.2.2 m (by omega)], by rw [f.2.2 m (by omega)], by rw [f.2.2 m (by omega)]⟩
theorem CM.mv (h : CM M x m it n sc sp t) (f : (∀ j, j = 10 ∨ j = 12 ∨ j = 13 → M' x j = M x j) ∧ (∀ b, b = x + 23 ∨ b = x + 24 ∨ x + 33 ≤ b ∧ b ≤ x + 44 → M' b = M b)) (g : frX M M' m) : CM M' x m it n sc sp t := by
  obtain ⟨h1, h2, h3, h4, h5, h6, h7, h8, h9⟩ := h
  obtain ⟨g1, g2, g3, g4, g5, g6⟩ := g
  have hb := h1.2.2.1
  refine ⟨⟨(f.1 _ (by omega)).trans h1.1, (f.1 _ (by omega)).trans h1.2.1, hb, h1.2.2.2.fr (fun b b0 b1 => f.2 b (by omega))⟩, h2.fr g4 g2, h3, (f.1 _ (by omega)).trans h4, g3.trans h5, h6, fun i i0 i1 => ?_, ?_, ?_⟩
  · rw [f.2 _ (by omega), g1]; exact h7 i i0 i1
  · rw [g5, f.2 _ (by omega)]; exact h8
  · rw [g6, f.2 _ (by omega)]; exact h9
theorem CM.c (hm : m = x + 391) (h : CM M x m it n sc sp t) (f : cX M M' x) : CM M' x m it n sc sp t := h.mv ⟨f.1, f.2.1⟩ (frX.c hm f)
theorem CM.o (hm : m = x + 391) (h : CM M x m it n sc sp t) (g : frX M M' m) (f : frO M M' m) : CM M' x m it n sc sp t := h.mv ⟨fun j _ => by rw [f x (by omega)], fun b w => f b (by omega)⟩ g
theorem gok.up {T : hSt} {B B' : Int} (h : gok B T) (hb : B ≤ B') : gok B' T := ⟨h.1, h.2.1, by have := h.2.2; omega⟩
/-- an act on both sides -/
theorem pr_act {y1 : MethodName} {c1 : ByteArray} {n1 : Nat} {r1 : Option FieldType} {d1 : Nat} {y2 : MethodName} {c2 : ByteArray} {n2 : Nat} {r2 : Option FieldType} {d2 : Nat} {As : List az_V} {P : Prop} {z0 zN : Int} {T : hSt} (hm : m = x + 391) (hg : GW ch a u bx bz B) (hd : MDh M m ch a u bx bz) (hc : CM M x m it n sc sp t)
    (hT : P → gok (B + 1505) T) (h1 : AM y1 c1 n1 r1 d1 0 0 ((1, x) :: As) K M (qi K (rC2 P z0 zN T ch a u bx bz cu M x))) (h2 : ∀ M1, MDh M1 m ch a u bx bz → CM M1 x m it n sc sp t → AM y2 c2 n2 r2 d2 0 0 ((1, m) :: As) K M1 (qi K (rA P z0 zN T ch a u bx bz M1 m))) : PR y1 c1 n1 r1 d1 y2 c2 n2 r2 d2 As K x m M B := by
  refine ⟨_, h1, fun r K' M1 q => ?_⟩
  obtain ⟨z1, e1, e2, q⟩ := q
  have fc := cX.ofB q.2.2
  have hd1 := hd.c hm fc
  have hc1 := hc.c hm fc
  refine ⟨z1, e1, e2, _, h2 M1 hd1 hc1, fun r K' M2 w => ?_⟩
  obtain ⟨z2, e3, e4, w⟩ := w
  have hc2 := hc1.o hm w.2.2.1 w.2.2.2
  by_cases hp : P
  · obtain ⟨p1, p2⟩ := q.1 hp
    obtain ⟨p3, p4⟩ := w.1 hp
    refine ⟨by rw [e3, p3, p1], e4, _, _, _, _, _, _, _, _, _, _, _, ?_, p2.o hm w.2.2.2, p4, hc2⟩
    exact (hg.keep.mono (by omega)).chs (hT hp)
  · obtain ⟨p1, p2⟩ := q.2.1 hp
    obtain ⟨p3, p4⟩ := w.2.1 hp
    exact ⟨by rw [e3, p3, p1], e4, _, _, _, _, _, _, _, _, _, _, _, hg.mono (by omega), p2.o hm w.2.2.2, p4, hc2⟩
theorem rC.to2 {P : Prop} {z0 zN : Int} {T : hSt} : ∀ z M', rC P z0 zN T ch a u bx bz cu M x z M' → rC2 P z0 zN T ch a u bx bz cu M x z M' := fun z M' h => ⟨h.1, h.2.1, frB.ofA h.2.2⟩
theorem pr_actA {y1 : MethodName} {c1 : ByteArray} {n1 : Nat} {r1 : Option FieldType} {d1 : Nat} {y2 : MethodName} {c2 : ByteArray} {n2 : Nat} {r2 : Option FieldType} {d2 : Nat} {As : List az_V} {P : Prop} {z0 zN : Int} {T : hSt} (hm : m = x + 391) (hg : GW ch a u bx bz B) (hd : MDh M m ch a u bx bz) (hc : CM M x m it n sc sp t)
    (hT : P → gok (B + 1505) T) (h1 : AM y1 c1 n1 r1 d1 0 0 ((1, x) :: As) K M (qi K (rC P z0 zN T ch a u bx bz cu M x))) (h2 : ∀ M1, MDh M1 m ch a u bx bz → AM y2 c2 n2 r2 d2 0 0 ((1, m) :: As) K M1 (qi K (rA P z0 zN T ch a u bx bz M1 m))) : PR y1 c1 n1 r1 d1 y2 c2 n2 r2 d2 As K x m M B := by
  refine ⟨_, h1, fun r K' M1 q => ?_⟩
  obtain ⟨z1, e1, e2, q⟩ := q
  have fc := cX.ofA q.2.2
  have hd1 := hd.c hm fc
  have hc1 := hc.c hm fc
  refine ⟨z1, e1, e2, _, h2 M1 hd1, fun r K' M2 w => ?_⟩
  obtain ⟨z2, e3, e4, w⟩ := w
  have hc2 := hc1.o hm w.2.2.1 w.2.2.2
  by_cases hp : P
  · obtain ⟨p1, p2⟩ := q.1 hp
    obtain ⟨p3, p4⟩ := w.1 hp
    refine ⟨by rw [e3, p3, p1], e4, _, _, _, _, _, _, _, _, _, _, _, ?_, p2.o hm w.2.2.2, p4, hc2⟩
    exact (hg.keep.mono (by omega)).chs (hT hp)
  · obtain ⟨p1, p2⟩ := q.2.1 hp
    obtain ⟨p3, p4⟩ := w.2.1 hp
    exact ⟨by rw [e3, p3, p1], e4, _, _, _, _, _, _, _, _, _, _, _, hg.mono (by omega), p2.o hm w.2.2.2, p4, hc2⟩
theorem pr_qp {y1 : MethodName} {c1 : ByteArray} {n1 : Nat} {r1 : Option FieldType} {d1 : Nat} {y2 : MethodName} {c2 : ByteArray} {n2 : Nat} {r2 : Option FieldType} {d2 : Nat} {As : List az_V} {V V' : Int} (hg : GW ch a u bx bz B) (ht : TRh M x ch a u bx bz cu) (hd : MDh M m ch a u bx bz) (hc : CM M x m it n sc sp t)
    (h1 : AM y1 c1 n1 r1 d1 0 0 ((1, x) :: As) K M (qp K M V)) (h2 : AM y2 c2 n2 r2 d2 0 0 ((1, m) :: As) K M (qp K M V')) (e : V' = V) : PR y1 c1 n1 r1 d1 y2 c2 n2 r2 d2 As K x m M B := by
  refine ⟨_, h1, fun r K' M1 q => ?_⟩
  obtain ⟨e1, e2, e3⟩ := q
  subst e3
  refine ⟨V, e1, e2, _, h2, fun r K' M2 w => ?_⟩
  obtain ⟨e4, e5, e6⟩ := w
  subst e6
  exact ⟨by rw [e4, e], e5, _, _, _, _, _, _, _, _, _, _, _, hg.mono (by omega), ht, hd, hc⟩
theorem pr_qy {y1 : MethodName} {c1 : ByteArray} {n1 : Nat} {r1 : Option FieldType} {d1 : Nat} {y2 : MethodName} {c2 : ByteArray} {n2 : Nat} {r2 : Option FieldType} {d2 : Nat} {As : List az_V} {V : Int} {F : az_M → az_M → Prop} (hm : m = x + 391) (hg : GW ch a u bx bz B) (ht : TRh M x ch a u bx bz cu) (hd : MDh M m ch a u bx bz) (hc : CM M x m it n sc sp t)
    (h1 : AM y1 c1 n1 r1 d1 0 0 ((1, x) :: As) K M (qi K (fun z M' => z = V ∧ frY M M' x))) (h2 : ∀ M1, MDh M1 m ch a u bx bz → CM M1 x m it n sc sp t → AM y2 c2 n2 r2 d2 0 0 ((1, m) :: As) K M1 (qi K (fun z M' => z = V ∧ F M1 M'))) (hF : ∀ M1 M2, MDh M1 m ch a u bx bz → F M1 M2 → MDh M2 m ch a u bx bz ∧ frX M1 M2 m ∧ frO M1 M2 m) : PR y1 c1 n1 r1 d1 y2 c2 n2 r2 d2 As K x m M B := by
  refine ⟨_, h1, fun r K' M1 q => ?_⟩
  obtain ⟨z1, e1, e2, q1, q2⟩ := q
  have fc := cX.ofY q2
  have hd1 := hd.c hm fc
  have hc1 := hc.c hm fc
  refine ⟨z1, e1, e2, _, h2 M1 hd1 hc1, fun r K' M2 w => ?_⟩
  obtain ⟨z2, e3, e4, w1, w2⟩ := w
  obtain ⟨w3, w4, w5⟩ := hF M1 M2 hd1 w2
  exact ⟨by rw [e3, w1, q1], e4, _, _, _, _, _, _, _, _, _, _, _, hg.mono (by omega), (ht.ofY q2).o hm w5, w3, hc1.o hm w4 w5⟩
theorem pr_Q (M1 M2 : az_M) (h : MDh M1 m ch a u bx bz) (f : frQ M1 M2 m) : MDh M2 m ch a u bx bz ∧ frX M1 M2 m ∧ frO M1 M2 m := ⟨h.ofQ f, frX.ofQ f, frO.ofQ f⟩
theorem pr_U (M1 M2 : az_M) (h : MDh M1 m ch a u bx bz) (f : HM M2 m (ch a) ∧ frU M1 M2 m) : MDh M2 m ch a u bx bz ∧ frX M1 M2 m ∧ frO M1 M2 m := ⟨h.ofU f.1 f.2, frX.ofU f.2, frO.ofU f.2⟩
end PA
