section AZ
variable {P : az_E → State → Array Value → Prop} {Z : List Frame → Array Value → State → az_E → State → Prop} {R : Room} {y : MethodName} {cc : ByteArray} {nL : Nat} {ret : Option FieldType} {cs sl pc : Nat} {L S : List az_V} {K : az_K} {M : az_M}
/-- the memory with a new cell's contents -/
def az_nw (M : az_M) (a : Int) (g : Int → Int) : az_M := fun b => if b = a then g else M b
theorem az_nw_s (M : az_M) (a : Int) (g : Int → Int) (i : Int) : az_nw M a g a i = g i := by simp [az_nw]
theorem az_nw_n (M : az_M) {a b : Int} (g : Int → Int) (i : Int) (h : b ≠ a) : az_nw M a g b i = M b i := by simp [az_nw, h]
theorem az_W_push (E : az_E) (K : az_K) (M : az_M) (q : Nat × Nat) (g : Int → Int) : az_W E (K.1 ++ [q], K.2) (az_nw M K.1.length g) = az_W E K M ++ [(E.1 + K.1.length, az_el E q g)] := by
  apply List.ext_getElem?
  intro i
  unfold az_W
  rw [List.getElem?_mapIdx]
  by_cases hi : i < K.1.length
  · rw [List.getElem?_append_left hi, List.getElem?_append_left (by rw [List.length_mapIdx]; exact hi), List.getElem?_mapIdx]
    have hn : ¬ ((i : Nat) : Int) = ((K.1.length : Nat) : Int) := by omega
    cases K.1[i]? with
    | none => rfl
    | some x => simp [az_nw, hn]
  · rw [List.getElem?_append_right (by omega), List.getElem?_append_right (by rw [List.length_mapIdx]; omega), List.length_mapIdx]
    by_cases h2 : i = K.1.length
    · subst h2
      simp [az_nw]
    · have : 1 ≤ i - K.1.length := by omega
      rw [List.getElem?_eq_none (by simpa using this), List.getElem?_eq_none (by simpa using this)]
      rfl
theorem az_H_push {E : az_E} {K : az_K} {M : az_M} {H H1 : Heap} {q : Nat × Nat} {g : Int → Int} (HH : az_H E K M H) (hz : H1.size = H.size + 1) (o1 : ∀ x, x < H.size → H1[x]? = H[x]?) (hg : ∀ i, az_in (g i)) (he : va_at E.2.1 vwCl (E.1 + K.1.length, az_el E q g) H1) : az_H E (K.1 ++ [q], K.2) (az_nw M K.1.length g) H1 := by
  have hk : ∀ (k : Nat) (x : Nat × va_E), (az_W E K M)[k]? = some x → H1[x.1]? = H[x.1]? := fun k x hx => o1 x.1 ((HH.1 k x hx).lt)
  refine ⟨?_, ?_, ?_, ?_, ?_⟩
  · rw [az_W_push]
    refine (HH.1.kept hk).app (fun k x hx => ?_)
    have hz : k < 1 := (List.getElem?_eq_some_iff.mp hx).1
    rw [show k = 0 by omega] at hx
    cases hx
    exact he
  · rw [az_W_push]
    exact HH.2.1.push HH.1 HH.2.2.1.symm (by unfold az_A; omega)
  · show H1.size = E.1 + (K.1 ++ [q]).length
    rw [hz, HH.2.2.1, List.length_append]
    simp; omega
  · intro b j c hc
    obtain ⟨h1, q2, h2, h3, h4, h5⟩ := HH.2.2.2.1 b j c hc
    refine ⟨?_, q2, h2.push, h3, h4, h5⟩
    have hl : b.toNat < K.1.length := (List.getElem?_eq_some_iff.mp h2.2).1
    have hb : ¬ b = (K.1.length : Int) := by have := h2.1; omega
    rw [az_nw_n _ _ _ hb]
    exact h1
  · intro a i
    unfold az_nw
    split
    · exact hg i
    · exact HH.2.2.2.2 a i
theorem az_S_push {E : az_E} {H0 H H1 : Heap} {locs : List Loc} (HS : va_S (az_A E) H0 H locs) (hz : H1.size = H.size + 1) (o1 : ∀ x, x < H.size → H1[x]? = H[x]?) : va_S (az_A E) H0 H1 locs :=
  ⟨Nat.le_trans HS.1 (by omega), fun x h1 h2 => (o1 x (Nat.lt_of_lt_of_le h1 HS.1)).trans (HS.2.1 x h1 h2), HS.2.2⟩
/-- a new object's fields: null or 0 -/
def az_d0 (ci : Nat) : Int → Int := fun j => if az_rf ci j.toNat = 1 then -1 else 0
theorem az_d0_in (ci : Nat) (j : Int) : az_in (az_d0 ci j) := by unfold az_d0 az_in; split <;> omega

theorem aw_new {index ci : Nat} (hd : decode cc pc = .ok (.new index, 3)) (hf : az_NC y.cls index ci) (hc1 : cs + 1 ≤ R.cells) (hs1 : sl + az_nf ci ≤ R.slots)
    (k : AW P Z R y cc nL ret (cs + 1) (sl + az_nf ci) (pc + 3) L ((1, (K.1.length : Int)) :: S) (K.1 ++ [(ci, az_nf ci)], K.2) (az_nw M K.1.length (az_d0 ci))) : AW P Z R y cc nL ret cs sl pc L S K M := by
  rintro p l e s m args below meth c E H locs ls ⟨C, ST, HH, HS, HB, HP, HL, oL, oS⟩
  obtain ⟨hx, hb, hr, hml, hown, hts, hlocks, hnm⟩ := id C
  obtain ⟨Cn, T, N, hc, hN, h8, hin, hty, hcl, hins, hini, hdv⟩ := hf
  subst hN
  have hKn := ST.1.1 ci _ hc
  refine W.newcK hx hb hown (hts _ hcl) (hts _ hins) (hts _ hini) rfl hd hc1 hs1 hKn.2.1 rfl fun H1 kC hkC e1 z1 o1 => ?_
  have K1 := k p l e s m args below meth c E H1 locs ls ⟨C, ST, az_H_push HH z1 o1 (az_d0_in ci) ?_, az_S_push HS z1 o1, HB, HP, HL, oL, az_okc (az_okr (by decide)) oS⟩
  · rw [List.map_cons, az_cv1 E (by omega), Int.toNat_natCast, ← HH.2.2.1] at K1
    exact K1
  · rw [az_elo E _ h8, ← HH.2.2.1]
    refine ⟨_, hc, (u_born (az_ty ci) hts hin hKn hkC e1 hty).to (fun j hj => ?_)⟩
    rw [hdv j hj]
    show _ = vp_V ((List.range (az_nf ci)).map (fun k => az_cv E (az_rf ci k, az_d0 ci k))) j
    unfold vp_V
    rw [List.getD_eq_getElem?_getD, List.getElem?_map, List.getElem?_range hj]
    show _ = az_cv E (az_rf ci j, az_d0 ci j)
    unfold az_d0
    rw [Int.toNat_natCast]
    by_cases hrf : az_rf ci j = 1
    · rw [if_pos hrf, if_pos hrf, hrf, az_cv1N E (by omega)]
    · rw [if_neg hrf, if_neg hrf]
      have h0 : az_rf ci j = 0 := by
        have : az_rf ci j = 0 ∨ az_rf ci j = 1 := by unfold az_rf; cases az_ty ci j <;> simp [az_isr]
        omega
      rw [h0, az_cv0]
      rfl
theorem aw_newI {n : Nat} (hd : decode cc pc = .ok (.newarray .int, 2)) (hn : n ≤ 100000) (ha : Cond.arrayClass .int ∈ az_TB) (hc1 : cs + 1 ≤ R.cells) (hs1 : sl + n ≤ R.slots)
    (k : AW P Z R y cc nL ret (cs + 1) (sl + n) (pc + 2) L ((1, (K.1.length : Int)) :: S) (K.1 ++ [(100, n)], K.2) (az_nw M K.1.length (fun _ => 0))) : AW P Z R y cc nL ret cs sl pc L ((0, (n : Int)) :: S) K M := by
  rintro p l e s m args below meth c E H locs ls ⟨C, ST, HH, HS, HB, HP, HL, oL, oS⟩
  obtain ⟨hx, hb, hr, hml, hown, hts, hlocks, hnm⟩ := id C
  have hi : az_in (n : Int) := az_okh oS rfl
  refine va_newaK (atype := .int) (n := Int32.ofInt n) hx hb (hts _ ha) rfl hd rfl (by rw [az_i0, az_lt hi az_in0]; omega) (by rw [az_cl hi, Int.toNat_natCast]) (Nat.le_trans (Nat.mul_le_mul hn (show componentBytes (newarray.typeOf .int) ≤ 8 by decide)) (Nat.le_of_ble_eq_true rfl)) hc1 hs1 rfl fun H1 cA e1 z1 o1 hAr hNm => ?_
  have hcA : cA = E.2.2.1.1 := by
    have h1 := (ST.1.2 0 _ rfl).2
    exact Option.some.inj (hNm.symm.trans h1)
  subst hcA
  have K1 := k p l e s m args below meth c E H1 locs ls ⟨C, ST, az_H_push (q := (100, n)) HH z1 o1 (fun _ => az_in0) ?_, az_S_push HS z1 o1, HB, HP, HL, oL, az_okc (az_okr (by decide)) (az_okt oS)⟩
  · rw [List.map_cons, az_cv1 E (by omega), Int.toNat_natCast, ← HH.2.2.1] at K1
    exact K1
  · rw [az_el100, ← HH.2.2.1]
    exact e1
theorem aw_newZ {n : Nat} (hd : decode cc pc = .ok (.newarray .boolean, 2)) (hn : n ≤ 100000) (ha : Cond.arrayClass .boolean ∈ az_TB) (hc1 : cs + 1 ≤ R.cells) (hs1 : sl + n ≤ R.slots)
    (k : AW P Z R y cc nL ret (cs + 1) (sl + n) (pc + 2) L ((1, (K.1.length : Int)) :: S) (K.1 ++ [(101, n)], K.2) (az_nw M K.1.length (fun _ => 0))) : AW P Z R y cc nL ret cs sl pc L ((0, (n : Int)) :: S) K M := by
  rintro p l e s m args below meth c E H locs ls ⟨C, ST, HH, HS, HB, HP, HL, oL, oS⟩
  obtain ⟨hx, hb, hr, hml, hown, hts, hlocks, hnm⟩ := id C
  have hi : az_in (n : Int) := az_okh oS rfl
  refine va_newaK (atype := .boolean) (n := Int32.ofInt n) hx hb (hts _ ha) rfl hd rfl (by rw [az_i0, az_lt hi az_in0]; omega) (by rw [az_cl hi, Int.toNat_natCast]) (Nat.le_trans (Nat.mul_le_mul hn (show componentBytes (newarray.typeOf .boolean) ≤ 8 by decide)) (Nat.le_of_ble_eq_true rfl)) hc1 hs1 rfl fun H1 cA e1 z1 o1 hAr hNm => ?_
  have hcA : cA = E.2.2.1.2.1 := by
    have h1 := (ST.1.2 1 _ rfl).2
    exact Option.some.inj (hNm.symm.trans h1)
  subst hcA
  have K1 := k p l e s m args below meth c E H1 locs ls ⟨C, ST, az_H_push (q := (101, n)) HH z1 o1 (fun _ => az_in0) ?_, az_S_push HS z1 o1, HB, HP, HL, oL, az_okc (az_okr (by decide)) (az_okt oS)⟩
  · rw [List.map_cons, az_cv1 E (by omega), Int.toNat_natCast, ← HH.2.2.1] at K1
    exact K1
  · rw [az_el101, ← HH.2.2.1]
    exact e1
theorem aw_newQ {n index : Nat} (hd : decode cc pc = .ok (.anewarray index, 3)) (hn : n ≤ 100000) (ha : Cond.classLink y.cls index "TreadRing$Heap" ∈ az_TB) (hc1 : cs + 1 ≤ R.cells) (hs1 : sl + n ≤ R.slots)
    (k : AW P Z R y cc nL ret (cs + 1) (sl + n) (pc + 3) L ((1, (K.1.length : Int)) :: S) (K.1 ++ [(102, n)], K.2) (az_nw M K.1.length (fun _ => -1))) : AW P Z R y cc nL ret cs sl pc L ((0, (n : Int)) :: S) K M := by
  rintro p l e s m args below meth c E H locs ls ⟨C, ST, HH, HS, HB, HP, HL, oL, oS⟩
  obtain ⟨hx, hb, hr, hml, hown, hts, hlocks, hnm⟩ := id C
  have hi : az_in (n : Int) := az_okh oS rfl
  have hcl : (Int32.ofInt (n : Int)).toNatClampNeg = n := by rw [az_cl hi, Int.toNat_natCast]
  refine W.anew (n := Int32.ofInt n) hx hb hown (hts _ ha) (va_AO.use ST.2.2.2.2.2.2) rfl hd rfl (by rw [az_i0, az_lt hi az_in0]; omega) (by rw [hcl]; omega) hc1 (by rw [hcl]; exact hs1) fun cA kA comp f1 f2 f3 f4 => ?_
  rw [hcl]
  have hcA : cA = E.2.2.1.2.2 := by
    obtain ⟨kA2, comp2, -, -, -, h4⟩ := (ST.1.2 2 _ rfl).2
    exact Option.some.inj (f1.symm.trans h4)
  subst hcA
  generalize hH1 : H.push ({ cls := E.2.2.1.2.2, slots := Array.replicate n .null, vm := .none } : Cell) = H1
  have z1 : H1.size = H.size + 1 := by rw [← hH1, Array.size_push]
  have e1 : H1[H.size]? = some (arrV E.2.2.1.2.2 n (fun _ => .null)) := by rw [← hH1, Array.getElem?_push_size, ← arrV_new]
  have o1 : ∀ q : Nat, q < H.size → H1[q]? = H[q]? := fun q hq => by rw [← hH1, Array.getElem?_push, if_neg (Nat.ne_of_lt hq)]
  have K1 := k p l e s m args below meth c E H1 locs ls ⟨C, ST, az_H_push (q := (102, n)) HH z1 o1 (fun _ => by unfold az_in; omega) ?_, az_S_push HS z1 o1, HB, HP, HL, oL, az_okc (az_okr (by decide)) (az_okt oS)⟩
  · rw [List.map_cons, az_cv1 E (by omega), Int.toNat_natCast, ← HH.2.2.1] at K1
    exact K1
  · rw [az_el102, ← HH.2.2.1]
    show H1[_]? = some (vp_cell _ _)
    rw [vp_cell_q]
    exact e1
theorem aw_objInit {a : Int} {idx : Nat} (hd : decode cc pc = .ok (.invokespecial idx, 3)) (hm : Cond.methodLink y.cls idx objectInit ∈ az_TB ∧ Cond.instanceMethod objectInit ∈ az_TB ∧ Cond.code objectInit ⟨#[0xb1]⟩ 1 none ∈ az_TB) (ha : 0 ≤ a) (hrm : 1 ≤ R.frames ∧ S.length + 12 ≤ R.locals)
    (k : AW P Z R y cc nL ret cs sl (pc + 3) L S K M) : AW P Z R y cc nL ret cs sl pc L ((1, a) :: S) K M := by
  rintro p l e s m args below meth c E H locs ls ⟨C, ST, HH, HS, HB, HP, HL, oL, oS⟩
  obtain ⟨hx, hb, hr, hml, hown, hts, hlocks, hnm⟩ := id C
  rw [List.map_cons, az_cv1 E ha]
  exact W.objInit hx hb hown (hts _ hm.1) (hts _ hm.2.1) (hts _ hm.2.2) rfl (by rw [hml]; exact HL.1) rfl hd hrm.1 (by show 2 * 0 + _ + 12 ≤ _; rw [az_cats]; have := hrm.2; omega) (k p l e s m args below meth c E H locs ls ⟨C, ST, HH, HS, HB, HP, HL, oL, az_okt oS⟩)
/-- a row copied into another -/
def az_cp (M : az_M) (a b : Int) (n : Int) : az_M := fun x j => if x = b ∧ 0 ≤ j ∧ j < n then M a j else M x j
theorem az_cp_fn (M : az_M) (a b n : Int) : az_cp M a b n = fun x => if x = b then (fun j => if 0 ≤ j ∧ j < n then M a j else M b j) else M x := by
  funext x j
  unfold az_cp
  by_cases hx : x = b
  · subst hx; simp
  · simp [hx]
theorem aw_copy {a b : Int} {n na nb idx : Nat} (hd : decode cc pc = .ok (.invokestatic idx, 3)) (hm : Cond.methodLink y.cls idx arraycopyName ∈ az_TB ∧ Cond.native arraycopyName ∈ az_TB ∧ Cond.static arraycopyName ∈ az_TB ∧ Cond.initialized "java/lang/System" ∈ az_TB) (hA : az_at K a (100, na)) (hB : az_at K b (100, nb)) (h1 : n ≤ na) (h2 : n ≤ nb) (hrm : 1 ≤ R.frames ∧ 40 ≤ R.locals)
    (k : AW P Z R y cc nL ret cs sl (pc + 3) L [] K (az_cp M a b n)) : AW P Z R y cc nL ret cs sl pc L [(0, (n : Int)), (0, 0), (1, b), (0, 0), (1, a)] K M := by
  rintro p l e s m args below meth c E H locs ls ⟨C, ST, HH, HS, HB, HP, HL, oL, oS⟩
  obtain ⟨hx, hb, hr, hml, hown, hts, hlocks, hnm⟩ := id C
  have hi : az_in (n : Int) := az_okh oS rfl
  have ha := az_W_get (E := E) (M := M) hA
  have hbW := az_W_get (E := E) (M := M) hB
  rw [az_el100] at ha hbW
  have hc0 : H[E.1 + a.toNat]? = some (vp_cell E.2.2.1.1 (na, .inl (fun j => Int32.ofInt (M a j)))) := HH.1 _ _ ha
  have hc1 : H[E.1 + b.toNat]? = some (vp_cell E.2.2.1.1 (nb, .inl (fun j => Int32.ofInt (M b j)))) := HH.1 _ _ hbW
  obtain ⟨-, k0, hk0, cm0, hkk0⟩ := (ST.1.2 0 _ rfl).1 na (fun j => .int (Int32.ofInt (M a j)))
  obtain ⟨-, k1, hk1, cm1, hkk1⟩ := (ST.1.2 0 _ rfl).1 nb (fun j => .int (Int32.ofInt (M b j)))
  have hcl : (Int32.ofInt (n : Int)).toNatClampNeg = n := by rw [az_cl hi, Int.toNat_natCast]
  have hcl0 : (Int32.ofInt 0).toNatClampNeg = 0 := by decide
  have hroom : 2 * (F0 m pc ls [.int (Int32.ofInt n), .int (Int32.ofInt 0), .ref (E.1 + b.toNat), .int (Int32.ofInt 0), .ref (E.1 + a.toNat)]).monitorRoom + (([] : List Value).map fun v => v.category).sum + (nativeFrameWords "java/lang/System" "arraycopy" 5 + 11) ≤ R.locals := by
    have h9 : nativeFrameWords "java/lang/System" "arraycopy" 5 ≤ 29 := by decide
    have h8 := hrm.2
    show 2 * 0 + 0 + _ ≤ _
    omega
  intro T hT X
  obtain ⟨vm', X', step⟩ := X.arraycopy hx hown (hts _ hm.1) (hts _ hm.2.1) (hts _ hm.2.2.1) (hts _ hm.2.2.2) (src := E.1 + a.toNat) (dst := E.1 + b.toNat) (cs := vp_cell E.2.2.1.1 (na, .inl (fun j => Int32.ofInt (M a j)))) (cd := vp_cell E.2.2.1.1 (nb, .inl (fun j => Int32.ofInt (M b j)))) (srcPos := Int32.ofInt 0) (destPos := Int32.ofInt 0) (n := Int32.ofInt n) (by rw [hT]; exact hc0) (by rw [hT]; exact hc1)
    (fun _ h => by cases h) (fun _ h => by cases h) (fun h => by cases h) (fun h => by cases h) hk0 hk1 hkk0 hkk1 rfl (by decide) (by decide) (by rw [az_i0, az_lt hi az_in0]; omega)
    (by rw [az_i2 hi, az_i2 az_in0]; show ¬ _ > ((arrV _ na (fun j => .int (Int32.ofInt (M a j)))).slots.size : Int); rw [arrV_size]; omega)
    (by rw [az_i2 hi, az_i2 az_in0]; show ¬ _ > ((arrV _ nb (fun j => .int (Int32.ofInt (M b j)))).slots.size : Int); rw [arrV_size]; omega)
    (fun vm₁ _ i hi2 => by
      rw [hcl] at hi2
      rw [hcl0]
      have e : (vp_cell E.2.2.1.1 (na, .inl (fun j => Int32.ofInt (M a j)))).slots.getD (0 + i) .null = .int (Int32.ofInt (M a ((0 + i : Nat) : Int))) := by
        show (arrV _ na (fun j => .int (Int32.ofInt (M a j)))).slots.getD _ _ = _
        rw [Array.getD_eq_getD_getElem?, arrV_read _ _ (by omega)]
        rfl
      refine ⟨?_, ?_⟩
      · rw [e]; rfl
      · rw [e]; exact trivial)
    (g := F0 m pc ls [.int (Int32.ofInt n), .int (Int32.ofInt 0), .ref (E.1 + b.toNat), .int (Int32.ofInt 0), .ref (E.1 + a.toNat)]) rfl (by rw [hml]; exact HL.1) (rest := []) rfl (by rw [hb]; exact hd) hrm.1 hroom
  have e1 : copied (vp_cell E.2.2.1.1 (na, .inl (fun j => Int32.ofInt (M a j)))) (vp_cell E.2.2.1.1 (nb, .inl (fun j => Int32.ofInt (M b j)))) (Int32.ofInt 0) (Int32.ofInt 0) (Int32.ofInt n) = vp_cell E.2.2.1.1 (nb, .inl (va_cpy (fun j : Nat => Int32.ofInt (M a j)) (fun j : Nat => Int32.ofInt (M b j)) 0 0 n)) := by
    have h7 : copied (vp_cell E.2.2.1.1 (na, .inl (fun j => Int32.ofInt (M a j)))) (vp_cell E.2.2.1.1 (nb, .inl (fun j => Int32.ofInt (M b j)))) (Int32.ofInt 0) (Int32.ofInt 0) (Int32.ofInt n) = vp_cell E.2.2.1.1 (nb, .inl (va_cpy (fun j : Nat => Int32.ofInt (M a j)) (fun j : Nat => Int32.ofInt (M b j)) (Int32.ofInt 0).toNatClampNeg (Int32.ofInt 0).toNatClampNeg (Int32.ofInt n).toNatClampNeg)) := va_copied (fun z : Int32 => .int z) E.2.2.1.1 E.2.2.1.1 (fun j : Nat => Int32.ofInt (M a j)) (fun j : Nat => Int32.ofInt (M b j)) (by rw [hcl, hcl0]; omega)
    rw [hcl, hcl0] at h7
    exact h7
  rw [e1] at X' step
  have hl : E.1 + b.toNat < H.size := (Array.getElem?_eq_some_iff.mp hc1).1
  generalize hcell : vp_cell E.2.2.1.1 (nb, .inl (va_cpy (fun j : Nat => Int32.ofInt (M a j)) (fun j : Nat => Int32.ofInt (M b j)) 0 0 n)) = cell1 at X' step
  have hheap : ((T.setVm vm').setCell (E.1 + b.toNat) cell1).heap = H.setIfInBounds (E.1 + b.toNat) cell1 := by rw [← hT]; rfl
  have oq : ∀ q : Nat, q ≠ E.1 + b.toNat → (H.setIfInBounds (E.1 + b.toNat) cell1)[q]? = H[q]? := fun q hq => by simp [Array.getElem?_setIfInBounds, Ne.symm hq]
  have hg : az_el E (100, nb) (fun j => if 0 ≤ j ∧ j < (n : Int) then M a j else M b j) = .inl (E.2.2.1.1, nb, .inl (va_cpy (fun j : Nat => Int32.ofInt (M a j)) (fun j : Nat => Int32.ofInt (M b j)) 0 0 n)) := by
    rw [az_el100]
    congr 4
    funext j
    unfold va_cpy
    by_cases hj : j < n
    · rw [if_pos ⟨by omega, by omega⟩, if_pos ⟨by omega, by omega⟩]
      simp
    · rw [if_neg (by omega), if_neg (by omega)]
  have hH1 : az_H E K (az_cp M a b n) (H.setIfInBounds (E.1 + b.toNat) cell1) := by
    refine ⟨?_, ?_, by simp; exact HH.2.2.1, ?_, ?_⟩
    · rw [az_cp_fn, ← az_W_set hB rfl, hg]
      refine HH.1.set HH.2.1 hbW ?_ oq
      show (H.setIfInBounds (E.1 + b.toNat) cell1)[E.1 + b.toNat]? = some (vp_cell _ _)
      rw [hcell]
      simp [Array.getElem?_setIfInBounds, hl]
    · rw [az_cp_fn, ← az_W_set hB rfl, hg]
      exact HH.2.1.set hbW
    · intro x j c hc
      obtain ⟨g1, q2, g2, g3, g4, g5⟩ := HH.2.2.2.1 x j c hc
      refine ⟨?_, q2, g2, g3, g4, g5⟩
      unfold az_cp
      rw [if_neg]
      · exact g1
      · rintro ⟨e1, -⟩
        subst e1
        have := g2.inj hB
        subst this
        exact g3 rfl
    · intro x j
      unfold az_cp
      split
      · exact HH.2.2.2.2 _ _
      · exact HH.2.2.2.2 _ _
  rw [List.map_cons, List.map_cons, List.map_cons, List.map_cons, List.map_cons, az_cv0, az_cv0, az_cv1 E hA.1, az_cv1 E hB.1]
  obtain ⟨t, a1, b1⟩ := k p l e s m args below meth c E (H.setIfInBounds (E.1 + b.toNat) cell1) _ ls ⟨C, ST, hH1, ⟨by simp; exact HS.1, fun q g1 g2 => by
      rw [oq q (fun e => g2 (by rw [e]; exact HH.2.1.2 _ _ hbW))]
      exact HS.2.1 q g1 g2, fun q hq => by
      rcases List.mem_append.mp hq with h | h
      · exact HS.2.2 q h
      · obtain ⟨z, -, hz⟩ := List.mem_map.mp h
        rw [← hz]
        exact HH.2.1.2 _ _ hbW⟩, HB, HP, HL, oL, fun v hv => by cases hv⟩ _ hheap X'
  exact ⟨t, step t a1, b1⟩
end AZ
