section AZ
variable {P : az_E → State → Array Value → Prop} {Z : List Frame → Array Value → State → az_E → State → Prop} {R : Room} {y : MethodName} {cc : ByteArray} {nL : Nat} {ret : Option FieldType} {cs sl pc : Nat} {L S : List az_V} {K : az_K} {M : az_M}
theorem az_ok0 {z : Int} (h : az_in z) : az_ok (0, z) := fun _ => h
theorem az_okr {t : Nat} {z : Int} (h : t ≠ 0) : az_ok (t, z) := fun e => absurd e h
theorem az_okc {v : az_V} {S : List az_V} (h : az_ok v) (hS : ∀ w ∈ S, az_ok w) : ∀ w ∈ v :: S, az_ok w := fun w hw => (List.mem_cons.mp hw).elim (fun e => e ▸ h) (hS w)
theorem az_okt {v : az_V} {S : List az_V} (hS : ∀ w ∈ v :: S, az_ok w) : ∀ w ∈ S, az_ok w := fun w hw => hS w (List.mem_cons_of_mem _ hw)
theorem az_okh {v : az_V} {S : List az_V} (hS : ∀ w ∈ v :: S, az_ok w) : az_ok v := hS v List.mem_cons_self
theorem aw_iconst {n : Int} (hd : decode cc pc = .ok (.iconst n, 1)) (hv : Int32.ofInt n = Int32.ofInt n) (hn : az_in n)
    (k : AW P Z R y cc nL ret cs sl (pc + 1) L ((0, n) :: S) K M) : AW P Z R y cc nL ret cs sl pc L S K M := by
  rintro p l e s m args below meth c E H locs ls ⟨C, ST, HH, HS, HB, HP, HL, oL, oS⟩
  obtain ⟨hx, hb, hr, hml, hown, hts, hlocks, hnm⟩ := id C
  exact lv_iconst hx hb hd hv (k p l e s m args below meth c E H locs ls ⟨C, ST, HH, HS, HB, HP, HL, oL, az_okc (az_ok0 hn) oS⟩)
theorem aw_bipush {n : Int} (hd : decode cc pc = .ok (.bipush n, 2)) (hv : (Int8.ofInt n).toInt32 = Int32.ofInt n) (hn : az_in n)
    (k : AW P Z R y cc nL ret cs sl (pc + 2) L ((0, n) :: S) K M) : AW P Z R y cc nL ret cs sl pc L S K M := by
  rintro p l e s m args below meth c E H locs ls ⟨C, ST, HH, HS, HB, HP, HL, oL, oS⟩
  obtain ⟨hx, hb, hr, hml, hown, hts, hlocks, hnm⟩ := id C
  exact lv_bipush hx hb hd hv (k p l e s m args below meth c E H locs ls ⟨C, ST, HH, HS, HB, HP, HL, oL, az_okc (az_ok0 hn) oS⟩)
theorem aw_sipush {n : Int} (hd : decode cc pc = .ok (.sipush n, 3)) (hv : (Int16.ofInt n).toInt32 = Int32.ofInt n) (hn : az_in n)
    (k : AW P Z R y cc nL ret cs sl (pc + 3) L ((0, n) :: S) K M) : AW P Z R y cc nL ret cs sl pc L S K M := by
  rintro p l e s m args below meth c E H locs ls ⟨C, ST, HH, HS, HB, HP, HL, oL, oS⟩
  obtain ⟨hx, hb, hr, hml, hown, hts, hlocks, hnm⟩ := id C
  exact lv_sipush hx hb hd hv (k p l e s m args below meth c E H locs ls ⟨C, ST, HH, HS, HB, HP, HL, oL, az_okc (az_ok0 hn) oS⟩)
theorem aw_ldc {index : Nat} {n : Int} (hd : decode cc pc = .ok (.ldc index, 2)) (hc : Cond.constant y.cls index (Int32.ofInt n) ∈ az_TB) (hn : az_in n)
    (k : AW P Z R y cc nL ret cs sl (pc + 2) L ((0, n) :: S) K M) : AW P Z R y cc nL ret cs sl pc L S K M := by
  rintro p l e s m args below meth c E H locs ls ⟨C, ST, HH, HS, HB, HP, HL, oL, oS⟩
  obtain ⟨hx, hb, hr, hml, hown, hts, hlocks, hnm⟩ := id C
  exact lv_ldc hx hb hown (hts _ hc) hd (k p l e s m args below meth c E H locs ls ⟨C, ST, HH, HS, HB, HP, HL, oL, az_okc (az_ok0 hn) oS⟩)
theorem aw_ldcw {index : Nat} {n : Int} (hd : decode cc pc = .ok (.ldc_w index, 3)) (hc : Cond.constant y.cls index (Int32.ofInt n) ∈ az_TB) (hn : az_in n)
    (k : AW P Z R y cc nL ret cs sl (pc + 3) L ((0, n) :: S) K M) : AW P Z R y cc nL ret cs sl pc L S K M := by
  rintro p l e s m args below meth c E H locs ls ⟨C, ST, HH, HS, HB, HP, HL, oL, oS⟩
  obtain ⟨hx, hb, hr, hml, hown, hts, hlocks, hnm⟩ := id C
  exact lv_ldcw hx hb hown (hts _ hc) hd (k p l e s m args below meth c E H locs ls ⟨C, ST, HH, HS, HB, HP, HL, oL, az_okc (az_ok0 hn) oS⟩)
theorem aw_iload_n {i : Fin 4} {n : Nat} {z : Int} (hd : decode cc pc = .ok (.iload_n i, 1)) (hi : (i : Nat) = n) (hL : L[n]? = some (0, z))
    (k : AW P Z R y cc nL ret cs sl (pc + 1) L ((0, z) :: S) K M) : AW P Z R y cc nL ret cs sl pc L S K M := by
  rintro p l e s m args below meth c E H locs ls ⟨C, ST, HH, HS, HB, HP, HL, oL, oS⟩
  obtain ⟨hx, hb, hr, hml, hown, hts, hlocks, hnm⟩ := id C
  exact lv_iload_n hx hb hd hi (HL.2.2 n (0, z) hL (show (0 : Nat) ≠ 9 by decide)) (k p l e s m args below meth c E H locs ls ⟨C, ST, HH, HS, HB, HP, HL, oL, az_okc (oL _ (List.mem_of_getElem? hL)) oS⟩)
theorem aw_iload {n : Nat} {z : Int} (hd : decode cc pc = .ok (.iload n, 2)) (hL : L[n]? = some (0, z))
    (k : AW P Z R y cc nL ret cs sl (pc + 2) L ((0, z) :: S) K M) : AW P Z R y cc nL ret cs sl pc L S K M := by
  rintro p l e s m args below meth c E H locs ls ⟨C, ST, HH, HS, HB, HP, HL, oL, oS⟩
  obtain ⟨hx, hb, hr, hml, hown, hts, hlocks, hnm⟩ := id C
  exact lv_iload hx hb hd (HL.2.2 n (0, z) hL (show (0 : Nat) ≠ 9 by decide)) (k p l e s m args below meth c E H locs ls ⟨C, ST, HH, HS, HB, HP, HL, oL, az_okc (oL _ (List.mem_of_getElem? hL)) oS⟩)
theorem aw_aload_n {i : Fin 4} {n : Nat} {t : Nat} {z : Int} (hd : decode cc pc = .ok (.aload_n i, 1)) (hi : (i : Nat) = n) (hL : L[n]? = some (t, z)) (ht : t ≠ 0 ∧ t ≠ 9)
    (k : AW P Z R y cc nL ret cs sl (pc + 1) L ((t, z) :: S) K M) : AW P Z R y cc nL ret cs sl pc L S K M := by
  rintro p l e s m args below meth c E H locs ls ⟨C, ST, HH, HS, HB, HP, HL, oL, oS⟩
  obtain ⟨hx, hb, hr, hml, hown, hts, hlocks, hnm⟩ := id C
  have K1 := k p l e s m args below meth c E H locs ls ⟨C, ST, HH, HS, HB, HP, HL, oL, az_okc (az_okr ht.1) oS⟩
  have hg := HL.2.2 n (t, z) hL ht.2
  rw [List.map_cons] at K1
  rcases az_cv_nr E (v := (t, z)) ht.1 with h | ⟨a, h⟩
  · rw [h] at hg K1
    exact lv_aload_nN hx hb hd hi hg K1
  · rw [h] at hg K1
    exact lv_aload_n hx hb hd hi hg K1
theorem aw_aload {n : Nat} {t : Nat} {z : Int} (hd : decode cc pc = .ok (.aload n, 2))  (hL : L[n]? = some (t, z)) (ht : t ≠ 0 ∧ t ≠ 9)
    (k : AW P Z R y cc nL ret cs sl (pc + 2) L ((t, z) :: S) K M) : AW P Z R y cc nL ret cs sl pc L S K M := by
  rintro p l e s m args below meth c E H locs ls ⟨C, ST, HH, HS, HB, HP, HL, oL, oS⟩
  obtain ⟨hx, hb, hr, hml, hown, hts, hlocks, hnm⟩ := id C
  have K1 := k p l e s m args below meth c E H locs ls ⟨C, ST, HH, HS, HB, HP, HL, oL, az_okc (az_okr ht.1) oS⟩
  have hg := HL.2.2 n (t, z) hL ht.2
  rw [List.map_cons] at K1
  rcases az_cv_nr E (v := (t, z)) ht.1 with h | ⟨a, h⟩
  · rw [h] at hg K1
    exact lv_aloadN hx hb hd hg K1
  · rw [h] at hg K1
    exact lv_aload hx hb hd hg K1
theorem aw_istore_n {i : Fin 4} {n : Nat} {z : Int} (hd : decode cc pc = .ok (.istore_n i, 1)) (hi : (i : Nat) = n) (hn : n < nL)
    (k : AW P Z R y cc nL ret cs sl (pc + 1) (L.set n (0, z)) S K M) : AW P Z R y cc nL ret cs sl pc L ((0, z) :: S) K M := by
  rintro p l e s m args below meth c E H locs ls ⟨C, ST, HH, HS, HB, HP, HL, oL, oS⟩
  obtain ⟨hx, hb, hr, hml, hown, hts, hlocks, hnm⟩ := id C
  exact lv_istore_n hx hb hd hi (az_lv_has HL) hn rfl (fun ls' hl' => k p l e s m args below meth c E H locs ls' ⟨C, ST, HH, HS, HB, HP, az_lv_set (v := (0, z)) hl', az_set_ok oL (az_okh oS), az_okt oS⟩)
theorem aw_istore {n : Nat} {z : Int} (hd : decode cc pc = .ok (.istore n, 2))  (hn : n < nL)
    (k : AW P Z R y cc nL ret cs sl (pc + 2) (L.set n (0, z)) S K M) : AW P Z R y cc nL ret cs sl pc L ((0, z) :: S) K M := by
  rintro p l e s m args below meth c E H locs ls ⟨C, ST, HH, HS, HB, HP, HL, oL, oS⟩
  obtain ⟨hx, hb, hr, hml, hown, hts, hlocks, hnm⟩ := id C
  exact lv_istore hx hb hd (az_lv_has HL) hn rfl (fun ls' hl' => k p l e s m args below meth c E H locs ls' ⟨C, ST, HH, HS, HB, HP, az_lv_set (v := (0, z)) hl', az_set_ok oL (az_okh oS), az_okt oS⟩)
theorem aw_astore_n {i : Fin 4} {n : Nat} {t : Nat} {z : Int} (hd : decode cc pc = .ok (.astore_n i, 1)) (hi : (i : Nat) = n) (hn : n < nL) (ht : t ≠ 0)
    (k : AW P Z R y cc nL ret cs sl (pc + 1) (L.set n (t, z)) S K M) : AW P Z R y cc nL ret cs sl pc L ((t, z) :: S) K M := by
  rintro p l e s m args below meth c E H locs ls ⟨C, ST, HH, HS, HB, HP, HL, oL, oS⟩
  obtain ⟨hx, hb, hr, hml, hown, hts, hlocks, hnm⟩ := id C
  rw [List.map_cons]
  have K1 : ∀ ls' : Array Slot, lv_has ls' nL ((n, az_cv E (t, z)) :: (az_ll E L).filter (fun q => !(q.1 == n) && !(q.1 + 1 == n && q.2.category == 2))) → W p l e R s m args below meth c H locs cs sl (Z below args s E) (F0 m (pc + 1) ls' (S.map (az_cv E))) :=
    fun ls' hl' => k p l e s m args below meth c E H locs ls' ⟨C, ST, HH, HS, HB, HP, az_lv_set (v := (t, z)) hl', az_set_ok oL (az_okh oS), az_okt oS⟩
  rcases az_cv_nr E (v := (t, z)) ht with h | ⟨a, h⟩
  · rw [h] at K1 ⊢
    exact lv_astore_nN hx hb hd hi (az_lv_has HL) hn rfl K1
  · rw [h] at K1 ⊢
    exact lv_astore_n hx hb hd hi (az_lv_has HL) hn rfl K1
theorem aw_astore {n : Nat} {t : Nat} {z : Int} (hd : decode cc pc = .ok (.astore n, 2))  (hn : n < nL) (ht : t ≠ 0)
    (k : AW P Z R y cc nL ret cs sl (pc + 2) (L.set n (t, z)) S K M) : AW P Z R y cc nL ret cs sl pc L ((t, z) :: S) K M := by
  rintro p l e s m args below meth c E H locs ls ⟨C, ST, HH, HS, HB, HP, HL, oL, oS⟩
  obtain ⟨hx, hb, hr, hml, hown, hts, hlocks, hnm⟩ := id C
  rw [List.map_cons]
  have K1 : ∀ ls' : Array Slot, lv_has ls' nL ((n, az_cv E (t, z)) :: (az_ll E L).filter (fun q => !(q.1 == n) && !(q.1 + 1 == n && q.2.category == 2))) → W p l e R s m args below meth c H locs cs sl (Z below args s E) (F0 m (pc + 2) ls' (S.map (az_cv E))) :=
    fun ls' hl' => k p l e s m args below meth c E H locs ls' ⟨C, ST, HH, HS, HB, HP, az_lv_set (v := (t, z)) hl', az_set_ok oL (az_okh oS), az_okt oS⟩
  rcases az_cv_nr E (v := (t, z)) ht with h | ⟨a, h⟩
  · rw [h] at K1 ⊢
    exact lv_astoreN hx hb hd (az_lv_has HL) hn rfl K1
  · rw [h] at K1 ⊢
    exact lv_astore hx hb hd (az_lv_has HL) hn rfl K1
theorem aw_iinc {n : Nat} {d z w : Int} (hd : decode cc pc = .ok (.iinc n d, 3)) (hL : L[n]? = some (0, z)) (hw : az_wr (z + d) = w) (hn : n < nL)
    (k : AW P Z R y cc nL ret cs sl (pc + 3) (L.set n (0, w)) S K M) : AW P Z R y cc nL ret cs sl pc L S K M := by
  rintro p l e s m args below meth c E H locs ls ⟨C, ST, HH, HS, HB, HP, HL, oL, oS⟩
  obtain ⟨hx, hb, hr, hml, hown, hts, hlocks, hnm⟩ := id C
  subst hw
  have hm : (n, Value.int (Int32.ofInt z)) ∈ az_ll E L := az_ll_mem.mpr ⟨(0, z), hL, show (0 : Nat) ≠ 9 by decide, rfl⟩
  obtain ⟨j, hj⟩ := List.getElem?_of_mem hm
  exact lv_iinc (k := j) (v := Int32.ofInt (az_wr (z + d))) hx hb hd (az_lv_has HL) hj (by rw [az_wr_of, Int32.ofInt_add]) hn rfl (fun ls' hl' => k p l e s m args below meth c E H locs ls' ⟨C, ST, HH, HS, HB, HP, az_lv_set (v := (0, az_wr (z + d))) hl', az_set_ok oL (az_ok0 (az_wr_in _)), oS⟩)
theorem aw_iadd {a b w : Int} (hd : decode cc pc = .ok (.iadd, 1)) (hw : az_wr (a + b) = w)
    (k : AW P Z R y cc nL ret cs sl (pc + 1) L ((0, w) :: S) K M) : AW P Z R y cc nL ret cs sl pc L ((0, b) :: (0, a) :: S) K M := by
  rintro p l e s m args below meth c E H locs ls ⟨C, ST, HH, HS, HB, HP, HL, oL, oS⟩
  obtain ⟨hx, hb, hr, hml, hown, hts, hlocks, hnm⟩ := id C
  subst hw
  refine lv_iadd hx hb hd ?_
  have K1 := k p l e s m args below meth c E H locs ls ⟨C, ST, HH, HS, HB, HP, HL, oL, az_okc (az_ok0 (az_wr_in _)) (az_okt (az_okt oS))⟩
  rw [List.map_cons, az_cv0, az_wr_of, Int32.ofInt_add] at K1
  exact K1
theorem aw_isub {a b w : Int} (hd : decode cc pc = .ok (.isub, 1)) (hw : az_wr (a - b) = w)
    (k : AW P Z R y cc nL ret cs sl (pc + 1) L ((0, w) :: S) K M) : AW P Z R y cc nL ret cs sl pc L ((0, b) :: (0, a) :: S) K M := by
  rintro p l e s m args below meth c E H locs ls ⟨C, ST, HH, HS, HB, HP, HL, oL, oS⟩
  obtain ⟨hx, hb, hr, hml, hown, hts, hlocks, hnm⟩ := id C
  subst hw
  refine lv_isub hx hb hd ?_
  have K1 := k p l e s m args below meth c E H locs ls ⟨C, ST, HH, HS, HB, HP, HL, oL, az_okc (az_ok0 (az_wr_in _)) (az_okt (az_okt oS))⟩
  rw [List.map_cons, az_cv0, az_wr_of, Int32.ofInt_sub] at K1
  exact K1
theorem aw_imul {a b w : Int} (hd : decode cc pc = .ok (.imul, 1)) (hw : az_wr (a * b) = w)
    (k : AW P Z R y cc nL ret cs sl (pc + 1) L ((0, w) :: S) K M) : AW P Z R y cc nL ret cs sl pc L ((0, b) :: (0, a) :: S) K M := by
  rintro p l e s m args below meth c E H locs ls ⟨C, ST, HH, HS, HB, HP, HL, oL, oS⟩
  obtain ⟨hx, hb, hr, hml, hown, hts, hlocks, hnm⟩ := id C
  subst hw
  refine lv_imul hx hb hd ?_
  have K1 := k p l e s m args below meth c E H locs ls ⟨C, ST, HH, HS, HB, HP, HL, oL, az_okc (az_ok0 (az_wr_in _)) (az_okt (az_okt oS))⟩
  rw [List.map_cons, az_cv0, az_wr_of, Int32.ofInt_mul] at K1
  exact K1
theorem az_div {a b : Int} (ha : az_in a) (hb : az_in b) (h0 : 0 ≤ a) (h1 : 0 < b) : Int32.ofInt a / Int32.ofInt b = Int32.ofInt (a / b) := by
  apply Int32.toInt_inj.mp
  have hd : az_in (a / b) := ⟨by have := Int.ediv_nonneg h0 (Int.le_of_lt h1); omega, by have := Int.ediv_le_self b h0; have := ha.2; omega⟩
  rw [Int32.toInt_div_of_ne_right _ _ (fun h => by have := congrArg Int32.toInt h; rw [az_i2 hb] at this; have h2 : (-1 : Int32).toInt = -1 := by decide
                                                   omega), az_i2 ha, az_i2 hb, az_i2 hd, Int.tdiv_eq_ediv_of_nonneg h0]
theorem az_rem {a b : Int} (ha : az_in a) (hb : az_in b) (h0 : 0 ≤ a) (h1 : 0 < b) : Int32.ofInt a - Int32.ofInt a / Int32.ofInt b * Int32.ofInt b = Int32.ofInt (a % b) := by
  rw [az_div ha hb h0 h1, ← Int32.ofInt_mul, ← Int32.ofInt_sub]
  congr 1
  have := Int.mul_ediv_add_emod a b
  rw [Int.mul_comm] at this
  omega
theorem az_ne0 {b : Int} (hb : az_in b) (h1 : 0 < b) : ¬ Int32.ofInt b = 0 := by
  rw [az_i0, az_eq hb az_in0]; omega
theorem aw_idiv {a b : Int} (hd : decode cc pc = .ok (.idiv, 1)) (h0 : 0 ≤ a) (h1 : 0 < b)
    (k : AW P Z R y cc nL ret cs sl (pc + 1) L ((0, a / b) :: S) K M) : AW P Z R y cc nL ret cs sl pc L ((0, b) :: (0, a) :: S) K M := by
  rintro p l e s m args below meth c E H locs ls ⟨C, ST, HH, HS, HB, HP, HL, oL, oS⟩
  obtain ⟨hx, hb, hr, hml, hown, hts, hlocks, hnm⟩ := id C
  have ha : az_in a := az_okh (az_okt oS) rfl
  have hbi : az_in b := az_okh oS rfl
  have hr : az_in (a / b) := ⟨by have := Int.ediv_nonneg h0 (Int.le_of_lt h1); omega, by have := Int.ediv_le_self b h0; have := ha.2; omega⟩
  refine lv_idiv hx hb hd (az_ne0 hbi h1) ?_
  have K1 := k p l e s m args below meth c E H locs ls ⟨C, ST, HH, HS, HB, HP, HL, oL, az_okc (az_ok0 hr) (az_okt (az_okt oS))⟩
  rw [List.map_cons, az_cv0, ← az_div ha hbi h0 h1] at K1
  exact K1
theorem aw_irem {a b : Int} (hd : decode cc pc = .ok (.irem, 1)) (h0 : 0 ≤ a) (h1 : 0 < b)
    (k : AW P Z R y cc nL ret cs sl (pc + 1) L ((0, a % b) :: S) K M) : AW P Z R y cc nL ret cs sl pc L ((0, b) :: (0, a) :: S) K M := by
  rintro p l e s m args below meth c E H locs ls ⟨C, ST, HH, HS, HB, HP, HL, oL, oS⟩
  obtain ⟨hx, hb, hr, hml, hown, hts, hlocks, hnm⟩ := id C
  have ha : az_in a := az_okh (az_okt oS) rfl
  have hbi : az_in b := az_okh oS rfl
  have hr : az_in (a % b) := ⟨by have := Int.emod_nonneg a (show b ≠ 0 by omega); omega, by have := Int.emod_lt_of_pos a h1; have := hbi.2; omega⟩
  refine lv_irem hx hb hd (az_ne0 hbi h1) ?_
  have K1 := k p l e s m args below meth c E H locs ls ⟨C, ST, HH, HS, HB, HP, HL, oL, az_okc (az_ok0 hr) (az_okt (az_okt oS))⟩
  rw [List.map_cons, az_cv0, ← az_rem ha hbi h0 h1] at K1
  exact K1
theorem aw_iand {a b w : Int} (hd : decode cc pc = .ok (.iand, 1)) (hw : az_and a b = w)
    (k : AW P Z R y cc nL ret cs sl (pc + 1) L ((0, w) :: S) K M) : AW P Z R y cc nL ret cs sl pc L ((0, b) :: (0, a) :: S) K M := by
  rintro p l e s m args below meth c E H locs ls ⟨C, ST, HH, HS, HB, HP, HL, oL, oS⟩
  obtain ⟨hx, hb, hr, hml, hown, hts, hlocks, hnm⟩ := id C
  subst hw
  refine lv_iand hx hb hd ?_
  have K1 := k p l e s m args below meth c E H locs ls ⟨C, ST, HH, HS, HB, HP, HL, oL, az_okc (az_ok0 (az_to_in _)) (az_okt (az_okt oS))⟩
  rw [List.map_cons, az_cv0, az_and, Int32.ofInt_toInt] at K1
  exact K1
theorem aw_ishl {a b w : Int} (hd : decode cc pc = .ok (.ishl, 1)) (hw : az_shl a b = w)
    (k : AW P Z R y cc nL ret cs sl (pc + 1) L ((0, w) :: S) K M) : AW P Z R y cc nL ret cs sl pc L ((0, b) :: (0, a) :: S) K M := by
  rintro p l e s m args below meth c E H locs ls ⟨C, ST, HH, HS, HB, HP, HL, oL, oS⟩
  obtain ⟨hx, hb, hr, hml, hown, hts, hlocks, hnm⟩ := id C
  subst hw
  refine lv_ishl hx hb hd ?_
  have K1 := k p l e s m args below meth c E H locs ls ⟨C, ST, HH, HS, HB, HP, HL, oL, az_okc (az_ok0 (az_to_in _)) (az_okt (az_okt oS))⟩
  rw [List.map_cons, az_cv0, az_shl, Int32.ofInt_toInt] at K1
  exact K1
theorem aw_ishr {a b w : Int} (hd : decode cc pc = .ok (.ishr, 1)) (hw : az_shr a b = w)
    (k : AW P Z R y cc nL ret cs sl (pc + 1) L ((0, w) :: S) K M) : AW P Z R y cc nL ret cs sl pc L ((0, b) :: (0, a) :: S) K M := by
  rintro p l e s m args below meth c E H locs ls ⟨C, ST, HH, HS, HB, HP, HL, oL, oS⟩
  obtain ⟨hx, hb, hr, hml, hown, hts, hlocks, hnm⟩ := id C
  subst hw
  refine lv_ishr hx hb hd ?_
  have K1 := k p l e s m args below meth c E H locs ls ⟨C, ST, HH, HS, HB, HP, HL, oL, az_okc (az_ok0 (az_to_in _)) (az_okt (az_okt oS))⟩
  rw [List.map_cons, az_cv0, az_shr, Int32.ofInt_toInt] at K1
  exact K1
theorem aw_iushr {a b w : Int} (hd : decode cc pc = .ok (.iushr, 1)) (hw : az_ushr a b = w)
    (k : AW P Z R y cc nL ret cs sl (pc + 1) L ((0, w) :: S) K M) : AW P Z R y cc nL ret cs sl pc L ((0, b) :: (0, a) :: S) K M := by
  rintro p l e s m args below meth c E H locs ls ⟨C, ST, HH, HS, HB, HP, HL, oL, oS⟩
  obtain ⟨hx, hb, hr, hml, hown, hts, hlocks, hnm⟩ := id C
  subst hw
  refine lv_iushr hx hb hd rfl ?_
  have K1 := k p l e s m args below meth c E H locs ls ⟨C, ST, HH, HS, HB, HP, HL, oL, az_okc (az_ok0 (az_to_in _)) (az_okt (az_okt oS))⟩
  rw [List.map_cons, az_cv0, az_ushr, Int32.ofInt_toInt] at K1
  exact K1
theorem aw_i2c {a : Int} (hd : decode cc pc = .ok (.i2c, 1)) (h0 : 0 ≤ a) (h1 : a < 65536)
    (k : AW P Z R y cc nL ret cs sl (pc + 1) L ((0, a) :: S) K M) : AW P Z R y cc nL ret cs sl pc L ((0, a) :: S) K M := by
  rintro p l e s m args below meth c E H locs ls ⟨C, ST, HH, HS, HB, HP, HL, oL, oS⟩
  obtain ⟨hx, hb, hr, hml, hown, hts, hlocks, hnm⟩ := id C
  refine lv_i2c hx hb hd ?_ (k p l e s m args below meth c E H locs ls ⟨C, ST, HH, HS, HB, HP, HL, oL, oS⟩)
  obtain ⟨n, rfl⟩ := Int.eq_ofNat_of_zero_le h0
  have hn : n < 65536 := by omega
  show _ = Int32.ofInt (n : Int)
  rw [Int32.ofInt_eq_ofNat]
  show ((nI n).toUInt32 % 65536).toInt32 = nI n
  rw [pk_char, pk_tn (by omega), Nat.mod_eq_of_lt hn]
theorem aw_dup {v : az_V} (hd : decode cc pc = .ok (.dup, 1))
    (k : AW P Z R y cc nL ret cs sl (pc + 1) L (v :: v :: S) K M) : AW P Z R y cc nL ret cs sl pc L (v :: S) K M := by
  rintro p l e s m args below meth c E H locs ls ⟨C, ST, HH, HS, HB, HP, HL, oL, oS⟩
  obtain ⟨hx, hb, hr, hml, hown, hts, hlocks, hnm⟩ := id C
  exact lv_dup hx hb hd (az_cat E v) (k p l e s m args below meth c E H locs ls ⟨C, ST, HH, HS, HB, HP, HL, oL, az_okc (az_okh oS) oS⟩)
theorem aw_dup2 {v w : az_V} (hd : decode cc pc = .ok (.dup2, 1))
    (k : AW P Z R y cc nL ret cs sl (pc + 1) L (v :: w :: v :: w :: S) K M) : AW P Z R y cc nL ret cs sl pc L (v :: w :: S) K M := by
  rintro p l e s m args below meth c E H locs ls ⟨C, ST, HH, HS, HB, HP, HL, oL, oS⟩
  obtain ⟨hx, hb, hr, hml, hown, hts, hlocks, hnm⟩ := id C
  exact lv_dup2_11 hx hb hd (az_cat E v) (az_cat E w) (k p l e s m args below meth c E H locs ls ⟨C, ST, HH, HS, HB, HP, HL, oL, az_okc (az_okh oS) (az_okc (az_okh (az_okt oS)) oS)⟩)
theorem aw_pop {v : az_V} (hd : decode cc pc = .ok (.pop, 1))
    (k : AW P Z R y cc nL ret cs sl (pc + 1) L S K M) : AW P Z R y cc nL ret cs sl pc L (v :: S) K M := by
  rintro p l e s m args below meth c E H locs ls ⟨C, ST, HH, HS, HB, HP, HL, oL, oS⟩
  obtain ⟨hx, hb, hr, hml, hown, hts, hlocks, hnm⟩ := id C
  exact lv_pop hx hb hd (az_cat E v) (k p l e s m args below meth c E H locs ls ⟨C, ST, HH, HS, HB, HP, HL, oL, az_okt oS⟩)
theorem aw_icmp_eq {a b : Int} {off : Int} {tgt : Nat} (hd : decode cc pc = .ok (.if_icmp .eq off, 3)) (ht : (pc : Int) + off = (tgt : Int))
    (kt : a = b → AW P Z R y cc nL ret cs sl tgt L S K M) (kf : a ≠ b → AW P Z R y cc nL ret cs sl (pc + 3) L S K M) : AW P Z R y cc nL ret cs sl pc L ((0, b) :: (0, a) :: S) K M := by
  rintro p l e s m args below meth c E H locs ls ⟨C, ST, HH, HS, HB, HP, HL, oL, oS⟩
  obtain ⟨hx, hb, hr, hml, hown, hts, hlocks, hnm⟩ := id C
  have ha : az_in a := az_okh (az_okt oS) rfl
  have hbi : az_in b := az_okh oS rfl
  exact lv_icmp_eq hx hb hd ht (fun h => kt (by exact (az_eq ha hbi).mp h) p l e s m args below meth c E H locs ls ⟨C, ST, HH, HS, HB, HP, HL, oL, az_okt (az_okt oS)⟩) (fun h => kf (by exact fun q => h ((az_eq ha hbi).mpr q)) p l e s m args below meth c E H locs ls ⟨C, ST, HH, HS, HB, HP, HL, oL, az_okt (az_okt oS)⟩)
theorem aw_if_eq {a : Int} {off : Int} {tgt : Nat} (hd : decode cc pc = .ok (.ifCond .eq off, 3)) (ht : (pc : Int) + off = (tgt : Int))
    (kt : a = 0 → AW P Z R y cc nL ret cs sl tgt L S K M) (kf : a ≠ 0 → AW P Z R y cc nL ret cs sl (pc + 3) L S K M) : AW P Z R y cc nL ret cs sl pc L ((0, a) :: S) K M := by
  rintro p l e s m args below meth c E H locs ls ⟨C, ST, HH, HS, HB, HP, HL, oL, oS⟩
  obtain ⟨hx, hb, hr, hml, hown, hts, hlocks, hnm⟩ := id C
  have ha : az_in a := az_okh oS rfl
  have hbi : az_in 0 := az_in0
  exact lv_if_eq hx hb hd ht (fun h => kt (by rw [az_i0] at h; exact (az_eq ha hbi).mp h) p l e s m args below meth c E H locs ls ⟨C, ST, HH, HS, HB, HP, HL, oL, az_okt oS⟩) (fun h => kf (by rw [az_i0] at h; exact fun q => h ((az_eq ha hbi).mpr q)) p l e s m args below meth c E H locs ls ⟨C, ST, HH, HS, HB, HP, HL, oL, az_okt oS⟩)
theorem aw_icmp_ne {a b : Int} {off : Int} {tgt : Nat} (hd : decode cc pc = .ok (.if_icmp .ne off, 3)) (ht : (pc : Int) + off = (tgt : Int))
    (kt : a ≠ b → AW P Z R y cc nL ret cs sl tgt L S K M) (kf : a = b → AW P Z R y cc nL ret cs sl (pc + 3) L S K M) : AW P Z R y cc nL ret cs sl pc L ((0, b) :: (0, a) :: S) K M := by
  rintro p l e s m args below meth c E H locs ls ⟨C, ST, HH, HS, HB, HP, HL, oL, oS⟩
  obtain ⟨hx, hb, hr, hml, hown, hts, hlocks, hnm⟩ := id C
  have ha : az_in a := az_okh (az_okt oS) rfl
  have hbi : az_in b := az_okh oS rfl
  exact lv_icmp_ne hx hb hd ht (fun h => kt (by exact fun q => h ((az_eq ha hbi).mpr q)) p l e s m args below meth c E H locs ls ⟨C, ST, HH, HS, HB, HP, HL, oL, az_okt (az_okt oS)⟩) (fun h => kf (by exact (az_eq ha hbi).mp h) p l e s m args below meth c E H locs ls ⟨C, ST, HH, HS, HB, HP, HL, oL, az_okt (az_okt oS)⟩)
theorem aw_if_ne {a : Int} {off : Int} {tgt : Nat} (hd : decode cc pc = .ok (.ifCond .ne off, 3)) (ht : (pc : Int) + off = (tgt : Int))
    (kt : a ≠ 0 → AW P Z R y cc nL ret cs sl tgt L S K M) (kf : a = 0 → AW P Z R y cc nL ret cs sl (pc + 3) L S K M) : AW P Z R y cc nL ret cs sl pc L ((0, a) :: S) K M := by
  rintro p l e s m args below meth c E H locs ls ⟨C, ST, HH, HS, HB, HP, HL, oL, oS⟩
  obtain ⟨hx, hb, hr, hml, hown, hts, hlocks, hnm⟩ := id C
  have ha : az_in a := az_okh oS rfl
  have hbi : az_in 0 := az_in0
  exact lv_if_ne hx hb hd ht (fun h => kt (by rw [az_i0] at h; exact fun q => h ((az_eq ha hbi).mpr q)) p l e s m args below meth c E H locs ls ⟨C, ST, HH, HS, HB, HP, HL, oL, az_okt oS⟩) (fun h => kf (by rw [az_i0] at h; exact (az_eq ha hbi).mp h) p l e s m args below meth c E H locs ls ⟨C, ST, HH, HS, HB, HP, HL, oL, az_okt oS⟩)
theorem aw_icmp_lt {a b : Int} {off : Int} {tgt : Nat} (hd : decode cc pc = .ok (.if_icmp .lt off, 3)) (ht : (pc : Int) + off = (tgt : Int))
    (kt : a < b → AW P Z R y cc nL ret cs sl tgt L S K M) (kf : b ≤ a → AW P Z R y cc nL ret cs sl (pc + 3) L S K M) : AW P Z R y cc nL ret cs sl pc L ((0, b) :: (0, a) :: S) K M := by
  rintro p l e s m args below meth c E H locs ls ⟨C, ST, HH, HS, HB, HP, HL, oL, oS⟩
  obtain ⟨hx, hb, hr, hml, hown, hts, hlocks, hnm⟩ := id C
  have ha : az_in a := az_okh (az_okt oS) rfl
  have hbi : az_in b := az_okh oS rfl
  exact lv_icmp_lt hx hb hd ht (fun h => kt (by exact (az_lt ha hbi).mp h) p l e s m args below meth c E H locs ls ⟨C, ST, HH, HS, HB, HP, HL, oL, az_okt (az_okt oS)⟩) (fun h => kf (by exact Int.not_lt.mp (fun q => h ((az_lt ha hbi).mpr q))) p l e s m args below meth c E H locs ls ⟨C, ST, HH, HS, HB, HP, HL, oL, az_okt (az_okt oS)⟩)
theorem aw_if_lt {a : Int} {off : Int} {tgt : Nat} (hd : decode cc pc = .ok (.ifCond .lt off, 3)) (ht : (pc : Int) + off = (tgt : Int))
    (kt : a < 0 → AW P Z R y cc nL ret cs sl tgt L S K M) (kf : 0 ≤ a → AW P Z R y cc nL ret cs sl (pc + 3) L S K M) : AW P Z R y cc nL ret cs sl pc L ((0, a) :: S) K M := by
  rintro p l e s m args below meth c E H locs ls ⟨C, ST, HH, HS, HB, HP, HL, oL, oS⟩
  obtain ⟨hx, hb, hr, hml, hown, hts, hlocks, hnm⟩ := id C
  have ha : az_in a := az_okh oS rfl
  have hbi : az_in 0 := az_in0
  exact lv_if_lt hx hb hd ht (fun h => kt (by rw [az_i0] at h; exact (az_lt ha hbi).mp h) p l e s m args below meth c E H locs ls ⟨C, ST, HH, HS, HB, HP, HL, oL, az_okt oS⟩) (fun h => kf (by rw [az_i0] at h; exact Int.not_lt.mp (fun q => h ((az_lt ha hbi).mpr q))) p l e s m args below meth c E H locs ls ⟨C, ST, HH, HS, HB, HP, HL, oL, az_okt oS⟩)
theorem aw_icmp_ge {a b : Int} {off : Int} {tgt : Nat} (hd : decode cc pc = .ok (.if_icmp .ge off, 3)) (ht : (pc : Int) + off = (tgt : Int))
    (kt : b ≤ a → AW P Z R y cc nL ret cs sl tgt L S K M) (kf : a < b → AW P Z R y cc nL ret cs sl (pc + 3) L S K M) : AW P Z R y cc nL ret cs sl pc L ((0, b) :: (0, a) :: S) K M := by
  rintro p l e s m args below meth c E H locs ls ⟨C, ST, HH, HS, HB, HP, HL, oL, oS⟩
  obtain ⟨hx, hb, hr, hml, hown, hts, hlocks, hnm⟩ := id C
  have ha : az_in a := az_okh (az_okt oS) rfl
  have hbi : az_in b := az_okh oS rfl
  exact lv_icmp_ge hx hb hd ht (fun h => kt (by exact (az_le hbi ha).mp h) p l e s m args below meth c E H locs ls ⟨C, ST, HH, HS, HB, HP, HL, oL, az_okt (az_okt oS)⟩) (fun h => kf (by exact Int.not_le.mp (fun q => h ((az_le hbi ha).mpr q))) p l e s m args below meth c E H locs ls ⟨C, ST, HH, HS, HB, HP, HL, oL, az_okt (az_okt oS)⟩)
theorem aw_if_ge {a : Int} {off : Int} {tgt : Nat} (hd : decode cc pc = .ok (.ifCond .ge off, 3)) (ht : (pc : Int) + off = (tgt : Int))
    (kt : 0 ≤ a → AW P Z R y cc nL ret cs sl tgt L S K M) (kf : a < 0 → AW P Z R y cc nL ret cs sl (pc + 3) L S K M) : AW P Z R y cc nL ret cs sl pc L ((0, a) :: S) K M := by
  rintro p l e s m args below meth c E H locs ls ⟨C, ST, HH, HS, HB, HP, HL, oL, oS⟩
  obtain ⟨hx, hb, hr, hml, hown, hts, hlocks, hnm⟩ := id C
  have ha : az_in a := az_okh oS rfl
  have hbi : az_in 0 := az_in0
  exact lv_if_ge hx hb hd ht (fun h => kt (by rw [az_i0] at h; exact (az_le hbi ha).mp h) p l e s m args below meth c E H locs ls ⟨C, ST, HH, HS, HB, HP, HL, oL, az_okt oS⟩) (fun h => kf (by rw [az_i0] at h; exact Int.not_le.mp (fun q => h ((az_le hbi ha).mpr q))) p l e s m args below meth c E H locs ls ⟨C, ST, HH, HS, HB, HP, HL, oL, az_okt oS⟩)
theorem aw_icmp_gt {a b : Int} {off : Int} {tgt : Nat} (hd : decode cc pc = .ok (.if_icmp .gt off, 3)) (ht : (pc : Int) + off = (tgt : Int))
    (kt : b < a → AW P Z R y cc nL ret cs sl tgt L S K M) (kf : a ≤ b → AW P Z R y cc nL ret cs sl (pc + 3) L S K M) : AW P Z R y cc nL ret cs sl pc L ((0, b) :: (0, a) :: S) K M := by
  rintro p l e s m args below meth c E H locs ls ⟨C, ST, HH, HS, HB, HP, HL, oL, oS⟩
  obtain ⟨hx, hb, hr, hml, hown, hts, hlocks, hnm⟩ := id C
  have ha : az_in a := az_okh (az_okt oS) rfl
  have hbi : az_in b := az_okh oS rfl
  exact lv_icmp_gt hx hb hd ht (fun h => kt (by exact (az_lt hbi ha).mp h) p l e s m args below meth c E H locs ls ⟨C, ST, HH, HS, HB, HP, HL, oL, az_okt (az_okt oS)⟩) (fun h => kf (by exact Int.not_lt.mp (fun q => h ((az_lt hbi ha).mpr q))) p l e s m args below meth c E H locs ls ⟨C, ST, HH, HS, HB, HP, HL, oL, az_okt (az_okt oS)⟩)
theorem aw_if_gt {a : Int} {off : Int} {tgt : Nat} (hd : decode cc pc = .ok (.ifCond .gt off, 3)) (ht : (pc : Int) + off = (tgt : Int))
    (kt : 0 < a → AW P Z R y cc nL ret cs sl tgt L S K M) (kf : a ≤ 0 → AW P Z R y cc nL ret cs sl (pc + 3) L S K M) : AW P Z R y cc nL ret cs sl pc L ((0, a) :: S) K M := by
  rintro p l e s m args below meth c E H locs ls ⟨C, ST, HH, HS, HB, HP, HL, oL, oS⟩
  obtain ⟨hx, hb, hr, hml, hown, hts, hlocks, hnm⟩ := id C
  have ha : az_in a := az_okh oS rfl
  have hbi : az_in 0 := az_in0
  exact lv_if_gt hx hb hd ht (fun h => kt (by rw [az_i0] at h; exact (az_lt hbi ha).mp h) p l e s m args below meth c E H locs ls ⟨C, ST, HH, HS, HB, HP, HL, oL, az_okt oS⟩) (fun h => kf (by rw [az_i0] at h; exact Int.not_lt.mp (fun q => h ((az_lt hbi ha).mpr q))) p l e s m args below meth c E H locs ls ⟨C, ST, HH, HS, HB, HP, HL, oL, az_okt oS⟩)
theorem aw_icmp_le {a b : Int} {off : Int} {tgt : Nat} (hd : decode cc pc = .ok (.if_icmp .le off, 3)) (ht : (pc : Int) + off = (tgt : Int))
    (kt : a ≤ b → AW P Z R y cc nL ret cs sl tgt L S K M) (kf : b < a → AW P Z R y cc nL ret cs sl (pc + 3) L S K M) : AW P Z R y cc nL ret cs sl pc L ((0, b) :: (0, a) :: S) K M := by
  rintro p l e s m args below meth c E H locs ls ⟨C, ST, HH, HS, HB, HP, HL, oL, oS⟩
  obtain ⟨hx, hb, hr, hml, hown, hts, hlocks, hnm⟩ := id C
  have ha : az_in a := az_okh (az_okt oS) rfl
  have hbi : az_in b := az_okh oS rfl
  exact lv_icmp_le hx hb hd ht (fun h => kt (by exact (az_le ha hbi).mp h) p l e s m args below meth c E H locs ls ⟨C, ST, HH, HS, HB, HP, HL, oL, az_okt (az_okt oS)⟩) (fun h => kf (by exact Int.not_le.mp (fun q => h ((az_le ha hbi).mpr q))) p l e s m args below meth c E H locs ls ⟨C, ST, HH, HS, HB, HP, HL, oL, az_okt (az_okt oS)⟩)
theorem aw_if_le {a : Int} {off : Int} {tgt : Nat} (hd : decode cc pc = .ok (.ifCond .le off, 3)) (ht : (pc : Int) + off = (tgt : Int))
    (kt : a ≤ 0 → AW P Z R y cc nL ret cs sl tgt L S K M) (kf : 0 < a → AW P Z R y cc nL ret cs sl (pc + 3) L S K M) : AW P Z R y cc nL ret cs sl pc L ((0, a) :: S) K M := by
  rintro p l e s m args below meth c E H locs ls ⟨C, ST, HH, HS, HB, HP, HL, oL, oS⟩
  obtain ⟨hx, hb, hr, hml, hown, hts, hlocks, hnm⟩ := id C
  have ha : az_in a := az_okh oS rfl
  have hbi : az_in 0 := az_in0
  exact lv_if_le hx hb hd ht (fun h => kt (by rw [az_i0] at h; exact (az_le ha hbi).mp h) p l e s m args below meth c E H locs ls ⟨C, ST, HH, HS, HB, HP, HL, oL, az_okt oS⟩) (fun h => kf (by rw [az_i0] at h; exact Int.not_le.mp (fun q => h ((az_le ha hbi).mpr q))) p l e s m args below meth c E H locs ls ⟨C, ST, HH, HS, HB, HP, HL, oL, az_okt oS⟩)
theorem aw_goto {off : Int} {tgt : Nat} (hd : decode cc pc = .ok (.goto off, 3)) (ht : (pc : Int) + off = (tgt : Int))
    (k : AW P Z R y cc nL ret cs sl tgt L S K M) : AW P Z R y cc nL ret cs sl pc L S K M := by
  rintro p l e s m args below meth c E H locs ls ⟨C, ST, HH, HS, HB, HP, HL, oL, oS⟩
  obtain ⟨hx, hb, hr, hml, hown, hts, hlocks, hnm⟩ := id C
  exact lv_goto hx hb hd ht (k p l e s m args below meth c E H locs ls ⟨C, ST, HH, HS, HB, HP, HL, oL, oS⟩)
theorem aw_tsOut {dflt lo hi a : Int} {offs : Array Int} {len tgt : Nat} (hd : decode cc pc = .ok (.tableswitch dflt lo hi offs, len)) (h : a < lo ∨ hi < a) (ht : (pc : Int) + dflt = (tgt : Int))
    (k : AW P Z R y cc nL ret cs sl tgt L S K M) : AW P Z R y cc nL ret cs sl pc L ((0, a) :: S) K M := by
  rintro p l e s m args below meth c E H locs ls ⟨C, ST, HH, HS, HB, HP, HL, oL, oS⟩
  obtain ⟨hx, hb, hr, hml, hown, hts, hlocks, hnm⟩ := id C
  exact lv_tableOut hx hb hd (by rw [az_i2 (az_okh oS rfl)]; exact h) ht (k p l e s m args below meth c E H locs ls ⟨C, ST, HH, HS, HB, HP, HL, oL, az_okt oS⟩)
theorem aw_tsIn {dflt lo hi a off : Int} {offs : Array Int} {len tgt : Nat} (hd : decode cc pc = .ok (.tableswitch dflt lo hi offs, len)) (h1 : lo ≤ a) (h2 : a ≤ hi) (ho : offs[(a - lo).toNat]? = some off) (ht : (pc : Int) + off = (tgt : Int))
    (k : AW P Z R y cc nL ret cs sl tgt L S K M) : AW P Z R y cc nL ret cs sl pc L ((0, a) :: S) K M := by
  rintro p l e s m args below meth c E H locs ls ⟨C, ST, HH, HS, HB, HP, HL, oL, oS⟩
  obtain ⟨hx, hb, hr, hml, hown, hts, hlocks, hnm⟩ := id C
  have e1 := az_i2 (az_okh oS rfl)
  exact lv_tableIn hx hb hd (by rw [e1]; show ¬ a < lo; omega) (by rw [e1]; show ¬ hi < a; omega) (by rw [e1]; exact ho) ht (k p l e s m args below meth c E H locs ls ⟨C, ST, HH, HS, HB, HP, HL, oL, az_okt oS⟩)
/-- the ranges of what stands in the locals, on the stack, in the memory -/
theorem aw_rS {v : az_V} (k : az_ok v → AW P Z R y cc nL ret cs sl pc L (v :: S) K M) : AW P Z R y cc nL ret cs sl pc L (v :: S) K M := by
  rintro p l e s m args below meth c E H locs ls ⟨C, ST, HH, HS, HB, HP, HL, oL, oS⟩
  obtain ⟨hx, hb, hr, hml, hown, hts, hlocks, hnm⟩ := id C
  exact k (az_okh oS) p l e s m args below meth c E H locs ls ⟨C, ST, HH, HS, HB, HP, HL, oL, oS⟩
theorem aw_rL (k : (∀ v ∈ L, az_ok v) → AW P Z R y cc nL ret cs sl pc L S K M) : AW P Z R y cc nL ret cs sl pc L S K M := by
  rintro p l e s m args below meth c E H locs ls ⟨C, ST, HH, HS, HB, HP, HL, oL, oS⟩
  obtain ⟨hx, hb, hr, hml, hown, hts, hlocks, hnm⟩ := id C
  exact k oL p l e s m args below meth c E H locs ls ⟨C, ST, HH, HS, HB, HP, HL, oL, oS⟩
theorem aw_rM (k : (∀ a i, az_in (M a i)) → AW P Z R y cc nL ret cs sl pc L S K M) : AW P Z R y cc nL ret cs sl pc L S K M := by
  rintro p l e s m args below meth c E H locs ls ⟨C, ST, HH, HS, HB, HP, HL, oL, oS⟩
  obtain ⟨hx, hb, hr, hml, hown, hts, hlocks, hnm⟩ := id C
  exact k HH.2.2.2.2 p l e s m args below meth c E H locs ls ⟨C, ST, HH, HS, HB, HP, HL, oL, oS⟩
theorem aw_L {L' : List az_V} (h : L = L') (k : AW P Z R y cc nL ret cs sl pc L' S K M) : AW P Z R y cc nL ret cs sl pc L S K M := h ▸ k
theorem aw_M {M' : az_M} (h : M = M') (k : AW P Z R y cc nL ret cs sl pc L S K M') : AW P Z R y cc nL ret cs sl pc L S K M := h ▸ k
theorem aw_widen {cs' sl' : Nat} (h1 : cs ≤ cs') (h2 : sl ≤ sl') (k : AW P Z R y cc nL ret cs' sl' pc L S K M) : AW P Z R y cc nL ret cs sl pc L S K M := fun p l e s m args below meth c E H locs ls X => W.widen h1 h2 (k p l e s m args below meth c E H locs ls X)
theorem az_el100 (E : az_E) (n : Nat) (g : Int → Int) : az_el E (100, n) g = .inl (E.2.2.1.1, n, .inl (fun j => Int32.ofInt (g j))) := rfl
theorem az_el101 (E : az_E) (n : Nat) (g : Int → Int) : az_el E (101, n) g = .inl (E.2.2.1.2.1, n, .inl (fun j => Int32.ofInt (g j))) := rfl
theorem az_el102 (E : az_E) (n : Nat) (g : Int → Int) : az_el E (102, n) g = .inl (E.2.2.1.2.2, n, .inr (.inr (.inr (.inr (fun j => if g j < 0 then none else some (E.1 + (g j).toNat)))))) := rfl
theorem az_tn {z : Int} (h : 0 ≤ z) : ((z.toNat : Nat) : Int) = z := Int.toNat_of_nonneg h
theorem aw_iald {a i : Int} {n : Nat} (hd : decode cc pc = .ok (.iaload, 1)) (hK : az_at K a (100, n)) (h0 : 0 ≤ i) (h1 : i < n)
    (k : AW P Z R y cc nL ret cs sl (pc + 1) L ((0, M a i) :: S) K M) : AW P Z R y cc nL ret cs sl pc L ((0, i) :: (1, a) :: S) K M := by
  rintro p l e s m args below meth c E H locs ls ⟨C, ST, HH, HS, HB, HP, HL, oL, oS⟩
  obtain ⟨hx, hb, hr, hml, hown, hts, hlocks, hnm⟩ := id C
  have hi : az_in i := az_okh oS rfl
  rw [List.map_cons, List.map_cons, az_cv0, az_cv1 E hK.1]
  refine va_iald hx hb ST.1 HH.1 a.toNat 0 (az_W_get hK) rfl (az_vin hi h0 h1) hd ?_
  rw [az_cl hi]
  have K1 := k p l e s m args below meth c E H locs ls ⟨C, ST, HH, HS, HB, HP, HL, oL, az_okc (az_ok0 (HH.2.2.2.2 a i)) (az_okt (az_okt oS))⟩
  rw [List.map_cons, az_cv0] at K1
  show W p l e R s m args below meth c H locs cs sl (Z below args s E) (F0 m (pc + 1) ls (.int (Int32.ofInt (M a (i.toNat : Int))) :: S.map (az_cv E)))
  rw [az_tn h0]
  exact K1
theorem aw_zald {a i : Int} {n : Nat} (hd : decode cc pc = .ok (.baload, 1)) (hK : az_at K a (101, n)) (h0 : 0 ≤ i) (h1 : i < n)
    (k : AW P Z R y cc nL ret cs sl (pc + 1) L ((0, M a i) :: S) K M) : AW P Z R y cc nL ret cs sl pc L ((0, i) :: (1, a) :: S) K M := by
  rintro p l e s m args below meth c E H locs ls ⟨C, ST, HH, HS, HB, HP, HL, oL, oS⟩
  obtain ⟨hx, hb, hr, hml, hown, hts, hlocks, hnm⟩ := id C
  have hi : az_in i := az_okh oS rfl
  rw [List.map_cons, List.map_cons, az_cv0, az_cv1 E hK.1]
  refine va_zald hx hb ST.1 HH.1 a.toNat 1 (az_W_get hK) rfl (az_vin hi h0 h1) hd ?_
  rw [az_cl hi]
  have K1 := k p l e s m args below meth c E H locs ls ⟨C, ST, HH, HS, HB, HP, HL, oL, az_okc (az_ok0 (HH.2.2.2.2 a i)) (az_okt (az_okt oS))⟩
  rw [List.map_cons, az_cv0] at K1
  show W p l e R s m args below meth c H locs cs sl (Z below args s E) (F0 m (pc + 1) ls (.int (Int32.ofInt (M a (i.toNat : Int))) :: S.map (az_cv E)))
  rw [az_tn h0]
  exact K1
theorem az_upd (g : Int → Int) {i v : Int} (h0 : 0 ≤ i) : upd (fun j : Nat => Int32.ofInt (g j)) i.toNat (Int32.ofInt v) = fun j : Nat => Int32.ofInt ((fun j : Int => if j = i then v else g j) j) := by
  funext j
  unfold upd
  by_cases hj : j = i.toNat
  · have : (j : Int) = i := by omega
    rw [if_pos hj]
    show _ = Int32.ofInt (if (j : Int) = i then v else g j)
    rw [if_pos this]
  · have : ¬ (j : Int) = i := by omega
    rw [if_neg hj]
    show _ = Int32.ofInt (if (j : Int) = i then v else g j)
    rw [if_neg this]
theorem az_H_up {E : az_E} {K : az_K} {M : az_M} {H H1 : Heap} {a i v : Int} {q : Nat × Nat} {e : va_E} (HH : az_H E K M H) (hK : az_at K a q) (he : e = az_el E q (fun j => if j = i then v else M a j)) (hv : az_in v) (hfz : az_Fz K (az_up M a i v)) (hz : H1.size = H.size) (hP : va_P E.2.1 vwCl ((az_W E K M).set a.toNat (E.1 + a.toNat, e)) H1) (hD : va_D (az_A E) ((az_W E K M).set a.toNat (E.1 + a.toNat, e))) : az_H E K (az_up M a i v) H1 := by
  rw [az_W_set hK he] at hP hD
  rw [← az_up_fn] at hP hD
  exact ⟨hP, hD, by rw [hz]; exact HH.2.2.1, hfz, az_up_in HH.2.2.2.2 hv⟩
end AZ
