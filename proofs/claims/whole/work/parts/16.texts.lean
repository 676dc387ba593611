/-! text constants -/
section AZ
variable {P : az_E → State → Array Value → Prop} {Z : List Frame → Array Value → State → az_E → State → Prop} {R : Room} {y : MethodName} {cc : ByteArray} {nL : Nat} {ret : Option FieldType} {cs sl pc : Nat} {L S : List az_V} {K : az_K} {M : az_M}
theorem aw_ldcS {index i : Nat} (hd : decode cc pc = .ok (.ldc index, 2)) (hi : i < 5) (hix : index = az_si.getD i 0) (hy : y.cls = "TreadRing$Reader")
    (k : AW P Z R y cc nL ret cs sl (pc + 2) L ((2, (i : Int)) :: S) K M) : AW P Z R y cc nL ret cs sl pc L S K M := by
  rintro p l e s m args below meth c E H locs ls ⟨C, ST, HH, HS, HB, HP, HL, oL, oS⟩
  obtain ⟨hx, hb, hr, hml, hown, hts, hlocks, hnm⟩ := id C
  rw [hy] at hown
  subst hix
  refine va_ldcS hx hb hown (ST.2.2.1 i hi) hd ?_
  exact k p l e s m args below meth c E H locs ls ⟨C, ST, HH, HS, HB, HP, HL, oL, az_okc (az_okr (by decide)) oS⟩
theorem aw_strValue {index : Nat} {i : Int} (hd : decode cc pc = .ok (.getfield index, 3)) (h0 : 0 ≤ i) (h5 : i < 5) (hl : Cond.fieldLink y.cls index "java/lang/String" "value" "[B" ∈ az_TB)
    (k : AW P Z R y cc nL ret cs sl (pc + 3) L ((3, i) :: S) K M) : AW P Z R y cc nL ret cs sl pc L ((2, i) :: S) K M := by
  rintro p l e s m args below meth c E H locs ls ⟨C, ST, HH, HS, HB, HP, HL, oL, oS⟩
  obtain ⟨hx, hb, hr, hml, hown, hts, hlocks, hnm⟩ := id C
  refine vk_getf (v := .ref (E.2.2.2.2.1 i.toNat)) hx hb (ST.2.2.2.1.1 i.toNat (by omega)).2.2.1 HS hown (hts _ hl) (fun _ h => h) hd ?_
  exact k p l e s m args below meth c E H locs ls ⟨C, ST, HH, HS, HB, HP, HL, oL, az_okc (az_okr (by decide)) (az_okt oS)⟩
theorem aw_strCoder {index : Nat} {i : Int} (hd : decode cc pc = .ok (.getfield index, 3)) (h0 : 0 ≤ i) (h5 : i < 5) (hl : Cond.fieldLink y.cls index "java/lang/String" "coder" "B" ∈ az_TB)
    (k : AW P Z R y cc nL ret cs sl (pc + 3) L ((0, 0) :: S) K M) : AW P Z R y cc nL ret cs sl pc L ((2, i) :: S) K M := by
  rintro p l e s m args below meth c E H locs ls ⟨C, ST, HH, HS, HB, HP, HL, oL, oS⟩
  obtain ⟨hx, hb, hr, hml, hown, hts, hlocks, hnm⟩ := id C
  refine vk_getf (v := .int 0) hx hb (ST.2.2.2.1.1 i.toNat (by omega)).2.1 HS hown (hts _ hl) (fun _ h => h) hd ?_
  exact k p l e s m args below meth c E H locs ls ⟨C, ST, HH, HS, HB, HP, HL, oL, az_okc (az_ok0 az_in0) (az_okt oS)⟩
theorem aw_strLen {i : Int} (hd : decode cc pc = .ok (.arraylength, 1)) (h0 : 0 ≤ i) (h5 : i < 5)
    (k : AW P Z R y cc nL ret cs sl (pc + 1) L ((0, ((az_len.getD i.toNat 0 : Nat) : Int)) :: S) K M) : AW P Z R y cc nL ret cs sl pc L ((3, i) :: S) K M := by
  rintro p l e s m args below meth c E H locs ls ⟨C, ST, HH, HS, HB, HP, HL, oL, oS⟩
  obtain ⟨hx, hb, hr, hml, hown, hts, hlocks, hnm⟩ := id C
  refine va_tlen hx hb (ST.2.2.2.1.1 i.toNat (by omega)).2.2.2 HS rfl hd ?_
  have hlen : ∀ j, j < 5 → az_len.getD j 0 ≤ 5 := by decide
  have hle := hlen i.toNat (by omega)
  have K1 := k p l e s m args below meth c E H locs ls ⟨C, ST, HH, HS, HB, HP, HL, oL, az_okc (az_ok0 ⟨by omega, by omega⟩) (az_okt oS)⟩
  rw [List.map_cons, az_cv0, Int32.ofInt_eq_ofNat] at K1
  exact K1
theorem aw_strByte {i j : Int} (hd : decode cc pc = .ok (.baload, 1)) (h0 : 0 ≤ i) (h5 : i < 5) (h1 : 0 ≤ j) (h2 : j < ((az_len.getD i.toNat 0 : Nat) : Int))
    (k : AW P Z R y cc nL ret cs sl (pc + 1) L ((0, ((az_byt.getD i.toNat []).getD j.toNat 0).toInt) :: S) K M) : AW P Z R y cc nL ret cs sl pc L ((0, j) :: (3, i) :: S) K M := by
  rintro p l e s m args below meth c E H locs ls ⟨C, ST, HH, HS, HB, HP, HL, oL, oS⟩
  obtain ⟨hx, hb, hr, hml, hown, hts, hlocks, hnm⟩ := id C
  have hj : az_in j := az_okh oS rfl
  refine va_tb hx hb (ST.2.2.2.1.1 i.toNat (by omega)).2.2.2 HS (az_vin hj h1 h2) rfl hd ?_
  have K1 := k p l e s m args below meth c E H locs ls ⟨C, ST, HH, HS, HB, HP, HL, oL, az_okc (az_ok0 (az_to_in _)) (az_okt (az_okt oS))⟩
  rw [List.map_cons, az_cv0, Int32.ofInt_toInt] at K1
  rw [az_cl hj]
  exact K1
theorem aw_compact {index : Nat} (hd : decode cc pc = .ok (.getstatic index, 3)) (hl : Cond.fieldLink y.cls index "java/lang/String" "COMPACT_STRINGS" "Z" ∈ az_TB)
    (k : AW P Z R y cc nL ret cs sl (pc + 3) L ((0, 1) :: S) K M) : AW P Z R y cc nL ret cs sl pc L S K M := by
  rintro p l e s m args below meth c E H locs ls ⟨C, ST, HH, HS, HB, HP, HL, oL, oS⟩
  obtain ⟨hx, hb, hr, hml, hown, hts, hlocks, hnm⟩ := id C
  refine va_gets hx hb ST.2.2.2.2.1 HS hown (hts _ hl) (fun _ h => h) hd ?_
  exact k p l e s m args below meth c E H locs ls ⟨C, ST, HH, HS, HB, HP, HL, oL, az_okc (az_ok0 ⟨by omega, by omega⟩) oS⟩
theorem aw_formatter {index : Nat} (hd : decode cc pc = .ok (.getstatic index, 3)) (hl : Cond.fieldLink y.cls index "jdk/internal/util/Preconditions" "SIOOBE_FORMATTER" "Ljava/util/function/BiFunction;" ∈ az_TB)
    (k : AW P Z R y cc nL ret cs sl (pc + 3) L ((4, 0) :: S) K M) : AW P Z R y cc nL ret cs sl pc L S K M := by
  rintro p l e s m args below meth c E H locs ls ⟨C, ST, HH, HS, HB, HP, HL, oL, oS⟩
  obtain ⟨hx, hb, hr, hml, hown, hts, hlocks, hnm⟩ := id C
  refine va_gets hx hb ST.2.2.2.2.2.1 HS hown (hts _ hl) (fun _ h => h) hd ?_
  exact k p l e s m args below meth c E H locs ls ⟨C, ST, HH, HS, HB, HP, HL, oL, az_okc (az_okr (by decide)) oS⟩
end AZ
