/-! Math -/
section AZ
variable {P : az_E → State → Array Value → Prop} {Z : List Frame → Array Value → State → az_E → State → Prop} {R : Room} {y : MethodName} {cc : ByteArray} {nL : Nat} {ret : Option FieldType} {cs sl pc : Nat} {L S : List az_V} {K : az_K} {M : az_M}
theorem aw_mmax {a b : Int} {index : Nat} (hd : decode cc pc = .ok (.invokestatic index, 3)) (hm : Cond.methodLink y.cls index Lib.Math.max.name ∈ az_TB ∧ Cond.static Lib.Math.max.name ∈ az_TB ∧ Cond.initialized "java/lang/Math" ∈ az_TB ∧ Cond.code Lib.Math.max.name Lib.Math.max.code 2 (some .int) ∈ az_TB) (hrm : 1 ≤ R.frames ∧ S.length + 13 ≤ R.locals ∧ cs ≤ R.cells ∧ sl ≤ R.slots)
    (k : AW P Z R y cc nL ret cs sl (pc + 3) L ((0, max a b) :: S) K M) : AW P Z R y cc nL ret cs sl pc L ((0, b) :: (0, a) :: S) K M := by
  rintro p l e s m args below meth c E H locs ls ⟨C, ST, HH, HS, HB, HP, HL, oL, oS⟩
  obtain ⟨hx, hb, hr, hml, hown, hts, hlocks, hnm⟩ := id C
  have ha : az_in a := az_okh (az_okt oS) rfl
  have hbi : az_in b := az_okh oS rfl
  refine va_mmax hx hb (by rw [hml]; exact HL.1.symm) hown (hts _ hm.1) (hts _ hm.2.1) (hts _ hm.2.2.1) (hts _ hm.2.2.2) hrm.1 (by rw [az_cats]; exact hrm.2.1) hrm.2.2.1 hrm.2.2.2 hd ?_
  have hin : az_in (max a b) := by
    rw [Int.max_def]
    split
    · first | exact ha | exact hbi
    · first | exact hbi | exact ha
  have K1 := k p l e s m args below meth c E H locs ls ⟨C, ST, HH, HS, HB, HP, HL, oL, az_okc (az_ok0 hin) (az_okt (az_okt oS))⟩
  have he : (if Int32.ofInt a < Int32.ofInt b then Int32.ofInt b else Int32.ofInt a) = Int32.ofInt (max a b) := by
    by_cases h : a < b
    · rw [if_pos ((az_lt ha hbi).mpr h), Int.max_def]
      rw [if_pos (by omega)]
    · rw [if_neg (fun q => h ((az_lt ha hbi).mp q)), Int.max_def]
      by_cases e : a = b
      · rw [e]; simp
      · rw [if_neg (by omega)]
  show W p l e R s m args below meth c H locs cs sl (Z below args s E) (F0 m (pc + 3) ls (.int (if Int32.ofInt a < Int32.ofInt b then Int32.ofInt b else Int32.ofInt a) :: S.map (az_cv E)))
  rw [he]
  exact K1
theorem aw_mmin {a b : Int} {index : Nat} (hd : decode cc pc = .ok (.invokestatic index, 3)) (hm : Cond.methodLink y.cls index Lib.Math.min.name ∈ az_TB ∧ Cond.static Lib.Math.min.name ∈ az_TB ∧ Cond.initialized "java/lang/Math" ∈ az_TB ∧ Cond.code Lib.Math.min.name Lib.Math.min.code 2 (some .int) ∈ az_TB) (hrm : 1 ≤ R.frames ∧ S.length + 13 ≤ R.locals ∧ cs ≤ R.cells ∧ sl ≤ R.slots)
    (k : AW P Z R y cc nL ret cs sl (pc + 3) L ((0, min a b) :: S) K M) : AW P Z R y cc nL ret cs sl pc L ((0, b) :: (0, a) :: S) K M := by
  rintro p l e s m args below meth c E H locs ls ⟨C, ST, HH, HS, HB, HP, HL, oL, oS⟩
  obtain ⟨hx, hb, hr, hml, hown, hts, hlocks, hnm⟩ := id C
  have ha : az_in a := az_okh (az_okt oS) rfl
  have hbi : az_in b := az_okh oS rfl
  refine va_mmin hx hb (by rw [hml]; exact HL.1.symm) hown (hts _ hm.1) (hts _ hm.2.1) (hts _ hm.2.2.1) (hts _ hm.2.2.2) hrm.1 (by rw [az_cats]; exact hrm.2.1) hrm.2.2.1 hrm.2.2.2 hd ?_
  have hin : az_in (min a b) := by
    rw [Int.min_def]
    split
    · first | exact ha | exact hbi
    · first | exact hbi | exact ha
  have K1 := k p l e s m args below meth c E H locs ls ⟨C, ST, HH, HS, HB, HP, HL, oL, az_okc (az_ok0 hin) (az_okt (az_okt oS))⟩
  have he : (if Int32.ofInt b < Int32.ofInt a then Int32.ofInt b else Int32.ofInt a) = Int32.ofInt (min a b) := by
    by_cases h : b < a
    · rw [if_pos ((az_lt hbi ha).mpr h), Int.min_def]
      rw [if_neg (by omega)]
    · rw [if_neg (fun q => h ((az_lt hbi ha).mp q)), Int.min_def]
      rw [if_pos (by omega)]
      
      
  show W p l e R s m args below meth c H locs cs sl (Z below args s E) (F0 m (pc + 3) ls (.int (if Int32.ofInt b < Int32.ofInt a then Int32.ofInt b else Int32.ofInt a) :: S.map (az_cv E)))
  rw [he]
  exact K1
end AZ
theorem mm_RX6_292 : Cond.methodLink RX6 292 Lib.Math.min.name ∈ az_TB ∧ Cond.static Lib.Math.min.name ∈ az_TB ∧ Cond.initialized "java/lang/Math" ∈ az_TB ∧ Cond.code Lib.Math.min.name Lib.Math.min.code 2 (some .int) ∈ az_TB := ⟨tb448, tb449, tb135, tb450⟩
theorem mm_RX2_64 : Cond.methodLink RX2 64 Lib.Math.min.name ∈ az_TB ∧ Cond.static Lib.Math.min.name ∈ az_TB ∧ Cond.initialized "java/lang/Math" ∈ az_TB ∧ Cond.code Lib.Math.min.name Lib.Math.min.code 2 (some .int) ∈ az_TB := ⟨tb619, tb449, tb135, tb450⟩
theorem mm_RX4_53 : Cond.methodLink RX4 53 Lib.Math.max.name ∈ az_TB ∧ Cond.static Lib.Math.max.name ∈ az_TB ∧ Cond.initialized "java/lang/Math" ∈ az_TB ∧ Cond.code Lib.Math.max.name Lib.Math.max.code 2 (some .int) ∈ az_TB := ⟨tb760, tb761, tb135, tb762⟩
theorem mm_RX0_160 : Cond.methodLink RX0 160 Lib.Math.min.name ∈ az_TB ∧ Cond.static Lib.Math.min.name ∈ az_TB ∧ Cond.initialized "java/lang/Math" ∈ az_TB ∧ Cond.code Lib.Math.min.name Lib.Math.min.code 2 (some .int) ∈ az_TB := ⟨tb827, tb449, tb135, tb450⟩
