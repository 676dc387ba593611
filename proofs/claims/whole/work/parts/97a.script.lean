/-! the law's script -/
set_option maxRecDepth 20000
def az_PX (Lx : Nat) (xs : Nat → Int32) : az_E → State → Array Value → Prop := fun E s args => va_X E.2.2.2.2.2.2 Lx xs s s.heap ∧ E.2.2.2.2.2.2 < s.heap.size ∧ E.2.2.2.2.2.2 < E.1 ∧ args = #[Value.ref E.2.2.2.2.2.2] ∧ s.heap.size ≤ E.1
section SC
variable {Lx : Nat} {xs : Nat → Int32} {Z : List Frame → Array Value → State → az_E → State → Prop} {R : Room} {y : MethodName} {cc : ByteArray} {nL : Nat} {ret : Option FieldType} {cs sl pc : Nat} {L S : List az_V} {K : az_K} {M : az_M}
theorem aw_slen {z : Int} (hd : decode cc pc = .ok (.arraylength, 1)) (hn : Lx ≤ 100000)
    (k : AW (az_PX Lx xs) Z R y cc nL ret cs sl (pc + 1) L ((0, (Lx : Int)) :: S) K M) : AW (az_PX Lx xs) Z R y cc nL ret cs sl pc L ((5, z) :: S) K M := by
  rintro p l e s m args below meth c E H locs ls ⟨C, ST, HH, HS, HB, HP, HL, oL, oS⟩
  obtain ⟨hx, hb, hr, hml, hown, hts, hlocks, hnm⟩ := id C
  rw [List.map_cons, az_cv5]
  refine va_slen hx hb HP.1 HP.2.1 (Nat.not_le.mpr HP.2.2.1) HS hd ?_
  have K1 := k p l e s m args below meth c E H locs ls ⟨C, ST, HH, HS, HB, HP, HL, oL, az_okc (az_ok0 ⟨by omega, by omega⟩) (az_okt oS)⟩
  rw [List.map_cons, az_cv0, Int32.ofInt_eq_ofNat] at K1
  exact K1
theorem aw_sld {i z : Int} (hd : decode cc pc = .ok (.iaload, 1)) (h0 : 0 ≤ i) (h1 : i < Lx) (hn : Lx ≤ 100000)
    (k : AW (az_PX Lx xs) Z R y cc nL ret cs sl (pc + 1) L ((0, (xs i.toNat).toInt) :: S) K M) : AW (az_PX Lx xs) Z R y cc nL ret cs sl pc L ((0, i) :: (5, z) :: S) K M := by
  rintro p l e s m args below meth c E H locs ls ⟨C, ST, HH, HS, HB, HP, HL, oL, oS⟩
  obtain ⟨hx, hb, hr, hml, hown, hts, hlocks, hnm⟩ := id C
  have hi : az_in i := ⟨by omega, by omega⟩
  rw [List.map_cons, List.map_cons, az_cv5, az_cv0]
  refine va_sld hx hb HP.1 HP.2.1 (Nat.not_le.mpr HP.2.2.1) HS (az_vin hi h0 h1) hd ?_
  have K1 := k p l e s m args below meth c E H locs ls ⟨C, ST, HH, HS, HB, HP, HL, oL, az_okc (az_ok0 (az_to_in _)) (az_okt (az_okt oS))⟩
  rw [List.map_cons, az_cv0, Int32.ofInt_toInt] at K1
  rw [az_cl hi]
  exact K1
end SC
