section AZ
variable {P : az_E → State → Array Value → Prop} {Z : List Frame → Array Value → State → az_E → State → Prop} {R : Room} {y : MethodName} {cc : ByteArray} {nL : Nat} {ret : Option FieldType} {cs sl pc : Nat} {L S : List az_V} {K : az_K} {M : az_M}
theorem aw_iast {a i v : Int} {n : Nat} (hd : decode cc pc = .ok (.iastore, 1)) (hK : az_at K a (100, n)) (h0 : 0 ≤ i) (h1 : i < n)
    (k : AW P Z R y cc nL ret cs sl (pc + 1) L S K (az_up M a i v)) : AW P Z R y cc nL ret cs sl pc L ((0, v) :: (0, i) :: (1, a) :: S) K M := by
  rintro p l e s m args below meth c E H locs ls ⟨C, ST, HH, HS, HB, HP, HL, oL, oS⟩
  obtain ⟨hx, hb, hr, hml, hown, hts, hlocks, hnm⟩ := id C
  have hv : az_in v := az_okh oS rfl
  have hi : az_in i := az_okh (az_okt oS) rfl
  rw [List.map_cons, List.map_cons, List.map_cons, az_cv0, az_cv0, az_cv1 E hK.1]
  have ha := az_W_get (E := E) (M := M) hK
  rw [az_el100] at ha
  refine W.iast hx hb (HH.1 _ _ ha) ((ST.1.2 0 _ rfl).1 n (fun j => .int (Int32.ofInt (M a j)))) (fun q => by cases q) (by show ¬ (_ < 0 ∨ (arrV _ _ _).slots.size ≤ _); rw [arrV_size]; exact az_vin hi h0 h1) rfl rfl hd fun H1 e1 z oq => ?_
  refine k p l e s m args below meth c E H1 _ ls ⟨C, ST, az_H_up (q := (100, n)) HH hK (az_el100 E n _).symm hv (HH.2.2.2.1.arr hK (Or.inl rfl)) z (HH.1.set HH.2.1 ha ?_ oq) (HH.2.1.set ha), HS.put z oq (HH.2.1.2 _ _ ha), HB, HP, HL, oL, az_okt (az_okt (az_okt oS))⟩
  show H1[_]? = some (vp_cell _ _)
  rw [e1, vp_cell_i, vp_cell_i, arrV_store, az_cl hi]
  congr 2
  funext q
  by_cases hq : q = i.toNat
  · have e2 : ((q : Nat) : Int) = i := by omega
    simp [updV, hq, az_tn h0]
  · have e2 : ¬ ((q : Nat) : Int) = i := by omega
    simp [updV, hq, e2]
theorem az_narz {v : Int} (hv : v = 0 ∨ v = 1) : narrow .boolean (.int (Int32.ofInt v)) = .int (Int32.ofInt v) := by
  rcases hv with rfl | rfl <;> decide
theorem az_b01 {v : Int} (hv : v = 0 ∨ v = 1) : az_in v := by
  rcases hv with rfl | rfl <;> (unfold az_in; omega)
theorem aw_zast {a i v : Int} {n : Nat} (hd : decode cc pc = .ok (.bastore, 1)) (hK : az_at K a (101, n)) (h0 : 0 ≤ i) (h1 : i < n) (hv : v = 0 ∨ v = 1)
    (k : AW P Z R y cc nL ret cs sl (pc + 1) L S K (az_up M a i v)) : AW P Z R y cc nL ret cs sl pc L ((0, v) :: (0, i) :: (1, a) :: S) K M := by
  rintro p l e s m args below meth c E H locs ls ⟨C, ST, HH, HS, HB, HP, HL, oL, oS⟩
  obtain ⟨hx, hb, hr, hml, hown, hts, hlocks, hnm⟩ := id C
  have hi : az_in i := az_okh (az_okt oS) rfl
  rw [List.map_cons, List.map_cons, List.map_cons, az_cv0, az_cv0, az_cv1 E hK.1]
  have ha := az_W_get (E := E) (M := M) hK
  rw [az_el101] at ha
  refine W.zast hx hb (HH.1 _ _ ha) ((ST.1.2 1 _ rfl).1 n (fun j => .int (Int32.ofInt (M a j)))) (fun q => by cases q) (by show ¬ (_ < 0 ∨ (arrV _ _ _).slots.size ≤ _); rw [arrV_size]; exact az_vin hi h0 h1) rfl rfl hd fun H1 e1 z oq => ?_
  rw [az_narz hv] at e1
  refine k p l e s m args below meth c E H1 _ ls ⟨C, ST, az_H_up (q := (101, n)) HH hK (az_el101 E n _).symm (az_b01 hv) (HH.2.2.2.1.arr hK (Or.inr rfl)) z (HH.1.set HH.2.1 ha ?_ oq) (HH.2.1.set ha), HS.put z oq (HH.2.1.2 _ _ ha), HB, HP, HL, oL, az_okt (az_okt (az_okt oS))⟩
  show H1[_]? = some (vp_cell _ _)
  rw [e1, vp_cell_i, vp_cell_i, arrV_store, az_cl hi]
  congr 2
  funext q
  by_cases hq : q = i.toNat
  · have e2 : ((q : Nat) : Int) = i := by omega
    simp [updV, hq, az_tn h0]
  · have e2 : ¬ ((q : Nat) : Int) = i := by omega
    simp [updV, hq, e2]
theorem aw_aald {a i : Int} {n : Nat} (hd : decode cc pc = .ok (.aaload, 1)) (hK : az_at K a (102, n)) (h0 : 0 ≤ i) (h1 : i < n)
    (k : AW P Z R y cc nL ret cs sl (pc + 1) L ((1, M a i) :: S) K M) : AW P Z R y cc nL ret cs sl pc L ((0, i) :: (1, a) :: S) K M := by
  rintro p l e s m args below meth c E H locs ls ⟨C, ST, HH, HS, HB, HP, HL, oL, oS⟩
  obtain ⟨hx, hb, hr, hml, hown, hts, hlocks, hnm⟩ := id C
  have hi : az_in i := az_okh oS rfl
  rw [List.map_cons, List.map_cons, az_cv0, az_cv1 E hK.1]
  have ha := az_W_get (E := E) (M := M) hK
  rw [az_el102] at ha
  refine va_aldq hx hb ST.1 HH.1 a.toNat 2 ha rfl (az_vin hi h0 h1) hd ?_
  rw [az_cl hi]
  have K1 := k p l e s m args below meth c E H locs ls ⟨C, ST, HH, HS, HB, HP, HL, oL, az_okc (az_okr (by decide)) (az_okt (az_okt oS))⟩
  rw [List.map_cons] at K1
  rw [az_tn h0]
  by_cases hz : M a i < 0
  · rw [az_cv1N E hz] at K1
    simp only [hz, if_true]
    exact K1
  · rw [az_cv1 E (by omega)] at K1
    simp only [hz, if_false]
    exact K1
theorem aw_aast {a i v : Int} {n n2 : Nat} (hd : decode cc pc = .ok (.aastore, 1)) (hK : az_at K a (102, n)) (hV : az_at K v (0, n2)) (h0 : 0 ≤ i) (h1 : i < n) (hvi : az_in v) (hfz : K.2 a i = none)
    (k : AW P Z R y cc nL ret cs sl (pc + 1) L S K (az_up M a i v)) : AW P Z R y cc nL ret cs sl pc L ((1, v) :: (0, i) :: (1, a) :: S) K M := by
  rintro p l e s m args below meth c E H locs ls ⟨C, ST, HH, HS, HB, HP, HL, oL, oS⟩
  obtain ⟨hx, hb, hr, hml, hown, hts, hlocks, hnm⟩ := id C
  have hi : az_in i := az_okh (az_okt oS) rfl
  rw [List.map_cons, List.map_cons, List.map_cons, az_cv0, az_cv1 E hK.1, az_cv1 E hV.1]
  have ha := az_W_get (E := E) (M := M) hK
  rw [az_el102] at ha
  have hvv := az_W_get (E := E) (M := M) hV
  obtain ⟨r', hr', cellV, g1, g2, g3, -⟩ := HH.1 _ _ hvv
  have hcls := (ST.1.1 0 (RX0, TX0, 16) rfl).2
  obtain ⟨kA, comp, k1, k2, k3, -⟩ := (ST.1.2 2 _ rfl).2
  have hcomp : comp = E.2.1.1 0 := Option.some.inj (k3.symm.trans hcls.1)
  subst hcomp
  obtain ⟨kC, hkC, -⟩ := hcls.2
  have hlt : (Int32.ofInt i).toNatClampNeg < n := by rw [az_cl hi]; omega
  refine W.aast (j := Int32.ofInt i) hx hb (HH.1 _ _ ha) (fun q h => by cases h) (fun h => by cases h) k1 k2 rfl hkC ⟨?_, by show _ < (arrV _ _ _).slots.size; rw [arrV_size]; exact hlt⟩ g1 (fun q h => by rw [g3] at h; cases h) (by rw [g2]; exact hkC) (by rw [g2]; exact va_assign hcls) rfl rfl hd fun H1 e1 z oq => ?_
  · rw [az_i0, az_lt hi az_in0]; omega
  refine k p l e s m args below meth c E H1 _ ls ⟨C, ST, az_H_up (q := (102, n)) HH hK (az_el102 E n _).symm hvi (HH.2.2.2.1.ref hfz) z (HH.1.set HH.2.1 ha ?_ oq) (HH.2.1.set ha), HS.put z oq (HH.2.1.2 _ _ ha), HB, HP, HL, oL, az_okt (az_okt (az_okt oS))⟩
  show H1[_]? = some (vp_cell _ _)
  rw [e1, vp_cell_q, vp_cell_q, arrV_store, az_cl hi]
  congr 2
  funext q
  have hvn : ¬ v < 0 := by have := hV.1; omega
  by_cases hq : q = i.toNat
  · have e2 : ((q : Nat) : Int) = i := by omega
    simp [updV, hq, az_tn h0, hvn, va_rf]
  · have e2 : ¬ ((q : Nat) : Int) = i := by omega
    simp [updV, hq, e2]
theorem aw_alen100 {a : Int} {n : Nat} (hd : decode cc pc = .ok (.arraylength, 1)) (hK : az_at K a (100, n)) (hn : az_in n)
    (k : AW P Z R y cc nL ret cs sl (pc + 1) L ((0, (n : Int)) :: S) K M) : AW P Z R y cc nL ret cs sl pc L ((1, a) :: S) K M := by
  rintro p l e s m args below meth c E H locs ls ⟨C, ST, HH, HS, HB, HP, HL, oL, oS⟩
  obtain ⟨hx, hb, hr, hml, hown, hts, hlocks, hnm⟩ := id C
  rw [List.map_cons, az_cv1 E hK.1]
  have ha := az_W_get (E := E) (M := M) hK
  rw [az_el100] at ha
  refine va_alen hx hb ST.1 HH.1 a.toNat 0 ha rfl rfl hd ?_
  have K1 := k p l e s m args below meth c E H locs ls ⟨C, ST, HH, HS, HB, HP, HL, oL, az_okc (az_ok0 hn) (az_okt oS)⟩
  rw [List.map_cons, az_cv0, Int32.ofInt_eq_ofNat] at K1
  exact K1
theorem aw_alen101 {a : Int} {n : Nat} (hd : decode cc pc = .ok (.arraylength, 1)) (hK : az_at K a (101, n)) (hn : az_in n)
    (k : AW P Z R y cc nL ret cs sl (pc + 1) L ((0, (n : Int)) :: S) K M) : AW P Z R y cc nL ret cs sl pc L ((1, a) :: S) K M := by
  rintro p l e s m args below meth c E H locs ls ⟨C, ST, HH, HS, HB, HP, HL, oL, oS⟩
  obtain ⟨hx, hb, hr, hml, hown, hts, hlocks, hnm⟩ := id C
  rw [List.map_cons, az_cv1 E hK.1]
  have ha := az_W_get (E := E) (M := M) hK
  rw [az_el101] at ha
  refine va_alen hx hb ST.1 HH.1 a.toNat 1 ha rfl rfl hd ?_
  have K1 := k p l e s m args below meth c E H locs ls ⟨C, ST, HH, HS, HB, HP, HL, oL, az_okc (az_ok0 hn) (az_okt oS)⟩
  rw [List.map_cons, az_cv0, Int32.ofInt_eq_ofNat] at K1
  exact K1
theorem aw_alen102 {a : Int} {n : Nat} (hd : decode cc pc = .ok (.arraylength, 1)) (hK : az_at K a (102, n)) (hn : az_in n)
    (k : AW P Z R y cc nL ret cs sl (pc + 1) L ((0, (n : Int)) :: S) K M) : AW P Z R y cc nL ret cs sl pc L ((1, a) :: S) K M := by
  rintro p l e s m args below meth c E H locs ls ⟨C, ST, HH, HS, HB, HP, HL, oL, oS⟩
  obtain ⟨hx, hb, hr, hml, hown, hts, hlocks, hnm⟩ := id C
  rw [List.map_cons, az_cv1 E hK.1]
  have ha := az_W_get (E := E) (M := M) hK
  rw [az_el102] at ha
  refine va_alen hx hb ST.1 HH.1 a.toNat 2 ha rfl rfl hd ?_
  have K1 := k p l e s m args below meth c E H locs ls ⟨C, ST, HH, HS, HB, HP, HL, oL, az_okc (az_ok0 hn) (az_okt oS)⟩
  rw [List.map_cons, az_cv0, Int32.ofInt_eq_ofNat] at K1
  exact K1
theorem az_elo (E : az_E) {ci : Nat} (n : Nat) (h : ci < 8) (g : Int → Int) : az_el E (ci, n) g = .inr (ci, (List.range (az_nf ci)).map (fun k => az_cv E (az_rf ci k, g k))) := by
  have h1 : ¬ ci = 100 := by omega
  have h2 : ¬ ci = 101 := by omega
  have h3 : ¬ ci = 102 := by omega
  simp [az_el, h1, h2, h3]
theorem aw_get {a : Int} {index ci k n : Nat} (hd : decode cc pc = .ok (.getfield index, 3)) (hf : az_FL y.cls index ci k) (hK : az_at K a (ci, n))
    (kk : AW P Z R y cc nL ret cs sl (pc + 3) L ((az_rf ci k, M a k) :: S) K M) : AW P Z R y cc nL ret cs sl pc L ((1, a) :: S) K M := by
  rintro p l e s m args below meth c E H locs ls ⟨C, ST, HH, HS, HB, HP, HL, oL, oS⟩
  obtain ⟨hx, hb, hr, hml, hown, hts, hlocks, hnm⟩ := id C
  obtain ⟨Cn, T, N, ref, hc, hN, h8, hk, href, hin, hty, hnmf, hlk, -⟩ := hf
  subst hN; subst href
  rw [List.map_cons, az_cv1 E hK.1]
  have ha := az_W_get (E := E) (M := M) hK
  rw [az_elo E n h8] at ha
  have K1 := kk p l e s m args below meth c E H locs ls ⟨C, ST, HH, HS, HB, HP, HL, oL, az_okc (fun e0 => HH.2.2.2.2 a k) (az_okt oS)⟩
  have hv : ((List.range (az_nf ci)).map (fun k => az_cv E (az_rf ci k, M a k)))[k]? = some (az_cv E (az_rf ci k, M a k)) := by
    rw [List.getElem?_map, List.getElem?_range hk]; rfl
  rcases hlk with hlk | ⟨host, hlk⟩
  · exact va_get hx hb hts hin hown ST.1 HH.1 a.toNat ha hc k hk (hts _ hlk) (fun _ h => h) hv hd K1
  · exact va_getN hx hb hts hin hown ST.1 HH.1 a.toNat ha hc k hk (va_Nw.use rfl (ST.2.1 _ hlk)) (fun _ h => h) hv hd K1
theorem aw_getF {a : Int} {index ci k n : Nat} (hd : decode cc pc = .ok (.getfield index, 3)) (hf : az_FF y.cls index ci k) (hK : az_at K a (ci, n))
    (kk : AW P Z R y cc nL ret cs sl (pc + 3) L ((az_rf ci k, M a k) :: S) K M) : AW P Z R y cc nL ret cs sl pc L ((1, a) :: S) K M := by
  rintro p l e s m args below meth c E H locs ls ⟨C, ST, HH, HS, HB, HP, HL, oL, oS⟩
  obtain ⟨hx, hb, hr, hml, hown, hts, hlocks, hnm⟩ := id C
  obtain ⟨Cn, T, N, ref, hc, hN, h8, hk, href, hin, hty, hnmf, hlk, -⟩ := hf
  subst hN; subst href
  rw [List.map_cons, az_cv1 E hK.1]
  have ha := az_W_get (E := E) (M := M) hK
  rw [az_elo E n h8] at ha
  have K1 := kk p l e s m args below meth c E H locs ls ⟨C, ST, HH, HS, HB, HP, HL, oL, az_okc (fun e0 => HH.2.2.2.2 a k) (az_okt oS)⟩
  have hv : ((List.range (az_nf ci)).map (fun k => az_cv E (az_rf ci k, M a k)))[k]? = some (az_cv E (az_rf ci k, M a k)) := by
    rw [List.getElem?_map, List.getElem?_range hk]; rfl
  rcases hlk with hlk | ⟨host, hlk⟩
  · exact va_get hx hb hts hin hown ST.1 HH.1 a.toNat ha hc k hk (hts _ hlk) (fun _ h => h) hv hd K1
  · exact va_getN hx hb hts hin hown ST.1 HH.1 a.toNat ha hc k hk (va_Nw.use rfl (ST.2.1 _ hlk)) (fun _ h => h) hv hd K1
/-- a value of the kind that a field takes -/
def az_fit (t : FieldType) (v : az_V) : Prop := match t with
  | .int => v.1 = 0 | .boolean => v.1 = 0 ∧ (v.2 = 0 ∨ v.2 = 1) | .object _ => v.1 = 1 | .array _ => v.1 = 1 | _ => False
theorem az_fit_tag {t : FieldType} {v : az_V} (h : az_fit t v) : v.1 = az_isr t := by
  cases t <;> simp [az_fit, az_isr] at h ⊢ <;> first | exact h | exact h.1
theorem az_fit_ok (E : az_E) {t : FieldType} {v : az_V} (h : az_fit t v) : narrow t (az_cv E v) = az_cv E v ∧ fits t (az_cv E v) = true := by
  obtain ⟨g, z⟩ := v
  cases t <;> simp only [az_fit] at h
  case boolean =>
    obtain ⟨h0, h1⟩ := h
    subst h0
    rcases h1 with rfl | rfl
    · exact ⟨show narrow .boolean (.int (Int32.ofInt 0)) = .int (Int32.ofInt 0) by decide, show fits .boolean (.int (Int32.ofInt 0)) = true by decide⟩
    · exact ⟨show narrow .boolean (.int (Int32.ofInt 1)) = .int (Int32.ofInt 1) by decide, show fits .boolean (.int (Int32.ofInt 1)) = true by decide⟩
  case int =>
    subst h
    exact ⟨rfl, rfl⟩
  case object =>
    subst h
    rcases az_cv_nr E (v := (1, z)) (by simp) with e | ⟨a, e⟩ <;> rw [e] <;> exact ⟨rfl, rfl⟩
  case array =>
    subst h
    rcases az_cv_nr E (v := (1, z)) (by simp) with e | ⟨a, e⟩ <;> rw [e] <;> exact ⟨rfl, rfl⟩
theorem az_fset (E : az_E) {ci k : Nat} (hk : k < az_nf ci) (g : Int → Int) (v : Int) : ((List.range (az_nf ci)).map (fun j => az_cv E (az_rf ci j, g j))).set k (az_cv E (az_rf ci k, v)) = (List.range (az_nf ci)).map (fun j => az_cv E (az_rf ci j, (fun j : Int => if j = (k : Int) then v else g j) j)) := by
  apply List.ext_getElem?
  intro i
  rw [List.getElem?_set]
  by_cases hi : k = i
  · subst hi
    rw [if_pos rfl, if_pos (by simpa using hk), List.getElem?_map, List.getElem?_range hk]
    simp
  · rw [if_neg hi, List.getElem?_map, List.getElem?_map]
    by_cases hl : i < az_nf ci
    · rw [List.getElem?_range hl]
      have : ¬ ((i : Nat) : Int) = (k : Int) := by omega
      simp [this]
    · rw [List.getElem?_eq_none (by simpa using hl)]
      rfl
theorem aw_put {a v : Int} {index ci k n tg : Nat} (hd : decode cc pc = .ok (.putfield index, 3)) (hf : az_FL y.cls index ci k) (hK : az_at K a (ci, n)) (hft : az_fit (az_ty ci k) (tg, v)) (hvr : az_in v) (hfz : az_rf ci k = 0 ∨ K.2 a k = none)
    (kk : AW P Z R y cc nL ret cs sl (pc + 3) L S K (az_up M a k v)) : AW P Z R y cc nL ret cs sl pc L ((tg, v) :: (1, a) :: S) K M := by
  rintro p l e s m args below meth c E H locs ls ⟨C, ST, HH, HS, HB, HP, HL, oL, oS⟩
  obtain ⟨hx, hb, hr, hml, hown, hts, hlocks, hnm⟩ := id C
  obtain ⟨Cn, T, N, ref, hc, hN, h8, hk, href, hin, hty, hnmf, hlk, hfin⟩ := hf
  subst hN; subst href
  rw [List.map_cons, List.map_cons, az_cv1 E hK.1]
  have ha := az_W_get (E := E) (M := M) hK
  rw [az_elo E n h8] at ha
  have htag := az_fit_tag hft
  have hvi : az_in v := hvr
  obtain ⟨hn1, hn2⟩ := az_fit_ok E hft
  obtain ⟨r, h1, cell, q1, q2, q3, q4⟩ := HH.1 _ _ ha
  have hr : r = (Cn, T, az_nf ci) := Option.some.inj (h1.symm.trans hc)
  subst hr
  have hap := va_apart (own := y.cls) hts hin (az_ty ci) hty hnmf ST.1 hc
  obtain ⟨hSl, hfc, kC, hkC, hkind⟩ := ST.1.1 ci _ hc
  obtain ⟨cf, kf, fi, f, hi, hsl⟩ := hSl k hk
  have hlay := hts _ (hin _ (u_in_lay hk))
  unfold u_lay at hlay
  have hst := (u_facts hfc hkC (u_lays hts hin hk) hi).1
  have hd0 := hty k hk
  have fin : ∀ (H1 : Heap), H1[E.1 + a.toNat]? = some (cell.setSlot f.slot (az_cv E (tg, v))) → H1.size = H.size → (∀ q, q ≠ E.1 + a.toNat → H1[q]? = H[q]?) → W p l e R s m args below meth c H1 (locs ++ [⟨E.1 + a.toNat, f.slot⟩]) cs sl (Z below args s E) (F0 m (pc + 3) ls (S.map (az_cv E))) := by
    intro H1 e1 z oq
    rw [hsl] at e1
    refine kk p l e s m args below meth c E H1 _ ls ⟨C, ST, az_H_up (q := (ci, n)) (e := .inr (ci, ((List.range (az_nf ci)).map (fun j => az_cv E (az_rf ci j, M a j))).set k (az_cv E (az_rf ci k, v)))) HH hK ?_ hvi (hfz.elim (fun h => HH.2.2.2.1.int hK h8 h) (fun h => HH.2.2.2.1.ref h)) z (HH.1.set HH.2.1 ha ?_ oq) (HH.2.1.set ha), HS.put z oq (HH.2.1.2 _ _ ha), HB, HP, HL, oL, az_okt (az_okt oS)⟩
    · rw [az_elo E n h8, az_fset E hk]
    · refine ⟨_, hc, t_OB.to (V := updV (vp_V ((List.range (az_nf ci)).map (fun j => az_cv E (az_rf ci j, M a j)))) k (az_cv E (az_rf ci k, v))) ⟨cell.setSlot (E.2.1.2 ci k) (az_cv E (az_rf ci k, v)), ?_, q2, q3, t_set q4 hap hk _⟩ (fun j _ => vp_updV_set (by simpa using hk) _ j)⟩
      have : (tg, v) = (az_rf ci k, v) := by rw [show tg = az_rf ci k from htag]
      rw [← this]; exact e1
  rw [if_neg (by rw [hfin]; decide)] at hlay
  have h6 := u_store hfc hkC hkind hlay hi hd0 hn1 hn2
  rcases hlk with hlk | ⟨host, hlk⟩
  · exact W.putK hx hb (f := f) ⟨hown, hts _ hlk, ⟨_, _, _, hi⟩, hst⟩ (by rw [q2]; exact h6) q1 q3 (by rw [hsl]; exact k2_hasslot (q4 k hk)) rfl rfl hd fin
  · exact va_WputK hx hb (f := f) hown (va_Nw.use rfl (ST.2.1 _ hlk)) hi hst (by rw [q2]; exact h6) q1 q3 (by rw [hsl]; exact k2_hasslot (q4 k hk)) rfl rfl hd fin
theorem aw_putF {a v : Int} {index ci k n tg : Nat} (hd : decode cc pc = .ok (.putfield index, 3)) (hf : az_FF y.cls index ci k) (hlk2 : ∀ (C : String) (T : u_T) (N : Nat), vwCl[ci]? = some (C, T, N) → Cond.fieldLink y.cls index (T k).1 (T k).2.1 (T k).2.2.1 ∈ az_TB ∧ (T k).1 = y.cls) (hin2 : y.name = "<init>") (hK : az_at K a (ci, n)) (hft : az_fit (az_ty ci k) (tg, v)) (hvr : az_in v) (hfz : az_rf ci k = 0 ∨ K.2 a k = none)
    (kk : AW P Z R y cc nL ret cs sl (pc + 3) L S K (az_up M a k v)) : AW P Z R y cc nL ret cs sl pc L ((tg, v) :: (1, a) :: S) K M := by
  rintro p l e s m args below meth c E H locs ls ⟨C, ST, HH, HS, HB, HP, HL, oL, oS⟩
  obtain ⟨hx, hb, hr, hml, hown, hts, hlocks, hnm⟩ := id C
  obtain ⟨Cn, T, N, ref, hc, hN, h8, hk, href, hin, hty, hnmf, hlk, hfin⟩ := hf
  subst hN; subst href
  rw [List.map_cons, List.map_cons, az_cv1 E hK.1]
  have ha := az_W_get (E := E) (M := M) hK
  rw [az_elo E n h8] at ha
  have htag := az_fit_tag hft
  have hvi : az_in v := hvr
  obtain ⟨hn1, hn2⟩ := az_fit_ok E hft
  obtain ⟨r, h1, cell, q1, q2, q3, q4⟩ := HH.1 _ _ ha
  have hr : r = (Cn, T, az_nf ci) := Option.some.inj (h1.symm.trans hc)
  subst hr
  have hap := va_apart (own := y.cls) hts hin (az_ty ci) hty hnmf ST.1 hc
  obtain ⟨hSl, hfc, kC, hkC, hkind⟩ := ST.1.1 ci _ hc
  obtain ⟨cf, kf, fi, f, hi, hsl⟩ := hSl k hk
  have hlay := hts _ (hin _ (u_in_lay hk))
  unfold u_lay at hlay
  have hst := (u_facts hfc hkC (u_lays hts hin hk) hi).1
  have hd0 := hty k hk
  have fin : ∀ (H1 : Heap), H1[E.1 + a.toNat]? = some (cell.setSlot f.slot (az_cv E (tg, v))) → H1.size = H.size → (∀ q, q ≠ E.1 + a.toNat → H1[q]? = H[q]?) → W p l e R s m args below meth c H1 (locs ++ [⟨E.1 + a.toNat, f.slot⟩]) cs sl (Z below args s E) (F0 m (pc + 3) ls (S.map (az_cv E))) := by
    intro H1 e1 z oq
    rw [hsl] at e1
    refine kk p l e s m args below meth c E H1 _ ls ⟨C, ST, az_H_up (q := (ci, n)) (e := .inr (ci, ((List.range (az_nf ci)).map (fun j => az_cv E (az_rf ci j, M a j))).set k (az_cv E (az_rf ci k, v)))) HH hK ?_ hvi (hfz.elim (fun h => HH.2.2.2.1.int hK h8 h) (fun h => HH.2.2.2.1.ref h)) z (HH.1.set HH.2.1 ha ?_ oq) (HH.2.1.set ha), HS.put z oq (HH.2.1.2 _ _ ha), HB, HP, HL, oL, az_okt (az_okt oS)⟩
    · rw [az_elo E n h8, az_fset E hk]
    · refine ⟨_, hc, t_OB.to (V := updV (vp_V ((List.range (az_nf ci)).map (fun j => az_cv E (az_rf ci j, M a j)))) k (az_cv E (az_rf ci k, v))) ⟨cell.setSlot (E.2.1.2 ci k) (az_cv E (az_rf ci k, v)), ?_, q2, q3, t_set q4 hap hk _⟩ (fun j _ => vp_updV_set (by simpa using hk) _ j)⟩
      have : (tg, v) = (az_rf ci k, v) := by rw [show tg = az_rf ci k from htag]
      rw [← this]; exact e1
  rw [if_pos hfin] at hlay
  obtain ⟨hlk3, hdecl⟩ := hlk2 _ _ _ hc
  have hcf : m.cls = cf := by
    obtain ⟨_, _, c', _, _, _, -, -, hf', -, -, -, hown2, -⟩ := Cond.laysFinal_spec hlay
    have e1 : c' = cf := by have := hi.symm.trans hf'; simp at this; exact this.1.symm
    rw [hdecl] at hown2
    rw [← e1]; exact Option.some.inj (hown.symm.trans hown2)
  have h6 := u_fits hfc hkC hkind (Or.inr hlay) hi hd0 hn1 hn2
  exact W.putFinK hx hb hown (hts _ hlk3) hi hst hcf (hnm.trans hin2) (by rw [q2]; exact h6) q1 q3 (by rw [hsl]; exact k2_hasslot (q4 k hk)) rfl rfl hd fin
end AZ
