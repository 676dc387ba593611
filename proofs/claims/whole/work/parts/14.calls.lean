theorem az_args {vs : List Value} (hc : ∀ v ∈ vs, v.category = 1) : ∀ (n i : Nat) (v : Value), vs[i]? = some v → (n + i, v) ∈ lv_args n vs := by
  induction vs with
  | nil => intro n i v h; simp at h
  | cons w t ih =>
    intro n i v h
    have hw : ¬ w.category = 2 := by rw [hc w List.mem_cons_self]; decide
    cases i with
    | zero =>
      simp at h
      subst h
      simp [lv_args]
    | succ i =>
      simp only [List.getElem?_cons_succ] at h
      have := ih (fun v hv => hc v (List.mem_cons_of_mem _ hv)) (n + 1) i v h
      simp only [lv_args, hw, if_false]
      refine List.mem_cons_of_mem _ ?_
      rw [show n + (i + 1) = n + 1 + i by omega]
      exact this
theorem az_sl_len {vs : List Value} (hc : ∀ v ∈ vs, v.category = 1) : (lg_sl vs).length = vs.length := by
  induction vs with
  | nil => rfl
  | cons w t ih =>
    have hw : ¬ w.category = 2 := by rw [hc w List.mem_cons_self]; decide
    have := ih (fun v hv => hc v (List.mem_cons_of_mem _ hv))
    unfold lg_sl at this ⊢
    rw [List.flatMap_cons]
    simp [hw, this]
/-- a contract out of a walk from the entry -/
theorem am_of {y : MethodName} {cc : ByteArray} {nL : Nat} {ret : Option FieldType} {d mc ms : Nat} {av : List az_V} {K : az_K} {M : az_M} {Q : Option az_V → az_K → az_M → Prop} (hy : plainName y.cls = true) (hlen : av.length ≤ nL) {L : List az_V} (hL : L = av ++ List.replicate (nL - av.length) (9, 0))
    (k : AW az_P0 (az_Z Q mc ms) (az_rm d mc ms) y cc nL ret 0 0 0 L [] K M) : AM y cc nL ret d mc ms av K M Q := by
  intro hok hM l E
  refine Met.ofW (cc := cc) (maxL := nL) (ret := ret) hy rfl ?_
  intro p e s m args below meth c s₁ B hml hv
  obtain ⟨rfl, hSt, hH⟩ := hv
  have hcat : ∀ v ∈ av.map (az_cv E), v.category = 1 := by
    intro v hv
    obtain ⟨w, -, rfl⟩ := List.mem_map.mp hv
    exact az_cat E w
  have hl0 := az_sl_len hcat
  have hl := lv_entry (av.map (az_cv E)) (n := nL) (by rw [hl0, List.length_map]; exact hlen)
  have hts := atoms_spec (ws := az_ws y cc nL ret) B.pre
  rw [lg_entry_eq]
  refine k p l e s m _ below meth c E s.heap [] _ ⟨⟨B.exec, B.bytes, B.returns, hml, findClass_of_methodNamed B.named, fun w hw => hts w (List.mem_cons_of_mem _ hw), B.notSynchronized, (name_of_methodNamed B.named B.method).1⟩, hSt, hH, va_S.rf, by rw [hH.2.2.1]; omega, trivial, ⟨hl.1, hl.2.1, ?_⟩, ?_, fun v hv => by cases hv⟩
  · intro i v hv h9
    subst hL
    by_cases hi : i < av.length
    · rw [List.getElem?_append_left hi] at hv
      have h1 := az_args hcat 0 i (az_cv E v) (by rw [List.getElem?_map, hv]; rfl)
      rw [Nat.zero_add] at h1
      exact hl.2.2 _ h1
    · rw [List.getElem?_append_right (by omega)] at hv
      have := List.mem_of_getElem? hv
      rw [List.mem_replicate] at this
      exact absurd (congrArg Prod.fst this.2) h9
  · intro v hv
    subst hL
    rcases List.mem_append.mp hv with h | h
    · exact hok v h
    · rw [List.mem_replicate] at h
      rw [h.2]
      exact az_okr (by decide)
section AZ
variable {P : az_E → State → Array Value → Prop} {Z : List Frame → Array Value → State → az_E → State → Prop} {R : Room} {y : MethodName} {cc : ByteArray} {nL : Nat} {ret : Option FieldType} {cs sl pc : Nat} {L S : List az_V} {K : az_K} {M : az_M}
theorem aw_nret {Q : Option az_V → az_K → az_M → Prop} {mc ms : Nat} {v : Int} {ty : FieldType} (hd : decode cc pc = .ok (.ireturn, 1)) (hn : narrow ty (.int (Int32.ofInt v)) = .int (Int32.ofInt v)) (h1 : cs ≤ mc) (h2 : sl ≤ ms) (hq : Q (some (0, v)) K M) : AW P (az_Z Q mc ms) R y cc nL (some ty) cs sl pc L [(0, v)] K M := by
  rintro p l e s m args below meth c E H locs ls ⟨C, ST, HH, HS, HB, HP, HL, oL, oS⟩
  obtain ⟨hx, hb, hr, hml, hown, hts, hlocks, hnm⟩ := id C
  refine W.widen h1 h2 ?_
  exact W.zret (v := Int32.ofInt v) hx hb hr hn (fun t ht hW => ⟨⟨some (0, v), K, M, rfl, fun w hw => by cases hw; exact az_okh oS, hq, by rw [ht]; exact HH⟩, HS.F ht⟩) HS.2.2 hd
theorem aw_iret {Q : Option az_V → az_K → az_M → Prop} {mc ms : Nat} {v : Int} (hd : decode cc pc = .ok (.ireturn, 1)) (h1 : cs ≤ mc) (h2 : sl ≤ ms) (hq : Q (some (0, v)) K M) : AW P (az_Z Q mc ms) R y cc nL (some .int) cs sl pc L [(0, v)] K M := aw_nret hd rfl h1 h2 hq
theorem aw_zret {Q : Option az_V → az_K → az_M → Prop} {mc ms : Nat} {v : Int} (hd : decode cc pc = .ok (.ireturn, 1)) (hv : v = 0 ∨ v = 1) (h1 : cs ≤ mc) (h2 : sl ≤ ms) (hq : Q (some (0, v)) K M) : AW P (az_Z Q mc ms) R y cc nL (some .boolean) cs sl pc L [(0, v)] K M := aw_nret hd (az_narz hv) h1 h2 hq
theorem aw_vret {Q : Option az_V → az_K → az_M → Prop} {mc ms : Nat} (hd : decode cc pc = .ok (.return_, 1)) (h1 : cs ≤ mc) (h2 : sl ≤ ms) (hq : Q none K M) : AW P (az_Z Q mc ms) R y cc nL none cs sl pc L [] K M := by
  rintro p l e s m args below meth c E H locs ls ⟨C, ST, HH, HS, HB, HP, HL, oL, oS⟩
  obtain ⟨hx, hb, hr, hml, hown, hts, hlocks, hnm⟩ := id C
  refine W.widen h1 h2 ?_
  exact W.vret hx hb hr (fun t ht hW => ⟨⟨none, K, M, rfl, fun w hw => (by cases hw), hq, by rw [ht]; exact HH⟩, HS.F ht⟩) HS.2.2 hd
theorem aw_aret {Q : Option az_V → az_K → az_M → Prop} {mc ms : Nat} {v : az_V} {n : String} (hd : decode cc pc = .ok (.areturn, 1)) (hv : v.1 ≠ 0) (h1 : cs ≤ mc) (h2 : sl ≤ ms) (hq : Q (some v) K M) : AW P (az_Z Q mc ms) R y cc nL (some (.object n)) cs sl pc L [v] K M := by
  rintro p l e s m args below meth c E H locs ls ⟨C, ST, HH, HS, HB, HP, HL, oL, oS⟩
  obtain ⟨hx, hb, hr, hml, hown, hts, hlocks, hnm⟩ := id C
  refine W.widen h1 h2 ?_
  exact W.aret (v := az_cv E v) hx hb hr (Or.inl ⟨_, rfl⟩) (az_cv_nr E hv) (fun t ht hW => ⟨⟨some v, K, M, rfl, fun w hw => by cases hw; exact az_okh oS, hq, by rw [ht]; exact HH⟩, HS.F ht⟩) HS.2.2 hd
theorem az_back {p : Program} {l : Launch} {e : Env} {s : State} {m : MethodId} {args : Array Value} {below : List Frame} {meth : Method} {c : Code} {H : Heap} {locs : List Loc} {Q0 : State → Prop} {ls : Array Slot} {rest st0 : List Value} {a : Array Value} {H0 : Heap} {mc ms : Nat} {E : az_E} {Q : Option az_V → az_K → az_M → Prop}
    (hr : va_Run p l e R s m args below meth c H locs cs sl mc ms (F0 m pc ls st0) rest (az_Qc E Q a) (az_A E)) (hS : va_S (az_A E) H0 H locs)
    (kk : ∀ (r : Option az_V) (K : az_K) (M : az_M) (H1 : Heap) (locs1 : List Loc), (∀ v, r = some v → az_ok v) → Q r K M → az_H E K M H1 → va_S (az_A E) H0 H1 locs1 → W p l e R s m args below meth c H1 locs1 (cs + mc) (sl + ms) Q0 (F0 m (pc + 3) ls ((r.map (az_cv E)).toList ++ rest))) : W p l e R s m args below meth c H locs cs sl Q0 (F0 m pc ls st0) := by
  intro T hT X
  obtain ⟨v, st₀, t, T', L, h0, X', hL, e1, e2, ⟨⟨r, K, M, hv, hok, hq, hH⟩, hz, hk⟩, st⟩ := hr T hT X
  cases hv
  rw [h0] at hz hk
  obtain ⟨t2, a1, b1⟩ := kk r K M T'.heap (locs ++ L) hok hq (by rw [e1]; exact hH)
    ⟨Nat.le_trans hS.1 (by rw [e1]; exact hz), fun q h1 h2 => by rw [e1, hk q (Nat.lt_of_lt_of_le h1 hS.1) h2]; exact hS.2.1 q h1 h2, fun q hq => by
      rcases List.mem_append.mp hq with h | h
      · exact hS.2.2 q h
      · exact hL q h⟩ T' rfl X'
  exact ⟨t2, st t2 a1, b1⟩
theorem az_good {y : MethodName} {cc : ByteArray} {nL : Nat} {ret : Option FieldType} (h : Cond.code y cc nL ret ∈ az_TB) : GoodIn az_TB (az_ws y cc nL ret) := by
  intro w hw
  have hm : w ∈ az_TB := by
    rcases List.mem_cons.mp hw with e | e
    · rw [e]; exact h
    · exact e
  exact ⟨hm, good_of_word (List.mem_filter.mp hm).2⟩
theorem az_pre {E : az_E} {K : az_K} {M : az_M} {s : State} {H : Heap} {locs : List Loc} {av : List az_V} (ST : az_St E s) (HH : az_H E K M H) (HS : va_S (az_A E) s.heap H locs) :
    PreS s H (va_Pc (av.map (az_cv E)) (az_Pre E K M)) (av.map (az_cv E)) :=
  ⟨fun a U g mk q => ⟨q.1, q.2.1.same rfl rfl, q.2.2⟩, fun U hU hW => ⟨rfl, ST.warm hW (fun a h1 h2 => by rw [hU]; exact HS.2.1 a h1 h2), by rw [hU]; exact HH⟩⟩
theorem az_cats (E : az_E) (S : List az_V) : ((S.map (az_cv E)).map fun v => v.category).sum = S.length := by
  induction S with
  | nil => rfl
  | cons v t ih =>
    rw [List.map_cons, List.map_cons, List.sum_cons, ih, az_cat, List.length_cons]
    omega
theorem aw_callS {y' : MethodName} {cc' : ByteArray} {nL' : Nat} {ret' : Option FieldType} {d' mc' ms' n idx : Nat} {Q' : Option az_V → az_K → az_M → Prop} {As : List az_V} (hd : decode cc pc = .ok (.invokestatic idx, 3)) (hm : az_MS y.cls idx y' cc' nL' ret' n) (hn : As.length = n) (hrm : d' + 1 ≤ R.frames ∧ 8 + (nL' + 11) + 40 * d' ≤ R.locals ∧ cs + mc' ≤ R.cells ∧ sl + ms' ≤ R.slots) (hS8 : S.length ≤ 8) (hA : AM y' cc' nL' ret' d' mc' ms' As K M Q')
    (kk : ∀ r K' M', Q' r K' M' → AW P Z R y cc nL ret (cs + mc') (sl + ms') (pc + 3) L (r.toList ++ S) K' M') : AW P Z R y cc nL ret cs sl pc L (As.reverse ++ S) K M := by
  rintro p l e s m args below meth c E H locs ls ⟨C, ST, HH, HS, HB, HP, HL, oL, oS⟩
  obtain ⟨hx, hb, hr, hml, hown, hts, hlocks, hnm⟩ := id C
  obtain ⟨m1, m2, m3, m4, m5⟩ := hm
  have hM := hA (fun v hv => oS v (List.mem_append_left _ (List.mem_reverse.mpr hv))) HH.2.2.2.2 l E
  refine az_back (va_runS (As := As.map (az_cv E)) (rest := S.map (az_cv E)) ⟨hx, hb, hml, hown, hts⟩ hM ⟨callB_of n hts (az_good m4) rfl rfl rfl (hts _ m3) (hts _ m1) m5 ⟨hrm.1, hrm.2.1⟩, hts _ m2⟩ (az_pre ST HH HS) rfl (by rw [List.length_map]; exact hn) HL.1 (by rw [List.map_append, List.map_reverse]) (lv_room (by rw [az_cats]; exact hS8)) hd ⟨hrm.2.2.1, hrm.2.2.2⟩) HS fun r K' M' H1 locs1 hok hq hH1 hS1 => ?_
  have K1 := kk r K' M' hq p l e s m args below meth c E H1 locs1 ls ⟨C, ST, hH1, hS1, HB, HP, HL, oL, ?_⟩
  · rw [List.map_append] at K1
    cases r with
    | none => exact K1
    | some v => exact K1
  · intro v hv
    rcases List.mem_append.mp hv with h | h
    · exact hok v (by cases r with
        | none => cases h
        | some w => rw [Option.toList_some, List.mem_singleton] at h; rw [h])
    · exact oS v (by first | exact List.mem_append_right _ h | exact List.mem_append_right _ (List.mem_cons_of_mem _ h))
theorem aw_callI {y' : MethodName} {cc' : ByteArray} {nL' : Nat} {ret' : Option FieldType} {d' mc' ms' n idx : Nat} {Q' : Option az_V → az_K → az_M → Prop} {As : List az_V} {a : Int} (hd : decode cc pc = .ok (.invokespecial idx, 3)) (hm : az_MI y.cls idx y' cc' nL' n) (hn : As.length = n) (ha : 0 ≤ a) (hrm : d' + 1 ≤ R.frames ∧ 8 + (nL' + 11) + 40 * d' ≤ R.locals ∧ cs + mc' ≤ R.cells ∧ sl + ms' ≤ R.slots) (hS8 : S.length ≤ 8) (hA : AM y' cc' nL' none d' mc' ms' ((1, a) :: As) K M Q')
    (kk : ∀ r K' M', Q' r K' M' → AW P Z R y cc nL ret (cs + mc') (sl + ms') (pc + 3) L (r.toList ++ S) K' M') : AW P Z R y cc nL ret cs sl pc L (As.reverse ++ (1, a) :: S) K M := by
  rintro p l e s m args below meth c E H locs ls ⟨C, ST, HH, HS, HB, HP, HL, oL, oS⟩
  obtain ⟨hx, hb, hr, hml, hown, hts, hlocks, hnm⟩ := id C
  obtain ⟨m1, m2, m3, m4, m5, m6⟩ := hm
  have hM := hA (fun v hv => oS v (by rcases List.mem_cons.mp hv with h | h
                                      · rw [h]; exact List.mem_append_right _ List.mem_cons_self
                                      · exact List.mem_append_left _ (List.mem_reverse.mpr h))) HH.2.2.2.2 l E
  have hp := az_pre (av := (1, a) :: As) ST HH HS
  rw [List.map_cons, az_cv1 E ha] at hp hM
  have hst : (F0 m pc ls ((As.reverse ++ (1, a) :: S).map (az_cv E))).stack = (As.map (az_cv E)).reverse ++ .ref (E.1 + a.toNat) :: S.map (az_cv E) := by
    show (As.reverse ++ (1, a) :: S).map (az_cv E) = _
    rw [List.map_append, List.map_reverse, List.map_cons, az_cv1 E ha]
  rcases m1 with m1 | ⟨host, m1⟩
  · refine az_back (va_runI (As := As.map (az_cv E)) (rest := S.map (az_cv E)) ⟨hx, hb, hml, hown, hts⟩ hM ⟨callB_of n hts (az_good m5) rfl rfl rfl (hts _ m4) (hts _ m1) m6 ⟨hrm.1, hrm.2.1⟩, m2, hts _ m3⟩ hp rfl (by rw [List.length_map]; exact hn) HL.1 hst (lv_room (by rw [az_cats]; exact hS8)) hd ⟨hrm.2.2.1, hrm.2.2.2⟩) HS fun r K' M' H1 locs1 hok hq hH1 hS1 => ?_
    have K1 := kk r K' M' hq p l e s m args below meth c E H1 locs1 ls ⟨C, ST, hH1, hS1, HB, HP, HL, oL, ?_⟩
    · rw [List.map_append] at K1
      cases r with
      | none => exact K1
      | some v => exact K1
    · intro v hv
      rcases List.mem_append.mp hv with h | h
      · exact hok v (by cases r with
          | none => cases h
          | some w => rw [Option.toList_some, List.mem_singleton] at h; rw [h])
      · exact oS v (by first | exact List.mem_append_right _ h | exact List.mem_append_right _ (List.mem_cons_of_mem _ h))
  · refine az_back (va_runIN (As := As.map (az_cv E)) (rest := S.map (az_cv E)) ⟨hx, hb, hml, hown, hts⟩ hM ⟨va_cnB n hts (az_good m5) rfl rfl rfl (ST.2.1 _ m1) (hts _ m4) m6 ⟨hrm.1, hrm.2.1⟩, m2, hts _ m3⟩ hp rfl (by rw [List.length_map]; exact hn) HL.1 hst (lv_room (by rw [az_cats]; exact hS8)) hd ⟨hrm.2.2.1, hrm.2.2.2⟩) HS fun r K' M' H1 locs1 hok hq hH1 hS1 => ?_
    have K1 := kk r K' M' hq p l e s m args below meth c E H1 locs1 ls ⟨C, ST, hH1, hS1, HB, HP, HL, oL, ?_⟩
    · rw [List.map_append] at K1
      cases r with
      | none => exact K1
      | some v => exact K1
    · intro v hv
      rcases List.mem_append.mp hv with h | h
      · exact hok v (by cases r with
          | none => cases h
          | some w => rw [Option.toList_some, List.mem_singleton] at h; rw [h])
      · exact oS v (by first | exact List.mem_append_right _ h | exact List.mem_append_right _ (List.mem_cons_of_mem _ h))
theorem az_callV0 {y' : MethodName} {cc' : ByteArray} {nL' : Nat} {ret' : Option FieldType} {d' mc' ms' n idx : Nat} {Q' : Option az_V → az_K → az_M → Prop} {As : List az_V} {t : Nat} {a : Int} (hd : decode cc pc = .ok (.invokevirtual idx, 3)) (hm : az_MV y.cls idx y' cc' nL' ret' n) (hn : As.length = n) (hrm : d' + 1 ≤ R.frames ∧ 8 + (nL' + 11) + 40 * d' ≤ R.locals ∧ cs + mc' ≤ R.cells ∧ sl + ms' ≤ R.slots) (hS8 : S.length ≤ 8) (ht : t = 1 ∨ t = 2)
    (hrc : ∀ (p : Program) (s : State) (m : MethodId) (args : Array Value) (meth : Method) (c : Code) (E : az_E) (H : Heap) (locs : List Loc) (ls : Array Slot), az_X P y cc nL ret p s m args meth c E K M H locs ls L (As.reverse ++ (t, a) :: S) → ∃ b, az_cv E (t, a) = .ref b ∧ ∃ cellB : Cell, H[b]? = some cellB ∧ cellB.vm.isStatics = false ∧ s.vm.findClass y'.cls = some cellB.cls)
    (hA : AM y' cc' nL' ret' d' mc' ms' ((t, a) :: As) K M Q')
    (kk : ∀ r K' M', Q' r K' M' → AW P Z R y cc nL ret (cs + mc') (sl + ms') (pc + 3) L (r.toList ++ S) K' M') : AW P Z R y cc nL ret cs sl pc L (As.reverse ++ (t, a) :: S) K M := by
  intro p l e s m args below meth c E H locs ls X
  obtain ⟨b, hbe, hcell⟩ := hrc p s m args meth c E H locs ls X
  obtain ⟨C, ST, HH, HS, HB, HP, HL, oL, oS⟩ := X
  obtain ⟨hx, hb, hr, hml, hown, hts, hlocks, hnm⟩ := id C
  obtain ⟨m1, m2, m3, m4, m5, m6⟩ := hm
  have hM := hA (fun v hv => oS v (by rcases List.mem_cons.mp hv with h | h
                                      · rw [h]; exact List.mem_append_right _ List.mem_cons_self
                                      · exact List.mem_append_left _ (List.mem_reverse.mpr h))) HH.2.2.2.2 l E
  have hp := az_pre (av := (t, a) :: As) ST HH HS
  rw [List.map_cons, hbe] at hp hM
  have hst : (F0 m pc ls ((As.reverse ++ (t, a) :: S).map (az_cv E))).stack = (As.map (az_cv E)).reverse ++ .ref b :: S.map (az_cv E) := by
    show (As.reverse ++ (t, a) :: S).map (az_cv E) = _
    rw [List.map_append, List.map_reverse, List.map_cons, hbe]
  rcases m1 with m1 | ⟨host, m1⟩
  · refine az_back (va_runV (As := As.map (az_cv E)) (rest := S.map (az_cv E)) ⟨hx, hb, hml, hown, hts⟩ hM ⟨callB_of n hts (az_good m5) rfl rfl rfl (hts _ m4) (hts _ m1) m6 ⟨hrm.1, hrm.2.1⟩, hts _ m2, hts _ m3⟩ ⟨hp.1, hcell, hp.2⟩ rfl (by rw [List.length_map]; exact hn) HL.1 hst (lv_room (by rw [az_cats]; exact hS8)) hd ⟨hrm.2.2.1, hrm.2.2.2⟩) HS fun r K' M' H1 locs1 hok hq hH1 hS1 => ?_
    have K1 := kk r K' M' hq p l e s m args below meth c E H1 locs1 ls ⟨C, ST, hH1, hS1, HB, HP, HL, oL, ?_⟩
    · rw [List.map_append] at K1
      cases r with
      | none => exact K1
      | some v => exact K1
    · intro v hv
      rcases List.mem_append.mp hv with h | h
      · exact hok v (by cases r with
          | none => cases h
          | some w => rw [Option.toList_some, List.mem_singleton] at h; rw [h])
      · exact oS v (by first | exact List.mem_append_right _ h | exact List.mem_append_right _ (List.mem_cons_of_mem _ h))
  · refine az_back (va_runVN (As := As.map (az_cv E)) (rest := S.map (az_cv E)) ⟨hx, hb, hml, hown, hts⟩ hM ⟨va_cnB n hts (az_good m5) rfl rfl rfl (ST.2.1 _ m1) (hts _ m4) m6 ⟨hrm.1, hrm.2.1⟩, hts _ m2, hts _ m3⟩ ⟨hp.1, hcell, hp.2⟩ rfl (by rw [List.length_map]; exact hn) HL.1 hst (lv_room (by rw [az_cats]; exact hS8)) hd ⟨hrm.2.2.1, hrm.2.2.2⟩) HS fun r K' M' H1 locs1 hok hq hH1 hS1 => ?_
    have K1 := kk r K' M' hq p l e s m args below meth c E H1 locs1 ls ⟨C, ST, hH1, hS1, HB, HP, HL, oL, ?_⟩
    · rw [List.map_append] at K1
      cases r with
      | none => exact K1
      | some v => exact K1
    · intro v hv
      rcases List.mem_append.mp hv with h | h
      · exact hok v (by cases r with
          | none => cases h
          | some w => rw [Option.toList_some, List.mem_singleton] at h; rw [h])
      · exact oS v (by first | exact List.mem_append_right _ h | exact List.mem_append_right _ (List.mem_cons_of_mem _ h))
theorem aw_callV {y' : MethodName} {cc' : ByteArray} {nL' : Nat} {ret' : Option FieldType} {d' mc' ms' n idx : Nat} {Q' : Option az_V → az_K → az_M → Prop} {As : List az_V} {a : Int} {ci nn : Nat} {q : vw_C} (hd : decode cc pc = .ok (.invokevirtual idx, 3)) (hm : az_MV y.cls idx y' cc' nL' ret' n) (hn : As.length = n) (hK : az_at K a (ci, nn)) (h8 : ci < 8) (hc : vwCl[ci]? = some q) (hq : q.1 = y'.cls) (hrm : d' + 1 ≤ R.frames ∧ 8 + (nL' + 11) + 40 * d' ≤ R.locals ∧ cs + mc' ≤ R.cells ∧ sl + ms' ≤ R.slots) (hS8 : S.length ≤ 8) (hA : AM y' cc' nL' ret' d' mc' ms' ((1, a) :: As) K M Q')
    (kk : ∀ r K' M', Q' r K' M' → AW P Z R y cc nL ret (cs + mc') (sl + ms') (pc + 3) L (r.toList ++ S) K' M') : AW P Z R y cc nL ret cs sl pc L (As.reverse ++ (1, a) :: S) K M := by
  refine az_callV0 hd hm hn hrm hS8 (Or.inl rfl) (fun p s m args meth c E H locs ls X => ⟨_, az_cv1 E hK.1, ?_⟩) hA kk
  obtain ⟨C, ST, HH, HS, HB, HP, HL, oL, oS⟩ := X
  have ha := az_W_get (E := E) (M := M) hK
  rw [az_elo E nn h8] at ha
  rw [← hq]
  exact va_recv ST.1 HH.1 hc ha
theorem aw_callT {y' : MethodName} {cc' : ByteArray} {nL' : Nat} {ret' : Option FieldType} {d' mc' ms' n idx : Nat} {Q' : Option az_V → az_K → az_M → Prop} {As : List az_V} {i : Int} (hd : decode cc pc = .ok (.invokevirtual idx, 3)) (hm : az_MV y.cls idx y' cc' nL' ret' n) (hn : As.length = n) (h0 : 0 ≤ i) (h5 : i < 5) (hq : y'.cls = "java/lang/String") (hrm : d' + 1 ≤ R.frames ∧ 8 + (nL' + 11) + 40 * d' ≤ R.locals ∧ cs + mc' ≤ R.cells ∧ sl + ms' ≤ R.slots) (hS8 : S.length ≤ 8) (hA : AM y' cc' nL' ret' d' mc' ms' ((2, i) :: As) K M Q')
    (kk : ∀ r K' M', Q' r K' M' → AW P Z R y cc nL ret (cs + mc') (sl + ms') (pc + 3) L (r.toList ++ S) K' M') : AW P Z R y cc nL ret cs sl pc L (As.reverse ++ (2, i) :: S) K M := by
  refine az_callV0 hd hm hn hrm hS8 (Or.inr rfl) (fun p s m args meth c E H locs ls X => ⟨_, az_cv2 E i, ?_⟩) hA kk
  obtain ⟨C, ST, HH, HS, HB, HP, HL, oL, oS⟩ := X
  rw [hq]
  exact vk_recv ST.2.2.2.1 (show i.toNat < 5 by omega) HS
end AZ
