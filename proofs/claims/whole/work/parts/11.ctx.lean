/-! what holds around a walk in the small machine -/
def az_A (E : az_E) : Nat → Prop := fun q => E.1 ≤ q
def az_tys (E : az_E) : List (ClassId × FieldType) := [(E.2.2.1.1, .int), (E.2.2.1.2.1, .boolean), (E.2.2.1.2.2, .object "TreadRing$Heap")]
def az_si : List Nat := [98, 100, 102, 89, 129]
def az_st : List String := ["step", "times", "if", "none", "new"]
def az_len : List Nat := [4, 5, 2, 4, 3]
def az_byt : List (List Int32) := [[115, 116, 101, 112], [116, 105, 109, 101, 115], [105, 102], [110, 111, 110, 101], [110, 101, 119]]
/-- what the tables and the old heap say: it stays -/
def az_St (E : az_E) (U : State) : Prop :=
  va_K E.2.1 vwCl (az_tys E) U ∧ (∀ w ∈ az_NW, va_Nw w U) ∧ (∀ i : Nat, i < 5 → vk_R "TreadRing$Reader" (az_si.getD i 0) (az_st.getD i "") (E.2.2.2.1 i) U) ∧
  vk_S 5 az_len az_byt E.2.2.2.1 E.2.2.2.2.1 (az_A E) U U.heap ∧ va_Z "java/lang/String" "COMPACT_STRINGS" "Z" (.int 1) (az_A E) U U.heap ∧
  va_Z "jdk/internal/util/Preconditions" "SIOOBE_FORMATTER" "Ljava/util/function/BiFunction;" (va_rf E.2.2.2.2.2.1) (az_A E) U U.heap ∧ va_AO "TreadRing$Heap" U
theorem az_nest {w : Cond} (h : w ∈ az_NW) : (∃ a i b n d h, w = .fieldLinkNest a i b n d h) ∨ ∃ a i x h, w = .methodLinkNest a i x h := by
  have h2 := (List.mem_filter.mp h).2
  cases w <;> simp at h2
  · exact Or.inr ⟨_, _, _, _, rfl⟩
  · exact Or.inl ⟨_, _, _, _, _, _, rfl⟩
theorem az_St.warm {E : az_E} {s U : State} (h : az_St E s) (hW : s.WarmedH U.vm) (hq : ∀ a : Nat, a < s.heap.size → ¬ az_A E a → U.heap[a]? = s.heap[a]?) : az_St E U := by
  obtain ⟨h1, h2, h3, h4, h5, h6, h7⟩ := h
  refine ⟨h1.moved hW.alike, fun w hw => ?_, fun i hi => (h3 i hi).warm hW, (h4.moved hW.alike).kept hq, (h5.moved hW.alike).kept hq, (h6.moved hW.alike).kept hq, h7.moved hW.alike⟩
  have hz := h2 w hw
  rcases az_nest hw with ⟨a, i, b, n, d, h, rfl⟩ | ⟨a, i, x, h, rfl⟩
  · exact va_Nw.warmF hW hz
  · exact va_Nw.warmM hW hz
theorem az_St.same {E : az_E} {u U : State} (h : az_St E u) (hv : U.vm = u.vm) (hh : U.heap = u.heap) : az_St E U := by
  obtain ⟨h1, h2, h3, h4, h5, h6, h7⟩ := h
  have hal : u.vm.Alike U.vm := by rw [hv]; exact Vm.Alike.refl _
  refine ⟨h1.moved hal, fun w hw => ?_, fun i hi => (h3 i hi).same hv, ?_, ?_, ?_, h7.moved hal⟩
  · have hz := h2 w hw
    rcases az_nest hw with ⟨a, i, b, n, d, h, rfl⟩ | ⟨a, i, x, h, rfl⟩
    · exact va_Nw.same rfl hv.symm hz
    · exact va_Nw.same rfl hv.symm hz
  · rw [hh]; exact h4.moved hal
  · rw [hh]; exact h5.moved hal
  · rw [hh]; exact h6.moved hal
/-- the heap holds the memory -/
def az_H (E : az_E) (K : az_K) (M : az_M) (H : Heap) : Prop := va_P E.2.1 vwCl (az_W E K M) H ∧ va_D (az_A E) (az_W E K M) ∧ H.size = E.1 + K.1.length ∧ az_Fz K M ∧ ∀ a i, az_in (M a i)
def az_Pre (E : az_E) (K : az_K) (M : az_M) (U : State) : Prop := az_St E U ∧ az_H E K M U.heap
def az_Qc (E : az_E) (Q : Option az_V → az_K → az_M → Prop) : Array Value → State → Outcome → State → Prop :=
  fun _ st oc t => (∃ (r : Option az_V) (K : az_K) (M : az_M), oc = .returned (r.map (az_cv E)) ∧ (∀ v, r = some v → az_ok v) ∧ Q r K M ∧ az_H E K M t.heap) ∧ va_F (az_A E) st t
def az_ws (y : MethodName) (cc : ByteArray) (nL : Nat) (ret : Option FieldType) : List Cond := Cond.code y cc nL ret :: az_TB
def az_rm (d mc ms : Nat) : Room := { frames := d, cells := mc, slots := ms, locals := 40 * d }
/-- a method's contract: called with av over the memory M it returns, with Q -/
def AM (y : MethodName) (cc : ByteArray) (nL : Nat) (ret : Option FieldType) (d mc ms : Nat) (av : List az_V) (K : az_K) (M : az_M) (Q : Option az_V → az_K → az_M → Prop) : Prop :=
  (∀ v ∈ av, az_ok v) → (∀ a i, az_in (M a i)) → ∀ (l : Launch) (E : az_E), Met l y (az_ws y cc nL ret) (az_rm d mc ms) (va_Pc (av.map (az_cv E)) (az_Pre E K M)) (az_Qc E Q) mc ms (az_A E)
def az_C (p : Program) (s : State) (m : MethodId) (args : Array Value) (meth : Method) (c : Code) (y : MethodName) (cc : ByteArray) (nL : Nat) (ret : Option FieldType) : Prop :=
  p.tables.exec = Jvm.exec ∧ c.code = cc ∧ meth.sig.returnType = ret ∧ c.maxLocals = nL ∧ s.vm.findClass y.cls = some m.cls ∧ (∀ w ∈ az_TB, w.before args s = true) ∧ meth.locks = false ∧ meth.name = y.name
def az_Lv (E : az_E) (ls : Array Slot) (nL : Nat) (L : List az_V) : Prop := ls.size = nL ∧ lv_wf ls ∧ ∀ (i : Nat) (v : az_V), L[i]? = some v → v.1 ≠ 9 → ls[i]? = some (.val (az_cv E v))
def az_X (P : az_E → State → Array Value → Prop) (y : MethodName) (cc : ByteArray) (nL : Nat) (ret : Option FieldType) (p : Program) (s : State) (m : MethodId) (args : Array Value) (meth : Method) (c : Code) (E : az_E) (K : az_K) (M : az_M) (H : Heap) (locs : List Loc) (ls : Array Slot) (L S : List az_V) : Prop :=
  az_C p s m args meth c y cc nL ret ∧ az_St E s ∧ az_H E K M H ∧ va_S (az_A E) s.heap H locs ∧ E.1 ≤ s.heap.size ∧ P E s args ∧ az_Lv E ls nL L ∧ (∀ v ∈ L, az_ok v) ∧ ∀ v ∈ S, az_ok v
/-- from here, with locals L and stack S over the memory M, the machine comes to Z -/
def AW (P : az_E → State → Array Value → Prop) (Z : List Frame → Array Value → State → az_E → State → Prop) (R : Room) (y : MethodName) (cc : ByteArray) (nL : Nat) (ret : Option FieldType) (cs sl : Nat) (pc : Nat) (L S : List az_V) (K : az_K) (M : az_M) : Prop :=
  ∀ (p : Program) (l : Launch) (e : Env) (s : State) (m : MethodId) (args : Array Value) (below : List Frame) (meth : Method) (c : Code) (E : az_E) (H : Heap) (locs : List Loc) (ls : Array Slot),
    az_X P y cc nL ret p s m args meth c E K M H locs ls L S →
    W p l e R s m args below meth c H locs cs sl (Z below args s E) (F0 m pc ls (S.map (az_cv E)))
def az_P0 : az_E → State → Array Value → Prop := fun _ _ _ => True
def az_Z (Q : Option az_V → az_K → az_M → Prop) (mc ms : Nat) : List Frame → Array Value → State → az_E → State → Prop := fun below args s E => MQ below (az_Qc E Q) args s mc ms (az_A E)
-- locals
def az_ll (E : az_E) (L : List az_V) : List (Nat × Value) := (List.range L.length).filterMap (fun i => (L[i]?).bind (fun v => if v.1 = 9 then none else some (i, az_cv E v)))
theorem az_ll_mem {E : az_E} {L : List az_V} {q : Nat × Value} : q ∈ az_ll E L ↔ ∃ (v : az_V), L[q.1]? = some v ∧ v.1 ≠ 9 ∧ q.2 = az_cv E v := by
  unfold az_ll
  rw [List.mem_filterMap]
  constructor
  · rintro ⟨i, hi, h⟩
    cases hv : L[i]? with
    | none => simp [hv] at h
    | some v =>
      rw [hv] at h
      by_cases h9 : v.1 = 9
      · simp [h9] at h
      · simp [h9] at h
        subst h
        exact ⟨v, hv, h9, rfl⟩
  · rintro ⟨v, hv, h9, h2⟩
    refine ⟨q.1, ?_, ?_⟩
    · rw [List.mem_range]; exact (List.getElem?_eq_some_iff.mp hv).1
    · rw [hv]
      simp [h9, ← h2]
theorem az_lv_has {E : az_E} {ls : Array Slot} {nL : Nat} {L : List az_V} (h : az_Lv E ls nL L) : lv_has ls nL (az_ll E L) := by
  refine ⟨h.1, h.2.1, fun q hq => ?_⟩
  obtain ⟨v, h1, h2, h3⟩ := az_ll_mem.mp hq
  rw [h3]
  exact h.2.2 q.1 v h1 h2
theorem az_lv_set {E : az_E} {ls' : Array Slot} {nL i : Nat} {L : List az_V} {v : az_V} (h : lv_has ls' nL ((i, az_cv E v) :: (az_ll E L).filter (fun q => !(q.1 == i) && !(q.1 + 1 == i && q.2.category == 2)))) : az_Lv E ls' nL (L.set i v) := by
  refine ⟨h.1, h.2.1, fun j w hw h9 => ?_⟩
  rw [List.getElem?_set] at hw
  by_cases hij : i = j
  · subst hij
    rw [if_pos rfl] at hw
    split at hw
    · cases hw
      exact h.2.2 _ List.mem_cons_self
    · cases hw
  · rw [if_neg hij] at hw
    refine h.2.2 (j, az_cv E w) (List.mem_cons_of_mem _ (List.mem_filter.mpr ⟨az_ll_mem.mpr ⟨w, hw, h9, rfl⟩, ?_⟩))
    have hji : ¬ j = i := fun e => hij e.symm
    simp [hji, az_cat]
theorem az_set_ok {L : List az_V} {i : Nat} {v : az_V} (h : ∀ w ∈ L, az_ok w) (hv : az_ok v) : ∀ w ∈ L.set i v, az_ok w := by
  intro w hw
  rcases List.mem_or_eq_of_mem_set hw with h1 | h1
  · exact h w h1
  · rw [h1]; exact hv
