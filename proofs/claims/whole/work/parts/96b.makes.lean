/-! what a constructor leaves -/
set_option maxRecDepth 20000
def mk (M0 : az_M) (o : Int) (g : Int → Int) (lo hi : Int) : az_M := fun b => if b = o then g else if lo ≤ b ∧ b < hi then (fun _ => 0) else M0 b
theorem mk_o (M0 : az_M) (o : Int) (g : Int → Int) (lo hi : Int) : mk M0 o g lo hi o = g := if_pos rfl
theorem mk_z {M0 : az_M} {o : Int} {g : Int → Int} {lo hi b : Int} (h : b ≠ o) (h0 : lo ≤ b) (h1 : b < hi) : mk M0 o g lo hi b = fun _ => 0 := by
  unfold mk; rw [if_neg h, if_pos ⟨h0, h1⟩]
theorem mk_b {M0 : az_M} {o : Int} {g : Int → Int} {lo hi b : Int} (h : b ≠ o) (h0 : b < lo ∨ hi ≤ b) : mk M0 o g lo hi b = M0 b := by
  unfold mk; rw [if_neg h, if_neg (by omega)]
theorem up_g (M : az_M) (o f v b : Int) : az_up M o f v b = if b = o then gu (M o) f v else M b := by
  funext i
  unfold az_up gu
  by_cases p : b = o
  · subst p
    rw [if_pos rfl]
    by_cases q : i = f
    · rw [if_pos ⟨rfl, q⟩]; exact (if_pos q).symm
    · rw [if_neg (fun w => q w.2)]; exact (if_neg q).symm
  · rw [if_neg p, if_neg (fun w => p w.1)]
theorem mk_1 {M : az_M} {o f v lo lo' : Int} (h : o < lo) (e : lo' = lo + 1) : az_up (az_nw M lo (fun _ => 0)) o f v = mk M o (gu (M o) f v) lo lo' := by
  funext b
  rw [up_g]
  unfold mk az_nw
  by_cases p : b = o
  · rw [if_pos p, if_pos p, if_neg (by omega)]
  · rw [if_neg p, if_neg p]
    by_cases q : b = lo
    · rw [if_pos q, if_pos (by omega)]
    · rw [if_neg q, if_neg (by omega)]
theorem mk_u (M0 : az_M) (o f v lo hi : Int) (g : Int → Int) : az_up (mk M0 o g lo hi) o f v = mk M0 o (gu g f v) lo hi := by
  funext b
  rw [up_g, mk_o]
  unfold mk
  by_cases p : b = o
  · rw [if_pos p, if_pos p]
  · rw [if_neg p, if_neg p, if_neg p]
theorem mk_s {M0 : az_M} {o f v lo hi hi' : Int} {g : Int → Int} (h : o < lo) (hl : lo ≤ hi) (e : hi' = hi + 1) : az_up (az_nw (mk M0 o g lo hi) hi (fun _ => 0)) o f v = mk M0 o (gu g f v) lo hi' := by
  funext b
  rw [up_g]
  unfold az_nw
  by_cases p : b = o
  · rw [if_pos p, if_neg (by omega), mk_o, p, mk_o]
  · rw [if_neg p]
    by_cases q : b = hi
    · rw [if_pos q, mk_z p (by omega) (by omega)]
    · rw [if_neg q]
      unfold mk
      rw [if_neg p, if_neg p]
      by_cases w : lo ≤ b ∧ b < hi
      · rw [if_pos w, if_pos (by omega)]
      · rw [if_neg w, if_neg (by omega)]
theorem len_c {B l : List (Nat × Nat)} {c0 c k : Int} (h : (B.length : Int) = c0) (hk : (l.length : Int) = k) (hc : c = c0 + k) : ((B ++ l).length : Int) = c := by
  rw [List.length_append]
  omega
theorem at_o {K : az_K} {l : List (Nat × Nat)} {G : Int → Int → Option Int} {a : Int} {q : Nat × Nat} (h : az_at K a q) : az_at (K.1 ++ l, G) a q := by
  refine ⟨h.1, ?_⟩
  show (K.1 ++ l)[a.toNat]? = some q
  have hl : a.toNat < K.1.length := by
    have := h.2
    exact (List.getElem?_eq_some_iff.mp this).1
  rw [List.getElem?_append_left hl]
  exact h.2
theorem at_c {B l : List (Nat × Nat)} {G : Int → Int → Option Int} {c0 c : Int} {i : Nat} {q : Nat × Nat} (h : (B.length : Int) = c0) (hc : c = c0 + i) (hq : l[i]? = some q) : az_at (B ++ l, G) c q := by
  refine ⟨by omega, ?_⟩
  show (B ++ l)[c.toNat]? = some q
  rw [List.getElem?_append_right (by omega), show c.toNat - B.length = i by omega]
  exact hq
/-- the references that stand for good from here on -/
def fz (G : Int → Int → Option Int) (M : az_M) (o : Int) (F : List Int) : Int → Int → Option Int := fun a i => if a = o then (if i ∈ F then some (M o i) else none) else G a i
theorem fz_s {G : Int → Int → Option Int} {M : az_M} {o i v : Int} {F : List Int} (hi : i ∈ F) (hv : M o i = v) : fz G M o F o i = some v := by
  unfold fz
  rw [if_pos rfl, if_pos hi, hv]
theorem fz_z {G : Int → Int → Option Int} {M : az_M} {o i : Int} {F : List Int} (hi : i ∉ F) : fz G M o F o i = none := by
  unfold fz
  rw [if_pos rfl, if_neg hi]
theorem fz_n {G : Int → Int → Option Int} {M : az_M} {o a i : Int} {F : List Int} (h : a ≠ o) : fz G M o F a i = G a i := if_neg h
theorem fz_ok {K : az_K} {M : az_M} {o : Int} {ci nn : Nat} (hz : az_Fz K M) (ho : az_at K o (ci, nn)) (h1 : ci ≠ 100 ∧ ci ≠ 101) {F : List Int} (hF : ∀ i ∈ F, ci < 8 → az_rf ci i.toNat = 1 ∧ 0 ≤ i) : az_Fz (K.1, fz K.2 M o F) M := by
  intro a i c h
  replace h : fz K.2 M o F a i = some c := h
  by_cases e : a = o
  · subst e
    by_cases q : i ∈ F
    · rw [fz_s q rfl] at h
      cases h
      exact ⟨rfl, _, ho, h1.1, h1.2, fun w => hF i q w⟩
    · rw [fz_z q] at h
      cases h
  · rw [fz_n e] at h
    exact hz a i c h
def Fr (K : az_K) (o : Int) : Prop := (K.1.length : Int) = o + 1 ∧ ∀ a i, o ≤ a → K.2 a i = none
def NW (K K' : az_K) (M M' : az_M) (o n : Int) : Prop := (K'.1.length : Int) = n ∧ (∀ a q, az_at K a q → az_at K' a q) ∧ (∀ a i, a < o → K'.2 a i = K.2 a i) ∧ (∀ a i, n ≤ a → K'.2 a i = none) ∧ ∀ b, b < o → M' b = M b
section NA
variable {P : az_E → State → Array Value → Prop} {Z : List Frame → Array Value → State → az_E → State → Prop} {R : Room} {y : MethodName} {cc : ByteArray} {nL : Nat} {ret : Option FieldType} {cs sl pc : Nat} {L S : List az_V} {K : az_K} {M : az_M} {B l l' : List (Nat × Nat)} {G : Int → Int → Option Int} {c : Int} {n : Nat}
theorem aw_nI0 (hd : decode cc pc = .ok (.newarray .int, 2)) (hn : n ≤ 100000) (hL : (K.1.length : Int) = c) (hc1 : cs + 1 ≤ R.cells) (hs1 : sl + n ≤ R.slots) (k : AW P Z R y cc nL ret (cs + 1) (sl + n) (pc + 2) L ((1, c) :: S) (K.1 ++ [(100, n)], K.2) (az_nw M c (fun _ => 0))) : AW P Z R y cc nL ret cs sl pc L ((0, (n : Int)) :: S) K M := by
  subst hL
  exact aw_newI hd hn ac_int hc1 hs1 k
theorem aw_nI (hd : decode cc pc = .ok (.newarray .int, 2)) (hn : n ≤ 100000) (hL : ((B ++ l).length : Int) = c) (hl : l ++ [(100, n)] = l') (hc1 : cs + 1 ≤ R.cells) (hs1 : sl + n ≤ R.slots) (k : AW P Z R y cc nL ret (cs + 1) (sl + n) (pc + 2) L ((1, c) :: S) (B ++ l', G) (az_nw M c (fun _ => 0))) : AW P Z R y cc nL ret cs sl pc L ((0, (n : Int)) :: S) (B ++ l, G) M := by
  refine aw_nI0 hd hn hL hc1 hs1 ?_
  show AW P Z R y cc nL ret (cs + 1) (sl + n) (pc + 2) L ((1, c) :: S) ((B ++ l) ++ [(100, n)], G) _
  rw [List.append_assoc, hl]
  exact k
theorem aw_nZ0 (hd : decode cc pc = .ok (.newarray .boolean, 2)) (hn : n ≤ 100000) (hL : (K.1.length : Int) = c) (hc1 : cs + 1 ≤ R.cells) (hs1 : sl + n ≤ R.slots) (k : AW P Z R y cc nL ret (cs + 1) (sl + n) (pc + 2) L ((1, c) :: S) (K.1 ++ [(101, n)], K.2) (az_nw M c (fun _ => 0))) : AW P Z R y cc nL ret cs sl pc L ((0, (n : Int)) :: S) K M := by
  subst hL
  exact aw_newZ hd hn ac_boolean hc1 hs1 k
theorem aw_nZ (hd : decode cc pc = .ok (.newarray .boolean, 2)) (hn : n ≤ 100000) (hL : ((B ++ l).length : Int) = c) (hl : l ++ [(101, n)] = l') (hc1 : cs + 1 ≤ R.cells) (hs1 : sl + n ≤ R.slots) (k : AW P Z R y cc nL ret (cs + 1) (sl + n) (pc + 2) L ((1, c) :: S) (B ++ l', G) (az_nw M c (fun _ => 0))) : AW P Z R y cc nL ret cs sl pc L ((0, (n : Int)) :: S) (B ++ l, G) M := by
  refine aw_nZ0 hd hn hL hc1 hs1 ?_
  show AW P Z R y cc nL ret (cs + 1) (sl + n) (pc + 2) L ((1, c) :: S) ((B ++ l) ++ [(101, n)], G) _
  rw [List.append_assoc, hl]
  exact k
end NA
