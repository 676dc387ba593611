/-! what is reached, as a value; TreadRingModel: meet, follow, reach -/
set_option maxRecDepth 20000
abbrev rSt : Type := List Int × (Int → Int)
def vis (wo : Int) (st : rSt) (a d : Int) : rSt := if a = -1 ∨ a = wo ∨ a ∈ st.1 then st else (st.1 ++ [a], gu st.2 a d)
def rtV (wo : Int) (g : Int → Int) (lo : Int) : Nat → rSt → rSt
  | 0, st => st
  | n + 1, st => vis wo (rtV wo g lo n st) (g (715 + (lo + n))) 0
def fdV (wo : Int) (g : Int → Int) (a d : Int) : Nat → rSt → rSt
  | 0, st => st
  | n + 1, st => vis wo (fdV wo g a d n st) (g (256 + a + 1 + n)) d
def foV (wo : Int) (g : Int → Int) : Nat → Nat → rSt → rSt
  | 0, _, st => st
  | k + 1, i, st => if i < st.1.length then foV wo g k (i + 1) (fdV wo g (st.1.getD i 0) (st.2 (st.1.getD i 0) + 1) (g (128 + st.1.getD i 0)).toNat st) else st
def rea (S : hSt) (lo : Int) (n : Nat) (wo : Int) : rSt := foV wo S.1 65 0 (rtV wo S.1 lo n ([], fun _ => -1))
def qk (g : Int → Int) (wo : Int) (st : rSt) : Prop := st.1.Nodup ∧ ∀ a ∈ st.1, ob g a ∧ a ≠ wo ∧ 0 ≤ st.2 a ∧ st.2 a < (st.1.length : Int)
theorem half_nodup {l : List Int} (hn : l.Nodup) (h : ∀ a ∈ l, a % 2 = 0) : (l.map (fun a => a / 2)).Nodup := by
  induction l with
  | nil => simp
  | cons x t ih =>
    obtain ⟨h1, h2⟩ := List.nodup_cons.mp hn
    rw [List.map_cons]
    refine List.nodup_cons.mpr ⟨fun hm => ?_, ih h2 (fun a ha => h a (List.mem_cons_of_mem _ ha))⟩
    obtain ⟨y, hy, e⟩ := List.mem_map.mp hm
    have hx := h x List.mem_cons_self
    have hy2 := h y (List.mem_cons_of_mem _ hy)
    have e' : y / 2 = x / 2 := e
    have : y = x := by omega
    exact h1 (by rw [← this]; exact hy)
theorem objs_len {g : Int → Int} (hp : w_pg g) {l : List Int} (hn : l.Nodup) (h : ∀ a ∈ l, ob g a) : l.length ≤ 64 := by
  have h1 := half_nodup hn (fun a ha => (sl_even hp (h a ha).1).1)
  have h2 := nodup_le 64 _ h1 (fun x hx => by
    obtain ⟨a, ha, rfl⟩ := List.mem_map.mp hx
    have := (h a ha).1
    have h0 := this.1
    have h1 := this.2.1
    show 0 ≤ a / 2 ∧ a / 2 < ((64 : Nat) : Int)
    omega)
  rw [List.length_map] at h2
  exact h2
section RV
variable {g : Int → Int} {wo : Int} {st : rSt}
theorem qk_len (hp : w_pg g) (h : qk g wo st) : st.1.length ≤ 64 := objs_len hp h.1 (fun a ha => (h.2 a ha).1)
theorem vis_ok (h : qk g wo st) {a d : Int} (ha : nok g a) (d0 : 0 ≤ d) (d1 : d ≤ (st.1.length : Int)) : qk g wo (vis wo st a d) := by
  unfold vis
  split
  · exact h
  · rename_i hc
    have h1 : a ≠ -1 := fun e => hc (Or.inl e)
    have h2 : a ≠ wo := fun e => hc (Or.inr (Or.inl e))
    have h3 : a ∉ st.1 := fun e => hc (Or.inr (Or.inr e))
    refine ⟨List.nodup_append.mpr ⟨h.1, by simp, fun x hx b hb => ?_⟩, fun b hb => ?_⟩
    · rw [List.mem_singleton.mp hb]
      exact fun e => h3 (by rw [← e]; exact hx)
    · show ob g b ∧ b ≠ wo ∧ 0 ≤ gu st.2 a d b ∧ gu st.2 a d b < ((st.1 ++ [a]).length : Int)
      rw [List.length_append, List.length_singleton]
      rcases List.mem_append.mp hb with hb | hb
      · have hne : b ≠ a := fun e => h3 (by rw [← e]; exact hb)
        rw [gu_n _ _ hne]
        have := h.2 b hb
        exact ⟨this.1, this.2.1, this.2.2.1, by omega⟩
      · rw [List.mem_singleton.mp hb, gu_s]
        refine ⟨?_, h2, d0, by omega⟩
        rcases ha with e | e
        · exact absurd e h1
        · exact e
/-- what is there already stays -/
def rle (st st' : rSt) : Prop := st.1.length ≤ st'.1.length ∧ (∀ i : Nat, i < st.1.length → st'.1.getD i 0 = st.1.getD i 0) ∧ ∀ b ∈ st.1, b ∈ st'.1 ∧ st'.2 b = st.2 b
theorem rle.refl (st : rSt) : rle st st := ⟨Nat.le_refl _, fun _ _ => rfl, fun _ hb => ⟨hb, rfl⟩⟩
theorem rle.trans {s1 s2 s3 : rSt} (h : rle s1 s2) (k : rle s2 s3) : rle s1 s3 := ⟨Nat.le_trans h.1 k.1, fun i hi => (k.2.1 i (Nat.lt_of_lt_of_le hi h.1)).trans (h.2.1 i hi), fun b hb => ⟨(k.2.2 b (h.2.2 b hb).1).1, (k.2.2 b (h.2.2 b hb).1).2.trans (h.2.2 b hb).2⟩⟩
theorem vis_rle (wo : Int) (st : rSt) (a d : Int) : rle st (vis wo st a d) := by
  unfold vis
  split
  · exact rle.refl st
  · rename_i hc
    have h3 : a ∉ st.1 := fun e => hc (Or.inr (Or.inr e))
    refine ⟨by show _ ≤ (st.1 ++ [a]).length; rw [List.length_append]; omega, fun i hi => ?_, fun b hb => ⟨List.mem_append_left _ hb, gu_n _ _ (fun e => h3 (by rw [← e]; exact hb))⟩⟩
    show (st.1 ++ [a]).getD i 0 = _
    rw [List.getD_eq_getElem?_getD, List.getElem?_append_left hi, List.getD_eq_getElem?_getD]
theorem fdV_ok (h : qk g wo st) {a d : Int} (n : Nat) (hn : ∀ i : Nat, i < n → nok g (g (256 + a + 1 + i))) (d0 : 0 ≤ d) (d1 : d ≤ (st.1.length : Int)) : qk g wo (fdV wo g a d n st) ∧ rle st (fdV wo g a d n st) := by
  induction n with
  | zero => exact ⟨h, rle.refl st⟩
  | succ n ih =>
    obtain ⟨i1, i2⟩ := ih (fun i hi => hn i (by omega))
    have := i2.1
    exact ⟨vis_ok i1 (hn n (by omega)) d0 (by omega), i2.trans (vis_rle _ _ _ _)⟩
theorem rtV_ok {lo : Int} (h : qk g wo st) (n : Nat) (hn : ∀ i : Nat, i < n → nok g (g (715 + (lo + i)))) : qk g wo (rtV wo g lo n st) := by
  induction n with
  | zero => exact h
  | succ n ih => exact vis_ok (ih (fun i hi => hn i (by omega))) (hn n (by omega)) (by omega) (by omega)
theorem fo_fd {S : hSt} (hw : WL S) (h : qk S.1 wo st) {i : Nat} (hi : i < st.1.length) : (∀ j : Nat, j < (S.1 (128 + st.1.getD i 0)).toNat → nok S.1 (S.1 (256 + st.1.getD i 0 + 1 + j))) ∧ 0 ≤ st.2 (st.1.getD i 0) + 1 ∧ st.2 (st.1.getD i 0) + 1 ≤ (st.1.length : Int) ∧ ob S.1 (st.1.getD i 0) := by
  obtain ⟨o1, -, o3, o4⟩ := h.2 _ (getD_mem (l := st.1) (i := i) hi)
  exact ⟨fun j hj => hw.1.2.2.2.2.1.2 _ j o1 (by omega) (by omega), by omega, by omega, o1⟩
theorem foV_ok {S : hSt} (hw : WL S) (k : Nat) : ∀ (i : Nat) (st : rSt), qk S.1 wo st → qk S.1 wo (foV wo S.1 k i st) ∧ rle st (foV wo S.1 k i st) := by
  induction k with
  | zero => intro i st h; exact ⟨h, rle.refl st⟩
  | succ k ih =>
    intro i st h
    show qk S.1 wo (if i < st.1.length then foV wo S.1 k (i + 1) (fdV wo S.1 (st.1.getD i 0) (st.2 (st.1.getD i 0) + 1) (S.1 (128 + st.1.getD i 0)).toNat st) else st) ∧ rle st (if i < st.1.length then foV wo S.1 k (i + 1) (fdV wo S.1 (st.1.getD i 0) (st.2 (st.1.getD i 0) + 1) (S.1 (128 + st.1.getD i 0)).toNat st) else st)
    by_cases e : i < st.1.length
    · rw [if_pos e]
      obtain ⟨f1, f2, f3, -⟩ := fo_fd hw h e
      obtain ⟨g1, g2⟩ := fdV_ok h _ f1 f2 f3
      obtain ⟨j1, j2⟩ := ih (i + 1) _ g1
      exact ⟨j1, g2.trans j2⟩
    · rw [if_neg e]; exact ⟨h, rle.refl st⟩
theorem qk_nil (g : Int → Int) (wo : Int) (f : Int → Int) : qk g wo ([], f) := ⟨List.nodup_nil, fun a ha => by cases ha⟩
theorem rea_ok {S : hSt} (hw : WL S) {lo : Int} {n : Nat} (l0 : 0 ≤ lo) (l1 : lo + n ≤ 6) (wo : Int) : qk S.1 wo (rea S lo n wo) := (foV_ok hw 65 0 _ (rtV_ok (qk_nil S.1 wo _) n (fun i hi => nam_nok hw (by omega) (by omega)))).1
end RV
/-- what the reference's rows hold of it -/
def MR (M : az_M) (m : Int) (st : rSt) : Prop := M m 5 = (st.1.length : Int) ∧ (∀ i : Nat, i < st.1.length → M (m + 4) i = st.1.getD i 0) ∧ (∀ a, 0 ≤ a → a < 128 → M (m + 3) a = if a ∈ st.1 then 1 else 0) ∧ ∀ a ∈ st.1, M (m + 5) a = st.2 a
def frQ (M M' : az_M) (m : Int) : Prop := (∀ b, b ≠ m → b ≠ m + 3 → b ≠ m + 4 → b ≠ m + 5 → M' b = M b) ∧ ∀ j, j ≠ 5 → M' m j = M m j
theorem frQ.refl (M : az_M) (m : Int) : frQ M M m := ⟨fun _ _ _ _ _ => rfl, fun _ _ => rfl⟩
theorem frQ.trans {M M1 M2 : az_M} {m : Int} (p : frQ M M1 m) (q : frQ M1 M2 m) : frQ M M2 m := ⟨fun b h1 h2 h3 h4 => (q.1 b h1 h2 h3 h4).trans (p.1 b h1 h2 h3 h4), fun j hj => (q.2 j hj).trans (p.2 j hj)⟩
theorem HM_frQ {M M' : az_M} {m : Int} {S : hSt} (h : HM M m S) (f : frQ M M' m) : HM M' m S := HM_fr h (f.1 _ (by omega) (by omega) (by omega) (by omega))
section RM
variable {K : az_K} {m : Int} {S : hSt} {wo : Int} {st : rSt}
theorem sp_meet (hK : MdK K m) (M : az_M) {g : Int → Int} (hp : w_pg g) (hr : MR M m st) (hq : qk g wo st) (hl : (st.1.length : Int) < 65) (a d : Int) (ha : nok g a) : AM yX7_meet cX7_meet 4 none 0 0 0 [(1, m), (0, a), (0, wo), (0, d)] K M (qv K (fun M' => MR M' m (vis wo st a d) ∧ frQ M M' m)) := by
  have hK0 := hK
  obtain ⟨hKo, k3, k4, k5, k6, k7, k8, k9, k10, k11, k12, k13, k14, k15, k16, k17, k18, k19, k20, k21, k22, k23, k24, k25, y3, y4, y5, y6, y7, y8, y9, y10, y11, y12, y13, y14, y15, y16, y17, y18, y19, y20, y21, y22, y23, y24, y25⟩ := hK
  have hKo0 := hKo
  obtain ⟨hKa, k2, y2⟩ := hKo
  have hKa0 := hKa
  obtain ⟨km, k1, y1⟩ := hKa
  refine am_of (by decide) (Nat.le_of_ble_eq_true rfl) (L := [(1, m), (0, a), (0, wo), (0, d)]) rfl ?_
  obtain ⟨r1, r2, r3, r4⟩ := hr
  have hvi : vis wo st a d = if a = -1 ∨ a = wo ∨ a ∈ st.1 then st else (st.1 ++ [a], gu st.2 a d) := rfl
  have hlt := nok_lt ha
  have no : (a = -1 ∨ a = wo ∨ a ∈ st.1) → AW az_P0 (az_Z (qv K (fun M' => MR M' m (vis wo st a d) ∧ frQ M M' m)) 0 0) (az_rm 0 0 0) yX7_meet cX7_meet 4 none 0 0 18 [(1, m), (0, a), (0, wo), (0, d)] [] K M := by
    intro h
    rw [hvi, if_pos h]
    exact aw_vret dX7_meet_18 (by decide) (by decide) ⟨rfl, rfl, ⟨r1, r2, r3, r4⟩, frQ.refl M m⟩
  refine aw_iload_n dX7_meet_0 rfl rfl ?_
  refine aw_if_lt (tgt := 18) dX7_meet_1 rfl (fun h1 => ?_) (fun h1 => ?_)
  · refine no (Or.inl ?_)
    rcases ha with e | e
    · exact e
    · have := e.1.1; omega
  · refine aw_iload_n dX7_meet_4 rfl rfl ?_
    refine aw_iload_n dX7_meet_5 rfl rfl ?_
    refine aw_icmp_eq (tgt := 18) dX7_meet_6 rfl (fun h6 => ?_) (fun h6 => ?_)
    · exact no (Or.inr (Or.inl h6))
    · have v14 := r3 a (by omega) hlt
      refine aw_aload_n dX7_meet_9 rfl rfl ⟨by decide, by decide⟩ ?_
      refine aw_gzF 2 dX7_meet_10 fl_RX7_17 (by assumption) rfl rfl (by assumption) ?_
      refine aw_iload_n dX7_meet_13 rfl rfl ?_
      refine aw_zv dX7_meet_14 (by assumption) (by omega) (by omega) v14 ?_
      refine aw_if_eq (tgt := 19) dX7_meet_15 rfl (fun h15 => ?_) (fun h15 => ?_)
      · have hno : ¬ (a = -1 ∨ a = wo ∨ a ∈ st.1) := by
          rintro (e | e | e)
          · omega
          · exact h6 e
          · rw [if_pos e] at h15; omega
        rw [hvi, if_neg hno]
        have hni : a ∉ st.1 := fun e => hno (Or.inr (Or.inr e))
        have hs64 : st.1.length < 64 := by
          have hn := qk_len hp (vis_ok hq ha (d := 0) (by omega) (by omega))
          unfold vis at hn
          rw [if_neg hno] at hn
          have : (st.1 ++ [a]).length ≤ 64 := hn
          rw [List.length_append, List.length_singleton] at this
          omega
        have v38 : az_up (az_up M (m + 3) a 1) (m + 5) a d m 5 = (st.1.length : Int) := by rw [up_oth _ _ _ (by omega), up_oth _ _ _ (by omega)]; exact r1
        have v45 : az_up (az_up (az_up M (m + 3) a 1) (m + 5) a d) (m + 4) (st.1.length : Int) a m 5 = (st.1.length : Int) := by rw [up_oth _ _ _ (by omega)]; exact v38
        refine aw_aload_n dX7_meet_19 rfl rfl ⟨by decide, by decide⟩ ?_
        refine aw_gzF 2 dX7_meet_20 fl_RX7_17 (by assumption) rfl rfl (by assumption) ?_
        refine aw_iload_n dX7_meet_23 rfl rfl ?_
        refine aw_iconst dX7_meet_24 rfl ⟨by decide, by decide⟩ ?_
        refine aw_zast dX7_meet_25 (by assumption) (by omega) (by omega) (by omega) ?_
        refine aw_aload_n dX7_meet_26 rfl rfl ⟨by decide, by decide⟩ ?_
        refine aw_gzF 4 dX7_meet_27 fl_RX7_23 (by assumption) rfl rfl (by assumption) ?_
        refine aw_iload_n dX7_meet_30 rfl rfl ?_
        refine aw_iload_n dX7_meet_31 rfl rfl ?_
        refine aw_iast dX7_meet_32 (by assumption) (by omega) (by omega) ?_
        refine aw_aload_n dX7_meet_33 rfl rfl ⟨by decide, by decide⟩ ?_
        refine aw_gzF 3 dX7_meet_34 fl_RX7_20 (by assumption) rfl rfl (by assumption) ?_
        refine aw_aload_n dX7_meet_37 rfl rfl ⟨by decide, by decide⟩ ?_
        refine aw_gi 5 dX7_meet_38 fl_RX7_256 (by assumption) rfl rfl v38 ?_
        refine aw_iload_n dX7_meet_41 rfl rfl ?_
        refine aw_iast dX7_meet_42 (by assumption) (by omega) (by omega) ?_
        refine aw_aload_n dX7_meet_43 rfl rfl ⟨by decide, by decide⟩ ?_
        refine aw_dup dX7_meet_44 ?_
        refine aw_gi 5 dX7_meet_45 fl_RX7_256 (by assumption) rfl rfl v45 ?_
        refine aw_iconst dX7_meet_48 rfl ⟨by decide, by decide⟩ ?_
        refine aw_iadd dX7_meet_49 (az_wr_id (by omega) (by omega)) ?_
        refine aw_pi 5 dX7_meet_50 fl_RX7_256 (by assumption) rfl rfl ?_
        refine aw_vret dX7_meet_53 (by decide) (by decide) ⟨rfl, rfl, ⟨?_, fun i hi => ?_, fun b b0 b1 => ?_, fun b hb => ?_⟩, fun b h1 h2 h3 h4 => ?_, fun j hj => ?_⟩
        · rw [az_up_s]
          show _ = ((st.1 ++ [a]).length : Int)
          rw [List.length_append, List.length_singleton]; omega
        · rw [up_oth _ _ _ (by omega), up_row]
          show (if (i : Int) = (st.1.length : Int) then a else az_up (az_up M (m + 3) a 1) (m + 5) a d (m + 4) i) = (st.1 ++ [a]).getD i 0
          have hi' : i < (st.1 ++ [a]).length := hi
          rw [List.length_append, List.length_singleton] at hi'
          by_cases e : (i : Int) = (st.1.length : Int)
          · rw [if_pos e, List.getD_eq_getElem?_getD, List.getElem?_append_right (by omega), show i - st.1.length = 0 by omega]; rfl
          · rw [if_neg e, up_oth _ _ _ (by omega), up_oth _ _ _ (by omega), r2 i (by omega), List.getD_eq_getElem?_getD, List.getD_eq_getElem?_getD, List.getElem?_append_left (by omega)]
        · rw [up_oth _ _ _ (by omega), up_oth _ _ _ (by omega), up_oth _ _ _ (by omega), up_row]
          show (if b = a then 1 else M (m + 3) b) = if b ∈ st.1 ++ [a] then 1 else 0
          by_cases e : b = a
          · rw [if_pos e, if_pos (by rw [e]; exact List.mem_append_right _ List.mem_cons_self)]
          · rw [if_neg e, r3 b b0 b1]
            by_cases e2 : b ∈ st.1
            · rw [if_pos e2, if_pos (List.mem_append_left _ e2)]
            · rw [if_neg e2, if_neg (fun q => (List.mem_append.mp q).elim e2 (fun q => e (List.mem_singleton.mp q)))]
        · rw [up_oth _ _ _ (by omega), up_oth _ _ _ (by omega), up_row, up_oth _ _ _ (by omega)]
          show (if b = a then d else M (m + 5) b) = gu st.2 a d b
          unfold gu
          by_cases e : b = a
          · rw [if_pos e, if_pos e]
          · rw [if_neg e, if_neg e]
            exact r4 b ((List.mem_append.mp hb).elim id (fun q => absurd (List.mem_singleton.mp q) e))
        · rw [up_oth _ _ _ h1, up_oth _ _ _ h3, up_oth _ _ _ h4, up_oth _ _ _ h2]
        · rw [az_up_i _ _ _ _ hj, up_oth _ _ _ (by omega), up_oth _ _ _ (by omega), up_oth _ _ _ (by omega)]
      · exact no (Or.inr (Or.inr (Classical.byContradiction (fun e => by rw [if_neg e] at h15; omega))))
theorem sp_clearReached (hK : MdK K m) (M : az_M) : AM yX7_clearReached cX7_clearReached 2 none 0 0 0 [(1, m)] K M (qv K (fun M' => MR M' m ([], fun _ => -1) ∧ frQ M M' m)) := by
  have hK0 := hK
  obtain ⟨hKo, k3, k4, k5, k6, k7, k8, k9, k10, k11, k12, k13, k14, k15, k16, k17, k18, k19, k20, k21, k22, k23, k24, k25, y3, y4, y5, y6, y7, y8, y9, y10, y11, y12, y13, y14, y15, y16, y17, y18, y19, y20, y21, y22, y23, y24, y25⟩ := hK
  have hKo0 := hKo
  obtain ⟨hKa, k2, y2⟩ := hKo
  have hKa0 := hKa
  obtain ⟨km, k1, y1⟩ := hKa
  refine am_of (by decide) (Nat.le_of_ble_eq_true rfl) (L := [(1, m), (9, 0)]) rfl ?_
  refine aw_aload_n dX7_clearReached_0 rfl rfl ⟨by decide, by decide⟩ ?_
  refine aw_iconst dX7_clearReached_1 rfl ⟨by decide, by decide⟩ ?_
  refine aw_pi 5 dX7_clearReached_2 fl_RX7_256 (by assumption) rfl rfl ?_
  refine aw_iconst dX7_clearReached_5 rfl ⟨by decide, by decide⟩ ?_
  refine aw_istore_n dX7_clearReached_6 rfl (by decide) ?_
  have loop : ∀ (d : Nat) (k : Int) (M2 : az_M), 0 ≤ k → k + d = 128 → (∀ i, 0 ≤ i → i < k → M2 (m + 3) i = 0) → M2 m 5 = 0 → frQ M M2 m → AW az_P0 (az_Z (qv K (fun M' => MR M' m ([], fun _ => -1) ∧ frQ M M' m)) 0 0) (az_rm 0 0 0) yX7_clearReached cX7_clearReached 2 none 0 0 7 [(1, m), (0, k)] [] K M2 := by
    intro d
    induction d with
    | zero =>
      intro k M2 k0 k1 f2 e5 hf
      refine aw_iload_n dX7_clearReached_7 rfl rfl ?_
      refine aw_sipush dX7_clearReached_8 (by decide) ⟨by decide, by decide⟩ ?_
      refine aw_icmp_ge (tgt := 27) dX7_clearReached_11 rfl (fun h11 => ?_) (fun h11 => absurd h11 (by omega))
      exact aw_vret dX7_clearReached_27 (by decide) (by decide) ⟨rfl, rfl, ⟨e5, fun i hi => absurd hi (Nat.not_lt_zero _), fun b b0 b1 => by rw [f2 b b0 (by omega)]; simp, fun b hb => by cases hb⟩, hf⟩
    | succ d ih =>
      intro k M2 k0 k1 f2 e5 hf
      refine aw_iload_n dX7_clearReached_7 rfl rfl ?_
      refine aw_sipush dX7_clearReached_8 (by decide) ⟨by decide, by decide⟩ ?_
      refine aw_icmp_ge (tgt := 27) dX7_clearReached_11 rfl (fun h11 => absurd h11 (by omega)) (fun h11 => ?_)
      refine aw_aload_n dX7_clearReached_14 rfl rfl ⟨by decide, by decide⟩ ?_
      refine aw_gzF 2 dX7_clearReached_15 fl_RX7_17 (by assumption) rfl rfl (by assumption) ?_
      refine aw_iload_n dX7_clearReached_18 rfl rfl ?_
      refine aw_iconst dX7_clearReached_19 rfl ⟨by decide, by decide⟩ ?_
      refine aw_zast dX7_clearReached_20 (by assumption) (by omega) (by omega) (by omega) ?_
      refine aw_iinc dX7_clearReached_21 rfl (az_wr_id (by omega) (by omega)) (by decide) ?_
      refine aw_goto (tgt := 7) dX7_clearReached_24 rfl ?_
      refine ih (k + 1) _ (by omega) (by omega) (fun i i0 i1 => ?_) (by rw [up_oth _ _ _ (by omega)]; exact e5) (hf.trans ⟨fun b h1 h2 h3 h4 => up_oth _ _ _ h2, fun j _ => by rw [up_oth _ _ _ (by omega)]⟩)
      rw [up_row]
      show (if i = k then 0 else M2 (m + 3) i) = 0
      by_cases e : i = k
      · rw [if_pos e]
      · rw [if_neg e]; exact f2 i i0 (by omega)
  exact loop 128 0 _ (by omega) (by omega) (fun i i0 i1 => by omega) (az_up_s _ _ _ _) ⟨fun b h1 _ _ _ => up_oth _ _ _ h1, fun j hj => az_up_i _ _ _ _ hj⟩
set_option maxHeartbeats 1000000 in
theorem sp_follow (hK : MdK K m) (M : az_M) (hc : HM M m S) (hw : WL S) (hr : MR M m st) (hq : qk S.1 wo st) : AM yX7_follow cX7_follow 5 none 1 0 0 [(1, m), (0, wo)] K M (qv K (fun M' => MR M' m (foV wo S.1 65 0 st) ∧ frQ M M' m)) := by
  have hK0 := hK
  obtain ⟨hKo, k3, k4, k5, k6, k7, k8, k9, k10, k11, k12, k13, k14, k15, k16, k17, k18, k19, k20, k21, k22, k23, k24, k25, y3, y4, y5, y6, y7, y8, y9, y10, y11, y12, y13, y14, y15, y16, y17, y18, y19, y20, y21, y22, y23, y24, y25⟩ := hK
  have hKo0 := hKo
  obtain ⟨hKa, k2, y2⟩ := hKo
  have hKa0 := hKa
  obtain ⟨km, k1, y1⟩ := hKa
  refine am_of (by decide) (Nat.le_of_ble_eq_true rfl) (L := [(1, m), (0, wo), (9, 0), (9, 0), (9, 0)]) rfl ?_
  generalize hR : foV wo S.1 65 0 st = R
  refine aw_iconst dX7_follow_0 rfl ⟨by decide, by decide⟩ ?_
  refine aw_istore_n dX7_follow_1 rfl (by decide) ?_
  have outer : ∀ (k i : Nat) (s1 : rSt) (M1 : az_M) (v3 v4 : az_V), k + i = 65 → qk S.1 wo s1 → MR M1 m s1 → frQ M M1 m → foV wo S.1 k i s1 = R → AW az_P0 (az_Z (qv K (fun M' => MR M' m R ∧ frQ M M' m)) 0 0) (az_rm 1 0 0) yX7_follow cX7_follow 5 none 0 0 2 [(1, m), (0, wo), (0, (i : Int)), v3, v4] [] K M1 := by
    intro k
    induction k with
    | zero =>
      intro i s1 M1 v3 v4 hki q1 r1 f1 hR1
      have hl := qk_len hw.1.1 q1
      replace hR1 : s1 = R := hR1
      subst hR1
      refine aw_iload_n dX7_follow_2 rfl rfl ?_
      refine aw_aload_n dX7_follow_3 rfl rfl ⟨by decide, by decide⟩ ?_
      refine aw_gi 5 dX7_follow_4 fl_RX7_256 (by assumption) rfl rfl r1.1 ?_
      refine aw_icmp_ge (tgt := 71) dX7_follow_7 rfl (fun h7 => ?_) (fun h7 => absurd h7 (by omega))
      exact aw_vret dX7_follow_71 (by decide) (by decide) ⟨rfl, rfl, r1, f1⟩
    | succ k ih =>
      intro i s1 M1 v3 v4 hki q1 r1 f1 hR1
      have hl := qk_len hw.1.1 q1
      replace hR1 : (if i < s1.1.length then foV wo S.1 k (i + 1) (fdV wo S.1 (s1.1.getD i 0) (s1.2 (s1.1.getD i 0) + 1) (S.1 (128 + s1.1.getD i 0)).toNat s1) else s1) = R := hR1
      refine aw_iload_n dX7_follow_2 rfl rfl ?_
      refine aw_aload_n dX7_follow_3 rfl rfl ⟨by decide, by decide⟩ ?_
      refine aw_gi 5 dX7_follow_4 fl_RX7_256 (by assumption) rfl rfl r1.1 ?_
      refine aw_icmp_ge (tgt := 71) dX7_follow_7 rfl (fun h7 => ?_) (fun h7 => ?_)
      · rw [if_neg (by omega)] at hR1
        subst hR1
        exact aw_vret dX7_follow_71 (by decide) (by decide) ⟨rfl, rfl, r1, f1⟩
      · have hi : i < s1.1.length := by omega
        rw [if_pos hi] at hR1
        obtain ⟨g1, g2, g3, g4⟩ := fo_fd hw q1 hi
        have hmem : s1.1.getD i 0 ∈ s1.1 := getD_mem hi
        have v15 := r1.2.1 i hi
        generalize s1.1.getD i 0 = b at *
        obtain ⟨b0, b7, b8, -⟩ := fld_in hw g4.1
        have bb0 := g4.1.1
        have bb1 := g4.1.2.1
        obtain ⟨n, hn⟩ : ∃ n : Nat, (n : Int) = S.1 (128 + b) := ⟨(S.1 (128 + b)).toNat, by omega⟩
        rw [show (S.1 (128 + b)).toNat = n by omega] at g1 hR1
        refine aw_aload_n dX7_follow_10 rfl rfl ⟨by decide, by decide⟩ ?_
        refine aw_gzF 3 dX7_follow_11 fl_RX7_20 (by assumption) rfl rfl (by assumption) ?_
        refine aw_iload_n dX7_follow_14 rfl rfl ?_
        refine aw_iv dX7_follow_15 (by assumption) (by omega) (by omega) v15 ?_
        refine aw_istore_n dX7_follow_16 rfl (by decide) ?_
        refine aw_iconst dX7_follow_17 rfl ⟨by decide, by decide⟩ ?_
        refine aw_istore dX7_follow_18 (by decide) ?_
        have inner : ∀ (e j : Nat) (M2 : az_M), j + e = n → MR M2 m (fdV wo S.1 b (s1.2 b + 1) j s1) → frQ M M2 m → AW az_P0 (az_Z (qv K (fun M' => MR M' m R ∧ frQ M M' m)) 0 0) (az_rm 1 0 0) yX7_follow cX7_follow 5 none 0 0 20 [(1, m), (0, wo), (0, (i : Int)), (0, b), (0, (j : Int))] [] K M2 := by
          intro e
          induction e with
          | zero =>
            intro j M2 hj r2 f2
            have hj2 : j = n := by omega
            subst hj2
            have hc2 := HM_frQ hc f2
            have v31 : M2 (m + 1) (128 + b) = S.1 (128 + b) := hc2.1 _ (by omega) (by omega) (by omega) (by omega)
            refine aw_iload dX7_follow_20 rfl ?_
            refine aw_aload_n dX7_follow_22 rfl rfl ⟨by decide, by decide⟩ ?_
            refine aw_gzF 0 dX7_follow_23 fl_RX7_7 (by assumption) rfl rfl (by assumption) ?_
            refine aw_sipush dX7_follow_26 (by decide) ⟨by decide, by decide⟩ ?_
            refine aw_iload_n dX7_follow_29 rfl rfl ?_
            refine aw_iadd dX7_follow_30 (az_wr_id (by omega) (by omega)) ?_
            refine aw_iv dX7_follow_31 (by assumption) (by omega) (by omega) v31 ?_
            refine aw_icmp_ge (tgt := 65) dX7_follow_32 rfl (fun h32 => ?_) (fun h32 => absurd h32 (by omega))
            refine aw_iinc dX7_follow_65 rfl (az_wr_id (by omega) (by omega)) (by decide) ?_
            refine aw_goto (tgt := 2) dX7_follow_68 rfl ?_
            exact ih (i + 1) _ M2 _ _ (by omega) (fdV_ok q1 j g1 g2 g3).1 r2 f2 hR1
          | succ e ihe =>
            intro j M2 hj r2 f2
            have hc2 := HM_frQ hc f2
            obtain ⟨q2, l2⟩ := fdV_ok q1 j (fun i hi => g1 i (by omega)) g2 g3
            have v31 : M2 (m + 1) (128 + b) = S.1 (128 + b) := hc2.1 _ (by omega) (by omega) (by omega) (by omega)
            have v46 : M2 (m + 1) (256 + b + 1 + (j : Int)) = S.1 (256 + b + 1 + j) := hc2.1 _ (by omega) (by omega) (by omega) (by omega)
            have v53 : M2 (m + 5) b = s1.2 b := (r2.2.2.2 b (l2.2.2 b hmem).1).trans (l2.2.2 b hmem).2
            have hl2 := qk_len hw.1.1 q2
            refine aw_iload dX7_follow_20 rfl ?_
            refine aw_aload_n dX7_follow_22 rfl rfl ⟨by decide, by decide⟩ ?_
            refine aw_gzF 0 dX7_follow_23 fl_RX7_7 (by assumption) rfl rfl (by assumption) ?_
            refine aw_sipush dX7_follow_26 (by decide) ⟨by decide, by decide⟩ ?_
            refine aw_iload_n dX7_follow_29 rfl rfl ?_
            refine aw_iadd dX7_follow_30 (az_wr_id (by omega) (by omega)) ?_
            refine aw_iv dX7_follow_31 (by assumption) (by omega) (by omega) v31 ?_
            refine aw_icmp_ge (tgt := 65) dX7_follow_32 rfl (fun h32 => absurd h32 (by omega)) (fun h32 => ?_)
            refine aw_aload_n dX7_follow_35 rfl rfl ⟨by decide, by decide⟩ ?_
            refine aw_aload_n dX7_follow_36 rfl rfl ⟨by decide, by decide⟩ ?_
            refine aw_gzF 0 dX7_follow_37 fl_RX7_7 (by assumption) rfl rfl (by assumption) ?_
            refine aw_iload_n dX7_follow_40 rfl rfl ?_
            refine aw_iload dX7_follow_41 rfl ?_
            refine aw_cS2p dX7_follow_43 ml_RX7_161 ⟨by decide, by decide, by decide, by decide⟩ (Nat.le_of_ble_eq_true rfl) (sp_fieldAt K M2 b j (by omega) (by omega) (by omega) (by omega)) ?_
            refine aw_iv dX7_follow_46 (by assumption) (by omega) (by omega) v46 ?_
            refine aw_iload_n dX7_follow_47 rfl rfl ?_
            refine aw_aload_n dX7_follow_48 rfl rfl ⟨by decide, by decide⟩ ?_
            refine aw_gzF 4 dX7_follow_49 fl_RX7_23 (by assumption) rfl rfl (by assumption) ?_
            refine aw_iload_n dX7_follow_52 rfl rfl ?_
            refine aw_iv dX7_follow_53 (by assumption) (by omega) (by omega) v53 ?_
            refine aw_iconst dX7_follow_54 rfl ⟨by decide, by decide⟩ ?_
            refine aw_iadd dX7_follow_55 (az_wr_id (by omega) (by omega)) ?_
            refine aw_cV3v dX7_follow_56 ml_RX7_259 (by assumption) (by decide) rfl rfl ⟨by decide, by decide, by decide, by decide⟩ (Nat.le_of_ble_eq_true rfl) (sp_meet hK0 M2 hw.1.1 r2 q2 (by omega) (S.1 (256 + b + 1 + j)) (s1.2 b + 1) (g1 j (by omega))) (fun M3 hM3 => ?_)
            refine aw_iinc dX7_follow_59 rfl (az_wr_id (by omega) (by omega)) (by decide) ?_
            refine aw_goto (tgt := 20) dX7_follow_62 rfl ?_
            exact ihe (j + 1) M3 (by omega) hM3.1 (f2.trans hM3.2)
        exact inner n 0 M1 (by omega) r1 f1
  exact outer 65 0 st M _ _ (by omega) hq hr (frQ.refl M m) hR
theorem sp_reach (hK : MdK K m) (M : az_M) (hc : HM M m S) (hw : WL S) (wo : Int) : AM yX7_reach cX7_reach 3 (some .int) 2 0 0 [(1, m), (0, wo)] K M (qi K (fun z M' => z = ((rea S 0 6 wo).1.length : Int) ∧ MR M' m (rea S 0 6 wo) ∧ frQ M M' m)) := by
  have hK0 := hK
  obtain ⟨hKo, k3, k4, k5, k6, k7, k8, k9, k10, k11, k12, k13, k14, k15, k16, k17, k18, k19, k20, k21, k22, k23, k24, k25, y3, y4, y5, y6, y7, y8, y9, y10, y11, y12, y13, y14, y15, y16, y17, y18, y19, y20, y21, y22, y23, y24, y25⟩ := hK
  have hKo0 := hKo
  obtain ⟨hKa, k2, y2⟩ := hKo
  have hKa0 := hKa
  obtain ⟨km, k1, y1⟩ := hKa
  refine am_of (by decide) (Nat.le_of_ble_eq_true rfl) (L := [(1, m), (0, wo), (9, 0)]) rfl ?_
  have hre : rea S 0 6 wo = foV wo S.1 65 0 (rtV wo S.1 0 6 ([], fun _ => -1)) := rfl
  generalize rea S 0 6 wo = R at hre ⊢
  refine aw_aload_n dX7_reach_0 rfl rfl ⟨by decide, by decide⟩ ?_
  refine aw_cV0v dX7_reach_1 ml_RX7_262 (by assumption) (by decide) rfl rfl ⟨by decide, by decide, by decide, by decide⟩ (Nat.le_of_ble_eq_true rfl) (sp_clearReached hK0 M) (fun M1 hM1 => ?_)
  refine aw_iconst dX7_reach_4 rfl ⟨by decide, by decide⟩ ?_
  refine aw_istore_n dX7_reach_5 rfl (by decide) ?_
  have loop : ∀ (e j : Nat) (M2 : az_M), j + e = 6 → MR M2 m (rtV wo S.1 0 j ([], fun _ => -1)) → frQ M M2 m → AW az_P0 (az_Z (qi K (fun z M' => z = (R.1.length : Int) ∧ MR M' m R ∧ frQ M M' m)) 0 0) (az_rm 2 0 0) yX7_reach cX7_reach 3 (some .int) 0 0 6 [(1, m), (0, wo), (0, (j : Int))] [] K M2 := by
    intro e
    induction e with
    | zero =>
      intro j M2 hj r2 f2
      have hj2 : j = 6 := by omega
      subst hj2
      have hf := sp_follow hK0 M2 (HM_frQ hc f2) hw r2 (rtV_ok (qk_nil S.1 wo _) 6 (fun i hi => nam_nok hw (by omega) (by omega)))
      rw [← hre] at hf
      refine aw_iload_n dX7_reach_6 rfl rfl ?_
      refine aw_bipush dX7_reach_7 (by decide) ⟨by decide, by decide⟩ ?_
      refine aw_icmp_ge (tgt := 34) dX7_reach_9 rfl (fun h9 => ?_) (fun h9 => absurd h9 (by omega))
      refine aw_aload_n dX7_reach_34 rfl rfl ⟨by decide, by decide⟩ ?_
      refine aw_iload_n dX7_reach_35 rfl rfl ?_
      refine aw_cV1v dX7_reach_36 ml_RX7_265 (by assumption) (by decide) rfl rfl ⟨by decide, by decide, by decide, by decide⟩ (Nat.le_of_ble_eq_true rfl) (hf) (fun M3 hM3 => ?_)
      refine aw_aload_n dX7_reach_39 rfl rfl ⟨by decide, by decide⟩ ?_
      refine aw_gi 5 dX7_reach_40 fl_RX7_256 (by assumption) rfl rfl hM3.1.1 ?_
      exact aw_iret dX7_reach_43 (by decide) (by decide) ⟨_, rfl, rfl, rfl, hM3.1, f2.trans hM3.2⟩
    | succ e ih =>
      intro j M2 hj r2 f2
      have q2 := rtV_ok (lo := 0) (qk_nil S.1 wo (fun _ => -1)) j (fun i hi => nam_nok hw (by omega) (by omega))
      have hl2 := qk_len hw.1.1 q2
      have hv : M2 (m + 1) (715 + (j : Int)) = S.1 (715 + (0 + j)) := by rw [Int.zero_add]; exact (HM_frQ hc f2).1 _ (by omega) (by omega) (by omega) (by omega)
      refine aw_iload_n dX7_reach_6 rfl rfl ?_
      refine aw_bipush dX7_reach_7 (by decide) ⟨by decide, by decide⟩ ?_
      refine aw_icmp_ge (tgt := 34) dX7_reach_9 rfl (fun h9 => absurd h9 (by omega)) (fun h9 => ?_)
      refine aw_aload_n dX7_reach_12 rfl rfl ⟨by decide, by decide⟩ ?_
      refine aw_aload_n dX7_reach_13 rfl rfl ⟨by decide, by decide⟩ ?_
      refine aw_gzF 0 dX7_reach_14 fl_RX7_7 (by assumption) rfl rfl (by assumption) ?_
      refine aw_sipush dX7_reach_17 (by decide) ⟨by decide, by decide⟩ ?_
      refine aw_iload_n dX7_reach_20 rfl rfl ?_
      refine aw_iadd dX7_reach_21 (az_wr_id (by omega) (by omega)) ?_
      refine aw_iv dX7_reach_22 (by assumption) (by omega) (by omega) hv ?_
      refine aw_iload_n dX7_reach_23 rfl rfl ?_
      refine aw_iconst dX7_reach_24 rfl ⟨by decide, by decide⟩ ?_
      refine aw_cV3v dX7_reach_25 ml_RX7_259 (by assumption) (by decide) rfl rfl ⟨by decide, by decide, by decide, by decide⟩ (Nat.le_of_ble_eq_true rfl) (sp_meet hK0 M2 hw.1.1 r2 q2 (by omega) (S.1 (715 + (0 + j))) 0 (nam_nok hw (by omega) (by omega))) (fun M3 hM3 => ?_)
      refine aw_iinc dX7_reach_28 rfl (az_wr_id (by omega) (by omega)) (by decide) ?_
      refine aw_goto (tgt := 6) dX7_reach_31 rfl ?_
      exact ih (j + 1) M3 (by omega) hM3.1 (f2.trans hM3.2)
  exact loop 6 0 M1 (by omega) hM1.1 hM1.2
end RM
