/-! Heap.goesAhead, Heap.take -/
def ahd (g : Int → Int) (gl : List Int) (i k : Int) : Int :=
  if g 736 = 1 then (if k < i then 1 else 0)
  else if g 736 = 2 then (if pz g (gl.getD i.toNat 0) < pz g (gl.getD k.toNat 0) ∨ pz g (gl.getD i.toNat 0) = pz g (gl.getD k.toNat 0) ∧ i < k then 1 else 0)
  else if g 736 = 3 then (if gl.getD i.toNat 0 < gl.getD k.toNat 0 then 1 else 0)
  else (if i < k then 1 else 0)
theorem ahd_01 (g : Int → Int) (gl : List Int) (i k : Int) : ahd g gl i k = 0 ∨ ahd g gl i k = 1 := by
  unfold ahd
  split
  · split <;> simp
  · split
    · split <;> simp
    · split
      · split <;> simp
      · split <;> simp
set_option maxRecDepth 20000 in
set_option maxHeartbeats 1000000 in
theorem sp_goesAhead {K : az_K} {h : Int} (hK : HpK K h) (M : az_M) {g : Int → Int} {gl : List Int} (hst : c_set M h g) (hsz : c_siz M h g) (hgr : c_gry M h gl) (hs : w_set g) (hgl : ∀ a ∈ gl, 0 ≤ a ∧ a < 128) (hlen : gl.length ≤ 64) (i k : Int) (i0 : 0 ≤ i) (i1 : i < gl.length) (k0 : 0 ≤ k) (k1 : k < gl.length) :
    AM yX0_goesAhead cX0_goesAhead 5 (some .boolean) 0 0 0 [(1, h), (0, i), (0, k)] K M (qp K M (ahd g gl i k)) := by
  obtain ⟨hRg, kh, k6, k7, k8, k9, k10, k11, k12, k13, k14, z0, z1, z2, z3, z4, z5, z6, z7, z8, z9⟩ := hK
  refine am_of (by decide) (Nat.le_of_ble_eq_true rfl) (L := [(1, h), (0, i), (0, k), (9, 0), (9, 0)]) rfl ?_
  have hord : M (h + 12) 1 = g 736 := hst 1 (by omega) (by omega)
  have hset := hs.2.1
  have gat : ∀ j : Int, 0 ≤ j → j < (gl.length : Int) → M (h + 11) j = gl.getD j.toNat 0 ∧ 0 ≤ gl.getD j.toNat 0 ∧ gl.getD j.toNat 0 < 128 := by
    intro j j0 j1
    have e1 := hgr.2 j.toNat (by omega)
    rw [Int.toNat_of_nonneg j0] at e1
    have e2 : gl.getD j.toNat 0 ∈ gl := by
      rw [List.getD_eq_getElem?_getD, List.getElem?_eq_getElem (by omega)]
      exact List.getElem_mem _
    exact ⟨e1, hgl _ e2⟩
  obtain ⟨gi1, gi2, gi3⟩ := gat i i0 i1
  obtain ⟨gk1, gk2, gk3⟩ := gat k k0 k1
  generalize hA : gl.getD i.toNat 0 = A at gi1 gi2 gi3
  generalize hB : gl.getD k.toNat 0 = B at gk1 gk2 gk3
  have sA : M (h + 7) (A / 16) = pz g A := hsz (A / 16) (by omega) (by omega)
  have sB : M (h + 7) (B / 16) = pz g B := hsz (B / 16) (by omega) (by omega)
  have hval : ahd g gl i k = if g 736 = 1 then (if k < i then 1 else 0) else if g 736 = 2 then (if pz g A < pz g B ∨ pz g A = pz g B ∧ i < k then 1 else 0) else if g 736 = 3 then (if A < B then 1 else 0) else (if i < k then 1 else 0) := by
    unfold ahd
    rw [hA, hB]
  rw [hval]
  have ho : g 736 = 0 ∨ g 736 = 1 ∨ g 736 = 2 ∨ g 736 = 3 := by omega
  rcases ho with e | e | e | e
  · rw [e] at hord ⊢
    refine aw_aload_n dX0_goesAhead_0 rfl rfl ⟨by decide, by decide⟩ ?_
    refine aw_gzF 7 dX0_goesAhead_1 fl_RX0_37 (by assumption) rfl rfl (by assumption) ?_
    refine aw_iconst dX0_goesAhead_4 rfl ⟨by decide, by decide⟩ ?_
    refine aw_iv dX0_goesAhead_5 (by assumption) (by omega) (by omega) hord ?_
    refine aw_tsOut (tgt := 118) dX0_goesAhead_6 (by omega) rfl ?_
    refine aw_iload_n dX0_goesAhead_118 rfl rfl ?_
    refine aw_iload_n dX0_goesAhead_119 rfl rfl ?_
    refine aw_icmp_ge (tgt := 127) dX0_goesAhead_120 rfl (fun h120 => ?_) (fun h120 => ?_)
    · refine aw_iconst dX0_goesAhead_127 rfl ⟨by decide, by decide⟩ ?_
      exact aw_zret dX0_goesAhead_128 (by omega) (by decide) (by decide) (qp_i (by simp; omega))
    · refine aw_iconst dX0_goesAhead_123 rfl ⟨by decide, by decide⟩ ?_
      refine aw_goto (tgt := 128) dX0_goesAhead_124 rfl ?_
      exact aw_zret dX0_goesAhead_128 (by omega) (by decide) (by decide) (qp_i (by simp; omega))
  · rw [e] at hord ⊢
    refine aw_aload_n dX0_goesAhead_0 rfl rfl ⟨by decide, by decide⟩ ?_
    refine aw_gzF 7 dX0_goesAhead_1 fl_RX0_37 (by assumption) rfl rfl (by assumption) ?_
    refine aw_iconst dX0_goesAhead_4 rfl ⟨by decide, by decide⟩ ?_
    refine aw_iv dX0_goesAhead_5 (by assumption) (by omega) (by omega) hord ?_
    refine aw_tsIn (tgt := 32) dX0_goesAhead_6 (by omega) (by omega) rfl rfl ?_
    refine aw_iload_n dX0_goesAhead_32 rfl rfl ?_
    refine aw_iload_n dX0_goesAhead_33 rfl rfl ?_
    refine aw_icmp_le (tgt := 41) dX0_goesAhead_34 rfl (fun h34 => ?_) (fun h34 => ?_)
    · refine aw_iconst dX0_goesAhead_41 rfl ⟨by decide, by decide⟩ ?_
      exact aw_zret dX0_goesAhead_42 (by omega) (by decide) (by decide) (qp_i (by simp; omega))
    · refine aw_iconst dX0_goesAhead_37 rfl ⟨by decide, by decide⟩ ?_
      refine aw_goto (tgt := 42) dX0_goesAhead_38 rfl ?_
      exact aw_zret dX0_goesAhead_42 (by omega) (by decide) (by decide) (qp_i (by simp; omega))
  · rw [e] at hord ⊢
    refine aw_aload_n dX0_goesAhead_0 rfl rfl ⟨by decide, by decide⟩ ?_
    refine aw_gzF 7 dX0_goesAhead_1 fl_RX0_37 (by assumption) rfl rfl (by assumption) ?_
    refine aw_iconst dX0_goesAhead_4 rfl ⟨by decide, by decide⟩ ?_
    refine aw_iv dX0_goesAhead_5 (by assumption) (by omega) (by omega) hord ?_
    refine aw_tsIn (tgt := 43) dX0_goesAhead_6 (by omega) (by omega) rfl rfl ?_
    refine aw_aload_n dX0_goesAhead_43 rfl rfl ⟨by decide, by decide⟩ ?_
    refine aw_gzF 2 dX0_goesAhead_44 fl_RX0_22 (by assumption) rfl rfl (by assumption) ?_
    refine aw_aload_n dX0_goesAhead_47 rfl rfl ⟨by decide, by decide⟩ ?_
    refine aw_gzF 6 dX0_goesAhead_48 fl_RX0_34 (by assumption) rfl rfl (by assumption) ?_
    refine aw_iload_n dX0_goesAhead_51 rfl rfl ?_
    refine aw_iv dX0_goesAhead_52 (by assumption) (by omega) (by omega) gi1 ?_
    refine aw_bipush dX0_goesAhead_53 (by decide) ⟨by decide, by decide⟩ ?_
    refine aw_idiv dX0_goesAhead_55 (by omega) (by omega) ?_
    refine aw_iv dX0_goesAhead_56 (by assumption) (by omega) (by omega) sA ?_
    refine aw_istore_n dX0_goesAhead_57 rfl (by decide) ?_
    refine aw_aload_n dX0_goesAhead_58 rfl rfl ⟨by decide, by decide⟩ ?_
    refine aw_gzF 2 dX0_goesAhead_59 fl_RX0_22 (by assumption) rfl rfl (by assumption) ?_
    refine aw_aload_n dX0_goesAhead_62 rfl rfl ⟨by decide, by decide⟩ ?_
    refine aw_gzF 6 dX0_goesAhead_63 fl_RX0_34 (by assumption) rfl rfl (by assumption) ?_
    refine aw_iload_n dX0_goesAhead_66 rfl rfl ?_
    refine aw_iv dX0_goesAhead_67 (by assumption) (by omega) (by omega) gk1 ?_
    refine aw_bipush dX0_goesAhead_68 (by decide) ⟨by decide, by decide⟩ ?_
    refine aw_idiv dX0_goesAhead_70 (by omega) (by omega) ?_
    refine aw_iv dX0_goesAhead_71 (by assumption) (by omega) (by omega) sB ?_
    refine aw_istore dX0_goesAhead_72 (by decide) ?_
    refine aw_iload_n dX0_goesAhead_74 rfl rfl ?_
    refine aw_iload dX0_goesAhead_75 rfl ?_
    refine aw_icmp_lt (tgt := 91) dX0_goesAhead_77 rfl (fun h77 => ?_) (fun h77 => ?_)
    · refine aw_iconst dX0_goesAhead_91 rfl ⟨by decide, by decide⟩ ?_
      refine aw_goto (tgt := 96) dX0_goesAhead_92 rfl ?_
      exact aw_zret dX0_goesAhead_96 (by omega) (by decide) (by decide) (qp_i (by simp; omega))
    · refine aw_iload_n dX0_goesAhead_80 rfl rfl ?_
      refine aw_iload dX0_goesAhead_81 rfl ?_
      refine aw_icmp_ne (tgt := 95) dX0_goesAhead_83 rfl (fun h83 => ?_) (fun h83 => ?_)
      · refine aw_iconst dX0_goesAhead_95 rfl ⟨by decide, by decide⟩ ?_
        exact aw_zret dX0_goesAhead_96 (by omega) (by decide) (by decide) (qp_i (by simp; omega))
      · refine aw_iload_n dX0_goesAhead_86 rfl rfl ?_
        refine aw_iload_n dX0_goesAhead_87 rfl rfl ?_
        refine aw_icmp_ge (tgt := 95) dX0_goesAhead_88 rfl (fun h88 => ?_) (fun h88 => ?_)
        · refine aw_iconst dX0_goesAhead_95 rfl ⟨by decide, by decide⟩ ?_
          exact aw_zret dX0_goesAhead_96 (by omega) (by decide) (by decide) (qp_i (by simp; omega))
        · refine aw_iconst dX0_goesAhead_91 rfl ⟨by decide, by decide⟩ ?_
          refine aw_goto (tgt := 96) dX0_goesAhead_92 rfl ?_
          exact aw_zret dX0_goesAhead_96 (by omega) (by decide) (by decide) (qp_i (by simp; omega))
  · rw [e] at hord ⊢
    refine aw_aload_n dX0_goesAhead_0 rfl rfl ⟨by decide, by decide⟩ ?_
    refine aw_gzF 7 dX0_goesAhead_1 fl_RX0_37 (by assumption) rfl rfl (by assumption) ?_
    refine aw_iconst dX0_goesAhead_4 rfl ⟨by decide, by decide⟩ ?_
    refine aw_iv dX0_goesAhead_5 (by assumption) (by omega) (by omega) hord ?_
    refine aw_tsIn (tgt := 97) dX0_goesAhead_6 (by omega) (by omega) rfl rfl ?_
    refine aw_aload_n dX0_goesAhead_97 rfl rfl ⟨by decide, by decide⟩ ?_
    refine aw_gzF 6 dX0_goesAhead_98 fl_RX0_34 (by assumption) rfl rfl (by assumption) ?_
    refine aw_iload_n dX0_goesAhead_101 rfl rfl ?_
    refine aw_iv dX0_goesAhead_102 (by assumption) (by omega) (by omega) gi1 ?_
    refine aw_aload_n dX0_goesAhead_103 rfl rfl ⟨by decide, by decide⟩ ?_
    refine aw_gzF 6 dX0_goesAhead_104 fl_RX0_34 (by assumption) rfl rfl (by assumption) ?_
    refine aw_iload_n dX0_goesAhead_107 rfl rfl ?_
    refine aw_iv dX0_goesAhead_108 (by assumption) (by omega) (by omega) gk1 ?_
    refine aw_icmp_ge (tgt := 116) dX0_goesAhead_109 rfl (fun h109 => ?_) (fun h109 => ?_)
    · refine aw_iconst dX0_goesAhead_116 rfl ⟨by decide, by decide⟩ ?_
      exact aw_zret dX0_goesAhead_117 (by omega) (by decide) (by decide) (qp_i (by simp; omega))
    · refine aw_iconst dX0_goesAhead_112 rfl ⟨by decide, by decide⟩ ?_
      refine aw_goto (tgt := 117) dX0_goesAhead_113 rfl ?_
      exact aw_zret dX0_goesAhead_117 (by omega) (by decide) (by decide) (qp_i (by simp; omega))
/-- the place of the one that is taken -/
def bs (g : Int → Int) (gl : List Int) : Nat → Int
  | 0 => 0
  | n + 1 => if n = 0 then 0 else if ahd g gl n (bs g gl n) = 1 then n else bs g gl n
theorem bs_in (g : Int → Int) (gl : List Int) : ∀ n : Nat, 0 < n → 0 ≤ bs g gl n ∧ bs g gl n < n := by
  intro n
  induction n with
  | zero => intro h; omega
  | succ n ih =>
    intro _
    show 0 ≤ (if n = 0 then 0 else if ahd g gl n (bs g gl n) = 1 then (n : Int) else bs g gl n) ∧ (if n = 0 then 0 else if ahd g gl n (bs g gl n) = 1 then (n : Int) else bs g gl n) < ((n + 1 : Nat) : Int)
    split
    · omega
    · have := ih (by omega)
      split <;> omega
def takeS (S : hSt) : hSt := (gu (gu S.1 727 (S.2.2.getD (bs S.1 S.2.2 S.2.2.length).toNat 0)) 728 0, S.2.1, S.2.2.eraseIdx (bs S.1 S.2.2 S.2.2.length).toNat)
theorem getD_erase (l : List Int) (i j : Nat) : (l.eraseIdx i).getD j 0 = if j < i then l.getD j 0 else l.getD (j + 1) 0 := by
  rw [List.getD_eq_getElem?_getD, List.getElem?_eraseIdx]
  split
  · rw [List.getD_eq_getElem?_getD]
  · rw [List.getD_eq_getElem?_getD]
set_option maxRecDepth 20000 in
set_option maxHeartbeats 1000000 in
theorem sp_take {K : az_K} {h : Int} (hK : HpK K h) (M : az_M) {S : hSt} (hc : HS M h S) (hw : WS S) (hne : 0 < S.2.2.length) : AM yX0_take cX0_take 3 none 1 0 0 [(1, h)] K M (qv K (fun M' => HS M' h (takeS S) ∧ frH M M' h)) := by
  have hK0 := hK
  obtain ⟨hRg, kh, k6, k7, k8, k9, k10, k11, k12, k13, k14, z0, z1, z2, z3, z4, z5, z6, z7, z8, z9⟩ := hK
  refine am_of (by decide) (Nat.le_of_ble_eq_true rfl) (L := [(1, h), (9, 0), (9, 0)]) rfl ?_
  have hlen := gl_len hw
  obtain ⟨g, rg, gl⟩ := S
  replace hlen : gl.length ≤ 64 := hlen
  replace hne : 0 < gl.length := hne
  have hgl : ∀ a ∈ gl, 0 ≤ a ∧ a < 128 := fun a ha => by
    have := ((hw.2.2.2.2.2.1.2.2.2.1 a).mp ha).1.1
    exact ⟨this.1, this.2.1⟩
  have hgr : c_gry M h gl := hc.2.2.2.2.2.2.1
  have hwt := hgr.1
  have hga := fun (i k : Int) (i0 : 0 ≤ i) (i1 : i < gl.length) (k0 : 0 ≤ k) (k1 : k < gl.length) => sp_goesAhead (g := g) hK0 M hc.2.2.2.2.2.2.2.1 hc.2.2.2.1 hgr hw.2.2.2.2.2.2 hgl hlen i k i0 i1 k0 k1
  refine aw_iconst dX0_take_0 rfl ⟨by decide, by decide⟩ ?_
  refine aw_istore_n dX0_take_1 rfl (by decide) ?_
  refine aw_iconst dX0_take_2 rfl ⟨by decide, by decide⟩ ?_
  refine aw_istore_n dX0_take_3 rfl (by decide) ?_
  have loop : ∀ (k i : Nat) (x y : Int), x = bs g gl i → y = i → 1 ≤ i → i ≤ gl.length → gl.length - i < k → AW az_P0 (az_Z (qv K (fun M' => HS M' h (takeS (g, rg, gl)) ∧ frH M M' h)) 0 0) (az_rm 1 0 0) yX0_take cX0_take 3 none 0 0 4 [(1, h), (0, x), (0, y)] [] K M := by
    intro k
    induction k with
    | zero => intro i x y _ _ _ _ hk; omega
    | succ k ih =>
      intro i x y hx hy i1 i2 hk
      have hbi := bs_in g gl i (by omega)
      refine aw_iload_n dX0_take_4 rfl rfl ?_
      refine aw_aload_n dX0_take_5 rfl rfl ⟨by decide, by decide⟩ ?_
      refine aw_gi 11 dX0_take_6 fl_RX0_62 (by assumption) rfl rfl hwt ?_
      refine aw_icmp_ge (tgt := 29) dX0_take_9 rfl (fun h9 => ?_) (fun h9 => ?_)
      · have hi : i = gl.length := by omega
        subst hi
        have hgx : M (h + 11) x = gl.getD x.toNat 0 := by
          have := hgr.2 x.toNat (by omega)
          rw [Int.toNat_of_nonneg (by omega)] at this
          exact this
        refine aw_aload_n dX0_take_29 rfl rfl ⟨by decide, by decide⟩ ?_
        refine aw_aload_n dX0_take_30 rfl rfl ⟨by decide, by decide⟩ ?_
        refine aw_gzF 6 dX0_take_31 fl_RX0_34 (by assumption) rfl rfl (by assumption) ?_
        refine aw_iload_n dX0_take_34 rfl rfl ?_
        refine aw_iv dX0_take_35 (by assumption) (by omega) (by omega) hgx ?_
        refine aw_pi 12 dX0_take_36 fl_RX0_65 (by assumption) rfl rfl ?_
        refine aw_aload_n dX0_take_39 rfl rfl ⟨by decide, by decide⟩ ?_
        refine aw_iconst dX0_take_40 rfl ⟨by decide, by decide⟩ ?_
        refine aw_pi 13 dX0_take_41 fl_RX0_68 (by assumption) rfl rfl ?_
        generalize hM1 : az_up (az_up M h 12 (gl.getD x.toNat 0)) h 13 0 = M1
        have o1 : ∀ b, b ≠ h → M1 b = M b := fun b hb => by rw [← hM1, up_oth _ _ _ hb, up_oth _ _ _ hb]
        have v46 : M1 h 11 = (gl.length : Int) := by
          rw [← hM1, az_up_i _ _ _ _ (by omega), az_up_i _ _ _ _ (by omega)]
          exact hwt
        refine aw_aload_n dX0_take_44 rfl rfl ⟨by decide, by decide⟩ ?_
        refine aw_dup dX0_take_45 ?_
        refine aw_gi 11 dX0_take_46 fl_RX0_62 (by assumption) rfl rfl v46 ?_
        refine aw_iconst dX0_take_49 rfl ⟨by decide, by decide⟩ ?_
        refine aw_isub dX0_take_50 (az_wr_id (by omega) (by omega)) ?_
        refine aw_pi 11 dX0_take_51 fl_RX0_62 (by assumption) rfl rfl ?_
        refine aw_iload_n dX0_take_54 rfl rfl ?_
        refine aw_istore_n dX0_take_55 rfl (by decide) ?_
        generalize hM2 : az_up M1 h 11 ((gl.length : Int) - 1) = M2
        have o2 : ∀ b, b ≠ h → M2 b = M b := fun b hb => by rw [← hM2, up_oth _ _ _ hb, o1 b hb]
        have v58 : M2 h 11 = (gl.length : Int) - 1 := by rw [← hM2, az_up_s]
        have loop2 : ∀ (k j : Nat) (M3 : az_M) (z : Int), z = x + j → x + j ≤ (gl.length : Int) - 1 → gl.length - j < k → (M3 (h + 11) = fun q => if x ≤ q ∧ q < x + j then M (h + 11) (q + 1) else M (h + 11) q) → (∀ b, b ≠ h + 11 → M3 b = M2 b) → AW az_P0 (az_Z (qv K (fun M' => HS M' h (takeS (g, rg, gl)) ∧ frH M M' h)) 0 0) (az_rm 1 0 0) yX0_take cX0_take 3 none 0 0 56 [(1, h), (0, x), (0, z)] [] K M3 := by
          intro k
          induction k with
          | zero => intro j M3 z _ _ hk; omega
          | succ k ih2 =>
            intro j M3 z hz hj hk h11 ho
            have v58' : M3 h 11 = (gl.length : Int) - 1 := by rw [ho h (by omega)]; exact v58
            refine aw_iload_n dX0_take_56 rfl rfl ?_
            refine aw_aload_n dX0_take_57 rfl rfl ⟨by decide, by decide⟩ ?_
            refine aw_gi 11 dX0_take_58 fl_RX0_62 (by assumption) rfl rfl v58' ?_
            refine aw_icmp_ge (tgt := 84) dX0_take_61 rfl (fun h61 => ?_) (fun h61 => ?_)
            · have hjl : x + j = (gl.length : Int) - 1 := by omega
              refine aw_vret dX0_take_84 (by decide) (by decide) ⟨rfl, rfl, ?_, fun b hb => by rw [ho b (by omega), o2 b (by omega)]⟩
              have m12 : M3 h = fun q => if q = 11 then (gl.length : Int) - 1 else if q = 13 then 0 else if q = 12 then gl.getD x.toNat 0 else M h q := by
                rw [ho h (by omega), ← hM2, up_row, ← hM1, up_row, up_row]
              have eL : (gl.eraseIdx (bs g gl gl.length).toNat).length = gl.length - 1 := by
                rw [List.length_eraseIdx, if_pos (by omega)]
              -- the numbers first, then the list
              have hX : HC (fun b => if b = h then (fun q => if q = 11 then M h 11 else M3 h q) else M b) h (takeS (g, rg, gl)).1 rg gl := by
                refine HC_sca hc hw.1 hw.2.2.2.1 (fun b hb => if_neg hb) (by simp) (fun i hi => ?_) ?_
                · show gu (gu g 727 _) 728 0 i = g i
                  rw [gu_n _ _ (by omega), gu_n _ _ (by omega)]
                · have q := hc.2.2.2.2.2.2.2.2.2.2
                  unfold c_sca at q ⊢
                  simp only [if_true, m12]
                  show _ ∧ _ ∧ _ ∧ _ ∧ _
                  unfold takeS
                  simp only [gu]
                  simp
                  exact ⟨q.1, by rw [hx], q.2.2.2.1, q.2.2.2.2⟩
              obtain ⟨c1, c2, c3, c4, c5, c6, c7, c8, c9, c10, c11⟩ := hX
              have hrow : ∀ b, b ≠ h → b ≠ h + 11 → M3 b = (fun b => if b = h then (fun q => if q = 11 then M h 11 else M3 h q) else M b) b := by
                intro b b1 b2
                rw [ho b b2, o2 b b1]
                exact (if_neg b1).symm
              refine ⟨?_, ?_, ?_, ?_, ?_, ?_, ?_, ?_, ?_, ?_, ?_⟩
              · rw [hrow (h + 2) (by omega) (by omega), hrow (h + 3) (by omega) (by omega), hrow (h + 4) (by omega) (by omega), hrow (h + 5) (by omega) (by omega)]; exact c1
              · intro n n0 n1
                rw [hrow _ (by omega) (by omega)]; exact c2 n n0 n1
              · intro a ha
                rw [hrow _ (by omega) (by omega)]; exact c3 a ha
              · intro p p0 p1
                rw [hrow _ (by omega) (by omega)]; exact c4 p p0 p1
              · intro p p0 p1
                rw [hrow _ (by omega) (by omega)]; exact c5 p p0 p1
              · unfold c_nam
                rw [hrow (h + 9) (by omega) (by omega), hrow (h + 10) (by omega) (by omega)]; exact c6
              · refine ⟨?_, fun q hq => ?_⟩
                · rw [m12]
                  show (if (11 : Int) = 11 then _ else _) = _
                  rw [if_pos rfl]
                  show _ = ((gl.eraseIdx (bs g gl gl.length).toNat).length : Int)
                  rw [eL]
                  omega
                · have hq2 : q < (gl.eraseIdx (bs g gl gl.length).toNat).length := hq
                  rw [eL] at hq2
                  show M3 (h + 11) q = (gl.eraseIdx (bs g gl gl.length).toNat).getD q 0
                  rw [h11, getD_erase]
                  show (if x ≤ (q : Int) ∧ (q : Int) < x + j then _ else _) = _
                  by_cases e : (q : Int) < x
                  · rw [if_neg (by omega), if_pos (by omega)]
                    exact hgr.2 q (by omega)
                  · rw [if_pos ⟨by omega, by omega⟩, if_neg (by omega)]
                    have := hgr.2 (q + 1) (by omega)
                    rw [show ((q + 1 : Nat) : Int) = (q : Int) + 1 by omega] at this
                    exact this
              · intro i i0 i1
                rw [hrow _ (by omega) (by omega)]; exact c8 i i0 i1
              · intro i i0 i1
                rw [hrow _ (by omega) (by omega)]; exact c9 i i0 i1
              · unfold c_log
                rw [hrow _ (by omega) (by omega)]; exact c10
              · unfold c_sca at c11 ⊢
                simpa using c11
            · have v76 : M3 (h + 11) (z + 1) = M (h + 11) (z + 1) := by
                rw [h11]
                exact if_neg (by omega)
              refine aw_aload_n dX0_take_64 rfl rfl ⟨by decide, by decide⟩ ?_
              refine aw_gzF 6 dX0_take_65 fl_RX0_34 (by assumption) rfl rfl (by assumption) ?_
              refine aw_iload_n dX0_take_68 rfl rfl ?_
              refine aw_aload_n dX0_take_69 rfl rfl ⟨by decide, by decide⟩ ?_
              refine aw_gzF 6 dX0_take_70 fl_RX0_34 (by assumption) rfl rfl (by assumption) ?_
              refine aw_iload_n dX0_take_73 rfl rfl ?_
              refine aw_iconst dX0_take_74 rfl ⟨by decide, by decide⟩ ?_
              refine aw_iadd dX0_take_75 (az_wr_id (by omega) (by omega)) ?_
              refine aw_iv dX0_take_76 (by assumption) (by omega) (by omega) v76 ?_
              refine aw_iast dX0_take_77 (by assumption) (by omega) (by omega) ?_
              refine aw_iinc dX0_take_78 rfl (az_wr_id (by omega) (by omega)) (by decide) ?_
              refine aw_goto (tgt := 56) dX0_take_81 rfl ?_
              refine ih2 (j + 1) _ _ (by omega) (by omega) (by omega) ?_ ?_
              · rw [up_row, h11]
                funext q
                by_cases e : q = z
                · rw [if_pos e, if_pos ⟨by omega, by omega⟩, e]
                · rw [if_neg e]
                  show (if x ≤ q ∧ q < x + (j : Int) then M (h + 11) (q + 1) else M (h + 11) q) = _
                  by_cases e2 : x ≤ q ∧ q < x + (j : Int)
                  · rw [if_pos e2, if_pos ⟨e2.1, by omega⟩]
                  · rw [if_neg e2, if_neg (by omega)]
              · intro b hb
                rw [up_oth _ _ _ hb, ho b hb]
        refine loop2 (gl.length + 1) 0 M2 x (by omega) (by omega) (by omega) ?_ (fun _ _ => rfl)
        rw [o2 _ (by omega)]
        funext q
        rw [if_neg (by omega)]
      · have h01 := ahd_01 g gl y x
        have hbs : bs g gl (i + 1) = if ahd g gl y x = 1 then y else x := by
          show (if i = 0 then 0 else if ahd g gl i (bs g gl i) = 1 then (i : Int) else bs g gl i) = _
          rw [if_neg (by omega), ← hx, ← hy]
        refine aw_aload_n dX0_take_12 rfl rfl ⟨by decide, by decide⟩ ?_
        refine aw_iload_n dX0_take_13 rfl rfl ?_
        refine aw_iload_n dX0_take_14 rfl rfl ?_
        refine aw_cV2p dX0_take_15 ml_RX0_122 (by assumption) (by decide) rfl rfl ⟨by decide, by decide, by decide, by decide⟩ (Nat.le_of_ble_eq_true rfl) (hga y x (by omega) (by omega) (by omega) (by omega)) ?_
        refine aw_if_eq (tgt := 23) dX0_take_18 rfl (fun h18 => ?_) (fun h18 => ?_)
        · refine aw_iinc dX0_take_23 rfl (az_wr_id (by omega) (by omega)) (by decide) ?_
          refine aw_goto (tgt := 4) dX0_take_26 rfl ?_
          exact ih (i + 1) _ _ (by rw [hbs, if_neg (by omega)]) (by omega) (by omega) (by omega) (by omega)
        · refine aw_iload_n dX0_take_21 rfl rfl ?_
          refine aw_istore_n dX0_take_22 rfl (by decide) ?_
          refine aw_iinc dX0_take_23 rfl (az_wr_id (by omega) (by omega)) (by decide) ?_
          refine aw_goto (tgt := 4) dX0_take_26 rfl ?_
          exact ih (i + 1) _ _ (by rw [hbs, if_pos (by omega)]) (by omega) (by omega) (by omega) (by omega)
  exact loop (gl.length + 1) 1 0 1 (by show (0 : Int) = (if (0 : Nat) = 0 then 0 else _); rw [if_pos rfl]) rfl (by omega) (by omega) (by omega)
