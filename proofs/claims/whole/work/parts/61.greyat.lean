/-! Heap.greyAt -/
/-- how many go ahead of the k-th -/
def rkN (g : Int → Int) (gl : List Int) (k : Int) (n : Nat) : Int := sumN n (fun o => ahd g gl o k)
/-- the one that so many go ahead of -/
def gyL (g : Int → Int) (gl : List Int) (r : Int) : Nat → Int → Int
  | 0, _ => -1
  | d + 1, k => if rkN g gl k gl.length = r then gl.getD k.toNat 0 else gyL g gl r d (k + 1)
def gyA (S : hSt) (i : Int) : Int := if S.1 727 ≠ -1 ∧ i = 0 then S.1 727 else gyL S.1 S.2.2 (if S.1 727 = -1 then i else i - 1) S.2.2.length 0
theorem rk_in (g : Int → Int) (gl : List Int) (k : Int) (n : Nat) : 0 ≤ rkN g gl k n ∧ rkN g gl k n ≤ 1 * n :=
  sumN_le n (fun j _ => by show 0 ≤ ahd g gl j k ∧ ahd g gl j k ≤ 1; have := ahd_01 g gl j k; omega)
set_option maxRecDepth 20000 in
set_option maxHeartbeats 1000000 in
theorem sp_greyAt {K : az_K} {h : Int} (hK : HpK K h) (M : az_M) {S : hSt} (hc : HS M h S) (hw : WL S) (i : Int) (i0 : 0 ≤ i) : AM yX0_greyAt cX0_greyAt 6 (some .int) 1 0 0 [(1, h), (0, i)] K M (qp K M (gyA S i)) := by
  have hK0 := hK
  obtain ⟨hRg, kh, k6, k7, k8, k9, k10, k11, k12, k13, k14, z0, z1, z2, z3, z4, z5, z6, z7, z8, z9⟩ := hK
  refine am_of (by decide) (Nat.le_of_ble_eq_true rfl) (L := [(1, h), (0, i), (9, 0), (9, 0), (9, 0), (9, 0)]) rfl ?_
  have hlen := gl_len hw.1
  obtain ⟨g, rg, gl⟩ := S
  replace hlen : gl.length ≤ 64 := hlen
  have hgl : ∀ a ∈ gl, 0 ≤ a ∧ a < 128 := fun a ha => by
    have := ((hw.1.2.2.2.2.2.1.2.2.2.1 a).mp ha).1.1
    exact ⟨this.1, this.2.1⟩
  have hgr : c_gry M h gl := hc.2.2.2.2.2.2.1
  have hwt := hgr.1
  have hga := fun (i k : Int) (i0 : 0 ≤ i) (i1 : i < gl.length) (k0 : 0 ≤ k) (k1 : k < gl.length) => sp_goesAhead (g := g) hK0 M hc.2.2.2.2.2.2.2.1 hc.2.2.2.1 hgr hw.1.2.2.2.2.2.2 hgl hlen i k i0 i1 k0 k1
  have v1 : M h 12 = g 727 := hc.2.2.2.2.2.2.2.2.2.2.2.1
  generalize hV : gyA (g, rg, gl) i = V
  replace hV : (if g 727 ≠ -1 ∧ i = 0 then g 727 else gyL g gl (if g 727 = -1 then i else i - 1) gl.length 0) = V := hV
  refine aw_rL (fun hrL => ?_)
  have hiin : -2147483648 ≤ i ∧ i ≤ 2147483647 := hrL (0, i) (by simp) rfl
  have main : ∀ r : Int, gyL g gl r gl.length 0 = V → AW az_P0 (az_Z (qp K M V) 0 0) (az_rm 1 0 0) yX0_greyAt cX0_greyAt 6 (some .int) 0 0 32 [(1, h), (0, i), (9, 0), (9, 0), (9, 0), (9, 0)] [(0, r)] K M := by
    intro r hr
    refine aw_istore_n dX0_greyAt_32 rfl (by decide) ?_
    refine aw_iconst dX0_greyAt_33 rfl ⟨by decide, by decide⟩ ?_
    refine aw_istore_n dX0_greyAt_34 rfl (by decide) ?_
    have loop : ∀ (d k : Nat) (x4 x5 : az_V), k + d = gl.length → gyL g gl r d k = V → AW az_P0 (az_Z (qp K M V) 0 0) (az_rm 1 0 0) yX0_greyAt cX0_greyAt 6 (some .int) 0 0 35 [(1, h), (0, i), (0, r), (0, (k : Int)), x4, x5] [] K M := by
      intro d
      induction d with
      | zero =>
        intro k x4 x5 hk hv
        refine aw_iload_n dX0_greyAt_35 rfl rfl ?_
        refine aw_aload_n dX0_greyAt_36 rfl rfl ⟨by decide, by decide⟩ ?_
        refine aw_gi 11 dX0_greyAt_37 fl_RX0_62 (by assumption) rfl rfl hwt ?_
        refine aw_icmp_ge (tgt := 96) dX0_greyAt_40 rfl (fun h40 => ?_) (fun h40 => ?_)
        · refine aw_iconst dX0_greyAt_96 rfl ⟨by decide, by decide⟩ ?_
          exact aw_iret dX0_greyAt_97 (by decide) (by decide) (qp_i hv)
        · omega
      | succ d ih =>
        intro k x4 x5 hk hv
        replace hv : (if rkN g gl k gl.length = r then gl.getD (k : Int).toNat 0 else gyL g gl r d ((k : Int) + 1)) = V := hv
        have v88 : M (h + 11) (k : Int) = gl.getD k 0 := hgr.2 k (by omega)
        refine aw_iload_n dX0_greyAt_35 rfl rfl ?_
        refine aw_aload_n dX0_greyAt_36 rfl rfl ⟨by decide, by decide⟩ ?_
        refine aw_gi 11 dX0_greyAt_37 fl_RX0_62 (by assumption) rfl rfl hwt ?_
        refine aw_icmp_ge (tgt := 96) dX0_greyAt_40 rfl (fun h40 => ?_) (fun h40 => ?_)
        · omega
        · refine aw_iconst dX0_greyAt_43 rfl ⟨by decide, by decide⟩ ?_
          refine aw_istore dX0_greyAt_44 (by decide) ?_
          refine aw_iconst dX0_greyAt_46 rfl ⟨by decide, by decide⟩ ?_
          refine aw_istore dX0_greyAt_47 (by decide) ?_
          have loop2 : ∀ (e o : Nat), o + e = gl.length → AW az_P0 (az_Z (qp K M V) 0 0) (az_rm 1 0 0) yX0_greyAt cX0_greyAt 6 (some .int) 0 0 49 [(1, h), (0, i), (0, r), (0, (k : Int)), (0, rkN g gl k o), (0, (o : Int))] [] K M := by
            intro e
            induction e with
            | zero =>
              intro o ho
              have hoe : o = gl.length := by omega
              refine aw_iload dX0_greyAt_49 rfl ?_
              refine aw_aload_n dX0_greyAt_51 rfl rfl ⟨by decide, by decide⟩ ?_
              refine aw_gi 11 dX0_greyAt_52 fl_RX0_62 (by assumption) rfl rfl hwt ?_
              refine aw_icmp_ge (tgt := 77) dX0_greyAt_55 rfl (fun h55 => ?_) (fun h55 => ?_)
              · rw [hoe]
                refine aw_iload dX0_greyAt_77 rfl ?_
                refine aw_iload_n dX0_greyAt_79 rfl rfl ?_
                refine aw_icmp_ne (tgt := 90) dX0_greyAt_80 rfl (fun h80 => ?_) (fun h80 => ?_)
                · rw [if_neg h80] at hv
                  refine aw_iinc dX0_greyAt_90 rfl (az_wr_id (by omega) (by omega)) (by decide) ?_
                  refine aw_goto (tgt := 35) dX0_greyAt_93 rfl ?_
                  exact ih (k + 1) _ _ (by omega) hv
                · rw [if_pos h80] at hv
                  refine aw_aload_n dX0_greyAt_83 rfl rfl ⟨by decide, by decide⟩ ?_
                  refine aw_gzF 6 dX0_greyAt_84 fl_RX0_34 (by assumption) rfl rfl (by assumption) ?_
                  refine aw_iload_n dX0_greyAt_87 rfl rfl ?_
                  refine aw_iv dX0_greyAt_88 (by assumption) (by omega) (by omega) v88 ?_
                  exact aw_iret dX0_greyAt_89 (by decide) (by decide) (qp_i hv)
              · omega
            | succ e ih2 =>
              intro o ho
              have hrk := rk_in g gl k o
              have h01 := ahd_01 g gl o k
              have hnx : rkN g gl k (o + 1) = rkN g gl k o + ahd g gl o k := rfl
              have nx := ih2 (o + 1) (by omega)
              rw [hnx] at nx
              refine aw_iload dX0_greyAt_49 rfl ?_
              refine aw_aload_n dX0_greyAt_51 rfl rfl ⟨by decide, by decide⟩ ?_
              refine aw_gi 11 dX0_greyAt_52 fl_RX0_62 (by assumption) rfl rfl hwt ?_
              refine aw_icmp_ge (tgt := 77) dX0_greyAt_55 rfl (fun h55 => ?_) (fun h55 => ?_)
              · omega
              · refine aw_aload_n dX0_greyAt_58 rfl rfl ⟨by decide, by decide⟩ ?_
                refine aw_iload dX0_greyAt_59 rfl ?_
                refine aw_iload_n dX0_greyAt_61 rfl rfl ?_
                refine aw_cV2p dX0_greyAt_62 ml_RX0_122 (by assumption) (by decide) rfl rfl ⟨by decide, by decide, by decide, by decide⟩ (Nat.le_of_ble_eq_true rfl) (hga o k (by omega) (by omega) (by omega) (by omega)) ?_
                refine aw_if_eq (tgt := 71) dX0_greyAt_65 rfl (fun h65 => ?_) (fun h65 => ?_)
                · rw [h65, Int.add_zero] at nx
                  refine aw_iinc dX0_greyAt_71 rfl (az_wr_id (by omega) (by omega)) (by decide) ?_
                  refine aw_goto (tgt := 49) dX0_greyAt_74 rfl ?_
                  exact nx
                · rw [show ahd g gl o k = 1 by omega] at nx
                  refine aw_iinc dX0_greyAt_68 rfl (az_wr_id (by omega) (by omega)) (by decide) ?_
                  refine aw_iinc dX0_greyAt_71 rfl (az_wr_id (by omega) (by omega)) (by decide) ?_
                  refine aw_goto (tgt := 49) dX0_greyAt_74 rfl ?_
                  exact nx
          exact loop2 gl.length 0 (by omega)
    exact loop gl.length 0 _ _ (by omega) hr
  refine aw_aload_n dX0_greyAt_0 rfl rfl ⟨by decide, by decide⟩ ?_
  refine aw_gi 12 dX0_greyAt_1 fl_RX0_65 (by assumption) rfl rfl v1 ?_
  refine aw_iconst dX0_greyAt_4 rfl ⟨by decide, by decide⟩ ?_
  refine aw_icmp_eq (tgt := 17) dX0_greyAt_5 rfl (fun h5 => ?_) (fun h5 => ?_)
  · refine aw_aload_n dX0_greyAt_17 rfl rfl ⟨by decide, by decide⟩ ?_
    refine aw_gi 12 dX0_greyAt_18 fl_RX0_65 (by assumption) rfl rfl v1 ?_
    refine aw_iconst dX0_greyAt_21 rfl ⟨by decide, by decide⟩ ?_
    refine aw_icmp_ne (tgt := 29) dX0_greyAt_22 rfl (fun h22 => absurd h22 (by omega)) (fun h22 => ?_)
    refine aw_iload_n dX0_greyAt_25 rfl rfl ?_
    refine aw_goto (tgt := 32) dX0_greyAt_26 rfl ?_
    refine main i ?_
    rw [if_neg (fun q => q.1 h5), if_pos h5] at hV
    exact hV
  · refine aw_iload_n dX0_greyAt_8 rfl rfl ?_
    refine aw_if_ne (tgt := 17) dX0_greyAt_9 rfl (fun h9 => ?_) (fun h9 => ?_)
    · refine aw_aload_n dX0_greyAt_17 rfl rfl ⟨by decide, by decide⟩ ?_
      refine aw_gi 12 dX0_greyAt_18 fl_RX0_65 (by assumption) rfl rfl v1 ?_
      refine aw_iconst dX0_greyAt_21 rfl ⟨by decide, by decide⟩ ?_
      refine aw_icmp_ne (tgt := 29) dX0_greyAt_22 rfl (fun h22 => ?_) (fun h22 => absurd h22 (by omega))
      refine aw_iload_n dX0_greyAt_29 rfl rfl ?_
      refine aw_iconst dX0_greyAt_30 rfl ⟨by decide, by decide⟩ ?_
      refine aw_isub dX0_greyAt_31 (az_wr_id (by omega) (by omega)) ?_
      refine main _ ?_
      rw [if_neg (fun q => h9 q.2), if_neg h5] at hV
      exact hV
    · refine aw_aload_n dX0_greyAt_12 rfl rfl ⟨by decide, by decide⟩ ?_
      refine aw_gi 12 dX0_greyAt_13 fl_RX0_65 (by assumption) rfl rfl v1 ?_
      refine aw_iret dX0_greyAt_16 (by decide) (by decide) (qp_i ?_)
      rw [if_pos ⟨h5, h9⟩] at hV
      exact hV
