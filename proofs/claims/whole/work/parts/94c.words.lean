/-! text constants: length, charAt; Reader: tokens -/
set_option maxRecDepth 20000
section AT
variable {P : az_E → State → Array Value → Prop} {Z : List Frame → Array Value → State → az_E → State → Prop} {R : Room} {y : MethodName} {cc : ByteArray} {nL : Nat} {ret : Option FieldType} {cs sl pc : Nat} {L S : List az_V} {K : az_K} {M : az_M}
theorem aw_cT0p {y' : MethodName} {cc' : ByteArray} {nL' : Nat} {ret' : Option FieldType} {d' idx : Nat} {i z : Int} (hd : decode cc pc = .ok (.invokevirtual idx, 3)) (hm : az_MV y.cls idx y' cc' nL' ret' 0) (h0 : 0 ≤ i) (h5 : i < 5) (hq : y'.cls = "java/lang/String") (hrm : d' + 1 ≤ R.frames ∧ 8 + (nL' + 11) + 40 * d' ≤ R.locals ∧ cs + 0 ≤ R.cells ∧ sl + 0 ≤ R.slots) (hS8 : S.length ≤ 8) (hA : AM y' cc' nL' ret' d' 0 0 [(2, i)] K M (qp K M z))
    (kk : AW P Z R y cc nL ret cs sl (pc + 3) L ((0, z) :: S) K M) : AW P Z R y cc nL ret cs sl pc L ((2, i) :: S) K M := aw_callT (As := []) hd hm rfl h0 h5 hq hrm hS8 hA (fun r K' M' h => by obtain ⟨rfl, rfl, rfl⟩ := h; exact kk)
theorem aw_cT1p {y' : MethodName} {cc' : ByteArray} {nL' : Nat} {ret' : Option FieldType} {d' idx : Nat} {w1 : az_V} {i z : Int} (hd : decode cc pc = .ok (.invokevirtual idx, 3)) (hm : az_MV y.cls idx y' cc' nL' ret' 1) (h0 : 0 ≤ i) (h5 : i < 5) (hq : y'.cls = "java/lang/String") (hrm : d' + 1 ≤ R.frames ∧ 8 + (nL' + 11) + 40 * d' ≤ R.locals ∧ cs + 0 ≤ R.cells ∧ sl + 0 ≤ R.slots) (hS8 : S.length ≤ 8) (hA : AM y' cc' nL' ret' d' 0 0 [(2, i), w1] K M (qp K M z))
    (kk : AW P Z R y cc nL ret cs sl (pc + 3) L ((0, z) :: S) K M) : AW P Z R y cc nL ret cs sl pc L (w1 :: (2, i) :: S) K M := aw_callT (As := [w1]) hd hm rfl h0 h5 hq hrm hS8 hA (fun r K' M' h => by obtain ⟨rfl, rfl, rfl⟩ := h; exact kk)
end AT
def wLn (i : Int) : Int := ((az_len.getD i.toNat 0 : Nat) : Int)
def wCh (i j : Int) : Int := ((az_byt.getD i.toNat []).getD j.toNat 0).toInt
theorem wrd_d : ∀ i : Nat, i < 5 → (2 ≤ az_len.getD i 0 ∧ az_len.getD i 0 ≤ 5 ∧ az_shr ((az_len.getD i 0 : Nat) : Int) 0 = ((az_len.getD i 0 : Nat) : Int)) ∧ ∀ j : Nat, j < az_len.getD i 0 → 97 ≤ ((az_byt.getD i []).getD j 0).toInt ∧ ((az_byt.getD i []).getD j 0).toInt ≤ 122 ∧ az_and ((az_byt.getD i []).getD j 0).toInt 255 = ((az_byt.getD i []).getD j 0).toInt ∧ narrow .char (.int (Int32.ofInt ((az_byt.getD i []).getD j 0).toInt)) = .int (Int32.ofInt ((az_byt.getD i []).getD j 0).toInt) := by decide
section WO
variable {K : az_K} {M : az_M} {i j n : Int}
theorem wLn_in (h0 : 0 ≤ i) (h5 : i < 5) : 2 ≤ wLn i ∧ wLn i ≤ 5 ∧ az_shr (wLn i) 0 = wLn i := by
  have := (wrd_d i.toNat (by omega)).1
  unfold wLn
  exact ⟨by omega, by omega, this.2.2⟩
theorem wCh_in (h0 : 0 ≤ i) (h5 : i < 5) (j0 : 0 ≤ j) (j1 : j < wLn i) : 97 ≤ wCh i j ∧ wCh i j ≤ 122 ∧ az_and (wCh i j) 255 = wCh i j ∧ narrow .char (.int (Int32.ofInt (wCh i j))) = .int (Int32.ofInt (wCh i j)) := (wrd_d i.toNat (by omega)).2 j.toNat (by unfold wLn at j1; omega)
theorem sp_coder (h0 : 0 ≤ i) (h5 : i < 5) : AM yJ0_coder_7d493 cJ0_coder_7d493 1 (some .byte) 0 0 0 [(2, i)] K M (qp K M 0) := by
  refine am_of (by decide) (Nat.le_of_ble_eq_true rfl) (L := [(2, i)]) rfl ?_
  refine aw_compact dJ0_coder_7d493_0 fj_RJ0_38 ?_
  refine aw_if_eq (tgt := 13) dJ0_coder_7d493_3 rfl (fun h3 => absurd h3 (by omega)) (fun h3 => ?_)
  refine aw_aload_n dJ0_coder_7d493_6 rfl rfl ⟨by decide, by decide⟩ ?_
  refine aw_strCoder dJ0_coder_7d493_7 h0 h5 fj_RJ0_15 ?_
  refine aw_goto (tgt := 14) dJ0_coder_7d493_10 rfl ?_
  exact aw_nret dJ0_coder_7d493_14 (by decide) (by decide) (by decide) (qp_i rfl)
theorem sp_isLatin1 (h0 : 0 ≤ i) (h5 : i < 5) : AM yJ0_isLatin1_aae02 cJ0_isLatin1_aae02 1 (some .boolean) 0 0 0 [(2, i)] K M (qp K M 1) := by
  refine am_of (by decide) (Nat.le_of_ble_eq_true rfl) (L := [(2, i)]) rfl ?_
  refine aw_compact dJ0_isLatin1_aae02_0 fj_RJ0_38 ?_
  refine aw_if_eq (tgt := 17) dJ0_isLatin1_aae02_3 rfl (fun h3 => absurd h3 (by omega)) (fun h3 => ?_)
  refine aw_aload_n dJ0_isLatin1_aae02_6 rfl rfl ⟨by decide, by decide⟩ ?_
  refine aw_strCoder dJ0_isLatin1_aae02_7 h0 h5 fj_RJ0_15 ?_
  refine aw_if_ne (tgt := 17) dJ0_isLatin1_aae02_10 rfl (fun h10 => absurd h10 (by omega)) (fun h10 => ?_)
  refine aw_iconst dJ0_isLatin1_aae02_13 rfl ⟨by decide, by decide⟩ ?_
  refine aw_goto (tgt := 18) dJ0_isLatin1_aae02_14 rfl ?_
  exact aw_zret dJ0_isLatin1_aae02_18 (by omega) (by decide) (by decide) (qp_i rfl)
theorem sp_strLength (h0 : 0 ≤ i) (h5 : i < 5) : AM yJ0_length_8abf5 cJ0_length_8abf5 1 (some .int) 1 0 0 [(2, i)] K M (qp K M (wLn i)) := by
  refine am_of (by decide) (Nat.le_of_ble_eq_true rfl) (L := [(2, i)]) rfl ?_
  have v9 := (wLn_in h0 h5).2.2
  refine aw_aload_n dJ0_length_8abf5_0 rfl rfl ⟨by decide, by decide⟩ ?_
  refine aw_strValue dJ0_length_8abf5_1 h0 h5 fj_RJ0_9 ?_
  refine aw_strLen dJ0_length_8abf5_4 h0 h5 ?_
  refine aw_aload_n dJ0_length_8abf5_5 rfl rfl ⟨by decide, by decide⟩ ?_
  refine aw_cT0p dJ0_length_8abf5_6 ml_RJ0_335 h0 h5 rfl ⟨by decide, by decide, by decide, by decide⟩ (Nat.le_of_ble_eq_true rfl) (sp_coder h0 h5) ?_
  refine aw_ishr dJ0_length_8abf5_9 v9 ?_
  exact aw_iret dJ0_length_8abf5_10 (by decide) (by decide) (qp_i rfl)
theorem sp_pcheck (j0 : 0 ≤ j) (j1 : j < n) : AM yJ3_checkIndex_8e157 cJ3_checkIndex_8e157 3 (some .int) 0 0 0 [(0, j), (0, n), (4, 0)] K M (qp K M j) := by
  refine am_of (by decide) (Nat.le_of_ble_eq_true rfl) (L := [(0, j), (0, n), (4, 0)]) rfl ?_
  refine aw_iload_n dJ3_checkIndex_8e157_0 rfl rfl ?_
  refine aw_if_lt (tgt := 9) dJ3_checkIndex_8e157_1 rfl (fun h1 => absurd h1 (by omega)) (fun h1 => ?_)
  refine aw_iload_n dJ3_checkIndex_8e157_4 rfl rfl ?_
  refine aw_iload_n dJ3_checkIndex_8e157_5 rfl rfl ?_
  refine aw_icmp_lt (tgt := 16) dJ3_checkIndex_8e157_6 rfl (fun h6 => ?_) (fun h6 => absurd h6 (by omega))
  refine aw_iload_n dJ3_checkIndex_8e157_16 rfl rfl ?_
  exact aw_iret dJ3_checkIndex_8e157_17 (by decide) (by decide) (qp_i rfl)
theorem sp_scheck (j0 : 0 ≤ j) (j1 : j < n) : AM yJ0_checkIndex_df160 cJ0_checkIndex_df160 2 none 1 0 0 [(0, j), (0, n)] K M (qv K (fun M' => M' = M)) := by
  refine am_of (by decide) (Nat.le_of_ble_eq_true rfl) (L := [(0, j), (0, n)]) rfl ?_
  refine aw_iload_n dJ0_checkIndex_df160_0 rfl rfl ?_
  refine aw_iload_n dJ0_checkIndex_df160_1 rfl rfl ?_
  refine aw_formatter dJ0_checkIndex_df160_2 fj_RJ0_1053 ?_
  refine aw_cS3p dJ0_checkIndex_df160_5 ml_RJ0_1059 ⟨by decide, by decide, by decide, by decide⟩ (Nat.le_of_ble_eq_true rfl) (sp_pcheck j0 j1) ?_
  refine aw_pop dJ0_checkIndex_df160_8 ?_
  exact aw_vret dJ0_checkIndex_df160_9 (by decide) (by decide) ⟨rfl, rfl, rfl⟩
theorem sp_lcharAt (h0 : 0 ≤ i) (h5 : i < 5) (j0 : 0 ≤ j) (j1 : j < wLn i) : AM yJ1_charAt_3b067 cJ1_charAt_3b067 2 (some .char) 2 0 0 [(3, i), (0, j)] K M (qp K M (wCh i j)) := by
  refine am_of (by decide) (Nat.le_of_ble_eq_true rfl) (L := [(3, i), (0, j)]) rfl ?_
  obtain ⟨c0, c1, c2, c3⟩ := wCh_in h0 h5 j0 j1
  refine aw_iload_n dJ1_charAt_3b067_0 rfl rfl ?_
  refine aw_aload_n dJ1_charAt_3b067_1 rfl rfl ⟨by decide, by decide⟩ ?_
  refine aw_strLen dJ1_charAt_3b067_2 h0 h5 ?_
  refine aw_cS2v dJ1_charAt_3b067_3 ml_RJ1_9 ⟨by decide, by decide, by decide, by decide⟩ (Nat.le_of_ble_eq_true rfl) (sp_scheck j0 j1) (fun M1 hM1 => ?_)
  subst hM1
  refine aw_aload_n dJ1_charAt_3b067_6 rfl rfl ⟨by decide, by decide⟩ ?_
  refine aw_iload_n dJ1_charAt_3b067_7 rfl rfl ?_
  refine aw_strByte dJ1_charAt_3b067_8 h0 h5 j0 j1 ?_
  refine aw_sipush dJ1_charAt_3b067_9 (by decide) ⟨by decide, by decide⟩ ?_
  refine aw_iand dJ1_charAt_3b067_12 c2 ?_
  refine aw_i2c dJ1_charAt_3b067_13 (by omega) (by omega) ?_
  exact aw_nret dJ1_charAt_3b067_14 c3 (by decide) (by decide) (qp_i rfl)
theorem sp_charAt (h0 : 0 ≤ i) (h5 : i < 5) (j0 : 0 ≤ j) (j1 : j < wLn i) : AM yJ0_charAt_5068e cJ0_charAt_5068e 2 (some .char) 3 0 0 [(2, i), (0, j)] K M (qp K M (wCh i j)) := by
  refine am_of (by decide) (Nat.le_of_ble_eq_true rfl) (L := [(2, i), (0, j)]) rfl ?_
  obtain ⟨c0, c1, c2, c3⟩ := wCh_in h0 h5 j0 j1
  refine aw_aload_n dJ0_charAt_5068e_0 rfl rfl ⟨by decide, by decide⟩ ?_
  refine aw_cT0p dJ0_charAt_5068e_1 ml_RJ0_492 h0 h5 rfl ⟨by decide, by decide, by decide, by decide⟩ (Nat.le_of_ble_eq_true rfl) (sp_isLatin1 h0 h5) ?_
  refine aw_if_eq (tgt := 16) dJ0_charAt_5068e_4 rfl (fun h4 => absurd h4 (by omega)) (fun h4 => ?_)
  refine aw_aload_n dJ0_charAt_5068e_7 rfl rfl ⟨by decide, by decide⟩ ?_
  refine aw_strValue dJ0_charAt_5068e_8 h0 h5 fj_RJ0_9 ?_
  refine aw_iload_n dJ0_charAt_5068e_11 rfl rfl ?_
  refine aw_cS2p dJ0_charAt_5068e_12 ml_RJ0_495 ⟨by decide, by decide, by decide, by decide⟩ (Nat.le_of_ble_eq_true rfl) (sp_lcharAt h0 h5 j0 j1) ?_
  exact aw_nret dJ0_charAt_5068e_15 c3 (by decide) (by decide) (qp_i rfl)
end WO
/-- where the reader and its text lie -/
def RtK (K : az_K) (rd tp : Int) : Prop := az_at K rd (2, 9) ∧ az_at K (rd + 8) (100, 4) ∧ az_at K tp (100, 400) ∧ K.2 rd 5 = some (rd + 8) ∧ (tp < rd ∨ rd + 8 < tp)
def CB (M : az_M) (rd tp : Int) (X : pTx) : Prop := M rd 0 = tp ∧ M rd 1 = X.2 ∧ 0 ≤ X.2 ∧ X.2 ≤ 400 ∧ ∀ i, 0 ≤ i → i < X.2 → M tp i = X.1 i ∧ 0 ≤ X.1 i ∧ X.1 i ≤ 255
/-- the token that is looked at, and the fault -/
def GS (M : az_M) (rd tp : Int) (X : pTx) (p : Int) (fe : pE) : Prop := CB M rd tp X ∧ (0 ≤ p ∧ p ≤ X.2) ∧ M rd 2 = p ∧ M rd 3 = tkE X p ∧ M rd 7 = fe.1 ∧ M rd 8 = fe.2
def frL (M M' : az_M) (rd : Int) : Prop := (∀ b, b ≠ rd → M' b = M b) ∧ ∀ j, j ≠ 2 → j ≠ 3 → j ≠ 7 → j ≠ 8 → M' rd j = M rd j
theorem frL.refl (M : az_M) (rd : Int) : frL M M rd := ⟨fun _ _ => rfl, fun _ _ _ _ _ => rfl⟩
theorem frL.trans {M M1 M2 : az_M} {rd : Int} (p : frL M M1 rd) (q : frL M1 M2 rd) : frL M M2 rd := ⟨fun b h => (q.1 b h).trans (p.1 b h), fun j a b c d => (q.2 j a b c d).trans (p.2 j a b c d)⟩
def nt (fe : pE) (k p : Int) : pE := if fe.1 = 0 then (k, p) else fe
section TK
variable {K : az_K} {rd tp : Int} {X : pTx} {p : Int} {fe : pE}
theorem CB.fr {M M' : az_M} (h : CB M rd tp X) (htp : tp ≠ rd) (e0 : M' rd 0 = M rd 0) (e1 : M' rd 1 = M rd 1) (o : M' tp = M tp) : CB M' rd tp X := ⟨e0.trans h.1, e1.trans h.2.1, h.2.2.1, h.2.2.2.1, by rw [o]; exact h.2.2.2.2⟩
theorem sp_cisLetter (hK : RtK K rd tp) (M : az_M) (hb : CB M rd tp X) (k : Int) (k0 : 0 ≤ k) : AM yX2_isLetter cX2_isLetter 2 (some .boolean) 0 0 0 [(1, rd), (0, k)] K M (qp K M (if k < X.2 ∧ 97 ≤ X.1 k ∧ X.1 k ≤ 122 then 1 else 0)) := by
  obtain ⟨kr, k8, kt, y5, hs⟩ := hK
  obtain ⟨b0, b1, b2, b3, b4⟩ := hb
  refine am_of (by decide) (Nat.le_of_ble_eq_true rfl) (L := [(1, rd), (0, k)]) rfl ?_
  refine aw_iload_n dX2_isLetter_0 rfl rfl ?_
  refine aw_aload_n dX2_isLetter_1 rfl rfl ⟨by decide, by decide⟩ ?_
  refine aw_gi 1 dX2_isLetter_2 fl_RX2_15 (by assumption) rfl rfl b1 ?_
  refine aw_icmp_ge (tgt := 34) dX2_isLetter_5 rfl (fun h5 => ?_) (fun h5 => ?_)
  · rw [if_neg (by omega)]
    refine aw_iconst dX2_isLetter_34 rfl ⟨by decide, by decide⟩ ?_
    exact aw_zret dX2_isLetter_35 (by omega) (by decide) (by decide) (qp_i rfl)
  · have v := (b4 k k0 (by omega)).1
    refine aw_aload_n dX2_isLetter_8 rfl rfl ⟨by decide, by decide⟩ ?_
    refine aw_gr 0 dX2_isLetter_9 fl_RX2_9 (by assumption) rfl rfl b0 ?_
    refine aw_iload_n dX2_isLetter_12 rfl rfl ?_
    refine aw_iv dX2_isLetter_13 (by assumption) (by omega) (by omega) v ?_
    refine aw_bipush dX2_isLetter_14 (by decide) ⟨by decide, by decide⟩ ?_
    refine aw_icmp_lt (tgt := 34) dX2_isLetter_16 rfl (fun h16 => ?_) (fun h16 => ?_)
    · refine aw_iconst dX2_isLetter_34 rfl ⟨by decide, by decide⟩ ?_
      exact aw_zret dX2_isLetter_35 (by omega) (by decide) (by decide) (qp_i (by omega))
    · refine aw_aload_n dX2_isLetter_19 rfl rfl ⟨by decide, by decide⟩ ?_
      refine aw_gr 0 dX2_isLetter_20 fl_RX2_9 (by assumption) rfl rfl b0 ?_
      refine aw_iload_n dX2_isLetter_23 rfl rfl ?_
      refine aw_iv dX2_isLetter_24 (by assumption) (by omega) (by omega) v ?_
      refine aw_bipush dX2_isLetter_25 (by decide) ⟨by decide, by decide⟩ ?_
      refine aw_icmp_gt (tgt := 34) dX2_isLetter_27 rfl (fun h27 => ?_) (fun h27 => ?_)
      · refine aw_iconst dX2_isLetter_34 rfl ⟨by decide, by decide⟩ ?_
        exact aw_zret dX2_isLetter_35 (by omega) (by decide) (by decide) (qp_i (by omega))
      · refine aw_iconst dX2_isLetter_30 rfl ⟨by decide, by decide⟩ ?_
        refine aw_goto (tgt := 35) dX2_isLetter_31 rfl ?_
        exact aw_zret dX2_isLetter_35 (by omega) (by decide) (by decide) (qp_i (by omega))
theorem sp_cisDigit (hK : RtK K rd tp) (M : az_M) (hb : CB M rd tp X) (k : Int) (k0 : 0 ≤ k) : AM yX2_isDigit cX2_isDigit 2 (some .boolean) 0 0 0 [(1, rd), (0, k)] K M (qp K M (if k < X.2 ∧ 48 ≤ X.1 k ∧ X.1 k ≤ 57 then 1 else 0)) := by
  obtain ⟨kr, k8, kt, y5, hs⟩ := hK
  obtain ⟨b0, b1, b2, b3, b4⟩ := hb
  refine am_of (by decide) (Nat.le_of_ble_eq_true rfl) (L := [(1, rd), (0, k)]) rfl ?_
  refine aw_iload_n dX2_isDigit_0 rfl rfl ?_
  refine aw_aload_n dX2_isDigit_1 rfl rfl ⟨by decide, by decide⟩ ?_
  refine aw_gi 1 dX2_isDigit_2 fl_RX2_15 (by assumption) rfl rfl b1 ?_
  refine aw_icmp_ge (tgt := 34) dX2_isDigit_5 rfl (fun h5 => ?_) (fun h5 => ?_)
  · rw [if_neg (by omega)]
    refine aw_iconst dX2_isDigit_34 rfl ⟨by decide, by decide⟩ ?_
    exact aw_zret dX2_isDigit_35 (by omega) (by decide) (by decide) (qp_i rfl)
  · have v := (b4 k k0 (by omega)).1
    refine aw_aload_n dX2_isDigit_8 rfl rfl ⟨by decide, by decide⟩ ?_
    refine aw_gr 0 dX2_isDigit_9 fl_RX2_9 (by assumption) rfl rfl b0 ?_
    refine aw_iload_n dX2_isDigit_12 rfl rfl ?_
    refine aw_iv dX2_isDigit_13 (by assumption) (by omega) (by omega) v ?_
    refine aw_bipush dX2_isDigit_14 (by decide) ⟨by decide, by decide⟩ ?_
    refine aw_icmp_lt (tgt := 34) dX2_isDigit_16 rfl (fun h16 => ?_) (fun h16 => ?_)
    · refine aw_iconst dX2_isDigit_34 rfl ⟨by decide, by decide⟩ ?_
      exact aw_zret dX2_isDigit_35 (by omega) (by decide) (by decide) (qp_i (by omega))
    · refine aw_aload_n dX2_isDigit_19 rfl rfl ⟨by decide, by decide⟩ ?_
      refine aw_gr 0 dX2_isDigit_20 fl_RX2_9 (by assumption) rfl rfl b0 ?_
      refine aw_iload_n dX2_isDigit_23 rfl rfl ?_
      refine aw_iv dX2_isDigit_24 (by assumption) (by omega) (by omega) v ?_
      refine aw_bipush dX2_isDigit_25 (by decide) ⟨by decide, by decide⟩ ?_
      refine aw_icmp_gt (tgt := 34) dX2_isDigit_27 rfl (fun h27 => ?_) (fun h27 => ?_)
      · refine aw_iconst dX2_isDigit_34 rfl ⟨by decide, by decide⟩ ?_
        exact aw_zret dX2_isDigit_35 (by omega) (by decide) (by decide) (qp_i (by omega))
      · refine aw_iconst dX2_isDigit_30 rfl ⟨by decide, by decide⟩ ?_
        refine aw_goto (tgt := 35) dX2_isDigit_31 rfl ?_
        exact aw_zret dX2_isDigit_35 (by omega) (by decide) (by decide) (qp_i (by omega))
set_option maxHeartbeats 1000000 in
theorem sp_advanceToken (hK : RtK K rd tp) (M : az_M) (hb : CB M rd tp X) (q : Int) (hq : M rd 3 = q) (q0 : 0 ≤ q) (q1 : q ≤ X.2) : AM yX2_advanceToken cX2_advanceToken 1 none 1 0 0 [(1, rd)] K M (qv K (fun M' => M' rd 2 = tkA X q ∧ M' rd 3 = tkE X (tkA X q) ∧ (∀ b, b ≠ rd → M' b = M b) ∧ ∀ j, j ≠ 2 → j ≠ 3 → M' rd j = M rd j)) := by
  have hK0 := hK
  obtain ⟨kr, k8, kt, y5, hs⟩ := hK
  have hb0 := hb
  obtain ⟨b0, b1, b2, b3, b4⟩ := hb
  refine am_of (by decide) (Nat.le_of_ble_eq_true rfl) (L := [(1, rd)]) rfl ?_
  have hin := tkA_in (X := X) q1
  generalize hR : tkA X q = R at hin ⊢
  unfold tkA at hR
  have hei := tkE_in (X := X) hin.2
  generalize hE : tkE X R = E at hei ⊢
  unfold tkE at hE
  have hCB : ∀ M2 : az_M, (∀ b, b ≠ rd → M2 b = M b) → (∀ j, j ≠ 2 → j ≠ 3 → M2 rd j = M rd j) → CB M2 rd tp X := fun M2 o j => hb0.fr (by omega) (j _ (by omega) (by omega)) (j _ (by omega) (by omega)) (o _ (by omega))
  generalize hQ : (fun M' : az_M => M' rd 2 = R ∧ M' rd 3 = E ∧ (∀ b, b ≠ rd → M' b = M b) ∧ ∀ j, j ≠ 2 → j ≠ 3 → M' rd j = M rd j) = Q
  have fin : ∀ M2 : az_M, M2 rd 2 = R → M2 rd 3 = E → (∀ b, b ≠ rd → M2 b = M b) → (∀ j, j ≠ 2 → j ≠ 3 → M2 rd j = M rd j) → AW az_P0 (az_Z (qv K Q) 0 0) (az_rm 1 0 0) yX2_advanceToken cX2_advanceToken 1 none 0 0 169 [(1, rd)] [] K M2 := by
    intro M2 e2 e3 o j
    refine aw_vret dX2_advanceToken_169 (by decide) (by decide) ⟨rfl, rfl, ?_⟩
    rw [← hQ]
    exact ⟨e2, e3, o, j⟩
  have letters : ∀ (d : Nat) (r : Int) (M2 : az_M), 0 ≤ r → r + d = X.2 → rn X 97 122 d r = E → M2 rd 3 = r → M2 rd 2 = R → (∀ b, b ≠ rd → M2 b = M b) → (∀ j, j ≠ 2 → j ≠ 3 → M2 rd j = M rd j) → AW az_P0 (az_Z (qv K Q) 0 0) (az_rm 1 0 0) yX2_advanceToken cX2_advanceToken 1 none 0 0 88 [(1, rd)] [] K M2 := by
    intro d
    induction d with
    | zero =>
      intro r M2 r0 hd hr e3 e2 o j
      have c1 := (hCB M2 o j).2.1
      refine aw_aload_n dX2_advanceToken_88 rfl rfl ⟨by decide, by decide⟩ ?_
      refine aw_gi 3 dX2_advanceToken_89 fl_RX2_22 (by assumption) rfl rfl e3 ?_
      refine aw_aload_n dX2_advanceToken_92 rfl rfl ⟨by decide, by decide⟩ ?_
      refine aw_gi 1 dX2_advanceToken_93 fl_RX2_15 (by assumption) rfl rfl c1 ?_
      refine aw_icmp_ge (tgt := 169) dX2_advanceToken_96 rfl (fun h96 => ?_) (fun h96 => absurd h96 (by omega))
      exact fin M2 e2 (e3.trans hr) o j
    | succ d ih =>
      intro r M2 r0 hd hr e3 e2 o j
      have cb := hCB M2 o j
      refine aw_aload_n dX2_advanceToken_88 rfl rfl ⟨by decide, by decide⟩ ?_
      refine aw_gi 3 dX2_advanceToken_89 fl_RX2_22 (by assumption) rfl rfl e3 ?_
      refine aw_aload_n dX2_advanceToken_92 rfl rfl ⟨by decide, by decide⟩ ?_
      refine aw_gi 1 dX2_advanceToken_93 fl_RX2_15 (by assumption) rfl rfl cb.2.1 ?_
      refine aw_icmp_ge (tgt := 169) dX2_advanceToken_96 rfl (fun h96 => absurd h96 (by omega)) (fun h96 => ?_)
      refine aw_aload_n dX2_advanceToken_99 rfl rfl ⟨by decide, by decide⟩ ?_
      refine aw_aload_n dX2_advanceToken_100 rfl rfl ⟨by decide, by decide⟩ ?_
      refine aw_gi 3 dX2_advanceToken_101 fl_RX2_22 (by assumption) rfl rfl e3 ?_
      refine aw_cV1p dX2_advanceToken_104 ml_RX2_70 (by assumption) (by decide) rfl rfl ⟨by decide, by decide, by decide, by decide⟩ (Nat.le_of_ble_eq_true rfl) (sp_cisLetter hK0 M2 cb r r0) ?_
      refine aw_if_eq (tgt := 169) dX2_advanceToken_107 rfl (fun h107 => ?_) (fun h107 => ?_)
      · have hno := if0 h107
        rw [rn_stop hno] at hr
        exact fin M2 e2 (e3.trans hr) o j
      · have hy := if1 h107
        rw [rn_step (by omega) hy.2] at hr
        refine aw_aload_n dX2_advanceToken_110 rfl rfl ⟨by decide, by decide⟩ ?_
        refine aw_dup dX2_advanceToken_111 ?_
        refine aw_gi 3 dX2_advanceToken_112 fl_RX2_22 (by assumption) rfl rfl e3 ?_
        refine aw_iconst dX2_advanceToken_115 rfl ⟨by decide, by decide⟩ ?_
        refine aw_iadd dX2_advanceToken_116 (az_wr_id (by omega) (by omega)) ?_
        refine aw_pi 3 dX2_advanceToken_117 fl_RX2_22 (by assumption) rfl rfl ?_
        refine aw_goto (tgt := 88) dX2_advanceToken_120 rfl ?_
        exact ih (r + 1) _ (by omega) (by omega) hr (az_up_s _ _ _ _) (by rw [az_up_i _ _ _ _ (by omega)]; exact e2) (fun b hb => by rw [up_oth _ _ _ hb]; exact o b hb) (fun k h2 h3 => by rw [az_up_i _ _ _ _ h3]; exact j k h2 h3)
  have digits : ∀ (d : Nat) (r : Int) (M2 : az_M), 0 ≤ r → r + d = X.2 → rn X 48 57 d r = E → M2 rd 3 = r → M2 rd 2 = R → (∀ b, b ≠ rd → M2 b = M b) → (∀ j, j ≠ 2 → j ≠ 3 → M2 rd j = M rd j) → AW az_P0 (az_Z (qv K Q) 0 0) (az_rm 1 0 0) yX2_advanceToken cX2_advanceToken 1 none 0 0 134 [(1, rd)] [] K M2 := by
    intro d
    induction d with
    | zero =>
      intro r M2 r0 hd hr e3 e2 o j
      have c1 := (hCB M2 o j).2.1
      refine aw_aload_n dX2_advanceToken_134 rfl rfl ⟨by decide, by decide⟩ ?_
      refine aw_gi 3 dX2_advanceToken_135 fl_RX2_22 (by assumption) rfl rfl e3 ?_
      refine aw_aload_n dX2_advanceToken_138 rfl rfl ⟨by decide, by decide⟩ ?_
      refine aw_gi 1 dX2_advanceToken_139 fl_RX2_15 (by assumption) rfl rfl c1 ?_
      refine aw_icmp_ge (tgt := 169) dX2_advanceToken_142 rfl (fun h142 => ?_) (fun h142 => absurd h142 (by omega))
      exact fin M2 e2 (e3.trans hr) o j
    | succ d ih =>
      intro r M2 r0 hd hr e3 e2 o j
      have cb := hCB M2 o j
      refine aw_aload_n dX2_advanceToken_134 rfl rfl ⟨by decide, by decide⟩ ?_
      refine aw_gi 3 dX2_advanceToken_135 fl_RX2_22 (by assumption) rfl rfl e3 ?_
      refine aw_aload_n dX2_advanceToken_138 rfl rfl ⟨by decide, by decide⟩ ?_
      refine aw_gi 1 dX2_advanceToken_139 fl_RX2_15 (by assumption) rfl rfl cb.2.1 ?_
      refine aw_icmp_ge (tgt := 169) dX2_advanceToken_142 rfl (fun h142 => absurd h142 (by omega)) (fun h142 => ?_)
      refine aw_aload_n dX2_advanceToken_145 rfl rfl ⟨by decide, by decide⟩ ?_
      refine aw_aload_n dX2_advanceToken_146 rfl rfl ⟨by decide, by decide⟩ ?_
      refine aw_gi 3 dX2_advanceToken_147 fl_RX2_22 (by assumption) rfl rfl e3 ?_
      refine aw_cV1p dX2_advanceToken_150 ml_RX2_74 (by assumption) (by decide) rfl rfl ⟨by decide, by decide, by decide, by decide⟩ (Nat.le_of_ble_eq_true rfl) (sp_cisDigit hK0 M2 cb r r0) ?_
      refine aw_if_eq (tgt := 169) dX2_advanceToken_153 rfl (fun h153 => ?_) (fun h153 => ?_)
      · have hno := if0 h153
        rw [rn_stop hno] at hr
        exact fin M2 e2 (e3.trans hr) o j
      · have hy := if1 h153
        rw [rn_step (by omega) hy.2] at hr
        refine aw_aload_n dX2_advanceToken_156 rfl rfl ⟨by decide, by decide⟩ ?_
        refine aw_dup dX2_advanceToken_157 ?_
        refine aw_gi 3 dX2_advanceToken_158 fl_RX2_22 (by assumption) rfl rfl e3 ?_
        refine aw_iconst dX2_advanceToken_161 rfl ⟨by decide, by decide⟩ ?_
        refine aw_iadd dX2_advanceToken_162 (az_wr_id (by omega) (by omega)) ?_
        refine aw_pi 3 dX2_advanceToken_163 fl_RX2_22 (by assumption) rfl rfl ?_
        refine aw_goto (tgt := 134) dX2_advanceToken_166 rfl ?_
        exact ih (r + 1) _ (by omega) (by omega) hr (az_up_s _ _ _ _) (by rw [az_up_i _ _ _ _ (by omega)]; exact e2) (fun b hb => by rw [up_oth _ _ _ hb]; exact o b hb) (fun k h2 h3 => by rw [az_up_i _ _ _ _ h3]; exact j k h2 h3)
  have rest : ∀ M2 : az_M, M2 rd 2 = R → (∀ b, b ≠ rd → M2 b = M b) → (∀ j, j ≠ 2 → j ≠ 3 → M2 rd j = M rd j) → AW az_P0 (az_Z (qv K Q) 0 0) (az_rm 1 0 0) yX2_advanceToken cX2_advanceToken 1 none 0 0 60 [(1, rd)] [] K M2 := by
    intro M2 e2 o j
    have cb := hCB M2 o j
    have o3 : ∀ b, b ≠ rd → az_up M2 rd 3 (min (R + 1) X.2) b = M b := fun b hb => by rw [up_oth _ _ _ hb]; exact o b hb
    have j3 : ∀ k, k ≠ 2 → k ≠ 3 → az_up M2 rd 3 (min (R + 1) X.2) rd k = M rd k := fun k h2 h3 => by rw [az_up_i _ _ _ _ h3]; exact j k h2 h3
    have e23 : az_up M2 rd 3 (min (R + 1) X.2) rd 2 = R := by rw [az_up_i _ _ _ _ (by omega)]; exact e2
    have e33 : az_up M2 rd 3 (min (R + 1) X.2) rd 3 = min (R + 1) X.2 := az_up_s _ _ _ _
    refine aw_aload_n dX2_advanceToken_60 rfl rfl ⟨by decide, by decide⟩ ?_
    refine aw_aload_n dX2_advanceToken_61 rfl rfl ⟨by decide, by decide⟩ ?_
    refine aw_gi 2 dX2_advanceToken_62 fl_RX2_19 (by assumption) rfl rfl e2 ?_
    refine aw_iconst dX2_advanceToken_65 rfl ⟨by decide, by decide⟩ ?_
    refine aw_iadd dX2_advanceToken_66 (az_wr_id (by omega) (by omega)) ?_
    refine aw_aload_n dX2_advanceToken_67 rfl rfl ⟨by decide, by decide⟩ ?_
    refine aw_gi 1 dX2_advanceToken_68 fl_RX2_15 (by assumption) rfl rfl cb.2.1 ?_
    refine aw_mmin dX2_advanceToken_71 mm_RX2_64 ⟨by decide, Nat.le_of_ble_eq_true rfl, by decide, by decide⟩ ?_
    refine aw_pi 3 dX2_advanceToken_74 fl_RX2_22 (by assumption) rfl rfl ?_
    generalize az_up M2 rd 3 (min (R + 1) X.2) = M3 at o3 j3 e23 e33 ⊢
    have cb3 := hCB M3 o3 j3
    refine aw_aload_n dX2_advanceToken_77 rfl rfl ⟨by decide, by decide⟩ ?_
    refine aw_aload_n dX2_advanceToken_78 rfl rfl ⟨by decide, by decide⟩ ?_
    refine aw_gi 2 dX2_advanceToken_79 fl_RX2_19 (by assumption) rfl rfl e23 ?_
    refine aw_cV1p dX2_advanceToken_82 ml_RX2_70 (by assumption) (by decide) rfl rfl ⟨by decide, by decide, by decide, by decide⟩ (Nat.le_of_ble_eq_true rfl) (sp_cisLetter hK0 M3 cb3 R (by omega)) ?_
    refine aw_if_eq (tgt := 123) dX2_advanceToken_85 rfl (fun h85 => ?_) (fun h85 => ?_)
    · have hnl := if0 h85
      refine aw_aload_n dX2_advanceToken_123 rfl rfl ⟨by decide, by decide⟩ ?_
      refine aw_aload_n dX2_advanceToken_124 rfl rfl ⟨by decide, by decide⟩ ?_
      refine aw_gi 2 dX2_advanceToken_125 fl_RX2_19 (by assumption) rfl rfl e23 ?_
      refine aw_cV1p dX2_advanceToken_128 ml_RX2_74 (by assumption) (by decide) rfl rfl ⟨by decide, by decide, by decide, by decide⟩ (Nat.le_of_ble_eq_true rfl) (sp_cisDigit hK0 M3 cb3 R (by omega)) ?_
      refine aw_if_eq (tgt := 169) dX2_advanceToken_131 rfl (fun h131 => ?_) (fun h131 => ?_)
      · have hnd := if0 h131
        refine fin M3 e23 (e33.trans ?_) o3 j3
        by_cases w : X.2 ≤ R
        · rw [if_pos w] at hE; omega
        · rw [if_neg w, if_neg (fun q => hnl ⟨by omega, q⟩), if_neg (fun q => hnd ⟨by omega, q⟩)] at hE
          omega
      · have hd := if1 h131
        have hlt := hd.1
        rw [if_neg (by omega), if_neg (fun q => hnl ⟨by omega, q⟩), if_pos hd.2] at hE
        obtain ⟨d, hdd⟩ : ∃ d : Nat, (X.2 - R).toNat = d + 1 := ⟨(X.2 - R).toNat - 1, by omega⟩
        rw [hdd, rn_step (by omega) hd.2] at hE
        exact digits d (R + 1) M3 (by omega) (by omega) hE (e33.trans (by omega)) e23 o3 j3
    · have hl := if1 h85
      have hlt := hl.1
      rw [if_neg (by omega), if_pos hl.2] at hE
      obtain ⟨d, hdd⟩ : ∃ d : Nat, (X.2 - R).toNat = d + 1 := ⟨(X.2 - R).toNat - 1, by omega⟩
      rw [hdd, rn_step (by omega) hl.2] at hE
      exact letters d (R + 1) M3 (by omega) (by omega) hE (e33.trans (by omega)) e23 o3 j3
  have blanks : ∀ (d : Nat) (r : Int) (M2 : az_M), 0 ≤ r → r + d = X.2 → skp X d r = R → M2 rd 2 = r → (∀ b, b ≠ rd → M2 b = M b) → (∀ j, j ≠ 2 → j ≠ 3 → M2 rd j = M rd j) → AW az_P0 (az_Z (qv K Q) 0 0) (az_rm 1 0 0) yX2_advanceToken cX2_advanceToken 1 none 0 0 8 [(1, rd)] [] K M2 := by
    intro d
    induction d with
    | zero =>
      intro r M2 r0 hd hr e2 o j
      replace hr : r = R := hr
      refine aw_aload_n dX2_advanceToken_8 rfl rfl ⟨by decide, by decide⟩ ?_
      refine aw_gi 2 dX2_advanceToken_9 fl_RX2_19 (by assumption) rfl rfl e2 ?_
      refine aw_aload_n dX2_advanceToken_12 rfl rfl ⟨by decide, by decide⟩ ?_
      refine aw_gi 1 dX2_advanceToken_13 fl_RX2_15 (by assumption) rfl rfl (hCB M2 o j).2.1 ?_
      refine aw_icmp_ge (tgt := 60) dX2_advanceToken_16 rfl (fun h16 => ?_) (fun h16 => absurd h16 (by omega))
      exact rest M2 (e2.trans hr) o j
    | succ d ih =>
      intro r M2 r0 hd hr e2 o j
      have cb := hCB M2 o j
      have v27 := (cb.2.2.2.2 r r0 (by omega)).1
      have more : (X.1 r = 32 ∨ X.1 r = 10) → AW az_P0 (az_Z (qv K Q) 0 0) (az_rm 1 0 0) yX2_advanceToken cX2_advanceToken 1 none 0 0 47 [(1, rd)] [] K M2 := by
        intro hbl
        rw [skp_step ⟨by omega, hbl⟩] at hr
        refine aw_aload_n dX2_advanceToken_47 rfl rfl ⟨by decide, by decide⟩ ?_
        refine aw_dup dX2_advanceToken_48 ?_
        refine aw_gi 2 dX2_advanceToken_49 fl_RX2_19 (by assumption) rfl rfl e2 ?_
        refine aw_iconst dX2_advanceToken_52 rfl ⟨by decide, by decide⟩ ?_
        refine aw_iadd dX2_advanceToken_53 (az_wr_id (by omega) (by omega)) ?_
        refine aw_pi 2 dX2_advanceToken_54 fl_RX2_19 (by assumption) rfl rfl ?_
        refine aw_goto (tgt := 8) dX2_advanceToken_57 rfl ?_
        exact ih (r + 1) _ (by omega) (by omega) hr (az_up_s _ _ _ _) (fun b hb => by rw [up_oth _ _ _ hb]; exact o b hb) (fun k h2 h3 => by rw [az_up_i _ _ _ _ h2]; exact j k h2 h3)
      refine aw_aload_n dX2_advanceToken_8 rfl rfl ⟨by decide, by decide⟩ ?_
      refine aw_gi 2 dX2_advanceToken_9 fl_RX2_19 (by assumption) rfl rfl e2 ?_
      refine aw_aload_n dX2_advanceToken_12 rfl rfl ⟨by decide, by decide⟩ ?_
      refine aw_gi 1 dX2_advanceToken_13 fl_RX2_15 (by assumption) rfl rfl cb.2.1 ?_
      refine aw_icmp_ge (tgt := 60) dX2_advanceToken_16 rfl (fun h16 => absurd h16 (by omega)) (fun h16 => ?_)
      refine aw_aload_n dX2_advanceToken_19 rfl rfl ⟨by decide, by decide⟩ ?_
      refine aw_gr 0 dX2_advanceToken_20 fl_RX2_9 (by assumption) rfl rfl cb.1 ?_
      refine aw_aload_n dX2_advanceToken_23 rfl rfl ⟨by decide, by decide⟩ ?_
      refine aw_gi 2 dX2_advanceToken_24 fl_RX2_19 (by assumption) rfl rfl e2 ?_
      refine aw_iv dX2_advanceToken_27 (by assumption) (by omega) (by omega) v27 ?_
      refine aw_bipush dX2_advanceToken_28 (by decide) ⟨by decide, by decide⟩ ?_
      refine aw_icmp_eq (tgt := 47) dX2_advanceToken_30 rfl (fun h30 => ?_) (fun h30 => ?_)
      · exact more (Or.inl h30)
      · refine aw_aload_n dX2_advanceToken_33 rfl rfl ⟨by decide, by decide⟩ ?_
        refine aw_gr 0 dX2_advanceToken_34 fl_RX2_9 (by assumption) rfl rfl cb.1 ?_
        refine aw_aload_n dX2_advanceToken_37 rfl rfl ⟨by decide, by decide⟩ ?_
        refine aw_gi 2 dX2_advanceToken_38 fl_RX2_19 (by assumption) rfl rfl e2 ?_
        refine aw_iv dX2_advanceToken_41 (by assumption) (by omega) (by omega) v27 ?_
        refine aw_bipush dX2_advanceToken_42 (by decide) ⟨by decide, by decide⟩ ?_
        refine aw_icmp_ne (tgt := 60) dX2_advanceToken_44 rfl (fun h44 => ?_) (fun h44 => ?_)
        · rw [skp_stop (fun w => by omega)] at hr
          exact rest M2 (e2.trans hr) o j
        · exact more (Or.inr h44)
  refine aw_aload_n dX2_advanceToken_0 rfl rfl ⟨by decide, by decide⟩ ?_
  refine aw_aload_n dX2_advanceToken_1 rfl rfl ⟨by decide, by decide⟩ ?_
  refine aw_gi 3 dX2_advanceToken_2 fl_RX2_22 (by assumption) rfl rfl hq ?_
  refine aw_pi 2 dX2_advanceToken_5 fl_RX2_19 (by assumption) rfl rfl ?_
  exact blanks (X.2 - q).toNat q _ q0 (by omega) hR (az_up_s _ _ _ _) (fun b hb => up_oth _ _ _ hb) (fun j h2 h3 => az_up_i _ _ _ _ h2)
theorem GS.adv {M M' : az_M} (hK : RtK K rd tp) (h : GS M rd tp X p fe) (hM : M' rd 2 = tkA X (tkE X p) ∧ M' rd 3 = tkE X (tkA X (tkE X p)) ∧ (∀ b, b ≠ rd → M' b = M b) ∧ ∀ j, j ≠ 2 → j ≠ 3 → M' rd j = M rd j) : GS M' rd tp X (tkA X (tkE X p)) fe ∧ frL M M' rd := by
  obtain ⟨h1, h2, h3, h4, h5, h6⟩ := h
  obtain ⟨m1, m2, m3, m4⟩ := hM
  have hs := hK.2.2.2.2
  have e1 := tkE_in (X := X) h2.2
  have e2 := tkA_in (X := X) e1.2.1
  exact ⟨⟨h1.fr (by omega) (m4 _ (by omega) (by omega)) (m4 _ (by omega) (by omega)) (m3 _ (by omega)), ⟨by omega, e2.2⟩, m1, m2, (m4 _ (by omega) (by omega)).trans h5, (m4 _ (by omega) (by omega)).trans h6⟩, m3, fun j a b _ _ => m4 j a b⟩
theorem sp_advG (hK : RtK K rd tp) (M : az_M) (h : GS M rd tp X p fe) : AM yX2_advanceToken cX2_advanceToken 1 none 1 0 0 [(1, rd)] K M (qv K (fun M' => M' rd 2 = tkA X (tkE X p) ∧ M' rd 3 = tkE X (tkA X (tkE X p)) ∧ (∀ b, b ≠ rd → M' b = M b) ∧ ∀ j, j ≠ 2 → j ≠ 3 → M' rd j = M rd j)) := by
  have e1 := tkE_in (X := X) h.2.1.2
  exact sp_advanceToken hK M h.1 (tkE X p) h.2.2.2.1 (by have := h.2.1.1; omega) e1.2.1
theorem sp_note (hK : RtK K rd tp) (M : az_M) (h : GS M rd tp X p fe) (k : Int) : AM yX2_note cX2_note 2 none 0 0 0 [(1, rd), (0, k)] K M (qv K (fun M' => GS M' rd tp X p (nt fe k p) ∧ frL M M' rd)) := by
  obtain ⟨kr, k8, kt, y5, hs⟩ := hK
  refine am_of (by decide) (Nat.le_of_ble_eq_true rfl) (L := [(1, rd), (0, k)]) rfl ?_
  obtain ⟨h1, h2, h3, h4, h5, h6⟩ := h
  unfold nt
  refine aw_aload_n dX2_note_0 rfl rfl ⟨by decide, by decide⟩ ?_
  refine aw_gi 7 dX2_note_1 fl_RX2_38 (by assumption) rfl rfl h5 ?_
  refine aw_if_ne (tgt := 20) dX2_note_4 rfl (fun h4 => ?_) (fun h4 => ?_)
  · rw [if_neg h4]
    exact aw_vret dX2_note_20 (by decide) (by decide) ⟨rfl, rfl, ⟨h1, h2, h3, by assumption, h5, h6⟩, frL.refl M rd⟩
  · rw [if_pos (by assumption)]
    have v14 : az_up M rd 7 k rd 2 = p := by rw [az_up_i _ _ _ _ (by omega)]; exact h3
    refine aw_aload_n dX2_note_7 rfl rfl ⟨by decide, by decide⟩ ?_
    refine aw_iload_n dX2_note_8 rfl rfl ?_
    refine aw_pi 7 dX2_note_9 fl_RX2_38 (by assumption) rfl rfl ?_
    refine aw_aload_n dX2_note_12 rfl rfl ⟨by decide, by decide⟩ ?_
    refine aw_aload_n dX2_note_13 rfl rfl ⟨by decide, by decide⟩ ?_
    refine aw_gi 2 dX2_note_14 fl_RX2_19 (by assumption) rfl rfl v14 ?_
    refine aw_pi 8 dX2_note_17 fl_RX2_41 (by assumption) rfl rfl ?_
    refine aw_vret dX2_note_20 (by decide) (by decide) ⟨rfl, rfl, ⟨h1.fr (by omega) ?_ ?_ ?_, h2, ?_, ?_, ?_, ?_⟩, fun b hb => ?_, fun j j1 j2 j3 j4 => ?_⟩
    · rw [az_up_i _ _ _ _ (by omega), az_up_i _ _ _ _ (by omega)]
    · rw [az_up_i _ _ _ _ (by omega), az_up_i _ _ _ _ (by omega)]
    · rw [up_oth _ _ _ (by omega), up_oth _ _ _ (by omega)]
    · rw [az_up_i _ _ _ _ (by omega)]; exact v14
    · rw [az_up_i _ _ _ _ (by omega), az_up_i _ _ _ _ (by omega)]; assumption
    · rw [az_up_i _ _ _ _ (by omega), az_up_s]
    · rw [az_up_s]
    · rw [up_oth _ _ _ hb, up_oth _ _ _ hb]
    · rw [az_up_i _ _ _ _ j4, az_up_i _ _ _ _ j3]
theorem sp_cisSign (hK : RtK K rd tp) (M : az_M) (h : GS M rd tp X p fe) (c : Int) : AM yX2_isSign cX2_isSign 2 (some .boolean) 0 0 0 [(1, rd), (0, c)] K M (qp K M (if p < X.2 ∧ X.1 p = c then 1 else 0)) := by
  obtain ⟨kr, k8, kt, y5, hs⟩ := hK
  refine am_of (by decide) (Nat.le_of_ble_eq_true rfl) (L := [(1, rd), (0, c)]) rfl ?_
  obtain ⟨h1, h2, h3, h4, h5, h6⟩ := h
  refine aw_aload_n dX2_isSign_0 rfl rfl ⟨by decide, by decide⟩ ?_
  refine aw_gi 2 dX2_isSign_1 fl_RX2_19 (by assumption) rfl rfl h3 ?_
  refine aw_aload_n dX2_isSign_4 rfl rfl ⟨by decide, by decide⟩ ?_
  refine aw_gi 1 dX2_isSign_5 fl_RX2_15 (by assumption) rfl rfl h1.2.1 ?_
  refine aw_icmp_ge (tgt := 28) dX2_isSign_8 rfl (fun h8 => ?_) (fun h8 => ?_)
  · rw [if_neg (by omega)]
    refine aw_iconst dX2_isSign_28 rfl ⟨by decide, by decide⟩ ?_
    exact aw_zret dX2_isSign_29 (by omega) (by decide) (by decide) (qp_i rfl)
  · have v := (h1.2.2.2.2 p h2.1 (by omega)).1
    have c4 := h1.2.2.2.1
    refine aw_aload_n dX2_isSign_11 rfl rfl ⟨by decide, by decide⟩ ?_
    refine aw_gr 0 dX2_isSign_12 fl_RX2_9 (by assumption) rfl rfl h1.1 ?_
    refine aw_aload_n dX2_isSign_15 rfl rfl ⟨by decide, by decide⟩ ?_
    refine aw_gi 2 dX2_isSign_16 fl_RX2_19 (by assumption) rfl rfl h3 ?_
    refine aw_iv dX2_isSign_19 (by assumption) (by omega) (by omega) v ?_
    refine aw_iload_n dX2_isSign_20 rfl rfl ?_
    refine aw_icmp_ne (tgt := 28) dX2_isSign_21 rfl (fun h21 => ?_) (fun h21 => ?_)
    · refine aw_iconst dX2_isSign_28 rfl ⟨by decide, by decide⟩ ?_
      exact aw_zret dX2_isSign_29 (by omega) (by decide) (by decide) (qp_i (by omega))
    · refine aw_iconst dX2_isSign_24 rfl ⟨by decide, by decide⟩ ?_
      refine aw_goto (tgt := 29) dX2_isSign_25 rfl ?_
      exact aw_zret dX2_isSign_29 (by omega) (by decide) (by decide) (qp_i (by omega))
/-- the word's letters stand there -/
abbrev isT (X : pTx) (p i : Int) : Prop := tkE X p - p = wLn i ∧ ∀ j : Nat, (j : Int) < wLn i → X.1 (p + j) = wCh i j
set_option maxHeartbeats 1000000 in
theorem sp_cisWord (hK : RtK K rd tp) (M : az_M) (h : GS M rd tp X p fe) (i : Int) (h0 : 0 ≤ i) (h5 : i < 5) : AM yX2_isWord cX2_isWord 3 (some .boolean) 4 0 0 [(1, rd), (2, i)] K M (qi K (fun z M' => tv z (isT X p i) ∧ M' = M)) := by
  obtain ⟨kr, k8, kt, y5, hs⟩ := hK
  refine am_of (by decide) (Nat.le_of_ble_eq_true rfl) (L := [(1, rd), (2, i), (9, 0)]) rfl ?_
  obtain ⟨h1, h2, h3, h4, h7, h8⟩ := h
  have hl := wLn_in h0 h5
  have he := tkE_in (X := X) h2.2
  have c2 := h1.2.2.1
  have c3 := h1.2.2.2.1
  refine aw_aload_n dX2_isWord_0 rfl rfl ⟨by decide, by decide⟩ ?_
  refine aw_gi 3 dX2_isWord_1 fl_RX2_22 (by assumption) rfl rfl h4 ?_
  refine aw_aload_n dX2_isWord_4 rfl rfl ⟨by decide, by decide⟩ ?_
  refine aw_gi 2 dX2_isWord_5 fl_RX2_19 (by assumption) rfl rfl h3 ?_
  refine aw_isub dX2_isWord_8 (az_wr_id (by omega) (by omega)) ?_
  refine aw_aload_n dX2_isWord_9 rfl rfl ⟨by decide, by decide⟩ ?_
  refine aw_cT0p dX2_isWord_10 ml_RX2_77 h0 h5 rfl ⟨by decide, by decide, by decide, by decide⟩ (Nat.le_of_ble_eq_true rfl) (sp_strLength h0 h5) ?_
  refine aw_icmp_eq (tgt := 18) dX2_isWord_13 rfl (fun h13 => ?_) (fun h13 => ?_)
  · refine aw_iconst dX2_isWord_18 rfl ⟨by decide, by decide⟩ ?_
    refine aw_istore_n dX2_isWord_19 rfl (by decide) ?_
    have loop : ∀ (d j : Nat), (j : Int) + d = wLn i → (∀ k : Nat, k < j → X.1 (p + k) = wCh i k) → AW az_P0 (az_Z (qi K (fun z M' => tv z (isT X p i) ∧ M' = M)) 0 0) (az_rm 4 0 0) yX2_isWord cX2_isWord 3 (some .boolean) 0 0 20 [(1, rd), (2, i), (0, (j : Int))] [] K M := by
      intro d
      induction d with
      | zero =>
        intro j hj hk
        refine aw_iload_n dX2_isWord_20 rfl rfl ?_
        refine aw_aload_n dX2_isWord_21 rfl rfl ⟨by decide, by decide⟩ ?_
        refine aw_cT0p dX2_isWord_22 ml_RX2_77 h0 h5 rfl ⟨by decide, by decide, by decide, by decide⟩ (Nat.le_of_ble_eq_true rfl) (sp_strLength h0 h5) ?_
        refine aw_icmp_ge (tgt := 55) dX2_isWord_25 rfl (fun h25 => ?_) (fun h25 => absurd h25 (by omega))
        refine aw_iconst dX2_isWord_55 rfl ⟨by decide, by decide⟩ ?_
        exact aw_zret dX2_isWord_56 (by omega) (by decide) (by decide) ⟨_, rfl, rfl, tv.t ⟨by omega, fun k hk' => hk k (by omega)⟩, rfl⟩
      | succ d ih =>
        intro j hj hk
        have v38 := (h1.2.2.2.2 (p + j) (by omega) (by omega)).1
        refine aw_iload_n dX2_isWord_20 rfl rfl ?_
        refine aw_aload_n dX2_isWord_21 rfl rfl ⟨by decide, by decide⟩ ?_
        refine aw_cT0p dX2_isWord_22 ml_RX2_77 h0 h5 rfl ⟨by decide, by decide, by decide, by decide⟩ (Nat.le_of_ble_eq_true rfl) (sp_strLength h0 h5) ?_
        refine aw_icmp_ge (tgt := 55) dX2_isWord_25 rfl (fun h25 => absurd h25 (by omega)) (fun h25 => ?_)
        refine aw_aload_n dX2_isWord_28 rfl rfl ⟨by decide, by decide⟩ ?_
        refine aw_gr 0 dX2_isWord_29 fl_RX2_9 (by assumption) rfl rfl h1.1 ?_
        refine aw_aload_n dX2_isWord_32 rfl rfl ⟨by decide, by decide⟩ ?_
        refine aw_gi 2 dX2_isWord_33 fl_RX2_19 (by assumption) rfl rfl h3 ?_
        refine aw_iload_n dX2_isWord_36 rfl rfl ?_
        refine aw_iadd dX2_isWord_37 (az_wr_id (by omega) (by omega)) ?_
        refine aw_iv dX2_isWord_38 (by assumption) (by omega) (by omega) v38 ?_
        refine aw_aload_n dX2_isWord_39 rfl rfl ⟨by decide, by decide⟩ ?_
        refine aw_iload_n dX2_isWord_40 rfl rfl ?_
        refine aw_cT1p dX2_isWord_41 ml_RX2_82 h0 h5 rfl ⟨by decide, by decide, by decide, by decide⟩ (Nat.le_of_ble_eq_true rfl) (sp_charAt h0 h5 (by omega) (by omega)) ?_
        refine aw_icmp_eq (tgt := 49) dX2_isWord_44 rfl (fun h44 => ?_) (fun h44 => ?_)
        · refine aw_iinc dX2_isWord_49 rfl (az_wr_id (by omega) (by omega)) (by decide) ?_
          refine aw_goto (tgt := 20) dX2_isWord_52 rfl ?_
          refine ih (j + 1) (by omega) (fun k hk' => ?_)
          by_cases e : k = j
          · rw [e]; assumption
          · exact hk k (by omega)
        · refine aw_iconst dX2_isWord_47 rfl ⟨by decide, by decide⟩ ?_
          exact aw_zret dX2_isWord_48 (by omega) (by decide) (by decide) ⟨_, rfl, rfl, tv.f (fun q => by have := q.2 j (by omega); contradiction), rfl⟩
    exact loop (wLn i).toNat 0 (by omega) (fun k hk => absurd hk (Nat.not_lt_zero _))
  · refine aw_iconst dX2_isWord_16 rfl ⟨by decide, by decide⟩ ?_
    exact aw_zret dX2_isWord_17 (by omega) (by decide) (by decide) ⟨_, rfl, rfl, tv.f (fun q => by have := q.1; omega), rfl⟩
theorem tkW (h : tok X p = 2) : tkE X p = rn X 97 122 (X.2 - p).toNat p := by
  have := tok2.mp h
  unfold tkE
  rw [if_neg (by omega), if_pos this.2]
theorem wv1 (X : pTx) (p : Int) : wv X p 1 = X.1 p - 96 := by show 32 * 0 + X.1 (p + ((0 : Nat) : Int)) - 96 = _; rw [show p + ((0 : Nat) : Int) = p by omega]; omega
theorem wvS (X : pTx) (p : Int) (n : Nat) : wv X p (n + 1) = 32 * wv X p n + X.1 (p + n) - 96 := rfl
/-- a word's letters, all of them -/
theorem wd_all (hp : p ≤ X.2) (h : tok X p = 2) : ∀ j : Nat, (j : Int) < tkE X p - p → 97 ≤ X.1 (p + j) ∧ X.1 (p + j) ≤ 122 := by
  intro j hj
  rw [tkW h] at hj
  exact rn_all 97 122 (X.2 - p).toNat p (p + j) (by omega) (by omega)
end TK
