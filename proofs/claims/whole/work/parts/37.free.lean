/-! objects that come free; sums -/
def sumN : Nat → (Int → Int) → Int
  | 0, _ => 0
  | n + 1, f => sumN n f + f n
theorem sumN_congr {f f' : Int → Int} : ∀ n : Nat, (∀ i : Nat, i < n → f i = f' i) → sumN n f = sumN n f' := by
  intro n
  induction n with
  | zero => intro _; rfl
  | succ n ih =>
    intro h
    show sumN n f + f n = sumN n f' + f' n
    rw [ih (fun i hi => h i (by omega)), h n (by omega)]
theorem sumN_add (f f' : Int → Int) : ∀ n : Nat, sumN n (fun i => f i + f' i) = sumN n f + sumN n f' := by
  intro n
  induction n with
  | zero => rfl
  | succ n ih =>
    show sumN n (fun i => f i + f' i) + (f n + f' n) = (sumN n f + f n) + (sumN n f' + f' n)
    rw [ih]
    omega
theorem sumN_zero : ∀ n : Nat, sumN n (fun _ => 0) = 0 := by
  intro n
  induction n with
  | zero => rfl
  | succ n ih => show sumN n (fun _ => 0) + 0 = 0; rw [ih]; rfl
theorem sumN_le {f : Int → Int} {c : Int} : ∀ n : Nat, (∀ i : Nat, i < n → 0 ≤ f i ∧ f i ≤ c) → 0 ≤ sumN n f ∧ sumN n f ≤ c * n := by
  intro n
  induction n with
  | zero => intro _; simp [sumN]
  | succ n ih =>
    intro h
    have h1 := ih (fun i hi => h i (by omega))
    have h2 := h n (by omega)
    show 0 ≤ sumN n f + f n ∧ sumN n f + f n ≤ c * ((n + 1 : Nat) : Int)
    have h3 : c * ((n + 1 : Nat) : Int) = c * n + c := by
      rw [Int.natCast_add, Int.mul_add]; simp
    omega
theorem sumN_sumI (J : List Int) (F : Int → Int → Int) (n : Nat) : sumN n (fun p => sumI J (fun j => F j p)) = sumI J (fun j => sumN n (fun p => F j p)) := by
  induction J with
  | nil => exact sumN_zero n
  | cons j t ih =>
    show sumN n (fun p => F j p + sumI t (fun j => F j p)) = sumN n (fun p => F j p) + sumI t (fun j => sumN n (fun p => F j p))
    rw [sumN_add, ih]
theorem sumI_congr {f f' : Int → Int} : ∀ J : List Int, (∀ j ∈ J, f j = f' j) → sumI J f = sumI J f' := by
  intro J
  induction J with
  | nil => intro _; rfl
  | cons j t ih =>
    intro h
    show f j + sumI t f = f' j + sumI t f'
    rw [h j List.mem_cons_self, ih (fun i hi => h i (List.mem_cons_of_mem _ hi))]
/-- how many there are of so many pages -/
theorem sum_pages (P : Nat) : ∀ l : List Int, (∀ n ∈ l, 0 ≤ n / 8 ∧ n / 8 < P) → sumN P (fun p => ((l.filter (fun n => n / 8 == p)).length : Int)) = (l.length : Int) := by
  intro l
  induction l with
  | nil => intro _; exact sumN_zero P
  | cons x t ih =>
    intro h
    have h1 := ih (fun n hn => h n (List.mem_cons_of_mem _ hn))
    have hx := h x List.mem_cons_self
    have e : ∀ p : Int, (((x :: t).filter (fun n => n / 8 == p)).length : Int) = (if x / 8 = p then 1 else 0) + ((t.filter (fun n => n / 8 == p)).length : Int) := by
      intro p
      rw [List.filter_cons]
      by_cases hp : x / 8 = p
      · simp [hp]; omega
      · simp [hp]
    have h2 : sumN P (fun p => (if x / 8 = p then 1 else 0)) = 1 := by
      have : ∀ Q : Nat, sumN Q (fun p => (if x / 8 = p then 1 else 0)) = if x / 8 < Q then 1 else 0 := by
        intro Q
        induction Q with
        | zero => rw [if_neg (by omega)]; rfl
        | succ Q ihQ =>
          show sumN Q (fun p => (if x / 8 = p then 1 else 0)) + (if x / 8 = (Q : Int) then 1 else 0) = _
          rw [ihQ]
          by_cases q1 : x / 8 < Q
          · rw [if_pos q1, if_neg (by omega), if_pos (by omega)]; rfl
          · rw [if_neg q1]
            by_cases q2 : x / 8 = Q
            · rw [if_pos q2, if_pos (by omega)]; rfl
            · rw [if_neg q2, if_neg (by omega)]; rfl
      rw [this P, if_pos hx.2]
    calc sumN P (fun p => (((x :: t).filter (fun n => n / 8 == p)).length : Int)) = sumN P (fun p => (if x / 8 = p then 1 else 0) + ((t.filter (fun n => n / 8 == p)).length : Int)) := sumN_congr P (fun i _ => e i)
      _ = 1 + (t.length : Int) := by rw [sumN_add, h2, h1]
      _ = ((x :: t).length : Int) := by rw [List.length_cons]; omega
/-- the number of objects -/
def obN (rg : Int → List Int) : Int := sumI [1, 2, 3, 5, 6, 7, 9, 10, 11] (fun j => ((rg j).length : Int))
theorem us_sum {g : Int → Int} {rg : Int → List Int} (h : WR g rg) : sumN (g 725).toNat (us rg) = obN rg := by
  show sumN _ (fun p => sumI _ (fun j => fl rg j p)) = _
  rw [sumN_sumI]
  refine sumI_congr _ (fun j hj => ?_)
  have hj2 : 0 ≤ j ∧ j < 12 := by simp at hj; omega
  refine sum_pages _ _ (fun n hn => ?_)
  obtain ⟨q1, q2, q3, -, -⟩ := WR_mem h hj2.1 hj2.2 hn
  have hz := q3.2.2.1
  refine ⟨by omega, ?_⟩
  have h1 := (h.1.2.2 (n / 8) (by omega) (by omega)).2
  have h2 : ¬ g 725 ≤ n / 8 := by
    intro e
    apply hz
    unfold pz
    rw [show 2 * n / 16 = n / 8 by omega]
    exact h1 e
  have := h.1.1
  omega
theorem sumI_len {rg : Int → List Int} : ∀ J : List Int, (∀ j ∈ J, ((rg j).length : Int) ≤ 64) → 0 ≤ sumI J (fun j => ((rg j).length : Int)) ∧ sumI J (fun j => ((rg j).length : Int)) ≤ 64 * J.length := by
  intro J
  induction J with
  | nil => intro _; simp [sumI]
  | cons j t ih =>
    intro h
    have h1 := ih (fun i hi => h i (List.mem_cons_of_mem _ hi))
    have h2 := h j List.mem_cons_self
    show 0 ≤ ((rg j).length : Int) + sumI t _ ∧ ((rg j).length : Int) + sumI t _ ≤ 64 * ((j :: t).length : Int)
    rw [List.length_cons]
    omega
theorem row_len {g : Int → Int} {rg : Int → List Int} (h : WR g rg) {k : Int} (k0 : 0 ≤ k) (k1 : k < 12) : ((rg k).length : Int) ≤ 64 := by
  have := nodup_le 64 _ (h.2.2 k k0 k1).1 (fun x hx => by have := WR_mem h k0 k1 hx; omega)
  omega
theorem obN_le {g : Int → Int} {rg : Int → List Int} (h : WR g rg) : 0 ≤ obN rg ∧ obN rg ≤ 576 := by
  have := sumI_len (rg := rg) [1, 2, 3, 5, 6, 7, 9, 10, 11] (fun j hj => row_len h (by simp at hj; omega) (by simp at hj; omega))
  unfold obN
  simp at this ⊢
  omega
theorem fl_nn (rg : Int → List Int) (j p : Int) : 0 ≤ fl rg j p := by unfold fl; omega
theorem us_nn (rg : Int → List Int) (p : Int) : 0 ≤ us rg p := by
  simp only [us, sumI]
  have := fun j => fl_nn rg j p
  have h1 := this 1; have h2 := this 2; have h3 := this 3; have h5 := this 5; have h6 := this 6; have h7 := this 7; have h9 := this 9; have h10 := this 10; have h11 := this 11
  omega
theorem sumN_mono {f : Int → Int} (hf : ∀ i, 0 ≤ f i) : ∀ n m : Nat, n ≤ m → sumN n f ≤ sumN m f := by
  intro n m h
  induction m with
  | zero => rw [show n = 0 by omega]; omega
  | succ m ih =>
    by_cases e : n = m + 1
    · rw [e]; omega
    · have := ih (by omega)
      have h2 := hf m
      show _ ≤ sumN m f + f m
      omega
theorem sumN_nn {f : Int → Int} (hf : ∀ i, 0 ≤ f i) (n : Nat) : 0 ≤ sumN n f := by
  have := sumN_mono hf 0 n (by omega)
  exact this
set_option maxRecDepth 20000 in
theorem sp_objects {K : az_K} {h : Int} (hK : HpK K h) (M : az_M) {g : Int → Int} {rg : Int → List Int} (hw : WR g rg) (hu : c_use M h rg) (hpg : M h 10 = g 725) : AM yX0_objects cX0_objects 3 (some .int) 0 0 0 [(1, h)] K M (qp K M (obN rg)) := by
  obtain ⟨hRg, kh, k6, k7, k8, k9, k10, k11, k12, k13, k14, z0, z1, z2, z3, z4, z5, z6, z7, z8, z9⟩ := hK
  refine am_of (by decide) (Nat.le_of_ble_eq_true rfl) (L := [(1, h), (9, 0), (9, 0)]) rfl ?_
  have hs := us_sum hw
  have hb := obN_le hw
  have hp := hw.1
  have hp1 := hp.1
  have hp2 := hp.2.1
  refine aw_iconst dX0_objects_0 rfl ⟨by decide, by decide⟩ ?_
  refine aw_istore_n dX0_objects_1 rfl (by decide) ?_
  refine aw_iconst dX0_objects_2 rfl ⟨by decide, by decide⟩ ?_
  refine aw_istore_n dX0_objects_3 rfl (by decide) ?_
  have loop : ∀ (k i : Nat) (x y : Int), x = sumN i (us rg) → y = i → (i : Int) ≤ g 725 → (g 725).toNat - i < k → AW az_P0 (az_Z (qp K M (obN rg)) 0 0) (az_rm 0 0 0) yX0_objects cX0_objects 3 (some .int) 0 0 4 [(1, h), (0, x), (0, y)] [] K M := by
    intro k
    induction k with
    | zero => intro i x y _ _ _ hk; omega
    | succ k ih =>
      intro i x y hx hy hi hk
      refine aw_iload_n dX0_objects_4 rfl rfl ?_
      refine aw_aload_n dX0_objects_5 rfl rfl ⟨by decide, by decide⟩ ?_
      refine aw_gi 10 dX0_objects_6 fl_RX0_58 (by assumption) rfl rfl hpg ?_
      refine aw_icmp_ge (tgt := 27) dX0_objects_9 rfl (fun h9 => ?_) (fun h9 => ?_)
      · have : i = (g 725).toNat := by omega
        refine aw_iload_n dX0_objects_27 rfl rfl ?_
        exact aw_iret dX0_objects_28 (by decide) (by decide) (qp_i (by rw [hx, this, hs]))
      · have hv := hu y (by omega) (by omega)
        have hm := sumN_mono (us_nn rg) (i + 1) (g 725).toNat (by omega)
        have hm2 : sumN (i + 1) (us rg) = x + us rg y := by rw [hx, hy]; rfl
        have hn := us_nn rg y
        have hn2 := sumN_nn (us_nn rg) i
        refine aw_iload_n dX0_objects_12 rfl rfl ?_
        refine aw_aload_n dX0_objects_13 rfl rfl ⟨by decide, by decide⟩ ?_
        refine aw_gzF 3 dX0_objects_14 fl_RX0_25 (by assumption) rfl rfl (by assumption) ?_
        refine aw_iload_n dX0_objects_17 rfl rfl ?_
        refine aw_iv dX0_objects_18 (by assumption) (by omega) (by omega) hv ?_
        refine aw_iadd dX0_objects_19 (az_wr_id (by omega) (by omega)) ?_
        refine aw_istore_n dX0_objects_20 rfl (by decide) ?_
        refine aw_iinc dX0_objects_21 rfl (az_wr_id (by omega) (by omega)) (by decide) ?_
        refine aw_goto (tgt := 4) dX0_objects_24 rfl ?_
        exact ih (i + 1) _ _ hm2.symm (by omega) (by omega) (by omega)
  exact loop ((g 725).toNat + 1) 0 0 0 rfl rfl (by omega) (by omega)
