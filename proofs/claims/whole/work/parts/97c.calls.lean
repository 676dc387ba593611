/-! the forty calls of the law -/
set_option maxRecDepth 20000
section CA
variable {K : az_K} {x m : Int} {M : az_M} {B : Int}
theorem cf_TR {ch : hCh} {a u : Int} {bx : hCh} {bz : Int → Int} {cu : Int} {M' : az_M} (h : TRh M x ch a u bx bz cu) (e : ∀ b, b = x + 3 ∨ x + 46 ≤ b → b < x + 391 → M' b = M b) (ex : ∀ j, j < 10 → M' x j = M x j) : TRh M' x ch a u bx bz cu := by
  obtain ⟨h1, h2, h3, h4, h5, h6⟩ := h
  exact ⟨(ex _ (by omega)).trans h1, h2, (ex _ (by omega)).trans h3, (ex _ (by omega)).trans h4, fun t t0 t1 => HS_fr (h5 t t0 t1) (fun b b0 b1 => e b (by omega) (by omega)), fun j j0 j1 => ⟨by rw [e _ (by omega) (by omega)]; exact (h6 j j0 j1).1, fun q => HS_fr ((h6 j j0 j1).2 q) (fun b b0 b1 => e b (by omega) (by omega))⟩⟩
theorem cf_MD {ch : hCh} {a u : Int} {bx : hCh} {bz : Int → Int} {M' : az_M} (h : MDh M m ch a u bx bz) (e : ∀ b, b = m + 1 ∨ m + 23 ≤ b → b ≤ m + 25 → M' b = M b) (em : ∀ j, 44 ≤ j → M' m j = M m j) : MDh M' m ch a u bx bz := by
  obtain ⟨h1, h2, h3, h4, h5, h6⟩ := h
  have eb : ∀ c j, c = m + 23 ∨ c = m + 24 → blk M' c j = blk M c j := fun c j c0 => by unfold blk; rw [e c (by omega) (by omega)]
  exact ⟨HM_fr h1 (e _ (by omega) (by omega)), (em _ (by omega)).trans h2, (em _ (by omega)).trans h3, fun j j0 j1 => by rw [eb _ _ (by omega)]; exact h4 j j0 j1, fun j j0 j1 => by rw [eb _ _ (by omega)]; exact h5 j j0 j1, fun j j0 j1 => ⟨by rw [e _ (by omega) (by omega)]; exact (h6 j j0 j1).1, fun q => by rw [eb _ _ (by omega)]; exact (h6 j j0 j1).2 q⟩⟩
theorem pr_make (hK : TrK K x) (hD : MdK K m) (hm : m = x + 391) (hB : B ≤ 19980000) (h : IV x m M B) (r f : Int) : PR yX6_make cX6_make 3 (some .int) 4 yX7_make cX7_make 3 (some .int) 10 [(0, r), (0, f)] K x m M B := by
  obtain ⟨ch, a, u, bx, bz, cu, it, n, sc, sp, t, hg, ht, hd, hc⟩ := h
  have w := hg.cur
  obtain ⟨w1, w2, w3⟩ := id w
  refine pr_actA hm hg hd hc (fun q => ?_) (sp_cmake hK M hg (by omega) ht r f) (fun M1 d1 => sp_mmake hD M1 hg (by omega) d1 r f)
  have q2 := bldS_wf w1 (r := r) (f := f) q.2.1 q.2.2 q.1.1 q.1.2
  exact ⟨q2.1, by omega, by omega⟩
theorem pr_load (hK : TrK K x) (hD : MdK K m) (hm : m = x + 391) (hB : B ≤ 19980000) (h : IV x m M B) (r o f : Int) : PR yX6_load cX6_load 4 (some .int) 4 yX7_load cX7_load 4 (some .int) 6 [(0, r), (0, o), (0, f)] K x m M B := by
  obtain ⟨ch, a, u, bx, bz, cu, it, n, sc, sp, t, hg, ht, hd, hc⟩ := h
  have w := hg.cur
  obtain ⟨w1, w2, w3⟩ := id w
  refine pr_actA hm hg hd hc (fun q => ?_) (sp_cload hK M hg ht r o f) (fun M1 d1 => sp_mload hD M1 hg (by omega) d1 r o f)
  have q2 := fetS_wl w1 (r := r) q.1.1 q.1.2 q.2.1.1 q.2.1.2 q.2.2
  exact ⟨q2.1, by omega, by omega⟩
theorem pr_store (hK : TrK K x) (hD : MdK K m) (hm : m = x + 391) (hB : B ≤ 19980000) (h : IV x m M B) (r f o : Int) : PR yX6_store cX6_store 4 (some .boolean) 4 yX7_store cX7_store 4 (some .boolean) 6 [(0, r), (0, f), (0, o)] K x m M B := by
  obtain ⟨ch, a, u, bx, bz, cu, it, n, sc, sp, t, hg, ht, hd, hc⟩ := h
  have w := hg.cur
  obtain ⟨w1, w2, w3⟩ := id w
  refine pr_actA hm hg hd hc (fun q => ?_) (sp_cstore hK M hg ht r f o) (fun M1 d1 => sp_mstore hD M1 hg (by omega) d1 r f o)
  have q2 := putS_wl w1 (r := r) q.1.1 q.1.2 q.2.1 q.2.2
  exact ⟨q2.1, by omega, by omega⟩
theorem pr_copy (hK : TrK K x) (hD : MdK K m) (hm : m = x + 391) (hB : B ≤ 19980000) (h : IV x m M B) (r o : Int) : PR yX6_copy cX6_copy 4 (some .boolean) 4 yX7_copy cX7_copy 3 (some .boolean) 3 [(0, r), (0, o)] K x m M B := by
  obtain ⟨ch, a, u, bx, bz, cu, it, n, sc, sp, t, hg, ht, hd, hc⟩ := h
  have w := hg.cur
  obtain ⟨w1, w2, w3⟩ := id w
  refine pr_actA hm hg hd hc (fun q => ?_) (sp_ccopy hK M hg ht r o) (fun M1 d1 => sp_mcopy hD M1 hg d1 r o)
  have q2 := nameS_wl w1 (x := 715 + r) (by omega) (namV_nok w1 q.2)
  have q3 : (nameS (ch a) (715 + r) (namV (ch a) o)).1 729 = (ch a).1 729 := nameS_n _ _ (by omega)
  exact ⟨q2, by omega, by omega⟩
theorem pr_weak (hK : TrK K x) (hD : MdK K m) (hm : m = x + 391) (hB : B ≤ 19980000) (h : IV x m M B) (r o : Int) : PR yX6_weak cX6_weak 4 (some .boolean) 4 yX7_weak cX7_weak 3 (some .boolean) 3 [(0, r), (0, o)] K x m M B := by
  obtain ⟨ch, a, u, bx, bz, cu, it, n, sc, sp, t, hg, ht, hd, hc⟩ := h
  have w := hg.cur
  obtain ⟨w1, w2, w3⟩ := id w
  refine pr_actA hm hg hd hc (fun q => ?_) (sp_cweak hK M hg ht r o) (fun M1 d1 => sp_mweak hD M1 hg d1 r o)
  have q2 := nameS_wl w1 (x := 721 + r) (by omega) (namV_nok w1 q.2)
  have q3 : (nameS (ch a) (721 + r) (namV (ch a) o)).1 729 = (ch a).1 729 := nameS_n _ _ (by omega)
  exact ⟨q2, by omega, by omega⟩
theorem pr_strong (hK : TrK K x) (hD : MdK K m) (hm : m = x + 391) (hB : B ≤ 19980000) (h : IV x m M B) (r v : Int) : PR yX6_strong cX6_strong 3 (some .int) 4 yX7_strong cX7_strong 4 (some .int) 4 [(0, r), (0, v)] K x m M B := by
  obtain ⟨ch, a, u, bx, bz, cu, it, n, sc, sp, t, hg, ht, hd, hc⟩ := h
  have w := hg.cur
  obtain ⟨w1, w2, w3⟩ := id w
  refine pr_actA hm hg hd hc (fun q => ?_) (sp_cstrong hK M hg ht r v) (fun M1 d1 => sp_mstrong hD M1 hg (by omega) d1 r v)
  have q2 := strS_wl w1 (r := r) q.1.1 q.1.2 q.2.1 q.2.2
  exact ⟨q2.1, by omega, by omega⟩
theorem pr_start (hK : TrK K x) (hD : MdK K m) (hm : m = x + 391) (hB : B ≤ 19980000) (h : IV x m M B)  : PR yX6_start cX6_start 1 (some .boolean) 4 yX7_start cX7_start 1 (some .boolean) 6 [] K x m M B := by
  obtain ⟨ch, a, u, bx, bz, cu, it, n, sc, sp, t, hg, ht, hd, hc⟩ := h
  have w := hg.cur
  obtain ⟨w1, w2, w3⟩ := id w
  refine pr_actA hm hg hd hc (fun q => ?_) (sp_cstart hK M hg (by omega) ht ) (fun M1 d1 => sp_mstart hD M1 hg (by omega) d1 )
  have q2 := startS_wf w1.1 q
  exact ⟨q2.1, by omega, by omega⟩
theorem pr_work (hK : TrK K x) (hD : MdK K m) (hm : m = x + 391) (hB : B ≤ 19980000) (h : IV x m M B) (v : Int) : PR yX6_work cX6_work 2 (some .int) 4 yX7_work cX7_work 2 (some .int) 7 [(0, v)] K x m M B := by
  obtain ⟨ch, a, u, bx, bz, cu, it, n, sc, sp, t, hg, ht, hd, hc⟩ := h
  have w := hg.cur
  obtain ⟨w1, w2, w3⟩ := id w
  refine pr_actA hm hg hd hc (fun q => ?_) (sp_cwork hK M hg (by omega) ht v) (fun M1 d1 => sp_mwork hD M1 hg (by omega) d1 v)
  have q2 := (adv_cy w1 v.toNat).2
  exact ⟨advS_wf w1 _, by omega, by omega⟩
theorem pr_turn (hK : TrK K x) (hD : MdK K m) (hm : m = x + 391) (hB : B ≤ 19980000) (h : IV x m M B) (s v : Int) : PR yX6_turn cX6_turn 6 (some .int) 4 yX7_turn cX7_turn 4 (some .int) 1 [(0, s), (0, v)] K x m M B := by
  obtain ⟨ch, a, u, bx, bz, cu, it, n, sc, sp, t, hg, ht, hd, hc⟩ := h
  have w := hg.cur
  obtain ⟨w1, w2, w3⟩ := id w
  refine pr_actA hm hg hd hc (fun q => ?_) (sp_cturn hK M hg ht s v) (fun M1 d1 => sp_mturn hD M1 hg d1 s v)
  have q2 := WL_setg w1 (w := s) q.1.1 q.1.2 q.2.1.1 q.2.1.2
  have q3 : (nameS (ch a) (735 + s) v).1 729 = (ch a).1 729 := nameS_n _ _ (by omega)
  exact ⟨q2, by omega, by omega⟩
theorem pr_run (hK : TrK K x) (hD : MdK K m) (hm : m = x + 391) (hB : B ≤ 19980000) (h : IV x m M B)  : PR yX6_run cX6_run 1 (some .int) 10 yX7_run cX7_run 1 (some .int) 12 [] K x m M B := by
  obtain ⟨ch, a, u, bx, bz, cu, it, n, sc, sp, t, hg, ht, hd, hc⟩ := h
  have w := hg.cur
  obtain ⟨w1, w2, w3⟩ := id w
  have hN := hc.2.2.1
  refine pr_act hm hg hd hc (fun q => ?_) (sp_crun hK hN M hg (by omega) ht hc.1) (fun M1 d1 c1 => sp_mrun hD hN M1 hg (by omega) d1 c1.2.1)
  obtain ⟨q1, q2, q3, q4, -⟩ := rn0_RW (n := n) hN w1 w2
  exact ⟨q1, q2, by omega⟩
theorem pr_root (hK : TrK K x) (hD : MdK K m) (hm : m = x + 391) (hB : B ≤ 19980000) (h : IV x m M B) (r : Int) : PR yX6_root cX6_root 2 (some .int) 1 yX7_root cX7_root 2 (some .int) 2 [(0, r)] K x m M B := by
  obtain ⟨ch, a, u, bx, bz, cu, it, n, sc, sp, t, hg, ht, hd, hc⟩ := h
  have w := hg.cur
  obtain ⟨w1, w2, w3⟩ := id w
  exact pr_qp hg ht hd hc (sp_croot hK M hg ht r) (sp_mroot hD.1.1 M hd.1 r) (rfl)
theorem pr_weakly (hK : TrK K x) (hD : MdK K m) (hm : m = x + 391) (hB : B ≤ 19980000) (h : IV x m M B) (r : Int) : PR yX6_weakly cX6_weakly 2 (some .int) 1 yX7_weakly cX7_weakly 2 (some .int) 2 [(0, r)] K x m M B := by
  obtain ⟨ch, a, u, bx, bz, cu, it, n, sc, sp, t, hg, ht, hd, hc⟩ := h
  have w := hg.cur
  obtain ⟨w1, w2, w3⟩ := id w
  exact pr_qp hg ht hd hc (sp_cweakly hK M hg ht r) (sp_mweakly hD.1.1 M hd.1 r) (rfl)
theorem pr_told (hK : TrK K x) (hD : MdK K m) (hm : m = x + 391) (hB : B ≤ 19980000) (h : IV x m M B) (i v : Int) : PR yX6_told cX6_told 3 (some .int) 2 yX7_told cX7_told 3 (some .int) 1 [(0, i), (0, v)] K x m M B := by
  obtain ⟨ch, a, u, bx, bz, cu, it, n, sc, sp, t, hg, ht, hd, hc⟩ := h
  have w := hg.cur
  obtain ⟨w1, w2, w3⟩ := id w
  exact pr_qp hg ht hd hc (sp_ctold hK M hg (by omega) ht i v) (sp_mtold hD.1.1 M hd.1 (by have := (ht.hs hg).2.2.2.2.2.2.2.2.2.1.2.1; omega) (by have := (ht.hs hg).2.2.2.2.2.2.2.2.2.1.2.1; omega) i v) (rfl)
theorem pr_field (hK : TrK K x) (hD : MdK K m) (hm : m = x + 391) (hB : B ≤ 19980000) (h : IV x m M B) (v f : Int) : PR yX6_field cX6_field 4 (some .int) 2 yX7_field cX7_field 3 (some .int) 5 [(0, v), (0, f)] K x m M B := by
  obtain ⟨ch, a, u, bx, bz, cu, it, n, sc, sp, t, hg, ht, hd, hc⟩ := h
  have w := hg.cur
  obtain ⟨w1, w2, w3⟩ := id w
  exact pr_qp hg ht hd hc (sp_cfield hK M hg ht v f) (sp_mfield hD.1.1 M hd.1 w1 v f) (rfl)
theorem pr_ring (hK : TrK K x) (hD : MdK K m) (hm : m = x + 391) (hB : B ≤ 19980000) (h : IV x m M B) (s i : Int) : PR yX6_ring cX6_ring 3 (some .int) 2 yX7_ring cX7_ring 3 (some .int) 1 [(0, s), (0, i)] K x m M B := by
  obtain ⟨ch, a, u, bx, bz, cu, it, n, sc, sp, t, hg, ht, hd, hc⟩ := h
  have w := hg.cur
  obtain ⟨w1, w2, w3⟩ := id w
  exact pr_qp hg ht hd hc (sp_cring hK M hg ht s i) (sp_mring hD.1.1 M hd.1 w1 s i) (rfl)
theorem pr_many (hK : TrK K x) (hD : MdK K m) (hm : m = x + 391) (hB : B ≤ 19980000) (h : IV x m M B) (s c : Int) : PR yX6_many cX6_many 3 (some .int) 2 yX7_many cX7_many 3 (some .int) 2 [(0, s), (0, c)] K x m M B := by
  obtain ⟨ch, a, u, bx, bz, cu, it, n, sc, sp, t, hg, ht, hd, hc⟩ := h
  have w := hg.cur
  obtain ⟨w1, w2, w3⟩ := id w
  exact pr_qp hg ht hd hc (sp_cmany hK M hg ht s c) (sp_mmany hD.1.1 M hd.1 w1 s c) (rfl)
theorem pr_page (hK : TrK K x) (hD : MdK K m) (hm : m = x + 391) (hB : B ≤ 19980000) (h : IV x m M B) (p v : Int) : PR yX6_page cX6_page 5 (some .int) 1 yX7_page cX7_page 6 (some .int) 1 [(0, p), (0, v)] K x m M B := by
  obtain ⟨ch, a, u, bx, bz, cu, it, n, sc, sp, t, hg, ht, hd, hc⟩ := h
  have w := hg.cur
  obtain ⟨w1, w2, w3⟩ := id w
  exact pr_qp hg ht hd hc (sp_cpage hK M hg ht p v) (sp_mpage hD.1.1 M hd.1 w1 p v) (rfl)
theorem pr_law (hK : TrK K x) (hD : MdK K m) (hm : m = x + 391) (hB : B ≤ 19980000) (h : IV x m M B) (v : Int) : PR yX6_law cX6_law 2 (some .int) 3 yX7_law cX7_law 8 (some .int) 5 [(0, v)] K x m M B := by
  obtain ⟨ch, a, u, bx, bz, cu, it, n, sc, sp, t, hg, ht, hd, hc⟩ := h
  have w := hg.cur
  obtain ⟨w1, w2, w3⟩ := id w
  exact pr_qp hg ht hd hc (sp_claw hK M hg ht v) (sp_mlaw hD.1.1 M hd.1 w1 v) (rfl)
theorem pr_about (hK : TrK K x) (hD : MdK K m) (hm : m = x + 391) (hB : B ≤ 19980000) (h : IV x m M B) (v : Int) : PR yX6_about cX6_about 3 (some .int) 2 yX7_about cX7_about 2 (some .int) 4 [(0, v)] K x m M B := by
  obtain ⟨ch, a, u, bx, bz, cu, it, n, sc, sp, t, hg, ht, hd, hc⟩ := h
  have w := hg.cur
  obtain ⟨w1, w2, w3⟩ := id w
  exact pr_qp hg ht hd hc (sp_cabout hK M hg ht n t sc hc.2.2.2.1 hc.1.1 (hc.1.k hK).1.1 hc.1.2.2.2.1 v) (sp_mabout hD M hd w1 n t hc.2.1.1 hc.2.2.2.2.1 v) (rfl)
theorem pr_fault (hK : TrK K x) (hD : MdK K m) (hm : m = x + 391) (hB : B ≤ 19980000) (h : IV x m M B) (v : Int) : PR yX6_fault cX6_fault 2 (some .int) 0 yX7_fault cX7_fault 2 (some .int) 0 [(0, v)] K x m M B := by
  obtain ⟨ch, a, u, bx, bz, cu, it, n, sc, sp, t, hg, ht, hd, hc⟩ := h
  have w := hg.cur
  obtain ⟨w1, w2, w3⟩ := id w
  exact pr_qp hg ht hd hc (sp_cfault hK M  v) (sp_mfault hD M  v) (by rw [hc.2.2.2.2.2.2.2.1, hc.2.2.2.2.2.2.2.2])
theorem pr_slot (hK : TrK K x) (hD : MdK K m) (hm : m = x + 391) (hB : B ≤ 19980000) (h : IV x m M B) (v s : Int) : PR yX6_slot cX6_slot 5 (some .int) 2 yX7_slot cX7_slot 3 (some .int) 3 [(0, v), (0, s)] K x m M B := by
  obtain ⟨ch, a, u, bx, bz, cu, it, n, sc, sp, t, hg, ht, hd, hc⟩ := h
  have w := hg.cur
  obtain ⟨w1, w2, w3⟩ := id w
  exact pr_qy hm hg ht hd hc (sp_cslot hK M hg ht v s) (fun M1 d1 c1 => sp_mslot hD M1 d1.1 w1 v s) pr_Q
theorem pr_live (hK : TrK K x) (hD : MdK K m) (hm : m = x + 391) (hB : B ≤ 19980000) (h : IV x m M B) (v : Int) : PR yX6_live cX6_live 3 (some .int) 2 yX7_live cX7_live 6 (some .int) 4 [(0, v)] K x m M B := by
  obtain ⟨ch, a, u, bx, bz, cu, it, n, sc, sp, t, hg, ht, hd, hc⟩ := h
  have w := hg.cur
  obtain ⟨w1, w2, w3⟩ := id w
  exact pr_qy hm hg ht hd hc (sp_clive hK M hg ht v) (fun M1 d1 c1 => sp_mlive hD M1 d1.1 w1 v) pr_Q
theorem pr_path (hK : TrK K x) (hD : MdK K m) (hm : m = x + 391) (hB : B ≤ 19980000) (h : IV x m M B) (r v : Int) : PR yX6_path cX6_path 3 (some .int) 2 yX7_path cX7_path 3 (some .int) 4 [(0, r), (0, v)] K x m M B := by
  obtain ⟨ch, a, u, bx, bz, cu, it, n, sc, sp, t, hg, ht, hd, hc⟩ := h
  have w := hg.cur
  obtain ⟨w1, w2, w3⟩ := id w
  exact pr_qy hm hg ht hd hc (sp_cpath hK M hg ht r v) (fun M1 d1 c1 => sp_mpath hD M1 d1.1 w1 r v) pr_Q
theorem pr_retained (hK : TrK K x) (hD : MdK K m) (hm : m = x + 391) (hB : B ≤ 19980000) (h : IV x m M B) (v : Int) : PR yX6_retained cX6_retained 3 (some .int) 2 yX7_retained cX7_retained 3 (some .int) 4 [(0, v)] K x m M B := by
  obtain ⟨ch, a, u, bx, bz, cu, it, n, sc, sp, t, hg, ht, hd, hc⟩ := h
  have w := hg.cur
  obtain ⟨w1, w2, w3⟩ := id w
  exact pr_qy hm hg ht hd hc (sp_cretained hK M hg ht v) (fun M1 d1 c1 => sp_mretained hD M1 d1.1 w1 v) pr_Q
theorem pr_end (hK : TrK K x) (hD : MdK K m) (hm : m = x + 391) (hB : B ≤ 19980000) (h : IV x m M B) (v : Int) : PR yX6_end cX6_end 2 (some .int) 4 yX7_end cX7_end 8 (some .int) 7 [(0, v)] K x m M B := by
  obtain ⟨ch, a, u, bx, bz, cu, it, n, sc, sp, t, hg, ht, hd, hc⟩ := h
  have w := hg.cur
  obtain ⟨w1, w2, w3⟩ := id w
  exact pr_qy hm hg ht hd hc (sp_cend hK M hg (by omega) ht v) (fun M1 d1 c1 => sp_mend hD M1 d1.1 w1 (by omega) w2 v) pr_U
theorem pr_room (hK : TrK K x) (hD : MdK K m) (hm : m = x + 391) (hB : B ≤ 19980000) (h : IV x m M B) (f v : Int) : PR yX6_room cX6_room 3 (some .int) 5 yX7_room cX7_room 4 (some .int) 11 [(0, f), (0, v)] K x m M B := by
  obtain ⟨ch, a, u, bx, bz, cu, it, n, sc, sp, t, hg, ht, hd, hc⟩ := h
  have w := hg.cur
  obtain ⟨w1, w2, w3⟩ := id w
  exact pr_qy hm hg ht hd hc (sp_croom hK M hg (by omega) ht f v) (fun M1 d1 c1 => sp_mroom hD M1 d1.1 w1 (by omega) w2 f v) pr_U
theorem pr_pace (hK : TrK K x) (hD : MdK K m) (hm : m = x + 391) (hB : B ≤ 19980000) (h : IV x m M B) (f v : Int) : PR yX6_pace cX6_pace 4 (some .int) 5 yX7_pace cX7_pace 5 (some .int) 11 [(0, f), (0, v)] K x m M B := by
  obtain ⟨ch, a, u, bx, bz, cu, it, n, sc, sp, t, hg, ht, hd, hc⟩ := h
  have w := hg.cur
  obtain ⟨w1, w2, w3⟩ := id w
  exact pr_qy hm hg ht hd hc (sp_cpace hK M hg (by omega) ht f v) (fun M1 d1 c1 => sp_mpace hD M1 d1.1 w1 (by omega) w2 f v) pr_U
theorem pr_game (hK : TrK K x) (hD : MdK K m) (hm : m = x + 391) (hB : B ≤ 19980000) (h : IV x m M B) (b s k v : Int) : PR yX6_game cX6_game 5 (some .int) 5 yX7_game cX7_game 6 (some .int) 11 [(0, b), (0, s), (0, k), (0, v)] K x m M B := by
  obtain ⟨ch, a, u, bx, bz, cu, it, n, sc, sp, t, hg, ht, hd, hc⟩ := h
  have w := hg.cur
  obtain ⟨w1, w2, w3⟩ := id w
  exact pr_qy hm hg ht hd hc (sp_cgame hK M hg (by omega) ht b s k v) (fun M1 d1 c1 => sp_mgame hD M1 d1.1 w1 (by omega) w2 b s k v) pr_U
theorem pr_runBy (hK : TrK K x) (hD : MdK K m) (hm : m = x + 391) (hB : B ≤ 19980000) (h : IV x m M B) (b v : Int) : PR yX6_runBy cX6_runBy 3 (some .int) 11 yX7_runBy cX7_runBy 3 (some .int) 13 [(0, b), (0, v)] K x m M B := by
  obtain ⟨ch, a, u, bx, bz, cu, it, n, sc, sp, t, hg, ht, hd, hc⟩ := h
  have w := hg.cur
  obtain ⟨w1, w2, w3⟩ := id w
  exact pr_qy hm hg ht hd hc (sp_crunBy hK hc.2.2.1 M hg (by omega) ht hc.1 b v) (fun M1 d1 c1 => sp_mrunBy hD hc.2.2.1 M1 d1.1 w1 (by omega) w2 c1.2.1 b v) pr_U
theorem pr_cheapest (hK : TrK K x) (hD : MdK K m) (hm : m = x + 391) (hB : B ≤ 19980000) (h : IV x m M B) (v : Int) : PR yX6_cheapest cX6_cheapest 6 (some .int) 11 yX7_cheapest cX7_cheapest 6 (some .int) 13 [(0, v)] K x m M B := by
  obtain ⟨ch, a, u, bx, bz, cu, it, n, sc, sp, t, hg, ht, hd, hc⟩ := h
  have w := hg.cur
  obtain ⟨w1, w2, w3⟩ := id w
  exact pr_qy hm hg ht hd hc (sp_ccheapest hK hc.2.2.1 M hg (by omega) ht hc.1 v) (fun M1 d1 c1 => sp_mcheapest hD hc.2.2.1 M1 d1.1 w1 (by omega) w2 c1.2.1 v) pr_U
theorem pr_suits (hK : TrK K x) (hD : MdK K m) (hm : m = x + 391) (hB : B ≤ 19980000) (h : IV x m M B)  : PR yX6_suits cX6_suits 2 (some .int) 11 yX7_suits cX7_suits 3 (some .int) 12 [] K x m M B := by
  obtain ⟨ch, a, u, bx, bz, cu, it, n, sc, sp, t, hg, ht, hd, hc⟩ := h
  have w := hg.cur
  obtain ⟨w1, w2, w3⟩ := id w
  exact pr_qy hm hg ht hd hc (sp_csuits hK hc.2.2.1 M hg (by omega) ht hc.1 ) (fun M1 d1 c1 => sp_msuits hD hc.2.2.1 M1 d1.1 w1 (by omega) w2 c1.2.1 ) pr_U
theorem pr_grey (hK : TrK K x) (hD : MdK K m) (hm : m = x + 391) (hB : B ≤ 19980000) (h : IV x m M B) (i : Int) : PR yX6_grey cX6_grey 2 (some .int) 2 yX7_grey_ cX7_grey_ 4 (some .int) 4 [(0, i)] K x m M B := by
  obtain ⟨ch, a, u, bx, bz, cu, it, n, sc, sp, t, hg, ht, hd, hc⟩ := h
  have w := hg.cur
  obtain ⟨w1, w2, w3⟩ := id w
  refine ⟨_, sp_cgrey hK M hg ht i, fun r K' M1 q => ?_⟩
  obtain ⟨e1, e2, e3⟩ := q
  subst e3
  refine ⟨_, e1, e2, _, sp_mgreyAt hD.1 M1 hd.1 w1 (by omega) i, fun r K' M2 q => ?_⟩
  obtain ⟨z2, e3, e4, q1, q2⟩ := q
  have fx : frX M1 M2 m := ⟨q2 _ (by omega), fun b b0 b1 => q2 b (by omega), by rw [q2 m (by omega)], by rw [q2 m (by omega)], by rw [q2 m (by omega)], by rw [q2 m (by omega)]⟩
  have fo : frO M1 M2 m := fun b b0 => q2 b (by omega)
  refine ⟨by rw [e3, q1], e4, _, _, _, _, _, _, _, _, _, _, _, hg.mono (by omega), ht.o hm fo, ?_, hc.o hm fx fo⟩
  have eb : ∀ c j, c ≠ m + 2 → blk M2 c j = blk M1 c j := fun c j c0 => by unfold blk; rw [q2 c c0]
  obtain ⟨h1, h2, h3, h4, h5, h6⟩ := hd
  exact ⟨HM_fr h1 (q2 _ (by omega)), by rw [q2 m (by omega)]; exact h2, by rw [q2 m (by omega)]; exact h3, fun j j0 j1 => by rw [eb _ _ (by omega)]; exact h4 j j0 j1, fun j j0 j1 => by rw [eb _ _ (by omega)]; exact h5 j j0 j1, fun j j0 j1 => ⟨by rw [q2 _ (by omega)]; exact (h6 j j0 j1).1, fun q => by rw [eb _ _ (by omega)]; exact (h6 j j0 j1).2 q⟩⟩
theorem pr_open (hK : TrK K x) (hD : MdK K m) (hm : m = x + 391) (hB : B ≤ 19980000) (h : IV x m M B) (v : Int) : PR yX6_open cX6_open 2 (some .boolean) 3 yX7_open cX7_open 2 (some .boolean) 1 [(0, v)] K x m M B := by
  obtain ⟨ch, a, u, bx, bz, cu, it, n, sc, sp, t, hg, ht, hd, hc⟩ := h
  have w := hg.cur
  obtain ⟨w1, w2, w3⟩ := id w
  refine ⟨_, sp_copen hK M hg ht v, fun r K' M1 q => ?_⟩
  obtain ⟨z1, e1, e2, q0, q1, q2, q3⟩ := q
  have fc := cX.ofA q3
  have hd1 := hd.c hm fc
  have hc1 := hc.c hm fc
  refine ⟨z1, e1, e2, _, sp_mopen hD M1 hd1 v, fun r K' M2 k => ?_⟩
  obtain ⟨z2, e3, e4, k0, k1, k2, k3, k4⟩ := k
  have hc2 := hc1.o hm k3 k4
  refine ⟨by rw [e3, tv_eq k0 q0 Iff.rfl], e4, ?_⟩
  by_cases p : 1 ≤ v ∧ v ≤ 8
  · refine ⟨_, _, _, _, _, _, _, _, _, _, _, ⟨by omega, by omega, by omega, fun i i0 i1 => ?_, (hg.mono (B' := B + 1505) (by omega)).2.2.2.2⟩, (q1 p).o hm k4, k1 p, hc2⟩
    have e : (clrS v).1 729 = 0 := clr_0 v (i := 729) (by omega)
    exact ⟨clrS_wf p.1 p.2, by omega, by omega⟩
  · exact ⟨_, _, _, _, _, _, _, _, _, _, _, hg.mono (by omega), (q2 p).o hm k4, k2 p, hc2⟩
theorem pr_undo (hK : TrK K x) (hD : MdK K m) (hm : m = x + 391) (hB : B ≤ 19980000) (h : IV x m M B)  : PR yX6_undo cX6_undo 1 (some .boolean) 0 yX7_undo cX7_undo 1 (some .boolean) 1 [] K x m M B := by
  obtain ⟨ch, a, u, bx, bz, cu, it, n, sc, sp, t, hg, ht, hd, hc⟩ := h
  have w := hg.cur
  obtain ⟨w1, w2, w3⟩ := id w
  refine ⟨_, sp_cundo hK M hg ht, fun r K' M1 q => ?_⟩
  obtain ⟨z1, e1, e2, q0, ⟨c', q1⟩, q3⟩ := q
  have fc := cX.ofA q3
  have hd1 := hd.c hm fc
  have hc1 := hc.c hm fc
  refine ⟨z1, e1, e2, _, sp_mundo hD M1 hg hd1, fun r K' M2 k => ?_⟩
  obtain ⟨z2, e3, e4, k0, k1, k3, k4⟩ := k
  refine ⟨by rw [e3, tv_eq k0 q0 Iff.rfl], e4, _, _, _, _, _, _, _, _, _, _, _, ?_, q1.o hm k4, k1, hc1.o hm k3 k4⟩
  have hg2 := hg.mono (B' := B + 1505) (by omega)
  obtain ⟨g1, g2, g3, g4, g5⟩ := hg2
  by_cases p : 0 < a
  · rw [if_pos p, if_pos p]
    exact ⟨by omega, by omega, by omega, fun i i0 i1 => g4 i i0 (by omega), g5⟩
  · rw [if_neg p, if_neg p]
    exact ⟨g1, g2, g3, g4, g5⟩
theorem pr_redo (hK : TrK K x) (hD : MdK K m) (hm : m = x + 391) (hB : B ≤ 19980000) (h : IV x m M B)  : PR yX6_redo cX6_redo 1 (some .boolean) 0 yX7_redo cX7_redo 1 (some .boolean) 1 [] K x m M B := by
  obtain ⟨ch, a, u, bx, bz, cu, it, n, sc, sp, t, hg, ht, hd, hc⟩ := h
  have w := hg.cur
  obtain ⟨w1, w2, w3⟩ := id w
  refine ⟨_, sp_credo hK M hg ht, fun r K' M1 q => ?_⟩
  obtain ⟨z1, e1, e2, q0, ⟨c', q1⟩, q3⟩ := q
  have fc := cX.ofA q3
  have hd1 := hd.c hm fc
  have hc1 := hc.c hm fc
  refine ⟨z1, e1, e2, _, sp_mredo hD M1 hg hd1, fun r K' M2 k => ?_⟩
  obtain ⟨z2, e3, e4, k0, k1, k3, k4⟩ := k
  refine ⟨by rw [e3, tv_eq k0 q0 Iff.rfl], e4, _, _, _, _, _, _, _, _, _, _, _, ?_, q1.o hm k4, k1, hc1.o hm k3 k4⟩
  have hg2 := hg.mono (B' := B + 1505) (by omega)
  obtain ⟨g1, g2, g3, g4, g5⟩ := hg2
  by_cases p : 0 < u
  · rw [if_pos p, if_pos p]
    exact ⟨by omega, by omega, by omega, fun i i0 i1 => g4 i i0 (by omega), g5⟩
  · rw [if_neg p, if_neg p]
    exact ⟨g1, g2, g3, g4, g5⟩
theorem pr_image (hK : TrK K x) (hD : MdK K m) (hm : m = x + 391) (hB : B ≤ 19980000) (h : IV x m M B) (v : Int) : PR yX6_image cX6_image 2 (some .int) 3 yX7_image cX7_image 3 (some .int) 4 [(0, v)] K x m M B := by
  obtain ⟨ch, a, u, bx, bz, cu, it, n, sc, sp, t, hg, ht, hd, hc⟩ := h
  have w := hg.cur
  obtain ⟨w1, w2, w3⟩ := id w
  refine ⟨_, sp_cimage hK M hg ht v, fun r K' M1 q => ?_⟩
  obtain ⟨z1, e1, e2, q1, q2, q3⟩ := q
  have fc := cX.ofI q3
  have hd1 := hd.c hm fc
  have hc1 := hc.c hm fc
  refine ⟨z1, e1, e2, _, sp_mimage hD M1 hg hd1 v, fun r K' M2 k => ?_⟩
  obtain ⟨z2, e3, e4, k1, k2, k3, k4⟩ := k
  have hc2 := hc1.o hm k3 k4
  have hg2 := hg.mono (B' := B + 1505) (by omega)
  by_cases p : 0 ≤ v ∧ v < 2
  · obtain ⟨p1, p2⟩ := q1 p
    obtain ⟨p3, p4⟩ := k1 p
    refine ⟨by rw [e3, p3, p1], e4, _, _, _, _, _, _, _, _, _, _, _, ?_, p2.o hm k4, p4, hc2⟩
    obtain ⟨g1, g2, g3, g4, g5⟩ := id hg2
    refine ⟨g1, g2, g3, g4, fun j j0 j1 => ?_⟩
    by_cases e : j = v
    · rw [e, gu_s]
      refine ⟨Or.inr rfl, fun _ => ?_⟩
      unfold bxs
      rw [if_pos rfl]
      exact hg2.cur
    · rw [gu_n _ _ e]
      unfold bxs
      rw [if_neg e]
      exact g5 j j0 j1
  · obtain ⟨p1, p2⟩ := q2 p
    obtain ⟨p3, p4⟩ := k2 p
    exact ⟨by rw [e3, p3, p1], e4, _, _, _, _, _, _, _, _, _, _, _, hg2, p2.o hm k4, p4, hc2⟩
theorem pr_back (hK : TrK K x) (hD : MdK K m) (hm : m = x + 391) (hB : B ≤ 19980000) (h : IV x m M B) (v : Int) : PR yX6_back cX6_back 2 (some .int) 3 yX7_back cX7_back 3 (some .int) 4 [(0, v)] K x m M B := by
  obtain ⟨ch, a, u, bx, bz, cu, it, n, sc, sp, t, hg, ht, hd, hc⟩ := h
  have w := hg.cur
  obtain ⟨w1, w2, w3⟩ := id w
  refine ⟨_, sp_cback hK M hg ht v, fun r K' M1 q => ?_⟩
  obtain ⟨z1, e1, e2, q1, q2, q3⟩ := q
  have fc := cX.ofA q3
  have hd1 := hd.c hm fc
  have hc1 := hc.c hm fc
  refine ⟨z1, e1, e2, _, sp_mback hD M1 hg hd1 v, fun r K' M2 k => ?_⟩
  obtain ⟨z2, e3, e4, k1, k2, k3, k4⟩ := k
  have hc2 := hc1.o hm k3 k4
  have hg2 := hg.mono (B' := B + 1505) (by omega)
  by_cases p : (0 ≤ v ∧ v < 2) ∧ bz v = 1
  · obtain ⟨p1, p2⟩ := q1 p
    obtain ⟨p3, p4⟩ := k1 p
    refine ⟨by rw [e3, p3, p1], e4, _, _, _, _, _, _, _, _, _, _, _, ?_, p2.o hm k4, p4, hc2⟩
    obtain ⟨g1, g2, g3, g4, g5⟩ := id hg2
    exact ⟨by omega, by omega, by omega, fun i i0 i1 => (g5 v p.1.1 p.1.2).2 p.2, g5⟩
  · obtain ⟨p1, p2⟩ := q2 p
    obtain ⟨p3, p4⟩ := k2 p
    exact ⟨by rw [e3, p3, p1], e4, _, _, _, _, _, _, _, _, _, _, _, hg2, p2.o hm k4, p4, hc2⟩
theorem pr_cut (hK : TrK K x) (hD : MdK K m) (hm : m = x + 391) (hB : B ≤ 19980000) (h : IV x m M B) (v : Int) : PR yX6_cut cX6_cut 2 (some .int) 0 yX7_cut cX7_cut 2 (some .int) 0 [(0, v)] K x m M B := by
  obtain ⟨ch, a, u, bx, bz, cu, it, n, sc, sp, t, hg, ht, hd, hc⟩ := h
  have w := hg.cur
  obtain ⟨w1, w2, w3⟩ := id w
  have hb := hc.1.2.2.1
  refine ⟨_, sp_ccut hK M t hc.2.2.2.1 v, fun r K' M1 q => ?_⟩
  obtain ⟨z1, e1, e2, q1, q2⟩ := q
  by_cases p : 0 ≤ v ∧ v ≤ t
  · obtain ⟨p1, p2⟩ := q1 p
    have h11 : M1 m 11 = t := by rw [p2, up_oth _ _ _ (by omega)]; exact hc.2.2.2.2.1
    refine ⟨z1, e1, e2, _, sp_mcut hD M1 t h11 v, fun r K' M2 k => ?_⟩
    obtain ⟨z2, e3, e4, k1, k2⟩ := k
    obtain ⟨p3, p4⟩ := k1 p
    have eo : ∀ b, b ≠ x → b ≠ m → M2 b = M b := fun b b1 b2 => by rw [p4, up_oth _ _ _ b2, p2, up_oth _ _ _ b1]
    have ex : ∀ j, j ≠ 10 → M2 x j = M x j := fun j j1 => by rw [p4, up_oth _ _ _ (by omega), p2, az_up_i _ _ _ _ j1]
    have em : ∀ j, j ≠ 11 → M2 m j = M m j := fun j j1 => by rw [p4, az_up_i _ _ _ _ j1, p2, up_oth _ _ _ (by omega)]
    have e10 : M2 x 10 = v := by rw [p4, up_oth _ _ _ (by omega), p2, az_up_s]
    have e11 : M2 m 11 = v := by rw [p4, az_up_s]
    refine ⟨by rw [e3, p3, p1], e4, ch, a, u, bx, bz, cu, it, n, sc, sp, v, hg.mono (by omega), ?_, ?_, ?_⟩
    · exact cf_TR ht (fun b b1 b2 => eo b (by omega) (by omega)) (fun j j1 => ex j (by omega))
    · exact cf_MD hd (fun b b1 b2 => eo b (by omega) (by omega)) (fun j j1 => em j (by omega))
    · obtain ⟨h1, h2, h3, h4, h5, h6, h7, h8, h9⟩ := hc
      refine ⟨⟨(ex _ (by omega)).trans h1.1, (ex _ (by omega)).trans h1.2.1, hb, h1.2.2.2.fr (fun b b0 b1 => eo b (by omega) (by omega))⟩, h2.fr (em _ (by omega)) (fun b b0 b1 => eo b (by omega) (by omega)), h3, e10, e11, by omega, fun i i0 i1 => ?_, ?_, ?_⟩
      · rw [eo _ (by omega) (by omega), eo _ (by omega) (by omega)]; exact h7 i i0 (by omega)
      · rw [em _ (by omega), eo _ (by omega) (by omega)]; exact h8
      · rw [em _ (by omega), eo _ (by omega) (by omega)]; exact h9
  · obtain ⟨p1, p2⟩ := q2 p
    subst p2
    refine ⟨z1, e1, e2, _, sp_mcut hD M1 t hc.2.2.2.2.1 v, fun r K' M2 k => ?_⟩
    obtain ⟨z2, e3, e4, k1, k2⟩ := k
    obtain ⟨p3, p4⟩ := k2 p
    subst p4
    exact ⟨by rw [e3, p3, p1], e4, _, _, _, _, _, _, _, _, _, _, _, hg.mono (by omega), ht, hd, hc⟩
theorem pr_feed (hK : TrK K x) (hD : MdK K m) (hm : m = x + 391) (hB : B ≤ 19980000) (h : IV x m M B) (v1 v2 v3 v4 v5 : Int) : PR yX6_feed cX6_feed 6 (some .int) 1 yX7_feed cX7_feed 8 (some .int) 0 [(0, v1), (0, v2), (0, v3), (0, v4), (0, v5)] K x m M B := by
  obtain ⟨ch, a, u, bx, bz, cu, it, n, sc, sp, t, hg, ht, hd, hc⟩ := h
  have w := hg.cur
  obtain ⟨w1, w2, w3⟩ := id w
  have hb := hc.1.2.2.1
  have t4 := hc.2.2.2.2.2.1
  refine ⟨_, sp_cfeed hK M hc.2.2.2.1 t4.1 t4.2 v1 v2 v3 v4 v5, fun r K' M1 q => ?_⟩
  obtain ⟨z1, e1, e2, q1, q2, q3, q4⟩ := q
  have h11 : M1 m 11 = t := by rw [q3 m (by omega) (by omega)]; exact hc.2.2.2.2.1
  refine ⟨z1, e1, e2, _, sp_mfeed hD M1 h11 t4.1 t4.2 v1 v2 v3 v4 v5, fun r K' M2 k => ?_⟩
  obtain ⟨z2, e3, e4, k1, k2, k3, k4⟩ := k
  have eo : ∀ b, b ≠ x → b ≠ x + 23 → b ≠ m → b ≠ m + 8 → M2 b = M b := fun b b1 b2 b3 b4 => by rw [k3 b b3 b4, q3 b b1 b2]
  have ex : ∀ j, j ≠ 10 → M2 x j = M x j := fun j j1 => by rw [k3 x (by omega) (by omega), q4 j j1]
  have em : ∀ j, j ≠ 11 → M2 m j = M m j := fun j j1 => by rw [k4 j j1, q3 m (by omega) (by omega)]
  have hTR := cf_TR (M' := M2) ht (fun b b1 b2 => eo b (by omega) (by omega) (by omega) (by omega)) (fun j j1 => ex j (by omega))
  have hMD := cf_MD (M' := M2) hd (fun b b1 b2 => eo b (by omega) (by omega) (by omega) (by omega)) (fun j j1 => em j (by omega))
  obtain ⟨h1, h2, h3, h4, h5, h6, h7, h8, h9⟩ := hc
  have hPC : PC M2 x sc sp it n := ⟨(ex _ (by omega)).trans h1.1, (ex _ (by omega)).trans h1.2.1, hb, h1.2.2.2.fr (fun b b0 b1 => eo b (by omega) (by omega) (by omega) (by omega))⟩
  have hPM := h2.fr (M' := M2) (em _ (by omega)) (fun b b0 b1 => eo b (by omega) (by omega) (by omega) (by omega))
  have h8' : M2 m 30 = M2 (x + 24) 7 := by rw [em _ (by omega), eo (x + 24) (by omega) (by omega) (by omega) (by omega)]; exact h8
  have h9' : M2 m 31 = M2 (x + 24) 8 := by rw [em _ (by omega), eo (x + 24) (by omega) (by omega) (by omega) (by omega)]; exact h9
  have x23 : M2 (x + 23) = M1 (x + 23) := k3 _ (by omega) (by omega)
  have m8 : M1 (m + 8) = M (m + 8) := q3 _ (by omega) (by omega)
  have x2 : M2 x = M1 x := k3 _ (by omega) (by omega)
  by_cases p : t + 20 ≤ 400
  · obtain ⟨p1, p2, p3, p4⟩ := q1 p
    obtain ⟨r1, r2, r3, r4⟩ := k1 p
    refine ⟨by rw [e3, r1, p1], e4, ch, a, u, bx, bz, cu, it, n, sc, sp, t + 20, hg.mono (by omega), hTR, hMD, hPC, hPM, h3, by rw [x2]; exact p2, r2, by omega, fun i i0 i1 => ?_, h8', h9'⟩
    by_cases s : i < t
    · rw [x23, p3 i s, r3 i s, m8]
      exact h7 i i0 s
    · have z1 := p4 (i - t) (by omega) (by omega)
      have z2 := r4 (i - t) (by omega) (by omega)
      rw [show t + (i - t) = i by omega] at z1 z2
      rw [x23, z1, z2]
      exact ⟨rfl, byt_in _ _⟩
  · obtain ⟨p1, p2⟩ := q2 p
    obtain ⟨r1, r2⟩ := k2 p
    subst p2
    subst r2
    exact ⟨by rw [e3, r1, p1], e4, ch, a, u, bx, bz, cu, it, n, sc, sp, t, hg.mono (by omega), ht, hd, h1, h2, h3, h4, h5, h6, h7, h8, h9⟩
theorem pr_program (hK : TrK K x) (hD : MdK K m) (hm : m = x + 391) (hB : B ≤ 19980000) (h : IV x m M B)  : PR yX6_program cX6_program 3 (some .int) 10 yX7_program cX7_program 2 (some .int) 8 [] K x m M B := by
  obtain ⟨ch, a, u, bx, bz, cu, it, n, sc, sp, t, hg, ht, hd, hc⟩ := h
  have w := hg.cur
  obtain ⟨w1, w2, w3⟩ := id w
  have hb := hc.1.2.2.1
  have t4 := hc.2.2.2.2.2.1
  obtain ⟨h1, h2, h3, h4, h5, h6, h7, h8, h9⟩ := id hc
  obtain ⟨X, hX⟩ : ∃ X : pTx, X = (M (m + 8), t) := ⟨_, rfl⟩
  have hX1 : X.1 = M (m + 8) := by rw [hX]
  have hX2 : X.2 = t := by rw [hX]
  refine ⟨_, sp_cprogram (X := X) hK M (by rw [hX2]; exact h4) (by rw [hX1, hX2]; exact ⟨t4.1, t4.2, fun i i0 i1 => h7 i i0 i1⟩) h1, fun r K' M1 q => ?_⟩
  obtain ⟨z1, e1, e2, q1, q2, q3, q4⟩ := q
  have cm : ∀ b, x + 390 < b → M1 b = M b := fun b b0 => q4.1 b (by omega) (by omega)
  refine ⟨z1, e1, e2, _, sp_mprogram (X := X) hD M1 (by rw [hX1, hX2, cm m (by omega), cm (m + 8) (by omega)]; exact ⟨h5, t4.1, t4.2, fun i i0 i1 => ⟨rfl, (h7 i i0 i1).2⟩⟩), fun r K' M2 k => ?_⟩
  obtain ⟨z2, e3, e4, k1, k2, k3, k4⟩ := k
  have ox : ∀ b, b < m → M2 b = M1 b := fun b b0 => k4.1 b (by omega) (by omega)
  have hTR : TRh M2 x ch a u bx bz cu := cf_TR ht (fun b b1 b2 => by rw [ox b (by omega), q4.1 b (by omega) (by omega)]) (fun j j1 => by rw [ox x (by omega), q4.2 j (by omega) (by omega) (by omega)])
  have hMD : MDh M2 m ch a u bx bz := cf_MD hd (fun b b1 b2 => by rw [k4.1 b (by omega) (by omega), cm b (by omega)]) (fun j j1 => by rw [k4.2 j (by omega) (by omega), cm m (by omega)])
  have x10 : M2 x 10 = 0 := by rw [ox x (by omega)]; exact q3
  have pcv : ∀ s1 s2 i1 n1, PC M1 x s1 s2 i1 n1 → PC M2 x s1 s2 i1 n1 := fun s1 s2 i1 n1 p => by
    have hb2 := p.2.2.1
    exact ⟨by rw [ox x (by omega)]; exact p.1, by rw [ox x (by omega)]; exact p.2.1, hb2, p.2.2.2.fr (fun b b0 b1 => ox b (by omega))⟩
  rcases hr : pPrg X with e | s
  · obtain ⟨a1, a2, a3, a4⟩ := q1 e hr
    obtain ⟨b1, b2, b3, b4, b5⟩ := k1 e hr
    refine ⟨by rw [e3, b1, a1], e4, ch, a, u, bx, bz, cu, it, n, sc, sp, 0, hg.mono (by omega), hTR, hMD, pcv _ _ _ _ a4, ?_, h3, x10, k3, by omega, fun i i0 i1 => by omega, ?_, ?_⟩
    · exact (h2.fr (M' := M1) (by rw [cm m (by omega)]) (fun b b0 b1 => cm b (by omega))).fr b4 b5
    · rw [b2, ox _ (by omega), a2]
    · rw [b3, ox _ (by omega), a3]
  · obtain ⟨a1, a2, a3, a4⟩ := q2 s hr
    obtain ⟨b1, b2, b3, b4, b5⟩ := k2 s hr
    have hN := pPrg_NP (by rw [hX2]; exact t4.1) hr
    refine ⟨by rw [e3, b1, a1], e4, ch, a, u, bx, bz, cu, _, _, sp, sc, 0, hg.mono (by omega), hTR, hMD, pcv _ _ _ _ a4, ⟨b4, hN.2, b5⟩, hN.1, x10, k3, by omega, fun i i0 i1 => by omega, ?_, ?_⟩
    · rw [b2, ox _ (by omega), a2]
    · rw [b3, ox _ (by omega), a3]
end CA
