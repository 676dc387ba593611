/-! the law's loop -/
set_option maxRecDepth 20000
section LW
variable {Lx : Nat} {xs : Nat → Int32} {K : az_K} {x m : Int}
theorem aw_lret {cs sl : Nat} {L : List az_V} {M : az_M} (hc : cs ≤ 600000) (hs : sl ≤ 7302250) : AW (az_PX Lx xs) (fun below args s _ => lw_Z below args s) room_1 yL_law cL_law 4 ret cs sl 1335 L [(0, 1)] K M := by
  rintro p l e s m args below meth c E H locs ls ⟨C, ST, HH, HS, HB, HP, HL, oL, oS⟩
  obtain ⟨hx, hb, hr, hml, hown, hts, hlocks, hnm⟩ := id C
  obtain ⟨hX, hbl, hbA, hargs, hsz⟩ := HP
  subst hargs
  refine va_forget (fun q hq => Nat.le_trans hsz (HS.2.2 q hq)) ?_
  refine W.widen hc hs ?_
  exact lw_ret hx hb hr hlocks dL_law_1335
set_option maxHeartbeats 8000000 in
theorem law_loop (hLx : Lx ≤ 3072) (hK : TrK K x) (hD : MdK K m) (hm : m = x + 391) : ∀ (d : Nat) (i B : Int) (M : az_M), 0 ≤ i → (Lx : Int) ≤ i + 6 * d → B + 1505 * d ≤ 19980000 → IV x m M B → AW (az_PX Lx xs) (fun below args s _ => lw_Z below args s) room_1 yL_law cL_law 4 ret 417 35854 18 [(5, 0), (1, x), (1, m), (0, i)] [] K M := by
  intro d
  induction d with
  | zero =>
    intro i B M i0 i1 hB hI
    refine aw_iload_n dL_law_18 rfl rfl ?_
    refine aw_aload_n dL_law_19 rfl rfl ⟨by decide, by decide⟩ ?_
    refine aw_slen dL_law_20 (by omega) ?_
    refine aw_bipush dL_law_21 (by decide) ⟨by decide, by decide⟩ ?_
    refine aw_isub dL_law_23 (az_wr_id (by omega) (by omega)) ?_
    refine aw_icmp_gt (tgt := 1334) dL_law_24 rfl (fun h24 => ?_) (fun h24 => absurd h24 (by omega))
    refine aw_iconst dL_law_1334 rfl ⟨by decide, by decide⟩ ?_
    exact aw_lret (Nat.le_of_ble_eq_true rfl) (Nat.le_of_ble_eq_true rfl)
  | succ d ih =>
    intro i B M i0 i1 hB hI
    have nx : i ≤ 3072 → ∀ M2, IV x m M2 (B + 1505) → AW (az_PX Lx xs) (fun below args s _ => lw_Z below args s) room_1 yL_law cL_law 4 ret 417 35854 1328 [(5, 0), (1, x), (1, m), (0, i)] [] K M2 := by
      intro hi M2 hI2
      refine aw_iinc dL_law_1328 rfl (az_wr_id (by omega) (by omega)) (by decide) ?_
      refine aw_goto (tgt := 18) dL_law_1331 rfl ?_
      exact ih (i + 6) (B + 1505) M2 (by omega) (by omega) (by omega) hI2
    refine aw_iload_n dL_law_18 rfl rfl ?_
    refine aw_aload_n dL_law_19 rfl rfl ⟨by decide, by decide⟩ ?_
    refine aw_slen dL_law_20 (by omega) ?_
    refine aw_bipush dL_law_21 (by decide) ⟨by decide, by decide⟩ ?_
    refine aw_isub dL_law_23 (az_wr_id (by omega) (by omega)) ?_
    refine aw_icmp_gt (tgt := 1334) dL_law_24 rfl (fun h24 => ?_) (fun h24 => ?_)
    · refine aw_iconst dL_law_1334 rfl ⟨by decide, by decide⟩ ?_
      exact aw_lret (Nat.le_of_ble_eq_true rfl) (Nat.le_of_ble_eq_true rfl)
    · have hB2 : B ≤ 19980000 := by omega
      replace nx := nx (by omega)
      refine aw_aload_n dL_law_27 rfl rfl ⟨by decide, by decide⟩ ?_
      refine aw_iload_n dL_law_28 rfl rfl ?_
      refine aw_sld dL_law_29 (by omega) (by omega) (by omega) ?_
      refine aw_bipush dL_law_30 (by decide) ⟨by decide, by decide⟩ ?_
      refine aw_iand dL_law_32 rfl ?_
      generalize az_and (xs i.toNat).toInt 63 = w
      by_cases q : w = 0
      · subst q
        refine aw_tsIn (tgt := 208) dL_law_33 (by omega) (by omega) rfl rfl ?_
        obtain ⟨Q1, A1, q1⟩ := pr_open hK hD hm hB2 hI ((xs (i + 1).toNat).toInt)
        refine aw_aload_n dL_law_208 rfl rfl ⟨by decide, by decide⟩ ?_
        refine aw_aload_n dL_law_209 rfl rfl ⟨by decide, by decide⟩ ?_
        refine aw_iload_n dL_law_210 rfl rfl ?_
        refine aw_iconst dL_law_211 rfl ⟨by decide, by decide⟩ ?_
        refine aw_iadd dL_law_212 (az_wr_id (by omega) (by omega)) ?_
        refine aw_sld dL_law_213 (by omega) (by omega) (by omega) ?_
        refine aw_callV (As := [(0, (xs (i + 1).toNat).toInt)]) dL_law_214 ml_RL_13 rfl hK.1 (by decide) rfl rfl ⟨Nat.le_of_ble_eq_true rfl, Nat.le_of_ble_eq_true rfl, Nat.le_of_ble_eq_true rfl, Nat.le_of_ble_eq_true rfl⟩ (Nat.le_of_ble_eq_true rfl) A1 (fun r K' M1 h1 => ?_)
        obtain ⟨z1, e1, e2, Q2, A2, q2⟩ := q1 r K' M1 h1
        subst e1 e2
        show AW (az_PX Lx xs) (fun below args s _ => lw_Z below args s) room_1 yL_law cL_law 4 ret 417 35854 217 [(5, 0), (1, x), (1, m), (0, i)] [(0, z1)] K' M1
        refine aw_aload_n dL_law_217 rfl rfl ⟨by decide, by decide⟩ ?_
        refine aw_aload_n dL_law_218 rfl rfl ⟨by decide, by decide⟩ ?_
        refine aw_iload_n dL_law_219 rfl rfl ?_
        refine aw_iconst dL_law_220 rfl ⟨by decide, by decide⟩ ?_
        refine aw_iadd dL_law_221 (az_wr_id (by omega) (by omega)) ?_
        refine aw_sld dL_law_222 (by omega) (by omega) (by omega) ?_
        refine aw_callV (As := [(0, (xs (i + 1).toNat).toInt)]) dL_law_223 ml_RL_17 rfl hD.1.1.1 (by decide) rfl rfl ⟨Nat.le_of_ble_eq_true rfl, Nat.le_of_ble_eq_true rfl, Nat.le_of_ble_eq_true rfl, Nat.le_of_ble_eq_true rfl⟩ (Nat.le_of_ble_eq_true rfl) A2 (fun r K'' M2 h2 => ?_)
        obtain ⟨e1, e2, hI2⟩ := q2 r K'' M2 h2
        subst e1 e2
        show AW (az_PX Lx xs) (fun below args s _ => lw_Z below args s) room_1 yL_law cL_law 4 ret 417 35854 226 [(5, 0), (1, x), (1, m), (0, i)] [(0, z1), (0, z1)] K'' M2
        refine aw_icmp_eq (tgt := 1328) dL_law_226 rfl (fun _ => ?_) (fun h => absurd rfl h)
        exact nx M2 hI2
      by_cases q : w = 1
      · subst q
        refine aw_tsIn (tgt := 231) dL_law_33 (by omega) (by omega) rfl rfl ?_
        obtain ⟨Q1, A1, q1⟩ := pr_make hK hD hm hB2 hI ((xs (i + 1).toNat).toInt) ((xs (i + 2).toNat).toInt)
        refine aw_aload_n dL_law_231 rfl rfl ⟨by decide, by decide⟩ ?_
        refine aw_aload_n dL_law_232 rfl rfl ⟨by decide, by decide⟩ ?_
        refine aw_iload_n dL_law_233 rfl rfl ?_
        refine aw_iconst dL_law_234 rfl ⟨by decide, by decide⟩ ?_
        refine aw_iadd dL_law_235 (az_wr_id (by omega) (by omega)) ?_
        refine aw_sld dL_law_236 (by omega) (by omega) (by omega) ?_
        refine aw_aload_n dL_law_237 rfl rfl ⟨by decide, by decide⟩ ?_
        refine aw_iload_n dL_law_238 rfl rfl ?_
        refine aw_iconst dL_law_239 rfl ⟨by decide, by decide⟩ ?_
        refine aw_iadd dL_law_240 (az_wr_id (by omega) (by omega)) ?_
        refine aw_sld dL_law_241 (by omega) (by omega) (by omega) ?_
        refine aw_callV (As := [(0, (xs (i + 1).toNat).toInt), (0, (xs (i + 2).toNat).toInt)]) dL_law_242 ml_RL_18 rfl hK.1 (by decide) rfl rfl ⟨Nat.le_of_ble_eq_true rfl, Nat.le_of_ble_eq_true rfl, Nat.le_of_ble_eq_true rfl, Nat.le_of_ble_eq_true rfl⟩ (Nat.le_of_ble_eq_true rfl) A1 (fun r K' M1 h1 => ?_)
        obtain ⟨z1, e1, e2, Q2, A2, q2⟩ := q1 r K' M1 h1
        subst e1 e2
        show AW (az_PX Lx xs) (fun below args s _ => lw_Z below args s) room_1 yL_law cL_law 4 ret 417 35854 245 [(5, 0), (1, x), (1, m), (0, i)] [(0, z1)] K' M1
        refine aw_aload_n dL_law_245 rfl rfl ⟨by decide, by decide⟩ ?_
        refine aw_aload_n dL_law_246 rfl rfl ⟨by decide, by decide⟩ ?_
        refine aw_iload_n dL_law_247 rfl rfl ?_
        refine aw_iconst dL_law_248 rfl ⟨by decide, by decide⟩ ?_
        refine aw_iadd dL_law_249 (az_wr_id (by omega) (by omega)) ?_
        refine aw_sld dL_law_250 (by omega) (by omega) (by omega) ?_
        refine aw_aload_n dL_law_251 rfl rfl ⟨by decide, by decide⟩ ?_
        refine aw_iload_n dL_law_252 rfl rfl ?_
        refine aw_iconst dL_law_253 rfl ⟨by decide, by decide⟩ ?_
        refine aw_iadd dL_law_254 (az_wr_id (by omega) (by omega)) ?_
        refine aw_sld dL_law_255 (by omega) (by omega) (by omega) ?_
        refine aw_callV (As := [(0, (xs (i + 1).toNat).toInt), (0, (xs (i + 2).toNat).toInt)]) dL_law_256 ml_RL_22 rfl hD.1.1.1 (by decide) rfl rfl ⟨Nat.le_of_ble_eq_true rfl, Nat.le_of_ble_eq_true rfl, Nat.le_of_ble_eq_true rfl, Nat.le_of_ble_eq_true rfl⟩ (Nat.le_of_ble_eq_true rfl) A2 (fun r K'' M2 h2 => ?_)
        obtain ⟨e1, e2, hI2⟩ := q2 r K'' M2 h2
        subst e1 e2
        show AW (az_PX Lx xs) (fun below args s _ => lw_Z below args s) room_1 yL_law cL_law 4 ret 417 35854 259 [(5, 0), (1, x), (1, m), (0, i)] [(0, z1), (0, z1)] K'' M2
        refine aw_icmp_eq (tgt := 1328) dL_law_259 rfl (fun _ => ?_) (fun h => absurd rfl h)
        exact nx M2 hI2
      by_cases q : w = 2
      · subst q
        refine aw_tsIn (tgt := 264) dL_law_33 (by omega) (by omega) rfl rfl ?_
        obtain ⟨Q1, A1, q1⟩ := pr_load hK hD hm hB2 hI ((xs (i + 1).toNat).toInt) ((xs (i + 2).toNat).toInt) ((xs (i + 3).toNat).toInt)
        refine aw_aload_n dL_law_264 rfl rfl ⟨by decide, by decide⟩ ?_
        refine aw_aload_n dL_law_265 rfl rfl ⟨by decide, by decide⟩ ?_
        refine aw_iload_n dL_law_266 rfl rfl ?_
        refine aw_iconst dL_law_267 rfl ⟨by decide, by decide⟩ ?_
        refine aw_iadd dL_law_268 (az_wr_id (by omega) (by omega)) ?_
        refine aw_sld dL_law_269 (by omega) (by omega) (by omega) ?_
        refine aw_aload_n dL_law_270 rfl rfl ⟨by decide, by decide⟩ ?_
        refine aw_iload_n dL_law_271 rfl rfl ?_
        refine aw_iconst dL_law_272 rfl ⟨by decide, by decide⟩ ?_
        refine aw_iadd dL_law_273 (az_wr_id (by omega) (by omega)) ?_
        refine aw_sld dL_law_274 (by omega) (by omega) (by omega) ?_
        refine aw_aload_n dL_law_275 rfl rfl ⟨by decide, by decide⟩ ?_
        refine aw_iload_n dL_law_276 rfl rfl ?_
        refine aw_iconst dL_law_277 rfl ⟨by decide, by decide⟩ ?_
        refine aw_iadd dL_law_278 (az_wr_id (by omega) (by omega)) ?_
        refine aw_sld dL_law_279 (by omega) (by omega) (by omega) ?_
        refine aw_callV (As := [(0, (xs (i + 1).toNat).toInt), (0, (xs (i + 2).toNat).toInt), (0, (xs (i + 3).toNat).toInt)]) dL_law_280 ml_RL_23 rfl hK.1 (by decide) rfl rfl ⟨Nat.le_of_ble_eq_true rfl, Nat.le_of_ble_eq_true rfl, Nat.le_of_ble_eq_true rfl, Nat.le_of_ble_eq_true rfl⟩ (Nat.le_of_ble_eq_true rfl) A1 (fun r K' M1 h1 => ?_)
        obtain ⟨z1, e1, e2, Q2, A2, q2⟩ := q1 r K' M1 h1
        subst e1 e2
        show AW (az_PX Lx xs) (fun below args s _ => lw_Z below args s) room_1 yL_law cL_law 4 ret 417 35854 283 [(5, 0), (1, x), (1, m), (0, i)] [(0, z1)] K' M1
        refine aw_aload_n dL_law_283 rfl rfl ⟨by decide, by decide⟩ ?_
        refine aw_aload_n dL_law_284 rfl rfl ⟨by decide, by decide⟩ ?_
        refine aw_iload_n dL_law_285 rfl rfl ?_
        refine aw_iconst dL_law_286 rfl ⟨by decide, by decide⟩ ?_
        refine aw_iadd dL_law_287 (az_wr_id (by omega) (by omega)) ?_
        refine aw_sld dL_law_288 (by omega) (by omega) (by omega) ?_
        refine aw_aload_n dL_law_289 rfl rfl ⟨by decide, by decide⟩ ?_
        refine aw_iload_n dL_law_290 rfl rfl ?_
        refine aw_iconst dL_law_291 rfl ⟨by decide, by decide⟩ ?_
        refine aw_iadd dL_law_292 (az_wr_id (by omega) (by omega)) ?_
        refine aw_sld dL_law_293 (by omega) (by omega) (by omega) ?_
        refine aw_aload_n dL_law_294 rfl rfl ⟨by decide, by decide⟩ ?_
        refine aw_iload_n dL_law_295 rfl rfl ?_
        refine aw_iconst dL_law_296 rfl ⟨by decide, by decide⟩ ?_
        refine aw_iadd dL_law_297 (az_wr_id (by omega) (by omega)) ?_
        refine aw_sld dL_law_298 (by omega) (by omega) (by omega) ?_
        refine aw_callV (As := [(0, (xs (i + 1).toNat).toInt), (0, (xs (i + 2).toNat).toInt), (0, (xs (i + 3).toNat).toInt)]) dL_law_299 ml_RL_27 rfl hD.1.1.1 (by decide) rfl rfl ⟨Nat.le_of_ble_eq_true rfl, Nat.le_of_ble_eq_true rfl, Nat.le_of_ble_eq_true rfl, Nat.le_of_ble_eq_true rfl⟩ (Nat.le_of_ble_eq_true rfl) A2 (fun r K'' M2 h2 => ?_)
        obtain ⟨e1, e2, hI2⟩ := q2 r K'' M2 h2
        subst e1 e2
        show AW (az_PX Lx xs) (fun below args s _ => lw_Z below args s) room_1 yL_law cL_law 4 ret 417 35854 302 [(5, 0), (1, x), (1, m), (0, i)] [(0, z1), (0, z1)] K'' M2
        refine aw_icmp_eq (tgt := 1328) dL_law_302 rfl (fun _ => ?_) (fun h => absurd rfl h)
        exact nx M2 hI2
      by_cases q : w = 3
      · subst q
        refine aw_tsIn (tgt := 307) dL_law_33 (by omega) (by omega) rfl rfl ?_
        obtain ⟨Q1, A1, q1⟩ := pr_store hK hD hm hB2 hI ((xs (i + 1).toNat).toInt) ((xs (i + 2).toNat).toInt) ((xs (i + 3).toNat).toInt)
        refine aw_aload_n dL_law_307 rfl rfl ⟨by decide, by decide⟩ ?_
        refine aw_aload_n dL_law_308 rfl rfl ⟨by decide, by decide⟩ ?_
        refine aw_iload_n dL_law_309 rfl rfl ?_
        refine aw_iconst dL_law_310 rfl ⟨by decide, by decide⟩ ?_
        refine aw_iadd dL_law_311 (az_wr_id (by omega) (by omega)) ?_
        refine aw_sld dL_law_312 (by omega) (by omega) (by omega) ?_
        refine aw_aload_n dL_law_313 rfl rfl ⟨by decide, by decide⟩ ?_
        refine aw_iload_n dL_law_314 rfl rfl ?_
        refine aw_iconst dL_law_315 rfl ⟨by decide, by decide⟩ ?_
        refine aw_iadd dL_law_316 (az_wr_id (by omega) (by omega)) ?_
        refine aw_sld dL_law_317 (by omega) (by omega) (by omega) ?_
        refine aw_aload_n dL_law_318 rfl rfl ⟨by decide, by decide⟩ ?_
        refine aw_iload_n dL_law_319 rfl rfl ?_
        refine aw_iconst dL_law_320 rfl ⟨by decide, by decide⟩ ?_
        refine aw_iadd dL_law_321 (az_wr_id (by omega) (by omega)) ?_
        refine aw_sld dL_law_322 (by omega) (by omega) (by omega) ?_
        refine aw_callV (As := [(0, (xs (i + 1).toNat).toInt), (0, (xs (i + 2).toNat).toInt), (0, (xs (i + 3).toNat).toInt)]) dL_law_323 ml_RL_28 rfl hK.1 (by decide) rfl rfl ⟨Nat.le_of_ble_eq_true rfl, Nat.le_of_ble_eq_true rfl, Nat.le_of_ble_eq_true rfl, Nat.le_of_ble_eq_true rfl⟩ (Nat.le_of_ble_eq_true rfl) A1 (fun r K' M1 h1 => ?_)
        obtain ⟨z1, e1, e2, Q2, A2, q2⟩ := q1 r K' M1 h1
        subst e1 e2
        show AW (az_PX Lx xs) (fun below args s _ => lw_Z below args s) room_1 yL_law cL_law 4 ret 417 35854 326 [(5, 0), (1, x), (1, m), (0, i)] [(0, z1)] K' M1
        refine aw_aload_n dL_law_326 rfl rfl ⟨by decide, by decide⟩ ?_
        refine aw_aload_n dL_law_327 rfl rfl ⟨by decide, by decide⟩ ?_
        refine aw_iload_n dL_law_328 rfl rfl ?_
        refine aw_iconst dL_law_329 rfl ⟨by decide, by decide⟩ ?_
        refine aw_iadd dL_law_330 (az_wr_id (by omega) (by omega)) ?_
        refine aw_sld dL_law_331 (by omega) (by omega) (by omega) ?_
        refine aw_aload_n dL_law_332 rfl rfl ⟨by decide, by decide⟩ ?_
        refine aw_iload_n dL_law_333 rfl rfl ?_
        refine aw_iconst dL_law_334 rfl ⟨by decide, by decide⟩ ?_
        refine aw_iadd dL_law_335 (az_wr_id (by omega) (by omega)) ?_
        refine aw_sld dL_law_336 (by omega) (by omega) (by omega) ?_
        refine aw_aload_n dL_law_337 rfl rfl ⟨by decide, by decide⟩ ?_
        refine aw_iload_n dL_law_338 rfl rfl ?_
        refine aw_iconst dL_law_339 rfl ⟨by decide, by decide⟩ ?_
        refine aw_iadd dL_law_340 (az_wr_id (by omega) (by omega)) ?_
        refine aw_sld dL_law_341 (by omega) (by omega) (by omega) ?_
        refine aw_callV (As := [(0, (xs (i + 1).toNat).toInt), (0, (xs (i + 2).toNat).toInt), (0, (xs (i + 3).toNat).toInt)]) dL_law_342 ml_RL_32 rfl hD.1.1.1 (by decide) rfl rfl ⟨Nat.le_of_ble_eq_true rfl, Nat.le_of_ble_eq_true rfl, Nat.le_of_ble_eq_true rfl, Nat.le_of_ble_eq_true rfl⟩ (Nat.le_of_ble_eq_true rfl) A2 (fun r K'' M2 h2 => ?_)
        obtain ⟨e1, e2, hI2⟩ := q2 r K'' M2 h2
        subst e1 e2
        show AW (az_PX Lx xs) (fun below args s _ => lw_Z below args s) room_1 yL_law cL_law 4 ret 417 35854 345 [(5, 0), (1, x), (1, m), (0, i)] [(0, z1), (0, z1)] K'' M2
        refine aw_icmp_eq (tgt := 1328) dL_law_345 rfl (fun _ => ?_) (fun h => absurd rfl h)
        exact nx M2 hI2
      by_cases q : w = 4
      · subst q
        refine aw_tsIn (tgt := 350) dL_law_33 (by omega) (by omega) rfl rfl ?_
        obtain ⟨Q1, A1, q1⟩ := pr_copy hK hD hm hB2 hI ((xs (i + 1).toNat).toInt) ((xs (i + 2).toNat).toInt)
        refine aw_aload_n dL_law_350 rfl rfl ⟨by decide, by decide⟩ ?_
        refine aw_aload_n dL_law_351 rfl rfl ⟨by decide, by decide⟩ ?_
        refine aw_iload_n dL_law_352 rfl rfl ?_
        refine aw_iconst dL_law_353 rfl ⟨by decide, by decide⟩ ?_
        refine aw_iadd dL_law_354 (az_wr_id (by omega) (by omega)) ?_
        refine aw_sld dL_law_355 (by omega) (by omega) (by omega) ?_
        refine aw_aload_n dL_law_356 rfl rfl ⟨by decide, by decide⟩ ?_
        refine aw_iload_n dL_law_357 rfl rfl ?_
        refine aw_iconst dL_law_358 rfl ⟨by decide, by decide⟩ ?_
        refine aw_iadd dL_law_359 (az_wr_id (by omega) (by omega)) ?_
        refine aw_sld dL_law_360 (by omega) (by omega) (by omega) ?_
        refine aw_callV (As := [(0, (xs (i + 1).toNat).toInt), (0, (xs (i + 2).toNat).toInt)]) dL_law_361 ml_RL_33 rfl hK.1 (by decide) rfl rfl ⟨Nat.le_of_ble_eq_true rfl, Nat.le_of_ble_eq_true rfl, Nat.le_of_ble_eq_true rfl, Nat.le_of_ble_eq_true rfl⟩ (Nat.le_of_ble_eq_true rfl) A1 (fun r K' M1 h1 => ?_)
        obtain ⟨z1, e1, e2, Q2, A2, q2⟩ := q1 r K' M1 h1
        subst e1 e2
        show AW (az_PX Lx xs) (fun below args s _ => lw_Z below args s) room_1 yL_law cL_law 4 ret 417 35854 364 [(5, 0), (1, x), (1, m), (0, i)] [(0, z1)] K' M1
        refine aw_aload_n dL_law_364 rfl rfl ⟨by decide, by decide⟩ ?_
        refine aw_aload_n dL_law_365 rfl rfl ⟨by decide, by decide⟩ ?_
        refine aw_iload_n dL_law_366 rfl rfl ?_
        refine aw_iconst dL_law_367 rfl ⟨by decide, by decide⟩ ?_
        refine aw_iadd dL_law_368 (az_wr_id (by omega) (by omega)) ?_
        refine aw_sld dL_law_369 (by omega) (by omega) (by omega) ?_
        refine aw_aload_n dL_law_370 rfl rfl ⟨by decide, by decide⟩ ?_
        refine aw_iload_n dL_law_371 rfl rfl ?_
        refine aw_iconst dL_law_372 rfl ⟨by decide, by decide⟩ ?_
        refine aw_iadd dL_law_373 (az_wr_id (by omega) (by omega)) ?_
        refine aw_sld dL_law_374 (by omega) (by omega) (by omega) ?_
        refine aw_callV (As := [(0, (xs (i + 1).toNat).toInt), (0, (xs (i + 2).toNat).toInt)]) dL_law_375 ml_RL_37 rfl hD.1.1.1 (by decide) rfl rfl ⟨Nat.le_of_ble_eq_true rfl, Nat.le_of_ble_eq_true rfl, Nat.le_of_ble_eq_true rfl, Nat.le_of_ble_eq_true rfl⟩ (Nat.le_of_ble_eq_true rfl) A2 (fun r K'' M2 h2 => ?_)
        obtain ⟨e1, e2, hI2⟩ := q2 r K'' M2 h2
        subst e1 e2
        show AW (az_PX Lx xs) (fun below args s _ => lw_Z below args s) room_1 yL_law cL_law 4 ret 417 35854 378 [(5, 0), (1, x), (1, m), (0, i)] [(0, z1), (0, z1)] K'' M2
        refine aw_icmp_eq (tgt := 1328) dL_law_378 rfl (fun _ => ?_) (fun h => absurd rfl h)
        exact nx M2 hI2
      by_cases q : w = 5
      · subst q
        refine aw_tsIn (tgt := 383) dL_law_33 (by omega) (by omega) rfl rfl ?_
        obtain ⟨Q1, A1, q1⟩ := pr_weak hK hD hm hB2 hI ((xs (i + 1).toNat).toInt) ((xs (i + 2).toNat).toInt)
        refine aw_aload_n dL_law_383 rfl rfl ⟨by decide, by decide⟩ ?_
        refine aw_aload_n dL_law_384 rfl rfl ⟨by decide, by decide⟩ ?_
        refine aw_iload_n dL_law_385 rfl rfl ?_
        refine aw_iconst dL_law_386 rfl ⟨by decide, by decide⟩ ?_
        refine aw_iadd dL_law_387 (az_wr_id (by omega) (by omega)) ?_
        refine aw_sld dL_law_388 (by omega) (by omega) (by omega) ?_
        refine aw_aload_n dL_law_389 rfl rfl ⟨by decide, by decide⟩ ?_
        refine aw_iload_n dL_law_390 rfl rfl ?_
        refine aw_iconst dL_law_391 rfl ⟨by decide, by decide⟩ ?_
        refine aw_iadd dL_law_392 (az_wr_id (by omega) (by omega)) ?_
        refine aw_sld dL_law_393 (by omega) (by omega) (by omega) ?_
        refine aw_callV (As := [(0, (xs (i + 1).toNat).toInt), (0, (xs (i + 2).toNat).toInt)]) dL_law_394 ml_RL_38 rfl hK.1 (by decide) rfl rfl ⟨Nat.le_of_ble_eq_true rfl, Nat.le_of_ble_eq_true rfl, Nat.le_of_ble_eq_true rfl, Nat.le_of_ble_eq_true rfl⟩ (Nat.le_of_ble_eq_true rfl) A1 (fun r K' M1 h1 => ?_)
        obtain ⟨z1, e1, e2, Q2, A2, q2⟩ := q1 r K' M1 h1
        subst e1 e2
        show AW (az_PX Lx xs) (fun below args s _ => lw_Z below args s) room_1 yL_law cL_law 4 ret 417 35854 397 [(5, 0), (1, x), (1, m), (0, i)] [(0, z1)] K' M1
        refine aw_aload_n dL_law_397 rfl rfl ⟨by decide, by decide⟩ ?_
        refine aw_aload_n dL_law_398 rfl rfl ⟨by decide, by decide⟩ ?_
        refine aw_iload_n dL_law_399 rfl rfl ?_
        refine aw_iconst dL_law_400 rfl ⟨by decide, by decide⟩ ?_
        refine aw_iadd dL_law_401 (az_wr_id (by omega) (by omega)) ?_
        refine aw_sld dL_law_402 (by omega) (by omega) (by omega) ?_
        refine aw_aload_n dL_law_403 rfl rfl ⟨by decide, by decide⟩ ?_
        refine aw_iload_n dL_law_404 rfl rfl ?_
        refine aw_iconst dL_law_405 rfl ⟨by decide, by decide⟩ ?_
        refine aw_iadd dL_law_406 (az_wr_id (by omega) (by omega)) ?_
        refine aw_sld dL_law_407 (by omega) (by omega) (by omega) ?_
        refine aw_callV (As := [(0, (xs (i + 1).toNat).toInt), (0, (xs (i + 2).toNat).toInt)]) dL_law_408 ml_RL_41 rfl hD.1.1.1 (by decide) rfl rfl ⟨Nat.le_of_ble_eq_true rfl, Nat.le_of_ble_eq_true rfl, Nat.le_of_ble_eq_true rfl, Nat.le_of_ble_eq_true rfl⟩ (Nat.le_of_ble_eq_true rfl) A2 (fun r K'' M2 h2 => ?_)
        obtain ⟨e1, e2, hI2⟩ := q2 r K'' M2 h2
        subst e1 e2
        show AW (az_PX Lx xs) (fun below args s _ => lw_Z below args s) room_1 yL_law cL_law 4 ret 417 35854 411 [(5, 0), (1, x), (1, m), (0, i)] [(0, z1), (0, z1)] K'' M2
        refine aw_icmp_eq (tgt := 1328) dL_law_411 rfl (fun _ => ?_) (fun h => absurd rfl h)
        exact nx M2 hI2
      by_cases q : w = 6
      · subst q
        refine aw_tsIn (tgt := 416) dL_law_33 (by omega) (by omega) rfl rfl ?_
        obtain ⟨Q1, A1, q1⟩ := pr_strong hK hD hm hB2 hI ((xs (i + 1).toNat).toInt) ((xs (i + 2).toNat).toInt)
        refine aw_aload_n dL_law_416 rfl rfl ⟨by decide, by decide⟩ ?_
        refine aw_aload_n dL_law_417 rfl rfl ⟨by decide, by decide⟩ ?_
        refine aw_iload_n dL_law_418 rfl rfl ?_
        refine aw_iconst dL_law_419 rfl ⟨by decide, by decide⟩ ?_
        refine aw_iadd dL_law_420 (az_wr_id (by omega) (by omega)) ?_
        refine aw_sld dL_law_421 (by omega) (by omega) (by omega) ?_
        refine aw_aload_n dL_law_422 rfl rfl ⟨by decide, by decide⟩ ?_
        refine aw_iload_n dL_law_423 rfl rfl ?_
        refine aw_iconst dL_law_424 rfl ⟨by decide, by decide⟩ ?_
        refine aw_iadd dL_law_425 (az_wr_id (by omega) (by omega)) ?_
        refine aw_sld dL_law_426 (by omega) (by omega) (by omega) ?_
        refine aw_callV (As := [(0, (xs (i + 1).toNat).toInt), (0, (xs (i + 2).toNat).toInt)]) dL_law_427 ml_RL_42 rfl hK.1 (by decide) rfl rfl ⟨Nat.le_of_ble_eq_true rfl, Nat.le_of_ble_eq_true rfl, Nat.le_of_ble_eq_true rfl, Nat.le_of_ble_eq_true rfl⟩ (Nat.le_of_ble_eq_true rfl) A1 (fun r K' M1 h1 => ?_)
        obtain ⟨z1, e1, e2, Q2, A2, q2⟩ := q1 r K' M1 h1
        subst e1 e2
        show AW (az_PX Lx xs) (fun below args s _ => lw_Z below args s) room_1 yL_law cL_law 4 ret 417 35854 430 [(5, 0), (1, x), (1, m), (0, i)] [(0, z1)] K' M1
        refine aw_aload_n dL_law_430 rfl rfl ⟨by decide, by decide⟩ ?_
        refine aw_aload_n dL_law_431 rfl rfl ⟨by decide, by decide⟩ ?_
        refine aw_iload_n dL_law_432 rfl rfl ?_
        refine aw_iconst dL_law_433 rfl ⟨by decide, by decide⟩ ?_
        refine aw_iadd dL_law_434 (az_wr_id (by omega) (by omega)) ?_
        refine aw_sld dL_law_435 (by omega) (by omega) (by omega) ?_
        refine aw_aload_n dL_law_436 rfl rfl ⟨by decide, by decide⟩ ?_
        refine aw_iload_n dL_law_437 rfl rfl ?_
        refine aw_iconst dL_law_438 rfl ⟨by decide, by decide⟩ ?_
        refine aw_iadd dL_law_439 (az_wr_id (by omega) (by omega)) ?_
        refine aw_sld dL_law_440 (by omega) (by omega) (by omega) ?_
        refine aw_callV (As := [(0, (xs (i + 1).toNat).toInt), (0, (xs (i + 2).toNat).toInt)]) dL_law_441 ml_RL_45 rfl hD.1.1.1 (by decide) rfl rfl ⟨Nat.le_of_ble_eq_true rfl, Nat.le_of_ble_eq_true rfl, Nat.le_of_ble_eq_true rfl, Nat.le_of_ble_eq_true rfl⟩ (Nat.le_of_ble_eq_true rfl) A2 (fun r K'' M2 h2 => ?_)
        obtain ⟨e1, e2, hI2⟩ := q2 r K'' M2 h2
        subst e1 e2
        show AW (az_PX Lx xs) (fun below args s _ => lw_Z below args s) room_1 yL_law cL_law 4 ret 417 35854 444 [(5, 0), (1, x), (1, m), (0, i)] [(0, z1), (0, z1)] K'' M2
        refine aw_icmp_eq (tgt := 1328) dL_law_444 rfl (fun _ => ?_) (fun h => absurd rfl h)
        exact nx M2 hI2
      by_cases q : w = 7
      · subst q
        refine aw_tsIn (tgt := 449) dL_law_33 (by omega) (by omega) rfl rfl ?_
        obtain ⟨Q1, A1, q1⟩ := pr_start hK hD hm hB2 hI 
        refine aw_aload_n dL_law_449 rfl rfl ⟨by decide, by decide⟩ ?_
        refine aw_callV (As := []) dL_law_450 ml_RL_46 rfl hK.1 (by decide) rfl rfl ⟨Nat.le_of_ble_eq_true rfl, Nat.le_of_ble_eq_true rfl, Nat.le_of_ble_eq_true rfl, Nat.le_of_ble_eq_true rfl⟩ (Nat.le_of_ble_eq_true rfl) A1 (fun r K' M1 h1 => ?_)
        obtain ⟨z1, e1, e2, Q2, A2, q2⟩ := q1 r K' M1 h1
        subst e1 e2
        show AW (az_PX Lx xs) (fun below args s _ => lw_Z below args s) room_1 yL_law cL_law 4 ret 417 35854 453 [(5, 0), (1, x), (1, m), (0, i)] [(0, z1)] K' M1
        refine aw_aload_n dL_law_453 rfl rfl ⟨by decide, by decide⟩ ?_
        refine aw_callV (As := []) dL_law_454 ml_RL_50 rfl hD.1.1.1 (by decide) rfl rfl ⟨Nat.le_of_ble_eq_true rfl, Nat.le_of_ble_eq_true rfl, Nat.le_of_ble_eq_true rfl, Nat.le_of_ble_eq_true rfl⟩ (Nat.le_of_ble_eq_true rfl) A2 (fun r K'' M2 h2 => ?_)
        obtain ⟨e1, e2, hI2⟩ := q2 r K'' M2 h2
        subst e1 e2
        show AW (az_PX Lx xs) (fun below args s _ => lw_Z below args s) room_1 yL_law cL_law 4 ret 417 35854 457 [(5, 0), (1, x), (1, m), (0, i)] [(0, z1), (0, z1)] K'' M2
        refine aw_icmp_eq (tgt := 1328) dL_law_457 rfl (fun _ => ?_) (fun h => absurd rfl h)
        exact nx M2 hI2
      by_cases q : w = 8
      · subst q
        refine aw_tsIn (tgt := 462) dL_law_33 (by omega) (by omega) rfl rfl ?_
        obtain ⟨Q1, A1, q1⟩ := pr_work hK hD hm hB2 hI ((xs (i + 1).toNat).toInt)
        refine aw_aload_n dL_law_462 rfl rfl ⟨by decide, by decide⟩ ?_
        refine aw_aload_n dL_law_463 rfl rfl ⟨by decide, by decide⟩ ?_
        refine aw_iload_n dL_law_464 rfl rfl ?_
        refine aw_iconst dL_law_465 rfl ⟨by decide, by decide⟩ ?_
        refine aw_iadd dL_law_466 (az_wr_id (by omega) (by omega)) ?_
        refine aw_sld dL_law_467 (by omega) (by omega) (by omega) ?_
        refine aw_callV (As := [(0, (xs (i + 1).toNat).toInt)]) dL_law_468 ml_RL_51 rfl hK.1 (by decide) rfl rfl ⟨Nat.le_of_ble_eq_true rfl, Nat.le_of_ble_eq_true rfl, Nat.le_of_ble_eq_true rfl, Nat.le_of_ble_eq_true rfl⟩ (Nat.le_of_ble_eq_true rfl) A1 (fun r K' M1 h1 => ?_)
        obtain ⟨z1, e1, e2, Q2, A2, q2⟩ := q1 r K' M1 h1
        subst e1 e2
        show AW (az_PX Lx xs) (fun below args s _ => lw_Z below args s) room_1 yL_law cL_law 4 ret 417 35854 471 [(5, 0), (1, x), (1, m), (0, i)] [(0, z1)] K' M1
        refine aw_aload_n dL_law_471 rfl rfl ⟨by decide, by decide⟩ ?_
        refine aw_aload_n dL_law_472 rfl rfl ⟨by decide, by decide⟩ ?_
        refine aw_iload_n dL_law_473 rfl rfl ?_
        refine aw_iconst dL_law_474 rfl ⟨by decide, by decide⟩ ?_
        refine aw_iadd dL_law_475 (az_wr_id (by omega) (by omega)) ?_
        refine aw_sld dL_law_476 (by omega) (by omega) (by omega) ?_
        refine aw_callV (As := [(0, (xs (i + 1).toNat).toInt)]) dL_law_477 ml_RL_55 rfl hD.1.1.1 (by decide) rfl rfl ⟨Nat.le_of_ble_eq_true rfl, Nat.le_of_ble_eq_true rfl, Nat.le_of_ble_eq_true rfl, Nat.le_of_ble_eq_true rfl⟩ (Nat.le_of_ble_eq_true rfl) A2 (fun r K'' M2 h2 => ?_)
        obtain ⟨e1, e2, hI2⟩ := q2 r K'' M2 h2
        subst e1 e2
        show AW (az_PX Lx xs) (fun below args s _ => lw_Z below args s) room_1 yL_law cL_law 4 ret 417 35854 480 [(5, 0), (1, x), (1, m), (0, i)] [(0, z1), (0, z1)] K'' M2
        refine aw_icmp_eq (tgt := 1328) dL_law_480 rfl (fun _ => ?_) (fun h => absurd rfl h)
        exact nx M2 hI2
      by_cases q : w = 9
      · subst q
        refine aw_tsIn (tgt := 485) dL_law_33 (by omega) (by omega) rfl rfl ?_
        obtain ⟨Q1, A1, q1⟩ := pr_turn hK hD hm hB2 hI ((xs (i + 1).toNat).toInt) ((xs (i + 2).toNat).toInt)
        refine aw_aload_n dL_law_485 rfl rfl ⟨by decide, by decide⟩ ?_
        refine aw_aload_n dL_law_486 rfl rfl ⟨by decide, by decide⟩ ?_
        refine aw_iload_n dL_law_487 rfl rfl ?_
        refine aw_iconst dL_law_488 rfl ⟨by decide, by decide⟩ ?_
        refine aw_iadd dL_law_489 (az_wr_id (by omega) (by omega)) ?_
        refine aw_sld dL_law_490 (by omega) (by omega) (by omega) ?_
        refine aw_aload_n dL_law_491 rfl rfl ⟨by decide, by decide⟩ ?_
        refine aw_iload_n dL_law_492 rfl rfl ?_
        refine aw_iconst dL_law_493 rfl ⟨by decide, by decide⟩ ?_
        refine aw_iadd dL_law_494 (az_wr_id (by omega) (by omega)) ?_
        refine aw_sld dL_law_495 (by omega) (by omega) (by omega) ?_
        refine aw_callV (As := [(0, (xs (i + 1).toNat).toInt), (0, (xs (i + 2).toNat).toInt)]) dL_law_496 ml_RL_56 rfl hK.1 (by decide) rfl rfl ⟨Nat.le_of_ble_eq_true rfl, Nat.le_of_ble_eq_true rfl, Nat.le_of_ble_eq_true rfl, Nat.le_of_ble_eq_true rfl⟩ (Nat.le_of_ble_eq_true rfl) A1 (fun r K' M1 h1 => ?_)
        obtain ⟨z1, e1, e2, Q2, A2, q2⟩ := q1 r K' M1 h1
        subst e1 e2
        show AW (az_PX Lx xs) (fun below args s _ => lw_Z below args s) room_1 yL_law cL_law 4 ret 417 35854 499 [(5, 0), (1, x), (1, m), (0, i)] [(0, z1)] K' M1
        refine aw_aload_n dL_law_499 rfl rfl ⟨by decide, by decide⟩ ?_
        refine aw_aload_n dL_law_500 rfl rfl ⟨by decide, by decide⟩ ?_
        refine aw_iload_n dL_law_501 rfl rfl ?_
        refine aw_iconst dL_law_502 rfl ⟨by decide, by decide⟩ ?_
        refine aw_iadd dL_law_503 (az_wr_id (by omega) (by omega)) ?_
        refine aw_sld dL_law_504 (by omega) (by omega) (by omega) ?_
        refine aw_aload_n dL_law_505 rfl rfl ⟨by decide, by decide⟩ ?_
        refine aw_iload_n dL_law_506 rfl rfl ?_
        refine aw_iconst dL_law_507 rfl ⟨by decide, by decide⟩ ?_
        refine aw_iadd dL_law_508 (az_wr_id (by omega) (by omega)) ?_
        refine aw_sld dL_law_509 (by omega) (by omega) (by omega) ?_
        refine aw_callV (As := [(0, (xs (i + 1).toNat).toInt), (0, (xs (i + 2).toNat).toInt)]) dL_law_510 ml_RL_59 rfl hD.1.1.1 (by decide) rfl rfl ⟨Nat.le_of_ble_eq_true rfl, Nat.le_of_ble_eq_true rfl, Nat.le_of_ble_eq_true rfl, Nat.le_of_ble_eq_true rfl⟩ (Nat.le_of_ble_eq_true rfl) A2 (fun r K'' M2 h2 => ?_)
        obtain ⟨e1, e2, hI2⟩ := q2 r K'' M2 h2
        subst e1 e2
        show AW (az_PX Lx xs) (fun below args s _ => lw_Z below args s) room_1 yL_law cL_law 4 ret 417 35854 513 [(5, 0), (1, x), (1, m), (0, i)] [(0, z1), (0, z1)] K'' M2
        refine aw_icmp_eq (tgt := 1328) dL_law_513 rfl (fun _ => ?_) (fun h => absurd rfl h)
        exact nx M2 hI2
      by_cases q : w = 10
      · subst q
        refine aw_tsIn (tgt := 518) dL_law_33 (by omega) (by omega) rfl rfl ?_
        obtain ⟨Q1, A1, q1⟩ := pr_feed hK hD hm hB2 hI ((xs (i + 1).toNat).toInt) ((xs (i + 2).toNat).toInt) ((xs (i + 3).toNat).toInt) ((xs (i + 4).toNat).toInt) ((xs (i + 5).toNat).toInt)
        refine aw_aload_n dL_law_518 rfl rfl ⟨by decide, by decide⟩ ?_
        refine aw_aload_n dL_law_519 rfl rfl ⟨by decide, by decide⟩ ?_
        refine aw_iload_n dL_law_520 rfl rfl ?_
        refine aw_iconst dL_law_521 rfl ⟨by decide, by decide⟩ ?_
        refine aw_iadd dL_law_522 (az_wr_id (by omega) (by omega)) ?_
        refine aw_sld dL_law_523 (by omega) (by omega) (by omega) ?_
        refine aw_aload_n dL_law_524 rfl rfl ⟨by decide, by decide⟩ ?_
        refine aw_iload_n dL_law_525 rfl rfl ?_
        refine aw_iconst dL_law_526 rfl ⟨by decide, by decide⟩ ?_
        refine aw_iadd dL_law_527 (az_wr_id (by omega) (by omega)) ?_
        refine aw_sld dL_law_528 (by omega) (by omega) (by omega) ?_
        refine aw_aload_n dL_law_529 rfl rfl ⟨by decide, by decide⟩ ?_
        refine aw_iload_n dL_law_530 rfl rfl ?_
        refine aw_iconst dL_law_531 rfl ⟨by decide, by decide⟩ ?_
        refine aw_iadd dL_law_532 (az_wr_id (by omega) (by omega)) ?_
        refine aw_sld dL_law_533 (by omega) (by omega) (by omega) ?_
        refine aw_aload_n dL_law_534 rfl rfl ⟨by decide, by decide⟩ ?_
        refine aw_iload_n dL_law_535 rfl rfl ?_
        refine aw_iconst dL_law_536 rfl ⟨by decide, by decide⟩ ?_
        refine aw_iadd dL_law_537 (az_wr_id (by omega) (by omega)) ?_
        refine aw_sld dL_law_538 (by omega) (by omega) (by omega) ?_
        refine aw_aload_n dL_law_539 rfl rfl ⟨by decide, by decide⟩ ?_
        refine aw_iload_n dL_law_540 rfl rfl ?_
        refine aw_iconst dL_law_541 rfl ⟨by decide, by decide⟩ ?_
        refine aw_iadd dL_law_542 (az_wr_id (by omega) (by omega)) ?_
        refine aw_sld dL_law_543 (by omega) (by omega) (by omega) ?_
        refine aw_callV (As := [(0, (xs (i + 1).toNat).toInt), (0, (xs (i + 2).toNat).toInt), (0, (xs (i + 3).toNat).toInt), (0, (xs (i + 4).toNat).toInt), (0, (xs (i + 5).toNat).toInt)]) dL_law_544 ml_RL_60 rfl hK.1 (by decide) rfl rfl ⟨Nat.le_of_ble_eq_true rfl, Nat.le_of_ble_eq_true rfl, Nat.le_of_ble_eq_true rfl, Nat.le_of_ble_eq_true rfl⟩ (Nat.le_of_ble_eq_true rfl) A1 (fun r K' M1 h1 => ?_)
        obtain ⟨z1, e1, e2, Q2, A2, q2⟩ := q1 r K' M1 h1
        subst e1 e2
        show AW (az_PX Lx xs) (fun below args s _ => lw_Z below args s) room_1 yL_law cL_law 4 ret 417 35854 547 [(5, 0), (1, x), (1, m), (0, i)] [(0, z1)] K' M1
        refine aw_aload_n dL_law_547 rfl rfl ⟨by decide, by decide⟩ ?_
        refine aw_aload_n dL_law_548 rfl rfl ⟨by decide, by decide⟩ ?_
        refine aw_iload_n dL_law_549 rfl rfl ?_
        refine aw_iconst dL_law_550 rfl ⟨by decide, by decide⟩ ?_
        refine aw_iadd dL_law_551 (az_wr_id (by omega) (by omega)) ?_
        refine aw_sld dL_law_552 (by omega) (by omega) (by omega) ?_
        refine aw_aload_n dL_law_553 rfl rfl ⟨by decide, by decide⟩ ?_
        refine aw_iload_n dL_law_554 rfl rfl ?_
        refine aw_iconst dL_law_555 rfl ⟨by decide, by decide⟩ ?_
        refine aw_iadd dL_law_556 (az_wr_id (by omega) (by omega)) ?_
        refine aw_sld dL_law_557 (by omega) (by omega) (by omega) ?_
        refine aw_aload_n dL_law_558 rfl rfl ⟨by decide, by decide⟩ ?_
        refine aw_iload_n dL_law_559 rfl rfl ?_
        refine aw_iconst dL_law_560 rfl ⟨by decide, by decide⟩ ?_
        refine aw_iadd dL_law_561 (az_wr_id (by omega) (by omega)) ?_
        refine aw_sld dL_law_562 (by omega) (by omega) (by omega) ?_
        refine aw_aload_n dL_law_563 rfl rfl ⟨by decide, by decide⟩ ?_
        refine aw_iload_n dL_law_564 rfl rfl ?_
        refine aw_iconst dL_law_565 rfl ⟨by decide, by decide⟩ ?_
        refine aw_iadd dL_law_566 (az_wr_id (by omega) (by omega)) ?_
        refine aw_sld dL_law_567 (by omega) (by omega) (by omega) ?_
        refine aw_aload_n dL_law_568 rfl rfl ⟨by decide, by decide⟩ ?_
        refine aw_iload_n dL_law_569 rfl rfl ?_
        refine aw_iconst dL_law_570 rfl ⟨by decide, by decide⟩ ?_
        refine aw_iadd dL_law_571 (az_wr_id (by omega) (by omega)) ?_
        refine aw_sld dL_law_572 (by omega) (by omega) (by omega) ?_
        refine aw_callV (As := [(0, (xs (i + 1).toNat).toInt), (0, (xs (i + 2).toNat).toInt), (0, (xs (i + 3).toNat).toInt), (0, (xs (i + 4).toNat).toInt), (0, (xs (i + 5).toNat).toInt)]) dL_law_573 ml_RL_64 rfl hD.1.1.1 (by decide) rfl rfl ⟨Nat.le_of_ble_eq_true rfl, Nat.le_of_ble_eq_true rfl, Nat.le_of_ble_eq_true rfl, Nat.le_of_ble_eq_true rfl⟩ (Nat.le_of_ble_eq_true rfl) A2 (fun r K'' M2 h2 => ?_)
        obtain ⟨e1, e2, hI2⟩ := q2 r K'' M2 h2
        subst e1 e2
        show AW (az_PX Lx xs) (fun below args s _ => lw_Z below args s) room_1 yL_law cL_law 4 ret 417 35854 576 [(5, 0), (1, x), (1, m), (0, i)] [(0, z1), (0, z1)] K'' M2
        refine aw_icmp_eq (tgt := 1328) dL_law_576 rfl (fun _ => ?_) (fun h => absurd rfl h)
        exact nx M2 hI2
      by_cases q : w = 11
      · subst q
        refine aw_tsIn (tgt := 581) dL_law_33 (by omega) (by omega) rfl rfl ?_
        obtain ⟨Q1, A1, q1⟩ := pr_cut hK hD hm hB2 hI ((xs (i + 1).toNat).toInt)
        refine aw_aload_n dL_law_581 rfl rfl ⟨by decide, by decide⟩ ?_
        refine aw_aload_n dL_law_582 rfl rfl ⟨by decide, by decide⟩ ?_
        refine aw_iload_n dL_law_583 rfl rfl ?_
        refine aw_iconst dL_law_584 rfl ⟨by decide, by decide⟩ ?_
        refine aw_iadd dL_law_585 (az_wr_id (by omega) (by omega)) ?_
        refine aw_sld dL_law_586 (by omega) (by omega) (by omega) ?_
        refine aw_callV (As := [(0, (xs (i + 1).toNat).toInt)]) dL_law_587 ml_RL_65 rfl hK.1 (by decide) rfl rfl ⟨Nat.le_of_ble_eq_true rfl, Nat.le_of_ble_eq_true rfl, Nat.le_of_ble_eq_true rfl, Nat.le_of_ble_eq_true rfl⟩ (Nat.le_of_ble_eq_true rfl) A1 (fun r K' M1 h1 => ?_)
        obtain ⟨z1, e1, e2, Q2, A2, q2⟩ := q1 r K' M1 h1
        subst e1 e2
        show AW (az_PX Lx xs) (fun below args s _ => lw_Z below args s) room_1 yL_law cL_law 4 ret 417 35854 590 [(5, 0), (1, x), (1, m), (0, i)] [(0, z1)] K' M1
        refine aw_aload_n dL_law_590 rfl rfl ⟨by decide, by decide⟩ ?_
        refine aw_aload_n dL_law_591 rfl rfl ⟨by decide, by decide⟩ ?_
        refine aw_iload_n dL_law_592 rfl rfl ?_
        refine aw_iconst dL_law_593 rfl ⟨by decide, by decide⟩ ?_
        refine aw_iadd dL_law_594 (az_wr_id (by omega) (by omega)) ?_
        refine aw_sld dL_law_595 (by omega) (by omega) (by omega) ?_
        refine aw_callV (As := [(0, (xs (i + 1).toNat).toInt)]) dL_law_596 ml_RL_68 rfl hD.1.1.1 (by decide) rfl rfl ⟨Nat.le_of_ble_eq_true rfl, Nat.le_of_ble_eq_true rfl, Nat.le_of_ble_eq_true rfl, Nat.le_of_ble_eq_true rfl⟩ (Nat.le_of_ble_eq_true rfl) A2 (fun r K'' M2 h2 => ?_)
        obtain ⟨e1, e2, hI2⟩ := q2 r K'' M2 h2
        subst e1 e2
        show AW (az_PX Lx xs) (fun below args s _ => lw_Z below args s) room_1 yL_law cL_law 4 ret 417 35854 599 [(5, 0), (1, x), (1, m), (0, i)] [(0, z1), (0, z1)] K'' M2
        refine aw_icmp_eq (tgt := 1328) dL_law_599 rfl (fun _ => ?_) (fun h => absurd rfl h)
        exact nx M2 hI2
      by_cases q : w = 12
      · subst q
        refine aw_tsIn (tgt := 604) dL_law_33 (by omega) (by omega) rfl rfl ?_
        obtain ⟨Q1, A1, q1⟩ := pr_program hK hD hm hB2 hI 
        refine aw_aload_n dL_law_604 rfl rfl ⟨by decide, by decide⟩ ?_
        refine aw_callV (As := []) dL_law_605 ml_RL_69 rfl hK.1 (by decide) rfl rfl ⟨Nat.le_of_ble_eq_true rfl, Nat.le_of_ble_eq_true rfl, Nat.le_of_ble_eq_true rfl, Nat.le_of_ble_eq_true rfl⟩ (Nat.le_of_ble_eq_true rfl) A1 (fun r K' M1 h1 => ?_)
        obtain ⟨z1, e1, e2, Q2, A2, q2⟩ := q1 r K' M1 h1
        subst e1 e2
        show AW (az_PX Lx xs) (fun below args s _ => lw_Z below args s) room_1 yL_law cL_law 4 ret 417 35854 608 [(5, 0), (1, x), (1, m), (0, i)] [(0, z1)] K' M1
        refine aw_aload_n dL_law_608 rfl rfl ⟨by decide, by decide⟩ ?_
        refine aw_callV (As := []) dL_law_609 ml_RL_73 rfl hD.1.1.1 (by decide) rfl rfl ⟨Nat.le_of_ble_eq_true rfl, Nat.le_of_ble_eq_true rfl, Nat.le_of_ble_eq_true rfl, Nat.le_of_ble_eq_true rfl⟩ (Nat.le_of_ble_eq_true rfl) A2 (fun r K'' M2 h2 => ?_)
        obtain ⟨e1, e2, hI2⟩ := q2 r K'' M2 h2
        subst e1 e2
        show AW (az_PX Lx xs) (fun below args s _ => lw_Z below args s) room_1 yL_law cL_law 4 ret 417 35854 612 [(5, 0), (1, x), (1, m), (0, i)] [(0, z1), (0, z1)] K'' M2
        refine aw_icmp_eq (tgt := 1328) dL_law_612 rfl (fun _ => ?_) (fun h => absurd rfl h)
        exact nx M2 hI2
      by_cases q : w = 13
      · subst q
        refine aw_tsIn (tgt := 617) dL_law_33 (by omega) (by omega) rfl rfl ?_
        obtain ⟨Q1, A1, q1⟩ := pr_fault hK hD hm hB2 hI ((xs (i + 1).toNat).toInt)
        refine aw_aload_n dL_law_617 rfl rfl ⟨by decide, by decide⟩ ?_
        refine aw_aload_n dL_law_618 rfl rfl ⟨by decide, by decide⟩ ?_
        refine aw_iload_n dL_law_619 rfl rfl ?_
        refine aw_iconst dL_law_620 rfl ⟨by decide, by decide⟩ ?_
        refine aw_iadd dL_law_621 (az_wr_id (by omega) (by omega)) ?_
        refine aw_sld dL_law_622 (by omega) (by omega) (by omega) ?_
        refine aw_callV (As := [(0, (xs (i + 1).toNat).toInt)]) dL_law_623 ml_RL_74 rfl hK.1 (by decide) rfl rfl ⟨Nat.le_of_ble_eq_true rfl, Nat.le_of_ble_eq_true rfl, Nat.le_of_ble_eq_true rfl, Nat.le_of_ble_eq_true rfl⟩ (Nat.le_of_ble_eq_true rfl) A1 (fun r K' M1 h1 => ?_)
        obtain ⟨z1, e1, e2, Q2, A2, q2⟩ := q1 r K' M1 h1
        subst e1 e2
        show AW (az_PX Lx xs) (fun below args s _ => lw_Z below args s) room_1 yL_law cL_law 4 ret 417 35854 626 [(5, 0), (1, x), (1, m), (0, i)] [(0, z1)] K' M1
        refine aw_aload_n dL_law_626 rfl rfl ⟨by decide, by decide⟩ ?_
        refine aw_aload_n dL_law_627 rfl rfl ⟨by decide, by decide⟩ ?_
        refine aw_iload_n dL_law_628 rfl rfl ?_
        refine aw_iconst dL_law_629 rfl ⟨by decide, by decide⟩ ?_
        refine aw_iadd dL_law_630 (az_wr_id (by omega) (by omega)) ?_
        refine aw_sld dL_law_631 (by omega) (by omega) (by omega) ?_
        refine aw_callV (As := [(0, (xs (i + 1).toNat).toInt)]) dL_law_632 ml_RL_77 rfl hD.1.1.1 (by decide) rfl rfl ⟨Nat.le_of_ble_eq_true rfl, Nat.le_of_ble_eq_true rfl, Nat.le_of_ble_eq_true rfl, Nat.le_of_ble_eq_true rfl⟩ (Nat.le_of_ble_eq_true rfl) A2 (fun r K'' M2 h2 => ?_)
        obtain ⟨e1, e2, hI2⟩ := q2 r K'' M2 h2
        subst e1 e2
        show AW (az_PX Lx xs) (fun below args s _ => lw_Z below args s) room_1 yL_law cL_law 4 ret 417 35854 635 [(5, 0), (1, x), (1, m), (0, i)] [(0, z1), (0, z1)] K'' M2
        refine aw_icmp_eq (tgt := 1328) dL_law_635 rfl (fun _ => ?_) (fun h => absurd rfl h)
        exact nx M2 hI2
      by_cases q : w = 14
      · subst q
        refine aw_tsIn (tgt := 640) dL_law_33 (by omega) (by omega) rfl rfl ?_
        obtain ⟨Q1, A1, q1⟩ := pr_run hK hD hm hB2 hI 
        refine aw_aload_n dL_law_640 rfl rfl ⟨by decide, by decide⟩ ?_
        refine aw_callV (As := []) dL_law_641 ml_RL_78 rfl hK.1 (by decide) rfl rfl ⟨Nat.le_of_ble_eq_true rfl, Nat.le_of_ble_eq_true rfl, Nat.le_of_ble_eq_true rfl, Nat.le_of_ble_eq_true rfl⟩ (Nat.le_of_ble_eq_true rfl) A1 (fun r K' M1 h1 => ?_)
        obtain ⟨z1, e1, e2, Q2, A2, q2⟩ := q1 r K' M1 h1
        subst e1 e2
        show AW (az_PX Lx xs) (fun below args s _ => lw_Z below args s) room_1 yL_law cL_law 4 ret 417 35854 644 [(5, 0), (1, x), (1, m), (0, i)] [(0, z1)] K' M1
        refine aw_aload_n dL_law_644 rfl rfl ⟨by decide, by decide⟩ ?_
        refine aw_callV (As := []) dL_law_645 ml_RL_81 rfl hD.1.1.1 (by decide) rfl rfl ⟨Nat.le_of_ble_eq_true rfl, Nat.le_of_ble_eq_true rfl, Nat.le_of_ble_eq_true rfl, Nat.le_of_ble_eq_true rfl⟩ (Nat.le_of_ble_eq_true rfl) A2 (fun r K'' M2 h2 => ?_)
        obtain ⟨e1, e2, hI2⟩ := q2 r K'' M2 h2
        subst e1 e2
        show AW (az_PX Lx xs) (fun below args s _ => lw_Z below args s) room_1 yL_law cL_law 4 ret 417 35854 648 [(5, 0), (1, x), (1, m), (0, i)] [(0, z1), (0, z1)] K'' M2
        refine aw_icmp_eq (tgt := 1328) dL_law_648 rfl (fun _ => ?_) (fun h => absurd rfl h)
        exact nx M2 hI2
      by_cases q : w = 15
      · subst q
        refine aw_tsIn (tgt := 653) dL_law_33 (by omega) (by omega) rfl rfl ?_
        obtain ⟨Q1, A1, q1⟩ := pr_runBy hK hD hm hB2 hI ((xs (i + 1).toNat).toInt) ((xs (i + 2).toNat).toInt)
        refine aw_aload_n dL_law_653 rfl rfl ⟨by decide, by decide⟩ ?_
        refine aw_aload_n dL_law_654 rfl rfl ⟨by decide, by decide⟩ ?_
        refine aw_iload_n dL_law_655 rfl rfl ?_
        refine aw_iconst dL_law_656 rfl ⟨by decide, by decide⟩ ?_
        refine aw_iadd dL_law_657 (az_wr_id (by omega) (by omega)) ?_
        refine aw_sld dL_law_658 (by omega) (by omega) (by omega) ?_
        refine aw_aload_n dL_law_659 rfl rfl ⟨by decide, by decide⟩ ?_
        refine aw_iload_n dL_law_660 rfl rfl ?_
        refine aw_iconst dL_law_661 rfl ⟨by decide, by decide⟩ ?_
        refine aw_iadd dL_law_662 (az_wr_id (by omega) (by omega)) ?_
        refine aw_sld dL_law_663 (by omega) (by omega) (by omega) ?_
        refine aw_callV (As := [(0, (xs (i + 1).toNat).toInt), (0, (xs (i + 2).toNat).toInt)]) dL_law_664 ml_RL_82 rfl hK.1 (by decide) rfl rfl ⟨Nat.le_of_ble_eq_true rfl, Nat.le_of_ble_eq_true rfl, Nat.le_of_ble_eq_true rfl, Nat.le_of_ble_eq_true rfl⟩ (Nat.le_of_ble_eq_true rfl) A1 (fun r K' M1 h1 => ?_)
        obtain ⟨z1, e1, e2, Q2, A2, q2⟩ := q1 r K' M1 h1
        subst e1 e2
        show AW (az_PX Lx xs) (fun below args s _ => lw_Z below args s) room_1 yL_law cL_law 4 ret 417 35854 667 [(5, 0), (1, x), (1, m), (0, i)] [(0, z1)] K' M1
        refine aw_aload_n dL_law_667 rfl rfl ⟨by decide, by decide⟩ ?_
        refine aw_aload_n dL_law_668 rfl rfl ⟨by decide, by decide⟩ ?_
        refine aw_iload_n dL_law_669 rfl rfl ?_
        refine aw_iconst dL_law_670 rfl ⟨by decide, by decide⟩ ?_
        refine aw_iadd dL_law_671 (az_wr_id (by omega) (by omega)) ?_
        refine aw_sld dL_law_672 (by omega) (by omega) (by omega) ?_
        refine aw_aload_n dL_law_673 rfl rfl ⟨by decide, by decide⟩ ?_
        refine aw_iload_n dL_law_674 rfl rfl ?_
        refine aw_iconst dL_law_675 rfl ⟨by decide, by decide⟩ ?_
        refine aw_iadd dL_law_676 (az_wr_id (by omega) (by omega)) ?_
        refine aw_sld dL_law_677 (by omega) (by omega) (by omega) ?_
        refine aw_callV (As := [(0, (xs (i + 1).toNat).toInt), (0, (xs (i + 2).toNat).toInt)]) dL_law_678 ml_RL_85 rfl hD.1.1.1 (by decide) rfl rfl ⟨Nat.le_of_ble_eq_true rfl, Nat.le_of_ble_eq_true rfl, Nat.le_of_ble_eq_true rfl, Nat.le_of_ble_eq_true rfl⟩ (Nat.le_of_ble_eq_true rfl) A2 (fun r K'' M2 h2 => ?_)
        obtain ⟨e1, e2, hI2⟩ := q2 r K'' M2 h2
        subst e1 e2
        show AW (az_PX Lx xs) (fun below args s _ => lw_Z below args s) room_1 yL_law cL_law 4 ret 417 35854 681 [(5, 0), (1, x), (1, m), (0, i)] [(0, z1), (0, z1)] K'' M2
        refine aw_icmp_eq (tgt := 1328) dL_law_681 rfl (fun _ => ?_) (fun h => absurd rfl h)
        exact nx M2 hI2
      by_cases q : w = 16
      · subst q
        refine aw_tsIn (tgt := 686) dL_law_33 (by omega) (by omega) rfl rfl ?_
        obtain ⟨Q1, A1, q1⟩ := pr_cheapest hK hD hm hB2 hI ((xs (i + 1).toNat).toInt)
        refine aw_aload_n dL_law_686 rfl rfl ⟨by decide, by decide⟩ ?_
        refine aw_aload_n dL_law_687 rfl rfl ⟨by decide, by decide⟩ ?_
        refine aw_iload_n dL_law_688 rfl rfl ?_
        refine aw_iconst dL_law_689 rfl ⟨by decide, by decide⟩ ?_
        refine aw_iadd dL_law_690 (az_wr_id (by omega) (by omega)) ?_
        refine aw_sld dL_law_691 (by omega) (by omega) (by omega) ?_
        refine aw_callV (As := [(0, (xs (i + 1).toNat).toInt)]) dL_law_692 ml_RL_86 rfl hK.1 (by decide) rfl rfl ⟨Nat.le_of_ble_eq_true rfl, Nat.le_of_ble_eq_true rfl, Nat.le_of_ble_eq_true rfl, Nat.le_of_ble_eq_true rfl⟩ (Nat.le_of_ble_eq_true rfl) A1 (fun r K' M1 h1 => ?_)
        obtain ⟨z1, e1, e2, Q2, A2, q2⟩ := q1 r K' M1 h1
        subst e1 e2
        show AW (az_PX Lx xs) (fun below args s _ => lw_Z below args s) room_1 yL_law cL_law 4 ret 417 35854 695 [(5, 0), (1, x), (1, m), (0, i)] [(0, z1)] K' M1
        refine aw_aload_n dL_law_695 rfl rfl ⟨by decide, by decide⟩ ?_
        refine aw_aload_n dL_law_696 rfl rfl ⟨by decide, by decide⟩ ?_
        refine aw_iload_n dL_law_697 rfl rfl ?_
        refine aw_iconst dL_law_698 rfl ⟨by decide, by decide⟩ ?_
        refine aw_iadd dL_law_699 (az_wr_id (by omega) (by omega)) ?_
        refine aw_sld dL_law_700 (by omega) (by omega) (by omega) ?_
        refine aw_callV (As := [(0, (xs (i + 1).toNat).toInt)]) dL_law_701 ml_RL_89 rfl hD.1.1.1 (by decide) rfl rfl ⟨Nat.le_of_ble_eq_true rfl, Nat.le_of_ble_eq_true rfl, Nat.le_of_ble_eq_true rfl, Nat.le_of_ble_eq_true rfl⟩ (Nat.le_of_ble_eq_true rfl) A2 (fun r K'' M2 h2 => ?_)
        obtain ⟨e1, e2, hI2⟩ := q2 r K'' M2 h2
        subst e1 e2
        show AW (az_PX Lx xs) (fun below args s _ => lw_Z below args s) room_1 yL_law cL_law 4 ret 417 35854 704 [(5, 0), (1, x), (1, m), (0, i)] [(0, z1), (0, z1)] K'' M2
        refine aw_icmp_eq (tgt := 1328) dL_law_704 rfl (fun _ => ?_) (fun h => absurd rfl h)
        exact nx M2 hI2
      by_cases q : w = 17
      · subst q
        refine aw_tsIn (tgt := 709) dL_law_33 (by omega) (by omega) rfl rfl ?_
        obtain ⟨Q1, A1, q1⟩ := pr_suits hK hD hm hB2 hI 
        refine aw_aload_n dL_law_709 rfl rfl ⟨by decide, by decide⟩ ?_
        refine aw_callV (As := []) dL_law_710 ml_RL_90 rfl hK.1 (by decide) rfl rfl ⟨Nat.le_of_ble_eq_true rfl, Nat.le_of_ble_eq_true rfl, Nat.le_of_ble_eq_true rfl, Nat.le_of_ble_eq_true rfl⟩ (Nat.le_of_ble_eq_true rfl) A1 (fun r K' M1 h1 => ?_)
        obtain ⟨z1, e1, e2, Q2, A2, q2⟩ := q1 r K' M1 h1
        subst e1 e2
        show AW (az_PX Lx xs) (fun below args s _ => lw_Z below args s) room_1 yL_law cL_law 4 ret 417 35854 713 [(5, 0), (1, x), (1, m), (0, i)] [(0, z1)] K' M1
        refine aw_aload_n dL_law_713 rfl rfl ⟨by decide, by decide⟩ ?_
        refine aw_callV (As := []) dL_law_714 ml_RL_93 rfl hD.1.1.1 (by decide) rfl rfl ⟨Nat.le_of_ble_eq_true rfl, Nat.le_of_ble_eq_true rfl, Nat.le_of_ble_eq_true rfl, Nat.le_of_ble_eq_true rfl⟩ (Nat.le_of_ble_eq_true rfl) A2 (fun r K'' M2 h2 => ?_)
        obtain ⟨e1, e2, hI2⟩ := q2 r K'' M2 h2
        subst e1 e2
        show AW (az_PX Lx xs) (fun below args s _ => lw_Z below args s) room_1 yL_law cL_law 4 ret 417 35854 717 [(5, 0), (1, x), (1, m), (0, i)] [(0, z1), (0, z1)] K'' M2
        refine aw_icmp_eq (tgt := 1328) dL_law_717 rfl (fun _ => ?_) (fun h => absurd rfl h)
        exact nx M2 hI2
      by_cases q : w = 18
      · subst q
        refine aw_tsIn (tgt := 722) dL_law_33 (by omega) (by omega) rfl rfl ?_
        obtain ⟨Q1, A1, q1⟩ := pr_undo hK hD hm hB2 hI 
        refine aw_aload_n dL_law_722 rfl rfl ⟨by decide, by decide⟩ ?_
        refine aw_callV (As := []) dL_law_723 ml_RL_94 rfl hK.1 (by decide) rfl rfl ⟨Nat.le_of_ble_eq_true rfl, Nat.le_of_ble_eq_true rfl, Nat.le_of_ble_eq_true rfl, Nat.le_of_ble_eq_true rfl⟩ (Nat.le_of_ble_eq_true rfl) A1 (fun r K' M1 h1 => ?_)
        obtain ⟨z1, e1, e2, Q2, A2, q2⟩ := q1 r K' M1 h1
        subst e1 e2
        show AW (az_PX Lx xs) (fun below args s _ => lw_Z below args s) room_1 yL_law cL_law 4 ret 417 35854 726 [(5, 0), (1, x), (1, m), (0, i)] [(0, z1)] K' M1
        refine aw_aload_n dL_law_726 rfl rfl ⟨by decide, by decide⟩ ?_
        refine aw_callV (As := []) dL_law_727 ml_RL_97 rfl hD.1.1.1 (by decide) rfl rfl ⟨Nat.le_of_ble_eq_true rfl, Nat.le_of_ble_eq_true rfl, Nat.le_of_ble_eq_true rfl, Nat.le_of_ble_eq_true rfl⟩ (Nat.le_of_ble_eq_true rfl) A2 (fun r K'' M2 h2 => ?_)
        obtain ⟨e1, e2, hI2⟩ := q2 r K'' M2 h2
        subst e1 e2
        show AW (az_PX Lx xs) (fun below args s _ => lw_Z below args s) room_1 yL_law cL_law 4 ret 417 35854 730 [(5, 0), (1, x), (1, m), (0, i)] [(0, z1), (0, z1)] K'' M2
        refine aw_icmp_eq (tgt := 1328) dL_law_730 rfl (fun _ => ?_) (fun h => absurd rfl h)
        exact nx M2 hI2
      by_cases q : w = 19
      · subst q
        refine aw_tsIn (tgt := 735) dL_law_33 (by omega) (by omega) rfl rfl ?_
        obtain ⟨Q1, A1, q1⟩ := pr_redo hK hD hm hB2 hI 
        refine aw_aload_n dL_law_735 rfl rfl ⟨by decide, by decide⟩ ?_
        refine aw_callV (As := []) dL_law_736 ml_RL_98 rfl hK.1 (by decide) rfl rfl ⟨Nat.le_of_ble_eq_true rfl, Nat.le_of_ble_eq_true rfl, Nat.le_of_ble_eq_true rfl, Nat.le_of_ble_eq_true rfl⟩ (Nat.le_of_ble_eq_true rfl) A1 (fun r K' M1 h1 => ?_)
        obtain ⟨z1, e1, e2, Q2, A2, q2⟩ := q1 r K' M1 h1
        subst e1 e2
        show AW (az_PX Lx xs) (fun below args s _ => lw_Z below args s) room_1 yL_law cL_law 4 ret 417 35854 739 [(5, 0), (1, x), (1, m), (0, i)] [(0, z1)] K' M1
        refine aw_aload_n dL_law_739 rfl rfl ⟨by decide, by decide⟩ ?_
        refine aw_callV (As := []) dL_law_740 ml_RL_101 rfl hD.1.1.1 (by decide) rfl rfl ⟨Nat.le_of_ble_eq_true rfl, Nat.le_of_ble_eq_true rfl, Nat.le_of_ble_eq_true rfl, Nat.le_of_ble_eq_true rfl⟩ (Nat.le_of_ble_eq_true rfl) A2 (fun r K'' M2 h2 => ?_)
        obtain ⟨e1, e2, hI2⟩ := q2 r K'' M2 h2
        subst e1 e2
        show AW (az_PX Lx xs) (fun below args s _ => lw_Z below args s) room_1 yL_law cL_law 4 ret 417 35854 743 [(5, 0), (1, x), (1, m), (0, i)] [(0, z1), (0, z1)] K'' M2
        refine aw_icmp_eq (tgt := 1328) dL_law_743 rfl (fun _ => ?_) (fun h => absurd rfl h)
        exact nx M2 hI2
      by_cases q : w = 20
      · subst q
        refine aw_tsIn (tgt := 748) dL_law_33 (by omega) (by omega) rfl rfl ?_
        obtain ⟨Q1, A1, q1⟩ := pr_root hK hD hm hB2 hI ((xs (i + 1).toNat).toInt)
        refine aw_aload_n dL_law_748 rfl rfl ⟨by decide, by decide⟩ ?_
        refine aw_aload_n dL_law_749 rfl rfl ⟨by decide, by decide⟩ ?_
        refine aw_iload_n dL_law_750 rfl rfl ?_
        refine aw_iconst dL_law_751 rfl ⟨by decide, by decide⟩ ?_
        refine aw_iadd dL_law_752 (az_wr_id (by omega) (by omega)) ?_
        refine aw_sld dL_law_753 (by omega) (by omega) (by omega) ?_
        refine aw_callV (As := [(0, (xs (i + 1).toNat).toInt)]) dL_law_754 ml_RL_102 rfl hK.1 (by decide) rfl rfl ⟨Nat.le_of_ble_eq_true rfl, Nat.le_of_ble_eq_true rfl, Nat.le_of_ble_eq_true rfl, Nat.le_of_ble_eq_true rfl⟩ (Nat.le_of_ble_eq_true rfl) A1 (fun r K' M1 h1 => ?_)
        obtain ⟨z1, e1, e2, Q2, A2, q2⟩ := q1 r K' M1 h1
        subst e1 e2
        show AW (az_PX Lx xs) (fun below args s _ => lw_Z below args s) room_1 yL_law cL_law 4 ret 417 35854 757 [(5, 0), (1, x), (1, m), (0, i)] [(0, z1)] K' M1
        refine aw_aload_n dL_law_757 rfl rfl ⟨by decide, by decide⟩ ?_
        refine aw_aload_n dL_law_758 rfl rfl ⟨by decide, by decide⟩ ?_
        refine aw_iload_n dL_law_759 rfl rfl ?_
        refine aw_iconst dL_law_760 rfl ⟨by decide, by decide⟩ ?_
        refine aw_iadd dL_law_761 (az_wr_id (by omega) (by omega)) ?_
        refine aw_sld dL_law_762 (by omega) (by omega) (by omega) ?_
        refine aw_callV (As := [(0, (xs (i + 1).toNat).toInt)]) dL_law_763 ml_RL_105 rfl hD.1.1.1 (by decide) rfl rfl ⟨Nat.le_of_ble_eq_true rfl, Nat.le_of_ble_eq_true rfl, Nat.le_of_ble_eq_true rfl, Nat.le_of_ble_eq_true rfl⟩ (Nat.le_of_ble_eq_true rfl) A2 (fun r K'' M2 h2 => ?_)
        obtain ⟨e1, e2, hI2⟩ := q2 r K'' M2 h2
        subst e1 e2
        show AW (az_PX Lx xs) (fun below args s _ => lw_Z below args s) room_1 yL_law cL_law 4 ret 417 35854 766 [(5, 0), (1, x), (1, m), (0, i)] [(0, z1), (0, z1)] K'' M2
        refine aw_icmp_eq (tgt := 1328) dL_law_766 rfl (fun _ => ?_) (fun h => absurd rfl h)
        exact nx M2 hI2
      by_cases q : w = 21
      · subst q
        refine aw_tsIn (tgt := 771) dL_law_33 (by omega) (by omega) rfl rfl ?_
        obtain ⟨Q1, A1, q1⟩ := pr_weakly hK hD hm hB2 hI ((xs (i + 1).toNat).toInt)
        refine aw_aload_n dL_law_771 rfl rfl ⟨by decide, by decide⟩ ?_
        refine aw_aload_n dL_law_772 rfl rfl ⟨by decide, by decide⟩ ?_
        refine aw_iload_n dL_law_773 rfl rfl ?_
        refine aw_iconst dL_law_774 rfl ⟨by decide, by decide⟩ ?_
        refine aw_iadd dL_law_775 (az_wr_id (by omega) (by omega)) ?_
        refine aw_sld dL_law_776 (by omega) (by omega) (by omega) ?_
        refine aw_callV (As := [(0, (xs (i + 1).toNat).toInt)]) dL_law_777 ml_RL_106 rfl hK.1 (by decide) rfl rfl ⟨Nat.le_of_ble_eq_true rfl, Nat.le_of_ble_eq_true rfl, Nat.le_of_ble_eq_true rfl, Nat.le_of_ble_eq_true rfl⟩ (Nat.le_of_ble_eq_true rfl) A1 (fun r K' M1 h1 => ?_)
        obtain ⟨z1, e1, e2, Q2, A2, q2⟩ := q1 r K' M1 h1
        subst e1 e2
        show AW (az_PX Lx xs) (fun below args s _ => lw_Z below args s) room_1 yL_law cL_law 4 ret 417 35854 780 [(5, 0), (1, x), (1, m), (0, i)] [(0, z1)] K' M1
        refine aw_aload_n dL_law_780 rfl rfl ⟨by decide, by decide⟩ ?_
        refine aw_aload_n dL_law_781 rfl rfl ⟨by decide, by decide⟩ ?_
        refine aw_iload_n dL_law_782 rfl rfl ?_
        refine aw_iconst dL_law_783 rfl ⟨by decide, by decide⟩ ?_
        refine aw_iadd dL_law_784 (az_wr_id (by omega) (by omega)) ?_
        refine aw_sld dL_law_785 (by omega) (by omega) (by omega) ?_
        refine aw_callV (As := [(0, (xs (i + 1).toNat).toInt)]) dL_law_786 ml_RL_109 rfl hD.1.1.1 (by decide) rfl rfl ⟨Nat.le_of_ble_eq_true rfl, Nat.le_of_ble_eq_true rfl, Nat.le_of_ble_eq_true rfl, Nat.le_of_ble_eq_true rfl⟩ (Nat.le_of_ble_eq_true rfl) A2 (fun r K'' M2 h2 => ?_)
        obtain ⟨e1, e2, hI2⟩ := q2 r K'' M2 h2
        subst e1 e2
        show AW (az_PX Lx xs) (fun below args s _ => lw_Z below args s) room_1 yL_law cL_law 4 ret 417 35854 789 [(5, 0), (1, x), (1, m), (0, i)] [(0, z1), (0, z1)] K'' M2
        refine aw_icmp_eq (tgt := 1328) dL_law_789 rfl (fun _ => ?_) (fun h => absurd rfl h)
        exact nx M2 hI2
      by_cases q : w = 22
      · subst q
        refine aw_tsIn (tgt := 794) dL_law_33 (by omega) (by omega) rfl rfl ?_
        obtain ⟨Q1, A1, q1⟩ := pr_told hK hD hm hB2 hI ((xs (i + 1).toNat).toInt) ((xs (i + 2).toNat).toInt)
        refine aw_aload_n dL_law_794 rfl rfl ⟨by decide, by decide⟩ ?_
        refine aw_aload_n dL_law_795 rfl rfl ⟨by decide, by decide⟩ ?_
        refine aw_iload_n dL_law_796 rfl rfl ?_
        refine aw_iconst dL_law_797 rfl ⟨by decide, by decide⟩ ?_
        refine aw_iadd dL_law_798 (az_wr_id (by omega) (by omega)) ?_
        refine aw_sld dL_law_799 (by omega) (by omega) (by omega) ?_
        refine aw_aload_n dL_law_800 rfl rfl ⟨by decide, by decide⟩ ?_
        refine aw_iload_n dL_law_801 rfl rfl ?_
        refine aw_iconst dL_law_802 rfl ⟨by decide, by decide⟩ ?_
        refine aw_iadd dL_law_803 (az_wr_id (by omega) (by omega)) ?_
        refine aw_sld dL_law_804 (by omega) (by omega) (by omega) ?_
        refine aw_callV (As := [(0, (xs (i + 1).toNat).toInt), (0, (xs (i + 2).toNat).toInt)]) dL_law_805 ml_RL_110 rfl hK.1 (by decide) rfl rfl ⟨Nat.le_of_ble_eq_true rfl, Nat.le_of_ble_eq_true rfl, Nat.le_of_ble_eq_true rfl, Nat.le_of_ble_eq_true rfl⟩ (Nat.le_of_ble_eq_true rfl) A1 (fun r K' M1 h1 => ?_)
        obtain ⟨z1, e1, e2, Q2, A2, q2⟩ := q1 r K' M1 h1
        subst e1 e2
        show AW (az_PX Lx xs) (fun below args s _ => lw_Z below args s) room_1 yL_law cL_law 4 ret 417 35854 808 [(5, 0), (1, x), (1, m), (0, i)] [(0, z1)] K' M1
        refine aw_aload_n dL_law_808 rfl rfl ⟨by decide, by decide⟩ ?_
        refine aw_aload_n dL_law_809 rfl rfl ⟨by decide, by decide⟩ ?_
        refine aw_iload_n dL_law_810 rfl rfl ?_
        refine aw_iconst dL_law_811 rfl ⟨by decide, by decide⟩ ?_
        refine aw_iadd dL_law_812 (az_wr_id (by omega) (by omega)) ?_
        refine aw_sld dL_law_813 (by omega) (by omega) (by omega) ?_
        refine aw_aload_n dL_law_814 rfl rfl ⟨by decide, by decide⟩ ?_
        refine aw_iload_n dL_law_815 rfl rfl ?_
        refine aw_iconst dL_law_816 rfl ⟨by decide, by decide⟩ ?_
        refine aw_iadd dL_law_817 (az_wr_id (by omega) (by omega)) ?_
        refine aw_sld dL_law_818 (by omega) (by omega) (by omega) ?_
        refine aw_callV (As := [(0, (xs (i + 1).toNat).toInt), (0, (xs (i + 2).toNat).toInt)]) dL_law_819 ml_RL_113 rfl hD.1.1.1 (by decide) rfl rfl ⟨Nat.le_of_ble_eq_true rfl, Nat.le_of_ble_eq_true rfl, Nat.le_of_ble_eq_true rfl, Nat.le_of_ble_eq_true rfl⟩ (Nat.le_of_ble_eq_true rfl) A2 (fun r K'' M2 h2 => ?_)
        obtain ⟨e1, e2, hI2⟩ := q2 r K'' M2 h2
        subst e1 e2
        show AW (az_PX Lx xs) (fun below args s _ => lw_Z below args s) room_1 yL_law cL_law 4 ret 417 35854 822 [(5, 0), (1, x), (1, m), (0, i)] [(0, z1), (0, z1)] K'' M2
        refine aw_icmp_eq (tgt := 1328) dL_law_822 rfl (fun _ => ?_) (fun h => absurd rfl h)
        exact nx M2 hI2
      by_cases q : w = 23
      · subst q
        refine aw_tsIn (tgt := 827) dL_law_33 (by omega) (by omega) rfl rfl ?_
        obtain ⟨Q1, A1, q1⟩ := pr_image hK hD hm hB2 hI ((xs (i + 1).toNat).toInt)
        refine aw_aload_n dL_law_827 rfl rfl ⟨by decide, by decide⟩ ?_
        refine aw_aload_n dL_law_828 rfl rfl ⟨by decide, by decide⟩ ?_
        refine aw_iload_n dL_law_829 rfl rfl ?_
        refine aw_iconst dL_law_830 rfl ⟨by decide, by decide⟩ ?_
        refine aw_iadd dL_law_831 (az_wr_id (by omega) (by omega)) ?_
        refine aw_sld dL_law_832 (by omega) (by omega) (by omega) ?_
        refine aw_callV (As := [(0, (xs (i + 1).toNat).toInt)]) dL_law_833 ml_RL_114 rfl hK.1 (by decide) rfl rfl ⟨Nat.le_of_ble_eq_true rfl, Nat.le_of_ble_eq_true rfl, Nat.le_of_ble_eq_true rfl, Nat.le_of_ble_eq_true rfl⟩ (Nat.le_of_ble_eq_true rfl) A1 (fun r K' M1 h1 => ?_)
        obtain ⟨z1, e1, e2, Q2, A2, q2⟩ := q1 r K' M1 h1
        subst e1 e2
        show AW (az_PX Lx xs) (fun below args s _ => lw_Z below args s) room_1 yL_law cL_law 4 ret 417 35854 836 [(5, 0), (1, x), (1, m), (0, i)] [(0, z1)] K' M1
        refine aw_aload_n dL_law_836 rfl rfl ⟨by decide, by decide⟩ ?_
        refine aw_aload_n dL_law_837 rfl rfl ⟨by decide, by decide⟩ ?_
        refine aw_iload_n dL_law_838 rfl rfl ?_
        refine aw_iconst dL_law_839 rfl ⟨by decide, by decide⟩ ?_
        refine aw_iadd dL_law_840 (az_wr_id (by omega) (by omega)) ?_
        refine aw_sld dL_law_841 (by omega) (by omega) (by omega) ?_
        refine aw_callV (As := [(0, (xs (i + 1).toNat).toInt)]) dL_law_842 ml_RL_117 rfl hD.1.1.1 (by decide) rfl rfl ⟨Nat.le_of_ble_eq_true rfl, Nat.le_of_ble_eq_true rfl, Nat.le_of_ble_eq_true rfl, Nat.le_of_ble_eq_true rfl⟩ (Nat.le_of_ble_eq_true rfl) A2 (fun r K'' M2 h2 => ?_)
        obtain ⟨e1, e2, hI2⟩ := q2 r K'' M2 h2
        subst e1 e2
        show AW (az_PX Lx xs) (fun below args s _ => lw_Z below args s) room_1 yL_law cL_law 4 ret 417 35854 845 [(5, 0), (1, x), (1, m), (0, i)] [(0, z1), (0, z1)] K'' M2
        refine aw_icmp_eq (tgt := 1328) dL_law_845 rfl (fun _ => ?_) (fun h => absurd rfl h)
        exact nx M2 hI2
      by_cases q : w = 24
      · subst q
        refine aw_tsIn (tgt := 850) dL_law_33 (by omega) (by omega) rfl rfl ?_
        obtain ⟨Q1, A1, q1⟩ := pr_back hK hD hm hB2 hI ((xs (i + 1).toNat).toInt)
        refine aw_aload_n dL_law_850 rfl rfl ⟨by decide, by decide⟩ ?_
        refine aw_aload_n dL_law_851 rfl rfl ⟨by decide, by decide⟩ ?_
        refine aw_iload_n dL_law_852 rfl rfl ?_
        refine aw_iconst dL_law_853 rfl ⟨by decide, by decide⟩ ?_
        refine aw_iadd dL_law_854 (az_wr_id (by omega) (by omega)) ?_
        refine aw_sld dL_law_855 (by omega) (by omega) (by omega) ?_
        refine aw_callV (As := [(0, (xs (i + 1).toNat).toInt)]) dL_law_856 ml_RL_118 rfl hK.1 (by decide) rfl rfl ⟨Nat.le_of_ble_eq_true rfl, Nat.le_of_ble_eq_true rfl, Nat.le_of_ble_eq_true rfl, Nat.le_of_ble_eq_true rfl⟩ (Nat.le_of_ble_eq_true rfl) A1 (fun r K' M1 h1 => ?_)
        obtain ⟨z1, e1, e2, Q2, A2, q2⟩ := q1 r K' M1 h1
        subst e1 e2
        show AW (az_PX Lx xs) (fun below args s _ => lw_Z below args s) room_1 yL_law cL_law 4 ret 417 35854 859 [(5, 0), (1, x), (1, m), (0, i)] [(0, z1)] K' M1
        refine aw_aload_n dL_law_859 rfl rfl ⟨by decide, by decide⟩ ?_
        refine aw_aload_n dL_law_860 rfl rfl ⟨by decide, by decide⟩ ?_
        refine aw_iload_n dL_law_861 rfl rfl ?_
        refine aw_iconst dL_law_862 rfl ⟨by decide, by decide⟩ ?_
        refine aw_iadd dL_law_863 (az_wr_id (by omega) (by omega)) ?_
        refine aw_sld dL_law_864 (by omega) (by omega) (by omega) ?_
        refine aw_callV (As := [(0, (xs (i + 1).toNat).toInt)]) dL_law_865 ml_RL_121 rfl hD.1.1.1 (by decide) rfl rfl ⟨Nat.le_of_ble_eq_true rfl, Nat.le_of_ble_eq_true rfl, Nat.le_of_ble_eq_true rfl, Nat.le_of_ble_eq_true rfl⟩ (Nat.le_of_ble_eq_true rfl) A2 (fun r K'' M2 h2 => ?_)
        obtain ⟨e1, e2, hI2⟩ := q2 r K'' M2 h2
        subst e1 e2
        show AW (az_PX Lx xs) (fun below args s _ => lw_Z below args s) room_1 yL_law cL_law 4 ret 417 35854 868 [(5, 0), (1, x), (1, m), (0, i)] [(0, z1), (0, z1)] K'' M2
        refine aw_icmp_eq (tgt := 1328) dL_law_868 rfl (fun _ => ?_) (fun h => absurd rfl h)
        exact nx M2 hI2
      by_cases q : w = 25
      · subst q
        refine aw_tsIn (tgt := 873) dL_law_33 (by omega) (by omega) rfl rfl ?_
        obtain ⟨Q1, A1, q1⟩ := pr_field hK hD hm hB2 hI ((xs (i + 1).toNat).toInt) ((xs (i + 2).toNat).toInt)
        refine aw_aload_n dL_law_873 rfl rfl ⟨by decide, by decide⟩ ?_
        refine aw_aload_n dL_law_874 rfl rfl ⟨by decide, by decide⟩ ?_
        refine aw_iload_n dL_law_875 rfl rfl ?_
        refine aw_iconst dL_law_876 rfl ⟨by decide, by decide⟩ ?_
        refine aw_iadd dL_law_877 (az_wr_id (by omega) (by omega)) ?_
        refine aw_sld dL_law_878 (by omega) (by omega) (by omega) ?_
        refine aw_aload_n dL_law_879 rfl rfl ⟨by decide, by decide⟩ ?_
        refine aw_iload_n dL_law_880 rfl rfl ?_
        refine aw_iconst dL_law_881 rfl ⟨by decide, by decide⟩ ?_
        refine aw_iadd dL_law_882 (az_wr_id (by omega) (by omega)) ?_
        refine aw_sld dL_law_883 (by omega) (by omega) (by omega) ?_
        refine aw_callV (As := [(0, (xs (i + 1).toNat).toInt), (0, (xs (i + 2).toNat).toInt)]) dL_law_884 ml_RL_122 rfl hK.1 (by decide) rfl rfl ⟨Nat.le_of_ble_eq_true rfl, Nat.le_of_ble_eq_true rfl, Nat.le_of_ble_eq_true rfl, Nat.le_of_ble_eq_true rfl⟩ (Nat.le_of_ble_eq_true rfl) A1 (fun r K' M1 h1 => ?_)
        obtain ⟨z1, e1, e2, Q2, A2, q2⟩ := q1 r K' M1 h1
        subst e1 e2
        show AW (az_PX Lx xs) (fun below args s _ => lw_Z below args s) room_1 yL_law cL_law 4 ret 417 35854 887 [(5, 0), (1, x), (1, m), (0, i)] [(0, z1)] K' M1
        refine aw_aload_n dL_law_887 rfl rfl ⟨by decide, by decide⟩ ?_
        refine aw_aload_n dL_law_888 rfl rfl ⟨by decide, by decide⟩ ?_
        refine aw_iload_n dL_law_889 rfl rfl ?_
        refine aw_iconst dL_law_890 rfl ⟨by decide, by decide⟩ ?_
        refine aw_iadd dL_law_891 (az_wr_id (by omega) (by omega)) ?_
        refine aw_sld dL_law_892 (by omega) (by omega) (by omega) ?_
        refine aw_aload_n dL_law_893 rfl rfl ⟨by decide, by decide⟩ ?_
        refine aw_iload_n dL_law_894 rfl rfl ?_
        refine aw_iconst dL_law_895 rfl ⟨by decide, by decide⟩ ?_
        refine aw_iadd dL_law_896 (az_wr_id (by omega) (by omega)) ?_
        refine aw_sld dL_law_897 (by omega) (by omega) (by omega) ?_
        refine aw_callV (As := [(0, (xs (i + 1).toNat).toInt), (0, (xs (i + 2).toNat).toInt)]) dL_law_898 ml_RL_125 rfl hD.1.1.1 (by decide) rfl rfl ⟨Nat.le_of_ble_eq_true rfl, Nat.le_of_ble_eq_true rfl, Nat.le_of_ble_eq_true rfl, Nat.le_of_ble_eq_true rfl⟩ (Nat.le_of_ble_eq_true rfl) A2 (fun r K'' M2 h2 => ?_)
        obtain ⟨e1, e2, hI2⟩ := q2 r K'' M2 h2
        subst e1 e2
        show AW (az_PX Lx xs) (fun below args s _ => lw_Z below args s) room_1 yL_law cL_law 4 ret 417 35854 901 [(5, 0), (1, x), (1, m), (0, i)] [(0, z1), (0, z1)] K'' M2
        refine aw_icmp_eq (tgt := 1328) dL_law_901 rfl (fun _ => ?_) (fun h => absurd rfl h)
        exact nx M2 hI2
      by_cases q : w = 26
      · subst q
        refine aw_tsIn (tgt := 906) dL_law_33 (by omega) (by omega) rfl rfl ?_
        obtain ⟨Q1, A1, q1⟩ := pr_slot hK hD hm hB2 hI ((xs (i + 1).toNat).toInt) ((xs (i + 2).toNat).toInt)
        refine aw_aload_n dL_law_906 rfl rfl ⟨by decide, by decide⟩ ?_
        refine aw_aload_n dL_law_907 rfl rfl ⟨by decide, by decide⟩ ?_
        refine aw_iload_n dL_law_908 rfl rfl ?_
        refine aw_iconst dL_law_909 rfl ⟨by decide, by decide⟩ ?_
        refine aw_iadd dL_law_910 (az_wr_id (by omega) (by omega)) ?_
        refine aw_sld dL_law_911 (by omega) (by omega) (by omega) ?_
        refine aw_aload_n dL_law_912 rfl rfl ⟨by decide, by decide⟩ ?_
        refine aw_iload_n dL_law_913 rfl rfl ?_
        refine aw_iconst dL_law_914 rfl ⟨by decide, by decide⟩ ?_
        refine aw_iadd dL_law_915 (az_wr_id (by omega) (by omega)) ?_
        refine aw_sld dL_law_916 (by omega) (by omega) (by omega) ?_
        refine aw_callV (As := [(0, (xs (i + 1).toNat).toInt), (0, (xs (i + 2).toNat).toInt)]) dL_law_917 ml_RL_126 rfl hK.1 (by decide) rfl rfl ⟨Nat.le_of_ble_eq_true rfl, Nat.le_of_ble_eq_true rfl, Nat.le_of_ble_eq_true rfl, Nat.le_of_ble_eq_true rfl⟩ (Nat.le_of_ble_eq_true rfl) A1 (fun r K' M1 h1 => ?_)
        obtain ⟨z1, e1, e2, Q2, A2, q2⟩ := q1 r K' M1 h1
        subst e1 e2
        show AW (az_PX Lx xs) (fun below args s _ => lw_Z below args s) room_1 yL_law cL_law 4 ret 417 35854 920 [(5, 0), (1, x), (1, m), (0, i)] [(0, z1)] K' M1
        refine aw_aload_n dL_law_920 rfl rfl ⟨by decide, by decide⟩ ?_
        refine aw_aload_n dL_law_921 rfl rfl ⟨by decide, by decide⟩ ?_
        refine aw_iload_n dL_law_922 rfl rfl ?_
        refine aw_iconst dL_law_923 rfl ⟨by decide, by decide⟩ ?_
        refine aw_iadd dL_law_924 (az_wr_id (by omega) (by omega)) ?_
        refine aw_sld dL_law_925 (by omega) (by omega) (by omega) ?_
        refine aw_aload_n dL_law_926 rfl rfl ⟨by decide, by decide⟩ ?_
        refine aw_iload_n dL_law_927 rfl rfl ?_
        refine aw_iconst dL_law_928 rfl ⟨by decide, by decide⟩ ?_
        refine aw_iadd dL_law_929 (az_wr_id (by omega) (by omega)) ?_
        refine aw_sld dL_law_930 (by omega) (by omega) (by omega) ?_
        refine aw_callV (As := [(0, (xs (i + 1).toNat).toInt), (0, (xs (i + 2).toNat).toInt)]) dL_law_931 ml_RL_129 rfl hD.1.1.1 (by decide) rfl rfl ⟨Nat.le_of_ble_eq_true rfl, Nat.le_of_ble_eq_true rfl, Nat.le_of_ble_eq_true rfl, Nat.le_of_ble_eq_true rfl⟩ (Nat.le_of_ble_eq_true rfl) A2 (fun r K'' M2 h2 => ?_)
        obtain ⟨e1, e2, hI2⟩ := q2 r K'' M2 h2
        subst e1 e2
        show AW (az_PX Lx xs) (fun below args s _ => lw_Z below args s) room_1 yL_law cL_law 4 ret 417 35854 934 [(5, 0), (1, x), (1, m), (0, i)] [(0, z1), (0, z1)] K'' M2
        refine aw_icmp_eq (tgt := 1328) dL_law_934 rfl (fun _ => ?_) (fun h => absurd rfl h)
        exact nx M2 hI2
      by_cases q : w = 27
      · subst q
        refine aw_tsIn (tgt := 939) dL_law_33 (by omega) (by omega) rfl rfl ?_
        obtain ⟨Q1, A1, q1⟩ := pr_ring hK hD hm hB2 hI ((xs (i + 1).toNat).toInt) ((xs (i + 2).toNat).toInt)
        refine aw_aload_n dL_law_939 rfl rfl ⟨by decide, by decide⟩ ?_
        refine aw_aload_n dL_law_940 rfl rfl ⟨by decide, by decide⟩ ?_
        refine aw_iload_n dL_law_941 rfl rfl ?_
        refine aw_iconst dL_law_942 rfl ⟨by decide, by decide⟩ ?_
        refine aw_iadd dL_law_943 (az_wr_id (by omega) (by omega)) ?_
        refine aw_sld dL_law_944 (by omega) (by omega) (by omega) ?_
        refine aw_aload_n dL_law_945 rfl rfl ⟨by decide, by decide⟩ ?_
        refine aw_iload_n dL_law_946 rfl rfl ?_
        refine aw_iconst dL_law_947 rfl ⟨by decide, by decide⟩ ?_
        refine aw_iadd dL_law_948 (az_wr_id (by omega) (by omega)) ?_
        refine aw_sld dL_law_949 (by omega) (by omega) (by omega) ?_
        refine aw_callV (As := [(0, (xs (i + 1).toNat).toInt), (0, (xs (i + 2).toNat).toInt)]) dL_law_950 ml_RL_130 rfl hK.1 (by decide) rfl rfl ⟨Nat.le_of_ble_eq_true rfl, Nat.le_of_ble_eq_true rfl, Nat.le_of_ble_eq_true rfl, Nat.le_of_ble_eq_true rfl⟩ (Nat.le_of_ble_eq_true rfl) A1 (fun r K' M1 h1 => ?_)
        obtain ⟨z1, e1, e2, Q2, A2, q2⟩ := q1 r K' M1 h1
        subst e1 e2
        show AW (az_PX Lx xs) (fun below args s _ => lw_Z below args s) room_1 yL_law cL_law 4 ret 417 35854 953 [(5, 0), (1, x), (1, m), (0, i)] [(0, z1)] K' M1
        refine aw_aload_n dL_law_953 rfl rfl ⟨by decide, by decide⟩ ?_
        refine aw_aload_n dL_law_954 rfl rfl ⟨by decide, by decide⟩ ?_
        refine aw_iload_n dL_law_955 rfl rfl ?_
        refine aw_iconst dL_law_956 rfl ⟨by decide, by decide⟩ ?_
        refine aw_iadd dL_law_957 (az_wr_id (by omega) (by omega)) ?_
        refine aw_sld dL_law_958 (by omega) (by omega) (by omega) ?_
        refine aw_aload_n dL_law_959 rfl rfl ⟨by decide, by decide⟩ ?_
        refine aw_iload_n dL_law_960 rfl rfl ?_
        refine aw_iconst dL_law_961 rfl ⟨by decide, by decide⟩ ?_
        refine aw_iadd dL_law_962 (az_wr_id (by omega) (by omega)) ?_
        refine aw_sld dL_law_963 (by omega) (by omega) (by omega) ?_
        refine aw_callV (As := [(0, (xs (i + 1).toNat).toInt), (0, (xs (i + 2).toNat).toInt)]) dL_law_964 ml_RL_133 rfl hD.1.1.1 (by decide) rfl rfl ⟨Nat.le_of_ble_eq_true rfl, Nat.le_of_ble_eq_true rfl, Nat.le_of_ble_eq_true rfl, Nat.le_of_ble_eq_true rfl⟩ (Nat.le_of_ble_eq_true rfl) A2 (fun r K'' M2 h2 => ?_)
        obtain ⟨e1, e2, hI2⟩ := q2 r K'' M2 h2
        subst e1 e2
        show AW (az_PX Lx xs) (fun below args s _ => lw_Z below args s) room_1 yL_law cL_law 4 ret 417 35854 967 [(5, 0), (1, x), (1, m), (0, i)] [(0, z1), (0, z1)] K'' M2
        refine aw_icmp_eq (tgt := 1328) dL_law_967 rfl (fun _ => ?_) (fun h => absurd rfl h)
        exact nx M2 hI2
      by_cases q : w = 28
      · subst q
        refine aw_tsIn (tgt := 972) dL_law_33 (by omega) (by omega) rfl rfl ?_
        obtain ⟨Q1, A1, q1⟩ := pr_many hK hD hm hB2 hI ((xs (i + 1).toNat).toInt) ((xs (i + 2).toNat).toInt)
        refine aw_aload_n dL_law_972 rfl rfl ⟨by decide, by decide⟩ ?_
        refine aw_aload_n dL_law_973 rfl rfl ⟨by decide, by decide⟩ ?_
        refine aw_iload_n dL_law_974 rfl rfl ?_
        refine aw_iconst dL_law_975 rfl ⟨by decide, by decide⟩ ?_
        refine aw_iadd dL_law_976 (az_wr_id (by omega) (by omega)) ?_
        refine aw_sld dL_law_977 (by omega) (by omega) (by omega) ?_
        refine aw_aload_n dL_law_978 rfl rfl ⟨by decide, by decide⟩ ?_
        refine aw_iload_n dL_law_979 rfl rfl ?_
        refine aw_iconst dL_law_980 rfl ⟨by decide, by decide⟩ ?_
        refine aw_iadd dL_law_981 (az_wr_id (by omega) (by omega)) ?_
        refine aw_sld dL_law_982 (by omega) (by omega) (by omega) ?_
        refine aw_callV (As := [(0, (xs (i + 1).toNat).toInt), (0, (xs (i + 2).toNat).toInt)]) dL_law_983 ml_RL_134 rfl hK.1 (by decide) rfl rfl ⟨Nat.le_of_ble_eq_true rfl, Nat.le_of_ble_eq_true rfl, Nat.le_of_ble_eq_true rfl, Nat.le_of_ble_eq_true rfl⟩ (Nat.le_of_ble_eq_true rfl) A1 (fun r K' M1 h1 => ?_)
        obtain ⟨z1, e1, e2, Q2, A2, q2⟩ := q1 r K' M1 h1
        subst e1 e2
        show AW (az_PX Lx xs) (fun below args s _ => lw_Z below args s) room_1 yL_law cL_law 4 ret 417 35854 986 [(5, 0), (1, x), (1, m), (0, i)] [(0, z1)] K' M1
        refine aw_aload_n dL_law_986 rfl rfl ⟨by decide, by decide⟩ ?_
        refine aw_aload_n dL_law_987 rfl rfl ⟨by decide, by decide⟩ ?_
        refine aw_iload_n dL_law_988 rfl rfl ?_
        refine aw_iconst dL_law_989 rfl ⟨by decide, by decide⟩ ?_
        refine aw_iadd dL_law_990 (az_wr_id (by omega) (by omega)) ?_
        refine aw_sld dL_law_991 (by omega) (by omega) (by omega) ?_
        refine aw_aload_n dL_law_992 rfl rfl ⟨by decide, by decide⟩ ?_
        refine aw_iload_n dL_law_993 rfl rfl ?_
        refine aw_iconst dL_law_994 rfl ⟨by decide, by decide⟩ ?_
        refine aw_iadd dL_law_995 (az_wr_id (by omega) (by omega)) ?_
        refine aw_sld dL_law_996 (by omega) (by omega) (by omega) ?_
        refine aw_callV (As := [(0, (xs (i + 1).toNat).toInt), (0, (xs (i + 2).toNat).toInt)]) dL_law_997 ml_RL_137 rfl hD.1.1.1 (by decide) rfl rfl ⟨Nat.le_of_ble_eq_true rfl, Nat.le_of_ble_eq_true rfl, Nat.le_of_ble_eq_true rfl, Nat.le_of_ble_eq_true rfl⟩ (Nat.le_of_ble_eq_true rfl) A2 (fun r K'' M2 h2 => ?_)
        obtain ⟨e1, e2, hI2⟩ := q2 r K'' M2 h2
        subst e1 e2
        show AW (az_PX Lx xs) (fun below args s _ => lw_Z below args s) room_1 yL_law cL_law 4 ret 417 35854 1000 [(5, 0), (1, x), (1, m), (0, i)] [(0, z1), (0, z1)] K'' M2
        refine aw_icmp_eq (tgt := 1328) dL_law_1000 rfl (fun _ => ?_) (fun h => absurd rfl h)
        exact nx M2 hI2
      by_cases q : w = 29
      · subst q
        refine aw_tsIn (tgt := 1005) dL_law_33 (by omega) (by omega) rfl rfl ?_
        obtain ⟨Q1, A1, q1⟩ := pr_page hK hD hm hB2 hI ((xs (i + 1).toNat).toInt) ((xs (i + 2).toNat).toInt)
        refine aw_aload_n dL_law_1005 rfl rfl ⟨by decide, by decide⟩ ?_
        refine aw_aload_n dL_law_1006 rfl rfl ⟨by decide, by decide⟩ ?_
        refine aw_iload_n dL_law_1007 rfl rfl ?_
        refine aw_iconst dL_law_1008 rfl ⟨by decide, by decide⟩ ?_
        refine aw_iadd dL_law_1009 (az_wr_id (by omega) (by omega)) ?_
        refine aw_sld dL_law_1010 (by omega) (by omega) (by omega) ?_
        refine aw_aload_n dL_law_1011 rfl rfl ⟨by decide, by decide⟩ ?_
        refine aw_iload_n dL_law_1012 rfl rfl ?_
        refine aw_iconst dL_law_1013 rfl ⟨by decide, by decide⟩ ?_
        refine aw_iadd dL_law_1014 (az_wr_id (by omega) (by omega)) ?_
        refine aw_sld dL_law_1015 (by omega) (by omega) (by omega) ?_
        refine aw_callV (As := [(0, (xs (i + 1).toNat).toInt), (0, (xs (i + 2).toNat).toInt)]) dL_law_1016 ml_RL_138 rfl hK.1 (by decide) rfl rfl ⟨Nat.le_of_ble_eq_true rfl, Nat.le_of_ble_eq_true rfl, Nat.le_of_ble_eq_true rfl, Nat.le_of_ble_eq_true rfl⟩ (Nat.le_of_ble_eq_true rfl) A1 (fun r K' M1 h1 => ?_)
        obtain ⟨z1, e1, e2, Q2, A2, q2⟩ := q1 r K' M1 h1
        subst e1 e2
        show AW (az_PX Lx xs) (fun below args s _ => lw_Z below args s) room_1 yL_law cL_law 4 ret 417 35854 1019 [(5, 0), (1, x), (1, m), (0, i)] [(0, z1)] K' M1
        refine aw_aload_n dL_law_1019 rfl rfl ⟨by decide, by decide⟩ ?_
        refine aw_aload_n dL_law_1020 rfl rfl ⟨by decide, by decide⟩ ?_
        refine aw_iload_n dL_law_1021 rfl rfl ?_
        refine aw_iconst dL_law_1022 rfl ⟨by decide, by decide⟩ ?_
        refine aw_iadd dL_law_1023 (az_wr_id (by omega) (by omega)) ?_
        refine aw_sld dL_law_1024 (by omega) (by omega) (by omega) ?_
        refine aw_aload_n dL_law_1025 rfl rfl ⟨by decide, by decide⟩ ?_
        refine aw_iload_n dL_law_1026 rfl rfl ?_
        refine aw_iconst dL_law_1027 rfl ⟨by decide, by decide⟩ ?_
        refine aw_iadd dL_law_1028 (az_wr_id (by omega) (by omega)) ?_
        refine aw_sld dL_law_1029 (by omega) (by omega) (by omega) ?_
        refine aw_callV (As := [(0, (xs (i + 1).toNat).toInt), (0, (xs (i + 2).toNat).toInt)]) dL_law_1030 ml_RL_141 rfl hD.1.1.1 (by decide) rfl rfl ⟨Nat.le_of_ble_eq_true rfl, Nat.le_of_ble_eq_true rfl, Nat.le_of_ble_eq_true rfl, Nat.le_of_ble_eq_true rfl⟩ (Nat.le_of_ble_eq_true rfl) A2 (fun r K'' M2 h2 => ?_)
        obtain ⟨e1, e2, hI2⟩ := q2 r K'' M2 h2
        subst e1 e2
        show AW (az_PX Lx xs) (fun below args s _ => lw_Z below args s) room_1 yL_law cL_law 4 ret 417 35854 1033 [(5, 0), (1, x), (1, m), (0, i)] [(0, z1), (0, z1)] K'' M2
        refine aw_icmp_eq (tgt := 1328) dL_law_1033 rfl (fun _ => ?_) (fun h => absurd rfl h)
        exact nx M2 hI2
      by_cases q : w = 30
      · subst q
        refine aw_tsIn (tgt := 1038) dL_law_33 (by omega) (by omega) rfl rfl ?_
        obtain ⟨Q1, A1, q1⟩ := pr_grey hK hD hm hB2 hI ((xs (i + 1).toNat).toInt)
        refine aw_aload_n dL_law_1038 rfl rfl ⟨by decide, by decide⟩ ?_
        refine aw_aload_n dL_law_1039 rfl rfl ⟨by decide, by decide⟩ ?_
        refine aw_iload_n dL_law_1040 rfl rfl ?_
        refine aw_iconst dL_law_1041 rfl ⟨by decide, by decide⟩ ?_
        refine aw_iadd dL_law_1042 (az_wr_id (by omega) (by omega)) ?_
        refine aw_sld dL_law_1043 (by omega) (by omega) (by omega) ?_
        refine aw_callV (As := [(0, (xs (i + 1).toNat).toInt)]) dL_law_1044 ml_RL_142 rfl hK.1 (by decide) rfl rfl ⟨Nat.le_of_ble_eq_true rfl, Nat.le_of_ble_eq_true rfl, Nat.le_of_ble_eq_true rfl, Nat.le_of_ble_eq_true rfl⟩ (Nat.le_of_ble_eq_true rfl) A1 (fun r K' M1 h1 => ?_)
        obtain ⟨z1, e1, e2, Q2, A2, q2⟩ := q1 r K' M1 h1
        subst e1 e2
        show AW (az_PX Lx xs) (fun below args s _ => lw_Z below args s) room_1 yL_law cL_law 4 ret 417 35854 1047 [(5, 0), (1, x), (1, m), (0, i)] [(0, z1)] K' M1
        refine aw_aload_n dL_law_1047 rfl rfl ⟨by decide, by decide⟩ ?_
        refine aw_aload_n dL_law_1048 rfl rfl ⟨by decide, by decide⟩ ?_
        refine aw_iload_n dL_law_1049 rfl rfl ?_
        refine aw_iconst dL_law_1050 rfl ⟨by decide, by decide⟩ ?_
        refine aw_iadd dL_law_1051 (az_wr_id (by omega) (by omega)) ?_
        refine aw_sld dL_law_1052 (by omega) (by omega) (by omega) ?_
        refine aw_callV (As := [(0, (xs (i + 1).toNat).toInt)]) dL_law_1053 ml_RL_145 rfl hD.1.1.1 (by decide) rfl rfl ⟨Nat.le_of_ble_eq_true rfl, Nat.le_of_ble_eq_true rfl, Nat.le_of_ble_eq_true rfl, Nat.le_of_ble_eq_true rfl⟩ (Nat.le_of_ble_eq_true rfl) A2 (fun r K'' M2 h2 => ?_)
        obtain ⟨e1, e2, hI2⟩ := q2 r K'' M2 h2
        subst e1 e2
        show AW (az_PX Lx xs) (fun below args s _ => lw_Z below args s) room_1 yL_law cL_law 4 ret 417 35854 1056 [(5, 0), (1, x), (1, m), (0, i)] [(0, z1), (0, z1)] K'' M2
        refine aw_icmp_eq (tgt := 1328) dL_law_1056 rfl (fun _ => ?_) (fun h => absurd rfl h)
        exact nx M2 hI2
      by_cases q : w = 31
      · subst q
        refine aw_tsIn (tgt := 1061) dL_law_33 (by omega) (by omega) rfl rfl ?_
        obtain ⟨Q1, A1, q1⟩ := pr_live hK hD hm hB2 hI ((xs (i + 1).toNat).toInt)
        refine aw_aload_n dL_law_1061 rfl rfl ⟨by decide, by decide⟩ ?_
        refine aw_aload_n dL_law_1062 rfl rfl ⟨by decide, by decide⟩ ?_
        refine aw_iload_n dL_law_1063 rfl rfl ?_
        refine aw_iconst dL_law_1064 rfl ⟨by decide, by decide⟩ ?_
        refine aw_iadd dL_law_1065 (az_wr_id (by omega) (by omega)) ?_
        refine aw_sld dL_law_1066 (by omega) (by omega) (by omega) ?_
        refine aw_callV (As := [(0, (xs (i + 1).toNat).toInt)]) dL_law_1067 ml_RL_146 rfl hK.1 (by decide) rfl rfl ⟨Nat.le_of_ble_eq_true rfl, Nat.le_of_ble_eq_true rfl, Nat.le_of_ble_eq_true rfl, Nat.le_of_ble_eq_true rfl⟩ (Nat.le_of_ble_eq_true rfl) A1 (fun r K' M1 h1 => ?_)
        obtain ⟨z1, e1, e2, Q2, A2, q2⟩ := q1 r K' M1 h1
        subst e1 e2
        show AW (az_PX Lx xs) (fun below args s _ => lw_Z below args s) room_1 yL_law cL_law 4 ret 417 35854 1070 [(5, 0), (1, x), (1, m), (0, i)] [(0, z1)] K' M1
        refine aw_aload_n dL_law_1070 rfl rfl ⟨by decide, by decide⟩ ?_
        refine aw_aload_n dL_law_1071 rfl rfl ⟨by decide, by decide⟩ ?_
        refine aw_iload_n dL_law_1072 rfl rfl ?_
        refine aw_iconst dL_law_1073 rfl ⟨by decide, by decide⟩ ?_
        refine aw_iadd dL_law_1074 (az_wr_id (by omega) (by omega)) ?_
        refine aw_sld dL_law_1075 (by omega) (by omega) (by omega) ?_
        refine aw_callV (As := [(0, (xs (i + 1).toNat).toInt)]) dL_law_1076 ml_RL_149 rfl hD.1.1.1 (by decide) rfl rfl ⟨Nat.le_of_ble_eq_true rfl, Nat.le_of_ble_eq_true rfl, Nat.le_of_ble_eq_true rfl, Nat.le_of_ble_eq_true rfl⟩ (Nat.le_of_ble_eq_true rfl) A2 (fun r K'' M2 h2 => ?_)
        obtain ⟨e1, e2, hI2⟩ := q2 r K'' M2 h2
        subst e1 e2
        show AW (az_PX Lx xs) (fun below args s _ => lw_Z below args s) room_1 yL_law cL_law 4 ret 417 35854 1079 [(5, 0), (1, x), (1, m), (0, i)] [(0, z1), (0, z1)] K'' M2
        refine aw_icmp_eq (tgt := 1328) dL_law_1079 rfl (fun _ => ?_) (fun h => absurd rfl h)
        exact nx M2 hI2
      by_cases q : w = 32
      · subst q
        refine aw_tsIn (tgt := 1084) dL_law_33 (by omega) (by omega) rfl rfl ?_
        obtain ⟨Q1, A1, q1⟩ := pr_path hK hD hm hB2 hI ((xs (i + 1).toNat).toInt) ((xs (i + 2).toNat).toInt)
        refine aw_aload_n dL_law_1084 rfl rfl ⟨by decide, by decide⟩ ?_
        refine aw_aload_n dL_law_1085 rfl rfl ⟨by decide, by decide⟩ ?_
        refine aw_iload_n dL_law_1086 rfl rfl ?_
        refine aw_iconst dL_law_1087 rfl ⟨by decide, by decide⟩ ?_
        refine aw_iadd dL_law_1088 (az_wr_id (by omega) (by omega)) ?_
        refine aw_sld dL_law_1089 (by omega) (by omega) (by omega) ?_
        refine aw_aload_n dL_law_1090 rfl rfl ⟨by decide, by decide⟩ ?_
        refine aw_iload_n dL_law_1091 rfl rfl ?_
        refine aw_iconst dL_law_1092 rfl ⟨by decide, by decide⟩ ?_
        refine aw_iadd dL_law_1093 (az_wr_id (by omega) (by omega)) ?_
        refine aw_sld dL_law_1094 (by omega) (by omega) (by omega) ?_
        refine aw_callV (As := [(0, (xs (i + 1).toNat).toInt), (0, (xs (i + 2).toNat).toInt)]) dL_law_1095 ml_RL_150 rfl hK.1 (by decide) rfl rfl ⟨Nat.le_of_ble_eq_true rfl, Nat.le_of_ble_eq_true rfl, Nat.le_of_ble_eq_true rfl, Nat.le_of_ble_eq_true rfl⟩ (Nat.le_of_ble_eq_true rfl) A1 (fun r K' M1 h1 => ?_)
        obtain ⟨z1, e1, e2, Q2, A2, q2⟩ := q1 r K' M1 h1
        subst e1 e2
        show AW (az_PX Lx xs) (fun below args s _ => lw_Z below args s) room_1 yL_law cL_law 4 ret 417 35854 1098 [(5, 0), (1, x), (1, m), (0, i)] [(0, z1)] K' M1
        refine aw_aload_n dL_law_1098 rfl rfl ⟨by decide, by decide⟩ ?_
        refine aw_aload_n dL_law_1099 rfl rfl ⟨by decide, by decide⟩ ?_
        refine aw_iload_n dL_law_1100 rfl rfl ?_
        refine aw_iconst dL_law_1101 rfl ⟨by decide, by decide⟩ ?_
        refine aw_iadd dL_law_1102 (az_wr_id (by omega) (by omega)) ?_
        refine aw_sld dL_law_1103 (by omega) (by omega) (by omega) ?_
        refine aw_aload_n dL_law_1104 rfl rfl ⟨by decide, by decide⟩ ?_
        refine aw_iload_n dL_law_1105 rfl rfl ?_
        refine aw_iconst dL_law_1106 rfl ⟨by decide, by decide⟩ ?_
        refine aw_iadd dL_law_1107 (az_wr_id (by omega) (by omega)) ?_
        refine aw_sld dL_law_1108 (by omega) (by omega) (by omega) ?_
        refine aw_callV (As := [(0, (xs (i + 1).toNat).toInt), (0, (xs (i + 2).toNat).toInt)]) dL_law_1109 ml_RL_153 rfl hD.1.1.1 (by decide) rfl rfl ⟨Nat.le_of_ble_eq_true rfl, Nat.le_of_ble_eq_true rfl, Nat.le_of_ble_eq_true rfl, Nat.le_of_ble_eq_true rfl⟩ (Nat.le_of_ble_eq_true rfl) A2 (fun r K'' M2 h2 => ?_)
        obtain ⟨e1, e2, hI2⟩ := q2 r K'' M2 h2
        subst e1 e2
        show AW (az_PX Lx xs) (fun below args s _ => lw_Z below args s) room_1 yL_law cL_law 4 ret 417 35854 1112 [(5, 0), (1, x), (1, m), (0, i)] [(0, z1), (0, z1)] K'' M2
        refine aw_icmp_eq (tgt := 1328) dL_law_1112 rfl (fun _ => ?_) (fun h => absurd rfl h)
        exact nx M2 hI2
      by_cases q : w = 33
      · subst q
        refine aw_tsIn (tgt := 1117) dL_law_33 (by omega) (by omega) rfl rfl ?_
        obtain ⟨Q1, A1, q1⟩ := pr_retained hK hD hm hB2 hI ((xs (i + 1).toNat).toInt)
        refine aw_aload_n dL_law_1117 rfl rfl ⟨by decide, by decide⟩ ?_
        refine aw_aload_n dL_law_1118 rfl rfl ⟨by decide, by decide⟩ ?_
        refine aw_iload_n dL_law_1119 rfl rfl ?_
        refine aw_iconst dL_law_1120 rfl ⟨by decide, by decide⟩ ?_
        refine aw_iadd dL_law_1121 (az_wr_id (by omega) (by omega)) ?_
        refine aw_sld dL_law_1122 (by omega) (by omega) (by omega) ?_
        refine aw_callV (As := [(0, (xs (i + 1).toNat).toInt)]) dL_law_1123 ml_RL_154 rfl hK.1 (by decide) rfl rfl ⟨Nat.le_of_ble_eq_true rfl, Nat.le_of_ble_eq_true rfl, Nat.le_of_ble_eq_true rfl, Nat.le_of_ble_eq_true rfl⟩ (Nat.le_of_ble_eq_true rfl) A1 (fun r K' M1 h1 => ?_)
        obtain ⟨z1, e1, e2, Q2, A2, q2⟩ := q1 r K' M1 h1
        subst e1 e2
        show AW (az_PX Lx xs) (fun below args s _ => lw_Z below args s) room_1 yL_law cL_law 4 ret 417 35854 1126 [(5, 0), (1, x), (1, m), (0, i)] [(0, z1)] K' M1
        refine aw_aload_n dL_law_1126 rfl rfl ⟨by decide, by decide⟩ ?_
        refine aw_aload_n dL_law_1127 rfl rfl ⟨by decide, by decide⟩ ?_
        refine aw_iload_n dL_law_1128 rfl rfl ?_
        refine aw_iconst dL_law_1129 rfl ⟨by decide, by decide⟩ ?_
        refine aw_iadd dL_law_1130 (az_wr_id (by omega) (by omega)) ?_
        refine aw_sld dL_law_1131 (by omega) (by omega) (by omega) ?_
        refine aw_callV (As := [(0, (xs (i + 1).toNat).toInt)]) dL_law_1132 ml_RL_157 rfl hD.1.1.1 (by decide) rfl rfl ⟨Nat.le_of_ble_eq_true rfl, Nat.le_of_ble_eq_true rfl, Nat.le_of_ble_eq_true rfl, Nat.le_of_ble_eq_true rfl⟩ (Nat.le_of_ble_eq_true rfl) A2 (fun r K'' M2 h2 => ?_)
        obtain ⟨e1, e2, hI2⟩ := q2 r K'' M2 h2
        subst e1 e2
        show AW (az_PX Lx xs) (fun below args s _ => lw_Z below args s) room_1 yL_law cL_law 4 ret 417 35854 1135 [(5, 0), (1, x), (1, m), (0, i)] [(0, z1), (0, z1)] K'' M2
        refine aw_icmp_eq (tgt := 1328) dL_law_1135 rfl (fun _ => ?_) (fun h => absurd rfl h)
        exact nx M2 hI2
      by_cases q : w = 34
      · subst q
        refine aw_tsIn (tgt := 1140) dL_law_33 (by omega) (by omega) rfl rfl ?_
        obtain ⟨Q1, A1, q1⟩ := pr_end hK hD hm hB2 hI ((xs (i + 1).toNat).toInt)
        refine aw_aload_n dL_law_1140 rfl rfl ⟨by decide, by decide⟩ ?_
        refine aw_aload_n dL_law_1141 rfl rfl ⟨by decide, by decide⟩ ?_
        refine aw_iload_n dL_law_1142 rfl rfl ?_
        refine aw_iconst dL_law_1143 rfl ⟨by decide, by decide⟩ ?_
        refine aw_iadd dL_law_1144 (az_wr_id (by omega) (by omega)) ?_
        refine aw_sld dL_law_1145 (by omega) (by omega) (by omega) ?_
        refine aw_callV (As := [(0, (xs (i + 1).toNat).toInt)]) dL_law_1146 ml_RL_158 rfl hK.1 (by decide) rfl rfl ⟨Nat.le_of_ble_eq_true rfl, Nat.le_of_ble_eq_true rfl, Nat.le_of_ble_eq_true rfl, Nat.le_of_ble_eq_true rfl⟩ (Nat.le_of_ble_eq_true rfl) A1 (fun r K' M1 h1 => ?_)
        obtain ⟨z1, e1, e2, Q2, A2, q2⟩ := q1 r K' M1 h1
        subst e1 e2
        show AW (az_PX Lx xs) (fun below args s _ => lw_Z below args s) room_1 yL_law cL_law 4 ret 417 35854 1149 [(5, 0), (1, x), (1, m), (0, i)] [(0, z1)] K' M1
        refine aw_aload_n dL_law_1149 rfl rfl ⟨by decide, by decide⟩ ?_
        refine aw_aload_n dL_law_1150 rfl rfl ⟨by decide, by decide⟩ ?_
        refine aw_iload_n dL_law_1151 rfl rfl ?_
        refine aw_iconst dL_law_1152 rfl ⟨by decide, by decide⟩ ?_
        refine aw_iadd dL_law_1153 (az_wr_id (by omega) (by omega)) ?_
        refine aw_sld dL_law_1154 (by omega) (by omega) (by omega) ?_
        refine aw_callV (As := [(0, (xs (i + 1).toNat).toInt)]) dL_law_1155 ml_RL_161 rfl hD.1.1.1 (by decide) rfl rfl ⟨Nat.le_of_ble_eq_true rfl, Nat.le_of_ble_eq_true rfl, Nat.le_of_ble_eq_true rfl, Nat.le_of_ble_eq_true rfl⟩ (Nat.le_of_ble_eq_true rfl) A2 (fun r K'' M2 h2 => ?_)
        obtain ⟨e1, e2, hI2⟩ := q2 r K'' M2 h2
        subst e1 e2
        show AW (az_PX Lx xs) (fun below args s _ => lw_Z below args s) room_1 yL_law cL_law 4 ret 417 35854 1158 [(5, 0), (1, x), (1, m), (0, i)] [(0, z1), (0, z1)] K'' M2
        refine aw_icmp_eq (tgt := 1328) dL_law_1158 rfl (fun _ => ?_) (fun h => absurd rfl h)
        exact nx M2 hI2
      by_cases q : w = 35
      · subst q
        refine aw_tsIn (tgt := 1163) dL_law_33 (by omega) (by omega) rfl rfl ?_
        obtain ⟨Q1, A1, q1⟩ := pr_room hK hD hm hB2 hI ((xs (i + 1).toNat).toInt) ((xs (i + 2).toNat).toInt)
        refine aw_aload_n dL_law_1163 rfl rfl ⟨by decide, by decide⟩ ?_
        refine aw_aload_n dL_law_1164 rfl rfl ⟨by decide, by decide⟩ ?_
        refine aw_iload_n dL_law_1165 rfl rfl ?_
        refine aw_iconst dL_law_1166 rfl ⟨by decide, by decide⟩ ?_
        refine aw_iadd dL_law_1167 (az_wr_id (by omega) (by omega)) ?_
        refine aw_sld dL_law_1168 (by omega) (by omega) (by omega) ?_
        refine aw_aload_n dL_law_1169 rfl rfl ⟨by decide, by decide⟩ ?_
        refine aw_iload_n dL_law_1170 rfl rfl ?_
        refine aw_iconst dL_law_1171 rfl ⟨by decide, by decide⟩ ?_
        refine aw_iadd dL_law_1172 (az_wr_id (by omega) (by omega)) ?_
        refine aw_sld dL_law_1173 (by omega) (by omega) (by omega) ?_
        refine aw_callV (As := [(0, (xs (i + 1).toNat).toInt), (0, (xs (i + 2).toNat).toInt)]) dL_law_1174 ml_RL_162 rfl hK.1 (by decide) rfl rfl ⟨Nat.le_of_ble_eq_true rfl, Nat.le_of_ble_eq_true rfl, Nat.le_of_ble_eq_true rfl, Nat.le_of_ble_eq_true rfl⟩ (Nat.le_of_ble_eq_true rfl) A1 (fun r K' M1 h1 => ?_)
        obtain ⟨z1, e1, e2, Q2, A2, q2⟩ := q1 r K' M1 h1
        subst e1 e2
        show AW (az_PX Lx xs) (fun below args s _ => lw_Z below args s) room_1 yL_law cL_law 4 ret 417 35854 1177 [(5, 0), (1, x), (1, m), (0, i)] [(0, z1)] K' M1
        refine aw_aload_n dL_law_1177 rfl rfl ⟨by decide, by decide⟩ ?_
        refine aw_aload_n dL_law_1178 rfl rfl ⟨by decide, by decide⟩ ?_
        refine aw_iload_n dL_law_1179 rfl rfl ?_
        refine aw_iconst dL_law_1180 rfl ⟨by decide, by decide⟩ ?_
        refine aw_iadd dL_law_1181 (az_wr_id (by omega) (by omega)) ?_
        refine aw_sld dL_law_1182 (by omega) (by omega) (by omega) ?_
        refine aw_aload_n dL_law_1183 rfl rfl ⟨by decide, by decide⟩ ?_
        refine aw_iload_n dL_law_1184 rfl rfl ?_
        refine aw_iconst dL_law_1185 rfl ⟨by decide, by decide⟩ ?_
        refine aw_iadd dL_law_1186 (az_wr_id (by omega) (by omega)) ?_
        refine aw_sld dL_law_1187 (by omega) (by omega) (by omega) ?_
        refine aw_callV (As := [(0, (xs (i + 1).toNat).toInt), (0, (xs (i + 2).toNat).toInt)]) dL_law_1188 ml_RL_165 rfl hD.1.1.1 (by decide) rfl rfl ⟨Nat.le_of_ble_eq_true rfl, Nat.le_of_ble_eq_true rfl, Nat.le_of_ble_eq_true rfl, Nat.le_of_ble_eq_true rfl⟩ (Nat.le_of_ble_eq_true rfl) A2 (fun r K'' M2 h2 => ?_)
        obtain ⟨e1, e2, hI2⟩ := q2 r K'' M2 h2
        subst e1 e2
        show AW (az_PX Lx xs) (fun below args s _ => lw_Z below args s) room_1 yL_law cL_law 4 ret 417 35854 1191 [(5, 0), (1, x), (1, m), (0, i)] [(0, z1), (0, z1)] K'' M2
        refine aw_icmp_eq (tgt := 1328) dL_law_1191 rfl (fun _ => ?_) (fun h => absurd rfl h)
        exact nx M2 hI2
      by_cases q : w = 36
      · subst q
        refine aw_tsIn (tgt := 1196) dL_law_33 (by omega) (by omega) rfl rfl ?_
        obtain ⟨Q1, A1, q1⟩ := pr_pace hK hD hm hB2 hI ((xs (i + 1).toNat).toInt) ((xs (i + 2).toNat).toInt)
        refine aw_aload_n dL_law_1196 rfl rfl ⟨by decide, by decide⟩ ?_
        refine aw_aload_n dL_law_1197 rfl rfl ⟨by decide, by decide⟩ ?_
        refine aw_iload_n dL_law_1198 rfl rfl ?_
        refine aw_iconst dL_law_1199 rfl ⟨by decide, by decide⟩ ?_
        refine aw_iadd dL_law_1200 (az_wr_id (by omega) (by omega)) ?_
        refine aw_sld dL_law_1201 (by omega) (by omega) (by omega) ?_
        refine aw_aload_n dL_law_1202 rfl rfl ⟨by decide, by decide⟩ ?_
        refine aw_iload_n dL_law_1203 rfl rfl ?_
        refine aw_iconst dL_law_1204 rfl ⟨by decide, by decide⟩ ?_
        refine aw_iadd dL_law_1205 (az_wr_id (by omega) (by omega)) ?_
        refine aw_sld dL_law_1206 (by omega) (by omega) (by omega) ?_
        refine aw_callV (As := [(0, (xs (i + 1).toNat).toInt), (0, (xs (i + 2).toNat).toInt)]) dL_law_1207 ml_RL_166 rfl hK.1 (by decide) rfl rfl ⟨Nat.le_of_ble_eq_true rfl, Nat.le_of_ble_eq_true rfl, Nat.le_of_ble_eq_true rfl, Nat.le_of_ble_eq_true rfl⟩ (Nat.le_of_ble_eq_true rfl) A1 (fun r K' M1 h1 => ?_)
        obtain ⟨z1, e1, e2, Q2, A2, q2⟩ := q1 r K' M1 h1
        subst e1 e2
        show AW (az_PX Lx xs) (fun below args s _ => lw_Z below args s) room_1 yL_law cL_law 4 ret 417 35854 1210 [(5, 0), (1, x), (1, m), (0, i)] [(0, z1)] K' M1
        refine aw_aload_n dL_law_1210 rfl rfl ⟨by decide, by decide⟩ ?_
        refine aw_aload_n dL_law_1211 rfl rfl ⟨by decide, by decide⟩ ?_
        refine aw_iload_n dL_law_1212 rfl rfl ?_
        refine aw_iconst dL_law_1213 rfl ⟨by decide, by decide⟩ ?_
        refine aw_iadd dL_law_1214 (az_wr_id (by omega) (by omega)) ?_
        refine aw_sld dL_law_1215 (by omega) (by omega) (by omega) ?_
        refine aw_aload_n dL_law_1216 rfl rfl ⟨by decide, by decide⟩ ?_
        refine aw_iload_n dL_law_1217 rfl rfl ?_
        refine aw_iconst dL_law_1218 rfl ⟨by decide, by decide⟩ ?_
        refine aw_iadd dL_law_1219 (az_wr_id (by omega) (by omega)) ?_
        refine aw_sld dL_law_1220 (by omega) (by omega) (by omega) ?_
        refine aw_callV (As := [(0, (xs (i + 1).toNat).toInt), (0, (xs (i + 2).toNat).toInt)]) dL_law_1221 ml_RL_169 rfl hD.1.1.1 (by decide) rfl rfl ⟨Nat.le_of_ble_eq_true rfl, Nat.le_of_ble_eq_true rfl, Nat.le_of_ble_eq_true rfl, Nat.le_of_ble_eq_true rfl⟩ (Nat.le_of_ble_eq_true rfl) A2 (fun r K'' M2 h2 => ?_)
        obtain ⟨e1, e2, hI2⟩ := q2 r K'' M2 h2
        subst e1 e2
        show AW (az_PX Lx xs) (fun below args s _ => lw_Z below args s) room_1 yL_law cL_law 4 ret 417 35854 1224 [(5, 0), (1, x), (1, m), (0, i)] [(0, z1), (0, z1)] K'' M2
        refine aw_icmp_eq (tgt := 1328) dL_law_1224 rfl (fun _ => ?_) (fun h => absurd rfl h)
        exact nx M2 hI2
      by_cases q : w = 37
      · subst q
        refine aw_tsIn (tgt := 1229) dL_law_33 (by omega) (by omega) rfl rfl ?_
        obtain ⟨Q1, A1, q1⟩ := pr_game hK hD hm hB2 hI ((xs (i + 1).toNat).toInt) ((xs (i + 2).toNat).toInt) ((xs (i + 3).toNat).toInt) ((xs (i + 4).toNat).toInt)
        refine aw_aload_n dL_law_1229 rfl rfl ⟨by decide, by decide⟩ ?_
        refine aw_aload_n dL_law_1230 rfl rfl ⟨by decide, by decide⟩ ?_
        refine aw_iload_n dL_law_1231 rfl rfl ?_
        refine aw_iconst dL_law_1232 rfl ⟨by decide, by decide⟩ ?_
        refine aw_iadd dL_law_1233 (az_wr_id (by omega) (by omega)) ?_
        refine aw_sld dL_law_1234 (by omega) (by omega) (by omega) ?_
        refine aw_aload_n dL_law_1235 rfl rfl ⟨by decide, by decide⟩ ?_
        refine aw_iload_n dL_law_1236 rfl rfl ?_
        refine aw_iconst dL_law_1237 rfl ⟨by decide, by decide⟩ ?_
        refine aw_iadd dL_law_1238 (az_wr_id (by omega) (by omega)) ?_
        refine aw_sld dL_law_1239 (by omega) (by omega) (by omega) ?_
        refine aw_aload_n dL_law_1240 rfl rfl ⟨by decide, by decide⟩ ?_
        refine aw_iload_n dL_law_1241 rfl rfl ?_
        refine aw_iconst dL_law_1242 rfl ⟨by decide, by decide⟩ ?_
        refine aw_iadd dL_law_1243 (az_wr_id (by omega) (by omega)) ?_
        refine aw_sld dL_law_1244 (by omega) (by omega) (by omega) ?_
        refine aw_aload_n dL_law_1245 rfl rfl ⟨by decide, by decide⟩ ?_
        refine aw_iload_n dL_law_1246 rfl rfl ?_
        refine aw_iconst dL_law_1247 rfl ⟨by decide, by decide⟩ ?_
        refine aw_iadd dL_law_1248 (az_wr_id (by omega) (by omega)) ?_
        refine aw_sld dL_law_1249 (by omega) (by omega) (by omega) ?_
        refine aw_callV (As := [(0, (xs (i + 1).toNat).toInt), (0, (xs (i + 2).toNat).toInt), (0, (xs (i + 3).toNat).toInt), (0, (xs (i + 4).toNat).toInt)]) dL_law_1250 ml_RL_170 rfl hK.1 (by decide) rfl rfl ⟨Nat.le_of_ble_eq_true rfl, Nat.le_of_ble_eq_true rfl, Nat.le_of_ble_eq_true rfl, Nat.le_of_ble_eq_true rfl⟩ (Nat.le_of_ble_eq_true rfl) A1 (fun r K' M1 h1 => ?_)
        obtain ⟨z1, e1, e2, Q2, A2, q2⟩ := q1 r K' M1 h1
        subst e1 e2
        show AW (az_PX Lx xs) (fun below args s _ => lw_Z below args s) room_1 yL_law cL_law 4 ret 417 35854 1253 [(5, 0), (1, x), (1, m), (0, i)] [(0, z1)] K' M1
        refine aw_aload_n dL_law_1253 rfl rfl ⟨by decide, by decide⟩ ?_
        refine aw_aload_n dL_law_1254 rfl rfl ⟨by decide, by decide⟩ ?_
        refine aw_iload_n dL_law_1255 rfl rfl ?_
        refine aw_iconst dL_law_1256 rfl ⟨by decide, by decide⟩ ?_
        refine aw_iadd dL_law_1257 (az_wr_id (by omega) (by omega)) ?_
        refine aw_sld dL_law_1258 (by omega) (by omega) (by omega) ?_
        refine aw_aload_n dL_law_1259 rfl rfl ⟨by decide, by decide⟩ ?_
        refine aw_iload_n dL_law_1260 rfl rfl ?_
        refine aw_iconst dL_law_1261 rfl ⟨by decide, by decide⟩ ?_
        refine aw_iadd dL_law_1262 (az_wr_id (by omega) (by omega)) ?_
        refine aw_sld dL_law_1263 (by omega) (by omega) (by omega) ?_
        refine aw_aload_n dL_law_1264 rfl rfl ⟨by decide, by decide⟩ ?_
        refine aw_iload_n dL_law_1265 rfl rfl ?_
        refine aw_iconst dL_law_1266 rfl ⟨by decide, by decide⟩ ?_
        refine aw_iadd dL_law_1267 (az_wr_id (by omega) (by omega)) ?_
        refine aw_sld dL_law_1268 (by omega) (by omega) (by omega) ?_
        refine aw_aload_n dL_law_1269 rfl rfl ⟨by decide, by decide⟩ ?_
        refine aw_iload_n dL_law_1270 rfl rfl ?_
        refine aw_iconst dL_law_1271 rfl ⟨by decide, by decide⟩ ?_
        refine aw_iadd dL_law_1272 (az_wr_id (by omega) (by omega)) ?_
        refine aw_sld dL_law_1273 (by omega) (by omega) (by omega) ?_
        refine aw_callV (As := [(0, (xs (i + 1).toNat).toInt), (0, (xs (i + 2).toNat).toInt), (0, (xs (i + 3).toNat).toInt), (0, (xs (i + 4).toNat).toInt)]) dL_law_1274 ml_RL_174 rfl hD.1.1.1 (by decide) rfl rfl ⟨Nat.le_of_ble_eq_true rfl, Nat.le_of_ble_eq_true rfl, Nat.le_of_ble_eq_true rfl, Nat.le_of_ble_eq_true rfl⟩ (Nat.le_of_ble_eq_true rfl) A2 (fun r K'' M2 h2 => ?_)
        obtain ⟨e1, e2, hI2⟩ := q2 r K'' M2 h2
        subst e1 e2
        show AW (az_PX Lx xs) (fun below args s _ => lw_Z below args s) room_1 yL_law cL_law 4 ret 417 35854 1277 [(5, 0), (1, x), (1, m), (0, i)] [(0, z1), (0, z1)] K'' M2
        refine aw_icmp_eq (tgt := 1328) dL_law_1277 rfl (fun _ => ?_) (fun h => absurd rfl h)
        exact nx M2 hI2
      by_cases q : w = 38
      · subst q
        refine aw_tsIn (tgt := 1282) dL_law_33 (by omega) (by omega) rfl rfl ?_
        obtain ⟨Q1, A1, q1⟩ := pr_law hK hD hm hB2 hI ((xs (i + 1).toNat).toInt)
        refine aw_aload_n dL_law_1282 rfl rfl ⟨by decide, by decide⟩ ?_
        refine aw_aload_n dL_law_1283 rfl rfl ⟨by decide, by decide⟩ ?_
        refine aw_iload_n dL_law_1284 rfl rfl ?_
        refine aw_iconst dL_law_1285 rfl ⟨by decide, by decide⟩ ?_
        refine aw_iadd dL_law_1286 (az_wr_id (by omega) (by omega)) ?_
        refine aw_sld dL_law_1287 (by omega) (by omega) (by omega) ?_
        refine aw_callV (As := [(0, (xs (i + 1).toNat).toInt)]) dL_law_1288 ml_RL_175 rfl hK.1 (by decide) rfl rfl ⟨Nat.le_of_ble_eq_true rfl, Nat.le_of_ble_eq_true rfl, Nat.le_of_ble_eq_true rfl, Nat.le_of_ble_eq_true rfl⟩ (Nat.le_of_ble_eq_true rfl) A1 (fun r K' M1 h1 => ?_)
        obtain ⟨z1, e1, e2, Q2, A2, q2⟩ := q1 r K' M1 h1
        subst e1 e2
        show AW (az_PX Lx xs) (fun below args s _ => lw_Z below args s) room_1 yL_law cL_law 4 ret 417 35854 1291 [(5, 0), (1, x), (1, m), (0, i)] [(0, z1)] K' M1
        refine aw_aload_n dL_law_1291 rfl rfl ⟨by decide, by decide⟩ ?_
        refine aw_aload_n dL_law_1292 rfl rfl ⟨by decide, by decide⟩ ?_
        refine aw_iload_n dL_law_1293 rfl rfl ?_
        refine aw_iconst dL_law_1294 rfl ⟨by decide, by decide⟩ ?_
        refine aw_iadd dL_law_1295 (az_wr_id (by omega) (by omega)) ?_
        refine aw_sld dL_law_1296 (by omega) (by omega) (by omega) ?_
        refine aw_callV (As := [(0, (xs (i + 1).toNat).toInt)]) dL_law_1297 ml_RL_178 rfl hD.1.1.1 (by decide) rfl rfl ⟨Nat.le_of_ble_eq_true rfl, Nat.le_of_ble_eq_true rfl, Nat.le_of_ble_eq_true rfl, Nat.le_of_ble_eq_true rfl⟩ (Nat.le_of_ble_eq_true rfl) A2 (fun r K'' M2 h2 => ?_)
        obtain ⟨e1, e2, hI2⟩ := q2 r K'' M2 h2
        subst e1 e2
        show AW (az_PX Lx xs) (fun below args s _ => lw_Z below args s) room_1 yL_law cL_law 4 ret 417 35854 1300 [(5, 0), (1, x), (1, m), (0, i)] [(0, z1), (0, z1)] K'' M2
        refine aw_icmp_eq (tgt := 1328) dL_law_1300 rfl (fun _ => ?_) (fun h => absurd rfl h)
        exact nx M2 hI2
      by_cases q : w = 39
      · subst q
        refine aw_tsIn (tgt := 1305) dL_law_33 (by omega) (by omega) rfl rfl ?_
        obtain ⟨Q1, A1, q1⟩ := pr_about hK hD hm hB2 hI ((xs (i + 1).toNat).toInt)
        refine aw_aload_n dL_law_1305 rfl rfl ⟨by decide, by decide⟩ ?_
        refine aw_aload_n dL_law_1306 rfl rfl ⟨by decide, by decide⟩ ?_
        refine aw_iload_n dL_law_1307 rfl rfl ?_
        refine aw_iconst dL_law_1308 rfl ⟨by decide, by decide⟩ ?_
        refine aw_iadd dL_law_1309 (az_wr_id (by omega) (by omega)) ?_
        refine aw_sld dL_law_1310 (by omega) (by omega) (by omega) ?_
        refine aw_callV (As := [(0, (xs (i + 1).toNat).toInt)]) dL_law_1311 ml_RL_179 rfl hK.1 (by decide) rfl rfl ⟨Nat.le_of_ble_eq_true rfl, Nat.le_of_ble_eq_true rfl, Nat.le_of_ble_eq_true rfl, Nat.le_of_ble_eq_true rfl⟩ (Nat.le_of_ble_eq_true rfl) A1 (fun r K' M1 h1 => ?_)
        obtain ⟨z1, e1, e2, Q2, A2, q2⟩ := q1 r K' M1 h1
        subst e1 e2
        show AW (az_PX Lx xs) (fun below args s _ => lw_Z below args s) room_1 yL_law cL_law 4 ret 417 35854 1314 [(5, 0), (1, x), (1, m), (0, i)] [(0, z1)] K' M1
        refine aw_aload_n dL_law_1314 rfl rfl ⟨by decide, by decide⟩ ?_
        refine aw_aload_n dL_law_1315 rfl rfl ⟨by decide, by decide⟩ ?_
        refine aw_iload_n dL_law_1316 rfl rfl ?_
        refine aw_iconst dL_law_1317 rfl ⟨by decide, by decide⟩ ?_
        refine aw_iadd dL_law_1318 (az_wr_id (by omega) (by omega)) ?_
        refine aw_sld dL_law_1319 (by omega) (by omega) (by omega) ?_
        refine aw_callV (As := [(0, (xs (i + 1).toNat).toInt)]) dL_law_1320 ml_RL_182 rfl hD.1.1.1 (by decide) rfl rfl ⟨Nat.le_of_ble_eq_true rfl, Nat.le_of_ble_eq_true rfl, Nat.le_of_ble_eq_true rfl, Nat.le_of_ble_eq_true rfl⟩ (Nat.le_of_ble_eq_true rfl) A2 (fun r K'' M2 h2 => ?_)
        obtain ⟨e1, e2, hI2⟩ := q2 r K'' M2 h2
        subst e1 e2
        show AW (az_PX Lx xs) (fun below args s _ => lw_Z below args s) room_1 yL_law cL_law 4 ret 417 35854 1323 [(5, 0), (1, x), (1, m), (0, i)] [(0, z1), (0, z1)] K'' M2
        refine aw_icmp_eq (tgt := 1328) dL_law_1323 rfl (fun _ => ?_) (fun h => absurd rfl h)
        exact nx M2 hI2
      refine aw_tsOut (tgt := 1328) dL_law_33 (by omega) rfl ?_
      exact nx M (by obtain ⟨ch, a, u, bx, bz, cu, it, n, sc, sp, t, hg, h⟩ := hI; exact ⟨ch, a, u, bx, bz, cu, it, n, sc, sp, t, hg.mono (by omega), h⟩)
end LW
