theorem az_tb {w : Cond} {i : Nat} (h : lw_tbl[i]? = some w) (hg : goodWord w = true) : w ∈ az_TB := List.mem_filter.mpr ⟨List.mem_of_getElem? h, hg⟩
def az_isN (w : Cond) : Bool := match w with | .fieldLinkNest _ _ _ _ _ _ => true | .methodLinkNest _ _ _ _ => true | _ => false
theorem az_nw_mem {w : Cond} {i : Nat} (h : tables_1[i]? = some w) (hg : az_isN w = true) : w ∈ az_NW := List.mem_filter.mpr ⟨List.mem_of_getElem? h, hg⟩
theorem az_uw {C : String} {T : u_T} {N : Nat} (h : ∀ k, k < N → u_lay C T k ∈ az_TB) : ∀ w ∈ u_ws C T N, w ∈ az_TB := by
  intro w hw
  obtain ⟨k, hk, rfl⟩ := List.mem_map.mp hw
  exact h k (List.mem_range.mp hk)
theorem tb221 : Cond.laysFinal "TreadRing$Heap" "TreadRing$Heap" "rings" "LTreadRing$Rings;" ∈ az_TB := az_tb (i := 221) (by decide +kernel) (by decide +kernel)
theorem uw0_0 : u_lay RX0 TX0 0 ∈ az_TB := tb221
theorem tb223 : Cond.laysFinal "TreadRing$Heap" "TreadRing$Heap" "cells" "[I" ∈ az_TB := az_tb (i := 223) (by decide +kernel) (by decide +kernel)
theorem uw0_1 : u_lay RX0 TX0 1 ∈ az_TB := tb223
theorem tb225 : Cond.laysFinal "TreadRing$Heap" "TreadRing$Heap" "sizes" "[I" ∈ az_TB := az_tb (i := 225) (by decide +kernel) (by decide +kernel)
theorem uw0_2 : u_lay RX0 TX0 2 ∈ az_TB := tb225
theorem tb227 : Cond.laysFinal "TreadRing$Heap" "TreadRing$Heap" "used" "[I" ∈ az_TB := az_tb (i := 227) (by decide +kernel) (by decide +kernel)
theorem uw0_3 : u_lay RX0 TX0 3 ∈ az_TB := tb227
theorem tb229 : Cond.laysFinal "TreadRing$Heap" "TreadRing$Heap" "roots" "[I" ∈ az_TB := az_tb (i := 229) (by decide +kernel) (by decide +kernel)
theorem uw0_4 : u_lay RX0 TX0 4 ∈ az_TB := tb229
theorem tb231 : Cond.laysFinal "TreadRing$Heap" "TreadRing$Heap" "weaks" "[I" ∈ az_TB := az_tb (i := 231) (by decide +kernel) (by decide +kernel)
theorem uw0_5 : u_lay RX0 TX0 5 ∈ az_TB := tb231
theorem tb233 : Cond.laysFinal "TreadRing$Heap" "TreadRing$Heap" "greys" "[I" ∈ az_TB := az_tb (i := 233) (by decide +kernel) (by decide +kernel)
theorem uw0_6 : u_lay RX0 TX0 6 ∈ az_TB := tb233
theorem tb235 : Cond.laysFinal "TreadRing$Heap" "TreadRing$Heap" "settings" "[I" ∈ az_TB := az_tb (i := 235) (by decide +kernel) (by decide +kernel)
theorem uw0_7 : u_lay RX0 TX0 7 ∈ az_TB := tb235
theorem tb237 : Cond.laysFinal "TreadRing$Heap" "TreadRing$Heap" "tally" "[I" ∈ az_TB := az_tb (i := 237) (by decide +kernel) (by decide +kernel)
theorem uw0_8 : u_lay RX0 TX0 8 ∈ az_TB := tb237
theorem tb239 : Cond.laysFinal "TreadRing$Heap" "TreadRing$Heap" "log" "[I" ∈ az_TB := az_tb (i := 239) (by decide +kernel) (by decide +kernel)
theorem uw0_9 : u_lay RX0 TX0 9 ∈ az_TB := tb239
theorem tb241 : Cond.lays "TreadRing$Heap" "TreadRing$Heap" "pages" "I" ∈ az_TB := az_tb (i := 241) (by decide +kernel) (by decide +kernel)
theorem uw0_10 : u_lay RX0 TX0 10 ∈ az_TB := tb241
theorem tb243 : Cond.lays "TreadRing$Heap" "TreadRing$Heap" "waiting" "I" ∈ az_TB := az_tb (i := 243) (by decide +kernel) (by decide +kernel)
theorem uw0_11 : u_lay RX0 TX0 11 ∈ az_TB := tb243
theorem tb245 : Cond.lays "TreadRing$Heap" "TreadRing$Heap" "scanned" "I" ∈ az_TB := az_tb (i := 245) (by decide +kernel) (by decide +kernel)
theorem uw0_12 : u_lay RX0 TX0 12 ∈ az_TB := tb245
theorem tb247 : Cond.lays "TreadRing$Heap" "TreadRing$Heap" "looked" "I" ∈ az_TB := az_tb (i := 247) (by decide +kernel) (by decide +kernel)
theorem uw0_13 : u_lay RX0 TX0 13 ∈ az_TB := tb247
theorem tb249 : Cond.lays "TreadRing$Heap" "TreadRing$Heap" "stepsAhead" "I" ∈ az_TB := az_tb (i := 249) (by decide +kernel) (by decide +kernel)
theorem uw0_14 : u_lay RX0 TX0 14 ∈ az_TB := tb249
theorem tb251 : Cond.lays "TreadRing$Heap" "TreadRing$Heap" "running" "Z" ∈ az_TB := az_tb (i := 251) (by decide +kernel) (by decide +kernel)
theorem uw0_15 : u_lay RX0 TX0 15 ∈ az_TB := tb251
theorem uw0 : ∀ w ∈ u_ws RX0 TX0 16, w ∈ az_TB := az_uw (fun k hk => match k, hk with
  | 0, _ => uw0_0
  | 1, _ => uw0_1
  | 2, _ => uw0_2
  | 3, _ => uw0_3
  | 4, _ => uw0_4
  | 5, _ => uw0_5
  | 6, _ => uw0_6
  | 7, _ => uw0_7
  | 8, _ => uw0_8
  | 9, _ => uw0_9
  | 10, _ => uw0_10
  | 11, _ => uw0_11
  | 12, _ => uw0_12
  | 13, _ => uw0_13
  | 14, _ => uw0_14
  | 15, _ => uw0_15
  | k + 16, hk => absurd hk (by omega))
theorem tb265 : Cond.laysFinal "TreadRing$Reach" "TreadRing$Reach" "far" "[I" ∈ az_TB := az_tb (i := 265) (by decide +kernel) (by decide +kernel)
theorem uw1_0 : u_lay RX1 TX1 0 ∈ az_TB := tb265
theorem tb267 : Cond.laysFinal "TreadRing$Reach" "TreadRing$Reach" "queue" "[I" ∈ az_TB := az_tb (i := 267) (by decide +kernel) (by decide +kernel)
theorem uw1_1 : u_lay RX1 TX1 1 ∈ az_TB := tb267
theorem tb269 : Cond.lays "TreadRing$Reach" "TreadRing$Reach" "found" "I" ∈ az_TB := az_tb (i := 269) (by decide +kernel) (by decide +kernel)
theorem uw1_2 : u_lay RX1 TX1 2 ∈ az_TB := tb269
theorem uw1 : ∀ w ∈ u_ws RX1 TX1 3, w ∈ az_TB := az_uw (fun k hk => match k, hk with
  | 0, _ => uw1_0
  | 1, _ => uw1_1
  | 2, _ => uw1_2
  | k + 3, hk => absurd hk (by omega))
theorem tb322 : Cond.lays "TreadRing$Reader" "TreadRing$Reader" "text" "[I" ∈ az_TB := az_tb (i := 322) (by decide +kernel) (by decide +kernel)
theorem uw2_0 : u_lay RX2 TX2 0 ∈ az_TB := tb322
theorem tb324 : Cond.lays "TreadRing$Reader" "TreadRing$Reader" "length" "I" ∈ az_TB := az_tb (i := 324) (by decide +kernel) (by decide +kernel)
theorem uw2_1 : u_lay RX2 TX2 1 ∈ az_TB := tb324
theorem tb326 : Cond.lays "TreadRing$Reader" "TreadRing$Reader" "start" "I" ∈ az_TB := az_tb (i := 326) (by decide +kernel) (by decide +kernel)
theorem uw2_2 : u_lay RX2 TX2 2 ∈ az_TB := tb326
theorem tb328 : Cond.lays "TreadRing$Reader" "TreadRing$Reader" "stop" "I" ∈ az_TB := az_tb (i := 328) (by decide +kernel) (by decide +kernel)
theorem uw2_3 : u_lay RX2 TX2 3 ∈ az_TB := tb328
theorem tb330 : Cond.lays "TreadRing$Reader" "TreadRing$Reader" "script" "LTreadRing$Script;" ∈ az_TB := az_tb (i := 330) (by decide +kernel) (by decide +kernel)
theorem uw2_4 : u_lay RX2 TX2 4 ∈ az_TB := tb330
theorem tb332 : Cond.laysFinal "TreadRing$Reader" "TreadRing$Reader" "blocks" "[I" ∈ az_TB := az_tb (i := 332) (by decide +kernel) (by decide +kernel)
theorem uw2_5 : u_lay RX2 TX2 5 ∈ az_TB := tb332
theorem tb334 : Cond.lays "TreadRing$Reader" "TreadRing$Reader" "depth" "I" ∈ az_TB := az_tb (i := 334) (by decide +kernel) (by decide +kernel)
theorem uw2_6 : u_lay RX2 TX2 6 ∈ az_TB := tb334
theorem tb336 : Cond.lays "TreadRing$Reader" "TreadRing$Reader" "fault" "I" ∈ az_TB := az_tb (i := 336) (by decide +kernel) (by decide +kernel)
theorem uw2_7 : u_lay RX2 TX2 7 ∈ az_TB := tb336
theorem tb338 : Cond.lays "TreadRing$Reader" "TreadRing$Reader" "place" "I" ∈ az_TB := az_tb (i := 338) (by decide +kernel) (by decide +kernel)
theorem uw2_8 : u_lay RX2 TX2 8 ∈ az_TB := tb338
theorem uw2 : ∀ w ∈ u_ws RX2 TX2 9, w ∈ az_TB := az_uw (fun k hk => match k, hk with
  | 0, _ => uw2_0
  | 1, _ => uw2_1
  | 2, _ => uw2_2
  | 3, _ => uw2_3
  | 4, _ => uw2_4
  | 5, _ => uw2_5
  | 6, _ => uw2_6
  | 7, _ => uw2_7
  | 8, _ => uw2_8
  | k + 9, hk => absurd hk (by omega))
theorem tb172 : Cond.laysFinal "TreadRing$Rings" "TreadRing$Rings" "next" "[I" ∈ az_TB := az_tb (i := 172) (by decide +kernel) (by decide +kernel)
theorem uw3_0 : u_lay RX3 TX3 0 ∈ az_TB := tb172
theorem tb174 : Cond.laysFinal "TreadRing$Rings" "TreadRing$Rings" "prev" "[I" ∈ az_TB := az_tb (i := 174) (by decide +kernel) (by decide +kernel)
theorem uw3_1 : u_lay RX3 TX3 1 ∈ az_TB := tb174
theorem tb176 : Cond.laysFinal "TreadRing$Rings" "TreadRing$Rings" "rowOf" "[I" ∈ az_TB := az_tb (i := 176) (by decide +kernel) (by decide +kernel)
theorem uw3_2 : u_lay RX3 TX3 2 ∈ az_TB := tb176
theorem tb178 : Cond.laysFinal "TreadRing$Rings" "TreadRing$Rings" "counts" "[I" ∈ az_TB := az_tb (i := 178) (by decide +kernel) (by decide +kernel)
theorem uw3_3 : u_lay RX3 TX3 3 ∈ az_TB := tb178
theorem uw3 : ∀ w ∈ u_ws RX3 TX3 4, w ∈ az_TB := az_uw (fun k hk => match k, hk with
  | 0, _ => uw3_0
  | 1, _ => uw3_1
  | 2, _ => uw3_2
  | 3, _ => uw3_3
  | k + 4, hk => absurd hk (by omega))
theorem tb354 : Cond.lays "TreadRing$Runner" "TreadRing$Runner" "heap" "LTreadRing$Heap;" ∈ az_TB := az_tb (i := 354) (by decide +kernel) (by decide +kernel)
theorem uw4_0 : u_lay RX4 TX4 0 ∈ az_TB := tb354
theorem tb356 : Cond.lays "TreadRing$Runner" "TreadRing$Runner" "script" "LTreadRing$Script;" ∈ az_TB := az_tb (i := 356) (by decide +kernel) (by decide +kernel)
theorem uw4_1 : u_lay RX4 TX4 1 ∈ az_TB := tb356
theorem tb358 : Cond.lays "TreadRing$Runner" "TreadRing$Runner" "goes" "I" ∈ az_TB := az_tb (i := 358) (by decide +kernel) (by decide +kernel)
theorem uw4_2 : u_lay RX4 TX4 2 ∈ az_TB := tb358
theorem tb360 : Cond.lays "TreadRing$Runner" "TreadRing$Runner" "stopped" "Z" ∈ az_TB := az_tb (i := 360) (by decide +kernel) (by decide +kernel)
theorem uw4_3 : u_lay RX4 TX4 3 ∈ az_TB := tb360
theorem uw4 : ∀ w ∈ u_ws RX4 TX4 4, w ∈ az_TB := az_uw (fun k hk => match k, hk with
  | 0, _ => uw4_0
  | 1, _ => uw4_1
  | 2, _ => uw4_2
  | 3, _ => uw4_3
  | k + 4, hk => absurd hk (by omega))
theorem tb298 : Cond.laysFinal "TreadRing$Script" "TreadRing$Script" "kinds" "[I" ∈ az_TB := az_tb (i := 298) (by decide +kernel) (by decide +kernel)
theorem uw5_0 : u_lay RX5 TX5 0 ∈ az_TB := tb298
theorem tb300 : Cond.laysFinal "TreadRing$Script" "TreadRing$Script" "roots" "[I" ∈ az_TB := az_tb (i := 300) (by decide +kernel) (by decide +kernel)
theorem uw5_1 : u_lay RX5 TX5 1 ∈ az_TB := tb300
theorem tb302 : Cond.laysFinal "TreadRing$Script" "TreadRing$Script" "others" "[I" ∈ az_TB := az_tb (i := 302) (by decide +kernel) (by decide +kernel)
theorem uw5_2 : u_lay RX5 TX5 2 ∈ az_TB := tb302
theorem tb304 : Cond.laysFinal "TreadRing$Script" "TreadRing$Script" "numbers" "[I" ∈ az_TB := az_tb (i := 304) (by decide +kernel) (by decide +kernel)
theorem uw5_3 : u_lay RX5 TX5 3 ∈ az_TB := tb304
theorem tb306 : Cond.laysFinal "TreadRing$Script" "TreadRing$Script" "ends" "[I" ∈ az_TB := az_tb (i := 306) (by decide +kernel) (by decide +kernel)
theorem uw5_4 : u_lay RX5 TX5 4 ∈ az_TB := tb306
theorem tb308 : Cond.lays "TreadRing$Script" "TreadRing$Script" "items" "I" ∈ az_TB := az_tb (i := 308) (by decide +kernel) (by decide +kernel)
theorem uw5_5 : u_lay RX5 TX5 5 ∈ az_TB := tb308
theorem uw5 : ∀ w ∈ u_ws RX5 TX5 6, w ∈ az_TB := az_uw (fun k hk => match k, hk with
  | 0, _ => uw5_0
  | 1, _ => uw5_1
  | 2, _ => uw5_2
  | 3, _ => uw5_3
  | 4, _ => uw5_4
  | 5, _ => uw5_5
  | k + 6, hk => absurd hk (by omega))
theorem tb378 : Cond.laysFinal "TreadRing" "TreadRing" "kept" "[LTreadRing$Heap;" ∈ az_TB := az_tb (i := 378) (by decide +kernel) (by decide +kernel)
theorem uw6_0 : u_lay RX6 TX6 0 ∈ az_TB := tb378
theorem tb380 : Cond.lays "TreadRing" "TreadRing" "current" "I" ∈ az_TB := az_tb (i := 380) (by decide +kernel) (by decide +kernel)
theorem uw6_1 : u_lay RX6 TX6 1 ∈ az_TB := tb380
theorem tb382 : Cond.lays "TreadRing" "TreadRing" "undoable" "I" ∈ az_TB := az_tb (i := 382) (by decide +kernel) (by decide +kernel)
theorem uw6_2 : u_lay RX6 TX6 2 ∈ az_TB := tb382
theorem tb384 : Cond.lays "TreadRing" "TreadRing" "redoable" "I" ∈ az_TB := az_tb (i := 384) (by decide +kernel) (by decide +kernel)
theorem uw6_3 : u_lay RX6 TX6 3 ∈ az_TB := tb384
theorem tb386 : Cond.laysFinal "TreadRing" "TreadRing" "boxes" "[LTreadRing$Heap;" ∈ az_TB := az_tb (i := 386) (by decide +kernel) (by decide +kernel)
theorem uw6_4 : u_lay RX6 TX6 4 ∈ az_TB := tb386
theorem tb388 : Cond.laysFinal "TreadRing" "TreadRing" "boxed" "[Z" ∈ az_TB := az_tb (i := 388) (by decide +kernel) (by decide +kernel)
theorem uw6_5 : u_lay RX6 TX6 5 ∈ az_TB := tb388
theorem tb390 : Cond.laysFinal "TreadRing" "TreadRing" "trial" "LTreadRing$Heap;" ∈ az_TB := az_tb (i := 390) (by decide +kernel) (by decide +kernel)
theorem uw6_6 : u_lay RX6 TX6 6 ∈ az_TB := tb390
theorem tb392 : Cond.laysFinal "TreadRing" "TreadRing" "tallyAhead" "[I" ∈ az_TB := az_tb (i := 392) (by decide +kernel) (by decide +kernel)
theorem uw6_7 : u_lay RX6 TX6 7 ∈ az_TB := tb392
theorem tb394 : Cond.laysFinal "TreadRing" "TreadRing" "reach" "LTreadRing$Reach;" ∈ az_TB := az_tb (i := 394) (by decide +kernel) (by decide +kernel)
theorem uw6_8 : u_lay RX6 TX6 8 ∈ az_TB := tb394
theorem tb396 : Cond.laysFinal "TreadRing" "TreadRing" "tape" "[I" ∈ az_TB := az_tb (i := 396) (by decide +kernel) (by decide +kernel)
theorem uw6_9 : u_lay RX6 TX6 9 ∈ az_TB := tb396
theorem tb398 : Cond.lays "TreadRing" "TreadRing" "taped" "I" ∈ az_TB := az_tb (i := 398) (by decide +kernel) (by decide +kernel)
theorem uw6_10 : u_lay RX6 TX6 10 ∈ az_TB := tb398
theorem tb400 : Cond.laysFinal "TreadRing" "TreadRing" "reader" "LTreadRing$Reader;" ∈ az_TB := az_tb (i := 400) (by decide +kernel) (by decide +kernel)
theorem uw6_11 : u_lay RX6 TX6 11 ∈ az_TB := tb400
theorem tb402 : Cond.lays "TreadRing" "TreadRing" "script" "LTreadRing$Script;" ∈ az_TB := az_tb (i := 402) (by decide +kernel) (by decide +kernel)
theorem uw6_12 : u_lay RX6 TX6 12 ∈ az_TB := tb402
theorem tb404 : Cond.lays "TreadRing" "TreadRing" "spare" "LTreadRing$Script;" ∈ az_TB := az_tb (i := 404) (by decide +kernel) (by decide +kernel)
theorem uw6_13 : u_lay RX6 TX6 13 ∈ az_TB := tb404
theorem tb406 : Cond.laysFinal "TreadRing" "TreadRing" "runner" "LTreadRing$Runner;" ∈ az_TB := az_tb (i := 406) (by decide +kernel) (by decide +kernel)
theorem uw6_14 : u_lay RX6 TX6 14 ∈ az_TB := tb406
theorem uw6 : ∀ w ∈ u_ws RX6 TX6 15, w ∈ az_TB := az_uw (fun k hk => match k, hk with
  | 0, _ => uw6_0
  | 1, _ => uw6_1
  | 2, _ => uw6_2
  | 3, _ => uw6_3
  | 4, _ => uw6_4
  | 5, _ => uw6_5
  | 6, _ => uw6_6
  | 7, _ => uw6_7
  | 8, _ => uw6_8
  | 9, _ => uw6_9
  | 10, _ => uw6_10
  | 11, _ => uw6_11
  | 12, _ => uw6_12
  | 13, _ => uw6_13
  | 14, _ => uw6_14
  | k + 15, hk => absurd hk (by omega))
theorem tb1023 : Cond.laysFinal "TreadRingModel" "TreadRingModel" "all" "[I" ∈ az_TB := az_tb (i := 1023) (by decide +kernel) (by decide +kernel)
theorem uw7_0 : u_lay RX7 TX7 0 ∈ az_TB := tb1023
theorem tb1025 : Cond.laysFinal "TreadRingModel" "TreadRingModel" "isOut" "[Z" ∈ az_TB := az_tb (i := 1025) (by decide +kernel) (by decide +kernel)
theorem uw7_1 : u_lay RX7 TX7 1 ∈ az_TB := tb1025
theorem tb1027 : Cond.laysFinal "TreadRingModel" "TreadRingModel" "isReached" "[Z" ∈ az_TB := az_tb (i := 1027) (by decide +kernel) (by decide +kernel)
theorem uw7_2 : u_lay RX7 TX7 2 ∈ az_TB := tb1027
theorem tb1029 : Cond.laysFinal "TreadRingModel" "TreadRingModel" "line" "[I" ∈ az_TB := az_tb (i := 1029) (by decide +kernel) (by decide +kernel)
theorem uw7_3 : u_lay RX7 TX7 3 ∈ az_TB := tb1029
theorem tb1031 : Cond.laysFinal "TreadRingModel" "TreadRingModel" "far" "[I" ∈ az_TB := az_tb (i := 1031) (by decide +kernel) (by decide +kernel)
theorem uw7_4 : u_lay RX7 TX7 4 ∈ az_TB := tb1031
theorem tb1033 : Cond.lays "TreadRingModel" "TreadRingModel" "lined" "I" ∈ az_TB := az_tb (i := 1033) (by decide +kernel) (by decide +kernel)
theorem uw7_5 : u_lay RX7 TX7 5 ∈ az_TB := tb1033
theorem tb1035 : Cond.laysFinal "TreadRingModel" "TreadRingModel" "aside" "[I" ∈ az_TB := az_tb (i := 1035) (by decide +kernel) (by decide +kernel)
theorem uw7_6 : u_lay RX7 TX7 6 ∈ az_TB := tb1035
theorem tb1037 : Cond.laysFinal "TreadRingModel" "TreadRingModel" "base" "[I" ∈ az_TB := az_tb (i := 1037) (by decide +kernel) (by decide +kernel)
theorem uw7_7 : u_lay RX7 TX7 7 ∈ az_TB := tb1037
theorem tb1039 : Cond.lays "TreadRingModel" "TreadRingModel" "drawn" "I" ∈ az_TB := az_tb (i := 1039) (by decide +kernel) (by decide +kernel)
theorem uw7_8 : u_lay RX7 TX7 8 ∈ az_TB := tb1039
theorem tb1041 : Cond.lays "TreadRingModel" "TreadRingModel" "came" "I" ∈ az_TB := az_tb (i := 1041) (by decide +kernel) (by decide +kernel)
theorem uw7_9 : u_lay RX7 TX7 9 ∈ az_TB := tb1041
theorem tb1043 : Cond.laysFinal "TreadRingModel" "TreadRingModel" "tape" "[I" ∈ az_TB := az_tb (i := 1043) (by decide +kernel) (by decide +kernel)
theorem uw7_10 : u_lay RX7 TX7 10 ∈ az_TB := tb1043
theorem tb1045 : Cond.lays "TreadRingModel" "TreadRingModel" "taped" "I" ∈ az_TB := az_tb (i := 1045) (by decide +kernel) (by decide +kernel)
theorem uw7_11 : u_lay RX7 TX7 11 ∈ az_TB := tb1045
theorem tb1047 : Cond.laysFinal "TreadRingModel" "TreadRingModel" "readOp" "[I" ∈ az_TB := az_tb (i := 1047) (by decide +kernel) (by decide +kernel)
theorem uw7_12 : u_lay RX7 TX7 12 ∈ az_TB := tb1047
theorem tb1049 : Cond.laysFinal "TreadRingModel" "TreadRingModel" "readA" "[I" ∈ az_TB := az_tb (i := 1049) (by decide +kernel) (by decide +kernel)
theorem uw7_13 : u_lay RX7 TX7 13 ∈ az_TB := tb1049
theorem tb1051 : Cond.laysFinal "TreadRingModel" "TreadRingModel" "readB" "[I" ∈ az_TB := az_tb (i := 1051) (by decide +kernel) (by decide +kernel)
theorem uw7_14 : u_lay RX7 TX7 14 ∈ az_TB := tb1051
theorem tb1053 : Cond.laysFinal "TreadRingModel" "TreadRingModel" "readC" "[I" ∈ az_TB := az_tb (i := 1053) (by decide +kernel) (by decide +kernel)
theorem uw7_15 : u_lay RX7 TX7 15 ∈ az_TB := tb1053
theorem tb1055 : Cond.laysFinal "TreadRingModel" "TreadRingModel" "readEnd" "[I" ∈ az_TB := az_tb (i := 1055) (by decide +kernel) (by decide +kernel)
theorem uw7_16 : u_lay RX7 TX7 16 ∈ az_TB := tb1055
theorem tb1057 : Cond.laysFinal "TreadRingModel" "TreadRingModel" "op" "[I" ∈ az_TB := az_tb (i := 1057) (by decide +kernel) (by decide +kernel)
theorem uw7_17 : u_lay RX7 TX7 17 ∈ az_TB := tb1057
theorem tb1059 : Cond.laysFinal "TreadRingModel" "TreadRingModel" "opA" "[I" ∈ az_TB := az_tb (i := 1059) (by decide +kernel) (by decide +kernel)
theorem uw7_18 : u_lay RX7 TX7 18 ∈ az_TB := tb1059
theorem tb1061 : Cond.laysFinal "TreadRingModel" "TreadRingModel" "opB" "[I" ∈ az_TB := az_tb (i := 1061) (by decide +kernel) (by decide +kernel)
theorem uw7_19 : u_lay RX7 TX7 19 ∈ az_TB := tb1061
theorem tb1063 : Cond.laysFinal "TreadRingModel" "TreadRingModel" "opC" "[I" ∈ az_TB := az_tb (i := 1063) (by decide +kernel) (by decide +kernel)
theorem uw7_20 : u_lay RX7 TX7 20 ∈ az_TB := tb1063
theorem tb1065 : Cond.laysFinal "TreadRingModel" "TreadRingModel" "opEnd" "[I" ∈ az_TB := az_tb (i := 1065) (by decide +kernel) (by decide +kernel)
theorem uw7_21 : u_lay RX7 TX7 21 ∈ az_TB := tb1065
theorem tb1067 : Cond.lays "TreadRingModel" "TreadRingModel" "readMany" "I" ∈ az_TB := az_tb (i := 1067) (by decide +kernel) (by decide +kernel)
theorem uw7_22 : u_lay RX7 TX7 22 ∈ az_TB := tb1067
theorem tb1069 : Cond.lays "TreadRingModel" "TreadRingModel" "items" "I" ∈ az_TB := az_tb (i := 1069) (by decide +kernel) (by decide +kernel)
theorem uw7_23 : u_lay RX7 TX7 23 ∈ az_TB := tb1069
theorem tb1071 : Cond.lays "TreadRingModel" "TreadRingModel" "size" "I" ∈ az_TB := az_tb (i := 1071) (by decide +kernel) (by decide +kernel)
theorem uw7_24 : u_lay RX7 TX7 24 ∈ az_TB := tb1071
theorem tb1073 : Cond.lays "TreadRingModel" "TreadRingModel" "at" "I" ∈ az_TB := az_tb (i := 1073) (by decide +kernel) (by decide +kernel)
theorem uw7_25 : u_lay RX7 TX7 25 ∈ az_TB := tb1073
theorem tb1075 : Cond.lays "TreadRingModel" "TreadRingModel" "next" "I" ∈ az_TB := az_tb (i := 1075) (by decide +kernel) (by decide +kernel)
theorem uw7_26 : u_lay RX7 TX7 26 ∈ az_TB := tb1075
theorem tb1077 : Cond.lays "TreadRingModel" "TreadRingModel" "token" "I" ∈ az_TB := az_tb (i := 1077) (by decide +kernel) (by decide +kernel)
theorem uw7_27 : u_lay RX7 TX7 27 ∈ az_TB := tb1077
theorem tb1079 : Cond.lays "TreadRingModel" "TreadRingModel" "word" "I" ∈ az_TB := az_tb (i := 1079) (by decide +kernel) (by decide +kernel)
theorem uw7_28 : u_lay RX7 TX7 28 ∈ az_TB := tb1079
theorem tb1081 : Cond.lays "TreadRingModel" "TreadRingModel" "number" "I" ∈ az_TB := az_tb (i := 1081) (by decide +kernel) (by decide +kernel)
theorem uw7_29 : u_lay RX7 TX7 29 ∈ az_TB := tb1081
theorem tb1083 : Cond.lays "TreadRingModel" "TreadRingModel" "fault" "I" ∈ az_TB := az_tb (i := 1083) (by decide +kernel) (by decide +kernel)
theorem uw7_30 : u_lay RX7 TX7 30 ∈ az_TB := tb1083
theorem tb1085 : Cond.lays "TreadRingModel" "TreadRingModel" "faultAt" "I" ∈ az_TB := az_tb (i := 1085) (by decide +kernel) (by decide +kernel)
theorem uw7_31 : u_lay RX7 TX7 31 ∈ az_TB := tb1085
theorem tb1087 : Cond.lays "TreadRingModel" "TreadRingModel" "found" "I" ∈ az_TB := az_tb (i := 1087) (by decide +kernel) (by decide +kernel)
theorem uw7_32 : u_lay RX7 TX7 32 ∈ az_TB := tb1087
theorem tb1089 : Cond.lays "TreadRingModel" "TreadRingModel" "foundAt" "I" ∈ az_TB := az_tb (i := 1089) (by decide +kernel) (by decide +kernel)
theorem uw7_33 : u_lay RX7 TX7 33 ∈ az_TB := tb1089
theorem tb1091 : Cond.lays "TreadRingModel" "TreadRingModel" "deep" "I" ∈ az_TB := az_tb (i := 1091) (by decide +kernel) (by decide +kernel)
theorem uw7_34 : u_lay RX7 TX7 34 ∈ az_TB := tb1091
theorem tb1093 : Cond.laysFinal "TreadRingModel" "TreadRingModel" "open" "[I" ∈ az_TB := az_tb (i := 1093) (by decide +kernel) (by decide +kernel)
theorem uw7_35 : u_lay RX7 TX7 35 ∈ az_TB := tb1093
theorem tb1095 : Cond.laysFinal "TreadRingModel" "TreadRingModel" "from" "[I" ∈ az_TB := az_tb (i := 1095) (by decide +kernel) (by decide +kernel)
theorem uw7_36 : u_lay RX7 TX7 36 ∈ az_TB := tb1095
theorem tb1097 : Cond.laysFinal "TreadRingModel" "TreadRingModel" "to" "[I" ∈ az_TB := az_tb (i := 1097) (by decide +kernel) (by decide +kernel)
theorem uw7_37 : u_lay RX7 TX7 37 ∈ az_TB := tb1097
theorem tb1099 : Cond.laysFinal "TreadRingModel" "TreadRingModel" "again" "[I" ∈ az_TB := az_tb (i := 1099) (by decide +kernel) (by decide +kernel)
theorem uw7_38 : u_lay RX7 TX7 38 ∈ az_TB := tb1099
theorem tb1101 : Cond.lays "TreadRingModel" "TreadRingModel" "item" "I" ∈ az_TB := az_tb (i := 1101) (by decide +kernel) (by decide +kernel)
theorem uw7_39 : u_lay RX7 TX7 39 ∈ az_TB := tb1101
theorem tb1103 : Cond.lays "TreadRingModel" "TreadRingModel" "within" "I" ∈ az_TB := az_tb (i := 1103) (by decide +kernel) (by decide +kernel)
theorem uw7_40 : u_lay RX7 TX7 40 ∈ az_TB := tb1103
theorem tb1105 : Cond.laysFinal "TreadRingModel" "TreadRingModel" "was" "[I" ∈ az_TB := az_tb (i := 1105) (by decide +kernel) (by decide +kernel)
theorem uw7_41 : u_lay RX7 TX7 41 ∈ az_TB := tb1105
theorem tb1107 : Cond.laysFinal "TreadRingModel" "TreadRingModel" "boxAll" "[I" ∈ az_TB := az_tb (i := 1107) (by decide +kernel) (by decide +kernel)
theorem uw7_42 : u_lay RX7 TX7 42 ∈ az_TB := tb1107
theorem tb1109 : Cond.laysFinal "TreadRingModel" "TreadRingModel" "isBoxed" "[Z" ∈ az_TB := az_tb (i := 1109) (by decide +kernel) (by decide +kernel)
theorem uw7_43 : u_lay RX7 TX7 43 ∈ az_TB := tb1109
theorem tb1111 : Cond.lays "TreadRingModel" "TreadRingModel" "acts" "I" ∈ az_TB := az_tb (i := 1111) (by decide +kernel) (by decide +kernel)
theorem uw7_44 : u_lay RX7 TX7 44 ∈ az_TB := tb1111
theorem tb1113 : Cond.lays "TreadRingModel" "TreadRingModel" "undone" "I" ∈ az_TB := az_tb (i := 1113) (by decide +kernel) (by decide +kernel)
theorem uw7_45 : u_lay RX7 TX7 45 ∈ az_TB := tb1113
theorem uw7 : ∀ w ∈ u_ws RX7 TX7 46, w ∈ az_TB := az_uw (fun k hk => match k, hk with
  | 0, _ => uw7_0
  | 1, _ => uw7_1
  | 2, _ => uw7_2
  | 3, _ => uw7_3
  | 4, _ => uw7_4
  | 5, _ => uw7_5
  | 6, _ => uw7_6
  | 7, _ => uw7_7
  | 8, _ => uw7_8
  | 9, _ => uw7_9
  | 10, _ => uw7_10
  | 11, _ => uw7_11
  | 12, _ => uw7_12
  | 13, _ => uw7_13
  | 14, _ => uw7_14
  | 15, _ => uw7_15
  | 16, _ => uw7_16
  | 17, _ => uw7_17
  | 18, _ => uw7_18
  | 19, _ => uw7_19
  | 20, _ => uw7_20
  | 21, _ => uw7_21
  | 22, _ => uw7_22
  | 23, _ => uw7_23
  | 24, _ => uw7_24
  | 25, _ => uw7_25
  | 26, _ => uw7_26
  | 27, _ => uw7_27
  | 28, _ => uw7_28
  | 29, _ => uw7_29
  | 30, _ => uw7_30
  | 31, _ => uw7_31
  | 32, _ => uw7_32
  | 33, _ => uw7_33
  | 34, _ => uw7_34
  | 35, _ => uw7_35
  | 36, _ => uw7_36
  | 37, _ => uw7_37
  | 38, _ => uw7_38
  | 39, _ => uw7_39
  | 40, _ => uw7_40
  | 41, _ => uw7_41
  | 42, _ => uw7_42
  | 43, _ => uw7_43
  | 44, _ => uw7_44
  | 45, _ => uw7_45
  | k + 46, hk => absurd hk (by omega))
theorem tb168 : Cond.fieldLink "TreadRing$Rings" 11 "TreadRing$Rings" "next" "[I" ∈ az_TB := az_tb (i := 168) (by decide +kernel) (by decide +kernel)
theorem fl_RX3_11 : az_FF RX3 11 3 0 := ⟨RX3, TX3, 4, "TreadRing$Rings", rfl, rfl, by decide, by decide, rfl, uw3, tyX3_ok, nmX3, Or.inl tb168, rfl⟩
theorem ff_RX3_11 : ∀ (C : String) (T : u_T) (N : Nat), vwCl[3]? = some (C, T, N) → Cond.fieldLink RX3 11 (T 0).1 (T 0).2.1 (T 0).2.2.1 ∈ az_TB ∧ (T 0).1 = RX3 := by
  intro C T N h
  cases h
  exact ⟨tb168, rfl⟩
theorem tb169 : Cond.fieldLink "TreadRing$Rings" 15 "TreadRing$Rings" "prev" "[I" ∈ az_TB := az_tb (i := 169) (by decide +kernel) (by decide +kernel)
theorem fl_RX3_15 : az_FF RX3 15 3 1 := ⟨RX3, TX3, 4, "TreadRing$Rings", rfl, rfl, by decide, by decide, rfl, uw3, tyX3_ok, nmX3, Or.inl tb169, rfl⟩
theorem ff_RX3_15 : ∀ (C : String) (T : u_T) (N : Nat), vwCl[3]? = some (C, T, N) → Cond.fieldLink RX3 15 (T 1).1 (T 1).2.1 (T 1).2.2.1 ∈ az_TB ∧ (T 1).1 = RX3 := by
  intro C T N h
  cases h
  exact ⟨tb169, rfl⟩
theorem tb170 : Cond.fieldLink "TreadRing$Rings" 18 "TreadRing$Rings" "rowOf" "[I" ∈ az_TB := az_tb (i := 170) (by decide +kernel) (by decide +kernel)
theorem fl_RX3_18 : az_FF RX3 18 3 2 := ⟨RX3, TX3, 4, "TreadRing$Rings", rfl, rfl, by decide, by decide, rfl, uw3, tyX3_ok, nmX3, Or.inl tb170, rfl⟩
theorem ff_RX3_18 : ∀ (C : String) (T : u_T) (N : Nat), vwCl[3]? = some (C, T, N) → Cond.fieldLink RX3 18 (T 2).1 (T 2).2.1 (T 2).2.2.1 ∈ az_TB ∧ (T 2).1 = RX3 := by
  intro C T N h
  cases h
  exact ⟨tb170, rfl⟩
theorem tb171 : Cond.fieldLink "TreadRing$Rings" 21 "TreadRing$Rings" "counts" "[I" ∈ az_TB := az_tb (i := 171) (by decide +kernel) (by decide +kernel)
theorem fl_RX3_21 : az_FF RX3 21 3 3 := ⟨RX3, TX3, 4, "TreadRing$Rings", rfl, rfl, by decide, by decide, rfl, uw3, tyX3_ok, nmX3, Or.inl tb171, rfl⟩
theorem ff_RX3_21 : ∀ (C : String) (T : u_T) (N : Nat), vwCl[3]? = some (C, T, N) → Cond.fieldLink RX3 21 (T 3).1 (T 3).2.1 (T 3).2.2.1 ∈ az_TB ∧ (T 3).1 = RX3 := by
  intro C T N h
  cases h
  exact ⟨tb171, rfl⟩
theorem tb189 : Cond.fieldLink "TreadRing$Heap" 12 "TreadRing$Heap" "rings" "LTreadRing$Rings;" ∈ az_TB := az_tb (i := 189) (by decide +kernel) (by decide +kernel)
theorem fl_RX0_12 : az_FF RX0 12 0 0 := ⟨RX0, TX0, 16, "TreadRing$Heap", rfl, rfl, by decide, by decide, rfl, uw0, tyX0_ok, nmX0, Or.inl tb189, rfl⟩
theorem ff_RX0_12 : ∀ (C : String) (T : u_T) (N : Nat), vwCl[0]? = some (C, T, N) → Cond.fieldLink RX0 12 (T 0).1 (T 0).2.1 (T 0).2.2.1 ∈ az_TB ∧ (T 0).1 = RX0 := by
  intro C T N h
  cases h
  exact ⟨tb189, rfl⟩
theorem fl_RX1_44 : az_FF RX1 44 0 0 := ⟨RX0, TX0, 16, "TreadRing$Heap", rfl, rfl, by decide, by decide, rfl, uw0, tyX0_ok, nmX0, Or.inr ⟨"TreadRing", az_nw_mem (i := 66) (by decide +kernel) rfl⟩, rfl⟩
theorem fl_RX6_208 : az_FF RX6 208 0 0 := ⟨RX0, TX0, 16, "TreadRing$Heap", rfl, rfl, by decide, by decide, rfl, uw0, tyX0_ok, nmX0, Or.inr ⟨"TreadRing", az_nw_mem (i := 67) (by decide +kernel) rfl⟩, rfl⟩
theorem tb192 : Cond.fieldLink "TreadRing$Heap" 18 "TreadRing$Heap" "cells" "[I" ∈ az_TB := az_tb (i := 192) (by decide +kernel) (by decide +kernel)
theorem fl_RX0_18 : az_FF RX0 18 0 1 := ⟨RX0, TX0, 16, "TreadRing$Heap", rfl, rfl, by decide, by decide, rfl, uw0, tyX0_ok, nmX0, Or.inl tb192, rfl⟩
theorem ff_RX0_18 : ∀ (C : String) (T : u_T) (N : Nat), vwCl[0]? = some (C, T, N) → Cond.fieldLink RX0 18 (T 1).1 (T 1).2.1 (T 1).2.2.1 ∈ az_TB ∧ (T 1).1 = RX0 := by
  intro C T N h
  cases h
  exact ⟨tb192, rfl⟩
theorem fl_RX1_37 : az_FF RX1 37 0 1 := ⟨RX0, TX0, 16, "TreadRing$Heap", rfl, rfl, by decide, by decide, rfl, uw0, tyX0_ok, nmX0, Or.inr ⟨"TreadRing", az_nw_mem (i := 69) (by decide +kernel) rfl⟩, rfl⟩
theorem fl_RX6_205 : az_FF RX6 205 0 1 := ⟨RX0, TX0, 16, "TreadRing$Heap", rfl, rfl, by decide, by decide, rfl, uw0, tyX0_ok, nmX0, Or.inr ⟨"TreadRing", az_nw_mem (i := 70) (by decide +kernel) rfl⟩, rfl⟩
theorem tb195 : Cond.fieldLink "TreadRing$Heap" 22 "TreadRing$Heap" "sizes" "[I" ∈ az_TB := az_tb (i := 195) (by decide +kernel) (by decide +kernel)
theorem fl_RX0_22 : az_FF RX0 22 0 2 := ⟨RX0, TX0, 16, "TreadRing$Heap", rfl, rfl, by decide, by decide, rfl, uw0, tyX0_ok, nmX0, Or.inl tb195, rfl⟩
theorem ff_RX0_22 : ∀ (C : String) (T : u_T) (N : Nat), vwCl[0]? = some (C, T, N) → Cond.fieldLink RX0 22 (T 2).1 (T 2).2.1 (T 2).2.2.1 ∈ az_TB ∧ (T 2).1 = RX0 := by
  intro C T N h
  cases h
  exact ⟨tb195, rfl⟩
theorem fl_RX6_247 : az_FF RX6 247 0 2 := ⟨RX0, TX0, 16, "TreadRing$Heap", rfl, rfl, by decide, by decide, rfl, uw0, tyX0_ok, nmX0, Or.inr ⟨"TreadRing", az_nw_mem (i := 72) (by decide +kernel) rfl⟩, rfl⟩
theorem tb197 : Cond.fieldLink "TreadRing$Heap" 25 "TreadRing$Heap" "used" "[I" ∈ az_TB := az_tb (i := 197) (by decide +kernel) (by decide +kernel)
theorem fl_RX0_25 : az_FF RX0 25 0 3 := ⟨RX0, TX0, 16, "TreadRing$Heap", rfl, rfl, by decide, by decide, rfl, uw0, tyX0_ok, nmX0, Or.inl tb197, rfl⟩
theorem ff_RX0_25 : ∀ (C : String) (T : u_T) (N : Nat), vwCl[0]? = some (C, T, N) → Cond.fieldLink RX0 25 (T 3).1 (T 3).2.1 (T 3).2.2.1 ∈ az_TB ∧ (T 3).1 = RX0 := by
  intro C T N h
  cases h
  exact ⟨tb197, rfl⟩
theorem fl_RX6_250 : az_FF RX6 250 0 3 := ⟨RX0, TX0, 16, "TreadRing$Heap", rfl, rfl, by decide, by decide, rfl, uw0, tyX0_ok, nmX0, Or.inr ⟨"TreadRing", az_nw_mem (i := 74) (by decide +kernel) rfl⟩, rfl⟩
theorem tb199 : Cond.fieldLink "TreadRing$Heap" 28 "TreadRing$Heap" "roots" "[I" ∈ az_TB := az_tb (i := 199) (by decide +kernel) (by decide +kernel)
theorem fl_RX0_28 : az_FF RX0 28 0 4 := ⟨RX0, TX0, 16, "TreadRing$Heap", rfl, rfl, by decide, by decide, rfl, uw0, tyX0_ok, nmX0, Or.inl tb199, rfl⟩
theorem ff_RX0_28 : ∀ (C : String) (T : u_T) (N : Nat), vwCl[0]? = some (C, T, N) → Cond.fieldLink RX0 28 (T 4).1 (T 4).2.1 (T 4).2.2.1 ∈ az_TB ∧ (T 4).1 = RX0 := by
  intro C T N h
  cases h
  exact ⟨tb199, rfl⟩
theorem fl_RX1_28 : az_FF RX1 28 0 4 := ⟨RX0, TX0, 16, "TreadRing$Heap", rfl, rfl, by decide, by decide, rfl, uw0, tyX0_ok, nmX0, Or.inr ⟨"TreadRing", az_nw_mem (i := 76) (by decide +kernel) rfl⟩, rfl⟩
theorem fl_RX4_43 : az_FF RX4 43 0 4 := ⟨RX0, TX0, 16, "TreadRing$Heap", rfl, rfl, by decide, by decide, rfl, uw0, tyX0_ok, nmX0, Or.inr ⟨"TreadRing", az_nw_mem (i := 77) (by decide +kernel) rfl⟩, rfl⟩
theorem fl_RX6_119 : az_FF RX6 119 0 4 := ⟨RX0, TX0, 16, "TreadRing$Heap", rfl, rfl, by decide, by decide, rfl, uw0, tyX0_ok, nmX0, Or.inr ⟨"TreadRing", az_nw_mem (i := 78) (by decide +kernel) rfl⟩, rfl⟩
theorem tb203 : Cond.fieldLink "TreadRing$Heap" 31 "TreadRing$Heap" "weaks" "[I" ∈ az_TB := az_tb (i := 203) (by decide +kernel) (by decide +kernel)
theorem fl_RX0_31 : az_FF RX0 31 0 5 := ⟨RX0, TX0, 16, "TreadRing$Heap", rfl, rfl, by decide, by decide, rfl, uw0, tyX0_ok, nmX0, Or.inl tb203, rfl⟩
theorem ff_RX0_31 : ∀ (C : String) (T : u_T) (N : Nat), vwCl[0]? = some (C, T, N) → Cond.fieldLink RX0 31 (T 5).1 (T 5).2.1 (T 5).2.2.1 ∈ az_TB ∧ (T 5).1 = RX0 := by
  intro C T N h
  cases h
  exact ⟨tb203, rfl⟩
theorem fl_RX6_129 : az_FF RX6 129 0 5 := ⟨RX0, TX0, 16, "TreadRing$Heap", rfl, rfl, by decide, by decide, rfl, uw0, tyX0_ok, nmX0, Or.inr ⟨"TreadRing", az_nw_mem (i := 80) (by decide +kernel) rfl⟩, rfl⟩
theorem tb205 : Cond.fieldLink "TreadRing$Heap" 34 "TreadRing$Heap" "greys" "[I" ∈ az_TB := az_tb (i := 205) (by decide +kernel) (by decide +kernel)
theorem fl_RX0_34 : az_FF RX0 34 0 6 := ⟨RX0, TX0, 16, "TreadRing$Heap", rfl, rfl, by decide, by decide, rfl, uw0, tyX0_ok, nmX0, Or.inl tb205, rfl⟩
theorem ff_RX0_34 : ∀ (C : String) (T : u_T) (N : Nat), vwCl[0]? = some (C, T, N) → Cond.fieldLink RX0 34 (T 6).1 (T 6).2.1 (T 6).2.2.1 ∈ az_TB ∧ (T 6).1 = RX0 := by
  intro C T N h
  cases h
  exact ⟨tb205, rfl⟩
theorem tb206 : Cond.fieldLink "TreadRing$Heap" 37 "TreadRing$Heap" "settings" "[I" ∈ az_TB := az_tb (i := 206) (by decide +kernel) (by decide +kernel)
theorem fl_RX0_37 : az_FF RX0 37 0 7 := ⟨RX0, TX0, 16, "TreadRing$Heap", rfl, rfl, by decide, by decide, rfl, uw0, tyX0_ok, nmX0, Or.inl tb206, rfl⟩
theorem ff_RX0_37 : ∀ (C : String) (T : u_T) (N : Nat), vwCl[0]? = some (C, T, N) → Cond.fieldLink RX0 37 (T 7).1 (T 7).2.1 (T 7).2.2.1 ∈ az_TB ∧ (T 7).1 = RX0 := by
  intro C T N h
  cases h
  exact ⟨tb206, rfl⟩
theorem fl_RX6_145 : az_FF RX6 145 0 7 := ⟨RX0, TX0, 16, "TreadRing$Heap", rfl, rfl, by decide, by decide, rfl, uw0, tyX0_ok, nmX0, Or.inr ⟨"TreadRing", az_nw_mem (i := 83) (by decide +kernel) rfl⟩, rfl⟩
theorem tb208 : Cond.fieldLink "TreadRing$Heap" 40 "TreadRing$Heap" "tally" "[I" ∈ az_TB := az_tb (i := 208) (by decide +kernel) (by decide +kernel)
theorem fl_RX0_40 : az_FF RX0 40 0 8 := ⟨RX0, TX0, 16, "TreadRing$Heap", rfl, rfl, by decide, by decide, rfl, uw0, tyX0_ok, nmX0, Or.inl tb208, rfl⟩
theorem ff_RX0_40 : ∀ (C : String) (T : u_T) (N : Nat), vwCl[0]? = some (C, T, N) → Cond.fieldLink RX0 40 (T 8).1 (T 8).2.1 (T 8).2.2.1 ∈ az_TB ∧ (T 8).1 = RX0 := by
  intro C T N h
  cases h
  exact ⟨tb208, rfl⟩
theorem fl_RX6_289 : az_FF RX6 289 0 8 := ⟨RX0, TX0, 16, "TreadRing$Heap", rfl, rfl, by decide, by decide, rfl, uw0, tyX0_ok, nmX0, Or.inr ⟨"TreadRing", az_nw_mem (i := 85) (by decide +kernel) rfl⟩, rfl⟩
theorem tb210 : Cond.fieldLink "TreadRing$Heap" 43 "TreadRing$Heap" "log" "[I" ∈ az_TB := az_tb (i := 210) (by decide +kernel) (by decide +kernel)
theorem fl_RX0_43 : az_FF RX0 43 0 9 := ⟨RX0, TX0, 16, "TreadRing$Heap", rfl, rfl, by decide, by decide, rfl, uw0, tyX0_ok, nmX0, Or.inl tb210, rfl⟩
theorem ff_RX0_43 : ∀ (C : String) (T : u_T) (N : Nat), vwCl[0]? = some (C, T, N) → Cond.fieldLink RX0 43 (T 9).1 (T 9).2.1 (T 9).2.2.1 ∈ az_TB ∧ (T 9).1 = RX0 := by
  intro C T N h
  cases h
  exact ⟨tb210, rfl⟩
theorem tb211 : Cond.fieldLink "TreadRing$Heap" 58 "TreadRing$Heap" "pages" "I" ∈ az_TB := az_tb (i := 211) (by decide +kernel) (by decide +kernel)
theorem fl_RX0_58 : az_FL RX0 58 0 10 := ⟨RX0, TX0, 16, "TreadRing$Heap", rfl, rfl, by decide, by decide, rfl, uw0, tyX0_ok, nmX0, Or.inl tb211, rfl⟩
theorem fl_RX6_244 : az_FL RX6 244 0 10 := ⟨RX0, TX0, 16, "TreadRing$Heap", rfl, rfl, by decide, by decide, rfl, uw0, tyX0_ok, nmX0, Or.inr ⟨"TreadRing", az_nw_mem (i := 88) (by decide +kernel) rfl⟩, rfl⟩
theorem tb213 : Cond.fieldLink "TreadRing$Heap" 62 "TreadRing$Heap" "waiting" "I" ∈ az_TB := az_tb (i := 213) (by decide +kernel) (by decide +kernel)
theorem fl_RX0_62 : az_FL RX0 62 0 11 := ⟨RX0, TX0, 16, "TreadRing$Heap", rfl, rfl, by decide, by decide, rfl, uw0, tyX0_ok, nmX0, Or.inl tb213, rfl⟩
theorem tb214 : Cond.fieldLink "TreadRing$Heap" 65 "TreadRing$Heap" "scanned" "I" ∈ az_TB := az_tb (i := 214) (by decide +kernel) (by decide +kernel)
theorem fl_RX0_65 : az_FL RX0 65 0 12 := ⟨RX0, TX0, 16, "TreadRing$Heap", rfl, rfl, by decide, by decide, rfl, uw0, tyX0_ok, nmX0, Or.inl tb214, rfl⟩
theorem fl_RX6_223 : az_FL RX6 223 0 12 := ⟨RX0, TX0, 16, "TreadRing$Heap", rfl, rfl, by decide, by decide, rfl, uw0, tyX0_ok, nmX0, Or.inr ⟨"TreadRing", az_nw_mem (i := 91) (by decide +kernel) rfl⟩, rfl⟩
theorem tb216 : Cond.fieldLink "TreadRing$Heap" 68 "TreadRing$Heap" "looked" "I" ∈ az_TB := az_tb (i := 216) (by decide +kernel) (by decide +kernel)
theorem fl_RX0_68 : az_FL RX0 68 0 13 := ⟨RX0, TX0, 16, "TreadRing$Heap", rfl, rfl, by decide, by decide, rfl, uw0, tyX0_ok, nmX0, Or.inl tb216, rfl⟩
theorem fl_RX6_226 : az_FL RX6 226 0 13 := ⟨RX0, TX0, 16, "TreadRing$Heap", rfl, rfl, by decide, by decide, rfl, uw0, tyX0_ok, nmX0, Or.inr ⟨"TreadRing", az_nw_mem (i := 93) (by decide +kernel) rfl⟩, rfl⟩
theorem tb218 : Cond.fieldLink "TreadRing$Heap" 71 "TreadRing$Heap" "stepsAhead" "I" ∈ az_TB := az_tb (i := 218) (by decide +kernel) (by decide +kernel)
theorem fl_RX0_71 : az_FL RX0 71 0 14 := ⟨RX0, TX0, 16, "TreadRing$Heap", rfl, rfl, by decide, by decide, rfl, uw0, tyX0_ok, nmX0, Or.inl tb218, rfl⟩
theorem tb219 : Cond.fieldLink "TreadRing$Heap" 74 "TreadRing$Heap" "running" "Z" ∈ az_TB := az_tb (i := 219) (by decide +kernel) (by decide +kernel)
theorem fl_RX0_74 : az_FL RX0 74 0 15 := ⟨RX0, TX0, 16, "TreadRing$Heap", rfl, rfl, by decide, by decide, rfl, uw0, tyX0_ok, nmX0, Or.inl tb219, rfl⟩
theorem fl_RX6_135 : az_FL RX6 135 0 15 := ⟨RX0, TX0, 16, "TreadRing$Heap", rfl, rfl, by decide, by decide, rfl, uw0, tyX0_ok, nmX0, Or.inr ⟨"TreadRing", az_nw_mem (i := 96) (by decide +kernel) rfl⟩, rfl⟩
theorem tb260 : Cond.fieldLink "TreadRing$Reach" 9 "TreadRing$Reach" "far" "[I" ∈ az_TB := az_tb (i := 260) (by decide +kernel) (by decide +kernel)
theorem fl_RX1_9 : az_FF RX1 9 1 0 := ⟨RX1, TX1, 3, "TreadRing$Reach", rfl, rfl, by decide, by decide, rfl, uw1, tyX1_ok, nmX1, Or.inl tb260, rfl⟩
theorem ff_RX1_9 : ∀ (C : String) (T : u_T) (N : Nat), vwCl[1]? = some (C, T, N) → Cond.fieldLink RX1 9 (T 0).1 (T 0).2.1 (T 0).2.2.1 ∈ az_TB ∧ (T 0).1 = RX1 := by
  intro C T N h
  cases h
  exact ⟨tb260, rfl⟩
theorem fl_RX6_229 : az_FF RX6 229 1 0 := ⟨RX1, TX1, 3, "TreadRing$Reach", rfl, rfl, by decide, by decide, rfl, uw1, tyX1_ok, nmX1, Or.inr ⟨"TreadRing", az_nw_mem (i := 137) (by decide +kernel) rfl⟩, rfl⟩
theorem tb262 : Cond.fieldLink "TreadRing$Reach" 15 "TreadRing$Reach" "queue" "[I" ∈ az_TB := az_tb (i := 262) (by decide +kernel) (by decide +kernel)
theorem fl_RX1_15 : az_FF RX1 15 1 1 := ⟨RX1, TX1, 3, "TreadRing$Reach", rfl, rfl, by decide, by decide, rfl, uw1, tyX1_ok, nmX1, Or.inl tb262, rfl⟩
theorem ff_RX1_15 : ∀ (C : String) (T : u_T) (N : Nat), vwCl[1]? = some (C, T, N) → Cond.fieldLink RX1 15 (T 1).1 (T 1).2.1 (T 1).2.2.1 ∈ az_TB ∧ (T 1).1 = RX1 := by
  intro C T N h
  cases h
  exact ⟨tb262, rfl⟩
theorem tb263 : Cond.fieldLink "TreadRing$Reach" 18 "TreadRing$Reach" "found" "I" ∈ az_TB := az_tb (i := 263) (by decide +kernel) (by decide +kernel)
theorem fl_RX1_18 : az_FL RX1 18 1 2 := ⟨RX1, TX1, 3, "TreadRing$Reach", rfl, rfl, by decide, by decide, rfl, uw1, tyX1_ok, nmX1, Or.inl tb263, rfl⟩
theorem fl_RX6_189 : az_FL RX6 189 1 2 := ⟨RX1, TX1, 3, "TreadRing$Reach", rfl, rfl, by decide, by decide, rfl, uw1, tyX1_ok, nmX1, Or.inr ⟨"TreadRing", az_nw_mem (i := 140) (by decide +kernel) rfl⟩, rfl⟩
theorem tb284 : Cond.fieldLink "TreadRing$Script" 9 "TreadRing$Script" "kinds" "[I" ∈ az_TB := az_tb (i := 284) (by decide +kernel) (by decide +kernel)
theorem fl_RX5_9 : az_FF RX5 9 5 0 := ⟨RX5, TX5, 6, "TreadRing$Script", rfl, rfl, by decide, by decide, rfl, uw5, tyX5_ok, nmX5, Or.inl tb284, rfl⟩
theorem ff_RX5_9 : ∀ (C : String) (T : u_T) (N : Nat), vwCl[5]? = some (C, T, N) → Cond.fieldLink RX5 9 (T 0).1 (T 0).2.1 (T 0).2.2.1 ∈ az_TB ∧ (T 0).1 = RX5 := by
  intro C T N h
  cases h
  exact ⟨tb284, rfl⟩
theorem fl_RX4_27 : az_FF RX4 27 5 0 := ⟨RX5, TX5, 6, "TreadRing$Script", rfl, rfl, by decide, by decide, rfl, uw5, tyX5_ok, nmX5, Or.inr ⟨"TreadRing", az_nw_mem (i := 161) (by decide +kernel) rfl⟩, rfl⟩
theorem tb286 : Cond.fieldLink "TreadRing$Script" 15 "TreadRing$Script" "roots" "[I" ∈ az_TB := az_tb (i := 286) (by decide +kernel) (by decide +kernel)
theorem fl_RX5_15 : az_FF RX5 15 5 1 := ⟨RX5, TX5, 6, "TreadRing$Script", rfl, rfl, by decide, by decide, rfl, uw5, tyX5_ok, nmX5, Or.inl tb286, rfl⟩
theorem ff_RX5_15 : ∀ (C : String) (T : u_T) (N : Nat), vwCl[5]? = some (C, T, N) → Cond.fieldLink RX5 15 (T 1).1 (T 1).2.1 (T 1).2.2.1 ∈ az_TB ∧ (T 1).1 = RX5 := by
  intro C T N h
  cases h
  exact ⟨tb286, rfl⟩
theorem fl_RX4_48 : az_FF RX4 48 5 1 := ⟨RX5, TX5, 6, "TreadRing$Script", rfl, rfl, by decide, by decide, rfl, uw5, tyX5_ok, nmX5, Or.inr ⟨"TreadRing", az_nw_mem (i := 163) (by decide +kernel) rfl⟩, rfl⟩
theorem tb288 : Cond.fieldLink "TreadRing$Script" 18 "TreadRing$Script" "others" "[I" ∈ az_TB := az_tb (i := 288) (by decide +kernel) (by decide +kernel)
theorem fl_RX5_18 : az_FF RX5 18 5 2 := ⟨RX5, TX5, 6, "TreadRing$Script", rfl, rfl, by decide, by decide, rfl, uw5, tyX5_ok, nmX5, Or.inl tb288, rfl⟩
theorem ff_RX5_18 : ∀ (C : String) (T : u_T) (N : Nat), vwCl[5]? = some (C, T, N) → Cond.fieldLink RX5 18 (T 2).1 (T 2).2.1 (T 2).2.2.1 ∈ az_TB ∧ (T 2).1 = RX5 := by
  intro C T N h
  cases h
  exact ⟨tb288, rfl⟩
theorem fl_RX4_59 : az_FF RX4 59 5 2 := ⟨RX5, TX5, 6, "TreadRing$Script", rfl, rfl, by decide, by decide, rfl, uw5, tyX5_ok, nmX5, Or.inr ⟨"TreadRing", az_nw_mem (i := 165) (by decide +kernel) rfl⟩, rfl⟩
theorem tb290 : Cond.fieldLink "TreadRing$Script" 21 "TreadRing$Script" "numbers" "[I" ∈ az_TB := az_tb (i := 290) (by decide +kernel) (by decide +kernel)
theorem fl_RX5_21 : az_FF RX5 21 5 3 := ⟨RX5, TX5, 6, "TreadRing$Script", rfl, rfl, by decide, by decide, rfl, uw5, tyX5_ok, nmX5, Or.inl tb290, rfl⟩
theorem ff_RX5_21 : ∀ (C : String) (T : u_T) (N : Nat), vwCl[5]? = some (C, T, N) → Cond.fieldLink RX5 21 (T 3).1 (T 3).2.1 (T 3).2.2.1 ∈ az_TB ∧ (T 3).1 = RX5 := by
  intro C T N h
  cases h
  exact ⟨tb290, rfl⟩
theorem fl_RX4_33 : az_FF RX4 33 5 3 := ⟨RX5, TX5, 6, "TreadRing$Script", rfl, rfl, by decide, by decide, rfl, uw5, tyX5_ok, nmX5, Or.inr ⟨"TreadRing", az_nw_mem (i := 167) (by decide +kernel) rfl⟩, rfl⟩
theorem tb292 : Cond.fieldLink "TreadRing$Script" 24 "TreadRing$Script" "ends" "[I" ∈ az_TB := az_tb (i := 292) (by decide +kernel) (by decide +kernel)
theorem fl_RX5_24 : az_FF RX5 24 5 4 := ⟨RX5, TX5, 6, "TreadRing$Script", rfl, rfl, by decide, by decide, rfl, uw5, tyX5_ok, nmX5, Or.inl tb292, rfl⟩
theorem ff_RX5_24 : ∀ (C : String) (T : u_T) (N : Nat), vwCl[5]? = some (C, T, N) → Cond.fieldLink RX5 24 (T 4).1 (T 4).2.1 (T 4).2.2.1 ∈ az_TB ∧ (T 4).1 = RX5 := by
  intro C T N h
  cases h
  exact ⟨tb292, rfl⟩
theorem fl_RX4_36 : az_FF RX4 36 5 4 := ⟨RX5, TX5, 6, "TreadRing$Script", rfl, rfl, by decide, by decide, rfl, uw5, tyX5_ok, nmX5, Or.inr ⟨"TreadRing", az_nw_mem (i := 169) (by decide +kernel) rfl⟩, rfl⟩
theorem fl_RX2_95 : az_FF RX2 95 5 4 := ⟨RX5, TX5, 6, "TreadRing$Script", rfl, rfl, by decide, by decide, rfl, uw5, tyX5_ok, nmX5, Or.inr ⟨"TreadRing", az_nw_mem (i := 170) (by decide +kernel) rfl⟩, rfl⟩
theorem tb295 : Cond.fieldLink "TreadRing$Script" 27 "TreadRing$Script" "items" "I" ∈ az_TB := az_tb (i := 295) (by decide +kernel) (by decide +kernel)
theorem fl_RX5_27 : az_FL RX5 27 5 5 := ⟨RX5, TX5, 6, "TreadRing$Script", rfl, rfl, by decide, by decide, rfl, uw5, tyX5_ok, nmX5, Or.inl tb295, rfl⟩
theorem fl_RX2_44 : az_FL RX2 44 5 5 := ⟨RX5, TX5, 6, "TreadRing$Script", rfl, rfl, by decide, by decide, rfl, uw5, tyX5_ok, nmX5, Or.inr ⟨"TreadRing", az_nw_mem (i := 172) (by decide +kernel) rfl⟩, rfl⟩
theorem fl_RX6_158 : az_FL RX6 158 5 5 := ⟨RX5, TX5, 6, "TreadRing$Script", rfl, rfl, by decide, by decide, rfl, uw5, tyX5_ok, nmX5, Or.inr ⟨"TreadRing", az_nw_mem (i := 173) (by decide +kernel) rfl⟩, rfl⟩
theorem tb311 : Cond.fieldLink "TreadRing$Reader" 9 "TreadRing$Reader" "text" "[I" ∈ az_TB := az_tb (i := 311) (by decide +kernel) (by decide +kernel)
theorem fl_RX2_9 : az_FL RX2 9 2 0 := ⟨RX2, TX2, 9, "TreadRing$Reader", rfl, rfl, by decide, by decide, rfl, uw2, tyX2_ok, nmX2, Or.inl tb311, rfl⟩
theorem tb312 : Cond.fieldLink "TreadRing$Reader" 15 "TreadRing$Reader" "length" "I" ∈ az_TB := az_tb (i := 312) (by decide +kernel) (by decide +kernel)
theorem fl_RX2_15 : az_FL RX2 15 2 1 := ⟨RX2, TX2, 9, "TreadRing$Reader", rfl, rfl, by decide, by decide, rfl, uw2, tyX2_ok, nmX2, Or.inl tb312, rfl⟩
theorem tb313 : Cond.fieldLink "TreadRing$Reader" 19 "TreadRing$Reader" "start" "I" ∈ az_TB := az_tb (i := 313) (by decide +kernel) (by decide +kernel)
theorem fl_RX2_19 : az_FL RX2 19 2 2 := ⟨RX2, TX2, 9, "TreadRing$Reader", rfl, rfl, by decide, by decide, rfl, uw2, tyX2_ok, nmX2, Or.inl tb313, rfl⟩
theorem tb314 : Cond.fieldLink "TreadRing$Reader" 22 "TreadRing$Reader" "stop" "I" ∈ az_TB := az_tb (i := 314) (by decide +kernel) (by decide +kernel)
theorem fl_RX2_22 : az_FL RX2 22 2 3 := ⟨RX2, TX2, 9, "TreadRing$Reader", rfl, rfl, by decide, by decide, rfl, uw2, tyX2_ok, nmX2, Or.inl tb314, rfl⟩
theorem tb315 : Cond.fieldLink "TreadRing$Reader" 28 "TreadRing$Reader" "script" "LTreadRing$Script;" ∈ az_TB := az_tb (i := 315) (by decide +kernel) (by decide +kernel)
theorem fl_RX2_28 : az_FL RX2 28 2 4 := ⟨RX2, TX2, 9, "TreadRing$Reader", rfl, rfl, by decide, by decide, rfl, uw2, tyX2_ok, nmX2, Or.inl tb315, rfl⟩
theorem tb316 : Cond.fieldLink "TreadRing$Reader" 32 "TreadRing$Reader" "blocks" "[I" ∈ az_TB := az_tb (i := 316) (by decide +kernel) (by decide +kernel)
theorem fl_RX2_32 : az_FF RX2 32 2 5 := ⟨RX2, TX2, 9, "TreadRing$Reader", rfl, rfl, by decide, by decide, rfl, uw2, tyX2_ok, nmX2, Or.inl tb316, rfl⟩
theorem ff_RX2_32 : ∀ (C : String) (T : u_T) (N : Nat), vwCl[2]? = some (C, T, N) → Cond.fieldLink RX2 32 (T 5).1 (T 5).2.1 (T 5).2.2.1 ∈ az_TB ∧ (T 5).1 = RX2 := by
  intro C T N h
  cases h
  exact ⟨tb316, rfl⟩
theorem tb317 : Cond.fieldLink "TreadRing$Reader" 35 "TreadRing$Reader" "depth" "I" ∈ az_TB := az_tb (i := 317) (by decide +kernel) (by decide +kernel)
theorem fl_RX2_35 : az_FL RX2 35 2 6 := ⟨RX2, TX2, 9, "TreadRing$Reader", rfl, rfl, by decide, by decide, rfl, uw2, tyX2_ok, nmX2, Or.inl tb317, rfl⟩
theorem tb318 : Cond.fieldLink "TreadRing$Reader" 38 "TreadRing$Reader" "fault" "I" ∈ az_TB := az_tb (i := 318) (by decide +kernel) (by decide +kernel)
theorem fl_RX2_38 : az_FL RX2 38 2 7 := ⟨RX2, TX2, 9, "TreadRing$Reader", rfl, rfl, by decide, by decide, rfl, uw2, tyX2_ok, nmX2, Or.inl tb318, rfl⟩
theorem fl_RX6_155 : az_FL RX6 155 2 7 := ⟨RX2, TX2, 9, "TreadRing$Reader", rfl, rfl, by decide, by decide, rfl, uw2, tyX2_ok, nmX2, Or.inr ⟨"TreadRing", az_nw_mem (i := 195) (by decide +kernel) rfl⟩, rfl⟩
theorem tb320 : Cond.fieldLink "TreadRing$Reader" 41 "TreadRing$Reader" "place" "I" ∈ az_TB := az_tb (i := 320) (by decide +kernel) (by decide +kernel)
theorem fl_RX2_41 : az_FL RX2 41 2 8 := ⟨RX2, TX2, 9, "TreadRing$Reader", rfl, rfl, by decide, by decide, rfl, uw2, tyX2_ok, nmX2, Or.inl tb320, rfl⟩
theorem fl_RX6_161 : az_FL RX6 161 2 8 := ⟨RX2, TX2, 9, "TreadRing$Reader", rfl, rfl, by decide, by decide, rfl, uw2, tyX2_ok, nmX2, Or.inr ⟨"TreadRing", az_nw_mem (i := 197) (by decide +kernel) rfl⟩, rfl⟩
theorem tb349 : Cond.fieldLink "TreadRing$Runner" 19 "TreadRing$Runner" "heap" "LTreadRing$Heap;" ∈ az_TB := az_tb (i := 349) (by decide +kernel) (by decide +kernel)
theorem fl_RX4_19 : az_FL RX4 19 4 0 := ⟨RX4, TX4, 4, "TreadRing$Runner", rfl, rfl, by decide, by decide, rfl, uw4, tyX4_ok, nmX4, Or.inl tb349, rfl⟩
theorem tb350 : Cond.fieldLink "TreadRing$Runner" 23 "TreadRing$Runner" "script" "LTreadRing$Script;" ∈ az_TB := az_tb (i := 350) (by decide +kernel) (by decide +kernel)
theorem fl_RX4_23 : az_FL RX4 23 4 1 := ⟨RX4, TX4, 4, "TreadRing$Runner", rfl, rfl, by decide, by decide, rfl, uw4, tyX4_ok, nmX4, Or.inl tb350, rfl⟩
theorem tb351 : Cond.fieldLink "TreadRing$Runner" 9 "TreadRing$Runner" "goes" "I" ∈ az_TB := az_tb (i := 351) (by decide +kernel) (by decide +kernel)
theorem fl_RX4_9 : az_FL RX4 9 4 2 := ⟨RX4, TX4, 4, "TreadRing$Runner", rfl, rfl, by decide, by decide, rfl, uw4, tyX4_ok, nmX4, Or.inl tb351, rfl⟩
theorem fl_RX6_171 : az_FL RX6 171 4 2 := ⟨RX4, TX4, 4, "TreadRing$Runner", rfl, rfl, by decide, by decide, rfl, uw4, tyX4_ok, nmX4, Or.inr ⟨"TreadRing", az_nw_mem (i := 228) (by decide +kernel) rfl⟩, rfl⟩
theorem tb353 : Cond.fieldLink "TreadRing$Runner" 15 "TreadRing$Runner" "stopped" "Z" ∈ az_TB := az_tb (i := 353) (by decide +kernel) (by decide +kernel)
theorem fl_RX4_15 : az_FL RX4 15 4 3 := ⟨RX4, TX4, 4, "TreadRing$Runner", rfl, rfl, by decide, by decide, rfl, uw4, tyX4_ok, nmX4, Or.inl tb353, rfl⟩
theorem tb363 : Cond.fieldLink "TreadRing" 11 "TreadRing" "kept" "[LTreadRing$Heap;" ∈ az_TB := az_tb (i := 363) (by decide +kernel) (by decide +kernel)
theorem fl_RX6_11 : az_FF RX6 11 6 0 := ⟨RX6, TX6, 15, "TreadRing", rfl, rfl, by decide, by decide, rfl, uw6, tyX6_ok, nmX6, Or.inl tb363, rfl⟩
theorem ff_RX6_11 : ∀ (C : String) (T : u_T) (N : Nat), vwCl[6]? = some (C, T, N) → Cond.fieldLink RX6 11 (T 0).1 (T 0).2.1 (T 0).2.2.1 ∈ az_TB ∧ (T 0).1 = RX6 := by
  intro C T N h
  cases h
  exact ⟨tb363, rfl⟩
theorem tb364 : Cond.fieldLink "TreadRing" 15 "TreadRing" "current" "I" ∈ az_TB := az_tb (i := 364) (by decide +kernel) (by decide +kernel)
theorem fl_RX6_15 : az_FL RX6 15 6 1 := ⟨RX6, TX6, 15, "TreadRing", rfl, rfl, by decide, by decide, rfl, uw6, tyX6_ok, nmX6, Or.inl tb364, rfl⟩
theorem tb365 : Cond.fieldLink "TreadRing" 19 "TreadRing" "undoable" "I" ∈ az_TB := az_tb (i := 365) (by decide +kernel) (by decide +kernel)
theorem fl_RX6_19 : az_FL RX6 19 6 2 := ⟨RX6, TX6, 15, "TreadRing", rfl, rfl, by decide, by decide, rfl, uw6, tyX6_ok, nmX6, Or.inl tb365, rfl⟩
theorem tb366 : Cond.fieldLink "TreadRing" 22 "TreadRing" "redoable" "I" ∈ az_TB := az_tb (i := 366) (by decide +kernel) (by decide +kernel)
theorem fl_RX6_22 : az_FL RX6 22 6 3 := ⟨RX6, TX6, 15, "TreadRing", rfl, rfl, by decide, by decide, rfl, uw6, tyX6_ok, nmX6, Or.inl tb366, rfl⟩
theorem tb367 : Cond.fieldLink "TreadRing" 25 "TreadRing" "boxes" "[LTreadRing$Heap;" ∈ az_TB := az_tb (i := 367) (by decide +kernel) (by decide +kernel)
theorem fl_RX6_25 : az_FF RX6 25 6 4 := ⟨RX6, TX6, 15, "TreadRing", rfl, rfl, by decide, by decide, rfl, uw6, tyX6_ok, nmX6, Or.inl tb367, rfl⟩
theorem ff_RX6_25 : ∀ (C : String) (T : u_T) (N : Nat), vwCl[6]? = some (C, T, N) → Cond.fieldLink RX6 25 (T 4).1 (T 4).2.1 (T 4).2.2.1 ∈ az_TB ∧ (T 4).1 = RX6 := by
  intro C T N h
  cases h
  exact ⟨tb367, rfl⟩
theorem tb368 : Cond.fieldLink "TreadRing" 28 "TreadRing" "boxed" "[Z" ∈ az_TB := az_tb (i := 368) (by decide +kernel) (by decide +kernel)
theorem fl_RX6_28 : az_FF RX6 28 6 5 := ⟨RX6, TX6, 15, "TreadRing", rfl, rfl, by decide, by decide, rfl, uw6, tyX6_ok, nmX6, Or.inl tb368, rfl⟩
theorem ff_RX6_28 : ∀ (C : String) (T : u_T) (N : Nat), vwCl[6]? = some (C, T, N) → Cond.fieldLink RX6 28 (T 5).1 (T 5).2.1 (T 5).2.2.1 ∈ az_TB ∧ (T 5).1 = RX6 := by
  intro C T N h
  cases h
  exact ⟨tb368, rfl⟩
theorem tb369 : Cond.fieldLink "TreadRing" 33 "TreadRing" "trial" "LTreadRing$Heap;" ∈ az_TB := az_tb (i := 369) (by decide +kernel) (by decide +kernel)
theorem fl_RX6_33 : az_FF RX6 33 6 6 := ⟨RX6, TX6, 15, "TreadRing", rfl, rfl, by decide, by decide, rfl, uw6, tyX6_ok, nmX6, Or.inl tb369, rfl⟩
theorem ff_RX6_33 : ∀ (C : String) (T : u_T) (N : Nat), vwCl[6]? = some (C, T, N) → Cond.fieldLink RX6 33 (T 6).1 (T 6).2.1 (T 6).2.2.1 ∈ az_TB ∧ (T 6).1 = RX6 := by
  intro C T N h
  cases h
  exact ⟨tb369, rfl⟩
theorem tb370 : Cond.fieldLink "TreadRing" 37 "TreadRing" "tallyAhead" "[I" ∈ az_TB := az_tb (i := 370) (by decide +kernel) (by decide +kernel)
theorem fl_RX6_37 : az_FF RX6 37 6 7 := ⟨RX6, TX6, 15, "TreadRing", rfl, rfl, by decide, by decide, rfl, uw6, tyX6_ok, nmX6, Or.inl tb370, rfl⟩
theorem ff_RX6_37 : ∀ (C : String) (T : u_T) (N : Nat), vwCl[6]? = some (C, T, N) → Cond.fieldLink RX6 37 (T 7).1 (T 7).2.1 (T 7).2.2.1 ∈ az_TB ∧ (T 7).1 = RX6 := by
  intro C T N h
  cases h
  exact ⟨tb370, rfl⟩
theorem tb371 : Cond.fieldLink "TreadRing" 44 "TreadRing" "reach" "LTreadRing$Reach;" ∈ az_TB := az_tb (i := 371) (by decide +kernel) (by decide +kernel)
theorem fl_RX6_44 : az_FF RX6 44 6 8 := ⟨RX6, TX6, 15, "TreadRing", rfl, rfl, by decide, by decide, rfl, uw6, tyX6_ok, nmX6, Or.inl tb371, rfl⟩
theorem ff_RX6_44 : ∀ (C : String) (T : u_T) (N : Nat), vwCl[6]? = some (C, T, N) → Cond.fieldLink RX6 44 (T 8).1 (T 8).2.1 (T 8).2.2.1 ∈ az_TB ∧ (T 8).1 = RX6 := by
  intro C T N h
  cases h
  exact ⟨tb371, rfl⟩
theorem tb372 : Cond.fieldLink "TreadRing" 48 "TreadRing" "tape" "[I" ∈ az_TB := az_tb (i := 372) (by decide +kernel) (by decide +kernel)
theorem fl_RX6_48 : az_FF RX6 48 6 9 := ⟨RX6, TX6, 15, "TreadRing", rfl, rfl, by decide, by decide, rfl, uw6, tyX6_ok, nmX6, Or.inl tb372, rfl⟩
theorem ff_RX6_48 : ∀ (C : String) (T : u_T) (N : Nat), vwCl[6]? = some (C, T, N) → Cond.fieldLink RX6 48 (T 9).1 (T 9).2.1 (T 9).2.2.1 ∈ az_TB ∧ (T 9).1 = RX6 := by
  intro C T N h
  cases h
  exact ⟨tb372, rfl⟩
theorem tb373 : Cond.fieldLink "TreadRing" 51 "TreadRing" "taped" "I" ∈ az_TB := az_tb (i := 373) (by decide +kernel) (by decide +kernel)
theorem fl_RX6_51 : az_FL RX6 51 6 10 := ⟨RX6, TX6, 15, "TreadRing", rfl, rfl, by decide, by decide, rfl, uw6, tyX6_ok, nmX6, Or.inl tb373, rfl⟩
theorem tb374 : Cond.fieldLink "TreadRing" 57 "TreadRing" "reader" "LTreadRing$Reader;" ∈ az_TB := az_tb (i := 374) (by decide +kernel) (by decide +kernel)
theorem fl_RX6_57 : az_FF RX6 57 6 11 := ⟨RX6, TX6, 15, "TreadRing", rfl, rfl, by decide, by decide, rfl, uw6, tyX6_ok, nmX6, Or.inl tb374, rfl⟩
theorem ff_RX6_57 : ∀ (C : String) (T : u_T) (N : Nat), vwCl[6]? = some (C, T, N) → Cond.fieldLink RX6 57 (T 11).1 (T 11).2.1 (T 11).2.2.1 ∈ az_TB ∧ (T 11).1 = RX6 := by
  intro C T N h
  cases h
  exact ⟨tb374, rfl⟩
theorem tb375 : Cond.fieldLink "TreadRing" 64 "TreadRing" "script" "LTreadRing$Script;" ∈ az_TB := az_tb (i := 375) (by decide +kernel) (by decide +kernel)
theorem fl_RX6_64 : az_FL RX6 64 6 12 := ⟨RX6, TX6, 15, "TreadRing", rfl, rfl, by decide, by decide, rfl, uw6, tyX6_ok, nmX6, Or.inl tb375, rfl⟩
theorem tb376 : Cond.fieldLink "TreadRing" 68 "TreadRing" "spare" "LTreadRing$Script;" ∈ az_TB := az_tb (i := 376) (by decide +kernel) (by decide +kernel)
theorem fl_RX6_68 : az_FL RX6 68 6 13 := ⟨RX6, TX6, 15, "TreadRing", rfl, rfl, by decide, by decide, rfl, uw6, tyX6_ok, nmX6, Or.inl tb376, rfl⟩
theorem tb377 : Cond.fieldLink "TreadRing" 76 "TreadRing" "runner" "LTreadRing$Runner;" ∈ az_TB := az_tb (i := 377) (by decide +kernel) (by decide +kernel)
theorem fl_RX6_76 : az_FF RX6 76 6 14 := ⟨RX6, TX6, 15, "TreadRing", rfl, rfl, by decide, by decide, rfl, uw6, tyX6_ok, nmX6, Or.inl tb377, rfl⟩
theorem ff_RX6_76 : ∀ (C : String) (T : u_T) (N : Nat), vwCl[6]? = some (C, T, N) → Cond.fieldLink RX6 76 (T 14).1 (T 14).2.1 (T 14).2.2.1 ∈ az_TB ∧ (T 14).1 = RX6 := by
  intro C T N h
  cases h
  exact ⟨tb377, rfl⟩
theorem tb661 : Cond.fieldLink "java/lang/String" 38 "java/lang/String" "COMPACT_STRINGS" "Z" ∈ az_TB := az_tb (i := 661) (by decide +kernel) (by decide +kernel)
theorem fj_RJ0_38 : Cond.fieldLink "java/lang/String" 38 "java/lang/String" "COMPACT_STRINGS" "Z" ∈ az_TB := tb661
theorem tb677 : Cond.fieldLink "java/lang/String" 1053 "jdk/internal/util/Preconditions" "SIOOBE_FORMATTER" "Ljava/util/function/BiFunction;" ∈ az_TB := az_tb (i := 677) (by decide +kernel) (by decide +kernel)
theorem fj_RJ0_1053 : Cond.fieldLink "java/lang/String" 1053 "jdk/internal/util/Preconditions" "SIOOBE_FORMATTER" "Ljava/util/function/BiFunction;" ∈ az_TB := tb677
theorem tb695 : Cond.fieldLink "java/lang/StringUTF16" 44 "java/lang/StringUTF16" "$assertionsDisabled" "Z" ∈ az_TB := az_tb (i := 695) (by decide +kernel) (by decide +kernel)
theorem fj_RJ2_44 : Cond.fieldLink "java/lang/StringUTF16" 44 "java/lang/StringUTF16" "$assertionsDisabled" "Z" ∈ az_TB := tb695
theorem tb697 : Cond.fieldLink "java/lang/StringUTF16" 59 "java/lang/StringUTF16" "HI_BYTE_SHIFT" "I" ∈ az_TB := az_tb (i := 697) (by decide +kernel) (by decide +kernel)
theorem fj_RJ2_59 : Cond.fieldLink "java/lang/StringUTF16" 59 "java/lang/StringUTF16" "HI_BYTE_SHIFT" "I" ∈ az_TB := tb697
theorem tb699 : Cond.fieldLink "java/lang/StringUTF16" 63 "java/lang/StringUTF16" "LO_BYTE_SHIFT" "I" ∈ az_TB := az_tb (i := 699) (by decide +kernel) (by decide +kernel)
theorem fj_RJ2_63 : Cond.fieldLink "java/lang/StringUTF16" 63 "java/lang/StringUTF16" "LO_BYTE_SHIFT" "I" ∈ az_TB := tb699
theorem tb977 : Cond.fieldLink "TreadRingModel" 7 "TreadRingModel" "all" "[I" ∈ az_TB := az_tb (i := 977) (by decide +kernel) (by decide +kernel)
theorem fl_RX7_7 : az_FF RX7 7 7 0 := ⟨RX7, TX7, 46, "TreadRingModel", rfl, rfl, by decide, by decide, rfl, uw7, tyX7_ok, nmX7, Or.inl tb977, rfl⟩
theorem ff_RX7_7 : ∀ (C : String) (T : u_T) (N : Nat), vwCl[7]? = some (C, T, N) → Cond.fieldLink RX7 7 (T 0).1 (T 0).2.1 (T 0).2.2.1 ∈ az_TB ∧ (T 0).1 = RX7 := by
  intro C T N h
  cases h
  exact ⟨tb977, rfl⟩
theorem tb978 : Cond.fieldLink "TreadRingModel" 13 "TreadRingModel" "isOut" "[Z" ∈ az_TB := az_tb (i := 978) (by decide +kernel) (by decide +kernel)
theorem fl_RX7_13 : az_FF RX7 13 7 1 := ⟨RX7, TX7, 46, "TreadRingModel", rfl, rfl, by decide, by decide, rfl, uw7, tyX7_ok, nmX7, Or.inl tb978, rfl⟩
theorem ff_RX7_13 : ∀ (C : String) (T : u_T) (N : Nat), vwCl[7]? = some (C, T, N) → Cond.fieldLink RX7 13 (T 1).1 (T 1).2.1 (T 1).2.2.1 ∈ az_TB ∧ (T 1).1 = RX7 := by
  intro C T N h
  cases h
  exact ⟨tb978, rfl⟩
theorem tb979 : Cond.fieldLink "TreadRingModel" 17 "TreadRingModel" "isReached" "[Z" ∈ az_TB := az_tb (i := 979) (by decide +kernel) (by decide +kernel)
theorem fl_RX7_17 : az_FF RX7 17 7 2 := ⟨RX7, TX7, 46, "TreadRingModel", rfl, rfl, by decide, by decide, rfl, uw7, tyX7_ok, nmX7, Or.inl tb979, rfl⟩
theorem ff_RX7_17 : ∀ (C : String) (T : u_T) (N : Nat), vwCl[7]? = some (C, T, N) → Cond.fieldLink RX7 17 (T 2).1 (T 2).2.1 (T 2).2.2.1 ∈ az_TB ∧ (T 2).1 = RX7 := by
  intro C T N h
  cases h
  exact ⟨tb979, rfl⟩
theorem tb980 : Cond.fieldLink "TreadRingModel" 20 "TreadRingModel" "line" "[I" ∈ az_TB := az_tb (i := 980) (by decide +kernel) (by decide +kernel)
theorem fl_RX7_20 : az_FF RX7 20 7 3 := ⟨RX7, TX7, 46, "TreadRingModel", rfl, rfl, by decide, by decide, rfl, uw7, tyX7_ok, nmX7, Or.inl tb980, rfl⟩
theorem ff_RX7_20 : ∀ (C : String) (T : u_T) (N : Nat), vwCl[7]? = some (C, T, N) → Cond.fieldLink RX7 20 (T 3).1 (T 3).2.1 (T 3).2.2.1 ∈ az_TB ∧ (T 3).1 = RX7 := by
  intro C T N h
  cases h
  exact ⟨tb980, rfl⟩
theorem tb981 : Cond.fieldLink "TreadRingModel" 23 "TreadRingModel" "far" "[I" ∈ az_TB := az_tb (i := 981) (by decide +kernel) (by decide +kernel)
theorem fl_RX7_23 : az_FF RX7 23 7 4 := ⟨RX7, TX7, 46, "TreadRingModel", rfl, rfl, by decide, by decide, rfl, uw7, tyX7_ok, nmX7, Or.inl tb981, rfl⟩
theorem ff_RX7_23 : ∀ (C : String) (T : u_T) (N : Nat), vwCl[7]? = some (C, T, N) → Cond.fieldLink RX7 23 (T 4).1 (T 4).2.1 (T 4).2.2.1 ∈ az_TB ∧ (T 4).1 = RX7 := by
  intro C T N h
  cases h
  exact ⟨tb981, rfl⟩
theorem tb982 : Cond.fieldLink "TreadRingModel" 256 "TreadRingModel" "lined" "I" ∈ az_TB := az_tb (i := 982) (by decide +kernel) (by decide +kernel)
theorem fl_RX7_256 : az_FL RX7 256 7 5 := ⟨RX7, TX7, 46, "TreadRingModel", rfl, rfl, by decide, by decide, rfl, uw7, tyX7_ok, nmX7, Or.inl tb982, rfl⟩
theorem tb983 : Cond.fieldLink "TreadRingModel" 26 "TreadRingModel" "aside" "[I" ∈ az_TB := az_tb (i := 983) (by decide +kernel) (by decide +kernel)
theorem fl_RX7_26 : az_FF RX7 26 7 6 := ⟨RX7, TX7, 46, "TreadRingModel", rfl, rfl, by decide, by decide, rfl, uw7, tyX7_ok, nmX7, Or.inl tb983, rfl⟩
theorem ff_RX7_26 : ∀ (C : String) (T : u_T) (N : Nat), vwCl[7]? = some (C, T, N) → Cond.fieldLink RX7 26 (T 6).1 (T 6).2.1 (T 6).2.2.1 ∈ az_TB ∧ (T 6).1 = RX7 := by
  intro C T N h
  cases h
  exact ⟨tb983, rfl⟩
theorem tb984 : Cond.fieldLink "TreadRingModel" 29 "TreadRingModel" "base" "[I" ∈ az_TB := az_tb (i := 984) (by decide +kernel) (by decide +kernel)
theorem fl_RX7_29 : az_FF RX7 29 7 7 := ⟨RX7, TX7, 46, "TreadRingModel", rfl, rfl, by decide, by decide, rfl, uw7, tyX7_ok, nmX7, Or.inl tb984, rfl⟩
theorem ff_RX7_29 : ∀ (C : String) (T : u_T) (N : Nat), vwCl[7]? = some (C, T, N) → Cond.fieldLink RX7 29 (T 7).1 (T 7).2.1 (T 7).2.2.1 ∈ az_TB ∧ (T 7).1 = RX7 := by
  intro C T N h
  cases h
  exact ⟨tb984, rfl⟩
theorem tb985 : Cond.fieldLink "TreadRingModel" 302 "TreadRingModel" "drawn" "I" ∈ az_TB := az_tb (i := 985) (by decide +kernel) (by decide +kernel)
theorem fl_RX7_302 : az_FL RX7 302 7 8 := ⟨RX7, TX7, 46, "TreadRingModel", rfl, rfl, by decide, by decide, rfl, uw7, tyX7_ok, nmX7, Or.inl tb985, rfl⟩
theorem tb986 : Cond.fieldLink "TreadRingModel" 308 "TreadRingModel" "came" "I" ∈ az_TB := az_tb (i := 986) (by decide +kernel) (by decide +kernel)
theorem fl_RX7_308 : az_FL RX7 308 7 9 := ⟨RX7, TX7, 46, "TreadRingModel", rfl, rfl, by decide, by decide, rfl, uw7, tyX7_ok, nmX7, Or.inl tb986, rfl⟩
theorem tb987 : Cond.fieldLink "TreadRingModel" 32 "TreadRingModel" "tape" "[I" ∈ az_TB := az_tb (i := 987) (by decide +kernel) (by decide +kernel)
theorem fl_RX7_32 : az_FF RX7 32 7 10 := ⟨RX7, TX7, 46, "TreadRingModel", rfl, rfl, by decide, by decide, rfl, uw7, tyX7_ok, nmX7, Or.inl tb987, rfl⟩
theorem ff_RX7_32 : ∀ (C : String) (T : u_T) (N : Nat), vwCl[7]? = some (C, T, N) → Cond.fieldLink RX7 32 (T 10).1 (T 10).2.1 (T 10).2.2.1 ∈ az_TB ∧ (T 10).1 = RX7 := by
  intro C T N h
  cases h
  exact ⟨tb987, rfl⟩
theorem tb988 : Cond.fieldLink "TreadRingModel" 320 "TreadRingModel" "taped" "I" ∈ az_TB := az_tb (i := 988) (by decide +kernel) (by decide +kernel)
theorem fl_RX7_320 : az_FL RX7 320 7 11 := ⟨RX7, TX7, 46, "TreadRingModel", rfl, rfl, by decide, by decide, rfl, uw7, tyX7_ok, nmX7, Or.inl tb988, rfl⟩
theorem tb989 : Cond.fieldLink "TreadRingModel" 35 "TreadRingModel" "readOp" "[I" ∈ az_TB := az_tb (i := 989) (by decide +kernel) (by decide +kernel)
theorem fl_RX7_35 : az_FF RX7 35 7 12 := ⟨RX7, TX7, 46, "TreadRingModel", rfl, rfl, by decide, by decide, rfl, uw7, tyX7_ok, nmX7, Or.inl tb989, rfl⟩
theorem ff_RX7_35 : ∀ (C : String) (T : u_T) (N : Nat), vwCl[7]? = some (C, T, N) → Cond.fieldLink RX7 35 (T 12).1 (T 12).2.1 (T 12).2.2.1 ∈ az_TB ∧ (T 12).1 = RX7 := by
  intro C T N h
  cases h
  exact ⟨tb989, rfl⟩
theorem tb990 : Cond.fieldLink "TreadRingModel" 38 "TreadRingModel" "readA" "[I" ∈ az_TB := az_tb (i := 990) (by decide +kernel) (by decide +kernel)
theorem fl_RX7_38 : az_FF RX7 38 7 13 := ⟨RX7, TX7, 46, "TreadRingModel", rfl, rfl, by decide, by decide, rfl, uw7, tyX7_ok, nmX7, Or.inl tb990, rfl⟩
theorem ff_RX7_38 : ∀ (C : String) (T : u_T) (N : Nat), vwCl[7]? = some (C, T, N) → Cond.fieldLink RX7 38 (T 13).1 (T 13).2.1 (T 13).2.2.1 ∈ az_TB ∧ (T 13).1 = RX7 := by
  intro C T N h
  cases h
  exact ⟨tb990, rfl⟩
theorem tb991 : Cond.fieldLink "TreadRingModel" 41 "TreadRingModel" "readB" "[I" ∈ az_TB := az_tb (i := 991) (by decide +kernel) (by decide +kernel)
theorem fl_RX7_41 : az_FF RX7 41 7 14 := ⟨RX7, TX7, 46, "TreadRingModel", rfl, rfl, by decide, by decide, rfl, uw7, tyX7_ok, nmX7, Or.inl tb991, rfl⟩
theorem ff_RX7_41 : ∀ (C : String) (T : u_T) (N : Nat), vwCl[7]? = some (C, T, N) → Cond.fieldLink RX7 41 (T 14).1 (T 14).2.1 (T 14).2.2.1 ∈ az_TB ∧ (T 14).1 = RX7 := by
  intro C T N h
  cases h
  exact ⟨tb991, rfl⟩
theorem tb992 : Cond.fieldLink "TreadRingModel" 44 "TreadRingModel" "readC" "[I" ∈ az_TB := az_tb (i := 992) (by decide +kernel) (by decide +kernel)
theorem fl_RX7_44 : az_FF RX7 44 7 15 := ⟨RX7, TX7, 46, "TreadRingModel", rfl, rfl, by decide, by decide, rfl, uw7, tyX7_ok, nmX7, Or.inl tb992, rfl⟩
theorem ff_RX7_44 : ∀ (C : String) (T : u_T) (N : Nat), vwCl[7]? = some (C, T, N) → Cond.fieldLink RX7 44 (T 15).1 (T 15).2.1 (T 15).2.2.1 ∈ az_TB ∧ (T 15).1 = RX7 := by
  intro C T N h
  cases h
  exact ⟨tb992, rfl⟩
theorem tb993 : Cond.fieldLink "TreadRingModel" 47 "TreadRingModel" "readEnd" "[I" ∈ az_TB := az_tb (i := 993) (by decide +kernel) (by decide +kernel)
theorem fl_RX7_47 : az_FF RX7 47 7 16 := ⟨RX7, TX7, 46, "TreadRingModel", rfl, rfl, by decide, by decide, rfl, uw7, tyX7_ok, nmX7, Or.inl tb993, rfl⟩
theorem ff_RX7_47 : ∀ (C : String) (T : u_T) (N : Nat), vwCl[7]? = some (C, T, N) → Cond.fieldLink RX7 47 (T 16).1 (T 16).2.1 (T 16).2.2.1 ∈ az_TB ∧ (T 16).1 = RX7 := by
  intro C T N h
  cases h
  exact ⟨tb993, rfl⟩
theorem tb994 : Cond.fieldLink "TreadRingModel" 50 "TreadRingModel" "op" "[I" ∈ az_TB := az_tb (i := 994) (by decide +kernel) (by decide +kernel)
theorem fl_RX7_50 : az_FF RX7 50 7 17 := ⟨RX7, TX7, 46, "TreadRingModel", rfl, rfl, by decide, by decide, rfl, uw7, tyX7_ok, nmX7, Or.inl tb994, rfl⟩
theorem ff_RX7_50 : ∀ (C : String) (T : u_T) (N : Nat), vwCl[7]? = some (C, T, N) → Cond.fieldLink RX7 50 (T 17).1 (T 17).2.1 (T 17).2.2.1 ∈ az_TB ∧ (T 17).1 = RX7 := by
  intro C T N h
  cases h
  exact ⟨tb994, rfl⟩
theorem tb995 : Cond.fieldLink "TreadRingModel" 53 "TreadRingModel" "opA" "[I" ∈ az_TB := az_tb (i := 995) (by decide +kernel) (by decide +kernel)
theorem fl_RX7_53 : az_FF RX7 53 7 18 := ⟨RX7, TX7, 46, "TreadRingModel", rfl, rfl, by decide, by decide, rfl, uw7, tyX7_ok, nmX7, Or.inl tb995, rfl⟩
theorem ff_RX7_53 : ∀ (C : String) (T : u_T) (N : Nat), vwCl[7]? = some (C, T, N) → Cond.fieldLink RX7 53 (T 18).1 (T 18).2.1 (T 18).2.2.1 ∈ az_TB ∧ (T 18).1 = RX7 := by
  intro C T N h
  cases h
  exact ⟨tb995, rfl⟩
theorem tb996 : Cond.fieldLink "TreadRingModel" 56 "TreadRingModel" "opB" "[I" ∈ az_TB := az_tb (i := 996) (by decide +kernel) (by decide +kernel)
theorem fl_RX7_56 : az_FF RX7 56 7 19 := ⟨RX7, TX7, 46, "TreadRingModel", rfl, rfl, by decide, by decide, rfl, uw7, tyX7_ok, nmX7, Or.inl tb996, rfl⟩
theorem ff_RX7_56 : ∀ (C : String) (T : u_T) (N : Nat), vwCl[7]? = some (C, T, N) → Cond.fieldLink RX7 56 (T 19).1 (T 19).2.1 (T 19).2.2.1 ∈ az_TB ∧ (T 19).1 = RX7 := by
  intro C T N h
  cases h
  exact ⟨tb996, rfl⟩
theorem tb997 : Cond.fieldLink "TreadRingModel" 59 "TreadRingModel" "opC" "[I" ∈ az_TB := az_tb (i := 997) (by decide +kernel) (by decide +kernel)
theorem fl_RX7_59 : az_FF RX7 59 7 20 := ⟨RX7, TX7, 46, "TreadRingModel", rfl, rfl, by decide, by decide, rfl, uw7, tyX7_ok, nmX7, Or.inl tb997, rfl⟩
theorem ff_RX7_59 : ∀ (C : String) (T : u_T) (N : Nat), vwCl[7]? = some (C, T, N) → Cond.fieldLink RX7 59 (T 20).1 (T 20).2.1 (T 20).2.2.1 ∈ az_TB ∧ (T 20).1 = RX7 := by
  intro C T N h
  cases h
  exact ⟨tb997, rfl⟩
theorem tb998 : Cond.fieldLink "TreadRingModel" 62 "TreadRingModel" "opEnd" "[I" ∈ az_TB := az_tb (i := 998) (by decide +kernel) (by decide +kernel)
theorem fl_RX7_62 : az_FF RX7 62 7 21 := ⟨RX7, TX7, 46, "TreadRingModel", rfl, rfl, by decide, by decide, rfl, uw7, tyX7_ok, nmX7, Or.inl tb998, rfl⟩
theorem ff_RX7_62 : ∀ (C : String) (T : u_T) (N : Nat), vwCl[7]? = some (C, T, N) → Cond.fieldLink RX7 62 (T 21).1 (T 21).2.1 (T 21).2.2.1 ∈ az_TB ∧ (T 21).1 = RX7 := by
  intro C T N h
  cases h
  exact ⟨tb998, rfl⟩
theorem tb999 : Cond.fieldLink "TreadRingModel" 380 "TreadRingModel" "readMany" "I" ∈ az_TB := az_tb (i := 999) (by decide +kernel) (by decide +kernel)
theorem fl_RX7_380 : az_FL RX7 380 7 22 := ⟨RX7, TX7, 46, "TreadRingModel", rfl, rfl, by decide, by decide, rfl, uw7, tyX7_ok, nmX7, Or.inl tb999, rfl⟩
theorem tb1000 : Cond.fieldLink "TreadRingModel" 433 "TreadRingModel" "items" "I" ∈ az_TB := az_tb (i := 1000) (by decide +kernel) (by decide +kernel)
theorem fl_RX7_433 : az_FL RX7 433 7 23 := ⟨RX7, TX7, 46, "TreadRingModel", rfl, rfl, by decide, by decide, rfl, uw7, tyX7_ok, nmX7, Or.inl tb1000, rfl⟩
theorem tb1001 : Cond.fieldLink "TreadRingModel" 323 "TreadRingModel" "size" "I" ∈ az_TB := az_tb (i := 1001) (by decide +kernel) (by decide +kernel)
theorem fl_RX7_323 : az_FL RX7 323 7 24 := ⟨RX7, TX7, 46, "TreadRingModel", rfl, rfl, by decide, by decide, rfl, uw7, tyX7_ok, nmX7, Or.inl tb1001, rfl⟩
theorem tb1002 : Cond.fieldLink "TreadRingModel" 329 "TreadRingModel" "at" "I" ∈ az_TB := az_tb (i := 1002) (by decide +kernel) (by decide +kernel)
theorem fl_RX7_329 : az_FL RX7 329 7 25 := ⟨RX7, TX7, 46, "TreadRingModel", rfl, rfl, by decide, by decide, rfl, uw7, tyX7_ok, nmX7, Or.inl tb1002, rfl⟩
theorem tb1003 : Cond.fieldLink "TreadRingModel" 326 "TreadRingModel" "next" "I" ∈ az_TB := az_tb (i := 1003) (by decide +kernel) (by decide +kernel)
theorem fl_RX7_326 : az_FL RX7 326 7 26 := ⟨RX7, TX7, 46, "TreadRingModel", rfl, rfl, by decide, by decide, rfl, uw7, tyX7_ok, nmX7, Or.inl tb1003, rfl⟩
theorem tb1004 : Cond.fieldLink "TreadRingModel" 335 "TreadRingModel" "token" "I" ∈ az_TB := az_tb (i := 1004) (by decide +kernel) (by decide +kernel)
theorem fl_RX7_335 : az_FL RX7 335 7 27 := ⟨RX7, TX7, 46, "TreadRingModel", rfl, rfl, by decide, by decide, rfl, uw7, tyX7_ok, nmX7, Or.inl tb1004, rfl⟩
theorem tb1005 : Cond.fieldLink "TreadRingModel" 356 "TreadRingModel" "word" "I" ∈ az_TB := az_tb (i := 1005) (by decide +kernel) (by decide +kernel)
theorem fl_RX7_356 : az_FL RX7 356 7 28 := ⟨RX7, TX7, 46, "TreadRingModel", rfl, rfl, by decide, by decide, rfl, uw7, tyX7_ok, nmX7, Or.inl tb1005, rfl⟩
theorem tb1006 : Cond.fieldLink "TreadRingModel" 359 "TreadRingModel" "number" "I" ∈ az_TB := az_tb (i := 1006) (by decide +kernel) (by decide +kernel)
theorem fl_RX7_359 : az_FL RX7 359 7 29 := ⟨RX7, TX7, 46, "TreadRingModel", rfl, rfl, by decide, by decide, rfl, uw7, tyX7_ok, nmX7, Or.inl tb1006, rfl⟩
theorem tb1007 : Cond.fieldLink "TreadRingModel" 430 "TreadRingModel" "fault" "I" ∈ az_TB := az_tb (i := 1007) (by decide +kernel) (by decide +kernel)
theorem fl_RX7_430 : az_FL RX7 430 7 30 := ⟨RX7, TX7, 46, "TreadRingModel", rfl, rfl, by decide, by decide, rfl, uw7, tyX7_ok, nmX7, Or.inl tb1007, rfl⟩
theorem tb1008 : Cond.fieldLink "TreadRingModel" 65 "TreadRingModel" "faultAt" "I" ∈ az_TB := az_tb (i := 1008) (by decide +kernel) (by decide +kernel)
theorem fl_RX7_65 : az_FL RX7 65 7 31 := ⟨RX7, TX7, 46, "TreadRingModel", rfl, rfl, by decide, by decide, rfl, uw7, tyX7_ok, nmX7, Or.inl tb1008, rfl⟩
theorem tb1009 : Cond.fieldLink "TreadRingModel" 362 "TreadRingModel" "found" "I" ∈ az_TB := az_tb (i := 1009) (by decide +kernel) (by decide +kernel)
theorem fl_RX7_362 : az_FL RX7 362 7 32 := ⟨RX7, TX7, 46, "TreadRingModel", rfl, rfl, by decide, by decide, rfl, uw7, tyX7_ok, nmX7, Or.inl tb1009, rfl⟩
theorem tb1010 : Cond.fieldLink "TreadRingModel" 365 "TreadRingModel" "foundAt" "I" ∈ az_TB := az_tb (i := 1010) (by decide +kernel) (by decide +kernel)
theorem fl_RX7_365 : az_FL RX7 365 7 33 := ⟨RX7, TX7, 46, "TreadRingModel", rfl, rfl, by decide, by decide, rfl, uw7, tyX7_ok, nmX7, Or.inl tb1010, rfl⟩
theorem tb1011 : Cond.fieldLink "TreadRingModel" 391 "TreadRingModel" "deep" "I" ∈ az_TB := az_tb (i := 1011) (by decide +kernel) (by decide +kernel)
theorem fl_RX7_391 : az_FL RX7 391 7 34 := ⟨RX7, TX7, 46, "TreadRingModel", rfl, rfl, by decide, by decide, rfl, uw7, tyX7_ok, nmX7, Or.inl tb1011, rfl⟩
theorem tb1012 : Cond.fieldLink "TreadRingModel" 69 "TreadRingModel" "open" "[I" ∈ az_TB := az_tb (i := 1012) (by decide +kernel) (by decide +kernel)
theorem fl_RX7_69 : az_FF RX7 69 7 35 := ⟨RX7, TX7, 46, "TreadRingModel", rfl, rfl, by decide, by decide, rfl, uw7, tyX7_ok, nmX7, Or.inl tb1012, rfl⟩
theorem ff_RX7_69 : ∀ (C : String) (T : u_T) (N : Nat), vwCl[7]? = some (C, T, N) → Cond.fieldLink RX7 69 (T 35).1 (T 35).2.1 (T 35).2.2.1 ∈ az_TB ∧ (T 35).1 = RX7 := by
  intro C T N h
  cases h
  exact ⟨tb1012, rfl⟩
theorem tb1013 : Cond.fieldLink "TreadRingModel" 72 "TreadRingModel" "from" "[I" ∈ az_TB := az_tb (i := 1013) (by decide +kernel) (by decide +kernel)
theorem fl_RX7_72 : az_FF RX7 72 7 36 := ⟨RX7, TX7, 46, "TreadRingModel", rfl, rfl, by decide, by decide, rfl, uw7, tyX7_ok, nmX7, Or.inl tb1013, rfl⟩
theorem ff_RX7_72 : ∀ (C : String) (T : u_T) (N : Nat), vwCl[7]? = some (C, T, N) → Cond.fieldLink RX7 72 (T 36).1 (T 36).2.1 (T 36).2.2.1 ∈ az_TB ∧ (T 36).1 = RX7 := by
  intro C T N h
  cases h
  exact ⟨tb1013, rfl⟩
theorem tb1014 : Cond.fieldLink "TreadRingModel" 75 "TreadRingModel" "to" "[I" ∈ az_TB := az_tb (i := 1014) (by decide +kernel) (by decide +kernel)
theorem fl_RX7_75 : az_FF RX7 75 7 37 := ⟨RX7, TX7, 46, "TreadRingModel", rfl, rfl, by decide, by decide, rfl, uw7, tyX7_ok, nmX7, Or.inl tb1014, rfl⟩
theorem ff_RX7_75 : ∀ (C : String) (T : u_T) (N : Nat), vwCl[7]? = some (C, T, N) → Cond.fieldLink RX7 75 (T 37).1 (T 37).2.1 (T 37).2.2.1 ∈ az_TB ∧ (T 37).1 = RX7 := by
  intro C T N h
  cases h
  exact ⟨tb1014, rfl⟩
theorem tb1015 : Cond.fieldLink "TreadRingModel" 78 "TreadRingModel" "again" "[I" ∈ az_TB := az_tb (i := 1015) (by decide +kernel) (by decide +kernel)
theorem fl_RX7_78 : az_FF RX7 78 7 38 := ⟨RX7, TX7, 46, "TreadRingModel", rfl, rfl, by decide, by decide, rfl, uw7, tyX7_ok, nmX7, Or.inl tb1015, rfl⟩
theorem ff_RX7_78 : ∀ (C : String) (T : u_T) (N : Nat), vwCl[7]? = some (C, T, N) → Cond.fieldLink RX7 78 (T 38).1 (T 38).2.1 (T 38).2.2.1 ∈ az_TB ∧ (T 38).1 = RX7 := by
  intro C T N h
  cases h
  exact ⟨tb1015, rfl⟩
theorem tb1016 : Cond.fieldLink "TreadRingModel" 439 "TreadRingModel" "item" "I" ∈ az_TB := az_tb (i := 1016) (by decide +kernel) (by decide +kernel)
theorem fl_RX7_439 : az_FL RX7 439 7 39 := ⟨RX7, TX7, 46, "TreadRingModel", rfl, rfl, by decide, by decide, rfl, uw7, tyX7_ok, nmX7, Or.inl tb1016, rfl⟩
theorem tb1017 : Cond.fieldLink "TreadRingModel" 436 "TreadRingModel" "within" "I" ∈ az_TB := az_tb (i := 1017) (by decide +kernel) (by decide +kernel)
theorem fl_RX7_436 : az_FL RX7 436 7 40 := ⟨RX7, TX7, 46, "TreadRingModel", rfl, rfl, by decide, by decide, rfl, uw7, tyX7_ok, nmX7, Or.inl tb1017, rfl⟩
theorem tb1018 : Cond.fieldLink "TreadRingModel" 81 "TreadRingModel" "was" "[I" ∈ az_TB := az_tb (i := 1018) (by decide +kernel) (by decide +kernel)
theorem fl_RX7_81 : az_FF RX7 81 7 41 := ⟨RX7, TX7, 46, "TreadRingModel", rfl, rfl, by decide, by decide, rfl, uw7, tyX7_ok, nmX7, Or.inl tb1018, rfl⟩
theorem ff_RX7_81 : ∀ (C : String) (T : u_T) (N : Nat), vwCl[7]? = some (C, T, N) → Cond.fieldLink RX7 81 (T 41).1 (T 41).2.1 (T 41).2.2.1 ∈ az_TB ∧ (T 41).1 = RX7 := by
  intro C T N h
  cases h
  exact ⟨tb1018, rfl⟩
theorem tb1019 : Cond.fieldLink "TreadRingModel" 84 "TreadRingModel" "boxAll" "[I" ∈ az_TB := az_tb (i := 1019) (by decide +kernel) (by decide +kernel)
theorem fl_RX7_84 : az_FF RX7 84 7 42 := ⟨RX7, TX7, 46, "TreadRingModel", rfl, rfl, by decide, by decide, rfl, uw7, tyX7_ok, nmX7, Or.inl tb1019, rfl⟩
theorem ff_RX7_84 : ∀ (C : String) (T : u_T) (N : Nat), vwCl[7]? = some (C, T, N) → Cond.fieldLink RX7 84 (T 42).1 (T 42).2.1 (T 42).2.2.1 ∈ az_TB ∧ (T 42).1 = RX7 := by
  intro C T N h
  cases h
  exact ⟨tb1019, rfl⟩
theorem tb1020 : Cond.fieldLink "TreadRingModel" 87 "TreadRingModel" "isBoxed" "[Z" ∈ az_TB := az_tb (i := 1020) (by decide +kernel) (by decide +kernel)
theorem fl_RX7_87 : az_FF RX7 87 7 43 := ⟨RX7, TX7, 46, "TreadRingModel", rfl, rfl, by decide, by decide, rfl, uw7, tyX7_ok, nmX7, Or.inl tb1020, rfl⟩
theorem ff_RX7_87 : ∀ (C : String) (T : u_T) (N : Nat), vwCl[7]? = some (C, T, N) → Cond.fieldLink RX7 87 (T 43).1 (T 43).2.1 (T 43).2.2.1 ∈ az_TB ∧ (T 43).1 = RX7 := by
  intro C T N h
  cases h
  exact ⟨tb1020, rfl⟩
theorem tb1021 : Cond.fieldLink "TreadRingModel" 250 "TreadRingModel" "acts" "I" ∈ az_TB := az_tb (i := 1021) (by decide +kernel) (by decide +kernel)
theorem fl_RX7_250 : az_FL RX7 250 7 44 := ⟨RX7, TX7, 46, "TreadRingModel", rfl, rfl, by decide, by decide, rfl, uw7, tyX7_ok, nmX7, Or.inl tb1021, rfl⟩
theorem tb1022 : Cond.fieldLink "TreadRingModel" 253 "TreadRingModel" "undone" "I" ∈ az_TB := az_tb (i := 1022) (by decide +kernel) (by decide +kernel)
theorem fl_RX7_253 : az_FL RX7 253 7 45 := ⟨RX7, TX7, 46, "TreadRingModel", rfl, rfl, by decide, by decide, rfl, uw7, tyX7_ok, nmX7, Or.inl tb1022, rfl⟩
theorem tb1659 : Cond.fieldLink "java/lang/String" 9 "java/lang/String" "value" "[B" ∈ az_TB := az_tb (i := 1659) (by decide +kernel) (by decide +kernel)
theorem fj_RJ0_9 : Cond.fieldLink "java/lang/String" 9 "java/lang/String" "value" "[B" ∈ az_TB := tb1659
theorem tb1660 : Cond.fieldLink "java/lang/String" 15 "java/lang/String" "coder" "B" ∈ az_TB := az_tb (i := 1660) (by decide +kernel) (by decide +kernel)
theorem fj_RJ0_15 : Cond.fieldLink "java/lang/String" 15 "java/lang/String" "coder" "B" ∈ az_TB := tb1660
theorem tb125 : Cond.initialized "TreadRing" ∈ az_TB := az_tb (i := 125) (by decide +kernel) (by decide +kernel)
theorem tb142 : Cond.methodLink "TreadRingLaw" 9 (⟨"TreadRing", "<init>", "()V"⟩ : MethodName) ∈ az_TB := az_tb (i := 142) (by decide +kernel) (by decide +kernel)
theorem tb143 : Cond.instanceMethod (⟨"TreadRing", "<init>", "()V"⟩ : MethodName) ∈ az_TB := az_tb (i := 143) (by decide +kernel) (by decide +kernel)
theorem tb144 : Cond.code (⟨"TreadRing", "<init>", "()V"⟩ : MethodName) prog_1_method_1_code 2 (Option.none : Option Jvm.ClassFile.FieldType) ∈ az_TB := az_tb (i := 144) (by decide +kernel) (by decide +kernel)
theorem ml_RL_9 : az_MI RL 9 yX6_init cX6_init 2 0 := ⟨Or.inl tb142, rfl, tb143, tb125, tb144, ⟨by decide +kernel, by decide +kernel, by decide +kernel⟩⟩
theorem tb145 : Cond.methodLink "TreadRing" 1 (⟨"java/lang/Object", "<init>", "()V"⟩ : MethodName) ∈ az_TB := az_tb (i := 145) (by decide +kernel) (by decide +kernel)
theorem tb146 : Cond.instanceMethod (⟨"java/lang/Object", "<init>", "()V"⟩ : MethodName) ∈ az_TB := az_tb (i := 146) (by decide +kernel) (by decide +kernel)
theorem tb147 : Cond.code (⟨"java/lang/Object", "<init>", "()V"⟩ : MethodName) object_method_1_code 1 (Option.none : Option Jvm.ClassFile.FieldType) ∈ az_TB := az_tb (i := 147) (by decide +kernel) (by decide +kernel)
theorem oi_RX6 : Cond.methodLink RX6 1 objectInit ∈ az_TB ∧ Cond.instanceMethod objectInit ∈ az_TB ∧ Cond.code objectInit ⟨#[0xb1]⟩ 1 none ∈ az_TB := ⟨tb145, tb146, tb147⟩
theorem tb126 : Cond.initialized "TreadRing$Heap" ∈ az_TB := az_tb (i := 126) (by decide +kernel) (by decide +kernel)
theorem tb151 : Cond.methodLink "TreadRing" 32 (⟨"TreadRing$Heap", "<init>", "()V"⟩ : MethodName) ∈ az_TB := az_tb (i := 151) (by decide +kernel) (by decide +kernel)
theorem tb152 : Cond.instanceMethod (⟨"TreadRing$Heap", "<init>", "()V"⟩ : MethodName) ∈ az_TB := az_tb (i := 152) (by decide +kernel) (by decide +kernel)
theorem tb153 : Cond.code (⟨"TreadRing$Heap", "<init>", "()V"⟩ : MethodName) prog_2_method_1_code 1 (Option.none : Option Jvm.ClassFile.FieldType) ∈ az_TB := az_tb (i := 153) (by decide +kernel) (by decide +kernel)
theorem ml_RX6_32 : az_MI RX6 32 yX0_init cX0_init 1 0 := ⟨Or.inl tb151, rfl, tb152, tb126, tb153, ⟨by decide +kernel, by decide +kernel, by decide +kernel⟩⟩
theorem tb154 : Cond.methodLink "TreadRing$Heap" 3 (⟨"java/lang/Object", "<init>", "()V"⟩ : MethodName) ∈ az_TB := az_tb (i := 154) (by decide +kernel) (by decide +kernel)
theorem oi_RX0 : Cond.methodLink RX0 3 objectInit ∈ az_TB ∧ Cond.instanceMethod objectInit ∈ az_TB ∧ Cond.code objectInit ⟨#[0xb1]⟩ 1 none ∈ az_TB := ⟨tb154, tb146, tb147⟩
theorem tb127 : Cond.initialized "TreadRing$Rings" ∈ az_TB := az_tb (i := 127) (by decide +kernel) (by decide +kernel)
theorem tb157 : Cond.methodLink "TreadRing$Heap" 11 (⟨"TreadRing$Rings", "<init>", "()V"⟩ : MethodName) ∈ az_TB := az_tb (i := 157) (by decide +kernel) (by decide +kernel)
theorem tb158 : Cond.instanceMethod (⟨"TreadRing$Rings", "<init>", "()V"⟩ : MethodName) ∈ az_TB := az_tb (i := 158) (by decide +kernel) (by decide +kernel)
theorem tb159 : Cond.code (⟨"TreadRing$Rings", "<init>", "()V"⟩ : MethodName) prog_5_method_1_code 1 (Option.none : Option Jvm.ClassFile.FieldType) ∈ az_TB := az_tb (i := 159) (by decide +kernel) (by decide +kernel)
theorem ml_RX0_11 : az_MI RX0 11 yX3_init cX3_init 1 0 := ⟨Or.inl tb157, rfl, tb158, tb127, tb159, ⟨by decide +kernel, by decide +kernel, by decide +kernel⟩⟩
theorem tb160 : Cond.methodLink "TreadRing$Rings" 3 (⟨"java/lang/Object", "<init>", "()V"⟩ : MethodName) ∈ az_TB := az_tb (i := 160) (by decide +kernel) (by decide +kernel)
theorem oi_RX3 : Cond.methodLink RX3 3 objectInit ∈ az_TB ∧ Cond.instanceMethod objectInit ∈ az_TB ∧ Cond.code objectInit ⟨#[0xb1]⟩ 1 none ∈ az_TB := ⟨tb160, tb146, tb147⟩
theorem tb161 : Cond.methodLink "TreadRing$Rings" 24 (⟨"TreadRing$Rings", "clear", "()V"⟩ : MethodName) ∈ az_TB := az_tb (i := 161) (by decide +kernel) (by decide +kernel)
theorem tb162 : Cond.instanceMethod (⟨"TreadRing$Rings", "clear", "()V"⟩ : MethodName) ∈ az_TB := az_tb (i := 162) (by decide +kernel) (by decide +kernel)
theorem tb163 : Cond.selects "TreadRing$Rings" (⟨"TreadRing$Rings", "clear", "()V"⟩ : MethodName) (⟨"TreadRing$Rings", "clear", "()V"⟩ : MethodName) ∈ az_TB := az_tb (i := 163) (by decide +kernel) (by decide +kernel)
theorem tb164 : Cond.code (⟨"TreadRing$Rings", "clear", "()V"⟩ : MethodName) prog_5_method_3_code 2 (Option.none : Option Jvm.ClassFile.FieldType) ∈ az_TB := az_tb (i := 164) (by decide +kernel) (by decide +kernel)
theorem ml_RX3_24 : az_MV RX3 24 yX3_clear cX3_clear 2 (Option.none : Option Jvm.ClassFile.FieldType) 0 := ⟨Or.inl tb161, tb162, tb163, tb127, tb164, ⟨by decide +kernel, by decide +kernel, by decide +kernel⟩⟩
theorem tb128 : Cond.initialized "java/util/Arrays" ∈ az_TB := az_tb (i := 128) (by decide +kernel) (by decide +kernel)
theorem tb165 : Cond.methodLink "TreadRing$Rings" 27 (⟨"java/util/Arrays", "fill", "([II)V"⟩ : MethodName) ∈ az_TB := az_tb (i := 165) (by decide +kernel) (by decide +kernel)
theorem tb166 : Cond.static (⟨"java/util/Arrays", "fill", "([II)V"⟩ : MethodName) ∈ az_TB := az_tb (i := 166) (by decide +kernel) (by decide +kernel)
theorem tb167 : Cond.code (⟨"java/util/Arrays", "fill", "([II)V"⟩ : MethodName) prog_15_method_103_code 4 (Option.none : Option Jvm.ClassFile.FieldType) ∈ az_TB := az_tb (i := 167) (by decide +kernel) (by decide +kernel)
theorem ml_RX3_27 : az_MS RX3 27 yJ7_fill_53178 cJ7_fill_53178 4 (Option.none : Option Jvm.ClassFile.FieldType) 2 := ⟨tb165, tb166, tb128, tb167, ⟨by decide +kernel, by decide +kernel, by decide +kernel⟩⟩
theorem tb183 : Cond.methodLink "TreadRing$Heap" 46 (⟨"TreadRing$Heap", "clear", "(I)V"⟩ : MethodName) ∈ az_TB := az_tb (i := 183) (by decide +kernel) (by decide +kernel)
theorem tb184 : Cond.instanceMethod (⟨"TreadRing$Heap", "clear", "(I)V"⟩ : MethodName) ∈ az_TB := az_tb (i := 184) (by decide +kernel) (by decide +kernel)
theorem tb185 : Cond.selects "TreadRing$Heap" (⟨"TreadRing$Heap", "clear", "(I)V"⟩ : MethodName) (⟨"TreadRing$Heap", "clear", "(I)V"⟩ : MethodName) ∈ az_TB := az_tb (i := 185) (by decide +kernel) (by decide +kernel)
theorem tb186 : Cond.code (⟨"TreadRing$Heap", "clear", "(I)V"⟩ : MethodName) prog_2_method_2_code 2 (Option.none : Option Jvm.ClassFile.FieldType) ∈ az_TB := az_tb (i := 186) (by decide +kernel) (by decide +kernel)
theorem ml_RX0_46 : az_MV RX0 46 yX0_clear cX0_clear 2 (Option.none : Option Jvm.ClassFile.FieldType) 1 := ⟨Or.inl tb183, tb184, tb185, tb126, tb186, ⟨by decide +kernel, by decide +kernel, by decide +kernel⟩⟩
theorem tb187 : Cond.methodLink "TreadRing$Heap" 50 (⟨"TreadRing$Rings", "clear", "()V"⟩ : MethodName) ∈ az_TB := az_tb (i := 187) (by decide +kernel) (by decide +kernel)
theorem ml_RX0_50 : az_MV RX0 50 yX3_clear cX3_clear 2 (Option.none : Option Jvm.ClassFile.FieldType) 0 := ⟨Or.inl tb187, tb162, tb163, tb127, tb164, ⟨by decide +kernel, by decide +kernel, by decide +kernel⟩⟩
theorem tb188 : Cond.methodLink "TreadRing$Heap" 52 (⟨"java/util/Arrays", "fill", "([II)V"⟩ : MethodName) ∈ az_TB := az_tb (i := 188) (by decide +kernel) (by decide +kernel)
theorem ml_RX0_52 : az_MS RX0 52 yJ7_fill_53178 cJ7_fill_53178 4 (Option.none : Option Jvm.ClassFile.FieldType) 2 := ⟨tb188, tb166, tb128, tb167, ⟨by decide +kernel, by decide +kernel, by decide +kernel⟩⟩
theorem tb129 : Cond.initialized "TreadRing$Reach" ∈ az_TB := az_tb (i := 129) (by decide +kernel) (by decide +kernel)
theorem tb257 : Cond.instanceMethod (⟨"TreadRing$Reach", "<init>", "()V"⟩ : MethodName) ∈ az_TB := az_tb (i := 257) (by decide +kernel) (by decide +kernel)
theorem tb258 : Cond.code (⟨"TreadRing$Reach", "<init>", "()V"⟩ : MethodName) prog_3_method_1_code 1 (Option.none : Option Jvm.ClassFile.FieldType) ∈ az_TB := az_tb (i := 258) (by decide +kernel) (by decide +kernel)
theorem ml_RX6_43 : az_MI RX6 43 yX1_init cX1_init 1 0 := ⟨Or.inr ⟨"TreadRing", az_nw_mem (i := 132) (by decide +kernel) rfl⟩, rfl, tb257, tb129, tb258, ⟨by decide +kernel, by decide +kernel, by decide +kernel⟩⟩
theorem tb259 : Cond.methodLink "TreadRing$Reach" 3 (⟨"java/lang/Object", "<init>", "()V"⟩ : MethodName) ∈ az_TB := az_tb (i := 259) (by decide +kernel) (by decide +kernel)
theorem oi_RX1 : Cond.methodLink RX1 3 objectInit ∈ az_TB ∧ Cond.instanceMethod objectInit ∈ az_TB ∧ Cond.code objectInit ⟨#[0xb1]⟩ 1 none ∈ az_TB := ⟨tb259, tb146, tb147⟩
theorem tb130 : Cond.initialized "TreadRing$Reader" ∈ az_TB := az_tb (i := 130) (by decide +kernel) (by decide +kernel)
theorem tb275 : Cond.instanceMethod (⟨"TreadRing$Reader", "<init>", "()V"⟩ : MethodName) ∈ az_TB := az_tb (i := 275) (by decide +kernel) (by decide +kernel)
theorem tb276 : Cond.code (⟨"TreadRing$Reader", "<init>", "()V"⟩ : MethodName) prog_4_method_1_code 1 (Option.none : Option Jvm.ClassFile.FieldType) ∈ az_TB := az_tb (i := 276) (by decide +kernel) (by decide +kernel)
theorem ml_RX6_56 : az_MI RX6 56 yX2_init cX2_init 1 0 := ⟨Or.inr ⟨"TreadRing", az_nw_mem (i := 150) (by decide +kernel) rfl⟩, rfl, tb275, tb130, tb276, ⟨by decide +kernel, by decide +kernel, by decide +kernel⟩⟩
theorem tb277 : Cond.methodLink "TreadRing$Reader" 3 (⟨"java/lang/Object", "<init>", "()V"⟩ : MethodName) ∈ az_TB := az_tb (i := 277) (by decide +kernel) (by decide +kernel)
theorem oi_RX2 : Cond.methodLink RX2 3 objectInit ∈ az_TB ∧ Cond.instanceMethod objectInit ∈ az_TB ∧ Cond.code objectInit ⟨#[0xb1]⟩ 1 none ∈ az_TB := ⟨tb277, tb146, tb147⟩
theorem tb131 : Cond.initialized "TreadRing$Script" ∈ az_TB := az_tb (i := 131) (by decide +kernel) (by decide +kernel)
theorem tb281 : Cond.instanceMethod (⟨"TreadRing$Script", "<init>", "()V"⟩ : MethodName) ∈ az_TB := az_tb (i := 281) (by decide +kernel) (by decide +kernel)
theorem tb282 : Cond.code (⟨"TreadRing$Script", "<init>", "()V"⟩ : MethodName) prog_7_method_1_code 1 (Option.none : Option Jvm.ClassFile.FieldType) ∈ az_TB := az_tb (i := 282) (by decide +kernel) (by decide +kernel)
theorem ml_RX2_27 : az_MI RX2 27 yX5_init cX5_init 1 0 := ⟨Or.inr ⟨"TreadRing", az_nw_mem (i := 156) (by decide +kernel) rfl⟩, rfl, tb281, tb131, tb282, ⟨by decide +kernel, by decide +kernel, by decide +kernel⟩⟩
theorem tb283 : Cond.methodLink "TreadRing$Script" 3 (⟨"java/lang/Object", "<init>", "()V"⟩ : MethodName) ∈ az_TB := az_tb (i := 283) (by decide +kernel) (by decide +kernel)
theorem oi_RX5 : Cond.methodLink RX5 3 objectInit ∈ az_TB ∧ Cond.instanceMethod objectInit ∈ az_TB ∧ Cond.code objectInit ⟨#[0xb1]⟩ 1 none ∈ az_TB := ⟨tb283, tb146, tb147⟩
theorem ml_RX6_63 : az_MI RX6 63 yX5_init cX5_init 1 0 := ⟨Or.inr ⟨"TreadRing", az_nw_mem (i := 218) (by decide +kernel) rfl⟩, rfl, tb281, tb131, tb282, ⟨by decide +kernel, by decide +kernel, by decide +kernel⟩⟩
theorem tb132 : Cond.initialized "TreadRing$Runner" ∈ az_TB := az_tb (i := 132) (by decide +kernel) (by decide +kernel)
theorem tb345 : Cond.methodLink "TreadRing" 73 (⟨"TreadRing$Runner", "<init>", "(LTreadRing$Heap;LTreadRing$Script;)V"⟩ : MethodName) ∈ az_TB := az_tb (i := 345) (by decide +kernel) (by decide +kernel)
theorem tb346 : Cond.instanceMethod (⟨"TreadRing$Runner", "<init>", "(LTreadRing$Heap;LTreadRing$Script;)V"⟩ : MethodName) ∈ az_TB := az_tb (i := 346) (by decide +kernel) (by decide +kernel)
theorem tb347 : Cond.code (⟨"TreadRing$Runner", "<init>", "(LTreadRing$Heap;LTreadRing$Script;)V"⟩ : MethodName) prog_6_method_1_code 3 (Option.none : Option Jvm.ClassFile.FieldType) ∈ az_TB := az_tb (i := 347) (by decide +kernel) (by decide +kernel)
theorem ml_RX6_73 : az_MI RX6 73 yX4_init cX4_init 3 2 := ⟨Or.inl tb345, rfl, tb346, tb132, tb347, ⟨by decide +kernel, by decide +kernel, by decide +kernel⟩⟩
theorem tb348 : Cond.methodLink "TreadRing$Runner" 3 (⟨"java/lang/Object", "<init>", "()V"⟩ : MethodName) ∈ az_TB := az_tb (i := 348) (by decide +kernel) (by decide +kernel)
theorem oi_RX4 : Cond.methodLink RX4 3 objectInit ∈ az_TB ∧ Cond.instanceMethod objectInit ∈ az_TB ∧ Cond.code objectInit ⟨#[0xb1]⟩ 1 none ∈ az_TB := ⟨tb348, tb146, tb147⟩
theorem tb409 : Cond.methodLink "TreadRingLaw" 13 (⟨"TreadRing", "open", "(I)Z"⟩ : MethodName) ∈ az_TB := az_tb (i := 409) (by decide +kernel) (by decide +kernel)
theorem tb410 : Cond.instanceMethod (⟨"TreadRing", "open", "(I)Z"⟩ : MethodName) ∈ az_TB := az_tb (i := 410) (by decide +kernel) (by decide +kernel)
theorem tb411 : Cond.selects "TreadRing" (⟨"TreadRing", "open", "(I)Z"⟩ : MethodName) (⟨"TreadRing", "open", "(I)Z"⟩ : MethodName) ∈ az_TB := az_tb (i := 411) (by decide +kernel) (by decide +kernel)
theorem tb412 : Cond.code (⟨"TreadRing", "open", "(I)Z"⟩ : MethodName) prog_1_method_2_code 2 (Option.some .boolean) ∈ az_TB := az_tb (i := 412) (by decide +kernel) (by decide +kernel)
theorem ml_RL_13 : az_MV RL 13 yX6_open cX6_open 2 (Option.some .boolean) 1 := ⟨Or.inl tb409, tb410, tb411, tb125, tb412, ⟨by decide +kernel, by decide +kernel, by decide +kernel⟩⟩
theorem tb413 : Cond.methodLink "TreadRing" 80 (⟨"TreadRing", "heap", "()LTreadRing$Heap;"⟩ : MethodName) ∈ az_TB := az_tb (i := 413) (by decide +kernel) (by decide +kernel)
theorem tb415 : Cond.instanceMethod (⟨"TreadRing", "heap", "()LTreadRing$Heap;"⟩ : MethodName) ∈ az_TB := az_tb (i := 415) (by decide +kernel) (by decide +kernel)
theorem tb0 : Cond.selects "TreadRing" (⟨"TreadRing", "heap", "()LTreadRing$Heap;"⟩ : MethodName) (⟨"TreadRing", "heap", "()LTreadRing$Heap;"⟩ : MethodName) ∈ az_TB := az_tb (i := 0) (by decide +kernel) (by decide +kernel)
theorem tb416 : Cond.code (⟨"TreadRing", "heap", "()LTreadRing$Heap;"⟩ : MethodName) prog_1_method_42_code 1 (Option.some (.object "TreadRing$Heap")) ∈ az_TB := az_tb (i := 416) (by decide +kernel) (by decide +kernel)
theorem ml_RX6_80 : az_MV RX6 80 yX6_heap cX6_heap 1 (Option.some (.object "TreadRing$Heap")) 0 := ⟨Or.inl tb413, tb415, tb0, tb125, tb416, ⟨by decide +kernel, by decide +kernel, by decide +kernel⟩⟩
theorem tb417 : Cond.methodLink "TreadRing" 84 (⟨"TreadRing$Heap", "clear", "(I)V"⟩ : MethodName) ∈ az_TB := az_tb (i := 417) (by decide +kernel) (by decide +kernel)
theorem ml_RX6_84 : az_MV RX6 84 yX0_clear cX0_clear 2 (Option.none : Option Jvm.ClassFile.FieldType) 1 := ⟨Or.inl tb417, tb184, tb185, tb126, tb186, ⟨by decide +kernel, by decide +kernel, by decide +kernel⟩⟩
theorem tb418 : Cond.methodLink "TreadRing" 88 (⟨"TreadRing", "forgetActs", "()V"⟩ : MethodName) ∈ az_TB := az_tb (i := 418) (by decide +kernel) (by decide +kernel)
theorem tb420 : Cond.instanceMethod (⟨"TreadRing", "forgetActs", "()V"⟩ : MethodName) ∈ az_TB := az_tb (i := 420) (by decide +kernel) (by decide +kernel)
theorem tb1 : Cond.selects "TreadRing" (⟨"TreadRing", "forgetActs", "()V"⟩ : MethodName) (⟨"TreadRing", "forgetActs", "()V"⟩ : MethodName) ∈ az_TB := az_tb (i := 1) (by decide +kernel) (by decide +kernel)
theorem tb421 : Cond.code (⟨"TreadRing", "forgetActs", "()V"⟩ : MethodName) prog_1_method_44_code 1 (Option.none : Option Jvm.ClassFile.FieldType) ∈ az_TB := az_tb (i := 421) (by decide +kernel) (by decide +kernel)
theorem ml_RX6_88 : az_MV RX6 88 yX6_forgetActs cX6_forgetActs 1 (Option.none : Option Jvm.ClassFile.FieldType) 0 := ⟨Or.inl tb418, tb420, tb1, tb125, tb421, ⟨by decide +kernel, by decide +kernel, by decide +kernel⟩⟩
theorem tb422 : Cond.methodLink "TreadRingLaw" 18 (⟨"TreadRing", "make", "(II)I"⟩ : MethodName) ∈ az_TB := az_tb (i := 422) (by decide +kernel) (by decide +kernel)
theorem tb423 : Cond.instanceMethod (⟨"TreadRing", "make", "(II)I"⟩ : MethodName) ∈ az_TB := az_tb (i := 423) (by decide +kernel) (by decide +kernel)
theorem tb424 : Cond.selects "TreadRing" (⟨"TreadRing", "make", "(II)I"⟩ : MethodName) (⟨"TreadRing", "make", "(II)I"⟩ : MethodName) ∈ az_TB := az_tb (i := 424) (by decide +kernel) (by decide +kernel)
theorem tb425 : Cond.code (⟨"TreadRing", "make", "(II)I"⟩ : MethodName) prog_1_method_3_code 3 (Option.some .int) ∈ az_TB := az_tb (i := 425) (by decide +kernel) (by decide +kernel)
theorem ml_RL_18 : az_MV RL 18 yX6_make cX6_make 3 (Option.some .int) 2 := ⟨Or.inl tb422, tb423, tb424, tb125, tb425, ⟨by decide +kernel, by decide +kernel, by decide +kernel⟩⟩
theorem tb426 : Cond.methodLink "TreadRing" 91 (⟨"TreadRing", "isRoot", "(I)Z"⟩ : MethodName) ∈ az_TB := az_tb (i := 426) (by decide +kernel) (by decide +kernel)
theorem tb427 : Cond.static (⟨"TreadRing", "isRoot", "(I)Z"⟩ : MethodName) ∈ az_TB := az_tb (i := 427) (by decide +kernel) (by decide +kernel)
theorem tb428 : Cond.code (⟨"TreadRing", "isRoot", "(I)Z"⟩ : MethodName) prog_1_method_54_code 1 (Option.some .boolean) ∈ az_TB := az_tb (i := 428) (by decide +kernel) (by decide +kernel)
theorem ml_RX6_91 : az_MS RX6 91 yX6_isRoot cX6_isRoot 1 (Option.some .boolean) 1 := ⟨tb426, tb427, tb125, tb428, ⟨by decide +kernel, by decide +kernel, by decide +kernel⟩⟩
theorem tb429 : Cond.methodLink "TreadRing" 95 (⟨"TreadRing", "isFieldCount", "(I)Z"⟩ : MethodName) ∈ az_TB := az_tb (i := 429) (by decide +kernel) (by decide +kernel)
theorem tb430 : Cond.static (⟨"TreadRing", "isFieldCount", "(I)Z"⟩ : MethodName) ∈ az_TB := az_tb (i := 430) (by decide +kernel) (by decide +kernel)
theorem tb431 : Cond.code (⟨"TreadRing", "isFieldCount", "(I)Z"⟩ : MethodName) prog_1_method_57_code 1 (Option.some .boolean) ∈ az_TB := az_tb (i := 431) (by decide +kernel) (by decide +kernel)
theorem ml_RX6_95 : az_MS RX6 95 yX6_isFieldCount cX6_isFieldCount 1 (Option.some .boolean) 1 := ⟨tb429, tb430, tb125, tb431, ⟨by decide +kernel, by decide +kernel, by decide +kernel⟩⟩
theorem tb432 : Cond.methodLink "TreadRing" 98 (⟨"TreadRing", "act", "()LTreadRing$Heap;"⟩ : MethodName) ∈ az_TB := az_tb (i := 432) (by decide +kernel) (by decide +kernel)
theorem tb434 : Cond.instanceMethod (⟨"TreadRing", "act", "()LTreadRing$Heap;"⟩ : MethodName) ∈ az_TB := az_tb (i := 434) (by decide +kernel) (by decide +kernel)
theorem tb2 : Cond.selects "TreadRing" (⟨"TreadRing", "act", "()LTreadRing$Heap;"⟩ : MethodName) (⟨"TreadRing", "act", "()LTreadRing$Heap;"⟩ : MethodName) ∈ az_TB := az_tb (i := 2) (by decide +kernel) (by decide +kernel)
theorem tb435 : Cond.code (⟨"TreadRing", "act", "()LTreadRing$Heap;"⟩ : MethodName) prog_1_method_43_code 2 (Option.some (.object "TreadRing$Heap")) ∈ az_TB := az_tb (i := 435) (by decide +kernel) (by decide +kernel)
theorem ml_RX6_98 : az_MV RX6 98 yX6_act cX6_act 2 (Option.some (.object "TreadRing$Heap")) 0 := ⟨Or.inl tb432, tb434, tb2, tb125, tb435, ⟨by decide +kernel, by decide +kernel, by decide +kernel⟩⟩
theorem tb436 : Cond.methodLink "TreadRing" 198 (⟨"TreadRing$Heap", "become", "(LTreadRing$Heap;)V"⟩ : MethodName) ∈ az_TB := az_tb (i := 436) (by decide +kernel) (by decide +kernel)
theorem tb437 : Cond.instanceMethod (⟨"TreadRing$Heap", "become", "(LTreadRing$Heap;)V"⟩ : MethodName) ∈ az_TB := az_tb (i := 437) (by decide +kernel) (by decide +kernel)
theorem tb438 : Cond.selects "TreadRing$Heap" (⟨"TreadRing$Heap", "become", "(LTreadRing$Heap;)V"⟩ : MethodName) (⟨"TreadRing$Heap", "become", "(LTreadRing$Heap;)V"⟩ : MethodName) ∈ az_TB := az_tb (i := 438) (by decide +kernel) (by decide +kernel)
theorem tb439 : Cond.code (⟨"TreadRing$Heap", "become", "(LTreadRing$Heap;)V"⟩ : MethodName) prog_2_method_3_code 2 (Option.none : Option Jvm.ClassFile.FieldType) ∈ az_TB := az_tb (i := 439) (by decide +kernel) (by decide +kernel)
theorem ml_RX6_198 : az_MV RX6 198 yX0_become cX0_become 2 (Option.none : Option Jvm.ClassFile.FieldType) 1 := ⟨Or.inl tb436, tb437, tb438, tb126, tb439, ⟨by decide +kernel, by decide +kernel, by decide +kernel⟩⟩
theorem tb440 : Cond.methodLink "TreadRing$Heap" 78 (⟨"TreadRing$Rings", "become", "(LTreadRing$Rings;)V"⟩ : MethodName) ∈ az_TB := az_tb (i := 440) (by decide +kernel) (by decide +kernel)
theorem tb441 : Cond.instanceMethod (⟨"TreadRing$Rings", "become", "(LTreadRing$Rings;)V"⟩ : MethodName) ∈ az_TB := az_tb (i := 441) (by decide +kernel) (by decide +kernel)
theorem tb442 : Cond.selects "TreadRing$Rings" (⟨"TreadRing$Rings", "become", "(LTreadRing$Rings;)V"⟩ : MethodName) (⟨"TreadRing$Rings", "become", "(LTreadRing$Rings;)V"⟩ : MethodName) ∈ az_TB := az_tb (i := 442) (by decide +kernel) (by decide +kernel)
theorem tb443 : Cond.code (⟨"TreadRing$Rings", "become", "(LTreadRing$Rings;)V"⟩ : MethodName) prog_5_method_4_code 2 (Option.none : Option Jvm.ClassFile.FieldType) ∈ az_TB := az_tb (i := 443) (by decide +kernel) (by decide +kernel)
theorem ml_RX0_78 : az_MV RX0 78 yX3_become cX3_become 2 (Option.none : Option Jvm.ClassFile.FieldType) 1 := ⟨Or.inl tb440, tb441, tb442, tb127, tb443, ⟨by decide +kernel, by decide +kernel, by decide +kernel⟩⟩
theorem tb444 : Cond.methodLink "TreadRing$Rings" 33 (⟨"java/lang/System", "arraycopy", "(Ljava/lang/Object;ILjava/lang/Object;II)V"⟩ : MethodName) ∈ az_TB := az_tb (i := 444) (by decide +kernel) (by decide +kernel)
theorem tb446 : Cond.native (⟨"java/lang/System", "arraycopy", "(Ljava/lang/Object;ILjava/lang/Object;II)V"⟩ : MethodName) ∈ az_TB := az_tb (i := 446) (by decide +kernel) (by decide +kernel)
theorem tb445 : Cond.static (⟨"java/lang/System", "arraycopy", "(Ljava/lang/Object;ILjava/lang/Object;II)V"⟩ : MethodName) ∈ az_TB := az_tb (i := 445) (by decide +kernel) (by decide +kernel)
theorem tb134 : Cond.initialized "java/lang/System" ∈ az_TB := az_tb (i := 134) (by decide +kernel) (by decide +kernel)
theorem cp_RX3_33 : Cond.methodLink RX3 33 arraycopyName ∈ az_TB ∧ Cond.native arraycopyName ∈ az_TB ∧ Cond.static arraycopyName ∈ az_TB ∧ Cond.initialized "java/lang/System" ∈ az_TB := ⟨tb444, tb446, tb445, tb134⟩
theorem tb447 : Cond.methodLink "TreadRing$Heap" 82 (⟨"java/lang/System", "arraycopy", "(Ljava/lang/Object;ILjava/lang/Object;II)V"⟩ : MethodName) ∈ az_TB := az_tb (i := 447) (by decide +kernel) (by decide +kernel)
theorem cp_RX0_82 : Cond.methodLink RX0 82 arraycopyName ∈ az_TB ∧ Cond.native arraycopyName ∈ az_TB ∧ Cond.static arraycopyName ∈ az_TB ∧ Cond.initialized "java/lang/System" ∈ az_TB := ⟨tb447, tb446, tb445, tb134⟩
theorem tb135 : Cond.initialized "java/lang/Math" ∈ az_TB := az_tb (i := 135) (by decide +kernel) (by decide +kernel)
theorem tb448 : Cond.methodLink "TreadRing" 292 (⟨"java/lang/Math", "min", "(II)I"⟩ : MethodName) ∈ az_TB := az_tb (i := 448) (by decide +kernel) (by decide +kernel)
theorem tb449 : Cond.static (⟨"java/lang/Math", "min", "(II)I"⟩ : MethodName) ∈ az_TB := az_tb (i := 449) (by decide +kernel) (by decide +kernel)
theorem tb450 : Cond.code (⟨"java/lang/Math", "min", "(II)I"⟩ : MethodName) prog_10_method_69_code 2 (Option.some .int) ∈ az_TB := az_tb (i := 450) (by decide +kernel) (by decide +kernel)
theorem ml_RX6_292 : az_MS RX6 292 yJ9_min_7cf53 cJ9_min_7cf53 2 (Option.some .int) 2 := ⟨tb448, tb449, tb135, tb450, ⟨by decide +kernel, by decide +kernel, by decide +kernel⟩⟩
theorem tb451 : Cond.methodLink "TreadRing" 101 (⟨"TreadRing$Heap", "build", "(II)I"⟩ : MethodName) ∈ az_TB := az_tb (i := 451) (by decide +kernel) (by decide +kernel)
theorem tb452 : Cond.instanceMethod (⟨"TreadRing$Heap", "build", "(II)I"⟩ : MethodName) ∈ az_TB := az_tb (i := 452) (by decide +kernel) (by decide +kernel)
theorem tb453 : Cond.selects "TreadRing$Heap" (⟨"TreadRing$Heap", "build", "(II)I"⟩ : MethodName) (⟨"TreadRing$Heap", "build", "(II)I"⟩ : MethodName) ∈ az_TB := az_tb (i := 453) (by decide +kernel) (by decide +kernel)
theorem tb454 : Cond.code (⟨"TreadRing$Heap", "build", "(II)I"⟩ : MethodName) prog_2_method_16_code 5 (Option.some .int) ∈ az_TB := az_tb (i := 454) (by decide +kernel) (by decide +kernel)
theorem ml_RX6_101 : az_MV RX6 101 yX0_build cX0_build 5 (Option.some .int) 2 := ⟨Or.inl tb451, tb452, tb453, tb126, tb454, ⟨by decide +kernel, by decide +kernel, by decide +kernel⟩⟩
theorem tb455 : Cond.methodLink "TreadRing$Heap" 134 (⟨"TreadRing$Heap", "advance", "(I)I"⟩ : MethodName) ∈ az_TB := az_tb (i := 455) (by decide +kernel) (by decide +kernel)
theorem tb456 : Cond.instanceMethod (⟨"TreadRing$Heap", "advance", "(I)I"⟩ : MethodName) ∈ az_TB := az_tb (i := 456) (by decide +kernel) (by decide +kernel)
theorem tb457 : Cond.selects "TreadRing$Heap" (⟨"TreadRing$Heap", "advance", "(I)I"⟩ : MethodName) (⟨"TreadRing$Heap", "advance", "(I)I"⟩ : MethodName) ∈ az_TB := az_tb (i := 457) (by decide +kernel) (by decide +kernel)
theorem tb458 : Cond.code (⟨"TreadRing$Heap", "advance", "(I)I"⟩ : MethodName) prog_2_method_11_code 3 (Option.some .int) ∈ az_TB := az_tb (i := 458) (by decide +kernel) (by decide +kernel)
theorem ml_RX0_134 : az_MV RX0 134 yX0_advance cX0_advance 3 (Option.some .int) 1 := ⟨Or.inl tb455, tb456, tb457, tb126, tb458, ⟨by decide +kernel, by decide +kernel, by decide +kernel⟩⟩
theorem tb459 : Cond.methodLink "TreadRing$Heap" 119 (⟨"TreadRing$Heap", "take", "()V"⟩ : MethodName) ∈ az_TB := az_tb (i := 459) (by decide +kernel) (by decide +kernel)
theorem tb461 : Cond.instanceMethod (⟨"TreadRing$Heap", "take", "()V"⟩ : MethodName) ∈ az_TB := az_tb (i := 461) (by decide +kernel) (by decide +kernel)
theorem tb3 : Cond.selects "TreadRing$Heap" (⟨"TreadRing$Heap", "take", "()V"⟩ : MethodName) (⟨"TreadRing$Heap", "take", "()V"⟩ : MethodName) ∈ az_TB := az_tb (i := 3) (by decide +kernel) (by decide +kernel)
theorem tb462 : Cond.code (⟨"TreadRing$Heap", "take", "()V"⟩ : MethodName) prog_2_method_12_code 3 (Option.none : Option Jvm.ClassFile.FieldType) ∈ az_TB := az_tb (i := 462) (by decide +kernel) (by decide +kernel)
theorem ml_RX0_119 : az_MV RX0 119 yX0_take cX0_take 3 (Option.none : Option Jvm.ClassFile.FieldType) 0 := ⟨Or.inl tb459, tb461, tb3, tb126, tb462, ⟨by decide +kernel, by decide +kernel, by decide +kernel⟩⟩
theorem tb463 : Cond.methodLink "TreadRing$Heap" 122 (⟨"TreadRing$Heap", "goesAhead", "(II)Z"⟩ : MethodName) ∈ az_TB := az_tb (i := 463) (by decide +kernel) (by decide +kernel)
theorem tb465 : Cond.instanceMethod (⟨"TreadRing$Heap", "goesAhead", "(II)Z"⟩ : MethodName) ∈ az_TB := az_tb (i := 465) (by decide +kernel) (by decide +kernel)
theorem tb4 : Cond.selects "TreadRing$Heap" (⟨"TreadRing$Heap", "goesAhead", "(II)Z"⟩ : MethodName) (⟨"TreadRing$Heap", "goesAhead", "(II)Z"⟩ : MethodName) ∈ az_TB := az_tb (i := 4) (by decide +kernel) (by decide +kernel)
theorem tb466 : Cond.code (⟨"TreadRing$Heap", "goesAhead", "(II)Z"⟩ : MethodName) prog_2_method_13_code 5 (Option.some .boolean) ∈ az_TB := az_tb (i := 466) (by decide +kernel) (by decide +kernel)
theorem ml_RX0_122 : az_MV RX0 122 yX0_goesAhead cX0_goesAhead 5 (Option.some .boolean) 2 := ⟨Or.inl tb463, tb465, tb4, tb126, tb466, ⟨by decide +kernel, by decide +kernel, by decide +kernel⟩⟩
theorem tb467 : Cond.methodLink "TreadRing$Heap" 109 (⟨"TreadRing$Heap", "shade", "([III)V"⟩ : MethodName) ∈ az_TB := az_tb (i := 467) (by decide +kernel) (by decide +kernel)
theorem tb469 : Cond.instanceMethod (⟨"TreadRing$Heap", "shade", "([III)V"⟩ : MethodName) ∈ az_TB := az_tb (i := 469) (by decide +kernel) (by decide +kernel)
theorem tb5 : Cond.selects "TreadRing$Heap" (⟨"TreadRing$Heap", "shade", "([III)V"⟩ : MethodName) (⟨"TreadRing$Heap", "shade", "([III)V"⟩ : MethodName) ∈ az_TB := az_tb (i := 5) (by decide +kernel) (by decide +kernel)
theorem tb470 : Cond.code (⟨"TreadRing$Heap", "shade", "([III)V"⟩ : MethodName) prog_2_method_10_code 6 (Option.none : Option Jvm.ClassFile.FieldType) ∈ az_TB := az_tb (i := 470) (by decide +kernel) (by decide +kernel)
