/-! the law's cases -/
section LAWC
variable {p : Program} {l : Launch} {e : Env} {s : State} {m : MethodId} {args : Array Value} {below : List Frame} {meth : Method} {c : Code} {H : Heap} {locs : List Loc} {cells slots : Nat} {Q : State → Prop} {ls : Array Slot}
variable {D : va_G} {cI cZ cJ cW cP : ClassId} {ad : AD} {A : Nat → Prop} {b L : Nat} {xs : Nat → Int32} {n qo : Nat} {w : PW} {f : Nat → Int64}
def LK (p : Program) (l : Launch) (e : Env) (s : State) (m : MethodId) (args : Array Value) (below : List Frame) (meth : Method) (c : Code) (cells slots : Nat) (Q : State → Prop) (D : va_G) (cI cZ cJ cW cP : ClassId) (ad : AD) (A : Nat → Prop) (b n qo : Nat) : Prop :=
  ∀ (w2 : PW) (f2 : Nat → Int64) (H2 : Heap) (locs2 : List Loc) (ls2 : Array Slot), Inv (n + 1) w2 → va_P D vwCl (wsOf ad cI cZ cJ cW cP w2 ++ [(qo, .inl (cJ, 1, .inr (.inl f2)))]) H2 → va_D A (wsOf ad cI cZ cJ cW cP w2 ++ [(qo, .inl (cJ, 1, .inr (.inl f2)))]) → va_S A s.heap H2 locs2 → lv_has ls2 8 (lvh n b qo ad) → W p l e room_1 s m args below meth c H2 locs2 (cells + 1) (slots + 6) Q (F0 m 1647 ls2 [])
set_option maxHeartbeats 1000000 in
theorem law_c0 (X : LC p s m args c D cI cZ cJ cW cP ad A b L xs) (hi : Inv n w) (hn : n ≤ 600) (hil : 6 * n + 5 < L) (hP : va_P D vwCl (wsOf ad cI cZ cJ cW cP w ++ [(qo, .inl (cJ, 1, .inr (.inl f)))]) H) (hD : va_D A (wsOf ad cI cZ cJ cW cP w ++ [(qo, .inl (cJ, 1, .inr (.inl f)))])) (hS : va_S A s.heap H locs) (hl : lv_has ls 8 (lvh n b qo ad)) (hc : cells + 1 ≤ room_1.cells ∧ slots + 6 ≤ room_1.slots) (kk : LK p l e s m args below meth c cells slots Q D cI cZ cJ cW cP ad A b n qo) : W p l e room_1 s m args below meth c H locs cells slots Q (F0 m 204 ls []) := by
  obtain ⟨hx, hb, hml, hown, hts, hK, hZ, hA, hX, hbl, hbA, h3k⟩ := id X
  refine lv_aload_n hx hb dw_204 rfl (lv_at hl 2 rfl) ?_
  refine law_rd (j := 1) X hS hl hil dw_205 dw_206 dw_208 dw_209 dw_210 (by decide) (by omega) ?_
  refine b_methI (mi := 59) (o := (0, 0)) (as := [vI (xs (6 * n + 1))]) (rest := []) (k := fun x w1 => Cl 115 [vO 0 90, vI (xs (6 * n + 1))] w1 (kI fun y w2 => y = x ∧ Inv (n + 1) w2)) (X := [(qo, .inl (cJ, 1, .inr (.inl f)))]) (own := RL) (cW := cW) (cP := cP) (ad := ad) (o_begin hi) (by decide) (by decide) (Or.inl (by decide)) rfl rfl (by decide) (by decide +kernel) ⟨trivial, trivial⟩ (show 2 ≤ mM 59 by decide) (show 2 = mN 59 by decide) hx hb hml hown hts hK hZ hP hD hS hA (in_gT (List.mem_of_getElem? (i := 521) (by decide +kernel)) rfl) ⟨by decide +kernel, by decide +kernel⟩ hl.1 (Nat.le_of_ble_eq_true rfl) dw_211 ⟨by omega, by omega⟩ (fun x w1 H locs hk hP hD hS => ?_)
  refine lv_aload_n hx hb dw_214 rfl (lv_at hl 3 rfl) ?_
  refine law_rd (j := 1) X hS hl hil dw_215 dw_216 dw_218 dw_219 dw_220 (by decide) (by omega) ?_
  refine b_methI (mi := 115) (o := (0, 90)) (as := [vI (xs (6 * n + 1))]) (rest := [.int x]) (k := fun y w2 => y = x ∧ Inv (n + 1) w2) (X := [(qo, .inl (cJ, 1, .inr (.inl f)))]) (own := RL) (cW := cW) (cP := cP) (ad := ad) (hk) (by decide) (by decide) (Or.inl (by decide)) rfl rfl (by decide) (by decide +kernel) ⟨trivial, trivial⟩ (show 2 ≤ mM 115 by decide) (show 2 = mN 115 by decide) hx hb hml hown hts hK hZ hP hD hS hA (in_gT (List.mem_of_getElem? (i := 1203) (by decide +kernel)) rfl) ⟨by decide +kernel, by decide +kernel⟩ hl.1 (Nat.le_of_ble_eq_true rfl) dw_221 ⟨by omega, by omega⟩ (fun y w2 H locs hk2 hP hD hS => ?_)
  obtain ⟨rfl, hi2⟩ := hk2
  refine lv_icmp_eq (tgt := 1647) hx hb dw_224 (by decide) (fun _ => ?_) (fun h => absurd rfl h)
  exact W.widen (k := cells + 1) (n := slots + 6) (by omega) (by omega) (kk _ _ _ _ _ hi2 hP hD hS hl)
set_option maxHeartbeats 1000000 in
theorem law_c1 (X : LC p s m args c D cI cZ cJ cW cP ad A b L xs) (hi : Inv n w) (hn : n ≤ 600) (hil : 6 * n + 5 < L) (hP : va_P D vwCl (wsOf ad cI cZ cJ cW cP w ++ [(qo, .inl (cJ, 1, .inr (.inl f)))]) H) (hD : va_D A (wsOf ad cI cZ cJ cW cP w ++ [(qo, .inl (cJ, 1, .inr (.inl f)))])) (hS : va_S A s.heap H locs) (hl : lv_has ls 8 (lvh n b qo ad)) (hc : cells + 1 ≤ room_1.cells ∧ slots + 6 ≤ room_1.slots) (kk : LK p l e s m args below meth c cells slots Q D cI cZ cJ cW cP ad A b n qo) : W p l e room_1 s m args below meth c H locs cells slots Q (F0 m 229 ls []) := by
  obtain ⟨hx, hb, hml, hown, hts, hK, hZ, hA, hX, hbl, hbA, h3k⟩ := id X
  refine lv_aload_n hx hb dw_229 rfl (lv_at hl 2 rfl) ?_
  refine law_rd (j := 1) X hS hl hil dw_230 dw_231 dw_233 dw_234 dw_235 (by decide) (by omega) ?_
  refine law_rd (j := 2) X hS hl hil dw_236 dw_237 dw_239 dw_240 dw_241 (by decide) (by omega) ?_
  refine law_rd (j := 3) X hS hl hil dw_242 dw_243 dw_245 dw_246 dw_247 (by decide) (by omega) ?_
  refine law_rd (j := 4) X hS hl hil dw_248 dw_249 dw_251 dw_252 dw_253 (by decide) (by omega) ?_
  refine law_rd (j := 5) X hS hl hil dw_254 dw_255 dw_257 dw_258 dw_259 (by decide) (by omega) ?_
  refine b_methI (mi := 60) (o := (0, 0)) (as := [vI (xs (6 * n + 1)), vI (xs (6 * n + 2)), vI (xs (6 * n + 3)), vI (xs (6 * n + 4)), vI (xs (6 * n + 5))]) (rest := []) (k := fun x w1 => Cl 121 [vO 0 90, vI (xs (6 * n + 1)), vI (xs (6 * n + 2)), vI (xs (6 * n + 3)), vI (xs (6 * n + 4)), vI (xs (6 * n + 5))] w1 (kI fun y w2 => y = x ∧ Inv (n + 1) w2)) (X := [(qo, .inl (cJ, 1, .inr (.inl f)))]) (own := RL) (cW := cW) (cP := cP) (ad := ad) (o_cell hi) (by decide) (by decide) (Or.inl (by decide)) rfl rfl (by decide) (by decide +kernel) ⟨trivial, trivial, trivial, trivial, trivial, trivial⟩ (show 6 ≤ mM 60 by decide) (show 6 = mN 60 by decide) hx hb hml hown hts hK hZ hP hD hS hA (in_gT (List.mem_of_getElem? (i := 528) (by decide +kernel)) rfl) ⟨by decide +kernel, by decide +kernel⟩ hl.1 (Nat.le_of_ble_eq_true rfl) dw_260 ⟨by omega, by omega⟩ (fun x w1 H locs hk hP hD hS => ?_)
  refine lv_aload_n hx hb dw_263 rfl (lv_at hl 3 rfl) ?_
  refine law_rd (j := 1) X hS hl hil dw_264 dw_265 dw_267 dw_268 dw_269 (by decide) (by omega) ?_
  refine law_rd (j := 2) X hS hl hil dw_270 dw_271 dw_273 dw_274 dw_275 (by decide) (by omega) ?_
  refine law_rd (j := 3) X hS hl hil dw_276 dw_277 dw_279 dw_280 dw_281 (by decide) (by omega) ?_
  refine law_rd (j := 4) X hS hl hil dw_282 dw_283 dw_285 dw_286 dw_287 (by decide) (by omega) ?_
  refine law_rd (j := 5) X hS hl hil dw_288 dw_289 dw_291 dw_292 dw_293 (by decide) (by omega) ?_
  refine b_methI (mi := 121) (o := (0, 90)) (as := [vI (xs (6 * n + 1)), vI (xs (6 * n + 2)), vI (xs (6 * n + 3)), vI (xs (6 * n + 4)), vI (xs (6 * n + 5))]) (rest := [.int x]) (k := fun y w2 => y = x ∧ Inv (n + 1) w2) (X := [(qo, .inl (cJ, 1, .inr (.inl f)))]) (own := RL) (cW := cW) (cP := cP) (ad := ad) (hk) (by decide) (by decide) (Or.inl (by decide)) rfl rfl (by decide) (by decide +kernel) ⟨trivial, trivial, trivial, trivial, trivial, trivial⟩ (show 6 ≤ mM 121 by decide) (show 6 = mN 121 by decide) hx hb hml hown hts hK hZ hP hD hS hA (in_gT (List.mem_of_getElem? (i := 1204) (by decide +kernel)) rfl) ⟨by decide +kernel, by decide +kernel⟩ hl.1 (Nat.le_of_ble_eq_true rfl) dw_294 ⟨by omega, by omega⟩ (fun y w2 H locs hk2 hP hD hS => ?_)
  obtain ⟨rfl, hi2⟩ := hk2
  refine lv_icmp_eq (tgt := 1647) hx hb dw_297 (by decide) (fun _ => ?_) (fun h => absurd rfl h)
  exact W.widen (k := cells + 1) (n := slots + 6) (by omega) (by omega) (kk _ _ _ _ _ hi2 hP hD hS hl)
set_option maxHeartbeats 1000000 in
theorem law_c2 (X : LC p s m args c D cI cZ cJ cW cP ad A b L xs) (hi : Inv n w) (hn : n ≤ 600) (hil : 6 * n + 5 < L) (hP : va_P D vwCl (wsOf ad cI cZ cJ cW cP w ++ [(qo, .inl (cJ, 1, .inr (.inl f)))]) H) (hD : va_D A (wsOf ad cI cZ cJ cW cP w ++ [(qo, .inl (cJ, 1, .inr (.inl f)))])) (hS : va_S A s.heap H locs) (hl : lv_has ls 8 (lvh n b qo ad)) (hc : cells + 1 ≤ room_1.cells ∧ slots + 6 ≤ room_1.slots) (kk : LK p l e s m args below meth c cells slots Q D cI cZ cJ cW cP ad A b n qo) : W p l e room_1 s m args below meth c H locs cells slots Q (F0 m 302 ls []) := by
  obtain ⟨hx, hb, hml, hown, hts, hK, hZ, hA, hX, hbl, hbA, h3k⟩ := id X
  refine lv_aload_n hx hb dw_302 rfl (lv_at hl 2 rfl) ?_
  refine law_rd (j := 1) X hS hl hil dw_303 dw_304 dw_306 dw_307 dw_308 (by decide) (by omega) ?_
  refine law_rd (j := 2) X hS hl hil dw_309 dw_310 dw_312 dw_313 dw_314 (by decide) (by omega) ?_
  refine law_rd (j := 3) X hS hl hil dw_315 dw_316 dw_318 dw_319 dw_320 (by decide) (by omega) ?_
  refine b_methI (mi := 61) (o := (0, 0)) (as := [vI (xs (6 * n + 1)), vI (xs (6 * n + 2)), vI (xs (6 * n + 3))]) (rest := []) (k := fun x w1 => Cl 123 [vO 0 90, vI (xs (6 * n + 1)), vI (xs (6 * n + 2)), vI (xs (6 * n + 3))] w1 (kI fun y w2 => y = x ∧ Inv (n + 1) w2)) (X := [(qo, .inl (cJ, 1, .inr (.inl f)))]) (own := RL) (cW := cW) (cP := cP) (ad := ad) (o_fill hi) (by decide) (by decide) (Or.inl (by decide)) rfl rfl (by decide) (by decide +kernel) ⟨trivial, trivial, trivial, trivial⟩ (show 4 ≤ mM 61 by decide) (show 4 = mN 61 by decide) hx hb hml hown hts hK hZ hP hD hS hA (in_gT (List.mem_of_getElem? (i := 542) (by decide +kernel)) rfl) ⟨by decide +kernel, by decide +kernel⟩ hl.1 (Nat.le_of_ble_eq_true rfl) dw_321 ⟨by omega, by omega⟩ (fun x w1 H locs hk hP hD hS => ?_)
  refine lv_aload_n hx hb dw_324 rfl (lv_at hl 3 rfl) ?_
  refine law_rd (j := 1) X hS hl hil dw_325 dw_326 dw_328 dw_329 dw_330 (by decide) (by omega) ?_
  refine law_rd (j := 2) X hS hl hil dw_331 dw_332 dw_334 dw_335 dw_336 (by decide) (by omega) ?_
  refine law_rd (j := 3) X hS hl hil dw_337 dw_338 dw_340 dw_341 dw_342 (by decide) (by omega) ?_
  refine b_methI (mi := 123) (o := (0, 90)) (as := [vI (xs (6 * n + 1)), vI (xs (6 * n + 2)), vI (xs (6 * n + 3))]) (rest := [.int x]) (k := fun y w2 => y = x ∧ Inv (n + 1) w2) (X := [(qo, .inl (cJ, 1, .inr (.inl f)))]) (own := RL) (cW := cW) (cP := cP) (ad := ad) (hk) (by decide) (by decide) (Or.inl (by decide)) rfl rfl (by decide) (by decide +kernel) ⟨trivial, trivial, trivial, trivial⟩ (show 4 ≤ mM 123 by decide) (show 4 = mN 123 by decide) hx hb hml hown hts hK hZ hP hD hS hA (in_gT (List.mem_of_getElem? (i := 1224) (by decide +kernel)) rfl) ⟨by decide +kernel, by decide +kernel⟩ hl.1 (Nat.le_of_ble_eq_true rfl) dw_343 ⟨by omega, by omega⟩ (fun y w2 H locs hk2 hP hD hS => ?_)
  obtain ⟨rfl, hi2⟩ := hk2
  refine lv_icmp_eq (tgt := 1647) hx hb dw_346 (by decide) (fun _ => ?_) (fun h => absurd rfl h)
  exact W.widen (k := cells + 1) (n := slots + 6) (by omega) (by omega) (kk _ _ _ _ _ hi2 hP hD hS hl)
set_option maxHeartbeats 1000000 in
theorem law_c3 (X : LC p s m args c D cI cZ cJ cW cP ad A b L xs) (hi : Inv n w) (hn : n ≤ 600) (hil : 6 * n + 5 < L) (hP : va_P D vwCl (wsOf ad cI cZ cJ cW cP w ++ [(qo, .inl (cJ, 1, .inr (.inl f)))]) H) (hD : va_D A (wsOf ad cI cZ cJ cW cP w ++ [(qo, .inl (cJ, 1, .inr (.inl f)))])) (hS : va_S A s.heap H locs) (hl : lv_has ls 8 (lvh n b qo ad)) (hc : cells + 1 ≤ room_1.cells ∧ slots + 6 ≤ room_1.slots) (kk : LK p l e s m args below meth c cells slots Q D cI cZ cJ cW cP ad A b n qo) : W p l e room_1 s m args below meth c H locs cells slots Q (F0 m 351 ls []) := by
  obtain ⟨hx, hb, hml, hown, hts, hK, hZ, hA, hX, hbl, hbA, h3k⟩ := id X
  refine lv_aload_n hx hb dw_351 rfl (lv_at hl 2 rfl) ?_
  refine law_rd (j := 1) X hS hl hil dw_352 dw_353 dw_355 dw_356 dw_357 (by decide) (by omega) ?_
  refine law_rd (j := 2) X hS hl hil dw_358 dw_359 dw_361 dw_362 dw_363 (by decide) (by omega) ?_
  refine law_rd (j := 3) X hS hl hil dw_364 dw_365 dw_367 dw_368 dw_369 (by decide) (by omega) ?_
  refine law_rd (j := 4) X hS hl hil dw_370 dw_371 dw_373 dw_374 dw_375 (by decide) (by omega) ?_
  refine b_methI (mi := 62) (o := (0, 0)) (as := [vI (xs (6 * n + 1)), vI (xs (6 * n + 2)), vI (xs (6 * n + 3)), vI (xs (6 * n + 4))]) (rest := []) (k := fun x w1 => Cl 124 [vO 0 90, vI (xs (6 * n + 1)), vI (xs (6 * n + 2)), vI (xs (6 * n + 3)), vI (xs (6 * n + 4))] w1 (kI fun y w2 => y = x ∧ Inv (n + 1) w2)) (X := [(qo, .inl (cJ, 1, .inr (.inl f)))]) (own := RL) (cW := cW) (cP := cP) (ad := ad) (o_town hi) (by decide) (by decide) (Or.inl (by decide)) rfl rfl (by decide) (by decide +kernel) ⟨trivial, trivial, trivial, trivial, trivial⟩ (show 5 ≤ mM 62 by decide) (show 5 = mN 62 by decide) hx hb hml hown hts hK hZ hP hD hS hA (in_gT (List.mem_of_getElem? (i := 547) (by decide +kernel)) rfl) ⟨by decide +kernel, by decide +kernel⟩ hl.1 (Nat.le_of_ble_eq_true rfl) dw_376 ⟨by omega, by omega⟩ (fun x w1 H locs hk hP hD hS => ?_)
  refine lv_aload_n hx hb dw_379 rfl (lv_at hl 3 rfl) ?_
  refine law_rd (j := 1) X hS hl hil dw_380 dw_381 dw_383 dw_384 dw_385 (by decide) (by omega) ?_
  refine law_rd (j := 2) X hS hl hil dw_386 dw_387 dw_389 dw_390 dw_391 (by decide) (by omega) ?_
  refine law_rd (j := 3) X hS hl hil dw_392 dw_393 dw_395 dw_396 dw_397 (by decide) (by omega) ?_
  refine law_rd (j := 4) X hS hl hil dw_398 dw_399 dw_401 dw_402 dw_403 (by decide) (by omega) ?_
  refine b_methI (mi := 124) (o := (0, 90)) (as := [vI (xs (6 * n + 1)), vI (xs (6 * n + 2)), vI (xs (6 * n + 3)), vI (xs (6 * n + 4))]) (rest := [.int x]) (k := fun y w2 => y = x ∧ Inv (n + 1) w2) (X := [(qo, .inl (cJ, 1, .inr (.inl f)))]) (own := RL) (cW := cW) (cP := cP) (ad := ad) (hk) (by decide) (by decide) (Or.inl (by decide)) rfl rfl (by decide) (by decide +kernel) ⟨trivial, trivial, trivial, trivial, trivial⟩ (show 5 ≤ mM 124 by decide) (show 5 = mN 124 by decide) hx hb hml hown hts hK hZ hP hD hS hA (in_gT (List.mem_of_getElem? (i := 1229) (by decide +kernel)) rfl) ⟨by decide +kernel, by decide +kernel⟩ hl.1 (Nat.le_of_ble_eq_true rfl) dw_404 ⟨by omega, by omega⟩ (fun y w2 H locs hk2 hP hD hS => ?_)
  obtain ⟨rfl, hi2⟩ := hk2
  refine lv_icmp_eq (tgt := 1647) hx hb dw_407 (by decide) (fun _ => ?_) (fun h => absurd rfl h)
  exact W.widen (k := cells + 1) (n := slots + 6) (by omega) (by omega) (kk _ _ _ _ _ hi2 hP hD hS hl)
set_option maxHeartbeats 1000000 in
theorem law_c4 (X : LC p s m args c D cI cZ cJ cW cP ad A b L xs) (hi : Inv n w) (hn : n ≤ 600) (hil : 6 * n + 5 < L) (hP : va_P D vwCl (wsOf ad cI cZ cJ cW cP w ++ [(qo, .inl (cJ, 1, .inr (.inl f)))]) H) (hD : va_D A (wsOf ad cI cZ cJ cW cP w ++ [(qo, .inl (cJ, 1, .inr (.inl f)))])) (hS : va_S A s.heap H locs) (hl : lv_has ls 8 (lvh n b qo ad)) (hc : cells + 1 ≤ room_1.cells ∧ slots + 6 ≤ room_1.slots) (kk : LK p l e s m args below meth c cells slots Q D cI cZ cJ cW cP ad A b n qo) : W p l e room_1 s m args below meth c H locs cells slots Q (F0 m 412 ls []) := by
  obtain ⟨hx, hb, hml, hown, hts, hK, hZ, hA, hX, hbl, hbA, h3k⟩ := id X
  refine lv_aload_n hx hb dw_412 rfl (lv_at hl 2 rfl) ?_
  refine law_rd (j := 1) X hS hl hil dw_413 dw_414 dw_416 dw_417 dw_418 (by decide) (by omega) ?_
  refine b_methI (mi := 63) (o := (0, 0)) (as := [vI (xs (6 * n + 1))]) (rest := []) (k := fun x w1 => Cl 125 [vO 0 90, vI (xs (6 * n + 1))] w1 (kI fun y w2 => y = x ∧ Inv (n + 1) w2)) (X := [(qo, .inl (cJ, 1, .inr (.inl f)))]) (own := RL) (cW := cW) (cP := cP) (ad := ad) (o_sea hi (by omega)) (by decide) (by decide) (Or.inl (by decide)) rfl rfl (by decide) (by decide +kernel) ⟨trivial, trivial⟩ (show 2 ≤ mM 63 by decide) (show 2 = mN 63 by decide) hx hb hml hown hts hK hZ hP hD hS hA (in_gT (List.mem_of_getElem? (i := 552) (by decide +kernel)) rfl) ⟨by decide +kernel, by decide +kernel⟩ hl.1 (Nat.le_of_ble_eq_true rfl) dw_419 ⟨by omega, by omega⟩ (fun x w1 H locs hk hP hD hS => ?_)
  refine lv_aload_n hx hb dw_422 rfl (lv_at hl 3 rfl) ?_
  refine law_rd (j := 1) X hS hl hil dw_423 dw_424 dw_426 dw_427 dw_428 (by decide) (by omega) ?_
  refine b_methI (mi := 125) (o := (0, 90)) (as := [vI (xs (6 * n + 1))]) (rest := [.int x]) (k := fun y w2 => y = x ∧ Inv (n + 1) w2) (X := [(qo, .inl (cJ, 1, .inr (.inl f)))]) (own := RL) (cW := cW) (cP := cP) (ad := ad) (hk) (by decide) (by decide) (Or.inl (by decide)) rfl rfl (by decide) (by decide +kernel) ⟨trivial, trivial⟩ (show 2 ≤ mM 125 by decide) (show 2 = mN 125 by decide) hx hb hml hown hts hK hZ hP hD hS hA (in_gT (List.mem_of_getElem? (i := 1234) (by decide +kernel)) rfl) ⟨by decide +kernel, by decide +kernel⟩ hl.1 (Nat.le_of_ble_eq_true rfl) dw_429 ⟨by omega, by omega⟩ (fun y w2 H locs hk2 hP hD hS => ?_)
  obtain ⟨rfl, hi2⟩ := hk2
  refine lv_icmp_eq (tgt := 1647) hx hb dw_432 (by decide) (fun _ => ?_) (fun h => absurd rfl h)
  exact W.widen (k := cells + 1) (n := slots + 6) (by omega) (by omega) (kk _ _ _ _ _ hi2 hP hD hS hl)
set_option maxHeartbeats 1000000 in
theorem law_c5 (X : LC p s m args c D cI cZ cJ cW cP ad A b L xs) (hi : Inv n w) (hn : n ≤ 600) (hil : 6 * n + 5 < L) (hP : va_P D vwCl (wsOf ad cI cZ cJ cW cP w ++ [(qo, .inl (cJ, 1, .inr (.inl f)))]) H) (hD : va_D A (wsOf ad cI cZ cJ cW cP w ++ [(qo, .inl (cJ, 1, .inr (.inl f)))])) (hS : va_S A s.heap H locs) (hl : lv_has ls 8 (lvh n b qo ad)) (hc : cells + 1 ≤ room_1.cells ∧ slots + 6 ≤ room_1.slots) (kk : LK p l e s m args below meth c cells slots Q D cI cZ cJ cW cP ad A b n qo) : W p l e room_1 s m args below meth c H locs cells slots Q (F0 m 437 ls []) := by
  obtain ⟨hx, hb, hml, hown, hts, hK, hZ, hA, hX, hbl, hbA, h3k⟩ := id X
  refine lv_aload_n hx hb dw_437 rfl (lv_at hl 2 rfl) ?_
  refine law_rd (j := 1) X hS hl hil dw_438 dw_439 dw_441 dw_442 dw_443 (by decide) (by omega) ?_
  refine law_rd (j := 2) X hS hl hil dw_444 dw_445 dw_447 dw_448 dw_449 (by decide) (by omega) ?_
  refine law_rd (j := 3) X hS hl hil dw_450 dw_451 dw_453 dw_454 dw_455 (by decide) (by omega) ?_
  refine law_rd (j := 4) X hS hl hil dw_456 dw_457 dw_459 dw_460 dw_461 (by decide) (by omega) ?_
  refine b_methI (mi := 64) (o := (0, 0)) (as := [vI (xs (6 * n + 1)), vI (xs (6 * n + 2)), vI (xs (6 * n + 3)), vI (xs (6 * n + 4))]) (rest := []) (k := fun x w1 => Cl 127 [vO 0 90, vI (xs (6 * n + 1)), vI (xs (6 * n + 2)), vI (xs (6 * n + 3)), vI (xs (6 * n + 4))] w1 (kI fun y w2 => y = x ∧ Inv (n + 1) w2)) (X := [(qo, .inl (cJ, 1, .inr (.inl f)))]) (own := RL) (cW := cW) (cP := cP) (ad := ad) (o_weather hi) (by decide) (by decide) (Or.inl (by decide)) rfl rfl (by decide) (by decide +kernel) ⟨trivial, trivial, trivial, trivial, trivial⟩ (show 5 ≤ mM 64 by decide) (show 5 = mN 64 by decide) hx hb hml hown hts hK hZ hP hD hS hA (in_gT (List.mem_of_getElem? (i := 556) (by decide +kernel)) rfl) ⟨by decide +kernel, by decide +kernel⟩ hl.1 (Nat.le_of_ble_eq_true rfl) dw_462 ⟨by omega, by omega⟩ (fun x w1 H locs hk hP hD hS => ?_)
  refine lv_aload_n hx hb dw_465 rfl (lv_at hl 3 rfl) ?_
  refine law_rd (j := 1) X hS hl hil dw_466 dw_467 dw_469 dw_470 dw_471 (by decide) (by omega) ?_
  refine law_rd (j := 2) X hS hl hil dw_472 dw_473 dw_475 dw_476 dw_477 (by decide) (by omega) ?_
  refine law_rd (j := 3) X hS hl hil dw_478 dw_479 dw_481 dw_482 dw_483 (by decide) (by omega) ?_
  refine law_rd (j := 4) X hS hl hil dw_484 dw_485 dw_487 dw_488 dw_489 (by decide) (by omega) ?_
  refine b_methI (mi := 127) (o := (0, 90)) (as := [vI (xs (6 * n + 1)), vI (xs (6 * n + 2)), vI (xs (6 * n + 3)), vI (xs (6 * n + 4))]) (rest := [.int x]) (k := fun y w2 => y = x ∧ Inv (n + 1) w2) (X := [(qo, .inl (cJ, 1, .inr (.inl f)))]) (own := RL) (cW := cW) (cP := cP) (ad := ad) (hk) (by decide) (by decide) (Or.inl (by decide)) rfl rfl (by decide) (by decide +kernel) ⟨trivial, trivial, trivial, trivial, trivial⟩ (show 5 ≤ mM 127 by decide) (show 5 = mN 127 by decide) hx hb hml hown hts hK hZ hP hD hS hA (in_gT (List.mem_of_getElem? (i := 1238) (by decide +kernel)) rfl) ⟨by decide +kernel, by decide +kernel⟩ hl.1 (Nat.le_of_ble_eq_true rfl) dw_490 ⟨by omega, by omega⟩ (fun y w2 H locs hk2 hP hD hS => ?_)
  obtain ⟨rfl, hi2⟩ := hk2
  refine lv_icmp_eq (tgt := 1647) hx hb dw_493 (by decide) (fun _ => ?_) (fun h => absurd rfl h)
  exact W.widen (k := cells + 1) (n := slots + 6) (by omega) (by omega) (kk _ _ _ _ _ hi2 hP hD hS hl)
set_option maxHeartbeats 1000000 in
theorem law_c6 (X : LC p s m args c D cI cZ cJ cW cP ad A b L xs) (hi : Inv n w) (hn : n ≤ 600) (hil : 6 * n + 5 < L) (hP : va_P D vwCl (wsOf ad cI cZ cJ cW cP w ++ [(qo, .inl (cJ, 1, .inr (.inl f)))]) H) (hD : va_D A (wsOf ad cI cZ cJ cW cP w ++ [(qo, .inl (cJ, 1, .inr (.inl f)))])) (hS : va_S A s.heap H locs) (hl : lv_has ls 8 (lvh n b qo ad)) (hc : cells + 1 ≤ room_1.cells ∧ slots + 6 ≤ room_1.slots) (kk : LK p l e s m args below meth c cells slots Q D cI cZ cJ cW cP ad A b n qo) : W p l e room_1 s m args below meth c H locs cells slots Q (F0 m 498 ls []) := by
  obtain ⟨hx, hb, hml, hown, hts, hK, hZ, hA, hX, hbl, hbA, h3k⟩ := id X
  refine lv_aload_n hx hb dw_498 rfl (lv_at hl 2 rfl) ?_
  refine law_rd (j := 1) X hS hl hil dw_499 dw_500 dw_502 dw_503 dw_504 (by decide) (by omega) ?_
  refine law_rd (j := 2) X hS hl hil dw_505 dw_506 dw_508 dw_509 dw_510 (by decide) (by omega) ?_
  refine b_methI (mi := 65) (o := (0, 0)) (as := [vI (xs (6 * n + 1)), vI (xs (6 * n + 2))]) (rest := []) (k := fun x w1 => Cl 130 [vO 0 90, vI (xs (6 * n + 1)), vI (xs (6 * n + 2))] w1 (kI fun y w2 => y = x ∧ Inv (n + 1) w2)) (X := [(qo, .inl (cJ, 1, .inr (.inl f)))]) (own := RL) (cW := cW) (cP := cP) (ad := ad) (o_gauge hi) (by decide) (by decide) (Or.inl (by decide)) rfl rfl (by decide) (by decide +kernel) ⟨trivial, trivial, trivial⟩ (show 3 ≤ mM 65 by decide) (show 3 = mN 65 by decide) hx hb hml hown hts hK hZ hP hD hS hA (in_gT (List.mem_of_getElem? (i := 582) (by decide +kernel)) rfl) ⟨by decide +kernel, by decide +kernel⟩ hl.1 (Nat.le_of_ble_eq_true rfl) dw_511 ⟨by omega, by omega⟩ (fun x w1 H locs hk hP hD hS => ?_)
  refine lv_aload_n hx hb dw_514 rfl (lv_at hl 3 rfl) ?_
  refine law_rd (j := 1) X hS hl hil dw_515 dw_516 dw_518 dw_519 dw_520 (by decide) (by omega) ?_
  refine law_rd (j := 2) X hS hl hil dw_521 dw_522 dw_524 dw_525 dw_526 (by decide) (by omega) ?_
  refine b_methI (mi := 130) (o := (0, 90)) (as := [vI (xs (6 * n + 1)), vI (xs (6 * n + 2))]) (rest := [.int x]) (k := fun y w2 => y = x ∧ Inv (n + 1) w2) (X := [(qo, .inl (cJ, 1, .inr (.inl f)))]) (own := RL) (cW := cW) (cP := cP) (ad := ad) (hk) (by decide) (by decide) (Or.inl (by decide)) rfl rfl (by decide) (by decide +kernel) ⟨trivial, trivial, trivial⟩ (show 3 ≤ mM 130 by decide) (show 3 = mN 130 by decide) hx hb hml hown hts hK hZ hP hD hS hA (in_gT (List.mem_of_getElem? (i := 1252) (by decide +kernel)) rfl) ⟨by decide +kernel, by decide +kernel⟩ hl.1 (Nat.le_of_ble_eq_true rfl) dw_527 ⟨by omega, by omega⟩ (fun y w2 H locs hk2 hP hD hS => ?_)
  obtain ⟨rfl, hi2⟩ := hk2
  refine lv_icmp_eq (tgt := 1647) hx hb dw_530 (by decide) (fun _ => ?_) (fun h => absurd rfl h)
  exact W.widen (k := cells + 1) (n := slots + 6) (by omega) (by omega) (kk _ _ _ _ _ hi2 hP hD hS hl)
set_option maxHeartbeats 1000000 in
theorem law_c7 (X : LC p s m args c D cI cZ cJ cW cP ad A b L xs) (hi : Inv n w) (hn : n ≤ 600) (hil : 6 * n + 5 < L) (hP : va_P D vwCl (wsOf ad cI cZ cJ cW cP w ++ [(qo, .inl (cJ, 1, .inr (.inl f)))]) H) (hD : va_D A (wsOf ad cI cZ cJ cW cP w ++ [(qo, .inl (cJ, 1, .inr (.inl f)))])) (hS : va_S A s.heap H locs) (hl : lv_has ls 8 (lvh n b qo ad)) (hc : cells + 1 ≤ room_1.cells ∧ slots + 6 ≤ room_1.slots) (kk : LK p l e s m args below meth c cells slots Q D cI cZ cJ cW cP ad A b n qo) : W p l e room_1 s m args below meth c H locs cells slots Q (F0 m 535 ls []) := by
  obtain ⟨hx, hb, hml, hown, hts, hK, hZ, hA, hX, hbl, hbA, h3k⟩ := id X
  refine lv_aload_n hx hb dw_535 rfl (lv_at hl 2 rfl) ?_
  refine law_rd (j := 1) X hS hl hil dw_536 dw_537 dw_539 dw_540 dw_541 (by decide) (by omega) ?_
  refine b_methI (mi := 66) (o := (0, 0)) (as := [vI (xs (6 * n + 1))]) (rest := []) (k := fun x w1 => Cl 131 [vO 0 90, vI (xs (6 * n + 1))] w1 (kI fun y w2 => y = x ∧ Inv (n + 1) w2)) (X := [(qo, .inl (cJ, 1, .inr (.inl f)))]) (own := RL) (cW := cW) (cP := cP) (ad := ad) (o_eye hi) (by decide) (by decide) (Or.inl (by decide)) rfl rfl (by decide) (by decide +kernel) ⟨trivial, trivial⟩ (show 2 ≤ mM 66 by decide) (show 2 = mN 66 by decide) hx hb hml hown hts hK hZ hP hD hS hA (in_gT (List.mem_of_getElem? (i := 586) (by decide +kernel)) rfl) ⟨by decide +kernel, by decide +kernel⟩ hl.1 (Nat.le_of_ble_eq_true rfl) dw_542 ⟨by omega, by omega⟩ (fun x w1 H locs hk hP hD hS => ?_)
  refine lv_aload_n hx hb dw_545 rfl (lv_at hl 3 rfl) ?_
  refine law_rd (j := 1) X hS hl hil dw_546 dw_547 dw_549 dw_550 dw_551 (by decide) (by omega) ?_
  refine b_methI (mi := 131) (o := (0, 90)) (as := [vI (xs (6 * n + 1))]) (rest := [.int x]) (k := fun y w2 => y = x ∧ Inv (n + 1) w2) (X := [(qo, .inl (cJ, 1, .inr (.inl f)))]) (own := RL) (cW := cW) (cP := cP) (ad := ad) (hk) (by decide) (by decide) (Or.inl (by decide)) rfl rfl (by decide) (by decide +kernel) ⟨trivial, trivial⟩ (show 2 ≤ mM 131 by decide) (show 2 = mN 131 by decide) hx hb hml hown hts hK hZ hP hD hS hA (in_gT (List.mem_of_getElem? (i := 1256) (by decide +kernel)) rfl) ⟨by decide +kernel, by decide +kernel⟩ hl.1 (Nat.le_of_ble_eq_true rfl) dw_552 ⟨by omega, by omega⟩ (fun y w2 H locs hk2 hP hD hS => ?_)
  obtain ⟨rfl, hi2⟩ := hk2
  refine lv_icmp_eq (tgt := 1647) hx hb dw_555 (by decide) (fun _ => ?_) (fun h => absurd rfl h)
  exact W.widen (k := cells + 1) (n := slots + 6) (by omega) (by omega) (kk _ _ _ _ _ hi2 hP hD hS hl)
set_option maxHeartbeats 1000000 in
theorem law_c8 (X : LC p s m args c D cI cZ cJ cW cP ad A b L xs) (hi : Inv n w) (hn : n ≤ 600) (hil : 6 * n + 5 < L) (hP : va_P D vwCl (wsOf ad cI cZ cJ cW cP w ++ [(qo, .inl (cJ, 1, .inr (.inl f)))]) H) (hD : va_D A (wsOf ad cI cZ cJ cW cP w ++ [(qo, .inl (cJ, 1, .inr (.inl f)))])) (hS : va_S A s.heap H locs) (hl : lv_has ls 8 (lvh n b qo ad)) (hc : cells + 1 ≤ room_1.cells ∧ slots + 6 ≤ room_1.slots) (kk : LK p l e s m args below meth c cells slots Q D cI cZ cJ cW cP ad A b n qo) : W p l e room_1 s m args below meth c H locs cells slots Q (F0 m 560 ls []) := by
  obtain ⟨hx, hb, hml, hown, hts, hK, hZ, hA, hX, hbl, hbA, h3k⟩ := id X
  refine lv_aload_n hx hb dw_560 rfl (lv_at hl 2 rfl) ?_
  refine law_rd (j := 1) X hS hl hil dw_561 dw_562 dw_564 dw_565 dw_566 (by decide) (by omega) ?_
  refine b_methI (mi := 67) (o := (0, 0)) (as := [vI (xs (6 * n + 1))]) (rest := []) (k := fun x w1 => Cl 132 [vO 0 90, vI (xs (6 * n + 1))] w1 (kI fun y w2 => y = x ∧ Inv (n + 1) w2)) (X := [(qo, .inl (cJ, 1, .inr (.inl f)))]) (own := RL) (cW := cW) (cP := cP) (ad := ad) (o_crews hi) (by decide) (by decide) (Or.inl (by decide)) rfl rfl (by decide) (by decide +kernel) ⟨trivial, trivial⟩ (show 2 ≤ mM 67 by decide) (show 2 = mN 67 by decide) hx hb hml hown hts hK hZ hP hD hS hA (in_gT (List.mem_of_getElem? (i := 590) (by decide +kernel)) rfl) ⟨by decide +kernel, by decide +kernel⟩ hl.1 (Nat.le_of_ble_eq_true rfl) dw_567 ⟨by omega, by omega⟩ (fun x w1 H locs hk hP hD hS => ?_)
  refine lv_aload_n hx hb dw_570 rfl (lv_at hl 3 rfl) ?_
  refine law_rd (j := 1) X hS hl hil dw_571 dw_572 dw_574 dw_575 dw_576 (by decide) (by omega) ?_
  refine b_methI (mi := 132) (o := (0, 90)) (as := [vI (xs (6 * n + 1))]) (rest := [.int x]) (k := fun y w2 => y = x ∧ Inv (n + 1) w2) (X := [(qo, .inl (cJ, 1, .inr (.inl f)))]) (own := RL) (cW := cW) (cP := cP) (ad := ad) (hk) (by decide) (by decide) (Or.inl (by decide)) rfl rfl (by decide) (by decide +kernel) ⟨trivial, trivial⟩ (show 2 ≤ mM 132 by decide) (show 2 = mN 132 by decide) hx hb hml hown hts hK hZ hP hD hS hA (in_gT (List.mem_of_getElem? (i := 1260) (by decide +kernel)) rfl) ⟨by decide +kernel, by decide +kernel⟩ hl.1 (Nat.le_of_ble_eq_true rfl) dw_577 ⟨by omega, by omega⟩ (fun y w2 H locs hk2 hP hD hS => ?_)
  obtain ⟨rfl, hi2⟩ := hk2
  refine lv_icmp_eq (tgt := 1647) hx hb dw_580 (by decide) (fun _ => ?_) (fun h => absurd rfl h)
  exact W.widen (k := cells + 1) (n := slots + 6) (by omega) (by omega) (kk _ _ _ _ _ hi2 hP hD hS hl)
set_option maxHeartbeats 1000000 in
theorem law_c9 (X : LC p s m args c D cI cZ cJ cW cP ad A b L xs) (hi : Inv n w) (hn : n ≤ 600) (hil : 6 * n + 5 < L) (hP : va_P D vwCl (wsOf ad cI cZ cJ cW cP w ++ [(qo, .inl (cJ, 1, .inr (.inl f)))]) H) (hD : va_D A (wsOf ad cI cZ cJ cW cP w ++ [(qo, .inl (cJ, 1, .inr (.inl f)))])) (hS : va_S A s.heap H locs) (hl : lv_has ls 8 (lvh n b qo ad)) (hc : cells + 1 ≤ room_1.cells ∧ slots + 6 ≤ room_1.slots) (kk : LK p l e s m args below meth c cells slots Q D cI cZ cJ cW cP ad A b n qo) : W p l e room_1 s m args below meth c H locs cells slots Q (F0 m 585 ls []) := by
  obtain ⟨hx, hb, hml, hown, hts, hK, hZ, hA, hX, hbl, hbA, h3k⟩ := id X
  refine lv_aload_n hx hb dw_585 rfl (lv_at hl 2 rfl) ?_
  refine law_rd (j := 1) X hS hl hil dw_586 dw_587 dw_589 dw_590 dw_591 (by decide) (by omega) ?_
  refine law_rd (j := 2) X hS hl hil dw_592 dw_593 dw_595 dw_596 dw_597 (by decide) (by omega) ?_
  refine law_rd (j := 3) X hS hl hil dw_598 dw_599 dw_601 dw_602 dw_603 (by decide) (by omega) ?_
  refine b_methI (mi := 68) (o := (0, 0)) (as := [vI (xs (6 * n + 1)), vI (xs (6 * n + 2)), vI (xs (6 * n + 3))]) (rest := []) (k := fun x w1 => Cl 136 [vO 0 90, vI (xs (6 * n + 1)), vI (xs (6 * n + 2)), vI (xs (6 * n + 3))] w1 (kI fun y w2 => y = x ∧ Inv (n + 1) w2)) (X := [(qo, .inl (cJ, 1, .inr (.inl f)))]) (own := RL) (cW := cW) (cP := cP) (ad := ad) (o_rule hi) (by decide) (by decide) (Or.inl (by decide)) rfl rfl (by decide) (by decide +kernel) ⟨trivial, trivial, trivial, trivial⟩ (show 4 ≤ mM 68 by decide) (show 4 = mN 68 by decide) hx hb hml hown hts hK hZ hP hD hS hA (in_gT (List.mem_of_getElem? (i := 594) (by decide +kernel)) rfl) ⟨by decide +kernel, by decide +kernel⟩ hl.1 (Nat.le_of_ble_eq_true rfl) dw_604 ⟨by omega, by omega⟩ (fun x w1 H locs hk hP hD hS => ?_)
  refine lv_aload_n hx hb dw_607 rfl (lv_at hl 3 rfl) ?_
  refine law_rd (j := 1) X hS hl hil dw_608 dw_609 dw_611 dw_612 dw_613 (by decide) (by omega) ?_
  refine law_rd (j := 2) X hS hl hil dw_614 dw_615 dw_617 dw_618 dw_619 (by decide) (by omega) ?_
  refine law_rd (j := 3) X hS hl hil dw_620 dw_621 dw_623 dw_624 dw_625 (by decide) (by omega) ?_
  refine b_methI (mi := 136) (o := (0, 90)) (as := [vI (xs (6 * n + 1)), vI (xs (6 * n + 2)), vI (xs (6 * n + 3))]) (rest := [.int x]) (k := fun y w2 => y = x ∧ Inv (n + 1) w2) (X := [(qo, .inl (cJ, 1, .inr (.inl f)))]) (own := RL) (cW := cW) (cP := cP) (ad := ad) (hk) (by decide) (by decide) (Or.inl (by decide)) rfl rfl (by decide) (by decide +kernel) ⟨trivial, trivial, trivial, trivial⟩ (show 4 ≤ mM 136 by decide) (show 4 = mN 136 by decide) hx hb hml hown hts hK hZ hP hD hS hA (in_gT (List.mem_of_getElem? (i := 1264) (by decide +kernel)) rfl) ⟨by decide +kernel, by decide +kernel⟩ hl.1 (Nat.le_of_ble_eq_true rfl) dw_626 ⟨by omega, by omega⟩ (fun y w2 H locs hk2 hP hD hS => ?_)
  obtain ⟨rfl, hi2⟩ := hk2
  refine lv_icmp_eq (tgt := 1647) hx hb dw_629 (by decide) (fun _ => ?_) (fun h => absurd rfl h)
  exact W.widen (k := cells + 1) (n := slots + 6) (by omega) (by omega) (kk _ _ _ _ _ hi2 hP hD hS hl)
set_option maxHeartbeats 1000000 in
theorem law_c10 (X : LC p s m args c D cI cZ cJ cW cP ad A b L xs) (hi : Inv n w) (hn : n ≤ 600) (hil : 6 * n + 5 < L) (hP : va_P D vwCl (wsOf ad cI cZ cJ cW cP w ++ [(qo, .inl (cJ, 1, .inr (.inl f)))]) H) (hD : va_D A (wsOf ad cI cZ cJ cW cP w ++ [(qo, .inl (cJ, 1, .inr (.inl f)))])) (hS : va_S A s.heap H locs) (hl : lv_has ls 8 (lvh n b qo ad)) (hc : cells + 1 ≤ room_1.cells ∧ slots + 6 ≤ room_1.slots) (kk : LK p l e s m args below meth c cells slots Q D cI cZ cJ cW cP ad A b n qo) : W p l e room_1 s m args below meth c H locs cells slots Q (F0 m 634 ls []) := by
  obtain ⟨hx, hb, hml, hown, hts, hK, hZ, hA, hX, hbl, hbA, h3k⟩ := id X
  refine lv_aload_n hx hb dw_634 rfl (lv_at hl 2 rfl) ?_
  refine b_methI (mi := 69) (o := (0, 0)) (as := []) (rest := []) (k := fun x w1 => Cl 137 [vO 0 90] w1 (kI fun y w2 => y = x ∧ Inv (n + 1) w2)) (X := [(qo, .inl (cJ, 1, .inr (.inl f)))]) (own := RL) (cW := cW) (cP := cP) (ad := ad) (o_ruleless hi) (by decide) (by decide) (Or.inl (by decide)) rfl rfl (by decide) (by decide +kernel) trivial (show 1 ≤ mM 69 by decide) (show 1 = mN 69 by decide) hx hb hml hown hts hK hZ hP hD hS hA (in_gT (List.mem_of_getElem? (i := 625) (by decide +kernel)) rfl) ⟨by decide +kernel, by decide +kernel⟩ hl.1 (Nat.le_of_ble_eq_true rfl) dw_635 ⟨by omega, by omega⟩ (fun x w1 H locs hk hP hD hS => ?_)
  refine lv_aload_n hx hb dw_638 rfl (lv_at hl 3 rfl) ?_
  refine b_methI (mi := 137) (o := (0, 90)) (as := []) (rest := [.int x]) (k := fun y w2 => y = x ∧ Inv (n + 1) w2) (X := [(qo, .inl (cJ, 1, .inr (.inl f)))]) (own := RL) (cW := cW) (cP := cP) (ad := ad) (hk) (by decide) (by decide) (Or.inl (by decide)) rfl rfl (by decide) (by decide +kernel) trivial (show 1 ≤ mM 137 by decide) (show 1 = mN 137 by decide) hx hb hml hown hts hK hZ hP hD hS hA (in_gT (List.mem_of_getElem? (i := 1284) (by decide +kernel)) rfl) ⟨by decide +kernel, by decide +kernel⟩ hl.1 (Nat.le_of_ble_eq_true rfl) dw_639 ⟨by omega, by omega⟩ (fun y w2 H locs hk2 hP hD hS => ?_)
  obtain ⟨rfl, hi2⟩ := hk2
  refine lv_icmp_eq (tgt := 1647) hx hb dw_642 (by decide) (fun _ => ?_) (fun h => absurd rfl h)
  exact W.widen (k := cells + 1) (n := slots + 6) (by omega) (by omega) (kk _ _ _ _ _ hi2 hP hD hS hl)
set_option maxHeartbeats 1000000 in
theorem law_c11 (X : LC p s m args c D cI cZ cJ cW cP ad A b L xs) (hi : Inv n w) (hn : n ≤ 600) (hil : 6 * n + 5 < L) (hP : va_P D vwCl (wsOf ad cI cZ cJ cW cP w ++ [(qo, .inl (cJ, 1, .inr (.inl f)))]) H) (hD : va_D A (wsOf ad cI cZ cJ cW cP w ++ [(qo, .inl (cJ, 1, .inr (.inl f)))])) (hS : va_S A s.heap H locs) (hl : lv_has ls 8 (lvh n b qo ad)) (hc : cells + 1 ≤ room_1.cells ∧ slots + 6 ≤ room_1.slots) (kk : LK p l e s m args below meth c cells slots Q D cI cZ cJ cW cP ad A b n qo) : W p l e room_1 s m args below meth c H locs cells slots Q (F0 m 647 ls []) := by
  obtain ⟨hx, hb, hml, hown, hts, hK, hZ, hA, hX, hbl, hbA, h3k⟩ := id X
  refine lv_aload_n hx hb dw_647 rfl (lv_at hl 2 rfl) ?_
  refine law_rd (j := 1) X hS hl hil dw_648 dw_649 dw_651 dw_652 dw_653 (by decide) (by omega) ?_
  refine law_rd (j := 2) X hS hl hil dw_654 dw_655 dw_657 dw_658 dw_659 (by decide) (by omega) ?_
  refine b_methI (mi := 70) (o := (0, 0)) (as := [vI (xs (6 * n + 1)), vI (xs (6 * n + 2))]) (rest := []) (k := fun x w1 => Cl 142 [vO 0 90, vI (xs (6 * n + 1)), vI (xs (6 * n + 2))] w1 (kI fun y w2 => y = x ∧ Inv (n + 1) w2)) (X := [(qo, .inl (cJ, 1, .inr (.inl f)))]) (own := RL) (cW := cW) (cP := cP) (ad := ad) (o_act hi) (by decide) (by decide) (Or.inl (by decide)) rfl rfl (by decide) (by decide +kernel) ⟨trivial, trivial, trivial⟩ (show 3 ≤ mM 70 by decide) (show 3 = mN 70 by decide) hx hb hml hown hts hK hZ hP hD hS hA (in_gT (List.mem_of_getElem? (i := 629) (by decide +kernel)) rfl) ⟨by decide +kernel, by decide +kernel⟩ hl.1 (Nat.le_of_ble_eq_true rfl) dw_660 ⟨by omega, by omega⟩ (fun x w1 H locs hk hP hD hS => ?_)
  refine lv_aload_n hx hb dw_663 rfl (lv_at hl 3 rfl) ?_
  refine law_rd (j := 1) X hS hl hil dw_664 dw_665 dw_667 dw_668 dw_669 (by decide) (by omega) ?_
  refine law_rd (j := 2) X hS hl hil dw_670 dw_671 dw_673 dw_674 dw_675 (by decide) (by omega) ?_
  refine b_methI (mi := 142) (o := (0, 90)) (as := [vI (xs (6 * n + 1)), vI (xs (6 * n + 2))]) (rest := [.int x]) (k := fun y w2 => y = x ∧ Inv (n + 1) w2) (X := [(qo, .inl (cJ, 1, .inr (.inl f)))]) (own := RL) (cW := cW) (cP := cP) (ad := ad) (hk) (by decide) (by decide) (Or.inl (by decide)) rfl rfl (by decide) (by decide +kernel) ⟨trivial, trivial, trivial⟩ (show 3 ≤ mM 142 by decide) (show 3 = mN 142 by decide) hx hb hml hown hts hK hZ hP hD hS hA (in_gT (List.mem_of_getElem? (i := 1288) (by decide +kernel)) rfl) ⟨by decide +kernel, by decide +kernel⟩ hl.1 (Nat.le_of_ble_eq_true rfl) dw_676 ⟨by omega, by omega⟩ (fun y w2 H locs hk2 hP hD hS => ?_)
  obtain ⟨rfl, hi2⟩ := hk2
  refine lv_icmp_eq (tgt := 1647) hx hb dw_679 (by decide) (fun _ => ?_) (fun h => absurd rfl h)
  exact W.widen (k := cells + 1) (n := slots + 6) (by omega) (by omega) (kk _ _ _ _ _ hi2 hP hD hS hl)
set_option maxHeartbeats 1000000 in
theorem law_c12 (X : LC p s m args c D cI cZ cJ cW cP ad A b L xs) (hi : Inv n w) (hn : n ≤ 600) (hil : 6 * n + 5 < L) (hP : va_P D vwCl (wsOf ad cI cZ cJ cW cP w ++ [(qo, .inl (cJ, 1, .inr (.inl f)))]) H) (hD : va_D A (wsOf ad cI cZ cJ cW cP w ++ [(qo, .inl (cJ, 1, .inr (.inl f)))])) (hS : va_S A s.heap H locs) (hl : lv_has ls 8 (lvh n b qo ad)) (hc : cells + 1 ≤ room_1.cells ∧ slots + 6 ≤ room_1.slots) (kk : LK p l e s m args below meth c cells slots Q D cI cZ cJ cW cP ad A b n qo) : W p l e room_1 s m args below meth c H locs cells slots Q (F0 m 684 ls []) := by
  obtain ⟨hx, hb, hml, hown, hts, hK, hZ, hA, hX, hbl, hbA, h3k⟩ := id X
  refine lv_aload_n hx hb dw_684 rfl (lv_at hl 2 rfl) ?_
  refine law_rd (j := 1) X hS hl hil dw_685 dw_686 dw_688 dw_689 dw_690 (by decide) (by omega) ?_
  refine b_methI (mi := 71) (o := (0, 0)) (as := [vI (xs (6 * n + 1))]) (rest := []) (k := fun x w1 => Cl 154 [vO 0 90, vI (xs (6 * n + 1))] w1 (kI fun y w2 => y = x ∧ Inv (n + 1) w2)) (X := [(qo, .inl (cJ, 1, .inr (.inl f)))]) (own := RL) (cW := cW) (cP := cP) (ad := ad) (o_run hi) (by decide) (by decide) (Or.inl (by decide)) rfl rfl (by decide) (by decide +kernel) ⟨trivial, trivial⟩ (show 2 ≤ mM 71 by decide) (show 2 = mN 71 by decide) hx hb hml hown hts hK hZ hP hD hS hA (in_gT (List.mem_of_getElem? (i := 642) (by decide +kernel)) rfl) ⟨by decide +kernel, by decide +kernel⟩ hl.1 (Nat.le_of_ble_eq_true rfl) dw_691 ⟨by omega, by omega⟩ (fun x w1 H locs hk hP hD hS => ?_)
  refine lv_aload_n hx hb dw_694 rfl (lv_at hl 3 rfl) ?_
  refine law_rd (j := 1) X hS hl hil dw_695 dw_696 dw_698 dw_699 dw_700 (by decide) (by omega) ?_
  refine b_methI (mi := 154) (o := (0, 90)) (as := [vI (xs (6 * n + 1))]) (rest := [.int x]) (k := fun y w2 => y = x ∧ Inv (n + 1) w2) (X := [(qo, .inl (cJ, 1, .inr (.inl f)))]) (own := RL) (cW := cW) (cP := cP) (ad := ad) (hk) (by decide) (by decide) (Or.inl (by decide)) rfl rfl (by decide) (by decide +kernel) ⟨trivial, trivial⟩ (show 2 ≤ mM 154 by decide) (show 2 = mN 154 by decide) hx hb hml hown hts hK hZ hP hD hS hA (in_gT (List.mem_of_getElem? (i := 1295) (by decide +kernel)) rfl) ⟨by decide +kernel, by decide +kernel⟩ hl.1 (Nat.le_of_ble_eq_true rfl) dw_701 ⟨by omega, by omega⟩ (fun y w2 H locs hk2 hP hD hS => ?_)
  obtain ⟨rfl, hi2⟩ := hk2
  refine lv_icmp_eq (tgt := 1647) hx hb dw_704 (by decide) (fun _ => ?_) (fun h => absurd rfl h)
  exact W.widen (k := cells + 1) (n := slots + 6) (by omega) (by omega) (kk _ _ _ _ _ hi2 hP hD hS hl)
set_option maxHeartbeats 1000000 in
theorem law_c13 (X : LC p s m args c D cI cZ cJ cW cP ad A b L xs) (hi : Inv n w) (hn : n ≤ 600) (hil : 6 * n + 5 < L) (hP : va_P D vwCl (wsOf ad cI cZ cJ cW cP w ++ [(qo, .inl (cJ, 1, .inr (.inl f)))]) H) (hD : va_D A (wsOf ad cI cZ cJ cW cP w ++ [(qo, .inl (cJ, 1, .inr (.inl f)))])) (hS : va_S A s.heap H locs) (hl : lv_has ls 8 (lvh n b qo ad)) (hc : cells + 1 ≤ room_1.cells ∧ slots + 6 ≤ room_1.slots) (kk : LK p l e s m args below meth c cells slots Q D cI cZ cJ cW cP ad A b n qo) : W p l e room_1 s m args below meth c H locs cells slots Q (F0 m 709 ls []) := by
  obtain ⟨hx, hb, hml, hown, hts, hK, hZ, hA, hX, hbl, hbA, h3k⟩ := id X
  refine lv_aload_n hx hb dw_709 rfl (lv_at hl 2 rfl) ?_
  refine b_methI (mi := 72) (o := (0, 0)) (as := []) (rest := []) (k := fun x w1 => Cl 155 [vO 0 90] w1 (kI fun y w2 => y = x ∧ Inv (n + 1) w2)) (X := [(qo, .inl (cJ, 1, .inr (.inl f)))]) (own := RL) (cW := cW) (cP := cP) (ad := ad) (o_again hi) (by decide) (by decide) (Or.inl (by decide)) rfl rfl (by decide) (by decide +kernel) trivial (show 1 ≤ mM 72 by decide) (show 1 = mN 72 by decide) hx hb hml hown hts hK hZ hP hD hS hA (in_gT (List.mem_of_getElem? (i := 769) (by decide +kernel)) rfl) ⟨by decide +kernel, by decide +kernel⟩ hl.1 (Nat.le_of_ble_eq_true rfl) dw_710 ⟨by omega, by omega⟩ (fun x w1 H locs hk hP hD hS => ?_)
  refine lv_aload_n hx hb dw_713 rfl (lv_at hl 3 rfl) ?_
  refine b_methI (mi := 155) (o := (0, 90)) (as := []) (rest := [.int x]) (k := fun y w2 => y = x ∧ Inv (n + 1) w2) (X := [(qo, .inl (cJ, 1, .inr (.inl f)))]) (own := RL) (cW := cW) (cP := cP) (ad := ad) (hk) (by decide) (by decide) (Or.inl (by decide)) rfl rfl (by decide) (by decide +kernel) trivial (show 1 ≤ mM 155 by decide) (show 1 = mN 155 by decide) hx hb hml hown hts hK hZ hP hD hS hA (in_gT (List.mem_of_getElem? (i := 1365) (by decide +kernel)) rfl) ⟨by decide +kernel, by decide +kernel⟩ hl.1 (Nat.le_of_ble_eq_true rfl) dw_714 ⟨by omega, by omega⟩ (fun y w2 H locs hk2 hP hD hS => ?_)
  obtain ⟨rfl, hi2⟩ := hk2
  refine lv_icmp_eq (tgt := 1647) hx hb dw_717 (by decide) (fun _ => ?_) (fun h => absurd rfl h)
  exact W.widen (k := cells + 1) (n := slots + 6) (by omega) (by omega) (kk _ _ _ _ _ hi2 hP hD hS hl)
set_option maxHeartbeats 1000000 in
theorem law_c14 (X : LC p s m args c D cI cZ cJ cW cP ad A b L xs) (hi : Inv n w) (hn : n ≤ 600) (hil : 6 * n + 5 < L) (hP : va_P D vwCl (wsOf ad cI cZ cJ cW cP w ++ [(qo, .inl (cJ, 1, .inr (.inl f)))]) H) (hD : va_D A (wsOf ad cI cZ cJ cW cP w ++ [(qo, .inl (cJ, 1, .inr (.inl f)))])) (hS : va_S A s.heap H locs) (hl : lv_has ls 8 (lvh n b qo ad)) (hc : cells + 1 ≤ room_1.cells ∧ slots + 6 ≤ room_1.slots) (kk : LK p l e s m args below meth c cells slots Q D cI cZ cJ cW cP ad A b n qo) : W p l e room_1 s m args below meth c H locs cells slots Q (F0 m 722 ls []) := by
  obtain ⟨hx, hb, hml, hown, hts, hK, hZ, hA, hX, hbl, hbA, h3k⟩ := id X
  refine lv_aload_n hx hb dw_722 rfl (lv_at hl 2 rfl) ?_
  refine law_rd (j := 1) X hS hl hil dw_723 dw_724 dw_726 dw_727 dw_728 (by decide) (by omega) ?_
  refine law_rd (j := 2) X hS hl hil dw_729 dw_730 dw_732 dw_733 dw_734 (by decide) (by omega) ?_
  refine b_methI (mi := 73) (o := (0, 0)) (as := [vI (xs (6 * n + 1)), vI (xs (6 * n + 2))]) (rest := []) (k := fun x w1 => Cl 156 [vO 0 90, vI (xs (6 * n + 1)), vI (xs (6 * n + 2))] w1 (kI fun y w2 => y = x ∧ Inv (n + 1) w2)) (X := [(qo, .inl (cJ, 1, .inr (.inl f)))]) (own := RL) (cW := cW) (cP := cP) (ad := ad) (o_now hi) (by decide) (by decide) (Or.inl (by decide)) rfl rfl (by decide) (by decide +kernel) ⟨trivial, trivial, trivial⟩ (show 3 ≤ mM 73 by decide) (show 3 = mN 73 by decide) hx hb hml hown hts hK hZ hP hD hS hA (in_gT (List.mem_of_getElem? (i := 773) (by decide +kernel)) rfl) ⟨by decide +kernel, by decide +kernel⟩ hl.1 (Nat.le_of_ble_eq_true rfl) dw_735 ⟨by omega, by omega⟩ (fun x w1 H locs hk hP hD hS => ?_)
  refine lv_aload_n hx hb dw_738 rfl (lv_at hl 3 rfl) ?_
  refine law_rd (j := 1) X hS hl hil dw_739 dw_740 dw_742 dw_743 dw_744 (by decide) (by omega) ?_
  refine law_rd (j := 2) X hS hl hil dw_745 dw_746 dw_748 dw_749 dw_750 (by decide) (by omega) ?_
  refine b_methI (mi := 156) (o := (0, 90)) (as := [vI (xs (6 * n + 1)), vI (xs (6 * n + 2))]) (rest := [.int x]) (k := fun y w2 => y = x ∧ Inv (n + 1) w2) (X := [(qo, .inl (cJ, 1, .inr (.inl f)))]) (own := RL) (cW := cW) (cP := cP) (ad := ad) (hk) (by decide) (by decide) (Or.inl (by decide)) rfl rfl (by decide) (by decide +kernel) ⟨trivial, trivial, trivial⟩ (show 3 ≤ mM 156 by decide) (show 3 = mN 156 by decide) hx hb hml hown hts hK hZ hP hD hS hA (in_gT (List.mem_of_getElem? (i := 1369) (by decide +kernel)) rfl) ⟨by decide +kernel, by decide +kernel⟩ hl.1 (Nat.le_of_ble_eq_true rfl) dw_751 ⟨by omega, by omega⟩ (fun y w2 H locs hk2 hP hD hS => ?_)
  obtain ⟨rfl, hi2⟩ := hk2
  refine lv_icmp_eq (tgt := 1647) hx hb dw_754 (by decide) (fun _ => ?_) (fun h => absurd rfl h)
  exact W.widen (k := cells + 1) (n := slots + 6) (by omega) (by omega) (kk _ _ _ _ _ hi2 hP hD hS hl)
set_option maxHeartbeats 1000000 in
theorem law_c15 (X : LC p s m args c D cI cZ cJ cW cP ad A b L xs) (hi : Inv n w) (hn : n ≤ 600) (hil : 6 * n + 5 < L) (hP : va_P D vwCl (wsOf ad cI cZ cJ cW cP w ++ [(qo, .inl (cJ, 1, .inr (.inl f)))]) H) (hD : va_D A (wsOf ad cI cZ cJ cW cP w ++ [(qo, .inl (cJ, 1, .inr (.inl f)))])) (hS : va_S A s.heap H locs) (hl : lv_has ls 8 (lvh n b qo ad)) (hc : cells + 1 ≤ room_1.cells ∧ slots + 6 ≤ room_1.slots) (kk : LK p l e s m args below meth c cells slots Q D cI cZ cJ cW cP ad A b n qo) : W p l e room_1 s m args below meth c H locs cells slots Q (F0 m 759 ls []) := by
  obtain ⟨hx, hb, hml, hown, hts, hK, hZ, hA, hX, hbl, hbA, h3k⟩ := id X
  refine lv_aload_n hx hb dw_759 rfl (lv_at hl 2 rfl) ?_
  refine law_rd (j := 1) X hS hl hil dw_760 dw_761 dw_763 dw_764 dw_765 (by decide) (by omega) ?_
  refine law_rd (j := 2) X hS hl hil dw_766 dw_767 dw_769 dw_770 dw_771 (by decide) (by omega) ?_
  refine b_methI (mi := 74) (o := (0, 0)) (as := [vI (xs (6 * n + 1)), vI (xs (6 * n + 2))]) (rest := []) (k := fun x w1 => Cl 157 [vO 0 90, vI (xs (6 * n + 1)), vI (xs (6 * n + 2))] w1 (kI fun y w2 => y = x ∧ Inv (n + 1) w2)) (X := [(qo, .inl (cJ, 1, .inr (.inl f)))]) (own := RL) (cW := cW) (cP := cP) (ad := ad) (o_crest hi) (by decide) (by decide) (Or.inl (by decide)) rfl rfl (by decide) (by decide +kernel) ⟨trivial, trivial, trivial⟩ (show 3 ≤ mM 74 by decide) (show 3 = mN 74 by decide) hx hb hml hown hts hK hZ hP hD hS hA (in_gT (List.mem_of_getElem? (i := 777) (by decide +kernel)) rfl) ⟨by decide +kernel, by decide +kernel⟩ hl.1 (Nat.le_of_ble_eq_true rfl) dw_772 ⟨by omega, by omega⟩ (fun x w1 H locs hk hP hD hS => ?_)
  refine lv_aload_n hx hb dw_775 rfl (lv_at hl 3 rfl) ?_
  refine law_rd (j := 1) X hS hl hil dw_776 dw_777 dw_779 dw_780 dw_781 (by decide) (by omega) ?_
  refine law_rd (j := 2) X hS hl hil dw_782 dw_783 dw_785 dw_786 dw_787 (by decide) (by omega) ?_
  refine b_methI (mi := 157) (o := (0, 90)) (as := [vI (xs (6 * n + 1)), vI (xs (6 * n + 2))]) (rest := [.int x]) (k := fun y w2 => y = x ∧ Inv (n + 1) w2) (X := [(qo, .inl (cJ, 1, .inr (.inl f)))]) (own := RL) (cW := cW) (cP := cP) (ad := ad) (hk) (by decide) (by decide) (Or.inl (by decide)) rfl rfl (by decide) (by decide +kernel) ⟨trivial, trivial, trivial⟩ (show 3 ≤ mM 157 by decide) (show 3 = mN 157 by decide) hx hb hml hown hts hK hZ hP hD hS hA (in_gT (List.mem_of_getElem? (i := 1373) (by decide +kernel)) rfl) ⟨by decide +kernel, by decide +kernel⟩ hl.1 (Nat.le_of_ble_eq_true rfl) dw_788 ⟨by omega, by omega⟩ (fun y w2 H locs hk2 hP hD hS => ?_)
  obtain ⟨rfl, hi2⟩ := hk2
  refine lv_icmp_eq (tgt := 1647) hx hb dw_791 (by decide) (fun _ => ?_) (fun h => absurd rfl h)
  exact W.widen (k := cells + 1) (n := slots + 6) (by omega) (by omega) (kk _ _ _ _ _ hi2 hP hD hS hl)
set_option maxHeartbeats 1000000 in
theorem law_c16 (X : LC p s m args c D cI cZ cJ cW cP ad A b L xs) (hi : Inv n w) (hn : n ≤ 600) (hil : 6 * n + 5 < L) (hP : va_P D vwCl (wsOf ad cI cZ cJ cW cP w ++ [(qo, .inl (cJ, 1, .inr (.inl f)))]) H) (hD : va_D A (wsOf ad cI cZ cJ cW cP w ++ [(qo, .inl (cJ, 1, .inr (.inl f)))])) (hS : va_S A s.heap H locs) (hl : lv_has ls 8 (lvh n b qo ad)) (hc : cells + 1 ≤ room_1.cells ∧ slots + 6 ≤ room_1.slots) (kk : LK p l e s m args below meth c cells slots Q D cI cZ cJ cW cP ad A b n qo) : W p l e room_1 s m args below meth c H locs cells slots Q (F0 m 796 ls []) := by
  obtain ⟨hx, hb, hml, hown, hts, hK, hZ, hA, hX, hbl, hbA, h3k⟩ := id X
  refine lv_aload_n hx hb dw_796 rfl (lv_at hl 2 rfl) ?_
  refine law_rd (j := 1) X hS hl hil dw_797 dw_798 dw_800 dw_801 dw_802 (by decide) (by omega) ?_
  refine law_rd (j := 2) X hS hl hil dw_803 dw_804 dw_806 dw_807 dw_808 (by decide) (by omega) ?_
  refine law_rd (j := 3) X hS hl hil dw_809 dw_810 dw_812 dw_813 dw_814 (by decide) (by omega) ?_
  refine b_methI (mi := 75) (o := (0, 0)) (as := [vI (xs (6 * n + 1)), vI (xs (6 * n + 2)), vI (xs (6 * n + 3))]) (rest := []) (k := fun x w1 => Cl 158 [vO 0 90, vI (xs (6 * n + 1)), vI (xs (6 * n + 2)), vI (xs (6 * n + 3))] w1 (kI fun y w2 => y = x ∧ Inv (n + 1) w2)) (X := [(qo, .inl (cJ, 1, .inr (.inl f)))]) (own := RL) (cW := cW) (cP := cP) (ad := ad) (o_reading hi) (by decide) (by decide) (Or.inl (by decide)) rfl rfl (by decide) (by decide +kernel) ⟨trivial, trivial, trivial, trivial⟩ (show 4 ≤ mM 75 by decide) (show 4 = mN 75 by decide) hx hb hml hown hts hK hZ hP hD hS hA (in_gT (List.mem_of_getElem? (i := 781) (by decide +kernel)) rfl) ⟨by decide +kernel, by decide +kernel⟩ hl.1 (Nat.le_of_ble_eq_true rfl) dw_815 ⟨by omega, by omega⟩ (fun x w1 H locs hk hP hD hS => ?_)
  refine lv_aload_n hx hb dw_818 rfl (lv_at hl 3 rfl) ?_
  refine law_rd (j := 1) X hS hl hil dw_819 dw_820 dw_822 dw_823 dw_824 (by decide) (by omega) ?_
  refine law_rd (j := 2) X hS hl hil dw_825 dw_826 dw_828 dw_829 dw_830 (by decide) (by omega) ?_
  refine law_rd (j := 3) X hS hl hil dw_831 dw_832 dw_834 dw_835 dw_836 (by decide) (by omega) ?_
  refine b_methI (mi := 158) (o := (0, 90)) (as := [vI (xs (6 * n + 1)), vI (xs (6 * n + 2)), vI (xs (6 * n + 3))]) (rest := [.int x]) (k := fun y w2 => y = x ∧ Inv (n + 1) w2) (X := [(qo, .inl (cJ, 1, .inr (.inl f)))]) (own := RL) (cW := cW) (cP := cP) (ad := ad) (hk) (by decide) (by decide) (Or.inl (by decide)) rfl rfl (by decide) (by decide +kernel) ⟨trivial, trivial, trivial, trivial⟩ (show 4 ≤ mM 158 by decide) (show 4 = mN 158 by decide) hx hb hml hown hts hK hZ hP hD hS hA (in_gT (List.mem_of_getElem? (i := 1377) (by decide +kernel)) rfl) ⟨by decide +kernel, by decide +kernel⟩ hl.1 (Nat.le_of_ble_eq_true rfl) dw_837 ⟨by omega, by omega⟩ (fun y w2 H locs hk2 hP hD hS => ?_)
  obtain ⟨rfl, hi2⟩ := hk2
  refine lv_icmp_eq (tgt := 1647) hx hb dw_840 (by decide) (fun _ => ?_) (fun h => absurd rfl h)
  exact W.widen (k := cells + 1) (n := slots + 6) (by omega) (by omega) (kk _ _ _ _ _ hi2 hP hD hS hl)
set_option maxHeartbeats 1000000 in
theorem law_c17 (X : LC p s m args c D cI cZ cJ cW cP ad A b L xs) (hi : Inv n w) (hn : n ≤ 600) (hil : 6 * n + 5 < L) (hP : va_P D vwCl (wsOf ad cI cZ cJ cW cP w ++ [(qo, .inl (cJ, 1, .inr (.inl f)))]) H) (hD : va_D A (wsOf ad cI cZ cJ cW cP w ++ [(qo, .inl (cJ, 1, .inr (.inl f)))])) (hS : va_S A s.heap H locs) (hl : lv_has ls 8 (lvh n b qo ad)) (hc : cells + 1 ≤ room_1.cells ∧ slots + 6 ≤ room_1.slots) (kk : LK p l e s m args below meth c cells slots Q D cI cZ cJ cW cP ad A b n qo) : W p l e room_1 s m args below meth c H locs cells slots Q (F0 m 845 ls []) := by
  obtain ⟨hx, hb, hml, hown, hts, hK, hZ, hA, hX, hbl, hbA, h3k⟩ := id X
  refine lv_aload_n hx hb dw_845 rfl (lv_at hl 2 rfl) ?_
  refine law_rd (j := 1) X hS hl hil dw_846 dw_847 dw_849 dw_850 dw_851 (by decide) (by omega) ?_
  refine law_rd (j := 2) X hS hl hil dw_852 dw_853 dw_855 dw_856 dw_857 (by decide) (by omega) ?_
  refine law_rd (j := 3) X hS hl hil dw_858 dw_859 dw_861 dw_862 dw_863 (by decide) (by omega) ?_
  refine b_methI (mi := 76) (o := (0, 0)) (as := [vI (xs (6 * n + 1)), vI (xs (6 * n + 2)), vI (xs (6 * n + 3))]) (rest := []) (k := fun x w1 => Cl 159 [vO 0 90, vI (xs (6 * n + 1)), vI (xs (6 * n + 2)), vI (xs (6 * n + 3))] w1 (kI fun y w2 => y = x ∧ Inv (n + 1) w2)) (X := [(qo, .inl (cJ, 1, .inr (.inl f)))]) (own := RL) (cW := cW) (cP := cP) (ad := ad) (o_mend hi) (by decide) (by decide) (Or.inl (by decide)) rfl rfl (by decide) (by decide +kernel) ⟨trivial, trivial, trivial, trivial⟩ (show 4 ≤ mM 76 by decide) (show 4 = mN 76 by decide) hx hb hml hown hts hK hZ hP hD hS hA (in_gT (List.mem_of_getElem? (i := 789) (by decide +kernel)) rfl) ⟨by decide +kernel, by decide +kernel⟩ hl.1 (Nat.le_of_ble_eq_true rfl) dw_864 ⟨by omega, by omega⟩ (fun x w1 H locs hk hP hD hS => ?_)
  refine lv_aload_n hx hb dw_867 rfl (lv_at hl 3 rfl) ?_
  refine law_rd (j := 1) X hS hl hil dw_868 dw_869 dw_871 dw_872 dw_873 (by decide) (by omega) ?_
  refine law_rd (j := 2) X hS hl hil dw_874 dw_875 dw_877 dw_878 dw_879 (by decide) (by omega) ?_
  refine law_rd (j := 3) X hS hl hil dw_880 dw_881 dw_883 dw_884 dw_885 (by decide) (by omega) ?_
  refine b_methI (mi := 159) (o := (0, 90)) (as := [vI (xs (6 * n + 1)), vI (xs (6 * n + 2)), vI (xs (6 * n + 3))]) (rest := [.int x]) (k := fun y w2 => y = x ∧ Inv (n + 1) w2) (X := [(qo, .inl (cJ, 1, .inr (.inl f)))]) (own := RL) (cW := cW) (cP := cP) (ad := ad) (hk) (by decide) (by decide) (Or.inl (by decide)) rfl rfl (by decide) (by decide +kernel) ⟨trivial, trivial, trivial, trivial⟩ (show 4 ≤ mM 159 by decide) (show 4 = mN 159 by decide) hx hb hml hown hts hK hZ hP hD hS hA (in_gT (List.mem_of_getElem? (i := 1381) (by decide +kernel)) rfl) ⟨by decide +kernel, by decide +kernel⟩ hl.1 (Nat.le_of_ble_eq_true rfl) dw_886 ⟨by omega, by omega⟩ (fun y w2 H locs hk2 hP hD hS => ?_)
  obtain ⟨rfl, hi2⟩ := hk2
  refine lv_icmp_eq (tgt := 1647) hx hb dw_889 (by decide) (fun _ => ?_) (fun h => absurd rfl h)
  exact W.widen (k := cells + 1) (n := slots + 6) (by omega) (by omega) (kk _ _ _ _ _ hi2 hP hD hS hl)
set_option maxHeartbeats 1000000 in
theorem law_c18 (X : LC p s m args c D cI cZ cJ cW cP ad A b L xs) (hi : Inv n w) (hn : n ≤ 600) (hil : 6 * n + 5 < L) (hP : va_P D vwCl (wsOf ad cI cZ cJ cW cP w ++ [(qo, .inl (cJ, 1, .inr (.inl f)))]) H) (hD : va_D A (wsOf ad cI cZ cJ cW cP w ++ [(qo, .inl (cJ, 1, .inr (.inl f)))])) (hS : va_S A s.heap H locs) (hl : lv_has ls 8 (lvh n b qo ad)) (hc : cells + 1 ≤ room_1.cells ∧ slots + 6 ≤ room_1.slots) (kk : LK p l e s m args below meth c cells slots Q D cI cZ cJ cW cP ad A b n qo) : W p l e room_1 s m args below meth c H locs cells slots Q (F0 m 894 ls []) := by
  obtain ⟨hx, hb, hml, hown, hts, hK, hZ, hA, hX, hbl, hbA, h3k⟩ := id X
  refine lv_aload_n hx hb dw_894 rfl (lv_at hl 2 rfl) ?_
  refine law_rd (j := 1) X hS hl hil dw_895 dw_896 dw_898 dw_899 dw_900 (by decide) (by omega) ?_
  refine b_methI (mi := 77) (o := (0, 0)) (as := [vI (xs (6 * n + 1))]) (rest := []) (k := fun x w1 => Cl 161 [vO 0 90, vI (xs (6 * n + 1))] w1 (kI fun y w2 => y = x ∧ Inv (n + 1) w2)) (X := [(qo, .inl (cJ, 1, .inr (.inl f)))]) (own := RL) (cW := cW) (cP := cP) (ad := ad) (o_holds hi) (by decide) (by decide) (Or.inl (by decide)) rfl rfl (by decide) (by decide +kernel) ⟨trivial, trivial⟩ (show 2 ≤ mM 77 by decide) (show 2 = mN 77 by decide) hx hb hml hown hts hK hZ hP hD hS hA (in_gT (List.mem_of_getElem? (i := 798) (by decide +kernel)) rfl) ⟨by decide +kernel, by decide +kernel⟩ hl.1 (Nat.le_of_ble_eq_true rfl) dw_901 ⟨by omega, by omega⟩ (fun x w1 H locs hk hP hD hS => ?_)
  refine lv_aload_n hx hb dw_904 rfl (lv_at hl 3 rfl) ?_
  refine law_rd (j := 1) X hS hl hil dw_905 dw_906 dw_908 dw_909 dw_910 (by decide) (by omega) ?_
  refine b_methI (mi := 161) (o := (0, 90)) (as := [vI (xs (6 * n + 1))]) (rest := [.int x]) (k := fun y w2 => y = x ∧ Inv (n + 1) w2) (X := [(qo, .inl (cJ, 1, .inr (.inl f)))]) (own := RL) (cW := cW) (cP := cP) (ad := ad) (hk) (by decide) (by decide) (Or.inl (by decide)) rfl rfl (by decide) (by decide +kernel) ⟨trivial, trivial⟩ (show 2 ≤ mM 161 by decide) (show 2 = mN 161 by decide) hx hb hml hown hts hK hZ hP hD hS hA (in_gT (List.mem_of_getElem? (i := 1385) (by decide +kernel)) rfl) ⟨by decide +kernel, by decide +kernel⟩ hl.1 (Nat.le_of_ble_eq_true rfl) dw_911 ⟨by omega, by omega⟩ (fun y w2 H locs hk2 hP hD hS => ?_)
  obtain ⟨rfl, hi2⟩ := hk2
  refine lv_icmp_eq (tgt := 1647) hx hb dw_914 (by decide) (fun _ => ?_) (fun h => absurd rfl h)
  exact W.widen (k := cells + 1) (n := slots + 6) (by omega) (by omega) (kk _ _ _ _ _ hi2 hP hD hS hl)
set_option maxHeartbeats 1000000 in
theorem law_c19 (X : LC p s m args c D cI cZ cJ cW cP ad A b L xs) (hi : Inv n w) (hn : n ≤ 600) (hil : 6 * n + 5 < L) (hP : va_P D vwCl (wsOf ad cI cZ cJ cW cP w ++ [(qo, .inl (cJ, 1, .inr (.inl f)))]) H) (hD : va_D A (wsOf ad cI cZ cJ cW cP w ++ [(qo, .inl (cJ, 1, .inr (.inl f)))])) (hS : va_S A s.heap H locs) (hl : lv_has ls 8 (lvh n b qo ad)) (hc : cells + 1 ≤ room_1.cells ∧ slots + 6 ≤ room_1.slots) (kk : LK p l e s m args below meth c cells slots Q D cI cZ cJ cW cP ad A b n qo) : W p l e room_1 s m args below meth c H locs cells slots Q (F0 m 919 ls []) := by
  obtain ⟨hx, hb, hml, hown, hts, hK, hZ, hA, hX, hbl, hbA, h3k⟩ := id X
  refine lv_aload_n hx hb dw_919 rfl (lv_at hl 2 rfl) ?_
  refine law_rd (j := 1) X hS hl hil dw_920 dw_921 dw_923 dw_924 dw_925 (by decide) (by omega) ?_
  refine b_methI (mi := 78) (o := (0, 0)) (as := [vI (xs (6 * n + 1))]) (rest := []) (k := fun x w1 => Cl 162 [vO 0 90, vI (xs (6 * n + 1))] w1 (kI fun y w2 => y = x ∧ Inv (n + 1) w2)) (X := [(qo, .inl (cJ, 1, .inr (.inl f)))]) (own := RL) (cW := cW) (cP := cP) (ad := ad) (o_came hi) (by decide) (by decide) (Or.inl (by decide)) rfl rfl (by decide) (by decide +kernel) ⟨trivial, trivial⟩ (show 2 ≤ mM 78 by decide) (show 2 = mN 78 by decide) hx hb hml hown hts hK hZ hP hD hS hA (in_gT (List.mem_of_getElem? (i := 807) (by decide +kernel)) rfl) ⟨by decide +kernel, by decide +kernel⟩ hl.1 (Nat.le_of_ble_eq_true rfl) dw_926 ⟨by omega, by omega⟩ (fun x w1 H locs hk hP hD hS => ?_)
  refine lv_aload_n hx hb dw_929 rfl (lv_at hl 3 rfl) ?_
  refine law_rd (j := 1) X hS hl hil dw_930 dw_931 dw_933 dw_934 dw_935 (by decide) (by omega) ?_
  refine b_methI (mi := 162) (o := (0, 90)) (as := [vI (xs (6 * n + 1))]) (rest := [.int x]) (k := fun y w2 => y = x ∧ Inv (n + 1) w2) (X := [(qo, .inl (cJ, 1, .inr (.inl f)))]) (own := RL) (cW := cW) (cP := cP) (ad := ad) (hk) (by decide) (by decide) (Or.inl (by decide)) rfl rfl (by decide) (by decide +kernel) ⟨trivial, trivial⟩ (show 2 ≤ mM 162 by decide) (show 2 = mN 162 by decide) hx hb hml hown hts hK hZ hP hD hS hA (in_gT (List.mem_of_getElem? (i := 1393) (by decide +kernel)) rfl) ⟨by decide +kernel, by decide +kernel⟩ hl.1 (Nat.le_of_ble_eq_true rfl) dw_936 ⟨by omega, by omega⟩ (fun y w2 H locs hk2 hP hD hS => ?_)
  obtain ⟨rfl, hi2⟩ := hk2
  refine lv_icmp_eq (tgt := 1647) hx hb dw_939 (by decide) (fun _ => ?_) (fun h => absurd rfl h)
  exact W.widen (k := cells + 1) (n := slots + 6) (by omega) (by omega) (kk _ _ _ _ _ hi2 hP hD hS hl)
set_option maxHeartbeats 1000000 in
theorem law_c20 (X : LC p s m args c D cI cZ cJ cW cP ad A b L xs) (hi : Inv n w) (hn : n ≤ 600) (hil : 6 * n + 5 < L) (hP : va_P D vwCl (wsOf ad cI cZ cJ cW cP w ++ [(qo, .inl (cJ, 1, .inr (.inl f)))]) H) (hD : va_D A (wsOf ad cI cZ cJ cW cP w ++ [(qo, .inl (cJ, 1, .inr (.inl f)))])) (hS : va_S A s.heap H locs) (hl : lv_has ls 8 (lvh n b qo ad)) (hc : cells + 1 ≤ room_1.cells ∧ slots + 6 ≤ room_1.slots) (kk : LK p l e s m args below meth c cells slots Q D cI cZ cJ cW cP ad A b n qo) : W p l e room_1 s m args below meth c H locs cells slots Q (F0 m 944 ls []) := by
  obtain ⟨hx, hb, hml, hown, hts, hK, hZ, hA, hX, hbl, hbA, h3k⟩ := id X
  refine lv_aload_n hx hb dw_944 rfl (lv_at hl 2 rfl) ?_
  refine law_rd (j := 1) X hS hl hil dw_945 dw_946 dw_948 dw_949 dw_950 (by decide) (by omega) ?_
  refine law_rd (j := 2) X hS hl hil dw_951 dw_952 dw_954 dw_955 dw_956 (by decide) (by omega) ?_
  refine law_rd (j := 3) X hS hl hil dw_957 dw_958 dw_960 dw_961 dw_962 (by decide) (by omega) ?_
  refine b_methI (mi := 79) (o := (0, 0)) (as := [vI (xs (6 * n + 1)), vI (xs (6 * n + 2)), vI (xs (6 * n + 3))]) (rest := []) (k := fun x w1 => Cl 163 [vO 0 90, vI (xs (6 * n + 1)), vI (xs (6 * n + 2)), vI (xs (6 * n + 3))] w1 (kI fun y w2 => y = x ∧ Inv (n + 1) w2)) (X := [(qo, .inl (cJ, 1, .inr (.inl f)))]) (own := RL) (cW := cW) (cP := cP) (ad := ad) (o_plan hi) (by decide) (by decide) (Or.inl (by decide)) rfl rfl (by decide) (by decide +kernel) ⟨trivial, trivial, trivial, trivial⟩ (show 4 ≤ mM 79 by decide) (show 4 = mN 79 by decide) hx hb hml hown hts hK hZ hP hD hS hA (in_gT (List.mem_of_getElem? (i := 811) (by decide +kernel)) rfl) ⟨by decide +kernel, by decide +kernel⟩ hl.1 (Nat.le_of_ble_eq_true rfl) dw_963 ⟨by omega, by omega⟩ (fun x w1 H locs hk hP hD hS => ?_)
  refine lv_aload_n hx hb dw_966 rfl (lv_at hl 3 rfl) ?_
  refine law_rd (j := 1) X hS hl hil dw_967 dw_968 dw_970 dw_971 dw_972 (by decide) (by omega) ?_
  refine law_rd (j := 2) X hS hl hil dw_973 dw_974 dw_976 dw_977 dw_978 (by decide) (by omega) ?_
  refine law_rd (j := 3) X hS hl hil dw_979 dw_980 dw_982 dw_983 dw_984 (by decide) (by omega) ?_
  refine b_methI (mi := 163) (o := (0, 90)) (as := [vI (xs (6 * n + 1)), vI (xs (6 * n + 2)), vI (xs (6 * n + 3))]) (rest := [.int x]) (k := fun y w2 => y = x ∧ Inv (n + 1) w2) (X := [(qo, .inl (cJ, 1, .inr (.inl f)))]) (own := RL) (cW := cW) (cP := cP) (ad := ad) (hk) (by decide) (by decide) (Or.inl (by decide)) rfl rfl (by decide) (by decide +kernel) ⟨trivial, trivial, trivial, trivial⟩ (show 4 ≤ mM 163 by decide) (show 4 = mN 163 by decide) hx hb hml hown hts hK hZ hP hD hS hA (in_gT (List.mem_of_getElem? (i := 1397) (by decide +kernel)) rfl) ⟨by decide +kernel, by decide +kernel⟩ hl.1 (Nat.le_of_ble_eq_true rfl) dw_985 ⟨by omega, by omega⟩ (fun y w2 H locs hk2 hP hD hS => ?_)
  obtain ⟨rfl, hi2⟩ := hk2
  refine lv_icmp_eq (tgt := 1647) hx hb dw_988 (by decide) (fun _ => ?_) (fun h => absurd rfl h)
  exact W.widen (k := cells + 1) (n := slots + 6) (by omega) (by omega) (kk _ _ _ _ _ hi2 hP hD hS hl)
set_option maxHeartbeats 1000000 in
theorem law_c21 (X : LC p s m args c D cI cZ cJ cW cP ad A b L xs) (hi : Inv n w) (hn : n ≤ 600) (hil : 6 * n + 5 < L) (hP : va_P D vwCl (wsOf ad cI cZ cJ cW cP w ++ [(qo, .inl (cJ, 1, .inr (.inl f)))]) H) (hD : va_D A (wsOf ad cI cZ cJ cW cP w ++ [(qo, .inl (cJ, 1, .inr (.inl f)))])) (hS : va_S A s.heap H locs) (hl : lv_has ls 8 (lvh n b qo ad)) (hc : cells + 1 ≤ room_1.cells ∧ slots + 6 ≤ room_1.slots) (kk : LK p l e s m args below meth c cells slots Q D cI cZ cJ cW cP ad A b n qo) : W p l e room_1 s m args below meth c H locs cells slots Q (F0 m 993 ls []) := by
  obtain ⟨hx, hb, hml, hown, hts, hK, hZ, hA, hX, hbl, hbA, h3k⟩ := id X
  refine lv_aload_n hx hb dw_993 rfl (lv_at hl 2 rfl) ?_
  refine b_methI (mi := 80) (o := (0, 0)) (as := []) (rest := []) (k := fun x w1 => Cl 164 [vO 0 90] w1 (kI fun y w2 => y = x ∧ Inv (n + 1) w2)) (X := [(qo, .inl (cJ, 1, .inr (.inl f)))]) (own := RL) (cW := cW) (cP := cP) (ad := ad) (o_planless hi) (by decide) (by decide) (Or.inl (by decide)) rfl rfl (by decide) (by decide +kernel) trivial (show 1 ≤ mM 80 by decide) (show 1 = mN 80 by decide) hx hb hml hown hts hK hZ hP hD hS hA (in_gT (List.mem_of_getElem? (i := 815) (by decide +kernel)) rfl) ⟨by decide +kernel, by decide +kernel⟩ hl.1 (Nat.le_of_ble_eq_true rfl) dw_994 ⟨by omega, by omega⟩ (fun x w1 H locs hk hP hD hS => ?_)
  refine lv_aload_n hx hb dw_997 rfl (lv_at hl 3 rfl) ?_
  refine b_methI (mi := 164) (o := (0, 90)) (as := []) (rest := [.int x]) (k := fun y w2 => y = x ∧ Inv (n + 1) w2) (X := [(qo, .inl (cJ, 1, .inr (.inl f)))]) (own := RL) (cW := cW) (cP := cP) (ad := ad) (hk) (by decide) (by decide) (Or.inl (by decide)) rfl rfl (by decide) (by decide +kernel) trivial (show 1 ≤ mM 164 by decide) (show 1 = mN 164 by decide) hx hb hml hown hts hK hZ hP hD hS hA (in_gT (List.mem_of_getElem? (i := 1401) (by decide +kernel)) rfl) ⟨by decide +kernel, by decide +kernel⟩ hl.1 (Nat.le_of_ble_eq_true rfl) dw_998 ⟨by omega, by omega⟩ (fun y w2 H locs hk2 hP hD hS => ?_)
  obtain ⟨rfl, hi2⟩ := hk2
  refine lv_icmp_eq (tgt := 1647) hx hb dw_1001 (by decide) (fun _ => ?_) (fun h => absurd rfl h)
  exact W.widen (k := cells + 1) (n := slots + 6) (by omega) (by omega) (kk _ _ _ _ _ hi2 hP hD hS hl)
set_option maxHeartbeats 1000000 in
theorem law_c22 (X : LC p s m args c D cI cZ cJ cW cP ad A b L xs) (hi : Inv n w) (hn : n ≤ 600) (hil : 6 * n + 5 < L) (hP : va_P D vwCl (wsOf ad cI cZ cJ cW cP w ++ [(qo, .inl (cJ, 1, .inr (.inl f)))]) H) (hD : va_D A (wsOf ad cI cZ cJ cW cP w ++ [(qo, .inl (cJ, 1, .inr (.inl f)))])) (hS : va_S A s.heap H locs) (hl : lv_has ls 8 (lvh n b qo ad)) (hc : cells + 1 ≤ room_1.cells ∧ slots + 6 ≤ room_1.slots) (kk : LK p l e s m args below meth c cells slots Q D cI cZ cJ cW cP ad A b n qo) : W p l e room_1 s m args below meth c H locs cells slots Q (F0 m 1006 ls []) := by
  obtain ⟨hx, hb, hml, hown, hts, hK, hZ, hA, hX, hbl, hbA, h3k⟩ := id X
  refine lv_aload_n hx hb dw_1006 rfl (lv_at hl 2 rfl) ?_
  refine law_rd (j := 1) X hS hl hil dw_1007 dw_1008 dw_1010 dw_1011 dw_1012 (by decide) (by omega) ?_
  refine law_rd (j := 2) X hS hl hil dw_1013 dw_1014 dw_1016 dw_1017 dw_1018 (by decide) (by omega) ?_
  refine law_rd (j := 3) X hS hl hil dw_1019 dw_1020 dw_1022 dw_1023 dw_1024 (by decide) (by omega) ?_
  refine b_methI (mi := 81) (o := (0, 0)) (as := [vI (xs (6 * n + 1)), vI (xs (6 * n + 2)), vI (xs (6 * n + 3))]) (rest := []) (k := fun x w1 => Cl 167 [vO 0 90, vI (xs (6 * n + 1)), vI (xs (6 * n + 2)), vI (xs (6 * n + 3))] w1 (kI fun y w2 => y = x ∧ Inv (n + 1) w2)) (X := [(qo, .inl (cJ, 1, .inr (.inl f)))]) (own := RL) (cW := cW) (cP := cP) (ad := ad) (o_trial hi) (by decide) (by decide) (Or.inl (by decide)) rfl rfl (by decide) (by decide +kernel) ⟨trivial, trivial, trivial, trivial⟩ (show 4 ≤ mM 81 by decide) (show 4 = mN 81 by decide) hx hb hml hown hts hK hZ hP hD hS hA (in_gT (List.mem_of_getElem? (i := 819) (by decide +kernel)) rfl) ⟨by decide +kernel, by decide +kernel⟩ hl.1 (Nat.le_of_ble_eq_true rfl) dw_1025 ⟨by omega, by omega⟩ (fun x w1 H locs hk hP hD hS => ?_)
  refine lv_aload_n hx hb dw_1028 rfl (lv_at hl 3 rfl) ?_
  refine law_rd (j := 1) X hS hl hil dw_1029 dw_1030 dw_1032 dw_1033 dw_1034 (by decide) (by omega) ?_
  refine law_rd (j := 2) X hS hl hil dw_1035 dw_1036 dw_1038 dw_1039 dw_1040 (by decide) (by omega) ?_
  refine law_rd (j := 3) X hS hl hil dw_1041 dw_1042 dw_1044 dw_1045 dw_1046 (by decide) (by omega) ?_
  refine b_methI (mi := 167) (o := (0, 90)) (as := [vI (xs (6 * n + 1)), vI (xs (6 * n + 2)), vI (xs (6 * n + 3))]) (rest := [.int x]) (k := fun y w2 => y = x ∧ Inv (n + 1) w2) (X := [(qo, .inl (cJ, 1, .inr (.inl f)))]) (own := RL) (cW := cW) (cP := cP) (ad := ad) (hk) (by decide) (by decide) (Or.inl (by decide)) rfl rfl (by decide) (by decide +kernel) ⟨trivial, trivial, trivial, trivial⟩ (show 4 ≤ mM 167 by decide) (show 4 = mN 167 by decide) hx hb hml hown hts hK hZ hP hD hS hA (in_gT (List.mem_of_getElem? (i := 1405) (by decide +kernel)) rfl) ⟨by decide +kernel, by decide +kernel⟩ hl.1 (Nat.le_of_ble_eq_true rfl) dw_1047 ⟨by omega, by omega⟩ (fun y w2 H locs hk2 hP hD hS => ?_)
  obtain ⟨rfl, hi2⟩ := hk2
  refine lv_icmp_eq (tgt := 1647) hx hb dw_1050 (by decide) (fun _ => ?_) (fun h => absurd rfl h)
  exact W.widen (k := cells + 1) (n := slots + 6) (by omega) (by omega) (kk _ _ _ _ _ hi2 hP hD hS hl)
set_option maxHeartbeats 1000000 in
theorem law_c23 (X : LC p s m args c D cI cZ cJ cW cP ad A b L xs) (hi : Inv n w) (hn : n ≤ 600) (hil : 6 * n + 5 < L) (hP : va_P D vwCl (wsOf ad cI cZ cJ cW cP w ++ [(qo, .inl (cJ, 1, .inr (.inl f)))]) H) (hD : va_D A (wsOf ad cI cZ cJ cW cP w ++ [(qo, .inl (cJ, 1, .inr (.inl f)))])) (hS : va_S A s.heap H locs) (hl : lv_has ls 8 (lvh n b qo ad)) (hc : cells + 1 ≤ room_1.cells ∧ slots + 6 ≤ room_1.slots) (kk : LK p l e s m args below meth c cells slots Q D cI cZ cJ cW cP ad A b n qo) : W p l e room_1 s m args below meth c H locs cells slots Q (F0 m 1055 ls []) := by
  obtain ⟨hx, hb, hml, hown, hts, hK, hZ, hA, hX, hbl, hbA, h3k⟩ := id X
  refine lv_aload_n hx hb dw_1055 rfl (lv_at hl 2 rfl) ?_
  refine law_rd (j := 1) X hS hl hil dw_1056 dw_1057 dw_1059 dw_1060 dw_1061 (by decide) (by omega) ?_
  refine law_rd (j := 2) X hS hl hil dw_1062 dw_1063 dw_1065 dw_1066 dw_1067 (by decide) (by omega) ?_
  refine b_methI (mi := 82) (o := (0, 0)) (as := [vI (xs (6 * n + 1)), vI (xs (6 * n + 2))]) (rest := []) (k := fun x w1 => Cl 170 [vO 0 90, vI (xs (6 * n + 1)), vI (xs (6 * n + 2))] w1 (kI fun y w2 => y = x ∧ Inv (n + 1) w2)) (X := [(qo, .inl (cJ, 1, .inr (.inl f)))]) (own := RL) (cW := cW) (cP := cP) (ad := ad) (o_best hi) (by decide) (by decide) (Or.inl (by decide)) rfl rfl (by decide) (by decide +kernel) ⟨trivial, trivial, trivial⟩ (show 3 ≤ mM 82 by decide) (show 3 = mN 82 by decide) hx hb hml hown hts hK hZ hP hD hS hA (in_gT (List.mem_of_getElem? (i := 850) (by decide +kernel)) rfl) ⟨by decide +kernel, by decide +kernel⟩ hl.1 (Nat.le_of_ble_eq_true rfl) dw_1068 ⟨by omega, by omega⟩ (fun x w1 H locs hk hP hD hS => ?_)
  refine lv_aload_n hx hb dw_1071 rfl (lv_at hl 3 rfl) ?_
  refine law_rd (j := 1) X hS hl hil dw_1072 dw_1073 dw_1075 dw_1076 dw_1077 (by decide) (by omega) ?_
  refine law_rd (j := 2) X hS hl hil dw_1078 dw_1079 dw_1081 dw_1082 dw_1083 (by decide) (by omega) ?_
  refine b_methI (mi := 170) (o := (0, 90)) (as := [vI (xs (6 * n + 1)), vI (xs (6 * n + 2))]) (rest := [.int x]) (k := fun y w2 => y = x ∧ Inv (n + 1) w2) (X := [(qo, .inl (cJ, 1, .inr (.inl f)))]) (own := RL) (cW := cW) (cP := cP) (ad := ad) (hk) (by decide) (by decide) (Or.inl (by decide)) rfl rfl (by decide) (by decide +kernel) ⟨trivial, trivial, trivial⟩ (show 3 ≤ mM 170 by decide) (show 3 = mN 170 by decide) hx hb hml hown hts hK hZ hP hD hS hA (in_gT (List.mem_of_getElem? (i := 1417) (by decide +kernel)) rfl) ⟨by decide +kernel, by decide +kernel⟩ hl.1 (Nat.le_of_ble_eq_true rfl) dw_1084 ⟨by omega, by omega⟩ (fun y w2 H locs hk2 hP hD hS => ?_)
  obtain ⟨rfl, hi2⟩ := hk2
  refine lv_icmp_eq (tgt := 1647) hx hb dw_1087 (by decide) (fun _ => ?_) (fun h => absurd rfl h)
  exact W.widen (k := cells + 1) (n := slots + 6) (by omega) (by omega) (kk _ _ _ _ _ hi2 hP hD hS hl)
set_option maxHeartbeats 1000000 in
theorem law_c24 (X : LC p s m args c D cI cZ cJ cW cP ad A b L xs) (hi : Inv n w) (hn : n ≤ 600) (hil : 6 * n + 5 < L) (hP : va_P D vwCl (wsOf ad cI cZ cJ cW cP w ++ [(qo, .inl (cJ, 1, .inr (.inl f)))]) H) (hD : va_D A (wsOf ad cI cZ cJ cW cP w ++ [(qo, .inl (cJ, 1, .inr (.inl f)))])) (hS : va_S A s.heap H locs) (hl : lv_has ls 8 (lvh n b qo ad)) (hc : cells + 1 ≤ room_1.cells ∧ slots + 6 ≤ room_1.slots) (kk : LK p l e s m args below meth c cells slots Q D cI cZ cJ cW cP ad A b n qo) : W p l e room_1 s m args below meth c H locs cells slots Q (F0 m 1092 ls []) := by
  obtain ⟨hx, hb, hml, hown, hts, hK, hZ, hA, hX, hbl, hbA, h3k⟩ := id X
  refine lv_aload_n hx hb dw_1092 rfl (lv_at hl 2 rfl) ?_
  refine law_rd (j := 1) X hS hl hil dw_1093 dw_1094 dw_1096 dw_1097 dw_1098 (by decide) (by omega) ?_
  refine law_rd (j := 2) X hS hl hil dw_1099 dw_1100 dw_1102 dw_1103 dw_1104 (by decide) (by omega) ?_
  refine law_rd (j := 3) X hS hl hil dw_1105 dw_1106 dw_1108 dw_1109 dw_1110 (by decide) (by omega) ?_
  refine b_methI (mi := 83) (o := (0, 0)) (as := [vI (xs (6 * n + 1)), vI (xs (6 * n + 2)), vI (xs (6 * n + 3))]) (rest := []) (k := fun x w1 => Cl 171 [vO 0 90, vI (xs (6 * n + 1)), vI (xs (6 * n + 2)), vI (xs (6 * n + 3))] w1 (kI fun y w2 => y = x ∧ Inv (n + 1) w2)) (X := [(qo, .inl (cJ, 1, .inr (.inl f)))]) (own := RL) (cW := cW) (cP := cP) (ad := ad) (o_worst hi) (by decide) (by decide) (Or.inl (by decide)) rfl rfl (by decide) (by decide +kernel) ⟨trivial, trivial, trivial, trivial⟩ (show 4 ≤ mM 83 by decide) (show 4 = mN 83 by decide) hx hb hml hown hts hK hZ hP hD hS hA (in_gT (List.mem_of_getElem? (i := 864) (by decide +kernel)) rfl) ⟨by decide +kernel, by decide +kernel⟩ hl.1 (Nat.le_of_ble_eq_true rfl) dw_1111 ⟨by omega, by omega⟩ (fun x w1 H locs hk hP hD hS => ?_)
  refine lv_aload_n hx hb dw_1114 rfl (lv_at hl 3 rfl) ?_
  refine law_rd (j := 1) X hS hl hil dw_1115 dw_1116 dw_1118 dw_1119 dw_1120 (by decide) (by omega) ?_
  refine law_rd (j := 2) X hS hl hil dw_1121 dw_1122 dw_1124 dw_1125 dw_1126 (by decide) (by omega) ?_
  refine law_rd (j := 3) X hS hl hil dw_1127 dw_1128 dw_1130 dw_1131 dw_1132 (by decide) (by omega) ?_
  refine b_methI (mi := 171) (o := (0, 90)) (as := [vI (xs (6 * n + 1)), vI (xs (6 * n + 2)), vI (xs (6 * n + 3))]) (rest := [.int x]) (k := fun y w2 => y = x ∧ Inv (n + 1) w2) (X := [(qo, .inl (cJ, 1, .inr (.inl f)))]) (own := RL) (cW := cW) (cP := cP) (ad := ad) (hk) (by decide) (by decide) (Or.inl (by decide)) rfl rfl (by decide) (by decide +kernel) ⟨trivial, trivial, trivial, trivial⟩ (show 4 ≤ mM 171 by decide) (show 4 = mN 171 by decide) hx hb hml hown hts hK hZ hP hD hS hA (in_gT (List.mem_of_getElem? (i := 1428) (by decide +kernel)) rfl) ⟨by decide +kernel, by decide +kernel⟩ hl.1 (Nat.le_of_ble_eq_true rfl) dw_1133 ⟨by omega, by omega⟩ (fun y w2 H locs hk2 hP hD hS => ?_)
  obtain ⟨rfl, hi2⟩ := hk2
  refine lv_icmp_eq (tgt := 1647) hx hb dw_1136 (by decide) (fun _ => ?_) (fun h => absurd rfl h)
  exact W.widen (k := cells + 1) (n := slots + 6) (by omega) (by omega) (kk _ _ _ _ _ hi2 hP hD hS hl)
set_option maxHeartbeats 1000000 in
theorem law_c25 (X : LC p s m args c D cI cZ cJ cW cP ad A b L xs) (hi : Inv n w) (hn : n ≤ 600) (hil : 6 * n + 5 < L) (hP : va_P D vwCl (wsOf ad cI cZ cJ cW cP w ++ [(qo, .inl (cJ, 1, .inr (.inl f)))]) H) (hD : va_D A (wsOf ad cI cZ cJ cW cP w ++ [(qo, .inl (cJ, 1, .inr (.inl f)))])) (hS : va_S A s.heap H locs) (hl : lv_has ls 8 (lvh n b qo ad)) (hc : cells + 1 ≤ room_1.cells ∧ slots + 6 ≤ room_1.slots) (kk : LK p l e s m args below meth c cells slots Q D cI cZ cJ cW cP ad A b n qo) : W p l e room_1 s m args below meth c H locs cells slots Q (F0 m 1141 ls []) := by
  obtain ⟨hx, hb, hml, hown, hts, hK, hZ, hA, hX, hbl, hbA, h3k⟩ := id X
  refine lv_aload_n hx hb dw_1141 rfl (lv_at hl 2 rfl) ?_
  refine law_rd (j := 1) X hS hl hil dw_1142 dw_1143 dw_1145 dw_1146 dw_1147 (by decide) (by omega) ?_
  refine b_methI (mi := 84) (o := (0, 0)) (as := [vI (xs (6 * n + 1))]) (rest := []) (k := fun x w1 => Cl 172 [vO 0 90, vI (xs (6 * n + 1))] w1 (kI fun y w2 => y = x ∧ Inv (n + 1) w2)) (X := [(qo, .inl (cJ, 1, .inr (.inl f)))]) (own := RL) (cW := cW) (cP := cP) (ad := ad) (o_taken hi) (by decide) (by decide) (Or.inl (by decide)) rfl rfl (by decide) (by decide +kernel) ⟨trivial, trivial⟩ (show 2 ≤ mM 84 by decide) (show 2 = mN 84 by decide) hx hb hml hown hts hK hZ hP hD hS hA (in_gT (List.mem_of_getElem? (i := 868) (by decide +kernel)) rfl) ⟨by decide +kernel, by decide +kernel⟩ hl.1 (Nat.le_of_ble_eq_true rfl) dw_1148 ⟨by omega, by omega⟩ (fun x w1 H locs hk hP hD hS => ?_)
  refine lv_aload_n hx hb dw_1151 rfl (lv_at hl 3 rfl) ?_
  refine law_rd (j := 1) X hS hl hil dw_1152 dw_1153 dw_1155 dw_1156 dw_1157 (by decide) (by omega) ?_
  refine b_methI (mi := 172) (o := (0, 90)) (as := [vI (xs (6 * n + 1))]) (rest := [.int x]) (k := fun y w2 => y = x ∧ Inv (n + 1) w2) (X := [(qo, .inl (cJ, 1, .inr (.inl f)))]) (own := RL) (cW := cW) (cP := cP) (ad := ad) (hk) (by decide) (by decide) (Or.inl (by decide)) rfl rfl (by decide) (by decide +kernel) ⟨trivial, trivial⟩ (show 2 ≤ mM 172 by decide) (show 2 = mN 172 by decide) hx hb hml hown hts hK hZ hP hD hS hA (in_gT (List.mem_of_getElem? (i := 1432) (by decide +kernel)) rfl) ⟨by decide +kernel, by decide +kernel⟩ hl.1 (Nat.le_of_ble_eq_true rfl) dw_1158 ⟨by omega, by omega⟩ (fun y w2 H locs hk2 hP hD hS => ?_)
  obtain ⟨rfl, hi2⟩ := hk2
  refine lv_icmp_eq (tgt := 1647) hx hb dw_1161 (by decide) (fun _ => ?_) (fun h => absurd rfl h)
  exact W.widen (k := cells + 1) (n := slots + 6) (by omega) (by omega) (kk _ _ _ _ _ hi2 hP hD hS hl)
set_option maxHeartbeats 1000000 in
theorem law_c26 (X : LC p s m args c D cI cZ cJ cW cP ad A b L xs) (hi : Inv n w) (hn : n ≤ 600) (hil : 6 * n + 5 < L) (hP : va_P D vwCl (wsOf ad cI cZ cJ cW cP w ++ [(qo, .inl (cJ, 1, .inr (.inl f)))]) H) (hD : va_D A (wsOf ad cI cZ cJ cW cP w ++ [(qo, .inl (cJ, 1, .inr (.inl f)))])) (hS : va_S A s.heap H locs) (hl : lv_has ls 8 (lvh n b qo ad)) (hc : cells + 1 ≤ room_1.cells ∧ slots + 6 ≤ room_1.slots) (kk : LK p l e s m args below meth c cells slots Q D cI cZ cJ cW cP ad A b n qo) : W p l e room_1 s m args below meth c H locs cells slots Q (F0 m 1166 ls []) := by
  obtain ⟨hx, hb, hml, hown, hts, hK, hZ, hA, hX, hbl, hbA, h3k⟩ := id X
  refine lv_aload_n hx hb dw_1166 rfl (lv_at hl 2 rfl) ?_
  refine law_rd (j := 1) X hS hl hil dw_1167 dw_1168 dw_1170 dw_1171 dw_1172 (by decide) (by omega) ?_
  refine law_rd (j := 2) X hS hl hil dw_1173 dw_1174 dw_1176 dw_1177 dw_1178 (by decide) (by omega) ?_
  refine law_rd (j := 3) X hS hl hil dw_1179 dw_1180 dw_1182 dw_1183 dw_1184 (by decide) (by omega) ?_
  refine b_methI (mi := 85) (o := (0, 0)) (as := [vI (xs (6 * n + 1)), vI (xs (6 * n + 2)), vI (xs (6 * n + 3))]) (rest := []) (k := fun x w1 => Cl 173 [vO 0 90, vI (xs (6 * n + 1)), vI (xs (6 * n + 2)), vI (xs (6 * n + 3))] w1 (kI fun y w2 => y = x ∧ Inv (n + 1) w2)) (X := [(qo, .inl (cJ, 1, .inr (.inl f)))]) (own := RL) (cW := cW) (cP := cP) (ad := ad) (o_mark hi) (by decide) (by decide) (Or.inl (by decide)) rfl rfl (by decide) (by decide +kernel) ⟨trivial, trivial, trivial, trivial⟩ (show 4 ≤ mM 85 by decide) (show 4 = mN 85 by decide) hx hb hml hown hts hK hZ hP hD hS hA (in_gT (List.mem_of_getElem? (i := 872) (by decide +kernel)) rfl) ⟨by decide +kernel, by decide +kernel⟩ hl.1 (Nat.le_of_ble_eq_true rfl) dw_1185 ⟨by omega, by omega⟩ (fun x w1 H locs hk hP hD hS => ?_)
  refine lv_aload_n hx hb dw_1188 rfl (lv_at hl 3 rfl) ?_
  refine law_rd (j := 1) X hS hl hil dw_1189 dw_1190 dw_1192 dw_1193 dw_1194 (by decide) (by omega) ?_
  refine law_rd (j := 2) X hS hl hil dw_1195 dw_1196 dw_1198 dw_1199 dw_1200 (by decide) (by omega) ?_
  refine law_rd (j := 3) X hS hl hil dw_1201 dw_1202 dw_1204 dw_1205 dw_1206 (by decide) (by omega) ?_
  refine b_methI (mi := 173) (o := (0, 90)) (as := [vI (xs (6 * n + 1)), vI (xs (6 * n + 2)), vI (xs (6 * n + 3))]) (rest := [.int x]) (k := fun y w2 => y = x ∧ Inv (n + 1) w2) (X := [(qo, .inl (cJ, 1, .inr (.inl f)))]) (own := RL) (cW := cW) (cP := cP) (ad := ad) (hk) (by decide) (by decide) (Or.inl (by decide)) rfl rfl (by decide) (by decide +kernel) ⟨trivial, trivial, trivial, trivial⟩ (show 4 ≤ mM 173 by decide) (show 4 = mN 173 by decide) hx hb hml hown hts hK hZ hP hD hS hA (in_gT (List.mem_of_getElem? (i := 1436) (by decide +kernel)) rfl) ⟨by decide +kernel, by decide +kernel⟩ hl.1 (Nat.le_of_ble_eq_true rfl) dw_1207 ⟨by omega, by omega⟩ (fun y w2 H locs hk2 hP hD hS => ?_)
  obtain ⟨rfl, hi2⟩ := hk2
  refine lv_icmp_eq (tgt := 1647) hx hb dw_1210 (by decide) (fun _ => ?_) (fun h => absurd rfl h)
  exact W.widen (k := cells + 1) (n := slots + 6) (by omega) (by omega) (kk _ _ _ _ _ hi2 hP hD hS hl)
set_option maxHeartbeats 1000000 in
theorem law_c27 (X : LC p s m args c D cI cZ cJ cW cP ad A b L xs) (hi : Inv n w) (hn : n ≤ 600) (hil : 6 * n + 5 < L) (hP : va_P D vwCl (wsOf ad cI cZ cJ cW cP w ++ [(qo, .inl (cJ, 1, .inr (.inl f)))]) H) (hD : va_D A (wsOf ad cI cZ cJ cW cP w ++ [(qo, .inl (cJ, 1, .inr (.inl f)))])) (hS : va_S A s.heap H locs) (hl : lv_has ls 8 (lvh n b qo ad)) (hc : cells + 1 ≤ room_1.cells ∧ slots + 6 ≤ room_1.slots) (kk : LK p l e s m args below meth c cells slots Q D cI cZ cJ cW cP ad A b n qo) : W p l e room_1 s m args below meth c H locs cells slots Q (F0 m 1215 ls []) := by
  obtain ⟨hx, hb, hml, hown, hts, hK, hZ, hA, hX, hbl, hbA, h3k⟩ := id X
  refine lv_aload_n hx hb dw_1215 rfl (lv_at hl 2 rfl) ?_
  refine law_rd (j := 1) X hS hl hil dw_1216 dw_1217 dw_1219 dw_1220 dw_1221 (by decide) (by omega) ?_
  refine law_rd (j := 2) X hS hl hil dw_1222 dw_1223 dw_1225 dw_1226 dw_1227 (by decide) (by omega) ?_
  refine b_methI (mi := 86) (o := (0, 0)) (as := [vI (xs (6 * n + 1)), vI (xs (6 * n + 2))]) (rest := []) (k := fun x w1 => Cl 174 [vO 0 90, vI (xs (6 * n + 1)), vI (xs (6 * n + 2))] w1 (kI fun y w2 => y = x ∧ Inv (n + 1) w2)) (X := [(qo, .inl (cJ, 1, .inr (.inl f)))]) (own := RL) (cW := cW) (cP := cP) (ad := ad) (o_fits hi) (by decide) (by decide) (Or.inl (by decide)) rfl rfl (by decide) (by decide +kernel) ⟨trivial, trivial, trivial⟩ (show 3 ≤ mM 86 by decide) (show 3 = mN 86 by decide) hx hb hml hown hts hK hZ hP hD hS hA (in_gT (List.mem_of_getElem? (i := 880) (by decide +kernel)) rfl) ⟨by decide +kernel, by decide +kernel⟩ hl.1 (Nat.le_of_ble_eq_true rfl) dw_1228 ⟨by omega, by omega⟩ (fun x w1 H locs hk hP hD hS => ?_)
  refine lv_aload_n hx hb dw_1231 rfl (lv_at hl 3 rfl) ?_
  refine law_rd (j := 1) X hS hl hil dw_1232 dw_1233 dw_1235 dw_1236 dw_1237 (by decide) (by omega) ?_
  refine law_rd (j := 2) X hS hl hil dw_1238 dw_1239 dw_1241 dw_1242 dw_1243 (by decide) (by omega) ?_
  refine b_methI (mi := 174) (o := (0, 90)) (as := [vI (xs (6 * n + 1)), vI (xs (6 * n + 2))]) (rest := [.int x]) (k := fun y w2 => y = x ∧ Inv (n + 1) w2) (X := [(qo, .inl (cJ, 1, .inr (.inl f)))]) (own := RL) (cW := cW) (cP := cP) (ad := ad) (hk) (by decide) (by decide) (Or.inl (by decide)) rfl rfl (by decide) (by decide +kernel) ⟨trivial, trivial, trivial⟩ (show 3 ≤ mM 174 by decide) (show 3 = mN 174 by decide) hx hb hml hown hts hK hZ hP hD hS hA (in_gT (List.mem_of_getElem? (i := 1440) (by decide +kernel)) rfl) ⟨by decide +kernel, by decide +kernel⟩ hl.1 (Nat.le_of_ble_eq_true rfl) dw_1244 ⟨by omega, by omega⟩ (fun y w2 H locs hk2 hP hD hS => ?_)
  obtain ⟨rfl, hi2⟩ := hk2
  refine lv_icmp_eq (tgt := 1647) hx hb dw_1247 (by decide) (fun _ => ?_) (fun h => absurd rfl h)
  exact W.widen (k := cells + 1) (n := slots + 6) (by omega) (by omega) (kk _ _ _ _ _ hi2 hP hD hS hl)
set_option maxHeartbeats 1000000 in
theorem law_c28 (X : LC p s m args c D cI cZ cJ cW cP ad A b L xs) (hi : Inv n w) (hn : n ≤ 600) (hil : 6 * n + 5 < L) (hP : va_P D vwCl (wsOf ad cI cZ cJ cW cP w ++ [(qo, .inl (cJ, 1, .inr (.inl f)))]) H) (hD : va_D A (wsOf ad cI cZ cJ cW cP w ++ [(qo, .inl (cJ, 1, .inr (.inl f)))])) (hS : va_S A s.heap H locs) (hl : lv_has ls 8 (lvh n b qo ad)) (hc : cells + 1 ≤ room_1.cells ∧ slots + 6 ≤ room_1.slots) (kk : LK p l e s m args below meth c cells slots Q D cI cZ cJ cW cP ad A b n qo) : W p l e room_1 s m args below meth c H locs cells slots Q (F0 m 1252 ls []) := by
  obtain ⟨hx, hb, hml, hown, hts, hK, hZ, hA, hX, hbl, hbA, h3k⟩ := id X
  refine lv_aload_n hx hb dw_1252 rfl (lv_at hl 2 rfl) ?_
  refine law_rd (j := 1) X hS hl hil dw_1253 dw_1254 dw_1256 dw_1257 dw_1258 (by decide) (by omega) ?_
  refine law_rd (j := 2) X hS hl hil dw_1259 dw_1260 dw_1262 dw_1263 dw_1264 (by decide) (by omega) ?_
  refine law_rd (j := 3) X hS hl hil dw_1265 dw_1266 dw_1268 dw_1269 dw_1270 (by decide) (by omega) ?_
  refine b_methI (mi := 87) (o := (0, 0)) (as := [vI (xs (6 * n + 1)), vI (xs (6 * n + 2)), vI (xs (6 * n + 3))]) (rest := []) (k := fun x w1 => Cl 175 [vO 0 90, vI (xs (6 * n + 1)), vI (xs (6 * n + 2)), vI (xs (6 * n + 3))] w1 (kI fun y w2 => y = x ∧ Inv (n + 1) w2)) (X := [(qo, .inl (cJ, 1, .inr (.inl f)))]) (own := RL) (cW := cW) (cP := cP) (ad := ad) (o_tape hi) (by decide) (by decide) (Or.inl (by decide)) rfl rfl (by decide) (by decide +kernel) ⟨trivial, trivial, trivial, trivial⟩ (show 4 ≤ mM 87 by decide) (show 4 = mN 87 by decide) hx hb hml hown hts hK hZ hP hD hS hA (in_gT (List.mem_of_getElem? (i := 889) (by decide +kernel)) rfl) ⟨by decide +kernel, by decide +kernel⟩ hl.1 (Nat.le_of_ble_eq_true rfl) dw_1271 ⟨by omega, by omega⟩ (fun x w1 H locs hk hP hD hS => ?_)
  refine lv_aload_n hx hb dw_1274 rfl (lv_at hl 3 rfl) ?_
  refine law_rd (j := 1) X hS hl hil dw_1275 dw_1276 dw_1278 dw_1279 dw_1280 (by decide) (by omega) ?_
  refine law_rd (j := 2) X hS hl hil dw_1281 dw_1282 dw_1284 dw_1285 dw_1286 (by decide) (by omega) ?_
  refine law_rd (j := 3) X hS hl hil dw_1287 dw_1288 dw_1290 dw_1291 dw_1292 (by decide) (by omega) ?_
  refine b_methI (mi := 175) (o := (0, 90)) (as := [vI (xs (6 * n + 1)), vI (xs (6 * n + 2)), vI (xs (6 * n + 3))]) (rest := [.int x]) (k := fun y w2 => y = x ∧ Inv (n + 1) w2) (X := [(qo, .inl (cJ, 1, .inr (.inl f)))]) (own := RL) (cW := cW) (cP := cP) (ad := ad) (hk) (by decide) (by decide) (Or.inl (by decide)) rfl rfl (by decide) (by decide +kernel) ⟨trivial, trivial, trivial, trivial⟩ (show 4 ≤ mM 175 by decide) (show 4 = mN 175 by decide) hx hb hml hown hts hK hZ hP hD hS hA (in_gT (List.mem_of_getElem? (i := 1444) (by decide +kernel)) rfl) ⟨by decide +kernel, by decide +kernel⟩ hl.1 (Nat.le_of_ble_eq_true rfl) dw_1293 ⟨by omega, by omega⟩ (fun y w2 H locs hk2 hP hD hS => ?_)
  obtain ⟨rfl, hi2⟩ := hk2
  refine lv_icmp_eq (tgt := 1647) hx hb dw_1296 (by decide) (fun _ => ?_) (fun h => absurd rfl h)
  exact W.widen (k := cells + 1) (n := slots + 6) (by omega) (by omega) (kk _ _ _ _ _ hi2 hP hD hS hl)
set_option maxHeartbeats 1000000 in
theorem law_c29 (X : LC p s m args c D cI cZ cJ cW cP ad A b L xs) (hi : Inv n w) (hn : n ≤ 600) (hil : 6 * n + 5 < L) (hP : va_P D vwCl (wsOf ad cI cZ cJ cW cP w ++ [(qo, .inl (cJ, 1, .inr (.inl f)))]) H) (hD : va_D A (wsOf ad cI cZ cJ cW cP w ++ [(qo, .inl (cJ, 1, .inr (.inl f)))])) (hS : va_S A s.heap H locs) (hl : lv_has ls 8 (lvh n b qo ad)) (hc : cells + 1 ≤ room_1.cells ∧ slots + 6 ≤ room_1.slots) (kk : LK p l e s m args below meth c cells slots Q D cI cZ cJ cW cP ad A b n qo) : W p l e room_1 s m args below meth c H locs cells slots Q (F0 m 1301 ls []) := by
  obtain ⟨hx, hb, hml, hown, hts, hK, hZ, hA, hX, hbl, hbA, h3k⟩ := id X
  refine lv_aload_n hx hb dw_1301 rfl (lv_at hl 2 rfl) ?_
  refine law_rd (j := 1) X hS hl hil dw_1302 dw_1303 dw_1305 dw_1306 dw_1307 (by decide) (by omega) ?_
  refine b_methI (mi := 88) (o := (0, 0)) (as := [vI (xs (6 * n + 1))]) (rest := []) (k := fun x w1 => Cl 176 [vO 0 90, vI (xs (6 * n + 1))] w1 (kI fun y w2 => y = x ∧ Inv (n + 1) w2)) (X := [(qo, .inl (cJ, 1, .inr (.inl f)))]) (own := RL) (cW := cW) (cP := cP) (ad := ad) (o_keep hi) (by decide) (by decide) (Or.inl (by decide)) rfl rfl (by decide) (by decide +kernel) ⟨trivial, trivial⟩ (show 2 ≤ mM 88 by decide) (show 2 = mN 88 by decide) hx hb hml hown hts hK hZ hP hD hS hA (in_gT (List.mem_of_getElem? (i := 897) (by decide +kernel)) rfl) ⟨by decide +kernel, by decide +kernel⟩ hl.1 (Nat.le_of_ble_eq_true rfl) dw_1308 ⟨by omega, by omega⟩ (fun x w1 H locs hk hP hD hS => ?_)
  refine lv_aload_n hx hb dw_1311 rfl (lv_at hl 3 rfl) ?_
  refine law_rd (j := 1) X hS hl hil dw_1312 dw_1313 dw_1315 dw_1316 dw_1317 (by decide) (by omega) ?_
  refine b_methI (mi := 176) (o := (0, 90)) (as := [vI (xs (6 * n + 1))]) (rest := [.int x]) (k := fun y w2 => y = x ∧ Inv (n + 1) w2) (X := [(qo, .inl (cJ, 1, .inr (.inl f)))]) (own := RL) (cW := cW) (cP := cP) (ad := ad) (hk) (by decide) (by decide) (Or.inl (by decide)) rfl rfl (by decide) (by decide +kernel) ⟨trivial, trivial⟩ (show 2 ≤ mM 176 by decide) (show 2 = mN 176 by decide) hx hb hml hown hts hK hZ hP hD hS hA (in_gT (List.mem_of_getElem? (i := 1448) (by decide +kernel)) rfl) ⟨by decide +kernel, by decide +kernel⟩ hl.1 (Nat.le_of_ble_eq_true rfl) dw_1318 ⟨by omega, by omega⟩ (fun y w2 H locs hk2 hP hD hS => ?_)
  obtain ⟨rfl, hi2⟩ := hk2
  refine lv_icmp_eq (tgt := 1647) hx hb dw_1321 (by decide) (fun _ => ?_) (fun h => absurd rfl h)
  exact W.widen (k := cells + 1) (n := slots + 6) (by omega) (by omega) (kk _ _ _ _ _ hi2 hP hD hS hl)
set_option maxHeartbeats 1000000 in
theorem law_c30 (X : LC p s m args c D cI cZ cJ cW cP ad A b L xs) (hi : Inv n w) (hn : n ≤ 600) (hil : 6 * n + 5 < L) (hP : va_P D vwCl (wsOf ad cI cZ cJ cW cP w ++ [(qo, .inl (cJ, 1, .inr (.inl f)))]) H) (hD : va_D A (wsOf ad cI cZ cJ cW cP w ++ [(qo, .inl (cJ, 1, .inr (.inl f)))])) (hS : va_S A s.heap H locs) (hl : lv_has ls 8 (lvh n b qo ad)) (hc : cells + 1 ≤ room_1.cells ∧ slots + 6 ≤ room_1.slots) (kk : LK p l e s m args below meth c cells slots Q D cI cZ cJ cW cP ad A b n qo) : W p l e room_1 s m args below meth c H locs cells slots Q (F0 m 1326 ls []) := by
  obtain ⟨hx, hb, hml, hown, hts, hK, hZ, hA, hX, hbl, hbA, h3k⟩ := id X
  refine lv_aload_n hx hb dw_1326 rfl (lv_at hl 2 rfl) ?_
  refine law_rd (j := 1) X hS hl hil dw_1327 dw_1328 dw_1330 dw_1331 dw_1332 (by decide) (by omega) ?_
  refine b_methI (mi := 89) (o := (0, 0)) (as := [vI (xs (6 * n + 1))]) (rest := []) (k := fun x w1 => Cl 178 [vO 0 90, vI (xs (6 * n + 1))] w1 (kI fun y w2 => y = x ∧ Inv (n + 1) w2)) (X := [(qo, .inl (cJ, 1, .inr (.inl f)))]) (own := RL) (cW := cW) (cP := cP) (ad := ad) (o_back hi (by omega)) (by decide) (by decide) (Or.inl (by decide)) rfl rfl (by decide) (by decide +kernel) ⟨trivial, trivial⟩ (show 2 ≤ mM 89 by decide) (show 2 = mN 89 by decide) hx hb hml hown hts hK hZ hP hD hS hA (in_gT (List.mem_of_getElem? (i := 911) (by decide +kernel)) rfl) ⟨by decide +kernel, by decide +kernel⟩ hl.1 (Nat.le_of_ble_eq_true rfl) dw_1333 ⟨by omega, by omega⟩ (fun x w1 H locs hk hP hD hS => ?_)
  refine lv_aload_n hx hb dw_1336 rfl (lv_at hl 3 rfl) ?_
  refine law_rd (j := 1) X hS hl hil dw_1337 dw_1338 dw_1340 dw_1341 dw_1342 (by decide) (by omega) ?_
  refine b_methI (mi := 178) (o := (0, 90)) (as := [vI (xs (6 * n + 1))]) (rest := [.int x]) (k := fun y w2 => y = x ∧ Inv (n + 1) w2) (X := [(qo, .inl (cJ, 1, .inr (.inl f)))]) (own := RL) (cW := cW) (cP := cP) (ad := ad) (hk) (by decide) (by decide) (Or.inl (by decide)) rfl rfl (by decide) (by decide +kernel) ⟨trivial, trivial⟩ (show 2 ≤ mM 178 by decide) (show 2 = mN 178 by decide) hx hb hml hown hts hK hZ hP hD hS hA (in_gT (List.mem_of_getElem? (i := 1452) (by decide +kernel)) rfl) ⟨by decide +kernel, by decide +kernel⟩ hl.1 (Nat.le_of_ble_eq_true rfl) dw_1343 ⟨by omega, by omega⟩ (fun y w2 H locs hk2 hP hD hS => ?_)
  obtain ⟨rfl, hi2⟩ := hk2
  refine lv_icmp_eq (tgt := 1647) hx hb dw_1346 (by decide) (fun _ => ?_) (fun h => absurd rfl h)
  exact W.widen (k := cells + 1) (n := slots + 6) (by omega) (by omega) (kk _ _ _ _ _ hi2 hP hD hS hl)
set_option maxHeartbeats 1000000 in
theorem law_c31 (X : LC p s m args c D cI cZ cJ cW cP ad A b L xs) (hi : Inv n w) (hn : n ≤ 600) (hil : 6 * n + 5 < L) (hP : va_P D vwCl (wsOf ad cI cZ cJ cW cP w ++ [(qo, .inl (cJ, 1, .inr (.inl f)))]) H) (hD : va_D A (wsOf ad cI cZ cJ cW cP w ++ [(qo, .inl (cJ, 1, .inr (.inl f)))])) (hS : va_S A s.heap H locs) (hl : lv_has ls 8 (lvh n b qo ad)) (hc : cells + 1 ≤ room_1.cells ∧ slots + 6 ≤ room_1.slots) (kk : LK p l e s m args below meth c cells slots Q D cI cZ cJ cW cP ad A b n qo) : W p l e room_1 s m args below meth c H locs cells slots Q (F0 m 1351 ls []) := by
  obtain ⟨hx, hb, hml, hown, hts, hK, hZ, hA, hX, hbl, hbA, h3k⟩ := id X
  refine lv_aload_n hx hb dw_1351 rfl (lv_at hl 2 rfl) ?_
  refine law_rd (j := 1) X hS hl hil dw_1352 dw_1353 dw_1355 dw_1356 dw_1357 (by decide) (by omega) ?_
  refine b_methI (mi := 90) (o := (0, 0)) (as := [vI (xs (6 * n + 1))]) (rest := []) (k := fun x w1 => Cl 179 [vO 0 90, vI (xs (6 * n + 1))] w1 (kI fun y w2 => y = x ∧ Inv (n + 1) w2)) (X := [(qo, .inl (cJ, 1, .inr (.inl f)))]) (own := RL) (cW := cW) (cP := cP) (ad := ad) (o_toss hi) (by decide) (by decide) (Or.inl (by decide)) rfl rfl (by decide) (by decide +kernel) ⟨trivial, trivial⟩ (show 2 ≤ mM 90 by decide) (show 2 = mN 90 by decide) hx hb hml hown hts hK hZ hP hD hS hA (in_gT (List.mem_of_getElem? (i := 915) (by decide +kernel)) rfl) ⟨by decide +kernel, by decide +kernel⟩ hl.1 (Nat.le_of_ble_eq_true rfl) dw_1358 ⟨by omega, by omega⟩ (fun x w1 H locs hk hP hD hS => ?_)
  refine lv_aload_n hx hb dw_1361 rfl (lv_at hl 3 rfl) ?_
  refine law_rd (j := 1) X hS hl hil dw_1362 dw_1363 dw_1365 dw_1366 dw_1367 (by decide) (by omega) ?_
  refine b_methI (mi := 179) (o := (0, 90)) (as := [vI (xs (6 * n + 1))]) (rest := [.int x]) (k := fun y w2 => y = x ∧ Inv (n + 1) w2) (X := [(qo, .inl (cJ, 1, .inr (.inl f)))]) (own := RL) (cW := cW) (cP := cP) (ad := ad) (hk) (by decide) (by decide) (Or.inl (by decide)) rfl rfl (by decide) (by decide +kernel) ⟨trivial, trivial⟩ (show 2 ≤ mM 179 by decide) (show 2 = mN 179 by decide) hx hb hml hown hts hK hZ hP hD hS hA (in_gT (List.mem_of_getElem? (i := 1460) (by decide +kernel)) rfl) ⟨by decide +kernel, by decide +kernel⟩ hl.1 (Nat.le_of_ble_eq_true rfl) dw_1368 ⟨by omega, by omega⟩ (fun y w2 H locs hk2 hP hD hS => ?_)
  obtain ⟨rfl, hi2⟩ := hk2
  refine lv_icmp_eq (tgt := 1647) hx hb dw_1371 (by decide) (fun _ => ?_) (fun h => absurd rfl h)
  exact W.widen (k := cells + 1) (n := slots + 6) (by omega) (by omega) (kk _ _ _ _ _ hi2 hP hD hS hl)
set_option maxHeartbeats 1000000 in
theorem law_c32 (X : LC p s m args c D cI cZ cJ cW cP ad A b L xs) (hi : Inv n w) (hn : n ≤ 600) (hil : 6 * n + 5 < L) (hP : va_P D vwCl (wsOf ad cI cZ cJ cW cP w ++ [(qo, .inl (cJ, 1, .inr (.inl f)))]) H) (hD : va_D A (wsOf ad cI cZ cJ cW cP w ++ [(qo, .inl (cJ, 1, .inr (.inl f)))])) (hS : va_S A s.heap H locs) (hl : lv_has ls 8 (lvh n b qo ad)) (hc : cells + 1 ≤ room_1.cells ∧ slots + 6 ≤ room_1.slots) (kk : LK p l e s m args below meth c cells slots Q D cI cZ cJ cW cP ad A b n qo) : W p l e room_1 s m args below meth c H locs cells slots Q (F0 m 1376 ls []) := by
  obtain ⟨hx, hb, hml, hown, hts, hK, hZ, hA, hX, hbl, hbA, h3k⟩ := id X
  refine lv_aload_n hx hb dw_1376 rfl (lv_at hl 2 rfl) ?_
  refine law_rd (j := 1) X hS hl hil dw_1377 dw_1378 dw_1380 dw_1381 dw_1382 (by decide) (by omega) ?_
  refine b_methI (mi := 91) (o := (0, 0)) (as := [vI (xs (6 * n + 1))]) (rest := []) (k := fun x w1 => Cl 180 [vO 0 90, vI (xs (6 * n + 1))] w1 (kI fun y w2 => y = x ∧ Inv (n + 1) w2)) (X := [(qo, .inl (cJ, 1, .inr (.inl f)))]) (own := RL) (cW := cW) (cP := cP) (ad := ad) (o_clear hi) (by decide) (by decide) (Or.inl (by decide)) rfl rfl (by decide) (by decide +kernel) ⟨trivial, trivial⟩ (show 2 ≤ mM 91 by decide) (show 2 = mN 91 by decide) hx hb hml hown hts hK hZ hP hD hS hA (in_gT (List.mem_of_getElem? (i := 919) (by decide +kernel)) rfl) ⟨by decide +kernel, by decide +kernel⟩ hl.1 (Nat.le_of_ble_eq_true rfl) dw_1383 ⟨by omega, by omega⟩ (fun x w1 H locs hk hP hD hS => ?_)
  refine lv_aload_n hx hb dw_1386 rfl (lv_at hl 3 rfl) ?_
  refine law_rd (j := 1) X hS hl hil dw_1387 dw_1388 dw_1390 dw_1391 dw_1392 (by decide) (by omega) ?_
  refine b_methI (mi := 180) (o := (0, 90)) (as := [vI (xs (6 * n + 1))]) (rest := [.int x]) (k := fun y w2 => y = x ∧ Inv (n + 1) w2) (X := [(qo, .inl (cJ, 1, .inr (.inl f)))]) (own := RL) (cW := cW) (cP := cP) (ad := ad) (hk) (by decide) (by decide) (Or.inl (by decide)) rfl rfl (by decide) (by decide +kernel) ⟨trivial, trivial⟩ (show 2 ≤ mM 180 by decide) (show 2 = mN 180 by decide) hx hb hml hown hts hK hZ hP hD hS hA (in_gT (List.mem_of_getElem? (i := 1464) (by decide +kernel)) rfl) ⟨by decide +kernel, by decide +kernel⟩ hl.1 (Nat.le_of_ble_eq_true rfl) dw_1393 ⟨by omega, by omega⟩ (fun y w2 H locs hk2 hP hD hS => ?_)
  obtain ⟨rfl, hi2⟩ := hk2
  refine lv_icmp_eq (tgt := 1647) hx hb dw_1396 (by decide) (fun _ => ?_) (fun h => absurd rfl h)
  exact W.widen (k := cells + 1) (n := slots + 6) (by omega) (by omega) (kk _ _ _ _ _ hi2 hP hD hS hl)
set_option maxHeartbeats 1000000 in
theorem law_c33 (X : LC p s m args c D cI cZ cJ cW cP ad A b L xs) (hi : Inv n w) (hn : n ≤ 600) (hil : 6 * n + 5 < L) (hP : va_P D vwCl (wsOf ad cI cZ cJ cW cP w ++ [(qo, .inl (cJ, 1, .inr (.inl f)))]) H) (hD : va_D A (wsOf ad cI cZ cJ cW cP w ++ [(qo, .inl (cJ, 1, .inr (.inl f)))])) (hS : va_S A s.heap H locs) (hl : lv_has ls 8 (lvh n b qo ad)) (hc : cells + 1 ≤ room_1.cells ∧ slots + 6 ≤ room_1.slots) (kk : LK p l e s m args below meth c cells slots Q D cI cZ cJ cW cP ad A b n qo) : W p l e room_1 s m args below meth c H locs cells slots Q (F0 m 1401 ls []) := by
  obtain ⟨hx, hb, hml, hown, hts, hK, hZ, hA, hX, hbl, hbA, h3k⟩ := id X
  refine lv_aload_n hx hb dw_1401 rfl (lv_at hl 2 rfl) ?_
  refine law_rd (j := 1) X hS hl hil dw_1402 dw_1403 dw_1405 dw_1406 dw_1407 (by decide) (by omega) ?_
  refine law_rd (j := 2) X hS hl hil dw_1408 dw_1409 dw_1411 dw_1412 dw_1413 (by decide) (by omega) ?_
  refine law_rd (j := 3) X hS hl hil dw_1414 dw_1415 dw_1417 dw_1418 dw_1419 (by decide) (by omega) ?_
  refine lv_i2l hx hb dw_1420 rfl ?_
  refine lv_bipush hx hb dw_1421 (v := 32) (by decide) ?_
  refine lv_lshl hx hb dw_1423 rfl ?_
  refine law_rd (j := 4) X hS hl hil dw_1424 dw_1425 dw_1427 dw_1428 dw_1429 (by decide) (by omega) ?_
  refine lv_i2l hx hb dw_1430 rfl ?_
  refine lv_ldc2 hx hb (v := 4294967295) hown (hts _ (in_gT (List.mem_of_getElem? (i := 1487) (by decide +kernel)) rfl)) dw_1431 ?_
  refine lv_land hx hb dw_1434 ?_
  refine lv_lor hx hb dw_1435 ?_
  refine b_methI (mi := 92) (o := (0, 0)) (as := [vI (xs (6 * n + 1)), vI (xs (6 * n + 2)), vL (((xs (6 * n + 3)).toInt64 <<< ((32 : Int32).toInt64 &&& 63)) ||| ((xs (6 * n + 4)).toInt64 &&& 4294967295))]) (rest := []) (k := fun x w1 => Cl 182 [vO 0 90, vI (xs (6 * n + 1)), vI (xs (6 * n + 2)), vL (((xs (6 * n + 3)).toInt64 <<< ((32 : Int32).toInt64 &&& 63)) ||| ((xs (6 * n + 4)).toInt64 &&& 4294967295))] w1 (kI fun y w2 => y = x ∧ Inv (n + 1) w2)) (X := [(qo, .inl (cJ, 1, .inr (.inl f)))]) (own := RL) (cW := cW) (cP := cP) (ad := ad) (o_put hi) (by decide) (by decide) (Or.inl (by decide)) rfl rfl (by decide) (by decide +kernel) ⟨trivial, trivial, trivial, trivial⟩ (show 5 ≤ mM 92 by decide) (show 4 = mN 92 by decide) hx hb hml hown hts hK hZ hP hD hS hA (in_gT (List.mem_of_getElem? (i := 923) (by decide +kernel)) rfl) ⟨by decide +kernel, by decide +kernel⟩ hl.1 (Nat.le_of_ble_eq_true rfl) dw_1436 ⟨by omega, by omega⟩ (fun x w1 H locs hk hP hD hS => ?_)
  refine lv_aload_n hx hb dw_1439 rfl (lv_at hl 3 rfl) ?_
  refine law_rd (j := 1) X hS hl hil dw_1440 dw_1441 dw_1443 dw_1444 dw_1445 (by decide) (by omega) ?_
  refine law_rd (j := 2) X hS hl hil dw_1446 dw_1447 dw_1449 dw_1450 dw_1451 (by decide) (by omega) ?_
  refine law_rd (j := 3) X hS hl hil dw_1452 dw_1453 dw_1455 dw_1456 dw_1457 (by decide) (by omega) ?_
  refine lv_i2l hx hb dw_1458 rfl ?_
  refine lv_bipush hx hb dw_1459 (v := 32) (by decide) ?_
  refine lv_lshl hx hb dw_1461 rfl ?_
  refine law_rd (j := 4) X hS hl hil dw_1462 dw_1463 dw_1465 dw_1466 dw_1467 (by decide) (by omega) ?_
  refine lv_i2l hx hb dw_1468 rfl ?_
  refine lv_ldc2 hx hb (v := 4294967295) hown (hts _ (in_gT (List.mem_of_getElem? (i := 1487) (by decide +kernel)) rfl)) dw_1469 ?_
  refine lv_land hx hb dw_1472 ?_
  refine lv_lor hx hb dw_1473 ?_
  refine b_methI (mi := 182) (o := (0, 90)) (as := [vI (xs (6 * n + 1)), vI (xs (6 * n + 2)), vL (((xs (6 * n + 3)).toInt64 <<< ((32 : Int32).toInt64 &&& 63)) ||| ((xs (6 * n + 4)).toInt64 &&& 4294967295))]) (rest := [.int x]) (k := fun y w2 => y = x ∧ Inv (n + 1) w2) (X := [(qo, .inl (cJ, 1, .inr (.inl f)))]) (own := RL) (cW := cW) (cP := cP) (ad := ad) (hk) (by decide) (by decide) (Or.inl (by decide)) rfl rfl (by decide) (by decide +kernel) ⟨trivial, trivial, trivial, trivial⟩ (show 5 ≤ mM 182 by decide) (show 4 = mN 182 by decide) hx hb hml hown hts hK hZ hP hD hS hA (in_gT (List.mem_of_getElem? (i := 1468) (by decide +kernel)) rfl) ⟨by decide +kernel, by decide +kernel⟩ hl.1 (Nat.le_of_ble_eq_true rfl) dw_1474 ⟨by omega, by omega⟩ (fun y w2 H locs hk2 hP hD hS => ?_)
  obtain ⟨rfl, hi2⟩ := hk2
  refine lv_icmp_eq (tgt := 1647) hx hb dw_1477 (by decide) (fun _ => ?_) (fun h => absurd rfl h)
  exact W.widen (k := cells + 1) (n := slots + 6) (by omega) (by omega) (kk _ _ _ _ _ hi2 hP hD hS hl)
set_option maxHeartbeats 1000000 in
theorem law_c35 (X : LC p s m args c D cI cZ cJ cW cP ad A b L xs) (hi : Inv n w) (hn : n ≤ 600) (hil : 6 * n + 5 < L) (hP : va_P D vwCl (wsOf ad cI cZ cJ cW cP w ++ [(qo, .inl (cJ, 1, .inr (.inl f)))]) H) (hD : va_D A (wsOf ad cI cZ cJ cW cP w ++ [(qo, .inl (cJ, 1, .inr (.inl f)))])) (hS : va_S A s.heap H locs) (hl : lv_has ls 8 (lvh n b qo ad)) (hc : cells + 1 ≤ room_1.cells ∧ slots + 6 ≤ room_1.slots) (kk : LK p l e s m args below meth c cells slots Q D cI cZ cJ cW cP ad A b n qo) : W p l e room_1 s m args below meth c H locs cells slots Q (F0 m 1549 ls []) := by
  obtain ⟨hx, hb, hml, hown, hts, hK, hZ, hA, hX, hbl, hbA, h3k⟩ := id X
  refine lv_aload_n hx hb dw_1549 rfl (lv_at hl 2 rfl) ?_
  refine law_rd (j := 1) X hS hl hil dw_1550 dw_1551 dw_1553 dw_1554 dw_1555 (by decide) (by omega) ?_
  refine law_rd (j := 2) X hS hl hil dw_1556 dw_1557 dw_1559 dw_1560 dw_1561 (by decide) (by omega) ?_
  refine law_rd (j := 3) X hS hl hil dw_1562 dw_1563 dw_1565 dw_1566 dw_1567 (by decide) (by omega) ?_
  refine law_rd (j := 4) X hS hl hil dw_1568 dw_1569 dw_1571 dw_1572 dw_1573 (by decide) (by omega) ?_
  refine law_rd (j := 5) X hS hl hil dw_1574 dw_1575 dw_1577 dw_1578 dw_1579 (by decide) (by omega) ?_
  refine b_methI (mi := 93) (o := (0, 0)) (as := [vI (xs (6 * n + 1)), vI (xs (6 * n + 2)), vI (xs (6 * n + 3)), vI (xs (6 * n + 4)), vI (xs (6 * n + 5))]) (rest := []) (k := fun x w1 => Cl 184 [vO 0 90, vI (xs (6 * n + 1)), vI (xs (6 * n + 2)), vI (xs (6 * n + 3)), vI (xs (6 * n + 4)), vI (xs (6 * n + 5))] w1 (kI fun y w2 => y = x ∧ Inv (n + 1) w2)) (X := [(qo, .inl (cJ, 1, .inr (.inl f)))]) (own := RL) (cW := cW) (cP := cP) (ad := ad) (o_copy hi) (by decide) (by decide) (Or.inl (by decide)) rfl rfl (by decide) (by decide +kernel) ⟨trivial, trivial, trivial, trivial, trivial, trivial⟩ (show 6 ≤ mM 93 by decide) (show 6 = mN 93 by decide) hx hb hml hown hts hK hZ hP hD hS hA (in_gT (List.mem_of_getElem? (i := 939) (by decide +kernel)) rfl) ⟨by decide +kernel, by decide +kernel⟩ hl.1 (Nat.le_of_ble_eq_true rfl) dw_1580 ⟨by omega, by omega⟩ (fun x w1 H locs hk hP hD hS => ?_)
  refine lv_aload_n hx hb dw_1583 rfl (lv_at hl 3 rfl) ?_
  refine law_rd (j := 1) X hS hl hil dw_1584 dw_1585 dw_1587 dw_1588 dw_1589 (by decide) (by omega) ?_
  refine law_rd (j := 2) X hS hl hil dw_1590 dw_1591 dw_1593 dw_1594 dw_1595 (by decide) (by omega) ?_
  refine law_rd (j := 3) X hS hl hil dw_1596 dw_1597 dw_1599 dw_1600 dw_1601 (by decide) (by omega) ?_
  refine law_rd (j := 4) X hS hl hil dw_1602 dw_1603 dw_1605 dw_1606 dw_1607 (by decide) (by omega) ?_
  refine law_rd (j := 5) X hS hl hil dw_1608 dw_1609 dw_1611 dw_1612 dw_1613 (by decide) (by omega) ?_
  refine b_methI (mi := 184) (o := (0, 90)) (as := [vI (xs (6 * n + 1)), vI (xs (6 * n + 2)), vI (xs (6 * n + 3)), vI (xs (6 * n + 4)), vI (xs (6 * n + 5))]) (rest := [.int x]) (k := fun y w2 => y = x ∧ Inv (n + 1) w2) (X := [(qo, .inl (cJ, 1, .inr (.inl f)))]) (own := RL) (cW := cW) (cP := cP) (ad := ad) (hk) (by decide) (by decide) (Or.inl (by decide)) rfl rfl (by decide) (by decide +kernel) ⟨trivial, trivial, trivial, trivial, trivial, trivial⟩ (show 6 ≤ mM 184 by decide) (show 6 = mN 184 by decide) hx hb hml hown hts hK hZ hP hD hS hA (in_gT (List.mem_of_getElem? (i := 1479) (by decide +kernel)) rfl) ⟨by decide +kernel, by decide +kernel⟩ hl.1 (Nat.le_of_ble_eq_true rfl) dw_1614 ⟨by omega, by omega⟩ (fun y w2 H locs hk2 hP hD hS => ?_)
  obtain ⟨rfl, hi2⟩ := hk2
  refine lv_icmp_eq (tgt := 1647) hx hb dw_1617 (by decide) (fun _ => ?_) (fun h => absurd rfl h)
  exact W.widen (k := cells + 1) (n := slots + 6) (by omega) (by omega) (kk _ _ _ _ _ hi2 hP hD hS hl)
set_option maxHeartbeats 1000000 in
theorem law_c36 (X : LC p s m args c D cI cZ cJ cW cP ad A b L xs) (hi : Inv n w) (hn : n ≤ 600) (hil : 6 * n + 5 < L) (hP : va_P D vwCl (wsOf ad cI cZ cJ cW cP w ++ [(qo, .inl (cJ, 1, .inr (.inl f)))]) H) (hD : va_D A (wsOf ad cI cZ cJ cW cP w ++ [(qo, .inl (cJ, 1, .inr (.inl f)))])) (hS : va_S A s.heap H locs) (hl : lv_has ls 8 (lvh n b qo ad)) (hc : cells + 1 ≤ room_1.cells ∧ slots + 6 ≤ room_1.slots) (kk : LK p l e s m args below meth c cells slots Q D cI cZ cJ cW cP ad A b n qo) : W p l e room_1 s m args below meth c H locs cells slots Q (F0 m 1622 ls []) := by
  obtain ⟨hx, hb, hml, hown, hts, hK, hZ, hA, hX, hbl, hbA, h3k⟩ := id X
  refine lv_aload_n hx hb dw_1622 rfl (lv_at hl 2 rfl) ?_
  refine law_rd (j := 1) X hS hl hil dw_1623 dw_1624 dw_1626 dw_1627 dw_1628 (by decide) (by omega) ?_
  refine b_methI (mi := 94) (o := (0, 0)) (as := [vI (xs (6 * n + 1))]) (rest := []) (k := fun x w1 => Cl 185 [vO 0 90, vI (xs (6 * n + 1))] w1 (kI fun y w2 => y = x ∧ Inv (n + 1) w2)) (X := [(qo, .inl (cJ, 1, .inr (.inl f)))]) (own := RL) (cW := cW) (cP := cP) (ad := ad) (o_count hi) (by decide) (by decide) (Or.inl (by decide)) rfl rfl (by decide) (by decide +kernel) ⟨trivial, trivial⟩ (show 2 ≤ mM 94 by decide) (show 2 = mN 94 by decide) hx hb hml hown hts hK hZ hP hD hS hA (in_gT (List.mem_of_getElem? (i := 944) (by decide +kernel)) rfl) ⟨by decide +kernel, by decide +kernel⟩ hl.1 (Nat.le_of_ble_eq_true rfl) dw_1629 ⟨by omega, by omega⟩ (fun x w1 H locs hk hP hD hS => ?_)
  refine lv_aload_n hx hb dw_1632 rfl (lv_at hl 3 rfl) ?_
  refine law_rd (j := 1) X hS hl hil dw_1633 dw_1634 dw_1636 dw_1637 dw_1638 (by decide) (by omega) ?_
  refine b_methI (mi := 185) (o := (0, 90)) (as := [vI (xs (6 * n + 1))]) (rest := [.int x]) (k := fun y w2 => y = x ∧ Inv (n + 1) w2) (X := [(qo, .inl (cJ, 1, .inr (.inl f)))]) (own := RL) (cW := cW) (cP := cP) (ad := ad) (hk) (by decide) (by decide) (Or.inl (by decide)) rfl rfl (by decide) (by decide +kernel) ⟨trivial, trivial⟩ (show 2 ≤ mM 185 by decide) (show 2 = mN 185 by decide) hx hb hml hown hts hK hZ hP hD hS hA (in_gT (List.mem_of_getElem? (i := 1483) (by decide +kernel)) rfl) ⟨by decide +kernel, by decide +kernel⟩ hl.1 (Nat.le_of_ble_eq_true rfl) dw_1639 ⟨by omega, by omega⟩ (fun y w2 H locs hk2 hP hD hS => ?_)
  obtain ⟨rfl, hi2⟩ := hk2
  refine lv_icmp_eq (tgt := 1647) hx hb dw_1642 (by decide) (fun _ => ?_) (fun h => absurd rfl h)
  exact W.widen (k := cells + 1) (n := slots + 6) (by omega) (by omega) (kk _ _ _ _ _ hi2 hP hD hS hl)
end LAWC
