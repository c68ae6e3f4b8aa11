set_option maxHeartbeats 4000000 in
set_option maxRecDepth 20000 in
theorem law_row {X : Cx} {t : Nat → ClassId} {ad : Nat → Nat → Nat} {a : Nat → Nat} {b L i N : Nat} {xs0 : Nat → Int32} {Rel : RelT} (C : gX X t room_1 cL_law 4 RL) (hS0 : SX X b L xs0) (hL : L ≤ 384) (hi : i + 5 < L) (hst : St_row N Rel) {vR vW vT vS vD vA vI vJ vE vF vP vQ vK vM : SV} {gW : SV} {gA gL : Nat → SV} (hrel : Rel vR vW vT vS vD vA vI vJ vE vF vP vQ vK vM gW gA gL) (kk : ∀ (vR vW vT vS vD vA vI vJ vE vF vP vQ vK vM : SV) (gW : SV) (gA gL : Nat → SV), Rel vR vW vT vS vD vA vI vJ vE vF vP vQ vK vM gW gA gL → G X (WLw t ad a vR vW vT vS vD vA vI vJ vE vF vP vQ vK vM gW gA gL) 1409 [(3, .int (nI i)), (2, .ref (a 0)), (1, .ref (ad 0 0)), (0, .ref b)] []) : G X (WLw t ad a vR vW vT vS vD vA vI vJ vE vF vP vQ vK vM gW gA gL) 208 [(3, .int (nI i)), (2, .ref (a 0)), (1, .ref (ad 0 0)), (0, .ref b)] [] := by
  obtain ⟨r, m, h1, h2, h3, h4⟩ := hst vR vW vT vS vD vA vI vJ vE vF vP vQ vK vM gW gA gL (xs0 (i + 1)) (xs0 (i + 2)) (xs0 (i + 3)) hrel
  refine G.aload_n C dL_law_208 2 rfl ?_
  refine G.aload_n C dL_law_209 3 rfl ?_
  refine G.iload_n C dL_law_210 0 rfl ?_
  refine G.iconst (v := (1 : Int32)) C dL_law_211 (by decide) ?_
  refine G.iadd C dL_law_212 ?_
  refine G.sld C hS0 (i + 1) (nI_add i 1) (by omega) hL dL_law_213 ?_
  refine G.aload_n C dL_law_214 3 rfl ?_
  refine G.iload_n C dL_law_215 0 rfl ?_
  refine G.iconst (v := (2 : Int32)) C dL_law_216 (by decide) ?_
  refine G.iadd C dL_law_217 ?_
  refine G.sld C hS0 (i + 2) (nI_add i 2) (by omega) hL dL_law_218 ?_
  refine G.aload_n C dL_law_219 3 rfl ?_
  refine G.iload_n C dL_law_220 0 rfl ?_
  refine G.iconst (v := (3 : Int32)) C dL_law_221 (by decide) ?_
  refine G.iadd C dL_law_222 ?_
  refine G.sld C hS0 (i + 3) (nI_add i 3) (by omega) hL dL_law_223 ?_
  refine G.cvI (i0 := 0) (j0 := 0) (cs' := WLw t ad a (r.2.1) (r.2.2.1) vT vS vD vA vI vJ vE vF vP vQ vK vM (r.2.2.2) gA gL) C (c_X7_row (ad := ad) h1) ([0, 1] ++ (List.range 8).map (fun k => 14 + k)) (famJ2 rfl rfl fRows_len rfl) (by decide) (famA rfl fRows_ads) (famC2 rfl rfl rfl fRows_len fRows_len rfl) rfl rfl rfl k_359 cal_X7_row ⟨rfl, rfl, by decide, by decide⟩ rfl (Nat.le_of_ble_eq_true rfl) dL_law_224 ?_
  refine G.aload_n C dL_law_227 1 rfl ?_
  refine G.aload_n C dL_law_228 3 rfl ?_
  refine G.iload_n C dL_law_229 0 rfl ?_
  refine G.iconst (v := (1 : Int32)) C dL_law_230 (by decide) ?_
  refine G.iadd C dL_law_231 ?_
  refine G.sld C hS0 (i + 1) (nI_add i 1) (by omega) hL dL_law_232 ?_
  refine G.aload_n C dL_law_233 3 rfl ?_
  refine G.iload_n C dL_law_234 0 rfl ?_
  refine G.iconst (v := (2 : Int32)) C dL_law_235 (by decide) ?_
  refine G.iadd C dL_law_236 ?_
  refine G.sld C hS0 (i + 2) (nI_add i 2) (by omega) hL dL_law_237 ?_
  refine G.aload_n C dL_law_238 3 rfl ?_
  refine G.iload_n C dL_law_239 0 rfl ?_
  refine G.iconst (v := (3 : Int32)) C dL_law_240 (by decide) ?_
  refine G.iadd C dL_law_241 ?_
  refine G.sld C hS0 (i + 3) (nI_add i 3) (by omega) hL dL_law_242 ?_
  refine G.cvI (i0 := 13) (j0 := 0) (cs' := WLw t ad a (r.2.1) (r.2.2.1) vT vS vD vA vI vJ vE vF vP vQ vK (m.2) (r.2.2.2) gA gL) C (c_X8_row (a := a) h2) [13] rfl rfl rfl rfl rfl rfl rfl k_1146 cal_X8_row ⟨rfl, rfl, by decide, by decide⟩ rfl (Nat.le_of_ble_eq_true rfl) dL_law_243 ?_
  refine G.icmp_eq (tgt := 1409) C dL_law_246 (by decide) (β := Unit) (o1 := some ()) (o2 := none) (r := ()) (if_pos h3) (fun _ => ?_) (fun h => by cases h)
  exact kk _ _ _ _ _ _ _ _ _ _ _ _ _ _ _ _ _ h4
set_option maxHeartbeats 4000000 in
set_option maxRecDepth 20000 in
theorem law_set {X : Cx} {t : Nat → ClassId} {ad : Nat → Nat → Nat} {a : Nat → Nat} {b L i N : Nat} {xs0 : Nat → Int32} {Rel : RelT} (C : gX X t room_1 cL_law 4 RL) (hS0 : SX X b L xs0) (hL : L ≤ 384) (hi : i + 5 < L) (hst : St_set N Rel) {vR vW vT vS vD vA vI vJ vE vF vP vQ vK vM : SV} {gW : SV} {gA gL : Nat → SV} (hrel : Rel vR vW vT vS vD vA vI vJ vE vF vP vQ vK vM gW gA gL) (kk : ∀ (vR vW vT vS vD vA vI vJ vE vF vP vQ vK vM : SV) (gW : SV) (gA gL : Nat → SV), Rel vR vW vT vS vD vA vI vJ vE vF vP vQ vK vM gW gA gL → G X (WLw t ad a vR vW vT vS vD vA vI vJ vE vF vP vQ vK vM gW gA gL) 1409 [(3, .int (nI i)), (2, .ref (a 0)), (1, .ref (ad 0 0)), (0, .ref b)] []) : G X (WLw t ad a vR vW vT vS vD vA vI vJ vE vF vP vQ vK vM gW gA gL) 251 [(3, .int (nI i)), (2, .ref (a 0)), (1, .ref (ad 0 0)), (0, .ref b)] [] := by
  obtain ⟨r, m, h1, h2, h3, h4⟩ := hst vR vW vT vS vD vA vI vJ vE vF vP vQ vK vM gW gA gL (xs0 (i + 1)) (xs0 (i + 2)) (xs0 (i + 3)) hrel
  refine G.aload_n C dL_law_251 2 rfl ?_
  refine G.aload_n C dL_law_252 3 rfl ?_
  refine G.iload_n C dL_law_253 0 rfl ?_
  refine G.iconst (v := (1 : Int32)) C dL_law_254 (by decide) ?_
  refine G.iadd C dL_law_255 ?_
  refine G.sld C hS0 (i + 1) (nI_add i 1) (by omega) hL dL_law_256 ?_
  refine G.aload_n C dL_law_257 3 rfl ?_
  refine G.iload_n C dL_law_258 0 rfl ?_
  refine G.iconst (v := (2 : Int32)) C dL_law_259 (by decide) ?_
  refine G.iadd C dL_law_260 ?_
  refine G.sld C hS0 (i + 2) (nI_add i 2) (by omega) hL dL_law_261 ?_
  refine G.aload_n C dL_law_262 3 rfl ?_
  refine G.iload_n C dL_law_263 0 rfl ?_
  refine G.iconst (v := (3 : Int32)) C dL_law_264 (by decide) ?_
  refine G.iadd C dL_law_265 ?_
  refine G.sld C hS0 (i + 3) (nI_add i 3) (by omega) hL dL_law_266 ?_
  refine G.cvI (i0 := 0) (j0 := 0) (cs' := WLw t ad a (r.2.1) vW vT vS vD vA vI vJ vE vF vP vQ vK vM (r.2.2) gA gL) C (c_X7_set (ad := ad) h1) ([0, 1] ++ (List.range 8).map (fun k => 14 + k)) (famJ2 rfl rfl fRows_len rfl) (by decide) (famA rfl fRows_ads) (famC2 rfl rfl rfl fRows_len fRows_len rfl) rfl rfl rfl k_383 cal_X7_set ⟨rfl, rfl, by decide, by decide⟩ rfl (Nat.le_of_ble_eq_true rfl) dL_law_267 ?_
  refine G.aload_n C dL_law_270 1 rfl ?_
  refine G.aload_n C dL_law_271 3 rfl ?_
  refine G.iload_n C dL_law_272 0 rfl ?_
  refine G.iconst (v := (1 : Int32)) C dL_law_273 (by decide) ?_
  refine G.iadd C dL_law_274 ?_
  refine G.sld C hS0 (i + 1) (nI_add i 1) (by omega) hL dL_law_275 ?_
  refine G.aload_n C dL_law_276 3 rfl ?_
  refine G.iload_n C dL_law_277 0 rfl ?_
  refine G.iconst (v := (2 : Int32)) C dL_law_278 (by decide) ?_
  refine G.iadd C dL_law_279 ?_
  refine G.sld C hS0 (i + 2) (nI_add i 2) (by omega) hL dL_law_280 ?_
  refine G.aload_n C dL_law_281 3 rfl ?_
  refine G.iload_n C dL_law_282 0 rfl ?_
  refine G.iconst (v := (3 : Int32)) C dL_law_283 (by decide) ?_
  refine G.iadd C dL_law_284 ?_
  refine G.sld C hS0 (i + 3) (nI_add i 3) (by omega) hL dL_law_285 ?_
  refine G.cvI (i0 := 13) (j0 := 0) (cs' := WLw t ad a (r.2.1) vW vT vS vD vA vI vJ vE vF vP vQ vK (m.2) (r.2.2) gA gL) C (c_X8_set (a := a) h2) [13] rfl rfl rfl rfl rfl rfl rfl k_1168 cal_X8_set ⟨rfl, rfl, by decide, by decide⟩ rfl (Nat.le_of_ble_eq_true rfl) dL_law_286 ?_
  refine G.icmp_eq (tgt := 1409) C dL_law_289 (by decide) (β := Unit) (o1 := some ()) (o2 := none) (r := ()) (if_pos h3) (fun _ => ?_) (fun h => by cases h)
  exact kk _ _ _ _ _ _ _ _ _ _ _ _ _ _ _ _ _ h4
set_option maxHeartbeats 4000000 in
set_option maxRecDepth 20000 in
theorem law_copy {X : Cx} {t : Nat → ClassId} {ad : Nat → Nat → Nat} {a : Nat → Nat} {b L i N : Nat} {xs0 : Nat → Int32} {Rel : RelT} (C : gX X t room_1 cL_law 4 RL) (hS0 : SX X b L xs0) (hL : L ≤ 384) (hi : i + 5 < L) (hst : St_copy N Rel) {vR vW vT vS vD vA vI vJ vE vF vP vQ vK vM : SV} {gW : SV} {gA gL : Nat → SV} (hrel : Rel vR vW vT vS vD vA vI vJ vE vF vP vQ vK vM gW gA gL) (kk : ∀ (vR vW vT vS vD vA vI vJ vE vF vP vQ vK vM : SV) (gW : SV) (gA gL : Nat → SV), Rel vR vW vT vS vD vA vI vJ vE vF vP vQ vK vM gW gA gL → G X (WLw t ad a vR vW vT vS vD vA vI vJ vE vF vP vQ vK vM gW gA gL) 1409 [(3, .int (nI i)), (2, .ref (a 0)), (1, .ref (ad 0 0)), (0, .ref b)] []) : G X (WLw t ad a vR vW vT vS vD vA vI vJ vE vF vP vQ vK vM gW gA gL) 294 [(3, .int (nI i)), (2, .ref (a 0)), (1, .ref (ad 0 0)), (0, .ref b)] [] := by
  obtain ⟨r, m, h1, h2, h3, h4⟩ := hst vR vW vT vS vD vA vI vJ vE vF vP vQ vK vM gW gA gL (xs0 (i + 1)) (xs0 (i + 2)) (xs0 (i + 3)) (xs0 (i + 4)) (xs0 (i + 5)) hrel
  refine G.aload_n C dL_law_294 2 rfl ?_
  refine G.aload_n C dL_law_295 3 rfl ?_
  refine G.iload_n C dL_law_296 0 rfl ?_
  refine G.iconst (v := (1 : Int32)) C dL_law_297 (by decide) ?_
  refine G.iadd C dL_law_298 ?_
  refine G.sld C hS0 (i + 1) (nI_add i 1) (by omega) hL dL_law_299 ?_
  refine G.aload_n C dL_law_300 3 rfl ?_
  refine G.iload_n C dL_law_301 0 rfl ?_
  refine G.iconst (v := (2 : Int32)) C dL_law_302 (by decide) ?_
  refine G.iadd C dL_law_303 ?_
  refine G.sld C hS0 (i + 2) (nI_add i 2) (by omega) hL dL_law_304 ?_
  refine G.aload_n C dL_law_305 3 rfl ?_
  refine G.iload_n C dL_law_306 0 rfl ?_
  refine G.iconst (v := (3 : Int32)) C dL_law_307 (by decide) ?_
  refine G.iadd C dL_law_308 ?_
  refine G.sld C hS0 (i + 3) (nI_add i 3) (by omega) hL dL_law_309 ?_
  refine G.aload_n C dL_law_310 3 rfl ?_
  refine G.iload_n C dL_law_311 0 rfl ?_
  refine G.iconst (v := (4 : Int32)) C dL_law_312 (by decide) ?_
  refine G.iadd C dL_law_313 ?_
  refine G.sld C hS0 (i + 4) (nI_add i 4) (by omega) hL dL_law_314 ?_
  refine G.aload_n C dL_law_315 3 rfl ?_
  refine G.iload_n C dL_law_316 0 rfl ?_
  refine G.iconst (v := (5 : Int32)) C dL_law_317 (by decide) ?_
  refine G.iadd C dL_law_318 ?_
  refine G.sld C hS0 (i + 5) (nI_add i 5) (by omega) hL dL_law_319 ?_
  refine G.cvI (i0 := 0) (j0 := 0) (cs' := WLw t ad a (r.2.1) vW vT vS vD vA vI vJ vE vF vP vQ vK vM (r.2.2) gA gL) C (c_X7_copy (ad := ad) h1) ([0, 1] ++ (List.range 8).map (fun k => 14 + k)) (famJ2 rfl rfl fRows_len rfl) (by decide) (famA rfl fRows_ads) (famC2 rfl rfl rfl fRows_len fRows_len rfl) rfl rfl rfl k_403 cal_X7_copy ⟨rfl, rfl, by decide, by decide⟩ rfl (Nat.le_of_ble_eq_true rfl) dL_law_320 ?_
  refine G.aload_n C dL_law_323 1 rfl ?_
  refine G.aload_n C dL_law_324 3 rfl ?_
  refine G.iload_n C dL_law_325 0 rfl ?_
  refine G.iconst (v := (1 : Int32)) C dL_law_326 (by decide) ?_
  refine G.iadd C dL_law_327 ?_
  refine G.sld C hS0 (i + 1) (nI_add i 1) (by omega) hL dL_law_328 ?_
  refine G.aload_n C dL_law_329 3 rfl ?_
  refine G.iload_n C dL_law_330 0 rfl ?_
  refine G.iconst (v := (2 : Int32)) C dL_law_331 (by decide) ?_
  refine G.iadd C dL_law_332 ?_
  refine G.sld C hS0 (i + 2) (nI_add i 2) (by omega) hL dL_law_333 ?_
  refine G.aload_n C dL_law_334 3 rfl ?_
  refine G.iload_n C dL_law_335 0 rfl ?_
  refine G.iconst (v := (3 : Int32)) C dL_law_336 (by decide) ?_
  refine G.iadd C dL_law_337 ?_
  refine G.sld C hS0 (i + 3) (nI_add i 3) (by omega) hL dL_law_338 ?_
  refine G.aload_n C dL_law_339 3 rfl ?_
  refine G.iload_n C dL_law_340 0 rfl ?_
  refine G.iconst (v := (4 : Int32)) C dL_law_341 (by decide) ?_
  refine G.iadd C dL_law_342 ?_
  refine G.sld C hS0 (i + 4) (nI_add i 4) (by omega) hL dL_law_343 ?_
  refine G.aload_n C dL_law_344 3 rfl ?_
  refine G.iload_n C dL_law_345 0 rfl ?_
  refine G.iconst (v := (5 : Int32)) C dL_law_346 (by decide) ?_
  refine G.iadd C dL_law_347 ?_
  refine G.sld C hS0 (i + 5) (nI_add i 5) (by omega) hL dL_law_348 ?_
  refine G.cvI (i0 := 13) (j0 := 0) (cs' := WLw t ad a (r.2.1) vW vT vS vD vA vI vJ vE vF vP vQ vK (m.2) (r.2.2) gA gL) C (c_X8_copy (a := a) h2) [13] rfl rfl rfl rfl rfl rfl rfl k_1175 cal_X8_copy ⟨rfl, rfl, by decide, by decide⟩ rfl (Nat.le_of_ble_eq_true rfl) dL_law_349 ?_
  refine G.icmp_eq (tgt := 1409) C dL_law_352 (by decide) (β := Unit) (o1 := some ()) (o2 := none) (r := ()) (if_pos h3) (fun _ => ?_) (fun h => by cases h)
  exact kk _ _ _ _ _ _ _ _ _ _ _ _ _ _ _ _ _ h4
set_option maxHeartbeats 4000000 in
set_option maxRecDepth 20000 in
theorem law_drop {X : Cx} {t : Nat → ClassId} {ad : Nat → Nat → Nat} {a : Nat → Nat} {b L i N : Nat} {xs0 : Nat → Int32} {Rel : RelT} (C : gX X t room_1 cL_law 4 RL) (hS0 : SX X b L xs0) (hL : L ≤ 384) (hi : i + 5 < L) (hst : St_drop N Rel) {vR vW vT vS vD vA vI vJ vE vF vP vQ vK vM : SV} {gW : SV} {gA gL : Nat → SV} (hrel : Rel vR vW vT vS vD vA vI vJ vE vF vP vQ vK vM gW gA gL) (kk : ∀ (vR vW vT vS vD vA vI vJ vE vF vP vQ vK vM : SV) (gW : SV) (gA gL : Nat → SV), Rel vR vW vT vS vD vA vI vJ vE vF vP vQ vK vM gW gA gL → G X (WLw t ad a vR vW vT vS vD vA vI vJ vE vF vP vQ vK vM gW gA gL) 1409 [(3, .int (nI i)), (2, .ref (a 0)), (1, .ref (ad 0 0)), (0, .ref b)] []) : G X (WLw t ad a vR vW vT vS vD vA vI vJ vE vF vP vQ vK vM gW gA gL) 357 [(3, .int (nI i)), (2, .ref (a 0)), (1, .ref (ad 0 0)), (0, .ref b)] [] := by
  obtain ⟨r, m, h1, h2, h3, h4⟩ := hst vR vW vT vS vD vA vI vJ vE vF vP vQ vK vM gW gA gL (xs0 (i + 1)) hrel
  refine G.aload_n C dL_law_357 2 rfl ?_
  refine G.aload_n C dL_law_358 3 rfl ?_
  refine G.iload_n C dL_law_359 0 rfl ?_
  refine G.iconst (v := (1 : Int32)) C dL_law_360 (by decide) ?_
  refine G.iadd C dL_law_361 ?_
  refine G.sld C hS0 (i + 1) (nI_add i 1) (by omega) hL dL_law_362 ?_
  refine G.cvI (i0 := 0) (j0 := 0) (cs' := WLw t ad a (r.2.1) (r.2.2) vT vS vD vA vI vJ vE vF vP vQ vK vM gW gA gL) C (c_X7_drop (ad := ad) h1) [0, 1] rfl rfl rfl rfl rfl rfl rfl k_418 cal_X7_drop ⟨rfl, rfl, by decide, by decide⟩ rfl (Nat.le_of_ble_eq_true rfl) dL_law_363 ?_
  refine G.aload_n C dL_law_366 1 rfl ?_
  refine G.aload_n C dL_law_367 3 rfl ?_
  refine G.iload_n C dL_law_368 0 rfl ?_
  refine G.iconst (v := (1 : Int32)) C dL_law_369 (by decide) ?_
  refine G.iadd C dL_law_370 ?_
  refine G.sld C hS0 (i + 1) (nI_add i 1) (by omega) hL dL_law_371 ?_
  refine G.cvI (i0 := 13) (j0 := 0) (cs' := WLw t ad a (r.2.1) (r.2.2) vT vS vD vA vI vJ vE vF vP vQ vK (m.2) gW gA gL) C (c_X8_drop (a := a) h2) [13] rfl rfl rfl rfl rfl rfl rfl k_1179 cal_X8_drop ⟨rfl, rfl, by decide, by decide⟩ rfl (Nat.le_of_ble_eq_true rfl) dL_law_372 ?_
  refine G.icmp_eq (tgt := 1409) C dL_law_375 (by decide) (β := Unit) (o1 := some ()) (o2 := none) (r := ()) (if_pos h3) (fun _ => ?_) (fun h => by cases h)
  exact kk _ _ _ _ _ _ _ _ _ _ _ _ _ _ _ _ _ h4
set_option maxHeartbeats 4000000 in
set_option maxRecDepth 20000 in
theorem law_feed {X : Cx} {t : Nat → ClassId} {ad : Nat → Nat → Nat} {a : Nat → Nat} {b L i N : Nat} {xs0 : Nat → Int32} {Rel : RelT} (C : gX X t room_1 cL_law 4 RL) (hS0 : SX X b L xs0) (hL : L ≤ 384) (hi : i + 5 < L) (hst : St_feed N Rel) {vR vW vT vS vD vA vI vJ vE vF vP vQ vK vM : SV} {gW : SV} {gA gL : Nat → SV} (hrel : Rel vR vW vT vS vD vA vI vJ vE vF vP vQ vK vM gW gA gL) (kk : ∀ (vR vW vT vS vD vA vI vJ vE vF vP vQ vK vM : SV) (gW : SV) (gA gL : Nat → SV), Rel vR vW vT vS vD vA vI vJ vE vF vP vQ vK vM gW gA gL → G X (WLw t ad a vR vW vT vS vD vA vI vJ vE vF vP vQ vK vM gW gA gL) 1409 [(3, .int (nI i)), (2, .ref (a 0)), (1, .ref (ad 0 0)), (0, .ref b)] []) : G X (WLw t ad a vR vW vT vS vD vA vI vJ vE vF vP vQ vK vM gW gA gL) 380 [(3, .int (nI i)), (2, .ref (a 0)), (1, .ref (ad 0 0)), (0, .ref b)] [] := by
  obtain ⟨r, m, h1, h2, h3, h4⟩ := hst vR vW vT vS vD vA vI vJ vE vF vP vQ vK vM gW gA gL (xs0 (i + 1)) hrel
  refine G.aload_n C dL_law_380 2 rfl ?_
  refine G.aload_n C dL_law_381 3 rfl ?_
  refine G.iload_n C dL_law_382 0 rfl ?_
  refine G.iconst (v := (1 : Int32)) C dL_law_383 (by decide) ?_
  refine G.iadd C dL_law_384 ?_
  refine G.sld C hS0 (i + 1) (nI_add i 1) (by omega) hL dL_law_385 ?_
  refine G.cvI (i0 := 0) (j0 := 0) (cs' := WLw t ad a vR vW (r.2) vS vD vA vI vJ vE vF vP vQ vK vM gW gA gL) C (c_X7_feed (ad := ad) h1) [0, 2] rfl rfl rfl rfl rfl rfl rfl k_427 cal_X7_feed ⟨rfl, rfl, by decide, by decide⟩ rfl (Nat.le_of_ble_eq_true rfl) dL_law_386 ?_
  refine G.aload_n C dL_law_389 1 rfl ?_
  refine G.aload_n C dL_law_390 3 rfl ?_
  refine G.iload_n C dL_law_391 0 rfl ?_
  refine G.iconst (v := (1 : Int32)) C dL_law_392 (by decide) ?_
  refine G.iadd C dL_law_393 ?_
  refine G.sld C hS0 (i + 1) (nI_add i 1) (by omega) hL dL_law_394 ?_
  refine G.cvI (i0 := 13) (j0 := 0) (cs' := WLw t ad a vR vW (r.2) vS vD vA vI vJ vE vF vP vQ vK (m.2) gW gA gL) C (c_X8_feed (a := a) h2) [13] rfl rfl rfl rfl rfl rfl rfl k_1183 cal_X8_feed ⟨rfl, rfl, by decide, by decide⟩ rfl (Nat.le_of_ble_eq_true rfl) dL_law_395 ?_
  refine G.icmp_eq (tgt := 1409) C dL_law_398 (by decide) (β := Unit) (o1 := some ()) (o2 := none) (r := ()) (if_pos h3) (fun _ => ?_) (fun h => by cases h)
  exact kk _ _ _ _ _ _ _ _ _ _ _ _ _ _ _ _ _ h4
set_option maxHeartbeats 4000000 in
set_option maxRecDepth 20000 in
theorem law_show {X : Cx} {t : Nat → ClassId} {ad : Nat → Nat → Nat} {a : Nat → Nat} {b L i N : Nat} {xs0 : Nat → Int32} {Rel : RelT} (C : gX X t room_1 cL_law 4 RL) (hS0 : SX X b L xs0) (hL : L ≤ 384) (hi : i + 5 < L) (hst : St_show N Rel) {vR vW vT vS vD vA vI vJ vE vF vP vQ vK vM : SV} {gW : SV} {gA gL : Nat → SV} (hrel : Rel vR vW vT vS vD vA vI vJ vE vF vP vQ vK vM gW gA gL) (kk : ∀ (vR vW vT vS vD vA vI vJ vE vF vP vQ vK vM : SV) (gW : SV) (gA gL : Nat → SV), Rel vR vW vT vS vD vA vI vJ vE vF vP vQ vK vM gW gA gL → G X (WLw t ad a vR vW vT vS vD vA vI vJ vE vF vP vQ vK vM gW gA gL) 1409 [(3, .int (nI i)), (2, .ref (a 0)), (1, .ref (ad 0 0)), (0, .ref b)] []) : G X (WLw t ad a vR vW vT vS vD vA vI vJ vE vF vP vQ vK vM gW gA gL) 403 [(3, .int (nI i)), (2, .ref (a 0)), (1, .ref (ad 0 0)), (0, .ref b)] [] := by
  obtain ⟨r, m, h1, h2, h3, h4⟩ := hst vR vW vT vS vD vA vI vJ vE vF vP vQ vK vM gW gA gL hrel
  refine G.aload_n C dL_law_403 2 rfl ?_
  refine G.cvI (i0 := 0) (j0 := 0) (cs' := WLw t ad a vR vW (r.2.1) (r.2.2.1) (r.2.2.2.1) (r.2.2.2.2) vI vJ vE vF vP vQ vK vM gW gA gL) C (c_X7_show (ad := ad) h1) [0, 2, 3, 4, 5] rfl rfl rfl rfl rfl rfl rfl k_440 cal_X7_show ⟨rfl, rfl, by decide, by decide⟩ rfl (Nat.le_of_ble_eq_true rfl) dL_law_404 ?_
  refine G.aload_n C dL_law_407 1 rfl ?_
  refine G.cvI (i0 := 13) (j0 := 0) (cs' := WLw t ad a vR vW (r.2.1) (r.2.2.1) (r.2.2.2.1) (r.2.2.2.2) vI vJ vE vF vP vQ vK (m.2) gW gA gL) C (c_X8_show (a := a) h2) [13] rfl rfl rfl rfl rfl rfl rfl k_1189 cal_X8_show ⟨rfl, rfl, by decide, by decide⟩ rfl (Nat.le_of_ble_eq_true rfl) dL_law_408 ?_
  refine G.icmp_eq (tgt := 1409) C dL_law_411 (by decide) (β := Unit) (o1 := some ()) (o2 := none) (r := ()) (if_pos h3) (fun _ => ?_) (fun h => by cases h)
  exact kk _ _ _ _ _ _ _ _ _ _ _ _ _ _ _ _ _ h4
set_option maxHeartbeats 4000000 in
set_option maxRecDepth 20000 in
theorem law_fault {X : Cx} {t : Nat → ClassId} {ad : Nat → Nat → Nat} {a : Nat → Nat} {b L i N : Nat} {xs0 : Nat → Int32} {Rel : RelT} (C : gX X t room_1 cL_law 4 RL) (hS0 : SX X b L xs0) (hL : L ≤ 384) (hi : i + 5 < L) (hst : St_fault N Rel) {vR vW vT vS vD vA vI vJ vE vF vP vQ vK vM : SV} {gW : SV} {gA gL : Nat → SV} (hrel : Rel vR vW vT vS vD vA vI vJ vE vF vP vQ vK vM gW gA gL) (kk : ∀ (vR vW vT vS vD vA vI vJ vE vF vP vQ vK vM : SV) (gW : SV) (gA gL : Nat → SV), Rel vR vW vT vS vD vA vI vJ vE vF vP vQ vK vM gW gA gL → G X (WLw t ad a vR vW vT vS vD vA vI vJ vE vF vP vQ vK vM gW gA gL) 1409 [(3, .int (nI i)), (2, .ref (a 0)), (1, .ref (ad 0 0)), (0, .ref b)] []) : G X (WLw t ad a vR vW vT vS vD vA vI vJ vE vF vP vQ vK vM gW gA gL) 416 [(3, .int (nI i)), (2, .ref (a 0)), (1, .ref (ad 0 0)), (0, .ref b)] [] := by
  obtain ⟨r, m, h1, h2, h3, h4⟩ := hst vR vW vT vS vD vA vI vJ vE vF vP vQ vK vM gW gA gL hrel
  refine G.aload_n C dL_law_416 2 rfl ?_
  refine G.cvI (i0 := 0) (j0 := 0) (cs' := WLw t ad a vR vW vT vS vD vA vI vJ vE vF vP vQ vK vM gW gA gL) C (c_X7_fault (ad := ad) h1) [0, 2] rfl rfl rfl rfl rfl rfl rfl k_606 cal_X7_fault ⟨rfl, rfl, by decide, by decide⟩ rfl (Nat.le_of_ble_eq_true rfl) dL_law_417 ?_
  refine G.aload_n C dL_law_420 1 rfl ?_
  refine G.cvI (i0 := 13) (j0 := 0) (cs' := WLw t ad a vR vW vT vS vD vA vI vJ vE vF vP vQ vK vM gW gA gL) C (c_X8_fault (a := a) h2) [13] rfl rfl rfl rfl rfl rfl rfl k_1230 cal_X8_fault ⟨rfl, rfl, by decide, by decide⟩ rfl (Nat.le_of_ble_eq_true rfl) dL_law_421 ?_
  refine G.icmp_eq (tgt := 1409) C dL_law_424 (by decide) (β := Unit) (o1 := some ()) (o2 := none) (r := ()) (if_pos h3) (fun _ => ?_) (fun h => by cases h)
  exact kk _ _ _ _ _ _ _ _ _ _ _ _ _ _ _ _ _ h4
set_option maxHeartbeats 4000000 in
set_option maxRecDepth 20000 in
theorem law_undo {X : Cx} {t : Nat → ClassId} {ad : Nat → Nat → Nat} {a : Nat → Nat} {b L i N : Nat} {xs0 : Nat → Int32} {Rel : RelT} (C : gX X t room_1 cL_law 4 RL) (hS0 : SX X b L xs0) (hL : L ≤ 384) (hi : i + 5 < L) (hst : St_undo N Rel) {vR vW vT vS vD vA vI vJ vE vF vP vQ vK vM : SV} {gW : SV} {gA gL : Nat → SV} (hrel : Rel vR vW vT vS vD vA vI vJ vE vF vP vQ vK vM gW gA gL) (kk : ∀ (vR vW vT vS vD vA vI vJ vE vF vP vQ vK vM : SV) (gW : SV) (gA gL : Nat → SV), Rel vR vW vT vS vD vA vI vJ vE vF vP vQ vK vM gW gA gL → G X (WLw t ad a vR vW vT vS vD vA vI vJ vE vF vP vQ vK vM gW gA gL) 1409 [(3, .int (nI i)), (2, .ref (a 0)), (1, .ref (ad 0 0)), (0, .ref b)] []) : G X (WLw t ad a vR vW vT vS vD vA vI vJ vE vF vP vQ vK vM gW gA gL) 429 [(3, .int (nI i)), (2, .ref (a 0)), (1, .ref (ad 0 0)), (0, .ref b)] [] := by
  obtain ⟨r, m, h1, h2, h3, h4⟩ := hst vR vW vT vS vD vA vI vJ vE vF vP vQ vK vM gW gA gL hrel
  refine G.aload_n C dL_law_429 2 rfl ?_
  refine G.cvI (i0 := 0) (j0 := 0) (cs' := WLw t ad a vR vW vT (r.2.1) vD (r.2.2) vI vJ vE vF vP vQ vK vM gW gA gL) C (c_X7_undo (ad := ad) h1) ([0, 3, 5] ++ (List.range 24).map (fun k => 22 + k)) (famJ2 (List.append_assoc [wRL t ad vR, wRows t ad vW, wTape t ad vT, wStage t (ad 3) vS, wStage t (ad 4) vD, wActs t ad vA, wStage t (ad 6) vI, wStage t (ad 7) vJ, wSeer t ad vE, wStage t (ad 9) vF, wPlanner t ad vP, wStage t (ad 11) vQ, wAsker t ad vK, wModel t a vM] (fRows t ad gW) _).symm (by rw [List.length_append, fRows_len]; rfl) fSt_len rfl) (by decide) (famA rfl fSt_ads) (famC2 rfl (List.append_assoc [wRL t ad vR, wRows t ad vW, wTape t ad vT, wStage t (ad 3) (r.2.1), wStage t (ad 4) vD, wActs t ad (r.2.2), wStage t (ad 6) vI, wStage t (ad 7) vJ, wSeer t ad vE, wStage t (ad 9) vF, wPlanner t ad vP, wStage t (ad 11) vQ, wAsker t ad vK, wModel t a vM] (fRows t ad gW) _).symm (by rw [List.length_append, fRows_len]; rfl) fSt_len fSt_len (List.append_assoc [wRL t ad vR, wRows t ad vW, wTape t ad vT, wStage t (ad 3) (r.2.1), wStage t (ad 4) vD, wActs t ad (r.2.2), wStage t (ad 6) vI, wStage t (ad 7) vJ, wSeer t ad vE, wStage t (ad 9) vF, wPlanner t ad vP, wStage t (ad 11) vQ, wAsker t ad vK, wModel t a vM] (fRows t ad gW) _)) rfl rfl rfl k_614 cal_X7_undo ⟨rfl, rfl, by decide, by decide⟩ rfl (Nat.le_of_ble_eq_true rfl) dL_law_430 ?_
  refine G.aload_n C dL_law_433 1 rfl ?_
  refine G.cvI (i0 := 13) (j0 := 0) (cs' := WLw t ad a vR vW vT (r.2.1) vD (r.2.2) vI vJ vE vF vP vQ vK (m.2) gW gA gL) C (c_X8_undo (a := a) h2) [13] rfl rfl rfl rfl rfl rfl rfl k_1234 cal_X8_undo ⟨rfl, rfl, by decide, by decide⟩ rfl (Nat.le_of_ble_eq_true rfl) dL_law_434 ?_
  refine G.icmp_eq (tgt := 1409) C dL_law_437 (by decide) (β := Unit) (o1 := some ()) (o2 := none) (r := ()) (if_pos h3) (fun _ => ?_) (fun h => by cases h)
  exact kk _ _ _ _ _ _ _ _ _ _ _ _ _ _ _ _ _ h4
set_option maxHeartbeats 4000000 in
set_option maxRecDepth 20000 in
theorem law_taps {X : Cx} {t : Nat → ClassId} {ad : Nat → Nat → Nat} {a : Nat → Nat} {b L i N : Nat} {xs0 : Nat → Int32} {Rel : RelT} (C : gX X t room_1 cL_law 4 RL) (hS0 : SX X b L xs0) (hL : L ≤ 384) (hi : i + 5 < L) (hst : St_taps N Rel) {vR vW vT vS vD vA vI vJ vE vF vP vQ vK vM : SV} {gW : SV} {gA gL : Nat → SV} (hrel : Rel vR vW vT vS vD vA vI vJ vE vF vP vQ vK vM gW gA gL) (kk : ∀ (vR vW vT vS vD vA vI vJ vE vF vP vQ vK vM : SV) (gW : SV) (gA gL : Nat → SV), Rel vR vW vT vS vD vA vI vJ vE vF vP vQ vK vM gW gA gL → G X (WLw t ad a vR vW vT vS vD vA vI vJ vE vF vP vQ vK vM gW gA gL) 1409 [(3, .int (nI i)), (2, .ref (a 0)), (1, .ref (ad 0 0)), (0, .ref b)] []) : G X (WLw t ad a vR vW vT vS vD vA vI vJ vE vF vP vQ vK vM gW gA gL) 442 [(3, .int (nI i)), (2, .ref (a 0)), (1, .ref (ad 0 0)), (0, .ref b)] [] := by
  obtain ⟨r, m, h1, h2, h3, h4⟩ := hst vR vW vT vS vD vA vI vJ vE vF vP vQ vK vM gW gA gL (xs0 (i + 1)) hrel
  refine G.aload_n C dL_law_442 2 rfl ?_
  refine G.aload_n C dL_law_443 3 rfl ?_
  refine G.iload_n C dL_law_444 0 rfl ?_
  refine G.iconst (v := (1 : Int32)) C dL_law_445 (by decide) ?_
  refine G.iadd C dL_law_446 ?_
  refine G.sld C hS0 (i + 1) (nI_add i 1) (by omega) hL dL_law_447 ?_
  refine G.cvI (i0 := 0) (j0 := 0) (cs' := WLw t ad a vR vW vT (r.2.1) vD (r.2.2.1) vI vJ vE vF vP vQ vK vM gW (r.2.2.2) gL) C (c_X7_taps (ad := ad) h1) ([0, 3, 5] ++ (List.range 24).map (fun k => 22 + k)) (famJ2 (List.append_assoc [wRL t ad vR, wRows t ad vW, wTape t ad vT, wStage t (ad 3) vS, wStage t (ad 4) vD, wActs t ad vA, wStage t (ad 6) vI, wStage t (ad 7) vJ, wSeer t ad vE, wStage t (ad 9) vF, wPlanner t ad vP, wStage t (ad 11) vQ, wAsker t ad vK, wModel t a vM] (fRows t ad gW) _).symm (by rw [List.length_append, fRows_len]; rfl) fSt_len rfl) (by decide) (famA rfl fSt_ads) (famC2 rfl (List.append_assoc [wRL t ad vR, wRows t ad vW, wTape t ad vT, wStage t (ad 3) (r.2.1), wStage t (ad 4) vD, wActs t ad (r.2.2.1), wStage t (ad 6) vI, wStage t (ad 7) vJ, wSeer t ad vE, wStage t (ad 9) vF, wPlanner t ad vP, wStage t (ad 11) vQ, wAsker t ad vK, wModel t a vM] (fRows t ad gW) _).symm (by rw [List.length_append, fRows_len]; rfl) fSt_len fSt_len (List.append_assoc [wRL t ad vR, wRows t ad vW, wTape t ad vT, wStage t (ad 3) (r.2.1), wStage t (ad 4) vD, wActs t ad (r.2.2.1), wStage t (ad 6) vI, wStage t (ad 7) vJ, wSeer t ad vE, wStage t (ad 9) vF, wPlanner t ad vP, wStage t (ad 11) vQ, wAsker t ad vK, wModel t a vM] (fRows t ad gW) _)) rfl rfl rfl k_628 cal_X7_taps ⟨rfl, rfl, by decide, by decide⟩ rfl (Nat.le_of_ble_eq_true rfl) dL_law_448 ?_
  refine G.aload_n C dL_law_451 1 rfl ?_
  refine G.aload_n C dL_law_452 3 rfl ?_
  refine G.iload_n C dL_law_453 0 rfl ?_
  refine G.iconst (v := (1 : Int32)) C dL_law_454 (by decide) ?_
  refine G.iadd C dL_law_455 ?_
  refine G.sld C hS0 (i + 1) (nI_add i 1) (by omega) hL dL_law_456 ?_
  refine G.cvI (i0 := 13) (j0 := 0) (cs' := WLw t ad a vR vW vT (r.2.1) vD (r.2.2.1) vI vJ vE vF vP vQ vK (m.2) gW (r.2.2.2) gL) C (c_X8_taps (a := a) h2) [13] rfl rfl rfl rfl rfl rfl rfl k_1239 cal_X8_taps ⟨rfl, rfl, by decide, by decide⟩ rfl (Nat.le_of_ble_eq_true rfl) dL_law_457 ?_
  refine G.icmp_eq (tgt := 1409) C dL_law_460 (by decide) (β := Unit) (o1 := some ()) (o2 := none) (r := ()) (if_pos h3) (fun _ => ?_) (fun h => by cases h)
  exact kk _ _ _ _ _ _ _ _ _ _ _ _ _ _ _ _ _ h4
set_option maxHeartbeats 4000000 in
set_option maxRecDepth 20000 in
theorem law_front {X : Cx} {t : Nat → ClassId} {ad : Nat → Nat → Nat} {a : Nat → Nat} {b L i N : Nat} {xs0 : Nat → Int32} {Rel : RelT} (C : gX X t room_1 cL_law 4 RL) (hS0 : SX X b L xs0) (hL : L ≤ 384) (hi : i + 5 < L) (hst : St_front N Rel) {vR vW vT vS vD vA vI vJ vE vF vP vQ vK vM : SV} {gW : SV} {gA gL : Nat → SV} (hrel : Rel vR vW vT vS vD vA vI vJ vE vF vP vQ vK vM gW gA gL) (kk : ∀ (vR vW vT vS vD vA vI vJ vE vF vP vQ vK vM : SV) (gW : SV) (gA gL : Nat → SV), Rel vR vW vT vS vD vA vI vJ vE vF vP vQ vK vM gW gA gL → G X (WLw t ad a vR vW vT vS vD vA vI vJ vE vF vP vQ vK vM gW gA gL) 1409 [(3, .int (nI i)), (2, .ref (a 0)), (1, .ref (ad 0 0)), (0, .ref b)] []) : G X (WLw t ad a vR vW vT vS vD vA vI vJ vE vF vP vQ vK vM gW gA gL) 465 [(3, .int (nI i)), (2, .ref (a 0)), (1, .ref (ad 0 0)), (0, .ref b)] [] := by
  obtain ⟨r, m, h1, h2, h3, h4⟩ := hst vR vW vT vS vD vA vI vJ vE vF vP vQ vK vM gW gA gL (xs0 (i + 1)) hrel
  refine G.aload_n C dL_law_465 2 rfl ?_
  refine G.aload_n C dL_law_466 3 rfl ?_
  refine G.iload_n C dL_law_467 0 rfl ?_
  refine G.iconst (v := (1 : Int32)) C dL_law_468 (by decide) ?_
  refine G.iadd C dL_law_469 ?_
  refine G.sld C hS0 (i + 1) (nI_add i 1) (by omega) hL dL_law_470 ?_
  refine G.cvI (i0 := 0) (j0 := 0) (cs' := WLw t ad a vR vW vT (r.2.1) vD (r.2.2.1) vI vJ vE vF vP vQ vK vM gW (r.2.2.2) gL) C (c_X7_front (ad := ad) h1) ([0, 3, 5] ++ (List.range 24).map (fun k => 22 + k)) (famJ2 (List.append_assoc [wRL t ad vR, wRows t ad vW, wTape t ad vT, wStage t (ad 3) vS, wStage t (ad 4) vD, wActs t ad vA, wStage t (ad 6) vI, wStage t (ad 7) vJ, wSeer t ad vE, wStage t (ad 9) vF, wPlanner t ad vP, wStage t (ad 11) vQ, wAsker t ad vK, wModel t a vM] (fRows t ad gW) _).symm (by rw [List.length_append, fRows_len]; rfl) fSt_len rfl) (by decide) (famA rfl fSt_ads) (famC2 rfl (List.append_assoc [wRL t ad vR, wRows t ad vW, wTape t ad vT, wStage t (ad 3) (r.2.1), wStage t (ad 4) vD, wActs t ad (r.2.2.1), wStage t (ad 6) vI, wStage t (ad 7) vJ, wSeer t ad vE, wStage t (ad 9) vF, wPlanner t ad vP, wStage t (ad 11) vQ, wAsker t ad vK, wModel t a vM] (fRows t ad gW) _).symm (by rw [List.length_append, fRows_len]; rfl) fSt_len fSt_len (List.append_assoc [wRL t ad vR, wRows t ad vW, wTape t ad vT, wStage t (ad 3) (r.2.1), wStage t (ad 4) vD, wActs t ad (r.2.2.1), wStage t (ad 6) vI, wStage t (ad 7) vJ, wSeer t ad vE, wStage t (ad 9) vF, wPlanner t ad vP, wStage t (ad 11) vQ, wAsker t ad vK, wModel t a vM] (fRows t ad gW) _)) rfl rfl rfl k_683 cal_X7_front ⟨rfl, rfl, by decide, by decide⟩ rfl (Nat.le_of_ble_eq_true rfl) dL_law_471 ?_
  refine G.aload_n C dL_law_474 1 rfl ?_
  refine G.aload_n C dL_law_475 3 rfl ?_
  refine G.iload_n C dL_law_476 0 rfl ?_
  refine G.iconst (v := (1 : Int32)) C dL_law_477 (by decide) ?_
  refine G.iadd C dL_law_478 ?_
  refine G.sld C hS0 (i + 1) (nI_add i 1) (by omega) hL dL_law_479 ?_
  refine G.cvI (i0 := 13) (j0 := 0) (cs' := WLw t ad a vR vW vT (r.2.1) vD (r.2.2.1) vI vJ vE vF vP vQ vK (m.2) gW (r.2.2.2) gL) C (c_X8_front (a := a) h2) [13] rfl rfl rfl rfl rfl rfl rfl k_1303 cal_X8_front ⟨rfl, rfl, by decide, by decide⟩ rfl (Nat.le_of_ble_eq_true rfl) dL_law_480 ?_
  refine G.icmp_eq (tgt := 1409) C dL_law_483 (by decide) (β := Unit) (o1 := some ()) (o2 := none) (r := ()) (if_pos h3) (fun _ => ?_) (fun h => by cases h)
  exact kk _ _ _ _ _ _ _ _ _ _ _ _ _ _ _ _ _ h4
set_option maxHeartbeats 4000000 in
set_option maxRecDepth 20000 in
theorem law_off {X : Cx} {t : Nat → ClassId} {ad : Nat → Nat → Nat} {a : Nat → Nat} {b L i N : Nat} {xs0 : Nat → Int32} {Rel : RelT} (C : gX X t room_1 cL_law 4 RL) (hS0 : SX X b L xs0) (hL : L ≤ 384) (hi : i + 5 < L) (hst : St_off N Rel) {vR vW vT vS vD vA vI vJ vE vF vP vQ vK vM : SV} {gW : SV} {gA gL : Nat → SV} (hrel : Rel vR vW vT vS vD vA vI vJ vE vF vP vQ vK vM gW gA gL) (kk : ∀ (vR vW vT vS vD vA vI vJ vE vF vP vQ vK vM : SV) (gW : SV) (gA gL : Nat → SV), Rel vR vW vT vS vD vA vI vJ vE vF vP vQ vK vM gW gA gL → G X (WLw t ad a vR vW vT vS vD vA vI vJ vE vF vP vQ vK vM gW gA gL) 1409 [(3, .int (nI i)), (2, .ref (a 0)), (1, .ref (ad 0 0)), (0, .ref b)] []) : G X (WLw t ad a vR vW vT vS vD vA vI vJ vE vF vP vQ vK vM gW gA gL) 488 [(3, .int (nI i)), (2, .ref (a 0)), (1, .ref (ad 0 0)), (0, .ref b)] [] := by
  obtain ⟨r, m, h1, h2, h3, h4⟩ := hst vR vW vT vS vD vA vI vJ vE vF vP vQ vK vM gW gA gL (xs0 (i + 1)) hrel
  refine G.aload_n C dL_law_488 2 rfl ?_
  refine G.aload_n C dL_law_489 3 rfl ?_
  refine G.iload_n C dL_law_490 0 rfl ?_
  refine G.iconst (v := (1 : Int32)) C dL_law_491 (by decide) ?_
  refine G.iadd C dL_law_492 ?_
  refine G.sld C hS0 (i + 1) (nI_add i 1) (by omega) hL dL_law_493 ?_
  refine G.cvI (i0 := 0) (j0 := 0) (cs' := WLw t ad a vR vW vT (r.2.1) vD (r.2.2.1) vI vJ vE vF vP vQ vK vM gW (r.2.2.2) gL) C (c_X7_off (ad := ad) h1) ([0, 3, 5] ++ (List.range 24).map (fun k => 22 + k)) (famJ2 (List.append_assoc [wRL t ad vR, wRows t ad vW, wTape t ad vT, wStage t (ad 3) vS, wStage t (ad 4) vD, wActs t ad vA, wStage t (ad 6) vI, wStage t (ad 7) vJ, wSeer t ad vE, wStage t (ad 9) vF, wPlanner t ad vP, wStage t (ad 11) vQ, wAsker t ad vK, wModel t a vM] (fRows t ad gW) _).symm (by rw [List.length_append, fRows_len]; rfl) fSt_len rfl) (by decide) (famA rfl fSt_ads) (famC2 rfl (List.append_assoc [wRL t ad vR, wRows t ad vW, wTape t ad vT, wStage t (ad 3) (r.2.1), wStage t (ad 4) vD, wActs t ad (r.2.2.1), wStage t (ad 6) vI, wStage t (ad 7) vJ, wSeer t ad vE, wStage t (ad 9) vF, wPlanner t ad vP, wStage t (ad 11) vQ, wAsker t ad vK, wModel t a vM] (fRows t ad gW) _).symm (by rw [List.length_append, fRows_len]; rfl) fSt_len fSt_len (List.append_assoc [wRL t ad vR, wRows t ad vW, wTape t ad vT, wStage t (ad 3) (r.2.1), wStage t (ad 4) vD, wActs t ad (r.2.2.1), wStage t (ad 6) vI, wStage t (ad 7) vJ, wSeer t ad vE, wStage t (ad 9) vF, wPlanner t ad vP, wStage t (ad 11) vQ, wAsker t ad vK, wModel t a vM] (fRows t ad gW) _)) rfl rfl rfl k_696 cal_X7_off ⟨rfl, rfl, by decide, by decide⟩ rfl (Nat.le_of_ble_eq_true rfl) dL_law_494 ?_
  refine G.aload_n C dL_law_497 1 rfl ?_
  refine G.aload_n C dL_law_498 3 rfl ?_
  refine G.iload_n C dL_law_499 0 rfl ?_
  refine G.iconst (v := (1 : Int32)) C dL_law_500 (by decide) ?_
  refine G.iadd C dL_law_501 ?_
  refine G.sld C hS0 (i + 1) (nI_add i 1) (by omega) hL dL_law_502 ?_
  refine G.cvI (i0 := 13) (j0 := 0) (cs' := WLw t ad a vR vW vT (r.2.1) vD (r.2.2.1) vI vJ vE vF vP vQ vK (m.2) gW (r.2.2.2) gL) C (c_X8_off (a := a) h2) [13] rfl rfl rfl rfl rfl rfl rfl k_1315 cal_X8_off ⟨rfl, rfl, by decide, by decide⟩ rfl (Nat.le_of_ble_eq_true rfl) dL_law_503 ?_
  refine G.icmp_eq (tgt := 1409) C dL_law_506 (by decide) (β := Unit) (o1 := some ()) (o2 := none) (r := ()) (if_pos h3) (fun _ => ?_) (fun h => by cases h)
  exact kk _ _ _ _ _ _ _ _ _ _ _ _ _ _ _ _ _ h4
set_option maxHeartbeats 4000000 in
set_option maxRecDepth 20000 in
theorem law_back {X : Cx} {t : Nat → ClassId} {ad : Nat → Nat → Nat} {a : Nat → Nat} {b L i N : Nat} {xs0 : Nat → Int32} {Rel : RelT} (C : gX X t room_1 cL_law 4 RL) (hS0 : SX X b L xs0) (hL : L ≤ 384) (hi : i + 5 < L) (hst : St_back N Rel) {vR vW vT vS vD vA vI vJ vE vF vP vQ vK vM : SV} {gW : SV} {gA gL : Nat → SV} (hrel : Rel vR vW vT vS vD vA vI vJ vE vF vP vQ vK vM gW gA gL) (kk : ∀ (vR vW vT vS vD vA vI vJ vE vF vP vQ vK vM : SV) (gW : SV) (gA gL : Nat → SV), Rel vR vW vT vS vD vA vI vJ vE vF vP vQ vK vM gW gA gL → G X (WLw t ad a vR vW vT vS vD vA vI vJ vE vF vP vQ vK vM gW gA gL) 1409 [(3, .int (nI i)), (2, .ref (a 0)), (1, .ref (ad 0 0)), (0, .ref b)] []) : G X (WLw t ad a vR vW vT vS vD vA vI vJ vE vF vP vQ vK vM gW gA gL) 511 [(3, .int (nI i)), (2, .ref (a 0)), (1, .ref (ad 0 0)), (0, .ref b)] [] := by
  obtain ⟨r, m, h1, h2, h3, h4⟩ := hst vR vW vT vS vD vA vI vJ vE vF vP vQ vK vM gW gA gL (xs0 (i + 1)) hrel
  refine G.aload_n C dL_law_511 2 rfl ?_
  refine G.aload_n C dL_law_512 3 rfl ?_
  refine G.iload_n C dL_law_513 0 rfl ?_
  refine G.iconst (v := (1 : Int32)) C dL_law_514 (by decide) ?_
  refine G.iadd C dL_law_515 ?_
  refine G.sld C hS0 (i + 1) (nI_add i 1) (by omega) hL dL_law_516 ?_
  refine G.cvI (i0 := 0) (j0 := 0) (cs' := WLw t ad a vR vW vT (r.2.1) vD (r.2.2.1) vI vJ vE vF vP vQ vK vM gW (r.2.2.2) gL) C (c_X7_back (ad := ad) h1) ([0, 3, 5] ++ (List.range 24).map (fun k => 22 + k)) (famJ2 (List.append_assoc [wRL t ad vR, wRows t ad vW, wTape t ad vT, wStage t (ad 3) vS, wStage t (ad 4) vD, wActs t ad vA, wStage t (ad 6) vI, wStage t (ad 7) vJ, wSeer t ad vE, wStage t (ad 9) vF, wPlanner t ad vP, wStage t (ad 11) vQ, wAsker t ad vK, wModel t a vM] (fRows t ad gW) _).symm (by rw [List.length_append, fRows_len]; rfl) fSt_len rfl) (by decide) (famA rfl fSt_ads) (famC2 rfl (List.append_assoc [wRL t ad vR, wRows t ad vW, wTape t ad vT, wStage t (ad 3) (r.2.1), wStage t (ad 4) vD, wActs t ad (r.2.2.1), wStage t (ad 6) vI, wStage t (ad 7) vJ, wSeer t ad vE, wStage t (ad 9) vF, wPlanner t ad vP, wStage t (ad 11) vQ, wAsker t ad vK, wModel t a vM] (fRows t ad gW) _).symm (by rw [List.length_append, fRows_len]; rfl) fSt_len fSt_len (List.append_assoc [wRL t ad vR, wRows t ad vW, wTape t ad vT, wStage t (ad 3) (r.2.1), wStage t (ad 4) vD, wActs t ad (r.2.2.1), wStage t (ad 6) vI, wStage t (ad 7) vJ, wSeer t ad vE, wStage t (ad 9) vF, wPlanner t ad vP, wStage t (ad 11) vQ, wAsker t ad vK, wModel t a vM] (fRows t ad gW) _)) rfl rfl rfl k_701 cal_X7_back ⟨rfl, rfl, by decide, by decide⟩ rfl (Nat.le_of_ble_eq_true rfl) dL_law_517 ?_
  refine G.aload_n C dL_law_520 1 rfl ?_
  refine G.aload_n C dL_law_521 3 rfl ?_
  refine G.iload_n C dL_law_522 0 rfl ?_
  refine G.iconst (v := (1 : Int32)) C dL_law_523 (by decide) ?_
  refine G.iadd C dL_law_524 ?_
  refine G.sld C hS0 (i + 1) (nI_add i 1) (by omega) hL dL_law_525 ?_
  refine G.cvI (i0 := 13) (j0 := 0) (cs' := WLw t ad a vR vW vT (r.2.1) vD (r.2.2.1) vI vJ vE vF vP vQ vK (m.2) gW (r.2.2.2) gL) C (c_X8_back (a := a) h2) [13] rfl rfl rfl rfl rfl rfl rfl k_1319 cal_X8_back ⟨rfl, rfl, by decide, by decide⟩ rfl (Nat.le_of_ble_eq_true rfl) dL_law_526 ?_
  refine G.icmp_eq (tgt := 1409) C dL_law_529 (by decide) (β := Unit) (o1 := some ()) (o2 := none) (r := ()) (if_pos h3) (fun _ => ?_) (fun h => by cases h)
  exact kk _ _ _ _ _ _ _ _ _ _ _ _ _ _ _ _ _ h4
set_option maxHeartbeats 4000000 in
set_option maxRecDepth 20000 in
theorem law_sit {X : Cx} {t : Nat → ClassId} {ad : Nat → Nat → Nat} {a : Nat → Nat} {b L i N : Nat} {xs0 : Nat → Int32} {Rel : RelT} (C : gX X t room_1 cL_law 4 RL) (hS0 : SX X b L xs0) (hL : L ≤ 384) (hi : i + 5 < L) (hst : St_sit N Rel) {vR vW vT vS vD vA vI vJ vE vF vP vQ vK vM : SV} {gW : SV} {gA gL : Nat → SV} (hrel : Rel vR vW vT vS vD vA vI vJ vE vF vP vQ vK vM gW gA gL) (kk : ∀ (vR vW vT vS vD vA vI vJ vE vF vP vQ vK vM : SV) (gW : SV) (gA gL : Nat → SV), Rel vR vW vT vS vD vA vI vJ vE vF vP vQ vK vM gW gA gL → G X (WLw t ad a vR vW vT vS vD vA vI vJ vE vF vP vQ vK vM gW gA gL) 1409 [(3, .int (nI i)), (2, .ref (a 0)), (1, .ref (ad 0 0)), (0, .ref b)] []) : G X (WLw t ad a vR vW vT vS vD vA vI vJ vE vF vP vQ vK vM gW gA gL) 534 [(3, .int (nI i)), (2, .ref (a 0)), (1, .ref (ad 0 0)), (0, .ref b)] [] := by
  obtain ⟨r, m, h1, h2, h3, h4⟩ := hst vR vW vT vS vD vA vI vJ vE vF vP vQ vK vM gW gA gL (xs0 (i + 1)) (xs0 (i + 2)) (xs0 (i + 3)) hrel
  refine G.aload_n C dL_law_534 2 rfl ?_
  refine G.aload_n C dL_law_535 3 rfl ?_
  refine G.iload_n C dL_law_536 0 rfl ?_
  refine G.iconst (v := (1 : Int32)) C dL_law_537 (by decide) ?_
  refine G.iadd C dL_law_538 ?_
  refine G.sld C hS0 (i + 1) (nI_add i 1) (by omega) hL dL_law_539 ?_
  refine G.aload_n C dL_law_540 3 rfl ?_
  refine G.iload_n C dL_law_541 0 rfl ?_
  refine G.iconst (v := (2 : Int32)) C dL_law_542 (by decide) ?_
  refine G.iadd C dL_law_543 ?_
  refine G.sld C hS0 (i + 2) (nI_add i 2) (by omega) hL dL_law_544 ?_
  refine G.aload_n C dL_law_545 3 rfl ?_
  refine G.iload_n C dL_law_546 0 rfl ?_
  refine G.iconst (v := (3 : Int32)) C dL_law_547 (by decide) ?_
  refine G.iadd C dL_law_548 ?_
  refine G.sld C hS0 (i + 3) (nI_add i 3) (by omega) hL dL_law_549 ?_
  refine G.cvI (i0 := 0) (j0 := 0) (cs' := WLw t ad a vR vW vT (r.2.1) vD (r.2.2.1) vI vJ vE vF vP vQ vK vM gW (r.2.2.2) gL) C (c_X7_sit (ad := ad) h1) ([0, 3, 5] ++ (List.range 24).map (fun k => 22 + k)) (famJ2 (List.append_assoc [wRL t ad vR, wRows t ad vW, wTape t ad vT, wStage t (ad 3) vS, wStage t (ad 4) vD, wActs t ad vA, wStage t (ad 6) vI, wStage t (ad 7) vJ, wSeer t ad vE, wStage t (ad 9) vF, wPlanner t ad vP, wStage t (ad 11) vQ, wAsker t ad vK, wModel t a vM] (fRows t ad gW) _).symm (by rw [List.length_append, fRows_len]; rfl) fSt_len rfl) (by decide) (famA rfl fSt_ads) (famC2 rfl (List.append_assoc [wRL t ad vR, wRows t ad vW, wTape t ad vT, wStage t (ad 3) (r.2.1), wStage t (ad 4) vD, wActs t ad (r.2.2.1), wStage t (ad 6) vI, wStage t (ad 7) vJ, wSeer t ad vE, wStage t (ad 9) vF, wPlanner t ad vP, wStage t (ad 11) vQ, wAsker t ad vK, wModel t a vM] (fRows t ad gW) _).symm (by rw [List.length_append, fRows_len]; rfl) fSt_len fSt_len (List.append_assoc [wRL t ad vR, wRows t ad vW, wTape t ad vT, wStage t (ad 3) (r.2.1), wStage t (ad 4) vD, wActs t ad (r.2.2.1), wStage t (ad 6) vI, wStage t (ad 7) vJ, wSeer t ad vE, wStage t (ad 9) vF, wPlanner t ad vP, wStage t (ad 11) vQ, wAsker t ad vK, wModel t a vM] (fRows t ad gW) _)) rfl rfl rfl k_706 cal_X7_sit ⟨rfl, rfl, by decide, by decide⟩ rfl (Nat.le_of_ble_eq_true rfl) dL_law_550 ?_
  refine G.aload_n C dL_law_553 1 rfl ?_
  refine G.aload_n C dL_law_554 3 rfl ?_
  refine G.iload_n C dL_law_555 0 rfl ?_
  refine G.iconst (v := (1 : Int32)) C dL_law_556 (by decide) ?_
  refine G.iadd C dL_law_557 ?_
  refine G.sld C hS0 (i + 1) (nI_add i 1) (by omega) hL dL_law_558 ?_
  refine G.aload_n C dL_law_559 3 rfl ?_
  refine G.iload_n C dL_law_560 0 rfl ?_
  refine G.iconst (v := (2 : Int32)) C dL_law_561 (by decide) ?_
  refine G.iadd C dL_law_562 ?_
  refine G.sld C hS0 (i + 2) (nI_add i 2) (by omega) hL dL_law_563 ?_
  refine G.aload_n C dL_law_564 3 rfl ?_
  refine G.iload_n C dL_law_565 0 rfl ?_
  refine G.iconst (v := (3 : Int32)) C dL_law_566 (by decide) ?_
  refine G.iadd C dL_law_567 ?_
  refine G.sld C hS0 (i + 3) (nI_add i 3) (by omega) hL dL_law_568 ?_
  refine G.cvI (i0 := 13) (j0 := 0) (cs' := WLw t ad a vR vW vT (r.2.1) vD (r.2.2.1) vI vJ vE vF vP vQ vK (m.2) gW (r.2.2.2) gL) C (c_X8_sit (a := a) h2) [13] rfl rfl rfl rfl rfl rfl rfl k_1323 cal_X8_sit ⟨rfl, rfl, by decide, by decide⟩ rfl (Nat.le_of_ble_eq_true rfl) dL_law_569 ?_
  refine G.icmp_eq (tgt := 1409) C dL_law_572 (by decide) (β := Unit) (o1 := some ()) (o2 := none) (r := ()) (if_pos h3) (fun _ => ?_) (fun h => by cases h)
  exact kk _ _ _ _ _ _ _ _ _ _ _ _ _ _ _ _ _ h4
set_option maxHeartbeats 4000000 in
set_option maxRecDepth 20000 in
theorem law_thing {X : Cx} {t : Nat → ClassId} {ad : Nat → Nat → Nat} {a : Nat → Nat} {b L i N : Nat} {xs0 : Nat → Int32} {Rel : RelT} (C : gX X t room_1 cL_law 4 RL) (hS0 : SX X b L xs0) (hL : L ≤ 384) (hi : i + 5 < L) (hst : St_thing N Rel) {vR vW vT vS vD vA vI vJ vE vF vP vQ vK vM : SV} {gW : SV} {gA gL : Nat → SV} (hrel : Rel vR vW vT vS vD vA vI vJ vE vF vP vQ vK vM gW gA gL) (kk : ∀ (vR vW vT vS vD vA vI vJ vE vF vP vQ vK vM : SV) (gW : SV) (gA gL : Nat → SV), Rel vR vW vT vS vD vA vI vJ vE vF vP vQ vK vM gW gA gL → G X (WLw t ad a vR vW vT vS vD vA vI vJ vE vF vP vQ vK vM gW gA gL) 1409 [(3, .int (nI i)), (2, .ref (a 0)), (1, .ref (ad 0 0)), (0, .ref b)] []) : G X (WLw t ad a vR vW vT vS vD vA vI vJ vE vF vP vQ vK vM gW gA gL) 577 [(3, .int (nI i)), (2, .ref (a 0)), (1, .ref (ad 0 0)), (0, .ref b)] [] := by
  obtain ⟨r, m, h1, h2, h3, h4⟩ := hst vR vW vT vS vD vA vI vJ vE vF vP vQ vK vM gW gA gL (xs0 (i + 1)) (xs0 (i + 2)) hrel
  refine G.aload_n C dL_law_577 2 rfl ?_
  refine G.aload_n C dL_law_578 3 rfl ?_
  refine G.iload_n C dL_law_579 0 rfl ?_
  refine G.iconst (v := (1 : Int32)) C dL_law_580 (by decide) ?_
  refine G.iadd C dL_law_581 ?_
  refine G.sld C hS0 (i + 1) (nI_add i 1) (by omega) hL dL_law_582 ?_
  refine G.aload_n C dL_law_583 3 rfl ?_
  refine G.iload_n C dL_law_584 0 rfl ?_
  refine G.iconst (v := (2 : Int32)) C dL_law_585 (by decide) ?_
  refine G.iadd C dL_law_586 ?_
  refine G.sld C hS0 (i + 2) (nI_add i 2) (by omega) hL dL_law_587 ?_
  refine G.cvI (i0 := 0) (j0 := 0) (cs' := WLw t ad a vR vW vT vS vD vA vI vJ vE vF vP vQ vK vM gW gA gL) C (c_X7_thing (ad := ad) h1) [0, 3] rfl rfl rfl rfl rfl rfl rfl k_716 cal_X7_thing ⟨rfl, rfl, by decide, by decide⟩ rfl (Nat.le_of_ble_eq_true rfl) dL_law_588 ?_
  refine G.aload_n C dL_law_591 1 rfl ?_
  refine G.aload_n C dL_law_592 3 rfl ?_
  refine G.iload_n C dL_law_593 0 rfl ?_
  refine G.iconst (v := (1 : Int32)) C dL_law_594 (by decide) ?_
  refine G.iadd C dL_law_595 ?_
  refine G.sld C hS0 (i + 1) (nI_add i 1) (by omega) hL dL_law_596 ?_
  refine G.aload_n C dL_law_597 3 rfl ?_
  refine G.iload_n C dL_law_598 0 rfl ?_
  refine G.iconst (v := (2 : Int32)) C dL_law_599 (by decide) ?_
  refine G.iadd C dL_law_600 ?_
  refine G.sld C hS0 (i + 2) (nI_add i 2) (by omega) hL dL_law_601 ?_
  refine G.cvI (i0 := 13) (j0 := 0) (cs' := WLw t ad a vR vW vT vS vD vA vI vJ vE vF vP vQ vK vM gW gA gL) C (c_X8_thing (a := a) h2) [13] rfl rfl rfl rfl rfl rfl rfl k_1337 cal_X8_thing ⟨rfl, rfl, by decide, by decide⟩ rfl (Nat.le_of_ble_eq_true rfl) dL_law_602 ?_
  refine G.icmp_eq (tgt := 1409) C dL_law_605 (by decide) (β := Unit) (o1 := some ()) (o2 := none) (r := ()) (if_pos h3) (fun _ => ?_) (fun h => by cases h)
  exact kk _ _ _ _ _ _ _ _ _ _ _ _ _ _ _ _ _ h4
set_option maxHeartbeats 4000000 in
set_option maxRecDepth 20000 in
theorem law_seat {X : Cx} {t : Nat → ClassId} {ad : Nat → Nat → Nat} {a : Nat → Nat} {b L i N : Nat} {xs0 : Nat → Int32} {Rel : RelT} (C : gX X t room_1 cL_law 4 RL) (hS0 : SX X b L xs0) (hL : L ≤ 384) (hi : i + 5 < L) (hst : St_seat N Rel) {vR vW vT vS vD vA vI vJ vE vF vP vQ vK vM : SV} {gW : SV} {gA gL : Nat → SV} (hrel : Rel vR vW vT vS vD vA vI vJ vE vF vP vQ vK vM gW gA gL) (kk : ∀ (vR vW vT vS vD vA vI vJ vE vF vP vQ vK vM : SV) (gW : SV) (gA gL : Nat → SV), Rel vR vW vT vS vD vA vI vJ vE vF vP vQ vK vM gW gA gL → G X (WLw t ad a vR vW vT vS vD vA vI vJ vE vF vP vQ vK vM gW gA gL) 1409 [(3, .int (nI i)), (2, .ref (a 0)), (1, .ref (ad 0 0)), (0, .ref b)] []) : G X (WLw t ad a vR vW vT vS vD vA vI vJ vE vF vP vQ vK vM gW gA gL) 610 [(3, .int (nI i)), (2, .ref (a 0)), (1, .ref (ad 0 0)), (0, .ref b)] [] := by
  obtain ⟨r, m, h1, h2, h3, h4⟩ := hst vR vW vT vS vD vA vI vJ vE vF vP vQ vK vM gW gA gL (xs0 (i + 1)) (xs0 (i + 2)) hrel
  refine G.aload_n C dL_law_610 2 rfl ?_
  refine G.aload_n C dL_law_611 3 rfl ?_
  refine G.iload_n C dL_law_612 0 rfl ?_
  refine G.iconst (v := (1 : Int32)) C dL_law_613 (by decide) ?_
  refine G.iadd C dL_law_614 ?_
  refine G.sld C hS0 (i + 1) (nI_add i 1) (by omega) hL dL_law_615 ?_
  refine G.aload_n C dL_law_616 3 rfl ?_
  refine G.iload_n C dL_law_617 0 rfl ?_
  refine G.iconst (v := (2 : Int32)) C dL_law_618 (by decide) ?_
  refine G.iadd C dL_law_619 ?_
  refine G.sld C hS0 (i + 2) (nI_add i 2) (by omega) hL dL_law_620 ?_
  refine G.cvI (i0 := 0) (j0 := 0) (cs' := WLw t ad a vR vW vT vS vD vA vI vJ vE vF vP vQ vK vM gW gA gL) C (c_X7_seat (ad := ad) h1) [0, 3] rfl rfl rfl rfl rfl rfl rfl k_725 cal_X7_seat ⟨rfl, rfl, by decide, by decide⟩ rfl (Nat.le_of_ble_eq_true rfl) dL_law_621 ?_
  refine G.aload_n C dL_law_624 1 rfl ?_
  refine G.aload_n C dL_law_625 3 rfl ?_
  refine G.iload_n C dL_law_626 0 rfl ?_
  refine G.iconst (v := (1 : Int32)) C dL_law_627 (by decide) ?_
  refine G.iadd C dL_law_628 ?_
  refine G.sld C hS0 (i + 1) (nI_add i 1) (by omega) hL dL_law_629 ?_
  refine G.aload_n C dL_law_630 3 rfl ?_
  refine G.iload_n C dL_law_631 0 rfl ?_
  refine G.iconst (v := (2 : Int32)) C dL_law_632 (by decide) ?_
  refine G.iadd C dL_law_633 ?_
  refine G.sld C hS0 (i + 2) (nI_add i 2) (by omega) hL dL_law_634 ?_
  refine G.cvI (i0 := 13) (j0 := 0) (cs' := WLw t ad a vR vW vT vS vD vA vI vJ vE vF vP vQ vK vM gW gA gL) C (c_X8_seat (a := a) h2) [13] rfl rfl rfl rfl rfl rfl rfl k_1341 cal_X8_seat ⟨rfl, rfl, by decide, by decide⟩ rfl (Nat.le_of_ble_eq_true rfl) dL_law_635 ?_
  refine G.icmp_eq (tgt := 1409) C dL_law_638 (by decide) (β := Unit) (o1 := some ()) (o2 := none) (r := ()) (if_pos h3) (fun _ => ?_) (fun h => by cases h)
  exact kk _ _ _ _ _ _ _ _ _ _ _ _ _ _ _ _ _ h4
set_option maxHeartbeats 4000000 in
set_option maxRecDepth 20000 in
theorem law_list {X : Cx} {t : Nat → ClassId} {ad : Nat → Nat → Nat} {a : Nat → Nat} {b L i N : Nat} {xs0 : Nat → Int32} {Rel : RelT} (C : gX X t room_1 cL_law 4 RL) (hS0 : SX X b L xs0) (hL : L ≤ 384) (hi : i + 5 < L) (hst : St_list N Rel) {vR vW vT vS vD vA vI vJ vE vF vP vQ vK vM : SV} {gW : SV} {gA gL : Nat → SV} (hrel : Rel vR vW vT vS vD vA vI vJ vE vF vP vQ vK vM gW gA gL) (kk : ∀ (vR vW vT vS vD vA vI vJ vE vF vP vQ vK vM : SV) (gW : SV) (gA gL : Nat → SV), Rel vR vW vT vS vD vA vI vJ vE vF vP vQ vK vM gW gA gL → G X (WLw t ad a vR vW vT vS vD vA vI vJ vE vF vP vQ vK vM gW gA gL) 1409 [(3, .int (nI i)), (2, .ref (a 0)), (1, .ref (ad 0 0)), (0, .ref b)] []) : G X (WLw t ad a vR vW vT vS vD vA vI vJ vE vF vP vQ vK vM gW gA gL) 643 [(3, .int (nI i)), (2, .ref (a 0)), (1, .ref (ad 0 0)), (0, .ref b)] [] := by
  obtain ⟨r, m, h1, h2, h3, h4⟩ := hst vR vW vT vS vD vA vI vJ vE vF vP vQ vK vM gW gA gL (xs0 (i + 1)) hrel
  refine G.aload_n C dL_law_643 2 rfl ?_
  refine G.aload_n C dL_law_644 3 rfl ?_
  refine G.iload_n C dL_law_645 0 rfl ?_
  refine G.iconst (v := (1 : Int32)) C dL_law_646 (by decide) ?_
  refine G.iadd C dL_law_647 ?_
  refine G.sld C hS0 (i + 1) (nI_add i 1) (by omega) hL dL_law_648 ?_
  refine G.cvI (i0 := 0) (j0 := 0) (cs' := WLw t ad a vR vW vT vS vD vA vI vJ vE vF vP vQ vK vM gW gA gL) C (c_X7_list (ad := ad) h1) [0, 3] rfl rfl rfl rfl rfl rfl rfl k_729 cal_X7_list ⟨rfl, rfl, by decide, by decide⟩ rfl (Nat.le_of_ble_eq_true rfl) dL_law_649 ?_
  refine G.aload_n C dL_law_652 1 rfl ?_
  refine G.aload_n C dL_law_653 3 rfl ?_
  refine G.iload_n C dL_law_654 0 rfl ?_
  refine G.iconst (v := (1 : Int32)) C dL_law_655 (by decide) ?_
  refine G.iadd C dL_law_656 ?_
  refine G.sld C hS0 (i + 1) (nI_add i 1) (by omega) hL dL_law_657 ?_
  refine G.cvI (i0 := 13) (j0 := 0) (cs' := WLw t ad a vR vW vT vS vD vA vI vJ vE vF vP vQ vK vM gW gA gL) C (c_X8_list (a := a) h2) [13] rfl rfl rfl rfl rfl rfl rfl k_1345 cal_X8_list ⟨rfl, rfl, by decide, by decide⟩ rfl (Nat.le_of_ble_eq_true rfl) dL_law_658 ?_
  refine G.icmp_eq (tgt := 1409) C dL_law_661 (by decide) (β := Unit) (o1 := some ()) (o2 := none) (r := ()) (if_pos h3) (fun _ => ?_) (fun h => by cases h)
  exact kk _ _ _ _ _ _ _ _ _ _ _ _ _ _ _ _ _ h4
set_option maxHeartbeats 4000000 in
set_option maxRecDepth 20000 in
theorem law_stand {X : Cx} {t : Nat → ClassId} {ad : Nat → Nat → Nat} {a : Nat → Nat} {b L i N : Nat} {xs0 : Nat → Int32} {Rel : RelT} (C : gX X t room_1 cL_law 4 RL) (hS0 : SX X b L xs0) (hL : L ≤ 384) (hi : i + 5 < L) (hst : St_stand N Rel) {vR vW vT vS vD vA vI vJ vE vF vP vQ vK vM : SV} {gW : SV} {gA gL : Nat → SV} (hrel : Rel vR vW vT vS vD vA vI vJ vE vF vP vQ vK vM gW gA gL) (kk : ∀ (vR vW vT vS vD vA vI vJ vE vF vP vQ vK vM : SV) (gW : SV) (gA gL : Nat → SV), Rel vR vW vT vS vD vA vI vJ vE vF vP vQ vK vM gW gA gL → G X (WLw t ad a vR vW vT vS vD vA vI vJ vE vF vP vQ vK vM gW gA gL) 1409 [(3, .int (nI i)), (2, .ref (a 0)), (1, .ref (ad 0 0)), (0, .ref b)] []) : G X (WLw t ad a vR vW vT vS vD vA vI vJ vE vF vP vQ vK vM gW gA gL) 666 [(3, .int (nI i)), (2, .ref (a 0)), (1, .ref (ad 0 0)), (0, .ref b)] [] := by
  obtain ⟨r, m, h1, h2, h3, h4⟩ := hst vR vW vT vS vD vA vI vJ vE vF vP vQ vK vM gW gA gL (xs0 (i + 1)) hrel
  refine G.aload_n C dL_law_666 2 rfl ?_
  refine G.aload_n C dL_law_667 3 rfl ?_
  refine G.iload_n C dL_law_668 0 rfl ?_
  refine G.iconst (v := (1 : Int32)) C dL_law_669 (by decide) ?_
  refine G.iadd C dL_law_670 ?_
  refine G.sld C hS0 (i + 1) (nI_add i 1) (by omega) hL dL_law_671 ?_
  refine G.cvI (i0 := 0) (j0 := 0) (cs' := WLw t ad a vR vW vT vS vD vA vI vJ vE vF vP vQ vK vM gW gA gL) C (c_X7_stand (ad := ad) h1) [0, 3] rfl rfl rfl rfl rfl rfl rfl k_733 cal_X7_stand ⟨rfl, rfl, by decide, by decide⟩ rfl (Nat.le_of_ble_eq_true rfl) dL_law_672 ?_
  refine G.aload_n C dL_law_675 1 rfl ?_
  refine G.aload_n C dL_law_676 3 rfl ?_
  refine G.iload_n C dL_law_677 0 rfl ?_
  refine G.iconst (v := (1 : Int32)) C dL_law_678 (by decide) ?_
  refine G.iadd C dL_law_679 ?_
  refine G.sld C hS0 (i + 1) (nI_add i 1) (by omega) hL dL_law_680 ?_
  refine G.cvI (i0 := 13) (j0 := 0) (cs' := WLw t ad a vR vW vT vS vD vA vI vJ vE vF vP vQ vK vM gW gA gL) C (c_X8_stand (a := a) h2) [13] rfl rfl rfl rfl rfl rfl rfl k_1349 cal_X8_stand ⟨rfl, rfl, by decide, by decide⟩ rfl (Nat.le_of_ble_eq_true rfl) dL_law_681 ?_
  refine G.icmp_eq (tgt := 1409) C dL_law_684 (by decide) (β := Unit) (o1 := some ()) (o2 := none) (r := ()) (if_pos h3) (fun _ => ?_) (fun h => by cases h)
  exact kk _ _ _ _ _ _ _ _ _ _ _ _ _ _ _ _ _ h4
set_option maxHeartbeats 4000000 in
set_option maxRecDepth 20000 in
theorem law_next {X : Cx} {t : Nat → ClassId} {ad : Nat → Nat → Nat} {a : Nat → Nat} {b L i N : Nat} {xs0 : Nat → Int32} {Rel : RelT} (C : gX X t room_1 cL_law 4 RL) (hS0 : SX X b L xs0) (hL : L ≤ 384) (hi : i + 5 < L) (hst : St_next N Rel) {vR vW vT vS vD vA vI vJ vE vF vP vQ vK vM : SV} {gW : SV} {gA gL : Nat → SV} (hrel : Rel vR vW vT vS vD vA vI vJ vE vF vP vQ vK vM gW gA gL) (kk : ∀ (vR vW vT vS vD vA vI vJ vE vF vP vQ vK vM : SV) (gW : SV) (gA gL : Nat → SV), Rel vR vW vT vS vD vA vI vJ vE vF vP vQ vK vM gW gA gL → G X (WLw t ad a vR vW vT vS vD vA vI vJ vE vF vP vQ vK vM gW gA gL) 1409 [(3, .int (nI i)), (2, .ref (a 0)), (1, .ref (ad 0 0)), (0, .ref b)] []) : G X (WLw t ad a vR vW vT vS vD vA vI vJ vE vF vP vQ vK vM gW gA gL) 689 [(3, .int (nI i)), (2, .ref (a 0)), (1, .ref (ad 0 0)), (0, .ref b)] [] := by
  obtain ⟨r, m, h1, h2, h3, h4⟩ := hst vR vW vT vS vD vA vI vJ vE vF vP vQ vK vM gW gA gL (xs0 (i + 1)) hrel
  refine G.aload_n C dL_law_689 2 rfl ?_
  refine G.aload_n C dL_law_690 3 rfl ?_
  refine G.iload_n C dL_law_691 0 rfl ?_
  refine G.iconst (v := (1 : Int32)) C dL_law_692 (by decide) ?_
  refine G.iadd C dL_law_693 ?_
  refine G.sld C hS0 (i + 1) (nI_add i 1) (by omega) hL dL_law_694 ?_
  refine G.cvI (i0 := 0) (j0 := 0) (cs' := WLw t ad a vR vW vT vS vD vA vI vJ vE (r.2) vP vQ vK vM gW gA gL) C (c_X7_next (ad := ad) h1) [0, 3, 8, 9] rfl rfl rfl rfl rfl rfl rfl k_741 cal_X7_next ⟨rfl, rfl, by decide, by decide⟩ rfl (Nat.le_of_ble_eq_true rfl) dL_law_695 ?_
  refine G.aload_n C dL_law_698 1 rfl ?_
  refine G.aload_n C dL_law_699 3 rfl ?_
  refine G.iload_n C dL_law_700 0 rfl ?_
  refine G.iconst (v := (1 : Int32)) C dL_law_701 (by decide) ?_
  refine G.iadd C dL_law_702 ?_
  refine G.sld C hS0 (i + 1) (nI_add i 1) (by omega) hL dL_law_703 ?_
  refine G.cvI (i0 := 13) (j0 := 0) (cs' := WLw t ad a vR vW vT vS vD vA vI vJ vE (r.2) vP vQ vK vM gW gA gL) C (c_X8_next (a := a) h2) [13] rfl rfl rfl rfl rfl rfl rfl k_1358 cal_X8_next ⟨rfl, rfl, by decide, by decide⟩ rfl (Nat.le_of_ble_eq_true rfl) dL_law_704 ?_
  refine G.icmp_eq (tgt := 1409) C dL_law_707 (by decide) (β := Unit) (o1 := some ()) (o2 := none) (r := ()) (if_pos h3) (fun _ => ?_) (fun h => by cases h)
  exact kk _ _ _ _ _ _ _ _ _ _ _ _ _ _ _ _ _ h4
set_option maxHeartbeats 4000000 in
set_option maxRecDepth 20000 in
theorem law_ahead {X : Cx} {t : Nat → ClassId} {ad : Nat → Nat → Nat} {a : Nat → Nat} {b L i N : Nat} {xs0 : Nat → Int32} {Rel : RelT} (C : gX X t room_1 cL_law 4 RL) (hS0 : SX X b L xs0) (hL : L ≤ 384) (hi : i + 5 < L) (hst : St_ahead N Rel) {vR vW vT vS vD vA vI vJ vE vF vP vQ vK vM : SV} {gW : SV} {gA gL : Nat → SV} (hrel : Rel vR vW vT vS vD vA vI vJ vE vF vP vQ vK vM gW gA gL) (kk : ∀ (vR vW vT vS vD vA vI vJ vE vF vP vQ vK vM : SV) (gW : SV) (gA gL : Nat → SV), Rel vR vW vT vS vD vA vI vJ vE vF vP vQ vK vM gW gA gL → G X (WLw t ad a vR vW vT vS vD vA vI vJ vE vF vP vQ vK vM gW gA gL) 1409 [(3, .int (nI i)), (2, .ref (a 0)), (1, .ref (ad 0 0)), (0, .ref b)] []) : G X (WLw t ad a vR vW vT vS vD vA vI vJ vE vF vP vQ vK vM gW gA gL) 712 [(3, .int (nI i)), (2, .ref (a 0)), (1, .ref (ad 0 0)), (0, .ref b)] [] := by
  obtain ⟨r, m, h1, h2, h3, h4⟩ := hst vR vW vT vS vD vA vI vJ vE vF vP vQ vK vM gW gA gL (xs0 (i + 1)) (xs0 (i + 2)) hrel
  refine G.aload_n C dL_law_712 2 rfl ?_
  refine G.aload_n C dL_law_713 3 rfl ?_
  refine G.iload_n C dL_law_714 0 rfl ?_
  refine G.iconst (v := (1 : Int32)) C dL_law_715 (by decide) ?_
  refine G.iadd C dL_law_716 ?_
  refine G.sld C hS0 (i + 1) (nI_add i 1) (by omega) hL dL_law_717 ?_
  refine G.aload_n C dL_law_718 3 rfl ?_
  refine G.iload_n C dL_law_719 0 rfl ?_
  refine G.iconst (v := (2 : Int32)) C dL_law_720 (by decide) ?_
  refine G.iadd C dL_law_721 ?_
  refine G.sld C hS0 (i + 2) (nI_add i 2) (by omega) hL dL_law_722 ?_
  refine G.cvI (i0 := 0) (j0 := 0) (cs' := WLw t ad a vR vW vT vS vD vA vI vJ vE (r.2) vP vQ vK vM gW gA gL) C (c_X7_ahead (ad := ad) h1) [0, 3, 8, 9] rfl rfl rfl rfl rfl rfl rfl k_751 cal_X7_ahead ⟨rfl, rfl, by decide, by decide⟩ rfl (Nat.le_of_ble_eq_true rfl) dL_law_723 ?_
  refine G.aload_n C dL_law_726 1 rfl ?_
  refine G.aload_n C dL_law_727 3 rfl ?_
  refine G.iload_n C dL_law_728 0 rfl ?_
  refine G.iconst (v := (1 : Int32)) C dL_law_729 (by decide) ?_
  refine G.iadd C dL_law_730 ?_
  refine G.sld C hS0 (i + 1) (nI_add i 1) (by omega) hL dL_law_731 ?_
  refine G.aload_n C dL_law_732 3 rfl ?_
  refine G.iload_n C dL_law_733 0 rfl ?_
  refine G.iconst (v := (2 : Int32)) C dL_law_734 (by decide) ?_
  refine G.iadd C dL_law_735 ?_
  refine G.sld C hS0 (i + 2) (nI_add i 2) (by omega) hL dL_law_736 ?_
  refine G.cvI (i0 := 13) (j0 := 0) (cs' := WLw t ad a vR vW vT vS vD vA vI vJ vE (r.2) vP vQ vK (m.2) gW gA gL) C (c_X8_ahead (a := a) h2) [13] rfl rfl rfl rfl rfl rfl rfl k_1362 cal_X8_ahead ⟨rfl, rfl, by decide, by decide⟩ rfl (Nat.le_of_ble_eq_true rfl) dL_law_737 ?_
  refine G.icmp_eq (tgt := 1409) C dL_law_740 (by decide) (β := Unit) (o1 := some ()) (o2 := none) (r := ()) (if_pos h3) (fun _ => ?_) (fun h => by cases h)
  exact kk _ _ _ _ _ _ _ _ _ _ _ _ _ _ _ _ _ h4
set_option maxHeartbeats 4000000 in
set_option maxRecDepth 20000 in
theorem law_when {X : Cx} {t : Nat → ClassId} {ad : Nat → Nat → Nat} {a : Nat → Nat} {b L i N : Nat} {xs0 : Nat → Int32} {Rel : RelT} (C : gX X t room_1 cL_law 4 RL) (hS0 : SX X b L xs0) (hL : L ≤ 384) (hi : i + 5 < L) (hst : St_when N Rel) {vR vW vT vS vD vA vI vJ vE vF vP vQ vK vM : SV} {gW : SV} {gA gL : Nat → SV} (hrel : Rel vR vW vT vS vD vA vI vJ vE vF vP vQ vK vM gW gA gL) (kk : ∀ (vR vW vT vS vD vA vI vJ vE vF vP vQ vK vM : SV) (gW : SV) (gA gL : Nat → SV), Rel vR vW vT vS vD vA vI vJ vE vF vP vQ vK vM gW gA gL → G X (WLw t ad a vR vW vT vS vD vA vI vJ vE vF vP vQ vK vM gW gA gL) 1409 [(3, .int (nI i)), (2, .ref (a 0)), (1, .ref (ad 0 0)), (0, .ref b)] []) : G X (WLw t ad a vR vW vT vS vD vA vI vJ vE vF vP vQ vK vM gW gA gL) 745 [(3, .int (nI i)), (2, .ref (a 0)), (1, .ref (ad 0 0)), (0, .ref b)] [] := by
  obtain ⟨r, m, h1, h2, h3, h4⟩ := hst vR vW vT vS vD vA vI vJ vE vF vP vQ vK vM gW gA gL (xs0 (i + 1)) (xs0 (i + 2)) hrel
  refine G.aload_n C dL_law_745 2 rfl ?_
  refine G.aload_n C dL_law_746 3 rfl ?_
  refine G.iload_n C dL_law_747 0 rfl ?_
  refine G.iconst (v := (1 : Int32)) C dL_law_748 (by decide) ?_
  refine G.iadd C dL_law_749 ?_
  refine G.sld C hS0 (i + 1) (nI_add i 1) (by omega) hL dL_law_750 ?_
  refine G.aload_n C dL_law_751 3 rfl ?_
  refine G.iload_n C dL_law_752 0 rfl ?_
  refine G.iconst (v := (2 : Int32)) C dL_law_753 (by decide) ?_
  refine G.iadd C dL_law_754 ?_
  refine G.sld C hS0 (i + 2) (nI_add i 2) (by omega) hL dL_law_755 ?_
  refine G.cvI (i0 := 0) (j0 := 0) (cs' := WLw t ad a vR vW vT vS vD vA vI vJ vE (r.2) vP vQ vK vM gW gA gL) C (c_X7_when (ad := ad) h1) [0, 3, 8, 9] rfl rfl rfl rfl rfl rfl rfl k_765 cal_X7_when ⟨rfl, rfl, by decide, by decide⟩ rfl (Nat.le_of_ble_eq_true rfl) dL_law_756 ?_
  refine G.aload_n C dL_law_759 1 rfl ?_
  refine G.aload_n C dL_law_760 3 rfl ?_
  refine G.iload_n C dL_law_761 0 rfl ?_
  refine G.iconst (v := (1 : Int32)) C dL_law_762 (by decide) ?_
  refine G.iadd C dL_law_763 ?_
  refine G.sld C hS0 (i + 1) (nI_add i 1) (by omega) hL dL_law_764 ?_
  refine G.aload_n C dL_law_765 3 rfl ?_
  refine G.iload_n C dL_law_766 0 rfl ?_
  refine G.iconst (v := (2 : Int32)) C dL_law_767 (by decide) ?_
  refine G.iadd C dL_law_768 ?_
  refine G.sld C hS0 (i + 2) (nI_add i 2) (by omega) hL dL_law_769 ?_
  refine G.cvI (i0 := 13) (j0 := 0) (cs' := WLw t ad a vR vW vT vS vD vA vI vJ vE (r.2) vP vQ vK (m.2) gW gA gL) C (c_X8_when (a := a) h2) [13] rfl rfl rfl rfl rfl rfl rfl k_1379 cal_X8_when ⟨rfl, rfl, by decide, by decide⟩ rfl (Nat.le_of_ble_eq_true rfl) dL_law_770 ?_
  refine G.icmp_eq (tgt := 1409) C dL_law_773 (by decide) (β := Unit) (o1 := some ()) (o2 := none) (r := ()) (if_pos h3) (fun _ => ?_) (fun h => by cases h)
  exact kk _ _ _ _ _ _ _ _ _ _ _ _ _ _ _ _ _ h4
set_option maxHeartbeats 4000000 in
set_option maxRecDepth 20000 in
theorem law_comes {X : Cx} {t : Nat → ClassId} {ad : Nat → Nat → Nat} {a : Nat → Nat} {b L i N : Nat} {xs0 : Nat → Int32} {Rel : RelT} (C : gX X t room_1 cL_law 4 RL) (hS0 : SX X b L xs0) (hL : L ≤ 384) (hi : i + 5 < L) (hst : St_comes N Rel) {vR vW vT vS vD vA vI vJ vE vF vP vQ vK vM : SV} {gW : SV} {gA gL : Nat → SV} (hrel : Rel vR vW vT vS vD vA vI vJ vE vF vP vQ vK vM gW gA gL) (kk : ∀ (vR vW vT vS vD vA vI vJ vE vF vP vQ vK vM : SV) (gW : SV) (gA gL : Nat → SV), Rel vR vW vT vS vD vA vI vJ vE vF vP vQ vK vM gW gA gL → G X (WLw t ad a vR vW vT vS vD vA vI vJ vE vF vP vQ vK vM gW gA gL) 1409 [(3, .int (nI i)), (2, .ref (a 0)), (1, .ref (ad 0 0)), (0, .ref b)] []) : G X (WLw t ad a vR vW vT vS vD vA vI vJ vE vF vP vQ vK vM gW gA gL) 778 [(3, .int (nI i)), (2, .ref (a 0)), (1, .ref (ad 0 0)), (0, .ref b)] [] := by
  obtain ⟨r, m, h1, h2, h3, h4⟩ := hst vR vW vT vS vD vA vI vJ vE vF vP vQ vK vM gW gA gL (xs0 (i + 1)) hrel
  refine G.aload_n C dL_law_778 2 rfl ?_
  refine G.aload_n C dL_law_779 3 rfl ?_
  refine G.iload_n C dL_law_780 0 rfl ?_
  refine G.iconst (v := (1 : Int32)) C dL_law_781 (by decide) ?_
  refine G.iadd C dL_law_782 ?_
  refine G.sld C hS0 (i + 1) (nI_add i 1) (by omega) hL dL_law_783 ?_
  refine G.cvI (i0 := 0) (j0 := 0) (cs' := WLw t ad a vR vW vT vS vD vA vI vJ vE (r.2) vP vQ vK vM gW gA gL) C (c_X7_comes (ad := ad) h1) [0, 3, 8, 9] rfl rfl rfl rfl rfl rfl rfl k_773 cal_X7_comes ⟨rfl, rfl, by decide, by decide⟩ rfl (Nat.le_of_ble_eq_true rfl) dL_law_784 ?_
  refine G.aload_n C dL_law_787 1 rfl ?_
  refine G.aload_n C dL_law_788 3 rfl ?_
  refine G.iload_n C dL_law_789 0 rfl ?_
  refine G.iconst (v := (1 : Int32)) C dL_law_790 (by decide) ?_
  refine G.iadd C dL_law_791 ?_
  refine G.sld C hS0 (i + 1) (nI_add i 1) (by omega) hL dL_law_792 ?_
  refine G.cvI (i0 := 13) (j0 := 0) (cs' := WLw t ad a vR vW vT vS vD vA vI vJ vE (r.2) vP vQ vK (m.2) gW gA gL) C (c_X8_comes (a := a) h2) [13] rfl rfl rfl rfl rfl rfl rfl k_1383 cal_X8_comes ⟨rfl, rfl, by decide, by decide⟩ rfl (Nat.le_of_ble_eq_true rfl) dL_law_793 ?_
  refine G.icmp_eq (tgt := 1409) C dL_law_796 (by decide) (β := Unit) (o1 := some ()) (o2 := none) (r := ()) (if_pos h3) (fun _ => ?_) (fun h => by cases h)
  exact kk _ _ _ _ _ _ _ _ _ _ _ _ _ _ _ _ _ h4
set_option maxHeartbeats 4000000 in
set_option maxRecDepth 20000 in
theorem law_order {X : Cx} {t : Nat → ClassId} {ad : Nat → Nat → Nat} {a : Nat → Nat} {b L i N : Nat} {xs0 : Nat → Int32} {Rel : RelT} (C : gX X t room_1 cL_law 4 RL) (hS0 : SX X b L xs0) (hL : L ≤ 384) (hi : i + 5 < L) (hst : St_order N Rel) {vR vW vT vS vD vA vI vJ vE vF vP vQ vK vM : SV} {gW : SV} {gA gL : Nat → SV} (hrel : Rel vR vW vT vS vD vA vI vJ vE vF vP vQ vK vM gW gA gL) (kk : ∀ (vR vW vT vS vD vA vI vJ vE vF vP vQ vK vM : SV) (gW : SV) (gA gL : Nat → SV), Rel vR vW vT vS vD vA vI vJ vE vF vP vQ vK vM gW gA gL → G X (WLw t ad a vR vW vT vS vD vA vI vJ vE vF vP vQ vK vM gW gA gL) 1409 [(3, .int (nI i)), (2, .ref (a 0)), (1, .ref (ad 0 0)), (0, .ref b)] []) : G X (WLw t ad a vR vW vT vS vD vA vI vJ vE vF vP vQ vK vM gW gA gL) 801 [(3, .int (nI i)), (2, .ref (a 0)), (1, .ref (ad 0 0)), (0, .ref b)] [] := by
  obtain ⟨r, m, h1, h2, h3, h4⟩ := hst vR vW vT vS vD vA vI vJ vE vF vP vQ vK vM gW gA gL (xs0 (i + 1)) hrel
  refine G.aload_n C dL_law_801 2 rfl ?_
  refine G.aload_n C dL_law_802 3 rfl ?_
  refine G.iload_n C dL_law_803 0 rfl ?_
  refine G.iconst (v := (1 : Int32)) C dL_law_804 (by decide) ?_
  refine G.iadd C dL_law_805 ?_
  refine G.sld C hS0 (i + 1) (nI_add i 1) (by omega) hL dL_law_806 ?_
  refine G.cvI (i0 := 0) (j0 := 0) (cs' := WLw t ad a vR vW vT vS vD vA vI vJ vE vF (r.2.1) vQ vK vM gW gA (r.2.2)) C (c_X7_order (ad := ad) h1) ([0, 3, 10] ++ (List.range 7).map (fun k => 46 + k)) (famJ2 (by show [wRL t ad vR, wRows t ad vW, wTape t ad vT, wStage t (ad 3) vS, wStage t (ad 4) vD, wActs t ad vA, wStage t (ad 6) vI, wStage t (ad 7) vJ, wSeer t ad vE, wStage t (ad 9) vF, wPlanner t ad vP, wStage t (ad 11) vQ, wAsker t ad vK, wModel t a vM] ++ (fRows t ad gW ++ (fRing t ad gA ++ fLev t ad gL)) = ([wRL t ad vR, wRows t ad vW, wTape t ad vT, wStage t (ad 3) vS, wStage t (ad 4) vD, wActs t ad vA, wStage t (ad 6) vI, wStage t (ad 7) vJ, wSeer t ad vE, wStage t (ad 9) vF, wPlanner t ad vP, wStage t (ad 11) vQ, wAsker t ad vK, wModel t a vM] ++ (fRows t ad gW ++ fRing t ad gA)) ++ (fLev t ad gL ++ []); simp only [List.append_assoc, List.append_nil]) (by rw [List.length_append, List.length_append, fRows_len]; unfold fRing; rw [fSt_len]; rfl) fSt_len rfl) (by decide) (famA rfl fSt_ads) (famC2 rfl (by show [wRL t ad vR, wRows t ad vW, wTape t ad vT, wStage t (ad 3) vS, wStage t (ad 4) vD, wActs t ad vA, wStage t (ad 6) vI, wStage t (ad 7) vJ, wSeer t ad vE, wStage t (ad 9) vF, wPlanner t ad (r.2.1), wStage t (ad 11) vQ, wAsker t ad vK, wModel t a vM] ++ (fRows t ad gW ++ (fRing t ad gA ++ fLev t ad gL)) = ([wRL t ad vR, wRows t ad vW, wTape t ad vT, wStage t (ad 3) vS, wStage t (ad 4) vD, wActs t ad vA, wStage t (ad 6) vI, wStage t (ad 7) vJ, wSeer t ad vE, wStage t (ad 9) vF, wPlanner t ad (r.2.1), wStage t (ad 11) vQ, wAsker t ad vK, wModel t a vM] ++ (fRows t ad gW ++ fRing t ad gA)) ++ (fLev t ad gL ++ []); simp only [List.append_assoc, List.append_nil]) (by rw [List.length_append, List.length_append, fRows_len]; unfold fRing; rw [fSt_len]; rfl) fSt_len fSt_len (by show ([wRL t ad vR, wRows t ad vW, wTape t ad vT, wStage t (ad 3) vS, wStage t (ad 4) vD, wActs t ad vA, wStage t (ad 6) vI, wStage t (ad 7) vJ, wSeer t ad vE, wStage t (ad 9) vF, wPlanner t ad (r.2.1), wStage t (ad 11) vQ, wAsker t ad vK, wModel t a vM] ++ (fRows t ad gW ++ fRing t ad gA)) ++ (fLev t ad (r.2.2) ++ []) = [wRL t ad vR, wRows t ad vW, wTape t ad vT, wStage t (ad 3) vS, wStage t (ad 4) vD, wActs t ad vA, wStage t (ad 6) vI, wStage t (ad 7) vJ, wSeer t ad vE, wStage t (ad 9) vF, wPlanner t ad (r.2.1), wStage t (ad 11) vQ, wAsker t ad vK, wModel t a vM] ++ (fRows t ad gW ++ (fRing t ad gA ++ fLev t ad (r.2.2))); simp only [List.append_assoc, List.append_nil])) rfl rfl rfl k_781 cal_X7_order ⟨rfl, rfl, by decide, by decide⟩ rfl (Nat.le_of_ble_eq_true rfl) dL_law_807 ?_
  refine G.aload_n C dL_law_810 1 rfl ?_
  refine G.aload_n C dL_law_811 3 rfl ?_
  refine G.iload_n C dL_law_812 0 rfl ?_
  refine G.iconst (v := (1 : Int32)) C dL_law_813 (by decide) ?_
  refine G.iadd C dL_law_814 ?_
  refine G.sld C hS0 (i + 1) (nI_add i 1) (by omega) hL dL_law_815 ?_
  refine G.cvI (i0 := 13) (j0 := 0) (cs' := WLw t ad a vR vW vT vS vD vA vI vJ vE vF (r.2.1) vQ vK (m.2) gW gA (r.2.2)) C (c_X8_order (a := a) h2) [13] rfl rfl rfl rfl rfl rfl rfl k_1387 cal_X8_order ⟨rfl, rfl, by decide, by decide⟩ rfl (Nat.le_of_ble_eq_true rfl) dL_law_816 ?_
  refine G.icmp_eq (tgt := 1409) C dL_law_819 (by decide) (β := Unit) (o1 := some ()) (o2 := none) (r := ()) (if_pos h3) (fun _ => ?_) (fun h => by cases h)
  exact kk _ _ _ _ _ _ _ _ _ _ _ _ _ _ _ _ _ h4
set_option maxHeartbeats 4000000 in
set_option maxRecDepth 20000 in
theorem law_pack {X : Cx} {t : Nat → ClassId} {ad : Nat → Nat → Nat} {a : Nat → Nat} {b L i N : Nat} {xs0 : Nat → Int32} {Rel : RelT} (C : gX X t room_1 cL_law 4 RL) (hS0 : SX X b L xs0) (hL : L ≤ 384) (hi : i + 5 < L) (hst : St_pack N Rel) {vR vW vT vS vD vA vI vJ vE vF vP vQ vK vM : SV} {gW : SV} {gA gL : Nat → SV} (hrel : Rel vR vW vT vS vD vA vI vJ vE vF vP vQ vK vM gW gA gL) (kk : ∀ (vR vW vT vS vD vA vI vJ vE vF vP vQ vK vM : SV) (gW : SV) (gA gL : Nat → SV), Rel vR vW vT vS vD vA vI vJ vE vF vP vQ vK vM gW gA gL → G X (WLw t ad a vR vW vT vS vD vA vI vJ vE vF vP vQ vK vM gW gA gL) 1409 [(3, .int (nI i)), (2, .ref (a 0)), (1, .ref (ad 0 0)), (0, .ref b)] []) : G X (WLw t ad a vR vW vT vS vD vA vI vJ vE vF vP vQ vK vM gW gA gL) 824 [(3, .int (nI i)), (2, .ref (a 0)), (1, .ref (ad 0 0)), (0, .ref b)] [] := by
  obtain ⟨r, m, h1, h2, h3, h4⟩ := hst vR vW vT vS vD vA vI vJ vE vF vP vQ vK vM gW gA gL (xs0 (i + 1)) hrel
  refine G.aload_n C dL_law_824 2 rfl ?_
  refine G.aload_n C dL_law_825 3 rfl ?_
  refine G.iload_n C dL_law_826 0 rfl ?_
  refine G.iconst (v := (1 : Int32)) C dL_law_827 (by decide) ?_
  refine G.iadd C dL_law_828 ?_
  refine G.sld C hS0 (i + 1) (nI_add i 1) (by omega) hL dL_law_829 ?_
  refine G.cvI (i0 := 0) (j0 := 0) (cs' := WLw t ad a vR vW vT vS vD vA vI vJ vE vF vP vQ vK vM gW gA gL) C (c_X7_pack (ad := ad) h1) [0, 3, 10] rfl rfl rfl rfl rfl rfl rfl k_813 cal_X7_pack ⟨rfl, rfl, by decide, by decide⟩ rfl (Nat.le_of_ble_eq_true rfl) dL_law_830 ?_
  refine G.aload_n C dL_law_833 1 rfl ?_
  refine G.aload_n C dL_law_834 3 rfl ?_
  refine G.iload_n C dL_law_835 0 rfl ?_
  refine G.iconst (v := (1 : Int32)) C dL_law_836 (by decide) ?_
  refine G.iadd C dL_law_837 ?_
  refine G.sld C hS0 (i + 1) (nI_add i 1) (by omega) hL dL_law_838 ?_
  refine G.cvI (i0 := 13) (j0 := 0) (cs' := WLw t ad a vR vW vT vS vD vA vI vJ vE vF vP vQ vK vM gW gA gL) C (c_X8_pack (a := a) h2) [13] rfl rfl rfl rfl rfl rfl rfl k_1399 cal_X8_pack ⟨rfl, rfl, by decide, by decide⟩ rfl (Nat.le_of_ble_eq_true rfl) dL_law_839 ?_
  refine G.icmp_eq (tgt := 1409) C dL_law_842 (by decide) (β := Unit) (o1 := some ()) (o2 := none) (r := ()) (if_pos h3) (fun _ => ?_) (fun h => by cases h)
  exact kk _ _ _ _ _ _ _ _ _ _ _ _ _ _ _ _ _ h4
set_option maxHeartbeats 4000000 in
set_option maxRecDepth 20000 in
theorem law_match {X : Cx} {t : Nat → ClassId} {ad : Nat → Nat → Nat} {a : Nat → Nat} {b L i N : Nat} {xs0 : Nat → Int32} {Rel : RelT} (C : gX X t room_1 cL_law 4 RL) (hS0 : SX X b L xs0) (hL : L ≤ 384) (hi : i + 5 < L) (hst : St_match N Rel) {vR vW vT vS vD vA vI vJ vE vF vP vQ vK vM : SV} {gW : SV} {gA gL : Nat → SV} (hrel : Rel vR vW vT vS vD vA vI vJ vE vF vP vQ vK vM gW gA gL) (kk : ∀ (vR vW vT vS vD vA vI vJ vE vF vP vQ vK vM : SV) (gW : SV) (gA gL : Nat → SV), Rel vR vW vT vS vD vA vI vJ vE vF vP vQ vK vM gW gA gL → G X (WLw t ad a vR vW vT vS vD vA vI vJ vE vF vP vQ vK vM gW gA gL) 1409 [(3, .int (nI i)), (2, .ref (a 0)), (1, .ref (ad 0 0)), (0, .ref b)] []) : G X (WLw t ad a vR vW vT vS vD vA vI vJ vE vF vP vQ vK vM gW gA gL) 847 [(3, .int (nI i)), (2, .ref (a 0)), (1, .ref (ad 0 0)), (0, .ref b)] [] := by
  obtain ⟨r, m, h1, h2, h3, h4⟩ := hst vR vW vT vS vD vA vI vJ vE vF vP vQ vK vM gW gA gL hrel
  refine G.aload_n C dL_law_847 2 rfl ?_
  refine G.cvI (i0 := 0) (j0 := 0) (cs' := WLw t ad a vR vW vT vS vD vA vI vJ vE vF vP vQ vK vM gW gA gL) C (c_X7_match (ad := ad) h1) [0, 3] rfl rfl rfl rfl rfl rfl rfl k_835 cal_X7_match ⟨rfl, rfl, by decide, by decide⟩ rfl (Nat.le_of_ble_eq_true rfl) dL_law_848 ?_
  refine G.aload_n C dL_law_851 1 rfl ?_
  refine G.cvI (i0 := 13) (j0 := 0) (cs' := WLw t ad a vR vW vT vS vD vA vI vJ vE vF vP vQ vK vM gW gA gL) C (c_X8_match (a := a) h2) [13] rfl rfl rfl rfl rfl rfl rfl k_1410 cal_X8_match ⟨rfl, rfl, by decide, by decide⟩ rfl (Nat.le_of_ble_eq_true rfl) dL_law_852 ?_
  refine G.icmp_eq (tgt := 1409) C dL_law_855 (by decide) (β := Unit) (o1 := some ()) (o2 := none) (r := ()) (if_pos h3) (fun _ => ?_) (fun h => by cases h)
  exact kk _ _ _ _ _ _ _ _ _ _ _ _ _ _ _ _ _ h4
set_option maxHeartbeats 4000000 in
set_option maxRecDepth 20000 in
theorem law_clear {X : Cx} {t : Nat → ClassId} {ad : Nat → Nat → Nat} {a : Nat → Nat} {b L i N : Nat} {xs0 : Nat → Int32} {Rel : RelT} (C : gX X t room_1 cL_law 4 RL) (hS0 : SX X b L xs0) (hL : L ≤ 384) (hi : i + 5 < L) (hst : St_clear N Rel) {vR vW vT vS vD vA vI vJ vE vF vP vQ vK vM : SV} {gW : SV} {gA gL : Nat → SV} (hrel : Rel vR vW vT vS vD vA vI vJ vE vF vP vQ vK vM gW gA gL) (kk : ∀ (vR vW vT vS vD vA vI vJ vE vF vP vQ vK vM : SV) (gW : SV) (gA gL : Nat → SV), Rel vR vW vT vS vD vA vI vJ vE vF vP vQ vK vM gW gA gL → G X (WLw t ad a vR vW vT vS vD vA vI vJ vE vF vP vQ vK vM gW gA gL) 1409 [(3, .int (nI i)), (2, .ref (a 0)), (1, .ref (ad 0 0)), (0, .ref b)] []) : G X (WLw t ad a vR vW vT vS vD vA vI vJ vE vF vP vQ vK vM gW gA gL) 860 [(3, .int (nI i)), (2, .ref (a 0)), (1, .ref (ad 0 0)), (0, .ref b)] [] := by
  obtain ⟨r, m, h1, h2, h3, h4⟩ := hst vR vW vT vS vD vA vI vJ vE vF vP vQ vK vM gW gA gL (xs0 (i + 1)) (xs0 (i + 2)) (xs0 (i + 3)) hrel
  refine G.aload_n C dL_law_860 2 rfl ?_
  refine G.aload_n C dL_law_861 3 rfl ?_
  refine G.iload_n C dL_law_862 0 rfl ?_
  refine G.iconst (v := (1 : Int32)) C dL_law_863 (by decide) ?_
  refine G.iadd C dL_law_864 ?_
  refine G.sld C hS0 (i + 1) (nI_add i 1) (by omega) hL dL_law_865 ?_
  refine G.aload_n C dL_law_866 3 rfl ?_
  refine G.iload_n C dL_law_867 0 rfl ?_
  refine G.iconst (v := (2 : Int32)) C dL_law_868 (by decide) ?_
  refine G.iadd C dL_law_869 ?_
  refine G.sld C hS0 (i + 2) (nI_add i 2) (by omega) hL dL_law_870 ?_
  refine G.aload_n C dL_law_871 3 rfl ?_
  refine G.iload_n C dL_law_872 0 rfl ?_
  refine G.iconst (v := (3 : Int32)) C dL_law_873 (by decide) ?_
  refine G.iadd C dL_law_874 ?_
  refine G.sld C hS0 (i + 3) (nI_add i 3) (by omega) hL dL_law_875 ?_
  refine G.cvI (i0 := 0) (j0 := 0) (cs' := WLw t ad a vR vW vT vS vD vA vI vJ vE vF vP (r.2) vK vM gW gA gL) C (c_X7_clear (ad := ad) h1) [0, 3, 10, 11] rfl rfl rfl rfl rfl rfl rfl k_851 cal_X7_clear ⟨rfl, rfl, by decide, by decide⟩ rfl (Nat.le_of_ble_eq_true rfl) dL_law_876 ?_
  refine G.aload_n C dL_law_879 1 rfl ?_
  refine G.aload_n C dL_law_880 3 rfl ?_
  refine G.iload_n C dL_law_881 0 rfl ?_
  refine G.iconst (v := (1 : Int32)) C dL_law_882 (by decide) ?_
  refine G.iadd C dL_law_883 ?_
  refine G.sld C hS0 (i + 1) (nI_add i 1) (by omega) hL dL_law_884 ?_
  refine G.aload_n C dL_law_885 3 rfl ?_
  refine G.iload_n C dL_law_886 0 rfl ?_
  refine G.iconst (v := (2 : Int32)) C dL_law_887 (by decide) ?_
  refine G.iadd C dL_law_888 ?_
  refine G.sld C hS0 (i + 2) (nI_add i 2) (by omega) hL dL_law_889 ?_
  refine G.aload_n C dL_law_890 3 rfl ?_
  refine G.iload_n C dL_law_891 0 rfl ?_
  refine G.iconst (v := (3 : Int32)) C dL_law_892 (by decide) ?_
  refine G.iadd C dL_law_893 ?_
  refine G.sld C hS0 (i + 3) (nI_add i 3) (by omega) hL dL_law_894 ?_
  refine G.cvI (i0 := 13) (j0 := 0) (cs' := WLw t ad a vR vW vT vS vD vA vI vJ vE vF vP (r.2) vK (m.2) gW gA gL) C (c_X8_clear (a := a) h2) [13] rfl rfl rfl rfl rfl rfl rfl k_1418 cal_X8_clear ⟨rfl, rfl, by decide, by decide⟩ rfl (Nat.le_of_ble_eq_true rfl) dL_law_895 ?_
  refine G.icmp_eq (tgt := 1409) C dL_law_898 (by decide) (β := Unit) (o1 := some ()) (o2 := none) (r := ()) (if_pos h3) (fun _ => ?_) (fun h => by cases h)
  exact kk _ _ _ _ _ _ _ _ _ _ _ _ _ _ _ _ _ h4
set_option maxHeartbeats 4000000 in
set_option maxRecDepth 20000 in
theorem law_bring {X : Cx} {t : Nat → ClassId} {ad : Nat → Nat → Nat} {a : Nat → Nat} {b L i N : Nat} {xs0 : Nat → Int32} {Rel : RelT} (C : gX X t room_1 cL_law 4 RL) (hS0 : SX X b L xs0) (hL : L ≤ 384) (hi : i + 5 < L) (hst : St_bring N Rel) {vR vW vT vS vD vA vI vJ vE vF vP vQ vK vM : SV} {gW : SV} {gA gL : Nat → SV} (hrel : Rel vR vW vT vS vD vA vI vJ vE vF vP vQ vK vM gW gA gL) (kk : ∀ (vR vW vT vS vD vA vI vJ vE vF vP vQ vK vM : SV) (gW : SV) (gA gL : Nat → SV), Rel vR vW vT vS vD vA vI vJ vE vF vP vQ vK vM gW gA gL → G X (WLw t ad a vR vW vT vS vD vA vI vJ vE vF vP vQ vK vM gW gA gL) 1409 [(3, .int (nI i)), (2, .ref (a 0)), (1, .ref (ad 0 0)), (0, .ref b)] []) : G X (WLw t ad a vR vW vT vS vD vA vI vJ vE vF vP vQ vK vM gW gA gL) 903 [(3, .int (nI i)), (2, .ref (a 0)), (1, .ref (ad 0 0)), (0, .ref b)] [] := by
  obtain ⟨r, m, h1, h2, h3, h4⟩ := hst vR vW vT vS vD vA vI vJ vE vF vP vQ vK vM gW gA gL (xs0 (i + 1)) (xs0 (i + 2)) hrel
  refine G.aload_n C dL_law_903 2 rfl ?_
  refine G.aload_n C dL_law_904 3 rfl ?_
  refine G.iload_n C dL_law_905 0 rfl ?_
  refine G.iconst (v := (1 : Int32)) C dL_law_906 (by decide) ?_
  refine G.iadd C dL_law_907 ?_
  refine G.sld C hS0 (i + 1) (nI_add i 1) (by omega) hL dL_law_908 ?_
  refine G.aload_n C dL_law_909 3 rfl ?_
  refine G.iload_n C dL_law_910 0 rfl ?_
  refine G.iconst (v := (2 : Int32)) C dL_law_911 (by decide) ?_
  refine G.iadd C dL_law_912 ?_
  refine G.sld C hS0 (i + 2) (nI_add i 2) (by omega) hL dL_law_913 ?_
  refine G.cvI (i0 := 0) (j0 := 0) (cs' := WLw t ad a vR vW vT vS vD vA vI vJ vE vF vP (r.2) vK vM gW gA gL) C (c_X7_bring (ad := ad) h1) [0, 3, 10, 11] rfl rfl rfl rfl rfl rfl rfl k_870 cal_X7_bring ⟨rfl, rfl, by decide, by decide⟩ rfl (Nat.le_of_ble_eq_true rfl) dL_law_914 ?_
  refine G.aload_n C dL_law_917 1 rfl ?_
  refine G.aload_n C dL_law_918 3 rfl ?_
  refine G.iload_n C dL_law_919 0 rfl ?_
  refine G.iconst (v := (1 : Int32)) C dL_law_920 (by decide) ?_
  refine G.iadd C dL_law_921 ?_
  refine G.sld C hS0 (i + 1) (nI_add i 1) (by omega) hL dL_law_922 ?_
  refine G.aload_n C dL_law_923 3 rfl ?_
  refine G.iload_n C dL_law_924 0 rfl ?_
  refine G.iconst (v := (2 : Int32)) C dL_law_925 (by decide) ?_
  refine G.iadd C dL_law_926 ?_
  refine G.sld C hS0 (i + 2) (nI_add i 2) (by omega) hL dL_law_927 ?_
  refine G.cvI (i0 := 13) (j0 := 0) (cs' := WLw t ad a vR vW vT vS vD vA vI vJ vE vF vP (r.2) vK (m.2) gW gA gL) C (c_X8_bring (a := a) h2) [13] rfl rfl rfl rfl rfl rfl rfl k_1423 cal_X8_bring ⟨rfl, rfl, by decide, by decide⟩ rfl (Nat.le_of_ble_eq_true rfl) dL_law_928 ?_
  refine G.icmp_eq (tgt := 1409) C dL_law_931 (by decide) (β := Unit) (o1 := some ()) (o2 := none) (r := ()) (if_pos h3) (fun _ => ?_) (fun h => by cases h)
  exact kk _ _ _ _ _ _ _ _ _ _ _ _ _ _ _ _ _ h4
set_option maxHeartbeats 4000000 in
set_option maxRecDepth 20000 in
theorem law_lack {X : Cx} {t : Nat → ClassId} {ad : Nat → Nat → Nat} {a : Nat → Nat} {b L i N : Nat} {xs0 : Nat → Int32} {Rel : RelT} (C : gX X t room_1 cL_law 4 RL) (hS0 : SX X b L xs0) (hL : L ≤ 384) (hi : i + 5 < L) (hst : St_lack N Rel) {vR vW vT vS vD vA vI vJ vE vF vP vQ vK vM : SV} {gW : SV} {gA gL : Nat → SV} (hrel : Rel vR vW vT vS vD vA vI vJ vE vF vP vQ vK vM gW gA gL) (kk : ∀ (vR vW vT vS vD vA vI vJ vE vF vP vQ vK vM : SV) (gW : SV) (gA gL : Nat → SV), Rel vR vW vT vS vD vA vI vJ vE vF vP vQ vK vM gW gA gL → G X (WLw t ad a vR vW vT vS vD vA vI vJ vE vF vP vQ vK vM gW gA gL) 1409 [(3, .int (nI i)), (2, .ref (a 0)), (1, .ref (ad 0 0)), (0, .ref b)] []) : G X (WLw t ad a vR vW vT vS vD vA vI vJ vE vF vP vQ vK vM gW gA gL) 936 [(3, .int (nI i)), (2, .ref (a 0)), (1, .ref (ad 0 0)), (0, .ref b)] [] := by
  obtain ⟨r, m, h1, h2, h3, h4⟩ := hst vR vW vT vS vD vA vI vJ vE vF vP vQ vK vM gW gA gL hrel
  refine G.aload_n C dL_law_936 2 rfl ?_
  refine G.cvI (i0 := 0) (j0 := 0) (cs' := WLw t ad a vR vW vT vS vD vA vI vJ vE vF vP vQ vK vM gW gA gL) C (c_X7_lack (ad := ad) h1) [0, 3] rfl rfl rfl rfl rfl rfl rfl k_884 cal_X7_lack ⟨rfl, rfl, by decide, by decide⟩ rfl (Nat.le_of_ble_eq_true rfl) dL_law_937 ?_
  refine G.aload_n C dL_law_940 1 rfl ?_
  refine G.cvI (i0 := 13) (j0 := 0) (cs' := WLw t ad a vR vW vT vS vD vA vI vJ vE vF vP vQ vK vM gW gA gL) C (c_X8_lack (a := a) h2) [13] rfl rfl rfl rfl rfl rfl rfl k_1427 cal_X8_lack ⟨rfl, rfl, by decide, by decide⟩ rfl (Nat.le_of_ble_eq_true rfl) dL_law_941 ?_
  refine G.icmp_eq (tgt := 1409) C dL_law_944 (by decide) (β := Unit) (o1 := some ()) (o2 := none) (r := ()) (if_pos h3) (fun _ => ?_) (fun h => by cases h)
  exact kk _ _ _ _ _ _ _ _ _ _ _ _ _ _ _ _ _ h4
set_option maxHeartbeats 4000000 in
set_option maxRecDepth 20000 in
theorem law_who {X : Cx} {t : Nat → ClassId} {ad : Nat → Nat → Nat} {a : Nat → Nat} {b L i N : Nat} {xs0 : Nat → Int32} {Rel : RelT} (C : gX X t room_1 cL_law 4 RL) (hS0 : SX X b L xs0) (hL : L ≤ 384) (hi : i + 5 < L) (hst : St_who N Rel) {vR vW vT vS vD vA vI vJ vE vF vP vQ vK vM : SV} {gW : SV} {gA gL : Nat → SV} (hrel : Rel vR vW vT vS vD vA vI vJ vE vF vP vQ vK vM gW gA gL) (kk : ∀ (vR vW vT vS vD vA vI vJ vE vF vP vQ vK vM : SV) (gW : SV) (gA gL : Nat → SV), Rel vR vW vT vS vD vA vI vJ vE vF vP vQ vK vM gW gA gL → G X (WLw t ad a vR vW vT vS vD vA vI vJ vE vF vP vQ vK vM gW gA gL) 1409 [(3, .int (nI i)), (2, .ref (a 0)), (1, .ref (ad 0 0)), (0, .ref b)] []) : G X (WLw t ad a vR vW vT vS vD vA vI vJ vE vF vP vQ vK vM gW gA gL) 949 [(3, .int (nI i)), (2, .ref (a 0)), (1, .ref (ad 0 0)), (0, .ref b)] [] := by
  obtain ⟨r, m, h1, h2, h3, h4⟩ := hst vR vW vT vS vD vA vI vJ vE vF vP vQ vK vM gW gA gL (xs0 (i + 1)) (xs0 (i + 2)) (xs0 (i + 3)) (xs0 (i + 4)) (xs0 (i + 5)) hrel
  refine G.aload_n C dL_law_949 2 rfl ?_
  refine G.aload_n C dL_law_950 3 rfl ?_
  refine G.iload_n C dL_law_951 0 rfl ?_
  refine G.iconst (v := (1 : Int32)) C dL_law_952 (by decide) ?_
  refine G.iadd C dL_law_953 ?_
  refine G.sld C hS0 (i + 1) (nI_add i 1) (by omega) hL dL_law_954 ?_
  refine G.aload_n C dL_law_955 3 rfl ?_
  refine G.iload_n C dL_law_956 0 rfl ?_
  refine G.iconst (v := (2 : Int32)) C dL_law_957 (by decide) ?_
  refine G.iadd C dL_law_958 ?_
  refine G.sld C hS0 (i + 2) (nI_add i 2) (by omega) hL dL_law_959 ?_
  refine G.aload_n C dL_law_960 3 rfl ?_
  refine G.iload_n C dL_law_961 0 rfl ?_
  refine G.iconst (v := (3 : Int32)) C dL_law_962 (by decide) ?_
  refine G.iadd C dL_law_963 ?_
  refine G.sld C hS0 (i + 3) (nI_add i 3) (by omega) hL dL_law_964 ?_
  refine G.aload_n C dL_law_965 3 rfl ?_
  refine G.iload_n C dL_law_966 0 rfl ?_
  refine G.iconst (v := (4 : Int32)) C dL_law_967 (by decide) ?_
  refine G.iadd C dL_law_968 ?_
  refine G.sld C hS0 (i + 4) (nI_add i 4) (by omega) hL dL_law_969 ?_
  refine G.aload_n C dL_law_970 3 rfl ?_
  refine G.iload_n C dL_law_971 0 rfl ?_
  refine G.iconst (v := (5 : Int32)) C dL_law_972 (by decide) ?_
  refine G.iadd C dL_law_973 ?_
  refine G.sld C hS0 (i + 5) (nI_add i 5) (by omega) hL dL_law_974 ?_
  refine G.cvI (i0 := 0) (j0 := 0) (cs' := WLw t ad a (r.2.1) vW vT vS vD vA vI vJ (r.2.2.1) (r.2.2.2) vP vQ vK vM gW gA gL) C (c_X7_who (ad := ad) h1) ([0, 1, 3, 8, 9] ++ (List.range 8).map (fun k => 14 + k)) (famJ2 rfl rfl fRows_len rfl) (by decide) (famA rfl fRows_ads) (famC2 rfl rfl rfl fRows_len fRows_len rfl) rfl rfl rfl k_892 cal_X7_who ⟨rfl, rfl, by decide, by decide⟩ rfl (Nat.le_of_ble_eq_true rfl) dL_law_975 ?_
  refine G.aload_n C dL_law_978 1 rfl ?_
  refine G.aload_n C dL_law_979 3 rfl ?_
  refine G.iload_n C dL_law_980 0 rfl ?_
  refine G.iconst (v := (1 : Int32)) C dL_law_981 (by decide) ?_
  refine G.iadd C dL_law_982 ?_
  refine G.sld C hS0 (i + 1) (nI_add i 1) (by omega) hL dL_law_983 ?_
  refine G.aload_n C dL_law_984 3 rfl ?_
  refine G.iload_n C dL_law_985 0 rfl ?_
  refine G.iconst (v := (2 : Int32)) C dL_law_986 (by decide) ?_
  refine G.iadd C dL_law_987 ?_
  refine G.sld C hS0 (i + 2) (nI_add i 2) (by omega) hL dL_law_988 ?_
  refine G.aload_n C dL_law_989 3 rfl ?_
  refine G.iload_n C dL_law_990 0 rfl ?_
  refine G.iconst (v := (3 : Int32)) C dL_law_991 (by decide) ?_
  refine G.iadd C dL_law_992 ?_
  refine G.sld C hS0 (i + 3) (nI_add i 3) (by omega) hL dL_law_993 ?_
  refine G.aload_n C dL_law_994 3 rfl ?_
  refine G.iload_n C dL_law_995 0 rfl ?_
  refine G.iconst (v := (4 : Int32)) C dL_law_996 (by decide) ?_
  refine G.iadd C dL_law_997 ?_
  refine G.sld C hS0 (i + 4) (nI_add i 4) (by omega) hL dL_law_998 ?_
  refine G.aload_n C dL_law_999 3 rfl ?_
  refine G.iload_n C dL_law_1000 0 rfl ?_
  refine G.iconst (v := (5 : Int32)) C dL_law_1001 (by decide) ?_
  refine G.iadd C dL_law_1002 ?_
  refine G.sld C hS0 (i + 5) (nI_add i 5) (by omega) hL dL_law_1003 ?_
  refine G.cvI (i0 := 13) (j0 := 0) (cs' := WLw t ad a (r.2.1) vW vT vS vD vA vI vJ (r.2.2.1) (r.2.2.2) vP vQ vK (m.2) gW gA gL) C (c_X8_who (a := a) h2) [13] rfl rfl rfl rfl rfl rfl rfl k_1431 cal_X8_who ⟨rfl, rfl, by decide, by decide⟩ rfl (Nat.le_of_ble_eq_true rfl) dL_law_1004 ?_
  refine G.icmp_eq (tgt := 1409) C dL_law_1007 (by decide) (β := Unit) (o1 := some ()) (o2 := none) (r := ()) (if_pos h3) (fun _ => ?_) (fun h => by cases h)
  exact kk _ _ _ _ _ _ _ _ _ _ _ _ _ _ _ _ _ h4
set_option maxHeartbeats 4000000 in
set_option maxRecDepth 20000 in
theorem law_wanted {X : Cx} {t : Nat → ClassId} {ad : Nat → Nat → Nat} {a : Nat → Nat} {b L i N : Nat} {xs0 : Nat → Int32} {Rel : RelT} (C : gX X t room_1 cL_law 4 RL) (hS0 : SX X b L xs0) (hL : L ≤ 384) (hi : i + 5 < L) (hst : St_wanted N Rel) {vR vW vT vS vD vA vI vJ vE vF vP vQ vK vM : SV} {gW : SV} {gA gL : Nat → SV} (hrel : Rel vR vW vT vS vD vA vI vJ vE vF vP vQ vK vM gW gA gL) (kk : ∀ (vR vW vT vS vD vA vI vJ vE vF vP vQ vK vM : SV) (gW : SV) (gA gL : Nat → SV), Rel vR vW vT vS vD vA vI vJ vE vF vP vQ vK vM gW gA gL → G X (WLw t ad a vR vW vT vS vD vA vI vJ vE vF vP vQ vK vM gW gA gL) 1409 [(3, .int (nI i)), (2, .ref (a 0)), (1, .ref (ad 0 0)), (0, .ref b)] []) : G X (WLw t ad a vR vW vT vS vD vA vI vJ vE vF vP vQ vK vM gW gA gL) 1012 [(3, .int (nI i)), (2, .ref (a 0)), (1, .ref (ad 0 0)), (0, .ref b)] [] := by
  obtain ⟨r, m, h1, h2, h3, h4⟩ := hst vR vW vT vS vD vA vI vJ vE vF vP vQ vK vM gW gA gL (xs0 (i + 1)) (xs0 (i + 2)) (xs0 (i + 3)) (xs0 (i + 4)) (xs0 (i + 5)) hrel
  refine G.aload_n C dL_law_1012 2 rfl ?_
  refine G.aload_n C dL_law_1013 3 rfl ?_
  refine G.iload_n C dL_law_1014 0 rfl ?_
  refine G.iconst (v := (1 : Int32)) C dL_law_1015 (by decide) ?_
  refine G.iadd C dL_law_1016 ?_
  refine G.sld C hS0 (i + 1) (nI_add i 1) (by omega) hL dL_law_1017 ?_
  refine G.aload_n C dL_law_1018 3 rfl ?_
  refine G.iload_n C dL_law_1019 0 rfl ?_
  refine G.iconst (v := (2 : Int32)) C dL_law_1020 (by decide) ?_
  refine G.iadd C dL_law_1021 ?_
  refine G.sld C hS0 (i + 2) (nI_add i 2) (by omega) hL dL_law_1022 ?_
  refine G.aload_n C dL_law_1023 3 rfl ?_
  refine G.iload_n C dL_law_1024 0 rfl ?_
  refine G.iconst (v := (3 : Int32)) C dL_law_1025 (by decide) ?_
  refine G.iadd C dL_law_1026 ?_
  refine G.sld C hS0 (i + 3) (nI_add i 3) (by omega) hL dL_law_1027 ?_
  refine G.aload_n C dL_law_1028 3 rfl ?_
  refine G.iload_n C dL_law_1029 0 rfl ?_
  refine G.iconst (v := (4 : Int32)) C dL_law_1030 (by decide) ?_
  refine G.iadd C dL_law_1031 ?_
  refine G.sld C hS0 (i + 4) (nI_add i 4) (by omega) hL dL_law_1032 ?_
  refine G.aload_n C dL_law_1033 3 rfl ?_
  refine G.iload_n C dL_law_1034 0 rfl ?_
  refine G.iconst (v := (5 : Int32)) C dL_law_1035 (by decide) ?_
  refine G.iadd C dL_law_1036 ?_
  refine G.sld C hS0 (i + 5) (nI_add i 5) (by omega) hL dL_law_1037 ?_
  refine G.cvI (i0 := 0) (j0 := 0) (cs' := WLw t ad a (r.2.1) vW vT vS vD vA vI vJ (r.2.2.1) (r.2.2.2) vP vQ vK vM gW gA gL) C (c_X7_wanted (ad := ad) h1) ([0, 1, 3, 8, 9] ++ (List.range 8).map (fun k => 14 + k)) (famJ2 rfl rfl fRows_len rfl) (by decide) (famA rfl fRows_ads) (famC2 rfl rfl rfl fRows_len fRows_len rfl) rfl rfl rfl k_921 cal_X7_wanted ⟨rfl, rfl, by decide, by decide⟩ rfl (Nat.le_of_ble_eq_true rfl) dL_law_1038 ?_
  refine G.aload_n C dL_law_1041 1 rfl ?_
  refine G.aload_n C dL_law_1042 3 rfl ?_
  refine G.iload_n C dL_law_1043 0 rfl ?_
  refine G.iconst (v := (1 : Int32)) C dL_law_1044 (by decide) ?_
  refine G.iadd C dL_law_1045 ?_
  refine G.sld C hS0 (i + 1) (nI_add i 1) (by omega) hL dL_law_1046 ?_
  refine G.aload_n C dL_law_1047 3 rfl ?_
  refine G.iload_n C dL_law_1048 0 rfl ?_
  refine G.iconst (v := (2 : Int32)) C dL_law_1049 (by decide) ?_
  refine G.iadd C dL_law_1050 ?_
  refine G.sld C hS0 (i + 2) (nI_add i 2) (by omega) hL dL_law_1051 ?_
  refine G.aload_n C dL_law_1052 3 rfl ?_
  refine G.iload_n C dL_law_1053 0 rfl ?_
  refine G.iconst (v := (3 : Int32)) C dL_law_1054 (by decide) ?_
  refine G.iadd C dL_law_1055 ?_
  refine G.sld C hS0 (i + 3) (nI_add i 3) (by omega) hL dL_law_1056 ?_
  refine G.aload_n C dL_law_1057 3 rfl ?_
  refine G.iload_n C dL_law_1058 0 rfl ?_
  refine G.iconst (v := (4 : Int32)) C dL_law_1059 (by decide) ?_
  refine G.iadd C dL_law_1060 ?_
  refine G.sld C hS0 (i + 4) (nI_add i 4) (by omega) hL dL_law_1061 ?_
  refine G.aload_n C dL_law_1062 3 rfl ?_
  refine G.iload_n C dL_law_1063 0 rfl ?_
  refine G.iconst (v := (5 : Int32)) C dL_law_1064 (by decide) ?_
  refine G.iadd C dL_law_1065 ?_
  refine G.sld C hS0 (i + 5) (nI_add i 5) (by omega) hL dL_law_1066 ?_
  refine G.cvI (i0 := 13) (j0 := 0) (cs' := WLw t ad a (r.2.1) vW vT vS vD vA vI vJ (r.2.2.1) (r.2.2.2) vP vQ vK (m.2) gW gA gL) C (c_X8_wanted (a := a) h2) [13] rfl rfl rfl rfl rfl rfl rfl k_1448 cal_X8_wanted ⟨rfl, rfl, by decide, by decide⟩ rfl (Nat.le_of_ble_eq_true rfl) dL_law_1067 ?_
  refine G.icmp_eq (tgt := 1409) C dL_law_1070 (by decide) (β := Unit) (o1 := some ()) (o2 := none) (r := ()) (if_pos h3) (fun _ => ?_) (fun h => by cases h)
  exact kk _ _ _ _ _ _ _ _ _ _ _ _ _ _ _ _ _ h4
set_option maxHeartbeats 4000000 in
set_option maxRecDepth 20000 in
theorem law_wasOff {X : Cx} {t : Nat → ClassId} {ad : Nat → Nat → Nat} {a : Nat → Nat} {b L i N : Nat} {xs0 : Nat → Int32} {Rel : RelT} (C : gX X t room_1 cL_law 4 RL) (hS0 : SX X b L xs0) (hL : L ≤ 384) (hi : i + 5 < L) (hst : St_wasOff N Rel) {vR vW vT vS vD vA vI vJ vE vF vP vQ vK vM : SV} {gW : SV} {gA gL : Nat → SV} (hrel : Rel vR vW vT vS vD vA vI vJ vE vF vP vQ vK vM gW gA gL) (kk : ∀ (vR vW vT vS vD vA vI vJ vE vF vP vQ vK vM : SV) (gW : SV) (gA gL : Nat → SV), Rel vR vW vT vS vD vA vI vJ vE vF vP vQ vK vM gW gA gL → G X (WLw t ad a vR vW vT vS vD vA vI vJ vE vF vP vQ vK vM gW gA gL) 1409 [(3, .int (nI i)), (2, .ref (a 0)), (1, .ref (ad 0 0)), (0, .ref b)] []) : G X (WLw t ad a vR vW vT vS vD vA vI vJ vE vF vP vQ vK vM gW gA gL) 1075 [(3, .int (nI i)), (2, .ref (a 0)), (1, .ref (ad 0 0)), (0, .ref b)] [] := by
  obtain ⟨r, m, h1, h2, h3, h4⟩ := hst vR vW vT vS vD vA vI vJ vE vF vP vQ vK vM gW gA gL (xs0 (i + 1)) (xs0 (i + 2)) (xs0 (i + 3)) hrel
  refine G.aload_n C dL_law_1075 2 rfl ?_
  refine G.aload_n C dL_law_1076 3 rfl ?_
  refine G.iload_n C dL_law_1077 0 rfl ?_
  refine G.iconst (v := (1 : Int32)) C dL_law_1078 (by decide) ?_
  refine G.iadd C dL_law_1079 ?_
  refine G.sld C hS0 (i + 1) (nI_add i 1) (by omega) hL dL_law_1080 ?_
  refine G.aload_n C dL_law_1081 3 rfl ?_
  refine G.iload_n C dL_law_1082 0 rfl ?_
  refine G.iconst (v := (2 : Int32)) C dL_law_1083 (by decide) ?_
  refine G.iadd C dL_law_1084 ?_
  refine G.sld C hS0 (i + 2) (nI_add i 2) (by omega) hL dL_law_1085 ?_
  refine G.aload_n C dL_law_1086 3 rfl ?_
  refine G.iload_n C dL_law_1087 0 rfl ?_
  refine G.iconst (v := (3 : Int32)) C dL_law_1088 (by decide) ?_
  refine G.iadd C dL_law_1089 ?_
  refine G.sld C hS0 (i + 3) (nI_add i 3) (by omega) hL dL_law_1090 ?_
  refine G.cvI (i0 := 0) (j0 := 0) (cs' := WLw t ad a (r.2.1) vW vT vS vD vA vI vJ (r.2.2.1) (r.2.2.2) vP vQ vK vM gW gA gL) C (c_X7_wasOff (ad := ad) h1) ([0, 1, 3, 8, 9] ++ (List.range 8).map (fun k => 14 + k)) (famJ2 rfl rfl fRows_len rfl) (by decide) (famA rfl fRows_ads) (famC2 rfl rfl rfl fRows_len fRows_len rfl) rfl rfl rfl k_933 cal_X7_wasOff ⟨rfl, rfl, by decide, by decide⟩ rfl (Nat.le_of_ble_eq_true rfl) dL_law_1091 ?_
  refine G.aload_n C dL_law_1094 1 rfl ?_
  refine G.aload_n C dL_law_1095 3 rfl ?_
  refine G.iload_n C dL_law_1096 0 rfl ?_
  refine G.iconst (v := (1 : Int32)) C dL_law_1097 (by decide) ?_
  refine G.iadd C dL_law_1098 ?_
  refine G.sld C hS0 (i + 1) (nI_add i 1) (by omega) hL dL_law_1099 ?_
  refine G.aload_n C dL_law_1100 3 rfl ?_
  refine G.iload_n C dL_law_1101 0 rfl ?_
  refine G.iconst (v := (2 : Int32)) C dL_law_1102 (by decide) ?_
  refine G.iadd C dL_law_1103 ?_
  refine G.sld C hS0 (i + 2) (nI_add i 2) (by omega) hL dL_law_1104 ?_
  refine G.aload_n C dL_law_1105 3 rfl ?_
  refine G.iload_n C dL_law_1106 0 rfl ?_
  refine G.iconst (v := (3 : Int32)) C dL_law_1107 (by decide) ?_
  refine G.iadd C dL_law_1108 ?_
  refine G.sld C hS0 (i + 3) (nI_add i 3) (by omega) hL dL_law_1109 ?_
  refine G.cvI (i0 := 13) (j0 := 0) (cs' := WLw t ad a (r.2.1) vW vT vS vD vA vI vJ (r.2.2.1) (r.2.2.2) vP vQ vK (m.2) gW gA gL) C (c_X8_wasOff (a := a) h2) [13] rfl rfl rfl rfl rfl rfl rfl k_1452 cal_X8_wasOff ⟨rfl, rfl, by decide, by decide⟩ rfl (Nat.le_of_ble_eq_true rfl) dL_law_1110 ?_
  refine G.icmp_eq (tgt := 1409) C dL_law_1113 (by decide) (β := Unit) (o1 := some ()) (o2 := none) (r := ()) (if_pos h3) (fun _ => ?_) (fun h => by cases h)
  exact kk _ _ _ _ _ _ _ _ _ _ _ _ _ _ _ _ _ h4
set_option maxHeartbeats 4000000 in
set_option maxRecDepth 20000 in
theorem law_wander {X : Cx} {t : Nat → ClassId} {ad : Nat → Nat → Nat} {a : Nat → Nat} {b L i N : Nat} {xs0 : Nat → Int32} {Rel : RelT} (C : gX X t room_1 cL_law 4 RL) (hS0 : SX X b L xs0) (hL : L ≤ 384) (hi : i + 5 < L) (hst : St_wander N Rel) {vR vW vT vS vD vA vI vJ vE vF vP vQ vK vM : SV} {gW : SV} {gA gL : Nat → SV} (hrel : Rel vR vW vT vS vD vA vI vJ vE vF vP vQ vK vM gW gA gL) (kk : ∀ (vR vW vT vS vD vA vI vJ vE vF vP vQ vK vM : SV) (gW : SV) (gA gL : Nat → SV), Rel vR vW vT vS vD vA vI vJ vE vF vP vQ vK vM gW gA gL → G X (WLw t ad a vR vW vT vS vD vA vI vJ vE vF vP vQ vK vM gW gA gL) 1409 [(3, .int (nI i)), (2, .ref (a 0)), (1, .ref (ad 0 0)), (0, .ref b)] []) : G X (WLw t ad a vR vW vT vS vD vA vI vJ vE vF vP vQ vK vM gW gA gL) 1118 [(3, .int (nI i)), (2, .ref (a 0)), (1, .ref (ad 0 0)), (0, .ref b)] [] := by
  obtain ⟨r, m, h1, h2, h3, h4⟩ := hst vR vW vT vS vD vA vI vJ vE vF vP vQ vK vM gW gA gL (xs0 (i + 1)) (xs0 (i + 2)) (xs0 (i + 3)) (xs0 (i + 4)) hrel
  refine G.aload_n C dL_law_1118 2 rfl ?_
  refine G.aload_n C dL_law_1119 3 rfl ?_
  refine G.iload_n C dL_law_1120 0 rfl ?_
  refine G.iconst (v := (1 : Int32)) C dL_law_1121 (by decide) ?_
  refine G.iadd C dL_law_1122 ?_
  refine G.sld C hS0 (i + 1) (nI_add i 1) (by omega) hL dL_law_1123 ?_
  refine G.aload_n C dL_law_1124 3 rfl ?_
  refine G.iload_n C dL_law_1125 0 rfl ?_
  refine G.iconst (v := (2 : Int32)) C dL_law_1126 (by decide) ?_
  refine G.iadd C dL_law_1127 ?_
  refine G.sld C hS0 (i + 2) (nI_add i 2) (by omega) hL dL_law_1128 ?_
  refine G.aload_n C dL_law_1129 3 rfl ?_
  refine G.iload_n C dL_law_1130 0 rfl ?_
  refine G.iconst (v := (3 : Int32)) C dL_law_1131 (by decide) ?_
  refine G.iadd C dL_law_1132 ?_
  refine G.sld C hS0 (i + 3) (nI_add i 3) (by omega) hL dL_law_1133 ?_
  refine G.aload_n C dL_law_1134 3 rfl ?_
  refine G.iload_n C dL_law_1135 0 rfl ?_
  refine G.iconst (v := (4 : Int32)) C dL_law_1136 (by decide) ?_
  refine G.iadd C dL_law_1137 ?_
  refine G.sld C hS0 (i + 4) (nI_add i 4) (by omega) hL dL_law_1138 ?_
  refine G.cvL (i0 := 0) (j0 := 0) (cs' := WLw t ad a vR vW vT vS vD vA vI vJ vE (r.2) vP vQ vK vM gW gA gL) C (c_X7_wander (ad := ad) h1) [0, 3, 8, 9] rfl rfl rfl rfl rfl rfl rfl k_942 cal_X7_wander ⟨rfl, rfl, by decide, by decide⟩ rfl (Nat.le_of_ble_eq_true rfl) dL_law_1139 ?_
  refine G.aload_n C dL_law_1142 1 rfl ?_
  refine G.aload_n C dL_law_1143 3 rfl ?_
  refine G.iload_n C dL_law_1144 0 rfl ?_
  refine G.iconst (v := (1 : Int32)) C dL_law_1145 (by decide) ?_
  refine G.iadd C dL_law_1146 ?_
  refine G.sld C hS0 (i + 1) (nI_add i 1) (by omega) hL dL_law_1147 ?_
  refine G.aload_n C dL_law_1148 3 rfl ?_
  refine G.iload_n C dL_law_1149 0 rfl ?_
  refine G.iconst (v := (2 : Int32)) C dL_law_1150 (by decide) ?_
  refine G.iadd C dL_law_1151 ?_
  refine G.sld C hS0 (i + 2) (nI_add i 2) (by omega) hL dL_law_1152 ?_
  refine G.aload_n C dL_law_1153 3 rfl ?_
  refine G.iload_n C dL_law_1154 0 rfl ?_
  refine G.iconst (v := (3 : Int32)) C dL_law_1155 (by decide) ?_
  refine G.iadd C dL_law_1156 ?_
  refine G.sld C hS0 (i + 3) (nI_add i 3) (by omega) hL dL_law_1157 ?_
  refine G.aload_n C dL_law_1158 3 rfl ?_
  refine G.iload_n C dL_law_1159 0 rfl ?_
  refine G.iconst (v := (4 : Int32)) C dL_law_1160 (by decide) ?_
  refine G.iadd C dL_law_1161 ?_
  refine G.sld C hS0 (i + 4) (nI_add i 4) (by omega) hL dL_law_1162 ?_
  refine G.cvL (i0 := 13) (j0 := 0) (cs' := WLw t ad a vR vW vT vS vD vA vI vJ vE (r.2) vP vQ vK (m.2) gW gA gL) C (c_X8_wander (a := a) h2) [13] rfl rfl rfl rfl rfl rfl rfl k_1456 cal_X8_wander ⟨rfl, rfl, by decide, by decide⟩ rfl (Nat.le_of_ble_eq_true rfl) dL_law_1163 ?_
  refine G.lcmp C dL_law_1166 ?_
  refine G.if_eq (tgt := 1409) C dL_law_1167 (by decide) (β := Unit) (o1 := some ()) (o2 := none) (r := ()) (if_pos (by rw [h3]; exact lgc _)) (fun _ => ?_) (fun h => by cases h)
  exact kk _ _ _ _ _ _ _ _ _ _ _ _ _ _ _ _ _ h4
set_option maxHeartbeats 4000000 in
set_option maxRecDepth 20000 in
theorem law_drawn {X : Cx} {t : Nat → ClassId} {ad : Nat → Nat → Nat} {a : Nat → Nat} {b L i N : Nat} {xs0 : Nat → Int32} {Rel : RelT} (C : gX X t room_1 cL_law 4 RL) (hS0 : SX X b L xs0) (hL : L ≤ 384) (hi : i + 5 < L) (hst : St_drawn N Rel) {vR vW vT vS vD vA vI vJ vE vF vP vQ vK vM : SV} {gW : SV} {gA gL : Nat → SV} (hrel : Rel vR vW vT vS vD vA vI vJ vE vF vP vQ vK vM gW gA gL) (kk : ∀ (vR vW vT vS vD vA vI vJ vE vF vP vQ vK vM : SV) (gW : SV) (gA gL : Nat → SV), Rel vR vW vT vS vD vA vI vJ vE vF vP vQ vK vM gW gA gL → G X (WLw t ad a vR vW vT vS vD vA vI vJ vE vF vP vQ vK vM gW gA gL) 1409 [(3, .int (nI i)), (2, .ref (a 0)), (1, .ref (ad 0 0)), (0, .ref b)] []) : G X (WLw t ad a vR vW vT vS vD vA vI vJ vE vF vP vQ vK vM gW gA gL) 1172 [(3, .int (nI i)), (2, .ref (a 0)), (1, .ref (ad 0 0)), (0, .ref b)] [] := by
  obtain ⟨r, m, h1, h2, h3, h4⟩ := hst vR vW vT vS vD vA vI vJ vE vF vP vQ vK vM gW gA gL (xs0 (i + 1)) (xs0 (i + 2)) (xs0 (i + 3)) hrel
  refine G.aload_n C dL_law_1172 2 rfl ?_
  refine G.aload_n C dL_law_1173 3 rfl ?_
  refine G.iload_n C dL_law_1174 0 rfl ?_
  refine G.iconst (v := (1 : Int32)) C dL_law_1175 (by decide) ?_
  refine G.iadd C dL_law_1176 ?_
  refine G.sld C hS0 (i + 1) (nI_add i 1) (by omega) hL dL_law_1177 ?_
  refine G.aload_n C dL_law_1178 3 rfl ?_
  refine G.iload_n C dL_law_1179 0 rfl ?_
  refine G.iconst (v := (2 : Int32)) C dL_law_1180 (by decide) ?_
  refine G.iadd C dL_law_1181 ?_
  refine G.sld C hS0 (i + 2) (nI_add i 2) (by omega) hL dL_law_1182 ?_
  refine G.aload_n C dL_law_1183 3 rfl ?_
  refine G.iload_n C dL_law_1184 0 rfl ?_
  refine G.iconst (v := (3 : Int32)) C dL_law_1185 (by decide) ?_
  refine G.iadd C dL_law_1186 ?_
  refine G.sld C hS0 (i + 3) (nI_add i 3) (by omega) hL dL_law_1187 ?_
  refine G.cvI (i0 := 0) (j0 := 0) (cs' := WLw t ad a vR vW vT vS vD vA vI vJ vE (r.2) vP vQ vK vM gW gA gL) C (c_X7_drawn (ad := ad) h1) [0, 3, 8, 9] rfl rfl rfl rfl rfl rfl rfl k_965 cal_X7_drawn ⟨rfl, rfl, by decide, by decide⟩ rfl (Nat.le_of_ble_eq_true rfl) dL_law_1188 ?_
  refine G.aload_n C dL_law_1191 1 rfl ?_
  refine G.aload_n C dL_law_1192 3 rfl ?_
  refine G.iload_n C dL_law_1193 0 rfl ?_
  refine G.iconst (v := (1 : Int32)) C dL_law_1194 (by decide) ?_
  refine G.iadd C dL_law_1195 ?_
  refine G.sld C hS0 (i + 1) (nI_add i 1) (by omega) hL dL_law_1196 ?_
  refine G.aload_n C dL_law_1197 3 rfl ?_
  refine G.iload_n C dL_law_1198 0 rfl ?_
  refine G.iconst (v := (2 : Int32)) C dL_law_1199 (by decide) ?_
  refine G.iadd C dL_law_1200 ?_
  refine G.sld C hS0 (i + 2) (nI_add i 2) (by omega) hL dL_law_1201 ?_
  refine G.aload_n C dL_law_1202 3 rfl ?_
  refine G.iload_n C dL_law_1203 0 rfl ?_
  refine G.iconst (v := (3 : Int32)) C dL_law_1204 (by decide) ?_
  refine G.iadd C dL_law_1205 ?_
  refine G.sld C hS0 (i + 3) (nI_add i 3) (by omega) hL dL_law_1206 ?_
  refine G.cvI (i0 := 13) (j0 := 0) (cs' := WLw t ad a vR vW vT vS vD vA vI vJ vE (r.2) vP vQ vK (m.2) gW gA gL) C (c_X8_drawn (a := a) h2) [13] rfl rfl rfl rfl rfl rfl rfl k_1464 cal_X8_drawn ⟨rfl, rfl, by decide, by decide⟩ rfl (Nat.le_of_ble_eq_true rfl) dL_law_1207 ?_
  refine G.icmp_eq (tgt := 1409) C dL_law_1210 (by decide) (β := Unit) (o1 := some ()) (o2 := none) (r := ()) (if_pos h3) (fun _ => ?_) (fun h => by cases h)
  exact kk _ _ _ _ _ _ _ _ _ _ _ _ _ _ _ _ _ h4
set_option maxHeartbeats 4000000 in
set_option maxRecDepth 20000 in
theorem law_image {X : Cx} {t : Nat → ClassId} {ad : Nat → Nat → Nat} {a : Nat → Nat} {b L i N : Nat} {xs0 : Nat → Int32} {Rel : RelT} (C : gX X t room_1 cL_law 4 RL) (hS0 : SX X b L xs0) (hL : L ≤ 384) (hi : i + 5 < L) (hst : St_image N Rel) {vR vW vT vS vD vA vI vJ vE vF vP vQ vK vM : SV} {gW : SV} {gA gL : Nat → SV} (hrel : Rel vR vW vT vS vD vA vI vJ vE vF vP vQ vK vM gW gA gL) (kk : ∀ (vR vW vT vS vD vA vI vJ vE vF vP vQ vK vM : SV) (gW : SV) (gA gL : Nat → SV), Rel vR vW vT vS vD vA vI vJ vE vF vP vQ vK vM gW gA gL → G X (WLw t ad a vR vW vT vS vD vA vI vJ vE vF vP vQ vK vM gW gA gL) 1409 [(3, .int (nI i)), (2, .ref (a 0)), (1, .ref (ad 0 0)), (0, .ref b)] []) : G X (WLw t ad a vR vW vT vS vD vA vI vJ vE vF vP vQ vK vM gW gA gL) 1215 [(3, .int (nI i)), (2, .ref (a 0)), (1, .ref (ad 0 0)), (0, .ref b)] [] := by
  obtain ⟨r, m, h1, h2, h3, h4⟩ := hst vR vW vT vS vD vA vI vJ vE vF vP vQ vK vM gW gA gL (xs0 (i + 1)) hrel
  refine G.aload_n C dL_law_1215 2 rfl ?_
  refine G.aload_n C dL_law_1216 3 rfl ?_
  refine G.iload_n C dL_law_1217 0 rfl ?_
  refine G.iconst (v := (1 : Int32)) C dL_law_1218 (by decide) ?_
  refine G.iadd C dL_law_1219 ?_
  refine G.sld C hS0 (i + 1) (nI_add i 1) (by omega) hL dL_law_1220 ?_
  refine G.cvI (i0 := 0) (j0 := 0) (cs' := WLw t ad a vR vW vT vS vD vA (r.2.1) (r.2.2) vE vF vP vQ vK vM gW gA gL) C (c_X7_image (ad := ad) h1) [0, 3, 6, 7] rfl rfl rfl rfl rfl rfl rfl k_985 cal_X7_image ⟨rfl, rfl, by decide, by decide⟩ rfl (Nat.le_of_ble_eq_true rfl) dL_law_1221 ?_
  refine G.aload_n C dL_law_1224 1 rfl ?_
  refine G.aload_n C dL_law_1225 3 rfl ?_
  refine G.iload_n C dL_law_1226 0 rfl ?_
  refine G.iconst (v := (1 : Int32)) C dL_law_1227 (by decide) ?_
  refine G.iadd C dL_law_1228 ?_
  refine G.sld C hS0 (i + 1) (nI_add i 1) (by omega) hL dL_law_1229 ?_
  refine G.cvI (i0 := 13) (j0 := 0) (cs' := WLw t ad a vR vW vT vS vD vA (r.2.1) (r.2.2) vE vF vP vQ vK (m.2) gW gA gL) C (c_X8_image (a := a) h2) [13] rfl rfl rfl rfl rfl rfl rfl k_1472 cal_X8_image ⟨rfl, rfl, by decide, by decide⟩ rfl (Nat.le_of_ble_eq_true rfl) dL_law_1230 ?_
  refine G.icmp_eq (tgt := 1409) C dL_law_1233 (by decide) (β := Unit) (o1 := some ()) (o2 := none) (r := ()) (if_pos h3) (fun _ => ?_) (fun h => by cases h)
  exact kk _ _ _ _ _ _ _ _ _ _ _ _ _ _ _ _ _ h4
set_option maxHeartbeats 4000000 in
set_option maxRecDepth 20000 in
theorem law_restore {X : Cx} {t : Nat → ClassId} {ad : Nat → Nat → Nat} {a : Nat → Nat} {b L i N : Nat} {xs0 : Nat → Int32} {Rel : RelT} (C : gX X t room_1 cL_law 4 RL) (hS0 : SX X b L xs0) (hL : L ≤ 384) (hi : i + 5 < L) (hst : St_restore N Rel) {vR vW vT vS vD vA vI vJ vE vF vP vQ vK vM : SV} {gW : SV} {gA gL : Nat → SV} (hrel : Rel vR vW vT vS vD vA vI vJ vE vF vP vQ vK vM gW gA gL) (kk : ∀ (vR vW vT vS vD vA vI vJ vE vF vP vQ vK vM : SV) (gW : SV) (gA gL : Nat → SV), Rel vR vW vT vS vD vA vI vJ vE vF vP vQ vK vM gW gA gL → G X (WLw t ad a vR vW vT vS vD vA vI vJ vE vF vP vQ vK vM gW gA gL) 1409 [(3, .int (nI i)), (2, .ref (a 0)), (1, .ref (ad 0 0)), (0, .ref b)] []) : G X (WLw t ad a vR vW vT vS vD vA vI vJ vE vF vP vQ vK vM gW gA gL) 1238 [(3, .int (nI i)), (2, .ref (a 0)), (1, .ref (ad 0 0)), (0, .ref b)] [] := by
  obtain ⟨r, m, h1, h2, h3, h4⟩ := hst vR vW vT vS vD vA vI vJ vE vF vP vQ vK vM gW gA gL (xs0 (i + 1)) hrel
  refine G.aload_n C dL_law_1238 2 rfl ?_
  refine G.aload_n C dL_law_1239 3 rfl ?_
  refine G.iload_n C dL_law_1240 0 rfl ?_
  refine G.iconst (v := (1 : Int32)) C dL_law_1241 (by decide) ?_
  refine G.iadd C dL_law_1242 ?_
  refine G.sld C hS0 (i + 1) (nI_add i 1) (by omega) hL dL_law_1243 ?_
  refine G.cvI (i0 := 0) (j0 := 0) (cs' := WLw t ad a vR vW vT (r.2.1) vD (r.2.2) vI vJ vE vF vP vQ vK vM gW gA gL) C (c_X7_restore (ad := ad) h1) [0, 3, 5, 6, 7] rfl rfl rfl rfl rfl rfl rfl k_993 cal_X7_restore ⟨rfl, rfl, by decide, by decide⟩ rfl (Nat.le_of_ble_eq_true rfl) dL_law_1244 ?_
  refine G.aload_n C dL_law_1247 1 rfl ?_
  refine G.aload_n C dL_law_1248 3 rfl ?_
  refine G.iload_n C dL_law_1249 0 rfl ?_
  refine G.iconst (v := (1 : Int32)) C dL_law_1250 (by decide) ?_
  refine G.iadd C dL_law_1251 ?_
  refine G.sld C hS0 (i + 1) (nI_add i 1) (by omega) hL dL_law_1252 ?_
  refine G.cvI (i0 := 13) (j0 := 0) (cs' := WLw t ad a vR vW vT (r.2.1) vD (r.2.2) vI vJ vE vF vP vQ vK (m.2) gW gA gL) C (c_X8_restore (a := a) h2) [13] rfl rfl rfl rfl rfl rfl rfl k_1476 cal_X8_restore ⟨rfl, rfl, by decide, by decide⟩ rfl (Nat.le_of_ble_eq_true rfl) dL_law_1253 ?_
  refine G.icmp_eq (tgt := 1409) C dL_law_1256 (by decide) (β := Unit) (o1 := some ()) (o2 := none) (r := ()) (if_pos h3) (fun _ => ?_) (fun h => by cases h)
  exact kk _ _ _ _ _ _ _ _ _ _ _ _ _ _ _ _ _ h4
set_option maxHeartbeats 4000000 in
set_option maxRecDepth 20000 in
theorem law_kind {X : Cx} {t : Nat → ClassId} {ad : Nat → Nat → Nat} {a : Nat → Nat} {b L i N : Nat} {xs0 : Nat → Int32} {Rel : RelT} (C : gX X t room_1 cL_law 4 RL) (hS0 : SX X b L xs0) (hL : L ≤ 384) (hi : i + 5 < L) (hst : St_kind N Rel) {vR vW vT vS vD vA vI vJ vE vF vP vQ vK vM : SV} {gW : SV} {gA gL : Nat → SV} (hrel : Rel vR vW vT vS vD vA vI vJ vE vF vP vQ vK vM gW gA gL) (kk : ∀ (vR vW vT vS vD vA vI vJ vE vF vP vQ vK vM : SV) (gW : SV) (gA gL : Nat → SV), Rel vR vW vT vS vD vA vI vJ vE vF vP vQ vK vM gW gA gL → G X (WLw t ad a vR vW vT vS vD vA vI vJ vE vF vP vQ vK vM gW gA gL) 1409 [(3, .int (nI i)), (2, .ref (a 0)), (1, .ref (ad 0 0)), (0, .ref b)] []) : G X (WLw t ad a vR vW vT vS vD vA vI vJ vE vF vP vQ vK vM gW gA gL) 1261 [(3, .int (nI i)), (2, .ref (a 0)), (1, .ref (ad 0 0)), (0, .ref b)] [] := by
  obtain ⟨r, m, h1, h2, h3, h4⟩ := hst vR vW vT vS vD vA vI vJ vE vF vP vQ vK vM gW gA gL (xs0 (i + 1)) hrel
  refine G.aload_n C dL_law_1261 2 rfl ?_
  refine G.aload_n C dL_law_1262 3 rfl ?_
  refine G.iload_n C dL_law_1263 0 rfl ?_
  refine G.iconst (v := (1 : Int32)) C dL_law_1264 (by decide) ?_
  refine G.iadd C dL_law_1265 ?_
  refine G.sld C hS0 (i + 1) (nI_add i 1) (by omega) hL dL_law_1266 ?_
  refine G.cvI (i0 := 0) (j0 := 0) (cs' := WLw t ad a vR vW vT vS vD vA vI vJ vE vF vP vQ vK vM gW gA gL) C (c_X7_kind (ad := ad) h1) [0, 3] rfl rfl rfl rfl rfl rfl rfl k_997 cal_X7_kind ⟨rfl, rfl, by decide, by decide⟩ rfl (Nat.le_of_ble_eq_true rfl) dL_law_1267 ?_
  refine G.aload_n C dL_law_1270 1 rfl ?_
  refine G.aload_n C dL_law_1271 3 rfl ?_
  refine G.iload_n C dL_law_1272 0 rfl ?_
  refine G.iconst (v := (1 : Int32)) C dL_law_1273 (by decide) ?_
  refine G.iadd C dL_law_1274 ?_
  refine G.sld C hS0 (i + 1) (nI_add i 1) (by omega) hL dL_law_1275 ?_
  refine G.cvI (i0 := 13) (j0 := 0) (cs' := WLw t ad a vR vW vT vS vD vA vI vJ vE vF vP vQ vK vM gW gA gL) C (c_X8_kind (a := a) h2) [13] rfl rfl rfl rfl rfl rfl rfl k_1480 cal_X8_kind ⟨rfl, rfl, by decide, by decide⟩ rfl (Nat.le_of_ble_eq_true rfl) dL_law_1276 ?_
  refine G.icmp_eq (tgt := 1409) C dL_law_1279 (by decide) (β := Unit) (o1 := some ()) (o2 := none) (r := ()) (if_pos h3) (fun _ => ?_) (fun h => by cases h)
  exact kk _ _ _ _ _ _ _ _ _ _ _ _ _ _ _ _ _ h4
set_option maxHeartbeats 4000000 in
set_option maxRecDepth 20000 in
theorem law_as {X : Cx} {t : Nat → ClassId} {ad : Nat → Nat → Nat} {a : Nat → Nat} {b L i N : Nat} {xs0 : Nat → Int32} {Rel : RelT} (C : gX X t room_1 cL_law 4 RL) (hS0 : SX X b L xs0) (hL : L ≤ 384) (hi : i + 5 < L) (hst : St_as N Rel) {vR vW vT vS vD vA vI vJ vE vF vP vQ vK vM : SV} {gW : SV} {gA gL : Nat → SV} (hrel : Rel vR vW vT vS vD vA vI vJ vE vF vP vQ vK vM gW gA gL) (kk : ∀ (vR vW vT vS vD vA vI vJ vE vF vP vQ vK vM : SV) (gW : SV) (gA gL : Nat → SV), Rel vR vW vT vS vD vA vI vJ vE vF vP vQ vK vM gW gA gL → G X (WLw t ad a vR vW vT vS vD vA vI vJ vE vF vP vQ vK vM gW gA gL) 1409 [(3, .int (nI i)), (2, .ref (a 0)), (1, .ref (ad 0 0)), (0, .ref b)] []) : G X (WLw t ad a vR vW vT vS vD vA vI vJ vE vF vP vQ vK vM gW gA gL) 1284 [(3, .int (nI i)), (2, .ref (a 0)), (1, .ref (ad 0 0)), (0, .ref b)] [] := by
  obtain ⟨r, m, h1, h2, h3, h4⟩ := hst vR vW vT vS vD vA vI vJ vE vF vP vQ vK vM gW gA gL (xs0 (i + 1)) (xs0 (i + 2)) hrel
  refine G.aload_n C dL_law_1284 2 rfl ?_
  refine G.aload_n C dL_law_1285 3 rfl ?_
  refine G.iload_n C dL_law_1286 0 rfl ?_
  refine G.iconst (v := (1 : Int32)) C dL_law_1287 (by decide) ?_
  refine G.iadd C dL_law_1288 ?_
  refine G.sld C hS0 (i + 1) (nI_add i 1) (by omega) hL dL_law_1289 ?_
  refine G.aload_n C dL_law_1290 3 rfl ?_
  refine G.iload_n C dL_law_1291 0 rfl ?_
  refine G.iconst (v := (2 : Int32)) C dL_law_1292 (by decide) ?_
  refine G.iadd C dL_law_1293 ?_
  refine G.sld C hS0 (i + 2) (nI_add i 2) (by omega) hL dL_law_1294 ?_
  refine G.cvI (i0 := 0) (j0 := 0) (cs' := WLw t ad a (r.2) vW vT vS vD vA vI vJ vE vF vP vQ vK vM gW gA gL) C (c_X7_as (ad := ad) h1) [0, 3] rfl rfl rfl rfl rfl rfl rfl k_1001 cal_X7_as ⟨rfl, rfl, by decide, by decide⟩ rfl (Nat.le_of_ble_eq_true rfl) dL_law_1295 ?_
  refine G.aload_n C dL_law_1298 1 rfl ?_
  refine G.aload_n C dL_law_1299 3 rfl ?_
  refine G.iload_n C dL_law_1300 0 rfl ?_
  refine G.iconst (v := (1 : Int32)) C dL_law_1301 (by decide) ?_
  refine G.iadd C dL_law_1302 ?_
  refine G.sld C hS0 (i + 1) (nI_add i 1) (by omega) hL dL_law_1303 ?_
  refine G.aload_n C dL_law_1304 3 rfl ?_
  refine G.iload_n C dL_law_1305 0 rfl ?_
  refine G.iconst (v := (2 : Int32)) C dL_law_1306 (by decide) ?_
  refine G.iadd C dL_law_1307 ?_
  refine G.sld C hS0 (i + 2) (nI_add i 2) (by omega) hL dL_law_1308 ?_
  refine G.cvI (i0 := 13) (j0 := 0) (cs' := WLw t ad a (r.2) vW vT vS vD vA vI vJ vE vF vP vQ vK (m.2) gW gA gL) C (c_X8_as (a := a) h2) [13] rfl rfl rfl rfl rfl rfl rfl k_1484 cal_X8_as ⟨rfl, rfl, by decide, by decide⟩ rfl (Nat.le_of_ble_eq_true rfl) dL_law_1309 ?_
  refine G.icmp_eq (tgt := 1409) C dL_law_1312 (by decide) (β := Unit) (o1 := some ()) (o2 := none) (r := ()) (if_pos h3) (fun _ => ?_) (fun h => by cases h)
  exact kk _ _ _ _ _ _ _ _ _ _ _ _ _ _ _ _ _ h4
set_option maxHeartbeats 4000000 in
set_option maxRecDepth 20000 in
theorem law_ask {X : Cx} {t : Nat → ClassId} {ad : Nat → Nat → Nat} {a : Nat → Nat} {b L i N : Nat} {xs0 : Nat → Int32} {Rel : RelT} (C : gX X t room_1 cL_law 4 RL) (hS0 : SX X b L xs0) (hL : L ≤ 384) (hi : i + 5 < L) (hst : St_ask N Rel) {vR vW vT vS vD vA vI vJ vE vF vP vQ vK vM : SV} {gW : SV} {gA gL : Nat → SV} (hrel : Rel vR vW vT vS vD vA vI vJ vE vF vP vQ vK vM gW gA gL) (kk : ∀ (vR vW vT vS vD vA vI vJ vE vF vP vQ vK vM : SV) (gW : SV) (gA gL : Nat → SV), Rel vR vW vT vS vD vA vI vJ vE vF vP vQ vK vM gW gA gL → G X (WLw t ad a vR vW vT vS vD vA vI vJ vE vF vP vQ vK vM gW gA gL) 1409 [(3, .int (nI i)), (2, .ref (a 0)), (1, .ref (ad 0 0)), (0, .ref b)] []) : G X (WLw t ad a vR vW vT vS vD vA vI vJ vE vF vP vQ vK vM gW gA gL) 1317 [(3, .int (nI i)), (2, .ref (a 0)), (1, .ref (ad 0 0)), (0, .ref b)] [] := by
  obtain ⟨r, m, h1, h2, h3, h4⟩ := hst vR vW vT vS vD vA vI vJ vE vF vP vQ vK vM gW gA gL (xs0 (i + 1)) (xs0 (i + 2)) hrel
  refine G.aload_n C dL_law_1317 2 rfl ?_
  refine G.aload_n C dL_law_1318 3 rfl ?_
  refine G.iload_n C dL_law_1319 0 rfl ?_
  refine G.iconst (v := (1 : Int32)) C dL_law_1320 (by decide) ?_
  refine G.iadd C dL_law_1321 ?_
  refine G.sld C hS0 (i + 1) (nI_add i 1) (by omega) hL dL_law_1322 ?_
  refine G.aload_n C dL_law_1323 3 rfl ?_
  refine G.iload_n C dL_law_1324 0 rfl ?_
  refine G.iconst (v := (2 : Int32)) C dL_law_1325 (by decide) ?_
  refine G.iadd C dL_law_1326 ?_
  refine G.sld C hS0 (i + 2) (nI_add i 2) (by omega) hL dL_law_1327 ?_
  refine G.cvI (i0 := 0) (j0 := 0) (cs' := WLw t ad a vR vW vT vS vD vA vI vJ vE vF vP vQ (r.2) vM gW gA gL) C (c_X7_ask (ad := ad) h1) [0, 3, 12] rfl rfl rfl rfl rfl rfl rfl k_1014 cal_X7_ask ⟨rfl, rfl, by decide, by decide⟩ rfl (Nat.le_of_ble_eq_true rfl) dL_law_1328 ?_
  refine G.aload_n C dL_law_1331 1 rfl ?_
  refine G.aload_n C dL_law_1332 3 rfl ?_
  refine G.iload_n C dL_law_1333 0 rfl ?_
  refine G.iconst (v := (1 : Int32)) C dL_law_1334 (by decide) ?_
  refine G.iadd C dL_law_1335 ?_
  refine G.sld C hS0 (i + 1) (nI_add i 1) (by omega) hL dL_law_1336 ?_
  refine G.aload_n C dL_law_1337 3 rfl ?_
  refine G.iload_n C dL_law_1338 0 rfl ?_
  refine G.iconst (v := (2 : Int32)) C dL_law_1339 (by decide) ?_
  refine G.iadd C dL_law_1340 ?_
  refine G.sld C hS0 (i + 2) (nI_add i 2) (by omega) hL dL_law_1341 ?_
  refine G.cvI (i0 := 13) (j0 := 0) (cs' := WLw t ad a vR vW vT vS vD vA vI vJ vE vF vP vQ (r.2) (m.2) gW gA gL) C (c_X8_ask (a := a) h2) [13] rfl rfl rfl rfl rfl rfl rfl k_1491 cal_X8_ask ⟨rfl, rfl, by decide, by decide⟩ rfl (Nat.le_of_ble_eq_true rfl) dL_law_1342 ?_
  refine G.icmp_eq (tgt := 1409) C dL_law_1345 (by decide) (β := Unit) (o1 := some ()) (o2 := none) (r := ()) (if_pos h3) (fun _ => ?_) (fun h => by cases h)
  exact kk _ _ _ _ _ _ _ _ _ _ _ _ _ _ _ _ _ h4
set_option maxHeartbeats 4000000 in
set_option maxRecDepth 20000 in
theorem law_trace {X : Cx} {t : Nat → ClassId} {ad : Nat → Nat → Nat} {a : Nat → Nat} {b L i N : Nat} {xs0 : Nat → Int32} {Rel : RelT} (C : gX X t room_1 cL_law 4 RL) (hS0 : SX X b L xs0) (hL : L ≤ 384) (hi : i + 5 < L) (hst : St_trace N Rel) {vR vW vT vS vD vA vI vJ vE vF vP vQ vK vM : SV} {gW : SV} {gA gL : Nat → SV} (hrel : Rel vR vW vT vS vD vA vI vJ vE vF vP vQ vK vM gW gA gL) (kk : ∀ (vR vW vT vS vD vA vI vJ vE vF vP vQ vK vM : SV) (gW : SV) (gA gL : Nat → SV), Rel vR vW vT vS vD vA vI vJ vE vF vP vQ vK vM gW gA gL → G X (WLw t ad a vR vW vT vS vD vA vI vJ vE vF vP vQ vK vM gW gA gL) 1409 [(3, .int (nI i)), (2, .ref (a 0)), (1, .ref (ad 0 0)), (0, .ref b)] []) : G X (WLw t ad a vR vW vT vS vD vA vI vJ vE vF vP vQ vK vM gW gA gL) 1350 [(3, .int (nI i)), (2, .ref (a 0)), (1, .ref (ad 0 0)), (0, .ref b)] [] := by
  obtain ⟨r, m, h1, h2, h3, h4⟩ := hst vR vW vT vS vD vA vI vJ vE vF vP vQ vK vM gW gA gL (xs0 (i + 1)) hrel
  refine G.aload_n C dL_law_1350 2 rfl ?_
  refine G.aload_n C dL_law_1351 3 rfl ?_
  refine G.iload_n C dL_law_1352 0 rfl ?_
  refine G.iconst (v := (1 : Int32)) C dL_law_1353 (by decide) ?_
  refine G.iadd C dL_law_1354 ?_
  refine G.sld C hS0 (i + 1) (nI_add i 1) (by omega) hL dL_law_1355 ?_
  refine G.cvI (i0 := 0) (j0 := 0) (cs' := WLw t ad a vR vW vT vS vD vA vI vJ vE vF vP vQ vK vM gW gA gL) C (c_X7_trace (ad := ad) h1) [0, 12] rfl rfl rfl rfl rfl rfl rfl k_1039 cal_X7_trace ⟨rfl, rfl, by decide, by decide⟩ rfl (Nat.le_of_ble_eq_true rfl) dL_law_1356 ?_
  refine G.aload_n C dL_law_1359 1 rfl ?_
  refine G.aload_n C dL_law_1360 3 rfl ?_
  refine G.iload_n C dL_law_1361 0 rfl ?_
  refine G.iconst (v := (1 : Int32)) C dL_law_1362 (by decide) ?_
  refine G.iadd C dL_law_1363 ?_
  refine G.sld C hS0 (i + 1) (nI_add i 1) (by omega) hL dL_law_1364 ?_
  refine G.cvI (i0 := 13) (j0 := 0) (cs' := WLw t ad a vR vW vT vS vD vA vI vJ vE vF vP vQ vK vM gW gA gL) C (c_X8_trace (a := a) h2) [13] rfl rfl rfl rfl rfl rfl rfl k_1527 cal_X8_trace ⟨rfl, rfl, by decide, by decide⟩ rfl (Nat.le_of_ble_eq_true rfl) dL_law_1365 ?_
  refine G.icmp_eq (tgt := 1409) C dL_law_1368 (by decide) (β := Unit) (o1 := some ()) (o2 := none) (r := ()) (if_pos h3) (fun _ => ?_) (fun h => by cases h)
  exact kk _ _ _ _ _ _ _ _ _ _ _ _ _ _ _ _ _ h4
set_option maxHeartbeats 4000000 in
set_option maxRecDepth 20000 in
theorem law_count {X : Cx} {t : Nat → ClassId} {ad : Nat → Nat → Nat} {a : Nat → Nat} {b L i N : Nat} {xs0 : Nat → Int32} {Rel : RelT} (C : gX X t room_1 cL_law 4 RL) (hS0 : SX X b L xs0) (hL : L ≤ 384) (hi : i + 5 < L) (hst : St_count N Rel) {vR vW vT vS vD vA vI vJ vE vF vP vQ vK vM : SV} {gW : SV} {gA gL : Nat → SV} (hrel : Rel vR vW vT vS vD vA vI vJ vE vF vP vQ vK vM gW gA gL) (kk : ∀ (vR vW vT vS vD vA vI vJ vE vF vP vQ vK vM : SV) (gW : SV) (gA gL : Nat → SV), Rel vR vW vT vS vD vA vI vJ vE vF vP vQ vK vM gW gA gL → G X (WLw t ad a vR vW vT vS vD vA vI vJ vE vF vP vQ vK vM gW gA gL) 1409 [(3, .int (nI i)), (2, .ref (a 0)), (1, .ref (ad 0 0)), (0, .ref b)] []) : G X (WLw t ad a vR vW vT vS vD vA vI vJ vE vF vP vQ vK vM gW gA gL) 1373 [(3, .int (nI i)), (2, .ref (a 0)), (1, .ref (ad 0 0)), (0, .ref b)] [] := by
  obtain ⟨r, m, h1, h2, h3, h4⟩ := hst vR vW vT vS vD vA vI vJ vE vF vP vQ vK vM gW gA gL (xs0 (i + 1)) hrel
  refine G.aload_n C dL_law_1373 2 rfl ?_
  refine G.aload_n C dL_law_1374 3 rfl ?_
  refine G.iload_n C dL_law_1375 0 rfl ?_
  refine G.iconst (v := (1 : Int32)) C dL_law_1376 (by decide) ?_
  refine G.iadd C dL_law_1377 ?_
  refine G.sld C hS0 (i + 1) (nI_add i 1) (by omega) hL dL_law_1378 ?_
  refine G.cvI (i0 := 0) (j0 := 0) (cs' := WLw t ad a vR vW vT vS vD vA vI vJ vE vF vP vQ vK vM gW gA gL) C (c_X7_count (ad := ad) h1) [0, 1, 2, 3, 5] rfl rfl rfl rfl rfl rfl rfl k_1047 cal_X7_count ⟨rfl, rfl, by decide, by decide⟩ rfl (Nat.le_of_ble_eq_true rfl) dL_law_1379 ?_
  refine G.aload_n C dL_law_1382 1 rfl ?_
  refine G.aload_n C dL_law_1383 3 rfl ?_
  refine G.iload_n C dL_law_1384 0 rfl ?_
  refine G.iconst (v := (1 : Int32)) C dL_law_1385 (by decide) ?_
  refine G.iadd C dL_law_1386 ?_
  refine G.sld C hS0 (i + 1) (nI_add i 1) (by omega) hL dL_law_1387 ?_
  refine G.cvI (i0 := 13) (j0 := 0) (cs' := WLw t ad a vR vW vT vS vD vA vI vJ vE vF vP vQ vK vM gW gA gL) C (c_X8_count (a := a) h2) [13] rfl rfl rfl rfl rfl rfl rfl k_1531 cal_X8_count ⟨rfl, rfl, by decide, by decide⟩ rfl (Nat.le_of_ble_eq_true rfl) dL_law_1388 ?_
  refine G.icmp_eq (tgt := 1409) C dL_law_1391 (by decide) (β := Unit) (o1 := some ()) (o2 := none) (r := ()) (if_pos h3) (fun _ => ?_) (fun h => by cases h)
  exact kk _ _ _ _ _ _ _ _ _ _ _ _ _ _ _ _ _ h4
set_option maxHeartbeats 4000000 in
set_option maxRecDepth 20000 in
theorem law_status {X : Cx} {t : Nat → ClassId} {ad : Nat → Nat → Nat} {a : Nat → Nat} {b L i N : Nat} {xs0 : Nat → Int32} {Rel : RelT} (C : gX X t room_1 cL_law 4 RL) (hS0 : SX X b L xs0) (hL : L ≤ 384) (hi : i + 5 < L) (hst : St_status N Rel) {vR vW vT vS vD vA vI vJ vE vF vP vQ vK vM : SV} {gW : SV} {gA gL : Nat → SV} (hrel : Rel vR vW vT vS vD vA vI vJ vE vF vP vQ vK vM gW gA gL) (kk : ∀ (vR vW vT vS vD vA vI vJ vE vF vP vQ vK vM : SV) (gW : SV) (gA gL : Nat → SV), Rel vR vW vT vS vD vA vI vJ vE vF vP vQ vK vM gW gA gL → G X (WLw t ad a vR vW vT vS vD vA vI vJ vE vF vP vQ vK vM gW gA gL) 1409 [(3, .int (nI i)), (2, .ref (a 0)), (1, .ref (ad 0 0)), (0, .ref b)] []) : G X (WLw t ad a vR vW vT vS vD vA vI vJ vE vF vP vQ vK vM gW gA gL) 1396 [(3, .int (nI i)), (2, .ref (a 0)), (1, .ref (ad 0 0)), (0, .ref b)] [] := by
  obtain ⟨r, m, h1, h2, h3, h4⟩ := hst vR vW vT vS vD vA vI vJ vE vF vP vQ vK vM gW gA gL hrel
  refine G.aload_n C dL_law_1396 2 rfl ?_
  refine G.cvI (i0 := 0) (j0 := 0) (cs' := WLw t ad a vR vW vT vS vD vA vI vJ vE vF vP vQ vK vM gW gA gL) C (c_X7_status (ad := ad) h1) [0] rfl rfl rfl rfl rfl rfl rfl k_1059 cal_X7_status ⟨rfl, rfl, by decide, by decide⟩ rfl (Nat.le_of_ble_eq_true rfl) dL_law_1397 ?_
  refine G.aload_n C dL_law_1400 1 rfl ?_
  refine G.cvI (i0 := 13) (j0 := 0) (cs' := WLw t ad a vR vW vT vS vD vA vI vJ vE vF vP vQ vK vM gW gA gL) C (c_X8_status (a := a) h2) [13] rfl rfl rfl rfl rfl rfl rfl k_1535 cal_X8_status ⟨rfl, rfl, by decide, by decide⟩ rfl (Nat.le_of_ble_eq_true rfl) dL_law_1401 ?_
  refine G.icmp_eq (tgt := 1409) C dL_law_1404 (by decide) (β := Unit) (o1 := some ()) (o2 := none) (r := ()) (if_pos h3) (fun _ => ?_) (fun h => by cases h)
  exact kk _ _ _ _ _ _ _ _ _ _ _ _ _ _ _ _ _ h4
