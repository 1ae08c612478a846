section LAW
variable {X : pq_X} {S1 S2 : pq_S} {k n pc : Nat} {L : List (Nat × Value)} {st : List Value} {h1 h2 : pq_H} {b Ln : Nat} {xs : Nat → Int32}
def Ag_letter (Inv : pq_H → pq_H → Prop) : Prop := ∀ (hC hM : pq_H) (p1 : Int32), Inv hC hM → ag Inv (f_X10_letter p1 hC) (f_X11_letter p1 hM)
set_option maxRecDepth 20000 in
theorem lc_0 (hx : LX X b Ln xs) {gC gM : pq_g} {AC AM : Nat → Prop} (hc : LC X gC gM AC AM) (i : Nat) (hi : i + 5 ≤ Ln) (hN : Ln ≤ 2560) (hkn : k ≤ 600000 ∧ n ≤ 7302250) {Inv : pq_H → pq_H → Prop} (a0 : Ag_letter Inv) (kk : LE X gC gM b k n Inv i) {hC hM : pq_H} (hI : Inv hC hM) : LW X (SC gC) (SM gM) k n 192 (lL b (gM.1 0) (gC.1 55) i) [] hC hM := by
  obtain ⟨r, hC', hM', e1, e2, hI'⟩ := a0 hC hM (xs (i + 1)) hI
  refine l_aload hx dL_law_192 rfl 2 rfl ?_
  refine l_arg hx i 1 hi hN (by decide) rfl dL_law_193 dL_law_194 dL_law_195 dL_law_196 dL_law_197 ?_
  refine l_call hx hc.1 hc.2.2.1 [.int (xs (i + 1))] [] (oC_55 gC) lb_X10_letter lv_L_13 (c_X10_letter gC hc.1.2.2.1 X.1.2.1 (xs (i + 1)) hC e1) dL_law_198 rfl rfl (Nat.le_of_ble_eq_true rfl) (by decide) (by decide) hkn ?_
  refine l_aload hx dL_law_201 rfl 1 rfl ?_
  refine l_arg hx i 1 hi hN (by decide) rfl dL_law_202 dL_law_203 dL_law_204 dL_law_205 dL_law_206 ?_
  refine LW.swap ?_
  refine l_call hx hc.2.1 hc.2.2.2 [.int (xs (i + 1))] [.int r] (oM_0 gM) lb_X11_letter lv_L_17 (c_X11_letter gM hc.2.1.2.2.1 X.1.2.1 (xs (i + 1)) hM e2) dL_law_207 rfl rfl (Nat.le_of_ble_eq_true rfl) (by decide) (by decide) hkn ?_
  refine LW.swap ?_
  exact l_ieq hx dL_law_210 (by decide) (kk hC' hM' hI')
def Ag_form (Inv : pq_H → pq_H → Prop) : Prop := ∀ (hC hM : pq_H), Inv hC hM → ag Inv (f_X10_form hC) (f_X11_form hM)
set_option maxRecDepth 20000 in
theorem lc_1 (hx : LX X b Ln xs) {gC gM : pq_g} {AC AM : Nat → Prop} (hc : LC X gC gM AC AM) (i : Nat) (hi : i + 5 ≤ Ln) (hN : Ln ≤ 2560) (hkn : k ≤ 600000 ∧ n ≤ 7302250) {Inv : pq_H → pq_H → Prop} (a0 : Ag_form Inv) (kk : LE X gC gM b k n Inv i) {hC hM : pq_H} (hI : Inv hC hM) : LW X (SC gC) (SM gM) k n 215 (lL b (gM.1 0) (gC.1 55) i) [] hC hM := by
  obtain ⟨r, hC', hM', e1, e2, hI'⟩ := a0 hC hM hI
  refine l_aload hx dL_law_215 rfl 2 rfl ?_
  refine l_call hx hc.1 hc.2.2.1 [] [] (oC_55 gC) lb_X10_form lv_L_18 (c_X10_form gC hc.1.2.2.1 X.1.2.1 hC e1) dL_law_216 rfl rfl (Nat.le_of_ble_eq_true rfl) (by decide) (by decide) hkn ?_
  refine l_aload hx dL_law_219 rfl 1 rfl ?_
  refine LW.swap ?_
  refine l_call hx hc.2.1 hc.2.2.2 [] [.int r] (oM_0 gM) lb_X11_form lv_L_22 (c_X11_form gM hc.2.1.2.2.1 X.1.2.1 hM e2) dL_law_220 rfl rfl (Nat.le_of_ble_eq_true rfl) (by decide) (by decide) hkn ?_
  refine LW.swap ?_
  exact l_ieq hx dL_law_223 (by decide) (kk hC' hM' hI')
def Ag_acts (Inv : pq_H → pq_H → Prop) : Prop := ∀ (hC hM : pq_H), Inv hC hM → ag Inv (f_X10_acts hC) (f_X11_acts hM)
set_option maxRecDepth 20000 in
theorem lc_2 (hx : LX X b Ln xs) {gC gM : pq_g} {AC AM : Nat → Prop} (hc : LC X gC gM AC AM) (i : Nat) (hi : i + 5 ≤ Ln) (hN : Ln ≤ 2560) (hkn : k ≤ 600000 ∧ n ≤ 7302250) {Inv : pq_H → pq_H → Prop} (a0 : Ag_acts Inv) (kk : LE X gC gM b k n Inv i) {hC hM : pq_H} (hI : Inv hC hM) : LW X (SC gC) (SM gM) k n 228 (lL b (gM.1 0) (gC.1 55) i) [] hC hM := by
  obtain ⟨r, hC', hM', e1, e2, hI'⟩ := a0 hC hM hI
  refine l_aload hx dL_law_228 rfl 2 rfl ?_
  refine l_call hx hc.1 hc.2.2.1 [] [] (oC_55 gC) lb_X10_acts lv_L_23 (c_X10_acts gC hc.1.2.2.1 X.1.2.1 hC e1) dL_law_229 rfl rfl (Nat.le_of_ble_eq_true rfl) (by decide) (by decide) hkn ?_
  refine l_aload hx dL_law_232 rfl 1 rfl ?_
  refine LW.swap ?_
  refine l_call hx hc.2.1 hc.2.2.2 [] [.int r] (oM_0 gM) lb_X11_acts lv_L_26 (c_X11_acts gM hc.2.1.2.2.1 X.1.2.1 hM e2) dL_law_233 rfl rfl (Nat.le_of_ble_eq_true rfl) (by decide) (by decide) hkn ?_
  refine LW.swap ?_
  exact l_ieq hx dL_law_236 (by decide) (kk hC' hM' hI')
def Ag_drop (Inv : pq_H → pq_H → Prop) : Prop := ∀ (hC hM : pq_H), Inv hC hM → ag Inv (f_X10_drop hC) (f_X11_drop hM)
set_option maxRecDepth 20000 in
theorem lc_3 (hx : LX X b Ln xs) {gC gM : pq_g} {AC AM : Nat → Prop} (hc : LC X gC gM AC AM) (i : Nat) (hi : i + 5 ≤ Ln) (hN : Ln ≤ 2560) (hkn : k ≤ 600000 ∧ n ≤ 7302250) {Inv : pq_H → pq_H → Prop} (a0 : Ag_drop Inv) (kk : LE X gC gM b k n Inv i) {hC hM : pq_H} (hI : Inv hC hM) : LW X (SC gC) (SM gM) k n 241 (lL b (gM.1 0) (gC.1 55) i) [] hC hM := by
  obtain ⟨r, hC', hM', e1, e2, hI'⟩ := a0 hC hM hI
  refine l_aload hx dL_law_241 rfl 2 rfl ?_
  refine l_call hx hc.1 hc.2.2.1 [] [] (oC_55 gC) lb_X10_drop lv_L_27 (c_X10_drop gC hc.1.2.2.1 X.1.2.1 hC e1) dL_law_242 rfl rfl (Nat.le_of_ble_eq_true rfl) (by decide) (by decide) hkn ?_
  refine l_aload hx dL_law_245 rfl 1 rfl ?_
  refine LW.swap ?_
  refine l_call hx hc.2.1 hc.2.2.2 [] [.int r] (oM_0 gM) lb_X11_drop lv_L_30 (c_X11_drop gM hc.2.1.2.2.1 X.1.2.1 hM e2) dL_law_246 rfl rfl (Nat.le_of_ble_eq_true rfl) (by decide) (by decide) hkn ?_
  refine LW.swap ?_
  exact l_ieq hx dL_law_249 (by decide) (kk hC' hM' hI')
def Ag_change (Inv : pq_H → pq_H → Prop) : Prop := ∀ (hC hM : pq_H) (p1 p2 p3 : Int32), Inv hC hM → ag Inv (f_X10_change p1 p2 p3 hC) (f_X11_change p1 p2 p3 hM)
set_option maxRecDepth 20000 in
theorem lc_4 (hx : LX X b Ln xs) {gC gM : pq_g} {AC AM : Nat → Prop} (hc : LC X gC gM AC AM) (i : Nat) (hi : i + 5 ≤ Ln) (hN : Ln ≤ 2560) (hkn : k ≤ 600000 ∧ n ≤ 7302250) {Inv : pq_H → pq_H → Prop} (a0 : Ag_change Inv) (kk : LE X gC gM b k n Inv i) {hC hM : pq_H} (hI : Inv hC hM) : LW X (SC gC) (SM gM) k n 254 (lL b (gM.1 0) (gC.1 55) i) [] hC hM := by
  obtain ⟨r, hC', hM', e1, e2, hI'⟩ := a0 hC hM (xs (i + 1)) (xs (i + 2)) (xs (i + 3)) hI
  refine l_aload hx dL_law_254 rfl 2 rfl ?_
  refine l_arg hx i 1 hi hN (by decide) rfl dL_law_255 dL_law_256 dL_law_257 dL_law_258 dL_law_259 ?_
  refine l_arg hx i 2 hi hN (by decide) rfl dL_law_260 dL_law_261 dL_law_262 dL_law_263 dL_law_264 ?_
  refine l_arg hx i 3 hi hN (by decide) rfl dL_law_265 dL_law_266 dL_law_267 dL_law_268 dL_law_269 ?_
  refine l_call hx hc.1 hc.2.2.1 [.int (xs (i + 1)), .int (xs (i + 2)), .int (xs (i + 3))] [] (oC_55 gC) lb_X10_change lv_L_31 (c_X10_change gC hc.1.2.2.1 X.1.2.1 (xs (i + 1)) (xs (i + 2)) (xs (i + 3)) hC e1) dL_law_270 rfl rfl (Nat.le_of_ble_eq_true rfl) (by decide) (by decide) hkn ?_
  refine l_aload hx dL_law_273 rfl 1 rfl ?_
  refine l_arg hx i 1 hi hN (by decide) rfl dL_law_274 dL_law_275 dL_law_276 dL_law_277 dL_law_278 ?_
  refine l_arg hx i 2 hi hN (by decide) rfl dL_law_279 dL_law_280 dL_law_281 dL_law_282 dL_law_283 ?_
  refine l_arg hx i 3 hi hN (by decide) rfl dL_law_284 dL_law_285 dL_law_286 dL_law_287 dL_law_288 ?_
  refine LW.swap ?_
  refine l_call hx hc.2.1 hc.2.2.2 [.int (xs (i + 1)), .int (xs (i + 2)), .int (xs (i + 3))] [.int r] (oM_0 gM) lb_X11_change lv_L_35 (c_X11_change gM hc.2.1.2.2.1 X.1.2.1 (xs (i + 1)) (xs (i + 2)) (xs (i + 3)) hM e2) dL_law_289 rfl rfl (Nat.le_of_ble_eq_true rfl) (by decide) (by decide) hkn ?_
  refine LW.swap ?_
  exact l_ieq hx dL_law_292 (by decide) (kk hC' hM' hI')
def Ag_turn (Inv : pq_H → pq_H → Prop) : Prop := ∀ (hC hM : pq_H) (p1 p2 p3 : Int32), Inv hC hM → ag Inv (f_X10_turn p1 p2 p3 hC) (f_X11_turn p1 p2 p3 hM)
set_option maxRecDepth 20000 in
theorem lc_5 (hx : LX X b Ln xs) {gC gM : pq_g} {AC AM : Nat → Prop} (hc : LC X gC gM AC AM) (i : Nat) (hi : i + 5 ≤ Ln) (hN : Ln ≤ 2560) (hkn : k ≤ 600000 ∧ n ≤ 7302250) {Inv : pq_H → pq_H → Prop} (a0 : Ag_turn Inv) (kk : LE X gC gM b k n Inv i) {hC hM : pq_H} (hI : Inv hC hM) : LW X (SC gC) (SM gM) k n 297 (lL b (gM.1 0) (gC.1 55) i) [] hC hM := by
  obtain ⟨r, hC', hM', e1, e2, hI'⟩ := a0 hC hM (xs (i + 1)) (xs (i + 2)) (xs (i + 3)) hI
  refine l_aload hx dL_law_297 rfl 2 rfl ?_
  refine l_arg hx i 1 hi hN (by decide) rfl dL_law_298 dL_law_299 dL_law_300 dL_law_301 dL_law_302 ?_
  refine l_arg hx i 2 hi hN (by decide) rfl dL_law_303 dL_law_304 dL_law_305 dL_law_306 dL_law_307 ?_
  refine l_arg hx i 3 hi hN (by decide) rfl dL_law_308 dL_law_309 dL_law_310 dL_law_311 dL_law_312 ?_
  refine l_call hx hc.1 hc.2.2.1 [.int (xs (i + 1)), .int (xs (i + 2)), .int (xs (i + 3))] [] (oC_55 gC) lb_X10_turn lv_L_36 (c_X10_turn gC hc.1.2.2.1 X.1.2.1 (xs (i + 1)) (xs (i + 2)) (xs (i + 3)) hC e1) dL_law_313 rfl rfl (Nat.le_of_ble_eq_true rfl) (by decide) (by decide) hkn ?_
  refine l_aload hx dL_law_316 rfl 1 rfl ?_
  refine l_arg hx i 1 hi hN (by decide) rfl dL_law_317 dL_law_318 dL_law_319 dL_law_320 dL_law_321 ?_
  refine l_arg hx i 2 hi hN (by decide) rfl dL_law_322 dL_law_323 dL_law_324 dL_law_325 dL_law_326 ?_
  refine l_arg hx i 3 hi hN (by decide) rfl dL_law_327 dL_law_328 dL_law_329 dL_law_330 dL_law_331 ?_
  refine LW.swap ?_
  refine l_call hx hc.2.1 hc.2.2.2 [.int (xs (i + 1)), .int (xs (i + 2)), .int (xs (i + 3))] [.int r] (oM_0 gM) lb_X11_turn lv_L_39 (c_X11_turn gM hc.2.1.2.2.1 X.1.2.1 (xs (i + 1)) (xs (i + 2)) (xs (i + 3)) hM e2) dL_law_332 rfl rfl (Nat.le_of_ble_eq_true rfl) (by decide) (by decide) hkn ?_
  refine LW.swap ?_
  exact l_ieq hx dL_law_335 (by decide) (kk hC' hM' hI')
def Ag_of (Inv : pq_H → pq_H → Prop) : Prop := ∀ (hC hM : pq_H) (p1 p2 : Int32), Inv hC hM → ag Inv (f_X10_of p1 p2 hC) (f_X11_of p1 p2 hM)
set_option maxRecDepth 20000 in
theorem lc_6 (hx : LX X b Ln xs) {gC gM : pq_g} {AC AM : Nat → Prop} (hc : LC X gC gM AC AM) (i : Nat) (hi : i + 5 ≤ Ln) (hN : Ln ≤ 2560) (hkn : k ≤ 600000 ∧ n ≤ 7302250) {Inv : pq_H → pq_H → Prop} (a0 : Ag_of Inv) (kk : LE X gC gM b k n Inv i) {hC hM : pq_H} (hI : Inv hC hM) : LW X (SC gC) (SM gM) k n 340 (lL b (gM.1 0) (gC.1 55) i) [] hC hM := by
  obtain ⟨r, hC', hM', e1, e2, hI'⟩ := a0 hC hM (xs (i + 1)) (xs (i + 2)) hI
  refine l_aload hx dL_law_340 rfl 2 rfl ?_
  refine l_arg hx i 1 hi hN (by decide) rfl dL_law_341 dL_law_342 dL_law_343 dL_law_344 dL_law_345 ?_
  refine l_arg hx i 2 hi hN (by decide) rfl dL_law_346 dL_law_347 dL_law_348 dL_law_349 dL_law_350 ?_
  refine l_call hx hc.1 hc.2.2.1 [.int (xs (i + 1)), .int (xs (i + 2))] [] (oC_55 gC) lb_X10_of lv_L_40 (c_X10_of gC hc.1.2.2.1 X.1.2.1 (xs (i + 1)) (xs (i + 2)) hC e1) dL_law_351 rfl rfl (Nat.le_of_ble_eq_true rfl) (by decide) (by decide) hkn ?_
  refine l_aload hx dL_law_354 rfl 1 rfl ?_
  refine l_arg hx i 1 hi hN (by decide) rfl dL_law_355 dL_law_356 dL_law_357 dL_law_358 dL_law_359 ?_
  refine l_arg hx i 2 hi hN (by decide) rfl dL_law_360 dL_law_361 dL_law_362 dL_law_363 dL_law_364 ?_
  refine LW.swap ?_
  refine l_call hx hc.2.1 hc.2.2.2 [.int (xs (i + 1)), .int (xs (i + 2))] [.int r] (oM_0 gM) lb_X11_of lv_L_44 (c_X11_of gM hc.2.1.2.2.1 X.1.2.1 (xs (i + 1)) (xs (i + 2)) hM e2) dL_law_365 rfl rfl (Nat.le_of_ble_eq_true rfl) (by decide) (by decide) hkn ?_
  refine LW.swap ?_
  exact l_ieq hx dL_law_368 (by decide) (kk hC' hM' hI')
def Ag_taken (Inv : pq_H → pq_H → Prop) : Prop := ∀ (hC hM : pq_H) (p1 p2 : Int32), Inv hC hM → ag Inv (f_X10_taken p1 p2 hC) (f_X11_taken p1 p2 hM)
set_option maxRecDepth 20000 in
theorem lc_7 (hx : LX X b Ln xs) {gC gM : pq_g} {AC AM : Nat → Prop} (hc : LC X gC gM AC AM) (i : Nat) (hi : i + 5 ≤ Ln) (hN : Ln ≤ 2560) (hkn : k ≤ 600000 ∧ n ≤ 7302250) {Inv : pq_H → pq_H → Prop} (a0 : Ag_taken Inv) (kk : LE X gC gM b k n Inv i) {hC hM : pq_H} (hI : Inv hC hM) : LW X (SC gC) (SM gM) k n 373 (lL b (gM.1 0) (gC.1 55) i) [] hC hM := by
  obtain ⟨r, hC', hM', e1, e2, hI'⟩ := a0 hC hM (xs (i + 1)) (xs (i + 2)) hI
  refine l_aload hx dL_law_373 rfl 2 rfl ?_
  refine l_arg hx i 1 hi hN (by decide) rfl dL_law_374 dL_law_375 dL_law_376 dL_law_377 dL_law_378 ?_
  refine l_arg hx i 2 hi hN (by decide) rfl dL_law_379 dL_law_380 dL_law_381 dL_law_382 dL_law_383 ?_
  refine l_call hx hc.1 hc.2.2.1 [.int (xs (i + 1)), .int (xs (i + 2))] [] (oC_55 gC) lb_X10_taken lv_L_45 (c_X10_taken gC hc.1.2.2.1 X.1.2.1 (xs (i + 1)) (xs (i + 2)) hC e1) dL_law_384 rfl rfl (Nat.le_of_ble_eq_true rfl) (by decide) (by decide) hkn ?_
  refine l_aload hx dL_law_387 rfl 1 rfl ?_
  refine l_arg hx i 1 hi hN (by decide) rfl dL_law_388 dL_law_389 dL_law_390 dL_law_391 dL_law_392 ?_
  refine l_arg hx i 2 hi hN (by decide) rfl dL_law_393 dL_law_394 dL_law_395 dL_law_396 dL_law_397 ?_
  refine LW.swap ?_
  refine l_call hx hc.2.1 hc.2.2.2 [.int (xs (i + 1)), .int (xs (i + 2))] [.int r] (oM_0 gM) lb_X11_taken lv_L_48 (c_X11_taken gM hc.2.1.2.2.1 X.1.2.1 (xs (i + 1)) (xs (i + 2)) hM e2) dL_law_398 rfl rfl (Nat.le_of_ble_eq_true rfl) (by decide) (by decide) hkn ?_
  refine LW.swap ?_
  exact l_ieq hx dL_law_401 (by decide) (kk hC' hM' hI')
def Ag_coefficient (Inv : pq_H → pq_H → Prop) : Prop := ∀ (hC hM : pq_H) (p1 p2 : Int32), Inv hC hM → ag Inv (f_X10_coefficient p1 p2 hC) (f_X11_coefficient p1 p2 hM)
set_option maxRecDepth 20000 in
theorem lc_8 (hx : LX X b Ln xs) {gC gM : pq_g} {AC AM : Nat → Prop} (hc : LC X gC gM AC AM) (i : Nat) (hi : i + 5 ≤ Ln) (hN : Ln ≤ 2560) (hkn : k ≤ 600000 ∧ n ≤ 7302250) {Inv : pq_H → pq_H → Prop} (a0 : Ag_coefficient Inv) (kk : LE X gC gM b k n Inv i) {hC hM : pq_H} (hI : Inv hC hM) : LW X (SC gC) (SM gM) k n 406 (lL b (gM.1 0) (gC.1 55) i) [] hC hM := by
  obtain ⟨r, hC', hM', e1, e2, hI'⟩ := a0 hC hM (xs (i + 1)) (xs (i + 2)) hI
  refine l_aload hx dL_law_406 rfl 2 rfl ?_
  refine l_arg hx i 1 hi hN (by decide) rfl dL_law_407 dL_law_408 dL_law_409 dL_law_410 dL_law_411 ?_
  refine l_arg hx i 2 hi hN (by decide) rfl dL_law_412 dL_law_413 dL_law_414 dL_law_415 dL_law_416 ?_
  refine l_call hx hc.1 hc.2.2.1 [.int (xs (i + 1)), .int (xs (i + 2))] [] (oC_55 gC) lb_X10_coefficient lv_L_49 (c_X10_coefficient gC hc.1.2.2.1 X.1.2.1 (xs (i + 1)) (xs (i + 2)) hC e1) dL_law_417 rfl rfl (Nat.le_of_ble_eq_true rfl) (by decide) (by decide) hkn ?_
  refine l_aload hx dL_law_420 rfl 1 rfl ?_
  refine l_arg hx i 1 hi hN (by decide) rfl dL_law_421 dL_law_422 dL_law_423 dL_law_424 dL_law_425 ?_
  refine l_arg hx i 2 hi hN (by decide) rfl dL_law_426 dL_law_427 dL_law_428 dL_law_429 dL_law_430 ?_
  refine LW.swap ?_
  refine l_call hx hc.2.1 hc.2.2.2 [.int (xs (i + 1)), .int (xs (i + 2))] [.int r] (oM_0 gM) lb_X11_coefficient lv_L_52 (c_X11_coefficient gM hc.2.1.2.2.1 X.1.2.1 (xs (i + 1)) (xs (i + 2)) hM e2) dL_law_431 rfl rfl (Nat.le_of_ble_eq_true rfl) (by decide) (by decide) hkn ?_
  refine LW.swap ?_
  exact l_ieq hx dL_law_434 (by decide) (kk hC' hM' hI')
def Ag_value (Inv : pq_H → pq_H → Prop) : Prop := ∀ (hC hM : pq_H) (p1 p2 p3 p4 : Int32), Inv hC hM → ag Inv (f_X10_value p1 p2 p3 p4 hC) (f_X11_value p1 p2 p3 p4 hM)
set_option maxRecDepth 20000 in
theorem lc_9 (hx : LX X b Ln xs) {gC gM : pq_g} {AC AM : Nat → Prop} (hc : LC X gC gM AC AM) (i : Nat) (hi : i + 5 ≤ Ln) (hN : Ln ≤ 2560) (hkn : k ≤ 600000 ∧ n ≤ 7302250) {Inv : pq_H → pq_H → Prop} (a0 : Ag_value Inv) (kk : LE X gC gM b k n Inv i) {hC hM : pq_H} (hI : Inv hC hM) : LW X (SC gC) (SM gM) k n 439 (lL b (gM.1 0) (gC.1 55) i) [] hC hM := by
  obtain ⟨r, hC', hM', e1, e2, hI'⟩ := a0 hC hM (xs (i + 1)) (xs (i + 2)) (xs (i + 3)) (xs (i + 4)) hI
  refine l_aload hx dL_law_439 rfl 2 rfl ?_
  refine l_arg hx i 1 hi hN (by decide) rfl dL_law_440 dL_law_441 dL_law_442 dL_law_443 dL_law_444 ?_
  refine l_arg hx i 2 hi hN (by decide) rfl dL_law_445 dL_law_446 dL_law_447 dL_law_448 dL_law_449 ?_
  refine l_arg hx i 3 hi hN (by decide) rfl dL_law_450 dL_law_451 dL_law_452 dL_law_453 dL_law_454 ?_
  refine l_arg hx i 4 hi hN (by decide) rfl dL_law_455 dL_law_456 dL_law_457 dL_law_458 dL_law_459 ?_
  refine l_call hx hc.1 hc.2.2.1 [.int (xs (i + 1)), .int (xs (i + 2)), .int (xs (i + 3)), .int (xs (i + 4))] [] (oC_55 gC) lb_X10_value lv_L_53 (c_X10_value gC hc.1.2.2.1 X.1.2.1 (xs (i + 1)) (xs (i + 2)) (xs (i + 3)) (xs (i + 4)) hC e1) dL_law_460 rfl rfl (Nat.le_of_ble_eq_true rfl) (by decide) (by decide) hkn ?_
  refine l_aload hx dL_law_463 rfl 1 rfl ?_
  refine l_arg hx i 1 hi hN (by decide) rfl dL_law_464 dL_law_465 dL_law_466 dL_law_467 dL_law_468 ?_
  refine l_arg hx i 2 hi hN (by decide) rfl dL_law_469 dL_law_470 dL_law_471 dL_law_472 dL_law_473 ?_
  refine l_arg hx i 3 hi hN (by decide) rfl dL_law_474 dL_law_475 dL_law_476 dL_law_477 dL_law_478 ?_
  refine l_arg hx i 4 hi hN (by decide) rfl dL_law_479 dL_law_480 dL_law_481 dL_law_482 dL_law_483 ?_
  refine LW.swap ?_
  refine l_call hx hc.2.1 hc.2.2.2 [.int (xs (i + 1)), .int (xs (i + 2)), .int (xs (i + 3)), .int (xs (i + 4))] [.long r] (oM_0 gM) lb_X11_value lv_L_57 (c_X11_value gM hc.2.1.2.2.1 X.1.2.1 (xs (i + 1)) (xs (i + 2)) (xs (i + 3)) (xs (i + 4)) hM e2) dL_law_484 rfl rfl (Nat.le_of_ble_eq_true rfl) (by decide) (by decide) hkn ?_
  refine LW.swap ?_
  exact l_leq hx dL_law_487 dL_law_488 (by decide) (kk hC' hM' hI')
def Ag_lifted (Inv : pq_H → pq_H → Prop) : Prop := ∀ (hC hM : pq_H) (p1 p2 p3 p4 : Int32), Inv hC hM → ag Inv (f_X10_lifted p1 p2 p3 p4 hC) (f_X11_lifted p1 p2 p3 p4 hM)
set_option maxRecDepth 20000 in
theorem lc_10 (hx : LX X b Ln xs) {gC gM : pq_g} {AC AM : Nat → Prop} (hc : LC X gC gM AC AM) (i : Nat) (hi : i + 5 ≤ Ln) (hN : Ln ≤ 2560) (hkn : k ≤ 600000 ∧ n ≤ 7302250) {Inv : pq_H → pq_H → Prop} (a0 : Ag_lifted Inv) (kk : LE X gC gM b k n Inv i) {hC hM : pq_H} (hI : Inv hC hM) : LW X (SC gC) (SM gM) k n 493 (lL b (gM.1 0) (gC.1 55) i) [] hC hM := by
  obtain ⟨r, hC', hM', e1, e2, hI'⟩ := a0 hC hM (xs (i + 1)) (xs (i + 2)) (xs (i + 3)) (xs (i + 4)) hI
  refine l_aload hx dL_law_493 rfl 2 rfl ?_
  refine l_arg hx i 1 hi hN (by decide) rfl dL_law_494 dL_law_495 dL_law_496 dL_law_497 dL_law_498 ?_
  refine l_arg hx i 2 hi hN (by decide) rfl dL_law_499 dL_law_500 dL_law_501 dL_law_502 dL_law_503 ?_
  refine l_arg hx i 3 hi hN (by decide) rfl dL_law_504 dL_law_505 dL_law_506 dL_law_507 dL_law_508 ?_
  refine l_arg hx i 4 hi hN (by decide) rfl dL_law_509 dL_law_510 dL_law_511 dL_law_512 dL_law_513 ?_
  refine l_call hx hc.1 hc.2.2.1 [.int (xs (i + 1)), .int (xs (i + 2)), .int (xs (i + 3)), .int (xs (i + 4))] [] (oC_55 gC) lb_X10_lifted lv_L_58 (c_X10_lifted gC hc.1.2.2.1 X.1.2.1 (xs (i + 1)) (xs (i + 2)) (xs (i + 3)) (xs (i + 4)) hC e1) dL_law_514 rfl rfl (Nat.le_of_ble_eq_true rfl) (by decide) (by decide) hkn ?_
  refine l_aload hx dL_law_517 rfl 1 rfl ?_
  refine l_arg hx i 1 hi hN (by decide) rfl dL_law_518 dL_law_519 dL_law_520 dL_law_521 dL_law_522 ?_
  refine l_arg hx i 2 hi hN (by decide) rfl dL_law_523 dL_law_524 dL_law_525 dL_law_526 dL_law_527 ?_
  refine l_arg hx i 3 hi hN (by decide) rfl dL_law_528 dL_law_529 dL_law_530 dL_law_531 dL_law_532 ?_
  refine l_arg hx i 4 hi hN (by decide) rfl dL_law_533 dL_law_534 dL_law_535 dL_law_536 dL_law_537 ?_
  refine LW.swap ?_
  refine l_call hx hc.2.1 hc.2.2.2 [.int (xs (i + 1)), .int (xs (i + 2)), .int (xs (i + 3)), .int (xs (i + 4))] [.long r] (oM_0 gM) lb_X11_lifted lv_L_61 (c_X11_lifted gM hc.2.1.2.2.1 X.1.2.1 (xs (i + 1)) (xs (i + 2)) (xs (i + 3)) (xs (i + 4)) hM e2) dL_law_538 rfl rfl (Nat.le_of_ble_eq_true rfl) (by decide) (by decide) hkn ?_
  refine LW.swap ?_
  exact l_leq hx dL_law_541 dL_law_542 (by decide) (kk hC' hM' hI')
def Ag_fault (Inv : pq_H → pq_H → Prop) : Prop := ∀ (hC hM : pq_H) (p1 p2 p3 p4 : Int32), Inv hC hM → ag Inv (f_X10_fault p1 p2 p3 p4 hC) (f_X11_fault p1 p2 p3 p4 hM)
set_option maxRecDepth 20000 in
theorem lc_11 (hx : LX X b Ln xs) {gC gM : pq_g} {AC AM : Nat → Prop} (hc : LC X gC gM AC AM) (i : Nat) (hi : i + 5 ≤ Ln) (hN : Ln ≤ 2560) (hkn : k ≤ 600000 ∧ n ≤ 7302250) {Inv : pq_H → pq_H → Prop} (a0 : Ag_fault Inv) (kk : LE X gC gM b k n Inv i) {hC hM : pq_H} (hI : Inv hC hM) : LW X (SC gC) (SM gM) k n 547 (lL b (gM.1 0) (gC.1 55) i) [] hC hM := by
  obtain ⟨r, hC', hM', e1, e2, hI'⟩ := a0 hC hM (xs (i + 1)) (xs (i + 2)) (xs (i + 3)) (xs (i + 4)) hI
  refine l_aload hx dL_law_547 rfl 2 rfl ?_
  refine l_arg hx i 1 hi hN (by decide) rfl dL_law_548 dL_law_549 dL_law_550 dL_law_551 dL_law_552 ?_
  refine l_arg hx i 2 hi hN (by decide) rfl dL_law_553 dL_law_554 dL_law_555 dL_law_556 dL_law_557 ?_
  refine l_arg hx i 3 hi hN (by decide) rfl dL_law_558 dL_law_559 dL_law_560 dL_law_561 dL_law_562 ?_
  refine l_arg hx i 4 hi hN (by decide) rfl dL_law_563 dL_law_564 dL_law_565 dL_law_566 dL_law_567 ?_
  refine l_call hx hc.1 hc.2.2.1 [.int (xs (i + 1)), .int (xs (i + 2)), .int (xs (i + 3)), .int (xs (i + 4))] [] (oC_55 gC) lb_X10_fault lv_L_62 (c_X10_fault gC hc.1.2.2.1 X.1.2.1 (xs (i + 1)) (xs (i + 2)) (xs (i + 3)) (xs (i + 4)) hC e1) dL_law_568 rfl rfl (Nat.le_of_ble_eq_true rfl) (by decide) (by decide) hkn ?_
  refine l_aload hx dL_law_571 rfl 1 rfl ?_
  refine l_arg hx i 1 hi hN (by decide) rfl dL_law_572 dL_law_573 dL_law_574 dL_law_575 dL_law_576 ?_
  refine l_arg hx i 2 hi hN (by decide) rfl dL_law_577 dL_law_578 dL_law_579 dL_law_580 dL_law_581 ?_
  refine l_arg hx i 3 hi hN (by decide) rfl dL_law_582 dL_law_583 dL_law_584 dL_law_585 dL_law_586 ?_
  refine l_arg hx i 4 hi hN (by decide) rfl dL_law_587 dL_law_588 dL_law_589 dL_law_590 dL_law_591 ?_
  refine LW.swap ?_
  refine l_call hx hc.2.1 hc.2.2.2 [.int (xs (i + 1)), .int (xs (i + 2)), .int (xs (i + 3)), .int (xs (i + 4))] [.int r] (oM_0 gM) lb_X11_fault lv_L_66 (c_X11_fault gM hc.2.1.2.2.1 X.1.2.1 (xs (i + 1)) (xs (i + 2)) (xs (i + 3)) (xs (i + 4)) hM e2) dL_law_592 rfl rfl (Nat.le_of_ble_eq_true rfl) (by decide) (by decide) hkn ?_
  refine LW.swap ?_
  exact l_ieq hx dL_law_595 (by decide) (kk hC' hM' hI')
def Ag_least (Inv : pq_H → pq_H → Prop) : Prop := ∀ (hC hM : pq_H) (p1 p2 p3 : Int32), Inv hC hM → ag Inv (f_X10_least p1 p2 p3 hC) (f_X11_least p1 p2 p3 hM)
set_option maxRecDepth 20000 in
theorem lc_12 (hx : LX X b Ln xs) {gC gM : pq_g} {AC AM : Nat → Prop} (hc : LC X gC gM AC AM) (i : Nat) (hi : i + 5 ≤ Ln) (hN : Ln ≤ 2560) (hkn : k ≤ 600000 ∧ n ≤ 7302250) {Inv : pq_H → pq_H → Prop} (a0 : Ag_least Inv) (kk : LE X gC gM b k n Inv i) {hC hM : pq_H} (hI : Inv hC hM) : LW X (SC gC) (SM gM) k n 600 (lL b (gM.1 0) (gC.1 55) i) [] hC hM := by
  obtain ⟨r, hC', hM', e1, e2, hI'⟩ := a0 hC hM (xs (i + 1)) (xs (i + 2)) (xs (i + 3)) hI
  refine l_aload hx dL_law_600 rfl 2 rfl ?_
  refine l_arg hx i 1 hi hN (by decide) rfl dL_law_601 dL_law_602 dL_law_603 dL_law_604 dL_law_605 ?_
  refine l_arg hx i 2 hi hN (by decide) rfl dL_law_606 dL_law_607 dL_law_608 dL_law_609 dL_law_610 ?_
  refine l_arg hx i 3 hi hN (by decide) rfl dL_law_611 dL_law_612 dL_law_613 dL_law_614 dL_law_615 ?_
  refine l_call hx hc.1 hc.2.2.1 [.int (xs (i + 1)), .int (xs (i + 2)), .int (xs (i + 3))] [] (oC_55 gC) lb_X10_least lv_L_67 (c_X10_least gC hc.1.2.2.1 X.1.2.1 (xs (i + 1)) (xs (i + 2)) (xs (i + 3)) hC e1) dL_law_616 rfl rfl (Nat.le_of_ble_eq_true rfl) (by decide) (by decide) hkn ?_
  refine l_aload hx dL_law_619 rfl 1 rfl ?_
  refine l_arg hx i 1 hi hN (by decide) rfl dL_law_620 dL_law_621 dL_law_622 dL_law_623 dL_law_624 ?_
  refine l_arg hx i 2 hi hN (by decide) rfl dL_law_625 dL_law_626 dL_law_627 dL_law_628 dL_law_629 ?_
  refine l_arg hx i 3 hi hN (by decide) rfl dL_law_630 dL_law_631 dL_law_632 dL_law_633 dL_law_634 ?_
  refine LW.swap ?_
  refine l_call hx hc.2.1 hc.2.2.2 [.int (xs (i + 1)), .int (xs (i + 2)), .int (xs (i + 3))] [.int r] (oM_0 gM) lb_X11_least lv_L_70 (c_X11_least gM hc.2.1.2.2.1 X.1.2.1 (xs (i + 1)) (xs (i + 2)) (xs (i + 3)) hM e2) dL_law_635 rfl rfl (Nat.le_of_ble_eq_true rfl) (by decide) (by decide) hkn ?_
  refine LW.swap ?_
  exact l_ieq hx dL_law_638 (by decide) (kk hC' hM' hI')
def Ag_failing (Inv : pq_H → pq_H → Prop) : Prop := ∀ (hC hM : pq_H) (p1 p2 p3 p4 : Int32), Inv hC hM → ag Inv (f_X10_failing p1 p2 p3 p4 hC) (f_X11_failing p1 p2 p3 p4 hM)
set_option maxRecDepth 20000 in
theorem lc_13 (hx : LX X b Ln xs) {gC gM : pq_g} {AC AM : Nat → Prop} (hc : LC X gC gM AC AM) (i : Nat) (hi : i + 5 ≤ Ln) (hN : Ln ≤ 2560) (hkn : k ≤ 600000 ∧ n ≤ 7302250) {Inv : pq_H → pq_H → Prop} (a0 : Ag_failing Inv) (kk : LE X gC gM b k n Inv i) {hC hM : pq_H} (hI : Inv hC hM) : LW X (SC gC) (SM gM) k n 643 (lL b (gM.1 0) (gC.1 55) i) [] hC hM := by
  obtain ⟨r, hC', hM', e1, e2, hI'⟩ := a0 hC hM (xs (i + 1)) (xs (i + 2)) (xs (i + 3)) (xs (i + 4)) hI
  refine l_aload hx dL_law_643 rfl 2 rfl ?_
  refine l_arg hx i 1 hi hN (by decide) rfl dL_law_644 dL_law_645 dL_law_646 dL_law_647 dL_law_648 ?_
  refine l_arg hx i 2 hi hN (by decide) rfl dL_law_649 dL_law_650 dL_law_651 dL_law_652 dL_law_653 ?_
  refine l_arg hx i 3 hi hN (by decide) rfl dL_law_654 dL_law_655 dL_law_656 dL_law_657 dL_law_658 ?_
  refine l_arg hx i 4 hi hN (by decide) rfl dL_law_659 dL_law_660 dL_law_661 dL_law_662 dL_law_663 ?_
  refine l_call hx hc.1 hc.2.2.1 [.int (xs (i + 1)), .int (xs (i + 2)), .int (xs (i + 3)), .int (xs (i + 4))] [] (oC_55 gC) lb_X10_failing lv_L_71 (c_X10_failing gC hc.1.2.2.1 X.1.2.1 (xs (i + 1)) (xs (i + 2)) (xs (i + 3)) (xs (i + 4)) hC e1) dL_law_664 rfl rfl (Nat.le_of_ble_eq_true rfl) (by decide) (by decide) hkn ?_
  refine l_aload hx dL_law_667 rfl 1 rfl ?_
  refine l_arg hx i 1 hi hN (by decide) rfl dL_law_668 dL_law_669 dL_law_670 dL_law_671 dL_law_672 ?_
  refine l_arg hx i 2 hi hN (by decide) rfl dL_law_673 dL_law_674 dL_law_675 dL_law_676 dL_law_677 ?_
  refine l_arg hx i 3 hi hN (by decide) rfl dL_law_678 dL_law_679 dL_law_680 dL_law_681 dL_law_682 ?_
  refine l_arg hx i 4 hi hN (by decide) rfl dL_law_683 dL_law_684 dL_law_685 dL_law_686 dL_law_687 ?_
  refine LW.swap ?_
  refine l_call hx hc.2.1 hc.2.2.2 [.int (xs (i + 1)), .int (xs (i + 2)), .int (xs (i + 3)), .int (xs (i + 4))] [.int r] (oM_0 gM) lb_X11_failing lv_L_74 (c_X11_failing gM hc.2.1.2.2.1 X.1.2.1 (xs (i + 1)) (xs (i + 2)) (xs (i + 3)) (xs (i + 4)) hM e2) dL_law_688 rfl rfl (Nat.le_of_ble_eq_true rfl) (by decide) (by decide) hkn ?_
  refine LW.swap ?_
  exact l_ieq hx dL_law_691 (by decide) (kk hC' hM' hI')
def Ag_lowest (Inv : pq_H → pq_H → Prop) : Prop := ∀ (hC hM : pq_H) (p1 p2 p3 p4 : Int32), Inv hC hM → ag Inv (f_X10_lowest p1 p2 p3 p4 hC) (f_X11_lowest p1 p2 p3 p4 hM)
set_option maxRecDepth 20000 in
theorem lc_14 (hx : LX X b Ln xs) {gC gM : pq_g} {AC AM : Nat → Prop} (hc : LC X gC gM AC AM) (i : Nat) (hi : i + 5 ≤ Ln) (hN : Ln ≤ 2560) (hkn : k ≤ 600000 ∧ n ≤ 7302250) {Inv : pq_H → pq_H → Prop} (a0 : Ag_lowest Inv) (kk : LE X gC gM b k n Inv i) {hC hM : pq_H} (hI : Inv hC hM) : LW X (SC gC) (SM gM) k n 696 (lL b (gM.1 0) (gC.1 55) i) [] hC hM := by
  obtain ⟨r, hC', hM', e1, e2, hI'⟩ := a0 hC hM (xs (i + 1)) (xs (i + 2)) (xs (i + 3)) (xs (i + 4)) hI
  refine l_aload hx dL_law_696 rfl 2 rfl ?_
  refine l_arg hx i 1 hi hN (by decide) rfl dL_law_697 dL_law_698 dL_law_699 dL_law_700 dL_law_701 ?_
  refine l_arg hx i 2 hi hN (by decide) rfl dL_law_702 dL_law_703 dL_law_704 dL_law_705 dL_law_706 ?_
  refine l_arg hx i 3 hi hN (by decide) rfl dL_law_707 dL_law_708 dL_law_709 dL_law_710 dL_law_711 ?_
  refine l_arg hx i 4 hi hN (by decide) rfl dL_law_712 dL_law_713 dL_law_714 dL_law_715 dL_law_716 ?_
  refine l_call hx hc.1 hc.2.2.1 [.int (xs (i + 1)), .int (xs (i + 2)), .int (xs (i + 3)), .int (xs (i + 4))] [] (oC_55 gC) lb_X10_lowest lv_L_75 (c_X10_lowest gC hc.1.2.2.1 X.1.2.1 (xs (i + 1)) (xs (i + 2)) (xs (i + 3)) (xs (i + 4)) hC e1) dL_law_717 rfl rfl (Nat.le_of_ble_eq_true rfl) (by decide) (by decide) hkn ?_
  refine l_aload hx dL_law_720 rfl 1 rfl ?_
  refine l_arg hx i 1 hi hN (by decide) rfl dL_law_721 dL_law_722 dL_law_723 dL_law_724 dL_law_725 ?_
  refine l_arg hx i 2 hi hN (by decide) rfl dL_law_726 dL_law_727 dL_law_728 dL_law_729 dL_law_730 ?_
  refine l_arg hx i 3 hi hN (by decide) rfl dL_law_731 dL_law_732 dL_law_733 dL_law_734 dL_law_735 ?_
  refine l_arg hx i 4 hi hN (by decide) rfl dL_law_736 dL_law_737 dL_law_738 dL_law_739 dL_law_740 ?_
  refine LW.swap ?_
  refine l_call hx hc.2.1 hc.2.2.2 [.int (xs (i + 1)), .int (xs (i + 2)), .int (xs (i + 3)), .int (xs (i + 4))] [.long r] (oM_0 gM) lb_X11_lowest lv_L_78 (c_X11_lowest gM hc.2.1.2.2.1 X.1.2.1 (xs (i + 1)) (xs (i + 2)) (xs (i + 3)) (xs (i + 4)) hM e2) dL_law_741 rfl rfl (Nat.le_of_ble_eq_true rfl) (by decide) (by decide) hkn ?_
  refine LW.swap ?_
  exact l_leq hx dL_law_744 dL_law_745 (by decide) (kk hC' hM' hI')
def Ag_share (Inv : pq_H → pq_H → Prop) : Prop := ∀ (hC hM : pq_H) (p1 p2 p3 p4 : Int32), Inv hC hM → ag Inv (f_X10_share p1 p2 p3 p4 hC) (f_X11_share p1 p2 p3 p4 hM)
set_option maxRecDepth 20000 in
theorem lc_15 (hx : LX X b Ln xs) {gC gM : pq_g} {AC AM : Nat → Prop} (hc : LC X gC gM AC AM) (i : Nat) (hi : i + 5 ≤ Ln) (hN : Ln ≤ 2560) (hkn : k ≤ 600000 ∧ n ≤ 7302250) {Inv : pq_H → pq_H → Prop} (a0 : Ag_share Inv) (kk : LE X gC gM b k n Inv i) {hC hM : pq_H} (hI : Inv hC hM) : LW X (SC gC) (SM gM) k n 750 (lL b (gM.1 0) (gC.1 55) i) [] hC hM := by
  obtain ⟨r, hC', hM', e1, e2, hI'⟩ := a0 hC hM (xs (i + 1)) (xs (i + 2)) (xs (i + 3)) (xs (i + 4)) hI
  refine l_aload hx dL_law_750 rfl 2 rfl ?_
  refine l_arg hx i 1 hi hN (by decide) rfl dL_law_751 dL_law_752 dL_law_753 dL_law_754 dL_law_755 ?_
  refine l_arg hx i 2 hi hN (by decide) rfl dL_law_756 dL_law_757 dL_law_758 dL_law_759 dL_law_760 ?_
  refine l_arg hx i 3 hi hN (by decide) rfl dL_law_761 dL_law_762 dL_law_763 dL_law_764 dL_law_765 ?_
  refine l_arg hx i 4 hi hN (by decide) rfl dL_law_766 dL_law_767 dL_law_768 dL_law_769 dL_law_770 ?_
  refine l_call hx hc.1 hc.2.2.1 [.int (xs (i + 1)), .int (xs (i + 2)), .int (xs (i + 3)), .int (xs (i + 4))] [] (oC_55 gC) lb_X10_share lv_L_79 (c_X10_share gC hc.1.2.2.1 X.1.2.1 (xs (i + 1)) (xs (i + 2)) (xs (i + 3)) (xs (i + 4)) hC e1) dL_law_771 rfl rfl (Nat.le_of_ble_eq_true rfl) (by decide) (by decide) hkn ?_
  refine l_aload hx dL_law_774 rfl 1 rfl ?_
  refine l_arg hx i 1 hi hN (by decide) rfl dL_law_775 dL_law_776 dL_law_777 dL_law_778 dL_law_779 ?_
  refine l_arg hx i 2 hi hN (by decide) rfl dL_law_780 dL_law_781 dL_law_782 dL_law_783 dL_law_784 ?_
  refine l_arg hx i 3 hi hN (by decide) rfl dL_law_785 dL_law_786 dL_law_787 dL_law_788 dL_law_789 ?_
  refine l_arg hx i 4 hi hN (by decide) rfl dL_law_790 dL_law_791 dL_law_792 dL_law_793 dL_law_794 ?_
  refine LW.swap ?_
  refine l_call hx hc.2.1 hc.2.2.2 [.int (xs (i + 1)), .int (xs (i + 2)), .int (xs (i + 3)), .int (xs (i + 4))] [.long r] (oM_0 gM) lb_X11_share lv_L_82 (c_X11_share gM hc.2.1.2.2.1 X.1.2.1 (xs (i + 1)) (xs (i + 2)) (xs (i + 3)) (xs (i + 4)) hM e2) dL_law_795 rfl rfl (Nat.le_of_ble_eq_true rfl) (by decide) (by decide) hkn ?_
  refine LW.swap ?_
  exact l_leq hx dL_law_798 dL_law_799 (by decide) (kk hC' hM' hI')
def Ag_proof (Inv : pq_H → pq_H → Prop) : Prop := ∀ (hC hM : pq_H) (p1 p2 : Int32), Inv hC hM → ag Inv (f_X10_proof p1 p2 hC) (f_X11_proof p1 p2 hM)
set_option maxRecDepth 20000 in
theorem lc_16 (hx : LX X b Ln xs) {gC gM : pq_g} {AC AM : Nat → Prop} (hc : LC X gC gM AC AM) (i : Nat) (hi : i + 5 ≤ Ln) (hN : Ln ≤ 2560) (hkn : k ≤ 600000 ∧ n ≤ 7302250) {Inv : pq_H → pq_H → Prop} (a0 : Ag_proof Inv) (kk : LE X gC gM b k n Inv i) {hC hM : pq_H} (hI : Inv hC hM) : LW X (SC gC) (SM gM) k n 804 (lL b (gM.1 0) (gC.1 55) i) [] hC hM := by
  obtain ⟨r, hC', hM', e1, e2, hI'⟩ := a0 hC hM (xs (i + 1)) (xs (i + 2)) hI
  refine l_aload hx dL_law_804 rfl 2 rfl ?_
  refine l_arg hx i 1 hi hN (by decide) rfl dL_law_805 dL_law_806 dL_law_807 dL_law_808 dL_law_809 ?_
  refine l_arg hx i 2 hi hN (by decide) rfl dL_law_810 dL_law_811 dL_law_812 dL_law_813 dL_law_814 ?_
  refine l_call hx hc.1 hc.2.2.1 [.int (xs (i + 1)), .int (xs (i + 2))] [] (oC_55 gC) lb_X10_proof lv_L_83 (c_X10_proof gC hc.1.2.2.1 X.1.2.1 (xs (i + 1)) (xs (i + 2)) hC e1) dL_law_815 rfl rfl (Nat.le_of_ble_eq_true rfl) (by decide) (by decide) hkn ?_
  refine l_aload hx dL_law_818 rfl 1 rfl ?_
  refine l_arg hx i 1 hi hN (by decide) rfl dL_law_819 dL_law_820 dL_law_821 dL_law_822 dL_law_823 ?_
  refine l_arg hx i 2 hi hN (by decide) rfl dL_law_824 dL_law_825 dL_law_826 dL_law_827 dL_law_828 ?_
  refine LW.swap ?_
  refine l_call hx hc.2.1 hc.2.2.2 [.int (xs (i + 1)), .int (xs (i + 2))] [.int r] (oM_0 gM) lb_X11_proof lv_L_86 (c_X11_proof gM hc.2.1.2.2.1 X.1.2.1 (xs (i + 1)) (xs (i + 2)) hM e2) dL_law_829 rfl rfl (Nat.le_of_ble_eq_true rfl) (by decide) (by decide) hkn ?_
  refine LW.swap ?_
  exact l_ieq hx dL_law_832 (by decide) (kk hC' hM' hI')
def Ag_walls (Inv : pq_H → pq_H → Prop) : Prop := ∀ (hC hM : pq_H) (p1 p2 p3 : Int32), Inv hC hM → ag Inv (f_X10_walls p1 p2 p3 hC) (f_X11_walls p1 p2 p3 hM)
set_option maxRecDepth 20000 in
theorem lc_17 (hx : LX X b Ln xs) {gC gM : pq_g} {AC AM : Nat → Prop} (hc : LC X gC gM AC AM) (i : Nat) (hi : i + 5 ≤ Ln) (hN : Ln ≤ 2560) (hkn : k ≤ 600000 ∧ n ≤ 7302250) {Inv : pq_H → pq_H → Prop} (a0 : Ag_walls Inv) (kk : LE X gC gM b k n Inv i) {hC hM : pq_H} (hI : Inv hC hM) : LW X (SC gC) (SM gM) k n 837 (lL b (gM.1 0) (gC.1 55) i) [] hC hM := by
  obtain ⟨r, hC', hM', e1, e2, hI'⟩ := a0 hC hM (xs (i + 1)) (xs (i + 2)) (xs (i + 3)) hI
  refine l_aload hx dL_law_837 rfl 2 rfl ?_
  refine l_arg hx i 1 hi hN (by decide) rfl dL_law_838 dL_law_839 dL_law_840 dL_law_841 dL_law_842 ?_
  refine l_arg hx i 2 hi hN (by decide) rfl dL_law_843 dL_law_844 dL_law_845 dL_law_846 dL_law_847 ?_
  refine l_arg hx i 3 hi hN (by decide) rfl dL_law_848 dL_law_849 dL_law_850 dL_law_851 dL_law_852 ?_
  refine l_call hx hc.1 hc.2.2.1 [.int (xs (i + 1)), .int (xs (i + 2)), .int (xs (i + 3))] [] (oC_55 gC) lb_X10_walls lv_L_87 (c_X10_walls gC hc.1.2.2.1 X.1.2.1 (xs (i + 1)) (xs (i + 2)) (xs (i + 3)) hC e1) dL_law_853 rfl rfl (Nat.le_of_ble_eq_true rfl) (by decide) (by decide) hkn ?_
  refine l_aload hx dL_law_856 rfl 1 rfl ?_
  refine l_arg hx i 1 hi hN (by decide) rfl dL_law_857 dL_law_858 dL_law_859 dL_law_860 dL_law_861 ?_
  refine l_arg hx i 2 hi hN (by decide) rfl dL_law_862 dL_law_863 dL_law_864 dL_law_865 dL_law_866 ?_
  refine l_arg hx i 3 hi hN (by decide) rfl dL_law_867 dL_law_868 dL_law_869 dL_law_870 dL_law_871 ?_
  refine LW.swap ?_
  refine l_call hx hc.2.1 hc.2.2.2 [.int (xs (i + 1)), .int (xs (i + 2)), .int (xs (i + 3))] [.long r] (oM_0 gM) lb_X11_walls lv_L_91 (c_X11_walls gM hc.2.1.2.2.1 X.1.2.1 (xs (i + 1)) (xs (i + 2)) (xs (i + 3)) hM e2) dL_law_872 rfl rfl (Nat.le_of_ble_eq_true rfl) (by decide) (by decide) hkn ?_
  refine LW.swap ?_
  exact l_leq hx dL_law_875 dL_law_876 (by decide) (kk hC' hM' hI')
def Ag_wallsLeast (Inv : pq_H → pq_H → Prop) : Prop := ∀ (hC hM : pq_H) (p1 p2 : Int32), Inv hC hM → ag Inv (f_X10_wallsLeast p1 p2 hC) (f_X11_wallsLeast p1 p2 hM)
set_option maxRecDepth 20000 in
theorem lc_18 (hx : LX X b Ln xs) {gC gM : pq_g} {AC AM : Nat → Prop} (hc : LC X gC gM AC AM) (i : Nat) (hi : i + 5 ≤ Ln) (hN : Ln ≤ 2560) (hkn : k ≤ 600000 ∧ n ≤ 7302250) {Inv : pq_H → pq_H → Prop} (a0 : Ag_wallsLeast Inv) (kk : LE X gC gM b k n Inv i) {hC hM : pq_H} (hI : Inv hC hM) : LW X (SC gC) (SM gM) k n 881 (lL b (gM.1 0) (gC.1 55) i) [] hC hM := by
  obtain ⟨r, hC', hM', e1, e2, hI'⟩ := a0 hC hM (xs (i + 1)) (xs (i + 2)) hI
  refine l_aload hx dL_law_881 rfl 2 rfl ?_
  refine l_arg hx i 1 hi hN (by decide) rfl dL_law_882 dL_law_883 dL_law_884 dL_law_885 dL_law_886 ?_
  refine l_arg hx i 2 hi hN (by decide) rfl dL_law_887 dL_law_888 dL_law_889 dL_law_890 dL_law_891 ?_
  refine l_call hx hc.1 hc.2.2.1 [.int (xs (i + 1)), .int (xs (i + 2))] [] (oC_55 gC) lb_X10_wallsLeast lv_L_92 (c_X10_wallsLeast gC hc.1.2.2.1 X.1.2.1 (xs (i + 1)) (xs (i + 2)) hC e1) dL_law_892 rfl rfl (Nat.le_of_ble_eq_true rfl) (by decide) (by decide) hkn ?_
  refine l_aload hx dL_law_895 rfl 1 rfl ?_
  refine l_arg hx i 1 hi hN (by decide) rfl dL_law_896 dL_law_897 dL_law_898 dL_law_899 dL_law_900 ?_
  refine l_arg hx i 2 hi hN (by decide) rfl dL_law_901 dL_law_902 dL_law_903 dL_law_904 dL_law_905 ?_
  refine LW.swap ?_
  refine l_call hx hc.2.1 hc.2.2.2 [.int (xs (i + 1)), .int (xs (i + 2))] [.int r] (oM_0 gM) lb_X11_wallsLeast lv_L_95 (c_X11_wallsLeast gM hc.2.1.2.2.1 X.1.2.1 (xs (i + 1)) (xs (i + 2)) hM e2) dL_law_906 rfl rfl (Nat.le_of_ble_eq_true rfl) (by decide) (by decide) hkn ?_
  refine LW.swap ?_
  exact l_ieq hx dL_law_909 (by decide) (kk hC' hM' hI')
def Ag_made (Inv : pq_H → pq_H → Prop) : Prop := ∀ (hC hM : pq_H) (p1 p2 p3 p4 : Int32), Inv hC hM → ag Inv (f_X10_made p1 p2 p3 p4 hC) (f_X11_made p1 p2 p3 p4 hM)
set_option maxRecDepth 20000 in
theorem lc_19 (hx : LX X b Ln xs) {gC gM : pq_g} {AC AM : Nat → Prop} (hc : LC X gC gM AC AM) (i : Nat) (hi : i + 5 ≤ Ln) (hN : Ln ≤ 2560) (hkn : k ≤ 600000 ∧ n ≤ 7302250) {Inv : pq_H → pq_H → Prop} (a0 : Ag_made Inv) (kk : LE X gC gM b k n Inv i) {hC hM : pq_H} (hI : Inv hC hM) : LW X (SC gC) (SM gM) k n 914 (lL b (gM.1 0) (gC.1 55) i) [] hC hM := by
  obtain ⟨r, hC', hM', e1, e2, hI'⟩ := a0 hC hM (xs (i + 1)) (xs (i + 2)) (xs (i + 3)) (xs (i + 4)) hI
  refine l_aload hx dL_law_914 rfl 2 rfl ?_
  refine l_arg hx i 1 hi hN (by decide) rfl dL_law_915 dL_law_916 dL_law_917 dL_law_918 dL_law_919 ?_
  refine l_arg hx i 2 hi hN (by decide) rfl dL_law_920 dL_law_921 dL_law_922 dL_law_923 dL_law_924 ?_
  refine l_arg hx i 3 hi hN (by decide) rfl dL_law_925 dL_law_926 dL_law_927 dL_law_928 dL_law_929 ?_
  refine l_arg hx i 4 hi hN (by decide) rfl dL_law_930 dL_law_931 dL_law_932 dL_law_933 dL_law_934 ?_
  refine l_call hx hc.1 hc.2.2.1 [.int (xs (i + 1)), .int (xs (i + 2)), .int (xs (i + 3)), .int (xs (i + 4))] [] (oC_55 gC) lb_X10_made lv_L_96 (c_X10_made gC hc.1.2.2.1 X.1.2.1 (xs (i + 1)) (xs (i + 2)) (xs (i + 3)) (xs (i + 4)) hC e1) dL_law_935 rfl rfl (Nat.le_of_ble_eq_true rfl) (by decide) (by decide) hkn ?_
  refine l_aload hx dL_law_938 rfl 1 rfl ?_
  refine l_arg hx i 1 hi hN (by decide) rfl dL_law_939 dL_law_940 dL_law_941 dL_law_942 dL_law_943 ?_
  refine l_arg hx i 2 hi hN (by decide) rfl dL_law_944 dL_law_945 dL_law_946 dL_law_947 dL_law_948 ?_
  refine l_arg hx i 3 hi hN (by decide) rfl dL_law_949 dL_law_950 dL_law_951 dL_law_952 dL_law_953 ?_
  refine l_arg hx i 4 hi hN (by decide) rfl dL_law_954 dL_law_955 dL_law_956 dL_law_957 dL_law_958 ?_
  refine LW.swap ?_
  refine l_call hx hc.2.1 hc.2.2.2 [.int (xs (i + 1)), .int (xs (i + 2)), .int (xs (i + 3)), .int (xs (i + 4))] [.long r] (oM_0 gM) lb_X11_made lv_L_99 (c_X11_made gM hc.2.1.2.2.1 X.1.2.1 (xs (i + 1)) (xs (i + 2)) (xs (i + 3)) (xs (i + 4)) hM e2) dL_law_959 rfl rfl (Nat.le_of_ble_eq_true rfl) (by decide) (by decide) hkn ?_
  refine LW.swap ?_
  exact l_leq hx dL_law_962 dL_law_963 (by decide) (kk hC' hM' hI')
def Ag_sum (Inv : pq_H → pq_H → Prop) : Prop := ∀ (hC hM : pq_H) (p1 p2 : Int32), Inv hC hM → ag Inv (f_X10_sum p1 p2 hC) (f_X11_sum p1 p2 hM)
set_option maxRecDepth 20000 in
theorem lc_20 (hx : LX X b Ln xs) {gC gM : pq_g} {AC AM : Nat → Prop} (hc : LC X gC gM AC AM) (i : Nat) (hi : i + 5 ≤ Ln) (hN : Ln ≤ 2560) (hkn : k ≤ 600000 ∧ n ≤ 7302250) {Inv : pq_H → pq_H → Prop} (a0 : Ag_sum Inv) (kk : LE X gC gM b k n Inv i) {hC hM : pq_H} (hI : Inv hC hM) : LW X (SC gC) (SM gM) k n 968 (lL b (gM.1 0) (gC.1 55) i) [] hC hM := by
  obtain ⟨r, hC', hM', e1, e2, hI'⟩ := a0 hC hM (xs (i + 1)) (xs (i + 2)) hI
  refine l_aload hx dL_law_968 rfl 2 rfl ?_
  refine l_arg hx i 1 hi hN (by decide) rfl dL_law_969 dL_law_970 dL_law_971 dL_law_972 dL_law_973 ?_
  refine l_arg hx i 2 hi hN (by decide) rfl dL_law_974 dL_law_975 dL_law_976 dL_law_977 dL_law_978 ?_
  refine l_call hx hc.1 hc.2.2.1 [.int (xs (i + 1)), .int (xs (i + 2))] [] (oC_55 gC) lb_X10_sum lv_L_100 (c_X10_sum gC hc.1.2.2.1 X.1.2.1 (xs (i + 1)) (xs (i + 2)) hC e1) dL_law_979 rfl rfl (Nat.le_of_ble_eq_true rfl) (by decide) (by decide) hkn ?_
  refine l_aload hx dL_law_982 rfl 1 rfl ?_
  refine l_arg hx i 1 hi hN (by decide) rfl dL_law_983 dL_law_984 dL_law_985 dL_law_986 dL_law_987 ?_
  refine l_arg hx i 2 hi hN (by decide) rfl dL_law_988 dL_law_989 dL_law_990 dL_law_991 dL_law_992 ?_
  refine LW.swap ?_
  refine l_call hx hc.2.1 hc.2.2.2 [.int (xs (i + 1)), .int (xs (i + 2))] [.int r] (oM_0 gM) lb_X11_sum lv_L_103 (c_X11_sum gM hc.2.1.2.2.1 X.1.2.1 (xs (i + 1)) (xs (i + 2)) hM e2) dL_law_993 rfl rfl (Nat.le_of_ble_eq_true rfl) (by decide) (by decide) hkn ?_
  refine LW.swap ?_
  exact l_ieq hx dL_law_996 (by decide) (kk hC' hM' hI')
def Ag_product (Inv : pq_H → pq_H → Prop) : Prop := ∀ (hC hM : pq_H) (p1 p2 : Int32), Inv hC hM → ag Inv (f_X10_product p1 p2 hC) (f_X11_product p1 p2 hM)
set_option maxRecDepth 20000 in
theorem lc_21 (hx : LX X b Ln xs) {gC gM : pq_g} {AC AM : Nat → Prop} (hc : LC X gC gM AC AM) (i : Nat) (hi : i + 5 ≤ Ln) (hN : Ln ≤ 2560) (hkn : k ≤ 600000 ∧ n ≤ 7302250) {Inv : pq_H → pq_H → Prop} (a0 : Ag_product Inv) (kk : LE X gC gM b k n Inv i) {hC hM : pq_H} (hI : Inv hC hM) : LW X (SC gC) (SM gM) k n 1001 (lL b (gM.1 0) (gC.1 55) i) [] hC hM := by
  obtain ⟨r, hC', hM', e1, e2, hI'⟩ := a0 hC hM (xs (i + 1)) (xs (i + 2)) hI
  refine l_aload hx dL_law_1001 rfl 2 rfl ?_
  refine l_arg hx i 1 hi hN (by decide) rfl dL_law_1002 dL_law_1003 dL_law_1004 dL_law_1005 dL_law_1006 ?_
  refine l_arg hx i 2 hi hN (by decide) rfl dL_law_1007 dL_law_1008 dL_law_1009 dL_law_1010 dL_law_1011 ?_
  refine l_call hx hc.1 hc.2.2.1 [.int (xs (i + 1)), .int (xs (i + 2))] [] (oC_55 gC) lb_X10_product lv_L_104 (c_X10_product gC hc.1.2.2.1 X.1.2.1 (xs (i + 1)) (xs (i + 2)) hC e1) dL_law_1012 rfl rfl (Nat.le_of_ble_eq_true rfl) (by decide) (by decide) hkn ?_
  refine l_aload hx dL_law_1015 rfl 1 rfl ?_
  refine l_arg hx i 1 hi hN (by decide) rfl dL_law_1016 dL_law_1017 dL_law_1018 dL_law_1019 dL_law_1020 ?_
  refine l_arg hx i 2 hi hN (by decide) rfl dL_law_1021 dL_law_1022 dL_law_1023 dL_law_1024 dL_law_1025 ?_
  refine LW.swap ?_
  refine l_call hx hc.2.1 hc.2.2.2 [.int (xs (i + 1)), .int (xs (i + 2))] [.int r] (oM_0 gM) lb_X11_product lv_L_107 (c_X11_product gM hc.2.1.2.2.1 X.1.2.1 (xs (i + 1)) (xs (i + 2)) hM e2) dL_law_1026 rfl rfl (Nat.le_of_ble_eq_true rfl) (by decide) (by decide) hkn ?_
  refine LW.swap ?_
  exact l_ieq hx dL_law_1029 (by decide) (kk hC' hM' hI')
def Ag_lift (Inv : pq_H → pq_H → Prop) : Prop := ∀ (hC hM : pq_H) (p1 p2 : Int32), Inv hC hM → ag Inv (f_X10_lift p1 p2 hC) (f_X11_lift p1 p2 hM)
set_option maxRecDepth 20000 in
theorem lc_22 (hx : LX X b Ln xs) {gC gM : pq_g} {AC AM : Nat → Prop} (hc : LC X gC gM AC AM) (i : Nat) (hi : i + 5 ≤ Ln) (hN : Ln ≤ 2560) (hkn : k ≤ 600000 ∧ n ≤ 7302250) {Inv : pq_H → pq_H → Prop} (a0 : Ag_lift Inv) (kk : LE X gC gM b k n Inv i) {hC hM : pq_H} (hI : Inv hC hM) : LW X (SC gC) (SM gM) k n 1034 (lL b (gM.1 0) (gC.1 55) i) [] hC hM := by
  obtain ⟨r, hC', hM', e1, e2, hI'⟩ := a0 hC hM (xs (i + 1)) (xs (i + 2)) hI
  refine l_aload hx dL_law_1034 rfl 2 rfl ?_
  refine l_arg hx i 1 hi hN (by decide) rfl dL_law_1035 dL_law_1036 dL_law_1037 dL_law_1038 dL_law_1039 ?_
  refine l_arg hx i 2 hi hN (by decide) rfl dL_law_1040 dL_law_1041 dL_law_1042 dL_law_1043 dL_law_1044 ?_
  refine l_call hx hc.1 hc.2.2.1 [.int (xs (i + 1)), .int (xs (i + 2))] [] (oC_55 gC) lb_X10_lift lv_L_108 (c_X10_lift gC hc.1.2.2.1 X.1.2.1 (xs (i + 1)) (xs (i + 2)) hC e1) dL_law_1045 rfl rfl (Nat.le_of_ble_eq_true rfl) (by decide) (by decide) hkn ?_
  refine l_aload hx dL_law_1048 rfl 1 rfl ?_
  refine l_arg hx i 1 hi hN (by decide) rfl dL_law_1049 dL_law_1050 dL_law_1051 dL_law_1052 dL_law_1053 ?_
  refine l_arg hx i 2 hi hN (by decide) rfl dL_law_1054 dL_law_1055 dL_law_1056 dL_law_1057 dL_law_1058 ?_
  refine LW.swap ?_
  refine l_call hx hc.2.1 hc.2.2.2 [.int (xs (i + 1)), .int (xs (i + 2))] [.int r] (oM_0 gM) lb_X11_lift lv_L_111 (c_X11_lift gM hc.2.1.2.2.1 X.1.2.1 (xs (i + 1)) (xs (i + 2)) hM e2) dL_law_1059 rfl rfl (Nat.le_of_ble_eq_true rfl) (by decide) (by decide) hkn ?_
  refine LW.swap ?_
  exact l_ieq hx dL_law_1062 (by decide) (kk hC' hM' hI')
def Ag_negative (Inv : pq_H → pq_H → Prop) : Prop := ∀ (hC hM : pq_H) (p1 : Int32), Inv hC hM → ag Inv (f_X10_negative p1 hC) (f_X11_negative p1 hM)
set_option maxRecDepth 20000 in
theorem lc_23 (hx : LX X b Ln xs) {gC gM : pq_g} {AC AM : Nat → Prop} (hc : LC X gC gM AC AM) (i : Nat) (hi : i + 5 ≤ Ln) (hN : Ln ≤ 2560) (hkn : k ≤ 600000 ∧ n ≤ 7302250) {Inv : pq_H → pq_H → Prop} (a0 : Ag_negative Inv) (kk : LE X gC gM b k n Inv i) {hC hM : pq_H} (hI : Inv hC hM) : LW X (SC gC) (SM gM) k n 1067 (lL b (gM.1 0) (gC.1 55) i) [] hC hM := by
  obtain ⟨r, hC', hM', e1, e2, hI'⟩ := a0 hC hM (xs (i + 1)) hI
  refine l_aload hx dL_law_1067 rfl 2 rfl ?_
  refine l_arg hx i 1 hi hN (by decide) rfl dL_law_1068 dL_law_1069 dL_law_1070 dL_law_1071 dL_law_1072 ?_
  refine l_call hx hc.1 hc.2.2.1 [.int (xs (i + 1))] [] (oC_55 gC) lb_X10_negative lv_L_112 (c_X10_negative gC hc.1.2.2.1 X.1.2.1 (xs (i + 1)) hC e1) dL_law_1073 rfl rfl (Nat.le_of_ble_eq_true rfl) (by decide) (by decide) hkn ?_
  refine l_aload hx dL_law_1076 rfl 1 rfl ?_
  refine l_arg hx i 1 hi hN (by decide) rfl dL_law_1077 dL_law_1078 dL_law_1079 dL_law_1080 dL_law_1081 ?_
  refine LW.swap ?_
  refine l_call hx hc.2.1 hc.2.2.2 [.int (xs (i + 1))] [.int r] (oM_0 gM) lb_X11_negative lv_L_115 (c_X11_negative gM hc.2.1.2.2.1 X.1.2.1 (xs (i + 1)) hM e2) dL_law_1082 rfl rfl (Nat.le_of_ble_eq_true rfl) (by decide) (by decide) hkn ?_
  refine LW.swap ?_
  exact l_ieq hx dL_law_1085 (by decide) (kk hC' hM' hI')
def Ag_on (Inv : pq_H → pq_H → Prop) : Prop := ∀ (hC hM : pq_H) (p1 p2 : Int32), Inv hC hM → ag Inv (f_X10_on p1 p2 hC) (f_X11_on p1 p2 hM)
set_option maxRecDepth 20000 in
theorem lc_24 (hx : LX X b Ln xs) {gC gM : pq_g} {AC AM : Nat → Prop} (hc : LC X gC gM AC AM) (i : Nat) (hi : i + 5 ≤ Ln) (hN : Ln ≤ 2560) (hkn : k ≤ 600000 ∧ n ≤ 7302250) {Inv : pq_H → pq_H → Prop} (a0 : Ag_on Inv) (kk : LE X gC gM b k n Inv i) {hC hM : pq_H} (hI : Inv hC hM) : LW X (SC gC) (SM gM) k n 1090 (lL b (gM.1 0) (gC.1 55) i) [] hC hM := by
  obtain ⟨r, hC', hM', e1, e2, hI'⟩ := a0 hC hM (xs (i + 1)) (xs (i + 2)) hI
  refine l_aload hx dL_law_1090 rfl 2 rfl ?_
  refine l_arg hx i 1 hi hN (by decide) rfl dL_law_1091 dL_law_1092 dL_law_1093 dL_law_1094 dL_law_1095 ?_
  refine l_arg hx i 2 hi hN (by decide) rfl dL_law_1096 dL_law_1097 dL_law_1098 dL_law_1099 dL_law_1100 ?_
  refine l_call hx hc.1 hc.2.2.1 [.int (xs (i + 1)), .int (xs (i + 2))] [] (oC_55 gC) lb_X10_on lv_L_116 (c_X10_on gC hc.1.2.2.1 X.1.2.1 (xs (i + 1)) (xs (i + 2)) hC e1) dL_law_1101 rfl rfl (Nat.le_of_ble_eq_true rfl) (by decide) (by decide) hkn ?_
  refine l_aload hx dL_law_1104 rfl 1 rfl ?_
  refine l_arg hx i 1 hi hN (by decide) rfl dL_law_1105 dL_law_1106 dL_law_1107 dL_law_1108 dL_law_1109 ?_
  refine l_arg hx i 2 hi hN (by decide) rfl dL_law_1110 dL_law_1111 dL_law_1112 dL_law_1113 dL_law_1114 ?_
  refine LW.swap ?_
  refine l_call hx hc.2.1 hc.2.2.2 [.int (xs (i + 1)), .int (xs (i + 2))] [.int r] (oM_0 gM) lb_X11_on lv_L_119 (c_X11_on gM hc.2.1.2.2.1 X.1.2.1 (xs (i + 1)) (xs (i + 2)) hM e2) dL_law_1115 rfl rfl (Nat.le_of_ble_eq_true rfl) (by decide) (by decide) hkn ?_
  refine LW.swap ?_
  exact l_ieq hx dL_law_1118 (by decide) (kk hC' hM' hI')
def Ag_spelled (Inv : pq_H → pq_H → Prop) : Prop := ∀ (hC hM : pq_H) (p1 p2 : Int32), Inv hC hM → ag Inv (f_X10_spelled p1 p2 hC) (f_X11_spelled p1 p2 hM)
set_option maxRecDepth 20000 in
theorem lc_25 (hx : LX X b Ln xs) {gC gM : pq_g} {AC AM : Nat → Prop} (hc : LC X gC gM AC AM) (i : Nat) (hi : i + 5 ≤ Ln) (hN : Ln ≤ 2560) (hkn : k ≤ 600000 ∧ n ≤ 7302250) {Inv : pq_H → pq_H → Prop} (a0 : Ag_spelled Inv) (kk : LE X gC gM b k n Inv i) {hC hM : pq_H} (hI : Inv hC hM) : LW X (SC gC) (SM gM) k n 1123 (lL b (gM.1 0) (gC.1 55) i) [] hC hM := by
  obtain ⟨r, hC', hM', e1, e2, hI'⟩ := a0 hC hM (xs (i + 1)) (xs (i + 2)) hI
  refine l_aload hx dL_law_1123 rfl 2 rfl ?_
  refine l_arg hx i 1 hi hN (by decide) rfl dL_law_1124 dL_law_1125 dL_law_1126 dL_law_1127 dL_law_1128 ?_
  refine l_arg hx i 2 hi hN (by decide) rfl dL_law_1129 dL_law_1130 dL_law_1131 dL_law_1132 dL_law_1133 ?_
  refine l_call hx hc.1 hc.2.2.1 [.int (xs (i + 1)), .int (xs (i + 2))] [] (oC_55 gC) lb_X10_spelled lv_L_120 (c_X10_spelled gC hc.1.2.2.1 X.1.2.1 (xs (i + 1)) (xs (i + 2)) hC e1) dL_law_1134 rfl rfl (Nat.le_of_ble_eq_true rfl) (by decide) (by decide) hkn ?_
  refine l_aload hx dL_law_1137 rfl 1 rfl ?_
  refine l_arg hx i 1 hi hN (by decide) rfl dL_law_1138 dL_law_1139 dL_law_1140 dL_law_1141 dL_law_1142 ?_
  refine l_arg hx i 2 hi hN (by decide) rfl dL_law_1143 dL_law_1144 dL_law_1145 dL_law_1146 dL_law_1147 ?_
  refine LW.swap ?_
  refine l_call hx hc.2.1 hc.2.2.2 [.int (xs (i + 1)), .int (xs (i + 2))] [.int r] (oM_0 gM) lb_X11_spelled lv_L_123 (c_X11_spelled gM hc.2.1.2.2.1 X.1.2.1 (xs (i + 1)) (xs (i + 2)) hM e2) dL_law_1148 rfl rfl (Nat.le_of_ble_eq_true rfl) (by decide) (by decide) hkn ?_
  refine LW.swap ?_
  exact l_ieq hx dL_law_1151 (by decide) (kk hC' hM' hI')
def Ag_lots (Inv : pq_H → pq_H → Prop) : Prop := ∀ (hC hM : pq_H) (p1 p2 p3 p4 : Int32), Inv hC hM → ag Inv (f_X10_lots p1 p2 p3 p4 hC) (f_X11_lots p1 p2 p3 p4 hM)
set_option maxRecDepth 20000 in
theorem lc_26 (hx : LX X b Ln xs) {gC gM : pq_g} {AC AM : Nat → Prop} (hc : LC X gC gM AC AM) (i : Nat) (hi : i + 5 ≤ Ln) (hN : Ln ≤ 2560) (hkn : k ≤ 600000 ∧ n ≤ 7302250) {Inv : pq_H → pq_H → Prop} (a0 : Ag_lots Inv) (kk : LE X gC gM b k n Inv i) {hC hM : pq_H} (hI : Inv hC hM) : LW X (SC gC) (SM gM) k n 1156 (lL b (gM.1 0) (gC.1 55) i) [] hC hM := by
  obtain ⟨r, hC', hM', e1, e2, hI'⟩ := a0 hC hM (xs (i + 1)) (xs (i + 2)) (xs (i + 3)) (xs (i + 4)) hI
  refine l_aload hx dL_law_1156 rfl 2 rfl ?_
  refine l_arg hx i 1 hi hN (by decide) rfl dL_law_1157 dL_law_1158 dL_law_1159 dL_law_1160 dL_law_1161 ?_
  refine l_arg hx i 2 hi hN (by decide) rfl dL_law_1162 dL_law_1163 dL_law_1164 dL_law_1165 dL_law_1166 ?_
  refine l_arg hx i 3 hi hN (by decide) rfl dL_law_1167 dL_law_1168 dL_law_1169 dL_law_1170 dL_law_1171 ?_
  refine l_arg hx i 4 hi hN (by decide) rfl dL_law_1172 dL_law_1173 dL_law_1174 dL_law_1175 dL_law_1176 ?_
  refine l_call hx hc.1 hc.2.2.1 [.int (xs (i + 1)), .int (xs (i + 2)), .int (xs (i + 3)), .int (xs (i + 4))] [] (oC_55 gC) lb_X10_lots lv_L_124 (c_X10_lots gC hc.1.2.2.1 X.1.2.1 (xs (i + 1)) (xs (i + 2)) (xs (i + 3)) (xs (i + 4)) hC e1) dL_law_1177 rfl rfl (Nat.le_of_ble_eq_true rfl) (by decide) (by decide) hkn ?_
  refine l_aload hx dL_law_1180 rfl 1 rfl ?_
  refine l_arg hx i 1 hi hN (by decide) rfl dL_law_1181 dL_law_1182 dL_law_1183 dL_law_1184 dL_law_1185 ?_
  refine l_arg hx i 2 hi hN (by decide) rfl dL_law_1186 dL_law_1187 dL_law_1188 dL_law_1189 dL_law_1190 ?_
  refine l_arg hx i 3 hi hN (by decide) rfl dL_law_1191 dL_law_1192 dL_law_1193 dL_law_1194 dL_law_1195 ?_
  refine l_arg hx i 4 hi hN (by decide) rfl dL_law_1196 dL_law_1197 dL_law_1198 dL_law_1199 dL_law_1200 ?_
  refine LW.swap ?_
  refine l_call hx hc.2.1 hc.2.2.2 [.int (xs (i + 1)), .int (xs (i + 2)), .int (xs (i + 3)), .int (xs (i + 4))] [.int r] (oM_0 gM) lb_X11_lots lv_L_127 (c_X11_lots gM hc.2.1.2.2.1 X.1.2.1 (xs (i + 1)) (xs (i + 2)) (xs (i + 3)) (xs (i + 4)) hM e2) dL_law_1201 rfl rfl (Nat.le_of_ble_eq_true rfl) (by decide) (by decide) hkn ?_
  refine LW.swap ?_
  exact l_ieq hx dL_law_1204 (by decide) (kk hC' hM' hI')
def Ag_list (Inv : pq_H → pq_H → Prop) : Prop := ∀ (hC hM : pq_H) (p1 p2 : Int32), Inv hC hM → ag Inv (f_X10_list p1 p2 hC) (f_X11_list p1 p2 hM)
set_option maxRecDepth 20000 in
theorem lc_27 (hx : LX X b Ln xs) {gC gM : pq_g} {AC AM : Nat → Prop} (hc : LC X gC gM AC AM) (i : Nat) (hi : i + 5 ≤ Ln) (hN : Ln ≤ 2560) (hkn : k ≤ 600000 ∧ n ≤ 7302250) {Inv : pq_H → pq_H → Prop} (a0 : Ag_list Inv) (kk : LE X gC gM b k n Inv i) {hC hM : pq_H} (hI : Inv hC hM) : LW X (SC gC) (SM gM) k n 1209 (lL b (gM.1 0) (gC.1 55) i) [] hC hM := by
  obtain ⟨r, hC', hM', e1, e2, hI'⟩ := a0 hC hM (xs (i + 1)) (xs (i + 2)) hI
  refine l_aload hx dL_law_1209 rfl 2 rfl ?_
  refine l_arg hx i 1 hi hN (by decide) rfl dL_law_1210 dL_law_1211 dL_law_1212 dL_law_1213 dL_law_1214 ?_
  refine l_arg hx i 2 hi hN (by decide) rfl dL_law_1215 dL_law_1216 dL_law_1217 dL_law_1218 dL_law_1219 ?_
  refine l_call hx hc.1 hc.2.2.1 [.int (xs (i + 1)), .int (xs (i + 2))] [] (oC_55 gC) lb_X10_list lv_L_128 (c_X10_list gC hc.1.2.2.1 X.1.2.1 (xs (i + 1)) (xs (i + 2)) hC e1) dL_law_1220 rfl rfl (Nat.le_of_ble_eq_true rfl) (by decide) (by decide) hkn ?_
  refine l_aload hx dL_law_1223 rfl 1 rfl ?_
  refine l_arg hx i 1 hi hN (by decide) rfl dL_law_1224 dL_law_1225 dL_law_1226 dL_law_1227 dL_law_1228 ?_
  refine l_arg hx i 2 hi hN (by decide) rfl dL_law_1229 dL_law_1230 dL_law_1231 dL_law_1232 dL_law_1233 ?_
  refine LW.swap ?_
  refine l_call hx hc.2.1 hc.2.2.2 [.int (xs (i + 1)), .int (xs (i + 2))] [.int r] (oM_0 gM) lb_X11_list lv_L_131 (c_X11_list gM hc.2.1.2.2.1 X.1.2.1 (xs (i + 1)) (xs (i + 2)) hM e2) dL_law_1234 rfl rfl (Nat.le_of_ble_eq_true rfl) (by decide) (by decide) hkn ?_
  refine LW.swap ?_
  exact l_ieq hx dL_law_1237 (by decide) (kk hC' hM' hI')
def Ag_put (Inv : pq_H → pq_H → Prop) : Prop := ∀ (hC hM : pq_H) (p1 p2 p3 : Int32), Inv hC hM → ag Inv (f_X10_put p1 p2 p3 hC) (f_X11_put p1 p2 p3 hM)
set_option maxRecDepth 20000 in
theorem lc_28 (hx : LX X b Ln xs) {gC gM : pq_g} {AC AM : Nat → Prop} (hc : LC X gC gM AC AM) (i : Nat) (hi : i + 5 ≤ Ln) (hN : Ln ≤ 2560) (hkn : k ≤ 600000 ∧ n ≤ 7302250) {Inv : pq_H → pq_H → Prop} (a0 : Ag_put Inv) (kk : LE X gC gM b k n Inv i) {hC hM : pq_H} (hI : Inv hC hM) : LW X (SC gC) (SM gM) k n 1242 (lL b (gM.1 0) (gC.1 55) i) [] hC hM := by
  obtain ⟨r, hC', hM', e1, e2, hI'⟩ := a0 hC hM (xs (i + 1)) (xs (i + 2)) (xs (i + 3)) hI
  refine l_aload hx dL_law_1242 rfl 2 rfl ?_
  refine l_arg hx i 1 hi hN (by decide) rfl dL_law_1243 dL_law_1244 dL_law_1245 dL_law_1246 dL_law_1247 ?_
  refine l_arg hx i 2 hi hN (by decide) rfl dL_law_1248 dL_law_1249 dL_law_1250 dL_law_1251 dL_law_1252 ?_
  refine l_arg hx i 3 hi hN (by decide) rfl dL_law_1253 dL_law_1254 dL_law_1255 dL_law_1256 dL_law_1257 ?_
  refine l_call hx hc.1 hc.2.2.1 [.int (xs (i + 1)), .int (xs (i + 2)), .int (xs (i + 3))] [] (oC_55 gC) lb_X10_put lv_L_132 (c_X10_put gC hc.1.2.2.1 X.1.2.1 (xs (i + 1)) (xs (i + 2)) (xs (i + 3)) hC e1) dL_law_1258 rfl rfl (Nat.le_of_ble_eq_true rfl) (by decide) (by decide) hkn ?_
  refine l_aload hx dL_law_1261 rfl 1 rfl ?_
  refine l_arg hx i 1 hi hN (by decide) rfl dL_law_1262 dL_law_1263 dL_law_1264 dL_law_1265 dL_law_1266 ?_
  refine l_arg hx i 2 hi hN (by decide) rfl dL_law_1267 dL_law_1268 dL_law_1269 dL_law_1270 dL_law_1271 ?_
  refine l_arg hx i 3 hi hN (by decide) rfl dL_law_1272 dL_law_1273 dL_law_1274 dL_law_1275 dL_law_1276 ?_
  refine LW.swap ?_
  refine l_call hx hc.2.1 hc.2.2.2 [.int (xs (i + 1)), .int (xs (i + 2)), .int (xs (i + 3))] [.int r] (oM_0 gM) lb_X11_put lv_L_135 (c_X11_put gM hc.2.1.2.2.1 X.1.2.1 (xs (i + 1)) (xs (i + 2)) (xs (i + 3)) hM e2) dL_law_1277 rfl rfl (Nat.le_of_ble_eq_true rfl) (by decide) (by decide) hkn ?_
  refine LW.swap ?_
  exact l_ieq hx dL_law_1280 (by decide) (kk hC' hM' hI')
def Ag_look (Inv : pq_H → pq_H → Prop) : Prop := ∀ (hC hM : pq_H) (p1 p2 : Int32), Inv hC hM → ag Inv (f_X10_look p1 p2 hC) (f_X11_look p1 p2 hM)
set_option maxRecDepth 20000 in
theorem lc_29 (hx : LX X b Ln xs) {gC gM : pq_g} {AC AM : Nat → Prop} (hc : LC X gC gM AC AM) (i : Nat) (hi : i + 5 ≤ Ln) (hN : Ln ≤ 2560) (hkn : k ≤ 600000 ∧ n ≤ 7302250) {Inv : pq_H → pq_H → Prop} (a0 : Ag_look Inv) (kk : LE X gC gM b k n Inv i) {hC hM : pq_H} (hI : Inv hC hM) : LW X (SC gC) (SM gM) k n 1285 (lL b (gM.1 0) (gC.1 55) i) [] hC hM := by
  obtain ⟨r, hC', hM', e1, e2, hI'⟩ := a0 hC hM (xs (i + 1)) (xs (i + 2)) hI
  refine l_aload hx dL_law_1285 rfl 2 rfl ?_
  refine l_arg hx i 1 hi hN (by decide) rfl dL_law_1286 dL_law_1287 dL_law_1288 dL_law_1289 dL_law_1290 ?_
  refine l_arg hx i 2 hi hN (by decide) rfl dL_law_1291 dL_law_1292 dL_law_1293 dL_law_1294 dL_law_1295 ?_
  refine l_call hx hc.1 hc.2.2.1 [.int (xs (i + 1)), .int (xs (i + 2))] [] (oC_55 gC) lb_X10_look lv_L_136 (c_X10_look gC hc.1.2.2.1 X.1.2.1 (xs (i + 1)) (xs (i + 2)) hC e1) dL_law_1296 rfl rfl (Nat.le_of_ble_eq_true rfl) (by decide) (by decide) hkn ?_
  refine l_aload hx dL_law_1299 rfl 1 rfl ?_
  refine l_arg hx i 1 hi hN (by decide) rfl dL_law_1300 dL_law_1301 dL_law_1302 dL_law_1303 dL_law_1304 ?_
  refine l_arg hx i 2 hi hN (by decide) rfl dL_law_1305 dL_law_1306 dL_law_1307 dL_law_1308 dL_law_1309 ?_
  refine LW.swap ?_
  refine l_call hx hc.2.1 hc.2.2.2 [.int (xs (i + 1)), .int (xs (i + 2))] [.long r] (oM_0 gM) lb_X11_look lv_L_140 (c_X11_look gM hc.2.1.2.2.1 X.1.2.1 (xs (i + 1)) (xs (i + 2)) hM e2) dL_law_1310 rfl rfl (Nat.le_of_ble_eq_true rfl) (by decide) (by decide) hkn ?_
  refine LW.swap ?_
  exact l_leq hx dL_law_1313 dL_law_1314 (by decide) (kk hC' hM' hI')
def Ag_lays (Inv : pq_H → pq_H → Prop) : Prop := ∀ (hC hM : pq_H) (p1 p2 p3 : Int32), Inv hC hM → ag Inv (f_X10_lays p1 p2 p3 hC) (f_X11_lays p1 p2 p3 hM)
set_option maxRecDepth 20000 in
theorem lc_30 (hx : LX X b Ln xs) {gC gM : pq_g} {AC AM : Nat → Prop} (hc : LC X gC gM AC AM) (i : Nat) (hi : i + 5 ≤ Ln) (hN : Ln ≤ 2560) (hkn : k ≤ 600000 ∧ n ≤ 7302250) {Inv : pq_H → pq_H → Prop} (a0 : Ag_lays Inv) (kk : LE X gC gM b k n Inv i) {hC hM : pq_H} (hI : Inv hC hM) : LW X (SC gC) (SM gM) k n 1319 (lL b (gM.1 0) (gC.1 55) i) [] hC hM := by
  obtain ⟨r, hC', hM', e1, e2, hI'⟩ := a0 hC hM (xs (i + 1)) (xs (i + 2)) (xs (i + 3)) hI
  refine l_aload hx dL_law_1319 rfl 2 rfl ?_
  refine l_arg hx i 1 hi hN (by decide) rfl dL_law_1320 dL_law_1321 dL_law_1322 dL_law_1323 dL_law_1324 ?_
  refine l_arg hx i 2 hi hN (by decide) rfl dL_law_1325 dL_law_1326 dL_law_1327 dL_law_1328 dL_law_1329 ?_
  refine l_arg hx i 3 hi hN (by decide) rfl dL_law_1330 dL_law_1331 dL_law_1332 dL_law_1333 dL_law_1334 ?_
  refine l_call hx hc.1 hc.2.2.1 [.int (xs (i + 1)), .int (xs (i + 2)), .int (xs (i + 3))] [] (oC_55 gC) lb_X10_lays lv_L_141 (c_X10_lays gC hc.1.2.2.1 X.1.2.1 (xs (i + 1)) (xs (i + 2)) (xs (i + 3)) hC e1) dL_law_1335 rfl rfl (Nat.le_of_ble_eq_true rfl) (by decide) (by decide) hkn ?_
  refine l_aload hx dL_law_1338 rfl 1 rfl ?_
  refine l_arg hx i 1 hi hN (by decide) rfl dL_law_1339 dL_law_1340 dL_law_1341 dL_law_1342 dL_law_1343 ?_
  refine l_arg hx i 2 hi hN (by decide) rfl dL_law_1344 dL_law_1345 dL_law_1346 dL_law_1347 dL_law_1348 ?_
  refine l_arg hx i 3 hi hN (by decide) rfl dL_law_1349 dL_law_1350 dL_law_1351 dL_law_1352 dL_law_1353 ?_
  refine LW.swap ?_
  refine l_call hx hc.2.1 hc.2.2.2 [.int (xs (i + 1)), .int (xs (i + 2)), .int (xs (i + 3))] [.int r] (oM_0 gM) lb_X11_lays lv_L_144 (c_X11_lays gM hc.2.1.2.2.1 X.1.2.1 (xs (i + 1)) (xs (i + 2)) (xs (i + 3)) hM e2) dL_law_1354 rfl rfl (Nat.le_of_ble_eq_true rfl) (by decide) (by decide) hkn ?_
  refine LW.swap ?_
  exact l_ieq hx dL_law_1357 (by decide) (kk hC' hM' hI')
def Ag_judge (Inv : pq_H → pq_H → Prop) : Prop := ∀ (hC hM : pq_H) (p1 p2 : Int32), Inv hC hM → ag Inv (f_X10_judge p1 p2 hC) (f_X11_judge p1 p2 hM)
set_option maxRecDepth 20000 in
theorem lc_31 (hx : LX X b Ln xs) {gC gM : pq_g} {AC AM : Nat → Prop} (hc : LC X gC gM AC AM) (i : Nat) (hi : i + 5 ≤ Ln) (hN : Ln ≤ 2560) (hkn : k ≤ 600000 ∧ n ≤ 7302250) {Inv : pq_H → pq_H → Prop} (a0 : Ag_judge Inv) (kk : LE X gC gM b k n Inv i) {hC hM : pq_H} (hI : Inv hC hM) : LW X (SC gC) (SM gM) k n 1362 (lL b (gM.1 0) (gC.1 55) i) [] hC hM := by
  obtain ⟨r, hC', hM', e1, e2, hI'⟩ := a0 hC hM (xs (i + 1)) (xs (i + 2)) hI
  refine l_aload hx dL_law_1362 rfl 2 rfl ?_
  refine l_arg hx i 1 hi hN (by decide) rfl dL_law_1363 dL_law_1364 dL_law_1365 dL_law_1366 dL_law_1367 ?_
  refine l_arg hx i 2 hi hN (by decide) rfl dL_law_1368 dL_law_1369 dL_law_1370 dL_law_1371 dL_law_1372 ?_
  refine l_call hx hc.1 hc.2.2.1 [.int (xs (i + 1)), .int (xs (i + 2))] [] (oC_55 gC) lb_X10_judge lv_L_145 (c_X10_judge gC hc.1.2.2.1 X.1.2.1 (xs (i + 1)) (xs (i + 2)) hC e1) dL_law_1373 rfl rfl (Nat.le_of_ble_eq_true rfl) (by decide) (by decide) hkn ?_
  refine l_aload hx dL_law_1376 rfl 1 rfl ?_
  refine l_arg hx i 1 hi hN (by decide) rfl dL_law_1377 dL_law_1378 dL_law_1379 dL_law_1380 dL_law_1381 ?_
  refine l_arg hx i 2 hi hN (by decide) rfl dL_law_1382 dL_law_1383 dL_law_1384 dL_law_1385 dL_law_1386 ?_
  refine LW.swap ?_
  refine l_call hx hc.2.1 hc.2.2.2 [.int (xs (i + 1)), .int (xs (i + 2))] [.int r] (oM_0 gM) lb_X11_judge lv_L_148 (c_X11_judge gM hc.2.1.2.2.1 X.1.2.1 (xs (i + 1)) (xs (i + 2)) hM e2) dL_law_1387 rfl rfl (Nat.le_of_ble_eq_true rfl) (by decide) (by decide) hkn ?_
  refine LW.swap ?_
  exact l_ieq hx dL_law_1390 (by decide) (kk hC' hM' hI')
def Ag_undo (Inv : pq_H → pq_H → Prop) : Prop := ∀ (hC hM : pq_H), Inv hC hM → ag Inv (f_X10_undo hC) (f_X11_undo hM)
set_option maxRecDepth 20000 in
theorem lc_32 (hx : LX X b Ln xs) {gC gM : pq_g} {AC AM : Nat → Prop} (hc : LC X gC gM AC AM) (i : Nat) (hi : i + 5 ≤ Ln) (hN : Ln ≤ 2560) (hkn : k ≤ 600000 ∧ n ≤ 7302250) {Inv : pq_H → pq_H → Prop} (a0 : Ag_undo Inv) (kk : LE X gC gM b k n Inv i) {hC hM : pq_H} (hI : Inv hC hM) : LW X (SC gC) (SM gM) k n 1395 (lL b (gM.1 0) (gC.1 55) i) [] hC hM := by
  obtain ⟨r, hC', hM', e1, e2, hI'⟩ := a0 hC hM hI
  refine l_aload hx dL_law_1395 rfl 2 rfl ?_
  refine l_call hx hc.1 hc.2.2.1 [] [] (oC_55 gC) lb_X10_undo lv_L_149 (c_X10_undo gC hc.1.2.2.1 X.1.2.1 hC e1) dL_law_1396 rfl rfl (Nat.le_of_ble_eq_true rfl) (by decide) (by decide) hkn ?_
  refine l_aload hx dL_law_1399 rfl 1 rfl ?_
  refine LW.swap ?_
  refine l_call hx hc.2.1 hc.2.2.2 [] [.int r] (oM_0 gM) lb_X11_undo lv_L_152 (c_X11_undo gM hc.2.1.2.2.1 X.1.2.1 hM e2) dL_law_1400 rfl rfl (Nat.le_of_ble_eq_true rfl) (by decide) (by decide) hkn ?_
  refine LW.swap ?_
  exact l_ieq hx dL_law_1403 (by decide) (kk hC' hM' hI')
def Ag_image (Inv : pq_H → pq_H → Prop) : Prop := ∀ (hC hM : pq_H), Inv hC hM → ag Inv (f_X10_image hC) (f_X11_image hM)
set_option maxRecDepth 20000 in
theorem lc_33 (hx : LX X b Ln xs) {gC gM : pq_g} {AC AM : Nat → Prop} (hc : LC X gC gM AC AM) (i : Nat) (hi : i + 5 ≤ Ln) (hN : Ln ≤ 2560) (hkn : k ≤ 600000 ∧ n ≤ 7302250) {Inv : pq_H → pq_H → Prop} (a0 : Ag_image Inv) (kk : LE X gC gM b k n Inv i) {hC hM : pq_H} (hI : Inv hC hM) : LW X (SC gC) (SM gM) k n 1408 (lL b (gM.1 0) (gC.1 55) i) [] hC hM := by
  obtain ⟨r, hC', hM', e1, e2, hI'⟩ := a0 hC hM hI
  refine l_aload hx dL_law_1408 rfl 2 rfl ?_
  refine l_call hx hc.1 hc.2.2.1 [] [] (oC_55 gC) lb_X10_image lv_L_153 (c_X10_image gC hc.1.2.2.1 X.1.2.1 hC e1) dL_law_1409 rfl rfl (Nat.le_of_ble_eq_true rfl) (by decide) (by decide) hkn ?_
  refine l_aload hx dL_law_1412 rfl 1 rfl ?_
  refine LW.swap ?_
  refine l_call hx hc.2.1 hc.2.2.2 [] [.int r] (oM_0 gM) lb_X11_image lv_L_156 (c_X11_image gM hc.2.1.2.2.1 X.1.2.1 hM e2) dL_law_1413 rfl rfl (Nat.le_of_ble_eq_true rfl) (by decide) (by decide) hkn ?_
  refine LW.swap ?_
  exact l_ieq hx dL_law_1416 (by decide) (kk hC' hM' hI')
def Ag_back (Inv : pq_H → pq_H → Prop) : Prop := ∀ (hC hM : pq_H), Inv hC hM → ag Inv (f_X10_back hC) (f_X11_back hM)
set_option maxRecDepth 20000 in
theorem lc_34 (hx : LX X b Ln xs) {gC gM : pq_g} {AC AM : Nat → Prop} (hc : LC X gC gM AC AM) (i : Nat) (hi : i + 5 ≤ Ln) (hN : Ln ≤ 2560) (hkn : k ≤ 600000 ∧ n ≤ 7302250) {Inv : pq_H → pq_H → Prop} (a0 : Ag_back Inv) (kk : LE X gC gM b k n Inv i) {hC hM : pq_H} (hI : Inv hC hM) : LW X (SC gC) (SM gM) k n 1421 (lL b (gM.1 0) (gC.1 55) i) [] hC hM := by
  obtain ⟨r, hC', hM', e1, e2, hI'⟩ := a0 hC hM hI
  refine l_aload hx dL_law_1421 rfl 2 rfl ?_
  refine l_call hx hc.1 hc.2.2.1 [] [] (oC_55 gC) lb_X10_back lv_L_157 (c_X10_back gC hc.1.2.2.1 X.1.2.1 hC e1) dL_law_1422 rfl rfl (Nat.le_of_ble_eq_true rfl) (by decide) (by decide) hkn ?_
  refine l_aload hx dL_law_1425 rfl 1 rfl ?_
  refine LW.swap ?_
  refine l_call hx hc.2.1 hc.2.2.2 [] [.int r] (oM_0 gM) lb_X11_back lv_L_160 (c_X11_back gM hc.2.1.2.2.1 X.1.2.1 hM e2) dL_law_1426 rfl rfl (Nat.le_of_ble_eq_true rfl) (by decide) (by decide) hkn ?_
  refine LW.swap ?_
  exact l_ieq hx dL_law_1429 (by decide) (kk hC' hM' hI')
def Ag_count (Inv : pq_H → pq_H → Prop) : Prop := ∀ (hC hM : pq_H) (p1 : Int32), Inv hC hM → ∃ r, f_X10_count p1 hC = some r ∧ f_X11_count p1 hM = some r
set_option maxRecDepth 20000 in
theorem lc_35 (hx : LX X b Ln xs) {gC gM : pq_g} {AC AM : Nat → Prop} (hc : LC X gC gM AC AM) (i : Nat) (hi : i + 5 ≤ Ln) (hN : Ln ≤ 2560) (hkn : k ≤ 600000 ∧ n ≤ 7302250) {Inv : pq_H → pq_H → Prop} (a0 : Ag_count Inv) (kk : LE X gC gM b k n Inv i) {hC hM : pq_H} (hI : Inv hC hM) : LW X (SC gC) (SM gM) k n 1434 (lL b (gM.1 0) (gC.1 55) i) [] hC hM := by
  obtain ⟨r, e1, e2⟩ := a0 hC hM (xs (i + 1)) hI
  refine l_aload hx dL_law_1434 rfl 2 rfl ?_
  refine l_arg hx i 1 hi hN (by decide) rfl dL_law_1435 dL_law_1436 dL_law_1437 dL_law_1438 dL_law_1439 ?_
  refine l_call hx hc.1 hc.2.2.1 [.int (xs (i + 1))] [] (oC_55 gC) lb_X10_count lv_L_161 (c_X10_count gC hc.1.2.2.1 X.1.2.1 (xs (i + 1)) hC e1) dL_law_1440 rfl rfl (Nat.le_of_ble_eq_true rfl) (by decide) (by decide) hkn ?_
  refine l_aload hx dL_law_1443 rfl 1 rfl ?_
  refine l_arg hx i 1 hi hN (by decide) rfl dL_law_1444 dL_law_1445 dL_law_1446 dL_law_1447 dL_law_1448 ?_
  refine LW.swap ?_
  refine l_call hx hc.2.1 hc.2.2.2 [.int (xs (i + 1))] [.int r] (oM_0 gM) lb_X11_count lv_L_164 (c_X11_count gM hc.2.1.2.2.1 X.1.2.1 (xs (i + 1)) hM e2) dL_law_1449 rfl rfl (Nat.le_of_ble_eq_true rfl) (by decide) (by decide) hkn ?_
  refine LW.swap ?_
  exact l_ieq hx dL_law_1452 (by decide) (kk hC hM hI)
end LAW
