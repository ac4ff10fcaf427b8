theorem lwc_0 {X : Cx} {b L ii : Nat} {xs : Nat → Int32} {σ : St} {A : Ab} (Z : LW X b L xs) (hL : L ≤ 2560) (hii : ii + 5 ≤ L) (hA : AI A) (hC : CR σ A) (hR : MR σ A) (kont : ∀ (σz : St) (Az : Ab), AI Az → CR σz Az → MR σz Az → JL X 69 3309 901 (lvL X b ii) [] σz) : JL X 69 3309 164 (lvL X b ii) [] σ := by
  refine jl_aload_n Z.F dL_law_164 rfl rfl ?_
  refine jl_arg Z hL hii (j := 1) (by decide) (by decide) dL_law_165 dL_law_166 dL_law_167 dL_law_168 dL_law_169 rfl ?_
  refine jl_callV Z.F (C := RX5) (ci := 5) (T := TX5) (N := 10) (k := 0) (nn := 1) (As := [.int (xs (ii + 1))]) (rest := []) (c_X5_type Z.n5 hA hC _) wd_236 wd_44 wd_233 wd_234 wd_235 (by decide +kernel) (by decide) rfl (by decide) Z.k0 rfl rfl rfl (Nat.le_of_ble_eq_true rfl) Z.cs dL_law_170 rfl (fun v0c σ0c q0c => ?_)
  obtain ⟨rfl, hC1, hF1⟩ := q0c
  refine jl_aload_n Z.F dL_law_173 rfl rfl ?_
  refine jl_arg Z hL hii (j := 1) (by decide) (by decide) dL_law_174 dL_law_175 dL_law_176 dL_law_177 dL_law_178 rfl ?_
  refine jl_callV Z.F (C := RX6) (ci := 6) (T := TX6) (N := 30) (k := 55) (nn := 1) (As := [.int (xs (ii + 1))]) (rest := [.int (o_type A (xs (ii + 1))).1]) (c_X6_type Z.n9 hA (MR_C hR hF1) _) wd_665 wd_50 wd_662 wd_663 wd_664 (by decide +kernel) (by decide) rfl (by decide) Z.k55 rfl rfl rfl (Nat.le_of_ble_eq_true rfl) Z.cs dL_law_179 rfl (fun v1c σ1c q1c => ?_)
  obtain ⟨rfl, hR2, hF2⟩ := q1c
  refine jl_icmp_eq Z.F (tgt := 901) dL_law_182 (by decide) rfl (fun _ => ?_) (fun qn => absurd rfl qn)
  exact kont _ (o_type A (xs (ii + 1))).2 (AI_type hA _) (CR_M hC1 hF2) hR2
theorem lwc_1 {X : Cx} {b L ii : Nat} {xs : Nat → Int32} {σ : St} {A : Ab} (Z : LW X b L xs) (hL : L ≤ 2560) (hii : ii + 5 ≤ L) (hA : AI A) (hC : CR σ A) (hR : MR σ A) (kont : ∀ (σz : St) (Az : Ab), AI Az → CR σz Az → MR σz Az → JL X 69 3309 901 (lvL X b ii) [] σz) : JL X 69 3309 187 (lvL X b ii) [] σ := by
  refine jl_aload_n Z.F dL_law_187 rfl rfl ?_
  refine jl_callV Z.F (C := RX5) (ci := 5) (T := TX5) (N := 10) (k := 0) (nn := 0) (As := []) (rest := []) (c_X5_clear Z.n5 hA hC) wd_244 wd_44 wd_241 wd_242 wd_243 (by decide +kernel) (by decide) rfl (by decide) Z.k0 rfl rfl rfl (Nat.le_of_ble_eq_true rfl) Z.cs dL_law_188 rfl (fun v0c σ0c q0c => ?_)
  obtain ⟨rfl, hC1, hF1⟩ := q0c
  refine jl_aload_n Z.F dL_law_191 rfl rfl ?_
  refine jl_callV Z.F (C := RX6) (ci := 6) (T := TX6) (N := 30) (k := 55) (nn := 0) (As := []) (rest := [.int (o_clear A).1]) (c_X6_clear Z.n9 hA (MR_C hR hF1)) wd_672 wd_50 wd_669 wd_670 wd_671 (by decide +kernel) (by decide) rfl (by decide) Z.k55 rfl rfl rfl (Nat.le_of_ble_eq_true rfl) Z.cs dL_law_192 rfl (fun v1c σ1c q1c => ?_)
  obtain ⟨rfl, hR2, hF2⟩ := q1c
  refine jl_icmp_eq Z.F (tgt := 901) dL_law_195 (by decide) rfl (fun _ => ?_) (fun qn => absurd rfl qn)
  exact kont _ (o_clear A).2 (AI_clear hA) (CR_M hC1 hF2) hR2
theorem lwc_2 {X : Cx} {b L ii : Nat} {xs : Nat → Int32} {σ : St} {A : Ab} (Z : LW X b L xs) (hL : L ≤ 2560) (hii : ii + 5 ≤ L) (hA : AI A) (hC : CR σ A) (hR : MR σ A) (kont : ∀ (σz : St) (Az : Ab), AI Az → CR σz Az → MR σz Az → JL X 69 3309 901 (lvL X b ii) [] σz) : JL X 69 3309 200 (lvL X b ii) [] σ := by
  refine jl_aload_n Z.F dL_law_200 rfl rfl ?_
  refine jl_callV Z.F (C := RX5) (ci := 5) (T := TX5) (N := 10) (k := 0) (nn := 0) (As := []) (rest := []) (c_X5_plan Z.n5 hA hC) wd_248 wd_44 wd_245 wd_246 wd_247 (by decide +kernel) (by decide) rfl (by decide) Z.k0 rfl rfl rfl (Nat.le_of_ble_eq_true rfl) Z.cs dL_law_201 rfl (fun v0c σ0c q0c => ?_)
  obtain ⟨rfl, hC1, hF1⟩ := q0c
  refine jl_aload_n Z.F dL_law_204 rfl rfl ?_
  refine jl_callV Z.F (C := RX6) (ci := 6) (T := TX6) (N := 30) (k := 55) (nn := 0) (As := []) (rest := [.int (o_plan A).1]) (c_X6_plan Z.n9 hA (MR_C hR hF1)) wd_676 wd_50 wd_673 wd_674 wd_675 (by decide +kernel) (by decide) rfl (by decide) Z.k55 rfl rfl rfl (Nat.le_of_ble_eq_true rfl) Z.cs dL_law_205 rfl (fun v1c σ1c q1c => ?_)
  obtain ⟨rfl, hR2, hF2⟩ := q1c
  refine jl_icmp_eq Z.F (tgt := 901) dL_law_208 (by decide) rfl (fun _ => ?_) (fun qn => absurd rfl qn)
  exact kont _ (o_plan A).2 (AI_plan hA) (CR_M hC1 hF2) hR2
theorem lwc_3 {X : Cx} {b L ii : Nat} {xs : Nat → Int32} {σ : St} {A : Ab} (Z : LW X b L xs) (hL : L ≤ 2560) (hii : ii + 5 ≤ L) (hA : AI A) (hC : CR σ A) (hR : MR σ A) (kont : ∀ (σz : St) (Az : Ab), AI Az → CR σz Az → MR σz Az → JL X 69 3309 901 (lvL X b ii) [] σz) : JL X 69 3309 213 (lvL X b ii) [] σ := by
  refine jl_aload_n Z.F dL_law_213 rfl rfl ?_
  refine jl_arg Z hL hii (j := 1) (by decide) (by decide) dL_law_214 dL_law_215 dL_law_216 dL_law_217 dL_law_218 rfl ?_
  refine jl_arg Z hL hii (j := 2) (by decide) (by decide) dL_law_219 dL_law_220 dL_law_221 dL_law_222 dL_law_223 rfl ?_
  refine jl_callV Z.F (C := RX5) (ci := 5) (T := TX5) (N := 10) (k := 0) (nn := 2) (As := [.int (xs (ii + 1)), .int (xs (ii + 2))]) (rest := []) (c_X5_wall Z.n5 hA hC _ _) wd_308 wd_44 wd_305 wd_306 wd_307 (by decide +kernel) (by decide) rfl (by decide) Z.k0 rfl rfl rfl (Nat.le_of_ble_eq_true rfl) Z.cs dL_law_224 rfl (fun v0c σ0c q0c => ?_)
  obtain ⟨rfl, hC1, hF1⟩ := q0c
  refine jl_aload_n Z.F dL_law_227 rfl rfl ?_
  refine jl_arg Z hL hii (j := 1) (by decide) (by decide) dL_law_228 dL_law_229 dL_law_230 dL_law_231 dL_law_232 rfl ?_
  refine jl_arg Z hL hii (j := 2) (by decide) (by decide) dL_law_233 dL_law_234 dL_law_235 dL_law_236 dL_law_237 rfl ?_
  refine jl_callV Z.F (C := RX6) (ci := 6) (T := TX6) (N := 30) (k := 55) (nn := 2) (As := [.int (xs (ii + 1)), .int (xs (ii + 2))]) (rest := [.int (o_wall A (xs (ii + 1)) (xs (ii + 2))).1]) (c_X6_wall Z.n9 hA (MR_C hR hF1) _ _) wd_708 wd_50 wd_705 wd_706 wd_707 (by decide +kernel) (by decide) rfl (by decide) Z.k55 rfl rfl rfl (Nat.le_of_ble_eq_true rfl) Z.cs dL_law_238 rfl (fun v1c σ1c q1c => ?_)
  obtain ⟨rfl, hR2, hF2⟩ := q1c
  refine jl_icmp_eq Z.F (tgt := 901) dL_law_241 (by decide) rfl (fun _ => ?_) (fun qn => absurd rfl qn)
  exact kont _ (o_wall A (xs (ii + 1)) (xs (ii + 2))).2 hA (CR_M hC1 hF2) hR2
theorem lwc_4 {X : Cx} {b L ii : Nat} {xs : Nat → Int32} {σ : St} {A : Ab} (Z : LW X b L xs) (hL : L ≤ 2560) (hii : ii + 5 ≤ L) (hA : AI A) (hC : CR σ A) (hR : MR σ A) (kont : ∀ (σz : St) (Az : Ab), AI Az → CR σz Az → MR σz Az → JL X 69 3309 901 (lvL X b ii) [] σz) : JL X 69 3309 246 (lvL X b ii) [] σ := by
  refine jl_aload_n Z.F dL_law_246 rfl rfl ?_
  refine jl_arg Z hL hii (j := 1) (by decide) (by decide) dL_law_247 dL_law_248 dL_law_249 dL_law_250 dL_law_251 rfl ?_
  refine jl_arg Z hL hii (j := 2) (by decide) (by decide) dL_law_252 dL_law_253 dL_law_254 dL_law_255 dL_law_256 rfl ?_
  refine jl_callV Z.F (C := RX5) (ci := 5) (T := TX5) (N := 10) (k := 0) (nn := 2) (As := [.int (xs (ii + 1)), .int (xs (ii + 2))]) (rest := []) (c_X5_lamp Z.n5 hA hC _ _) wd_320 wd_44 wd_317 wd_318 wd_319 (by decide +kernel) (by decide) rfl (by decide) Z.k0 rfl rfl rfl (Nat.le_of_ble_eq_true rfl) Z.cs dL_law_257 rfl (fun v0c σ0c q0c => ?_)
  obtain ⟨rfl, hC1, hF1⟩ := q0c
  refine jl_aload_n Z.F dL_law_260 rfl rfl ?_
  refine jl_arg Z hL hii (j := 1) (by decide) (by decide) dL_law_261 dL_law_262 dL_law_263 dL_law_264 dL_law_265 rfl ?_
  refine jl_arg Z hL hii (j := 2) (by decide) (by decide) dL_law_266 dL_law_267 dL_law_268 dL_law_269 dL_law_270 rfl ?_
  refine jl_callV Z.F (C := RX6) (ci := 6) (T := TX6) (N := 30) (k := 55) (nn := 2) (As := [.int (xs (ii + 1)), .int (xs (ii + 2))]) (rest := [.int (o_lamp A (xs (ii + 1)) (xs (ii + 2))).1]) (c_X6_lamp Z.n9 hA (MR_C hR hF1) _ _) wd_720 wd_50 wd_717 wd_718 wd_719 (by decide +kernel) (by decide) rfl (by decide) Z.k55 rfl rfl rfl (Nat.le_of_ble_eq_true rfl) Z.cs dL_law_271 rfl (fun v1c σ1c q1c => ?_)
  obtain ⟨rfl, hR2, hF2⟩ := q1c
  refine jl_icmp_eq Z.F (tgt := 901) dL_law_274 (by decide) rfl (fun _ => ?_) (fun qn => absurd rfl qn)
  exact kont _ (o_lamp A (xs (ii + 1)) (xs (ii + 2))).2 hA (CR_M hC1 hF2) hR2
theorem lwc_5 {X : Cx} {b L ii : Nat} {xs : Nat → Int32} {σ : St} {A : Ab} (Z : LW X b L xs) (hL : L ≤ 2560) (hii : ii + 5 ≤ L) (hA : AI A) (hC : CR σ A) (hR : MR σ A) (kont : ∀ (σz : St) (Az : Ab), AI Az → CR σz Az → MR σz Az → JL X 69 3309 901 (lvL X b ii) [] σz) : JL X 69 3309 279 (lvL X b ii) [] σ := by
  refine jl_aload_n Z.F dL_law_279 rfl rfl ?_
  refine jl_arg Z hL hii (j := 1) (by decide) (by decide) dL_law_280 dL_law_281 dL_law_282 dL_law_283 dL_law_284 rfl ?_
  refine jl_arg Z hL hii (j := 2) (by decide) (by decide) dL_law_285 dL_law_286 dL_law_287 dL_law_288 dL_law_289 rfl ?_
  refine jl_callV Z.F (C := RX5) (ci := 5) (T := TX5) (N := 10) (k := 0) (nn := 2) (As := [.int (xs (ii + 1)), .int (xs (ii + 2))]) (rest := []) (c_X5_puts Z.n5 hA hC _ _) wd_329 wd_44 wd_326 wd_327 wd_328 (by decide +kernel) (by decide) rfl (by decide) Z.k0 rfl rfl rfl (Nat.le_of_ble_eq_true rfl) Z.cs dL_law_290 rfl (fun v0c σ0c q0c => ?_)
  obtain ⟨rfl, hC1, hF1⟩ := q0c
  refine jl_aload_n Z.F dL_law_293 rfl rfl ?_
  refine jl_arg Z hL hii (j := 1) (by decide) (by decide) dL_law_294 dL_law_295 dL_law_296 dL_law_297 dL_law_298 rfl ?_
  refine jl_arg Z hL hii (j := 2) (by decide) (by decide) dL_law_299 dL_law_300 dL_law_301 dL_law_302 dL_law_303 rfl ?_
  refine jl_callV Z.F (C := RX6) (ci := 6) (T := TX6) (N := 30) (k := 55) (nn := 2) (As := [.int (xs (ii + 1)), .int (xs (ii + 2))]) (rest := [.int (o_puts A (xs (ii + 1)) (xs (ii + 2))).1]) (c_X6_puts Z.n9 hA (MR_C hR hF1) _ _) wd_856 wd_50 wd_853 wd_854 wd_855 (by decide +kernel) (by decide) rfl (by decide) Z.k55 rfl rfl rfl (Nat.le_of_ble_eq_true rfl) Z.cs dL_law_304 rfl (fun v1c σ1c q1c => ?_)
  obtain ⟨rfl, hR2, hF2⟩ := q1c
  refine jl_icmp_eq Z.F (tgt := 901) dL_law_307 (by decide) rfl (fun _ => ?_) (fun qn => absurd rfl qn)
  exact kont _ (o_puts A (xs (ii + 1)) (xs (ii + 2))).2 (AI_puts hA _ _) (CR_M hC1 hF2) hR2
theorem lwc_6 {X : Cx} {b L ii : Nat} {xs : Nat → Int32} {σ : St} {A : Ab} (Z : LW X b L xs) (hL : L ≤ 2560) (hii : ii + 5 ≤ L) (hA : AI A) (hC : CR σ A) (hR : MR σ A) (kont : ∀ (σz : St) (Az : Ab), AI Az → CR σz Az → MR σz Az → JL X 69 3309 901 (lvL X b ii) [] σz) : JL X 69 3309 312 (lvL X b ii) [] σ := by
  refine jl_aload_n Z.F dL_law_312 rfl rfl ?_
  refine jl_arg Z hL hii (j := 1) (by decide) (by decide) dL_law_313 dL_law_314 dL_law_315 dL_law_316 dL_law_317 rfl ?_
  refine jl_callV Z.F (C := RX5) (ci := 5) (T := TX5) (N := 10) (k := 0) (nn := 1) (As := [.int (xs (ii + 1))]) (rest := []) (c_X5_takes Z.n5 hA hC _) wd_347 wd_44 wd_344 wd_345 wd_346 (by decide +kernel) (by decide) rfl (by decide) Z.k0 rfl rfl rfl (Nat.le_of_ble_eq_true rfl) Z.cs dL_law_318 rfl (fun v0c σ0c q0c => ?_)
  obtain ⟨rfl, hC1, hF1⟩ := q0c
  refine jl_aload_n Z.F dL_law_321 rfl rfl ?_
  refine jl_arg Z hL hii (j := 1) (by decide) (by decide) dL_law_322 dL_law_323 dL_law_324 dL_law_325 dL_law_326 rfl ?_
  refine jl_callV Z.F (C := RX6) (ci := 6) (T := TX6) (N := 30) (k := 55) (nn := 1) (As := [.int (xs (ii + 1))]) (rest := [.int (o_takes A (xs (ii + 1))).1]) (c_X6_takes Z.n9 hA (MR_C hR hF1) _) wd_864 wd_50 wd_861 wd_862 wd_863 (by decide +kernel) (by decide) rfl (by decide) Z.k55 rfl rfl rfl (Nat.le_of_ble_eq_true rfl) Z.cs dL_law_327 rfl (fun v1c σ1c q1c => ?_)
  obtain ⟨rfl, hR2, hF2⟩ := q1c
  refine jl_icmp_eq Z.F (tgt := 901) dL_law_330 (by decide) rfl (fun _ => ?_) (fun qn => absurd rfl qn)
  exact kont _ (o_takes A (xs (ii + 1))).2 (AI_takes hA _) (CR_M hC1 hF2) hR2
theorem lwc_7 {X : Cx} {b L ii : Nat} {xs : Nat → Int32} {σ : St} {A : Ab} (Z : LW X b L xs) (hL : L ≤ 2560) (hii : ii + 5 ≤ L) (hA : AI A) (hC : CR σ A) (hR : MR σ A) (kont : ∀ (σz : St) (Az : Ab), AI Az → CR σz Az → MR σz Az → JL X 69 3309 901 (lvL X b ii) [] σz) : JL X 69 3309 335 (lvL X b ii) [] σ := by
  refine jl_aload_n Z.F dL_law_335 rfl rfl ?_
  refine jl_arg Z hL hii (j := 1) (by decide) (by decide) dL_law_336 dL_law_337 dL_law_338 dL_law_339 dL_law_340 rfl ?_
  refine jl_callV Z.F (C := RX5) (ci := 5) (T := TX5) (N := 10) (k := 0) (nn := 1) (As := [.int (xs (ii + 1))]) (rest := []) (c_X5_switches Z.n5 hA hC _) wd_358 wd_44 wd_355 wd_356 wd_357 (by decide +kernel) (by decide) rfl (by decide) Z.k0 rfl rfl rfl (Nat.le_of_ble_eq_true rfl) Z.cs dL_law_341 rfl (fun v0c σ0c q0c => ?_)
  obtain ⟨rfl, hC1, hF1⟩ := q0c
  refine jl_aload_n Z.F dL_law_344 rfl rfl ?_
  refine jl_arg Z hL hii (j := 1) (by decide) (by decide) dL_law_345 dL_law_346 dL_law_347 dL_law_348 dL_law_349 rfl ?_
  refine jl_callV Z.F (C := RX6) (ci := 6) (T := TX6) (N := 30) (k := 55) (nn := 1) (As := [.int (xs (ii + 1))]) (rest := [.int (o_switches A (xs (ii + 1))).1]) (c_X6_switches Z.n9 hA (MR_C hR hF1) _) wd_868 wd_50 wd_865 wd_866 wd_867 (by decide +kernel) (by decide) rfl (by decide) Z.k55 rfl rfl rfl (Nat.le_of_ble_eq_true rfl) Z.cs dL_law_350 rfl (fun v1c σ1c q1c => ?_)
  obtain ⟨rfl, hR2, hF2⟩ := q1c
  refine jl_icmp_eq Z.F (tgt := 901) dL_law_353 (by decide) rfl (fun _ => ?_) (fun qn => absurd rfl qn)
  exact kont _ (o_switches A (xs (ii + 1))).2 (AI_switches hA _) (CR_M hC1 hF2) hR2
theorem lwc_8 {X : Cx} {b L ii : Nat} {xs : Nat → Int32} {σ : St} {A : Ab} (Z : LW X b L xs) (hL : L ≤ 2560) (hii : ii + 5 ≤ L) (hA : AI A) (hC : CR σ A) (hR : MR σ A) (kont : ∀ (σz : St) (Az : Ab), AI Az → CR σz Az → MR σz Az → JL X 69 3309 901 (lvL X b ii) [] σz) : JL X 69 3309 358 (lvL X b ii) [] σ := by
  refine jl_aload_n Z.F dL_law_358 rfl rfl ?_
  refine jl_arg Z hL hii (j := 1) (by decide) (by decide) dL_law_359 dL_law_360 dL_law_361 dL_law_362 dL_law_363 rfl ?_
  refine jl_arg Z hL hii (j := 2) (by decide) (by decide) dL_law_364 dL_law_365 dL_law_366 dL_law_367 dL_law_368 rfl ?_
  refine jl_arg Z hL hii (j := 3) (by decide) (by decide) dL_law_369 dL_law_370 dL_law_371 dL_law_372 dL_law_373 rfl ?_
  refine jl_arg Z hL hii (j := 4) (by decide) (by decide) dL_law_374 dL_law_375 dL_law_376 dL_law_377 dL_law_378 rfl ?_
  refine jl_callV Z.F (C := RX5) (ci := 5) (T := TX5) (N := 10) (k := 0) (nn := 4) (As := [.int (xs (ii + 1)), .int (xs (ii + 2)), .int (xs (ii + 3)), .int (xs (ii + 4))]) (rest := []) (c_X5_builds Z.n5 hA hC _ _ _ _) wd_366 wd_44 wd_363 wd_364 wd_365 (by decide +kernel) (by decide) rfl (by decide) Z.k0 rfl rfl rfl (Nat.le_of_ble_eq_true rfl) Z.cs dL_law_379 rfl (fun v0c σ0c q0c => ?_)
  obtain ⟨rfl, hC1, hF1⟩ := q0c
  refine jl_aload_n Z.F dL_law_382 rfl rfl ?_
  refine jl_arg Z hL hii (j := 1) (by decide) (by decide) dL_law_383 dL_law_384 dL_law_385 dL_law_386 dL_law_387 rfl ?_
  refine jl_arg Z hL hii (j := 2) (by decide) (by decide) dL_law_388 dL_law_389 dL_law_390 dL_law_391 dL_law_392 rfl ?_
  refine jl_arg Z hL hii (j := 3) (by decide) (by decide) dL_law_393 dL_law_394 dL_law_395 dL_law_396 dL_law_397 rfl ?_
  refine jl_arg Z hL hii (j := 4) (by decide) (by decide) dL_law_398 dL_law_399 dL_law_400 dL_law_401 dL_law_402 rfl ?_
  refine jl_callV Z.F (C := RX6) (ci := 6) (T := TX6) (N := 30) (k := 55) (nn := 4) (As := [.int (xs (ii + 1)), .int (xs (ii + 2)), .int (xs (ii + 3)), .int (xs (ii + 4))]) (rest := [.int (o_builds A (xs (ii + 1)) (xs (ii + 2)) (xs (ii + 3)) (xs (ii + 4))).1]) (c_X6_builds Z.n9 hA (MR_C hR hF1) _ _ _ _) wd_872 wd_50 wd_869 wd_870 wd_871 (by decide +kernel) (by decide) rfl (by decide) Z.k55 rfl rfl rfl (Nat.le_of_ble_eq_true rfl) Z.cs dL_law_403 rfl (fun v1c σ1c q1c => ?_)
  obtain ⟨rfl, hR2, hF2⟩ := q1c
  refine jl_icmp_eq Z.F (tgt := 901) dL_law_406 (by decide) rfl (fun _ => ?_) (fun qn => absurd rfl qn)
  exact kont _ (o_builds A (xs (ii + 1)) (xs (ii + 2)) (xs (ii + 3)) (xs (ii + 4))).2 (AI_builds hA _ _ _ _) (CR_M hC1 hF2) hR2
theorem lwc_9 {X : Cx} {b L ii : Nat} {xs : Nat → Int32} {σ : St} {A : Ab} (Z : LW X b L xs) (hL : L ≤ 2560) (hii : ii + 5 ≤ L) (hA : AI A) (hC : CR σ A) (hR : MR σ A) (kont : ∀ (σz : St) (Az : Ab), AI Az → CR σz Az → MR σz Az → JL X 69 3309 901 (lvL X b ii) [] σz) : JL X 69 3309 411 (lvL X b ii) [] σ := by
  refine jl_aload_n Z.F dL_law_411 rfl rfl ?_
  refine jl_arg Z hL hii (j := 1) (by decide) (by decide) dL_law_412 dL_law_413 dL_law_414 dL_law_415 dL_law_416 rfl ?_
  refine jl_callV Z.F (C := RX5) (ci := 5) (T := TX5) (N := 10) (k := 0) (nn := 1) (As := [.int (xs (ii + 1))]) (rest := []) (c_X5_breaks Z.n5 hA hC _) wd_375 wd_44 wd_372 wd_373 wd_374 (by decide +kernel) (by decide) rfl (by decide) Z.k0 rfl rfl rfl (Nat.le_of_ble_eq_true rfl) Z.cs dL_law_417 rfl (fun v0c σ0c q0c => ?_)
  obtain ⟨rfl, hC1, hF1⟩ := q0c
  refine jl_aload_n Z.F dL_law_420 rfl rfl ?_
  refine jl_arg Z hL hii (j := 1) (by decide) (by decide) dL_law_421 dL_law_422 dL_law_423 dL_law_424 dL_law_425 rfl ?_
  refine jl_callV Z.F (C := RX6) (ci := 6) (T := TX6) (N := 30) (k := 55) (nn := 1) (As := [.int (xs (ii + 1))]) (rest := [.int (o_breaks A (xs (ii + 1))).1]) (c_X6_breaks Z.n9 hA (MR_C hR hF1) _) wd_876 wd_50 wd_873 wd_874 wd_875 (by decide +kernel) (by decide) rfl (by decide) Z.k55 rfl rfl rfl (Nat.le_of_ble_eq_true rfl) Z.cs dL_law_426 rfl (fun v1c σ1c q1c => ?_)
  obtain ⟨rfl, hR2, hF2⟩ := q1c
  refine jl_icmp_eq Z.F (tgt := 901) dL_law_429 (by decide) rfl (fun _ => ?_) (fun qn => absurd rfl qn)
  exact kont _ (o_breaks A (xs (ii + 1))).2 (AI_breaks hA _) (CR_M hC1 hF2) hR2
theorem lwc_10 {X : Cx} {b L ii : Nat} {xs : Nat → Int32} {σ : St} {A : Ab} (Z : LW X b L xs) (hL : L ≤ 2560) (hii : ii + 5 ≤ L) (hA : AI A) (hC : CR σ A) (hR : MR σ A) (kont : ∀ (σz : St) (Az : Ab), AI Az → CR σz Az → MR σz Az → JL X 69 3309 901 (lvL X b ii) [] σz) : JL X 69 3309 434 (lvL X b ii) [] σ := by
  refine jl_aload_n Z.F dL_law_434 rfl rfl ?_
  refine jl_callV Z.F (C := RX5) (ci := 5) (T := TX5) (N := 10) (k := 0) (nn := 0) (As := []) (rest := []) (c_X5_undo Z.n5 hA hC) wd_387 wd_44 wd_384 wd_385 wd_386 (by decide +kernel) (by decide) rfl (by decide) Z.k0 rfl rfl rfl (Nat.le_of_ble_eq_true rfl) Z.cs dL_law_435 rfl (fun v0c σ0c q0c => ?_)
  obtain ⟨rfl, hC1, hF1⟩ := q0c
  refine jl_aload_n Z.F dL_law_438 rfl rfl ?_
  refine jl_callV Z.F (C := RX6) (ci := 6) (T := TX6) (N := 30) (k := 55) (nn := 0) (As := []) (rest := [.int (o_undo A).1]) (c_X6_undo Z.n9 hA (MR_C hR hF1)) wd_880 wd_50 wd_877 wd_878 wd_879 (by decide +kernel) (by decide) rfl (by decide) Z.k55 rfl rfl rfl (Nat.le_of_ble_eq_true rfl) Z.cs dL_law_439 rfl (fun v1c σ1c q1c => ?_)
  obtain ⟨rfl, hR2, hF2⟩ := q1c
  refine jl_icmp_eq Z.F (tgt := 901) dL_law_442 (by decide) rfl (fun _ => ?_) (fun qn => absurd rfl qn)
  exact kont _ (o_undo A).2 (AI_undo hA) (CR_M hC1 hF2) hR2
theorem lwc_11 {X : Cx} {b L ii : Nat} {xs : Nat → Int32} {σ : St} {A : Ab} (Z : LW X b L xs) (hL : L ≤ 2560) (hii : ii + 5 ≤ L) (hA : AI A) (hC : CR σ A) (hR : MR σ A) (kont : ∀ (σz : St) (Az : Ab), AI Az → CR σz Az → MR σz Az → JL X 69 3309 901 (lvL X b ii) [] σz) : JL X 69 3309 447 (lvL X b ii) [] σ := by
  refine jl_aload_n Z.F dL_law_447 rfl rfl ?_
  refine jl_arg Z hL hii (j := 1) (by decide) (by decide) dL_law_448 dL_law_449 dL_law_450 dL_law_451 dL_law_452 rfl ?_
  refine jl_arg Z hL hii (j := 2) (by decide) (by decide) dL_law_453 dL_law_454 dL_law_455 dL_law_456 dL_law_457 rfl ?_
  refine jl_arg Z hL hii (j := 3) (by decide) (by decide) dL_law_458 dL_law_459 dL_law_460 dL_law_461 dL_law_462 rfl ?_
  refine jl_callV Z.F (C := RX5) (ci := 5) (T := TX5) (N := 10) (k := 0) (nn := 3) (As := [.int (xs (ii + 1)), .int (xs (ii + 2)), .int (xs (ii + 3))]) (rest := []) (c_X5_lit Z.n5 hA hC _ _ _) wd_395 wd_44 wd_392 wd_393 wd_394 (by decide +kernel) (by decide) rfl (by decide) Z.k0 rfl rfl rfl (Nat.le_of_ble_eq_true rfl) Z.cs dL_law_463 rfl (fun v0c σ0c q0c => ?_)
  obtain ⟨rfl, hC1, hF1⟩ := q0c
  refine jl_aload_n Z.F dL_law_466 rfl rfl ?_
  refine jl_arg Z hL hii (j := 1) (by decide) (by decide) dL_law_467 dL_law_468 dL_law_469 dL_law_470 dL_law_471 rfl ?_
  refine jl_arg Z hL hii (j := 2) (by decide) (by decide) dL_law_472 dL_law_473 dL_law_474 dL_law_475 dL_law_476 rfl ?_
  refine jl_arg Z hL hii (j := 3) (by decide) (by decide) dL_law_477 dL_law_478 dL_law_479 dL_law_480 dL_law_481 rfl ?_
  refine jl_callV Z.F (C := RX6) (ci := 6) (T := TX6) (N := 30) (k := 55) (nn := 3) (As := [.int (xs (ii + 1)), .int (xs (ii + 2)), .int (xs (ii + 3))]) (rest := [.int (o_lit A (xs (ii + 1)) (xs (ii + 2)) (xs (ii + 3))).1]) (c_X6_lit Z.n9 hA (MR_C hR hF1) _ _ _) wd_732 wd_50 wd_729 wd_730 wd_731 (by decide +kernel) (by decide) rfl (by decide) Z.k55 rfl rfl rfl (Nat.le_of_ble_eq_true rfl) Z.cs dL_law_482 rfl (fun v1c σ1c q1c => ?_)
  obtain ⟨rfl, hR2, hF2⟩ := q1c
  refine jl_icmp_eq Z.F (tgt := 901) dL_law_485 (by decide) rfl (fun _ => ?_) (fun qn => absurd rfl qn)
  exact kont _ (o_lit A (xs (ii + 1)) (xs (ii + 2)) (xs (ii + 3))).2 hA (CR_M hC1 hF2) hR2
theorem lwc_12 {X : Cx} {b L ii : Nat} {xs : Nat → Int32} {σ : St} {A : Ab} (Z : LW X b L xs) (hL : L ≤ 2560) (hii : ii + 5 ≤ L) (hA : AI A) (hC : CR σ A) (hR : MR σ A) (kont : ∀ (σz : St) (Az : Ab), AI Az → CR σz Az → MR σz Az → JL X 69 3309 901 (lvL X b ii) [] σz) : JL X 69 3309 490 (lvL X b ii) [] σ := by
  refine jl_aload_n Z.F dL_law_490 rfl rfl ?_
  refine jl_arg Z hL hii (j := 1) (by decide) (by decide) dL_law_491 dL_law_492 dL_law_493 dL_law_494 dL_law_495 rfl ?_
  refine jl_arg Z hL hii (j := 2) (by decide) (by decide) dL_law_496 dL_law_497 dL_law_498 dL_law_499 dL_law_500 rfl ?_
  refine jl_callV Z.F (C := RX5) (ci := 5) (T := TX5) (N := 10) (k := 0) (nn := 2) (As := [.int (xs (ii + 1)), .int (xs (ii + 2))]) (rest := []) (c_X5_by Z.n5 hA hC _ _) wd_406 wd_44 wd_403 wd_404 wd_405 (by decide +kernel) (by decide) rfl (by decide) Z.k0 rfl rfl rfl (Nat.le_of_ble_eq_true rfl) Z.cs dL_law_501 rfl (fun v0c σ0c q0c => ?_)
  obtain ⟨rfl, hC1, hF1⟩ := q0c
  refine jl_aload_n Z.F dL_law_504 rfl rfl ?_
  refine jl_arg Z hL hii (j := 1) (by decide) (by decide) dL_law_505 dL_law_506 dL_law_507 dL_law_508 dL_law_509 rfl ?_
  refine jl_arg Z hL hii (j := 2) (by decide) (by decide) dL_law_510 dL_law_511 dL_law_512 dL_law_513 dL_law_514 rfl ?_
  refine jl_callV Z.F (C := RX6) (ci := 6) (T := TX6) (N := 30) (k := 55) (nn := 2) (As := [.int (xs (ii + 1)), .int (xs (ii + 2))]) (rest := [.int (o_by A (xs (ii + 1)) (xs (ii + 2))).1]) (c_X6_by Z.n9 hA (MR_C hR hF1) _ _) wd_752 wd_50 wd_749 wd_750 wd_751 (by decide +kernel) (by decide) rfl (by decide) Z.k55 rfl rfl rfl (Nat.le_of_ble_eq_true rfl) Z.cs dL_law_515 rfl (fun v1c σ1c q1c => ?_)
  obtain ⟨rfl, hR2, hF2⟩ := q1c
  refine jl_icmp_eq Z.F (tgt := 901) dL_law_518 (by decide) rfl (fun _ => ?_) (fun qn => absurd rfl qn)
  exact kont _ (o_by A (xs (ii + 1)) (xs (ii + 2))).2 hA (CR_M hC1 hF2) hR2
theorem lwc_13 {X : Cx} {b L ii : Nat} {xs : Nat → Int32} {σ : St} {A : Ab} (Z : LW X b L xs) (hL : L ≤ 2560) (hii : ii + 5 ≤ L) (hA : AI A) (hC : CR σ A) (hR : MR σ A) (kont : ∀ (σz : St) (Az : Ab), AI Az → CR σz Az → MR σz Az → JL X 69 3309 901 (lvL X b ii) [] σz) : JL X 69 3309 523 (lvL X b ii) [] σ := by
  refine jl_aload_n Z.F dL_law_523 rfl rfl ?_
  refine jl_arg Z hL hii (j := 1) (by decide) (by decide) dL_law_524 dL_law_525 dL_law_526 dL_law_527 dL_law_528 rfl ?_
  refine jl_callV Z.F (C := RX5) (ci := 5) (T := TX5) (N := 10) (k := 0) (nn := 1) (As := [.int (xs (ii + 1))]) (rest := []) (c_X5_lights Z.n5 hA hC _) wd_422 wd_44 wd_419 wd_420 wd_421 (by decide +kernel) (by decide) rfl (by decide) Z.k0 rfl rfl rfl (Nat.le_of_ble_eq_true rfl) Z.cs dL_law_529 rfl (fun v0c σ0c q0c => ?_)
  obtain ⟨rfl, hC1, hF1⟩ := q0c
  refine jl_aload_n Z.F dL_law_532 rfl rfl ?_
  refine jl_arg Z hL hii (j := 1) (by decide) (by decide) dL_law_533 dL_law_534 dL_law_535 dL_law_536 dL_law_537 rfl ?_
  refine jl_callV Z.F (C := RX6) (ci := 6) (T := TX6) (N := 30) (k := 55) (nn := 1) (As := [.int (xs (ii + 1))]) (rest := [.int (o_lights A (xs (ii + 1))).1]) (c_X6_lights Z.n9 hA (MR_C hR hF1) _) wd_764 wd_50 wd_761 wd_762 wd_763 (by decide +kernel) (by decide) rfl (by decide) Z.k55 rfl rfl rfl (Nat.le_of_ble_eq_true rfl) Z.cs dL_law_538 rfl (fun v1c σ1c q1c => ?_)
  obtain ⟨rfl, hR2, hF2⟩ := q1c
  refine jl_icmp_eq Z.F (tgt := 901) dL_law_541 (by decide) rfl (fun _ => ?_) (fun qn => absurd rfl qn)
  exact kont _ (o_lights A (xs (ii + 1))).2 hA (CR_M hC1 hF2) hR2
theorem lwc_14 {X : Cx} {b L ii : Nat} {xs : Nat → Int32} {σ : St} {A : Ab} (Z : LW X b L xs) (hL : L ≤ 2560) (hii : ii + 5 ≤ L) (hA : AI A) (hC : CR σ A) (hR : MR σ A) (kont : ∀ (σz : St) (Az : Ab), AI Az → CR σz Az → MR σz Az → JL X 69 3309 901 (lvL X b ii) [] σz) : JL X 69 3309 546 (lvL X b ii) [] σ := by
  refine jl_aload_n Z.F dL_law_546 rfl rfl ?_
  refine jl_callV Z.F (C := RX5) (ci := 5) (T := TX5) (N := 10) (k := 0) (nn := 0) (As := []) (rest := []) (c_X5_all Z.n5 hA hC) wd_434 wd_44 wd_431 wd_432 wd_433 (by decide +kernel) (by decide) rfl (by decide) Z.k0 rfl rfl rfl (Nat.le_of_ble_eq_true rfl) Z.cs dL_law_547 rfl (fun v0c σ0c q0c => ?_)
  obtain ⟨rfl, hC1, hF1⟩ := q0c
  refine jl_aload_n Z.F dL_law_550 rfl rfl ?_
  refine jl_callV Z.F (C := RX6) (ci := 6) (T := TX6) (N := 30) (k := 55) (nn := 0) (As := []) (rest := [.int (o_all A).1]) (c_X6_all Z.n9 hA (MR_C hR hF1)) wd_768 wd_50 wd_765 wd_766 wd_767 (by decide +kernel) (by decide) rfl (by decide) Z.k55 rfl rfl rfl (Nat.le_of_ble_eq_true rfl) Z.cs dL_law_551 rfl (fun v1c σ1c q1c => ?_)
  obtain ⟨rfl, hR2, hF2⟩ := q1c
  refine jl_icmp_eq Z.F (tgt := 901) dL_law_554 (by decide) rfl (fun _ => ?_) (fun qn => absurd rfl qn)
  exact kont _ (o_all A).2 hA (CR_M hC1 hF2) hR2
theorem lwc_15 {X : Cx} {b L ii : Nat} {xs : Nat → Int32} {σ : St} {A : Ab} (Z : LW X b L xs) (hL : L ≤ 2560) (hii : ii + 5 ≤ L) (hA : AI A) (hC : CR σ A) (hR : MR σ A) (kont : ∀ (σz : St) (Az : Ab), AI Az → CR σz Az → MR σz Az → JL X 69 3309 901 (lvL X b ii) [] σz) : JL X 69 3309 559 (lvL X b ii) [] σ := by
  refine jl_aload_n Z.F dL_law_559 rfl rfl ?_
  refine jl_arg Z hL hii (j := 1) (by decide) (by decide) dL_law_560 dL_law_561 dL_law_562 dL_law_563 dL_law_564 rfl ?_
  refine jl_callV Z.F (C := RX5) (ci := 5) (T := TX5) (N := 10) (k := 0) (nn := 1) (As := [.int (xs (ii + 1))]) (rest := []) (c_X5_events Z.n5 hA hC _) wd_439 wd_44 wd_436 wd_437 wd_438 (by decide +kernel) (by decide) rfl (by decide) Z.k0 rfl rfl rfl (Nat.le_of_ble_eq_true rfl) Z.cs dL_law_565 rfl (fun v0c σ0c q0c => ?_)
  obtain ⟨rfl, hC1, hF1⟩ := q0c
  refine jl_aload_n Z.F dL_law_568 rfl rfl ?_
  refine jl_arg Z hL hii (j := 1) (by decide) (by decide) dL_law_569 dL_law_570 dL_law_571 dL_law_572 dL_law_573 rfl ?_
  refine jl_callV Z.F (C := RX6) (ci := 6) (T := TX6) (N := 30) (k := 55) (nn := 1) (As := [.int (xs (ii + 1))]) (rest := [.int (o_events A (xs (ii + 1))).1]) (c_X6_events Z.n9 hA (MR_C hR hF1) _) wd_776 wd_50 wd_773 wd_774 wd_775 (by decide +kernel) (by decide) rfl (by decide) Z.k55 rfl rfl rfl (Nat.le_of_ble_eq_true rfl) Z.cs dL_law_574 rfl (fun v1c σ1c q1c => ?_)
  obtain ⟨rfl, hR2, hF2⟩ := q1c
  refine jl_icmp_eq Z.F (tgt := 901) dL_law_577 (by decide) rfl (fun _ => ?_) (fun qn => absurd rfl qn)
  exact kont _ (o_events A (xs (ii + 1))).2 hA (CR_M hC1 hF2) hR2
theorem lwc_16 {X : Cx} {b L ii : Nat} {xs : Nat → Int32} {σ : St} {A : Ab} (Z : LW X b L xs) (hL : L ≤ 2560) (hii : ii + 5 ≤ L) (hA : AI A) (hC : CR σ A) (hR : MR σ A) (kont : ∀ (σz : St) (Az : Ab), AI Az → CR σz Az → MR σz Az → JL X 69 3309 901 (lvL X b ii) [] σz) : JL X 69 3309 582 (lvL X b ii) [] σ := by
  refine jl_aload_n Z.F dL_law_582 rfl rfl ?_
  refine jl_arg Z hL hii (j := 1) (by decide) (by decide) dL_law_583 dL_law_584 dL_law_585 dL_law_586 dL_law_587 rfl ?_
  refine jl_arg Z hL hii (j := 2) (by decide) (by decide) dL_law_588 dL_law_589 dL_law_590 dL_law_591 dL_law_592 rfl ?_
  refine jl_arg Z hL hii (j := 3) (by decide) (by decide) dL_law_593 dL_law_594 dL_law_595 dL_law_596 dL_law_597 rfl ?_
  refine jl_callV Z.F (C := RX5) (ci := 5) (T := TX5) (N := 10) (k := 0) (nn := 3) (As := [.int (xs (ii + 1)), .int (xs (ii + 2)), .int (xs (ii + 3))]) (rest := []) (c_X5_event Z.n5 hA hC _ _ _) wd_465 wd_44 wd_462 wd_463 wd_464 (by decide +kernel) (by decide) rfl (by decide) Z.k0 rfl rfl rfl (Nat.le_of_ble_eq_true rfl) Z.cs dL_law_598 rfl (fun v0c σ0c q0c => ?_)
  obtain ⟨rfl, hC1, hF1⟩ := q0c
  refine jl_aload_n Z.F dL_law_601 rfl rfl ?_
  refine jl_arg Z hL hii (j := 1) (by decide) (by decide) dL_law_602 dL_law_603 dL_law_604 dL_law_605 dL_law_606 rfl ?_
  refine jl_arg Z hL hii (j := 2) (by decide) (by decide) dL_law_607 dL_law_608 dL_law_609 dL_law_610 dL_law_611 rfl ?_
  refine jl_arg Z hL hii (j := 3) (by decide) (by decide) dL_law_612 dL_law_613 dL_law_614 dL_law_615 dL_law_616 rfl ?_
  refine jl_callV Z.F (C := RX6) (ci := 6) (T := TX6) (N := 30) (k := 55) (nn := 3) (As := [.int (xs (ii + 1)), .int (xs (ii + 2)), .int (xs (ii + 3))]) (rest := [.int (o_event A (xs (ii + 1)) (xs (ii + 2)) (xs (ii + 3))).1]) (c_X6_event Z.n9 hA (MR_C hR hF1) _ _ _) wd_797 wd_50 wd_794 wd_795 wd_796 (by decide +kernel) (by decide) rfl (by decide) Z.k55 rfl rfl rfl (Nat.le_of_ble_eq_true rfl) Z.cs dL_law_617 rfl (fun v1c σ1c q1c => ?_)
  obtain ⟨rfl, hR2, hF2⟩ := q1c
  refine jl_icmp_eq Z.F (tgt := 901) dL_law_620 (by decide) rfl (fun _ => ?_) (fun qn => absurd rfl qn)
  exact kont _ (o_event A (xs (ii + 1)) (xs (ii + 2)) (xs (ii + 3))).2 hA (CR_M hC1 hF2) hR2
theorem lwc_17 {X : Cx} {b L ii : Nat} {xs : Nat → Int32} {σ : St} {A : Ab} (Z : LW X b L xs) (hL : L ≤ 2560) (hii : ii + 5 ≤ L) (hA : AI A) (hC : CR σ A) (hR : MR σ A) (kont : ∀ (σz : St) (Az : Ab), AI Az → CR σz Az → MR σz Az → JL X 69 3309 901 (lvL X b ii) [] σz) : JL X 69 3309 625 (lvL X b ii) [] σ := by
  refine jl_aload_n Z.F dL_law_625 rfl rfl ?_
  refine jl_arg Z hL hii (j := 1) (by decide) (by decide) dL_law_626 dL_law_627 dL_law_628 dL_law_629 dL_law_630 rfl ?_
  refine jl_arg Z hL hii (j := 2) (by decide) (by decide) dL_law_631 dL_law_632 dL_law_633 dL_law_634 dL_law_635 rfl ?_
  refine jl_arg Z hL hii (j := 3) (by decide) (by decide) dL_law_636 dL_law_637 dL_law_638 dL_law_639 dL_law_640 rfl ?_
  refine jl_callV Z.F (C := RX5) (ci := 5) (T := TX5) (N := 10) (k := 0) (nn := 3) (As := [.int (xs (ii + 1)), .int (xs (ii + 2)), .int (xs (ii + 3))]) (rest := []) (c_X5_sector Z.n5 hA hC _ _ _) wd_469 wd_44 wd_466 wd_467 wd_468 (by decide +kernel) (by decide) rfl (by decide) Z.k0 rfl rfl rfl (Nat.le_of_ble_eq_true rfl) Z.cs dL_law_641 rfl (fun v0c σ0c q0c => ?_)
  obtain ⟨rfl, hC1, hF1⟩ := q0c
  refine jl_aload_n Z.F dL_law_644 rfl rfl ?_
  refine jl_arg Z hL hii (j := 1) (by decide) (by decide) dL_law_645 dL_law_646 dL_law_647 dL_law_648 dL_law_649 rfl ?_
  refine jl_arg Z hL hii (j := 2) (by decide) (by decide) dL_law_650 dL_law_651 dL_law_652 dL_law_653 dL_law_654 rfl ?_
  refine jl_arg Z hL hii (j := 3) (by decide) (by decide) dL_law_655 dL_law_656 dL_law_657 dL_law_658 dL_law_659 rfl ?_
  refine jl_callV Z.F (C := RX6) (ci := 6) (T := TX6) (N := 30) (k := 55) (nn := 3) (As := [.int (xs (ii + 1)), .int (xs (ii + 2)), .int (xs (ii + 3))]) (rest := [.int (o_sector A (xs (ii + 1)) (xs (ii + 2)) (xs (ii + 3))).1]) (c_X6_sector Z.n9 hA (MR_C hR hF1) _ _ _) wd_801 wd_50 wd_798 wd_799 wd_800 (by decide +kernel) (by decide) rfl (by decide) Z.k55 rfl rfl rfl (Nat.le_of_ble_eq_true rfl) Z.cs dL_law_660 rfl (fun v1c σ1c q1c => ?_)
  obtain ⟨rfl, hR2, hF2⟩ := q1c
  refine jl_icmp_eq Z.F (tgt := 901) dL_law_663 (by decide) rfl (fun _ => ?_) (fun qn => absurd rfl qn)
  exact kont _ (o_sector A (xs (ii + 1)) (xs (ii + 2)) (xs (ii + 3))).2 hA (CR_M hC1 hF2) hR2
theorem lwc_18 {X : Cx} {b L ii : Nat} {xs : Nat → Int32} {σ : St} {A : Ab} (Z : LW X b L xs) (hL : L ≤ 2560) (hii : ii + 5 ≤ L) (hA : AI A) (hC : CR σ A) (hR : MR σ A) (kont : ∀ (σz : St) (Az : Ab), AI Az → CR σz Az → MR σz Az → JL X 69 3309 901 (lvL X b ii) [] σz) : JL X 69 3309 668 (lvL X b ii) [] σ := by
  refine jl_aload_n Z.F dL_law_668 rfl rfl ?_
  refine jl_arg Z hL hii (j := 1) (by decide) (by decide) dL_law_669 dL_law_670 dL_law_671 dL_law_672 dL_law_673 rfl ?_
  refine jl_callV Z.F (C := RX5) (ci := 5) (T := TX5) (N := 10) (k := 0) (nn := 1) (As := [.int (xs (ii + 1))]) (rest := []) (c_X5_walls Z.n5 hA hC _) wd_493 wd_44 wd_490 wd_491 wd_492 (by decide +kernel) (by decide) rfl (by decide) Z.k0 rfl rfl rfl (Nat.le_of_ble_eq_true rfl) Z.cs dL_law_674 rfl (fun v0c σ0c q0c => ?_)
  obtain ⟨rfl, hC1, hF1⟩ := q0c
  refine jl_aload_n Z.F dL_law_677 rfl rfl ?_
  refine jl_arg Z hL hii (j := 1) (by decide) (by decide) dL_law_678 dL_law_679 dL_law_680 dL_law_681 dL_law_682 rfl ?_
  refine jl_callV Z.F (C := RX6) (ci := 6) (T := TX6) (N := 30) (k := 55) (nn := 1) (As := [.int (xs (ii + 1))]) (rest := [.int (o_walls A (xs (ii + 1))).1]) (c_X6_walls Z.n9 hA (MR_C hR hF1) _) wd_821 wd_50 wd_818 wd_819 wd_820 (by decide +kernel) (by decide) rfl (by decide) Z.k55 rfl rfl rfl (Nat.le_of_ble_eq_true rfl) Z.cs dL_law_683 rfl (fun v1c σ1c q1c => ?_)
  obtain ⟨rfl, hR2, hF2⟩ := q1c
  refine jl_icmp_eq Z.F (tgt := 901) dL_law_686 (by decide) rfl (fun _ => ?_) (fun qn => absurd rfl qn)
  exact kont _ (o_walls A (xs (ii + 1))).2 hA (CR_M hC1 hF2) hR2
theorem lwc_19 {X : Cx} {b L ii : Nat} {xs : Nat → Int32} {σ : St} {A : Ab} (Z : LW X b L xs) (hL : L ≤ 2560) (hii : ii + 5 ≤ L) (hA : AI A) (hC : CR σ A) (hR : MR σ A) (kont : ∀ (σz : St) (Az : Ab), AI Az → CR σz Az → MR σz Az → JL X 69 3309 901 (lvL X b ii) [] σz) : JL X 69 3309 691 (lvL X b ii) [] σ := by
  refine jl_aload_n Z.F dL_law_691 rfl rfl ?_
  refine jl_callV Z.F (C := RX5) (ci := 5) (T := TX5) (N := 10) (k := 0) (nn := 0) (As := []) (rest := []) (c_X5_fewest Z.n5 hA hC) wd_497 wd_44 wd_494 wd_495 wd_496 (by decide +kernel) (by decide) rfl (by decide) Z.k0 rfl rfl rfl (Nat.le_of_ble_eq_true rfl) Z.cs dL_law_692 rfl (fun v0c σ0c q0c => ?_)
  obtain ⟨rfl, hC1, hF1⟩ := q0c
  refine jl_aload_n Z.F dL_law_695 rfl rfl ?_
  refine jl_callV Z.F (C := RX6) (ci := 6) (T := TX6) (N := 30) (k := 55) (nn := 0) (As := []) (rest := [.int (o_fewest A).1]) (c_X6_fewest Z.n9 hA (MR_C hR hF1)) wd_825 wd_50 wd_822 wd_823 wd_824 (by decide +kernel) (by decide) rfl (by decide) Z.k55 rfl rfl rfl (Nat.le_of_ble_eq_true rfl) Z.cs dL_law_696 rfl (fun v1c σ1c q1c => ?_)
  obtain ⟨rfl, hR2, hF2⟩ := q1c
  refine jl_icmp_eq Z.F (tgt := 901) dL_law_699 (by decide) rfl (fun _ => ?_) (fun qn => absurd rfl qn)
  exact kont _ (o_fewest A).2 hA (CR_M hC1 hF2) hR2
theorem lwc_20 {X : Cx} {b L ii : Nat} {xs : Nat → Int32} {σ : St} {A : Ab} (Z : LW X b L xs) (hL : L ≤ 2560) (hii : ii + 5 ≤ L) (hA : AI A) (hC : CR σ A) (hR : MR σ A) (kont : ∀ (σz : St) (Az : Ab), AI Az → CR σz Az → MR σz Az → JL X 69 3309 901 (lvL X b ii) [] σz) : JL X 69 3309 704 (lvL X b ii) [] σ := by
  refine jl_aload_n Z.F dL_law_704 rfl rfl ?_
  refine jl_arg Z hL hii (j := 1) (by decide) (by decide) dL_law_705 dL_law_706 dL_law_707 dL_law_708 dL_law_709 rfl ?_
  refine jl_callV Z.F (C := RX5) (ci := 5) (T := TX5) (N := 10) (k := 0) (nn := 1) (As := [.int (xs (ii + 1))]) (rest := []) (c_X5_best Z.n5 hA hC _) wd_512 wd_44 wd_509 wd_510 wd_511 (by decide +kernel) (by decide) rfl (by decide) Z.k0 rfl rfl rfl (Nat.le_of_ble_eq_true rfl) Z.cs dL_law_710 rfl (fun v0c σ0c q0c => ?_)
  obtain ⟨rfl, hC1, hF1⟩ := q0c
  refine jl_aload_n Z.F dL_law_713 rfl rfl ?_
  refine jl_arg Z hL hii (j := 1) (by decide) (by decide) dL_law_714 dL_law_715 dL_law_716 dL_law_717 dL_law_718 rfl ?_
  refine jl_callV Z.F (C := RX6) (ci := 6) (T := TX6) (N := 30) (k := 55) (nn := 1) (As := [.int (xs (ii + 1))]) (rest := [.int (o_best A (xs (ii + 1))).1]) (c_X6_best Z.n9 hA (MR_C hR hF1) _) wd_840 wd_50 wd_837 wd_838 wd_839 (by decide +kernel) (by decide) rfl (by decide) Z.k55 rfl rfl rfl (Nat.le_of_ble_eq_true rfl) Z.cs dL_law_719 rfl (fun v1c σ1c q1c => ?_)
  obtain ⟨rfl, hR2, hF2⟩ := q1c
  refine jl_icmp_eq Z.F (tgt := 901) dL_law_722 (by decide) rfl (fun _ => ?_) (fun qn => absurd rfl qn)
  exact kont _ (o_best A (xs (ii + 1))).2 hA (CR_M hC1 hF2) hR2
theorem lwc_21 {X : Cx} {b L ii : Nat} {xs : Nat → Int32} {σ : St} {A : Ab} (Z : LW X b L xs) (hL : L ≤ 2560) (hii : ii + 5 ≤ L) (hA : AI A) (hC : CR σ A) (hR : MR σ A) (kont : ∀ (σz : St) (Az : Ab), AI Az → CR σz Az → MR σz Az → JL X 69 3309 901 (lvL X b ii) [] σz) : JL X 69 3309 727 (lvL X b ii) [] σ := by
  refine jl_aload_n Z.F dL_law_727 rfl rfl ?_
  refine jl_arg Z hL hii (j := 1) (by decide) (by decide) dL_law_728 dL_law_729 dL_law_730 dL_law_731 dL_law_732 rfl ?_
  refine jl_callV Z.F (C := RX5) (ci := 5) (T := TX5) (N := 10) (k := 0) (nn := 1) (As := [.int (xs (ii + 1))]) (rest := []) (c_X5_gain Z.n5 hA hC _) wd_520 wd_44 wd_517 wd_518 wd_519 (by decide +kernel) (by decide) rfl (by decide) Z.k0 rfl rfl rfl (Nat.le_of_ble_eq_true rfl) Z.cs dL_law_733 rfl (fun v0c σ0c q0c => ?_)
  obtain ⟨rfl, hC1, hF1⟩ := q0c
  refine jl_aload_n Z.F dL_law_736 rfl rfl ?_
  refine jl_arg Z hL hii (j := 1) (by decide) (by decide) dL_law_737 dL_law_738 dL_law_739 dL_law_740 dL_law_741 rfl ?_
  refine jl_callV Z.F (C := RX6) (ci := 6) (T := TX6) (N := 30) (k := 55) (nn := 1) (As := [.int (xs (ii + 1))]) (rest := [.int (o_gain A (xs (ii + 1))).1]) (c_X6_gain Z.n9 hA (MR_C hR hF1) _) wd_848 wd_50 wd_845 wd_846 wd_847 (by decide +kernel) (by decide) rfl (by decide) Z.k55 rfl rfl rfl (Nat.le_of_ble_eq_true rfl) Z.cs dL_law_742 rfl (fun v1c σ1c q1c => ?_)
  obtain ⟨rfl, hR2, hF2⟩ := q1c
  refine jl_icmp_eq Z.F (tgt := 901) dL_law_745 (by decide) rfl (fun _ => ?_) (fun qn => absurd rfl qn)
  exact kont _ (o_gain A (xs (ii + 1))).2 hA (CR_M hC1 hF2) hR2
theorem lwc_22 {X : Cx} {b L ii : Nat} {xs : Nat → Int32} {σ : St} {A : Ab} (Z : LW X b L xs) (hL : L ≤ 2560) (hii : ii + 5 ≤ L) (hA : AI A) (hC : CR σ A) (hR : MR σ A) (kont : ∀ (σz : St) (Az : Ab), AI Az → CR σz Az → MR σz Az → JL X 69 3309 901 (lvL X b ii) [] σz) : JL X 69 3309 750 (lvL X b ii) [] σ := by
  refine jl_aload_n Z.F dL_law_750 rfl rfl ?_
  refine jl_callV Z.F (C := RX5) (ci := 5) (T := TX5) (N := 10) (k := 0) (nn := 0) (As := []) (rest := []) (c_X5_worst Z.n5 hA hC) wd_524 wd_44 wd_521 wd_522 wd_523 (by decide +kernel) (by decide) rfl (by decide) Z.k0 rfl rfl rfl (Nat.le_of_ble_eq_true rfl) Z.cs dL_law_751 rfl (fun v0c σ0c q0c => ?_)
  obtain ⟨rfl, hC1, hF1⟩ := q0c
  refine jl_aload_n Z.F dL_law_754 rfl rfl ?_
  refine jl_callV Z.F (C := RX6) (ci := 6) (T := TX6) (N := 30) (k := 55) (nn := 0) (As := []) (rest := [.int (o_worst A).1]) (c_X6_worst Z.n9 hA (MR_C hR hF1)) wd_852 wd_50 wd_849 wd_850 wd_851 (by decide +kernel) (by decide) rfl (by decide) Z.k55 rfl rfl rfl (Nat.le_of_ble_eq_true rfl) Z.cs dL_law_755 rfl (fun v1c σ1c q1c => ?_)
  obtain ⟨rfl, hR2, hF2⟩ := q1c
  refine jl_icmp_eq Z.F (tgt := 901) dL_law_758 (by decide) rfl (fun _ => ?_) (fun qn => absurd rfl qn)
  exact kont _ (o_worst A).2 hA (CR_M hC1 hF2) hR2
theorem lwc_23 {X : Cx} {b L ii : Nat} {xs : Nat → Int32} {σ : St} {A : Ab} (Z : LW X b L xs) (hL : L ≤ 2560) (hii : ii + 5 ≤ L) (hA : AI A) (hC : CR σ A) (hR : MR σ A) (kont : ∀ (σz : St) (Az : Ab), AI Az → CR σz Az → MR σz Az → JL X 69 3309 901 (lvL X b ii) [] σz) : JL X 69 3309 763 (lvL X b ii) [] σ := by
  refine jl_aload_n Z.F dL_law_763 rfl rfl ?_
  refine jl_arg Z hL hii (j := 1) (by decide) (by decide) dL_law_764 dL_law_765 dL_law_766 dL_law_767 dL_law_768 rfl ?_
  refine jl_arg Z hL hii (j := 2) (by decide) (by decide) dL_law_769 dL_law_770 dL_law_771 dL_law_772 dL_law_773 rfl ?_
  refine jl_arg Z hL hii (j := 3) (by decide) (by decide) dL_law_774 dL_law_775 dL_law_776 dL_law_777 dL_law_778 rfl ?_
  refine jl_callV Z.F (C := RX5) (ci := 5) (T := TX5) (N := 10) (k := 0) (nn := 3) (As := [.int (xs (ii + 1)), .int (xs (ii + 2)), .int (xs (ii + 3))]) (rest := []) (c_X5_sees Z.n5 hA hC _ _ _) wd_528 wd_44 wd_525 wd_526 wd_527 (by decide +kernel) (by decide) rfl (by decide) Z.k0 rfl rfl rfl (Nat.le_of_ble_eq_true rfl) Z.cs dL_law_779 rfl (fun v0c σ0c q0c => ?_)
  obtain ⟨rfl, hC1, hF1⟩ := q0c
  refine jl_aload_n Z.F dL_law_782 rfl rfl ?_
  refine jl_arg Z hL hii (j := 1) (by decide) (by decide) dL_law_783 dL_law_784 dL_law_785 dL_law_786 dL_law_787 rfl ?_
  refine jl_arg Z hL hii (j := 2) (by decide) (by decide) dL_law_788 dL_law_789 dL_law_790 dL_law_791 dL_law_792 rfl ?_
  refine jl_arg Z hL hii (j := 3) (by decide) (by decide) dL_law_793 dL_law_794 dL_law_795 dL_law_796 dL_law_797 rfl ?_
  refine jl_callV Z.F (C := RX6) (ci := 6) (T := TX6) (N := 30) (k := 55) (nn := 3) (As := [.int (xs (ii + 1)), .int (xs (ii + 2)), .int (xs (ii + 3))]) (rest := [.int (o_sees A (xs (ii + 1)) (xs (ii + 2)) (xs (ii + 3))).1]) (c_X6_sees Z.n9 hA (MR_C hR hF1) _ _ _) wd_884 wd_50 wd_881 wd_882 wd_883 (by decide +kernel) (by decide) rfl (by decide) Z.k55 rfl rfl rfl (Nat.le_of_ble_eq_true rfl) Z.cs dL_law_798 rfl (fun v1c σ1c q1c => ?_)
  obtain ⟨rfl, hR2, hF2⟩ := q1c
  refine jl_icmp_eq Z.F (tgt := 901) dL_law_801 (by decide) rfl (fun _ => ?_) (fun qn => absurd rfl qn)
  exact kont _ (o_sees A (xs (ii + 1)) (xs (ii + 2)) (xs (ii + 3))).2 (AI_sees hA _ _ _) (CR_M hC1 hF2) hR2
theorem lwc_24 {X : Cx} {b L ii : Nat} {xs : Nat → Int32} {σ : St} {A : Ab} (Z : LW X b L xs) (hL : L ≤ 2560) (hii : ii + 5 ≤ L) (hA : AI A) (hC : CR σ A) (hR : MR σ A) (kont : ∀ (σz : St) (Az : Ab), AI Az → CR σz Az → MR σz Az → JL X 69 3309 901 (lvL X b ii) [] σz) : JL X 69 3309 806 (lvL X b ii) [] σ := by
  refine jl_aload_n Z.F dL_law_806 rfl rfl ?_
  refine jl_callV Z.F (C := RX5) (ci := 5) (T := TX5) (N := 10) (k := 0) (nn := 0) (As := []) (rest := []) (c_X5_forget Z.n5 hA hC) wd_532 wd_44 wd_529 wd_530 wd_531 (by decide +kernel) (by decide) rfl (by decide) Z.k0 rfl rfl rfl (Nat.le_of_ble_eq_true rfl) Z.cs dL_law_807 rfl (fun v0c σ0c q0c => ?_)
  obtain ⟨rfl, hC1, hF1⟩ := q0c
  refine jl_aload_n Z.F dL_law_810 rfl rfl ?_
  refine jl_callV Z.F (C := RX6) (ci := 6) (T := TX6) (N := 30) (k := 55) (nn := 0) (As := []) (rest := [.int (o_forget A).1]) (c_X6_forget Z.n9 hA (MR_C hR hF1)) wd_888 wd_50 wd_885 wd_886 wd_887 (by decide +kernel) (by decide) rfl (by decide) Z.k55 rfl rfl rfl (Nat.le_of_ble_eq_true rfl) Z.cs dL_law_811 rfl (fun v1c σ1c q1c => ?_)
  obtain ⟨rfl, hR2, hF2⟩ := q1c
  refine jl_icmp_eq Z.F (tgt := 901) dL_law_814 (by decide) rfl (fun _ => ?_) (fun qn => absurd rfl qn)
  exact kont _ (o_forget A).2 (AI_forget hA) (CR_M hC1 hF2) hR2
theorem lwc_25 {X : Cx} {b L ii : Nat} {xs : Nat → Int32} {σ : St} {A : Ab} (Z : LW X b L xs) (hL : L ≤ 2560) (hii : ii + 5 ≤ L) (hA : AI A) (hC : CR σ A) (hR : MR σ A) (kont : ∀ (σz : St) (Az : Ab), AI Az → CR σz Az → MR σz Az → JL X 69 3309 901 (lvL X b ii) [] σz) : JL X 69 3309 819 (lvL X b ii) [] σ := by
  refine jl_aload_n Z.F dL_law_819 rfl rfl ?_
  refine jl_callV Z.F (C := RX5) (ci := 5) (T := TX5) (N := 10) (k := 0) (nn := 0) (As := []) (rest := []) (c_X5_unseen Z.n5 hA hC) wd_536 wd_44 wd_533 wd_534 wd_535 (by decide +kernel) (by decide) rfl (by decide) Z.k0 rfl rfl rfl (Nat.le_of_ble_eq_true rfl) Z.cs dL_law_820 rfl (fun v0c σ0c q0c => ?_)
  obtain ⟨rfl, hC1, hF1⟩ := q0c
  refine jl_aload_n Z.F dL_law_823 rfl rfl ?_
  refine jl_callV Z.F (C := RX6) (ci := 6) (T := TX6) (N := 30) (k := 55) (nn := 0) (As := []) (rest := [.int (o_unseen A).1]) (c_X6_unseen Z.n9 hA (MR_C hR hF1)) wd_892 wd_50 wd_889 wd_890 wd_891 (by decide +kernel) (by decide) rfl (by decide) Z.k55 rfl rfl rfl (Nat.le_of_ble_eq_true rfl) Z.cs dL_law_824 rfl (fun v1c σ1c q1c => ?_)
  obtain ⟨rfl, hR2, hF2⟩ := q1c
  refine jl_icmp_eq Z.F (tgt := 901) dL_law_827 (by decide) rfl (fun _ => ?_) (fun qn => absurd rfl qn)
  exact kont _ (o_unseen A).2 hA (CR_M hC1 hF2) hR2
theorem lwc_26 {X : Cx} {b L ii : Nat} {xs : Nat → Int32} {σ : St} {A : Ab} (Z : LW X b L xs) (hL : L ≤ 2560) (hii : ii + 5 ≤ L) (hA : AI A) (hC : CR σ A) (hR : MR σ A) (kont : ∀ (σz : St) (Az : Ab), AI Az → CR σz Az → MR σz Az → JL X 69 3309 901 (lvL X b ii) [] σz) : JL X 69 3309 832 (lvL X b ii) [] σ := by
  refine jl_aload_n Z.F dL_law_832 rfl rfl ?_
  refine jl_arg Z hL hii (j := 1) (by decide) (by decide) dL_law_833 dL_law_834 dL_law_835 dL_law_836 dL_law_837 rfl ?_
  refine jl_callV Z.F (C := RX5) (ci := 5) (T := TX5) (N := 10) (k := 0) (nn := 1) (As := [.int (xs (ii + 1))]) (rest := []) (c_X5_keep Z.n5 hA hC _) wd_544 wd_44 wd_541 wd_542 wd_543 (by decide +kernel) (by decide) rfl (by decide) Z.k0 rfl rfl rfl (Nat.le_of_ble_eq_true rfl) Z.cs dL_law_838 rfl (fun v0c σ0c q0c => ?_)
  obtain ⟨rfl, hC1, hF1⟩ := q0c
  refine jl_aload_n Z.F dL_law_841 rfl rfl ?_
  refine jl_arg Z hL hii (j := 1) (by decide) (by decide) dL_law_842 dL_law_843 dL_law_844 dL_law_845 dL_law_846 rfl ?_
  refine jl_callV Z.F (C := RX6) (ci := 6) (T := TX6) (N := 30) (k := 55) (nn := 1) (As := [.int (xs (ii + 1))]) (rest := [.int (o_keep A (xs (ii + 1))).1]) (c_X6_keep Z.n9 hA (MR_C hR hF1) _) wd_896 wd_50 wd_893 wd_894 wd_895 (by decide +kernel) (by decide) rfl (by decide) Z.k55 rfl rfl rfl (Nat.le_of_ble_eq_true rfl) Z.cs dL_law_847 rfl (fun v1c σ1c q1c => ?_)
  obtain ⟨rfl, hR2, hF2⟩ := q1c
  refine jl_icmp_eq Z.F (tgt := 901) dL_law_850 (by decide) rfl (fun _ => ?_) (fun qn => absurd rfl qn)
  exact kont _ (o_keep A (xs (ii + 1))).2 (AI_keep hA _) (CR_M hC1 hF2) hR2
theorem lwc_27 {X : Cx} {b L ii : Nat} {xs : Nat → Int32} {σ : St} {A : Ab} (Z : LW X b L xs) (hL : L ≤ 2560) (hii : ii + 5 ≤ L) (hA : AI A) (hC : CR σ A) (hR : MR σ A) (kont : ∀ (σz : St) (Az : Ab), AI Az → CR σz Az → MR σz Az → JL X 69 3309 901 (lvL X b ii) [] σz) : JL X 69 3309 855 (lvL X b ii) [] σ := by
  refine jl_aload_n Z.F dL_law_855 rfl rfl ?_
  refine jl_arg Z hL hii (j := 1) (by decide) (by decide) dL_law_856 dL_law_857 dL_law_858 dL_law_859 dL_law_860 rfl ?_
  refine jl_callV Z.F (C := RX5) (ci := 5) (T := TX5) (N := 10) (k := 0) (nn := 1) (As := [.int (xs (ii + 1))]) (rest := []) (c_X5_back Z.n5 hA hC _) wd_548 wd_44 wd_545 wd_546 wd_547 (by decide +kernel) (by decide) rfl (by decide) Z.k0 rfl rfl rfl (Nat.le_of_ble_eq_true rfl) Z.cs dL_law_861 rfl (fun v0c σ0c q0c => ?_)
  obtain ⟨rfl, hC1, hF1⟩ := q0c
  refine jl_aload_n Z.F dL_law_864 rfl rfl ?_
  refine jl_arg Z hL hii (j := 1) (by decide) (by decide) dL_law_865 dL_law_866 dL_law_867 dL_law_868 dL_law_869 rfl ?_
  refine jl_callV Z.F (C := RX6) (ci := 6) (T := TX6) (N := 30) (k := 55) (nn := 1) (As := [.int (xs (ii + 1))]) (rest := [.int (o_back A (xs (ii + 1))).1]) (c_X6_back Z.n9 hA (MR_C hR hF1) _) wd_900 wd_50 wd_897 wd_898 wd_899 (by decide +kernel) (by decide) rfl (by decide) Z.k55 rfl rfl rfl (Nat.le_of_ble_eq_true rfl) Z.cs dL_law_870 rfl (fun v1c σ1c q1c => ?_)
  obtain ⟨rfl, hR2, hF2⟩ := q1c
  refine jl_icmp_eq Z.F (tgt := 901) dL_law_873 (by decide) rfl (fun _ => ?_) (fun qn => absurd rfl qn)
  exact kont _ (o_back A (xs (ii + 1))).2 (AI_back hA _) (CR_M hC1 hF2) hR2
theorem lwc_28 {X : Cx} {b L ii : Nat} {xs : Nat → Int32} {σ : St} {A : Ab} (Z : LW X b L xs) (hL : L ≤ 2560) (hii : ii + 5 ≤ L) (hA : AI A) (hC : CR σ A) (hR : MR σ A) (kont : ∀ (σz : St) (Az : Ab), AI Az → CR σz Az → MR σz Az → JL X 69 3309 901 (lvL X b ii) [] σz) : JL X 69 3309 878 (lvL X b ii) [] σ := by
  refine jl_aload_n Z.F dL_law_878 rfl rfl ?_
  refine jl_arg Z hL hii (j := 1) (by decide) (by decide) dL_law_879 dL_law_880 dL_law_881 dL_law_882 dL_law_883 rfl ?_
  refine jl_callV Z.F (C := RX5) (ci := 5) (T := TX5) (N := 10) (k := 0) (nn := 1) (As := [.int (xs (ii + 1))]) (rest := []) (c_X5_count Z.n5 hA hC _) wd_552 wd_44 wd_549 wd_550 wd_551 (by decide +kernel) (by decide) rfl (by decide) Z.k0 rfl rfl rfl (Nat.le_of_ble_eq_true rfl) Z.cs dL_law_884 rfl (fun v0c σ0c q0c => ?_)
  obtain ⟨rfl, hC1, hF1⟩ := q0c
  refine jl_aload_n Z.F dL_law_887 rfl rfl ?_
  refine jl_arg Z hL hii (j := 1) (by decide) (by decide) dL_law_888 dL_law_889 dL_law_890 dL_law_891 dL_law_892 rfl ?_
  refine jl_callV Z.F (C := RX6) (ci := 6) (T := TX6) (N := 30) (k := 55) (nn := 1) (As := [.int (xs (ii + 1))]) (rest := [.int (o_count A (xs (ii + 1))).1]) (c_X6_count Z.n9 hA (MR_C hR hF1) _) wd_904 wd_50 wd_901 wd_902 wd_903 (by decide +kernel) (by decide) rfl (by decide) Z.k55 rfl rfl rfl (Nat.le_of_ble_eq_true rfl) Z.cs dL_law_893 rfl (fun v1c σ1c q1c => ?_)
  obtain ⟨rfl, hR2, hF2⟩ := q1c
  refine jl_icmp_eq Z.F (tgt := 901) dL_law_896 (by decide) rfl (fun _ => ?_) (fun qn => absurd rfl qn)
  exact kont _ (o_count A (xs (ii + 1))).2 hA (CR_M hC1 hF2) hR2
