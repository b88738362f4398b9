/-! the law, case by case -/
theorem law_0 {nm : String} {B : ax_B} {D : va_G} {cA : FieldType → ClassId} {p : Program} {l : Launch} {e : Env} {s : State} {m : MethodId} {below : List Frame} {meth : Method} {c : Code} {b L : Nat} {xs : Nat → Int32} {i : Nat} {w : ax_W} (X : LwX nm B D cA p s m meth c b L xs) (hin : i + 4 ≤ L) (hn : Nx w) (kk : ∀ w', Nx w' → RLw B D cA p l e s m below meth c b 851 i [] w') : RLw B D cA p l e s m below meth c b 164 i [] w := by
  obtain ⟨fs, h0⟩ := hn.X0
  obtain ⟨r, F, dx, dm, g1, g2, hx, hm⟩ := p_write hn (xs (i + 1))
  refine rl_a1 X (pc := 164) dL_law_164 ?_
  refine rl_arg X (pc := 165) (k := 1) dL_law_165 dL_law_166 dL_law_167 (by decide) dL_law_168 dL_law_169 (by omega) ?_
  refine rl_call X (pc := 170) (As := [.int (xs (i + 1))]) (st := []) dL_law_170 ks_L_13 h0 (by rfl) g1 (by rfl) (by rfl) (by rfl) hx (fun w1 hF => ?_)
  obtain ⟨⟨fs2, h51⟩, hm1⟩ := hm w1 hF
  refine rl_a2 X (pc := 173) dL_law_173 ?_
  refine rl_arg X (pc := 174) (k := 1) dL_law_174 dL_law_175 dL_law_176 (by decide) dL_law_177 dL_law_178 (by omega) ?_
  refine rl_call X (pc := 179) (As := [.int (xs (i + 1))]) (st := [.int r]) dL_law_179 ks_L_17 h51 (by rfl) g2 (by rfl) (by rfl) (by rfl) hm1 (fun w2 hN => ?_)
  exact rl_eq X (pc := 182) dL_law_182 (tgt := 851) (by decide) (kk w2 hN)
theorem law_1 {nm : String} {B : ax_B} {D : va_G} {cA : FieldType → ClassId} {p : Program} {l : Launch} {e : Env} {s : State} {m : MethodId} {below : List Frame} {meth : Method} {c : Code} {b L : Nat} {xs : Nat → Int32} {i : Nat} {w : ax_W} (X : LwX nm B D cA p s m meth c b L xs) (hin : i + 4 ≤ L) (hn : Nx w) (kk : ∀ w', Nx w' → RLw B D cA p l e s m below meth c b 851 i [] w') : RLw B D cA p l e s m below meth c b 187 i [] w := by
  obtain ⟨fs, h0⟩ := hn.X0
  obtain ⟨r, F, dx, dm, g1, g2, hx, hm⟩ := p_wipe hn 
  refine rl_a1 X (pc := 187) dL_law_187 ?_
  refine rl_call X (pc := 188) (As := []) (st := []) dL_law_188 ks_L_18 h0 (by rfl) g1 (by rfl) (by rfl) (by rfl) hx (fun w1 hF => ?_)
  obtain ⟨⟨fs2, h51⟩, hm1⟩ := hm w1 hF
  refine rl_a2 X (pc := 191) dL_law_191 ?_
  refine rl_call X (pc := 192) (As := []) (st := [.int r]) dL_law_192 ks_L_22 h51 (by rfl) g2 (by rfl) (by rfl) (by rfl) hm1 (fun w2 hN => ?_)
  exact rl_eq X (pc := 195) dL_law_195 (tgt := 851) (by decide) (kk w2 hN)
theorem law_2 {nm : String} {B : ax_B} {D : va_G} {cA : FieldType → ClassId} {p : Program} {l : Launch} {e : Env} {s : State} {m : MethodId} {below : List Frame} {meth : Method} {c : Code} {b L : Nat} {xs : Nat → Int32} {i : Nat} {w : ax_W} (X : LwX nm B D cA p s m meth c b L xs) (hin : i + 4 ≤ L) (hn : Nx w) (kk : ∀ w', Nx w' → RLw B D cA p l e s m below meth c b 851 i [] w') : RLw B D cA p l e s m below meth c b 200 i [] w := by
  obtain ⟨fs, h0⟩ := hn.X0
  obtain ⟨r, F, dx, dm, g1, g2, hx, hm⟩ := p_fault hn 
  refine rl_a1 X (pc := 200) dL_law_200 ?_
  refine rl_call X (pc := 201) (As := []) (st := []) dL_law_201 ks_L_23 h0 (by rfl) g1 (by rfl) (by rfl) (by rfl) hx (fun w1 hF => ?_)
  obtain ⟨⟨fs2, h51⟩, hm1⟩ := hm w1 hF
  refine rl_a2 X (pc := 204) dL_law_204 ?_
  refine rl_call X (pc := 205) (As := []) (st := [.int r]) dL_law_205 ks_L_26 h51 (by rfl) g2 (by rfl) (by rfl) (by rfl) hm1 (fun w2 hN => ?_)
  exact rl_eq X (pc := 208) dL_law_208 (tgt := 851) (by decide) (kk w2 hN)
theorem law_3 {nm : String} {B : ax_B} {D : va_G} {cA : FieldType → ClassId} {p : Program} {l : Launch} {e : Env} {s : State} {m : MethodId} {below : List Frame} {meth : Method} {c : Code} {b L : Nat} {xs : Nat → Int32} {i : Nat} {w : ax_W} (X : LwX nm B D cA p s m meth c b L xs) (hin : i + 4 ≤ L) (hn : Nx w) (kk : ∀ w', Nx w' → RLw B D cA p l e s m below meth c b 851 i [] w') : RLw B D cA p l e s m below meth c b 213 i [] w := by
  obtain ⟨fs, h0⟩ := hn.X0
  obtain ⟨r, F, dx, dm, g1, g2, hx, hm⟩ := p_lay hn 
  refine rl_a1 X (pc := 213) dL_law_213 ?_
  refine rl_call X (pc := 214) (As := []) (st := []) dL_law_214 ks_L_27 h0 (by rfl) g1 (by rfl) (by rfl) (by rfl) hx (fun w1 hF => ?_)
  obtain ⟨⟨fs2, h51⟩, hm1⟩ := hm w1 hF
  refine rl_a2 X (pc := 217) dL_law_217 ?_
  refine rl_call X (pc := 218) (As := []) (st := [.int r]) dL_law_218 ks_L_30 h51 (by rfl) g2 (by rfl) (by rfl) (by rfl) hm1 (fun w2 hN => ?_)
  exact rl_eq X (pc := 221) dL_law_221 (tgt := 851) (by decide) (kk w2 hN)
theorem law_4 {nm : String} {B : ax_B} {D : va_G} {cA : FieldType → ClassId} {p : Program} {l : Launch} {e : Env} {s : State} {m : MethodId} {below : List Frame} {meth : Method} {c : Code} {b L : Nat} {xs : Nat → Int32} {i : Nat} {w : ax_W} (X : LwX nm B D cA p s m meth c b L xs) (hin : i + 4 ≤ L) (hn : Nx w) (kk : ∀ w', Nx w' → RLw B D cA p l e s m below meth c b 851 i [] w') : RLw B D cA p l e s m below meth c b 226 i [] w := by
  obtain ⟨fs, h0⟩ := hn.X0
  obtain ⟨r, F, dx, dm, g1, g2, hx, hm⟩ := p_statement hn (xs (i + 1)) (xs (i + 2))
  refine rl_a1 X (pc := 226) dL_law_226 ?_
  refine rl_arg X (pc := 227) (k := 1) dL_law_227 dL_law_228 dL_law_229 (by decide) dL_law_230 dL_law_231 (by omega) ?_
  refine rl_arg X (pc := 232) (k := 2) dL_law_232 dL_law_233 dL_law_234 (by decide) dL_law_235 dL_law_236 (by omega) ?_
  refine rl_call X (pc := 237) (As := [.int (xs (i + 1)), .int (xs (i + 2))]) (st := []) dL_law_237 ks_L_31 h0 (by rfl) g1 (by rfl) (by rfl) (by rfl) hx (fun w1 hF => ?_)
  obtain ⟨⟨fs2, h51⟩, hm1⟩ := hm w1 hF
  refine rl_a2 X (pc := 240) dL_law_240 ?_
  refine rl_arg X (pc := 241) (k := 1) dL_law_241 dL_law_242 dL_law_243 (by decide) dL_law_244 dL_law_245 (by omega) ?_
  refine rl_arg X (pc := 246) (k := 2) dL_law_246 dL_law_247 dL_law_248 (by decide) dL_law_249 dL_law_250 (by omega) ?_
  refine rl_call X (pc := 251) (As := [.int (xs (i + 1)), .int (xs (i + 2))]) (st := [.int r]) dL_law_251 ks_L_35 h51 (by rfl) g2 (by rfl) (by rfl) (by rfl) hm1 (fun w2 hN => ?_)
  exact rl_eq X (pc := 254) dL_law_254 (tgt := 851) (by decide) (kk w2 hN)
theorem law_5 {nm : String} {B : ax_B} {D : va_G} {cA : FieldType → ClassId} {p : Program} {l : Launch} {e : Env} {s : State} {m : MethodId} {below : List Frame} {meth : Method} {c : Code} {b L : Nat} {xs : Nat → Int32} {i : Nat} {w : ax_W} (X : LwX nm B D cA p s m meth c b L xs) (hin : i + 4 ≤ L) (hn : Nx w) (kk : ∀ w', Nx w' → RLw B D cA p l e s m below meth c b 851 i [] w') : RLw B D cA p l e s m below meth c b 259 i [] w := by
  obtain ⟨fs, h0⟩ := hn.X0
  obtain ⟨r, F, dx, dm, g1, g2, hx, hm⟩ := p_argue hn (xs (i + 1))
  refine rl_a1 X (pc := 259) dL_law_259 ?_
  refine rl_arg X (pc := 260) (k := 1) dL_law_260 dL_law_261 dL_law_262 (by decide) dL_law_263 dL_law_264 (by omega) ?_
  refine rl_call X (pc := 265) (As := [.int (xs (i + 1))]) (st := []) dL_law_265 ks_L_36 h0 (by rfl) g1 (by rfl) (by rfl) (by rfl) hx (fun w1 hF => ?_)
  obtain ⟨⟨fs2, h51⟩, hm1⟩ := hm w1 hF
  refine rl_a2 X (pc := 268) dL_law_268 ?_
  refine rl_arg X (pc := 269) (k := 1) dL_law_269 dL_law_270 dL_law_271 (by decide) dL_law_272 dL_law_273 (by omega) ?_
  refine rl_call X (pc := 274) (As := [.int (xs (i + 1))]) (st := [.int r]) dL_law_274 ks_L_39 h51 (by rfl) g2 (by rfl) (by rfl) (by rfl) hm1 (fun w2 hN => ?_)
  exact rl_eq X (pc := 277) dL_law_277 (tgt := 851) (by decide) (kk w2 hN)
theorem law_6 {nm : String} {B : ax_B} {D : va_G} {cA : FieldType → ClassId} {p : Program} {l : Launch} {e : Env} {s : State} {m : MethodId} {below : List Frame} {meth : Method} {c : Code} {b L : Nat} {xs : Nat → Int32} {i : Nat} {w : ax_W} (X : LwX nm B D cA p s m meth c b L xs) (hin : i + 4 ≤ L) (hn : Nx w) (kk : ∀ w', Nx w' → RLw B D cA p l e s m below meth c b 851 i [] w') : RLw B D cA p l e s m below meth c b 282 i [] w := by
  obtain ⟨fs, h0⟩ := hn.X0
  obtain ⟨r, F, dx, dm, g1, g2, hx, hm⟩ := p_drop hn 
  refine rl_a1 X (pc := 282) dL_law_282 ?_
  refine rl_call X (pc := 283) (As := []) (st := []) dL_law_283 ks_L_40 h0 (by rfl) g1 (by rfl) (by rfl) (by rfl) hx (fun w1 hF => ?_)
  obtain ⟨⟨fs2, h51⟩, hm1⟩ := hm w1 hF
  refine rl_a2 X (pc := 286) dL_law_286 ?_
  refine rl_call X (pc := 287) (As := []) (st := [.int r]) dL_law_287 ks_L_43 h51 (by rfl) g2 (by rfl) (by rfl) (by rfl) hm1 (fun w2 hN => ?_)
  exact rl_eq X (pc := 290) dL_law_290 (tgt := 851) (by decide) (kk w2 hN)
theorem law_7 {nm : String} {B : ax_B} {D : va_G} {cA : FieldType → ClassId} {p : Program} {l : Launch} {e : Env} {s : State} {m : MethodId} {below : List Frame} {meth : Method} {c : Code} {b L : Nat} {xs : Nat → Int32} {i : Nat} {w : ax_W} (X : LwX nm B D cA p s m meth c b L xs) (hin : i + 4 ≤ L) (hn : Nx w) (kk : ∀ w', Nx w' → RLw B D cA p l e s m below meth c b 851 i [] w') : RLw B D cA p l e s m below meth c b 295 i [] w := by
  obtain ⟨fs, h0⟩ := hn.X0
  obtain ⟨r, F, dx, dm, g1, g2, hx, hm⟩ := p_strike hn (xs (i + 1))
  refine rl_a1 X (pc := 295) dL_law_295 ?_
  refine rl_arg X (pc := 296) (k := 1) dL_law_296 dL_law_297 dL_law_298 (by decide) dL_law_299 dL_law_300 (by omega) ?_
  refine rl_call X (pc := 301) (As := [.int (xs (i + 1))]) (st := []) dL_law_301 ks_L_44 h0 (by rfl) g1 (by rfl) (by rfl) (by rfl) hx (fun w1 hF => ?_)
  obtain ⟨⟨fs2, h51⟩, hm1⟩ := hm w1 hF
  refine rl_a2 X (pc := 304) dL_law_304 ?_
  refine rl_arg X (pc := 305) (k := 1) dL_law_305 dL_law_306 dL_law_307 (by decide) dL_law_308 dL_law_309 (by omega) ?_
  refine rl_call X (pc := 310) (As := [.int (xs (i + 1))]) (st := [.int r]) dL_law_310 ks_L_47 h51 (by rfl) g2 (by rfl) (by rfl) (by rfl) hm1 (fun w2 hN => ?_)
  exact rl_eq X (pc := 313) dL_law_313 (tgt := 851) (by decide) (kk w2 hN)
theorem law_8 {nm : String} {B : ax_B} {D : va_G} {cA : FieldType → ClassId} {p : Program} {l : Launch} {e : Env} {s : State} {m : MethodId} {below : List Frame} {meth : Method} {c : Code} {b L : Nat} {xs : Nat → Int32} {i : Nat} {w : ax_W} (X : LwX nm B D cA p s m meth c b L xs) (hin : i + 4 ≤ L) (hn : Nx w) (kk : ∀ w', Nx w' → RLw B D cA p l e s m below meth c b 851 i [] w') : RLw B D cA p l e s m below meth c b 318 i [] w := by
  obtain ⟨fs, h0⟩ := hn.X0
  obtain ⟨r, F, dx, dm, g1, g2, hx, hm⟩ := p_undo hn 
  refine rl_a1 X (pc := 318) dL_law_318 ?_
  refine rl_call X (pc := 319) (As := []) (st := []) dL_law_319 ks_L_48 h0 (by rfl) g1 (by rfl) (by rfl) (by rfl) hx (fun w1 hF => ?_)
  obtain ⟨⟨fs2, h51⟩, hm1⟩ := hm w1 hF
  refine rl_a2 X (pc := 322) dL_law_322 ?_
  refine rl_call X (pc := 323) (As := []) (st := [.int r]) dL_law_323 ks_L_51 h51 (by rfl) g2 (by rfl) (by rfl) (by rfl) hm1 (fun w2 hN => ?_)
  exact rl_eq X (pc := 326) dL_law_326 (tgt := 851) (by decide) (kk w2 hN)
theorem law_9 {nm : String} {B : ax_B} {D : va_G} {cA : FieldType → ClassId} {p : Program} {l : Launch} {e : Env} {s : State} {m : MethodId} {below : List Frame} {meth : Method} {c : Code} {b L : Nat} {xs : Nat → Int32} {i : Nat} {w : ax_W} (X : LwX nm B D cA p s m meth c b L xs) (hin : i + 4 ≤ L) (hn : Nx w) (kk : ∀ w', Nx w' → RLw B D cA p l e s m below meth c b 851 i [] w') : RLw B D cA p l e s m below meth c b 331 i [] w := by
  obtain ⟨fs, h0⟩ := hn.X0
  obtain ⟨r, F, dx, dm, g1, g2, hx, hm⟩ := p_argued hn (xs (i + 1))
  refine rl_a1 X (pc := 331) dL_law_331 ?_
  refine rl_arg X (pc := 332) (k := 1) dL_law_332 dL_law_333 dL_law_334 (by decide) dL_law_335 dL_law_336 (by omega) ?_
  refine rl_call X (pc := 337) (As := [.int (xs (i + 1))]) (st := []) dL_law_337 ks_L_52 h0 (by rfl) g1 (by rfl) (by rfl) (by rfl) hx (fun w1 hF => ?_)
  obtain ⟨⟨fs2, h51⟩, hm1⟩ := hm w1 hF
  refine rl_a2 X (pc := 340) dL_law_340 ?_
  refine rl_arg X (pc := 341) (k := 1) dL_law_341 dL_law_342 dL_law_343 (by decide) dL_law_344 dL_law_345 (by omega) ?_
  refine rl_call X (pc := 346) (As := [.int (xs (i + 1))]) (st := [.int r]) dL_law_346 ks_L_55 h51 (by rfl) g2 (by rfl) (by rfl) (by rfl) hm1 (fun w2 hN => ?_)
  exact rl_eq X (pc := 349) dL_law_349 (tgt := 851) (by decide) (kk w2 hN)
theorem law_10 {nm : String} {B : ax_B} {D : va_G} {cA : FieldType → ClassId} {p : Program} {l : Launch} {e : Env} {s : State} {m : MethodId} {below : List Frame} {meth : Method} {c : Code} {b L : Nat} {xs : Nat → Int32} {i : Nat} {w : ax_W} (X : LwX nm B D cA p s m meth c b L xs) (hin : i + 4 ≤ L) (hn : Nx w) (kk : ∀ w', Nx w' → RLw B D cA p l e s m below meth c b 851 i [] w') : RLw B D cA p l e s m below meth c b 354 i [] w := by
  obtain ⟨fs, h0⟩ := hn.X0
  obtain ⟨r, F, dx, dm, g1, g2, hx, hm⟩ := p_next hn 
  refine rl_a1 X (pc := 354) dL_law_354 ?_
  refine rl_call X (pc := 355) (As := []) (st := []) dL_law_355 ks_L_56 h0 (by rfl) g1 (by rfl) (by rfl) (by rfl) hx (fun w1 hF => ?_)
  obtain ⟨⟨fs2, h51⟩, hm1⟩ := hm w1 hF
  refine rl_a2 X (pc := 358) dL_law_358 ?_
  refine rl_call X (pc := 359) (As := []) (st := [.int r]) dL_law_359 ks_L_59 h51 (by rfl) g2 (by rfl) (by rfl) (by rfl) hm1 (fun w2 hN => ?_)
  exact rl_eq X (pc := 362) dL_law_362 (tgt := 851) (by decide) (kk w2 hN)
theorem law_11 {nm : String} {B : ax_B} {D : va_G} {cA : FieldType → ClassId} {p : Program} {l : Launch} {e : Env} {s : State} {m : MethodId} {below : List Frame} {meth : Method} {c : Code} {b L : Nat} {xs : Nat → Int32} {i : Nat} {w : ax_W} (X : LwX nm B D cA p s m meth c b L xs) (hin : i + 4 ≤ L) (hn : Nx w) (kk : ∀ w', Nx w' → RLw B D cA p l e s m below meth c b 851 i [] w') : RLw B D cA p l e s m below meth c b 367 i [] w := by
  obtain ⟨fs, h0⟩ := hn.X0
  obtain ⟨r, F, dx, dm, g1, g2, hx, hm⟩ := p_trial hn (xs (i + 1))
  refine rl_a1 X (pc := 367) dL_law_367 ?_
  refine rl_arg X (pc := 368) (k := 1) dL_law_368 dL_law_369 dL_law_370 (by decide) dL_law_371 dL_law_372 (by omega) ?_
  refine rl_call X (pc := 373) (As := [.int (xs (i + 1))]) (st := []) dL_law_373 ks_L_60 h0 (by rfl) g1 (by rfl) (by rfl) (by rfl) hx (fun w1 hF => ?_)
  obtain ⟨⟨fs2, h51⟩, hm1⟩ := hm w1 hF
  refine rl_a2 X (pc := 376) dL_law_376 ?_
  refine rl_arg X (pc := 377) (k := 1) dL_law_377 dL_law_378 dL_law_379 (by decide) dL_law_380 dL_law_381 (by omega) ?_
  refine rl_call X (pc := 382) (As := [.int (xs (i + 1))]) (st := [.int r]) dL_law_382 ks_L_63 h51 (by rfl) g2 (by rfl) (by rfl) (by rfl) hm1 (fun w2 hN => ?_)
  exact rl_eq X (pc := 385) dL_law_385 (tgt := 851) (by decide) (kk w2 hN)
theorem law_12 {nm : String} {B : ax_B} {D : va_G} {cA : FieldType → ClassId} {p : Program} {l : Launch} {e : Env} {s : State} {m : MethodId} {below : List Frame} {meth : Method} {c : Code} {b L : Nat} {xs : Nat → Int32} {i : Nat} {w : ax_W} (X : LwX nm B D cA p s m meth c b L xs) (hin : i + 4 ≤ L) (hn : Nx w) (kk : ∀ w', Nx w' → RLw B D cA p l e s m below meth c b 851 i [] w') : RLw B D cA p l e s m below meth c b 390 i [] w := by
  obtain ⟨fs, h0⟩ := hn.X0
  obtain ⟨r, F, dx, dm, g1, g2, hx, hm⟩ := p_chains hn (xs (i + 1))
  refine rl_a1 X (pc := 390) dL_law_390 ?_
  refine rl_arg X (pc := 391) (k := 1) dL_law_391 dL_law_392 dL_law_393 (by decide) dL_law_394 dL_law_395 (by omega) ?_
  refine rl_call X (pc := 396) (As := [.int (xs (i + 1))]) (st := []) dL_law_396 ks_L_64 h0 (by rfl) g1 (by rfl) (by rfl) (by rfl) hx (fun w1 hF => ?_)
  obtain ⟨⟨fs2, h51⟩, hm1⟩ := hm w1 hF
  refine rl_a2 X (pc := 399) dL_law_399 ?_
  refine rl_arg X (pc := 400) (k := 1) dL_law_400 dL_law_401 dL_law_402 (by decide) dL_law_403 dL_law_404 (by omega) ?_
  refine rl_call X (pc := 405) (As := [.int (xs (i + 1))]) (st := [.int r]) dL_law_405 ks_L_67 h51 (by rfl) g2 (by rfl) (by rfl) (by rfl) hm1 (fun w2 hN => ?_)
  exact rl_eq X (pc := 408) dL_law_408 (tgt := 851) (by decide) (kk w2 hN)
theorem law_13 {nm : String} {B : ax_B} {D : va_G} {cA : FieldType → ClassId} {p : Program} {l : Launch} {e : Env} {s : State} {m : MethodId} {below : List Frame} {meth : Method} {c : Code} {b L : Nat} {xs : Nat → Int32} {i : Nat} {w : ax_W} (X : LwX nm B D cA p s m meth c b L xs) (hin : i + 4 ≤ L) (hn : Nx w) (kk : ∀ w', Nx w' → RLw B D cA p l e s m below meth c b 851 i [] w') : RLw B D cA p l e s m below meth c b 413 i [] w := by
  obtain ⟨fs, h0⟩ := hn.X0
  obtain ⟨r, F, dx, dm, g1, g2, hx, hm⟩ := p_shortest hn (xs (i + 1)) (xs (i + 2))
  refine rl_a1 X (pc := 413) dL_law_413 ?_
  refine rl_arg X (pc := 414) (k := 1) dL_law_414 dL_law_415 dL_law_416 (by decide) dL_law_417 dL_law_418 (by omega) ?_
  refine rl_arg X (pc := 419) (k := 2) dL_law_419 dL_law_420 dL_law_421 (by decide) dL_law_422 dL_law_423 (by omega) ?_
  refine rl_call X (pc := 424) (As := [.int (xs (i + 1)), .int (xs (i + 2))]) (st := []) dL_law_424 ks_L_68 h0 (by rfl) g1 (by rfl) (by rfl) (by rfl) hx (fun w1 hF => ?_)
  obtain ⟨⟨fs2, h51⟩, hm1⟩ := hm w1 hF
  refine rl_a2 X (pc := 427) dL_law_427 ?_
  refine rl_arg X (pc := 428) (k := 1) dL_law_428 dL_law_429 dL_law_430 (by decide) dL_law_431 dL_law_432 (by omega) ?_
  refine rl_arg X (pc := 433) (k := 2) dL_law_433 dL_law_434 dL_law_435 (by decide) dL_law_436 dL_law_437 (by omega) ?_
  refine rl_call X (pc := 438) (As := [.int (xs (i + 1)), .int (xs (i + 2))]) (st := [.int r]) dL_law_438 ks_L_71 h51 (by rfl) g2 (by rfl) (by rfl) (by rfl) hm1 (fun w2 hN => ?_)
  exact rl_eq X (pc := 441) dL_law_441 (tgt := 851) (by decide) (kk w2 hN)
theorem law_14 {nm : String} {B : ax_B} {D : va_G} {cA : FieldType → ClassId} {p : Program} {l : Launch} {e : Env} {s : State} {m : MethodId} {below : List Frame} {meth : Method} {c : Code} {b L : Nat} {xs : Nat → Int32} {i : Nat} {w : ax_W} (X : LwX nm B D cA p s m meth c b L xs) (hin : i + 4 ≤ L) (hn : Nx w) (kk : ∀ w', Nx w' → RLw B D cA p l e s m below meth c b 851 i [] w') : RLw B D cA p l e s m below meth c b 446 i [] w := by
  obtain ⟨fs, h0⟩ := hn.X0
  obtain ⟨r, F, dx, dm, g1, g2, hx, hm⟩ := p_nights hn (xs (i + 1))
  refine rl_a1 X (pc := 446) dL_law_446 ?_
  refine rl_arg X (pc := 447) (k := 1) dL_law_447 dL_law_448 dL_law_449 (by decide) dL_law_450 dL_law_451 (by omega) ?_
  refine rl_call X (pc := 452) (As := [.int (xs (i + 1))]) (st := []) dL_law_452 ks_L_72 h0 (by rfl) g1 (by rfl) (by rfl) (by rfl) hx (fun w1 hF => ?_)
  obtain ⟨⟨fs2, h51⟩, hm1⟩ := hm w1 hF
  refine rl_a2 X (pc := 455) dL_law_455 ?_
  refine rl_arg X (pc := 456) (k := 1) dL_law_456 dL_law_457 dL_law_458 (by decide) dL_law_459 dL_law_460 (by omega) ?_
  refine rl_call X (pc := 461) (As := [.int (xs (i + 1))]) (st := [.int r]) dL_law_461 ks_L_75 h51 (by rfl) g2 (by rfl) (by rfl) (by rfl) hm1 (fun w2 hN => ?_)
  exact rl_eq X (pc := 464) dL_law_464 (tgt := 851) (by decide) (kk w2 hN)
theorem law_15 {nm : String} {B : ax_B} {D : va_G} {cA : FieldType → ClassId} {p : Program} {l : Launch} {e : Env} {s : State} {m : MethodId} {below : List Frame} {meth : Method} {c : Code} {b L : Nat} {xs : Nat → Int32} {i : Nat} {w : ax_W} (X : LwX nm B D cA p s m meth c b L xs) (hin : i + 4 ≤ L) (hn : Nx w) (kk : ∀ w', Nx w' → RLw B D cA p l e s m below meth c b 851 i [] w') : RLw B D cA p l e s m below meth c b 469 i [] w := by
  obtain ⟨fs, h0⟩ := hn.X0
  obtain ⟨r, F, dx, dm, g1, g2, hx, hm⟩ := p_needed hn (xs (i + 1))
  refine rl_a1 X (pc := 469) dL_law_469 ?_
  refine rl_arg X (pc := 470) (k := 1) dL_law_470 dL_law_471 dL_law_472 (by decide) dL_law_473 dL_law_474 (by omega) ?_
  refine rl_call X (pc := 475) (As := [.int (xs (i + 1))]) (st := []) dL_law_475 ks_L_76 h0 (by rfl) g1 (by rfl) (by rfl) (by rfl) hx (fun w1 hF => ?_)
  obtain ⟨⟨fs2, h51⟩, hm1⟩ := hm w1 hF
  refine rl_a2 X (pc := 478) dL_law_478 ?_
  refine rl_arg X (pc := 479) (k := 1) dL_law_479 dL_law_480 dL_law_481 (by decide) dL_law_482 dL_law_483 (by omega) ?_
  refine rl_call X (pc := 484) (As := [.int (xs (i + 1))]) (st := [.int r]) dL_law_484 ks_L_79 h51 (by rfl) g2 (by rfl) (by rfl) (by rfl) hm1 (fun w2 hN => ?_)
  exact rl_eq X (pc := 487) dL_law_487 (tgt := 851) (by decide) (kk w2 hN)
theorem law_16 {nm : String} {B : ax_B} {D : va_G} {cA : FieldType → ClassId} {p : Program} {l : Launch} {e : Env} {s : State} {m : MethodId} {below : List Frame} {meth : Method} {c : Code} {b L : Nat} {xs : Nat → Int32} {i : Nat} {w : ax_W} (X : LwX nm B D cA p s m meth c b L xs) (hin : i + 4 ≤ L) (hn : Nx w) (kk : ∀ w', Nx w' → RLw B D cA p l e s m below meth c b 851 i [] w') : RLw B D cA p l e s m below meth c b 492 i [] w := by
  obtain ⟨fs, h0⟩ := hn.X0
  obtain ⟨r, F, dx, dm, g1, g2, hx, hm⟩ := p_forgotten hn 
  refine rl_a1 X (pc := 492) dL_law_492 ?_
  refine rl_call X (pc := 493) (As := []) (st := []) dL_law_493 ks_L_80 h0 (by rfl) g1 (by rfl) (by rfl) (by rfl) hx (fun w1 hF => ?_)
  obtain ⟨⟨fs2, h51⟩, hm1⟩ := hm w1 hF
  refine rl_a2 X (pc := 496) dL_law_496 ?_
  refine rl_call X (pc := 497) (As := []) (st := [.int r]) dL_law_497 ks_L_83 h51 (by rfl) g2 (by rfl) (by rfl) (by rfl) hm1 (fun w2 hN => ?_)
  exact rl_eq X (pc := 500) dL_law_500 (tgt := 851) (by decide) (kk w2 hN)
theorem law_17 {nm : String} {B : ax_B} {D : va_G} {cA : FieldType → ClassId} {p : Program} {l : Launch} {e : Env} {s : State} {m : MethodId} {below : List Frame} {meth : Method} {c : Code} {b L : Nat} {xs : Nat → Int32} {i : Nat} {w : ax_W} (X : LwX nm B D cA p s m meth c b L xs) (hin : i + 4 ≤ L) (hn : Nx w) (kk : ∀ w', Nx w' → RLw B D cA p l e s m below meth c b 851 i [] w') : RLw B D cA p l e s m below meth c b 505 i [] w := by
  obtain ⟨fs, h0⟩ := hn.X0
  obtain ⟨r, F, dx, dm, g1, g2, hx, hm⟩ := p_both hn (xs (i + 1)) (xs (i + 2)) (xs (i + 3))
  refine rl_a1 X (pc := 505) dL_law_505 ?_
  refine rl_arg X (pc := 506) (k := 1) dL_law_506 dL_law_507 dL_law_508 (by decide) dL_law_509 dL_law_510 (by omega) ?_
  refine rl_arg X (pc := 511) (k := 2) dL_law_511 dL_law_512 dL_law_513 (by decide) dL_law_514 dL_law_515 (by omega) ?_
  refine rl_arg X (pc := 516) (k := 3) dL_law_516 dL_law_517 dL_law_518 (by decide) dL_law_519 dL_law_520 (by omega) ?_
  refine rl_call X (pc := 521) (As := [.int (xs (i + 1)), .int (xs (i + 2)), .int (xs (i + 3))]) (st := []) dL_law_521 ks_L_84 h0 (by rfl) g1 (by rfl) (by rfl) (by rfl) hx (fun w1 hF => ?_)
  obtain ⟨⟨fs2, h51⟩, hm1⟩ := hm w1 hF
  refine rl_a2 X (pc := 524) dL_law_524 ?_
  refine rl_arg X (pc := 525) (k := 1) dL_law_525 dL_law_526 dL_law_527 (by decide) dL_law_528 dL_law_529 (by omega) ?_
  refine rl_arg X (pc := 530) (k := 2) dL_law_530 dL_law_531 dL_law_532 (by decide) dL_law_533 dL_law_534 (by omega) ?_
  refine rl_arg X (pc := 535) (k := 3) dL_law_535 dL_law_536 dL_law_537 (by decide) dL_law_538 dL_law_539 (by omega) ?_
  refine rl_call X (pc := 540) (As := [.int (xs (i + 1)), .int (xs (i + 2)), .int (xs (i + 3))]) (st := [.int r]) dL_law_540 ks_L_88 h51 (by rfl) g2 (by rfl) (by rfl) (by rfl) hm1 (fun w2 hN => ?_)
  exact rl_eq X (pc := 543) dL_law_543 (tgt := 851) (by decide) (kk w2 hN)
theorem law_18 {nm : String} {B : ax_B} {D : va_G} {cA : FieldType → ClassId} {p : Program} {l : Launch} {e : Env} {s : State} {m : MethodId} {below : List Frame} {meth : Method} {c : Code} {b L : Nat} {xs : Nat → Int32} {i : Nat} {w : ax_W} (X : LwX nm B D cA p s m meth c b L xs) (hin : i + 4 ≤ L) (hn : Nx w) (kk : ∀ w', Nx w' → RLw B D cA p l e s m below meth c b 851 i [] w') : RLw B D cA p l e s m below meth c b 548 i [] w := by
  obtain ⟨fs, h0⟩ := hn.X0
  obtain ⟨r, F, dx, dm, g1, g2, hx, hm⟩ := p_byTurns hn (xs (i + 1)) (xs (i + 2))
  refine rl_a1 X (pc := 548) dL_law_548 ?_
  refine rl_arg X (pc := 549) (k := 1) dL_law_549 dL_law_550 dL_law_551 (by decide) dL_law_552 dL_law_553 (by omega) ?_
  refine rl_arg X (pc := 554) (k := 2) dL_law_554 dL_law_555 dL_law_556 (by decide) dL_law_557 dL_law_558 (by omega) ?_
  refine rl_call X (pc := 559) (As := [.int (xs (i + 1)), .int (xs (i + 2))]) (st := []) dL_law_559 ks_L_89 h0 (by rfl) g1 (by rfl) (by rfl) (by rfl) hx (fun w1 hF => ?_)
  obtain ⟨⟨fs2, h51⟩, hm1⟩ := hm w1 hF
  refine rl_a2 X (pc := 562) dL_law_562 ?_
  refine rl_arg X (pc := 563) (k := 1) dL_law_563 dL_law_564 dL_law_565 (by decide) dL_law_566 dL_law_567 (by omega) ?_
  refine rl_arg X (pc := 568) (k := 2) dL_law_568 dL_law_569 dL_law_570 (by decide) dL_law_571 dL_law_572 (by omega) ?_
  refine rl_call X (pc := 573) (As := [.int (xs (i + 1)), .int (xs (i + 2))]) (st := [.int r]) dL_law_573 ks_L_92 h51 (by rfl) g2 (by rfl) (by rfl) (by rfl) hm1 (fun w2 hN => ?_)
  exact rl_eq X (pc := 576) dL_law_576 (tgt := 851) (by decide) (kk w2 hN)
theorem law_19 {nm : String} {B : ax_B} {D : va_G} {cA : FieldType → ClassId} {p : Program} {l : Launch} {e : Env} {s : State} {m : MethodId} {below : List Frame} {meth : Method} {c : Code} {b L : Nat} {xs : Nat → Int32} {i : Nat} {w : ax_W} (X : LwX nm B D cA p s m meth c b L xs) (hin : i + 4 ≤ L) (hn : Nx w) (kk : ∀ w', Nx w' → RLw B D cA p l e s m below meth c b 851 i [] w') : RLw B D cA p l e s m below meth c b 581 i [] w := by
  obtain ⟨fs, h0⟩ := hn.X0
  obtain ⟨r, F, dx, dm, g1, g2, hx, hm⟩ := p_days hn (xs (i + 1))
  refine rl_a1 X (pc := 581) dL_law_581 ?_
  refine rl_arg X (pc := 582) (k := 1) dL_law_582 dL_law_583 dL_law_584 (by decide) dL_law_585 dL_law_586 (by omega) ?_
  refine rl_call X (pc := 587) (As := [.int (xs (i + 1))]) (st := []) dL_law_587 ks_L_93 h0 (by rfl) g1 (by rfl) (by rfl) (by rfl) hx (fun w1 hF => ?_)
  obtain ⟨⟨fs2, h51⟩, hm1⟩ := hm w1 hF
  refine rl_a2 X (pc := 590) dL_law_590 ?_
  refine rl_arg X (pc := 591) (k := 1) dL_law_591 dL_law_592 dL_law_593 (by decide) dL_law_594 dL_law_595 (by omega) ?_
  refine rl_call X (pc := 596) (As := [.int (xs (i + 1))]) (st := [.int r]) dL_law_596 ks_L_96 h51 (by rfl) g2 (by rfl) (by rfl) (by rfl) hm1 (fun w2 hN => ?_)
  exact rl_eq X (pc := 599) dL_law_599 (tgt := 851) (by decide) (kk w2 hN)
theorem law_20 {nm : String} {B : ax_B} {D : va_G} {cA : FieldType → ClassId} {p : Program} {l : Launch} {e : Env} {s : State} {m : MethodId} {below : List Frame} {meth : Method} {c : Code} {b L : Nat} {xs : Nat → Int32} {i : Nat} {w : ax_W} (X : LwX nm B D cA p s m meth c b L xs) (hin : i + 4 ≤ L) (hn : Nx w) (kk : ∀ w', Nx w' → RLw B D cA p l e s m below meth c b 851 i [] w') : RLw B D cA p l e s m below meth c b 604 i [] w := by
  obtain ⟨fs, h0⟩ := hn.X0
  obtain ⟨r, F, dx, dm, g1, g2, hx, hm⟩ := p_who hn (xs (i + 1))
  refine rl_a1 X (pc := 604) dL_law_604 ?_
  refine rl_arg X (pc := 605) (k := 1) dL_law_605 dL_law_606 dL_law_607 (by decide) dL_law_608 dL_law_609 (by omega) ?_
  refine rl_call X (pc := 610) (As := [.int (xs (i + 1))]) (st := []) dL_law_610 ks_L_97 h0 (by rfl) g1 (by rfl) (by rfl) (by rfl) hx (fun w1 hF => ?_)
  obtain ⟨⟨fs2, h51⟩, hm1⟩ := hm w1 hF
  refine rl_a2 X (pc := 613) dL_law_613 ?_
  refine rl_arg X (pc := 614) (k := 1) dL_law_614 dL_law_615 dL_law_616 (by decide) dL_law_617 dL_law_618 (by omega) ?_
  refine rl_call X (pc := 619) (As := [.int (xs (i + 1))]) (st := [.int r]) dL_law_619 ks_L_100 h51 (by rfl) g2 (by rfl) (by rfl) (by rfl) hm1 (fun w2 hN => ?_)
  exact rl_eq X (pc := 622) dL_law_622 (tgt := 851) (by decide) (kk w2 hN)
theorem law_21 {nm : String} {B : ax_B} {D : va_G} {cA : FieldType → ClassId} {p : Program} {l : Launch} {e : Env} {s : State} {m : MethodId} {below : List Frame} {meth : Method} {c : Code} {b L : Nat} {xs : Nat → Int32} {i : Nat} {w : ax_W} (X : LwX nm B D cA p s m meth c b L xs) (hin : i + 4 ≤ L) (hn : Nx w) (kk : ∀ w', Nx w' → RLw B D cA p l e s m below meth c b 851 i [] w') : RLw B D cA p l e s m below meth c b 627 i [] w := by
  obtain ⟨fs, h0⟩ := hn.X0
  obtain ⟨r, F, dx, dm, g1, g2, hx, hm⟩ := p_fits hn (xs (i + 1))
  refine rl_a1 X (pc := 627) dL_law_627 ?_
  refine rl_arg X (pc := 628) (k := 1) dL_law_628 dL_law_629 dL_law_630 (by decide) dL_law_631 dL_law_632 (by omega) ?_
  refine rl_call X (pc := 633) (As := [.int (xs (i + 1))]) (st := []) dL_law_633 ks_L_101 h0 (by rfl) g1 (by rfl) (by rfl) (by rfl) hx (fun w1 hF => ?_)
  obtain ⟨⟨fs2, h51⟩, hm1⟩ := hm w1 hF
  refine rl_a2 X (pc := 636) dL_law_636 ?_
  refine rl_arg X (pc := 637) (k := 1) dL_law_637 dL_law_638 dL_law_639 (by decide) dL_law_640 dL_law_641 (by omega) ?_
  refine rl_call X (pc := 642) (As := [.int (xs (i + 1))]) (st := [.int r]) dL_law_642 ks_L_104 h51 (by rfl) g2 (by rfl) (by rfl) (by rfl) hm1 (fun w2 hN => ?_)
  exact rl_eq X (pc := 645) dL_law_645 (tgt := 851) (by decide) (kk w2 hN)
theorem law_22 {nm : String} {B : ax_B} {D : va_G} {cA : FieldType → ClassId} {p : Program} {l : Launch} {e : Env} {s : State} {m : MethodId} {below : List Frame} {meth : Method} {c : Code} {b L : Nat} {xs : Nat → Int32} {i : Nat} {w : ax_W} (X : LwX nm B D cA p s m meth c b L xs) (hin : i + 4 ≤ L) (hn : Nx w) (kk : ∀ w', Nx w' → RLw B D cA p l e s m below meth c b 851 i [] w') : RLw B D cA p l e s m below meth c b 650 i [] w := by
  obtain ⟨fs, h0⟩ := hn.X0
  obtain ⟨r, F, dx, dm, g1, g2, hx, hm⟩ := p_look hn (xs (i + 1)) (xs (i + 2))
  refine rl_a1 X (pc := 650) dL_law_650 ?_
  refine rl_arg X (pc := 651) (k := 1) dL_law_651 dL_law_652 dL_law_653 (by decide) dL_law_654 dL_law_655 (by omega) ?_
  refine rl_arg X (pc := 656) (k := 2) dL_law_656 dL_law_657 dL_law_658 (by decide) dL_law_659 dL_law_660 (by omega) ?_
  refine rl_call X (pc := 661) (As := [.int (xs (i + 1)), .int (xs (i + 2))]) (st := []) dL_law_661 ks_L_105 h0 (by rfl) g1 (by rfl) (by rfl) (by rfl) hx (fun w1 hF => ?_)
  obtain ⟨⟨fs2, h51⟩, hm1⟩ := hm w1 hF
  refine rl_a2 X (pc := 664) dL_law_664 ?_
  refine rl_arg X (pc := 665) (k := 1) dL_law_665 dL_law_666 dL_law_667 (by decide) dL_law_668 dL_law_669 (by omega) ?_
  refine rl_arg X (pc := 670) (k := 2) dL_law_670 dL_law_671 dL_law_672 (by decide) dL_law_673 dL_law_674 (by omega) ?_
  refine rl_call X (pc := 675) (As := [.int (xs (i + 1)), .int (xs (i + 2))]) (st := [.int r]) dL_law_675 ks_L_108 h51 (by rfl) g2 (by rfl) (by rfl) (by rfl) hm1 (fun w2 hN => ?_)
  exact rl_eq X (pc := 678) dL_law_678 (tgt := 851) (by decide) (kk w2 hN)
theorem law_23 {nm : String} {B : ax_B} {D : va_G} {cA : FieldType → ClassId} {p : Program} {l : Launch} {e : Env} {s : State} {m : MethodId} {below : List Frame} {meth : Method} {c : Code} {b L : Nat} {xs : Nat → Int32} {i : Nat} {w : ax_W} (X : LwX nm B D cA p s m meth c b L xs) (hin : i + 4 ≤ L) (hn : Nx w) (kk : ∀ w', Nx w' → RLw B D cA p l e s m below meth c b 851 i [] w') : RLw B D cA p l e s m below meth c b 683 i [] w := by
  obtain ⟨fs, h0⟩ := hn.X0
  obtain ⟨r, F, dx, dm, g1, g2, hx, hm⟩ := p_laid hn (xs (i + 1)) (xs (i + 2))
  refine rl_a1 X (pc := 683) dL_law_683 ?_
  refine rl_arg X (pc := 684) (k := 1) dL_law_684 dL_law_685 dL_law_686 (by decide) dL_law_687 dL_law_688 (by omega) ?_
  refine rl_arg X (pc := 689) (k := 2) dL_law_689 dL_law_690 dL_law_691 (by decide) dL_law_692 dL_law_693 (by omega) ?_
  refine rl_call X (pc := 694) (As := [.int (xs (i + 1)), .int (xs (i + 2))]) (st := []) dL_law_694 ks_L_109 h0 (by rfl) g1 (by rfl) (by rfl) (by rfl) hx (fun w1 hF => ?_)
  obtain ⟨⟨fs2, h51⟩, hm1⟩ := hm w1 hF
  refine rl_a2 X (pc := 697) dL_law_697 ?_
  refine rl_arg X (pc := 698) (k := 1) dL_law_698 dL_law_699 dL_law_700 (by decide) dL_law_701 dL_law_702 (by omega) ?_
  refine rl_arg X (pc := 703) (k := 2) dL_law_703 dL_law_704 dL_law_705 (by decide) dL_law_706 dL_law_707 (by omega) ?_
  refine rl_call X (pc := 708) (As := [.int (xs (i + 1)), .int (xs (i + 2))]) (st := [.int r]) dL_law_708 ks_L_112 h51 (by rfl) g2 (by rfl) (by rfl) (by rfl) hm1 (fun w2 hN => ?_)
  exact rl_eq X (pc := 711) dL_law_711 (tgt := 851) (by decide) (kk w2 hN)
theorem law_24 {nm : String} {B : ax_B} {D : va_G} {cA : FieldType → ClassId} {p : Program} {l : Launch} {e : Env} {s : State} {m : MethodId} {below : List Frame} {meth : Method} {c : Code} {b L : Nat} {xs : Nat → Int32} {i : Nat} {w : ax_W} (X : LwX nm B D cA p s m meth c b L xs) (hin : i + 4 ≤ L) (hn : Nx w) (kk : ∀ w', Nx w' → RLw B D cA p l e s m below meth c b 851 i [] w') : RLw B D cA p l e s m below meth c b 716 i [] w := by
  obtain ⟨fs, h0⟩ := hn.X0
  obtain ⟨r, F, dx, dm, g1, g2, hx, hm⟩ := p_odds hn (xs (i + 1)) (xs (i + 2)) (xs (i + 3))
  refine rl_a1 X (pc := 716) dL_law_716 ?_
  refine rl_arg X (pc := 717) (k := 1) dL_law_717 dL_law_718 dL_law_719 (by decide) dL_law_720 dL_law_721 (by omega) ?_
  refine rl_arg X (pc := 722) (k := 2) dL_law_722 dL_law_723 dL_law_724 (by decide) dL_law_725 dL_law_726 (by omega) ?_
  refine rl_arg X (pc := 727) (k := 3) dL_law_727 dL_law_728 dL_law_729 (by decide) dL_law_730 dL_law_731 (by omega) ?_
  refine rl_call X (pc := 732) (As := [.int (xs (i + 1)), .int (xs (i + 2)), .int (xs (i + 3))]) (st := []) dL_law_732 ks_L_113 h0 (by rfl) g1 (by rfl) (by rfl) (by rfl) hx (fun w1 hF => ?_)
  obtain ⟨⟨fs2, h51⟩, hm1⟩ := hm w1 hF
  refine rl_a2 X (pc := 735) dL_law_735 ?_
  refine rl_arg X (pc := 736) (k := 1) dL_law_736 dL_law_737 dL_law_738 (by decide) dL_law_739 dL_law_740 (by omega) ?_
  refine rl_arg X (pc := 741) (k := 2) dL_law_741 dL_law_742 dL_law_743 (by decide) dL_law_744 dL_law_745 (by omega) ?_
  refine rl_arg X (pc := 746) (k := 3) dL_law_746 dL_law_747 dL_law_748 (by decide) dL_law_749 dL_law_750 (by omega) ?_
  refine rl_call X (pc := 751) (As := [.int (xs (i + 1)), .int (xs (i + 2)), .int (xs (i + 3))]) (st := [.int r]) dL_law_751 ks_L_116 h51 (by rfl) g2 (by rfl) (by rfl) (by rfl) hm1 (fun w2 hN => ?_)
  exact rl_eq X (pc := 754) dL_law_754 (tgt := 851) (by decide) (kk w2 hN)
theorem law_25 {nm : String} {B : ax_B} {D : va_G} {cA : FieldType → ClassId} {p : Program} {l : Launch} {e : Env} {s : State} {m : MethodId} {below : List Frame} {meth : Method} {c : Code} {b L : Nat} {xs : Nat → Int32} {i : Nat} {w : ax_W} (X : LwX nm B D cA p s m meth c b L xs) (hin : i + 4 ≤ L) (hn : Nx w) (kk : ∀ w', Nx w' → RLw B D cA p l e s m below meth c b 851 i [] w') : RLw B D cA p l e s m below meth c b 759 i [] w := by
  obtain ⟨fs, h0⟩ := hn.X0
  obtain ⟨r, F, dx, dm, g1, g2, hx, hm⟩ := p_trialBy hn (xs (i + 1)) (xs (i + 2)) (xs (i + 3))
  refine rl_a1 X (pc := 759) dL_law_759 ?_
  refine rl_arg X (pc := 760) (k := 1) dL_law_760 dL_law_761 dL_law_762 (by decide) dL_law_763 dL_law_764 (by omega) ?_
  refine rl_arg X (pc := 765) (k := 2) dL_law_765 dL_law_766 dL_law_767 (by decide) dL_law_768 dL_law_769 (by omega) ?_
  refine rl_arg X (pc := 770) (k := 3) dL_law_770 dL_law_771 dL_law_772 (by decide) dL_law_773 dL_law_774 (by omega) ?_
  refine rl_call X (pc := 775) (As := [.int (xs (i + 1)), .int (xs (i + 2)), .int (xs (i + 3))]) (st := []) dL_law_775 ks_L_117 h0 (by rfl) g1 (by rfl) (by rfl) (by rfl) hx (fun w1 hF => ?_)
  obtain ⟨⟨fs2, h51⟩, hm1⟩ := hm w1 hF
  refine rl_a2 X (pc := 778) dL_law_778 ?_
  refine rl_arg X (pc := 779) (k := 1) dL_law_779 dL_law_780 dL_law_781 (by decide) dL_law_782 dL_law_783 (by omega) ?_
  refine rl_arg X (pc := 784) (k := 2) dL_law_784 dL_law_785 dL_law_786 (by decide) dL_law_787 dL_law_788 (by omega) ?_
  refine rl_arg X (pc := 789) (k := 3) dL_law_789 dL_law_790 dL_law_791 (by decide) dL_law_792 dL_law_793 (by omega) ?_
  refine rl_call X (pc := 794) (As := [.int (xs (i + 1)), .int (xs (i + 2)), .int (xs (i + 3))]) (st := [.int r]) dL_law_794 ks_L_120 h51 (by rfl) g2 (by rfl) (by rfl) (by rfl) hm1 (fun w2 hN => ?_)
  exact rl_eq X (pc := 797) dL_law_797 (tgt := 851) (by decide) (kk w2 hN)
theorem law_26 {nm : String} {B : ax_B} {D : va_G} {cA : FieldType → ClassId} {p : Program} {l : Launch} {e : Env} {s : State} {m : MethodId} {below : List Frame} {meth : Method} {c : Code} {b L : Nat} {xs : Nat → Int32} {i : Nat} {w : ax_W} (X : LwX nm B D cA p s m meth c b L xs) (hin : i + 4 ≤ L) (hn : Nx w) (kk : ∀ w', Nx w' → RLw B D cA p l e s m below meth c b 851 i [] w') : RLw B D cA p l e s m below meth c b 802 i [] w := by
  obtain ⟨fs, h0⟩ := hn.X0
  obtain ⟨r, F, dx, dm, g1, g2, hx, hm⟩ := p_keep hn 
  refine rl_a1 X (pc := 802) dL_law_802 ?_
  refine rl_call X (pc := 803) (As := []) (st := []) dL_law_803 ks_L_121 h0 (by rfl) g1 (by rfl) (by rfl) (by rfl) hx (fun w1 hF => ?_)
  obtain ⟨⟨fs2, h51⟩, hm1⟩ := hm w1 hF
  refine rl_a2 X (pc := 806) dL_law_806 ?_
  refine rl_call X (pc := 807) (As := []) (st := [.int r]) dL_law_807 ks_L_124 h51 (by rfl) g2 (by rfl) (by rfl) (by rfl) hm1 (fun w2 hN => ?_)
  exact rl_eq X (pc := 810) dL_law_810 (tgt := 851) (by decide) (kk w2 hN)
theorem law_27 {nm : String} {B : ax_B} {D : va_G} {cA : FieldType → ClassId} {p : Program} {l : Launch} {e : Env} {s : State} {m : MethodId} {below : List Frame} {meth : Method} {c : Code} {b L : Nat} {xs : Nat → Int32} {i : Nat} {w : ax_W} (X : LwX nm B D cA p s m meth c b L xs) (hin : i + 4 ≤ L) (hn : Nx w) (kk : ∀ w', Nx w' → RLw B D cA p l e s m below meth c b 851 i [] w') : RLw B D cA p l e s m below meth c b 815 i [] w := by
  obtain ⟨fs, h0⟩ := hn.X0
  obtain ⟨r, F, dx, dm, g1, g2, hx, hm⟩ := p_back hn 
  refine rl_a1 X (pc := 815) dL_law_815 ?_
  refine rl_call X (pc := 816) (As := []) (st := []) dL_law_816 ks_L_125 h0 (by rfl) g1 (by rfl) (by rfl) (by rfl) hx (fun w1 hF => ?_)
  obtain ⟨⟨fs2, h51⟩, hm1⟩ := hm w1 hF
  refine rl_a2 X (pc := 819) dL_law_819 ?_
  refine rl_call X (pc := 820) (As := []) (st := [.int r]) dL_law_820 ks_L_128 h51 (by rfl) g2 (by rfl) (by rfl) (by rfl) hm1 (fun w2 hN => ?_)
  exact rl_eq X (pc := 823) dL_law_823 (tgt := 851) (by decide) (kk w2 hN)
theorem law_28 {nm : String} {B : ax_B} {D : va_G} {cA : FieldType → ClassId} {p : Program} {l : Launch} {e : Env} {s : State} {m : MethodId} {below : List Frame} {meth : Method} {c : Code} {b L : Nat} {xs : Nat → Int32} {i : Nat} {w : ax_W} (X : LwX nm B D cA p s m meth c b L xs) (hin : i + 4 ≤ L) (hn : Nx w) (kk : ∀ w', Nx w' → RLw B D cA p l e s m below meth c b 851 i [] w') : RLw B D cA p l e s m below meth c b 828 i [] w := by
  obtain ⟨fs, h0⟩ := hn.X0
  obtain ⟨r, F, dx, dm, g1, g2, hx, hm⟩ := p_count hn (xs (i + 1))
  refine rl_a1 X (pc := 828) dL_law_828 ?_
  refine rl_arg X (pc := 829) (k := 1) dL_law_829 dL_law_830 dL_law_831 (by decide) dL_law_832 dL_law_833 (by omega) ?_
  refine rl_call X (pc := 834) (As := [.int (xs (i + 1))]) (st := []) dL_law_834 ks_L_129 h0 (by rfl) g1 (by rfl) (by rfl) (by rfl) hx (fun w1 hF => ?_)
  obtain ⟨⟨fs2, h51⟩, hm1⟩ := hm w1 hF
  refine rl_a2 X (pc := 837) dL_law_837 ?_
  refine rl_arg X (pc := 838) (k := 1) dL_law_838 dL_law_839 dL_law_840 (by decide) dL_law_841 dL_law_842 (by omega) ?_
  refine rl_call X (pc := 843) (As := [.int (xs (i + 1))]) (st := [.int r]) dL_law_843 ks_L_132 h51 (by rfl) g2 (by rfl) (by rfl) (by rfl) hm1 (fun w2 hN => ?_)
  exact rl_eq X (pc := 846) dL_law_846 (tgt := 851) (by decide) (kk w2 hN)
theorem law_loop {nm : String} {B : ax_B} {D : va_G} {cA : FieldType → ClassId} {p : Program} {l : Launch} {e : Env} {s : State} {m : MethodId} {below : List Frame} {meth : Method} {c : Code} {b L : Nat} {xs : Nat → Int32}  (X : LwX nm B D cA p s m meth c b L xs) (hlk : meth.locks = false) : ∀ (k i : Nat) (w : ax_W), i ≤ 260 → L ≤ i + k → Nx w → RLw B D cA p l e s m below meth c b 18 i [] w := by
  intro k
  induction k using Nat.strongRecOn with
  | ind k ih =>
    intro i w hi hk hn
    obtain ⟨X1, X2, X3, X4, X5⟩ := id X
    have hcode : p.tables.exec = Jvm.exec := X1.1
    intro H locs ls' hH hF hl
    have hS := X.S hH hF
    refine lv_iload_n X1.1 X1.2.1 dL_law_18 rfl (lv_at hl 3 rfl) ?_
    refine lv_aload_n X1.1 X1.2.1 dL_law_19 rfl (lv_at hl 0 rfl) ?_
    refine va_slen (A := fun q : Nat => s.heap.size ≤ q) X1.1 X1.2.1 X2 (by omega) (Nat.not_le.mpr (by omega)) hS dL_law_20 ?_
    refine lv_iconst (v := nI 4) X1.1 X1.2.1 dL_law_21 (by decide) ?_
    refine lv_isub X1.1 X1.2.1 dL_law_22 ?_
    have hcmp : nI L - nI 4 < nI i ↔ L < i + 4 := by
      have e1 : (nI L - nI 4).toInt = (L : Int) - 4 := pk_sub_toInt (by omega) (by decide)
      have e2 : (nI i).toInt = (i : Int) := nI_toInt (by omega)
      rw [Int32.lt_iff_toInt_lt, e1, e2]
      omega
    refine lv_icmp_gt (tgt := 857) X1.1 X1.2.1 dL_law_23 (by decide) (fun h_23 => ?_) (fun h_23 => ?_)
    · refine va_forget (fun q hq => by rw [← X5]; exact hF.2 q hq) ?_
      refine lv_iconst (v := 1) X1.1 X1.2.1 dL_law_857 (by decide) ?_
      refine W.widen (k := 600000) (n := 7302250) (Nat.le_of_ble_eq_true rfl) (Nat.le_of_ble_eq_true rfl) ?_
      exact lw_ret X1.1 X1.2.1 X1.2.2.2.1 hlk dL_law_858
    · have hin : i + 4 ≤ L := by
        have : ¬ L < i + 4 := fun q => h_23 (hcmp.mpr q)
        omega
      refine lv_aload_n X1.1 X1.2.1 dL_law_26 rfl (lv_at hl 0 rfl) ?_
      refine lv_iload_n X1.1 X1.2.1 dL_law_27 rfl (lv_at hl 3 rfl) ?_
      refine va_sld (A := fun q : Nat => s.heap.size ≤ q) X1.1 X1.2.1 X2 (by omega) (Nat.not_le.mpr (by omega)) hS (n_in (show i < L by omega) (by omega)) dL_law_28 ?_
      refine lv_bipush (v := nI 31) X1.1 X1.2.1 dL_law_29 (by decide) ?_
      refine lv_iand X1.1 X1.2.1 dL_law_31 ?_
      have next : ∀ w', Nx w' → RLw B D cA p l e s m below meth c b 851 i [] w' := by
        intro w' hn' H' locs' ls2 hH' hF' hl'
        refine lv_iinc (v := nI (i + 4)) (lv' := [(3, .int (nI (i + 4))), (0, .ref b), (1, .ref (B.1 + 0)), (2, .ref (B.1 + 51))]) X1.1 X1.2.1 dL_law_851 hl' (k := 3) rfl (by rw [← nI_add]; rfl) (by decide) rfl (fun ls3 hl3 => ?_)
        refine lv_goto (tgt := 18) X1.1 X1.2.1 dL_law_854 (by decide) ?_
        exact ih (k - 4) (by omega) (i + 4) w' (by omega) (by omega) hn' H' locs' ls3 hH' hF' (lv_sub hl3 [1, 2, 3, 0] rfl)
      obtain ⟨j, hj, ej⟩ := pk_andE (xs (nI i).toNatClampNeg) (m := 31) 5 (by decide)
      have ej2 : xs (nI i).toNatClampNeg &&& nI 31 = nI j := ej
      rw [ej2]
      have hti : (nI j).toInt = (j : Int) := nI_toInt (by omega)
      rcases (by omega : j = 0 ∨ j = 1 ∨ j = 2 ∨ j = 3 ∨ j = 4 ∨ j = 5 ∨ j = 6 ∨ j = 7 ∨ j = 8 ∨ j = 9 ∨ j = 10 ∨ j = 11 ∨ j = 12 ∨ j = 13 ∨ j = 14 ∨ j = 15 ∨ j = 16 ∨ j = 17 ∨ j = 18 ∨ j = 19 ∨ j = 20 ∨ j = 21 ∨ j = 22 ∨ j = 23 ∨ j = 24 ∨ j = 25 ∨ j = 26 ∨ j = 27 ∨ j = 28 ∨ 29 ≤ j) with rfl | rfl | rfl | rfl | rfl | rfl | rfl | rfl | rfl | rfl | rfl | rfl | rfl | rfl | rfl | rfl | rfl | rfl | rfl | rfl | rfl | rfl | rfl | rfl | rfl | rfl | rfl | rfl | rfl | hout
      · exact lv_tableIn (tgt := 164) (off := 132) X1.1 X1.2.1 dL_law_32 (by decide +kernel) (by decide +kernel) (by decide +kernel) (by decide) (law_0 X hin hn next H locs ls' hH hF hl)
      · exact lv_tableIn (tgt := 187) (off := 155) X1.1 X1.2.1 dL_law_32 (by decide +kernel) (by decide +kernel) (by decide +kernel) (by decide) (law_1 X hin hn next H locs ls' hH hF hl)
      · exact lv_tableIn (tgt := 200) (off := 168) X1.1 X1.2.1 dL_law_32 (by decide +kernel) (by decide +kernel) (by decide +kernel) (by decide) (law_2 X hin hn next H locs ls' hH hF hl)
      · exact lv_tableIn (tgt := 213) (off := 181) X1.1 X1.2.1 dL_law_32 (by decide +kernel) (by decide +kernel) (by decide +kernel) (by decide) (law_3 X hin hn next H locs ls' hH hF hl)
      · exact lv_tableIn (tgt := 226) (off := 194) X1.1 X1.2.1 dL_law_32 (by decide +kernel) (by decide +kernel) (by decide +kernel) (by decide) (law_4 X hin hn next H locs ls' hH hF hl)
      · exact lv_tableIn (tgt := 259) (off := 227) X1.1 X1.2.1 dL_law_32 (by decide +kernel) (by decide +kernel) (by decide +kernel) (by decide) (law_5 X hin hn next H locs ls' hH hF hl)
      · exact lv_tableIn (tgt := 282) (off := 250) X1.1 X1.2.1 dL_law_32 (by decide +kernel) (by decide +kernel) (by decide +kernel) (by decide) (law_6 X hin hn next H locs ls' hH hF hl)
      · exact lv_tableIn (tgt := 295) (off := 263) X1.1 X1.2.1 dL_law_32 (by decide +kernel) (by decide +kernel) (by decide +kernel) (by decide) (law_7 X hin hn next H locs ls' hH hF hl)
      · exact lv_tableIn (tgt := 318) (off := 286) X1.1 X1.2.1 dL_law_32 (by decide +kernel) (by decide +kernel) (by decide +kernel) (by decide) (law_8 X hin hn next H locs ls' hH hF hl)
      · exact lv_tableIn (tgt := 331) (off := 299) X1.1 X1.2.1 dL_law_32 (by decide +kernel) (by decide +kernel) (by decide +kernel) (by decide) (law_9 X hin hn next H locs ls' hH hF hl)
      · exact lv_tableIn (tgt := 354) (off := 322) X1.1 X1.2.1 dL_law_32 (by decide +kernel) (by decide +kernel) (by decide +kernel) (by decide) (law_10 X hin hn next H locs ls' hH hF hl)
      · exact lv_tableIn (tgt := 367) (off := 335) X1.1 X1.2.1 dL_law_32 (by decide +kernel) (by decide +kernel) (by decide +kernel) (by decide) (law_11 X hin hn next H locs ls' hH hF hl)
      · exact lv_tableIn (tgt := 390) (off := 358) X1.1 X1.2.1 dL_law_32 (by decide +kernel) (by decide +kernel) (by decide +kernel) (by decide) (law_12 X hin hn next H locs ls' hH hF hl)
      · exact lv_tableIn (tgt := 413) (off := 381) X1.1 X1.2.1 dL_law_32 (by decide +kernel) (by decide +kernel) (by decide +kernel) (by decide) (law_13 X hin hn next H locs ls' hH hF hl)
      · exact lv_tableIn (tgt := 446) (off := 414) X1.1 X1.2.1 dL_law_32 (by decide +kernel) (by decide +kernel) (by decide +kernel) (by decide) (law_14 X hin hn next H locs ls' hH hF hl)
      · exact lv_tableIn (tgt := 469) (off := 437) X1.1 X1.2.1 dL_law_32 (by decide +kernel) (by decide +kernel) (by decide +kernel) (by decide) (law_15 X hin hn next H locs ls' hH hF hl)
      · exact lv_tableIn (tgt := 492) (off := 460) X1.1 X1.2.1 dL_law_32 (by decide +kernel) (by decide +kernel) (by decide +kernel) (by decide) (law_16 X hin hn next H locs ls' hH hF hl)
      · exact lv_tableIn (tgt := 505) (off := 473) X1.1 X1.2.1 dL_law_32 (by decide +kernel) (by decide +kernel) (by decide +kernel) (by decide) (law_17 X hin hn next H locs ls' hH hF hl)
      · exact lv_tableIn (tgt := 548) (off := 516) X1.1 X1.2.1 dL_law_32 (by decide +kernel) (by decide +kernel) (by decide +kernel) (by decide) (law_18 X hin hn next H locs ls' hH hF hl)
      · exact lv_tableIn (tgt := 581) (off := 549) X1.1 X1.2.1 dL_law_32 (by decide +kernel) (by decide +kernel) (by decide +kernel) (by decide) (law_19 X hin hn next H locs ls' hH hF hl)
      · exact lv_tableIn (tgt := 604) (off := 572) X1.1 X1.2.1 dL_law_32 (by decide +kernel) (by decide +kernel) (by decide +kernel) (by decide) (law_20 X hin hn next H locs ls' hH hF hl)
      · exact lv_tableIn (tgt := 627) (off := 595) X1.1 X1.2.1 dL_law_32 (by decide +kernel) (by decide +kernel) (by decide +kernel) (by decide) (law_21 X hin hn next H locs ls' hH hF hl)
      · exact lv_tableIn (tgt := 650) (off := 618) X1.1 X1.2.1 dL_law_32 (by decide +kernel) (by decide +kernel) (by decide +kernel) (by decide) (law_22 X hin hn next H locs ls' hH hF hl)
      · exact lv_tableIn (tgt := 683) (off := 651) X1.1 X1.2.1 dL_law_32 (by decide +kernel) (by decide +kernel) (by decide +kernel) (by decide) (law_23 X hin hn next H locs ls' hH hF hl)
      · exact lv_tableIn (tgt := 716) (off := 684) X1.1 X1.2.1 dL_law_32 (by decide +kernel) (by decide +kernel) (by decide +kernel) (by decide) (law_24 X hin hn next H locs ls' hH hF hl)
      · exact lv_tableIn (tgt := 759) (off := 727) X1.1 X1.2.1 dL_law_32 (by decide +kernel) (by decide +kernel) (by decide +kernel) (by decide) (law_25 X hin hn next H locs ls' hH hF hl)
      · exact lv_tableIn (tgt := 802) (off := 770) X1.1 X1.2.1 dL_law_32 (by decide +kernel) (by decide +kernel) (by decide +kernel) (by decide) (law_26 X hin hn next H locs ls' hH hF hl)
      · exact lv_tableIn (tgt := 815) (off := 783) X1.1 X1.2.1 dL_law_32 (by decide +kernel) (by decide +kernel) (by decide +kernel) (by decide) (law_27 X hin hn next H locs ls' hH hF hl)
      · exact lv_tableIn (tgt := 828) (off := 796) X1.1 X1.2.1 dL_law_32 (by decide +kernel) (by decide +kernel) (by decide +kernel) (by decide) (law_28 X hin hn next H locs ls' hH hF hl)
      · exact lv_tableOut (tgt := 851) X1.1 X1.2.1 dL_law_32 (Or.inr (by rw [hti]; omega)) (by decide) (next w hn H locs ls' hH hF hl)
