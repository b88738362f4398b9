/-! a step of the reference's tables -/
theorem les_le {C : Crt} (okc : okC C) {last L : Nat} {X : List (List Nat)} (hX : ∀ p ∈ X, (∀ x ∈ p, x < cn C) ∧ L + p.length ≤ 11) {b : Nat × List Nat} (h : bstM C last L X = some b) : b.1 ≤ 660 ∧ L + b.2.length ≤ 11 := by
  obtain ⟨h1, h2⟩ := bstM_mem h
  obtain ⟨h3, h4⟩ := hX _ h1
  have := cosT_le okc b.2 last L h3 h4
  rw [h2]
  omega
theorem bst_ne {C : Crt} {last L : Nat} {X : List (List Nat)} (h : X ≠ []) : ∃ b, bstM C last L X = some b := by
  cases hb : bstM C last L X with
  | none => exact absurd ((bstM_none C last L X).mp hb) h
  | some b => exact ⟨b, rfl⟩
theorem go_266 {w : ax_W} {n : Nat} {P : Option Value → ax_W → Nat → Prop} {C : Crt} (okc : okC C) {ty at_ so un ke rl : Int32} (hK : w 51 = om ty at_ so un ke rl) (hC : mR w C) {F : Nat → Nat → Int32} {k t ch last L op j : Nat} {fs : Bool} (hk : k < 10240) (ht : t < 10240) (htk : t ≠ k) (hj : j < cn C) (hl : last < cn C) (hL : L ≤ 10) {X X' : List (List Nat)} {wb wb' : Bool} (h1 : tbV C last L X wb F k) (h2 : tbV C j (L + 1) X' wb' F t) (hlen : X.length + X'.length < 2147483648) (hX : ∀ p ∈ X, (∀ x ∈ p, x < cn C) ∧ L + p.length ≤ 11) (hX' : ∀ p ∈ X', (∀ x ∈ p, x < cn C) ∧ L + 1 + p.length ≤ 11) {w1 : ax_W} {g0 g1 g2 g3 : Nat → Int32} {z9 z10 : Option Value} (hK1 : w1 51 = om ty at_ so un ke rl) (hC1 : mR w1 C) (g0h : w1 62 = ai 10240 g0) (g1h : w1 63 = ai 10240 g1) (g2h : w1 64 = ai 10240 g2) (g3h : w1 65 = ai 10240 g3) (h66 : w1 66 = ai 10240 (F 4)) (h67 : w1 67 = ai 10240 (F 5)) (h68 : w1 68 = ai 10240 (F 6)) (h69 : w1 69 = ai 10240 (F 7)) (h70 : w1 70 = ai 10240 (F 8)) (c0 : g0 k = nI (X ++ X'.map (fun p => j :: p)).length) (ct : g0 t = nI X'.length) (c1 : g1 k = nI (lesN (bstM C last L (X ++ X'.map (fun p => j :: p))))) (c2 : g2 k = nI (morN (bstM C last L (X ++ X'.map (fun p => j :: p))))) (c3 : g3 k = thnI (bstM C last L (X ++ X'.map (fun p => j :: p)))) (cs : ∀ x, x ≠ k → g0 x = F 0 x ∧ g1 x = F 1 x ∧ g2 x = F 2 x ∧ g3 x = F 3 x) (hfr : same62 w w1)
  (kk : ∀ w' F' z9 z10, mB w' F' → tbV C last L (X ++ X'.map (fun p => j :: p)) (if fs then wb || wb' else wb && wb') F' k → sameT F F' k → same62 w w' → Run m_X7_goOn 1 0 0 451 [some (.ref 51), some (.int (nI k)), some (.int (nI ch)), some (.int (nI last)), some (.int (nI L)), some (.int (nI op)), some (.int (nI (bN fs))), some (.int (nI j)), some (.int (nI t)), z9, z10] [] w' n P) : Run m_X7_goOn 1 0 0 266 [some (.ref 51), some (.int (nI k)), some (.int (nI ch)), some (.int (nI last)), some (.int (nI L)), some (.int (nI op)), some (.int (nI (bN fs))), some (.int (nI j)), some (.int (nI t)), z9, z10] [] w1 n P := by
  have hn := okc.1
  obtain ⟨a0, a1, a2, a3, a4, a5, a6, a7, a8⟩ := h1
  obtain ⟨b0, b1, b2, b3, b4, b5, b6, b7, b8⟩ := h2
  have hj10 : j < 10 := by omega
  have hsp := (okc.2.2.2.1 j hj).2.2.1
  have hdX := dayM_le (C := C) X
  have hdX' := dayM_le (C := C) X'
  replace hK := hK1
  replace hC := hC1
  have g0 := g0h
  have g1 := g1h
  have g2 := g2h
  have g3 := g3h
  clear hK1 hC1 g0h g1h g2h g3h
  obtain ⟨fm, fk, fc, fds, fh, fv, fp, fd, h53, h54, h55, h56, h57, h58, h59, h60, e1, e2, e3, e4, e5⟩ := id hC
  by_cases hX0 : X' = []
  · subst hX0
    rw [show X ++ List.map (fun p => j :: p) [] = X from List.append_nil X] at kk c0 c1 c2 c3
    cases fs with
    | false =>
      refine x_aload_n (pc := 266) dX7_goOn_266 rfl ?_
      refine x_getf (pc := 267) dX7_goOn_267 kf_X7_23 (by first | assumption | exact hC.1 | exact hH.1 | exact hV0.1 | exact hT.1) (by rfl) ?_
      refine x_iload (pc := 270) dX7_goOn_270 rfl ?_
      refine xn_iald (pc := 272) dX7_goOn_272 (by assumption) (by first | omega | assumption) (by rfl) ?_
      rw [(e4 j hj).2.2.1]
      refine x_aload_n (pc := 273) dX7_goOn_273 rfl ?_
      refine x_getf (pc := 274) dX7_goOn_274 kf_X7_53 (by first | assumption | exact hC.1 | exact hH.1 | exact hV0.1 | exact hT.1) (by rfl) ?_
      refine x_iload (pc := 277) dX7_goOn_277 rfl ?_
      refine xn_iald (pc := 279) dX7_goOn_279 (by assumption) (by first | omega | assumption) (by rfl) ?_
      rw [b4]
      first | refine xn_iadd (pc := 280) dX7_goOn_280 ?_ | refine x_iadd (pc := 280) dX7_goOn_280 ?_
      refine x_istore (pc := 281) dX7_goOn_281 rfl ?_
      refine x_aload_n (pc := 283) dX7_goOn_283 rfl ?_
      refine x_getf (pc := 284) dX7_goOn_284 kf_X7_53 (by first | assumption | exact hC.1 | exact hH.1 | exact hV0.1 | exact hT.1) (by rfl) ?_
      refine x_iload_n (pc := 287) dX7_goOn_287 rfl ?_
      refine x_aload_n (pc := 288) dX7_goOn_288 rfl ?_
      refine x_getf (pc := 289) dX7_goOn_289 kf_X7_41 (by first | assumption | exact hC.1 | exact hH.1 | exact hV0.1 | exact hT.1) (by rfl) ?_
      refine x_iload (pc := 292) dX7_goOn_292 rfl ?_
      refine xn_iald (pc := 294) dX7_goOn_294 (by assumption) (by first | omega | assumption) (by rfl) ?_
      rw [ct]
      refine x_if_le_t (pc := 295) dX7_goOn_295 (tgt := 314) (by decide) (by decide +kernel) ?_
      refine x_aload_n (pc := 314) dX7_goOn_314 rfl ?_
      refine x_getf (pc := 315) dX7_goOn_315 kf_X7_53 (by first | assumption | exact hC.1 | exact hH.1 | exact hV0.1 | exact hT.1) (by rfl) ?_
      refine x_iload_n (pc := 318) dX7_goOn_318 rfl ?_
      refine xn_iald (pc := 319) dX7_goOn_319 (by assumption) (by first | omega | assumption) (by rfl) ?_
      rw [a4]
      refine xw_iast (pc := 320) dX7_goOn_320 (by assumption) (by first | omega | assumption) (by rfl) (fun w hnew hne => ?_)
      replace hK := (hne _ (by omega)).trans hK
      replace g0 := (hne _ (by omega)).trans g0
      replace g1 := (hne _ (by omega)).trans g1
      replace g2 := (hne _ (by omega)).trans g2
      replace g3 := (hne _ (by omega)).trans g3
      replace h66 := hnew
      replace h67 := (hne _ (by omega)).trans h67
      replace h68 := (hne _ (by omega)).trans h68
      replace h69 := (hne _ (by omega)).trans h69
      replace h70 := (hne _ (by omega)).trans h70
      replace hC := hC.go fun j q1 q2 => hne j (by omega)
      replace hfr := fun j (hj : j < 62 ∨ 70 < j) => (hne j (by omega)).trans (hfr j hj)
      clear hne
      refine x_aload_n (pc := 321) dX7_goOn_321 rfl ?_
      refine x_getf (pc := 322) dX7_goOn_322 kf_X7_56 (by first | assumption | exact hC.1 | exact hH.1 | exact hV0.1 | exact hT.1) (by rfl) ?_
      refine x_iload_n (pc := 325) dX7_goOn_325 rfl ?_
      refine x_dup2 (pc := 326) dX7_goOn_326 rfl rfl ?_
      refine xn_iald (pc := 327) dX7_goOn_327 (by assumption) (by first | omega | assumption) (by rfl) ?_
      rw [a5]
      refine x_aload_n (pc := 328) dX7_goOn_328 rfl ?_
      refine x_getf (pc := 329) dX7_goOn_329 kf_X7_41 (by first | assumption | exact hC.1 | exact hH.1 | exact hV0.1 | exact hT.1) (by rfl) ?_
      refine x_iload (pc := 332) dX7_goOn_332 rfl ?_
      refine xn_iald (pc := 334) dX7_goOn_334 (by assumption) (by first | omega | assumption) (by rfl) ?_
      rw [ct]
      refine x_if_le_t (pc := 335) dX7_goOn_335 (tgt := 353) (by decide) (by decide +kernel) ?_
      refine x_sipush (pc := 353) dX7_goOn_353 (v := nI 1023) (by decide) ?_
      refine xn_iand (pc := 356) dX7_goOn_356 ?_
      refine Run.top (v' := .int (nI (allM X))) (by rw [and_1023 (allM_lt X)]) ?_
      refine xw_iast (pc := 357) dX7_goOn_357 (by assumption) (by first | omega | assumption) (by rfl) (fun w hnew hne => ?_)
      replace hK := (hne _ (by omega)).trans hK
      replace g0 := (hne _ (by omega)).trans g0
      replace g1 := (hne _ (by omega)).trans g1
      replace g2 := (hne _ (by omega)).trans g2
      replace g3 := (hne _ (by omega)).trans g3
      replace h66 := (hne _ (by omega)).trans h66
      replace h67 := hnew
      replace h68 := (hne _ (by omega)).trans h68
      replace h69 := (hne _ (by omega)).trans h69
      replace h70 := (hne _ (by omega)).trans h70
      replace hC := hC.go fun j q1 q2 => hne j (by omega)
      replace hfr := fun j (hj : j < 62 ∨ 70 < j) => (hne j (by omega)).trans (hfr j hj)
      clear hne
      refine x_aload_n (pc := 358) dX7_goOn_358 rfl ?_
      refine x_getf (pc := 359) dX7_goOn_359 kf_X7_59 (by first | assumption | exact hC.1 | exact hH.1 | exact hV0.1 | exact hT.1) (by rfl) ?_
      refine x_iload_n (pc := 362) dX7_goOn_362 rfl ?_
      refine x_dup2 (pc := 363) dX7_goOn_363 rfl rfl ?_
      refine xn_iald (pc := 364) dX7_goOn_364 (by assumption) (by first | omega | assumption) (by rfl) ?_
      rw [a6]
      refine x_aload_n (pc := 365) dX7_goOn_365 rfl ?_
      refine x_getf (pc := 366) dX7_goOn_366 kf_X7_41 (by first | assumption | exact hC.1 | exact hH.1 | exact hV0.1 | exact hT.1) (by rfl) ?_
      refine x_iload (pc := 369) dX7_goOn_369 rfl ?_
      refine xn_iald (pc := 371) dX7_goOn_371 (by assumption) (by first | omega | assumption) (by rfl) ?_
      rw [ct]
      refine x_if_le_t (pc := 372) dX7_goOn_372 (tgt := 390) (by decide) (by decide +kernel) ?_
      refine x_iconst (pc := 390) dX7_goOn_390 (v := nI 0) (by decide) ?_
      first | refine xn_ior (pc := 391) dX7_goOn_391 ?_ | refine x_ior (pc := 391) dX7_goOn_391 ?_
      refine Run.top (v' := .int (nI (anyM X))) (by rw [Nat.or_zero]) ?_
      refine xw_iast (pc := 392) dX7_goOn_392 (by assumption) (by first | omega | assumption) (by rfl) (fun w hnew hne => ?_)
      replace hK := (hne _ (by omega)).trans hK
      replace g0 := (hne _ (by omega)).trans g0
      replace g1 := (hne _ (by omega)).trans g1
      replace g2 := (hne _ (by omega)).trans g2
      replace g3 := (hne _ (by omega)).trans g3
      replace h66 := (hne _ (by omega)).trans h66
      replace h67 := (hne _ (by omega)).trans h67
      replace h68 := hnew
      replace h69 := (hne _ (by omega)).trans h69
      replace h70 := (hne _ (by omega)).trans h70
      replace hC := hC.go fun j q1 q2 => hne j (by omega)
      replace hfr := fun j (hj : j < 62 ∨ 70 < j) => (hne j (by omega)).trans (hfr j hj)
      clear hne
      refine x_aload_n (pc := 393) dX7_goOn_393 rfl ?_
      refine x_getf (pc := 394) dX7_goOn_394 kf_X7_62 (by first | assumption | exact hC.1 | exact hH.1 | exact hV0.1 | exact hT.1) (by rfl) ?_
      refine x_iload_n (pc := 397) dX7_goOn_397 rfl ?_
      refine x_dup2 (pc := 398) dX7_goOn_398 rfl rfl ?_
      refine xn_iald (pc := 399) dX7_goOn_399 (by assumption) (by first | omega | assumption) (by rfl) ?_
      rw [a7]
      refine x_aload_n (pc := 400) dX7_goOn_400 rfl ?_
      refine x_getf (pc := 401) dX7_goOn_401 kf_X7_62 (by first | assumption | exact hC.1 | exact hH.1 | exact hV0.1 | exact hT.1) (by rfl) ?_
      refine x_iload (pc := 404) dX7_goOn_404 rfl ?_
      refine xn_iald (pc := 406) dX7_goOn_406 (by assumption) (by first | omega | assumption) (by rfl) ?_
      rw [b7]
      first | refine xn_ior (pc := 407) dX7_goOn_407 ?_ | refine x_ior (pc := 407) dX7_goOn_407 ?_
      refine Run.top (v' := .int (nI (endM last X))) (by rw [endM, Nat.or_zero]) ?_
      refine xw_iast (pc := 408) dX7_goOn_408 (by assumption) (by first | omega | assumption) (by rfl) (fun w hnew hne => ?_)
      replace hK := (hne _ (by omega)).trans hK
      replace g0 := (hne _ (by omega)).trans g0
      replace g1 := (hne _ (by omega)).trans g1
      replace g2 := (hne _ (by omega)).trans g2
      replace g3 := (hne _ (by omega)).trans g3
      replace h66 := (hne _ (by omega)).trans h66
      replace h67 := (hne _ (by omega)).trans h67
      replace h68 := (hne _ (by omega)).trans h68
      replace h69 := hnew
      replace h70 := (hne _ (by omega)).trans h70
      replace hC := hC.go fun j q1 q2 => hne j (by omega)
      replace hfr := fun j (hj : j < 62 ∨ 70 < j) => (hne j (by omega)).trans (hfr j hj)
      clear hne
      refine x_aload_n (pc := 409) dX7_goOn_409 rfl ?_
      refine x_getf (pc := 410) dX7_goOn_410 kf_X7_65 (by first | assumption | exact hC.1 | exact hH.1 | exact hV0.1 | exact hT.1) (by rfl) ?_
      refine x_iload_n (pc := 413) dX7_goOn_413 rfl ?_
      refine x_iload (pc := 414) dX7_goOn_414 rfl ?_
      refine x_if_eq_t (pc := 416) dX7_goOn_416 (tgt := 436) (by decide) rfl ?_
      refine x_aload_n (pc := 436) dX7_goOn_436 rfl ?_
      refine x_getf (pc := 437) dX7_goOn_437 kf_X7_65 (by first | assumption | exact hC.1 | exact hH.1 | exact hV0.1 | exact hT.1) (by rfl) ?_
      refine x_iload_n (pc := 440) dX7_goOn_440 rfl ?_
      refine xn_iald (pc := 441) dX7_goOn_441 (by assumption) (by first | omega | assumption) (by rfl) ?_
      rw [a8]
      refine x_aload_n (pc := 442) dX7_goOn_442 rfl ?_
      refine x_getf (pc := 443) dX7_goOn_443 kf_X7_65 (by first | assumption | exact hC.1 | exact hH.1 | exact hV0.1 | exact hT.1) (by rfl) ?_
      refine x_iload (pc := 446) dX7_goOn_446 rfl ?_
      refine xn_iald (pc := 448) dX7_goOn_448 (by assumption) (by first | omega | assumption) (by rfl) ?_
      rw [b8]
      refine xn_iand (pc := 449) dX7_goOn_449 ?_
      refine Run.top (v' := .int (nI (bN (wb && wb')))) (by cases wb <;> cases wb' <;> rfl) ?_
      refine xw_iast (pc := 450) dX7_goOn_450 (by assumption) (by first | omega | assumption) (by rfl) (fun w hnew hne => ?_)
      replace hK := (hne _ (by omega)).trans hK
      replace g0 := (hne _ (by omega)).trans g0
      replace g1 := (hne _ (by omega)).trans g1
      replace g2 := (hne _ (by omega)).trans g2
      replace g3 := (hne _ (by omega)).trans g3
      replace h66 := (hne _ (by omega)).trans h66
      replace h67 := (hne _ (by omega)).trans h67
      replace h68 := (hne _ (by omega)).trans h68
      replace h69 := (hne _ (by omega)).trans h69
      replace h70 := hnew
      replace hC := hC.go fun j q1 q2 => hne j (by omega)
      replace hfr := fun j (hj : j < 62 ∨ 70 < j) => (hne j (by omega)).trans (hfr j hj)
      clear hne
      refine kk w (tb9 _ _ _ _ _ _ _ _ _) _ _ ⟨g0, g1, g2, g3, h66, h67, h68, h69, h70⟩ ⟨c0, c1, c2, c3, upd_same _ _ _, upd_same _ _ _, upd_same _ _ _, upd_same _ _ _, upd_same _ _ _⟩ (fun x hx => ⟨(cs x hx).1, (cs x hx).2.1, (cs x hx).2.2.1, (cs x hx).2.2.2, upd_ne _ _ hx, upd_ne _ _ hx, upd_ne _ _ hx, upd_ne _ _ hx, upd_ne _ _ hx⟩) hfr
    | true =>
      refine x_aload_n (pc := 266) dX7_goOn_266 rfl ?_
      refine x_getf (pc := 267) dX7_goOn_267 kf_X7_23 (by first | assumption | exact hC.1 | exact hH.1 | exact hV0.1 | exact hT.1) (by rfl) ?_
      refine x_iload (pc := 270) dX7_goOn_270 rfl ?_
      refine xn_iald (pc := 272) dX7_goOn_272 (by assumption) (by first | omega | assumption) (by rfl) ?_
      rw [(e4 j hj).2.2.1]
      refine x_aload_n (pc := 273) dX7_goOn_273 rfl ?_
      refine x_getf (pc := 274) dX7_goOn_274 kf_X7_53 (by first | assumption | exact hC.1 | exact hH.1 | exact hV0.1 | exact hT.1) (by rfl) ?_
      refine x_iload (pc := 277) dX7_goOn_277 rfl ?_
      refine xn_iald (pc := 279) dX7_goOn_279 (by assumption) (by first | omega | assumption) (by rfl) ?_
      rw [b4]
      first | refine xn_iadd (pc := 280) dX7_goOn_280 ?_ | refine x_iadd (pc := 280) dX7_goOn_280 ?_
      refine x_istore (pc := 281) dX7_goOn_281 rfl ?_
      refine x_aload_n (pc := 283) dX7_goOn_283 rfl ?_
      refine x_getf (pc := 284) dX7_goOn_284 kf_X7_53 (by first | assumption | exact hC.1 | exact hH.1 | exact hV0.1 | exact hT.1) (by rfl) ?_
      refine x_iload_n (pc := 287) dX7_goOn_287 rfl ?_
      refine x_aload_n (pc := 288) dX7_goOn_288 rfl ?_
      refine x_getf (pc := 289) dX7_goOn_289 kf_X7_41 (by first | assumption | exact hC.1 | exact hH.1 | exact hV0.1 | exact hT.1) (by rfl) ?_
      refine x_iload (pc := 292) dX7_goOn_292 rfl ?_
      refine xn_iald (pc := 294) dX7_goOn_294 (by assumption) (by first | omega | assumption) (by rfl) ?_
      rw [ct]
      refine x_if_le_t (pc := 295) dX7_goOn_295 (tgt := 314) (by decide) (by decide +kernel) ?_
      refine x_aload_n (pc := 314) dX7_goOn_314 rfl ?_
      refine x_getf (pc := 315) dX7_goOn_315 kf_X7_53 (by first | assumption | exact hC.1 | exact hH.1 | exact hV0.1 | exact hT.1) (by rfl) ?_
      refine x_iload_n (pc := 318) dX7_goOn_318 rfl ?_
      refine xn_iald (pc := 319) dX7_goOn_319 (by assumption) (by first | omega | assumption) (by rfl) ?_
      rw [a4]
      refine xw_iast (pc := 320) dX7_goOn_320 (by assumption) (by first | omega | assumption) (by rfl) (fun w hnew hne => ?_)
      replace hK := (hne _ (by omega)).trans hK
      replace g0 := (hne _ (by omega)).trans g0
      replace g1 := (hne _ (by omega)).trans g1
      replace g2 := (hne _ (by omega)).trans g2
      replace g3 := (hne _ (by omega)).trans g3
      replace h66 := hnew
      replace h67 := (hne _ (by omega)).trans h67
      replace h68 := (hne _ (by omega)).trans h68
      replace h69 := (hne _ (by omega)).trans h69
      replace h70 := (hne _ (by omega)).trans h70
      replace hC := hC.go fun j q1 q2 => hne j (by omega)
      replace hfr := fun j (hj : j < 62 ∨ 70 < j) => (hne j (by omega)).trans (hfr j hj)
      clear hne
      refine x_aload_n (pc := 321) dX7_goOn_321 rfl ?_
      refine x_getf (pc := 322) dX7_goOn_322 kf_X7_56 (by first | assumption | exact hC.1 | exact hH.1 | exact hV0.1 | exact hT.1) (by rfl) ?_
      refine x_iload_n (pc := 325) dX7_goOn_325 rfl ?_
      refine x_dup2 (pc := 326) dX7_goOn_326 rfl rfl ?_
      refine xn_iald (pc := 327) dX7_goOn_327 (by assumption) (by first | omega | assumption) (by rfl) ?_
      rw [a5]
      refine x_aload_n (pc := 328) dX7_goOn_328 rfl ?_
      refine x_getf (pc := 329) dX7_goOn_329 kf_X7_41 (by first | assumption | exact hC.1 | exact hH.1 | exact hV0.1 | exact hT.1) (by rfl) ?_
      refine x_iload (pc := 332) dX7_goOn_332 rfl ?_
      refine xn_iald (pc := 334) dX7_goOn_334 (by assumption) (by first | omega | assumption) (by rfl) ?_
      rw [ct]
      refine x_if_le_t (pc := 335) dX7_goOn_335 (tgt := 353) (by decide) (by decide +kernel) ?_
      refine x_sipush (pc := 353) dX7_goOn_353 (v := nI 1023) (by decide) ?_
      refine xn_iand (pc := 356) dX7_goOn_356 ?_
      refine Run.top (v' := .int (nI (allM X))) (by rw [and_1023 (allM_lt X)]) ?_
      refine xw_iast (pc := 357) dX7_goOn_357 (by assumption) (by first | omega | assumption) (by rfl) (fun w hnew hne => ?_)
      replace hK := (hne _ (by omega)).trans hK
      replace g0 := (hne _ (by omega)).trans g0
      replace g1 := (hne _ (by omega)).trans g1
      replace g2 := (hne _ (by omega)).trans g2
      replace g3 := (hne _ (by omega)).trans g3
      replace h66 := (hne _ (by omega)).trans h66
      replace h67 := hnew
      replace h68 := (hne _ (by omega)).trans h68
      replace h69 := (hne _ (by omega)).trans h69
      replace h70 := (hne _ (by omega)).trans h70
      replace hC := hC.go fun j q1 q2 => hne j (by omega)
      replace hfr := fun j (hj : j < 62 ∨ 70 < j) => (hne j (by omega)).trans (hfr j hj)
      clear hne
      refine x_aload_n (pc := 358) dX7_goOn_358 rfl ?_
      refine x_getf (pc := 359) dX7_goOn_359 kf_X7_59 (by first | assumption | exact hC.1 | exact hH.1 | exact hV0.1 | exact hT.1) (by rfl) ?_
      refine x_iload_n (pc := 362) dX7_goOn_362 rfl ?_
      refine x_dup2 (pc := 363) dX7_goOn_363 rfl rfl ?_
      refine xn_iald (pc := 364) dX7_goOn_364 (by assumption) (by first | omega | assumption) (by rfl) ?_
      rw [a6]
      refine x_aload_n (pc := 365) dX7_goOn_365 rfl ?_
      refine x_getf (pc := 366) dX7_goOn_366 kf_X7_41 (by first | assumption | exact hC.1 | exact hH.1 | exact hV0.1 | exact hT.1) (by rfl) ?_
      refine x_iload (pc := 369) dX7_goOn_369 rfl ?_
      refine xn_iald (pc := 371) dX7_goOn_371 (by assumption) (by first | omega | assumption) (by rfl) ?_
      rw [ct]
      refine x_if_le_t (pc := 372) dX7_goOn_372 (tgt := 390) (by decide) (by decide +kernel) ?_
      refine x_iconst (pc := 390) dX7_goOn_390 (v := nI 0) (by decide) ?_
      first | refine xn_ior (pc := 391) dX7_goOn_391 ?_ | refine x_ior (pc := 391) dX7_goOn_391 ?_
      refine Run.top (v' := .int (nI (anyM X))) (by rw [Nat.or_zero]) ?_
      refine xw_iast (pc := 392) dX7_goOn_392 (by assumption) (by first | omega | assumption) (by rfl) (fun w hnew hne => ?_)
      replace hK := (hne _ (by omega)).trans hK
      replace g0 := (hne _ (by omega)).trans g0
      replace g1 := (hne _ (by omega)).trans g1
      replace g2 := (hne _ (by omega)).trans g2
      replace g3 := (hne _ (by omega)).trans g3
      replace h66 := (hne _ (by omega)).trans h66
      replace h67 := (hne _ (by omega)).trans h67
      replace h68 := hnew
      replace h69 := (hne _ (by omega)).trans h69
      replace h70 := (hne _ (by omega)).trans h70
      replace hC := hC.go fun j q1 q2 => hne j (by omega)
      replace hfr := fun j (hj : j < 62 ∨ 70 < j) => (hne j (by omega)).trans (hfr j hj)
      clear hne
      refine x_aload_n (pc := 393) dX7_goOn_393 rfl ?_
      refine x_getf (pc := 394) dX7_goOn_394 kf_X7_62 (by first | assumption | exact hC.1 | exact hH.1 | exact hV0.1 | exact hT.1) (by rfl) ?_
      refine x_iload_n (pc := 397) dX7_goOn_397 rfl ?_
      refine x_dup2 (pc := 398) dX7_goOn_398 rfl rfl ?_
      refine xn_iald (pc := 399) dX7_goOn_399 (by assumption) (by first | omega | assumption) (by rfl) ?_
      rw [a7]
      refine x_aload_n (pc := 400) dX7_goOn_400 rfl ?_
      refine x_getf (pc := 401) dX7_goOn_401 kf_X7_62 (by first | assumption | exact hC.1 | exact hH.1 | exact hV0.1 | exact hT.1) (by rfl) ?_
      refine x_iload (pc := 404) dX7_goOn_404 rfl ?_
      refine xn_iald (pc := 406) dX7_goOn_406 (by assumption) (by first | omega | assumption) (by rfl) ?_
      rw [b7]
      first | refine xn_ior (pc := 407) dX7_goOn_407 ?_ | refine x_ior (pc := 407) dX7_goOn_407 ?_
      refine Run.top (v' := .int (nI (endM last X))) (by rw [endM, Nat.or_zero]) ?_
      refine xw_iast (pc := 408) dX7_goOn_408 (by assumption) (by first | omega | assumption) (by rfl) (fun w hnew hne => ?_)
      replace hK := (hne _ (by omega)).trans hK
      replace g0 := (hne _ (by omega)).trans g0
      replace g1 := (hne _ (by omega)).trans g1
      replace g2 := (hne _ (by omega)).trans g2
      replace g3 := (hne _ (by omega)).trans g3
      replace h66 := (hne _ (by omega)).trans h66
      replace h67 := (hne _ (by omega)).trans h67
      replace h68 := (hne _ (by omega)).trans h68
      replace h69 := hnew
      replace h70 := (hne _ (by omega)).trans h70
      replace hC := hC.go fun j q1 q2 => hne j (by omega)
      replace hfr := fun j (hj : j < 62 ∨ 70 < j) => (hne j (by omega)).trans (hfr j hj)
      clear hne
      refine x_aload_n (pc := 409) dX7_goOn_409 rfl ?_
      refine x_getf (pc := 410) dX7_goOn_410 kf_X7_65 (by first | assumption | exact hC.1 | exact hH.1 | exact hV0.1 | exact hT.1) (by rfl) ?_
      refine x_iload_n (pc := 413) dX7_goOn_413 rfl ?_
      refine x_iload (pc := 414) dX7_goOn_414 rfl ?_
      refine x_if_eq_f (pc := 416) dX7_goOn_416 (tgt := 436) (by decide) (by decide +kernel) ?_
      refine x_aload_n (pc := 419) dX7_goOn_419 rfl ?_
      refine x_getf (pc := 420) dX7_goOn_420 kf_X7_65 (by first | assumption | exact hC.1 | exact hH.1 | exact hV0.1 | exact hT.1) (by rfl) ?_
      refine x_iload_n (pc := 423) dX7_goOn_423 rfl ?_
      refine xn_iald (pc := 424) dX7_goOn_424 (by assumption) (by first | omega | assumption) (by rfl) ?_
      rw [a8]
      refine x_aload_n (pc := 425) dX7_goOn_425 rfl ?_
      refine x_getf (pc := 426) dX7_goOn_426 kf_X7_65 (by first | assumption | exact hC.1 | exact hH.1 | exact hV0.1 | exact hT.1) (by rfl) ?_
      refine x_iload (pc := 429) dX7_goOn_429 rfl ?_
      refine xn_iald (pc := 431) dX7_goOn_431 (by assumption) (by first | omega | assumption) (by rfl) ?_
      rw [b8]
      first | refine xn_ior (pc := 432) dX7_goOn_432 ?_ | refine x_ior (pc := 432) dX7_goOn_432 ?_
      refine x_goto (pc := 433) dX7_goOn_433 (tgt := 450) (by decide) ?_
      refine Run.top (v' := .int (nI (bN (wb || wb')))) (by cases wb <;> cases wb' <;> rfl) ?_
      refine xw_iast (pc := 450) dX7_goOn_450 (by assumption) (by first | omega | assumption) (by rfl) (fun w hnew hne => ?_)
      replace hK := (hne _ (by omega)).trans hK
      replace g0 := (hne _ (by omega)).trans g0
      replace g1 := (hne _ (by omega)).trans g1
      replace g2 := (hne _ (by omega)).trans g2
      replace g3 := (hne _ (by omega)).trans g3
      replace h66 := (hne _ (by omega)).trans h66
      replace h67 := (hne _ (by omega)).trans h67
      replace h68 := (hne _ (by omega)).trans h68
      replace h69 := (hne _ (by omega)).trans h69
      replace h70 := hnew
      replace hC := hC.go fun j q1 q2 => hne j (by omega)
      replace hfr := fun j (hj : j < 62 ∨ 70 < j) => (hne j (by omega)).trans (hfr j hj)
      clear hne
      refine kk w (tb9 _ _ _ _ _ _ _ _ _) _ _ ⟨g0, g1, g2, g3, h66, h67, h68, h69, h70⟩ ⟨c0, c1, c2, c3, upd_same _ _ _, upd_same _ _ _, upd_same _ _ _, upd_same _ _ _, upd_same _ _ _⟩ (fun x hx => ⟨(cs x hx).1, (cs x hx).2.1, (cs x hx).2.2.1, (cs x hx).2.2.2, upd_ne _ _ hx, upd_ne _ _ hx, upd_ne _ _ hx, upd_ne _ _ hx, upd_ne _ _ hx⟩) hfr
  · have hx0 : 0 < X'.length := List.length_pos_iff.mpr hX0
    have hday : ∀ p ∈ X', dayT C p + sp C j < 100000 := fun p hp => by
      have h := hX' p hp
      have := dayT_le okc p h.1
      omega
    have hmsk : ∀ p ∈ X', mskT p < 1024 := fun p hp => Nat.lt_of_lt_of_le (mskT_lt p (hX' p hp).1) okc.lt
    cases fs with
    | false =>
      refine x_aload_n (pc := 266) dX7_goOn_266 rfl ?_
      refine x_getf (pc := 267) dX7_goOn_267 kf_X7_23 (by first | assumption | exact hC.1 | exact hH.1 | exact hV0.1 | exact hT.1) (by rfl) ?_
      refine x_iload (pc := 270) dX7_goOn_270 rfl ?_
      refine xn_iald (pc := 272) dX7_goOn_272 (by assumption) (by first | omega | assumption) (by rfl) ?_
      rw [(e4 j hj).2.2.1]
      refine x_aload_n (pc := 273) dX7_goOn_273 rfl ?_
      refine x_getf (pc := 274) dX7_goOn_274 kf_X7_53 (by first | assumption | exact hC.1 | exact hH.1 | exact hV0.1 | exact hT.1) (by rfl) ?_
      refine x_iload (pc := 277) dX7_goOn_277 rfl ?_
      refine xn_iald (pc := 279) dX7_goOn_279 (by assumption) (by first | omega | assumption) (by rfl) ?_
      rw [b4]
      first | refine xn_iadd (pc := 280) dX7_goOn_280 ?_ | refine x_iadd (pc := 280) dX7_goOn_280 ?_
      refine x_istore (pc := 281) dX7_goOn_281 rfl ?_
      refine x_aload_n (pc := 283) dX7_goOn_283 rfl ?_
      refine x_getf (pc := 284) dX7_goOn_284 kf_X7_53 (by first | assumption | exact hC.1 | exact hH.1 | exact hV0.1 | exact hT.1) (by rfl) ?_
      refine x_iload_n (pc := 287) dX7_goOn_287 rfl ?_
      refine x_aload_n (pc := 288) dX7_goOn_288 rfl ?_
      refine x_getf (pc := 289) dX7_goOn_289 kf_X7_41 (by first | assumption | exact hC.1 | exact hH.1 | exact hV0.1 | exact hT.1) (by rfl) ?_
      refine x_iload (pc := 292) dX7_goOn_292 rfl ?_
      refine xn_iald (pc := 294) dX7_goOn_294 (by assumption) (by first | omega | assumption) (by rfl) ?_
      rw [ct]
      refine x_if_le_f (pc := 295) dX7_goOn_295 (tgt := 314) (by decide) (by rw [n_le0 (by omega)]; omega) ?_
      refine x_iload (pc := 298) dX7_goOn_298 rfl ?_
      refine x_aload_n (pc := 300) dX7_goOn_300 rfl ?_
      refine x_getf (pc := 301) dX7_goOn_301 kf_X7_53 (by first | assumption | exact hC.1 | exact hH.1 | exact hV0.1 | exact hT.1) (by rfl) ?_
      refine x_iload_n (pc := 304) dX7_goOn_304 rfl ?_
      refine xn_iald (pc := 305) dX7_goOn_305 (by assumption) (by first | omega | assumption) (by rfl) ?_
      rw [a4]
      refine x_icmp_ge (pc := 306) dX7_goOn_306 (tgt := 314) (by decide) (fun h_306 => ?_) (fun h_306 => ?_)
      · skip
        try first | rw [n_b1] at h_306 | rw [n_b00] at h_306 | rw [n_le (by omega) (by omega)] at h_306
        refine x_aload_n (pc := 314) dX7_goOn_314 rfl ?_
        refine x_getf (pc := 315) dX7_goOn_315 kf_X7_53 (by first | assumption | exact hC.1 | exact hH.1 | exact hV0.1 | exact hT.1) (by rfl) ?_
        refine x_iload_n (pc := 318) dX7_goOn_318 rfl ?_
        refine xn_iald (pc := 319) dX7_goOn_319 (by assumption) (by first | omega | assumption) (by rfl) ?_
        rw [a4]
        refine Run.top (v' := .int (nI (dayM C (X ++ X'.map (fun p => j :: p))))) (by rw [dayM_app, dayM_map C j X' hX0 hday]; first | rw [if_neg (by omega)] | rw [if_pos (by omega)]) ?_
        refine xw_iast (pc := 320) dX7_goOn_320 (by assumption) (by first | omega | assumption) (by rfl) (fun w hnew hne => ?_)
        replace hK := (hne _ (by omega)).trans hK
        replace g0 := (hne _ (by omega)).trans g0
        replace g1 := (hne _ (by omega)).trans g1
        replace g2 := (hne _ (by omega)).trans g2
        replace g3 := (hne _ (by omega)).trans g3
        replace h66 := hnew
        replace h67 := (hne _ (by omega)).trans h67
        replace h68 := (hne _ (by omega)).trans h68
        replace h69 := (hne _ (by omega)).trans h69
        replace h70 := (hne _ (by omega)).trans h70
        replace hC := hC.go fun j q1 q2 => hne j (by omega)
        replace hfr := fun j (hj : j < 62 ∨ 70 < j) => (hne j (by omega)).trans (hfr j hj)
        clear hne
        refine x_aload_n (pc := 321) dX7_goOn_321 rfl ?_
        refine x_getf (pc := 322) dX7_goOn_322 kf_X7_56 (by first | assumption | exact hC.1 | exact hH.1 | exact hV0.1 | exact hT.1) (by rfl) ?_
        refine x_iload_n (pc := 325) dX7_goOn_325 rfl ?_
        refine x_dup2 (pc := 326) dX7_goOn_326 rfl rfl ?_
        refine xn_iald (pc := 327) dX7_goOn_327 (by assumption) (by first | omega | assumption) (by rfl) ?_
        rw [a5]
        refine x_aload_n (pc := 328) dX7_goOn_328 rfl ?_
        refine x_getf (pc := 329) dX7_goOn_329 kf_X7_41 (by first | assumption | exact hC.1 | exact hH.1 | exact hV0.1 | exact hT.1) (by rfl) ?_
        refine x_iload (pc := 332) dX7_goOn_332 rfl ?_
        refine xn_iald (pc := 334) dX7_goOn_334 (by assumption) (by first | omega | assumption) (by rfl) ?_
        rw [ct]
        refine x_if_le_f (pc := 335) dX7_goOn_335 (tgt := 353) (by decide) (by rw [n_le0 (by omega)]; omega) ?_
        refine x_aload_n (pc := 338) dX7_goOn_338 rfl ?_
        refine x_getf (pc := 339) dX7_goOn_339 kf_X7_56 (by first | assumption | exact hC.1 | exact hH.1 | exact hV0.1 | exact hT.1) (by rfl) ?_
        refine x_iload (pc := 342) dX7_goOn_342 rfl ?_
        refine xn_iald (pc := 344) dX7_goOn_344 (by assumption) (by first | omega | assumption) (by rfl) ?_
        rw [b5]
        refine x_iconst (pc := 345) dX7_goOn_345 (v := nI 1) (by decide) ?_
        refine x_iload (pc := 346) dX7_goOn_346 rfl ?_
        first | refine xn_shl1 (pc := 348) dX7_goOn_348 (by omega) ?_ | refine xn_ishl (pc := 348) dX7_goOn_348 (by omega) (by omega) ?_ | refine x_ishl (pc := 348) dX7_goOn_348 ?_
        first | refine xn_ior (pc := 349) dX7_goOn_349 ?_ | refine x_ior (pc := 349) dX7_goOn_349 ?_
        refine x_goto (pc := 350) dX7_goOn_350 (tgt := 356) (by decide) ?_
        refine xn_iand (pc := 356) dX7_goOn_356 ?_
        refine Run.top (v' := .int (nI (allM (X ++ X'.map (fun p => j :: p))))) (by rw [allM_app, allM_map j X' hX0 hmsk (by omega)]) ?_
        refine xw_iast (pc := 357) dX7_goOn_357 (by assumption) (by first | omega | assumption) (by rfl) (fun w hnew hne => ?_)
        replace hK := (hne _ (by omega)).trans hK
        replace g0 := (hne _ (by omega)).trans g0
        replace g1 := (hne _ (by omega)).trans g1
        replace g2 := (hne _ (by omega)).trans g2
        replace g3 := (hne _ (by omega)).trans g3
        replace h66 := (hne _ (by omega)).trans h66
        replace h67 := hnew
        replace h68 := (hne _ (by omega)).trans h68
        replace h69 := (hne _ (by omega)).trans h69
        replace h70 := (hne _ (by omega)).trans h70
        replace hC := hC.go fun j q1 q2 => hne j (by omega)
        replace hfr := fun j (hj : j < 62 ∨ 70 < j) => (hne j (by omega)).trans (hfr j hj)
        clear hne
        refine x_aload_n (pc := 358) dX7_goOn_358 rfl ?_
        refine x_getf (pc := 359) dX7_goOn_359 kf_X7_59 (by first | assumption | exact hC.1 | exact hH.1 | exact hV0.1 | exact hT.1) (by rfl) ?_
        refine x_iload_n (pc := 362) dX7_goOn_362 rfl ?_
        refine x_dup2 (pc := 363) dX7_goOn_363 rfl rfl ?_
        refine xn_iald (pc := 364) dX7_goOn_364 (by assumption) (by first | omega | assumption) (by rfl) ?_
        rw [a6]
        refine x_aload_n (pc := 365) dX7_goOn_365 rfl ?_
        refine x_getf (pc := 366) dX7_goOn_366 kf_X7_41 (by first | assumption | exact hC.1 | exact hH.1 | exact hV0.1 | exact hT.1) (by rfl) ?_
        refine x_iload (pc := 369) dX7_goOn_369 rfl ?_
        refine xn_iald (pc := 371) dX7_goOn_371 (by assumption) (by first | omega | assumption) (by rfl) ?_
        rw [ct]
        refine x_if_le_f (pc := 372) dX7_goOn_372 (tgt := 390) (by decide) (by rw [n_le0 (by omega)]; omega) ?_
        refine x_aload_n (pc := 375) dX7_goOn_375 rfl ?_
        refine x_getf (pc := 376) dX7_goOn_376 kf_X7_59 (by first | assumption | exact hC.1 | exact hH.1 | exact hV0.1 | exact hT.1) (by rfl) ?_
        refine x_iload (pc := 379) dX7_goOn_379 rfl ?_
        refine xn_iald (pc := 381) dX7_goOn_381 (by assumption) (by first | omega | assumption) (by rfl) ?_
        rw [b6]
        refine x_iconst (pc := 382) dX7_goOn_382 (v := nI 1) (by decide) ?_
        refine x_iload (pc := 383) dX7_goOn_383 rfl ?_
        first | refine xn_shl1 (pc := 385) dX7_goOn_385 (by omega) ?_ | refine xn_ishl (pc := 385) dX7_goOn_385 (by omega) (by omega) ?_ | refine x_ishl (pc := 385) dX7_goOn_385 ?_
        first | refine xn_ior (pc := 386) dX7_goOn_386 ?_ | refine x_ior (pc := 386) dX7_goOn_386 ?_
        refine x_goto (pc := 387) dX7_goOn_387 (tgt := 391) (by decide) ?_
        first | refine xn_ior (pc := 391) dX7_goOn_391 ?_ | refine x_ior (pc := 391) dX7_goOn_391 ?_
        refine Run.top (v' := .int (nI (anyM (X ++ X'.map (fun p => j :: p))))) (by rw [anyM_app, anyM_map j X' hX0]) ?_
        refine xw_iast (pc := 392) dX7_goOn_392 (by assumption) (by first | omega | assumption) (by rfl) (fun w hnew hne => ?_)
        replace hK := (hne _ (by omega)).trans hK
        replace g0 := (hne _ (by omega)).trans g0
        replace g1 := (hne _ (by omega)).trans g1
        replace g2 := (hne _ (by omega)).trans g2
        replace g3 := (hne _ (by omega)).trans g3
        replace h66 := (hne _ (by omega)).trans h66
        replace h67 := (hne _ (by omega)).trans h67
        replace h68 := hnew
        replace h69 := (hne _ (by omega)).trans h69
        replace h70 := (hne _ (by omega)).trans h70
        replace hC := hC.go fun j q1 q2 => hne j (by omega)
        replace hfr := fun j (hj : j < 62 ∨ 70 < j) => (hne j (by omega)).trans (hfr j hj)
        clear hne
        refine x_aload_n (pc := 393) dX7_goOn_393 rfl ?_
        refine x_getf (pc := 394) dX7_goOn_394 kf_X7_62 (by first | assumption | exact hC.1 | exact hH.1 | exact hV0.1 | exact hT.1) (by rfl) ?_
        refine x_iload_n (pc := 397) dX7_goOn_397 rfl ?_
        refine x_dup2 (pc := 398) dX7_goOn_398 rfl rfl ?_
        refine xn_iald (pc := 399) dX7_goOn_399 (by assumption) (by first | omega | assumption) (by rfl) ?_
        rw [a7]
        refine x_aload_n (pc := 400) dX7_goOn_400 rfl ?_
        refine x_getf (pc := 401) dX7_goOn_401 kf_X7_62 (by first | assumption | exact hC.1 | exact hH.1 | exact hV0.1 | exact hT.1) (by rfl) ?_
        refine x_iload (pc := 404) dX7_goOn_404 rfl ?_
        refine xn_iald (pc := 406) dX7_goOn_406 (by assumption) (by first | omega | assumption) (by rfl) ?_
        rw [b7]
        first | refine xn_ior (pc := 407) dX7_goOn_407 ?_ | refine x_ior (pc := 407) dX7_goOn_407 ?_
        refine Run.top (v' := .int (nI (endM last (X ++ X'.map (fun p => j :: p))))) (by rw [endM_app, endM_map]) ?_
        refine xw_iast (pc := 408) dX7_goOn_408 (by assumption) (by first | omega | assumption) (by rfl) (fun w hnew hne => ?_)
        replace hK := (hne _ (by omega)).trans hK
        replace g0 := (hne _ (by omega)).trans g0
        replace g1 := (hne _ (by omega)).trans g1
        replace g2 := (hne _ (by omega)).trans g2
        replace g3 := (hne _ (by omega)).trans g3
        replace h66 := (hne _ (by omega)).trans h66
        replace h67 := (hne _ (by omega)).trans h67
        replace h68 := (hne _ (by omega)).trans h68
        replace h69 := hnew
        replace h70 := (hne _ (by omega)).trans h70
        replace hC := hC.go fun j q1 q2 => hne j (by omega)
        replace hfr := fun j (hj : j < 62 ∨ 70 < j) => (hne j (by omega)).trans (hfr j hj)
        clear hne
        refine x_aload_n (pc := 409) dX7_goOn_409 rfl ?_
        refine x_getf (pc := 410) dX7_goOn_410 kf_X7_65 (by first | assumption | exact hC.1 | exact hH.1 | exact hV0.1 | exact hT.1) (by rfl) ?_
        refine x_iload_n (pc := 413) dX7_goOn_413 rfl ?_
        refine x_iload (pc := 414) dX7_goOn_414 rfl ?_
        refine x_if_eq_t (pc := 416) dX7_goOn_416 (tgt := 436) (by decide) rfl ?_
        refine x_aload_n (pc := 436) dX7_goOn_436 rfl ?_
        refine x_getf (pc := 437) dX7_goOn_437 kf_X7_65 (by first | assumption | exact hC.1 | exact hH.1 | exact hV0.1 | exact hT.1) (by rfl) ?_
        refine x_iload_n (pc := 440) dX7_goOn_440 rfl ?_
        refine xn_iald (pc := 441) dX7_goOn_441 (by assumption) (by first | omega | assumption) (by rfl) ?_
        rw [a8]
        refine x_aload_n (pc := 442) dX7_goOn_442 rfl ?_
        refine x_getf (pc := 443) dX7_goOn_443 kf_X7_65 (by first | assumption | exact hC.1 | exact hH.1 | exact hV0.1 | exact hT.1) (by rfl) ?_
        refine x_iload (pc := 446) dX7_goOn_446 rfl ?_
        refine xn_iald (pc := 448) dX7_goOn_448 (by assumption) (by first | omega | assumption) (by rfl) ?_
        rw [b8]
        refine xn_iand (pc := 449) dX7_goOn_449 ?_
        refine Run.top (v' := .int (nI (bN (wb && wb')))) (by cases wb <;> cases wb' <;> rfl) ?_
        refine xw_iast (pc := 450) dX7_goOn_450 (by assumption) (by first | omega | assumption) (by rfl) (fun w hnew hne => ?_)
        replace hK := (hne _ (by omega)).trans hK
        replace g0 := (hne _ (by omega)).trans g0
        replace g1 := (hne _ (by omega)).trans g1
        replace g2 := (hne _ (by omega)).trans g2
        replace g3 := (hne _ (by omega)).trans g3
        replace h66 := (hne _ (by omega)).trans h66
        replace h67 := (hne _ (by omega)).trans h67
        replace h68 := (hne _ (by omega)).trans h68
        replace h69 := (hne _ (by omega)).trans h69
        replace h70 := hnew
        replace hC := hC.go fun j q1 q2 => hne j (by omega)
        replace hfr := fun j (hj : j < 62 ∨ 70 < j) => (hne j (by omega)).trans (hfr j hj)
        clear hne
        refine kk w (tb9 _ _ _ _ _ _ _ _ _) _ _ ⟨g0, g1, g2, g3, h66, h67, h68, h69, h70⟩ ⟨c0, c1, c2, c3, upd_same _ _ _, upd_same _ _ _, upd_same _ _ _, upd_same _ _ _, upd_same _ _ _⟩ (fun x hx => ⟨(cs x hx).1, (cs x hx).2.1, (cs x hx).2.2.1, (cs x hx).2.2.2, upd_ne _ _ hx, upd_ne _ _ hx, upd_ne _ _ hx, upd_ne _ _ hx, upd_ne _ _ hx⟩) hfr
      · skip
        try first | rw [n_b1] at h_306 | rw [n_b00] at h_306 | rw [n_le (by omega) (by omega)] at h_306
        refine x_iload (pc := 309) dX7_goOn_309 rfl ?_
        refine x_goto (pc := 311) dX7_goOn_311 (tgt := 320) (by decide) ?_
        refine Run.top (v' := .int (nI (dayM C (X ++ X'.map (fun p => j :: p))))) (by rw [dayM_app, dayM_map C j X' hX0 hday]; first | rw [if_neg (by omega)] | rw [if_pos (by omega)]) ?_
        refine xw_iast (pc := 320) dX7_goOn_320 (by assumption) (by first | omega | assumption) (by rfl) (fun w hnew hne => ?_)
        replace hK := (hne _ (by omega)).trans hK
        replace g0 := (hne _ (by omega)).trans g0
        replace g1 := (hne _ (by omega)).trans g1
        replace g2 := (hne _ (by omega)).trans g2
        replace g3 := (hne _ (by omega)).trans g3
        replace h66 := hnew
        replace h67 := (hne _ (by omega)).trans h67
        replace h68 := (hne _ (by omega)).trans h68
        replace h69 := (hne _ (by omega)).trans h69
        replace h70 := (hne _ (by omega)).trans h70
        replace hC := hC.go fun j q1 q2 => hne j (by omega)
        replace hfr := fun j (hj : j < 62 ∨ 70 < j) => (hne j (by omega)).trans (hfr j hj)
        clear hne
        refine x_aload_n (pc := 321) dX7_goOn_321 rfl ?_
        refine x_getf (pc := 322) dX7_goOn_322 kf_X7_56 (by first | assumption | exact hC.1 | exact hH.1 | exact hV0.1 | exact hT.1) (by rfl) ?_
        refine x_iload_n (pc := 325) dX7_goOn_325 rfl ?_
        refine x_dup2 (pc := 326) dX7_goOn_326 rfl rfl ?_
        refine xn_iald (pc := 327) dX7_goOn_327 (by assumption) (by first | omega | assumption) (by rfl) ?_
        rw [a5]
        refine x_aload_n (pc := 328) dX7_goOn_328 rfl ?_
        refine x_getf (pc := 329) dX7_goOn_329 kf_X7_41 (by first | assumption | exact hC.1 | exact hH.1 | exact hV0.1 | exact hT.1) (by rfl) ?_
        refine x_iload (pc := 332) dX7_goOn_332 rfl ?_
        refine xn_iald (pc := 334) dX7_goOn_334 (by assumption) (by first | omega | assumption) (by rfl) ?_
        rw [ct]
        refine x_if_le_f (pc := 335) dX7_goOn_335 (tgt := 353) (by decide) (by rw [n_le0 (by omega)]; omega) ?_
        refine x_aload_n (pc := 338) dX7_goOn_338 rfl ?_
        refine x_getf (pc := 339) dX7_goOn_339 kf_X7_56 (by first | assumption | exact hC.1 | exact hH.1 | exact hV0.1 | exact hT.1) (by rfl) ?_
        refine x_iload (pc := 342) dX7_goOn_342 rfl ?_
        refine xn_iald (pc := 344) dX7_goOn_344 (by assumption) (by first | omega | assumption) (by rfl) ?_
        rw [b5]
        refine x_iconst (pc := 345) dX7_goOn_345 (v := nI 1) (by decide) ?_
        refine x_iload (pc := 346) dX7_goOn_346 rfl ?_
        first | refine xn_shl1 (pc := 348) dX7_goOn_348 (by omega) ?_ | refine xn_ishl (pc := 348) dX7_goOn_348 (by omega) (by omega) ?_ | refine x_ishl (pc := 348) dX7_goOn_348 ?_
        first | refine xn_ior (pc := 349) dX7_goOn_349 ?_ | refine x_ior (pc := 349) dX7_goOn_349 ?_
        refine x_goto (pc := 350) dX7_goOn_350 (tgt := 356) (by decide) ?_
        refine xn_iand (pc := 356) dX7_goOn_356 ?_
        refine Run.top (v' := .int (nI (allM (X ++ X'.map (fun p => j :: p))))) (by rw [allM_app, allM_map j X' hX0 hmsk (by omega)]) ?_
        refine xw_iast (pc := 357) dX7_goOn_357 (by assumption) (by first | omega | assumption) (by rfl) (fun w hnew hne => ?_)
        replace hK := (hne _ (by omega)).trans hK
        replace g0 := (hne _ (by omega)).trans g0
        replace g1 := (hne _ (by omega)).trans g1
        replace g2 := (hne _ (by omega)).trans g2
        replace g3 := (hne _ (by omega)).trans g3
        replace h66 := (hne _ (by omega)).trans h66
        replace h67 := hnew
        replace h68 := (hne _ (by omega)).trans h68
        replace h69 := (hne _ (by omega)).trans h69
        replace h70 := (hne _ (by omega)).trans h70
        replace hC := hC.go fun j q1 q2 => hne j (by omega)
        replace hfr := fun j (hj : j < 62 ∨ 70 < j) => (hne j (by omega)).trans (hfr j hj)
        clear hne
        refine x_aload_n (pc := 358) dX7_goOn_358 rfl ?_
        refine x_getf (pc := 359) dX7_goOn_359 kf_X7_59 (by first | assumption | exact hC.1 | exact hH.1 | exact hV0.1 | exact hT.1) (by rfl) ?_
        refine x_iload_n (pc := 362) dX7_goOn_362 rfl ?_
        refine x_dup2 (pc := 363) dX7_goOn_363 rfl rfl ?_
        refine xn_iald (pc := 364) dX7_goOn_364 (by assumption) (by first | omega | assumption) (by rfl) ?_
        rw [a6]
        refine x_aload_n (pc := 365) dX7_goOn_365 rfl ?_
        refine x_getf (pc := 366) dX7_goOn_366 kf_X7_41 (by first | assumption | exact hC.1 | exact hH.1 | exact hV0.1 | exact hT.1) (by rfl) ?_
        refine x_iload (pc := 369) dX7_goOn_369 rfl ?_
        refine xn_iald (pc := 371) dX7_goOn_371 (by assumption) (by first | omega | assumption) (by rfl) ?_
        rw [ct]
        refine x_if_le_f (pc := 372) dX7_goOn_372 (tgt := 390) (by decide) (by rw [n_le0 (by omega)]; omega) ?_
        refine x_aload_n (pc := 375) dX7_goOn_375 rfl ?_
        refine x_getf (pc := 376) dX7_goOn_376 kf_X7_59 (by first | assumption | exact hC.1 | exact hH.1 | exact hV0.1 | exact hT.1) (by rfl) ?_
        refine x_iload (pc := 379) dX7_goOn_379 rfl ?_
        refine xn_iald (pc := 381) dX7_goOn_381 (by assumption) (by first | omega | assumption) (by rfl) ?_
        rw [b6]
        refine x_iconst (pc := 382) dX7_goOn_382 (v := nI 1) (by decide) ?_
        refine x_iload (pc := 383) dX7_goOn_383 rfl ?_
        first | refine xn_shl1 (pc := 385) dX7_goOn_385 (by omega) ?_ | refine xn_ishl (pc := 385) dX7_goOn_385 (by omega) (by omega) ?_ | refine x_ishl (pc := 385) dX7_goOn_385 ?_
        first | refine xn_ior (pc := 386) dX7_goOn_386 ?_ | refine x_ior (pc := 386) dX7_goOn_386 ?_
        refine x_goto (pc := 387) dX7_goOn_387 (tgt := 391) (by decide) ?_
        first | refine xn_ior (pc := 391) dX7_goOn_391 ?_ | refine x_ior (pc := 391) dX7_goOn_391 ?_
        refine Run.top (v' := .int (nI (anyM (X ++ X'.map (fun p => j :: p))))) (by rw [anyM_app, anyM_map j X' hX0]) ?_
        refine xw_iast (pc := 392) dX7_goOn_392 (by assumption) (by first | omega | assumption) (by rfl) (fun w hnew hne => ?_)
        replace hK := (hne _ (by omega)).trans hK
        replace g0 := (hne _ (by omega)).trans g0
        replace g1 := (hne _ (by omega)).trans g1
        replace g2 := (hne _ (by omega)).trans g2
        replace g3 := (hne _ (by omega)).trans g3
        replace h66 := (hne _ (by omega)).trans h66
        replace h67 := (hne _ (by omega)).trans h67
        replace h68 := hnew
        replace h69 := (hne _ (by omega)).trans h69
        replace h70 := (hne _ (by omega)).trans h70
        replace hC := hC.go fun j q1 q2 => hne j (by omega)
        replace hfr := fun j (hj : j < 62 ∨ 70 < j) => (hne j (by omega)).trans (hfr j hj)
        clear hne
        refine x_aload_n (pc := 393) dX7_goOn_393 rfl ?_
        refine x_getf (pc := 394) dX7_goOn_394 kf_X7_62 (by first | assumption | exact hC.1 | exact hH.1 | exact hV0.1 | exact hT.1) (by rfl) ?_
        refine x_iload_n (pc := 397) dX7_goOn_397 rfl ?_
        refine x_dup2 (pc := 398) dX7_goOn_398 rfl rfl ?_
        refine xn_iald (pc := 399) dX7_goOn_399 (by assumption) (by first | omega | assumption) (by rfl) ?_
        rw [a7]
        refine x_aload_n (pc := 400) dX7_goOn_400 rfl ?_
        refine x_getf (pc := 401) dX7_goOn_401 kf_X7_62 (by first | assumption | exact hC.1 | exact hH.1 | exact hV0.1 | exact hT.1) (by rfl) ?_
        refine x_iload (pc := 404) dX7_goOn_404 rfl ?_
        refine xn_iald (pc := 406) dX7_goOn_406 (by assumption) (by first | omega | assumption) (by rfl) ?_
        rw [b7]
        first | refine xn_ior (pc := 407) dX7_goOn_407 ?_ | refine x_ior (pc := 407) dX7_goOn_407 ?_
        refine Run.top (v' := .int (nI (endM last (X ++ X'.map (fun p => j :: p))))) (by rw [endM_app, endM_map]) ?_
        refine xw_iast (pc := 408) dX7_goOn_408 (by assumption) (by first | omega | assumption) (by rfl) (fun w hnew hne => ?_)
        replace hK := (hne _ (by omega)).trans hK
        replace g0 := (hne _ (by omega)).trans g0
        replace g1 := (hne _ (by omega)).trans g1
        replace g2 := (hne _ (by omega)).trans g2
        replace g3 := (hne _ (by omega)).trans g3
        replace h66 := (hne _ (by omega)).trans h66
        replace h67 := (hne _ (by omega)).trans h67
        replace h68 := (hne _ (by omega)).trans h68
        replace h69 := hnew
        replace h70 := (hne _ (by omega)).trans h70
        replace hC := hC.go fun j q1 q2 => hne j (by omega)
        replace hfr := fun j (hj : j < 62 ∨ 70 < j) => (hne j (by omega)).trans (hfr j hj)
        clear hne
        refine x_aload_n (pc := 409) dX7_goOn_409 rfl ?_
        refine x_getf (pc := 410) dX7_goOn_410 kf_X7_65 (by first | assumption | exact hC.1 | exact hH.1 | exact hV0.1 | exact hT.1) (by rfl) ?_
        refine x_iload_n (pc := 413) dX7_goOn_413 rfl ?_
        refine x_iload (pc := 414) dX7_goOn_414 rfl ?_
        refine x_if_eq_t (pc := 416) dX7_goOn_416 (tgt := 436) (by decide) rfl ?_
        refine x_aload_n (pc := 436) dX7_goOn_436 rfl ?_
        refine x_getf (pc := 437) dX7_goOn_437 kf_X7_65 (by first | assumption | exact hC.1 | exact hH.1 | exact hV0.1 | exact hT.1) (by rfl) ?_
        refine x_iload_n (pc := 440) dX7_goOn_440 rfl ?_
        refine xn_iald (pc := 441) dX7_goOn_441 (by assumption) (by first | omega | assumption) (by rfl) ?_
        rw [a8]
        refine x_aload_n (pc := 442) dX7_goOn_442 rfl ?_
        refine x_getf (pc := 443) dX7_goOn_443 kf_X7_65 (by first | assumption | exact hC.1 | exact hH.1 | exact hV0.1 | exact hT.1) (by rfl) ?_
        refine x_iload (pc := 446) dX7_goOn_446 rfl ?_
        refine xn_iald (pc := 448) dX7_goOn_448 (by assumption) (by first | omega | assumption) (by rfl) ?_
        rw [b8]
        refine xn_iand (pc := 449) dX7_goOn_449 ?_
        refine Run.top (v' := .int (nI (bN (wb && wb')))) (by cases wb <;> cases wb' <;> rfl) ?_
        refine xw_iast (pc := 450) dX7_goOn_450 (by assumption) (by first | omega | assumption) (by rfl) (fun w hnew hne => ?_)
        replace hK := (hne _ (by omega)).trans hK
        replace g0 := (hne _ (by omega)).trans g0
        replace g1 := (hne _ (by omega)).trans g1
        replace g2 := (hne _ (by omega)).trans g2
        replace g3 := (hne _ (by omega)).trans g3
        replace h66 := (hne _ (by omega)).trans h66
        replace h67 := (hne _ (by omega)).trans h67
        replace h68 := (hne _ (by omega)).trans h68
        replace h69 := (hne _ (by omega)).trans h69
        replace h70 := hnew
        replace hC := hC.go fun j q1 q2 => hne j (by omega)
        replace hfr := fun j (hj : j < 62 ∨ 70 < j) => (hne j (by omega)).trans (hfr j hj)
        clear hne
        refine kk w (tb9 _ _ _ _ _ _ _ _ _) _ _ ⟨g0, g1, g2, g3, h66, h67, h68, h69, h70⟩ ⟨c0, c1, c2, c3, upd_same _ _ _, upd_same _ _ _, upd_same _ _ _, upd_same _ _ _, upd_same _ _ _⟩ (fun x hx => ⟨(cs x hx).1, (cs x hx).2.1, (cs x hx).2.2.1, (cs x hx).2.2.2, upd_ne _ _ hx, upd_ne _ _ hx, upd_ne _ _ hx, upd_ne _ _ hx, upd_ne _ _ hx⟩) hfr
    | true =>
      refine x_aload_n (pc := 266) dX7_goOn_266 rfl ?_
      refine x_getf (pc := 267) dX7_goOn_267 kf_X7_23 (by first | assumption | exact hC.1 | exact hH.1 | exact hV0.1 | exact hT.1) (by rfl) ?_
      refine x_iload (pc := 270) dX7_goOn_270 rfl ?_
      refine xn_iald (pc := 272) dX7_goOn_272 (by assumption) (by first | omega | assumption) (by rfl) ?_
      rw [(e4 j hj).2.2.1]
      refine x_aload_n (pc := 273) dX7_goOn_273 rfl ?_
      refine x_getf (pc := 274) dX7_goOn_274 kf_X7_53 (by first | assumption | exact hC.1 | exact hH.1 | exact hV0.1 | exact hT.1) (by rfl) ?_
      refine x_iload (pc := 277) dX7_goOn_277 rfl ?_
      refine xn_iald (pc := 279) dX7_goOn_279 (by assumption) (by first | omega | assumption) (by rfl) ?_
      rw [b4]
      first | refine xn_iadd (pc := 280) dX7_goOn_280 ?_ | refine x_iadd (pc := 280) dX7_goOn_280 ?_
      refine x_istore (pc := 281) dX7_goOn_281 rfl ?_
      refine x_aload_n (pc := 283) dX7_goOn_283 rfl ?_
      refine x_getf (pc := 284) dX7_goOn_284 kf_X7_53 (by first | assumption | exact hC.1 | exact hH.1 | exact hV0.1 | exact hT.1) (by rfl) ?_
      refine x_iload_n (pc := 287) dX7_goOn_287 rfl ?_
      refine x_aload_n (pc := 288) dX7_goOn_288 rfl ?_
      refine x_getf (pc := 289) dX7_goOn_289 kf_X7_41 (by first | assumption | exact hC.1 | exact hH.1 | exact hV0.1 | exact hT.1) (by rfl) ?_
      refine x_iload (pc := 292) dX7_goOn_292 rfl ?_
      refine xn_iald (pc := 294) dX7_goOn_294 (by assumption) (by first | omega | assumption) (by rfl) ?_
      rw [ct]
      refine x_if_le_f (pc := 295) dX7_goOn_295 (tgt := 314) (by decide) (by rw [n_le0 (by omega)]; omega) ?_
      refine x_iload (pc := 298) dX7_goOn_298 rfl ?_
      refine x_aload_n (pc := 300) dX7_goOn_300 rfl ?_
      refine x_getf (pc := 301) dX7_goOn_301 kf_X7_53 (by first | assumption | exact hC.1 | exact hH.1 | exact hV0.1 | exact hT.1) (by rfl) ?_
      refine x_iload_n (pc := 304) dX7_goOn_304 rfl ?_
      refine xn_iald (pc := 305) dX7_goOn_305 (by assumption) (by first | omega | assumption) (by rfl) ?_
      rw [a4]
      refine x_icmp_ge (pc := 306) dX7_goOn_306 (tgt := 314) (by decide) (fun h_306 => ?_) (fun h_306 => ?_)
      · skip
        try first | rw [n_b1] at h_306 | rw [n_b00] at h_306 | rw [n_le (by omega) (by omega)] at h_306
        refine x_aload_n (pc := 314) dX7_goOn_314 rfl ?_
        refine x_getf (pc := 315) dX7_goOn_315 kf_X7_53 (by first | assumption | exact hC.1 | exact hH.1 | exact hV0.1 | exact hT.1) (by rfl) ?_
        refine x_iload_n (pc := 318) dX7_goOn_318 rfl ?_
        refine xn_iald (pc := 319) dX7_goOn_319 (by assumption) (by first | omega | assumption) (by rfl) ?_
        rw [a4]
        refine Run.top (v' := .int (nI (dayM C (X ++ X'.map (fun p => j :: p))))) (by rw [dayM_app, dayM_map C j X' hX0 hday]; first | rw [if_neg (by omega)] | rw [if_pos (by omega)]) ?_
        refine xw_iast (pc := 320) dX7_goOn_320 (by assumption) (by first | omega | assumption) (by rfl) (fun w hnew hne => ?_)
        replace hK := (hne _ (by omega)).trans hK
        replace g0 := (hne _ (by omega)).trans g0
        replace g1 := (hne _ (by omega)).trans g1
        replace g2 := (hne _ (by omega)).trans g2
        replace g3 := (hne _ (by omega)).trans g3
        replace h66 := hnew
        replace h67 := (hne _ (by omega)).trans h67
        replace h68 := (hne _ (by omega)).trans h68
        replace h69 := (hne _ (by omega)).trans h69
        replace h70 := (hne _ (by omega)).trans h70
        replace hC := hC.go fun j q1 q2 => hne j (by omega)
        replace hfr := fun j (hj : j < 62 ∨ 70 < j) => (hne j (by omega)).trans (hfr j hj)
        clear hne
        refine x_aload_n (pc := 321) dX7_goOn_321 rfl ?_
        refine x_getf (pc := 322) dX7_goOn_322 kf_X7_56 (by first | assumption | exact hC.1 | exact hH.1 | exact hV0.1 | exact hT.1) (by rfl) ?_
        refine x_iload_n (pc := 325) dX7_goOn_325 rfl ?_
        refine x_dup2 (pc := 326) dX7_goOn_326 rfl rfl ?_
        refine xn_iald (pc := 327) dX7_goOn_327 (by assumption) (by first | omega | assumption) (by rfl) ?_
        rw [a5]
        refine x_aload_n (pc := 328) dX7_goOn_328 rfl ?_
        refine x_getf (pc := 329) dX7_goOn_329 kf_X7_41 (by first | assumption | exact hC.1 | exact hH.1 | exact hV0.1 | exact hT.1) (by rfl) ?_
        refine x_iload (pc := 332) dX7_goOn_332 rfl ?_
        refine xn_iald (pc := 334) dX7_goOn_334 (by assumption) (by first | omega | assumption) (by rfl) ?_
        rw [ct]
        refine x_if_le_f (pc := 335) dX7_goOn_335 (tgt := 353) (by decide) (by rw [n_le0 (by omega)]; omega) ?_
        refine x_aload_n (pc := 338) dX7_goOn_338 rfl ?_
        refine x_getf (pc := 339) dX7_goOn_339 kf_X7_56 (by first | assumption | exact hC.1 | exact hH.1 | exact hV0.1 | exact hT.1) (by rfl) ?_
        refine x_iload (pc := 342) dX7_goOn_342 rfl ?_
        refine xn_iald (pc := 344) dX7_goOn_344 (by assumption) (by first | omega | assumption) (by rfl) ?_
        rw [b5]
        refine x_iconst (pc := 345) dX7_goOn_345 (v := nI 1) (by decide) ?_
        refine x_iload (pc := 346) dX7_goOn_346 rfl ?_
        first | refine xn_shl1 (pc := 348) dX7_goOn_348 (by omega) ?_ | refine xn_ishl (pc := 348) dX7_goOn_348 (by omega) (by omega) ?_ | refine x_ishl (pc := 348) dX7_goOn_348 ?_
        first | refine xn_ior (pc := 349) dX7_goOn_349 ?_ | refine x_ior (pc := 349) dX7_goOn_349 ?_
        refine x_goto (pc := 350) dX7_goOn_350 (tgt := 356) (by decide) ?_
        refine xn_iand (pc := 356) dX7_goOn_356 ?_
        refine Run.top (v' := .int (nI (allM (X ++ X'.map (fun p => j :: p))))) (by rw [allM_app, allM_map j X' hX0 hmsk (by omega)]) ?_
        refine xw_iast (pc := 357) dX7_goOn_357 (by assumption) (by first | omega | assumption) (by rfl) (fun w hnew hne => ?_)
        replace hK := (hne _ (by omega)).trans hK
        replace g0 := (hne _ (by omega)).trans g0
        replace g1 := (hne _ (by omega)).trans g1
        replace g2 := (hne _ (by omega)).trans g2
        replace g3 := (hne _ (by omega)).trans g3
        replace h66 := (hne _ (by omega)).trans h66
        replace h67 := hnew
        replace h68 := (hne _ (by omega)).trans h68
        replace h69 := (hne _ (by omega)).trans h69
        replace h70 := (hne _ (by omega)).trans h70
        replace hC := hC.go fun j q1 q2 => hne j (by omega)
        replace hfr := fun j (hj : j < 62 ∨ 70 < j) => (hne j (by omega)).trans (hfr j hj)
        clear hne
        refine x_aload_n (pc := 358) dX7_goOn_358 rfl ?_
        refine x_getf (pc := 359) dX7_goOn_359 kf_X7_59 (by first | assumption | exact hC.1 | exact hH.1 | exact hV0.1 | exact hT.1) (by rfl) ?_
        refine x_iload_n (pc := 362) dX7_goOn_362 rfl ?_
        refine x_dup2 (pc := 363) dX7_goOn_363 rfl rfl ?_
        refine xn_iald (pc := 364) dX7_goOn_364 (by assumption) (by first | omega | assumption) (by rfl) ?_
        rw [a6]
        refine x_aload_n (pc := 365) dX7_goOn_365 rfl ?_
        refine x_getf (pc := 366) dX7_goOn_366 kf_X7_41 (by first | assumption | exact hC.1 | exact hH.1 | exact hV0.1 | exact hT.1) (by rfl) ?_
        refine x_iload (pc := 369) dX7_goOn_369 rfl ?_
        refine xn_iald (pc := 371) dX7_goOn_371 (by assumption) (by first | omega | assumption) (by rfl) ?_
        rw [ct]
        refine x_if_le_f (pc := 372) dX7_goOn_372 (tgt := 390) (by decide) (by rw [n_le0 (by omega)]; omega) ?_
        refine x_aload_n (pc := 375) dX7_goOn_375 rfl ?_
        refine x_getf (pc := 376) dX7_goOn_376 kf_X7_59 (by first | assumption | exact hC.1 | exact hH.1 | exact hV0.1 | exact hT.1) (by rfl) ?_
        refine x_iload (pc := 379) dX7_goOn_379 rfl ?_
        refine xn_iald (pc := 381) dX7_goOn_381 (by assumption) (by first | omega | assumption) (by rfl) ?_
        rw [b6]
        refine x_iconst (pc := 382) dX7_goOn_382 (v := nI 1) (by decide) ?_
        refine x_iload (pc := 383) dX7_goOn_383 rfl ?_
        first | refine xn_shl1 (pc := 385) dX7_goOn_385 (by omega) ?_ | refine xn_ishl (pc := 385) dX7_goOn_385 (by omega) (by omega) ?_ | refine x_ishl (pc := 385) dX7_goOn_385 ?_
        first | refine xn_ior (pc := 386) dX7_goOn_386 ?_ | refine x_ior (pc := 386) dX7_goOn_386 ?_
        refine x_goto (pc := 387) dX7_goOn_387 (tgt := 391) (by decide) ?_
        first | refine xn_ior (pc := 391) dX7_goOn_391 ?_ | refine x_ior (pc := 391) dX7_goOn_391 ?_
        refine Run.top (v' := .int (nI (anyM (X ++ X'.map (fun p => j :: p))))) (by rw [anyM_app, anyM_map j X' hX0]) ?_
        refine xw_iast (pc := 392) dX7_goOn_392 (by assumption) (by first | omega | assumption) (by rfl) (fun w hnew hne => ?_)
        replace hK := (hne _ (by omega)).trans hK
        replace g0 := (hne _ (by omega)).trans g0
        replace g1 := (hne _ (by omega)).trans g1
        replace g2 := (hne _ (by omega)).trans g2
        replace g3 := (hne _ (by omega)).trans g3
        replace h66 := (hne _ (by omega)).trans h66
        replace h67 := (hne _ (by omega)).trans h67
        replace h68 := hnew
        replace h69 := (hne _ (by omega)).trans h69
        replace h70 := (hne _ (by omega)).trans h70
        replace hC := hC.go fun j q1 q2 => hne j (by omega)
        replace hfr := fun j (hj : j < 62 ∨ 70 < j) => (hne j (by omega)).trans (hfr j hj)
        clear hne
        refine x_aload_n (pc := 393) dX7_goOn_393 rfl ?_
        refine x_getf (pc := 394) dX7_goOn_394 kf_X7_62 (by first | assumption | exact hC.1 | exact hH.1 | exact hV0.1 | exact hT.1) (by rfl) ?_
        refine x_iload_n (pc := 397) dX7_goOn_397 rfl ?_
        refine x_dup2 (pc := 398) dX7_goOn_398 rfl rfl ?_
        refine xn_iald (pc := 399) dX7_goOn_399 (by assumption) (by first | omega | assumption) (by rfl) ?_
        rw [a7]
        refine x_aload_n (pc := 400) dX7_goOn_400 rfl ?_
        refine x_getf (pc := 401) dX7_goOn_401 kf_X7_62 (by first | assumption | exact hC.1 | exact hH.1 | exact hV0.1 | exact hT.1) (by rfl) ?_
        refine x_iload (pc := 404) dX7_goOn_404 rfl ?_
        refine xn_iald (pc := 406) dX7_goOn_406 (by assumption) (by first | omega | assumption) (by rfl) ?_
        rw [b7]
        first | refine xn_ior (pc := 407) dX7_goOn_407 ?_ | refine x_ior (pc := 407) dX7_goOn_407 ?_
        refine Run.top (v' := .int (nI (endM last (X ++ X'.map (fun p => j :: p))))) (by rw [endM_app, endM_map]) ?_
        refine xw_iast (pc := 408) dX7_goOn_408 (by assumption) (by first | omega | assumption) (by rfl) (fun w hnew hne => ?_)
        replace hK := (hne _ (by omega)).trans hK
        replace g0 := (hne _ (by omega)).trans g0
        replace g1 := (hne _ (by omega)).trans g1
        replace g2 := (hne _ (by omega)).trans g2
        replace g3 := (hne _ (by omega)).trans g3
        replace h66 := (hne _ (by omega)).trans h66
        replace h67 := (hne _ (by omega)).trans h67
        replace h68 := (hne _ (by omega)).trans h68
        replace h69 := hnew
        replace h70 := (hne _ (by omega)).trans h70
        replace hC := hC.go fun j q1 q2 => hne j (by omega)
        replace hfr := fun j (hj : j < 62 ∨ 70 < j) => (hne j (by omega)).trans (hfr j hj)
        clear hne
        refine x_aload_n (pc := 409) dX7_goOn_409 rfl ?_
        refine x_getf (pc := 410) dX7_goOn_410 kf_X7_65 (by first | assumption | exact hC.1 | exact hH.1 | exact hV0.1 | exact hT.1) (by rfl) ?_
        refine x_iload_n (pc := 413) dX7_goOn_413 rfl ?_
        refine x_iload (pc := 414) dX7_goOn_414 rfl ?_
        refine x_if_eq_f (pc := 416) dX7_goOn_416 (tgt := 436) (by decide) (by decide +kernel) ?_
        refine x_aload_n (pc := 419) dX7_goOn_419 rfl ?_
        refine x_getf (pc := 420) dX7_goOn_420 kf_X7_65 (by first | assumption | exact hC.1 | exact hH.1 | exact hV0.1 | exact hT.1) (by rfl) ?_
        refine x_iload_n (pc := 423) dX7_goOn_423 rfl ?_
        refine xn_iald (pc := 424) dX7_goOn_424 (by assumption) (by first | omega | assumption) (by rfl) ?_
        rw [a8]
        refine x_aload_n (pc := 425) dX7_goOn_425 rfl ?_
        refine x_getf (pc := 426) dX7_goOn_426 kf_X7_65 (by first | assumption | exact hC.1 | exact hH.1 | exact hV0.1 | exact hT.1) (by rfl) ?_
        refine x_iload (pc := 429) dX7_goOn_429 rfl ?_
        refine xn_iald (pc := 431) dX7_goOn_431 (by assumption) (by first | omega | assumption) (by rfl) ?_
        rw [b8]
        first | refine xn_ior (pc := 432) dX7_goOn_432 ?_ | refine x_ior (pc := 432) dX7_goOn_432 ?_
        refine x_goto (pc := 433) dX7_goOn_433 (tgt := 450) (by decide) ?_
        refine Run.top (v' := .int (nI (bN (wb || wb')))) (by cases wb <;> cases wb' <;> rfl) ?_
        refine xw_iast (pc := 450) dX7_goOn_450 (by assumption) (by first | omega | assumption) (by rfl) (fun w hnew hne => ?_)
        replace hK := (hne _ (by omega)).trans hK
        replace g0 := (hne _ (by omega)).trans g0
        replace g1 := (hne _ (by omega)).trans g1
        replace g2 := (hne _ (by omega)).trans g2
        replace g3 := (hne _ (by omega)).trans g3
        replace h66 := (hne _ (by omega)).trans h66
        replace h67 := (hne _ (by omega)).trans h67
        replace h68 := (hne _ (by omega)).trans h68
        replace h69 := (hne _ (by omega)).trans h69
        replace h70 := hnew
        replace hC := hC.go fun j q1 q2 => hne j (by omega)
        replace hfr := fun j (hj : j < 62 ∨ 70 < j) => (hne j (by omega)).trans (hfr j hj)
        clear hne
        refine kk w (tb9 _ _ _ _ _ _ _ _ _) _ _ ⟨g0, g1, g2, g3, h66, h67, h68, h69, h70⟩ ⟨c0, c1, c2, c3, upd_same _ _ _, upd_same _ _ _, upd_same _ _ _, upd_same _ _ _, upd_same _ _ _⟩ (fun x hx => ⟨(cs x hx).1, (cs x hx).2.1, (cs x hx).2.2.1, (cs x hx).2.2.2, upd_ne _ _ hx, upd_ne _ _ hx, upd_ne _ _ hx, upd_ne _ _ hx, upd_ne _ _ hx⟩) hfr
      · skip
        try first | rw [n_b1] at h_306 | rw [n_b00] at h_306 | rw [n_le (by omega) (by omega)] at h_306
        refine x_iload (pc := 309) dX7_goOn_309 rfl ?_
        refine x_goto (pc := 311) dX7_goOn_311 (tgt := 320) (by decide) ?_
        refine Run.top (v' := .int (nI (dayM C (X ++ X'.map (fun p => j :: p))))) (by rw [dayM_app, dayM_map C j X' hX0 hday]; first | rw [if_neg (by omega)] | rw [if_pos (by omega)]) ?_
        refine xw_iast (pc := 320) dX7_goOn_320 (by assumption) (by first | omega | assumption) (by rfl) (fun w hnew hne => ?_)
        replace hK := (hne _ (by omega)).trans hK
        replace g0 := (hne _ (by omega)).trans g0
        replace g1 := (hne _ (by omega)).trans g1
        replace g2 := (hne _ (by omega)).trans g2
        replace g3 := (hne _ (by omega)).trans g3
        replace h66 := hnew
        replace h67 := (hne _ (by omega)).trans h67
        replace h68 := (hne _ (by omega)).trans h68
        replace h69 := (hne _ (by omega)).trans h69
        replace h70 := (hne _ (by omega)).trans h70
        replace hC := hC.go fun j q1 q2 => hne j (by omega)
        replace hfr := fun j (hj : j < 62 ∨ 70 < j) => (hne j (by omega)).trans (hfr j hj)
        clear hne
        refine x_aload_n (pc := 321) dX7_goOn_321 rfl ?_
        refine x_getf (pc := 322) dX7_goOn_322 kf_X7_56 (by first | assumption | exact hC.1 | exact hH.1 | exact hV0.1 | exact hT.1) (by rfl) ?_
        refine x_iload_n (pc := 325) dX7_goOn_325 rfl ?_
        refine x_dup2 (pc := 326) dX7_goOn_326 rfl rfl ?_
        refine xn_iald (pc := 327) dX7_goOn_327 (by assumption) (by first | omega | assumption) (by rfl) ?_
        rw [a5]
        refine x_aload_n (pc := 328) dX7_goOn_328 rfl ?_
        refine x_getf (pc := 329) dX7_goOn_329 kf_X7_41 (by first | assumption | exact hC.1 | exact hH.1 | exact hV0.1 | exact hT.1) (by rfl) ?_
        refine x_iload (pc := 332) dX7_goOn_332 rfl ?_
        refine xn_iald (pc := 334) dX7_goOn_334 (by assumption) (by first | omega | assumption) (by rfl) ?_
        rw [ct]
        refine x_if_le_f (pc := 335) dX7_goOn_335 (tgt := 353) (by decide) (by rw [n_le0 (by omega)]; omega) ?_
        refine x_aload_n (pc := 338) dX7_goOn_338 rfl ?_
        refine x_getf (pc := 339) dX7_goOn_339 kf_X7_56 (by first | assumption | exact hC.1 | exact hH.1 | exact hV0.1 | exact hT.1) (by rfl) ?_
        refine x_iload (pc := 342) dX7_goOn_342 rfl ?_
        refine xn_iald (pc := 344) dX7_goOn_344 (by assumption) (by first | omega | assumption) (by rfl) ?_
        rw [b5]
        refine x_iconst (pc := 345) dX7_goOn_345 (v := nI 1) (by decide) ?_
        refine x_iload (pc := 346) dX7_goOn_346 rfl ?_
        first | refine xn_shl1 (pc := 348) dX7_goOn_348 (by omega) ?_ | refine xn_ishl (pc := 348) dX7_goOn_348 (by omega) (by omega) ?_ | refine x_ishl (pc := 348) dX7_goOn_348 ?_
        first | refine xn_ior (pc := 349) dX7_goOn_349 ?_ | refine x_ior (pc := 349) dX7_goOn_349 ?_
        refine x_goto (pc := 350) dX7_goOn_350 (tgt := 356) (by decide) ?_
        refine xn_iand (pc := 356) dX7_goOn_356 ?_
        refine Run.top (v' := .int (nI (allM (X ++ X'.map (fun p => j :: p))))) (by rw [allM_app, allM_map j X' hX0 hmsk (by omega)]) ?_
        refine xw_iast (pc := 357) dX7_goOn_357 (by assumption) (by first | omega | assumption) (by rfl) (fun w hnew hne => ?_)
        replace hK := (hne _ (by omega)).trans hK
        replace g0 := (hne _ (by omega)).trans g0
        replace g1 := (hne _ (by omega)).trans g1
        replace g2 := (hne _ (by omega)).trans g2
        replace g3 := (hne _ (by omega)).trans g3
        replace h66 := (hne _ (by omega)).trans h66
        replace h67 := hnew
        replace h68 := (hne _ (by omega)).trans h68
        replace h69 := (hne _ (by omega)).trans h69
        replace h70 := (hne _ (by omega)).trans h70
        replace hC := hC.go fun j q1 q2 => hne j (by omega)
        replace hfr := fun j (hj : j < 62 ∨ 70 < j) => (hne j (by omega)).trans (hfr j hj)
        clear hne
        refine x_aload_n (pc := 358) dX7_goOn_358 rfl ?_
        refine x_getf (pc := 359) dX7_goOn_359 kf_X7_59 (by first | assumption | exact hC.1 | exact hH.1 | exact hV0.1 | exact hT.1) (by rfl) ?_
        refine x_iload_n (pc := 362) dX7_goOn_362 rfl ?_
        refine x_dup2 (pc := 363) dX7_goOn_363 rfl rfl ?_
        refine xn_iald (pc := 364) dX7_goOn_364 (by assumption) (by first | omega | assumption) (by rfl) ?_
        rw [a6]
        refine x_aload_n (pc := 365) dX7_goOn_365 rfl ?_
        refine x_getf (pc := 366) dX7_goOn_366 kf_X7_41 (by first | assumption | exact hC.1 | exact hH.1 | exact hV0.1 | exact hT.1) (by rfl) ?_
        refine x_iload (pc := 369) dX7_goOn_369 rfl ?_
        refine xn_iald (pc := 371) dX7_goOn_371 (by assumption) (by first | omega | assumption) (by rfl) ?_
        rw [ct]
        refine x_if_le_f (pc := 372) dX7_goOn_372 (tgt := 390) (by decide) (by rw [n_le0 (by omega)]; omega) ?_
        refine x_aload_n (pc := 375) dX7_goOn_375 rfl ?_
        refine x_getf (pc := 376) dX7_goOn_376 kf_X7_59 (by first | assumption | exact hC.1 | exact hH.1 | exact hV0.1 | exact hT.1) (by rfl) ?_
        refine x_iload (pc := 379) dX7_goOn_379 rfl ?_
        refine xn_iald (pc := 381) dX7_goOn_381 (by assumption) (by first | omega | assumption) (by rfl) ?_
        rw [b6]
        refine x_iconst (pc := 382) dX7_goOn_382 (v := nI 1) (by decide) ?_
        refine x_iload (pc := 383) dX7_goOn_383 rfl ?_
        first | refine xn_shl1 (pc := 385) dX7_goOn_385 (by omega) ?_ | refine xn_ishl (pc := 385) dX7_goOn_385 (by omega) (by omega) ?_ | refine x_ishl (pc := 385) dX7_goOn_385 ?_
        first | refine xn_ior (pc := 386) dX7_goOn_386 ?_ | refine x_ior (pc := 386) dX7_goOn_386 ?_
        refine x_goto (pc := 387) dX7_goOn_387 (tgt := 391) (by decide) ?_
        first | refine xn_ior (pc := 391) dX7_goOn_391 ?_ | refine x_ior (pc := 391) dX7_goOn_391 ?_
        refine Run.top (v' := .int (nI (anyM (X ++ X'.map (fun p => j :: p))))) (by rw [anyM_app, anyM_map j X' hX0]) ?_
        refine xw_iast (pc := 392) dX7_goOn_392 (by assumption) (by first | omega | assumption) (by rfl) (fun w hnew hne => ?_)
        replace hK := (hne _ (by omega)).trans hK
        replace g0 := (hne _ (by omega)).trans g0
        replace g1 := (hne _ (by omega)).trans g1
        replace g2 := (hne _ (by omega)).trans g2
        replace g3 := (hne _ (by omega)).trans g3
        replace h66 := (hne _ (by omega)).trans h66
        replace h67 := (hne _ (by omega)).trans h67
        replace h68 := hnew
        replace h69 := (hne _ (by omega)).trans h69
        replace h70 := (hne _ (by omega)).trans h70
        replace hC := hC.go fun j q1 q2 => hne j (by omega)
        replace hfr := fun j (hj : j < 62 ∨ 70 < j) => (hne j (by omega)).trans (hfr j hj)
        clear hne
        refine x_aload_n (pc := 393) dX7_goOn_393 rfl ?_
        refine x_getf (pc := 394) dX7_goOn_394 kf_X7_62 (by first | assumption | exact hC.1 | exact hH.1 | exact hV0.1 | exact hT.1) (by rfl) ?_
        refine x_iload_n (pc := 397) dX7_goOn_397 rfl ?_
        refine x_dup2 (pc := 398) dX7_goOn_398 rfl rfl ?_
        refine xn_iald (pc := 399) dX7_goOn_399 (by assumption) (by first | omega | assumption) (by rfl) ?_
        rw [a7]
        refine x_aload_n (pc := 400) dX7_goOn_400 rfl ?_
        refine x_getf (pc := 401) dX7_goOn_401 kf_X7_62 (by first | assumption | exact hC.1 | exact hH.1 | exact hV0.1 | exact hT.1) (by rfl) ?_
        refine x_iload (pc := 404) dX7_goOn_404 rfl ?_
        refine xn_iald (pc := 406) dX7_goOn_406 (by assumption) (by first | omega | assumption) (by rfl) ?_
        rw [b7]
        first | refine xn_ior (pc := 407) dX7_goOn_407 ?_ | refine x_ior (pc := 407) dX7_goOn_407 ?_
        refine Run.top (v' := .int (nI (endM last (X ++ X'.map (fun p => j :: p))))) (by rw [endM_app, endM_map]) ?_
        refine xw_iast (pc := 408) dX7_goOn_408 (by assumption) (by first | omega | assumption) (by rfl) (fun w hnew hne => ?_)
        replace hK := (hne _ (by omega)).trans hK
        replace g0 := (hne _ (by omega)).trans g0
        replace g1 := (hne _ (by omega)).trans g1
        replace g2 := (hne _ (by omega)).trans g2
        replace g3 := (hne _ (by omega)).trans g3
        replace h66 := (hne _ (by omega)).trans h66
        replace h67 := (hne _ (by omega)).trans h67
        replace h68 := (hne _ (by omega)).trans h68
        replace h69 := hnew
        replace h70 := (hne _ (by omega)).trans h70
        replace hC := hC.go fun j q1 q2 => hne j (by omega)
        replace hfr := fun j (hj : j < 62 ∨ 70 < j) => (hne j (by omega)).trans (hfr j hj)
        clear hne
        refine x_aload_n (pc := 409) dX7_goOn_409 rfl ?_
        refine x_getf (pc := 410) dX7_goOn_410 kf_X7_65 (by first | assumption | exact hC.1 | exact hH.1 | exact hV0.1 | exact hT.1) (by rfl) ?_
        refine x_iload_n (pc := 413) dX7_goOn_413 rfl ?_
        refine x_iload (pc := 414) dX7_goOn_414 rfl ?_
        refine x_if_eq_f (pc := 416) dX7_goOn_416 (tgt := 436) (by decide) (by decide +kernel) ?_
        refine x_aload_n (pc := 419) dX7_goOn_419 rfl ?_
        refine x_getf (pc := 420) dX7_goOn_420 kf_X7_65 (by first | assumption | exact hC.1 | exact hH.1 | exact hV0.1 | exact hT.1) (by rfl) ?_
        refine x_iload_n (pc := 423) dX7_goOn_423 rfl ?_
        refine xn_iald (pc := 424) dX7_goOn_424 (by assumption) (by first | omega | assumption) (by rfl) ?_
        rw [a8]
        refine x_aload_n (pc := 425) dX7_goOn_425 rfl ?_
        refine x_getf (pc := 426) dX7_goOn_426 kf_X7_65 (by first | assumption | exact hC.1 | exact hH.1 | exact hV0.1 | exact hT.1) (by rfl) ?_
        refine x_iload (pc := 429) dX7_goOn_429 rfl ?_
        refine xn_iald (pc := 431) dX7_goOn_431 (by assumption) (by first | omega | assumption) (by rfl) ?_
        rw [b8]
        first | refine xn_ior (pc := 432) dX7_goOn_432 ?_ | refine x_ior (pc := 432) dX7_goOn_432 ?_
        refine x_goto (pc := 433) dX7_goOn_433 (tgt := 450) (by decide) ?_
        refine Run.top (v' := .int (nI (bN (wb || wb')))) (by cases wb <;> cases wb' <;> rfl) ?_
        refine xw_iast (pc := 450) dX7_goOn_450 (by assumption) (by first | omega | assumption) (by rfl) (fun w hnew hne => ?_)
        replace hK := (hne _ (by omega)).trans hK
        replace g0 := (hne _ (by omega)).trans g0
        replace g1 := (hne _ (by omega)).trans g1
        replace g2 := (hne _ (by omega)).trans g2
        replace g3 := (hne _ (by omega)).trans g3
        replace h66 := (hne _ (by omega)).trans h66
        replace h67 := (hne _ (by omega)).trans h67
        replace h68 := (hne _ (by omega)).trans h68
        replace h69 := (hne _ (by omega)).trans h69
        replace h70 := hnew
        replace hC := hC.go fun j q1 q2 => hne j (by omega)
        replace hfr := fun j (hj : j < 62 ∨ 70 < j) => (hne j (by omega)).trans (hfr j hj)
        clear hne
        refine kk w (tb9 _ _ _ _ _ _ _ _ _) _ _ ⟨g0, g1, g2, g3, h66, h67, h68, h69, h70⟩ ⟨c0, c1, c2, c3, upd_same _ _ _, upd_same _ _ _, upd_same _ _ _, upd_same _ _ _, upd_same _ _ _⟩ (fun x hx => ⟨(cs x hx).1, (cs x hx).2.1, (cs x hx).2.2.1, (cs x hx).2.2.2, upd_ne _ _ hx, upd_ne _ _ hx, upd_ne _ _ hx, upd_ne _ _ hx, upd_ne _ _ hx⟩) hfr
theorem go_step {w : ax_W} {n : Nat} {P : Option Value → ax_W → Nat → Prop} {C : Crt} (okc : okC C) {ty at_ so un ke rl : Int32} (hK : w 51 = om ty at_ so un ke rl) (hC : mR w C) {F : Nat → Nat → Int32} {k t ch last L op j : Nat} {fs : Bool} (hk : k < 10240) (ht : t < 10240) (htk : t ≠ k) (hj : j < cn C) (hl : last < cn C) (hL : L ≤ 10) {X X' : List (List Nat)} {wb wb' : Bool} (h1 : tbV C last L X wb F k) (h2 : tbV C j (L + 1) X' wb' F t) (hlen : X.length + X'.length < 2147483648) (hX : ∀ p ∈ X, (∀ x ∈ p, x < cn C) ∧ L + p.length ≤ 11) (hX' : ∀ p ∈ X', (∀ x ∈ p, x < cn C) ∧ L + 1 + p.length ≤ 11) (hB : mB w F) {z9 z10 : Option Value}
  (kk : ∀ w' F' z9 z10, mB w' F' → tbV C last L (X ++ X'.map (fun p => j :: p)) (if fs then wb || wb' else wb && wb') F' k → sameT F F' k → same62 w w' → Run m_X7_goOn 1 0 0 451 [some (.ref 51), some (.int (nI k)), some (.int (nI ch)), some (.int (nI last)), some (.int (nI L)), some (.int (nI op)), some (.int (nI (bN fs))), some (.int (nI j)), some (.int (nI t)), z9, z10] [] w' n P) : Run m_X7_goOn 1 0 0 150 [some (.ref 51), some (.int (nI k)), some (.int (nI ch)), some (.int (nI last)), some (.int (nI L)), some (.int (nI op)), some (.int (nI (bN fs))), some (.int (nI j)), some (.int (nI t)), z9, z10] [] w n P := by
  have hn := okc.1
  obtain ⟨a0, a1, a2, a3, -⟩ := id h1
  obtain ⟨b0, b1, b2, b3, -⟩ := id h2
  have hj10 : j < 10 := by omega
  have hcst := cst_le okc hj (some last) L
  have hfin := @go_266 w n P C okc ty at_ so un ke rl hK hC F k t ch last L op j fs hk ht htk hj hl hL X X' wb wb' h1 h2 hlen hX hX'
  obtain ⟨h62, h63, h64, h65, h66, h67, h68, h69, h70⟩ := hB
  have hfr : same62 w w := fun _ _ => rfl
  have hlm : (X ++ X'.map (fun p => j :: p)).length = X.length + X'.length := by simp
  by_cases hX0 : X' = []
  · have hxx : X ++ X'.map (fun p => j :: p) = X := by rw [hX0]; exact List.append_nil X
    have hx0 : X'.length = 0 := by rw [hX0]; rfl
    refine x_aload_n (pc := 150) dX7_goOn_150 rfl ?_
    refine x_getf (pc := 151) dX7_goOn_151 kf_X7_41 (by first | assumption | exact hC.1 | exact hH.1 | exact hV0.1 | exact hT.1) (by rfl) ?_
    refine x_iload_n (pc := 154) dX7_goOn_154 rfl ?_
    refine x_dup2 (pc := 155) dX7_goOn_155 rfl rfl ?_
    refine xn_iald (pc := 156) dX7_goOn_156 (by assumption) (by first | omega | assumption) (by rfl) ?_
    rw [a0]
    refine x_aload_n (pc := 157) dX7_goOn_157 rfl ?_
    refine x_getf (pc := 158) dX7_goOn_158 kf_X7_41 (by first | assumption | exact hC.1 | exact hH.1 | exact hV0.1 | exact hT.1) (by rfl) ?_
    refine x_iload (pc := 161) dX7_goOn_161 rfl ?_
    refine xn_iald (pc := 163) dX7_goOn_163 (by assumption) (by first | omega | assumption) (by rfl) ?_
    rw [b0]
    first | refine xn_iadd (pc := 164) dX7_goOn_164 ?_ | refine x_iadd (pc := 164) dX7_goOn_164 ?_
    refine xw_iast (pc := 165) dX7_goOn_165 (by assumption) (by first | omega | assumption) (by rfl) (fun w hnew hne => ?_)
    replace hK := (hne _ (by omega)).trans hK
    replace h62 := hnew
    replace h63 := (hne _ (by omega)).trans h63
    replace h64 := (hne _ (by omega)).trans h64
    replace h65 := (hne _ (by omega)).trans h65
    replace h66 := (hne _ (by omega)).trans h66
    replace h67 := (hne _ (by omega)).trans h67
    replace h68 := (hne _ (by omega)).trans h68
    replace h69 := (hne _ (by omega)).trans h69
    replace h70 := (hne _ (by omega)).trans h70
    replace hC := hC.go fun j q1 q2 => hne j (by omega)
    replace hfr := fun j (hj : j < 62 ∨ 70 < j) => (hne j (by omega)).trans (hfr j hj)
    clear hne
    refine x_aload_n (pc := 166) dX7_goOn_166 rfl ?_
    refine x_iload (pc := 167) dX7_goOn_167 rfl ?_
    refine x_iload (pc := 169) dX7_goOn_169 rfl ?_
    refine x_iload_n (pc := 171) dX7_goOn_171 rfl ?_
    refine x_cv3p (ci := 7) (pc := 172) dX7_goOn_172 ks_X7_141 (by first | assumption | exact hC.1 | exact hH.1 | exact hV0.1 | exact hT.1) (by rfl) (by omega) (by rfl) (by rfl) (by rfl) (m_cost okc hK hC hj (by omega) (z := some last) (fun b q => by cases q; exact hl)) ?_
    refine x_aload_n (pc := 175) dX7_goOn_175 rfl ?_
    refine x_getf (pc := 176) dX7_goOn_176 kf_X7_44 (by first | assumption | exact hC.1 | exact hH.1 | exact hV0.1 | exact hT.1) (by rfl) ?_
    refine x_iload (pc := 179) dX7_goOn_179 rfl ?_
    refine xn_iald (pc := 181) dX7_goOn_181 (by assumption) (by first | omega | assumption) (by rfl) ?_
    rw [b1]
    first | refine xn_iadd (pc := 182) dX7_goOn_182 ?_ | refine x_iadd (pc := 182) dX7_goOn_182 ?_
    refine x_istore (pc := 183) dX7_goOn_183 rfl ?_
    refine x_aload_n (pc := 185) dX7_goOn_185 rfl ?_
    refine x_getf (pc := 186) dX7_goOn_186 kf_X7_41 (by first | assumption | exact hC.1 | exact hH.1 | exact hV0.1 | exact hT.1) (by rfl) ?_
    refine x_iload (pc := 189) dX7_goOn_189 rfl ?_
    refine xn_iald (pc := 191) dX7_goOn_191 (by assumption) (by first | omega | assumption) (by rfl) ?_
    rw [upd_ne _ _ htk, b0]
    refine x_if_le_t (pc := 192) dX7_goOn_192 (tgt := 266) (by decide) (by rw [hx0]; decide +kernel) ?_
    exact hfin hK hC h62 h63 h64 h65 h66 h67 h68 h69 h70 (by rw [hlm]; exact upd_same _ _ _) (by rw [upd_ne _ _ htk]; exact b0) (by rw [hxx]; exact a1) (by rw [hxx]; exact a2) (by rw [hxx]; exact a3) (fun x hx => ⟨upd_ne _ _ hx, rfl, rfl, rfl⟩) hfr kk
  · have hx0 : 0 < X'.length := List.length_pos_iff.mpr hX0
    obtain ⟨bb, hbb⟩ := bst_ne (C := C) (last := j) (L := L + 1) hX0
    have hbl := les_le okc hX' hbb
    have hnb : bstM C last L (X ++ X'.map (fun p => j :: p)) = btC (bstM C last L X) (some (cst C (some last) L j + bb.1, j :: bb.2)) := by rw [bstM_app, bstM_map, hbb]; rfl
    rw [hbb] at b1 b2
    replace b1 : F 1 t = nI bb.1 := b1
    replace b2 : F 2 t = nI bb.2.length := b2
    cases hbX : bstM C last L X with
    | none =>
      rw [hbX] at a1 a2 hnb
      rw [none_btC] at hnb
      replace a1 : F 1 k = nI 100000 := a1
      replace a2 : F 2 k = nI 0 := a2
      refine x_aload_n (pc := 150) dX7_goOn_150 rfl ?_
      refine x_getf (pc := 151) dX7_goOn_151 kf_X7_41 (by first | assumption | exact hC.1 | exact hH.1 | exact hV0.1 | exact hT.1) (by rfl) ?_
      refine x_iload_n (pc := 154) dX7_goOn_154 rfl ?_
      refine x_dup2 (pc := 155) dX7_goOn_155 rfl rfl ?_
      refine xn_iald (pc := 156) dX7_goOn_156 (by assumption) (by first | omega | assumption) (by rfl) ?_
      rw [a0]
      refine x_aload_n (pc := 157) dX7_goOn_157 rfl ?_
      refine x_getf (pc := 158) dX7_goOn_158 kf_X7_41 (by first | assumption | exact hC.1 | exact hH.1 | exact hV0.1 | exact hT.1) (by rfl) ?_
      refine x_iload (pc := 161) dX7_goOn_161 rfl ?_
      refine xn_iald (pc := 163) dX7_goOn_163 (by assumption) (by first | omega | assumption) (by rfl) ?_
      rw [b0]
      first | refine xn_iadd (pc := 164) dX7_goOn_164 ?_ | refine x_iadd (pc := 164) dX7_goOn_164 ?_
      refine xw_iast (pc := 165) dX7_goOn_165 (by assumption) (by first | omega | assumption) (by rfl) (fun w hnew hne => ?_)
      replace hK := (hne _ (by omega)).trans hK
      replace h62 := hnew
      replace h63 := (hne _ (by omega)).trans h63
      replace h64 := (hne _ (by omega)).trans h64
      replace h65 := (hne _ (by omega)).trans h65
      replace h66 := (hne _ (by omega)).trans h66
      replace h67 := (hne _ (by omega)).trans h67
      replace h68 := (hne _ (by omega)).trans h68
      replace h69 := (hne _ (by omega)).trans h69
      replace h70 := (hne _ (by omega)).trans h70
      replace hC := hC.go fun j q1 q2 => hne j (by omega)
      replace hfr := fun j (hj : j < 62 ∨ 70 < j) => (hne j (by omega)).trans (hfr j hj)
      clear hne
      refine x_aload_n (pc := 166) dX7_goOn_166 rfl ?_
      refine x_iload (pc := 167) dX7_goOn_167 rfl ?_
      refine x_iload (pc := 169) dX7_goOn_169 rfl ?_
      refine x_iload_n (pc := 171) dX7_goOn_171 rfl ?_
      refine x_cv3p (ci := 7) (pc := 172) dX7_goOn_172 ks_X7_141 (by first | assumption | exact hC.1 | exact hH.1 | exact hV0.1 | exact hT.1) (by rfl) (by omega) (by rfl) (by rfl) (by rfl) (m_cost okc hK hC hj (by omega) (z := some last) (fun b q => by cases q; exact hl)) ?_
      refine x_aload_n (pc := 175) dX7_goOn_175 rfl ?_
      refine x_getf (pc := 176) dX7_goOn_176 kf_X7_44 (by first | assumption | exact hC.1 | exact hH.1 | exact hV0.1 | exact hT.1) (by rfl) ?_
      refine x_iload (pc := 179) dX7_goOn_179 rfl ?_
      refine xn_iald (pc := 181) dX7_goOn_181 (by assumption) (by first | omega | assumption) (by rfl) ?_
      rw [b1]
      first | refine xn_iadd (pc := 182) dX7_goOn_182 ?_ | refine x_iadd (pc := 182) dX7_goOn_182 ?_
      refine x_istore (pc := 183) dX7_goOn_183 rfl ?_
      refine x_aload_n (pc := 185) dX7_goOn_185 rfl ?_
      refine x_getf (pc := 186) dX7_goOn_186 kf_X7_41 (by first | assumption | exact hC.1 | exact hH.1 | exact hV0.1 | exact hT.1) (by rfl) ?_
      refine x_iload (pc := 189) dX7_goOn_189 rfl ?_
      refine xn_iald (pc := 191) dX7_goOn_191 (by assumption) (by first | omega | assumption) (by rfl) ?_
      rw [upd_ne _ _ htk, b0]
      refine x_if_le_f (pc := 192) dX7_goOn_192 (tgt := 266) (by decide) (by rw [n_le0 (by omega)]; omega) ?_
      refine x_iload (pc := 195) dX7_goOn_195 rfl ?_
      refine x_aload_n (pc := 197) dX7_goOn_197 rfl ?_
      refine x_getf (pc := 198) dX7_goOn_198 kf_X7_44 (by first | assumption | exact hC.1 | exact hH.1 | exact hV0.1 | exact hT.1) (by rfl) ?_
      refine x_iload_n (pc := 201) dX7_goOn_201 rfl ?_
      refine xn_iald (pc := 202) dX7_goOn_202 (by assumption) (by first | omega | assumption) (by rfl) ?_
      rw [a1]
      refine x_icmp_lt_t (pc := 203) dX7_goOn_203 (tgt := 235) (by decide) ((n_lt (by omega) (by omega)).mpr (by omega)) ?_
      refine x_aload_n (pc := 235) dX7_goOn_235 rfl ?_
      refine x_getf (pc := 236) dX7_goOn_236 kf_X7_44 (by first | assumption | exact hC.1 | exact hH.1 | exact hV0.1 | exact hT.1) (by rfl) ?_
      refine x_iload_n (pc := 239) dX7_goOn_239 rfl ?_
      refine x_iload (pc := 240) dX7_goOn_240 rfl ?_
      refine xw_iast (pc := 242) dX7_goOn_242 (by assumption) (by first | omega | assumption) (by rfl) (fun w hnew hne => ?_)
      replace hK := (hne _ (by omega)).trans hK
      replace h62 := (hne _ (by omega)).trans h62
      replace h63 := hnew
      replace h64 := (hne _ (by omega)).trans h64
      replace h65 := (hne _ (by omega)).trans h65
      replace h66 := (hne _ (by omega)).trans h66
      replace h67 := (hne _ (by omega)).trans h67
      replace h68 := (hne _ (by omega)).trans h68
      replace h69 := (hne _ (by omega)).trans h69
      replace h70 := (hne _ (by omega)).trans h70
      replace hC := hC.go fun j q1 q2 => hne j (by omega)
      replace hfr := fun j (hj : j < 62 ∨ 70 < j) => (hne j (by omega)).trans (hfr j hj)
      clear hne
      refine x_aload_n (pc := 243) dX7_goOn_243 rfl ?_
      refine x_getf (pc := 244) dX7_goOn_244 kf_X7_47 (by first | assumption | exact hC.1 | exact hH.1 | exact hV0.1 | exact hT.1) (by rfl) ?_
      refine x_iload_n (pc := 247) dX7_goOn_247 rfl ?_
      refine x_iconst (pc := 248) dX7_goOn_248 (v := nI 1) (by decide) ?_
      refine x_aload_n (pc := 249) dX7_goOn_249 rfl ?_
      refine x_getf (pc := 250) dX7_goOn_250 kf_X7_47 (by first | assumption | exact hC.1 | exact hH.1 | exact hV0.1 | exact hT.1) (by rfl) ?_
      refine x_iload (pc := 253) dX7_goOn_253 rfl ?_
      refine xn_iald (pc := 255) dX7_goOn_255 (by assumption) (by first | omega | assumption) (by rfl) ?_
      rw [b2]
      first | refine xn_iadd (pc := 256) dX7_goOn_256 ?_ | refine x_iadd (pc := 256) dX7_goOn_256 ?_
      refine xw_iast (pc := 257) dX7_goOn_257 (by assumption) (by first | omega | assumption) (by rfl) (fun w hnew hne => ?_)
      replace hK := (hne _ (by omega)).trans hK
      replace h62 := (hne _ (by omega)).trans h62
      replace h63 := (hne _ (by omega)).trans h63
      replace h64 := hnew
      replace h65 := (hne _ (by omega)).trans h65
      replace h66 := (hne _ (by omega)).trans h66
      replace h67 := (hne _ (by omega)).trans h67
      replace h68 := (hne _ (by omega)).trans h68
      replace h69 := (hne _ (by omega)).trans h69
      replace h70 := (hne _ (by omega)).trans h70
      replace hC := hC.go fun j q1 q2 => hne j (by omega)
      replace hfr := fun j (hj : j < 62 ∨ 70 < j) => (hne j (by omega)).trans (hfr j hj)
      clear hne
      refine x_aload_n (pc := 258) dX7_goOn_258 rfl ?_
      refine x_getf (pc := 259) dX7_goOn_259 kf_X7_50 (by first | assumption | exact hC.1 | exact hH.1 | exact hV0.1 | exact hT.1) (by rfl) ?_
      refine x_iload_n (pc := 262) dX7_goOn_262 rfl ?_
      refine x_iload (pc := 263) dX7_goOn_263 rfl ?_
      refine xw_iast (pc := 265) dX7_goOn_265 (by assumption) (by first | omega | assumption) (by rfl) (fun w hnew hne => ?_)
      replace hK := (hne _ (by omega)).trans hK
      replace h62 := (hne _ (by omega)).trans h62
      replace h63 := (hne _ (by omega)).trans h63
      replace h64 := (hne _ (by omega)).trans h64
      replace h65 := hnew
      replace h66 := (hne _ (by omega)).trans h66
      replace h67 := (hne _ (by omega)).trans h67
      replace h68 := (hne _ (by omega)).trans h68
      replace h69 := (hne _ (by omega)).trans h69
      replace h70 := (hne _ (by omega)).trans h70
      replace hC := hC.go fun j q1 q2 => hne j (by omega)
      replace hfr := fun j (hj : j < 62 ∨ 70 < j) => (hne j (by omega)).trans (hfr j hj)
      clear hne
      exact hfin hK hC h62 h63 h64 h65 h66 h67 h68 h69 h70 (by rw [hlm]; exact upd_same _ _ _) (by rw [upd_ne _ _ htk]; exact b0) (by rw [hnb]; exact upd_same _ _ _) (by rw [hnb]; show _ = nI (bb.2.length + 1); rw [Nat.add_comm]; exact upd_same _ _ _) (by rw [hnb]; exact upd_same _ _ _) (fun x hx => ⟨upd_ne _ _ hx, upd_ne _ _ hx, upd_ne _ _ hx, upd_ne _ _ hx⟩) hfr kk
    | some aa =>
      have hal := les_le okc hX hbX
      rw [hbX] at a1 a2 a3 hnb
      replace a1 : F 1 k = nI aa.1 := a1
      replace a2 : F 2 k = nI aa.2.length := a2
      refine x_aload_n (pc := 150) dX7_goOn_150 rfl ?_
      refine x_getf (pc := 151) dX7_goOn_151 kf_X7_41 (by first | assumption | exact hC.1 | exact hH.1 | exact hV0.1 | exact hT.1) (by rfl) ?_
      refine x_iload_n (pc := 154) dX7_goOn_154 rfl ?_
      refine x_dup2 (pc := 155) dX7_goOn_155 rfl rfl ?_
      refine xn_iald (pc := 156) dX7_goOn_156 (by assumption) (by first | omega | assumption) (by rfl) ?_
      rw [a0]
      refine x_aload_n (pc := 157) dX7_goOn_157 rfl ?_
      refine x_getf (pc := 158) dX7_goOn_158 kf_X7_41 (by first | assumption | exact hC.1 | exact hH.1 | exact hV0.1 | exact hT.1) (by rfl) ?_
      refine x_iload (pc := 161) dX7_goOn_161 rfl ?_
      refine xn_iald (pc := 163) dX7_goOn_163 (by assumption) (by first | omega | assumption) (by rfl) ?_
      rw [b0]
      first | refine xn_iadd (pc := 164) dX7_goOn_164 ?_ | refine x_iadd (pc := 164) dX7_goOn_164 ?_
      refine xw_iast (pc := 165) dX7_goOn_165 (by assumption) (by first | omega | assumption) (by rfl) (fun w hnew hne => ?_)
      replace hK := (hne _ (by omega)).trans hK
      replace h62 := hnew
      replace h63 := (hne _ (by omega)).trans h63
      replace h64 := (hne _ (by omega)).trans h64
      replace h65 := (hne _ (by omega)).trans h65
      replace h66 := (hne _ (by omega)).trans h66
      replace h67 := (hne _ (by omega)).trans h67
      replace h68 := (hne _ (by omega)).trans h68
      replace h69 := (hne _ (by omega)).trans h69
      replace h70 := (hne _ (by omega)).trans h70
      replace hC := hC.go fun j q1 q2 => hne j (by omega)
      replace hfr := fun j (hj : j < 62 ∨ 70 < j) => (hne j (by omega)).trans (hfr j hj)
      clear hne
      refine x_aload_n (pc := 166) dX7_goOn_166 rfl ?_
      refine x_iload (pc := 167) dX7_goOn_167 rfl ?_
      refine x_iload (pc := 169) dX7_goOn_169 rfl ?_
      refine x_iload_n (pc := 171) dX7_goOn_171 rfl ?_
      refine x_cv3p (ci := 7) (pc := 172) dX7_goOn_172 ks_X7_141 (by first | assumption | exact hC.1 | exact hH.1 | exact hV0.1 | exact hT.1) (by rfl) (by omega) (by rfl) (by rfl) (by rfl) (m_cost okc hK hC hj (by omega) (z := some last) (fun b q => by cases q; exact hl)) ?_
      refine x_aload_n (pc := 175) dX7_goOn_175 rfl ?_
      refine x_getf (pc := 176) dX7_goOn_176 kf_X7_44 (by first | assumption | exact hC.1 | exact hH.1 | exact hV0.1 | exact hT.1) (by rfl) ?_
      refine x_iload (pc := 179) dX7_goOn_179 rfl ?_
      refine xn_iald (pc := 181) dX7_goOn_181 (by assumption) (by first | omega | assumption) (by rfl) ?_
      rw [b1]
      first | refine xn_iadd (pc := 182) dX7_goOn_182 ?_ | refine x_iadd (pc := 182) dX7_goOn_182 ?_
      refine x_istore (pc := 183) dX7_goOn_183 rfl ?_
      refine x_aload_n (pc := 185) dX7_goOn_185 rfl ?_
      refine x_getf (pc := 186) dX7_goOn_186 kf_X7_41 (by first | assumption | exact hC.1 | exact hH.1 | exact hV0.1 | exact hT.1) (by rfl) ?_
      refine x_iload (pc := 189) dX7_goOn_189 rfl ?_
      refine xn_iald (pc := 191) dX7_goOn_191 (by assumption) (by first | omega | assumption) (by rfl) ?_
      rw [upd_ne _ _ htk, b0]
      refine x_if_le_f (pc := 192) dX7_goOn_192 (tgt := 266) (by decide) (by rw [n_le0 (by omega)]; omega) ?_
      refine x_iload (pc := 195) dX7_goOn_195 rfl ?_
      refine x_aload_n (pc := 197) dX7_goOn_197 rfl ?_
      refine x_getf (pc := 198) dX7_goOn_198 kf_X7_44 (by first | assumption | exact hC.1 | exact hH.1 | exact hV0.1 | exact hT.1) (by rfl) ?_
      refine x_iload_n (pc := 201) dX7_goOn_201 rfl ?_
      refine xn_iald (pc := 202) dX7_goOn_202 (by assumption) (by first | omega | assumption) (by rfl) ?_
      rw [a1]
      refine x_icmp_lt (pc := 203) dX7_goOn_203 (tgt := 235) (by decide) (fun h_203 => ?_) (fun h_203 => ?_)
      · skip
        try first | rw [n_b1] at h_203 | rw [n_b00] at h_203 | rw [n_lt (by omega) (by omega)] at h_203
        rw [btC_lt (Or.inl h_203)] at hnb
        refine x_aload_n (pc := 235) dX7_goOn_235 rfl ?_
        refine x_getf (pc := 236) dX7_goOn_236 kf_X7_44 (by first | assumption | exact hC.1 | exact hH.1 | exact hV0.1 | exact hT.1) (by rfl) ?_
        refine x_iload_n (pc := 239) dX7_goOn_239 rfl ?_
        refine x_iload (pc := 240) dX7_goOn_240 rfl ?_
        refine xw_iast (pc := 242) dX7_goOn_242 (by assumption) (by first | omega | assumption) (by rfl) (fun w hnew hne => ?_)
        replace hK := (hne _ (by omega)).trans hK
        replace h62 := (hne _ (by omega)).trans h62
        replace h63 := hnew
        replace h64 := (hne _ (by omega)).trans h64
        replace h65 := (hne _ (by omega)).trans h65
        replace h66 := (hne _ (by omega)).trans h66
        replace h67 := (hne _ (by omega)).trans h67
        replace h68 := (hne _ (by omega)).trans h68
        replace h69 := (hne _ (by omega)).trans h69
        replace h70 := (hne _ (by omega)).trans h70
        replace hC := hC.go fun j q1 q2 => hne j (by omega)
        replace hfr := fun j (hj : j < 62 ∨ 70 < j) => (hne j (by omega)).trans (hfr j hj)
        clear hne
        refine x_aload_n (pc := 243) dX7_goOn_243 rfl ?_
        refine x_getf (pc := 244) dX7_goOn_244 kf_X7_47 (by first | assumption | exact hC.1 | exact hH.1 | exact hV0.1 | exact hT.1) (by rfl) ?_
        refine x_iload_n (pc := 247) dX7_goOn_247 rfl ?_
        refine x_iconst (pc := 248) dX7_goOn_248 (v := nI 1) (by decide) ?_
        refine x_aload_n (pc := 249) dX7_goOn_249 rfl ?_
        refine x_getf (pc := 250) dX7_goOn_250 kf_X7_47 (by first | assumption | exact hC.1 | exact hH.1 | exact hV0.1 | exact hT.1) (by rfl) ?_
        refine x_iload (pc := 253) dX7_goOn_253 rfl ?_
        refine xn_iald (pc := 255) dX7_goOn_255 (by assumption) (by first | omega | assumption) (by rfl) ?_
        rw [b2]
        first | refine xn_iadd (pc := 256) dX7_goOn_256 ?_ | refine x_iadd (pc := 256) dX7_goOn_256 ?_
        refine xw_iast (pc := 257) dX7_goOn_257 (by assumption) (by first | omega | assumption) (by rfl) (fun w hnew hne => ?_)
        replace hK := (hne _ (by omega)).trans hK
        replace h62 := (hne _ (by omega)).trans h62
        replace h63 := (hne _ (by omega)).trans h63
        replace h64 := hnew
        replace h65 := (hne _ (by omega)).trans h65
        replace h66 := (hne _ (by omega)).trans h66
        replace h67 := (hne _ (by omega)).trans h67
        replace h68 := (hne _ (by omega)).trans h68
        replace h69 := (hne _ (by omega)).trans h69
        replace h70 := (hne _ (by omega)).trans h70
        replace hC := hC.go fun j q1 q2 => hne j (by omega)
        replace hfr := fun j (hj : j < 62 ∨ 70 < j) => (hne j (by omega)).trans (hfr j hj)
        clear hne
        refine x_aload_n (pc := 258) dX7_goOn_258 rfl ?_
        refine x_getf (pc := 259) dX7_goOn_259 kf_X7_50 (by first | assumption | exact hC.1 | exact hH.1 | exact hV0.1 | exact hT.1) (by rfl) ?_
        refine x_iload_n (pc := 262) dX7_goOn_262 rfl ?_
        refine x_iload (pc := 263) dX7_goOn_263 rfl ?_
        refine xw_iast (pc := 265) dX7_goOn_265 (by assumption) (by first | omega | assumption) (by rfl) (fun w hnew hne => ?_)
        replace hK := (hne _ (by omega)).trans hK
        replace h62 := (hne _ (by omega)).trans h62
        replace h63 := (hne _ (by omega)).trans h63
        replace h64 := (hne _ (by omega)).trans h64
        replace h65 := hnew
        replace h66 := (hne _ (by omega)).trans h66
        replace h67 := (hne _ (by omega)).trans h67
        replace h68 := (hne _ (by omega)).trans h68
        replace h69 := (hne _ (by omega)).trans h69
        replace h70 := (hne _ (by omega)).trans h70
        replace hC := hC.go fun j q1 q2 => hne j (by omega)
        replace hfr := fun j (hj : j < 62 ∨ 70 < j) => (hne j (by omega)).trans (hfr j hj)
        clear hne
        first | exact hfin hK hC h62 h63 h64 h65 h66 h67 h68 h69 h70 (by rw [hlm]; exact upd_same _ _ _) (by rw [upd_ne _ _ htk]; exact b0) (by rw [hnb]; exact upd_same _ _ _) (by rw [hnb]; show _ = nI (bb.2.length + 1); rw [Nat.add_comm]; exact upd_same _ _ _) (by rw [hnb]; exact upd_same _ _ _) (fun x hx => ⟨upd_ne _ _ hx, upd_ne _ _ hx, upd_ne _ _ hx, upd_ne _ _ hx⟩) hfr kk | exact hfin hK hC h62 h63 h64 h65 h66 h67 h68 h69 h70 (by rw [hlm]; exact upd_same _ _ _) (by rw [upd_ne _ _ htk]; exact b0) (by rw [hnb]; exact a1) (by rw [hnb]; exact a2) (by rw [hnb]; exact a3) (fun x hx => ⟨upd_ne _ _ hx, rfl, rfl, rfl⟩) hfr kk
      · skip
        try first | rw [n_b1] at h_203 | rw [n_b00] at h_203 | rw [n_lt (by omega) (by omega)] at h_203
        refine x_iload (pc := 206) dX7_goOn_206 rfl ?_
        refine x_aload_n (pc := 208) dX7_goOn_208 rfl ?_
        refine x_getf (pc := 209) dX7_goOn_209 kf_X7_44 (by first | assumption | exact hC.1 | exact hH.1 | exact hV0.1 | exact hT.1) (by rfl) ?_
        refine x_iload_n (pc := 212) dX7_goOn_212 rfl ?_
        refine xn_iald (pc := 213) dX7_goOn_213 (by assumption) (by first | omega | assumption) (by rfl) ?_
        rw [a1]
        refine x_icmp_ne (pc := 214) dX7_goOn_214 (tgt := 266) (by decide) (fun h_214 => ?_) (fun h_214 => ?_)
        · skip
          try first | rw [n_b1] at h_214 | rw [n_b00] at h_214 | rw [n_eq (by omega) (by omega)] at h_214
          rw [btC_ge (fun q => q.elim (fun q => h_203 q) (fun q => h_214 q.1))] at hnb
          first | exact hfin hK hC h62 h63 h64 h65 h66 h67 h68 h69 h70 (by rw [hlm]; exact upd_same _ _ _) (by rw [upd_ne _ _ htk]; exact b0) (by rw [hnb]; exact upd_same _ _ _) (by rw [hnb]; show _ = nI (bb.2.length + 1); rw [Nat.add_comm]; exact upd_same _ _ _) (by rw [hnb]; exact upd_same _ _ _) (fun x hx => ⟨upd_ne _ _ hx, upd_ne _ _ hx, upd_ne _ _ hx, upd_ne _ _ hx⟩) hfr kk | exact hfin hK hC h62 h63 h64 h65 h66 h67 h68 h69 h70 (by rw [hlm]; exact upd_same _ _ _) (by rw [upd_ne _ _ htk]; exact b0) (by rw [hnb]; exact a1) (by rw [hnb]; exact a2) (by rw [hnb]; exact a3) (fun x hx => ⟨upd_ne _ _ hx, rfl, rfl, rfl⟩) hfr kk
        · replace h_214 := Classical.not_not.mp h_214
          try first | rw [n_b1] at h_214 | rw [n_b00] at h_214 | rw [n_eq (by omega) (by omega)] at h_214
          refine x_iconst (pc := 217) dX7_goOn_217 (v := nI 1) (by decide) ?_
          refine x_aload_n (pc := 218) dX7_goOn_218 rfl ?_
          refine x_getf (pc := 219) dX7_goOn_219 kf_X7_47 (by first | assumption | exact hC.1 | exact hH.1 | exact hV0.1 | exact hT.1) (by rfl) ?_
          refine x_iload (pc := 222) dX7_goOn_222 rfl ?_
          refine xn_iald (pc := 224) dX7_goOn_224 (by assumption) (by first | omega | assumption) (by rfl) ?_
          rw [b2]
          first | refine xn_iadd (pc := 225) dX7_goOn_225 ?_ | refine x_iadd (pc := 225) dX7_goOn_225 ?_
          refine x_aload_n (pc := 226) dX7_goOn_226 rfl ?_
          refine x_getf (pc := 227) dX7_goOn_227 kf_X7_47 (by first | assumption | exact hC.1 | exact hH.1 | exact hV0.1 | exact hT.1) (by rfl) ?_
          refine x_iload_n (pc := 230) dX7_goOn_230 rfl ?_
          refine xn_iald (pc := 231) dX7_goOn_231 (by assumption) (by first | omega | assumption) (by rfl) ?_
          rw [a2]
          refine x_icmp_ge (pc := 232) dX7_goOn_232 (tgt := 266) (by decide) (fun h_232 => ?_) (fun h_232 => ?_)
          · skip
            try first | rw [n_b1] at h_232 | rw [n_b00] at h_232 | rw [n_le (by omega) (by omega)] at h_232
            rw [btC_ge (fun q => q.elim (fun q => h_203 q) (fun q => by have q2 : bb.2.length + 1 < aa.2.length := q.2; omega))] at hnb
            first | exact hfin hK hC h62 h63 h64 h65 h66 h67 h68 h69 h70 (by rw [hlm]; exact upd_same _ _ _) (by rw [upd_ne _ _ htk]; exact b0) (by rw [hnb]; exact upd_same _ _ _) (by rw [hnb]; show _ = nI (bb.2.length + 1); rw [Nat.add_comm]; exact upd_same _ _ _) (by rw [hnb]; exact upd_same _ _ _) (fun x hx => ⟨upd_ne _ _ hx, upd_ne _ _ hx, upd_ne _ _ hx, upd_ne _ _ hx⟩) hfr kk | exact hfin hK hC h62 h63 h64 h65 h66 h67 h68 h69 h70 (by rw [hlm]; exact upd_same _ _ _) (by rw [upd_ne _ _ htk]; exact b0) (by rw [hnb]; exact a1) (by rw [hnb]; exact a2) (by rw [hnb]; exact a3) (fun x hx => ⟨upd_ne _ _ hx, rfl, rfl, rfl⟩) hfr kk
          · skip
            try first | rw [n_b1] at h_232 | rw [n_b00] at h_232 | rw [n_le (by omega) (by omega)] at h_232
            rw [btC_lt (Or.inr ⟨h_214, by show bb.2.length + 1 < aa.2.length; omega⟩)] at hnb
            refine x_aload_n (pc := 235) dX7_goOn_235 rfl ?_
            refine x_getf (pc := 236) dX7_goOn_236 kf_X7_44 (by first | assumption | exact hC.1 | exact hH.1 | exact hV0.1 | exact hT.1) (by rfl) ?_
            refine x_iload_n (pc := 239) dX7_goOn_239 rfl ?_
            refine x_iload (pc := 240) dX7_goOn_240 rfl ?_
            refine xw_iast (pc := 242) dX7_goOn_242 (by assumption) (by first | omega | assumption) (by rfl) (fun w hnew hne => ?_)
            replace hK := (hne _ (by omega)).trans hK
            replace h62 := (hne _ (by omega)).trans h62
            replace h63 := hnew
            replace h64 := (hne _ (by omega)).trans h64
            replace h65 := (hne _ (by omega)).trans h65
            replace h66 := (hne _ (by omega)).trans h66
            replace h67 := (hne _ (by omega)).trans h67
            replace h68 := (hne _ (by omega)).trans h68
            replace h69 := (hne _ (by omega)).trans h69
            replace h70 := (hne _ (by omega)).trans h70
            replace hC := hC.go fun j q1 q2 => hne j (by omega)
            replace hfr := fun j (hj : j < 62 ∨ 70 < j) => (hne j (by omega)).trans (hfr j hj)
            clear hne
            refine x_aload_n (pc := 243) dX7_goOn_243 rfl ?_
            refine x_getf (pc := 244) dX7_goOn_244 kf_X7_47 (by first | assumption | exact hC.1 | exact hH.1 | exact hV0.1 | exact hT.1) (by rfl) ?_
            refine x_iload_n (pc := 247) dX7_goOn_247 rfl ?_
            refine x_iconst (pc := 248) dX7_goOn_248 (v := nI 1) (by decide) ?_
            refine x_aload_n (pc := 249) dX7_goOn_249 rfl ?_
            refine x_getf (pc := 250) dX7_goOn_250 kf_X7_47 (by first | assumption | exact hC.1 | exact hH.1 | exact hV0.1 | exact hT.1) (by rfl) ?_
            refine x_iload (pc := 253) dX7_goOn_253 rfl ?_
            refine xn_iald (pc := 255) dX7_goOn_255 (by assumption) (by first | omega | assumption) (by rfl) ?_
            rw [b2]
            first | refine xn_iadd (pc := 256) dX7_goOn_256 ?_ | refine x_iadd (pc := 256) dX7_goOn_256 ?_
            refine xw_iast (pc := 257) dX7_goOn_257 (by assumption) (by first | omega | assumption) (by rfl) (fun w hnew hne => ?_)
            replace hK := (hne _ (by omega)).trans hK
            replace h62 := (hne _ (by omega)).trans h62
            replace h63 := (hne _ (by omega)).trans h63
            replace h64 := hnew
            replace h65 := (hne _ (by omega)).trans h65
            replace h66 := (hne _ (by omega)).trans h66
            replace h67 := (hne _ (by omega)).trans h67
            replace h68 := (hne _ (by omega)).trans h68
            replace h69 := (hne _ (by omega)).trans h69
            replace h70 := (hne _ (by omega)).trans h70
            replace hC := hC.go fun j q1 q2 => hne j (by omega)
            replace hfr := fun j (hj : j < 62 ∨ 70 < j) => (hne j (by omega)).trans (hfr j hj)
            clear hne
            refine x_aload_n (pc := 258) dX7_goOn_258 rfl ?_
            refine x_getf (pc := 259) dX7_goOn_259 kf_X7_50 (by first | assumption | exact hC.1 | exact hH.1 | exact hV0.1 | exact hT.1) (by rfl) ?_
            refine x_iload_n (pc := 262) dX7_goOn_262 rfl ?_
            refine x_iload (pc := 263) dX7_goOn_263 rfl ?_
            refine xw_iast (pc := 265) dX7_goOn_265 (by assumption) (by first | omega | assumption) (by rfl) (fun w hnew hne => ?_)
            replace hK := (hne _ (by omega)).trans hK
            replace h62 := (hne _ (by omega)).trans h62
            replace h63 := (hne _ (by omega)).trans h63
            replace h64 := (hne _ (by omega)).trans h64
            replace h65 := hnew
            replace h66 := (hne _ (by omega)).trans h66
            replace h67 := (hne _ (by omega)).trans h67
            replace h68 := (hne _ (by omega)).trans h68
            replace h69 := (hne _ (by omega)).trans h69
            replace h70 := (hne _ (by omega)).trans h70
            replace hC := hC.go fun j q1 q2 => hne j (by omega)
            replace hfr := fun j (hj : j < 62 ∨ 70 < j) => (hne j (by omega)).trans (hfr j hj)
            clear hne
            first | exact hfin hK hC h62 h63 h64 h65 h66 h67 h68 h69 h70 (by rw [hlm]; exact upd_same _ _ _) (by rw [upd_ne _ _ htk]; exact b0) (by rw [hnb]; exact upd_same _ _ _) (by rw [hnb]; show _ = nI (bb.2.length + 1); rw [Nat.add_comm]; exact upd_same _ _ _) (by rw [hnb]; exact upd_same _ _ _) (fun x hx => ⟨upd_ne _ _ hx, upd_ne _ _ hx, upd_ne _ _ hx, upd_ne _ _ hx⟩) hfr kk | exact hfin hK hC h62 h63 h64 h65 h66 h67 h68 h69 h70 (by rw [hlm]; exact upd_same _ _ _) (by rw [upd_ne _ _ htk]; exact b0) (by rw [hnb]; exact a1) (by rw [hnb]; exact a2) (by rw [hnb]; exact a3) (fun x hx => ⟨upd_ne _ _ hx, rfl, rfl, rfl⟩) hfr kk
