/-! making the reference; both hold the same court at first -/
def T0L : List Nat := [115, 48, 44, 51, 44, 49, 59, 115, 49, 44, 50, 44, 50, 59, 115, 49, 44, 53, 44, 49, 59, 115, 50, 44, 52, 44, 51, 59, 115, 51, 44, 49, 44, 49, 59, 115, 52, 44, 48, 44, 48, 59, 115, 52, 44, 50, 44, 48, 59, 115, 50, 44, 51, 44, 50, 59, 118, 48, 59, 118, 55, 59, 114, 48, 44, 49, 59, 114, 48, 44, 50, 59, 114, 49, 44, 51, 59, 114, 50, 44, 51, 59, 114, 50, 44, 54, 59, 114, 51, 44, 52, 59, 114, 52, 44, 53, 59, 114, 51, 44, 54, 59, 114, 55, 44, 50, 59, 114, 55, 44, 52, 59, 114, 49, 44, 48, 59, 112, 53, 44, 53, 59, 112, 53, 44, 54, 59]
theorem T0_eq : T0 = T0L := by decide +kernel
/-- what the reference begins with -/
def D8 : Crt := adS (adS (adS (adS (adS (adS (adS (adS noC 0 3 1) 1 2 2) 1 5 1) 2 4 3) 3 1 1) 4 0 0) 4 2 0) 2 3 2
def hgz (a : Nat) : Nat := [6, 9, 72, 80, 32, 0, 0, 20].getD a 0
def Dz : Crt := (8, kd D8, co D8, sp D8, hgz, 129, np D8, de D8)
def D9 : Crt := adP (adP Dz 5 5) 5 6
theorem okC_9 : okC D9 := by
  unfold okC
  decide +kernel
def sameC (C C' : Crt) : Prop := cn C' = cn C ∧ vd C' = vd C ∧ np C' = np C ∧ (∀ a, a < cn C → kd C' a = kd C a ∧ co C' a = co C a ∧ sp C' a = sp C a ∧ hg C' a = hg C a) ∧ ∀ p, p < np C → de C' p = de C p
theorem first_same : sameC D9 (raS T0).2 := by
  rw [T0_eq]
  unfold sameC
  decide +kernel
theorem crL_same {C C' : Crt} (h : sameC C C') {fm fk fc fs fh fv fp fd : Nat → Int32} {z : Nat} (hc : crL C fm fk fc fs fh fv fp fd z) : crL C' fm fk fc fs fh fv fp fd z := by
  obtain ⟨h1, h2, h3, h4, h5⟩ := h
  obtain ⟨c1, c2, c3, c4, c5⟩ := hc
  refine ⟨by rw [h1]; exact c1, by rw [h2]; exact c2, by rw [h3]; exact c3, fun a ha => ?_, fun p hp => ?_⟩
  · have ha' : a < cn C := by rw [← h1]; exact ha
    obtain ⟨g1, g2, g3, g4⟩ := h4 a ha'
    rw [g1, g2, g3, g4]
    exact c4 a ha'
  · have hp' : p < np C := by rw [← h3]; exact hp
    rw [h5 p hp']
    exact c5 p hp'
theorem mC_same {C C' D : Crt} {w : ax_W} (h : sameC C C') (hc : mC w C D) : mC w C' D := by
  obtain ⟨fm, fk, fc, fs, fh, fv, fp, fd, h53, h54, h55, h56, h57, h58, h59, h60, e, d⟩ := hc
  exact ⟨fm, fk, fc, fs, fh, fv, fp, fd, h53, h54, h55, h56, h57, h58, h59, h60, crL_same h e, d⟩
theorem m_mInit2 {w0 w : ax_W} (hK : w 51 = om (nI 0) (nI 0) (nI 0) (nI 0) (nI 0) (nI 0)) (hC : mC w noC D8) (hT : w 52 = ab 200 (fun _ => nI 0)) (hD : mD w) (hN : w 61 = ai 132 (fun _ => nI 0)) (hfr : ∀ j, j < 51 → w j = w0 j) : Run m_X7_init 3 0 0 228 (l_ent m_X7_init [.ref 51]) [] w 72 (fun r w' n' => r = none ∧ n' = 72 ∧ isM w' [] (raS T0).2 noH [] [] ∧ same50 w0 w') := by
  obtain ⟨fm, fk, fc, fs, fh, fv, fp, fd, h53, h54, h55, h56, h57, h58, h59, h60, ⟨e1, e2, e3, e4, e5⟩, ⟨d1, d2, d3, d4, d5⟩⟩ := id hC
  clear hC
  have h5 := (d4 5 (by decide)).2.2.2
  have h6 := (d4 6 (by decide)).2.2.2
  refine x_aload_n (pc := 228) dX7_init_228 rfl ?_
  refine x_getf (pc := 229) dX7_init_229 kf_X7_29 (by assumption) (by rfl) ?_
  refine x_iconst (pc := 232) dX7_init_232 (v := nI 1) (by decide) ?_
  refine x_sipush (pc := 233) dX7_init_233 (v := nI 129) (by decide) ?_
  refine xw_iast (pc := 236) dX7_init_236 (by assumption) (by first | omega | assumption) (by rfl) (fun w hnew hne => ?_)
  replace hK := (hne _ (by omega)).trans hK
  replace hT := (hne _ (by omega)).trans hT
  replace h53 := (hne _ (by omega)).trans h53
  replace h54 := (hne _ (by omega)).trans h54
  replace h55 := (hne _ (by omega)).trans h55
  replace h56 := (hne _ (by omega)).trans h56
  replace h57 := (hne _ (by omega)).trans h57
  replace h58 := hnew
  replace h59 := (hne _ (by omega)).trans h59
  replace h60 := (hne _ (by omega)).trans h60
  replace hN := (hne _ (by omega)).trans hN
  replace hD := hD.go fun j q1 q2 => hne j (by omega)
  replace hfr := fun j (hj : j < 51) => (hne j (by omega)).trans (hfr j hj)
  clear hne
  refine x_aload_n (pc := 237) dX7_init_237 rfl ?_
  refine x_getf (pc := 238) dX7_init_238 kf_X7_26 (by assumption) (by rfl) ?_
  refine x_bipush (pc := 241) dX7_init_241 (v := nI 10) (by decide) ?_
  refine x_bipush (pc := 243) dX7_init_243 (v := nI 6) (by decide) ?_
  refine xw_iast (pc := 245) dX7_init_245 (by assumption) (by first | omega | assumption) (by rfl) (fun w hnew hne => ?_)
  replace hK := (hne _ (by omega)).trans hK
  replace hT := (hne _ (by omega)).trans hT
  replace h53 := (hne _ (by omega)).trans h53
  replace h54 := (hne _ (by omega)).trans h54
  replace h55 := (hne _ (by omega)).trans h55
  replace h56 := (hne _ (by omega)).trans h56
  replace h57 := hnew
  replace h58 := (hne _ (by omega)).trans h58
  replace h59 := (hne _ (by omega)).trans h59
  replace h60 := (hne _ (by omega)).trans h60
  replace hN := (hne _ (by omega)).trans hN
  replace hD := hD.go fun j q1 q2 => hne j (by omega)
  replace hfr := fun j (hj : j < 51) => (hne j (by omega)).trans (hfr j hj)
  clear hne
  refine x_aload_n (pc := 246) dX7_init_246 rfl ?_
  refine x_getf (pc := 247) dX7_init_247 kf_X7_26 (by assumption) (by rfl) ?_
  refine x_bipush (pc := 250) dX7_init_250 (v := nI 11) (by decide) ?_
  refine x_bipush (pc := 252) dX7_init_252 (v := nI 9) (by decide) ?_
  refine xw_iast (pc := 254) dX7_init_254 (by assumption) (by first | omega | assumption) (by rfl) (fun w hnew hne => ?_)
  replace hK := (hne _ (by omega)).trans hK
  replace hT := (hne _ (by omega)).trans hT
  replace h53 := (hne _ (by omega)).trans h53
  replace h54 := (hne _ (by omega)).trans h54
  replace h55 := (hne _ (by omega)).trans h55
  replace h56 := (hne _ (by omega)).trans h56
  replace h57 := hnew
  replace h58 := (hne _ (by omega)).trans h58
  replace h59 := (hne _ (by omega)).trans h59
  replace h60 := (hne _ (by omega)).trans h60
  replace hN := (hne _ (by omega)).trans hN
  replace hD := hD.go fun j q1 q2 => hne j (by omega)
  replace hfr := fun j (hj : j < 51) => (hne j (by omega)).trans (hfr j hj)
  clear hne
  refine x_aload_n (pc := 255) dX7_init_255 rfl ?_
  refine x_getf (pc := 256) dX7_init_256 kf_X7_26 (by assumption) (by rfl) ?_
  refine x_bipush (pc := 259) dX7_init_259 (v := nI 12) (by decide) ?_
  refine x_bipush (pc := 261) dX7_init_261 (v := nI 72) (by decide) ?_
  refine xw_iast (pc := 263) dX7_init_263 (by assumption) (by first | omega | assumption) (by rfl) (fun w hnew hne => ?_)
  replace hK := (hne _ (by omega)).trans hK
  replace hT := (hne _ (by omega)).trans hT
  replace h53 := (hne _ (by omega)).trans h53
  replace h54 := (hne _ (by omega)).trans h54
  replace h55 := (hne _ (by omega)).trans h55
  replace h56 := (hne _ (by omega)).trans h56
  replace h57 := hnew
  replace h58 := (hne _ (by omega)).trans h58
  replace h59 := (hne _ (by omega)).trans h59
  replace h60 := (hne _ (by omega)).trans h60
  replace hN := (hne _ (by omega)).trans hN
  replace hD := hD.go fun j q1 q2 => hne j (by omega)
  replace hfr := fun j (hj : j < 51) => (hne j (by omega)).trans (hfr j hj)
  clear hne
  refine x_aload_n (pc := 264) dX7_init_264 rfl ?_
  refine x_getf (pc := 265) dX7_init_265 kf_X7_26 (by assumption) (by rfl) ?_
  refine x_bipush (pc := 268) dX7_init_268 (v := nI 13) (by decide) ?_
  refine x_bipush (pc := 270) dX7_init_270 (v := nI 80) (by decide) ?_
  refine xw_iast (pc := 272) dX7_init_272 (by assumption) (by first | omega | assumption) (by rfl) (fun w hnew hne => ?_)
  replace hK := (hne _ (by omega)).trans hK
  replace hT := (hne _ (by omega)).trans hT
  replace h53 := (hne _ (by omega)).trans h53
  replace h54 := (hne _ (by omega)).trans h54
  replace h55 := (hne _ (by omega)).trans h55
  replace h56 := (hne _ (by omega)).trans h56
  replace h57 := hnew
  replace h58 := (hne _ (by omega)).trans h58
  replace h59 := (hne _ (by omega)).trans h59
  replace h60 := (hne _ (by omega)).trans h60
  replace hN := (hne _ (by omega)).trans hN
  replace hD := hD.go fun j q1 q2 => hne j (by omega)
  replace hfr := fun j (hj : j < 51) => (hne j (by omega)).trans (hfr j hj)
  clear hne
  refine x_aload_n (pc := 273) dX7_init_273 rfl ?_
  refine x_getf (pc := 274) dX7_init_274 kf_X7_26 (by assumption) (by rfl) ?_
  refine x_bipush (pc := 277) dX7_init_277 (v := nI 14) (by decide) ?_
  refine x_bipush (pc := 279) dX7_init_279 (v := nI 32) (by decide) ?_
  refine xw_iast (pc := 281) dX7_init_281 (by assumption) (by first | omega | assumption) (by rfl) (fun w hnew hne => ?_)
  replace hK := (hne _ (by omega)).trans hK
  replace hT := (hne _ (by omega)).trans hT
  replace h53 := (hne _ (by omega)).trans h53
  replace h54 := (hne _ (by omega)).trans h54
  replace h55 := (hne _ (by omega)).trans h55
  replace h56 := (hne _ (by omega)).trans h56
  replace h57 := hnew
  replace h58 := (hne _ (by omega)).trans h58
  replace h59 := (hne _ (by omega)).trans h59
  replace h60 := (hne _ (by omega)).trans h60
  replace hN := (hne _ (by omega)).trans hN
  replace hD := hD.go fun j q1 q2 => hne j (by omega)
  replace hfr := fun j (hj : j < 51) => (hne j (by omega)).trans (hfr j hj)
  clear hne
  refine x_aload_n (pc := 282) dX7_init_282 rfl ?_
  refine x_getf (pc := 283) dX7_init_283 kf_X7_26 (by assumption) (by rfl) ?_
  refine x_bipush (pc := 286) dX7_init_286 (v := nI 17) (by decide) ?_
  refine x_bipush (pc := 288) dX7_init_288 (v := nI 20) (by decide) ?_
  refine xw_iast (pc := 290) dX7_init_290 (by assumption) (by first | omega | assumption) (by rfl) (fun w hnew hne => ?_)
  replace hK := (hne _ (by omega)).trans hK
  replace hT := (hne _ (by omega)).trans hT
  replace h53 := (hne _ (by omega)).trans h53
  replace h54 := (hne _ (by omega)).trans h54
  replace h55 := (hne _ (by omega)).trans h55
  replace h56 := (hne _ (by omega)).trans h56
  replace h57 := hnew
  replace h58 := (hne _ (by omega)).trans h58
  replace h59 := (hne _ (by omega)).trans h59
  replace h60 := (hne _ (by omega)).trans h60
  replace hN := (hne _ (by omega)).trans hN
  replace hD := hD.go fun j q1 q2 => hne j (by omega)
  replace hfr := fun j (hj : j < 51) => (hne j (by omega)).trans (hfr j hj)
  clear hne
  have hC : mC w noC Dz := by
    refine ⟨fm, fk, fc, fs, _, _, fp, fd, h53, h54, h55, h56, h57, h58, h59, h60, ⟨e1, ?_, e3, fun a h => absurd h (Nat.not_lt_zero a), fun a h => absurd h (Nat.not_lt_zero a)⟩, ⟨d1, ?_, d3, fun a ha => ?_, d5⟩⟩
    · rw [upd_ne _ _ (by decide)]; exact e2
    · exact upd_same _ _ _
    · have ha : a < 8 := ha
      have h7 := d4 a ha
      refine ⟨h7.1, h7.2.1, h7.2.2.1, ?_⟩
      rcases (by omega : a = 0 ∨ a = 1 ∨ a = 2 ∨ a = 3 ∨ a = 4 ∨ a = 5 ∨ a = 6 ∨ a = 7) with rfl | rfl | rfl | rfl | rfl | rfl | rfl | rfl
      all_goals first | exact upd_same _ _ _ | ((repeat (rw [upd_ne _ _ (by decide)])); (first | exact upd_same _ _ _ | exact h5 | exact h6))
  clear h53 h54 h55 h56 h57 h58 h59 h60 e1 e2 e3 e4 e5 d1 d2 d3 d4 d5 h5 h6
  refine x_aload_n (pc := 291) dX7_init_291 rfl ?_
  refine x_iconst (pc := 292) dX7_init_292 (v := nI 5) (by decide) ?_
  refine x_iconst (pc := 293) dX7_init_293 (v := nI 5) (by decide) ?_
  refine x_cv2 (q1 := 0) (q2 := 0) (ci := 7) (pc := 294) dX7_init_294 ks_X7_75 (by assumption) (by rfl) (by omega) (by rfl) (by rfl) (by rfl) (m_firstPerson hK hC (by decide) (by decide) (by decide) (by decide)) (vo_kk fun w hP => ?_)
  obtain ⟨hK', hC', hq⟩ := hP
  replace hK := hK'.trans hK
  replace hC := hC'
  replace hT := (hq _ (by omega)).trans hT
  replace hN := (hq _ (by omega)).trans hN
  replace hD := hD.go fun j _ _ => hq j (by omega)
  replace hfr := fun j (hj : j < 51) => (hq j (by omega)).trans (hfr j hj)
  clear hq hK' hC'
  refine x_aload_n (pc := 297) dX7_init_297 rfl ?_
  refine x_iconst (pc := 298) dX7_init_298 (v := nI 5) (by decide) ?_
  refine x_bipush (pc := 299) dX7_init_299 (v := nI 6) (by decide) ?_
  refine x_cv2 (q1 := 0) (q2 := 0) (ci := 7) (pc := 301) dX7_init_301 ks_X7_75 (by assumption) (by rfl) (by omega) (by rfl) (by rfl) (by rfl) (m_firstPerson hK hC (by decide) (by decide) (by decide) (by decide)) (vo_kk fun w hP => ?_)
  obtain ⟨hK', hC', hq⟩ := hP
  replace hK := hK'.trans hK
  replace hC : mC _ noC D9 := hC'
  replace hT := (hq _ (by omega)).trans hT
  replace hN := (hq _ (by omega)).trans hN
  replace hD := hD.go fun j _ _ => hq j (by omega)
  replace hfr := fun j (hj : j < 51) => (hq j (by omega)).trans (hfr j hj)
  clear hq hK' hC'
  refine x_aload_n (pc := 304) dX7_init_304 rfl ?_
  refine x_cv0 (q1 := 0) (q2 := 0) (ci := 7) (pc := 305) dX7_init_305 ks_X7_79 (by assumption) (by rfl) (by omega) (by rfl) (by rfl) (by rfl) (m_takeDraft okC_9 hK hC hN) (vo_kk fun w hP => ?_)
  obtain ⟨hK2, hC2, hN2, hq⟩ := hP
  replace hT := (hq _ (by omega)).trans hT
  replace hD := hD.go fun j _ _ => hq j (by omega)
  replace hfr := fun j (hj : j < 51) => (hq j (by omega)).trans (hfr j hj)
  refine x_vret (pc := 308) dX7_init_308 rfl ?_
  exact ⟨rfl, rfl, ⟨0, 0, nI 0, D9, by decide, by decide, by decide, hK2, ⟨_, hT, fun i hi => absurd hi (Nat.not_lt_zero i)⟩, mC_same first_same hC2, hN2, hD⟩, hfr⟩
theorem m_mInit {w0 : ax_W} (hK : w0 51 = ao 7 df_7) : Run m_X7_init 3 100 100000 0 (l_ent m_X7_init [.ref 51]) [] w0 52 (fun r w' n' => r = none ∧ n' = 72 ∧ isM w' [] (raS T0).2 noH [] [] ∧ same50 w0 w') := by
  have hfr : ∀ j, j < 51 → w0 j = w0 j := fun _ _ => rfl
  refine x_aload_n (pc := 0) dX7_init_0 rfl ?_
  refine x_objInit (pc := 1) dX7_init_1 kO_X7_1 kM_obj kc_obj (by omega) rfl ?_
  refine x_aload_n (pc := 4) dX7_init_4 rfl ?_
  refine x_sipush (pc := 5) dX7_init_5 (v := nI 200) (by decide) ?_
  refine xw_newB (pc := 8) dX7_init_8 (by decide) (by omega) (by omega) (fun w hnew hne => ?_)
  simp only [Nat.reduceAdd, Nat.reduceSub]
  replace hK := (hne _ (by omega)).trans hK
  have g0 : w 52 = ab 200 (fun _ => nI 0) := hnew
  replace hfr := fun j (hj : j < 51) => (hne j (by omega)).trans (hfr j hj)
  clear hne hnew
  refine xw_putF (pc := 10) (k := 0) dX7_init_10 kF_X7_7 (by decide) rfl rfl hK (by rfl) rfl rfl (tyX7_ok 0 (by decide)) (fun _ => rfl) (fun _ => rfl) (fun w hnew hne => ?_)
  replace hK := hnew
  replace g0 := (hne _ (by omega)).trans g0
  replace hfr := fun j (hj : j < 51) => (hne j (by omega)).trans (hfr j hj)
  clear hne
  refine x_aload_n (pc := 13) dX7_init_13 rfl ?_
  refine x_iconst (pc := 14) dX7_init_14 (v := nI 2) (by decide) ?_
  refine xw_newI (pc := 15) dX7_init_15 (by decide) (by omega) (by omega) (fun w hnew hne => ?_)
  simp only [Nat.reduceAdd, Nat.reduceSub]
  replace hK := (hne _ (by omega)).trans hK
  replace g0 := (hne _ (by omega)).trans g0
  have g1 : w 53 = ai 2 (fun _ => nI 0) := hnew
  replace hfr := fun j (hj : j < 51) => (hne j (by omega)).trans (hfr j hj)
  clear hne hnew
  refine xw_putF (pc := 17) (k := 2) dX7_init_17 kF_X7_13 (by decide) rfl rfl hK (by rfl) rfl rfl (tyX7_ok 2 (by decide)) (fun _ => rfl) (fun _ => rfl) (fun w hnew hne => ?_)
  replace hK := hnew
  replace g0 := (hne _ (by omega)).trans g0
  replace g1 := (hne _ (by omega)).trans g1
  replace hfr := fun j (hj : j < 51) => (hne j (by omega)).trans (hfr j hj)
  clear hne
  refine x_aload_n (pc := 20) dX7_init_20 rfl ?_
  refine x_bipush (pc := 21) dX7_init_21 (v := nI 20) (by decide) ?_
  refine xw_newI (pc := 23) dX7_init_23 (by decide) (by omega) (by omega) (fun w hnew hne => ?_)
  simp only [Nat.reduceAdd, Nat.reduceSub]
  replace hK := (hne _ (by omega)).trans hK
  replace g0 := (hne _ (by omega)).trans g0
  replace g1 := (hne _ (by omega)).trans g1
  have g2 : w 54 = ai 20 (fun _ => nI 0) := hnew
  replace hfr := fun j (hj : j < 51) => (hne j (by omega)).trans (hfr j hj)
  clear hne hnew
  refine xw_putF (pc := 25) (k := 3) dX7_init_25 kF_X7_17 (by decide) rfl rfl hK (by rfl) rfl rfl (tyX7_ok 3 (by decide)) (fun _ => rfl) (fun _ => rfl) (fun w hnew hne => ?_)
  replace hK := hnew
  replace g0 := (hne _ (by omega)).trans g0
  replace g1 := (hne _ (by omega)).trans g1
  replace g2 := (hne _ (by omega)).trans g2
  replace hfr := fun j (hj : j < 51) => (hne j (by omega)).trans (hfr j hj)
  clear hne
  refine x_aload_n (pc := 28) dX7_init_28 rfl ?_
  refine x_bipush (pc := 29) dX7_init_29 (v := nI 20) (by decide) ?_
  refine xw_newI (pc := 31) dX7_init_31 (by decide) (by omega) (by omega) (fun w hnew hne => ?_)
  simp only [Nat.reduceAdd, Nat.reduceSub]
  replace hK := (hne _ (by omega)).trans hK
  replace g0 := (hne _ (by omega)).trans g0
  replace g1 := (hne _ (by omega)).trans g1
  replace g2 := (hne _ (by omega)).trans g2
  have g3 : w 55 = ai 20 (fun _ => nI 0) := hnew
  replace hfr := fun j (hj : j < 51) => (hne j (by omega)).trans (hfr j hj)
  clear hne hnew
  refine xw_putF (pc := 33) (k := 4) dX7_init_33 kF_X7_20 (by decide) rfl rfl hK (by rfl) rfl rfl (tyX7_ok 4 (by decide)) (fun _ => rfl) (fun _ => rfl) (fun w hnew hne => ?_)
  replace hK := hnew
  replace g0 := (hne _ (by omega)).trans g0
  replace g1 := (hne _ (by omega)).trans g1
  replace g2 := (hne _ (by omega)).trans g2
  replace g3 := (hne _ (by omega)).trans g3
  replace hfr := fun j (hj : j < 51) => (hne j (by omega)).trans (hfr j hj)
  clear hne
  refine x_aload_n (pc := 36) dX7_init_36 rfl ?_
  refine x_bipush (pc := 37) dX7_init_37 (v := nI 20) (by decide) ?_
  refine xw_newI (pc := 39) dX7_init_39 (by decide) (by omega) (by omega) (fun w hnew hne => ?_)
  simp only [Nat.reduceAdd, Nat.reduceSub]
  replace hK := (hne _ (by omega)).trans hK
  replace g0 := (hne _ (by omega)).trans g0
  replace g1 := (hne _ (by omega)).trans g1
  replace g2 := (hne _ (by omega)).trans g2
  replace g3 := (hne _ (by omega)).trans g3
  have g4 : w 56 = ai 20 (fun _ => nI 0) := hnew
  replace hfr := fun j (hj : j < 51) => (hne j (by omega)).trans (hfr j hj)
  clear hne hnew
  refine xw_putF (pc := 41) (k := 5) dX7_init_41 kF_X7_23 (by decide) rfl rfl hK (by rfl) rfl rfl (tyX7_ok 5 (by decide)) (fun _ => rfl) (fun _ => rfl) (fun w hnew hne => ?_)
  replace hK := hnew
  replace g0 := (hne _ (by omega)).trans g0
  replace g1 := (hne _ (by omega)).trans g1
  replace g2 := (hne _ (by omega)).trans g2
  replace g3 := (hne _ (by omega)).trans g3
  replace g4 := (hne _ (by omega)).trans g4
  replace hfr := fun j (hj : j < 51) => (hne j (by omega)).trans (hfr j hj)
  clear hne
  refine x_aload_n (pc := 44) dX7_init_44 rfl ?_
  refine x_bipush (pc := 45) dX7_init_45 (v := nI 20) (by decide) ?_
  refine xw_newI (pc := 47) dX7_init_47 (by decide) (by omega) (by omega) (fun w hnew hne => ?_)
  simp only [Nat.reduceAdd, Nat.reduceSub]
  replace hK := (hne _ (by omega)).trans hK
  replace g0 := (hne _ (by omega)).trans g0
  replace g1 := (hne _ (by omega)).trans g1
  replace g2 := (hne _ (by omega)).trans g2
  replace g3 := (hne _ (by omega)).trans g3
  replace g4 := (hne _ (by omega)).trans g4
  have g5 : w 57 = ai 20 (fun _ => nI 0) := hnew
  replace hfr := fun j (hj : j < 51) => (hne j (by omega)).trans (hfr j hj)
  clear hne hnew
  refine xw_putF (pc := 49) (k := 6) dX7_init_49 kF_X7_26 (by decide) rfl rfl hK (by rfl) rfl rfl (tyX7_ok 6 (by decide)) (fun _ => rfl) (fun _ => rfl) (fun w hnew hne => ?_)
  replace hK := hnew
  replace g0 := (hne _ (by omega)).trans g0
  replace g1 := (hne _ (by omega)).trans g1
  replace g2 := (hne _ (by omega)).trans g2
  replace g3 := (hne _ (by omega)).trans g3
  replace g4 := (hne _ (by omega)).trans g4
  replace g5 := (hne _ (by omega)).trans g5
  replace hfr := fun j (hj : j < 51) => (hne j (by omega)).trans (hfr j hj)
  clear hne
  refine x_aload_n (pc := 52) dX7_init_52 rfl ?_
  refine x_iconst (pc := 53) dX7_init_53 (v := nI 2) (by decide) ?_
  refine xw_newI (pc := 54) dX7_init_54 (by decide) (by omega) (by omega) (fun w hnew hne => ?_)
  simp only [Nat.reduceAdd, Nat.reduceSub]
  replace hK := (hne _ (by omega)).trans hK
  replace g0 := (hne _ (by omega)).trans g0
  replace g1 := (hne _ (by omega)).trans g1
  replace g2 := (hne _ (by omega)).trans g2
  replace g3 := (hne _ (by omega)).trans g3
  replace g4 := (hne _ (by omega)).trans g4
  replace g5 := (hne _ (by omega)).trans g5
  have g6 : w 58 = ai 2 (fun _ => nI 0) := hnew
  replace hfr := fun j (hj : j < 51) => (hne j (by omega)).trans (hfr j hj)
  clear hne hnew
  refine xw_putF (pc := 56) (k := 7) dX7_init_56 kF_X7_29 (by decide) rfl rfl hK (by rfl) rfl rfl (tyX7_ok 7 (by decide)) (fun _ => rfl) (fun _ => rfl) (fun w hnew hne => ?_)
  replace hK := hnew
  replace g0 := (hne _ (by omega)).trans g0
  replace g1 := (hne _ (by omega)).trans g1
  replace g2 := (hne _ (by omega)).trans g2
  replace g3 := (hne _ (by omega)).trans g3
  replace g4 := (hne _ (by omega)).trans g4
  replace g5 := (hne _ (by omega)).trans g5
  replace g6 := (hne _ (by omega)).trans g6
  replace hfr := fun j (hj : j < 51) => (hne j (by omega)).trans (hfr j hj)
  clear hne
  refine x_aload_n (pc := 59) dX7_init_59 rfl ?_
  refine x_iconst (pc := 60) dX7_init_60 (v := nI 2) (by decide) ?_
  refine xw_newI (pc := 61) dX7_init_61 (by decide) (by omega) (by omega) (fun w hnew hne => ?_)
  simp only [Nat.reduceAdd, Nat.reduceSub]
  replace hK := (hne _ (by omega)).trans hK
  replace g0 := (hne _ (by omega)).trans g0
  replace g1 := (hne _ (by omega)).trans g1
  replace g2 := (hne _ (by omega)).trans g2
  replace g3 := (hne _ (by omega)).trans g3
  replace g4 := (hne _ (by omega)).trans g4
  replace g5 := (hne _ (by omega)).trans g5
  replace g6 := (hne _ (by omega)).trans g6
  have g7 : w 59 = ai 2 (fun _ => nI 0) := hnew
  replace hfr := fun j (hj : j < 51) => (hne j (by omega)).trans (hfr j hj)
  clear hne hnew
  refine xw_putF (pc := 63) (k := 8) dX7_init_63 kF_X7_32 (by decide) rfl rfl hK (by rfl) rfl rfl (tyX7_ok 8 (by decide)) (fun _ => rfl) (fun _ => rfl) (fun w hnew hne => ?_)
  replace hK := hnew
  replace g0 := (hne _ (by omega)).trans g0
  replace g1 := (hne _ (by omega)).trans g1
  replace g2 := (hne _ (by omega)).trans g2
  replace g3 := (hne _ (by omega)).trans g3
  replace g4 := (hne _ (by omega)).trans g4
  replace g5 := (hne _ (by omega)).trans g5
  replace g6 := (hne _ (by omega)).trans g6
  replace g7 := (hne _ (by omega)).trans g7
  replace hfr := fun j (hj : j < 51) => (hne j (by omega)).trans (hfr j hj)
  clear hne
  refine x_aload_n (pc := 66) dX7_init_66 rfl ?_
  refine x_bipush (pc := 67) dX7_init_67 (v := nI 10) (by decide) ?_
  refine xw_newI (pc := 69) dX7_init_69 (by decide) (by omega) (by omega) (fun w hnew hne => ?_)
  simp only [Nat.reduceAdd, Nat.reduceSub]
  replace hK := (hne _ (by omega)).trans hK
  replace g0 := (hne _ (by omega)).trans g0
  replace g1 := (hne _ (by omega)).trans g1
  replace g2 := (hne _ (by omega)).trans g2
  replace g3 := (hne _ (by omega)).trans g3
  replace g4 := (hne _ (by omega)).trans g4
  replace g5 := (hne _ (by omega)).trans g5
  replace g6 := (hne _ (by omega)).trans g6
  replace g7 := (hne _ (by omega)).trans g7
  have g8 : w 60 = ai 10 (fun _ => nI 0) := hnew
  replace hfr := fun j (hj : j < 51) => (hne j (by omega)).trans (hfr j hj)
  clear hne hnew
  refine xw_putF (pc := 71) (k := 9) dX7_init_71 kF_X7_35 (by decide) rfl rfl hK (by rfl) rfl rfl (tyX7_ok 9 (by decide)) (fun _ => rfl) (fun _ => rfl) (fun w hnew hne => ?_)
  replace hK := hnew
  replace g0 := (hne _ (by omega)).trans g0
  replace g1 := (hne _ (by omega)).trans g1
  replace g2 := (hne _ (by omega)).trans g2
  replace g3 := (hne _ (by omega)).trans g3
  replace g4 := (hne _ (by omega)).trans g4
  replace g5 := (hne _ (by omega)).trans g5
  replace g6 := (hne _ (by omega)).trans g6
  replace g7 := (hne _ (by omega)).trans g7
  replace g8 := (hne _ (by omega)).trans g8
  replace hfr := fun j (hj : j < 51) => (hne j (by omega)).trans (hfr j hj)
  clear hne
  refine x_aload_n (pc := 74) dX7_init_74 rfl ?_
  refine x_sipush (pc := 75) dX7_init_75 (v := nI 132) (by decide) ?_
  refine xw_newI (pc := 78) dX7_init_78 (by decide) (by omega) (by omega) (fun w hnew hne => ?_)
  simp only [Nat.reduceAdd, Nat.reduceSub]
  replace hK := (hne _ (by omega)).trans hK
  replace g0 := (hne _ (by omega)).trans g0
  replace g1 := (hne _ (by omega)).trans g1
  replace g2 := (hne _ (by omega)).trans g2
  replace g3 := (hne _ (by omega)).trans g3
  replace g4 := (hne _ (by omega)).trans g4
  replace g5 := (hne _ (by omega)).trans g5
  replace g6 := (hne _ (by omega)).trans g6
  replace g7 := (hne _ (by omega)).trans g7
  replace g8 := (hne _ (by omega)).trans g8
  have g9 : w 61 = ai 132 (fun _ => nI 0) := hnew
  replace hfr := fun j (hj : j < 51) => (hne j (by omega)).trans (hfr j hj)
  clear hne hnew
  refine xw_putF (pc := 80) (k := 12) dX7_init_80 kF_X7_38 (by decide) rfl rfl hK (by rfl) rfl rfl (tyX7_ok 12 (by decide)) (fun _ => rfl) (fun _ => rfl) (fun w hnew hne => ?_)
  replace hK := hnew
  replace g0 := (hne _ (by omega)).trans g0
  replace g1 := (hne _ (by omega)).trans g1
  replace g2 := (hne _ (by omega)).trans g2
  replace g3 := (hne _ (by omega)).trans g3
  replace g4 := (hne _ (by omega)).trans g4
  replace g5 := (hne _ (by omega)).trans g5
  replace g6 := (hne _ (by omega)).trans g6
  replace g7 := (hne _ (by omega)).trans g7
  replace g8 := (hne _ (by omega)).trans g8
  replace g9 := (hne _ (by omega)).trans g9
  replace hfr := fun j (hj : j < 51) => (hne j (by omega)).trans (hfr j hj)
  clear hne
  refine x_aload_n (pc := 83) dX7_init_83 rfl ?_
  refine x_sipush (pc := 84) dX7_init_84 (v := nI 10240) (by decide) ?_
  refine xw_newI (pc := 87) dX7_init_87 (by decide) (by omega) (by omega) (fun w hnew hne => ?_)
  simp only [Nat.reduceAdd, Nat.reduceSub]
  replace hK := (hne _ (by omega)).trans hK
  replace g0 := (hne _ (by omega)).trans g0
  replace g1 := (hne _ (by omega)).trans g1
  replace g2 := (hne _ (by omega)).trans g2
  replace g3 := (hne _ (by omega)).trans g3
  replace g4 := (hne _ (by omega)).trans g4
  replace g5 := (hne _ (by omega)).trans g5
  replace g6 := (hne _ (by omega)).trans g6
  replace g7 := (hne _ (by omega)).trans g7
  replace g8 := (hne _ (by omega)).trans g8
  replace g9 := (hne _ (by omega)).trans g9
  have g10 : w 62 = ai 10240 (fun _ => nI 0) := hnew
  replace hfr := fun j (hj : j < 51) => (hne j (by omega)).trans (hfr j hj)
  clear hne hnew
  refine xw_putF (pc := 89) (k := 15) dX7_init_89 kF_X7_41 (by decide) rfl rfl hK (by rfl) rfl rfl (tyX7_ok 15 (by decide)) (fun _ => rfl) (fun _ => rfl) (fun w hnew hne => ?_)
  replace hK := hnew
  replace g0 := (hne _ (by omega)).trans g0
  replace g1 := (hne _ (by omega)).trans g1
  replace g2 := (hne _ (by omega)).trans g2
  replace g3 := (hne _ (by omega)).trans g3
  replace g4 := (hne _ (by omega)).trans g4
  replace g5 := (hne _ (by omega)).trans g5
  replace g6 := (hne _ (by omega)).trans g6
  replace g7 := (hne _ (by omega)).trans g7
  replace g8 := (hne _ (by omega)).trans g8
  replace g9 := (hne _ (by omega)).trans g9
  replace g10 := (hne _ (by omega)).trans g10
  replace hfr := fun j (hj : j < 51) => (hne j (by omega)).trans (hfr j hj)
  clear hne
  refine x_aload_n (pc := 92) dX7_init_92 rfl ?_
  refine x_sipush (pc := 93) dX7_init_93 (v := nI 10240) (by decide) ?_
  refine xw_newI (pc := 96) dX7_init_96 (by decide) (by omega) (by omega) (fun w hnew hne => ?_)
  simp only [Nat.reduceAdd, Nat.reduceSub]
  replace hK := (hne _ (by omega)).trans hK
  replace g0 := (hne _ (by omega)).trans g0
  replace g1 := (hne _ (by omega)).trans g1
  replace g2 := (hne _ (by omega)).trans g2
  replace g3 := (hne _ (by omega)).trans g3
  replace g4 := (hne _ (by omega)).trans g4
  replace g5 := (hne _ (by omega)).trans g5
  replace g6 := (hne _ (by omega)).trans g6
  replace g7 := (hne _ (by omega)).trans g7
  replace g8 := (hne _ (by omega)).trans g8
  replace g9 := (hne _ (by omega)).trans g9
  replace g10 := (hne _ (by omega)).trans g10
  have g11 : w 63 = ai 10240 (fun _ => nI 0) := hnew
  replace hfr := fun j (hj : j < 51) => (hne j (by omega)).trans (hfr j hj)
  clear hne hnew
  refine xw_putF (pc := 98) (k := 16) dX7_init_98 kF_X7_44 (by decide) rfl rfl hK (by rfl) rfl rfl (tyX7_ok 16 (by decide)) (fun _ => rfl) (fun _ => rfl) (fun w hnew hne => ?_)
  replace hK := hnew
  replace g0 := (hne _ (by omega)).trans g0
  replace g1 := (hne _ (by omega)).trans g1
  replace g2 := (hne _ (by omega)).trans g2
  replace g3 := (hne _ (by omega)).trans g3
  replace g4 := (hne _ (by omega)).trans g4
  replace g5 := (hne _ (by omega)).trans g5
  replace g6 := (hne _ (by omega)).trans g6
  replace g7 := (hne _ (by omega)).trans g7
  replace g8 := (hne _ (by omega)).trans g8
  replace g9 := (hne _ (by omega)).trans g9
  replace g10 := (hne _ (by omega)).trans g10
  replace g11 := (hne _ (by omega)).trans g11
  replace hfr := fun j (hj : j < 51) => (hne j (by omega)).trans (hfr j hj)
  clear hne
  refine x_aload_n (pc := 101) dX7_init_101 rfl ?_
  refine x_sipush (pc := 102) dX7_init_102 (v := nI 10240) (by decide) ?_
  refine xw_newI (pc := 105) dX7_init_105 (by decide) (by omega) (by omega) (fun w hnew hne => ?_)
  simp only [Nat.reduceAdd, Nat.reduceSub]
  replace hK := (hne _ (by omega)).trans hK
  replace g0 := (hne _ (by omega)).trans g0
  replace g1 := (hne _ (by omega)).trans g1
  replace g2 := (hne _ (by omega)).trans g2
  replace g3 := (hne _ (by omega)).trans g3
  replace g4 := (hne _ (by omega)).trans g4
  replace g5 := (hne _ (by omega)).trans g5
  replace g6 := (hne _ (by omega)).trans g6
  replace g7 := (hne _ (by omega)).trans g7
  replace g8 := (hne _ (by omega)).trans g8
  replace g9 := (hne _ (by omega)).trans g9
  replace g10 := (hne _ (by omega)).trans g10
  replace g11 := (hne _ (by omega)).trans g11
  have g12 : w 64 = ai 10240 (fun _ => nI 0) := hnew
  replace hfr := fun j (hj : j < 51) => (hne j (by omega)).trans (hfr j hj)
  clear hne hnew
  refine xw_putF (pc := 107) (k := 17) dX7_init_107 kF_X7_47 (by decide) rfl rfl hK (by rfl) rfl rfl (tyX7_ok 17 (by decide)) (fun _ => rfl) (fun _ => rfl) (fun w hnew hne => ?_)
  replace hK := hnew
  replace g0 := (hne _ (by omega)).trans g0
  replace g1 := (hne _ (by omega)).trans g1
  replace g2 := (hne _ (by omega)).trans g2
  replace g3 := (hne _ (by omega)).trans g3
  replace g4 := (hne _ (by omega)).trans g4
  replace g5 := (hne _ (by omega)).trans g5
  replace g6 := (hne _ (by omega)).trans g6
  replace g7 := (hne _ (by omega)).trans g7
  replace g8 := (hne _ (by omega)).trans g8
  replace g9 := (hne _ (by omega)).trans g9
  replace g10 := (hne _ (by omega)).trans g10
  replace g11 := (hne _ (by omega)).trans g11
  replace g12 := (hne _ (by omega)).trans g12
  replace hfr := fun j (hj : j < 51) => (hne j (by omega)).trans (hfr j hj)
  clear hne
  refine x_aload_n (pc := 110) dX7_init_110 rfl ?_
  refine x_sipush (pc := 111) dX7_init_111 (v := nI 10240) (by decide) ?_
  refine xw_newI (pc := 114) dX7_init_114 (by decide) (by omega) (by omega) (fun w hnew hne => ?_)
  simp only [Nat.reduceAdd, Nat.reduceSub]
  replace hK := (hne _ (by omega)).trans hK
  replace g0 := (hne _ (by omega)).trans g0
  replace g1 := (hne _ (by omega)).trans g1
  replace g2 := (hne _ (by omega)).trans g2
  replace g3 := (hne _ (by omega)).trans g3
  replace g4 := (hne _ (by omega)).trans g4
  replace g5 := (hne _ (by omega)).trans g5
  replace g6 := (hne _ (by omega)).trans g6
  replace g7 := (hne _ (by omega)).trans g7
  replace g8 := (hne _ (by omega)).trans g8
  replace g9 := (hne _ (by omega)).trans g9
  replace g10 := (hne _ (by omega)).trans g10
  replace g11 := (hne _ (by omega)).trans g11
  replace g12 := (hne _ (by omega)).trans g12
  have g13 : w 65 = ai 10240 (fun _ => nI 0) := hnew
  replace hfr := fun j (hj : j < 51) => (hne j (by omega)).trans (hfr j hj)
  clear hne hnew
  refine xw_putF (pc := 116) (k := 18) dX7_init_116 kF_X7_50 (by decide) rfl rfl hK (by rfl) rfl rfl (tyX7_ok 18 (by decide)) (fun _ => rfl) (fun _ => rfl) (fun w hnew hne => ?_)
  replace hK := hnew
  replace g0 := (hne _ (by omega)).trans g0
  replace g1 := (hne _ (by omega)).trans g1
  replace g2 := (hne _ (by omega)).trans g2
  replace g3 := (hne _ (by omega)).trans g3
  replace g4 := (hne _ (by omega)).trans g4
  replace g5 := (hne _ (by omega)).trans g5
  replace g6 := (hne _ (by omega)).trans g6
  replace g7 := (hne _ (by omega)).trans g7
  replace g8 := (hne _ (by omega)).trans g8
  replace g9 := (hne _ (by omega)).trans g9
  replace g10 := (hne _ (by omega)).trans g10
  replace g11 := (hne _ (by omega)).trans g11
  replace g12 := (hne _ (by omega)).trans g12
  replace g13 := (hne _ (by omega)).trans g13
  replace hfr := fun j (hj : j < 51) => (hne j (by omega)).trans (hfr j hj)
  clear hne
  refine x_aload_n (pc := 119) dX7_init_119 rfl ?_
  refine x_sipush (pc := 120) dX7_init_120 (v := nI 10240) (by decide) ?_
  refine xw_newI (pc := 123) dX7_init_123 (by decide) (by omega) (by omega) (fun w hnew hne => ?_)
  simp only [Nat.reduceAdd, Nat.reduceSub]
  replace hK := (hne _ (by omega)).trans hK
  replace g0 := (hne _ (by omega)).trans g0
  replace g1 := (hne _ (by omega)).trans g1
  replace g2 := (hne _ (by omega)).trans g2
  replace g3 := (hne _ (by omega)).trans g3
  replace g4 := (hne _ (by omega)).trans g4
  replace g5 := (hne _ (by omega)).trans g5
  replace g6 := (hne _ (by omega)).trans g6
  replace g7 := (hne _ (by omega)).trans g7
  replace g8 := (hne _ (by omega)).trans g8
  replace g9 := (hne _ (by omega)).trans g9
  replace g10 := (hne _ (by omega)).trans g10
  replace g11 := (hne _ (by omega)).trans g11
  replace g12 := (hne _ (by omega)).trans g12
  replace g13 := (hne _ (by omega)).trans g13
  have g14 : w 66 = ai 10240 (fun _ => nI 0) := hnew
  replace hfr := fun j (hj : j < 51) => (hne j (by omega)).trans (hfr j hj)
  clear hne hnew
  refine xw_putF (pc := 125) (k := 19) dX7_init_125 kF_X7_53 (by decide) rfl rfl hK (by rfl) rfl rfl (tyX7_ok 19 (by decide)) (fun _ => rfl) (fun _ => rfl) (fun w hnew hne => ?_)
  replace hK := hnew
  replace g0 := (hne _ (by omega)).trans g0
  replace g1 := (hne _ (by omega)).trans g1
  replace g2 := (hne _ (by omega)).trans g2
  replace g3 := (hne _ (by omega)).trans g3
  replace g4 := (hne _ (by omega)).trans g4
  replace g5 := (hne _ (by omega)).trans g5
  replace g6 := (hne _ (by omega)).trans g6
  replace g7 := (hne _ (by omega)).trans g7
  replace g8 := (hne _ (by omega)).trans g8
  replace g9 := (hne _ (by omega)).trans g9
  replace g10 := (hne _ (by omega)).trans g10
  replace g11 := (hne _ (by omega)).trans g11
  replace g12 := (hne _ (by omega)).trans g12
  replace g13 := (hne _ (by omega)).trans g13
  replace g14 := (hne _ (by omega)).trans g14
  replace hfr := fun j (hj : j < 51) => (hne j (by omega)).trans (hfr j hj)
  clear hne
  refine x_aload_n (pc := 128) dX7_init_128 rfl ?_
  refine x_sipush (pc := 129) dX7_init_129 (v := nI 10240) (by decide) ?_
  refine xw_newI (pc := 132) dX7_init_132 (by decide) (by omega) (by omega) (fun w hnew hne => ?_)
  simp only [Nat.reduceAdd, Nat.reduceSub]
  replace hK := (hne _ (by omega)).trans hK
  replace g0 := (hne _ (by omega)).trans g0
  replace g1 := (hne _ (by omega)).trans g1
  replace g2 := (hne _ (by omega)).trans g2
  replace g3 := (hne _ (by omega)).trans g3
  replace g4 := (hne _ (by omega)).trans g4
  replace g5 := (hne _ (by omega)).trans g5
  replace g6 := (hne _ (by omega)).trans g6
  replace g7 := (hne _ (by omega)).trans g7
  replace g8 := (hne _ (by omega)).trans g8
  replace g9 := (hne _ (by omega)).trans g9
  replace g10 := (hne _ (by omega)).trans g10
  replace g11 := (hne _ (by omega)).trans g11
  replace g12 := (hne _ (by omega)).trans g12
  replace g13 := (hne _ (by omega)).trans g13
  replace g14 := (hne _ (by omega)).trans g14
  have g15 : w 67 = ai 10240 (fun _ => nI 0) := hnew
  replace hfr := fun j (hj : j < 51) => (hne j (by omega)).trans (hfr j hj)
  clear hne hnew
  refine xw_putF (pc := 134) (k := 20) dX7_init_134 kF_X7_56 (by decide) rfl rfl hK (by rfl) rfl rfl (tyX7_ok 20 (by decide)) (fun _ => rfl) (fun _ => rfl) (fun w hnew hne => ?_)
  replace hK := hnew
  replace g0 := (hne _ (by omega)).trans g0
  replace g1 := (hne _ (by omega)).trans g1
  replace g2 := (hne _ (by omega)).trans g2
  replace g3 := (hne _ (by omega)).trans g3
  replace g4 := (hne _ (by omega)).trans g4
  replace g5 := (hne _ (by omega)).trans g5
  replace g6 := (hne _ (by omega)).trans g6
  replace g7 := (hne _ (by omega)).trans g7
  replace g8 := (hne _ (by omega)).trans g8
  replace g9 := (hne _ (by omega)).trans g9
  replace g10 := (hne _ (by omega)).trans g10
  replace g11 := (hne _ (by omega)).trans g11
  replace g12 := (hne _ (by omega)).trans g12
  replace g13 := (hne _ (by omega)).trans g13
  replace g14 := (hne _ (by omega)).trans g14
  replace g15 := (hne _ (by omega)).trans g15
  replace hfr := fun j (hj : j < 51) => (hne j (by omega)).trans (hfr j hj)
  clear hne
  refine x_aload_n (pc := 137) dX7_init_137 rfl ?_
  refine x_sipush (pc := 138) dX7_init_138 (v := nI 10240) (by decide) ?_
  refine xw_newI (pc := 141) dX7_init_141 (by decide) (by omega) (by omega) (fun w hnew hne => ?_)
  simp only [Nat.reduceAdd, Nat.reduceSub]
  replace hK := (hne _ (by omega)).trans hK
  replace g0 := (hne _ (by omega)).trans g0
  replace g1 := (hne _ (by omega)).trans g1
  replace g2 := (hne _ (by omega)).trans g2
  replace g3 := (hne _ (by omega)).trans g3
  replace g4 := (hne _ (by omega)).trans g4
  replace g5 := (hne _ (by omega)).trans g5
  replace g6 := (hne _ (by omega)).trans g6
  replace g7 := (hne _ (by omega)).trans g7
  replace g8 := (hne _ (by omega)).trans g8
  replace g9 := (hne _ (by omega)).trans g9
  replace g10 := (hne _ (by omega)).trans g10
  replace g11 := (hne _ (by omega)).trans g11
  replace g12 := (hne _ (by omega)).trans g12
  replace g13 := (hne _ (by omega)).trans g13
  replace g14 := (hne _ (by omega)).trans g14
  replace g15 := (hne _ (by omega)).trans g15
  have g16 : w 68 = ai 10240 (fun _ => nI 0) := hnew
  replace hfr := fun j (hj : j < 51) => (hne j (by omega)).trans (hfr j hj)
  clear hne hnew
  refine xw_putF (pc := 143) (k := 21) dX7_init_143 kF_X7_59 (by decide) rfl rfl hK (by rfl) rfl rfl (tyX7_ok 21 (by decide)) (fun _ => rfl) (fun _ => rfl) (fun w hnew hne => ?_)
  replace hK := hnew
  replace g0 := (hne _ (by omega)).trans g0
  replace g1 := (hne _ (by omega)).trans g1
  replace g2 := (hne _ (by omega)).trans g2
  replace g3 := (hne _ (by omega)).trans g3
  replace g4 := (hne _ (by omega)).trans g4
  replace g5 := (hne _ (by omega)).trans g5
  replace g6 := (hne _ (by omega)).trans g6
  replace g7 := (hne _ (by omega)).trans g7
  replace g8 := (hne _ (by omega)).trans g8
  replace g9 := (hne _ (by omega)).trans g9
  replace g10 := (hne _ (by omega)).trans g10
  replace g11 := (hne _ (by omega)).trans g11
  replace g12 := (hne _ (by omega)).trans g12
  replace g13 := (hne _ (by omega)).trans g13
  replace g14 := (hne _ (by omega)).trans g14
  replace g15 := (hne _ (by omega)).trans g15
  replace g16 := (hne _ (by omega)).trans g16
  replace hfr := fun j (hj : j < 51) => (hne j (by omega)).trans (hfr j hj)
  clear hne
  refine x_aload_n (pc := 146) dX7_init_146 rfl ?_
  refine x_sipush (pc := 147) dX7_init_147 (v := nI 10240) (by decide) ?_
  refine xw_newI (pc := 150) dX7_init_150 (by decide) (by omega) (by omega) (fun w hnew hne => ?_)
  simp only [Nat.reduceAdd, Nat.reduceSub]
  replace hK := (hne _ (by omega)).trans hK
  replace g0 := (hne _ (by omega)).trans g0
  replace g1 := (hne _ (by omega)).trans g1
  replace g2 := (hne _ (by omega)).trans g2
  replace g3 := (hne _ (by omega)).trans g3
  replace g4 := (hne _ (by omega)).trans g4
  replace g5 := (hne _ (by omega)).trans g5
  replace g6 := (hne _ (by omega)).trans g6
  replace g7 := (hne _ (by omega)).trans g7
  replace g8 := (hne _ (by omega)).trans g8
  replace g9 := (hne _ (by omega)).trans g9
  replace g10 := (hne _ (by omega)).trans g10
  replace g11 := (hne _ (by omega)).trans g11
  replace g12 := (hne _ (by omega)).trans g12
  replace g13 := (hne _ (by omega)).trans g13
  replace g14 := (hne _ (by omega)).trans g14
  replace g15 := (hne _ (by omega)).trans g15
  replace g16 := (hne _ (by omega)).trans g16
  have g17 : w 69 = ai 10240 (fun _ => nI 0) := hnew
  replace hfr := fun j (hj : j < 51) => (hne j (by omega)).trans (hfr j hj)
  clear hne hnew
  refine xw_putF (pc := 152) (k := 22) dX7_init_152 kF_X7_62 (by decide) rfl rfl hK (by rfl) rfl rfl (tyX7_ok 22 (by decide)) (fun _ => rfl) (fun _ => rfl) (fun w hnew hne => ?_)
  replace hK := hnew
  replace g0 := (hne _ (by omega)).trans g0
  replace g1 := (hne _ (by omega)).trans g1
  replace g2 := (hne _ (by omega)).trans g2
  replace g3 := (hne _ (by omega)).trans g3
  replace g4 := (hne _ (by omega)).trans g4
  replace g5 := (hne _ (by omega)).trans g5
  replace g6 := (hne _ (by omega)).trans g6
  replace g7 := (hne _ (by omega)).trans g7
  replace g8 := (hne _ (by omega)).trans g8
  replace g9 := (hne _ (by omega)).trans g9
  replace g10 := (hne _ (by omega)).trans g10
  replace g11 := (hne _ (by omega)).trans g11
  replace g12 := (hne _ (by omega)).trans g12
  replace g13 := (hne _ (by omega)).trans g13
  replace g14 := (hne _ (by omega)).trans g14
  replace g15 := (hne _ (by omega)).trans g15
  replace g16 := (hne _ (by omega)).trans g16
  replace g17 := (hne _ (by omega)).trans g17
  replace hfr := fun j (hj : j < 51) => (hne j (by omega)).trans (hfr j hj)
  clear hne
  refine x_aload_n (pc := 155) dX7_init_155 rfl ?_
  refine x_sipush (pc := 156) dX7_init_156 (v := nI 10240) (by decide) ?_
  refine xw_newI (pc := 159) dX7_init_159 (by decide) (by omega) (by omega) (fun w hnew hne => ?_)
  simp only [Nat.reduceAdd, Nat.reduceSub]
  replace hK := (hne _ (by omega)).trans hK
  replace g0 := (hne _ (by omega)).trans g0
  replace g1 := (hne _ (by omega)).trans g1
  replace g2 := (hne _ (by omega)).trans g2
  replace g3 := (hne _ (by omega)).trans g3
  replace g4 := (hne _ (by omega)).trans g4
  replace g5 := (hne _ (by omega)).trans g5
  replace g6 := (hne _ (by omega)).trans g6
  replace g7 := (hne _ (by omega)).trans g7
  replace g8 := (hne _ (by omega)).trans g8
  replace g9 := (hne _ (by omega)).trans g9
  replace g10 := (hne _ (by omega)).trans g10
  replace g11 := (hne _ (by omega)).trans g11
  replace g12 := (hne _ (by omega)).trans g12
  replace g13 := (hne _ (by omega)).trans g13
  replace g14 := (hne _ (by omega)).trans g14
  replace g15 := (hne _ (by omega)).trans g15
  replace g16 := (hne _ (by omega)).trans g16
  replace g17 := (hne _ (by omega)).trans g17
  have g18 : w 70 = ai 10240 (fun _ => nI 0) := hnew
  replace hfr := fun j (hj : j < 51) => (hne j (by omega)).trans (hfr j hj)
  clear hne hnew
  refine xw_putF (pc := 161) (k := 23) dX7_init_161 kF_X7_65 (by decide) rfl rfl hK (by rfl) rfl rfl (tyX7_ok 23 (by decide)) (fun _ => rfl) (fun _ => rfl) (fun w hnew hne => ?_)
  replace hK := hnew
  replace g0 := (hne _ (by omega)).trans g0
  replace g1 := (hne _ (by omega)).trans g1
  replace g2 := (hne _ (by omega)).trans g2
  replace g3 := (hne _ (by omega)).trans g3
  replace g4 := (hne _ (by omega)).trans g4
  replace g5 := (hne _ (by omega)).trans g5
  replace g6 := (hne _ (by omega)).trans g6
  replace g7 := (hne _ (by omega)).trans g7
  replace g8 := (hne _ (by omega)).trans g8
  replace g9 := (hne _ (by omega)).trans g9
  replace g10 := (hne _ (by omega)).trans g10
  replace g11 := (hne _ (by omega)).trans g11
  replace g12 := (hne _ (by omega)).trans g12
  replace g13 := (hne _ (by omega)).trans g13
  replace g14 := (hne _ (by omega)).trans g14
  replace g15 := (hne _ (by omega)).trans g15
  replace g16 := (hne _ (by omega)).trans g16
  replace g17 := (hne _ (by omega)).trans g17
  replace g18 := (hne _ (by omega)).trans g18
  replace hfr := fun j (hj : j < 51) => (hne j (by omega)).trans (hfr j hj)
  clear hne
  refine x_aload_n (pc := 164) dX7_init_164 rfl ?_
  refine x_bipush (pc := 165) dX7_init_165 (v := nI 10) (by decide) ?_
  refine xw_newI (pc := 167) dX7_init_167 (by decide) (by omega) (by omega) (fun w hnew hne => ?_)
  simp only [Nat.reduceAdd, Nat.reduceSub]
  replace hK := (hne _ (by omega)).trans hK
  replace g0 := (hne _ (by omega)).trans g0
  replace g1 := (hne _ (by omega)).trans g1
  replace g2 := (hne _ (by omega)).trans g2
  replace g3 := (hne _ (by omega)).trans g3
  replace g4 := (hne _ (by omega)).trans g4
  replace g5 := (hne _ (by omega)).trans g5
  replace g6 := (hne _ (by omega)).trans g6
  replace g7 := (hne _ (by omega)).trans g7
  replace g8 := (hne _ (by omega)).trans g8
  replace g9 := (hne _ (by omega)).trans g9
  replace g10 := (hne _ (by omega)).trans g10
  replace g11 := (hne _ (by omega)).trans g11
  replace g12 := (hne _ (by omega)).trans g12
  replace g13 := (hne _ (by omega)).trans g13
  replace g14 := (hne _ (by omega)).trans g14
  replace g15 := (hne _ (by omega)).trans g15
  replace g16 := (hne _ (by omega)).trans g16
  replace g17 := (hne _ (by omega)).trans g17
  replace g18 := (hne _ (by omega)).trans g18
  have g19 : w 71 = ai 10 (fun _ => nI 0) := hnew
  replace hfr := fun j (hj : j < 51) => (hne j (by omega)).trans (hfr j hj)
  clear hne hnew
  refine xw_putF (pc := 169) (k := 24) dX7_init_169 kF_X7_68 (by decide) rfl rfl hK (by rfl) rfl rfl (tyX7_ok 24 (by decide)) (fun _ => rfl) (fun _ => rfl) (fun w hnew hne => ?_)
  replace hK := hnew
  replace g0 := (hne _ (by omega)).trans g0
  replace g1 := (hne _ (by omega)).trans g1
  replace g2 := (hne _ (by omega)).trans g2
  replace g3 := (hne _ (by omega)).trans g3
  replace g4 := (hne _ (by omega)).trans g4
  replace g5 := (hne _ (by omega)).trans g5
  replace g6 := (hne _ (by omega)).trans g6
  replace g7 := (hne _ (by omega)).trans g7
  replace g8 := (hne _ (by omega)).trans g8
  replace g9 := (hne _ (by omega)).trans g9
  replace g10 := (hne _ (by omega)).trans g10
  replace g11 := (hne _ (by omega)).trans g11
  replace g12 := (hne _ (by omega)).trans g12
  replace g13 := (hne _ (by omega)).trans g13
  replace g14 := (hne _ (by omega)).trans g14
  replace g15 := (hne _ (by omega)).trans g15
  replace g16 := (hne _ (by omega)).trans g16
  replace g17 := (hne _ (by omega)).trans g17
  replace g18 := (hne _ (by omega)).trans g18
  replace g19 := (hne _ (by omega)).trans g19
  replace hfr := fun j (hj : j < 51) => (hne j (by omega)).trans (hfr j hj)
  clear hne
  replace hK : w 51 = om (nI 0) (nI 0) (nI 0) (nI 0) (nI 0) (nI 0) := hK
  have hC : mC w noC noC := ⟨_, _, _, _, _, _, _, _, g1, g2, g3, g4, g5, g6, g7, g8, ⟨rfl, rfl, rfl, fun a h => absurd h (Nat.not_lt_zero a), fun a h => absurd h (Nat.not_lt_zero a)⟩, ⟨rfl, rfl, rfl, fun a h => absurd h (Nat.not_lt_zero a), fun a h => absurd h (Nat.not_lt_zero a)⟩⟩
  clear g1 g2 g3 g4 g5 g6 g7 g8
  refine Run.room (q1 := 0) (q2 := 0) ?_ (by omega) (by omega)
  refine x_aload_n (pc := 172) dX7_init_172 rfl ?_
  refine x_iconst (pc := 173) dX7_init_173 (v := nI 0) (by decide) ?_
  refine x_iconst (pc := 174) dX7_init_174 (v := nI 3) (by decide) ?_
  refine x_iconst (pc := 175) dX7_init_175 (v := nI 1) (by decide) ?_
  refine x_cv3 (q1 := 0) (q2 := 0) (ci := 7) (pc := 176) dX7_init_176 ks_X7_71 (by assumption) (by rfl) (by omega) (by rfl) (by rfl) (by rfl) (m_firstOf hK hC (by decide) (by decide)) (vo_kk fun w hP => ?_)
  obtain ⟨hK', hC', hq⟩ := hP
  replace hK := hK'.trans hK
  replace hC := hC'
  replace g0 := (hq _ (by omega)).trans g0
  replace g9 := (hq _ (by omega)).trans g9
  replace g10 := (hq _ (by omega)).trans g10
  replace g11 := (hq _ (by omega)).trans g11
  replace g12 := (hq _ (by omega)).trans g12
  replace g13 := (hq _ (by omega)).trans g13
  replace g14 := (hq _ (by omega)).trans g14
  replace g15 := (hq _ (by omega)).trans g15
  replace g16 := (hq _ (by omega)).trans g16
  replace g17 := (hq _ (by omega)).trans g17
  replace g18 := (hq _ (by omega)).trans g18
  replace g19 := (hq _ (by omega)).trans g19
  replace hfr := fun j (hj : j < 51) => (hq j (by omega)).trans (hfr j hj)
  clear hq hK' hC'
  refine x_aload_n (pc := 179) dX7_init_179 rfl ?_
  refine x_iconst (pc := 180) dX7_init_180 (v := nI 1) (by decide) ?_
  refine x_iconst (pc := 181) dX7_init_181 (v := nI 2) (by decide) ?_
  refine x_iconst (pc := 182) dX7_init_182 (v := nI 2) (by decide) ?_
  refine x_cv3 (q1 := 0) (q2 := 0) (ci := 7) (pc := 183) dX7_init_183 ks_X7_71 (by assumption) (by rfl) (by omega) (by rfl) (by rfl) (by rfl) (m_firstOf hK hC (by decide) (by decide)) (vo_kk fun w hP => ?_)
  obtain ⟨hK', hC', hq⟩ := hP
  replace hK := hK'.trans hK
  replace hC := hC'
  replace g0 := (hq _ (by omega)).trans g0
  replace g9 := (hq _ (by omega)).trans g9
  replace g10 := (hq _ (by omega)).trans g10
  replace g11 := (hq _ (by omega)).trans g11
  replace g12 := (hq _ (by omega)).trans g12
  replace g13 := (hq _ (by omega)).trans g13
  replace g14 := (hq _ (by omega)).trans g14
  replace g15 := (hq _ (by omega)).trans g15
  replace g16 := (hq _ (by omega)).trans g16
  replace g17 := (hq _ (by omega)).trans g17
  replace g18 := (hq _ (by omega)).trans g18
  replace g19 := (hq _ (by omega)).trans g19
  replace hfr := fun j (hj : j < 51) => (hq j (by omega)).trans (hfr j hj)
  clear hq hK' hC'
  refine x_aload_n (pc := 186) dX7_init_186 rfl ?_
  refine x_iconst (pc := 187) dX7_init_187 (v := nI 1) (by decide) ?_
  refine x_iconst (pc := 188) dX7_init_188 (v := nI 5) (by decide) ?_
  refine x_iconst (pc := 189) dX7_init_189 (v := nI 1) (by decide) ?_
  refine x_cv3 (q1 := 0) (q2 := 0) (ci := 7) (pc := 190) dX7_init_190 ks_X7_71 (by assumption) (by rfl) (by omega) (by rfl) (by rfl) (by rfl) (m_firstOf hK hC (by decide) (by decide)) (vo_kk fun w hP => ?_)
  obtain ⟨hK', hC', hq⟩ := hP
  replace hK := hK'.trans hK
  replace hC := hC'
  replace g0 := (hq _ (by omega)).trans g0
  replace g9 := (hq _ (by omega)).trans g9
  replace g10 := (hq _ (by omega)).trans g10
  replace g11 := (hq _ (by omega)).trans g11
  replace g12 := (hq _ (by omega)).trans g12
  replace g13 := (hq _ (by omega)).trans g13
  replace g14 := (hq _ (by omega)).trans g14
  replace g15 := (hq _ (by omega)).trans g15
  replace g16 := (hq _ (by omega)).trans g16
  replace g17 := (hq _ (by omega)).trans g17
  replace g18 := (hq _ (by omega)).trans g18
  replace g19 := (hq _ (by omega)).trans g19
  replace hfr := fun j (hj : j < 51) => (hq j (by omega)).trans (hfr j hj)
  clear hq hK' hC'
  refine x_aload_n (pc := 193) dX7_init_193 rfl ?_
  refine x_iconst (pc := 194) dX7_init_194 (v := nI 2) (by decide) ?_
  refine x_iconst (pc := 195) dX7_init_195 (v := nI 4) (by decide) ?_
  refine x_iconst (pc := 196) dX7_init_196 (v := nI 3) (by decide) ?_
  refine x_cv3 (q1 := 0) (q2 := 0) (ci := 7) (pc := 197) dX7_init_197 ks_X7_71 (by assumption) (by rfl) (by omega) (by rfl) (by rfl) (by rfl) (m_firstOf hK hC (by decide) (by decide)) (vo_kk fun w hP => ?_)
  obtain ⟨hK', hC', hq⟩ := hP
  replace hK := hK'.trans hK
  replace hC := hC'
  replace g0 := (hq _ (by omega)).trans g0
  replace g9 := (hq _ (by omega)).trans g9
  replace g10 := (hq _ (by omega)).trans g10
  replace g11 := (hq _ (by omega)).trans g11
  replace g12 := (hq _ (by omega)).trans g12
  replace g13 := (hq _ (by omega)).trans g13
  replace g14 := (hq _ (by omega)).trans g14
  replace g15 := (hq _ (by omega)).trans g15
  replace g16 := (hq _ (by omega)).trans g16
  replace g17 := (hq _ (by omega)).trans g17
  replace g18 := (hq _ (by omega)).trans g18
  replace g19 := (hq _ (by omega)).trans g19
  replace hfr := fun j (hj : j < 51) => (hq j (by omega)).trans (hfr j hj)
  clear hq hK' hC'
  refine x_aload_n (pc := 200) dX7_init_200 rfl ?_
  refine x_iconst (pc := 201) dX7_init_201 (v := nI 3) (by decide) ?_
  refine x_iconst (pc := 202) dX7_init_202 (v := nI 1) (by decide) ?_
  refine x_iconst (pc := 203) dX7_init_203 (v := nI 1) (by decide) ?_
  refine x_cv3 (q1 := 0) (q2 := 0) (ci := 7) (pc := 204) dX7_init_204 ks_X7_71 (by assumption) (by rfl) (by omega) (by rfl) (by rfl) (by rfl) (m_firstOf hK hC (by decide) (by decide)) (vo_kk fun w hP => ?_)
  obtain ⟨hK', hC', hq⟩ := hP
  replace hK := hK'.trans hK
  replace hC := hC'
  replace g0 := (hq _ (by omega)).trans g0
  replace g9 := (hq _ (by omega)).trans g9
  replace g10 := (hq _ (by omega)).trans g10
  replace g11 := (hq _ (by omega)).trans g11
  replace g12 := (hq _ (by omega)).trans g12
  replace g13 := (hq _ (by omega)).trans g13
  replace g14 := (hq _ (by omega)).trans g14
  replace g15 := (hq _ (by omega)).trans g15
  replace g16 := (hq _ (by omega)).trans g16
  replace g17 := (hq _ (by omega)).trans g17
  replace g18 := (hq _ (by omega)).trans g18
  replace g19 := (hq _ (by omega)).trans g19
  replace hfr := fun j (hj : j < 51) => (hq j (by omega)).trans (hfr j hj)
  clear hq hK' hC'
  refine x_aload_n (pc := 207) dX7_init_207 rfl ?_
  refine x_iconst (pc := 208) dX7_init_208 (v := nI 4) (by decide) ?_
  refine x_iconst (pc := 209) dX7_init_209 (v := nI 0) (by decide) ?_
  refine x_iconst (pc := 210) dX7_init_210 (v := nI 0) (by decide) ?_
  refine x_cv3 (q1 := 0) (q2 := 0) (ci := 7) (pc := 211) dX7_init_211 ks_X7_71 (by assumption) (by rfl) (by omega) (by rfl) (by rfl) (by rfl) (m_firstOf hK hC (by decide) (by decide)) (vo_kk fun w hP => ?_)
  obtain ⟨hK', hC', hq⟩ := hP
  replace hK := hK'.trans hK
  replace hC := hC'
  replace g0 := (hq _ (by omega)).trans g0
  replace g9 := (hq _ (by omega)).trans g9
  replace g10 := (hq _ (by omega)).trans g10
  replace g11 := (hq _ (by omega)).trans g11
  replace g12 := (hq _ (by omega)).trans g12
  replace g13 := (hq _ (by omega)).trans g13
  replace g14 := (hq _ (by omega)).trans g14
  replace g15 := (hq _ (by omega)).trans g15
  replace g16 := (hq _ (by omega)).trans g16
  replace g17 := (hq _ (by omega)).trans g17
  replace g18 := (hq _ (by omega)).trans g18
  replace g19 := (hq _ (by omega)).trans g19
  replace hfr := fun j (hj : j < 51) => (hq j (by omega)).trans (hfr j hj)
  clear hq hK' hC'
  refine x_aload_n (pc := 214) dX7_init_214 rfl ?_
  refine x_iconst (pc := 215) dX7_init_215 (v := nI 4) (by decide) ?_
  refine x_iconst (pc := 216) dX7_init_216 (v := nI 2) (by decide) ?_
  refine x_iconst (pc := 217) dX7_init_217 (v := nI 0) (by decide) ?_
  refine x_cv3 (q1 := 0) (q2 := 0) (ci := 7) (pc := 218) dX7_init_218 ks_X7_71 (by assumption) (by rfl) (by omega) (by rfl) (by rfl) (by rfl) (m_firstOf hK hC (by decide) (by decide)) (vo_kk fun w hP => ?_)
  obtain ⟨hK', hC', hq⟩ := hP
  replace hK := hK'.trans hK
  replace hC := hC'
  replace g0 := (hq _ (by omega)).trans g0
  replace g9 := (hq _ (by omega)).trans g9
  replace g10 := (hq _ (by omega)).trans g10
  replace g11 := (hq _ (by omega)).trans g11
  replace g12 := (hq _ (by omega)).trans g12
  replace g13 := (hq _ (by omega)).trans g13
  replace g14 := (hq _ (by omega)).trans g14
  replace g15 := (hq _ (by omega)).trans g15
  replace g16 := (hq _ (by omega)).trans g16
  replace g17 := (hq _ (by omega)).trans g17
  replace g18 := (hq _ (by omega)).trans g18
  replace g19 := (hq _ (by omega)).trans g19
  replace hfr := fun j (hj : j < 51) => (hq j (by omega)).trans (hfr j hj)
  clear hq hK' hC'
  refine x_aload_n (pc := 221) dX7_init_221 rfl ?_
  refine x_iconst (pc := 222) dX7_init_222 (v := nI 2) (by decide) ?_
  refine x_iconst (pc := 223) dX7_init_223 (v := nI 3) (by decide) ?_
  refine x_iconst (pc := 224) dX7_init_224 (v := nI 2) (by decide) ?_
  refine x_cv3 (q1 := 0) (q2 := 0) (ci := 7) (pc := 225) dX7_init_225 ks_X7_71 (by assumption) (by rfl) (by omega) (by rfl) (by rfl) (by rfl) (m_firstOf hK hC (by decide) (by decide)) (vo_kk fun w hP => ?_)
  obtain ⟨hK', hC', hq⟩ := hP
  replace hK := hK'.trans hK
  replace hC := hC'
  replace g0 := (hq _ (by omega)).trans g0
  replace g9 := (hq _ (by omega)).trans g9
  replace g10 := (hq _ (by omega)).trans g10
  replace g11 := (hq _ (by omega)).trans g11
  replace g12 := (hq _ (by omega)).trans g12
  replace g13 := (hq _ (by omega)).trans g13
  replace g14 := (hq _ (by omega)).trans g14
  replace g15 := (hq _ (by omega)).trans g15
  replace g16 := (hq _ (by omega)).trans g16
  replace g17 := (hq _ (by omega)).trans g17
  replace g18 := (hq _ (by omega)).trans g18
  replace g19 := (hq _ (by omega)).trans g19
  replace hfr := fun j (hj : j < 51) => (hq j (by omega)).trans (hfr j hj)
  clear hq hK' hC'
  refine m_mInit2 hK hC g0 ⟨fun i hi => ?_, _, g19⟩ g9 hfr
  rcases (by omega : i = 0 ∨ i = 1 ∨ i = 2 ∨ i = 3 ∨ i = 4 ∨ i = 5 ∨ i = 6 ∨ i = 7 ∨ i = 8) with rfl | rfl | rfl | rfl | rfl | rfl | rfl | rfl | rfl
  · exact ⟨_, g10⟩
  · exact ⟨_, g11⟩
  · exact ⟨_, g12⟩
  · exact ⟨_, g13⟩
  · exact ⟨_, g14⟩
  · exact ⟨_, g15⟩
  · exact ⟨_, g16⟩
  · exact ⟨_, g17⟩
  · exact ⟨_, g18⟩
/-- no VERDICT is a NIGHT -/
def okW (C : Crt) : Prop := ∀ a, (vd C).testBit a = true → kd C a ≠ 4
theorem okW_tlS {C C' : Crt} (ok : okC C) (hw : okW C) {c : Int32} {l : List Nat} (h : tlS C c l = some C') : okW C' := by
  unfold tlS at h
  split at h
  · split at h
    · cases h
      intro a ha
      have hlt : a < cn C := bit_in ok.2.2.1 ha
      show fup (kd C) (cn C) _ a ≠ 4
      rw [fup_ne _ _ (by omega)]
      exact hw a ha
    · cases h
  · split at h
    · split at h
      · next q =>
        cases h
        intro a ha
        have ha : (vd C ||| 2 ^ l.getD 0 0).testBit a = true := ha
        rw [b_orp, Bool.or_eq_true, decide_eq_true_iff] at ha
        show kd C a ≠ 4
        rcases ha with ha | ha
        · exact hw a ha
        · rw [← ha]; exact (of_decide_eq_true q.2).2
      · cases h
    · split at h
      · split at h
        · cases h; exact hw
        · cases h
      · split at h
        · split at h
          · cases h; exact hw
          · cases h
        · cases h
theorem okW_raF (T : List Nat) : ∀ m C p, okC C → okW C → okW (raF T m C p).2
  | 0, C, p, _, h => h
  | m + 1, C, p, ok, h => by
    simp only [raF]
    split
    · split
      · exact h
      · split
        · exact h
        · next h2 => exact okW_raF T m _ _ (okC_tlS ok h2) (okW_tlS ok h h2)
    · exact h
theorem okW_no : okW noC := fun a ha => by
  have : (0 : Nat).testBit a = true := ha
  rw [Nat.zero_testBit] at this
  cases this
theorem okW_raS (T : List Nat) : okW (raS T).2 := okW_raF T 200 noC 0 okC_no okW_no
