/-! undo, argued, next, trial, keep, back, count -/
theorem getD_memH {L : List Hrg} {i : Nat} (h : i < L.length) : L.getD i noH ∈ L := by
  rw [List.getD_eq_getElem?_getD, List.getElem?_eq_getElem h]
  exact List.getElem_mem h
theorem c_undo {w : ax_W} {n : Nat} {T : List Nat} {C : Crt} {h : Hrg} {L K : List Hrg} (hx : isX w T C h L K) (ok : okX T C h L K) : Run m_X6_undo 4 0 0 0 (l_ent m_X6_undo [.ref 0]) [] w n (if 0 < L.length then PX (nI (L.length - 1)) T C (L.getD (L.length - 1) noH) L.dropLast K w n else PX (-2) T C h L K w n) := by
  obtain ⟨hX, hT, hR, hC, hD, hH, hP1, hP2, hV, hV2⟩ := hx
  obtain ⟨-, okC, okH, okL, -⟩ := ok
  obtain ⟨hH1, -⟩ := id hH
  have hfr : ∀ j, 51 ≤ j → w j = w j := fun _ _ => rfl
  have hl8 : L.length ≤ 8 := hP1.choose_spec.2.2.2.2.1
  have hsh := hP1.choose_spec.2.1
  refine x_aload_n (pc := 0) dX6_undo_0 rfl ?_
  refine x_getf (pc := 1) dX6_undo_1 kf_X6_45 (by assumption) (by rfl) ?_
  refine x_aload_n (pc := 4) dX6_undo_4 rfl ?_
  refine x_getf (pc := 5) dX6_undo_5 kf_X6_36 (by assumption) (by rfl) ?_
  refine x_cv1 (q1 := 0) (q2 := 0) (ci := 4) (pc := 8) dX6_undo_8 ks_X6_151 (by assumption) (by rfl) (by omega) (by rfl) (by rfl) (by rfl) (c_takeLatest hP1 (Or.inr rfl) hH (fun x hx => (okL x hx).len okC) (by omega)) (va_kk fun v w hP => ?_)
  obtain ⟨rfl, hP1, hH, hq'⟩ := hP
  have hq : ∀ j, (j < 19 ∨ 37 ≤ j) ∧ (j < 17 ∨ 19 ≤ j) → w j = _ := fun j hj => hq' j hj.1 hj.2
  replace hX := (hq _ (by omega)).trans hX
  replace hT := hT.go fun j q1 q2 => hq j (by omega)
  replace hR := hR.go fun j q1 q2 => hq j (by omega)
  replace hC := hC.go fun j q1 q2 => hq j (by omega)
  replace hD := hD.go fun j q1 q2 => hq j (by omega)
  replace hP2 := hP2.go fun j q1 q2 => hq j (by omega)
  replace hV := hV.go fun j q1 q2 => hq j (by omega)
  replace hV2 := hV2.go fun j q1 q2 => hq j (by omega)
  replace hfr := fun j (hj : 51 ≤ j) => (hq j (by omega)).trans (hfr j hj)
  clear hq
  refine x_if_eq (pc := 11) dX6_undo_11 (tgt := 24) (by decide) (fun h_11 => ?_) (fun h_11 => ?_)
  · skip
    try first | rw [n_b0] at h_11 | rw [n_eq0 (by omega)] at h_11
    simp only [decide_eq_false_iff_not] at h_11
    rw [if_neg h_11] at hH ⊢
    have hL : L = [] := List.length_eq_zero_iff.mp (by omega)
    subst hL
    refine x_bipush (pc := 24) dX6_undo_24 (v := -2) (by decide) ?_
    refine x_iret (pc := 26) dX6_undo_26 rfl rfl ?_
    first | exact va_i ⟨rfl, ⟨hX, hT, hR, hC, hD, hH, hP1, hP2, hV, hV2⟩, hfr⟩
  · skip
    try first | rw [n_b0] at h_11 | rw [n_eq0 (by omega)] at h_11
    simp only [Bool.not_eq_false, decide_eq_true_eq] at h_11
    rw [if_pos h_11] at hH ⊢
    refine x_aload_n (pc := 14) dX6_undo_14 rfl ?_
    refine x_getf (pc := 15) dX6_undo_15 kf_X6_45 (by assumption) (by rfl) ?_
    refine x_getf (pc := 18) dX6_undo_18 kf_X6_155 hP1.choose_spec.2.1 (by rfl) ?_
    rw [show L.dropLast.length = L.length - 1 by simp]
    refine x_goto (pc := 21) dX6_undo_21 (tgt := 26) (by decide) ?_
    refine x_iret (pc := 26) dX6_undo_26 rfl rfl ?_
    first | exact va_i ⟨rfl, ⟨hX, hT, hR, hC, hD, hH, hP1, hP2, hV, hV2⟩, hfr⟩
theorem okX_undo {T : List Nat} {C : Crt} {h : Hrg} {L K : List Hrg} (ok : okX T C h L K) (hl : 0 < L.length) : okX T C (L.getD (L.length - 1) noH) L.dropLast K := ⟨ok.1, ok.2.1, ok.2.2.2.1 _ (getD_memH (by omega)), fun x hx => ok.2.2.2.1 x (by rw [List.dropLast_eq_take] at hx; exact List.mem_of_mem_take hx), ok.2.2.2.2⟩
def agS (h : Hrg) (x : Int32) : Int32 := if inB x h.1.length then nI (h.1.getD x.toNatClampNeg 0) else -1
theorem c_argued {w : ax_W} {n : Nat} {T : List Nat} {C : Crt} {h : Hrg} {L K : List Hrg} (hx : isX w T C h L K) (ok : okX T C h L K) (x : Int32) : Run m_X6_argued 1 0 0 0 (l_ent m_X6_argued [.ref 0, .int x]) [] w n (PX (agS h x) T C h L K w n) := by
  have hx0 := hx
  obtain ⟨hX, hT, hR, hC, hD, hH, hP1, hP2, hV, hV2⟩ := hx
  obtain ⟨-, okC, okH, -⟩ := ok
  have hl := okH.len okC
  obtain ⟨hH1, f, g1, g2⟩ := id hH
  have hdec : decide (x < nI 0 ∨ nI h.1.length - nI 1 < x) = !inB x h.1.length := by
    unfold inB
    rw [← decide_not]
    refine decide_eq_decide.mpr ?_
    rw [show (nI 0 : Int32) = 0 from rfl]
    have e : (nI h.1.length - nI 1).toInt = (h.1.length : Int) - 1 := pk_sub_toInt (by omega) (by decide)
    have e2 : (nI h.1.length).toInt = (h.1.length : Int) := nI_toInt (by omega)
    have e0 : (0 : Int32).toInt = 0 := by decide
    rw [Int32.lt_iff_toInt_lt, Int32.lt_iff_toInt_lt, Int32.lt_iff_toInt_lt, e, e2, e0]
    omega
  rcases inB_cases x (n := h.1.length) (by omega) with hb | ⟨a, ha, rfl⟩
  · refine x_iload_n (pc := 0) dX6_argued_0 rfl ?_
    refine x_iconst (pc := 1) dX6_argued_1 (v := nI 0) (by decide) ?_
    refine x_aload_n (pc := 2) dX6_argued_2 rfl ?_
    refine x_getf (pc := 3) dX6_argued_3 kf_X6_36 (by assumption) (by rfl) ?_
    refine x_getf (pc := 6) dX6_argued_6 kf_X6_142 (by assumption) (by rfl) ?_
    refine x_iconst (pc := 9) dX6_argued_9 (v := nI 1) (by decide) ?_
    refine x_isub (pc := 10) dX6_argued_10 ?_
    refine x_cs3p (pc := 11) dX6_argued_11 ks_X6_75 (by omega) (by rfl) (by rfl) (by rfl) (c_outside _ _ _) ?_
    rw [hdec]
    refine x_if_eq (pc := 14) dX6_argued_14 (tgt := 21) (by decide) (fun h_14 => ?_) (fun h_14 => ?_)
    · skip
      try first | rw [n_b0] at h_14 | rw [n_eq0 (by omega)] at h_14
      rw [hb] at h_14; cases h_14
    · skip
      try first | rw [n_b0] at h_14 | rw [n_eq0 (by omega)] at h_14
      refine x_iconst (pc := 17) dX6_argued_17 (v := -1) (by decide) ?_
      refine x_goto (pc := 18) dX6_argued_18 (tgt := 32) (by decide) ?_
      refine x_iret (pc := 32) dX6_argued_32 rfl rfl ?_
      exact va_i ⟨by rw [agS, if_neg (by rw [hb]; decide)], hx0, fun _ _ => rfl⟩
  · have hb : inB (nI a) h.1.length = true := by rw [inB_n (by omega) (by omega)]; simpa using ha
    refine x_iload_n (pc := 0) dX6_argued_0 rfl ?_
    refine x_iconst (pc := 1) dX6_argued_1 (v := nI 0) (by decide) ?_
    refine x_aload_n (pc := 2) dX6_argued_2 rfl ?_
    refine x_getf (pc := 3) dX6_argued_3 kf_X6_36 (by assumption) (by rfl) ?_
    refine x_getf (pc := 6) dX6_argued_6 kf_X6_142 (by assumption) (by rfl) ?_
    refine x_iconst (pc := 9) dX6_argued_9 (v := nI 1) (by decide) ?_
    refine x_isub (pc := 10) dX6_argued_10 ?_
    refine x_cs3p (pc := 11) dX6_argued_11 ks_X6_75 (by omega) (by rfl) (by rfl) (by rfl) (c_outside _ _ _) ?_
    rw [hdec]
    refine x_if_eq (pc := 14) dX6_argued_14 (tgt := 21) (by decide) (fun h_14 => ?_) (fun h_14 => ?_)
    · skip
      try first | rw [n_b0] at h_14 | rw [n_eq0 (by omega)] at h_14
      refine x_aload_n (pc := 21) dX6_argued_21 rfl ?_
      refine x_getf (pc := 22) dX6_argued_22 kf_X6_36 (by assumption) (by rfl) ?_
      refine x_getf (pc := 25) dX6_argued_25 kf_X6_156 (by assumption) (by rfl) ?_
      refine x_iload_n (pc := 28) dX6_argued_28 rfl ?_
      refine x_cs2p (pc := 29) dX6_argued_29 ks_X6_106 (by omega) (by rfl) (by rfl) (by rfl) (c_at g1 (by omega) (by omega)) ?_
      refine x_iret (pc := 32) dX6_argued_32 rfl rfl ?_
      exact va_i ⟨by rw [agS, if_pos hb, g2 a ha, n_cl (by omega)], hx0, fun _ _ => rfl⟩
    · skip
      try first | rw [n_b0] at h_14 | rw [n_eq0 (by omega)] at h_14
      rw [hb] at h_14; exact absurd rfl h_14
theorem c_next {w : ax_W} {n : Nat} {T : List Nat} {C : Crt} {h : Hrg} {L K : List Hrg} (hx : isX w T C h L K) (ok : okX T C h L K) : Run m_X6_next 3 0 0 0 (l_ent m_X6_next [.ref 0]) [] w n (PX (nI (nxS C h)) T C h L K w n) := by
  have hx0 := hx
  obtain ⟨hX, hT, hR, hC, hD, hH, hP1, hP2, hV, hV2⟩ := hx
  obtain ⟨-, okC, okH, -⟩ := ok
  refine x_aload_n (pc := 0) dX6_next_0 rfl ?_
  refine x_getf (pc := 1) dX6_next_1 kf_X6_36 (by assumption) (by rfl) ?_
  refine x_aload_n (pc := 4) dX6_next_4 rfl ?_
  refine x_getf (pc := 5) dX6_next_5 kf_X6_26 (by assumption) (by rfl) ?_
  refine x_cv1p (ci := 1) (pc := 8) dX6_next_8 ks_X6_133 hH.1 (by rfl) (by omega) (by rfl) (by rfl) (by rfl) (c_open okC hH okH hC) ?_
  refine x_iret (pc := 11) dX6_next_11 rfl rfl ?_
  exact va_i ⟨rfl, hx0, fun _ _ => rfl⟩
def trS (C : Crt) (h : Hrg) (x : Int32) : Int32 := if x = nI 0 then nI (cosA C (fun i => h.1.getD i 0) h.1.length) else if x = nI 1 then nI (bN (enS C h)) else if x = nI 2 then nI (bN (suS C h)) else -1
theorem c_trial {w : ax_W} {n : Nat} {T : List Nat} {C : Crt} {h : Hrg} {L K : List Hrg} (hx : isX w T C h L K) (ok : okX T C h L K) (x : Int32) : Run m_X6_trial 4 0 0 0 (l_ent m_X6_trial [.ref 0, .int x]) [] w n (PX (trS C h x) T C h L K w n) := by
  have hx0 := hx
  obtain ⟨hX, hT, hR, hC, hD, hH, hP1, hP2, hV, hV2⟩ := hx
  obtain ⟨-, okC, okH, -⟩ := ok
  have hl := okH.len okC
  obtain ⟨hH1, f, g1, g2⟩ := id hH
  obtain ⟨hC1, -⟩ := id hC
  have hrow : ∀ j, j < h.1.length → f j = nI ((fun i => h.1.getD i 0) j) ∧ (fun i => h.1.getD i 0) j < cn C := fun j hj => ⟨g2 j hj, okH.at hj⟩
  refine x_iload_n (pc := 0) dX6_trial_0 rfl ?_
  rcases sw_cases x 3 (by decide) with ⟨i, hi, rfl⟩ | hout
  · rcases (by omega : i = 0 ∨ i = 1 ∨ i = 2) with rfl | rfl | rfl
    · refine x_tableIn (pc := 1) dX6_trial_1 (tgt := 28) (off := 27) (by decide +kernel) (by decide +kernel) (by decide +kernel) (by decide) ?_
      refine x_aload_n (pc := 28) dX6_trial_28 rfl ?_
      refine x_getf (pc := 29) dX6_trial_29 kf_X6_26 (by assumption) (by rfl) ?_
      refine x_aload_n (pc := 32) dX6_trial_32 rfl ?_
      refine x_getf (pc := 33) dX6_trial_33 kf_X6_36 (by assumption) (by rfl) ?_
      refine x_getf (pc := 36) dX6_trial_36 kf_X6_156 (by assumption) (by rfl) ?_
      refine x_aload_n (pc := 39) dX6_trial_39 rfl ?_
      refine x_getf (pc := 40) dX6_trial_40 kf_X6_36 (by assumption) (by rfl) ?_
      refine x_getf (pc := 43) dX6_trial_43 kf_X6_142 (by assumption) (by rfl) ?_
      refine x_cv2p (ci := 0) (pc := 46) dX6_trial_46 ks_X6_159 (by assumption) (by rfl) (by omega) (by rfl) (by rfl) (by rfl) (c_costOf hC okC g1 hl hrow) ?_
      refine x_iret (pc := 49) dX6_trial_49 rfl rfl ?_
      exact va_i ⟨by rw [trS, if_pos rfl], hx0, fun _ _ => rfl⟩
    · refine x_tableIn (pc := 1) dX6_trial_1 (tgt := 50) (off := 49) (by decide +kernel) (by decide +kernel) (by decide +kernel) (by decide) ?_
      refine x_aload_n (pc := 50) dX6_trial_50 rfl ?_
      refine x_getf (pc := 51) dX6_trial_51 kf_X6_36 (by assumption) (by rfl) ?_
      refine x_aload_n (pc := 54) dX6_trial_54 rfl ?_
      refine x_getf (pc := 55) dX6_trial_55 kf_X6_26 (by assumption) (by rfl) ?_
      refine x_cv1p (ci := 1) (pc := 58) dX6_trial_58 ks_X6_162 (by assumption) (by rfl) (by omega) (by rfl) (by rfl) (by rfl) (c_isEnded okC hH okH hC) ?_
      refine x_cs1p (pc := 61) dX6_trial_61 ks_X6_119 (by omega) (by rfl) (by rfl) (by rfl) (c_asNumber _) ?_
      refine x_iret (pc := 64) dX6_trial_64 rfl rfl ?_
      exact va_i ⟨by rw [trS, if_neg (by decide +kernel), if_pos rfl], hx0, fun _ _ => rfl⟩
    · refine x_tableIn (pc := 1) dX6_trial_1 (tgt := 65) (off := 64) (by decide +kernel) (by decide +kernel) (by decide +kernel) (by decide) ?_
      refine x_aload_n (pc := 65) dX6_trial_65 rfl ?_
      refine x_getf (pc := 66) dX6_trial_66 kf_X6_36 (by assumption) (by rfl) ?_
      refine x_aload_n (pc := 69) dX6_trial_69 rfl ?_
      refine x_getf (pc := 70) dX6_trial_70 kf_X6_26 (by assumption) (by rfl) ?_
      refine x_cv1p (ci := 1) (pc := 73) dX6_trial_73 ks_X6_166 (by assumption) (by rfl) (by omega) (by rfl) (by rfl) (by rfl) (c_isStuck okC hH okH hC) ?_
      refine x_cs1p (pc := 76) dX6_trial_76 ks_X6_119 (by omega) (by rfl) (by rfl) (by rfl) (c_asNumber _) ?_
      refine x_iret (pc := 79) dX6_trial_79 rfl rfl ?_
      exact va_i ⟨by rw [trS, if_neg (by decide +kernel), if_neg (by decide +kernel), if_pos rfl], hx0, fun _ _ => rfl⟩
  · refine x_tableOut (pc := 1) dX6_trial_1 (tgt := 80) hout (by decide) ?_
    refine x_iconst (pc := 80) dX6_trial_80 (v := -1) (by decide) ?_
    refine x_iret (pc := 81) dX6_trial_81 rfl rfl ?_
    exact va_i ⟨by rw [trS, if_neg (sw_ne hout (by decide) (by decide)), if_neg (sw_ne hout (by decide) (by decide)), if_neg (sw_ne hout (by decide) (by decide))], hx0, fun _ _ => rfl⟩
theorem c_keep {w : ax_W} {n : Nat} {T : List Nat} {C : Crt} {h : Hrg} {L K : List Hrg} (hx : isX w T C h L K) (ok : okX T C h L K) : Run m_X6_keep 4 0 0 0 (l_ent m_X6_keep [.ref 0]) [] w n (if K.length < 2 then PX (nI (K.length + 1)) T C h L (K ++ [h]) w n else PX (-3) T C h L K w n) := by
  have hx0 := hx
  obtain ⟨hX, hT, hR, hC, hD, hH, hP1, hP2, hV, hV2⟩ := hx
  obtain ⟨-, okC, okH, -⟩ := ok
  have hl := okH.len okC
  have hfr : ∀ j, 51 ≤ j → w j = w j := fun _ _ => rfl
  have hl2 : K.length ≤ 2 := hP2.choose_spec.2.2.2.2.1
  have hsh := hP2.choose_spec.2.1
  obtain ⟨hH1, -⟩ := id hH
  refine x_aload_n (pc := 0) dX6_keep_0 rfl ?_
  refine x_getf (pc := 1) dX6_keep_1 kf_X6_49 (by assumption) (by rfl) ?_
  refine x_getf (pc := 4) dX6_keep_4 kf_X6_155 (by assumption) (by rfl) ?_
  refine x_iconst (pc := 7) dX6_keep_7 (v := nI 2) (by decide) ?_
  refine x_icmp_lt (pc := 8) dX6_keep_8 (tgt := 14) (by decide) (fun h_8 => ?_) (fun h_8 => ?_)
  · skip
    try first | rw [n_b1] at h_8 | rw [n_b00] at h_8 | rw [n_lt (by omega) (by omega)] at h_8
    rw [if_pos h_8]
    have hsa : shA 2 K h = K ++ [h] := by rw [shA, if_neg (by omega)]
    refine x_aload_n (pc := 14) dX6_keep_14 rfl ?_
    refine x_getf (pc := 15) dX6_keep_15 kf_X6_49 (by assumption) (by rfl) ?_
    refine x_aload_n (pc := 18) dX6_keep_18 rfl ?_
    refine x_getf (pc := 19) dX6_keep_19 kf_X6_36 (by assumption) (by rfl) ?_
    refine x_cv1 (q1 := 0) (q2 := 0) (ci := 4) (pc := 22) dX6_keep_22 ks_X6_137 (by assumption) (by rfl) (by omega) (by rfl) (by rfl) (by rfl) (c_shelfAdd hP2 (Or.inl rfl) hH (by omega) (by omega)) (vo_kk fun w hP => ?_)
    obtain ⟨hP2, hq⟩ := hP
    rw [hsa] at hP2
    replace hX := (hq _ (by omega)).trans hX
    replace hT := hT.go fun j q1 q2 => hq j (by omega)
    replace hR := hR.go fun j q1 q2 => hq j (by omega)
    replace hC := hC.go fun j q1 q2 => hq j (by omega)
    replace hD := hD.go fun j q1 q2 => hq j (by omega)
    replace hH := hH.go fun j q1 q2 => hq j (by omega)
    replace hP1 := hP1.go fun j q1 q2 => hq j (by omega)
    replace hV := hV.go fun j q1 q2 => hq j (by omega)
    replace hV2 := hV2.go fun j q1 q2 => hq j (by omega)
    replace hfr := fun j (hj : 51 ≤ j) => (hq j (by omega)).trans (hfr j hj)
    clear hq
    refine x_aload_n (pc := 25) dX6_keep_25 rfl ?_
    refine x_getf (pc := 26) dX6_keep_26 kf_X6_49 (by assumption) (by rfl) ?_
    refine x_getf (pc := 29) dX6_keep_29 kf_X6_155 hP2.choose_spec.2.1 (by rfl) ?_
    refine x_iret (pc := 32) dX6_keep_32 rfl rfl ?_
    exact va_i ⟨by simp, ⟨hX, hT, hR, hC, hD, hH, hP1, hP2, hV, hV2⟩, hfr⟩
  · skip
    try first | rw [n_b1] at h_8 | rw [n_b00] at h_8 | rw [n_lt (by omega) (by omega)] at h_8
    rw [if_neg (by omega)]
    refine x_bipush (pc := 11) dX6_keep_11 (v := -3) (by decide) ?_
    refine x_iret (pc := 13) dX6_keep_13 rfl rfl ?_
    exact va_i ⟨rfl, hx0, fun _ _ => rfl⟩
theorem okX_keep {T : List Nat} {C : Crt} {h : Hrg} {L K : List Hrg} (ok : okX T C h L K) : okX T C h L (K ++ [h]) := ⟨ok.1, ok.2.1, ok.2.2.1, ok.2.2.2.1, fun x hx => (List.mem_append.mp hx).elim (ok.2.2.2.2 x) (fun q => by rw [List.mem_singleton.mp q]; exact ok.2.2.1)⟩
theorem c_back {w : ax_W} {n : Nat} {T : List Nat} {C : Crt} {h : Hrg} {L K : List Hrg} (hx : isX w T C h L K) (ok : okX T C h L K) : Run m_X6_back 4 0 0 0 (l_ent m_X6_back [.ref 0]) [] w n (if 0 < K.length then PX (nI (K.length - 1)) T C (K.getD (K.length - 1) noH) [] K.dropLast w n else PX (-2) T C h L K w n) := by
  obtain ⟨hX, hT, hR, hC, hD, hH, hP1, hP2, hV, hV2⟩ := hx
  obtain ⟨-, okC, okH, -, okK⟩ := ok
  obtain ⟨hH1, -⟩ := id hH
  have hfr : ∀ j, 51 ≤ j → w j = w j := fun _ _ => rfl
  have hsh := hP2.choose_spec.2.1
  refine x_aload_n (pc := 0) dX6_back_0 rfl ?_
  refine x_getf (pc := 1) dX6_back_1 kf_X6_49 (by assumption) (by rfl) ?_
  refine x_aload_n (pc := 4) dX6_back_4 rfl ?_
  refine x_getf (pc := 5) dX6_back_5 kf_X6_36 (by assumption) (by rfl) ?_
  refine x_cv1 (q1 := 0) (q2 := 0) (ci := 4) (pc := 8) dX6_back_8 ks_X6_151 (by assumption) (by rfl) (by omega) (by rfl) (by rfl) (by rfl) (c_takeLatest hP2 (Or.inl rfl) hH (fun x hx => (okK x hx).len okC) (by omega)) (va_kk fun v w hP => ?_)
  obtain ⟨rfl, hP2, hH, hq'⟩ := hP
  have hq : ∀ j, (j < 37 ∨ 43 ≤ j) ∧ (j < 17 ∨ 19 ≤ j) → w j = _ := fun j hj => hq' j hj.1 hj.2
  replace hX := (hq _ (by omega)).trans hX
  replace hT := hT.go fun j q1 q2 => hq j (by omega)
  replace hR := hR.go fun j q1 q2 => hq j (by omega)
  replace hC := hC.go fun j q1 q2 => hq j (by omega)
  replace hD := hD.go fun j q1 q2 => hq j (by omega)
  replace hP1 := hP1.go fun j q1 q2 => hq j (by omega)
  replace hV := hV.go fun j q1 q2 => hq j (by omega)
  replace hV2 := hV2.go fun j q1 q2 => hq j (by omega)
  replace hfr := fun j (hj : 51 ≤ j) => (hq j (by omega)).trans (hfr j hj)
  clear hq
  refine x_if_ne (pc := 11) dX6_back_11 (tgt := 17) (by decide) (fun h_11 => ?_) (fun h_11 => ?_)
  · skip
    try first | rw [n_b0] at h_11 | rw [n_eq0 (by omega)] at h_11
    simp only [Bool.not_eq_false, decide_eq_true_eq] at h_11
    rw [if_pos h_11] at hH ⊢
    have hsh := hP1.choose_spec.2.1
    refine x_aload_n (pc := 17) dX6_back_17 rfl ?_
    refine x_getf (pc := 18) dX6_back_18 kf_X6_45 (by assumption) (by rfl) ?_
    refine x_cv0 (q1 := 0) (q2 := 0) (ci := 4) (pc := 21) dX6_back_21 ks_X6_95 (by assumption) (by rfl) (by omega) (by rfl) (by rfl) (by rfl) (c_shelfClear hP1) (vo_kk fun w hP => ?_)
    obtain ⟨hP1, hq⟩ := hP
    replace hX := (hq _ (by omega)).trans hX
    replace hT := hT.go fun j q1 q2 => hq j (by omega)
    replace hR := hR.go fun j q1 q2 => hq j (by omega)
    replace hC := hC.go fun j q1 q2 => hq j (by omega)
    replace hD := hD.go fun j q1 q2 => hq j (by omega)
    replace hH := hH.go fun j q1 q2 => hq j (by omega)
    replace hP2 := hP2.go fun j q1 q2 => hq j (by omega)
    replace hV := hV.go fun j q1 q2 => hq j (by omega)
    replace hV2 := hV2.go fun j q1 q2 => hq j (by omega)
    replace hfr := fun j (hj : 51 ≤ j) => (hq j (by omega)).trans (hfr j hj)
    clear hq
    refine x_aload_n (pc := 24) dX6_back_24 rfl ?_
    refine x_getf (pc := 25) dX6_back_25 kf_X6_49 (by assumption) (by rfl) ?_
    refine x_getf (pc := 28) dX6_back_28 kf_X6_155 hP2.choose_spec.2.1 (by rfl) ?_
    refine x_iret (pc := 31) dX6_back_31 rfl rfl ?_
    exact va_i ⟨by simp, ⟨hX, hT, hR, hC, hD, hH, hP1, hP2, hV, hV2⟩, hfr⟩
  · replace h_11 := Classical.not_not.mp h_11
    try first | rw [n_b0] at h_11 | rw [n_eq0 (by omega)] at h_11
    simp only [decide_eq_false_iff_not] at h_11
    rw [if_neg h_11] at hH ⊢
    have hL : K = [] := List.length_eq_zero_iff.mp (by omega)
    subst hL
    refine x_bipush (pc := 14) dX6_back_14 (v := -2) (by decide) ?_
    refine x_iret (pc := 16) dX6_back_16 rfl rfl ?_
    exact va_i ⟨rfl, ⟨hX, hT, hR, hC, hD, hH, hP1, hP2, hV, hV2⟩, hfr⟩
theorem okX_back {T : List Nat} {C : Crt} {h : Hrg} {L K : List Hrg} (ok : okX T C h L K) (hl : 0 < K.length) : okX T C (K.getD (K.length - 1) noH) [] K.dropLast := ⟨ok.1, ok.2.1, ok.2.2.2.2 _ (getD_memH (by omega)), fun x hx => (by cases hx), fun x hx => ok.2.2.2.2 x (by rw [List.dropLast_eq_take] at hx; exact List.mem_of_mem_take hx)⟩
def ctS (T : List Nat) (C : Crt) (h : Hrg) (L K : List Hrg) (x : Int32) : Int32 := if x = nI 0 then nI (cn C) else if x = nI 1 then nI (cnt (vd C) 10) else if x = nI 2 then nI (np C) else if x = nI 3 then nI h.1.length else if x = nI 4 then nI (cnt h.2 10) else if x = nI 5 then nI L.length else if x = nI 6 then nI K.length else if x = nI 7 then nI T.length else -1
theorem c_count {w : ax_W} {n : Nat} {T : List Nat} {C : Crt} {h : Hrg} {L K : List Hrg} (hx : isX w T C h L K) (ok : okX T C h L K) (x : Int32) : Run m_X6_count 1 0 0 0 (l_ent m_X6_count [.ref 0, .int x]) [] w n (PX (ctS T C h L K x) T C h L K w n) := by
  have hx0 := hx
  obtain ⟨hX, hT, hR, hC, hD, hH, hP1, hP2, hV, hV2⟩ := hx
  obtain ⟨-, okC, okH, -⟩ := ok
  have hvd := okC.vd
  have hsk := okH.sk okC
  obtain ⟨hH1, -⟩ := id hH
  obtain ⟨hC1, -⟩ := id hC
  obtain ⟨hT1, -⟩ := id hT
  have hs1 := hP1.choose_spec.2.1
  have hs2 := hP2.choose_spec.2.1
  refine x_iload_n (pc := 0) dX6_count_0 rfl ?_
  rcases sw_cases x 8 (by decide) with ⟨i, hi, rfl⟩ | hout
  · rcases (by omega : i = 0 ∨ i = 1 ∨ i = 2 ∨ i = 3 ∨ i = 4 ∨ i = 5 ∨ i = 6 ∨ i = 7) with rfl | rfl | rfl | rfl | rfl | rfl | rfl | rfl
    · refine x_tableIn (pc := 1) dX6_count_1 (tgt := 48) (off := 47) (by decide +kernel) (by decide +kernel) (by decide +kernel) (by decide) ?_
      refine x_aload_n (pc := 48) dX6_count_48 rfl ?_
      refine x_getf (pc := 49) dX6_count_49 kf_X6_26 (by assumption) (by rfl) ?_
      refine x_getf (pc := 52) dX6_count_52 kf_X6_96 (by assumption) (by rfl) ?_
      refine x_iret (pc := 55) dX6_count_55 rfl rfl ?_
      exact va_i ⟨by rw [ctS, if_pos rfl], hx0, fun _ _ => rfl⟩
    · refine x_tableIn (pc := 1) dX6_count_1 (tgt := 56) (off := 55) (by decide +kernel) (by decide +kernel) (by decide +kernel) (by decide) ?_
      refine x_aload_n (pc := 56) dX6_count_56 rfl ?_
      refine x_getf (pc := 57) dX6_count_57 kf_X6_26 (by assumption) (by rfl) ?_
      refine x_getf (pc := 60) dX6_count_60 kf_X6_87 (by assumption) (by rfl) ?_
      refine x_cs1p (pc := 63) dX6_count_63 ks_X6_215 (by omega) (by rfl) (by rfl) (by rfl) (c_bitCount (by omega)) ?_
      refine x_iret (pc := 66) dX6_count_66 rfl rfl ?_
      exact va_i ⟨by rw [ctS, if_neg (by decide +kernel), if_pos rfl], hx0, fun _ _ => rfl⟩
    · refine x_tableIn (pc := 1) dX6_count_1 (tgt := 67) (off := 66) (by decide +kernel) (by decide +kernel) (by decide +kernel) (by decide) ?_
      refine x_aload_n (pc := 67) dX6_count_67 rfl ?_
      refine x_getf (pc := 68) dX6_count_68 kf_X6_26 (by assumption) (by rfl) ?_
      refine x_getf (pc := 71) dX6_count_71 kf_X6_237 (by assumption) (by rfl) ?_
      refine x_iret (pc := 74) dX6_count_74 rfl rfl ?_
      exact va_i ⟨by rw [ctS, if_neg (by decide +kernel), if_neg (by decide +kernel), if_pos rfl], hx0, fun _ _ => rfl⟩
    · refine x_tableIn (pc := 1) dX6_count_1 (tgt := 75) (off := 74) (by decide +kernel) (by decide +kernel) (by decide +kernel) (by decide) ?_
      refine x_aload_n (pc := 75) dX6_count_75 rfl ?_
      refine x_getf (pc := 76) dX6_count_76 kf_X6_36 (by assumption) (by rfl) ?_
      refine x_getf (pc := 79) dX6_count_79 kf_X6_142 (by assumption) (by rfl) ?_
      refine x_iret (pc := 82) dX6_count_82 rfl rfl ?_
      exact va_i ⟨by rw [ctS, if_neg (by decide +kernel), if_neg (by decide +kernel), if_neg (by decide +kernel), if_pos rfl], hx0, fun _ _ => rfl⟩
    · refine x_tableIn (pc := 1) dX6_count_1 (tgt := 83) (off := 82) (by decide +kernel) (by decide +kernel) (by decide +kernel) (by decide) ?_
      refine x_aload_n (pc := 83) dX6_count_83 rfl ?_
      refine x_getf (pc := 84) dX6_count_84 kf_X6_36 (by assumption) (by rfl) ?_
      refine x_getf (pc := 87) dX6_count_87 kf_X6_126 (by assumption) (by rfl) ?_
      refine x_cs1p (pc := 90) dX6_count_90 ks_X6_215 (by omega) (by rfl) (by rfl) (by rfl) (c_bitCount (by omega)) ?_
      refine x_iret (pc := 93) dX6_count_93 rfl rfl ?_
      exact va_i ⟨by rw [ctS, if_neg (by decide +kernel), if_neg (by decide +kernel), if_neg (by decide +kernel), if_neg (by decide +kernel), if_pos rfl], hx0, fun _ _ => rfl⟩
    · refine x_tableIn (pc := 1) dX6_count_1 (tgt := 94) (off := 93) (by decide +kernel) (by decide +kernel) (by decide +kernel) (by decide) ?_
      refine x_aload_n (pc := 94) dX6_count_94 rfl ?_
      refine x_getf (pc := 95) dX6_count_95 kf_X6_45 (by assumption) (by rfl) ?_
      refine x_getf (pc := 98) dX6_count_98 kf_X6_155 (by assumption) (by rfl) ?_
      refine x_iret (pc := 101) dX6_count_101 rfl rfl ?_
      exact va_i ⟨by rw [ctS, if_neg (by decide +kernel), if_neg (by decide +kernel), if_neg (by decide +kernel), if_neg (by decide +kernel), if_neg (by decide +kernel), if_pos rfl], hx0, fun _ _ => rfl⟩
    · refine x_tableIn (pc := 1) dX6_count_1 (tgt := 102) (off := 101) (by decide +kernel) (by decide +kernel) (by decide +kernel) (by decide) ?_
      refine x_aload_n (pc := 102) dX6_count_102 rfl ?_
      refine x_getf (pc := 103) dX6_count_103 kf_X6_49 (by assumption) (by rfl) ?_
      refine x_getf (pc := 106) dX6_count_106 kf_X6_155 (by assumption) (by rfl) ?_
      refine x_iret (pc := 109) dX6_count_109 rfl rfl ?_
      exact va_i ⟨by rw [ctS, if_neg (by decide +kernel), if_neg (by decide +kernel), if_neg (by decide +kernel), if_neg (by decide +kernel), if_neg (by decide +kernel), if_neg (by decide +kernel), if_pos rfl], hx0, fun _ _ => rfl⟩
    · refine x_tableIn (pc := 1) dX6_count_1 (tgt := 110) (off := 109) (by decide +kernel) (by decide +kernel) (by decide +kernel) (by decide) ?_
      refine x_aload_n (pc := 110) dX6_count_110 rfl ?_
      refine x_getf (pc := 111) dX6_count_111 kf_X6_10 (by assumption) (by rfl) ?_
      refine x_getf (pc := 114) dX6_count_114 kf_X6_83 (by assumption) (by rfl) ?_
      refine x_iret (pc := 117) dX6_count_117 rfl rfl ?_
      exact va_i ⟨by rw [ctS, if_neg (by decide +kernel), if_neg (by decide +kernel), if_neg (by decide +kernel), if_neg (by decide +kernel), if_neg (by decide +kernel), if_neg (by decide +kernel), if_neg (by decide +kernel), if_pos rfl], hx0, fun _ _ => rfl⟩
  · refine x_tableOut (pc := 1) dX6_count_1 (tgt := 118) hout (by decide) ?_
    refine x_iconst (pc := 118) dX6_count_118 (v := -1) (by decide) ?_
    refine x_iret (pc := 119) dX6_count_119 rfl rfl ?_
    exact va_i ⟨by rw [ctS, if_neg (sw_ne hout (by decide) (by decide)), if_neg (sw_ne hout (by decide) (by decide)), if_neg (sw_ne hout (by decide) (by decide)), if_neg (sw_ne hout (by decide) (by decide)), if_neg (sw_ne hout (by decide) (by decide)), if_neg (sw_ne hout (by decide) (by decide)), if_neg (sw_ne hout (by decide) (by decide)), if_neg (sw_ne hout (by decide) (by decide))], hx0, fun _ _ => rfl⟩
