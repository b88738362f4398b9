/-! people, chances, trials by draws, as the reference finds them -/
theorem bits_ne {x : Nat} (h : x ≠ 0) : ∃ i, x.testBit i = true := by
  refine Classical.byContradiction fun q => h (Nat.eq_of_testBit_eq fun i => ?_)
  rw [Nat.zero_testBit]
  cases hb : x.testBit i with
  | false => rfl
  | true => exact absurd ⟨i, hb⟩ q
theorem ftF_bit (C : Crt) (en p : Nat) : ∀ k, (ftF C en k).testBit p = true ↔ ∃ a, a < k ∧ en.testBit a = true ∧ p < np C ∧ (de C p).testBit a = true
  | 0 => by simp [ftF]
  | k + 1 => by
    have ih := ftF_bit C en p k
    have hw : (whoS C k).testBit p = true ↔ p < np C ∧ (de C p).testBit k = true := by
      unfold whoS
      rw [mkM_bit]
      simp
    rw [ftF]
    by_cases hb : en.testBit k = true
    · rw [if_pos hb, Nat.testBit_or, Bool.or_eq_true, ih, hw]
      constructor
      · rintro (⟨a, h1, h2⟩ | h2)
        · exact ⟨a, by omega, h2⟩
        · exact ⟨k, by omega, hb, h2⟩
      · rintro ⟨a, h1, h2, h3⟩
        by_cases hak : a = k
        · subst hak; exact Or.inr h3
        · exact Or.inl ⟨a, by omega, h2, h3⟩
    · rw [if_neg hb, ih]
      constructor
      · rintro ⟨a, h1, h2⟩
        exact ⟨a, by omega, h2⟩
      · rintro ⟨a, h1, h2, h3⟩
        have hak : a ≠ k := fun q => hb (q ▸ h2)
        exact ⟨a, by omega, h2, h3⟩
theorem ftF_mk {C : Crt} (okc : okC C) {en : Nat} (hen : en < 1024) : mkM (fun p => decide (de C p &&& en ≠ 0)) (np C) = ftF C en 10 := by
  refine Nat.eq_of_testBit_eq fun p => Bool.eq_iff_iff.mpr ?_
  rw [mkM_bit, ftF_bit, Bool.and_eq_true, decide_eq_true_iff, decide_eq_true_iff]
  constructor
  · rintro ⟨h1, h2⟩
    obtain ⟨i, hi⟩ := bits_ne h2
    rw [Nat.testBit_and, Bool.and_eq_true] at hi
    exact ⟨i, bit_in (n := 10) hen hi.2, hi.2, h1, hi.1⟩
  · rintro ⟨a, -, h2, h3, h4⟩
    refine ⟨h3, fun q => ?_⟩
    have : (de C p &&& en).testBit a = true := by rw [Nat.testBit_and, h2, h4]; rfl
    rw [q, Nat.zero_testBit] at this
    cases this
theorem m_fitting {w : ax_W} {n : Nat} {T : List Nat} {C : Crt} {h : Hrg} {L K : List Hrg} (hm : isM w T C h L K) (ok : okX T C h L K) {v : Nat} (hv : v < cn C) : Run m_X7_fitting 4 0 0 0 (l_ent m_X7_fitting [.ref 51, .int (nI v)]) [] w n (Va (fun r w' => r = .int (nI (fitS C h v)) ∧ isM w' T C h L K ∧ same50 w w') n) := by
  have hm0 := hm
  have okc := ok.2.1
  have hn := okc.1
  have hsk := ok.2.2.1.sk okc
  obtain ⟨a0, s0, r0, D0, q1, q2, q3, hK, -, hC, -⟩ := id hm
  have hp := pow_10 (show v < 10 by omega)
  have hp5 := okc.2.1
  have henl := Nat.lt_of_lt_of_le (z_en_lt okc (sk := h.2) hv) okc.lt
  unfold fitS
  generalize hen : v_en (surZ C h.2 v) = en
  rw [hen] at henl
  have hze := z_en C h.2 v
  rw [hen] at hze
  have loop : ∀ (w1 : ax_W), isM w1 T C h L K → same50 w w1 → ∀ m p, p + m = np C → Run m_X7_fitting 4 0 0 27 [some (.ref 51), some (.int (nI v)), some (.int (nI en)), some (.int (nI (mkM (fun p => decide (de C p &&& en ≠ 0)) p))), some (.int (nI p))] [] w1 n (Va (fun r w' => r = .int (nI (ftF C en 10)) ∧ isM w' T C h L K ∧ same50 w w') n) := by
    intro w1 hm1 hq
    obtain ⟨ty, at_, so, un, ke, rl, f, -, hK, hR, -⟩ := hm1.op
    obtain ⟨fm, fk, fc, fds, fh, fv, fp, fd, h53, h54, h55, h56, h57, h58, h59, h60, e1, e2, e3, e4, e5⟩ := id hR
    intro m
    induction m with
    | zero =>
      intro p hp
      have hpp : p = np C := by omega
      subst hpp
      refine x_iload (pc := 27) dX7_fitting_27 rfl ?_
      refine x_aload_n (pc := 29) dX7_fitting_29 rfl ?_
      refine x_getf (pc := 30) dX7_fitting_30 kf_X7_32 (by assumption) (by rfl) ?_
      refine x_iconst (pc := 33) dX7_fitting_33 (v := nI 0) (by decide) ?_
      refine xn_iald (pc := 34) dX7_fitting_34 (by assumption) (by first | omega | assumption) (by rfl) ?_
      rw [e3]
      refine x_icmp_ge_t (pc := 35) dX7_fitting_35 (tgt := 67) (by decide) (nI_le (by omega) (by omega)) ?_
      refine x_iload_n (pc := 67) dX7_fitting_67 rfl ?_
      refine x_iret (pc := 68) dX7_fitting_68 rfl rfl ?_
      exact va_i ⟨by rw [ftF_mk okc henl], hm1, hq⟩
    | succ m ih =>
      intro p hp
      have hd := okc.de (show p < np C by omega)
      have hle : de C p &&& en < 1024 := Nat.lt_of_le_of_lt Nat.and_le_left hd
      refine x_iload (pc := 27) dX7_fitting_27 rfl ?_
      refine x_aload_n (pc := 29) dX7_fitting_29 rfl ?_
      refine x_getf (pc := 30) dX7_fitting_30 kf_X7_32 (by assumption) (by rfl) ?_
      refine x_iconst (pc := 33) dX7_fitting_33 (v := nI 0) (by decide) ?_
      refine xn_iald (pc := 34) dX7_fitting_34 (by assumption) (by first | omega | assumption) (by rfl) ?_
      rw [e3]
      refine x_icmp_ge_f (pc := 35) dX7_fitting_35 (tgt := 67) (by decide) (nI_ge (by omega) (by omega)) ?_
      refine x_iload_n (pc := 38) dX7_fitting_38 rfl ?_
      refine x_aload_n (pc := 39) dX7_fitting_39 rfl ?_
      refine x_getf (pc := 40) dX7_fitting_40 kf_X7_35 (by assumption) (by rfl) ?_
      refine x_iload (pc := 43) dX7_fitting_43 rfl ?_
      refine xn_iald (pc := 45) dX7_fitting_45 (by assumption) (by first | omega | assumption) (by rfl) ?_
      rw [e5 p (by omega)]
      refine x_iload_n (pc := 46) dX7_fitting_46 rfl ?_
      refine xn_iand (pc := 47) dX7_fitting_47 ?_
      refine x_if_eq (pc := 48) dX7_fitting_48 (tgt := 58) (by decide) (fun h_48 => ?_) (fun h_48 => ?_)
      · skip
        try first | rw [n_b0] at h_48 | rw [n_eq0 (by omega)] at h_48
        have hs : mkM (fun p => decide (de C p &&& en ≠ 0)) (p + 1) = mkM (fun p => decide (de C p &&& en ≠ 0)) p ||| 0 := by simp [mkM, h_48]
        refine x_iconst (pc := 58) dX7_fitting_58 (v := nI 0) (by decide) ?_
        first | refine xn_ior (pc := 59) dX7_fitting_59 ?_ | refine x_ior (pc := 59) dX7_fitting_59 ?_
        refine x_istore_n (pc := 60) dX7_fitting_60 rfl ?_
        refine xn_iinc (pc := 61) dX7_fitting_61 rfl rfl ?_
        refine x_goto (pc := 64) dX7_fitting_64 (tgt := 27) (by decide) ?_
        exact (by rw [← hs]; exact ih (p + 1) (by omega))
      · skip
        try first | rw [n_b0] at h_48 | rw [n_eq0 (by omega)] at h_48
        have hs : mkM (fun p => decide (de C p &&& en ≠ 0)) (p + 1) = mkM (fun p => decide (de C p &&& en ≠ 0)) p ||| 2 ^ p := by simp [mkM, h_48]
        refine x_iconst (pc := 51) dX7_fitting_51 (v := nI 1) (by decide) ?_
        refine x_iload (pc := 52) dX7_fitting_52 rfl ?_
        first | refine xn_shl1 (pc := 54) dX7_fitting_54 (by omega) ?_ | refine xn_ishl (pc := 54) dX7_fitting_54 (by omega) (by omega) ?_ | refine x_ishl (pc := 54) dX7_fitting_54 ?_
        refine x_goto (pc := 55) dX7_fitting_55 (tgt := 59) (by decide) ?_
        first | refine xn_ior (pc := 59) dX7_fitting_59 ?_ | refine x_ior (pc := 59) dX7_fitting_59 ?_
        refine x_istore_n (pc := 60) dX7_fitting_60 rfl ?_
        refine xn_iinc (pc := 61) dX7_fitting_61 rfl rfl ?_
        refine x_goto (pc := 64) dX7_fitting_64 (tgt := 27) (by decide) ?_
        exact (by rw [← hs]; exact ih (p + 1) (by omega))
  refine x_aload_n (pc := 0) dX7_fitting_0 rfl ?_
  refine x_iload_n (pc := 1) dX7_fitting_1 rfl ?_
  refine x_cv1 (q1 := 0) (q2 := 0) (ci := 7) (pc := 2) dX7_fitting_2 ks_X7_170 (by assumption) (by rfl) (by omega) (by rfl) (by rfl) (by rfl) (m_hasWhole hm ok hv) (va_kk fun v w hP => ?_)
  obtain ⟨rfl, hm', ⟨F, hS⟩, hq⟩ := hP
  obtain ⟨ty', at', so', un', ke', rl', f', -, hK', hC', -⟩ := hm'.op
  obtain ⟨t0, t1, t2, t3, t4, t5, t6, t7, t8⟩ := hS.row okc hv
  obtain ⟨h62, h63, h64, h65, h66, h67, h68, h69, h70⟩ := id hS.1
  refine x_if_eq (pc := 5) dX7_fitting_5 (tgt := 20) (by decide) (fun h_5 => ?_) (fun h_5 => ?_)
  · skip
    try first | rw [n_b0] at h_5 | rw [n_eq0 (by omega)] at h_5
    have ee : 0 = en := by rw [hze, h_5, if_neg (by decide)]
    refine x_iconst (pc := 20) dX7_fitting_20 (v := nI 0) (by decide) ?_
    refine Run.top (v' := .int (nI en)) (by rw [← ee]) ?_
    refine x_istore_n (pc := 21) dX7_fitting_21 rfl ?_
    refine x_iconst (pc := 22) dX7_fitting_22 (v := nI 0) (by decide) ?_
    refine x_istore_n (pc := 23) dX7_fitting_23 rfl ?_
    refine x_iconst (pc := 24) dX7_fitting_24 (v := nI 0) (by decide) ?_
    refine x_istore (pc := 25) dX7_fitting_25 rfl ?_
    exact loop _ hm' hq (np C) 0 (by omega)
  · skip
    try first | rw [n_b0] at h_5 | rw [n_eq0 (by omega)] at h_5
    simp only [Bool.not_eq_false] at h_5
    have ee : endM v (P9 C none h.2 v) = en := by rw [hze, h_5, if_pos rfl]
    refine x_aload_n (pc := 8) dX7_fitting_8 rfl ?_
    refine x_getf (pc := 9) dX7_fitting_9 kf_X7_62 (by assumption) (by rfl) ?_
    refine x_iload_n (pc := 12) dX7_fitting_12 rfl ?_
    refine x_cs1p (pc := 13) dX7_fitting_13 ks_X7_164 (by omega) (by rfl) (by rfl) (by rfl) (m_rowOf (by omega)) ?_
    refine xn_iald (pc := 16) dX7_fitting_16 (by assumption) (by first | omega | assumption) (by rfl) ?_
    rw [t7]
    refine x_goto (pc := 17) dX7_fitting_17 (tgt := 21) (by decide) ?_
    refine Run.top (v' := .int (nI en)) (by rw [← ee]) ?_
    refine x_istore_n (pc := 21) dX7_fitting_21 rfl ?_
    refine x_iconst (pc := 22) dX7_fitting_22 (v := nI 0) (by decide) ?_
    refine x_istore_n (pc := 23) dX7_fitting_23 rfl ?_
    refine x_iconst (pc := 24) dX7_fitting_24 (v := nI 0) (by decide) ?_
    refine x_istore (pc := 25) dX7_fitting_25 rfl ?_
    exact loop _ hm' hq (np C) 0 (by omega)
theorem m_fits {w : ax_W} {n : Nat} {T : List Nat} {C : Crt} {h : Hrg} {L K : List Hrg} (hm : isM w T C h L K) (ok : okX T C h L K) (x : Int32) : Run m_X7_fits 5 0 0 0 (l_ent m_X7_fits [.ref 51, .int x]) [] w n (PM (fiS C h x) T C h L K w n) := by
  have hm0 := hm
  have okc := ok.2.1
  have hn := okc.1
  have hsk := ok.2.2.1.sk okc
  obtain ⟨a0, s0, r0, D0, q1, q2, q3, hK, -, hC, -⟩ := id hm
  rcases vtB_cases okc x with hb | ⟨v, hv, rfl, hb⟩
  · refine x_aload_n (pc := 0) dX7_fits_0 rfl ?_
    refine x_iload_n (pc := 1) dX7_fits_1 rfl ?_
    refine x_cv1p (ci := 7) (pc := 2) dX7_fits_2 ks_X7_167 (by assumption) (by rfl) (by omega) (by rfl) (by rfl) (by rfl) (c_m_isVerdict okc hK hC _) ?_
    refine x_if_eq (pc := 5) dX7_fits_5 (tgt := 16) (by decide) (fun h_5 => ?_) (fun h_5 => ?_)
    · skip
      try first | rw [n_b0] at h_5 | rw [n_eq0 (by omega)] at h_5
      refine x_iconst (pc := 16) dX7_fits_16 (v := -1) (by decide) ?_
      refine x_iret (pc := 17) dX7_fits_17 rfl rfl ?_
      exact va_i ⟨by rw [fiS, if_neg (by rw [hb]; decide)], hm0, fun _ _ => rfl⟩
    · skip
      try first | rw [n_b0] at h_5 | rw [n_eq0 (by omega)] at h_5
      exact absurd hb h_5
  · have hcl : (nI v).toNatClampNeg = v := n_cl (by omega)
    refine x_aload_n (pc := 0) dX7_fits_0 rfl ?_
    refine x_iload_n (pc := 1) dX7_fits_1 rfl ?_
    refine x_cv1p (ci := 7) (pc := 2) dX7_fits_2 ks_X7_167 (by assumption) (by rfl) (by omega) (by rfl) (by rfl) (by rfl) (c_m_isVerdict okc hK hC _) ?_
    refine x_if_eq (pc := 5) dX7_fits_5 (tgt := 16) (by decide) (fun h_5 => ?_) (fun h_5 => ?_)
    · skip
      try first | rw [n_b0] at h_5 | rw [n_eq0 (by omega)] at h_5
      rw [hb] at h_5; cases h_5
    · skip
      try first | rw [n_b0] at h_5 | rw [n_eq0 (by omega)] at h_5
      refine x_aload_n (pc := 8) dX7_fits_8 rfl ?_
      refine x_iload_n (pc := 9) dX7_fits_9 rfl ?_
      refine x_cv1 (q1 := 0) (q2 := 0) (ci := 7) (pc := 10) dX7_fits_10 ks_X7_182 (by assumption) (by rfl) (by omega) (by rfl) (by rfl) (by rfl) (m_fitting hm ok hv) (va_kk fun v w hP => ?_)
      obtain ⟨rfl, hm', hq⟩ := hP
      refine x_goto (pc := 13) dX7_fits_13 (tgt := 17) (by decide) ?_
      refine x_iret (pc := 17) dX7_fits_17 rfl rfl ?_
      exact va_i ⟨by rw [fiS, if_pos hb, hcl], hm', hq⟩
theorem lkF_end {C : Crt} {en k : Nat} (h : en < 2 ^ k) : ∀ j, lkF C en (k + j) = lkF C en k
  | 0 => rfl
  | j + 1 => by
    rw [show k + (j + 1) = k + j + 1 by omega, lkF, if_neg (by rw [bit_lt h (by omega)]; decide), lkF_end h j]
theorem m_look {w : ax_W} {n : Nat} {T : List Nat} {C : Crt} {h : Hrg} {L K : List Hrg} (hm : isM w T C h L K) (ok : okX T C h L K) (x y : Int32) : Run m_X7_look 4 0 0 0 (l_ent m_X7_look [.ref 51, .int x, .int y]) [] w n (PM (loS C h x y) T C h L K w n) := by
  have hm0 := hm
  have okc := ok.2.1
  have hn := okc.1
  have hsk := ok.2.2.1.sk okc
  obtain ⟨a0, s0, r0, D0, q1, q2, q3, hK, -, hC, -⟩ := id hm
  by_cases hbad : vtB C x = true ∧ y01 y = true
  · obtain ⟨hx, hy⟩ := hbad
    rcases vtB_cases okc x with hb' | ⟨v, hv, rfl, -⟩
    · rw [hx] at hb'; cases hb'
    have hcl : (nI v).toNatClampNeg = v := n_cl (by omega)
    have hp := pow_10 (show v < 10 by omega)
    have henl := z_en_lt okc (sk := h.2) hv
    have hze := z_en C h.2 v
    have hans : loS C h (nI v) y = if y = nI 0 then o1I (lkF C (v_en (surZ C h.2 v)) 10) else o2I (lkF C (v_en (surZ C h.2 v)) 10) := by rw [loS, if_pos ⟨hx, hy⟩, hcl]
    revert henl hze hans
    generalize v_en (surZ C h.2 v) = en
    intro henl hze hans
    have henl2 := Nat.lt_of_lt_of_le henl okc.lt
    have h10 : lkF C en 10 = lkF C en (cn C) := by
      have := lkF_end (C := C) henl (10 - cn C)
      rw [show cn C + (10 - cn C) = 10 by omega] at this
      exact this
    rw [h10] at hans
    have loop : ∀ (w1 : ax_W), isM w1 T C h L K → same50 w w1 → ∀ m j (z7 : Option Value), j + m = cn C → Run m_X7_look 4 0 0 52 [some (.ref 51), some (.int (nI v)), some (.int y), some (.int (nI en)), some (.int (o1I (lkF C en j))), some (.int (o2I (lkF C en j))), some (.int (nI j)), z7] [] w1 n (PM (loS C h (nI v) y) T C h L K w n) := by
      intro w1 hm1 hq
      obtain ⟨ty, at_, so, un, ke, rl, f, -, hK, hR, -⟩ := hm1.op
      obtain ⟨fm, fk, fc, fds, fh, fv, fp, fd, h53, h54, h55, h56, h57, h58, h59, h60, e1, e2, e3, e4, e5⟩ := id hR
      intro m
      induction m with
      | zero =>
        intro j z7 hj
        have hjj : j = cn C := by omega
        subst hjj
        rcases (of_decide_eq_true hy : y = nI 0 ∨ y = nI 1) with rfl | rfl
        · rw [if_pos rfl] at hans
          refine x_iload (pc := 52) dX7_look_52 rfl ?_
          refine x_aload_n (pc := 54) dX7_look_54 rfl ?_
          refine x_getf (pc := 55) dX7_look_55 kf_X7_13 (by assumption) (by rfl) ?_
          refine x_iconst (pc := 58) dX7_look_58 (v := nI 0) (by decide) ?_
          refine xn_iald (pc := 59) dX7_look_59 (by assumption) (by first | omega | assumption) (by rfl) ?_
          rw [e1]
          refine x_icmp_ge_t (pc := 60) dX7_look_60 (tgt := 105) (by decide) (nI_le (by omega) (by omega)) ?_
          refine x_iload_n (pc := 105) dX7_look_105 rfl ?_
          refine x_if_ne_f (pc := 106) dX7_look_106 (tgt := 114) (by decide) (fun q => q rfl) ?_
          refine x_iload (pc := 109) dX7_look_109 rfl ?_
          refine x_goto (pc := 111) dX7_look_111 (tgt := 116) (by decide) ?_
          refine x_iret (pc := 116) dX7_look_116 rfl rfl ?_
          exact va_i ⟨by rw [hans], hm1, hq⟩
        · rw [if_neg (by decide +kernel)] at hans
          refine x_iload (pc := 52) dX7_look_52 rfl ?_
          refine x_aload_n (pc := 54) dX7_look_54 rfl ?_
          refine x_getf (pc := 55) dX7_look_55 kf_X7_13 (by assumption) (by rfl) ?_
          refine x_iconst (pc := 58) dX7_look_58 (v := nI 0) (by decide) ?_
          refine xn_iald (pc := 59) dX7_look_59 (by assumption) (by first | omega | assumption) (by rfl) ?_
          rw [e1]
          refine x_icmp_ge_t (pc := 60) dX7_look_60 (tgt := 105) (by decide) (nI_le (by omega) (by omega)) ?_
          refine x_iload_n (pc := 105) dX7_look_105 rfl ?_
          refine x_if_ne_t (pc := 106) dX7_look_106 (tgt := 114) (by decide) (by decide +kernel) ?_
          refine x_iload (pc := 114) dX7_look_114 rfl ?_
          refine x_iret (pc := 116) dX7_look_116 rfl rfl ?_
          exact va_i ⟨by rw [hans], hm1, hq⟩
      | succ m ih =>
        intro j z7 hj
        have hw := whoS_lt okc j
        have hcw := cnt_le (whoS C j) 10
        have hj10 : j < 10 := by omega
        have skip : lkF C en (j + 1) = lkF C en j → Run m_X7_look 4 0 0 99 [some (.ref 51), some (.int (nI v)), some (.int y), some (.int (nI en)), some (.int (o1I (lkF C en j))), some (.int (o2I (lkF C en j))), some (.int (nI j)), some (.int (nI (cnt (whoS C j) 10)))] [] w1 n (PM (loS C h (nI v) y) T C h L K w n) := by
          intro hs
          refine xn_iinc (pc := 99) dX7_look_99 rfl rfl ?_
          refine x_goto (pc := 102) dX7_look_102 (tgt := 52) (by decide) ?_
          have hih := ih (j + 1) (some (.int (nI (cnt (whoS C j) 10)))) (by omega)
          rw [hs] at hih
          exact hih
        have take : lkF C en (j + 1) = some (j, cnt (whoS C j) 10) → Run m_X7_look 4 0 0 91 [some (.ref 51), some (.int (nI v)), some (.int y), some (.int (nI en)), some (.int (o1I (lkF C en j))), some (.int (o2I (lkF C en j))), some (.int (nI j)), some (.int (nI (cnt (whoS C j) 10)))] [] w1 n (PM (loS C h (nI v) y) T C h L K w n) := by
          intro hs
          refine x_iload (pc := 91) dX7_look_91 rfl ?_
          refine x_istore (pc := 93) dX7_look_93 rfl ?_
          refine x_iload (pc := 95) dX7_look_95 rfl ?_
          refine x_istore (pc := 97) dX7_look_97 rfl ?_
          refine xn_iinc (pc := 99) dX7_look_99 rfl rfl ?_
          refine x_goto (pc := 102) dX7_look_102 (tgt := 52) (by decide) ?_
          have hih := ih (j + 1) (some (.int (nI (cnt (whoS C j) 10)))) (by omega)
          rw [hs] at hih
          exact hih
        refine x_iload (pc := 52) dX7_look_52 rfl ?_
        refine x_aload_n (pc := 54) dX7_look_54 rfl ?_
        refine x_getf (pc := 55) dX7_look_55 kf_X7_13 (by assumption) (by rfl) ?_
        refine x_iconst (pc := 58) dX7_look_58 (v := nI 0) (by decide) ?_
        refine xn_iald (pc := 59) dX7_look_59 (by assumption) (by first | omega | assumption) (by rfl) ?_
        rw [e1]
        refine x_icmp_ge_f (pc := 60) dX7_look_60 (tgt := 105) (by decide) (nI_ge (by omega) (by omega)) ?_
        refine x_aload_n (pc := 63) dX7_look_63 rfl ?_
        refine x_iload (pc := 64) dX7_look_64 rfl ?_
        refine x_cv1p (ci := 7) (pc := 66) dX7_look_66 ks_X7_145 (by assumption) (by rfl) (by omega) (by rfl) (by rfl) (by rfl) (m_couldHave okc hK hR hj10) ?_
        refine x_cs1p (pc := 69) dX7_look_69 ks_X7_148 (by omega) (by rfl) (by rfl) (by rfl) (m_manyOf (by omega)) ?_
        refine x_istore (pc := 72) dX7_look_72 rfl ?_
        refine x_iload_n (pc := 74) dX7_look_74 rfl ?_
        refine x_iload (pc := 75) dX7_look_75 rfl ?_
        first | refine xn_ishr (pc := 77) dX7_look_77 (by omega) (by omega) ?_ | refine x_ishr (pc := 77) dX7_look_77 ?_
        refine x_iconst (pc := 78) dX7_look_78 (v := nI 1) (by decide) ?_
        first | refine xn_bit (pc := 79) dX7_look_79 ?_ | refine xn_nd (pc := 79) dX7_look_79 ?_ | refine xn_iand (pc := 79) dX7_look_79 ?_ | refine x_iand (pc := 79) dX7_look_79 ?_
        refine x_iconst (pc := 80) dX7_look_80 (v := nI 1) (by decide) ?_
        refine x_icmp_ne (pc := 81) dX7_look_81 (tgt := 99) (by decide) (fun h_81 => ?_) (fun h_81 => ?_)
        · skip
          try first | rw [n_b1] at h_81 | rw [n_b00] at h_81 | rw [n_eq (by omega) (by omega)] at h_81
          have hbt : en.testBit j = false := by simpa using h_81
          exact skip (by rw [lkF, if_neg (by rw [hbt]; decide)])
        · replace h_81 := Classical.not_not.mp h_81
          try first | rw [n_b1] at h_81 | rw [n_b00] at h_81 | rw [n_eq (by omega) (by omega)] at h_81
          have hbt : en.testBit j = true := by simpa using h_81
          cases ho : lkF C en j with
          | none =>
            rw [ho] at take
            have ht := take (by rw [lkF, if_pos hbt, ho])
            refine x_iload (pc := 84) dX7_look_84 rfl ?_
            refine x_iload (pc := 86) dX7_look_86 rfl ?_
            refine x_icmp_le_f (pc := 88) dX7_look_88 (tgt := 99) (by decide) (by show ¬ nI (cnt (whoS C j) 10) ≤ -4; intro q; have q2 := Int32.le_iff_toInt_le.mp q; rw [show (nI (cnt (whoS C j) 10)).toInt = (cnt (whoS C j) 10 : Nat) from nI_toInt (by omega), show ((-4 : Int32)).toInt = -4 from by decide +kernel] at q2; omega) ?_
            exact ht
          | some q =>
            have hql := lkF_lt ho
            rw [ho] at take skip
            have hsx : lkF C en (j + 1) = if q.2 < cnt (whoS C j) 10 then some (j, cnt (whoS C j) 10) else some q := by rw [lkF, if_pos hbt, ho]
            by_cases hc : q.2 < cnt (whoS C j) 10
            · have ht := take (by rw [hsx, if_pos hc])
              refine x_iload (pc := 84) dX7_look_84 rfl ?_
              refine x_iload (pc := 86) dX7_look_86 rfl ?_
              refine x_icmp_le_f (pc := 88) dX7_look_88 (tgt := 99) (by decide) (by show ¬ nI (cnt (whoS C j) 10) ≤ nI q.2; rw [n_le (by omega) (by omega)]; omega) ?_
              exact ht
            · have ht := skip (by rw [hsx, if_neg hc])
              refine x_iload (pc := 84) dX7_look_84 rfl ?_
              refine x_iload (pc := 86) dX7_look_86 rfl ?_
              refine x_icmp_le_t (pc := 88) dX7_look_88 (tgt := 99) (by decide) (by show nI (cnt (whoS C j) 10) ≤ nI q.2; rw [n_le (by omega) (by omega)]; omega) ?_
              exact ht
    refine x_aload_n (pc := 0) dX7_look_0 rfl ?_
    refine x_iload_n (pc := 1) dX7_look_1 rfl ?_
    refine x_cv1p (ci := 7) (pc := 2) dX7_look_2 ks_X7_167 (by assumption) (by rfl) (by omega) (by rfl) (by rfl) (by rfl) (c_m_isVerdict okc hK hC _) ?_
    refine x_if_eq (pc := 5) dX7_look_5 (tgt := 17) (by decide) (fun h_5 => ?_) (fun h_5 => ?_)
    · skip
      try first | rw [n_b0] at h_5 | rw [n_eq0 (by omega)] at h_5
      rw [hx] at h_5; cases h_5
    · skip
      try first | rw [n_b0] at h_5 | rw [n_eq0 (by omega)] at h_5
      refine x_iload_n (pc := 8) dX7_look_8 rfl ?_
      refine x_iconst (pc := 9) dX7_look_9 (v := nI 0) (by decide) ?_
      refine x_iconst (pc := 10) dX7_look_10 (v := nI 1) (by decide) ?_
      refine x_cs3p (pc := 11) dX7_look_11 ks_X7_82 (by omega) (by rfl) (by rfl) (by rfl) (c_in _ _ _) ?_
      rw [inI_y, hy]
      refine x_if_ne_t (pc := 14) dX7_look_14 (tgt := 19) (by decide) (by decide +kernel) ?_
      refine x_aload_n (pc := 19) dX7_look_19 rfl ?_
      refine x_iload_n (pc := 20) dX7_look_20 rfl ?_
      refine x_cv1 (q1 := 0) (q2 := 0) (ci := 7) (pc := 21) dX7_look_21 ks_X7_170 (by assumption) (by rfl) (by omega) (by rfl) (by rfl) (by rfl) (m_hasWhole hm ok hv) (va_kk fun v w hP => ?_)
      obtain ⟨rfl, hm', ⟨F, hS⟩, hq⟩ := hP
      obtain ⟨ty', at', so', un', ke', rl', f', -, hK', hC', -⟩ := hm'.op
      obtain ⟨t0, t1, t2, t3, t4, t5, t6, t7, t8⟩ := hS.row okc hv
      obtain ⟨h62, h63, h64, h65, h66, h67, h68, h69, h70⟩ := id hS.1
      refine x_if_eq (pc := 24) dX7_look_24 (tgt := 39) (by decide) (fun h_24 => ?_) (fun h_24 => ?_)
      · skip
        try first | rw [n_b0] at h_24 | rw [n_eq0 (by omega)] at h_24
        have ee : 0 = en := by rw [hze, h_24, if_neg (by decide)]
        refine x_iconst (pc := 39) dX7_look_39 (v := nI 0) (by decide) ?_
        refine Run.top (v' := .int (nI en)) (by rw [← ee]) ?_
        refine x_istore_n (pc := 40) dX7_look_40 rfl ?_
        refine x_bipush (pc := 41) dX7_look_41 (v := -4) (by decide) ?_
        refine x_istore (pc := 43) dX7_look_43 rfl ?_
        refine x_bipush (pc := 45) dX7_look_45 (v := -4) (by decide) ?_
        refine x_istore (pc := 47) dX7_look_47 rfl ?_
        refine x_iconst (pc := 49) dX7_look_49 (v := nI 0) (by decide) ?_
        refine x_istore (pc := 50) dX7_look_50 rfl ?_
        exact loop _ hm' hq (cn C) 0 _ (by omega)
      · skip
        try first | rw [n_b0] at h_24 | rw [n_eq0 (by omega)] at h_24
        simp only [Bool.not_eq_false] at h_24
        have ee : endM v (P9 C none h.2 v) = en := by rw [hze, h_24, if_pos rfl]
        refine x_aload_n (pc := 27) dX7_look_27 rfl ?_
        refine x_getf (pc := 28) dX7_look_28 kf_X7_62 (by assumption) (by rfl) ?_
        refine x_iload_n (pc := 31) dX7_look_31 rfl ?_
        refine x_cs1p (pc := 32) dX7_look_32 ks_X7_164 (by omega) (by rfl) (by rfl) (by rfl) (m_rowOf (by omega)) ?_
        refine xn_iald (pc := 35) dX7_look_35 (by assumption) (by first | omega | assumption) (by rfl) ?_
        rw [t7]
        refine x_goto (pc := 36) dX7_look_36 (tgt := 40) (by decide) ?_
        refine Run.top (v' := .int (nI en)) (by rw [← ee]) ?_
        refine x_istore_n (pc := 40) dX7_look_40 rfl ?_
        refine x_bipush (pc := 41) dX7_look_41 (v := -4) (by decide) ?_
        refine x_istore (pc := 43) dX7_look_43 rfl ?_
        refine x_bipush (pc := 45) dX7_look_45 (v := -4) (by decide) ?_
        refine x_istore (pc := 47) dX7_look_47 rfl ?_
        refine x_iconst (pc := 49) dX7_look_49 (v := nI 0) (by decide) ?_
        refine x_istore (pc := 50) dX7_look_50 rfl ?_
        exact loop _ hm' hq (cn C) 0 _ (by omega)
  · have e : loS C h x y = -1 := by rw [loS, if_neg hbad]
    have go17 : Run m_X7_look 4 0 0 17 [some (.ref 51), some (.int x), some (.int y), none, none, none, none, none] [] w n (PM (loS C h x y) T C h L K w n) := by
      refine x_iconst (pc := 17) dX7_look_17 (v := -1) (by decide) ?_
      refine x_iret (pc := 18) dX7_look_18 rfl rfl ?_
      exact va_i ⟨by rw [e], hm0, fun _ _ => rfl⟩
    refine x_aload_n (pc := 0) dX7_look_0 rfl ?_
    refine x_iload_n (pc := 1) dX7_look_1 rfl ?_
    refine x_cv1p (ci := 7) (pc := 2) dX7_look_2 ks_X7_167 (by assumption) (by rfl) (by omega) (by rfl) (by rfl) (by rfl) (c_m_isVerdict okc hK hC _) ?_
    refine x_if_eq (pc := 5) dX7_look_5 (tgt := 17) (by decide) (fun h_5 => ?_) (fun h_5 => ?_)
    · skip
      try first | rw [n_b0] at h_5 | rw [n_eq0 (by omega)] at h_5
      exact go17
    · skip
      try first | rw [n_b0] at h_5 | rw [n_eq0 (by omega)] at h_5
      refine x_iload_n (pc := 8) dX7_look_8 rfl ?_
      refine x_iconst (pc := 9) dX7_look_9 (v := nI 0) (by decide) ?_
      refine x_iconst (pc := 10) dX7_look_10 (v := nI 1) (by decide) ?_
      refine x_cs3p (pc := 11) dX7_look_11 ks_X7_82 (by omega) (by rfl) (by rfl) (by rfl) (c_in _ _ _) ?_
      rw [inI_y]
      refine x_if_ne (pc := 14) dX7_look_14 (tgt := 19) (by decide) (fun h_14 => ?_) (fun h_14 => ?_)
      · skip
        try first | rw [n_b0] at h_14 | rw [n_eq0 (by omega)] at h_14
        simp only [Bool.not_eq_false] at h_5 h_14
        exact absurd ⟨h_5, h_14⟩ hbad
      · replace h_14 := Classical.not_not.mp h_14
        try first | rw [n_b0] at h_14 | rw [n_eq0 (by omega)] at h_14
        exact go17
def euM : Nat → Nat → Nat → Option Nat
  | 0, _, _ => none
  | k + 1, a, b => if b = 0 then some a else euM k b (a % b)
theorem eu_ok : ∀ k, k < 6 → ∀ t, t < 11 → euM 100 (odU k t) (10 ^ k) = some (gcS k t) := by decide +kernel
theorem odU_le (k t : Nat) : odU k t ≤ 10 ^ k := Nat.sub_le _ _
theorem pow_5 {k : Nat} (h : k ≤ 5) : 10 ^ k ≤ 100000 := Nat.le_trans (Nat.pow_le_pow_right (by decide) h) (by decide)
theorem m_odds {w : ax_W} {n : Nat} {T : List Nat} {C : Crt} {h : Hrg} {L K : List Hrg} (hm : isM w T C h L K) (ok : okX T C h L K) (x y z : Int32) : Run m_X7_odds 5 0 0 0 (l_ent m_X7_odds [.ref 51, .int x, .int y, .int z]) [] w n (PM (odS C h x y z) T C h L K w n) := by
  have hm0 := hm
  have okc := ok.2.1
  have hn := okc.1
  have hsk := ok.2.2.1.sk okc
  obtain ⟨a0, s0, r0, D0, q1, q2, q3, hK, -, hC, -⟩ := id hm
  by_cases hbad : vtB C x = true ∧ inB y 11 = true ∧ y01 z = true
  · obtain ⟨hx, hy, hz⟩ := hbad
    rcases vtB_cases okc x with hb' | ⟨v, hv, rfl, -⟩
    · rw [hx] at hb'; cases hb'
    obtain ⟨t, ht, rfl⟩ := inB_of hy (by decide)
    have hcl : (nI v).toNatClampNeg = v := n_cl (by omega)
    have hct : (nI t).toNatClampNeg = t := n_cl (by omega)
    have hcnt := ftF_cnt okc h v
    have hfl : fitS C h v < 2147483648 := Nat.lt_trans (ftF_lt okc _ 10) (by decide)
    have hans : odS C h (nI v) (nI t) z = if z = nI 0 then nI (odU (cnt (fitS C h v) 10) t / gcS (cnt (fitS C h v) 10) t) else nI (10 ^ (cnt (fitS C h v) 10) / gcS (cnt (fitS C h v) 10) t) := by rw [odS, if_pos ⟨hx, hy, hz⟩, hcl, hct]
    revert hcnt hans
    generalize hkk : cnt (fitS C h v) 10 = k
    intro hk5 hans
    have hgc := gc_ne k (by omega) t ht
    have heu := eu_ok k (by omega) t ht
    have hup := odU_le k t
    have h10k := pow_5 hk5
    have main : ∀ (w1 : ax_W), isM w1 T C h L K → same50 w w1 → Run m_X7_odds 5 0 0 43 [some (.ref 51), some (.int (nI v)), some (.int (nI t)), some (.int z), some (.int (nI 1)), some (.int (nI 1)), none, none, none, none] [.int (nI k)] w1 n (PM (odS C h (nI v) (nI t) z) T C h L K w n) := by
      intro w1 hm1 hq
      have euc : ∀ fu a b (z9 : Option Value), a < 2147483648 → b < 2147483648 → euM fu a b = some (gcS k t) → Run m_X7_odds 5 0 0 87 [some (.ref 51), some (.int (nI v)), some (.int (nI t)), some (.int z), some (.int (nI (10 ^ k))), some (.int (nI ((10 - t) ^ k))), some (.int (nI (odU k t))), some (.int (nI a)), some (.int (nI b)), z9] [] w1 n (PM (odS C h (nI v) (nI t) z) T C h L K w n) := by
        intro fu
        induction fu with
        | zero => intro a b z9 ha hb he; cases he
        | succ fu ih =>
          intro a b z9 ha hb he
          by_cases hb0 : b = 0
          · subst hb0
            rw [euM, if_pos rfl] at he
            cases he
            rcases (of_decide_eq_true hz : z = nI 0 ∨ z = nI 1) with rfl | rfl
            · rw [if_pos rfl] at hans
              refine x_iload (pc := 87) dX7_odds_87 rfl ?_
              refine x_if_eq_t (pc := 89) dX7_odds_89 (tgt := 110) (by decide) rfl ?_
              refine x_iload_n (pc := 110) dX7_odds_110 rfl ?_
              refine x_if_ne_f (pc := 111) dX7_odds_111 (tgt := 122) (by decide) (fun q => q rfl) ?_
              refine x_iload (pc := 114) dX7_odds_114 rfl ?_
              refine x_iload (pc := 116) dX7_odds_116 rfl ?_
              first | refine xn_idiv (pc := 118) dX7_odds_118 (by omega) (by omega) (by omega) ?_ | refine x_idiv (pc := 118) dX7_odds_118 (by assumption) ?_
              refine x_goto (pc := 119) dX7_odds_119 (tgt := 127) (by decide) ?_
              refine x_iret (pc := 127) dX7_odds_127 rfl rfl ?_
              exact va_i ⟨by rw [hans], hm1, hq⟩
            · rw [if_neg (by decide +kernel)] at hans
              refine x_iload (pc := 87) dX7_odds_87 rfl ?_
              refine x_if_eq_t (pc := 89) dX7_odds_89 (tgt := 110) (by decide) rfl ?_
              refine x_iload_n (pc := 110) dX7_odds_110 rfl ?_
              refine x_if_ne_t (pc := 111) dX7_odds_111 (tgt := 122) (by decide) (by decide +kernel) ?_
              refine x_iload (pc := 122) dX7_odds_122 rfl ?_
              refine x_iload (pc := 124) dX7_odds_124 rfl ?_
              first | refine xn_idiv (pc := 126) dX7_odds_126 (by omega) (by omega) (by omega) ?_ | refine x_idiv (pc := 126) dX7_odds_126 (by assumption) ?_
              refine x_iret (pc := 127) dX7_odds_127 rfl rfl ?_
              exact va_i ⟨by rw [hans], hm1, hq⟩
          · rw [euM, if_neg hb0] at he
            have hmod := Nat.mod_lt a (Nat.pos_of_ne_zero hb0)
            refine x_iload (pc := 87) dX7_odds_87 rfl ?_
            refine x_if_eq_f (pc := 89) dX7_odds_89 (tgt := 110) (by decide) (by rw [n_eq0 (by omega)]; exact hb0) ?_
            refine x_iload (pc := 92) dX7_odds_92 rfl ?_
            refine x_iload (pc := 94) dX7_odds_94 rfl ?_
            first | refine xn_irem (pc := 96) dX7_odds_96 (by omega) (by omega) (by omega) ?_ | refine x_irem (pc := 96) dX7_odds_96 (by assumption) ?_
            refine x_istore (pc := 97) dX7_odds_97 rfl ?_
            refine x_iload (pc := 99) dX7_odds_99 rfl ?_
            refine x_istore (pc := 101) dX7_odds_101 rfl ?_
            refine x_iload (pc := 103) dX7_odds_103 rfl ?_
            refine x_istore (pc := 105) dX7_odds_105 rfl ?_
            refine x_goto (pc := 107) dX7_odds_107 (tgt := 87) (by decide) ?_
            exact ih _ _ _ hb (by omega) he
      have pw : ∀ m i, i + m = k → Run m_X7_odds 5 0 0 45 [some (.ref 51), some (.int (nI v)), some (.int (nI t)), some (.int z), some (.int (nI (10 ^ i))), some (.int (nI ((10 - t) ^ i))), some (.int (nI m)), none, none, none] [] w1 n (PM (odS C h (nI v) (nI t) z) T C h L K w n) := by
        intro m
        induction m with
        | zero =>
          intro i hi
          have hii : i = k := by omega
          subst hii
          have hle : (10 - t) ^ i ≤ 10 ^ i := Nat.pow_le_pow_left (by omega) i
          refine x_iload (pc := 45) dX7_odds_45 rfl ?_
          refine x_if_le_t (pc := 47) dX7_odds_47 (tgt := 72) (by decide) (by decide +kernel) ?_
          refine x_iload (pc := 72) dX7_odds_72 rfl ?_
          refine x_iload (pc := 74) dX7_odds_74 rfl ?_
          refine xn_isub (pc := 76) dX7_odds_76 hle ?_
          refine x_istore (pc := 77) dX7_odds_77 rfl ?_
          refine x_iload (pc := 79) dX7_odds_79 rfl ?_
          refine x_istore (pc := 81) dX7_odds_81 rfl ?_
          refine x_iload (pc := 83) dX7_odds_83 rfl ?_
          refine x_istore (pc := 85) dX7_odds_85 rfl ?_
          exact euc 100 (odU i t) (10 ^ i) _ (by omega) (by omega) heu
        | succ m ih =>
          intro i hi
          refine x_iload (pc := 45) dX7_odds_45 rfl ?_
          refine x_if_le_f (pc := 47) dX7_odds_47 (tgt := 72) (by decide) (by rw [n_le0 (by omega)]; omega) ?_
          refine x_iload (pc := 50) dX7_odds_50 rfl ?_
          refine x_bipush (pc := 52) dX7_odds_52 (v := nI 10) (by decide) ?_
          first | refine xn_imul (pc := 54) dX7_odds_54 ?_ | refine x_imul (pc := 54) dX7_odds_54 ?_
          refine x_istore (pc := 55) dX7_odds_55 rfl ?_
          refine x_iload (pc := 57) dX7_odds_57 rfl ?_
          refine x_bipush (pc := 59) dX7_odds_59 (v := nI 10) (by decide) ?_
          refine x_iload_n (pc := 61) dX7_odds_61 rfl ?_
          first | refine xn_isub (pc := 62) dX7_odds_62 (by omega) ?_ | refine x_isub (pc := 62) dX7_odds_62 ?_
          first | refine xn_imul (pc := 63) dX7_odds_63 ?_ | refine x_imul (pc := 63) dX7_odds_63 ?_
          refine x_istore (pc := 64) dX7_odds_64 rfl ?_
          refine xn_idec (pc := 66) dX7_odds_66 rfl rfl ?_
          refine x_goto (pc := 69) dX7_odds_69 (tgt := 45) (by decide) ?_
          exact ih (i + 1) (by omega)
      refine x_istore (pc := 43) dX7_odds_43 rfl ?_
      exact pw k 0 (by omega)
    refine x_aload_n (pc := 0) dX7_odds_0 rfl ?_
    refine x_iload_n (pc := 1) dX7_odds_1 rfl ?_
    refine x_cv1p (ci := 7) (pc := 2) dX7_odds_2 ks_X7_167 (by assumption) (by rfl) (by omega) (by rfl) (by rfl) (by rfl) (c_m_isVerdict okc hK hC _) ?_
    refine x_if_eq (pc := 5) dX7_odds_5 (tgt := 27) (by decide) (fun h_5 => ?_) (fun h_5 => ?_)
    · skip
      try first | rw [n_b0] at h_5 | rw [n_eq0 (by omega)] at h_5
      rw [hx] at h_5; cases h_5
    · skip
      try first | rw [n_b0] at h_5 | rw [n_eq0 (by omega)] at h_5
      refine x_iload_n (pc := 8) dX7_odds_8 rfl ?_
      refine x_iconst (pc := 9) dX7_odds_9 (v := nI 0) (by decide) ?_
      refine x_bipush (pc := 10) dX7_odds_10 (v := nI 10) (by decide) ?_
      refine x_cs3p (pc := 12) dX7_odds_12 ks_X7_82 (by omega) (by rfl) (by rfl) (by rfl) (c_in _ _ _) ?_
      rw [inI_r _ (by omega), hy]
      refine x_if_eq_f (pc := 15) dX7_odds_15 (tgt := 27) (by decide) (by decide +kernel) ?_
      refine x_iload_n (pc := 18) dX7_odds_18 rfl ?_
      refine x_iconst (pc := 19) dX7_odds_19 (v := nI 0) (by decide) ?_
      refine x_iconst (pc := 20) dX7_odds_20 (v := nI 1) (by decide) ?_
      refine x_cs3p (pc := 21) dX7_odds_21 ks_X7_82 (by omega) (by rfl) (by rfl) (by rfl) (c_in _ _ _) ?_
      rw [inI_y, hz]
      refine x_if_ne_t (pc := 24) dX7_odds_24 (tgt := 29) (by decide) (by decide +kernel) ?_
      refine x_iconst (pc := 29) dX7_odds_29 (v := nI 1) (by decide) ?_
      refine x_istore (pc := 30) dX7_odds_30 rfl ?_
      refine x_iconst (pc := 32) dX7_odds_32 (v := nI 1) (by decide) ?_
      refine x_istore (pc := 33) dX7_odds_33 rfl ?_
      refine x_aload_n (pc := 35) dX7_odds_35 rfl ?_
      refine x_iload_n (pc := 36) dX7_odds_36 rfl ?_
      refine x_cv1 (q1 := 0) (q2 := 0) (ci := 7) (pc := 37) dX7_odds_37 ks_X7_182 (by assumption) (by rfl) (by omega) (by rfl) (by rfl) (by rfl) (m_fitting hm ok hv) (va_kk fun v w hP => ?_)
      obtain ⟨rfl, hm', hq⟩ := hP
      refine x_cs1p (pc := 40) dX7_odds_40 ks_X7_148 (by omega) (by rfl) (by rfl) (by rfl) (m_manyOf hfl) ?_
      exact (by rw [hkk]; exact main _ hm' hq)
  · have e : odS C h x y z = -1 := by rw [odS, if_neg hbad]
    have go27 : Run m_X7_odds 5 0 0 27 [some (.ref 51), some (.int x), some (.int y), some (.int z), none, none, none, none, none, none] [] w n (PM (odS C h x y z) T C h L K w n) := by
      refine x_iconst (pc := 27) dX7_odds_27 (v := -1) (by decide) ?_
      refine x_iret (pc := 28) dX7_odds_28 rfl rfl ?_
      exact va_i ⟨by rw [e], hm0, fun _ _ => rfl⟩
    refine x_aload_n (pc := 0) dX7_odds_0 rfl ?_
    refine x_iload_n (pc := 1) dX7_odds_1 rfl ?_
    refine x_cv1p (ci := 7) (pc := 2) dX7_odds_2 ks_X7_167 (by assumption) (by rfl) (by omega) (by rfl) (by rfl) (by rfl) (c_m_isVerdict okc hK hC _) ?_
    refine x_if_eq (pc := 5) dX7_odds_5 (tgt := 27) (by decide) (fun h_5 => ?_) (fun h_5 => ?_)
    · skip
      try first | rw [n_b0] at h_5 | rw [n_eq0 (by omega)] at h_5
      exact go27
    · skip
      try first | rw [n_b0] at h_5 | rw [n_eq0 (by omega)] at h_5
      refine x_iload_n (pc := 8) dX7_odds_8 rfl ?_
      refine x_iconst (pc := 9) dX7_odds_9 (v := nI 0) (by decide) ?_
      refine x_bipush (pc := 10) dX7_odds_10 (v := nI 10) (by decide) ?_
      refine x_cs3p (pc := 12) dX7_odds_12 ks_X7_82 (by omega) (by rfl) (by rfl) (by rfl) (c_in _ _ _) ?_
      rw [inI_r _ (by omega)]
      refine x_if_eq (pc := 15) dX7_odds_15 (tgt := 27) (by decide) (fun h_15 => ?_) (fun h_15 => ?_)
      · skip
        try first | rw [n_b0] at h_15 | rw [n_eq0 (by omega)] at h_15
        exact go27
      · skip
        try first | rw [n_b0] at h_15 | rw [n_eq0 (by omega)] at h_15
        refine x_iload_n (pc := 18) dX7_odds_18 rfl ?_
        refine x_iconst (pc := 19) dX7_odds_19 (v := nI 0) (by decide) ?_
        refine x_iconst (pc := 20) dX7_odds_20 (v := nI 1) (by decide) ?_
        refine x_cs3p (pc := 21) dX7_odds_21 ks_X7_82 (by omega) (by rfl) (by rfl) (by rfl) (c_in _ _ _) ?_
        rw [inI_y]
        refine x_if_ne (pc := 24) dX7_odds_24 (tgt := 29) (by decide) (fun h_24 => ?_) (fun h_24 => ?_)
        · skip
          try first | rw [n_b0] at h_24 | rw [n_eq0 (by omega)] at h_24
          simp only [Bool.not_eq_false] at h_5 h_15 h_24
          exact absurd ⟨h_5, h_15, h_24⟩ hbad
        · replace h_24 := Classical.not_not.mp h_24
          try first | rw [n_b0] at h_24 | rw [n_eq0 (by omega)] at h_24
          exact go27
theorem opn_full {C : Crt} (okc : okC C) {last ch sk : Nat} (hl : last < cn C) (h : cnt ch 10 = 10) : opn C last ch sk = 0 := by
  have hn := okc.1
  refine Nat.eq_of_testBit_eq fun i => ?_
  rw [Nat.zero_testBit]
  by_cases hi : i < 10
  · rw [opn_bit okc hl, cnt_full (m := ch) 10 h i hi]
    simp
  · exact bit_lt (opn_lt okc hl) (by omega)
theorem cnt_0 {m : Nat} (hm : m < 1024) (h : cnt m 10 = 0) : m = 0 := by
  refine Classical.byContradiction fun q => ?_
  obtain ⟨i, hi⟩ := bits_ne q
  have := cnt_pos 10 i (bit_in (n := 10) hm hi) hi
  omega
theorem cnt_mono (m : Nat) : ∀ a b, a ≤ b → cnt m a ≤ cnt m b := by
  intro a b h
  induction h with
  | refl => exact Nat.le_refl _
  | step h ih => exact Nat.le_trans ih (Nat.le_add_right _ _)
theorem m_trialBy {w : ax_W} {n : Nat} {T : List Nat} {C : Crt} {h : Hrg} {L K : List Hrg} (hm : isM w T C h L K) (ok : okX T C h L K) (okw : ∀ a, (vd C).testBit a = true → kd C a ≠ 4) (x0 x y : Int32) : Run m_X7_trialBy 3 0 0 0 (l_ent m_X7_trialBy [.ref 51, .int x0, .int x, .int y]) [] w n (PM (tbS C h x0 x y) T C h L K w n) := by
  have hm0 := hm
  have okc := ok.2.1
  have hn := okc.1
  have hsk := ok.2.2.1.sk okc
  obtain ⟨a0, s0, r0, D0, q1, q2, q3, hK, -, hC, -⟩ := id hm
  by_cases hbad : inB x0 10000 = true ∧ vtB C x = true ∧ y01 y = true
  · obtain ⟨hz0, hx, hy⟩ := hbad
    rcases vtB_cases okc x with hb' | ⟨v, hv, rfl, -⟩
    · rw [hx] at hb'; cases hb'
    obtain ⟨z, hz, rfl⟩ := inB_of hz0 (by decide)
    have hcl : (nI v).toNatClampNeg = v := n_cl (by omega)
    have hcz : (nI z).toNatClampNeg = z := n_cl (by omega)
    have hp := pow_10 (show v < 10 by omega)
    have hans : tbS C h (nI z) (nI v) y = tbA C y (tbF C h.2 z (if h.2.testBit v then 0 else 9) 1 (2 ^ v) v) := by rw [tbS, if_pos ⟨hz0, hx, hy⟩, hcl, hcz]
    obtain ⟨ty, at_, so, un, ke, rl, f, F0, hK2, hR, h61, hs, hB⟩ := hm.op
    obtain ⟨fm, fk, fc, fds, fh, fv, fp, fd, h53, h54, h55, h56, h57, h58, h59, h60, e1, e2, e3, e4, e5⟩ := id hR
    have loop : ∀ m LL ch last (z8 z9 z10 z11 : Option Value), LL + m = 10 → 0 < LL → cnt ch 10 = LL → ch < 1024 → last < cn C → tbS C h (nI z) (nI v) y = tbA C y (tbF C h.2 z m LL ch last) → Run m_X7_trialBy 3 0 0 70 [some (.ref 51), some (.int (nI z)), some (.int (nI v)), some (.int y), some (.int (nI ch)), some (.int (nI last)), some (.int (nI LL)), some (.int (nI (opn C last ch h.2))), z8, z9, z10, z11] [] w n (PM (tbS C h (nI z) (nI v) y) T C h L K w n) := by
      intro m
      induction m with
      | zero =>
        intro LL ch last z8 z9 z10 z11 h1 h2 h3 h4 h5 hans
        have ho : opn C last ch h.2 = 0 := opn_full okc h5 (by omega)
        have hkd := (okc.2.2.2.1 last h5).1
        rw [tbF] at hans
        rcases (of_decide_eq_true hy : y = nI 0 ∨ y = nI 1) with rfl | rfl
        · have e : tbS C h (nI z) (nI v) (nI 0) = nI LL := by rw [hans, tbA, if_pos rfl]
          refine x_iload (pc := 70) dX7_trialBy_70 rfl ?_
          refine x_if_eq_t (pc := 72) dX7_trialBy_72 (tgt := 178) (by decide) (by rw [ho]; rfl) ?_
          refine x_iload_n (pc := 178) dX7_trialBy_178 rfl ?_
          refine x_if_ne_f (pc := 179) dX7_trialBy_179 (tgt := 187) (by decide) (fun q => q rfl) ?_
          refine x_iload (pc := 182) dX7_trialBy_182 rfl ?_
          refine x_goto (pc := 184) dX7_trialBy_184 (tgt := 205) (by decide) ?_
          refine x_iret (pc := 205) dX7_trialBy_205 rfl rfl ?_
          exact va_i ⟨by rw [e], hm0, fun _ _ => rfl⟩
        · refine x_iload (pc := 70) dX7_trialBy_70 rfl ?_
          refine x_if_eq_t (pc := 72) dX7_trialBy_72 (tgt := 178) (by decide) (by rw [ho]; rfl) ?_
          refine x_iload_n (pc := 178) dX7_trialBy_178 rfl ?_
          refine x_if_ne_t (pc := 179) dX7_trialBy_179 (tgt := 187) (by decide) (by decide +kernel) ?_
          refine x_aload_n (pc := 187) dX7_trialBy_187 rfl ?_
          refine x_getf (pc := 188) dX7_trialBy_188 kf_X7_17 (by assumption) (by rfl) ?_
          refine x_iload (pc := 191) dX7_trialBy_191 rfl ?_
          refine xn_iald (pc := 193) dX7_trialBy_193 (by assumption) (by first | omega | assumption) (by rfl) ?_
          rw [(e4 last h5).1]
          refine x_iconst (pc := 194) dX7_trialBy_194 (v := nI 4) (by decide) ?_
          refine x_icmp_ne (pc := 195) dX7_trialBy_195 (tgt := 203) (by decide) (fun h_195 => ?_) (fun h_195 => ?_)
          · skip
            try first | rw [n_b1] at h_195 | rw [n_b00] at h_195 | rw [n_eq (by omega) (by omega)] at h_195
            have e : tbS C h (nI z) (nI v) (nI 1) = -4 := by rw [hans, tbA, if_neg (by decide +kernel), if_neg h_195]
            refine x_bipush (pc := 203) dX7_trialBy_203 (v := -4) (by decide) ?_
            refine x_iret (pc := 205) dX7_trialBy_205 rfl rfl ?_
            exact va_i ⟨by rw [e], hm0, fun _ _ => rfl⟩
          · replace h_195 := Classical.not_not.mp h_195
            try first | rw [n_b1] at h_195 | rw [n_b00] at h_195 | rw [n_eq (by omega) (by omega)] at h_195
            have e : tbS C h (nI z) (nI v) (nI 1) = nI last := by rw [hans, tbA, if_neg (by decide +kernel), if_pos h_195]
            refine x_iload (pc := 198) dX7_trialBy_198 rfl ?_
            refine x_goto (pc := 200) dX7_trialBy_200 (tgt := 205) (by decide) ?_
            refine x_iret (pc := 205) dX7_trialBy_205 rfl rfl ?_
            exact va_i ⟨by rw [e], hm0, fun _ _ => rfl⟩
      | succ m ih =>
        intro LL ch last z8 z9 z10 z11 h1 h2 h3 h4 h5 hans
        have hop := opn_1024 okc (ch := ch) (sk := h.2) h5
        have hopn := opn_lt okc (ch := ch) (sk := h.2) h5
        by_cases ho : opn C last ch h.2 = 0
        · have hkd := (okc.2.2.2.1 last h5).1
          rw [tbF, if_pos (by rw [ho]; decide +kernel)] at hans
          rcases (of_decide_eq_true hy : y = nI 0 ∨ y = nI 1) with rfl | rfl
          · have e : tbS C h (nI z) (nI v) (nI 0) = nI LL := by rw [hans, tbA, if_pos rfl]
            refine x_iload (pc := 70) dX7_trialBy_70 rfl ?_
            refine x_if_eq_t (pc := 72) dX7_trialBy_72 (tgt := 178) (by decide) (by rw [ho]; rfl) ?_
            refine x_iload_n (pc := 178) dX7_trialBy_178 rfl ?_
            refine x_if_ne_f (pc := 179) dX7_trialBy_179 (tgt := 187) (by decide) (fun q => q rfl) ?_
            refine x_iload (pc := 182) dX7_trialBy_182 rfl ?_
            refine x_goto (pc := 184) dX7_trialBy_184 (tgt := 205) (by decide) ?_
            refine x_iret (pc := 205) dX7_trialBy_205 rfl rfl ?_
            exact va_i ⟨by rw [e], hm0, fun _ _ => rfl⟩
          · refine x_iload (pc := 70) dX7_trialBy_70 rfl ?_
            refine x_if_eq_t (pc := 72) dX7_trialBy_72 (tgt := 178) (by decide) (by rw [ho]; rfl) ?_
            refine x_iload_n (pc := 178) dX7_trialBy_178 rfl ?_
            refine x_if_ne_t (pc := 179) dX7_trialBy_179 (tgt := 187) (by decide) (by decide +kernel) ?_
            refine x_aload_n (pc := 187) dX7_trialBy_187 rfl ?_
            refine x_getf (pc := 188) dX7_trialBy_188 kf_X7_17 (by assumption) (by rfl) ?_
            refine x_iload (pc := 191) dX7_trialBy_191 rfl ?_
            refine xn_iald (pc := 193) dX7_trialBy_193 (by assumption) (by first | omega | assumption) (by rfl) ?_
            rw [(e4 last h5).1]
            refine x_iconst (pc := 194) dX7_trialBy_194 (v := nI 4) (by decide) ?_
            refine x_icmp_ne (pc := 195) dX7_trialBy_195 (tgt := 203) (by decide) (fun h_195 => ?_) (fun h_195 => ?_)
            · skip
              try first | rw [n_b1] at h_195 | rw [n_b00] at h_195 | rw [n_eq (by omega) (by omega)] at h_195
              have e : tbS C h (nI z) (nI v) (nI 1) = -4 := by rw [hans, tbA, if_neg (by decide +kernel), if_neg h_195]
              refine x_bipush (pc := 203) dX7_trialBy_203 (v := -4) (by decide) ?_
              refine x_iret (pc := 205) dX7_trialBy_205 rfl rfl ?_
              exact va_i ⟨by rw [e], hm0, fun _ _ => rfl⟩
            · replace h_195 := Classical.not_not.mp h_195
              try first | rw [n_b1] at h_195 | rw [n_b00] at h_195 | rw [n_eq (by omega) (by omega)] at h_195
              have e : tbS C h (nI z) (nI v) (nI 1) = nI last := by rw [hans, tbA, if_neg (by decide +kernel), if_pos h_195]
              refine x_iload (pc := 198) dX7_trialBy_198 rfl ?_
              refine x_goto (pc := 200) dX7_trialBy_200 (tgt := 205) (by decide) ?_
              refine x_iret (pc := 205) dX7_trialBy_205 rfl rfl ?_
              exact va_i ⟨by rw [e], hm0, fun _ _ => rfl⟩
        · have hc0 : cnt (opn C last ch h.2) 10 ≠ 0 := fun q => ho (cnt_0 hop q)
          rw [tbF, if_neg hc0] at hans
          have hc10 := cnt_le (opn C last ch h.2) 10
          have hr : drawS z LL % cnt (opn C last ch h.2) 10 < cnt (opn C last ch h.2) 10 := Nat.mod_lt _ (Nat.pos_of_ne_zero hc0)
          have hnt := nthF_ok (op := opn C last ch h.2) (r := drawS z LL % cnt (opn C last ch h.2) 10) 10 0 rfl (Nat.zero_le _) hr
          obtain ⟨R, hR2, hRl⟩ : ∃ R, (7919 * z + 6151 * LL + 1) * (7919 * z + 6151 * LL + 1) % 65521 = R ∧ R < 65521 := ⟨_, rfl, Nat.mod_lt _ (by decide)⟩
          have hdr : R / 4 % cnt (opn C last ch h.2) 10 = drawS z LL % cnt (opn C last ch h.2) 10 := by unfold drawS; rw [hR2]
          have hdq := draw_eq (z := z) (k := LL) (by omega) (by omega)
          revert hans hr hnt hdr
          generalize drawS z LL % cnt (opn C last ch h.2) 10 = r
          generalize nthF (opn C last ch h.2) r 10 0 = a0
          intro hans hr hnt hdr
          obtain ⟨g1, g2, g3⟩ := hnt
          have hcb : ch.testBit a0 = false := by
            rw [opn_bit okc h5] at g2
            simp only [Bool.and_eq_true, Bool.not_eq_true'] at g2
            exact g2.1.2
          have ha0 : a0 < cn C := bit_in hopn g2
          have inner : ∀ (q8 : Option Value) k a, a + k = a0 → Run m_X7_trialBy 3 0 0 116 [some (.ref 51), some (.int (nI z)), some (.int (nI v)), some (.int y), some (.int (nI ch)), some (.int (nI last)), some (.int (nI LL)), some (.int (nI (opn C last ch h.2))), q8, none, some (.int (nI (r - cnt (opn C last ch h.2) a))), some (.int (nI a))] [] w n (PM (tbS C h (nI z) (nI v) y) T C h L K w n) := by
            intro q8 k
            induction k with
            | zero =>
              intro a ha
              have haa : a = a0 := by omega
              subst haa
              refine x_iload (pc := 116) dX7_trialBy_116 rfl ?_
              refine x_iload (pc := 118) dX7_trialBy_118 rfl ?_
              first | refine xn_ishr (pc := 120) dX7_trialBy_120 (by omega) (by omega) ?_ | refine x_ishr (pc := 120) dX7_trialBy_120 ?_
              refine x_iconst (pc := 121) dX7_trialBy_121 (v := nI 1) (by decide) ?_
              first | refine xn_bit (pc := 122) dX7_trialBy_122 ?_ | refine xn_nd (pc := 122) dX7_trialBy_122 ?_ | refine xn_iand (pc := 122) dX7_trialBy_122 ?_ | refine x_iand (pc := 122) dX7_trialBy_122 ?_
              refine x_if_eq_f (pc := 123) dX7_trialBy_123 (tgt := 131) (by decide) (by rw [g2]; decide +kernel) ?_
              refine x_iload (pc := 126) dX7_trialBy_126 rfl ?_
              refine x_if_le_t (pc := 128) dX7_trialBy_128 (tgt := 149) (by decide) (by rw [g3, Nat.sub_self]; decide +kernel) ?_
              refine x_iload (pc := 149) dX7_trialBy_149 rfl ?_
              refine x_istore (pc := 151) dX7_trialBy_151 rfl ?_
              refine x_iload (pc := 153) dX7_trialBy_153 rfl ?_
              refine x_iconst (pc := 155) dX7_trialBy_155 (v := nI 1) (by decide) ?_
              refine x_iload (pc := 156) dX7_trialBy_156 rfl ?_
              first | refine xn_shl1 (pc := 158) dX7_trialBy_158 (by omega) ?_ | refine xn_ishl (pc := 158) dX7_trialBy_158 (by omega) (by omega) ?_ | refine x_ishl (pc := 158) dX7_trialBy_158 ?_
              first | refine xn_ior (pc := 159) dX7_trialBy_159 ?_ | refine x_ior (pc := 159) dX7_trialBy_159 ?_
              refine x_istore (pc := 160) dX7_trialBy_160 rfl ?_
              refine xn_iinc (pc := 162) dX7_trialBy_162 rfl rfl ?_
              refine x_aload_n (pc := 165) dX7_trialBy_165 rfl ?_
              refine x_iload (pc := 166) dX7_trialBy_166 rfl ?_
              refine x_iload (pc := 168) dX7_trialBy_168 rfl ?_
              refine x_cv2p (ci := 7) (pc := 170) dX7_trialBy_170 ks_X7_131 (by assumption) (by rfl) (by omega) (by rfl) (by rfl) (by rfl) (m_behind okc hK2 hR h61 hs ha0) ?_
              refine x_istore (pc := 173) dX7_trialBy_173 rfl ?_
              refine x_goto (pc := 175) dX7_trialBy_175 (tgt := 70) (by decide) ?_
              exact ih (LL + 1) (ch ||| 2 ^ a) a _ _ _ _ (by omega) (by omega) (by rw [cnt_bit 10 a (by omega) hcb, h3]) (or_1024 h4 (pow_10 g1)) ha0 hans
            | succ k ihk =>
              intro a ha
              have hmo := cnt_mono (opn C last ch h.2) (a + 1) a0 (by omega)
              have hcs : cnt (opn C last ch h.2) (a + 1) = cnt (opn C last ch h.2) a + bN ((opn C last ch h.2).testBit a) := rfl
              have hb2 := bN_lt ((opn C last ch h.2).testBit a)
              have hcl2 := cnt_le (opn C last ch h.2) a
              have hsub : r - cnt (opn C last ch h.2) a - bN ((opn C last ch h.2).testBit a) = r - cnt (opn C last ch h.2) (a + 1) := by omega
              have st : Run m_X7_trialBy 3 0 0 131 [some (.ref 51), some (.int (nI z)), some (.int (nI v)), some (.int y), some (.int (nI ch)), some (.int (nI last)), some (.int (nI LL)), some (.int (nI (opn C last ch h.2))), q8, none, some (.int (nI (r - cnt (opn C last ch h.2) a))), some (.int (nI a))] [] w n (PM (tbS C h (nI z) (nI v) y) T C h L K w n) := by
                refine x_iload (pc := 131) dX7_trialBy_131 rfl ?_
                refine x_iload (pc := 133) dX7_trialBy_133 rfl ?_
                refine x_iload (pc := 135) dX7_trialBy_135 rfl ?_
                first | refine xn_ishr (pc := 137) dX7_trialBy_137 (by omega) (by omega) ?_ | refine x_ishr (pc := 137) dX7_trialBy_137 ?_
                refine x_iconst (pc := 138) dX7_trialBy_138 (v := nI 1) (by decide) ?_
                first | refine xn_bit (pc := 139) dX7_trialBy_139 ?_ | refine xn_nd (pc := 139) dX7_trialBy_139 ?_ | refine xn_iand (pc := 139) dX7_trialBy_139 ?_ | refine x_iand (pc := 139) dX7_trialBy_139 ?_
                refine xn_isub (pc := 140) dX7_trialBy_140 (by omega) ?_
                rw [hsub]
                refine x_istore (pc := 141) dX7_trialBy_141 rfl ?_
                refine xn_iinc (pc := 143) dX7_trialBy_143 rfl rfl ?_
                refine x_goto (pc := 146) dX7_trialBy_146 (tgt := 116) (by decide) ?_
                exact ihk (a + 1) (by omega)
              refine x_iload (pc := 116) dX7_trialBy_116 rfl ?_
              refine x_iload (pc := 118) dX7_trialBy_118 rfl ?_
              first | refine xn_ishr (pc := 120) dX7_trialBy_120 (by omega) (by omega) ?_ | refine x_ishr (pc := 120) dX7_trialBy_120 ?_
              refine x_iconst (pc := 121) dX7_trialBy_121 (v := nI 1) (by decide) ?_
              first | refine xn_bit (pc := 122) dX7_trialBy_122 ?_ | refine xn_nd (pc := 122) dX7_trialBy_122 ?_ | refine xn_iand (pc := 122) dX7_trialBy_122 ?_ | refine x_iand (pc := 122) dX7_trialBy_122 ?_
              refine x_if_eq (pc := 123) dX7_trialBy_123 (tgt := 131) (by decide) (fun h_123 => ?_) (fun h_123 => ?_)
              · skip
                try first | rw [n_b0] at h_123 | rw [n_eq0 (by omega)] at h_123
                exact st
              · skip
                try first | rw [n_b0] at h_123 | rw [n_eq0 (by omega)] at h_123
                simp only [Bool.not_eq_false] at h_123
                have hb1 : bN ((opn C last ch h.2).testBit a) = 1 := by rw [h_123]; rfl
                refine x_iload (pc := 126) dX7_trialBy_126 rfl ?_
                refine x_if_le_f (pc := 128) dX7_trialBy_128 (tgt := 149) (by decide) (by rw [n_le0 (by omega)]; omega) ?_
                exact st
          have hi0 := inner (some (.long (7919 * (nI z).toInt64 + 6151 * (nI LL).toInt64 + lN 1))) a0 0 (by omega)
          rw [show cnt (opn C last ch h.2) 0 = 0 from rfl, Nat.sub_zero] at hi0
          refine x_iload (pc := 70) dX7_trialBy_70 rfl ?_
          refine x_if_eq_f (pc := 72) dX7_trialBy_72 (tgt := 178) (by decide) (by rw [n_eq0 (by omega)]; exact ho) ?_
          refine x_ldc2 (pc := 75) dX7_trialBy_75 kK_X7_185 ?_
          refine x_iload_n (pc := 78) dX7_trialBy_78 rfl ?_
          refine x_i2l (pc := 79) dX7_trialBy_79 ?_
          refine x_lmul (pc := 80) dX7_trialBy_80 ?_
          refine x_ldc2 (pc := 81) dX7_trialBy_81 kK_X7_187 ?_
          refine x_iload (pc := 84) dX7_trialBy_84 rfl ?_
          refine x_i2l (pc := 86) dX7_trialBy_86 ?_
          refine x_lmul (pc := 87) dX7_trialBy_87 ?_
          refine x_ladd (pc := 88) dX7_trialBy_88 ?_
          refine x_lconst (pc := 89) dX7_trialBy_89 (v := lN 1) rfl ?_
          refine x_ladd (pc := 90) dX7_trialBy_90 ?_
          refine x_lstore (pc := 91) dX7_trialBy_91 rfl ?_
          refine x_lload (pc := 93) dX7_trialBy_93 rfl ?_
          refine x_lload (pc := 95) dX7_trialBy_95 rfl ?_
          refine x_lmul (pc := 97) dX7_trialBy_97 ?_
          refine x_ldc2 (pc := 98) dX7_trialBy_98 kK_X7_189 ?_
          refine x_lrem (pc := 101) dX7_trialBy_101 (by first | assumption | decide) ?_
          rw [hdq, hR2]
          refine x_l2i (pc := 102) dX7_trialBy_102 ?_
          rw [lN_i]
          refine x_iconst (pc := 103) dX7_trialBy_103 (v := nI 4) (by decide) ?_
          first | refine xn_idiv (pc := 104) dX7_trialBy_104 (by omega) (by omega) (by omega) ?_ | refine x_idiv (pc := 104) dX7_trialBy_104 (by assumption) ?_
          refine x_iload (pc := 105) dX7_trialBy_105 rfl ?_
          refine x_cs1p (pc := 107) dX7_trialBy_107 ks_X7_148 (by omega) (by rfl) (by rfl) (by rfl) (m_manyOf (by omega)) ?_
          first | refine xn_irem (pc := 110) dX7_trialBy_110 (by omega) (by omega) (by omega) ?_ | refine x_irem (pc := 110) dX7_trialBy_110 (by assumption) ?_
          rw [hdr]
          refine x_istore (pc := 111) dX7_trialBy_111 rfl ?_
          refine x_iconst (pc := 113) dX7_trialBy_113 (v := nI 0) (by decide) ?_
          refine x_istore (pc := 114) dX7_trialBy_114 rfl ?_
          exact hi0
    refine x_iload_n (pc := 0) dX7_trialBy_0 rfl ?_
    refine x_iconst (pc := 1) dX7_trialBy_1 (v := nI 0) (by decide) ?_
    refine x_sipush (pc := 2) dX7_trialBy_2 (v := nI 9999) (by decide) ?_
    refine x_cs3p (pc := 5) dX7_trialBy_5 ks_X7_82 (by omega) (by rfl) (by rfl) (by rfl) (c_in _ _ _) ?_
    rw [show inI (nI z) (nI 0) (nI 9999) = inB (nI z) 10000 from inI_r _ (by omega), hz0]
    refine x_if_eq_f (pc := 8) dX7_trialBy_8 (tgt := 28) (by decide) (by decide +kernel) ?_
    refine x_aload_n (pc := 11) dX7_trialBy_11 rfl ?_
    refine x_iload_n (pc := 12) dX7_trialBy_12 rfl ?_
    refine x_cv1p (ci := 7) (pc := 13) dX7_trialBy_13 ks_X7_167 (by assumption) (by rfl) (by omega) (by rfl) (by rfl) (by rfl) (c_m_isVerdict okc hK hC _) ?_
    refine x_if_eq (pc := 16) dX7_trialBy_16 (tgt := 28) (by decide) (fun h_16 => ?_) (fun h_16 => ?_)
    · skip
      try first | rw [n_b0] at h_16 | rw [n_eq0 (by omega)] at h_16
      rw [hx] at h_16; cases h_16
    · skip
      try first | rw [n_b0] at h_16 | rw [n_eq0 (by omega)] at h_16
      refine x_iload_n (pc := 19) dX7_trialBy_19 rfl ?_
      refine x_iconst (pc := 20) dX7_trialBy_20 (v := nI 0) (by decide) ?_
      refine x_iconst (pc := 21) dX7_trialBy_21 (v := nI 1) (by decide) ?_
      refine x_cs3p (pc := 22) dX7_trialBy_22 ks_X7_82 (by omega) (by rfl) (by rfl) (by rfl) (c_in _ _ _) ?_
      rw [inI_y, hy]
      refine x_if_ne_t (pc := 25) dX7_trialBy_25 (tgt := 30) (by decide) (by decide +kernel) ?_
      refine x_aload_n (pc := 30) dX7_trialBy_30 rfl ?_
      refine x_iload_n (pc := 31) dX7_trialBy_31 rfl ?_
      refine x_cv1p (ci := 7) (pc := 32) dX7_trialBy_32 ks_X7_161 (by assumption) (by rfl) (by omega) (by rfl) (by rfl) (by rfl) (m_isStruck hK2 hsk h61 hs (by omega)) ?_
      refine x_if_eq (pc := 35) dX7_trialBy_35 (tgt := 49) (by decide) (fun h_35 => ?_) (fun h_35 => ?_)
      · skip
        try first | rw [n_b0] at h_35 | rw [n_eq0 (by omega)] at h_35
        rw [h_35, if_neg (by decide)] at hans
        refine x_iconst (pc := 49) dX7_trialBy_49 (v := nI 1) (by decide) ?_
        refine x_iload_n (pc := 50) dX7_trialBy_50 rfl ?_
        first | refine xn_shl1 (pc := 51) dX7_trialBy_51 (by omega) ?_ | refine xn_ishl (pc := 51) dX7_trialBy_51 (by omega) (by omega) ?_ | refine x_ishl (pc := 51) dX7_trialBy_51 ?_
        refine x_istore (pc := 52) dX7_trialBy_52 rfl ?_
        refine x_iload_n (pc := 54) dX7_trialBy_54 rfl ?_
        refine x_istore (pc := 55) dX7_trialBy_55 rfl ?_
        refine x_iconst (pc := 57) dX7_trialBy_57 (v := nI 1) (by decide) ?_
        refine x_istore (pc := 58) dX7_trialBy_58 rfl ?_
        refine x_aload_n (pc := 60) dX7_trialBy_60 rfl ?_
        refine x_iload (pc := 61) dX7_trialBy_61 rfl ?_
        refine x_iload (pc := 63) dX7_trialBy_63 rfl ?_
        refine x_cv2p (ci := 7) (pc := 65) dX7_trialBy_65 ks_X7_131 (by assumption) (by rfl) (by omega) (by rfl) (by rfl) (by rfl) (m_behind okc hK2 hR h61 hs hv) ?_
        refine x_istore (pc := 68) dX7_trialBy_68 rfl ?_
        exact loop 9 1 (2 ^ v) v _ _ _ _ (by omega) (by omega) (cnt_pow v (by omega)) hp hv hans
      · skip
        try first | rw [n_b0] at h_35 | rw [n_eq0 (by omega)] at h_35
        simp only [Bool.not_eq_false] at h_35
        rw [h_35, if_pos rfl, tbF] at hans
        rcases (of_decide_eq_true hy : y = nI 0 ∨ y = nI 1) with rfl | rfl
        · have e : tbS C h (nI z) (nI v) (nI 0) = nI 1 := by rw [hans, tbA, if_pos rfl]
          refine x_iload_n (pc := 38) dX7_trialBy_38 rfl ?_
          refine x_if_ne_f (pc := 39) dX7_trialBy_39 (tgt := 46) (by decide) (fun q => q rfl) ?_
          refine x_iconst (pc := 42) dX7_trialBy_42 (v := nI 1) (by decide) ?_
          refine x_goto (pc := 43) dX7_trialBy_43 (tgt := 48) (by decide) ?_
          refine x_iret (pc := 48) dX7_trialBy_48 rfl rfl ?_
          exact va_i ⟨by rw [e], hm0, fun _ _ => rfl⟩
        · have hkv : kd C v ≠ 4 := okw v (by rw [← vtB_n okc hv]; exact hx)
          have e : tbS C h (nI z) (nI v) (nI 1) = -4 := by rw [hans, tbA, if_neg (by decide +kernel), if_neg hkv]
          refine x_iload_n (pc := 38) dX7_trialBy_38 rfl ?_
          refine x_if_ne_t (pc := 39) dX7_trialBy_39 (tgt := 46) (by decide) (by decide +kernel) ?_
          refine x_bipush (pc := 46) dX7_trialBy_46 (v := -4) (by decide) ?_
          refine x_iret (pc := 48) dX7_trialBy_48 rfl rfl ?_
          exact va_i ⟨by rw [e], hm0, fun _ _ => rfl⟩
  · have e : tbS C h x0 x y = -1 := by rw [tbS, if_neg hbad]
    have go28 : Run m_X7_trialBy 3 0 0 28 [some (.ref 51), some (.int x0), some (.int x), some (.int y), none, none, none, none, none, none, none, none] [] w n (PM (tbS C h x0 x y) T C h L K w n) := by
      refine x_iconst (pc := 28) dX7_trialBy_28 (v := -1) (by decide) ?_
      refine x_iret (pc := 29) dX7_trialBy_29 rfl rfl ?_
      exact va_i ⟨by rw [e], hm0, fun _ _ => rfl⟩
    refine x_iload_n (pc := 0) dX7_trialBy_0 rfl ?_
    refine x_iconst (pc := 1) dX7_trialBy_1 (v := nI 0) (by decide) ?_
    refine x_sipush (pc := 2) dX7_trialBy_2 (v := nI 9999) (by decide) ?_
    refine x_cs3p (pc := 5) dX7_trialBy_5 ks_X7_82 (by omega) (by rfl) (by rfl) (by rfl) (c_in _ _ _) ?_
    rw [show inI x0 (nI 0) (nI 9999) = inB x0 10000 from inI_r _ (by omega)]
    refine x_if_eq (pc := 8) dX7_trialBy_8 (tgt := 28) (by decide) (fun h_8 => ?_) (fun h_8 => ?_)
    · skip
      try first | rw [n_b0] at h_8 | rw [n_eq0 (by omega)] at h_8
      exact go28
    · skip
      try first | rw [n_b0] at h_8 | rw [n_eq0 (by omega)] at h_8
      refine x_aload_n (pc := 11) dX7_trialBy_11 rfl ?_
      refine x_iload_n (pc := 12) dX7_trialBy_12 rfl ?_
      refine x_cv1p (ci := 7) (pc := 13) dX7_trialBy_13 ks_X7_167 (by assumption) (by rfl) (by omega) (by rfl) (by rfl) (by rfl) (c_m_isVerdict okc hK hC _) ?_
      refine x_if_eq (pc := 16) dX7_trialBy_16 (tgt := 28) (by decide) (fun h_16 => ?_) (fun h_16 => ?_)
      · skip
        try first | rw [n_b0] at h_16 | rw [n_eq0 (by omega)] at h_16
        exact go28
      · skip
        try first | rw [n_b0] at h_16 | rw [n_eq0 (by omega)] at h_16
        refine x_iload_n (pc := 19) dX7_trialBy_19 rfl ?_
        refine x_iconst (pc := 20) dX7_trialBy_20 (v := nI 0) (by decide) ?_
        refine x_iconst (pc := 21) dX7_trialBy_21 (v := nI 1) (by decide) ?_
        refine x_cs3p (pc := 22) dX7_trialBy_22 ks_X7_82 (by omega) (by rfl) (by rfl) (by rfl) (c_in _ _ _) ?_
        rw [inI_y]
        refine x_if_ne (pc := 25) dX7_trialBy_25 (tgt := 30) (by decide) (fun h_25 => ?_) (fun h_25 => ?_)
        · skip
          try first | rw [n_b0] at h_25 | rw [n_eq0 (by omega)] at h_25
          simp only [Bool.not_eq_false] at h_8 h_16 h_25
          exact absurd ⟨h_8, h_16, h_25⟩ hbad
        · replace h_25 := Classical.not_not.mp h_25
          try first | rw [n_b0] at h_25 | rw [n_eq0 (by omega)] at h_25
          exact go28
